/-! contracts -/
noncomputable def tK_2076 : tc_Ct := (400, (2, 1), [(2, ([], 0), 0), (0, ([(0, 1)], 0), 0), (0, ([(1, 1)], 0), 0)], ([([(0, -1)], 2147483647), ([(0, 1)], 2147483648), ([(1, -1)], 2147483647), ([(1, 1)], 2147483648)], [(0, 0)], [], [], [], [], []), [(0, 1), (0, 5), (0, 6), (0, 7), (0, 8), (0, 9), (0, 10), (0, 11), (0, 46), (1, 0), (25, 0)], [((3, 1), ([([(0, -1)], 2147483647), ([(0, 1)], 2147483648), ([(1, -1)], 2147483647), ([(1, 1)], 2147483648), ([(2, -1)], 800), ([(2, 1)], 3)], [], [], [], [], [], []), some (0, ([(2, 1)], 0), 0), ([], 0), ([], 0))])
noncomputable def tL_2076_0 : tc_Pl := de_pl 0x30cc8ff000002030102020000000000030cc8ff00030000000000000002020100030000000200023c0000000000020301002e00020000022d00000000010a000000000009000000020401000100010000020000060019020101000003170203010000000000000640ff0103010002020101020101000000007fffffb8ff0101010102000104010001070305
noncomputable def tJ_2076 : List tc_Pl := [tL_2076_0]
noncomputable def tC_2076 : List tc_Ct := [tK_2000, tK_2038, tK_2067, tK_2075]
def tM_2076 (z : Nat) : Option am_Meth := if z = 403 then some aM_403.1 else if z = 401 then some aM_401.1 else if z = 357 then some aM_357.1 else if z = 321 then some aM_321.1 else none
set_option maxRecDepth 100000 in
theorem tMs_2076 (sa : Nat → Nat) : ∀ z mz, tM_2076 z = some mz → am_meth (aP sa) z = some mz := by
  intro z mz h
  unfold tM_2076 at h
  rcases de_m h with ⟨rfl, rfl⟩ | h
  · exact (show am_meth (aP sa) 403 = some aM_403.1 from rfl)
  rcases de_m h with ⟨rfl, rfl⟩ | h
  · exact (show am_meth (aP sa) 401 = some aM_401.1 from rfl)
  rcases de_m h with ⟨rfl, rfl⟩ | h
  · exact (show am_meth (aP sa) 357 = some aM_357.1 from rfl)
  rcases de_m h with ⟨rfl, rfl⟩ | h
  · exact (show am_meth (aP sa) 321 = some aM_321.1 from rfl)
  cases h
noncomputable def tV_2076 : tc_Ev := (aQ, tp_T, tp_G.2, tp_Z, tM_2076, tC_2076, tr_L, tK_2076.2.2.2.2.1, aM_400.1, aW_400, tK_2076.2.1, tK_2076.2.2.2.2.2, tJ_2076)
theorem tE_2076 : tK_2076.2.2.2.2.2.all (tc_wex tK_2076.2.1.1 tK_2076.2.1.2) = true := by decide +kernel
theorem tSS_2076 : tC_2076.all (fun c => tw_mg tK_2076.2.2.2.2.1 c.2.2.2.2.1) = true := by decide +kernel
theorem tHC_2076 : ∀ c ∈ tC_2076, c.2.2.2.2.1.all tK_2076.2.2.2.2.1.contains = true ∧ c.2.2.2.2.2.all (tc_wex c.2.1.1 c.2.1.2) = true := tf_hc tSS_2076 (by
  intro c hc
  have hc : c ∈ ([tK_2000, tK_2038, tK_2067, tK_2075] : List tc_Ct) := hc
  rcases List.mem_cons.mp hc with rfl | hc
  · exact tE_2000
  rcases List.mem_cons.mp hc with rfl | hc
  · exact tE_2038
  rcases List.mem_cons.mp hc with rfl | hc
  · exact tE_2067
  rcases List.mem_cons.mp hc with rfl | hc
  · exact tE_2075
  cases hc)
noncomputable def tH_2076_0 : List tc_It := [de_it 0x8010000, de_it 0x10001000100010101010101000101000000000000000000000000000000000e04000200000200010300010006, de_it 0x1010a010100000300000001, de_it 0x2010000, de_it 0x1000101030101010201010101010101000101000000000000000000000000000100010e01000100010007, de_it 0x10000010d01010300000001, de_it 0x2010000, de_it 0x103010101020101000000000000000000000000000000000a000201010102010006, de_it 0x10000010f01010300000001, de_it 0x2010000, de_it 0x100010103010101020101010b0101010a0101000000000000000000000000000100010e01000100010007, de_it 0x10110010100000300000001, de_it 0x4010000, de_it 0x10001000000000400000003, de_it 0x4010000, de_it 0x2, de_it 0x4010000, de_it 0x2, de_it 0x5a0002000f, de_it 0x110010101110101000000000000000000000000000000030a000202010104020004040006, de_it 0x6010000, de_it 0x115010101140101010e0101010d0101010b0101010a0101000000000000000000000000000000020e00020301000201010002000103040006030006, de_it 0x2010000, de_it 0x2, de_it 0x2010000, de_it 0x300000001, de_it 0x4010000, de_it 0x11f0101012201010001010e0101010d0101010b0101010a0101000000000000000000000000000100010f0002020100020401000003040200030008, de_it 0x2010000, de_it 0x10001010e0101010d0101010b0101010a0101000000000000000000000000000100010e05000100010007]
set_option maxRecDepth 100000 in
theorem tR_2076 : fw_go tV_2076 tK_2076.2.1.1 tK_2076.2.1.2 none tH_2076_0 [(tK_2076.2.1, tK_2076.2.2.2.1, 0, tc_args 0 tK_2076.2.2.1, [], ([], 0), ([], 0))] = true := by decide +kernel
noncomputable def tH_2076_1 : List tc_It := [de_it 0x4010000, de_it 0x2, de_it 0x300000001, de_it 0x4010000, de_it 0x2, de_it 0x105010101060101000000000400000003, de_it 0x2010000, de_it 0x2, de_it 0x10601010105010101030101010201010101010101000101000000000000000000000000000100010e000203010100010007, de_it 0x2010000, de_it 0x2, de_it 0x4010000, de_it 0x2, de_it 0x2010000, de_it 0x4010011, de_it 0x1070108010503010104010102000202010100010002, de_it 0x2010011, de_it 0x10d0101010c01010107010e010503010104010104000202010100010003, de_it 0x10701050201010401010200000001, de_it 0x2010000, de_it 0x10601010105010101040101010301010102010101010101010001010000000001070101000100000001000100010f00020401000203010202020103040200030008]
set_option maxRecDepth 100000 in
theorem tP_2076_0 : fw_plk tV_2076 tL_2076_0 tH_2076_1 = true := by decide +kernel
set_option maxRecDepth 100000 in
theorem tT_2076 {RO : am_O} {sa : Nat → Nat} (h_2000 : tc_true (aP sa) tp_G RO tp_T tp_Z tK_2000) (h_2038 : tc_true (aP sa) tp_G RO tp_T tp_Z tK_2038) (h_2067 : tc_true (aP sa) tp_G RO tp_T tp_Z tK_2067) (h_2075 : tc_true (aP sa) tp_G RO tp_T tp_Z tK_2075) : tc_true (aP sa) tp_G RO tp_T tp_Z tK_2076 := by
  have hC : ∀ c ∈ tC_2076, tc_true (aP sa) tp_G RO tp_T tp_Z c := by
    intro c hc
    have hc : c ∈ ([tK_2000, tK_2038, tK_2067, tK_2075] : List tc_Ct) := hc
    rcases List.mem_cons.mp hc with rfl | hc
    · exact h_2000
    rcases List.mem_cons.mp hc with rfl | hc
    · exact h_2038
    rcases List.mem_cons.mp hc with rfl | hc
    · exact h_2067
    rcases List.mem_cons.mp hc with rfl | hc
    · exact h_2075
    cases hc
  have hP : ∀ p ∈ tJ_2076, ∃ hs, tc_plk (aP sa, tV_2076.2) p hs = true := by
    intro p hp
    have hp : p ∈ ([tL_2076_0] : List tc_Pl) := hp
    rcases List.mem_cons.mp hp with rfl | hp
    · exact ⟨_, (tc_plk_sa (aP_sa sa _)).trans ((fw_plk_s tHC_2076).trans tP_2076_0)⟩
    cases hp
  exact tc_main (mt := aM_400.1) (hs := tH_2076_0) (PL := tJ_2076) ⟨tp_G_ok, tMs_2076 _, hC, tr_L_ok, tp_G_re⟩ (show am_meth (aP sa) 400 = some aM_400.1 from rfl) aX_400 (by decide +kernel) hP ((tc_go_sa (aP_sa sa _)).trans ((fw_go_s tHC_2076).trans tR_2076))
noncomputable def tK_2077 : tc_Ct := (409, (1, 1), [(2, ([], 0), 0), (0, ([(0, 1)], 0), 0)], ([([(0, -1)], 2147483647), ([(0, 1)], 2147483648)], [(0, 0)], [], [], [], [], []), [], [((1, 1), ([([(0, -1)], 2147483647), ([(0, 1)], 2147483648)], [], [], [], [], [], []), some (0, ([], 0), 0), ([], 0), ([], 0)), ((1, 1), ([([(0, -1)], 29), ([(0, 1)], 0)], [], [], [], [], [], []), some (0, ([], 1), 0), ([], 0), ([], 0))])
noncomputable def tJ_2077 : List tc_Pl := []
noncomputable def tC_2077 : List tc_Ct := [tK_2000]
def tM_2077 (z : Nat) : Option am_Meth := if z = 321 then some aM_321.1 else none
set_option maxRecDepth 100000 in
theorem tMs_2077 (sa : Nat → Nat) : ∀ z mz, tM_2077 z = some mz → am_meth (aP sa) z = some mz := by
  intro z mz h
  unfold tM_2077 at h
  rcases de_m h with ⟨rfl, rfl⟩ | h
  · exact (show am_meth (aP sa) 321 = some aM_321.1 from rfl)
  cases h
noncomputable def tV_2077 : tc_Ev := (aQ, tp_T, tp_G.2, tp_Z, tM_2077, tC_2077, tr_L, tK_2077.2.2.2.2.1, aM_409.1, aW_409, tK_2077.2.1, tK_2077.2.2.2.2.2, tJ_2077)
theorem tE_2077 : tK_2077.2.2.2.2.2.all (tc_wex tK_2077.2.1.1 tK_2077.2.1.2) = true := by decide +kernel
theorem tSS_2077 : tC_2077.all (fun c => tw_mg tK_2077.2.2.2.2.1 c.2.2.2.2.1) = true := by decide +kernel
theorem tHC_2077 : ∀ c ∈ tC_2077, c.2.2.2.2.1.all tK_2077.2.2.2.2.1.contains = true ∧ c.2.2.2.2.2.all (tc_wex c.2.1.1 c.2.1.2) = true := tf_hc tSS_2077 (by
  intro c hc
  have hc : c ∈ ([tK_2000] : List tc_Ct) := hc
  rcases List.mem_cons.mp hc with rfl | hc
  · exact tE_2000
  cases hc)
noncomputable def tH_2077_0 : List tc_It := [de_it 0x8010000, de_it 0x2, de_it 0x2010000, de_it 0x1030101010201010200000001, de_it 0x2010000, de_it 0x102010101030101000100010101010101000101000000000000000000000000000000000e010201010000000200010300010006, de_it 0x101010101000101000000000000000000010001000100010a0000010007, de_it 0x10b0101010a01030201000000000000000000010001000100010a0002010007]
set_option maxRecDepth 100000 in
theorem tR_2077 : fw_go tV_2077 tK_2077.2.1.1 tK_2077.2.1.2 none tH_2077_0 [(tK_2077.2.1, tK_2077.2.2.2.1, 0, tc_args 0 tK_2077.2.2.1, [], ([], 0), ([], 0))] = true := by decide +kernel
set_option maxRecDepth 100000 in
theorem tT_2077 {RO : am_O} {sa : Nat → Nat} (h_2000 : tc_true (aP sa) tp_G RO tp_T tp_Z tK_2000) : tc_true (aP sa) tp_G RO tp_T tp_Z tK_2077 := by
  have hC : ∀ c ∈ tC_2077, tc_true (aP sa) tp_G RO tp_T tp_Z c := by
    intro c hc
    have hc : c ∈ ([tK_2000] : List tc_Ct) := hc
    rcases List.mem_cons.mp hc with rfl | hc
    · exact h_2000
    cases hc
  have hP : ∀ p ∈ tJ_2077, ∃ hs, tc_plk (aP sa, tV_2077.2) p hs = true := by
    intro p hp
    have hp : p ∈ ([] : List tc_Pl) := hp
    cases hp
  exact tc_main (mt := aM_409.1) (hs := tH_2077_0) (PL := tJ_2077) ⟨tp_G_ok, tMs_2077 _, hC, tr_L_ok, tp_G_re⟩ (show am_meth (aP sa) 409 = some aM_409.1 from rfl) aX_409 (by decide +kernel) hP ((tc_go_sa (aP_sa sa _)).trans ((fw_go_s tHC_2077).trans tR_2077))
noncomputable def tK_2078 : tc_Ct := (408, (2, 1), [(2, ([], 0), 0), (0, ([(0, 1)], 0), 0), (0, ([(1, 1)], 0), 0)], ([([(0, -1)], 2147483647), ([(0, 1)], 2147483648), ([(1, -1)], 2147483647), ([(1, 1)], 2147483648)], [(0, 0)], [], [], [], [], []), [], [((3, 1), ([([(0, -1)], 2147483647), ([(0, 1)], 2147483648), ([(1, -1)], 2147483647), ([(1, 1)], 2147483648), ([(2, -1)], 2147483647), ([(2, 1)], 2147483648)], [], [], [], [], [], []), some (0, ([(2, 1)], 0), 0), ([], 0), ([], 0))])
noncomputable def tJ_2078 : List tc_Pl := []
noncomputable def tC_2078 : List tc_Ct := [tK_2077, tK_2000]
def tM_2078 (z : Nat) : Option am_Meth := if z = 409 then some aM_409.1 else if z = 321 then some aM_321.1 else none
set_option maxRecDepth 100000 in
theorem tMs_2078 (sa : Nat → Nat) : ∀ z mz, tM_2078 z = some mz → am_meth (aP sa) z = some mz := by
  intro z mz h
  unfold tM_2078 at h
  rcases de_m h with ⟨rfl, rfl⟩ | h
  · exact (show am_meth (aP sa) 409 = some aM_409.1 from rfl)
  rcases de_m h with ⟨rfl, rfl⟩ | h
  · exact (show am_meth (aP sa) 321 = some aM_321.1 from rfl)
  cases h
noncomputable def tV_2078 : tc_Ev := (aQ, tp_T, tp_G.2, tp_Z, tM_2078, tC_2078, tr_L, tK_2078.2.2.2.2.1, aM_408.1, aW_408, tK_2078.2.1, tK_2078.2.2.2.2.2, tJ_2078)
theorem tE_2078 : tK_2078.2.2.2.2.2.all (tc_wex tK_2078.2.1.1 tK_2078.2.1.2) = true := by decide +kernel
theorem tSS_2078 : tC_2078.all (fun c => tw_mg tK_2078.2.2.2.2.1 c.2.2.2.2.1) = true := by decide +kernel
theorem tHC_2078 : ∀ c ∈ tC_2078, c.2.2.2.2.1.all tK_2078.2.2.2.2.1.contains = true ∧ c.2.2.2.2.2.all (tc_wex c.2.1.1 c.2.1.2) = true := tf_hc tSS_2078 (by
  intro c hc
  have hc : c ∈ ([tK_2077, tK_2000] : List tc_Ct) := hc
  rcases List.mem_cons.mp hc with rfl | hc
  · exact tE_2077
  rcases List.mem_cons.mp hc with rfl | hc
  · exact tE_2000
  cases hc)
noncomputable def tH_2078_0 : List tc_It := [de_it 0x4010000, de_it 0x101010101000101000000000000000000000000000000010a00020001010000020006, de_it 0x10106010100000300000001, de_it 0x2010000, de_it 0x1000101030101010201010101010101000101000000000000000000000000000100010e01000100010007, de_it 0x10000010701010300000001, de_it 0x8010000, de_it 0x10001000100010103010101020101000000000000000000000000000000000e16000000000201010302010006, de_it 0x10000010d01010300000001, de_it 0x2010000, de_it 0x1000101030101010201010105010101040101000000000000000000000000000100010e01000100010007, de_it 0x10110010100000300000001, de_it 0x4010000, de_it 0x300000001, de_it 0x4010000, de_it 0x10d0101000000000300000001, de_it 0x2010000, de_it 0x2, de_it 0x4010000, de_it 0x3040101030501010200000001, de_it 0x2010000, de_it 0x111030402010110030502010200000001, de_it 0x2010000, de_it 0x111030402010110030502010200000001, de_it 0x2010011, de_it 0x112011103040301011003050201020f02010600020100010002, de_it 0x11601010117010101100101011101010105010101040101000000000000000000000000000100010e000203010100010007, de_it 0x2010000, de_it 0x2, de_it 0x2010000, de_it 0x2010011, de_it 0x113010402010105010102000200010100010002, de_it 0x2010000, de_it 0x11701010118010101110101010d01010105010101040101000000000000000000000000000100010e000203010100010007, de_it 0x2010000, de_it 0x2, de_it 0x4010000, de_it 0x8040101080501010200000001, de_it 0x2010000, de_it 0x11008040201010e080502010200000001, de_it 0x2010011, de_it 0x111011008040301010e080502010200000002, de_it 0x2010000, de_it 0x113010101140101010e0101011001010105010101040101000000000000000000000000000100010e000203010100010007]
set_option maxRecDepth 100000 in
theorem tR_2078 : fw_go tV_2078 tK_2078.2.1.1 tK_2078.2.1.2 none tH_2078_0 [(tK_2078.2.1, tK_2078.2.2.2.1, 0, tc_args 0 tK_2078.2.2.1, [], ([], 0), ([], 0))] = true := by decide +kernel
set_option maxRecDepth 100000 in
theorem tT_2078 {RO : am_O} {sa : Nat → Nat} (h_2000 : tc_true (aP sa) tp_G RO tp_T tp_Z tK_2000) (h_2077 : tc_true (aP sa) tp_G RO tp_T tp_Z tK_2077) : tc_true (aP sa) tp_G RO tp_T tp_Z tK_2078 := by
  have hC : ∀ c ∈ tC_2078, tc_true (aP sa) tp_G RO tp_T tp_Z c := by
    intro c hc
    have hc : c ∈ ([tK_2077, tK_2000] : List tc_Ct) := hc
    rcases List.mem_cons.mp hc with rfl | hc
    · exact h_2077
    rcases List.mem_cons.mp hc with rfl | hc
    · exact h_2000
    cases hc
  have hP : ∀ p ∈ tJ_2078, ∃ hs, tc_plk (aP sa, tV_2078.2) p hs = true := by
    intro p hp
    have hp : p ∈ ([] : List tc_Pl) := hp
    cases hp
  exact tc_main (mt := aM_408.1) (hs := tH_2078_0) (PL := tJ_2078) ⟨tp_G_ok, tMs_2078 _, hC, tr_L_ok, tp_G_re⟩ (show am_meth (aP sa) 408 = some aM_408.1 from rfl) aX_408 (by decide +kernel) hP ((tc_go_sa (aP_sa sa _)).trans ((fw_go_s tHC_2078).trans tR_2078))
noncomputable def tK_2079 : tc_Ct := (410, (3, 2), [(2, ([], 0), 0), (0, ([(0, 1)], 0), 0), (0, ([(1, 1)], 0), 0), (0, ([(2, 1)], 0), 0)], ([([(0, -1)], 2147483647), ([(0, 1)], 2147483648), ([(1, -1)], 2147483647), ([(1, 1)], 2147483648), ([(2, -1)], 2147483647), ([(2, 1)], 2147483648)], [(0, 0), (1, 14)], [], [(0, 32, (2, ([], 0), 1))], [], [], [(312, [1], [([], 0), ([], 30), ([], -1)])]), [(0, 3), (2, 0)], [((4, 2), ([([(0, -1)], 2147483647), ([(0, 1)], 2147483648), ([(1, -1)], 2147483647), ([(1, 1)], 2147483648), ([(2, -1)], 2147483647), ([(2, 1)], 2147483648), ([(3, -1)], 400), ([(3, 1)], 1)], [], [], [], [], [], []), some (0, ([(3, 1)], 0), 0), ([], 0), ([], 0))])
noncomputable def tL_2079_0 : tc_Pl := de_pl 0x30b68ff000001050204020000000000030b68ff00030000000000000002050100070000020401000600000203010005000000020004ec01003c0000000301010000000000000138ff010000010000022000000002040100030002000e0100000200000000000062d0ff010401030200020501000204010000000000000320ff010401000203010002010116010101000200013a0100010000000100000000ff02020100000000fffffffeff0102010b0206
noncomputable def tJ_2079 : List tc_Pl := [tL_2079_0]
noncomputable def tC_2079 : List tc_Ct := [tK_2077, tK_2000]
def tM_2079 (z : Nat) : Option am_Meth := if z = 409 then some aM_409.1 else if z = 321 then some aM_321.1 else none
set_option maxRecDepth 100000 in
theorem tMs_2079 (sa : Nat → Nat) : ∀ z mz, tM_2079 z = some mz → am_meth (aP sa) z = some mz := by
  intro z mz h
  unfold tM_2079 at h
  rcases de_m h with ⟨rfl, rfl⟩ | h
  · exact (show am_meth (aP sa) 409 = some aM_409.1 from rfl)
  rcases de_m h with ⟨rfl, rfl⟩ | h
  · exact (show am_meth (aP sa) 321 = some aM_321.1 from rfl)
  cases h
noncomputable def tV_2079 : tc_Ev := (aQ, tp_T, tp_G.2, tp_Z, tM_2079, tC_2079, tr_L, tK_2079.2.2.2.2.1, aM_410.1, aW_410, tK_2079.2.1, tK_2079.2.2.2.2.2, tJ_2079)
theorem tE_2079 : tK_2079.2.2.2.2.2.all (tc_wex tK_2079.2.1.1 tK_2079.2.1.2) = true := by decide +kernel
theorem tSS_2079 : tC_2079.all (fun c => tw_mg tK_2079.2.2.2.2.1 c.2.2.2.2.1) = true := by decide +kernel
theorem tHC_2079 : ∀ c ∈ tC_2079, c.2.2.2.2.1.all tK_2079.2.2.2.2.1.contains = true ∧ c.2.2.2.2.2.all (tc_wex c.2.1.1 c.2.1.2) = true := tf_hc tSS_2079 (by
  intro c hc
  have hc : c ∈ ([tK_2077, tK_2000] : List tc_Ct) := hc
  rcases List.mem_cons.mp hc with rfl | hc
  · exact tE_2077
  rcases List.mem_cons.mp hc with rfl | hc
  · exact tE_2000
  cases hc)
noncomputable def tH_2079_0 : List tc_It := [de_it 0x2010000, de_it 0x300000001, de_it 0xa010000, de_it 0x101010101000101000000000000000000000000000000010a00020001010000020006, de_it 0x1010a010100000300000001, de_it 0x2010000, de_it 0x10001010501010104010101060101010701010101010101000101000000000000000000000000000100011001000100010007, de_it 0x10000010b01010300000001, de_it 0x2010000, de_it 0x1010c010100000300000001, de_it 0x2010000, de_it 0x10601010000010c010702010300000001, de_it 0x2010000, de_it 0x2, de_it 0x4010000, de_it 0x2080101020901010200000001, de_it 0x4010011, de_it 0x10e020802010209010102000200010100010002, de_it 0x6010000, de_it 0x106010100000114010702010300000001, de_it 0x2010000, de_it 0x2, de_it 0x4010000, de_it 0x2080101020901010200000001, de_it 0x2010000, de_it 0x2080101020901010200000001, de_it 0x10e020802010209010102000200010102010002, de_it 0x8010000, de_it 0x119010101180101000000000400000003, de_it 0x4010000, de_it 0x11301190000000000000190ff08030100010118010101190101011201010106010101070101010901010108010101050101010401010000000000000000000000000001000113000000020501000204010300010008, de_it 0x4010000, de_it 0x300000001, de_it 0xa010000, de_it 0x101010101000101000000000000000000000000000000010a00020001010000020006, de_it 0x1010a010100000300000001, de_it 0x2010000, de_it 0x10001010501010104010101060101010701010101010101000101000000000000000000000000000100011001000100010007, de_it 0x10000010b01010300000001, de_it 0x2010000, de_it 0x1010c010100000300000001, de_it 0x2010000, de_it 0x1060101010d0106020100000300000001, de_it 0x4010000, de_it 0x10601010000010d010702010300000001, de_it 0x2010000, de_it 0x2, de_it 0x4010000, de_it 0x2080101020901010200000001, de_it 0x2010011, de_it 0x10f020802010209010102000200010100010002, de_it 0x6010000, de_it 0x106010101160106020100000300000001, de_it 0x4010000, de_it 0x106010100000116010702010300000001, de_it 0x2010000, de_it 0x2, de_it 0x4010000, de_it 0x2080101020901010200000001, de_it 0x2010000, de_it 0x2080101020901010200000001, de_it 0x10f0208020102090101020204000100020001020202020012, de_it 0x1090101010801010109010101090101000000000000000000000000000000000c000205010002000101003c000000050200020009, de_it 0x10f02080201020901010200000002, de_it 0x8010000, de_it 0x11c0101011a0101000000000400000003, de_it 0x4010000, de_it 0x114011c0000000000000190ff0803010001011a0101011c0101011301010106010101070101010901010108010101050101010401010000000000000000000000000001000113000000020501000204010300010008, de_it 0x4010000, de_it 0x300000001, de_it 0xa010000, de_it 0x101010101000101000000000000000000000000000000010a00020001010000020006, de_it 0x1010a010100000300000001, de_it 0x2010000, de_it 0x10001010501010104010101060101010701010101010101000101000000000000000000000000000100011001000100010007, de_it 0x10000010b01010300000001, de_it 0x2010000, de_it 0x1010c010100000300000001, de_it 0x2010000, de_it 0x1060101010d0106020100000300000001, de_it 0x4010000, de_it 0x1060101010e0106020100000300000001, de_it 0x4010000, de_it 0x10601010000010e010702010300000001, de_it 0x4010000, de_it 0x190ff0801010000000000000190ff0901010200000001, de_it 0x6010000, de_it 0x106010101110106020100000300000001, de_it 0x4010000, de_it 0x106010101120106020100000300000001, de_it 0x4010000, de_it 0x106010100000112010702010300000001, de_it 0x2010000, de_it 0x2, de_it 0x2010000, de_it 0x4010011, de_it 0x114010802010109010102000200010100010002, de_it 0x8010000, de_it 0x119010101180101000000000400000003, de_it 0x4010000, de_it 0x1190000000000000190ff080201000101180101011901010000000000000190ff0901010106010101070101010901010108010101050101010401010000000000000000000000000001000113000000020401000000000000000320ff00010300010008, de_it 0x8010000, de_it 0x10001000100010103010101020101000000000000000000000000000000000e14001000000201010302010006, de_it 0x1010c010100000300000001, de_it 0x8010000, de_it 0x101010101000101000000000000000000000000000000010a00020001010000020006, de_it 0x10110010100000300000001, de_it 0x2010000, de_it 0x10001010501010104010101030101010201010101010101000101000000000000000000000000000100011001000100010007, de_it 0x10000011101010300000001, de_it 0x2010000, de_it 0x10000011101010300000001, de_it 0x2010000, de_it 0x1000101050101010401010103010101020101010f0101010e0101000000000000000000000000000100011001000100010007, de_it 0x10000010f01010300000001, de_it 0x4010000, de_it 0x101010101000101000000000000000000000000000000010a00020001010000020006, de_it 0x10111010100000300000001, de_it 0x8010000, de_it 0x101010101000101000000000000000000000000000000010a00020001010000020006, de_it 0x10115010100000300000001, de_it 0x2010000, de_it 0x100010105010101040101010d0101010c01010101010101000101000000000000000000000000000100011001000100010007, de_it 0x10000011601010300000001, de_it 0x2010000, de_it 0x10000011601010300000001, de_it 0x2010000, de_it 0x100010105010101040101010d0101010c01010114010101130101000000000000000000000000000100011001000100010007, de_it 0x10000011201010300000001, de_it 0x8010000, de_it 0x2, de_it 0x4010000, de_it 0x30f0101031001010200000001, de_it 0x2010000, de_it 0x10c030f0201010d031002010200000001, de_it 0x2010000, de_it 0x10c030f0201010d031002010200000001, de_it 0x4010011, de_it 0x112010c030f0301010d03100201020f02010600020100010002, de_it 0x2010000, de_it 0x1170101011601010200000001, de_it 0x2010000, de_it 0x116010101170101000100010105010101040101000000000000000000000000000000000e010204010000000202010302010006, de_it 0x1011e010100000300000001, de_it 0x8010000, de_it 0x1100101010f0101000000000000000000000000000000010a00020001010000020006, de_it 0x10122010100000300000001, de_it 0x2010000, de_it 0x100010105010101040101010d0101010c010101100101010f0101000000000000000000000000000100011001000100010007, de_it 0x10000012301010300000001, de_it 0x2010000, de_it 0x10000012301010300000001, de_it 0x2010000, de_it 0x100010105010101040101010d0101010c010101100101010f0101000000000000000000000000000100011001000100010007, de_it 0x10000012101010300000001, de_it 0xa010000, de_it 0x1100101010f0101000000000000000000000000000000010a00020001010000020006, de_it 0x10123010100000300000001, de_it 0x2010000, de_it 0x10001011f0101011e01170201010d0101010c010101100101010f0101000000000000000000000000000100011001000100010007, de_it 0x10000012401010300000001, de_it 0x2010000, de_it 0x10125010100000300000001, de_it 0x2010000, de_it 0x10d01010126010d020100000300000001, de_it 0x4010000, de_it 0x10d01010127010d020100000300000001, de_it 0x4010000, de_it 0x10c01010127010c020100000300000001, de_it 0x2010000, de_it 0x2, de_it 0x4010000, de_it 0x180f0101181001010200000001, de_it 0x6010000, de_it 0x10c0101010d01010200000001, de_it 0x80c0101080d01010200000001, de_it 0x80c180f0201080d181002010200000001, de_it 0x4010000, de_it 0x21e02170201021f01010200000001, de_it 0x21e0217080c180f0401021f080d181003010200000001, de_it 0x6010011, de_it 0x21e01280217080c180f0501021f080d18100301023f020208011800030100010002, de_it 0x4010000, de_it 0x10d0101012f010d020100000300000001, de_it 0x4010000, de_it 0x10d01010130010d020100000300000001, de_it 0x4010000, de_it 0x10c01010130010c020100000300000001, de_it 0x2010000, de_it 0x2, de_it 0x4010000, de_it 0x180f0101181001010200000001, de_it 0x6010000, de_it 0x10c0101010d01010200000001, de_it 0x80c0101080d01010200000001, de_it 0x80c180f02011810080d02010200000001, de_it 0x4010000, de_it 0x21e02170201021f01010200000001, de_it 0x21e0217080c180f0401021f080d181003010200000001, de_it 0x2010000, de_it 0x21e0217080c180f0401021f080d181003010200000001, de_it 0x21e01280217080c180f0501021f080d18100301023f020208011800030102010002, de_it 0x6010000, de_it 0x134010101330101000000000400000003, de_it 0x4010000, de_it 0x221e880c0000000000000198ff0f012d01342217060100010133010101340101012c0101010d0101010c010101100101010f0101011f0101011e011702010000000000000000000000000001000113000000020701000206010300010008]
set_option maxRecDepth 100000 in
theorem tR_2079 : fw_go tV_2079 tK_2079.2.1.1 tK_2079.2.1.2 none tH_2079_0 [(tK_2079.2.1, tK_2079.2.2.2.1, 0, tc_args 0 tK_2079.2.2.1, [], ([], 0), ([], 0))] = true := by decide +kernel
noncomputable def tH_2079_1 : List tc_It := [de_it 0x4010000, de_it 0x300000001, de_it 0x2010000, de_it 0x1080101010701010101010101000101010501010104010101030101010201010000000000000000000000000001000110000204010100010007, de_it 0x2010000, de_it 0x2, de_it 0x4010000, de_it 0x2, de_it 0x4010000, de_it 0x10b010a02010109010602010200000001, de_it 0x6010011, de_it 0x10b010c010a0301010901060201020002050203020100010002, de_it 0x4010011, de_it 0x111010101100101010b0112010703010109010104000205010100010003, de_it 0x10b01070201010901010200000001, de_it 0x2010000, de_it 0x10a0101010901010109010b0201010701010106010101050101010401010103010101020101010101010100010100000000010b010100010000000100010001130202050100020401000203010300010008]
set_option maxRecDepth 100000 in
theorem tP_2079_0 : fw_plk tV_2079 tL_2079_0 tH_2079_1 = true := by decide +kernel
set_option maxRecDepth 100000 in
theorem tT_2079 {RO : am_O} {sa : Nat → Nat} (h_2000 : tc_true (aP sa) tp_G RO tp_T tp_Z tK_2000) (h_2077 : tc_true (aP sa) tp_G RO tp_T tp_Z tK_2077) : tc_true (aP sa) tp_G RO tp_T tp_Z tK_2079 := by
  have hC : ∀ c ∈ tC_2079, tc_true (aP sa) tp_G RO tp_T tp_Z c := by
    intro c hc
    have hc : c ∈ ([tK_2077, tK_2000] : List tc_Ct) := hc
    rcases List.mem_cons.mp hc with rfl | hc
    · exact h_2077
    rcases List.mem_cons.mp hc with rfl | hc
    · exact h_2000
    cases hc
  have hP : ∀ p ∈ tJ_2079, ∃ hs, tc_plk (aP sa, tV_2079.2) p hs = true := by
    intro p hp
    have hp : p ∈ ([tL_2079_0] : List tc_Pl) := hp
    rcases List.mem_cons.mp hp with rfl | hp
    · exact ⟨_, (tc_plk_sa (aP_sa sa _)).trans ((fw_plk_s tHC_2079).trans tP_2079_0)⟩
    cases hp
  exact tc_main (mt := aM_410.1) (hs := tH_2079_0) (PL := tJ_2079) ⟨tp_G_ok, tMs_2079 _, hC, tr_L_ok, tp_G_re⟩ (show am_meth (aP sa) 410 = some aM_410.1 from rfl) aX_410 (by decide +kernel) hP ((tc_go_sa (aP_sa sa _)).trans ((fw_go_s tHC_2079).trans tR_2079))
noncomputable def tK_2080 : tc_Ct := (395, (1, 1), [(2, ([], 0), 0), (0, ([(0, 1)], 0), 0)], ([([(0, -1)], 4804), ([(0, 1)], 0)], [(0, 19)], [], [], [], [], []), [], [((2, 1), ([([(0, -1)], 4804), ([(0, 1)], 0), ([(1, -1)], 2147483647), ([(1, 1)], 2147483648)], [], [], [], [], [], []), some (0, ([(1, 1)], 0), 0), ([], 0), ([], 0))])
noncomputable def tJ_2080 : List tc_Pl := []
noncomputable def tC_2080 : List tc_Ct := []
def tM_2080 (z : Nat) : Option am_Meth := none
set_option maxRecDepth 100000 in
theorem tMs_2080 (sa : Nat → Nat) : ∀ z mz, tM_2080 z = some mz → am_meth (aP sa) z = some mz := fun z mz h => by cases h
noncomputable def tV_2080 : tc_Ev := (aQ, tp_T, tp_G.2, tp_Z, tM_2080, tC_2080, tr_L, tK_2080.2.2.2.2.1, aM_395.1, aW_395, tK_2080.2.1, tK_2080.2.2.2.2.2, tJ_2080)
theorem tE_2080 : tK_2080.2.2.2.2.2.all (tc_wex tK_2080.2.1.1 tK_2080.2.1.2) = true := by decide +kernel
theorem tSS_2080 : tC_2080.all (fun c => tw_mg tK_2080.2.2.2.2.1 c.2.2.2.2.1) = true := by decide +kernel
theorem tHC_2080 : ∀ c ∈ tC_2080, c.2.2.2.2.1.all tK_2080.2.2.2.2.1.contains = true ∧ c.2.2.2.2.2.all (tc_wex c.2.1.1 c.2.1.2) = true := tf_hc tSS_2080 (by
  intro c hc
  have hc : c ∈ ([] : List tc_Ct) := hc
  cases hc)
noncomputable def tH_2080_0 : List tc_It := [de_it 0x4010000, de_it 0x10011, de_it 0x102010002010101010102000200010100010002, de_it 0x2010000, de_it 0x101, de_it 0x6010000, de_it 0x1000101010101010200000001, de_it 0x102010002010101010102020200010100010002, de_it 0x2010000, de_it 0x10000ff0d01010000000000010000ff0c01010200000001, de_it 0x101, de_it 0x6010000, de_it 0x1000101010101010200000001, de_it 0x102010002010101010102040200010100010002, de_it 0x2010000, de_it 0x100ff1301010000000000000100ff1201010200000001, de_it 0x101, de_it 0x6010000, de_it 0x1000101010101010200000001, de_it 0x102010002010101010102060200010100010002, de_it 0x101, de_it 0x11a0101011b01010101010101000101000000000000000000000000000100010c000209010100010007]
set_option maxRecDepth 100000 in
theorem tR_2080 : fw_go tV_2080 tK_2080.2.1.1 tK_2080.2.1.2 none tH_2080_0 [(tK_2080.2.1, tK_2080.2.2.2.1, 0, tc_args 0 tK_2080.2.2.1, [], ([], 0), ([], 0))] = true := by decide +kernel
set_option maxRecDepth 100000 in
theorem tT_2080 {RO : am_O} {sa : Nat → Nat} : tc_true (aP sa) tp_G RO tp_T tp_Z tK_2080 := by
  have hC : ∀ c ∈ tC_2080, tc_true (aP sa) tp_G RO tp_T tp_Z c := by
    intro c hc
    have hc : c ∈ ([] : List tc_Ct) := hc
    cases hc
  have hP : ∀ p ∈ tJ_2080, ∃ hs, tc_plk (aP sa, tV_2080.2) p hs = true := by
    intro p hp
    have hp : p ∈ ([] : List tc_Pl) := hp
    cases hp
  exact tc_main (mt := aM_395.1) (hs := tH_2080_0) (PL := tJ_2080) ⟨tp_G_ok, tMs_2080 _, hC, tr_L_ok, tp_G_re⟩ (show am_meth (aP sa) 395 = some aM_395.1 from rfl) aX_395 (by decide +kernel) hP ((tc_go_sa (aP_sa sa _)).trans ((fw_go_s tHC_2080).trans tR_2080))
noncomputable def tK_2081 : tc_Ct := (329, (3, 2), [(2, ([], 0), 0), (2, ([], 0), 1), (0, ([(0, 1)], 0), 0), (0, ([(1, 1)], 0), 0)], ([([(0, -1)], 4404), ([(0, 1)], -2), ([(1, -1)], 396), ([(1, 1)], 4406), ([(2, -1)], 7), ([(2, 1)], 0), ([(0, -1), (1, -1)], 4798), ([(0, 1), (1, 1)], 2)], [(0, 0), (1, 19)], [], [(0, 9, (0, ([(2, 1)], 0), 0))], [], [], []), [(0, 5), (0, 6), (0, 7), (0, 8), (0, 9), (0, 10), (0, 11)], [((4, 2), ([([(0, -1)], 4404), ([(0, 1)], -2), ([(1, -1)], 396), ([(1, 1)], 4406), ([(2, -1)], 7), ([(2, 1)], 0), ([(3, -1)], 7), ([(3, 1)], 0), ([(0, -1), (1, -1)], 4798), ([(0, 1), (1, 1)], 2)], [], [], [(0, 9, (0, ([(3, 1)], 0), 0))], [], [], []), none, ([], 0), ([], 0))])
noncomputable def tL_2081_0 : tc_Pl := de_pl 0x30d3aff000001030201020000000000030d3aff00030000000000000002030100040000020101000300000200010002010000020100000002000503000000000002040100090001001301000002000204010e01040100020301040201020002000000000000257cff0101010002000202010e010201000000000000226cff0201010000000000000318ff010101030200010000000000002268ff0100010b0205
noncomputable def tJ_2081 : List tc_Pl := [tL_2081_0]
noncomputable def tC_2081 : List tc_Ct := [tK_2009]
def tM_2081 (z : Nat) : Option am_Meth := if z = 330 then some aM_330.1 else none
set_option maxRecDepth 100000 in
theorem tMs_2081 (sa : Nat → Nat) : ∀ z mz, tM_2081 z = some mz → am_meth (aP sa) z = some mz := by
  intro z mz h
  unfold tM_2081 at h
  rcases de_m h with ⟨rfl, rfl⟩ | h
  · exact (show am_meth (aP sa) 330 = some aM_330.1 from rfl)
  cases h
noncomputable def tV_2081 : tc_Ev := (aQ, tp_T, tp_G.2, tp_Z, tM_2081, tC_2081, tr_L, tK_2081.2.2.2.2.1, aM_329.1, aW_329, tK_2081.2.1, tK_2081.2.2.2.2.2, tJ_2081)
theorem tE_2081 : tK_2081.2.2.2.2.2.all (tc_wex tK_2081.2.1.1 tK_2081.2.1.2) = true := by decide +kernel
theorem tSS_2081 : tC_2081.all (fun c => tw_mg tK_2081.2.2.2.2.1 c.2.2.2.2.1) = true := by decide +kernel
theorem tHC_2081 : ∀ c ∈ tC_2081, c.2.2.2.2.1.all tK_2081.2.2.2.2.1.contains = true ∧ c.2.2.2.2.2.all (tc_wex c.2.1.1 c.2.1.2) = true := tf_hc tSS_2081 (by
  intro c hc
  have hc : c ∈ ([tK_2009] : List tc_Ct) := hc
  rcases List.mem_cons.mp hc with rfl | hc
  · exact tE_2009
  cases hc)
noncomputable def tH_2081_0 : List tc_It := [de_it 0x4010000, de_it 0x1050101010401010001010701010106010101050101010401010103010101020101010101010100010100000000000000000000000000010001130002020100000200010008]
set_option maxRecDepth 100000 in
theorem tR_2081 : fw_go tV_2081 tK_2081.2.1.1 tK_2081.2.1.2 none tH_2081_0 [(tK_2081.2.1, tK_2081.2.2.2.1, 0, tc_args 0 tK_2081.2.2.1, [], ([], 0), ([], 0))] = true := by decide +kernel
noncomputable def tH_2081_1 : List tc_It := [de_it 0x4010000, de_it 0x300000001, de_it 0x107010101060101010a0101010901010105010101040101010301010102010101010101010001010000000000000000000000000001000112000204010100010007, de_it 0x8010000, de_it 0x10b010602010108010102010200000001, de_it 0x2010011, de_it 0x10b010c01060301010801010201020002030200020100010002, de_it 0x10a0101010901010110010101110101000000000000000000000000000000010c0002040100020601020000020006, de_it 0x10b01020201010801010200000001, de_it 0x2010000, de_it 0x1190101011b011a0202010801010108010b010103010106010101050101010401010108010b020101020101010101010100010100000000010b0101000100000001000100011300020801020203010200010008]
set_option maxRecDepth 100000 in
theorem tP_2081_0 : fw_plk tV_2081 tL_2081_0 tH_2081_1 = true := by decide +kernel
set_option maxRecDepth 100000 in
theorem tT_2081 {RO : am_O} {sa : Nat → Nat} (h_2009 : tc_true (aP sa) tp_G RO tp_T tp_Z tK_2009) : tc_true (aP sa) tp_G RO tp_T tp_Z tK_2081 := by
  have hC : ∀ c ∈ tC_2081, tc_true (aP sa) tp_G RO tp_T tp_Z c := by
    intro c hc
    have hc : c ∈ ([tK_2009] : List tc_Ct) := hc
    rcases List.mem_cons.mp hc with rfl | hc
    · exact h_2009
    cases hc
  have hP : ∀ p ∈ tJ_2081, ∃ hs, tc_plk (aP sa, tV_2081.2) p hs = true := by
    intro p hp
    have hp : p ∈ ([tL_2081_0] : List tc_Pl) := hp
    rcases List.mem_cons.mp hp with rfl | hp
    · exact ⟨_, (tc_plk_sa (aP_sa sa _)).trans ((fw_plk_s tHC_2081).trans tP_2081_0)⟩
    cases hp
  exact tc_main (mt := aM_329.1) (hs := tH_2081_0) (PL := tJ_2081) ⟨tp_G_ok, tMs_2081 _, hC, tr_L_ok, tp_G_re⟩ (show am_meth (aP sa) 329 = some aM_329.1 from rfl) aX_329 (by decide +kernel) hP ((tc_go_sa (aP_sa sa _)).trans ((fw_go_s tHC_2081).trans tR_2081))
noncomputable def tK_2082 : tc_Ct := (362, (5, 2), [(2, ([], 0), 0), (0, ([(0, 1)], 0), 0), (0, ([(1, 1)], 0), 0), (0, ([(2, 1)], 0), 0), (2, ([], 0), 1), (0, ([(3, 1)], 0), 0), (0, ([(4, 1)], 0), 0)], ([([(0, -1)], 2147483647), ([(0, 1)], 2147483648), ([(1, -1)], 2147483647), ([(1, 1)], 2147483648), ([(2, -1)], 2147483577), ([(2, 1)], -2), ([(3, -1)], 4404), ([(3, 1)], -2), ([(4, -1)], 396), ([(4, 1)], 4406), ([(3, -1), (4, -1)], 4798), ([(3, 1), (4, 1)], 2)], [(0, 0), (1, 19)], [], [], [], [], []), [(0, 5), (0, 6), (0, 7), (0, 8), (0, 9), (0, 10), (0, 11)], [((6, 2), ([([(0, -1)], 2147483647), ([(0, 1)], 2147483648), ([(1, -1)], 2147483647), ([(1, 1)], 2147483648), ([(2, -1)], 2147483577), ([(2, 1)], -2), ([(3, -1)], 4404), ([(3, 1)], -2), ([(4, -1)], 396), ([(4, 1)], 4406), ([(5, -1)], 1073741788), ([(5, 1)], 0), ([(3, -1), (4, -1)], 4798), ([(3, 1), (4, 1)], 2)], [], [], [(0, 9, (0, ([], 0), 0)), (0, 10, (1, ([], 0), 0))], [], [], []), some (0, ([(5, 1)], 0), 0), ([], 0), ([], 0))])
noncomputable def tJ_2082 : List tc_Pl := []
noncomputable def tC_2082 : List tc_Ct := [tK_2005, tK_2024, tK_2081, tK_2012, tK_2041]
def tM_2082 (z : Nat) : Option am_Meth := if z = 361 then some aM_361.1 else if z = 346 then some aM_346.1 else if z = 334 then some aM_334.1 else if z = 329 then some aM_329.1 else if z = 328 then some aM_328.1 else none
set_option maxRecDepth 100000 in
theorem tMs_2082 (sa : Nat → Nat) : ∀ z mz, tM_2082 z = some mz → am_meth (aP sa) z = some mz := by
  intro z mz h
  unfold tM_2082 at h
  rcases de_m h with ⟨rfl, rfl⟩ | h
  · exact (show am_meth (aP sa) 361 = some aM_361.1 from rfl)
  rcases de_m h with ⟨rfl, rfl⟩ | h
  · exact (show am_meth (aP sa) 346 = some aM_346.1 from rfl)
  rcases de_m h with ⟨rfl, rfl⟩ | h
  · exact (show am_meth (aP sa) 334 = some aM_334.1 from rfl)
  rcases de_m h with ⟨rfl, rfl⟩ | h
  · exact (show am_meth (aP sa) 329 = some aM_329.1 from rfl)
  rcases de_m h with ⟨rfl, rfl⟩ | h
  · exact (show am_meth (aP sa) 328 = some aM_328.1 from rfl)
  cases h
noncomputable def tV_2082 : tc_Ev := (aQ, tp_T, tp_G.2, tp_Z, tM_2082, tC_2082, tr_L, tK_2082.2.2.2.2.1, aM_362.1, aW_362, tK_2082.2.1, tK_2082.2.2.2.2.2, tJ_2082)
theorem tE_2082 : tK_2082.2.2.2.2.2.all (tc_wex tK_2082.2.1.1 tK_2082.2.1.2) = true := by decide +kernel
theorem tSS_2082 : tC_2082.all (fun c => tw_mg tK_2082.2.2.2.2.1 c.2.2.2.2.1) = true := by decide +kernel
theorem tHC_2082 : ∀ c ∈ tC_2082, c.2.2.2.2.1.all tK_2082.2.2.2.2.1.contains = true ∧ c.2.2.2.2.2.all (tc_wex c.2.1.1 c.2.1.2) = true := tf_hc tSS_2082 (by
  intro c hc
  have hc : c ∈ ([tK_2005, tK_2024, tK_2081, tK_2012, tK_2041] : List tc_Ct) := hc
  rcases List.mem_cons.mp hc with rfl | hc
  · exact tE_2005
  rcases List.mem_cons.mp hc with rfl | hc
  · exact tE_2024
  rcases List.mem_cons.mp hc with rfl | hc
  · exact tE_2081
  rcases List.mem_cons.mp hc with rfl | hc
  · exact tE_2012
  rcases List.mem_cons.mp hc with rfl | hc
  · exact tE_2041
  cases hc)
noncomputable def tH_2082_0 : List tc_It := [de_it 0x4010000, de_it 0x101010101000101000000000000000000000000000000010a00020001010000020006, de_it 0x4010000, de_it 0x100010103010101020101000000000000000000000000000000010c000000020101020002020006, de_it 0x4010000, de_it 0x11b0101011c01010105010101040101000000000000000000000000000000010c0002090100020201020002020006, de_it 0x8010000, de_it 0x10b0101010a0101012201010121010101090101010801010107010101060101000000000000000000000000000000031000020a01000204010002030103020004030006, de_it 0x5654161412100e0c0a08060402000e000d, de_it 0x2010000, de_it 0x10d0101010c0101000000000000000000000000000000000a00020b01010006020006, de_it 0x80008010006, de_it 0x2010000, de_it 0x11101010100000201, de_it 0x10b0101010a0101011201010113010101090101010801010107010101060101010501010104010101030101010201010101010101000101000000000000000000000000000100011600000000007fffffb9ff0d020c020100010007]
set_option maxRecDepth 100000 in
theorem tR_2082 : fw_go tV_2082 tK_2082.2.1.1 tK_2082.2.1.2 none tH_2082_0 [(tK_2082.2.1, tK_2082.2.2.2.1, 0, tc_args 0 tK_2082.2.2.1, [], ([], 0), ([], 0))] = true := by decide +kernel
set_option maxRecDepth 100000 in
theorem tT_2082 {RO : am_O} {sa : Nat → Nat} (h_2005 : tc_true (aP sa) tp_G RO tp_T tp_Z tK_2005) (h_2012 : tc_true (aP sa) tp_G RO tp_T tp_Z tK_2012) (h_2024 : tc_true (aP sa) tp_G RO tp_T tp_Z tK_2024) (h_2041 : tc_true (aP sa) tp_G RO tp_T tp_Z tK_2041) (h_2081 : tc_true (aP sa) tp_G RO tp_T tp_Z tK_2081) : tc_true (aP sa) tp_G RO tp_T tp_Z tK_2082 := by
  have hC : ∀ c ∈ tC_2082, tc_true (aP sa) tp_G RO tp_T tp_Z c := by
    intro c hc
    have hc : c ∈ ([tK_2005, tK_2024, tK_2081, tK_2012, tK_2041] : List tc_Ct) := hc
    rcases List.mem_cons.mp hc with rfl | hc
    · exact h_2005
    rcases List.mem_cons.mp hc with rfl | hc
    · exact h_2024
    rcases List.mem_cons.mp hc with rfl | hc
    · exact h_2081
    rcases List.mem_cons.mp hc with rfl | hc
    · exact h_2012
    rcases List.mem_cons.mp hc with rfl | hc
    · exact h_2041
    cases hc
  have hP : ∀ p ∈ tJ_2082, ∃ hs, tc_plk (aP sa, tV_2082.2) p hs = true := by
    intro p hp
    have hp : p ∈ ([] : List tc_Pl) := hp
    cases hp
  exact tc_main (mt := aM_362.1) (hs := tH_2082_0) (PL := tJ_2082) ⟨tp_G_ok, tMs_2082 _, hC, tr_L_ok, tp_G_re⟩ (show am_meth (aP sa) 362 = some aM_362.1 from rfl) aX_362 (by decide +kernel) hP ((tc_go_sa (aP_sa sa _)).trans ((fw_go_s tHC_2082).trans tR_2082))
noncomputable def tK_2083 : tc_Ct := (364, (4, 2), [(2, ([], 0), 0), (0, ([(0, 1)], 0), 0), (0, ([(1, 1)], 0), 0), (1, ([], 0), 0), (2, ([], 0), 1), (0, ([(2, 1)], 0), 0), (0, ([(3, 1)], 0), 0)], ([([(0, -1)], 2147483647), ([(0, 1)], 2147483648), ([(1, -1)], 2147483647), ([(1, 1)], 2147483648), ([(2, -1)], 4404), ([(2, 1)], -2), ([(3, -1)], 396), ([(3, 1)], 4406), ([(2, -1), (3, -1)], 4798), ([(2, 1), (3, 1)], 2)], [(0, 0), (1, 19)], [], [], [], [], []), [(0, 5), (0, 6), (0, 7), (0, 8), (0, 9), (0, 10), (0, 11)], [((4, 2), ([([(0, -1)], 2147483647), ([(0, 1)], 2147483648), ([(1, -1)], 2147483647), ([(1, 1)], 2147483648), ([(2, -1)], 4404), ([(2, 1)], -2), ([(3, -1)], 396), ([(3, 1)], 4406), ([(2, -1), (3, -1)], 4798), ([(2, 1), (3, 1)], 2)], [], [], [], [], [], []), some (0, ([], 0), 0), ([], 0), ([], 0)), ((4, 2), ([([(0, -1)], 2147483647), ([(0, 1)], 2147483648), ([(1, -1)], 2147483577), ([(1, 1)], -2), ([(2, -1)], 4404), ([(2, 1)], -2), ([(3, -1)], 396), ([(3, 1)], 4406), ([(2, -1), (3, -1)], 4798), ([(2, 1), (3, 1)], 2)], [], [], [(0, 9, (0, ([], 0), 0)), (0, 10, (1, ([], 0), 0))], [], [], []), some (0, ([], 1), 0), ([], 0), ([], 0))])
noncomputable def tJ_2083 : List tc_Pl := []
noncomputable def tC_2083 : List tc_Ct := [tK_2000, tK_2033, tK_2082]
def tM_2083 (z : Nat) : Option am_Meth := if z = 362 then some aM_362.1 else if z = 353 then some aM_353.1 else if z = 321 then some aM_321.1 else none
set_option maxRecDepth 100000 in
theorem tMs_2083 (sa : Nat → Nat) : ∀ z mz, tM_2083 z = some mz → am_meth (aP sa) z = some mz := by
  intro z mz h
  unfold tM_2083 at h
  rcases de_m h with ⟨rfl, rfl⟩ | h
  · exact (show am_meth (aP sa) 362 = some aM_362.1 from rfl)
  rcases de_m h with ⟨rfl, rfl⟩ | h
  · exact (show am_meth (aP sa) 353 = some aM_353.1 from rfl)
  rcases de_m h with ⟨rfl, rfl⟩ | h
  · exact (show am_meth (aP sa) 321 = some aM_321.1 from rfl)
  cases h
noncomputable def tV_2083 : tc_Ev := (aQ, tp_T, tp_G.2, tp_Z, tM_2083, tC_2083, tr_L, tK_2083.2.2.2.2.1, aM_364.1, aW_364, tK_2083.2.1, tK_2083.2.2.2.2.2, tJ_2083)
theorem tE_2083 : tK_2083.2.2.2.2.2.all (tc_wex tK_2083.2.1.1 tK_2083.2.1.2) = true := by decide +kernel
theorem tSS_2083 : tC_2083.all (fun c => tw_mg tK_2083.2.2.2.2.1 c.2.2.2.2.1) = true := by decide +kernel
theorem tHC_2083 : ∀ c ∈ tC_2083, c.2.2.2.2.1.all tK_2083.2.2.2.2.1.contains = true ∧ c.2.2.2.2.2.all (tc_wex c.2.1.1 c.2.1.2) = true := tf_hc tSS_2083 (by
  intro c hc
  have hc : c ∈ ([tK_2000, tK_2033, tK_2082] : List tc_Ct) := hc
  rcases List.mem_cons.mp hc with rfl | hc
  · exact tE_2000
  rcases List.mem_cons.mp hc with rfl | hc
  · exact tE_2033
  rcases List.mem_cons.mp hc with rfl | hc
  · exact tE_2082
  cases hc)
noncomputable def tH_2083_0 : List tc_It := [de_it 0x6010000, de_it 0x101, de_it 0x4010000, de_it 0x101, de_it 0xa010000, de_it 0x10001000100010103010101020101000000000000000000000000000000000e00000000ffffff72ff000400000201010300010006, de_it 0x10114010100000300000001, de_it 0x2010000, de_it 0x109010101080101010701010106010101050101010401010103010101020101010101010100010100000000000000000001000100010001120000010007, de_it 0x10000011701010300000001, de_it 0x8010000, de_it 0x1000100010001000000000000000000000000000000000c00000000ffffff76ff00000000007fffffbaff000202010006, de_it 0x2010000, de_it 0x300000001, de_it 0x2010000, de_it 0x109010101080101010701010106010101050101010401010115010101140101010101010100010100000000000000000001000100010001120000010007, de_it 0x8010000, de_it 0x1000100010001010a0101010b0101000000000000000000000000000000000e000000007fffffb8ff000000000204010300010006, de_it 0x10125010100000300000001, de_it 0x2010000, de_it 0x109010101080101010701010106010101050101010401010115010101140101010101010100010100000000000000000001000100010001120000010007, de_it 0x10000012801010300000001, de_it 0x8010000, de_it 0x1000100010001010c0101010d0101000000000000000000000000000000000e000000007fffffb8ff000000000205010300010006, de_it 0x4c4a2a281a1812100e0c0a0802000e000d, de_it 0x10000010e01010300000001, de_it 0x2010000, de_it 0x10701010106010101050101010401010103010101020101010b0101010a0101010101010100010100000000000000000001000100010001120000010007, de_it 0x5e5c4c4a2a2812100e0c0a0802000e000d, de_it 0x1010f010100000300000001, de_it 0x6010000, de_it 0x10001010d0101010c0101000000000000000000000000000000000c00000000ffffff76ff00000205010202010006, de_it 0xa010000, de_it 0x10b0101010a01010200000001, de_it 0x2010000, de_it 0x10001010a0101010b0101000000000000000000000000000000000c00000000ffffff76ff00000000007fffffbaff0104010202010006, de_it 0x10010000, de_it 0x101, de_it 0x2010000, de_it 0x101, de_it 0x8010000, de_it 0x107010101060101010501010104010101030101010201010109010101080101011d0101011e0101011b0101011c0101000000000000000000000000000000061400020301000202010002010100020a010002090105020004030006, de_it 0x54521a18161412100e0c0a080604020010000d, de_it 0x2010000, de_it 0x300000001, de_it 0x2010000, de_it 0x107010101060101010501010104010101030101010201010109010101080101010101010100010100000000000000000001000100010001120000010007, de_it 0x4010000, de_it 0x107010101060101010501010104010101030101010201010109010101080101010101010100010100000000000000000001000100010001120002010007]
set_option maxRecDepth 100000 in
theorem tR_2083 : fw_go tV_2083 tK_2083.2.1.1 tK_2083.2.1.2 none tH_2083_0 [(tK_2083.2.1, tK_2083.2.2.2.1, 0, tc_args 0 tK_2083.2.2.1, [], ([], 0), ([], 0))] = true := by decide +kernel
set_option maxRecDepth 100000 in
theorem tT_2083 {RO : am_O} {sa : Nat → Nat} (h_2000 : tc_true (aP sa) tp_G RO tp_T tp_Z tK_2000) (h_2033 : tc_true (aP sa) tp_G RO tp_T tp_Z tK_2033) (h_2082 : tc_true (aP sa) tp_G RO tp_T tp_Z tK_2082) : tc_true (aP sa) tp_G RO tp_T tp_Z tK_2083 := by
  have hC : ∀ c ∈ tC_2083, tc_true (aP sa) tp_G RO tp_T tp_Z c := by
    intro c hc
    have hc : c ∈ ([tK_2000, tK_2033, tK_2082] : List tc_Ct) := hc
    rcases List.mem_cons.mp hc with rfl | hc
    · exact h_2000
    rcases List.mem_cons.mp hc with rfl | hc
    · exact h_2033
    rcases List.mem_cons.mp hc with rfl | hc
    · exact h_2082
    cases hc
  have hP : ∀ p ∈ tJ_2083, ∃ hs, tc_plk (aP sa, tV_2083.2) p hs = true := by
    intro p hp
    have hp : p ∈ ([] : List tc_Pl) := hp
    cases hp
  exact tc_main (mt := aM_364.1) (hs := tH_2083_0) (PL := tJ_2083) ⟨tp_G_ok, tMs_2083 _, hC, tr_L_ok, tp_G_re⟩ (show am_meth (aP sa) 364 = some aM_364.1 from rfl) aX_364 (by decide +kernel) hP ((tc_go_sa (aP_sa sa _)).trans ((fw_go_s tHC_2083).trans tR_2083))
noncomputable def tK_2084 : tc_Ct := (414, (4, 2), [(2, ([], 0), 0), (0, ([(0, 1)], 0), 0), (0, ([(1, 1)], 0), 0), (2, ([], 0), 1), (0, ([(2, 1)], 0), 0), (0, ([(3, 1)], 0), 0)], ([([(0, -1)], 13600), ([(0, 1)], 0), ([(1, -1)], 400), ([(1, 1)], 0), ([(2, -1)], 4800), ([(2, 1)], 0), ([(3, -1)], 400), ([(3, 1)], 0)], [(0, 10), (1, 19)], [], [], [], [], []), [], [((4, 2), ([([(0, -1)], 13600), ([(0, 1)], 0), ([(1, -1)], 400), ([(1, 1)], 0), ([(2, -1)], 4800), ([(2, 1)], 0), ([(3, -1)], 400), ([(3, 1)], 0)], [], [], [], [], [], []), some (0, ([], 0), 0), ([], 0), ([], 0)), ((4, 2), ([([(0, -1)], 13600), ([(0, 1)], 0), ([(1, -1)], 400), ([(1, 1)], 0), ([(2, -1)], 4800), ([(2, 1)], 0), ([(3, -1)], 400), ([(3, 1)], 0), ([(1, -1), (3, 1)], 0), ([(1, 1), (3, -1)], 0)], [], [], [], [], [], []), some (0, ([], 1), 0), ([], 0), ([], 0))])
noncomputable def tL_2084_0 : tc_Pl := de_pl 0x30d20ff000001040201020000000000030d20ff00030000000000000002040100070000000006000002020100040100000203000002010100020000020001000100000002000710000000000013010a0002000203010000000000000320ff010301000202010000000000002580ff010201000201010000000000000320ff010101000200010000000000006a40ff010001080205
noncomputable def tL_2084_1 : tc_Pl := de_pl 0x30d20ff000001040201020000000000030d20ff00030000000000000002040100070002000006000002020100040100000203000002010100020000020001000100000002000710000000000013010a000200010302010200020301010200020401000203010000000000000320ff010301000202010000000000002580ff010201000201010000000000000320ff010101000200010000000000006a40ff0100010b0205
noncomputable def tJ_2084 : List tc_Pl := [tL_2084_0, tL_2084_1]
noncomputable def tC_2084 : List tc_Ct := []
def tM_2084 (z : Nat) : Option am_Meth := none
set_option maxRecDepth 100000 in
theorem tMs_2084 (sa : Nat → Nat) : ∀ z mz, tM_2084 z = some mz → am_meth (aP sa) z = some mz := fun z mz h => by cases h
noncomputable def tV_2084 : tc_Ev := (aQ, tp_T, tp_G.2, tp_Z, tM_2084, tC_2084, tr_L, tK_2084.2.2.2.2.1, aM_414.1, aW_414, tK_2084.2.1, tK_2084.2.2.2.2.2, tJ_2084)
theorem tE_2084 : tK_2084.2.2.2.2.2.all (tc_wex tK_2084.2.1.1 tK_2084.2.1.2) = true := by decide +kernel
theorem tSS_2084 : tC_2084.all (fun c => tw_mg tK_2084.2.2.2.2.1 c.2.2.2.2.1) = true := by decide +kernel
theorem tHC_2084 : ∀ c ∈ tC_2084, c.2.2.2.2.1.all tK_2084.2.2.2.2.1.contains = true ∧ c.2.2.2.2.2.all (tc_wex c.2.1.1 c.2.1.2) = true := tf_hc tSS_2084 (by
  intro c hc
  have hc : c ∈ ([] : List tc_Ct) := hc
  cases hc)
noncomputable def tH_2084_0 : List tc_It := [de_it 0x4010000, de_it 0x300000001, de_it 0x8010000, de_it 0x107010101060101010501010104010101030101010201010101010101000101000000000000000000000000000100011000000100010008, de_it 0xa010000, de_it 0x10801010109010100010107010101060101010501010104010101030101010201010101010101000101000000000000000000000000000100011300000102010008]
set_option maxRecDepth 100000 in
theorem tR_2084 : fw_go tV_2084 tK_2084.2.1.1 tK_2084.2.1.2 none tH_2084_0 [(tK_2084.2.1, tK_2084.2.2.2.1, 0, tc_args 0 tK_2084.2.2.1, [], ([], 0), ([], 0))] = true := by decide +kernel
noncomputable def tH_2084_1 : List tc_It := [de_it 0x2010000, de_it 0x10108010100000300000001, de_it 0x2010000, de_it 0x10701010106010101050101010401010103010101020101010101010100010100000000000000000001000100010001100000010007]
set_option maxRecDepth 100000 in
theorem tP_2084_0 : fw_plk tV_2084 tL_2084_0 tH_2084_1 = true := by decide +kernel
noncomputable def tH_2084_2 : List tc_It := [de_it 0x2010000, de_it 0x10000010c01010300000001, de_it 0x4010000, de_it 0x300000001, de_it 0x2010000, de_it 0x10a010101090101010701010106010101050101010401010103010101020101010101010100010100000000000000000001000100010001120002010007, de_it 0x6010000, de_it 0x10c0102010003010108010102010200000001, de_it 0x10011, de_it 0x10c010d010201000401010801010201020002040200020100010002, de_it 0x6010000, de_it 0x10c0102010403010108010502010200000001, de_it 0x2010011, de_it 0x10c0113010201040401010801050201020002040202020100010002, de_it 0x300000001, de_it 0x4010000, de_it 0x10c01020201010801010200000001, de_it 0x2010000, de_it 0x108010c010903010106010101050101010401010108010c020101020101010101010100010100000000010c01010001000000010001000110020204010100010008, de_it 0x6010000, de_it 0x10c01020201010801010200000001, de_it 0x2010000, de_it 0x10a010101090101010801010108010c010903010106010101050101010401010108010c020101020101010101010100010100000000010c01010001000000010001000113020204010102010008]
set_option maxRecDepth 100000 in
theorem tP_2084_1 : fw_plk tV_2084 tL_2084_1 tH_2084_2 = true := by decide +kernel
set_option maxRecDepth 100000 in
theorem tT_2084 {RO : am_O} {sa : Nat → Nat} : tc_true (aP sa) tp_G RO tp_T tp_Z tK_2084 := by
  have hC : ∀ c ∈ tC_2084, tc_true (aP sa) tp_G RO tp_T tp_Z c := by
    intro c hc
    have hc : c ∈ ([] : List tc_Ct) := hc
    cases hc
  have hP : ∀ p ∈ tJ_2084, ∃ hs, tc_plk (aP sa, tV_2084.2) p hs = true := by
    intro p hp
    have hp : p ∈ ([tL_2084_0, tL_2084_1] : List tc_Pl) := hp
    rcases List.mem_cons.mp hp with rfl | hp
    · exact ⟨_, (tc_plk_sa (aP_sa sa _)).trans ((fw_plk_s tHC_2084).trans tP_2084_0)⟩
    rcases List.mem_cons.mp hp with rfl | hp
    · exact ⟨_, (tc_plk_sa (aP_sa sa _)).trans ((fw_plk_s tHC_2084).trans tP_2084_1)⟩
    cases hp
  exact tc_main (mt := aM_414.1) (hs := tH_2084_0) (PL := tJ_2084) ⟨tp_G_ok, tMs_2084 _, hC, tr_L_ok, tp_G_re⟩ (show am_meth (aP sa) 414 = some aM_414.1 from rfl) aX_414 (by decide +kernel) hP ((tc_go_sa (aP_sa sa _)).trans ((fw_go_s tHC_2084).trans tR_2084))
noncomputable def tK_2085 : tc_Ct := (415, (1, 1), [(2, ([], 0), 0), (0, ([(0, 1)], 0), 0)], ([([(0, -1)], 4800), ([(0, 1)], 0)], [(0, 19)], [], [], [], [], []), [], [((1, 1), ([([(0, -1)], 4800), ([(0, 1)], 0)], [], [], [], [], [], []), some (1, ([], 0), 0), ([], 0), ([], 0))])
noncomputable def tJ_2085 : List tc_Pl := []
noncomputable def tC_2085 : List tc_Ct := [tK_2080]
def tM_2085 (z : Nat) : Option am_Meth := if z = 395 then some aM_395.1 else none
set_option maxRecDepth 100000 in
theorem tMs_2085 (sa : Nat → Nat) : ∀ z mz, tM_2085 z = some mz → am_meth (aP sa) z = some mz := by
  intro z mz h
  unfold tM_2085 at h
  rcases de_m h with ⟨rfl, rfl⟩ | h
  · exact (show am_meth (aP sa) 395 = some aM_395.1 from rfl)
  cases h
noncomputable def tV_2085 : tc_Ev := (aQ, tp_T, tp_G.2, tp_Z, tM_2085, tC_2085, tr_L, tK_2085.2.2.2.2.1, aM_415.1, aW_415, tK_2085.2.1, tK_2085.2.2.2.2.2, tJ_2085)
theorem tE_2085 : tK_2085.2.2.2.2.2.all (tc_wex tK_2085.2.1.1 tK_2085.2.1.2) = true := by decide +kernel
theorem tSS_2085 : tC_2085.all (fun c => tw_mg tK_2085.2.2.2.2.1 c.2.2.2.2.1) = true := by decide +kernel
theorem tHC_2085 : ∀ c ∈ tC_2085, c.2.2.2.2.1.all tK_2085.2.2.2.2.1.contains = true ∧ c.2.2.2.2.2.all (tc_wex c.2.1.1 c.2.1.2) = true := tf_hc tSS_2085 (by
  intro c hc
  have hc : c ∈ ([tK_2080] : List tc_Ct) := hc
  rcases List.mem_cons.mp hc with rfl | hc
  · exact tE_2080
  cases hc)
noncomputable def tH_2085_0 : List tc_It := [de_it 0x4010000, de_it 0x101010101000101000000000000000000000000000000000a00020001010000020006, de_it 0xc010000, de_it 0x1000101010101010200000001, de_it 0x101010101000101000000000000000000000000000000000a08020001010000020006, de_it 0x8010000, de_it 0x101010101000101000000000000000000000000000100010a0000010007]
set_option maxRecDepth 100000 in
theorem tR_2085 : fw_go tV_2085 tK_2085.2.1.1 tK_2085.2.1.2 none tH_2085_0 [(tK_2085.2.1, tK_2085.2.2.2.1, 0, tc_args 0 tK_2085.2.2.1, [], ([], 0), ([], 0))] = true := by decide +kernel
set_option maxRecDepth 100000 in
theorem tT_2085 {RO : am_O} {sa : Nat → Nat} (h_2080 : tc_true (aP sa) tp_G RO tp_T tp_Z tK_2080) : tc_true (aP sa) tp_G RO tp_T tp_Z tK_2085 := by
  have hC : ∀ c ∈ tC_2085, tc_true (aP sa) tp_G RO tp_T tp_Z c := by
    intro c hc
    have hc : c ∈ ([tK_2080] : List tc_Ct) := hc
    rcases List.mem_cons.mp hc with rfl | hc
    · exact h_2080
    cases hc
  have hP : ∀ p ∈ tJ_2085, ∃ hs, tc_plk (aP sa, tV_2085.2) p hs = true := by
    intro p hp
    have hp : p ∈ ([] : List tc_Pl) := hp
    cases hp
  exact tc_main (mt := aM_415.1) (hs := tH_2085_0) (PL := tJ_2085) ⟨tp_G_ok, tMs_2085 _, hC, tr_L_ok, tp_G_re⟩ (show am_meth (aP sa) 415 = some aM_415.1 from rfl) aX_415 (by decide +kernel) hP ((tc_go_sa (aP_sa sa _)).trans ((fw_go_s tHC_2085).trans tR_2085))
noncomputable def tK_2086 : tc_Ct := (413, (4, 3), [(2, ([], 0), 0), (0, ([(0, 1)], 0), 0), (0, ([(1, 1)], 0), 0), (0, ([(2, 1)], 0), 0), (2, ([], 0), 1), (0, ([(3, 8)], 0), 0), (2, ([], 0), 2)], ([([(0, -1)], 33), ([(0, 1)], 0), ([(1, -1)], 33), ([(1, 1)], 0), ([(2, -1)], 2147483647), ([(2, 1)], 2147483648), ([(3, -1)], 11), ([(3, 1)], 0)], [(0, 0), (1, 21), (2, 19)], [], [], [], [], []), [(0, 5), (0, 6), (0, 7), (0, 8), (0, 9), (0, 10), (0, 11)], [((4, 3), ([([(0, -1)], 33), ([(0, 1)], 0), ([(1, -1)], 33), ([(1, 1)], 0), ([(2, -1)], 2147483647), ([(2, 1)], 2147483648), ([(3, -1)], 11), ([(3, 1)], 0)], [], [], [], [], [], []), some (0, ([], 0), 0), ([], 0), ([], 0)), ((4, 3), ([([(0, -1)], 33), ([(0, 1)], 0), ([(1, -1)], 33), ([(1, 1)], 0), ([(2, -1)], 2147483647), ([(2, 1)], 2147483648), ([(3, -1)], 11), ([(3, 1)], 0), ([(3, -400)], 4400), ([(3, 400)], 0)], [], [], [(0, 9, (0, ([], 0), 0)), (0, 10, (1, ([], 0), 0))], [], [], []), some (0, ([], 1), 0), ([], 0), ([], 0))])
noncomputable def tJ_2086 : List tc_Pl := []
noncomputable def tC_2086 : List tc_Ct := [tK_2084, tK_2000, tK_2085, tK_2083]
def tM_2086 (z : Nat) : Option am_Meth := if z = 415 then some aM_415.1 else if z = 414 then some aM_414.1 else if z = 364 then some aM_364.1 else if z = 321 then some aM_321.1 else none
set_option maxRecDepth 100000 in
theorem tMs_2086 (sa : Nat → Nat) : ∀ z mz, tM_2086 z = some mz → am_meth (aP sa) z = some mz := by
  intro z mz h
  unfold tM_2086 at h
  rcases de_m h with ⟨rfl, rfl⟩ | h
  · exact (show am_meth (aP sa) 415 = some aM_415.1 from rfl)
  rcases de_m h with ⟨rfl, rfl⟩ | h
  · exact (show am_meth (aP sa) 414 = some aM_414.1 from rfl)
  rcases de_m h with ⟨rfl, rfl⟩ | h
  · exact (show am_meth (aP sa) 364 = some aM_364.1 from rfl)
  rcases de_m h with ⟨rfl, rfl⟩ | h
  · exact (show am_meth (aP sa) 321 = some aM_321.1 from rfl)
  cases h
noncomputable def tV_2086 : tc_Ev := (aQ, tp_T, tp_G.2, tp_Z, tM_2086, tC_2086, tr_L, tK_2086.2.2.2.2.1, aM_413.1, aW_413, tK_2086.2.1, tK_2086.2.2.2.2.2, tJ_2086)
theorem tE_2086 : tK_2086.2.2.2.2.2.all (tc_wex tK_2086.2.1.1 tK_2086.2.1.2) = true := by decide +kernel
theorem tSS_2086 : tC_2086.all (fun c => tw_mg tK_2086.2.2.2.2.1 c.2.2.2.2.1) = true := by decide +kernel
theorem tHC_2086 : ∀ c ∈ tC_2086, c.2.2.2.2.1.all tK_2086.2.2.2.2.1.contains = true ∧ c.2.2.2.2.2.all (tc_wex c.2.1.1 c.2.1.2) = true := tf_hc tSS_2086 (by
  intro c hc
  have hc : c ∈ ([tK_2084, tK_2000, tK_2085, tK_2083] : List tc_Ct) := hc
  rcases List.mem_cons.mp hc with rfl | hc
  · exact tE_2084
  rcases List.mem_cons.mp hc with rfl | hc
  · exact tE_2000
  rcases List.mem_cons.mp hc with rfl | hc
  · exact tE_2085
  rcases List.mem_cons.mp hc with rfl | hc
  · exact tE_2083
  cases hc)
noncomputable def tH_2086_0 : List tc_It := [de_it 0x2010000, de_it 0x2, de_it 0x2010000, de_it 0x2, de_it 0x4010000, de_it 0x2000101020101010200000001, de_it 0x8010011, de_it 0x108020002010201010102000200010100010002, de_it 0x2010000, de_it 0x2, de_it 0x4010000, de_it 0x2000101020101010200000001, de_it 0x2010000, de_it 0x2000101020101010200000001, de_it 0x108020002010201010102000200010102010002, de_it 0x6010000, de_it 0x2010011, de_it 0x112080602010807010102000203010100010002, de_it 0x2e2c2422201a180e0c0a08060402000f000d, de_it 0x6010000, de_it 0x8060101080701010200000001, de_it 0x10c080602010807010102000203010102010002, de_it 0x111010101120101010d0101010e0000000000000190ff060201010a0101010b01010108010101090000000000000190ff00020100000000000000000000000000000000100002090100020801000206010002050104040600030006, de_it 0xe0c0a080604020008000d, de_it 0x10108010100000300000001, de_it 0x6010000, de_it 0x10000010a01010300000001, de_it 0x2010000, de_it 0x10701010106010101050101010401010103010101020101010101010100010100000000000000000001000100010001100000010007, de_it 0x180e0c0a080604020009000d, de_it 0x10000010a01010300000001, de_it 0xa010000, de_it 0x8060101080701010200000001, de_it 0x108080602010807010102000203010106010002, de_it 0x8010000, de_it 0x8060101080701010200000001, de_it 0x108080602010807010102000203010108010002, de_it 0x2010000, de_it 0x10e0101010f0101010a0101010b01010105010101040101000000000000000000000000000000000e00020b0100020a01000202010302010006, de_it 0xe0c0a080604020008000d, de_it 0x10108010100000300000001, de_it 0x6010000, de_it 0x10000010a01010300000001, de_it 0x2010000, de_it 0x10701010106010101050101010401010103010101020101010101010100010100000000000000000001000100010001100000010007, de_it 0x100e0c0a080604020009000d, de_it 0x10000010a01010300000001, de_it 0x2010000, de_it 0x2, de_it 0x4010000, de_it 0x8020101080301010200000001, de_it 0x2010000, de_it 0x8020101080301010200000001, de_it 0xa010011, de_it 0x10a08020201080301010200000002, de_it 0x4010000, de_it 0x10e0101000000000300000001, de_it 0xe0c0a080604020008000d, de_it 0x6010000, de_it 0x10000010801010300000001, de_it 0x2010000, de_it 0x10701010106010101050101010401010103010101020101010101010100010100000000000000000001000100010001100000010007, de_it 0x8010000, de_it 0x10112010100000300000001, de_it 0x14100e0c0a08060402000a000d, de_it 0x4010000, de_it 0x80701010100000001, de_it 0x10b0108010a010802000203010100010013, de_it 0x10b01080100020f0103020100000e, de_it 0x2010000, de_it 0x190ff0601010000000000000190ff0701010200000001, de_it 0x8010000, de_it 0x190ff0601010000000000000190ff0701010200000001, de_it 0x4010011, de_it 0x10d0000000000000190ff0602010000000000000190ff07010102020000000000000320ff03010100010002, de_it 0x1a12100e0c0a08060402000b000d, de_it 0x2010000, de_it 0x300000001, de_it 0x6010000, de_it 0x190ff0601010000000000000190ff0701010200000001, de_it 0x10a0000000000000190ff0602010000000000000190ff0701010200000002, de_it 0x2010000, de_it 0x300000001, de_it 0xc010000, de_it 0x8060101080701010200000001, de_it 0x10808060201080701010200020301010a010002, de_it 0x2010000, de_it 0x2, de_it 0x4010000, de_it 0x8020101080301010200000001, de_it 0x2010000, de_it 0x8020101080301010200000001, de_it 0x10908020201080301010200000002, de_it 0x8010000, de_it 0x8060101080701010200000001, de_it 0x10808060201080701010200020301010c010002, de_it 0x114010101150000000000000190ff060201000000000000000000000000000000000a00021401010404020006, de_it 0x2c2a2822201a18100e0c0a080604020010000d, de_it 0x6010000, de_it 0x190ff0601010000000000000190ff0701010200000001, de_it 0x6010000, de_it 0x8060101080701010200000001, de_it 0x10808060201080701010200000002, de_it 0x2010000, de_it 0x10f0101010d01010200000001, de_it 0x2010000, de_it 0x10e0101010d0000000000000190ff0602010200000001, de_it 0x2010000, de_it 0x10e0101010d0000000000000190ff0602010200000001, de_it 0x10d0101010f0101010d0000000000000190ff060201010e01010000000000000190ff0701010000000000000190ff060101010b0101010c010101090101010a010100000000000000000000000000000006120b0214000000000000031fff0302080000000000000320ff0301000213010002120104040006030006, de_it 0x280e0a080604020008000d, de_it 0x10601010107010000000000000190ff01050101010401010103010101020101010101010100010100000000000000000001000100010001100000010007, de_it 0x280e0a080604020008000d, de_it 0x190ff06010101070101010601010107010000000000000190ff01050101010401010103010101020101010101010100010100000000000000000001000100010001120002010007, de_it 0xe010000, de_it 0x8060101080701010200000001, de_it 0x10808060201080701010200020301010a010002, de_it 0x2010000, de_it 0x2, de_it 0x4010000, de_it 0x8020101080301010200000001, de_it 0x2010000, de_it 0x8020101080301010200000001, de_it 0x10908020201080301010200000002, de_it 0x8010000, de_it 0x8060101080701010200000001, de_it 0x10808060201080701010200020301010c010002, de_it 0x2e2c26241e1c100e0c0a08060402000f000d, de_it 0x10d0101010e0000000000000190ff060201000000000000000000000000000000000a00021401010404020006, de_it 0x6010000, de_it 0x190ff0601010000000000000190ff0701010200000001, de_it 0x6010000, de_it 0x8060101080701010200000001, de_it 0x10808060201080701010200000002, de_it 0x2010000, de_it 0x10f0101010d01010200000001, de_it 0x2010000, de_it 0x10e0101010d0000000000000190ff0602010200000001, de_it 0x2010000, de_it 0x10e0101010d0000000000000190ff0602010200000001, de_it 0x10d0101010f0101010d0000000000000190ff060201010e01010000000000000190ff0701010000000000000190ff060101010b0101010c010101090101010a01010000000000000000000000000000000612090214000000000000031fff0302060000000000000320ff0301000213010002120104040006030006, de_it 0xe0c0a080604020008000d, de_it 0x10701010106010101050101010401010103010101020101010101010100010100000000000000000001000100010001100000010007, de_it 0xe0c0a080604020008000d, de_it 0x190ff0701010000000000000190ff060101010701010106010101050101010401010103010101020101010101010100010100000000000000000001000100010001120002010007, de_it 0xe010000, de_it 0x8060101080701010200000001, de_it 0x10808060201080701010200020301010a010002, de_it 0x2010000, de_it 0x2, de_it 0x4010000, de_it 0x8020101080301010200000001, de_it 0x2010000, de_it 0x8020101080301010200000001, de_it 0x10908020201080301010200000002, de_it 0x8010000, de_it 0x8060101080701010200000001, de_it 0x10808060201080701010200020301010c010002, de_it 0x114010101150000000000000190ff060201000000000000000000000000000000000a00021401010404020006, de_it 0x2c2a2822201a18100e0c0a080604020010000d, de_it 0x6010000, de_it 0x190ff0601010000000000000190ff0701010200000001, de_it 0x6010000, de_it 0x8060101080701010200000001, de_it 0x10808060201080701010200000002, de_it 0x2010000, de_it 0x10f0101010d01010200000001, de_it 0x2010000, de_it 0x10e0101010d0000000000000190ff0602010200000001, de_it 0x2010000, de_it 0x10e0101010d0000000000000190ff0602010200000001, de_it 0x10d0101010f0101010d0000000000000190ff060201010e01010000000000000190ff0701010000000000000190ff060101010b0101010c010101090101010a01010000000000000000000000000000000612070214000000000000031fff0302040000000000000320ff0301000213010002120104040006030006, de_it 0x2a0c0a080604020008000d, de_it 0x107010000000000000190ff0106010101050101010401010103010101020101010101010100010100000000000000000001000100010001100000010007, de_it 0x2a0c0a080604020008000d, de_it 0x10701010000000000000190ff0601010107010000000000000190ff0106010101050101010401010103010101020101010101010100010100000000000000000001000100010001120002010007]
set_option maxRecDepth 100000 in
theorem tR_2086 : fw_go tV_2086 tK_2086.2.1.1 tK_2086.2.1.2 none tH_2086_0 [(tK_2086.2.1, tK_2086.2.2.2.1, 0, tc_args 0 tK_2086.2.2.1, [], ([], 0), ([], 0))] = true := by decide +kernel
set_option maxRecDepth 100000 in
theorem tT_2086 {RO : am_O} {sa : Nat → Nat} (h_2000 : tc_true (aP sa) tp_G RO tp_T tp_Z tK_2000) (h_2083 : tc_true (aP sa) tp_G RO tp_T tp_Z tK_2083) (h_2084 : tc_true (aP sa) tp_G RO tp_T tp_Z tK_2084) (h_2085 : tc_true (aP sa) tp_G RO tp_T tp_Z tK_2085) : tc_true (aP sa) tp_G RO tp_T tp_Z tK_2086 := by
  have hC : ∀ c ∈ tC_2086, tc_true (aP sa) tp_G RO tp_T tp_Z c := by
    intro c hc
    have hc : c ∈ ([tK_2084, tK_2000, tK_2085, tK_2083] : List tc_Ct) := hc
    rcases List.mem_cons.mp hc with rfl | hc
    · exact h_2084
    rcases List.mem_cons.mp hc with rfl | hc
    · exact h_2000
    rcases List.mem_cons.mp hc with rfl | hc
    · exact h_2085
    rcases List.mem_cons.mp hc with rfl | hc
    · exact h_2083
    cases hc
  have hP : ∀ p ∈ tJ_2086, ∃ hs, tc_plk (aP sa, tV_2086.2) p hs = true := by
    intro p hp
    have hp : p ∈ ([] : List tc_Pl) := hp
    cases hp
  exact tc_main (mt := aM_413.1) (hs := tH_2086_0) (PL := tJ_2086) ⟨tp_G_ok, tMs_2086 _, hC, tr_L_ok, tp_G_re⟩ (show am_meth (aP sa) 413 = some aM_413.1 from rfl) aX_413 (by decide +kernel) hP ((tc_go_sa (aP_sa sa _)).trans ((fw_go_s tHC_2086).trans tR_2086))
noncomputable def tK_2087 : tc_Ct := (329, (3, 2), [(2, ([], 0), 0), (2, ([], 0), 1), (0, ([(0, 1)], 0), 0), (0, ([(1, 1)], 0), 0)], ([([(0, -1)], 4804), ([(0, 1)], -2), ([(1, -1)], 396), ([(1, 1)], 4806), ([(2, -1)], 7), ([(2, 1)], 0), ([(0, -1), (1, -1)], 5198), ([(0, 1), (1, 1)], 2)], [(0, 0), (1, 22)], [], [(0, 9, (0, ([(2, 1)], 0), 0))], [], [], []), [(0, 5), (0, 6), (0, 7), (0, 8), (0, 9), (0, 10), (0, 11)], [((4, 2), ([([(0, -1)], 4804), ([(0, 1)], -2), ([(1, -1)], 396), ([(1, 1)], 4806), ([(2, -1)], 7), ([(2, 1)], 0), ([(3, -1)], 7), ([(3, 1)], 0), ([(0, -1), (1, -1)], 5198), ([(0, 1), (1, 1)], 2)], [], [], [(0, 9, (0, ([(3, 1)], 0), 0))], [], [], []), none, ([], 0), ([], 0))])
noncomputable def tL_2087_0 : tc_Pl := de_pl 0x30d3aff000001030201020000000000030d3aff00030000000000000002030100040000020101000300000200010002010000020100000002000503000000000002040100090001001601000002000204010e01040100020301040201020002000000000000289cff0101010002000202010e010201000000000000258cff0201010000000000000318ff010101030200010000000000002588ff0100010b0205
noncomputable def tJ_2087 : List tc_Pl := [tL_2087_0]
noncomputable def tC_2087 : List tc_Ct := [tK_2009]
def tM_2087 (z : Nat) : Option am_Meth := if z = 330 then some aM_330.1 else none
set_option maxRecDepth 100000 in
theorem tMs_2087 (sa : Nat → Nat) : ∀ z mz, tM_2087 z = some mz → am_meth (aP sa) z = some mz := by
  intro z mz h
  unfold tM_2087 at h
  rcases de_m h with ⟨rfl, rfl⟩ | h
  · exact (show am_meth (aP sa) 330 = some aM_330.1 from rfl)
  cases h
noncomputable def tV_2087 : tc_Ev := (aQ, tp_T, tp_G.2, tp_Z, tM_2087, tC_2087, tr_L, tK_2087.2.2.2.2.1, aM_329.1, aW_329, tK_2087.2.1, tK_2087.2.2.2.2.2, tJ_2087)
theorem tE_2087 : tK_2087.2.2.2.2.2.all (tc_wex tK_2087.2.1.1 tK_2087.2.1.2) = true := by decide +kernel
theorem tSS_2087 : tC_2087.all (fun c => tw_mg tK_2087.2.2.2.2.1 c.2.2.2.2.1) = true := by decide +kernel
theorem tHC_2087 : ∀ c ∈ tC_2087, c.2.2.2.2.1.all tK_2087.2.2.2.2.1.contains = true ∧ c.2.2.2.2.2.all (tc_wex c.2.1.1 c.2.1.2) = true := tf_hc tSS_2087 (by
  intro c hc
  have hc : c ∈ ([tK_2009] : List tc_Ct) := hc
  rcases List.mem_cons.mp hc with rfl | hc
  · exact tE_2009
  cases hc)
noncomputable def tH_2087_0 : List tc_It := [de_it 0x4010000, de_it 0x1050101010401010001010701010106010101050101010401010103010101020101010101010100010100000000000000000000000000010001130002020100000200010008]
set_option maxRecDepth 100000 in
theorem tR_2087 : fw_go tV_2087 tK_2087.2.1.1 tK_2087.2.1.2 none tH_2087_0 [(tK_2087.2.1, tK_2087.2.2.2.1, 0, tc_args 0 tK_2087.2.2.1, [], ([], 0), ([], 0))] = true := by decide +kernel
noncomputable def tH_2087_1 : List tc_It := [de_it 0x4010000, de_it 0x300000001, de_it 0x107010101060101010a0101010901010105010101040101010301010102010101010101010001010000000000000000000000000001000112000204010100010007, de_it 0x8010000, de_it 0x10b010602010108010102010200000001, de_it 0x2010011, de_it 0x10b010c01060301010801010201020002030200020100010002, de_it 0x10a0101010901010110010101110101000000000000000000000000000000010c0002040100020601020000020006, de_it 0x10b01020201010801010200000001, de_it 0x2010000, de_it 0x1190101011b011a0202010801010108010b010103010106010101050101010401010108010b020101020101010101010100010100000000010b0101000100000001000100011300020801020203010200010008]
set_option maxRecDepth 100000 in
theorem tP_2087_0 : fw_plk tV_2087 tL_2087_0 tH_2087_1 = true := by decide +kernel
set_option maxRecDepth 100000 in
theorem tT_2087 {RO : am_O} {sa : Nat → Nat} (h_2009 : tc_true (aP sa) tp_G RO tp_T tp_Z tK_2009) : tc_true (aP sa) tp_G RO tp_T tp_Z tK_2087 := by
  have hC : ∀ c ∈ tC_2087, tc_true (aP sa) tp_G RO tp_T tp_Z c := by
    intro c hc
    have hc : c ∈ ([tK_2009] : List tc_Ct) := hc
    rcases List.mem_cons.mp hc with rfl | hc
    · exact h_2009
    cases hc
  have hP : ∀ p ∈ tJ_2087, ∃ hs, tc_plk (aP sa, tV_2087.2) p hs = true := by
    intro p hp
    have hp : p ∈ ([tL_2087_0] : List tc_Pl) := hp
    rcases List.mem_cons.mp hp with rfl | hp
    · exact ⟨_, (tc_plk_sa (aP_sa sa _)).trans ((fw_plk_s tHC_2087).trans tP_2087_0)⟩
    cases hp
  exact tc_main (mt := aM_329.1) (hs := tH_2087_0) (PL := tJ_2087) ⟨tp_G_ok, tMs_2087 _, hC, tr_L_ok, tp_G_re⟩ (show am_meth (aP sa) 329 = some aM_329.1 from rfl) aX_329 (by decide +kernel) hP ((tc_go_sa (aP_sa sa _)).trans ((fw_go_s tHC_2087).trans tR_2087))
noncomputable def tK_2088 : tc_Ct := (362, (5, 2), [(2, ([], 0), 0), (0, ([(0, 1)], 0), 0), (0, ([(1, 1)], 0), 0), (0, ([(2, 1)], 0), 0), (2, ([], 0), 1), (0, ([(3, 1)], 0), 0), (0, ([(4, 1)], 0), 0)], ([([(0, -1)], 2147483647), ([(0, 1)], 2147483648), ([(1, -1)], 2147483647), ([(1, 1)], 2147483648), ([(2, -1)], 2147483577), ([(2, 1)], -2), ([(3, -1)], 4804), ([(3, 1)], -2), ([(4, -1)], 396), ([(4, 1)], 4806), ([(3, -1), (4, -1)], 5198), ([(3, 1), (4, 1)], 2)], [(0, 0), (1, 22)], [], [], [], [], []), [(0, 5), (0, 6), (0, 7), (0, 8), (0, 9), (0, 10), (0, 11)], [((6, 2), ([([(0, -1)], 2147483647), ([(0, 1)], 2147483648), ([(1, -1)], 2147483647), ([(1, 1)], 2147483648), ([(2, -1)], 2147483577), ([(2, 1)], -2), ([(3, -1)], 4804), ([(3, 1)], -2), ([(4, -1)], 396), ([(4, 1)], 4806), ([(5, -1)], 1073741788), ([(5, 1)], 0), ([(3, -1), (4, -1)], 5198), ([(3, 1), (4, 1)], 2)], [], [], [(0, 9, (0, ([], 0), 0)), (0, 10, (1, ([], 0), 0))], [], [], []), some (0, ([(5, 1)], 0), 0), ([], 0), ([], 0))])
noncomputable def tJ_2088 : List tc_Pl := []
noncomputable def tC_2088 : List tc_Ct := [tK_2005, tK_2024, tK_2087, tK_2012, tK_2041]
def tM_2088 (z : Nat) : Option am_Meth := if z = 361 then some aM_361.1 else if z = 346 then some aM_346.1 else if z = 334 then some aM_334.1 else if z = 329 then some aM_329.1 else if z = 328 then some aM_328.1 else none
set_option maxRecDepth 100000 in
theorem tMs_2088 (sa : Nat → Nat) : ∀ z mz, tM_2088 z = some mz → am_meth (aP sa) z = some mz := by
  intro z mz h
  unfold tM_2088 at h
  rcases de_m h with ⟨rfl, rfl⟩ | h
  · exact (show am_meth (aP sa) 361 = some aM_361.1 from rfl)
  rcases de_m h with ⟨rfl, rfl⟩ | h
  · exact (show am_meth (aP sa) 346 = some aM_346.1 from rfl)
  rcases de_m h with ⟨rfl, rfl⟩ | h
  · exact (show am_meth (aP sa) 334 = some aM_334.1 from rfl)
  rcases de_m h with ⟨rfl, rfl⟩ | h
  · exact (show am_meth (aP sa) 329 = some aM_329.1 from rfl)
  rcases de_m h with ⟨rfl, rfl⟩ | h
  · exact (show am_meth (aP sa) 328 = some aM_328.1 from rfl)
  cases h
noncomputable def tV_2088 : tc_Ev := (aQ, tp_T, tp_G.2, tp_Z, tM_2088, tC_2088, tr_L, tK_2088.2.2.2.2.1, aM_362.1, aW_362, tK_2088.2.1, tK_2088.2.2.2.2.2, tJ_2088)
theorem tE_2088 : tK_2088.2.2.2.2.2.all (tc_wex tK_2088.2.1.1 tK_2088.2.1.2) = true := by decide +kernel
theorem tSS_2088 : tC_2088.all (fun c => tw_mg tK_2088.2.2.2.2.1 c.2.2.2.2.1) = true := by decide +kernel
theorem tHC_2088 : ∀ c ∈ tC_2088, c.2.2.2.2.1.all tK_2088.2.2.2.2.1.contains = true ∧ c.2.2.2.2.2.all (tc_wex c.2.1.1 c.2.1.2) = true := tf_hc tSS_2088 (by
  intro c hc
  have hc : c ∈ ([tK_2005, tK_2024, tK_2087, tK_2012, tK_2041] : List tc_Ct) := hc
  rcases List.mem_cons.mp hc with rfl | hc
  · exact tE_2005
  rcases List.mem_cons.mp hc with rfl | hc
  · exact tE_2024
  rcases List.mem_cons.mp hc with rfl | hc
  · exact tE_2087
  rcases List.mem_cons.mp hc with rfl | hc
  · exact tE_2012
  rcases List.mem_cons.mp hc with rfl | hc
  · exact tE_2041
  cases hc)
noncomputable def tH_2088_0 : List tc_It := [de_it 0x4010000, de_it 0x101010101000101000000000000000000000000000000010a00020001010000020006, de_it 0x4010000, de_it 0x100010103010101020101000000000000000000000000000000010c000000020101020002020006, de_it 0x4010000, de_it 0x11b0101011c01010105010101040101000000000000000000000000000000010c0002090100020201020002020006, de_it 0x8010000, de_it 0x10b0101010a0101012201010121010101090101010801010107010101060101000000000000000000000000000000031000020a01000204010002030103020004030006, de_it 0x5654161412100e0c0a08060402000e000d, de_it 0x2010000, de_it 0x10d0101010c0101000000000000000000000000000000000a00020b01010006020006, de_it 0x80008010006, de_it 0x2010000, de_it 0x11101010100000201, de_it 0x10b0101010a0101011201010113010101090101010801010107010101060101010501010104010101030101010201010101010101000101000000000000000000000000000100011600000000007fffffb9ff0d020c020100010007]
set_option maxRecDepth 100000 in
theorem tR_2088 : fw_go tV_2088 tK_2088.2.1.1 tK_2088.2.1.2 none tH_2088_0 [(tK_2088.2.1, tK_2088.2.2.2.1, 0, tc_args 0 tK_2088.2.2.1, [], ([], 0), ([], 0))] = true := by decide +kernel
set_option maxRecDepth 100000 in
theorem tT_2088 {RO : am_O} {sa : Nat → Nat} (h_2005 : tc_true (aP sa) tp_G RO tp_T tp_Z tK_2005) (h_2012 : tc_true (aP sa) tp_G RO tp_T tp_Z tK_2012) (h_2024 : tc_true (aP sa) tp_G RO tp_T tp_Z tK_2024) (h_2041 : tc_true (aP sa) tp_G RO tp_T tp_Z tK_2041) (h_2087 : tc_true (aP sa) tp_G RO tp_T tp_Z tK_2087) : tc_true (aP sa) tp_G RO tp_T tp_Z tK_2088 := by
  have hC : ∀ c ∈ tC_2088, tc_true (aP sa) tp_G RO tp_T tp_Z c := by
    intro c hc
    have hc : c ∈ ([tK_2005, tK_2024, tK_2087, tK_2012, tK_2041] : List tc_Ct) := hc
    rcases List.mem_cons.mp hc with rfl | hc
    · exact h_2005
    rcases List.mem_cons.mp hc with rfl | hc
    · exact h_2024
    rcases List.mem_cons.mp hc with rfl | hc
    · exact h_2087
    rcases List.mem_cons.mp hc with rfl | hc
    · exact h_2012
    rcases List.mem_cons.mp hc with rfl | hc
    · exact h_2041
    cases hc
  have hP : ∀ p ∈ tJ_2088, ∃ hs, tc_plk (aP sa, tV_2088.2) p hs = true := by
    intro p hp
    have hp : p ∈ ([] : List tc_Pl) := hp
    cases hp
  exact tc_main (mt := aM_362.1) (hs := tH_2088_0) (PL := tJ_2088) ⟨tp_G_ok, tMs_2088 _, hC, tr_L_ok, tp_G_re⟩ (show am_meth (aP sa) 362 = some aM_362.1 from rfl) aX_362 (by decide +kernel) hP ((tc_go_sa (aP_sa sa _)).trans ((fw_go_s tHC_2088).trans tR_2088))
noncomputable def tK_2089 : tc_Ct := (364, (4, 2), [(2, ([], 0), 0), (0, ([(0, 1)], 0), 0), (0, ([(1, 1)], 0), 0), (1, ([], 0), 0), (2, ([], 0), 1), (0, ([(2, 1)], 0), 0), (0, ([(3, 1)], 0), 0)], ([([(0, -1)], 2147483647), ([(0, 1)], 2147483648), ([(1, -1)], 2147483647), ([(1, 1)], 2147483648), ([(2, -1)], 4804), ([(2, 1)], -2), ([(3, -1)], 396), ([(3, 1)], 4806), ([(2, -1), (3, -1)], 5198), ([(2, 1), (3, 1)], 2)], [(0, 0), (1, 22)], [], [], [], [], []), [(0, 5), (0, 6), (0, 7), (0, 8), (0, 9), (0, 10), (0, 11)], [((4, 2), ([([(0, -1)], 2147483647), ([(0, 1)], 2147483648), ([(1, -1)], 2147483647), ([(1, 1)], 2147483648), ([(2, -1)], 4804), ([(2, 1)], -2), ([(3, -1)], 396), ([(3, 1)], 4806), ([(2, -1), (3, -1)], 5198), ([(2, 1), (3, 1)], 2)], [], [], [], [], [], []), some (0, ([], 0), 0), ([], 0), ([], 0)), ((4, 2), ([([(0, -1)], 2147483647), ([(0, 1)], 2147483648), ([(1, -1)], 2147483577), ([(1, 1)], -2), ([(2, -1)], 4804), ([(2, 1)], -2), ([(3, -1)], 396), ([(3, 1)], 4806), ([(2, -1), (3, -1)], 5198), ([(2, 1), (3, 1)], 2)], [], [], [(0, 9, (0, ([], 0), 0)), (0, 10, (1, ([], 0), 0))], [], [], []), some (0, ([], 1), 0), ([], 0), ([], 0))])
noncomputable def tJ_2089 : List tc_Pl := []
noncomputable def tC_2089 : List tc_Ct := [tK_2000, tK_2033, tK_2088]
def tM_2089 (z : Nat) : Option am_Meth := if z = 362 then some aM_362.1 else if z = 353 then some aM_353.1 else if z = 321 then some aM_321.1 else none
set_option maxRecDepth 100000 in
theorem tMs_2089 (sa : Nat → Nat) : ∀ z mz, tM_2089 z = some mz → am_meth (aP sa) z = some mz := by
  intro z mz h
  unfold tM_2089 at h
  rcases de_m h with ⟨rfl, rfl⟩ | h
  · exact (show am_meth (aP sa) 362 = some aM_362.1 from rfl)
  rcases de_m h with ⟨rfl, rfl⟩ | h
  · exact (show am_meth (aP sa) 353 = some aM_353.1 from rfl)
  rcases de_m h with ⟨rfl, rfl⟩ | h
  · exact (show am_meth (aP sa) 321 = some aM_321.1 from rfl)
  cases h
noncomputable def tV_2089 : tc_Ev := (aQ, tp_T, tp_G.2, tp_Z, tM_2089, tC_2089, tr_L, tK_2089.2.2.2.2.1, aM_364.1, aW_364, tK_2089.2.1, tK_2089.2.2.2.2.2, tJ_2089)
theorem tE_2089 : tK_2089.2.2.2.2.2.all (tc_wex tK_2089.2.1.1 tK_2089.2.1.2) = true := by decide +kernel
theorem tSS_2089 : tC_2089.all (fun c => tw_mg tK_2089.2.2.2.2.1 c.2.2.2.2.1) = true := by decide +kernel
theorem tHC_2089 : ∀ c ∈ tC_2089, c.2.2.2.2.1.all tK_2089.2.2.2.2.1.contains = true ∧ c.2.2.2.2.2.all (tc_wex c.2.1.1 c.2.1.2) = true := tf_hc tSS_2089 (by
  intro c hc
  have hc : c ∈ ([tK_2000, tK_2033, tK_2088] : List tc_Ct) := hc
  rcases List.mem_cons.mp hc with rfl | hc
  · exact tE_2000
  rcases List.mem_cons.mp hc with rfl | hc
  · exact tE_2033
  rcases List.mem_cons.mp hc with rfl | hc
  · exact tE_2088
  cases hc)
noncomputable def tH_2089_0 : List tc_It := [de_it 0x6010000, de_it 0x101, de_it 0x4010000, de_it 0x101, de_it 0xa010000, de_it 0x10001000100010103010101020101000000000000000000000000000000000e00000000ffffff72ff000400000201010300010006, de_it 0x10114010100000300000001, de_it 0x2010000, de_it 0x109010101080101010701010106010101050101010401010103010101020101010101010100010100000000000000000001000100010001120000010007, de_it 0x10000011701010300000001, de_it 0x8010000, de_it 0x1000100010001000000000000000000000000000000000c00000000ffffff76ff00000000007fffffbaff000202010006, de_it 0x2010000, de_it 0x300000001, de_it 0x2010000, de_it 0x109010101080101010701010106010101050101010401010115010101140101010101010100010100000000000000000001000100010001120000010007, de_it 0x8010000, de_it 0x1000100010001010a0101010b0101000000000000000000000000000000000e000000007fffffb8ff000000000204010300010006, de_it 0x10125010100000300000001, de_it 0x2010000, de_it 0x109010101080101010701010106010101050101010401010115010101140101010101010100010100000000000000000001000100010001120000010007, de_it 0x10000012801010300000001, de_it 0x8010000, de_it 0x1000100010001010c0101010d0101000000000000000000000000000000000e000000007fffffb8ff000000000205010300010006, de_it 0x4c4a2a281a1812100e0c0a0802000e000d, de_it 0x10000010e01010300000001, de_it 0x2010000, de_it 0x10701010106010101050101010401010103010101020101010b0101010a0101010101010100010100000000000000000001000100010001120000010007, de_it 0x5e5c4c4a2a2812100e0c0a0802000e000d, de_it 0x1010f010100000300000001, de_it 0x6010000, de_it 0x10001010d0101010c0101000000000000000000000000000000000c00000000ffffff76ff00000205010202010006, de_it 0xa010000, de_it 0x10b0101010a01010200000001, de_it 0x2010000, de_it 0x10001010a0101010b0101000000000000000000000000000000000c00000000ffffff76ff00000000007fffffbaff0104010202010006, de_it 0x10010000, de_it 0x101, de_it 0x2010000, de_it 0x101, de_it 0x8010000, de_it 0x107010101060101010501010104010101030101010201010109010101080101011d0101011e0101011b0101011c0101000000000000000000000000000000061400020301000202010002010100020a010002090105020004030006, de_it 0x54521a18161412100e0c0a080604020010000d, de_it 0x2010000, de_it 0x300000001, de_it 0x2010000, de_it 0x107010101060101010501010104010101030101010201010109010101080101010101010100010100000000000000000001000100010001120000010007, de_it 0x4010000, de_it 0x107010101060101010501010104010101030101010201010109010101080101010101010100010100000000000000000001000100010001120002010007]
set_option maxRecDepth 100000 in
theorem tR_2089 : fw_go tV_2089 tK_2089.2.1.1 tK_2089.2.1.2 none tH_2089_0 [(tK_2089.2.1, tK_2089.2.2.2.1, 0, tc_args 0 tK_2089.2.2.1, [], ([], 0), ([], 0))] = true := by decide +kernel
set_option maxRecDepth 100000 in
theorem tT_2089 {RO : am_O} {sa : Nat → Nat} (h_2000 : tc_true (aP sa) tp_G RO tp_T tp_Z tK_2000) (h_2033 : tc_true (aP sa) tp_G RO tp_T tp_Z tK_2033) (h_2088 : tc_true (aP sa) tp_G RO tp_T tp_Z tK_2088) : tc_true (aP sa) tp_G RO tp_T tp_Z tK_2089 := by
  have hC : ∀ c ∈ tC_2089, tc_true (aP sa) tp_G RO tp_T tp_Z c := by
    intro c hc
    have hc : c ∈ ([tK_2000, tK_2033, tK_2088] : List tc_Ct) := hc
    rcases List.mem_cons.mp hc with rfl | hc
    · exact h_2000
    rcases List.mem_cons.mp hc with rfl | hc
    · exact h_2033
    rcases List.mem_cons.mp hc with rfl | hc
    · exact h_2088
    cases hc
  have hP : ∀ p ∈ tJ_2089, ∃ hs, tc_plk (aP sa, tV_2089.2) p hs = true := by
    intro p hp
    have hp : p ∈ ([] : List tc_Pl) := hp
    cases hp
  exact tc_main (mt := aM_364.1) (hs := tH_2089_0) (PL := tJ_2089) ⟨tp_G_ok, tMs_2089 _, hC, tr_L_ok, tp_G_re⟩ (show am_meth (aP sa) 364 = some aM_364.1 from rfl) aX_364 (by decide +kernel) hP ((tc_go_sa (aP_sa sa _)).trans ((fw_go_s tHC_2089).trans tR_2089))
noncomputable def tK_2090 : tc_Ct := (414, (4, 2), [(2, ([], 0), 0), (0, ([(0, 1)], 0), 0), (0, ([(1, 1)], 0), 0), (2, ([], 0), 1), (0, ([(2, 1)], 0), 0), (0, ([(3, 1)], 0), 0)], ([([(0, -1)], 13600), ([(0, 1)], 0), ([(1, -1)], 400), ([(1, 1)], 0), ([(2, -1)], 5200), ([(2, 1)], 0), ([(3, -1)], 400), ([(3, 1)], 0)], [(0, 10), (1, 22)], [], [], [], [], []), [], [((4, 2), ([([(0, -1)], 13600), ([(0, 1)], 0), ([(1, -1)], 400), ([(1, 1)], 0), ([(2, -1)], 5200), ([(2, 1)], 0), ([(3, -1)], 400), ([(3, 1)], 0)], [], [], [], [], [], []), some (0, ([], 0), 0), ([], 0), ([], 0)), ((4, 2), ([([(0, -1)], 13600), ([(0, 1)], 0), ([(1, -1)], 400), ([(1, 1)], 0), ([(2, -1)], 5200), ([(2, 1)], 0), ([(3, -1)], 400), ([(3, 1)], 0), ([(1, -1), (3, 1)], 0), ([(1, 1), (3, -1)], 0)], [], [], [], [], [], []), some (0, ([], 1), 0), ([], 0), ([], 0))])
noncomputable def tL_2090_0 : tc_Pl := de_pl 0x30d20ff000001040201020000000000030d20ff00030000000000000002040100070000000006000002020100040100000203000002010100020000020001000100000002000710000000000016010a0002000203010000000000000320ff0103010002020100000000000028a0ff010201000201010000000000000320ff010101000200010000000000006a40ff010001080205
noncomputable def tL_2090_1 : tc_Pl := de_pl 0x30d20ff000001040201020000000000030d20ff00030000000000000002040100070002000006000002020100040100000203000002010100020000020001000100000002000710000000000016010a000200010302010200020301010200020401000203010000000000000320ff0103010002020100000000000028a0ff010201000201010000000000000320ff010101000200010000000000006a40ff0100010b0205
noncomputable def tJ_2090 : List tc_Pl := [tL_2090_0, tL_2090_1]
noncomputable def tC_2090 : List tc_Ct := []
def tM_2090 (z : Nat) : Option am_Meth := none
set_option maxRecDepth 100000 in
theorem tMs_2090 (sa : Nat → Nat) : ∀ z mz, tM_2090 z = some mz → am_meth (aP sa) z = some mz := fun z mz h => by cases h
noncomputable def tV_2090 : tc_Ev := (aQ, tp_T, tp_G.2, tp_Z, tM_2090, tC_2090, tr_L, tK_2090.2.2.2.2.1, aM_414.1, aW_414, tK_2090.2.1, tK_2090.2.2.2.2.2, tJ_2090)
theorem tE_2090 : tK_2090.2.2.2.2.2.all (tc_wex tK_2090.2.1.1 tK_2090.2.1.2) = true := by decide +kernel
theorem tSS_2090 : tC_2090.all (fun c => tw_mg tK_2090.2.2.2.2.1 c.2.2.2.2.1) = true := by decide +kernel
theorem tHC_2090 : ∀ c ∈ tC_2090, c.2.2.2.2.1.all tK_2090.2.2.2.2.1.contains = true ∧ c.2.2.2.2.2.all (tc_wex c.2.1.1 c.2.1.2) = true := tf_hc tSS_2090 (by
  intro c hc
  have hc : c ∈ ([] : List tc_Ct) := hc
  cases hc)
noncomputable def tH_2090_0 : List tc_It := [de_it 0x4010000, de_it 0x300000001, de_it 0x8010000, de_it 0x107010101060101010501010104010101030101010201010101010101000101000000000000000000000000000100011000000100010008, de_it 0xa010000, de_it 0x10801010109010100010107010101060101010501010104010101030101010201010101010101000101000000000000000000000000000100011300000102010008]
set_option maxRecDepth 100000 in
theorem tR_2090 : fw_go tV_2090 tK_2090.2.1.1 tK_2090.2.1.2 none tH_2090_0 [(tK_2090.2.1, tK_2090.2.2.2.1, 0, tc_args 0 tK_2090.2.2.1, [], ([], 0), ([], 0))] = true := by decide +kernel
noncomputable def tH_2090_1 : List tc_It := [de_it 0x2010000, de_it 0x10108010100000300000001, de_it 0x2010000, de_it 0x10701010106010101050101010401010103010101020101010101010100010100000000000000000001000100010001100000010007]
set_option maxRecDepth 100000 in
theorem tP_2090_0 : fw_plk tV_2090 tL_2090_0 tH_2090_1 = true := by decide +kernel
noncomputable def tH_2090_2 : List tc_It := [de_it 0x2010000, de_it 0x10000010c01010300000001, de_it 0x4010000, de_it 0x300000001, de_it 0x2010000, de_it 0x10a010101090101010701010106010101050101010401010103010101020101010101010100010100000000000000000001000100010001120002010007, de_it 0x6010000, de_it 0x10c0102010003010108010102010200000001, de_it 0x10011, de_it 0x10c010d010201000401010801010201020002040200020100010002, de_it 0x6010000, de_it 0x10c0102010403010108010502010200000001, de_it 0x2010011, de_it 0x10c0113010201040401010801050201020002040202020100010002, de_it 0x300000001, de_it 0x4010000, de_it 0x10c01020201010801010200000001, de_it 0x2010000, de_it 0x108010c010903010106010101050101010401010108010c020101020101010101010100010100000000010c01010001000000010001000110020204010100010008, de_it 0x6010000, de_it 0x10c01020201010801010200000001, de_it 0x2010000, de_it 0x10a010101090101010801010108010c010903010106010101050101010401010108010c020101020101010101010100010100000000010c01010001000000010001000113020204010102010008]
set_option maxRecDepth 100000 in
theorem tP_2090_1 : fw_plk tV_2090 tL_2090_1 tH_2090_2 = true := by decide +kernel
set_option maxRecDepth 100000 in
theorem tT_2090 {RO : am_O} {sa : Nat → Nat} : tc_true (aP sa) tp_G RO tp_T tp_Z tK_2090 := by
  have hC : ∀ c ∈ tC_2090, tc_true (aP sa) tp_G RO tp_T tp_Z c := by
    intro c hc
    have hc : c ∈ ([] : List tc_Ct) := hc
    cases hc
  have hP : ∀ p ∈ tJ_2090, ∃ hs, tc_plk (aP sa, tV_2090.2) p hs = true := by
    intro p hp
    have hp : p ∈ ([tL_2090_0, tL_2090_1] : List tc_Pl) := hp
    rcases List.mem_cons.mp hp with rfl | hp
    · exact ⟨_, (tc_plk_sa (aP_sa sa _)).trans ((fw_plk_s tHC_2090).trans tP_2090_0)⟩
    rcases List.mem_cons.mp hp with rfl | hp
    · exact ⟨_, (tc_plk_sa (aP_sa sa _)).trans ((fw_plk_s tHC_2090).trans tP_2090_1)⟩
    cases hp
  exact tc_main (mt := aM_414.1) (hs := tH_2090_0) (PL := tJ_2090) ⟨tp_G_ok, tMs_2090 _, hC, tr_L_ok, tp_G_re⟩ (show am_meth (aP sa) 414 = some aM_414.1 from rfl) aX_414 (by decide +kernel) hP ((tc_go_sa (aP_sa sa _)).trans ((fw_go_s tHC_2090).trans tR_2090))
noncomputable def tK_2091 : tc_Ct := (395, (1, 1), [(2, ([], 0), 0), (0, ([(0, 1)], 0), 0)], ([([(0, -1)], 5204), ([(0, 1)], 0)], [(0, 22)], [], [], [], [], []), [], [((2, 1), ([([(0, -1)], 5204), ([(0, 1)], 0), ([(1, -1)], 2147483647), ([(1, 1)], 2147483648)], [], [], [], [], [], []), some (0, ([(1, 1)], 0), 0), ([], 0), ([], 0))])
noncomputable def tJ_2091 : List tc_Pl := []
noncomputable def tC_2091 : List tc_Ct := []
def tM_2091 (z : Nat) : Option am_Meth := none
set_option maxRecDepth 100000 in
theorem tMs_2091 (sa : Nat → Nat) : ∀ z mz, tM_2091 z = some mz → am_meth (aP sa) z = some mz := fun z mz h => by cases h
noncomputable def tV_2091 : tc_Ev := (aQ, tp_T, tp_G.2, tp_Z, tM_2091, tC_2091, tr_L, tK_2091.2.2.2.2.1, aM_395.1, aW_395, tK_2091.2.1, tK_2091.2.2.2.2.2, tJ_2091)
theorem tE_2091 : tK_2091.2.2.2.2.2.all (tc_wex tK_2091.2.1.1 tK_2091.2.1.2) = true := by decide +kernel
theorem tSS_2091 : tC_2091.all (fun c => tw_mg tK_2091.2.2.2.2.1 c.2.2.2.2.1) = true := by decide +kernel
theorem tHC_2091 : ∀ c ∈ tC_2091, c.2.2.2.2.1.all tK_2091.2.2.2.2.1.contains = true ∧ c.2.2.2.2.2.all (tc_wex c.2.1.1 c.2.1.2) = true := tf_hc tSS_2091 (by
  intro c hc
  have hc : c ∈ ([] : List tc_Ct) := hc
  cases hc)
noncomputable def tH_2091_0 : List tc_It := [de_it 0x4010000, de_it 0x10011, de_it 0x102010002010101010102000200010100010002, de_it 0x2010000, de_it 0x101, de_it 0x6010000, de_it 0x1000101010101010200000001, de_it 0x102010002010101010102020200010100010002, de_it 0x2010000, de_it 0x10000ff0d01010000000000010000ff0c01010200000001, de_it 0x101, de_it 0x6010000, de_it 0x1000101010101010200000001, de_it 0x102010002010101010102040200010100010002, de_it 0x2010000, de_it 0x100ff1301010000000000000100ff1201010200000001, de_it 0x101, de_it 0x6010000, de_it 0x1000101010101010200000001, de_it 0x102010002010101010102060200010100010002, de_it 0x101, de_it 0x11a0101011b01010101010101000101000000000000000000000000000100010c000209010100010007]
set_option maxRecDepth 100000 in
theorem tR_2091 : fw_go tV_2091 tK_2091.2.1.1 tK_2091.2.1.2 none tH_2091_0 [(tK_2091.2.1, tK_2091.2.2.2.1, 0, tc_args 0 tK_2091.2.2.1, [], ([], 0), ([], 0))] = true := by decide +kernel
set_option maxRecDepth 100000 in
theorem tT_2091 {RO : am_O} {sa : Nat → Nat} : tc_true (aP sa) tp_G RO tp_T tp_Z tK_2091 := by
  have hC : ∀ c ∈ tC_2091, tc_true (aP sa) tp_G RO tp_T tp_Z c := by
    intro c hc
    have hc : c ∈ ([] : List tc_Ct) := hc
    cases hc
  have hP : ∀ p ∈ tJ_2091, ∃ hs, tc_plk (aP sa, tV_2091.2) p hs = true := by
    intro p hp
    have hp : p ∈ ([] : List tc_Pl) := hp
    cases hp
  exact tc_main (mt := aM_395.1) (hs := tH_2091_0) (PL := tJ_2091) ⟨tp_G_ok, tMs_2091 _, hC, tr_L_ok, tp_G_re⟩ (show am_meth (aP sa) 395 = some aM_395.1 from rfl) aX_395 (by decide +kernel) hP ((tc_go_sa (aP_sa sa _)).trans ((fw_go_s tHC_2091).trans tR_2091))
noncomputable def tK_2092 : tc_Ct := (415, (1, 1), [(2, ([], 0), 0), (0, ([(0, 1)], 0), 0)], ([([(0, -1)], 5200), ([(0, 1)], 0)], [(0, 22)], [], [], [], [], []), [], [((1, 1), ([([(0, -1)], 5200), ([(0, 1)], 0)], [], [], [], [], [], []), some (1, ([], 0), 0), ([], 0), ([], 0))])
noncomputable def tJ_2092 : List tc_Pl := []
noncomputable def tC_2092 : List tc_Ct := [tK_2091]
def tM_2092 (z : Nat) : Option am_Meth := if z = 395 then some aM_395.1 else none
set_option maxRecDepth 100000 in
theorem tMs_2092 (sa : Nat → Nat) : ∀ z mz, tM_2092 z = some mz → am_meth (aP sa) z = some mz := by
  intro z mz h
  unfold tM_2092 at h
  rcases de_m h with ⟨rfl, rfl⟩ | h
  · exact (show am_meth (aP sa) 395 = some aM_395.1 from rfl)
  cases h
noncomputable def tV_2092 : tc_Ev := (aQ, tp_T, tp_G.2, tp_Z, tM_2092, tC_2092, tr_L, tK_2092.2.2.2.2.1, aM_415.1, aW_415, tK_2092.2.1, tK_2092.2.2.2.2.2, tJ_2092)
theorem tE_2092 : tK_2092.2.2.2.2.2.all (tc_wex tK_2092.2.1.1 tK_2092.2.1.2) = true := by decide +kernel
theorem tSS_2092 : tC_2092.all (fun c => tw_mg tK_2092.2.2.2.2.1 c.2.2.2.2.1) = true := by decide +kernel
theorem tHC_2092 : ∀ c ∈ tC_2092, c.2.2.2.2.1.all tK_2092.2.2.2.2.1.contains = true ∧ c.2.2.2.2.2.all (tc_wex c.2.1.1 c.2.1.2) = true := tf_hc tSS_2092 (by
  intro c hc
  have hc : c ∈ ([tK_2091] : List tc_Ct) := hc
  rcases List.mem_cons.mp hc with rfl | hc
  · exact tE_2091
  cases hc)
noncomputable def tH_2092_0 : List tc_It := [de_it 0x4010000, de_it 0x101010101000101000000000000000000000000000000000a00020001010000020006, de_it 0xc010000, de_it 0x1000101010101010200000001, de_it 0x101010101000101000000000000000000000000000000000a08020001010000020006, de_it 0x8010000, de_it 0x101010101000101000000000000000000000000000100010a0000010007]
set_option maxRecDepth 100000 in
theorem tR_2092 : fw_go tV_2092 tK_2092.2.1.1 tK_2092.2.1.2 none tH_2092_0 [(tK_2092.2.1, tK_2092.2.2.2.1, 0, tc_args 0 tK_2092.2.2.1, [], ([], 0), ([], 0))] = true := by decide +kernel
set_option maxRecDepth 100000 in
theorem tT_2092 {RO : am_O} {sa : Nat → Nat} (h_2091 : tc_true (aP sa) tp_G RO tp_T tp_Z tK_2091) : tc_true (aP sa) tp_G RO tp_T tp_Z tK_2092 := by
  have hC : ∀ c ∈ tC_2092, tc_true (aP sa) tp_G RO tp_T tp_Z c := by
    intro c hc
    have hc : c ∈ ([tK_2091] : List tc_Ct) := hc
    rcases List.mem_cons.mp hc with rfl | hc
    · exact h_2091
    cases hc
  have hP : ∀ p ∈ tJ_2092, ∃ hs, tc_plk (aP sa, tV_2092.2) p hs = true := by
    intro p hp
    have hp : p ∈ ([] : List tc_Pl) := hp
    cases hp
  exact tc_main (mt := aM_415.1) (hs := tH_2092_0) (PL := tJ_2092) ⟨tp_G_ok, tMs_2092 _, hC, tr_L_ok, tp_G_re⟩ (show am_meth (aP sa) 415 = some aM_415.1 from rfl) aX_415 (by decide +kernel) hP ((tc_go_sa (aP_sa sa _)).trans ((fw_go_s tHC_2092).trans tR_2092))
noncomputable def tK_2093 : tc_Ct := (413, (4, 3), [(2, ([], 0), 0), (0, ([(0, 1)], 0), 0), (0, ([(1, 1)], 0), 0), (0, ([(2, 1)], 0), 0), (2, ([], 0), 1), (0, ([(3, 8)], 0), 0), (2, ([], 0), 2)], ([([(0, -1)], 33), ([(0, 1)], 0), ([(1, -1)], 33), ([(1, 1)], 0), ([(2, -1)], 2147483647), ([(2, 1)], 2147483648), ([(3, -1)], 12), ([(3, 1)], 0)], [(0, 0), (1, 24), (2, 22)], [], [], [], [], []), [(0, 5), (0, 6), (0, 7), (0, 8), (0, 9), (0, 10), (0, 11)], [((4, 3), ([([(0, -1)], 33), ([(0, 1)], 0), ([(1, -1)], 33), ([(1, 1)], 0), ([(2, -1)], 2147483647), ([(2, 1)], 2147483648), ([(3, -1)], 12), ([(3, 1)], 0)], [], [], [], [], [], []), some (0, ([], 0), 0), ([], 0), ([], 0)), ((4, 3), ([([(0, -1)], 33), ([(0, 1)], 0), ([(1, -1)], 33), ([(1, 1)], 0), ([(2, -1)], 2147483647), ([(2, 1)], 2147483648), ([(3, -1)], 12), ([(3, 1)], 0), ([(3, -400)], 4800), ([(3, 400)], 0)], [], [], [(0, 9, (0, ([], 0), 0)), (0, 10, (1, ([], 0), 0))], [], [], []), some (0, ([], 1), 0), ([], 0), ([], 0))])
noncomputable def tJ_2093 : List tc_Pl := []
noncomputable def tC_2093 : List tc_Ct := [tK_2090, tK_2000, tK_2092, tK_2089]
def tM_2093 (z : Nat) : Option am_Meth := if z = 415 then some aM_415.1 else if z = 414 then some aM_414.1 else if z = 364 then some aM_364.1 else if z = 321 then some aM_321.1 else none
set_option maxRecDepth 100000 in
theorem tMs_2093 (sa : Nat → Nat) : ∀ z mz, tM_2093 z = some mz → am_meth (aP sa) z = some mz := by
  intro z mz h
  unfold tM_2093 at h
  rcases de_m h with ⟨rfl, rfl⟩ | h
  · exact (show am_meth (aP sa) 415 = some aM_415.1 from rfl)
  rcases de_m h with ⟨rfl, rfl⟩ | h
  · exact (show am_meth (aP sa) 414 = some aM_414.1 from rfl)
  rcases de_m h with ⟨rfl, rfl⟩ | h
  · exact (show am_meth (aP sa) 364 = some aM_364.1 from rfl)
  rcases de_m h with ⟨rfl, rfl⟩ | h
  · exact (show am_meth (aP sa) 321 = some aM_321.1 from rfl)
  cases h
noncomputable def tV_2093 : tc_Ev := (aQ, tp_T, tp_G.2, tp_Z, tM_2093, tC_2093, tr_L, tK_2093.2.2.2.2.1, aM_413.1, aW_413, tK_2093.2.1, tK_2093.2.2.2.2.2, tJ_2093)
theorem tE_2093 : tK_2093.2.2.2.2.2.all (tc_wex tK_2093.2.1.1 tK_2093.2.1.2) = true := by decide +kernel
theorem tSS_2093 : tC_2093.all (fun c => tw_mg tK_2093.2.2.2.2.1 c.2.2.2.2.1) = true := by decide +kernel
theorem tHC_2093 : ∀ c ∈ tC_2093, c.2.2.2.2.1.all tK_2093.2.2.2.2.1.contains = true ∧ c.2.2.2.2.2.all (tc_wex c.2.1.1 c.2.1.2) = true := tf_hc tSS_2093 (by
  intro c hc
  have hc : c ∈ ([tK_2090, tK_2000, tK_2092, tK_2089] : List tc_Ct) := hc
  rcases List.mem_cons.mp hc with rfl | hc
  · exact tE_2090
  rcases List.mem_cons.mp hc with rfl | hc
  · exact tE_2000
  rcases List.mem_cons.mp hc with rfl | hc
  · exact tE_2092
  rcases List.mem_cons.mp hc with rfl | hc
  · exact tE_2089
  cases hc)
noncomputable def tH_2093_0 : List tc_It := [de_it 0x2010000, de_it 0x2, de_it 0x2010000, de_it 0x2, de_it 0x4010000, de_it 0x2000101020101010200000001, de_it 0x8010011, de_it 0x108020002010201010102000200010100010002, de_it 0x2010000, de_it 0x2, de_it 0x4010000, de_it 0x2000101020101010200000001, de_it 0x2010000, de_it 0x2000101020101010200000001, de_it 0x108020002010201010102000200010102010002, de_it 0x6010000, de_it 0x2010011, de_it 0x112080602010807010102000203010100010002, de_it 0x2e2c2422201a180e0c0a08060402000f000d, de_it 0x6010000, de_it 0x8060101080701010200000001, de_it 0x10c080602010807010102000203010102010002, de_it 0x111010101120101010d0101010e0000000000000190ff060201010a0101010b01010108010101090000000000000190ff00020100000000000000000000000000000000100002090100020801000206010002050104040600030006, de_it 0xe0c0a080604020008000d, de_it 0x10108010100000300000001, de_it 0x6010000, de_it 0x10000010a01010300000001, de_it 0x2010000, de_it 0x10701010106010101050101010401010103010101020101010101010100010100000000000000000001000100010001100000010007, de_it 0x180e0c0a080604020009000d, de_it 0x10000010a01010300000001, de_it 0xa010000, de_it 0x8060101080701010200000001, de_it 0x108080602010807010102000203010106010002, de_it 0x8010000, de_it 0x8060101080701010200000001, de_it 0x108080602010807010102000203010108010002, de_it 0x2010000, de_it 0x10e0101010f0101010a0101010b01010105010101040101000000000000000000000000000000000e00020b0100020a01000202010302010006, de_it 0xe0c0a080604020008000d, de_it 0x10108010100000300000001, de_it 0x6010000, de_it 0x10000010a01010300000001, de_it 0x2010000, de_it 0x10701010106010101050101010401010103010101020101010101010100010100000000000000000001000100010001100000010007, de_it 0x100e0c0a080604020009000d, de_it 0x10000010a01010300000001, de_it 0x2010000, de_it 0x2, de_it 0x4010000, de_it 0x8020101080301010200000001, de_it 0x2010000, de_it 0x8020101080301010200000001, de_it 0xa010011, de_it 0x10a08020201080301010200000002, de_it 0x4010000, de_it 0x10e0101000000000300000001, de_it 0xe0c0a080604020008000d, de_it 0x6010000, de_it 0x10000010801010300000001, de_it 0x2010000, de_it 0x10701010106010101050101010401010103010101020101010101010100010100000000000000000001000100010001100000010007, de_it 0x8010000, de_it 0x10112010100000300000001, de_it 0x14100e0c0a08060402000a000d, de_it 0x4010000, de_it 0x80701010100000001, de_it 0x10b0108010a010802000203010100010013, de_it 0x10b01080100020f0103020100000e, de_it 0x2010000, de_it 0x190ff0601010000000000000190ff0701010200000001, de_it 0x8010000, de_it 0x190ff0601010000000000000190ff0701010200000001, de_it 0x4010011, de_it 0x10d0000000000000190ff0602010000000000000190ff07010102020000000000000320ff03010100010002, de_it 0x1a12100e0c0a08060402000b000d, de_it 0x2010000, de_it 0x300000001, de_it 0x6010000, de_it 0x190ff0601010000000000000190ff0701010200000001, de_it 0x10a0000000000000190ff0602010000000000000190ff0701010200000002, de_it 0x2010000, de_it 0x300000001, de_it 0xc010000, de_it 0x8060101080701010200000001, de_it 0x10808060201080701010200020301010a010002, de_it 0x2010000, de_it 0x2, de_it 0x4010000, de_it 0x8020101080301010200000001, de_it 0x2010000, de_it 0x8020101080301010200000001, de_it 0x10908020201080301010200000002, de_it 0x8010000, de_it 0x8060101080701010200000001, de_it 0x10808060201080701010200020301010c010002, de_it 0x114010101150000000000000190ff060201000000000000000000000000000000000a00021401010404020006, de_it 0x2c2a2822201a18100e0c0a080604020010000d, de_it 0x6010000, de_it 0x190ff0601010000000000000190ff0701010200000001, de_it 0x6010000, de_it 0x8060101080701010200000001, de_it 0x10808060201080701010200000002, de_it 0x2010000, de_it 0x10f0101010d01010200000001, de_it 0x2010000, de_it 0x10e0101010d0000000000000190ff0602010200000001, de_it 0x2010000, de_it 0x10e0101010d0000000000000190ff0602010200000001, de_it 0x10d0101010f0101010d0000000000000190ff060201010e01010000000000000190ff0701010000000000000190ff060101010b0101010c010101090101010a010100000000000000000000000000000006120b0214000000000000031fff0302080000000000000320ff0301000213010002120104040006030006, de_it 0x280e0a080604020008000d, de_it 0x10601010107010000000000000190ff01050101010401010103010101020101010101010100010100000000000000000001000100010001100000010007, de_it 0x280e0a080604020008000d, de_it 0x190ff06010101070101010601010107010000000000000190ff01050101010401010103010101020101010101010100010100000000000000000001000100010001120002010007, de_it 0xe010000, de_it 0x8060101080701010200000001, de_it 0x10808060201080701010200020301010a010002, de_it 0x2010000, de_it 0x2, de_it 0x4010000, de_it 0x8020101080301010200000001, de_it 0x2010000, de_it 0x8020101080301010200000001, de_it 0x10908020201080301010200000002, de_it 0x8010000, de_it 0x8060101080701010200000001, de_it 0x10808060201080701010200020301010c010002, de_it 0x2e2c26241e1c100e0c0a08060402000f000d, de_it 0x10d0101010e0000000000000190ff060201000000000000000000000000000000000a00021401010404020006, de_it 0x6010000, de_it 0x190ff0601010000000000000190ff0701010200000001, de_it 0x6010000, de_it 0x8060101080701010200000001, de_it 0x10808060201080701010200000002, de_it 0x2010000, de_it 0x10f0101010d01010200000001, de_it 0x2010000, de_it 0x10e0101010d0000000000000190ff0602010200000001, de_it 0x2010000, de_it 0x10e0101010d0000000000000190ff0602010200000001, de_it 0x10d0101010f0101010d0000000000000190ff060201010e01010000000000000190ff0701010000000000000190ff060101010b0101010c010101090101010a01010000000000000000000000000000000612090214000000000000031fff0302060000000000000320ff0301000213010002120104040006030006, de_it 0xe0c0a080604020008000d, de_it 0x10701010106010101050101010401010103010101020101010101010100010100000000000000000001000100010001100000010007, de_it 0xe0c0a080604020008000d, de_it 0x190ff0701010000000000000190ff060101010701010106010101050101010401010103010101020101010101010100010100000000000000000001000100010001120002010007, de_it 0xe010000, de_it 0x8060101080701010200000001, de_it 0x10808060201080701010200020301010a010002, de_it 0x2010000, de_it 0x2, de_it 0x4010000, de_it 0x8020101080301010200000001, de_it 0x2010000, de_it 0x8020101080301010200000001, de_it 0x10908020201080301010200000002, de_it 0x8010000, de_it 0x8060101080701010200000001, de_it 0x10808060201080701010200020301010c010002, de_it 0x114010101150000000000000190ff060201000000000000000000000000000000000a00021401010404020006, de_it 0x2c2a2822201a18100e0c0a080604020010000d, de_it 0x6010000, de_it 0x190ff0601010000000000000190ff0701010200000001, de_it 0x6010000, de_it 0x8060101080701010200000001, de_it 0x10808060201080701010200000002, de_it 0x2010000, de_it 0x10f0101010d01010200000001, de_it 0x2010000, de_it 0x10e0101010d0000000000000190ff0602010200000001, de_it 0x2010000, de_it 0x10e0101010d0000000000000190ff0602010200000001, de_it 0x10d0101010f0101010d0000000000000190ff060201010e01010000000000000190ff0701010000000000000190ff060101010b0101010c010101090101010a01010000000000000000000000000000000612070214000000000000031fff0302040000000000000320ff0301000213010002120104040006030006, de_it 0x2a0c0a080604020008000d, de_it 0x107010000000000000190ff0106010101050101010401010103010101020101010101010100010100000000000000000001000100010001100000010007, de_it 0x2a0c0a080604020008000d, de_it 0x10701010000000000000190ff0601010107010000000000000190ff0106010101050101010401010103010101020101010101010100010100000000000000000001000100010001120002010007]
set_option maxRecDepth 100000 in
theorem tR_2093 : fw_go tV_2093 tK_2093.2.1.1 tK_2093.2.1.2 none tH_2093_0 [(tK_2093.2.1, tK_2093.2.2.2.1, 0, tc_args 0 tK_2093.2.2.1, [], ([], 0), ([], 0))] = true := by decide +kernel
set_option maxRecDepth 100000 in
theorem tT_2093 {RO : am_O} {sa : Nat → Nat} (h_2000 : tc_true (aP sa) tp_G RO tp_T tp_Z tK_2000) (h_2089 : tc_true (aP sa) tp_G RO tp_T tp_Z tK_2089) (h_2090 : tc_true (aP sa) tp_G RO tp_T tp_Z tK_2090) (h_2092 : tc_true (aP sa) tp_G RO tp_T tp_Z tK_2092) : tc_true (aP sa) tp_G RO tp_T tp_Z tK_2093 := by
  have hC : ∀ c ∈ tC_2093, tc_true (aP sa) tp_G RO tp_T tp_Z c := by
    intro c hc
    have hc : c ∈ ([tK_2090, tK_2000, tK_2092, tK_2089] : List tc_Ct) := hc
    rcases List.mem_cons.mp hc with rfl | hc
    · exact h_2090
    rcases List.mem_cons.mp hc with rfl | hc
    · exact h_2000
    rcases List.mem_cons.mp hc with rfl | hc
    · exact h_2092
    rcases List.mem_cons.mp hc with rfl | hc
    · exact h_2089
    cases hc
  have hP : ∀ p ∈ tJ_2093, ∃ hs, tc_plk (aP sa, tV_2093.2) p hs = true := by
    intro p hp
    have hp : p ∈ ([] : List tc_Pl) := hp
    cases hp
  exact tc_main (mt := aM_413.1) (hs := tH_2093_0) (PL := tJ_2093) ⟨tp_G_ok, tMs_2093 _, hC, tr_L_ok, tp_G_re⟩ (show am_meth (aP sa) 413 = some aM_413.1 from rfl) aX_413 (by decide +kernel) hP ((tc_go_sa (aP_sa sa _)).trans ((fw_go_s tHC_2093).trans tR_2093))
noncomputable def tK_2094 : tc_Ct := (412, (3, 1), [(2, ([], 0), 0), (0, ([(0, 1)], 0), 0), (0, ([(1, 1)], 0), 0), (0, ([(2, 1)], 0), 0)], ([([(0, -1)], 33), ([(0, 1)], 0), ([(1, -1)], 33), ([(1, 1)], 0), ([(2, -1)], 2147483647), ([(2, 1)], 2147483648)], [(0, 0)], [], [], [], [], []), [(0, 5), (0, 6), (0, 7), (0, 8), (0, 9), (0, 10), (0, 11)], [((4, 1), ([([(0, -1)], 33), ([(0, 1)], 0), ([(1, -1)], 33), ([(1, 1)], 0), ([(2, -1)], 2147483647), ([(2, 1)], 2147483648), ([(3, -1)], 2147483647), ([(3, 1)], 2147483648)], [], [], [], [], [], []), some (0, ([(3, 1)], 0), 0), ([], 0), ([], 0))])
noncomputable def tL_2094_0 : tc_Pl := de_pl 0x30c54ff00180103010000000000030c54ff00030000000000000002030100050007000004000002020100030000020101000200000200010001000000020006760000000000020401002f000100000001000203010000000100000000ff02020100000000fffffffeff01020100020101420101010002000142010001070105
noncomputable def tL_2094_1 : tc_Pl := de_pl 0x30c54ff00180104010000000000030c54ff000300000000000000020401000500000203010004000002020100030000020101000200000200010001000000020006760000000000020501002f000100000228000200000226000000020601002500040013021501000003010204010302000000000000000320ff03010000000000002260ff000000000000031fff030118010601010204010000000100000000ff02020100000000fffffffeff010201000201014201010100020001420100010b0307
noncomputable def tL_2094_2 : tc_Pl := de_pl 0x30d18ff000401040203020000000000030d18ff0003000000000000000203010004000002020100030000020101000200000200010001000000020005140000000000020401002f00010000000102010401180103010000000100000000ff02020100000000fffffffeff01020100020101420101010002000142010001080105
noncomputable def tL_2094_3 : tc_Pl := de_pl 0x30b7eff000000000000007d00ff0105010000000000030b7eff0003000000000000000205010007000002040100060000020301000400000200010001000000020005e10000000000020701002f000200000228000100000226000000020601002500040015021301000003000205010402000205010002040100020301160103010000000100000000ff02020100000000fffffffeff010201000201014201010100020001420100010b0308
noncomputable def tJ_2094 : List tc_Pl := [tL_2094_0, tL_2094_1, tL_2094_2, tL_2094_3]
noncomputable def tC_2094 : List tc_Ct := [tK_2086, tK_2093, tK_2080]
def tM_2094 (z : Nat) : Option am_Meth := if z = 413 then some aM_413.1 else if z = 395 then some aM_395.1 else none
set_option maxRecDepth 100000 in
theorem tMs_2094 (sa : Nat → Nat) : ∀ z mz, tM_2094 z = some mz → am_meth (aP sa) z = some mz := by
  intro z mz h
  unfold tM_2094 at h
  rcases de_m h with ⟨rfl, rfl⟩ | h
  · exact (show am_meth (aP sa) 413 = some aM_413.1 from rfl)
  rcases de_m h with ⟨rfl, rfl⟩ | h
  · exact (show am_meth (aP sa) 395 = some aM_395.1 from rfl)
  cases h
noncomputable def tV_2094 : tc_Ev := (aQ, tp_T, tp_G.2, tp_Z, tM_2094, tC_2094, tr_L, tK_2094.2.2.2.2.1, aM_412.1, aW_412, tK_2094.2.1, tK_2094.2.2.2.2.2, tJ_2094)
theorem tE_2094 : tK_2094.2.2.2.2.2.all (tc_wex tK_2094.2.1.1 tK_2094.2.1.2) = true := by decide +kernel
theorem tSS_2094 : tC_2094.all (fun c => tw_mg tK_2094.2.2.2.2.1 c.2.2.2.2.1) = true := by decide +kernel
theorem tHC_2094 : ∀ c ∈ tC_2094, c.2.2.2.2.1.all tK_2094.2.2.2.2.1.contains = true ∧ c.2.2.2.2.2.all (tc_wex c.2.1.1 c.2.1.2) = true := tf_hc tSS_2094 (by
  intro c hc
  have hc : c ∈ ([tK_2086, tK_2093, tK_2080] : List tc_Ct) := hc
  rcases List.mem_cons.mp hc with rfl | hc
  · exact tE_2086
  rcases List.mem_cons.mp hc with rfl | hc
  · exact tE_2093
  rcases List.mem_cons.mp hc with rfl | hc
  · exact tE_2080
  cases hc)
noncomputable def tH_2094_0 : List tc_It := [de_it 0x2010000, de_it 0x2, de_it 0x1060101000000000300000001, de_it 0x2010000, de_it 0x2, de_it 0x2010000, de_it 0x10b0101010a01010200000001, de_it 0x2010000, de_it 0x1090101010b0101010501010104010101030101010201010101010101000101000000000000000000000000000100011000020301010204010204010008, de_it 0x6010000, de_it 0x1070101000101050101010401010103010101020101010101010100010100000000000000000000000000010001100002030118000204010008]
set_option maxRecDepth 100000 in
theorem tR_2094 : fw_go tV_2094 tK_2094.2.1.1 tK_2094.2.1.2 none tH_2094_0 [(tK_2094.2.1, tK_2094.2.2.2.1, 0, tc_args 0 tK_2094.2.2.1, [], ([], 0), ([], 0))] = true := by decide +kernel
noncomputable def tH_2094_1 : List tc_It := [de_it 0x4010000, de_it 0x2, de_it 0x300000001, de_it 0x4010000, de_it 0x10000010a01010300000001, de_it 0x2010000, de_it 0x10001010501010104010101030101010201010101010101000101000000000000000000000000000100011004000100010007, de_it 0x4010000, de_it 0x1010a010100000300000001, de_it 0xa010000, de_it 0x2, de_it 0x4010000, de_it 0x80908080201080601010200000001, de_it 0x2010000, de_it 0x2, de_it 0x10601010109010802010105010101040101010301010102010101010101010001010000000000000000000000000000000610000203010002020100020101000200010404020000040006, de_it 0x10114010100000300000001, de_it 0x1120101010601010200000001, de_it 0x2010000, de_it 0x10601010105010101040101010301010102010101010101010001010000000001120101000100000001000100010f00020401020203010200010008, de_it 0x10000011701010300000001, de_it 0x4010000, de_it 0x114010000000000000190ff0115010000000000000190ff0200000001, de_it 0x2010000, de_it 0x10115010101140101010801010115010000000000000190ff010501010104010101030101010201010101010101000101000000000114010000000000000190ff00010000000100010001130002050100020401020203010002030104040202030008]
set_option maxRecDepth 100000 in
theorem tP_2094_0 : fw_plk tV_2094 tL_2094_0 tH_2094_1 = true := by decide +kernel
noncomputable def tH_2094_2 : List tc_It := [de_it 0x4010000, de_it 0x2, de_it 0x300000001, de_it 0x4010000, de_it 0x109010000000000000190ff0000000000000190ff0d0109020100000300000001, de_it 0x2010000, de_it 0x2, de_it 0x4010000, de_it 0x1080132010901320200000001, de_it 0x2010000, de_it 0x1080132010901320200000001, de_it 0x2010011, de_it 0x320d01080232010901320200020301010e010002, de_it 0xa010000, de_it 0x11101010111010100010109010000000000000190ff0108010000000000000190ff010501010104010101030101010201010101010101000101000000000000000000010001000100011300020501000206010002080100000002030105020406030008, de_it 0x4010000, de_it 0x109010000000000000190ff00000000000000000190ff0d010902010300000001, de_it 0x2010000, de_it 0x2, de_it 0x4010000, de_it 0x80b08070201080601010200000001, de_it 0x2010000, de_it 0x80b08070201080601010200000001, de_it 0x2010011, de_it 0x80b010d080703010806010102000204010104010002, de_it 0x2010000, de_it 0x2, de_it 0x4010000, de_it 0x80b080a08070301010901320200000001, de_it 0x2010000, de_it 0x80b080a08070301010901320200000001, de_it 0x80b080a010d080704010109013202000203010104010002, de_it 0x300000001, de_it 0x10b01070201010601010200000001, de_it 0x2010000, de_it 0x10a0101010901010000000000000190ff0b0000000000000190ff0a0000000000000190ff070301010701010106010101050101010401010103010101020101010101010100010100000000010b0107020100010000000100010001130002060100020501020204010002030104040202030008, de_it 0xa010000, de_it 0x2, de_it 0x4010000, de_it 0x80b08070201080601010200000001, de_it 0x2010000, de_it 0x2, de_it 0x1060101010b010702010105010101040101010301010102010101010101010001010000000000000000000000000000000610000204010002020100020101000200010404020000040006, de_it 0x10120010100000300000001, de_it 0x11e0101010601010200000001, de_it 0x2010000, de_it 0x10a0101010901010000000000000190ff0a0000000000000190ff1e0201010701010106010101050101010401010103010101020101010101010100010100000000011e010100010000000100010001130002060100020501020204010002030104040202030008, de_it 0x10000012301010300000001, de_it 0x4010000, de_it 0x120010000000000000190ff010601010200000001, de_it 0x2010000, de_it 0x10000000000000190ff060101012001010107010101060101010501010104010101030101010201010101010101000101000000000120010000000000000190ff00010000000100010001130002060100020501020204010002040104040202030008]
set_option maxRecDepth 100000 in
theorem tP_2094_1 : fw_plk tV_2094 tL_2094_1 tH_2094_2 = true := by decide +kernel
noncomputable def tH_2094_3 : List tc_It := [de_it 0x2010000, de_it 0x300000001, de_it 0x8010000, de_it 0x1010501010104010101030101010201010101010101000101000000000000000000010001000100010f0002040100000200010008, de_it 0x2010000, de_it 0x2, de_it 0x4010000, de_it 0x8060101080801010200000001, de_it 0x2010000, de_it 0x8060101080801010200000001, de_it 0x2010011, de_it 0x109080602010808010102000203010104010002, de_it 0x2010000, de_it 0x2, de_it 0x4010000, de_it 0x8000101080101010200000001, de_it 0x4010011, de_it 0x10f08000201080101010200000002, de_it 0x300000001, de_it 0x4010000, de_it 0x1060101000000000300000001, de_it 0x4010000, de_it 0x1130101010801010200000001, de_it 0x4010000, de_it 0x10701010113010101050101010401010103010101020101010101010100010100000000010701080201000100000001000100011000020401010203010204010008, de_it 0x2010000, de_it 0x2, de_it 0x2010000, de_it 0x1160101011501010200000001, de_it 0x6010000, de_it 0x1070101011601010105010101040101010301010102010101010101010001010000000001070113020101160113020100000001000100011000020401010209010204010008, de_it 0xa010000, de_it 0x2, de_it 0x4010000, de_it 0x8060101080801010200000001, de_it 0x2010000, de_it 0x2, de_it 0x1080101010601010105010101040101010301010102010101010101010001010000000000000000000000000000000610000203010002020100020101000200010406020002040006, de_it 0x1011d010100000300000001, de_it 0x4010000, de_it 0x1060101000000000300000001, de_it 0x4010000, de_it 0x11f0101010801010200000001, de_it 0x4010000, de_it 0x1070101011f010101050101010401010103010101020101010101010100010100000000010701080201000100000001000100011000020401010203010204010008, de_it 0x2010000, de_it 0x2, de_it 0x2010000, de_it 0x1220101012101010200000001, de_it 0x6010000, de_it 0x107010101220101010501010104010101030101010201010101010101000101000000000107011f02010122011f020100000001000100011000020401010209010204010008, de_it 0x10000012001010300000001, de_it 0x2010000, de_it 0x2, de_it 0x4010000, de_it 0x11d0132011e01320200000001, de_it 0x2010000, de_it 0x11d0132011e01320200000001, de_it 0x3209011d0232011e01320200020301010e010002, de_it 0x1200101012101010105010101040101010301010102010101010101010001010000000000000000000000000001000110000209010100010007]
set_option maxRecDepth 100000 in
theorem tP_2094_2 : fw_plk tV_2094 tL_2094_2 tH_2094_3 = true := by decide +kernel
noncomputable def tH_2094_4 : List tc_It := [de_it 0x4010000, de_it 0x2, de_it 0x4010000, de_it 0x8060101080701010200000001, de_it 0x2010000, de_it 0x8060101080701010200000001, de_it 0x4010011, de_it 0x10b08060201080701010200020301010c010002, de_it 0x2010000, de_it 0x1100000000000000190ff060201010f01010200000001, de_it 0x300000001, de_it 0x2010000, de_it 0x1080101000000000300000001, de_it 0x2010000, de_it 0x10001010501010104010101030101010201010101010101000101000000000000000000000000000100011000000100010007, de_it 0x4010000, de_it 0x10001010501010104010101030101010201010101010101000101000000000000000000000000000100011002000100010007, de_it 0x2010000, de_it 0x1080101000000000300000001, de_it 0x6010000, de_it 0x11001110000000000000190ff0603010112010a02010200000001, de_it 0x2010000, de_it 0x112010a02010112010a02010001010701010106010101050101010401010103010101020101010101010100010100000000011001110000000000000190ff060301000100000001000100011300020701000206010802050102000002030105040206030008, de_it 0x2010000, de_it 0x2, de_it 0x2010000, de_it 0x1090101011001110000000000000190ff060301000000000000000000000000000000000a00020501010204020006, de_it 0x2010000, de_it 0x2, de_it 0x4010000, de_it 0x8000101080101010200000001, de_it 0x6010011, de_it 0x11808000201080101010200000002, de_it 0x300000001, de_it 0x4010000, de_it 0x11001110000000000000190ff060301010901010200000001, de_it 0x2010000, de_it 0x1090101010901010001010701010106010101050101010401010103010101020101010101010100010100000000011001110000000000000190ff060301000100000001000100011300020701000206010802050100000002030105040206030008, de_it 0x6010000, de_it 0x11001110000000000000190ff060301010901010200000001, de_it 0x2010000, de_it 0x1090101010901010001010701010106010101050101010401010103010101020101010101010100010100000000011001110000000000000190ff060301000100000001000100011300020701000206010802050102000002030105040206030008]
set_option maxRecDepth 100000 in
theorem tP_2094_3 : fw_plk tV_2094 tL_2094_3 tH_2094_4 = true := by decide +kernel
set_option maxRecDepth 100000 in
theorem tT_2094 {RO : am_O} {sa : Nat → Nat} (h_2080 : tc_true (aP sa) tp_G RO tp_T tp_Z tK_2080) (h_2086 : tc_true (aP sa) tp_G RO tp_T tp_Z tK_2086) (h_2093 : tc_true (aP sa) tp_G RO tp_T tp_Z tK_2093) : tc_true (aP sa) tp_G RO tp_T tp_Z tK_2094 := by
  have hC : ∀ c ∈ tC_2094, tc_true (aP sa) tp_G RO tp_T tp_Z c := by
    intro c hc
    have hc : c ∈ ([tK_2086, tK_2093, tK_2080] : List tc_Ct) := hc
    rcases List.mem_cons.mp hc with rfl | hc
    · exact h_2086
    rcases List.mem_cons.mp hc with rfl | hc
    · exact h_2093
    rcases List.mem_cons.mp hc with rfl | hc
    · exact h_2080
    cases hc
  have hP : ∀ p ∈ tJ_2094, ∃ hs, tc_plk (aP sa, tV_2094.2) p hs = true := by
    intro p hp
    have hp : p ∈ ([tL_2094_0, tL_2094_1, tL_2094_2, tL_2094_3] : List tc_Pl) := hp
    rcases List.mem_cons.mp hp with rfl | hp
    · exact ⟨_, (tc_plk_sa (aP_sa sa _)).trans ((fw_plk_s tHC_2094).trans tP_2094_0)⟩
    rcases List.mem_cons.mp hp with rfl | hp
    · exact ⟨_, (tc_plk_sa (aP_sa sa _)).trans ((fw_plk_s tHC_2094).trans tP_2094_1)⟩
    rcases List.mem_cons.mp hp with rfl | hp
    · exact ⟨_, (tc_plk_sa (aP_sa sa _)).trans ((fw_plk_s tHC_2094).trans tP_2094_2)⟩
    rcases List.mem_cons.mp hp with rfl | hp
    · exact ⟨_, (tc_plk_sa (aP_sa sa _)).trans ((fw_plk_s tHC_2094).trans tP_2094_3)⟩
    cases hp
  exact tc_main (mt := aM_412.1) (hs := tH_2094_0) (PL := tJ_2094) ⟨tp_G_ok, tMs_2094 _, hC, tr_L_ok, tp_G_re⟩ (show am_meth (aP sa) 412 = some aM_412.1 from rfl) aX_412 (by decide +kernel) hP ((tc_go_sa (aP_sa sa _)).trans ((fw_go_s tHC_2094).trans tR_2094))
noncomputable def tK_2095 : tc_Ct := (411, (3, 1), [(2, ([], 0), 0), (0, ([(0, 1)], 0), 0), (0, ([(1, 1)], 0), 0), (0, ([(2, 1)], 0), 0)], ([([(0, -1)], 2147483647), ([(0, 1)], 2147483648), ([(1, -1)], 2147483647), ([(1, 1)], 2147483648), ([(2, -1)], 2147483647), ([(2, 1)], 2147483648)], [(0, 0)], [], [], [], [], []), [(0, 5), (0, 6), (0, 7), (0, 8), (0, 9), (0, 10), (0, 11), (0, 47)], [((4, 1), ([([(0, -1)], 2147483647), ([(0, 1)], 2147483648), ([(1, -1)], 2147483647), ([(1, 1)], 2147483648), ([(2, -1)], 2147483647), ([(2, 1)], 2147483648), ([(3, -1)], 2147483647), ([(3, 1)], 2147483648)], [], [], [], [], [], []), some (0, ([(3, 1)], 0), 0), ([], 0), ([], 0))])
noncomputable def tJ_2095 : List tc_Pl := []
noncomputable def tC_2095 : List tc_Ct := [tK_2077, tK_2094]
def tM_2095 (z : Nat) : Option am_Meth := if z = 412 then some aM_412.1 else if z = 409 then some aM_409.1 else none
set_option maxRecDepth 100000 in
theorem tMs_2095 (sa : Nat → Nat) : ∀ z mz, tM_2095 z = some mz → am_meth (aP sa) z = some mz := by
  intro z mz h
  unfold tM_2095 at h
  rcases de_m h with ⟨rfl, rfl⟩ | h
  · exact (show am_meth (aP sa) 412 = some aM_412.1 from rfl)
  rcases de_m h with ⟨rfl, rfl⟩ | h
  · exact (show am_meth (aP sa) 409 = some aM_409.1 from rfl)
  cases h
noncomputable def tV_2095 : tc_Ev := (aQ, tp_T, tp_G.2, tp_Z, tM_2095, tC_2095, tr_L, tK_2095.2.2.2.2.1, aM_411.1, aW_411, tK_2095.2.1, tK_2095.2.2.2.2.2, tJ_2095)
theorem tE_2095 : tK_2095.2.2.2.2.2.all (tc_wex tK_2095.2.1.1 tK_2095.2.1.2) = true := by decide +kernel
theorem tSS_2095 : tC_2095.all (fun c => tw_mg tK_2095.2.2.2.2.1 c.2.2.2.2.1) = true := by decide +kernel
theorem tHC_2095 : ∀ c ∈ tC_2095, c.2.2.2.2.1.all tK_2095.2.2.2.2.1.contains = true ∧ c.2.2.2.2.2.all (tc_wex c.2.1.1 c.2.1.2) = true := tf_hc tSS_2095 (by
  intro c hc
  have hc : c ∈ ([tK_2077, tK_2094] : List tc_Ct) := hc
  rcases List.mem_cons.mp hc with rfl | hc
  · exact tE_2077
  rcases List.mem_cons.mp hc with rfl | hc
  · exact tE_2094
  cases hc)
noncomputable def tH_2095_0 : List tc_It := [de_it 0x4010000, de_it 0x101010101000101000000000000000000000000000000010a00020001010000020006, de_it 0x10108010100000300000001, de_it 0x2010000, de_it 0x10001010501010104010101030101010201010101010101000101000000000000000000000000000100011001000100010007, de_it 0x10000010901010300000001, de_it 0x4010000, de_it 0x103010101020101000000000000000000000000000000010a00020101010000020006, de_it 0x10000010b01010300000001, de_it 0x2010000, de_it 0x10001010501010104010101030101010201010107010101060101000000000000000000000000000100011001000100010007, de_it 0x1010c010100000300000001, de_it 0x4010000, de_it 0x10001000100010400000003, de_it 0x8010000, de_it 0x105010101040101010a0101010901010107010101060101000000000000000000000000000000030e000202010002010100020001030002020006, de_it 0x1130101011201010105010101040101010a01010109010101070101010601010000000000000000000000000001000110000203010100010007]
set_option maxRecDepth 100000 in
theorem tR_2095 : fw_go tV_2095 tK_2095.2.1.1 tK_2095.2.1.2 none tH_2095_0 [(tK_2095.2.1, tK_2095.2.2.2.1, 0, tc_args 0 tK_2095.2.2.1, [], ([], 0), ([], 0))] = true := by decide +kernel
set_option maxRecDepth 100000 in
theorem tT_2095 {RO : am_O} {sa : Nat → Nat} (h_2077 : tc_true (aP sa) tp_G RO tp_T tp_Z tK_2077) (h_2094 : tc_true (aP sa) tp_G RO tp_T tp_Z tK_2094) : tc_true (aP sa) tp_G RO tp_T tp_Z tK_2095 := by
  have hC : ∀ c ∈ tC_2095, tc_true (aP sa) tp_G RO tp_T tp_Z c := by
    intro c hc
    have hc : c ∈ ([tK_2077, tK_2094] : List tc_Ct) := hc
    rcases List.mem_cons.mp hc with rfl | hc
    · exact h_2077
    rcases List.mem_cons.mp hc with rfl | hc
    · exact h_2094
    cases hc
  have hP : ∀ p ∈ tJ_2095, ∃ hs, tc_plk (aP sa, tV_2095.2) p hs = true := by
    intro p hp
    have hp : p ∈ ([] : List tc_Pl) := hp
    cases hp
  exact tc_main (mt := aM_411.1) (hs := tH_2095_0) (PL := tJ_2095) ⟨tp_G_ok, tMs_2095 _, hC, tr_L_ok, tp_G_re⟩ (show am_meth (aP sa) 411 = some aM_411.1 from rfl) aX_411 (by decide +kernel) hP ((tc_go_sa (aP_sa sa _)).trans ((fw_go_s tHC_2095).trans tR_2095))
noncomputable def tK_2096 : tc_Ct := (416, (1, 1), [(2, ([], 0), 0), (0, ([(0, 1)], 0), 0)], ([([(0, -1)], 2147483647), ([(0, 1)], 2147483648)], [(0, 0)], [], [], [], [], []), [(0, 51), (27, 0)], [((2, 1), ([([(0, -1)], 2147483647), ([(0, 1)], 2147483648), ([(1, -1)], 6), ([(1, 1)], 3)], [], [], [], [], [], []), some (0, ([(1, 1)], 0), 0), ([], 0), ([], 0))])
noncomputable def tJ_2096 : List tc_Pl := []
noncomputable def tC_2096 : List tc_Ct := [tK_2077]
def tM_2096 (z : Nat) : Option am_Meth := if z = 409 then some aM_409.1 else none
set_option maxRecDepth 100000 in
theorem tMs_2096 (sa : Nat → Nat) : ∀ z mz, tM_2096 z = some mz → am_meth (aP sa) z = some mz := by
  intro z mz h
  unfold tM_2096 at h
  rcases de_m h with ⟨rfl, rfl⟩ | h
  · exact (show am_meth (aP sa) 409 = some aM_409.1 from rfl)
  cases h
noncomputable def tV_2096 : tc_Ev := (aQ, tp_T, tp_G.2, tp_Z, tM_2096, tC_2096, tr_L, tK_2096.2.2.2.2.1, aM_416.1, aW_416, tK_2096.2.1, tK_2096.2.2.2.2.2, tJ_2096)
theorem tE_2096 : tK_2096.2.2.2.2.2.all (tc_wex tK_2096.2.1.1 tK_2096.2.1.2) = true := by decide +kernel
theorem tSS_2096 : tC_2096.all (fun c => tw_mg tK_2096.2.2.2.2.1 c.2.2.2.2.1) = true := by decide +kernel
theorem tHC_2096 : ∀ c ∈ tC_2096, c.2.2.2.2.1.all tK_2096.2.2.2.2.1.contains = true ∧ c.2.2.2.2.2.all (tc_wex c.2.1.1 c.2.1.2) = true := tf_hc tSS_2096 (by
  intro c hc
  have hc : c ∈ ([tK_2077] : List tc_Ct) := hc
  rcases List.mem_cons.mp hc with rfl | hc
  · exact tE_2077
  cases hc)
noncomputable def tH_2096_0 : List tc_It := [de_it 0x4010000, de_it 0x101010101000101000000000000000000000000000000010a00020001010000020006, de_it 0x10000010401010300000001, de_it 0x2010000, de_it 0x100010101010101000101000000000000000000000000000100010c01000100010007, de_it 0x10105010100000300000001, de_it 0x2010000, de_it 0x2, de_it 0x2010000, de_it 0x1060101000000000300000001, de_it 0x2010000, de_it 0x2, de_it 0x2010000, de_it 0x2, de_it 0x2010000, de_it 0x2010011, de_it 0x1020101010301010108010702010105010104000201010100010003, de_it 0x4010000, de_it 0x2, de_it 0x2010000, de_it 0x1070101010501010200000001, de_it 0x107010101050101000000000400000003, de_it 0x2010000, de_it 0x2, de_it 0x1050101010701010103010101020101000000000000000000000000000100010c020201010100010007, de_it 0x2010000, de_it 0x100010103010101020101000000000000000000000000000100010c05000100010007]
set_option maxRecDepth 100000 in
theorem tR_2096 : fw_go tV_2096 tK_2096.2.1.1 tK_2096.2.1.2 none tH_2096_0 [(tK_2096.2.1, tK_2096.2.2.2.1, 0, tc_args 0 tK_2096.2.2.1, [], ([], 0), ([], 0))] = true := by decide +kernel
set_option maxRecDepth 100000 in
theorem tT_2096 {RO : am_O} {sa : Nat → Nat} (h_2077 : tc_true (aP sa) tp_G RO tp_T tp_Z tK_2077) : tc_true (aP sa) tp_G RO tp_T tp_Z tK_2096 := by
  have hC : ∀ c ∈ tC_2096, tc_true (aP sa) tp_G RO tp_T tp_Z c := by
    intro c hc
    have hc : c ∈ ([tK_2077] : List tc_Ct) := hc
    rcases List.mem_cons.mp hc with rfl | hc
    · exact h_2077
    cases hc
  have hP : ∀ p ∈ tJ_2096, ∃ hs, tc_plk (aP sa, tV_2096.2) p hs = true := by
    intro p hp
    have hp : p ∈ ([] : List tc_Pl) := hp
    cases hp
  exact tc_main (mt := aM_416.1) (hs := tH_2096_0) (PL := tJ_2096) ⟨tp_G_ok, tMs_2096 _, hC, tr_L_ok, tp_G_re⟩ (show am_meth (aP sa) 416 = some aM_416.1 from rfl) aX_416 (by decide +kernel) hP ((tc_go_sa (aP_sa sa _)).trans ((fw_go_s tHC_2096).trans tR_2096))
noncomputable def tK_2097 : tc_Ct := (417, (1, 1), [(2, ([], 0), 0), (0, ([(0, 1)], 0), 0)], ([([(0, -1)], 2147483647), ([(0, 1)], 2147483648)], [(0, 0)], [], [], [], [], []), [], [((2, 1), ([([(0, -1)], 2147483647), ([(0, 1)], 2147483648), ([(1, -1)], 33), ([(1, 1)], 1)], [], [], [], [], [], []), some (0, ([(1, 1)], 0), 0), ([], 0), ([], 0))])
noncomputable def tJ_2097 : List tc_Pl := []
noncomputable def tC_2097 : List tc_Ct := [tK_2000]
def tM_2097 (z : Nat) : Option am_Meth := if z = 321 then some aM_321.1 else none
set_option maxRecDepth 100000 in
theorem tMs_2097 (sa : Nat → Nat) : ∀ z mz, tM_2097 z = some mz → am_meth (aP sa) z = some mz := by
  intro z mz h
  unfold tM_2097 at h
  rcases de_m h with ⟨rfl, rfl⟩ | h
  · exact (show am_meth (aP sa) 321 = some aM_321.1 from rfl)
  cases h
noncomputable def tV_2097 : tc_Ev := (aQ, tp_T, tp_G.2, tp_Z, tM_2097, tC_2097, tr_L, tK_2097.2.2.2.2.1, aM_417.1, aW_417, tK_2097.2.1, tK_2097.2.2.2.2.2, tJ_2097)
theorem tE_2097 : tK_2097.2.2.2.2.2.all (tc_wex tK_2097.2.1.1 tK_2097.2.1.2) = true := by decide +kernel
theorem tSS_2097 : tC_2097.all (fun c => tw_mg tK_2097.2.2.2.2.1 c.2.2.2.2.1) = true := by decide +kernel
theorem tHC_2097 : ∀ c ∈ tC_2097, c.2.2.2.2.1.all tK_2097.2.2.2.2.1.contains = true ∧ c.2.2.2.2.2.all (tc_wex c.2.1.1 c.2.1.2) = true := tf_hc tSS_2097 (by
  intro c hc
  have hc : c ∈ ([tK_2000] : List tc_Ct) := hc
  rcases List.mem_cons.mp hc with rfl | hc
  · exact tE_2000
  cases hc)
noncomputable def tH_2097_0 : List tc_It := [de_it 0x4010000, de_it 0x300000001, de_it 0x8010000, de_it 0x2, de_it 0x2010000, de_it 0x1030101010201010200000001, de_it 0x2010000, de_it 0x102010101030101000100010101010101000101000000000000000000000000000000000e010201010000000200010300010006, de_it 0x1010a010100000300000001, de_it 0x2010000, de_it 0x100010101010101000101000000000000000000000000000100010c01000100010007, de_it 0x10000010d01010300000001, de_it 0x2010000, de_it 0x2, de_it 0x2010000, de_it 0x2010011, de_it 0x10a010d01030301010b010102000200010100010002, de_it 0x2010000, de_it 0x111010101120101010b0101010a01030201000000000000000000000000000100010c000203010100010007, de_it 0x2010000, de_it 0x2, de_it 0x2010000, de_it 0x1040101010501010102010101030101000000000000000000000000000100010c000201010100010007]
set_option maxRecDepth 100000 in
theorem tR_2097 : fw_go tV_2097 tK_2097.2.1.1 tK_2097.2.1.2 none tH_2097_0 [(tK_2097.2.1, tK_2097.2.2.2.1, 0, tc_args 0 tK_2097.2.2.1, [], ([], 0), ([], 0))] = true := by decide +kernel
set_option maxRecDepth 100000 in
theorem tT_2097 {RO : am_O} {sa : Nat → Nat} (h_2000 : tc_true (aP sa) tp_G RO tp_T tp_Z tK_2000) : tc_true (aP sa) tp_G RO tp_T tp_Z tK_2097 := by
  have hC : ∀ c ∈ tC_2097, tc_true (aP sa) tp_G RO tp_T tp_Z c := by
    intro c hc
    have hc : c ∈ ([tK_2000] : List tc_Ct) := hc
    rcases List.mem_cons.mp hc with rfl | hc
    · exact h_2000
    cases hc
  have hP : ∀ p ∈ tJ_2097, ∃ hs, tc_plk (aP sa, tV_2097.2) p hs = true := by
    intro p hp
    have hp : p ∈ ([] : List tc_Pl) := hp
    cases hp
  exact tc_main (mt := aM_417.1) (hs := tH_2097_0) (PL := tJ_2097) ⟨tp_G_ok, tMs_2097 _, hC, tr_L_ok, tp_G_re⟩ (show am_meth (aP sa) 417 = some aM_417.1 from rfl) aX_417 (by decide +kernel) hP ((tc_go_sa (aP_sa sa _)).trans ((fw_go_s tHC_2097).trans tR_2097))
noncomputable def tK_2098 : tc_Ct := (419, (1, 1), [(2, ([], 0), 0), (0, ([(0, 1)], 0), 0)], ([([(0, -1)], 2147483647), ([(0, 1)], 2147483648)], [(0, 0)], [], [], [], [], []), [], [((1, 1), ([([(0, -1)], 2147483647), ([(0, 1)], 2147483648)], [], [], [], [], [], []), some (0, ([], 0), 0), ([], 0), ([], 0)), ((1, 1), ([([(0, -1)], 7), ([(0, 1)], 0)], [], [], [], [], [], []), some (0, ([], 1), 0), ([], 0), ([], 0))])
noncomputable def tJ_2098 : List tc_Pl := []
noncomputable def tC_2098 : List tc_Ct := [tK_2000]
def tM_2098 (z : Nat) : Option am_Meth := if z = 321 then some aM_321.1 else none
set_option maxRecDepth 100000 in
theorem tMs_2098 (sa : Nat → Nat) : ∀ z mz, tM_2098 z = some mz → am_meth (aP sa) z = some mz := by
  intro z mz h
  unfold tM_2098 at h
  rcases de_m h with ⟨rfl, rfl⟩ | h
  · exact (show am_meth (aP sa) 321 = some aM_321.1 from rfl)
  cases h
noncomputable def tV_2098 : tc_Ev := (aQ, tp_T, tp_G.2, tp_Z, tM_2098, tC_2098, tr_L, tK_2098.2.2.2.2.1, aM_419.1, aW_419, tK_2098.2.1, tK_2098.2.2.2.2.2, tJ_2098)
theorem tE_2098 : tK_2098.2.2.2.2.2.all (tc_wex tK_2098.2.1.1 tK_2098.2.1.2) = true := by decide +kernel
theorem tSS_2098 : tC_2098.all (fun c => tw_mg tK_2098.2.2.2.2.1 c.2.2.2.2.1) = true := by decide +kernel
theorem tHC_2098 : ∀ c ∈ tC_2098, c.2.2.2.2.1.all tK_2098.2.2.2.2.1.contains = true ∧ c.2.2.2.2.2.all (tc_wex c.2.1.1 c.2.1.2) = true := tf_hc tSS_2098 (by
  intro c hc
  have hc : c ∈ ([tK_2000] : List tc_Ct) := hc
  rcases List.mem_cons.mp hc with rfl | hc
  · exact tE_2000
  cases hc)
noncomputable def tH_2098_0 : List tc_It := [de_it 0x8010000, de_it 0x2, de_it 0x2010000, de_it 0x1030101010201010200000001, de_it 0x2010000, de_it 0x102010101030101000100010101010101000101000000000000000000000000000000000e010201010000000200010300010006, de_it 0x101010101000101000000000000000000010001000100010a0000010007, de_it 0x10b0101010a01030201000000000000000000010001000100010a0002010007]
set_option maxRecDepth 100000 in
theorem tR_2098 : fw_go tV_2098 tK_2098.2.1.1 tK_2098.2.1.2 none tH_2098_0 [(tK_2098.2.1, tK_2098.2.2.2.1, 0, tc_args 0 tK_2098.2.2.1, [], ([], 0), ([], 0))] = true := by decide +kernel
set_option maxRecDepth 100000 in
theorem tT_2098 {RO : am_O} {sa : Nat → Nat} (h_2000 : tc_true (aP sa) tp_G RO tp_T tp_Z tK_2000) : tc_true (aP sa) tp_G RO tp_T tp_Z tK_2098 := by
  have hC : ∀ c ∈ tC_2098, tc_true (aP sa) tp_G RO tp_T tp_Z c := by
    intro c hc
    have hc : c ∈ ([tK_2000] : List tc_Ct) := hc
    rcases List.mem_cons.mp hc with rfl | hc
    · exact h_2000
    cases hc
  have hP : ∀ p ∈ tJ_2098, ∃ hs, tc_plk (aP sa, tV_2098.2) p hs = true := by
    intro p hp
    have hp : p ∈ ([] : List tc_Pl) := hp
    cases hp
  exact tc_main (mt := aM_419.1) (hs := tH_2098_0) (PL := tJ_2098) ⟨tp_G_ok, tMs_2098 _, hC, tr_L_ok, tp_G_re⟩ (show am_meth (aP sa) 419 = some aM_419.1 from rfl) aX_419 (by decide +kernel) hP ((tc_go_sa (aP_sa sa _)).trans ((fw_go_s tHC_2098).trans tR_2098))
noncomputable def tK_2099 : tc_Ct := (414, (4, 1), [(2, ([], 0), 0), (0, ([(0, 1)], 0), 0), (0, ([(1, 1)], 0), 0), (2, ([], 0), 0), (0, ([(2, 1)], 0), 0), (0, ([(3, 1)], 0), 0)], ([([(0, -1)], 13968), ([(0, 1)], 0), ([(1, -1)], 400), ([(1, 1)], 0), ([(2, -1)], 14238), ([(2, 1)], 0), ([(3, -1)], 400), ([(3, 1)], 0), ([(0, -1), (1, -1)], 14008), ([(0, -1), (3, -1)], 14008), ([(1, -1), (2, -1)], 14280), ([(2, -1), (3, -1)], 14280), ([(0, -1), (1, -1), (3, 1)], 14000), ([(0, -1), (1, 1), (3, -1)], 14000), ([(1, -1), (2, -1), (3, 1)], 14238), ([(1, 1), (2, -1), (3, -1)], 14238)], [(0, 10)], [], [], [], [], []), [], [((4, 1), ([([(0, -1)], 13968), ([(0, 1)], 0), ([(1, -1)], 400), ([(1, 1)], 0), ([(2, -1)], 14238), ([(2, 1)], 0), ([(3, -1)], 400), ([(3, 1)], 0), ([(0, -1), (1, -1)], 14008), ([(0, -1), (3, -1)], 14008), ([(1, -1), (2, -1)], 14280), ([(2, -1), (3, -1)], 14280), ([(0, -1), (1, -1), (3, 1)], 14000), ([(0, -1), (1, 1), (3, -1)], 14000), ([(1, -1), (2, -1), (3, 1)], 14238), ([(1, 1), (2, -1), (3, -1)], 14238)], [], [], [], [], [], []), some (0, ([], 0), 0), ([], 0), ([], 0)), ((4, 1), ([([(0, -1)], 13968), ([(0, 1)], 0), ([(1, -1)], 400), ([(1, 1)], 0), ([(2, -1)], 14238), ([(2, 1)], 0), ([(3, -1)], 400), ([(3, 1)], 0), ([(0, -1), (1, -1)], 14008), ([(0, -1), (3, -1)], 14008), ([(1, -1), (2, -1)], 14280), ([(1, -1), (3, 1)], 0), ([(1, 1), (3, -1)], 0)], [], [], [], [], [], []), some (0, ([], 1), 0), ([], 0), ([], 0))])
noncomputable def tL_2099_0 : tc_Pl := de_pl 0x30d20ff000001040201020000000000030d20ff0003000000000000000204010007000000000600000202010004000000020300000201010002000002000100010000000200071000000000000a00010000000000006f3cff010301020201030000000000006f3cff020301020101030000000000006d60ff010302010100030000000000006d60ff020301010100030000000000006f90ff01030102020000000000006f90ff01020101020000000000006d70ff01030100020000000000006d70ff0101010002000203010000000000000320ff010301000202010000000000006f3cff010201000201010000000000000320ff010101000200010000000000006d20ff010001100105
noncomputable def tL_2099_1 : tc_Pl := de_pl 0x30d20ff000001040201020000000000030d20ff0003000000000000000204010007000200000600000202010004000000020300000201010002000002000100010000000200071000000000000a0001000103020102000203010102000204010000000000006f3cff010301020201030000000000006f3cff020301020101030000000000006f90ff01030102020000000000006f90ff01020101020000000000006d70ff01030100020000000000006d70ff0101010002000203010000000000000320ff010301000202010000000000006f3cff010201000201010000000000000320ff010101000200010000000000006d20ff010001110105
noncomputable def tJ_2099 : List tc_Pl := [tL_2099_0, tL_2099_1]
noncomputable def tC_2099 : List tc_Ct := []
def tM_2099 (z : Nat) : Option am_Meth := none
set_option maxRecDepth 100000 in
theorem tMs_2099 (sa : Nat → Nat) : ∀ z mz, tM_2099 z = some mz → am_meth (aP sa) z = some mz := fun z mz h => by cases h
noncomputable def tV_2099 : tc_Ev := (aQ, tp_T, tp_G.2, tp_Z, tM_2099, tC_2099, tr_L, tK_2099.2.2.2.2.1, aM_414.1, aW_414, tK_2099.2.1, tK_2099.2.2.2.2.2, tJ_2099)
theorem tE_2099 : tK_2099.2.2.2.2.2.all (tc_wex tK_2099.2.1.1 tK_2099.2.1.2) = true := by decide +kernel
theorem tSS_2099 : tC_2099.all (fun c => tw_mg tK_2099.2.2.2.2.1 c.2.2.2.2.1) = true := by decide +kernel
theorem tHC_2099 : ∀ c ∈ tC_2099, c.2.2.2.2.1.all tK_2099.2.2.2.2.1.contains = true ∧ c.2.2.2.2.2.all (tc_wex c.2.1.1 c.2.1.2) = true := tf_hc tSS_2099 (by
  intro c hc
  have hc : c ∈ ([] : List tc_Ct) := hc
  cases hc)
noncomputable def tH_2099_0 : List tc_It := [de_it 0x4010000, de_it 0x300000001, de_it 0x8010000, de_it 0x10f0101010e0101010d0101010c0101010b0101010a010101090101010801010107010101060101010501010104010101030101010201010101010101000101000000000000000000000000000100011800000100010008, de_it 0xa010000, de_it 0x1100101011101010001010f0101010e0101010b0101010a010101090101010801010107010101060101010501010104010101030101010201010101010101000101000000000000000000000000000100011900000102010008]
set_option maxRecDepth 100000 in
theorem tR_2099 : fw_go tV_2099 tK_2099.2.1.1 tK_2099.2.1.2 none tH_2099_0 [(tK_2099.2.1, tK_2099.2.2.2.1, 0, tc_args 0 tK_2099.2.2.1, [], ([], 0), ([], 0))] = true := by decide +kernel
noncomputable def tH_2099_1 : List tc_It := [de_it 0x2010000, de_it 0x10110010100000300000001, de_it 0x2010000, de_it 0x10f0101010e0101010d0101010c0101010b0101010a01010109010101080101010701010106010101050101010401010103010101020101010101010100010100000000000000000001000100010001180000010007]
set_option maxRecDepth 100000 in
theorem tP_2099_0 : fw_plk tV_2099 tL_2099_0 tH_2099_1 = true := by decide +kernel
noncomputable def tH_2099_2 : List tc_It := [de_it 0x2010000, de_it 0x10000011201010300000001, de_it 0x4010000, de_it 0x300000001, de_it 0x2010000, de_it 0x1100101010f0101010a01010109010101080101010701010106010101050101010401010103010101020101010101010100010100000000000000000001000100010001150002010007, de_it 0x6010000, de_it 0x11201080201010e010102010200000001, de_it 0x10011, de_it 0x112011301080301010e01010201020002040200020100010002, de_it 0x6010000, de_it 0x112010a0201010e010502010200000001, de_it 0x1120113010a0301010e01050201020002040202020100010002, de_it 0x300000001, de_it 0x4010000, de_it 0x11201020201010e01010200000001, de_it 0x2010000, de_it 0x10d0101010c0101011001000201010f01000201010b0101010a01010109010101080101010e0112010f0301010601010105010101040101010e0112020101020101010101010100010100000000011201010001000000010001000118020204010100010008, de_it 0x6010000, de_it 0x11201020201010e01010200000001, de_it 0x2010000, de_it 0x1100101010f0101010e0101010d0101010c0101010b0101010a01010109010101080101010e0112010f0301010601010105010101040101010e0112020101020101010101010100010100000000011201010001000000010001000119020204010102010008]
set_option maxRecDepth 100000 in
theorem tP_2099_1 : fw_plk tV_2099 tL_2099_1 tH_2099_2 = true := by decide +kernel
set_option maxRecDepth 100000 in
theorem tT_2099 {RO : am_O} {sa : Nat → Nat} : tc_true (aP sa) tp_G RO tp_T tp_Z tK_2099 := by
  have hC : ∀ c ∈ tC_2099, tc_true (aP sa) tp_G RO tp_T tp_Z c := by
    intro c hc
    have hc : c ∈ ([] : List tc_Ct) := hc
    cases hc
  have hP : ∀ p ∈ tJ_2099, ∃ hs, tc_plk (aP sa, tV_2099.2) p hs = true := by
    intro p hp
    have hp : p ∈ ([tL_2099_0, tL_2099_1] : List tc_Pl) := hp
    rcases List.mem_cons.mp hp with rfl | hp
    · exact ⟨_, (tc_plk_sa (aP_sa sa _)).trans ((fw_plk_s tHC_2099).trans tP_2099_0)⟩
    rcases List.mem_cons.mp hp with rfl | hp
    · exact ⟨_, (tc_plk_sa (aP_sa sa _)).trans ((fw_plk_s tHC_2099).trans tP_2099_1)⟩
    cases hp
  exact tc_main (mt := aM_414.1) (hs := tH_2099_0) (PL := tJ_2099) ⟨tp_G_ok, tMs_2099 _, hC, tr_L_ok, tp_G_re⟩ (show am_meth (aP sa) 414 = some aM_414.1 from rfl) aX_414 (by decide +kernel) hP ((tc_go_sa (aP_sa sa _)).trans ((fw_go_s tHC_2099).trans tR_2099))
noncomputable def tK_2100 : tc_Ct := (421, (2, 2), [(2, ([], 0), 0), (0, ([(0, 1)], 0), 0), (0, ([(1, 1)], 0), 0)], ([([(0, -1)], 33), ([(0, 1)], 0), ([(1, -1)], 33), ([(1, 1)], 0)], [(0, 0), (1, 14)], [], [(0, 32, (2, ([], 0), 1))], [], [], [(312, [1], [([], 0), ([], 30), ([], -1)])]), [], [((2, 2), ([([(0, -1)], 33), ([(0, 1)], 0), ([(1, -1)], 33), ([(1, 1)], 0)], [], [], [], [], [], []), some (0, ([], 0), 0), ([], 0), ([], 0)), ((2, 2), ([([(0, -1)], 33), ([(0, 1)], 0), ([(1, -1)], 33), ([(1, 1)], 0)], [], [], [], [], [], []), some (0, ([], 1), 0), ([], 0), ([], 0))])
noncomputable def tJ_2100 : List tc_Pl := []
noncomputable def tC_2100 : List tc_Ct := [tK_2099]
def tM_2100 (z : Nat) : Option am_Meth := if z = 414 then some aM_414.1 else none
set_option maxRecDepth 100000 in
theorem tMs_2100 (sa : Nat → Nat) : ∀ z mz, tM_2100 z = some mz → am_meth (aP sa) z = some mz := by
  intro z mz h
  unfold tM_2100 at h
  rcases de_m h with ⟨rfl, rfl⟩ | h
  · exact (show am_meth (aP sa) 414 = some aM_414.1 from rfl)
  cases h
noncomputable def tV_2100 : tc_Ev := (aQ, tp_T, tp_G.2, tp_Z, tM_2100, tC_2100, tr_L, tK_2100.2.2.2.2.1, aM_421.1, aW_421, tK_2100.2.1, tK_2100.2.2.2.2.2, tJ_2100)
theorem tE_2100 : tK_2100.2.2.2.2.2.all (tc_wex tK_2100.2.1.1 tK_2100.2.1.2) = true := by decide +kernel
theorem tSS_2100 : tC_2100.all (fun c => tw_mg tK_2100.2.2.2.2.1 c.2.2.2.2.1) = true := by decide +kernel
theorem tHC_2100 : ∀ c ∈ tC_2100, c.2.2.2.2.1.all tK_2100.2.2.2.2.1.contains = true ∧ c.2.2.2.2.2.all (tc_wex c.2.1.1 c.2.1.2) = true := tf_hc tSS_2100 (by
  intro c hc
  have hc : c ∈ ([tK_2099] : List tc_Ct) := hc
  rcases List.mem_cons.mp hc with rfl | hc
  · exact tE_2099
  cases hc)
noncomputable def tH_2100_0 : List tc_It := [de_it 0x2010000, de_it 0x2, de_it 0x2010000, de_it 0x2, de_it 0x4010000, de_it 0x2000101020101010200000001, de_it 0x6010011, de_it 0x104020002010201010102000200010100010002, de_it 0x2010000, de_it 0x2, de_it 0x4010000, de_it 0x2000101020101010200000001, de_it 0x2010000, de_it 0x2000101020101010200000001, de_it 0x104020002010201010102000200010102010002, de_it 0x2010000, de_it 0x2, de_it 0x2010000, de_it 0x2, de_it 0x4010000, de_it 0x2020101020301010200000001, de_it 0x2010011, de_it 0x10e020202010203010102000201010100010002, de_it 0x2010000, de_it 0x2, de_it 0x4010000, de_it 0x2020101020301010200000001, de_it 0x2010000, de_it 0x2020101020301010200000001, de_it 0x10e020202010203010102000201010102010002, de_it 0x11301170000000000000190ff02010c0401011301160000000000000190ff02010d040101090117010c0000000000000190ff00040101090116010d0000000000000190ff000401011301170000000000000190ff02030101130000000000000190ff02010d0301010901170000000000000190ff0003010109010d0000000000000190ff00030101160101011701010112010101130000000000000190ff020201010c0101010d01010108010101090000000000000190ff000201000000000000000000000000000000001800020701000206010002040100020301040400020006, de_it 0x1030101010201010101010101000101000000000000000000010001000100010c0000010007, de_it 0x1030101010201010101010101000101000000000000000000010001000100010c0002010007]
set_option maxRecDepth 100000 in
theorem tR_2100 : fw_go tV_2100 tK_2100.2.1.1 tK_2100.2.1.2 none tH_2100_0 [(tK_2100.2.1, tK_2100.2.2.2.1, 0, tc_args 0 tK_2100.2.2.1, [], ([], 0), ([], 0))] = true := by decide +kernel
set_option maxRecDepth 100000 in
theorem tT_2100 {RO : am_O} {sa : Nat → Nat} (h_2099 : tc_true (aP sa) tp_G RO tp_T tp_Z tK_2099) : tc_true (aP sa) tp_G RO tp_T tp_Z tK_2100 := by
  have hC : ∀ c ∈ tC_2100, tc_true (aP sa) tp_G RO tp_T tp_Z c := by
    intro c hc
    have hc : c ∈ ([tK_2099] : List tc_Ct) := hc
    rcases List.mem_cons.mp hc with rfl | hc
    · exact h_2099
    cases hc
  have hP : ∀ p ∈ tJ_2100, ∃ hs, tc_plk (aP sa, tV_2100.2) p hs = true := by
    intro p hp
    have hp : p ∈ ([] : List tc_Pl) := hp
    cases hp
  exact tc_main (mt := aM_421.1) (hs := tH_2100_0) (PL := tJ_2100) ⟨tp_G_ok, tMs_2100 _, hC, tr_L_ok, tp_G_re⟩ (show am_meth (aP sa) 421 = some aM_421.1 from rfl) aX_421 (by decide +kernel) hP ((tc_go_sa (aP_sa sa _)).trans ((fw_go_s tHC_2100).trans tR_2100))
noncomputable def tK_2101 : tc_Ct := (420, (1, 3), [(2, ([], 0), 0)], ([([(0, -1)], 6), ([(0, 1)], -1)], [(0, 0), (1, 14), (2, 26)], [], [(0, 32, (2, ([], 0), 1)), (0, 48, (2, ([], 0), 2)), (0, 49, (0, ([(0, 1)], 0), 0))], [], [], [(0, [2], [([], 0), ([(0, 1)], 0), ([], -1)]), (312, [1], [([], 0), ([], 30), ([], -1)])]), [], [((2, 3), ([([(0, -1)], 6), ([(0, 1)], -1), ([(1, -1)], 1), ([(1, 1)], 0), ([(0, 1), (1, 1)], -2)], [], [], [], [], [], []), some (0, ([(1, 1)], 0), 0), ([], 0), ([], 0))])
noncomputable def tL_2101_0 : tc_Pl := de_pl 0x30d24ff000001030202020000000000030d24ff000001020200020000000000030d38ff000500000000000000020301000300000202010002000002010100010000000200040e01003c0000000301010000000000000138ff010000020001000003020100020000000002000100310002000002300001000002200003001a020e0100000301020202010201010202000203020102000200020301000202010a0102010002010102010101010200010c0100010a0304
noncomputable def tL_2101_1 : tc_Pl := de_pl 0x30d38ff000001020200020000000000030d38ff0005000000000000000202010002000002010100010000000200030401003c0000000301010000000000000138ff010000020001000003020100020000000002000100310002000002300001000002200003001a020e01000003010202020102030201020002000202010002010102010101010200010c010001070303
noncomputable def tJ_2101 : List tc_Pl := [tL_2101_0, tL_2101_1]
noncomputable def tC_2101 : List tc_Ct := [tK_2100]
def tM_2101 (z : Nat) : Option am_Meth := if z = 421 then some aM_421.1 else none
set_option maxRecDepth 100000 in
theorem tMs_2101 (sa : Nat → Nat) : ∀ z mz, tM_2101 z = some mz → am_meth (aP sa) z = some mz := by
  intro z mz h
  unfold tM_2101 at h
  rcases de_m h with ⟨rfl, rfl⟩ | h
  · exact (show am_meth (aP sa) 421 = some aM_421.1 from rfl)
  cases h
noncomputable def tV_2101 : tc_Ev := (aQ, tp_T, tp_G.2, tp_Z, tM_2101, tC_2101, tr_L, tK_2101.2.2.2.2.1, aM_420.1, aW_420, tK_2101.2.1, tK_2101.2.2.2.2.2, tJ_2101)
theorem tE_2101 : tK_2101.2.2.2.2.2.all (tc_wex tK_2101.2.1.1 tK_2101.2.1.2) = true := by decide +kernel
theorem tSS_2101 : tC_2101.all (fun c => tw_mg tK_2101.2.2.2.2.1 c.2.2.2.2.1) = true := by decide +kernel
theorem tHC_2101 : ∀ c ∈ tC_2101, c.2.2.2.2.1.all tK_2101.2.2.2.2.1.contains = true ∧ c.2.2.2.2.2.all (tc_wex c.2.1.1 c.2.1.2) = true := tf_hc tSS_2101 (by
  intro c hc
  have hc : c ∈ ([tK_2100] : List tc_Ct) := hc
  rcases List.mem_cons.mp hc with rfl | hc
  · exact tE_2100
  cases hc)
noncomputable def tH_2101_0 : List tc_It := [de_it 0x8010000, de_it 0x101010101000100010001010101010100010100000000000000000000000000000000000000000001000113000002000202010008]
set_option maxRecDepth 100000 in
theorem tR_2101 : fw_go tV_2101 tK_2101.2.1.1 tK_2101.2.1.2 none tH_2101_0 [(tK_2101.2.1, tK_2101.2.2.2.1, 0, tc_args 0 tK_2101.2.2.1, [], ([], 0), ([], 0))] = true := by decide +kernel
noncomputable def tH_2101_1 : List tc_It := [de_it 0x4010000, de_it 0x300000001, de_it 0x2010000, de_it 0x1030101000000000300000001, de_it 0x4010000, de_it 0x10401010109010c02010200000001, de_it 0x2010000, de_it 0x109010c0201010c010702010109010c020100010001010c01070201010001010000000000000000000000000108010100010000000100010001130202020100000202010008, de_it 0x4010000, de_it 0x2, de_it 0x2010000, de_it 0x1000101010101010200000001, de_it 0x1080101000000000300000001, de_it 0x6010000, de_it 0x1040101010501010200000001, de_it 0x2010000, de_it 0x105010101010101010501010001000101010101010001010000000000000000000000000108010100010000000100010001130202020102000202010008, de_it 0x4010000, de_it 0x2, de_it 0x2010000, de_it 0x4010011, de_it 0x10c010d0100030101050101020002020100020201020400020012, de_it 0x1050101010c01010105010101050101000000000000000000000000000000000c00020501000202010100000200010000050406020009, de_it 0x10c010d01000301010501010200000002, de_it 0x2010000, de_it 0x2, de_it 0x4010000, de_it 0x10c01000201010501010200000001, de_it 0x10c010d0100030101050101020202020102020201020400020012, de_it 0x1050101010c01010105010101050101000000000000000000000000000000000c00020601020202010100000200010000050406020009, de_it 0x10c010d01000301010501010200000002, de_it 0x1180101011701010113010101120101000000000000000000000000000000020c000206010002050102020000030006, de_it 0x1011d010100000300000001, de_it 0x4010000, de_it 0x10c01000201010501010200000001, de_it 0x2010000, de_it 0x105010101020109010c0301010501010001000101020109010c030101000101000000000000000000000000010c010100010000000100010001130202020100000202010008, de_it 0x10000011e01010300000001, de_it 0x6010000, de_it 0x10c01000201010501010200000001, de_it 0x2010000, de_it 0x105010101020109010c0301010501010001000101020109010c030101000101000000000000000000000000010c010100010000000100010001130202020102000202010008, de_it 0x2010000, de_it 0x1030101000000000300000001, de_it 0x4010000, de_it 0x10a01040201010601010200000001, de_it 0x2010000, de_it 0x106010a020101080101010c01070201010601010106010a02010104010100010001010c010702010100010100000000010a010100010000000100000001000000010001000116020203010002020100000300010008, de_it 0x2010000, de_it 0x2, de_it 0x2010000, de_it 0x4010011, de_it 0x10c010402010106010a0201020002020100020201020400020012, de_it 0x106010a0201010801010106010a02010106010a0201000000000000000000000000000000000c00020501000202010100000200010000050406020009, de_it 0x10c010402010106010a02010200000002, de_it 0x2010000, de_it 0x2, de_it 0x2010000, de_it 0x10a010c0104030101060101020002030100020301020400020012, de_it 0x1060101010a010802010106010101060101000000000000000000000000000000000c00020601000203010100000200010000050406020009, de_it 0x10a010c01040301010601010200000002, de_it 0x300000001, de_it 0x4010000, de_it 0x10a01040201010601010200000001, de_it 0x2010000, de_it 0x106010a0201010801010106010a01080301010601010106010a020101040101000100010106010a010803010100010100000000010a010100010000000100000001000000010001000116020203010002020100000300010008, de_it 0x6010000, de_it 0x10a01040201010601010200000001, de_it 0x2010000, de_it 0x106010a0201010801010106010a01080301010601010106010a020101040101000100010106010a010803010100010100000000010a010100010000000100000001000000010001000116020203010002020102000300010008]
set_option maxRecDepth 100000 in
theorem tP_2101_0 : fw_plk tV_2101 tL_2101_0 tH_2101_1 = true := by decide +kernel
noncomputable def tH_2101_2 : List tc_It := [de_it 0x4010000, de_it 0x2, de_it 0x300000001, de_it 0x2010000, de_it 0x10501010103010101020101010101010100010100000000000000000102010101030101000100010d000201010100010007, de_it 0x4010000, de_it 0x106010101070101010501010001010401010107010002010103010101020101010101010100010100000000000000000001000100000001000000010001000116000000020201000201010300010008]
set_option maxRecDepth 100000 in
theorem tP_2101_1 : fw_plk tV_2101 tL_2101_1 tH_2101_2 = true := by decide +kernel
set_option maxRecDepth 100000 in
theorem tT_2101 {RO : am_O} {sa : Nat → Nat} (h_2100 : tc_true (aP sa) tp_G RO tp_T tp_Z tK_2100) : tc_true (aP sa) tp_G RO tp_T tp_Z tK_2101 := by
  have hC : ∀ c ∈ tC_2101, tc_true (aP sa) tp_G RO tp_T tp_Z c := by
    intro c hc
    have hc : c ∈ ([tK_2100] : List tc_Ct) := hc
    rcases List.mem_cons.mp hc with rfl | hc
    · exact h_2100
    cases hc
  have hP : ∀ p ∈ tJ_2101, ∃ hs, tc_plk (aP sa, tV_2101.2) p hs = true := by
    intro p hp
    have hp : p ∈ ([tL_2101_0, tL_2101_1] : List tc_Pl) := hp
    rcases List.mem_cons.mp hp with rfl | hp
    · exact ⟨_, (tc_plk_sa (aP_sa sa _)).trans ((fw_plk_s tHC_2101).trans tP_2101_0)⟩
    rcases List.mem_cons.mp hp with rfl | hp
    · exact ⟨_, (tc_plk_sa (aP_sa sa _)).trans ((fw_plk_s tHC_2101).trans tP_2101_1)⟩
    cases hp
  exact tc_main (mt := aM_420.1) (hs := tH_2101_0) (PL := tJ_2101) ⟨tp_G_ok, tMs_2101 _, hC, tr_L_ok, tp_G_re⟩ (show am_meth (aP sa) 420 = some aM_420.1 from rfl) aX_420 (by decide +kernel) hP ((tc_go_sa (aP_sa sa _)).trans ((fw_go_s tHC_2101).trans tR_2101))
noncomputable def tK_2102 : tc_Ct := (414, (2, 1), [(2, ([], 0), 0), (0, ([(0, 1)], 0), 0), (0, ([(1, 1)], 0), 0), (2, ([], 0), 0), (0, ([(0, 1)], 0), 0), (0, ([(1, 1)], 0), 0)], ([([(0, -1)], 11600), ([(0, 1)], 0), ([(1, -1)], 400), ([(1, 1)], 0)], [(0, 10)], [], [], [], [], []), [], [((2, 1), ([([(0, -1)], 11600), ([(0, 1)], 0), ([(1, -1)], 400), ([(1, 1)], 0)], [], [], [], [], [], []), some (0, ([], 1), 0), ([], 0), ([], 0))])
noncomputable def tL_2102_0 : tc_Pl := de_pl 0x30d20ff000001020201020000000000030d20ff0003000000000000000202010007000200000600000200010004000000020300000201010002000002000100010000000200071000000000000a000100020201000201010000000000000320ff010101000200010000000000005aa0ff010001050103
noncomputable def tJ_2102 : List tc_Pl := [tL_2102_0]
noncomputable def tC_2102 : List tc_Ct := []
def tM_2102 (z : Nat) : Option am_Meth := none
set_option maxRecDepth 100000 in
theorem tMs_2102 (sa : Nat → Nat) : ∀ z mz, tM_2102 z = some mz → am_meth (aP sa) z = some mz := fun z mz h => by cases h
noncomputable def tV_2102 : tc_Ev := (aQ, tp_T, tp_G.2, tp_Z, tM_2102, tC_2102, tr_L, tK_2102.2.2.2.2.1, aM_414.1, aW_414, tK_2102.2.1, tK_2102.2.2.2.2.2, tJ_2102)
theorem tE_2102 : tK_2102.2.2.2.2.2.all (tc_wex tK_2102.2.1.1 tK_2102.2.1.2) = true := by decide +kernel
theorem tSS_2102 : tC_2102.all (fun c => tw_mg tK_2102.2.2.2.2.1 c.2.2.2.2.1) = true := by decide +kernel
theorem tHC_2102 : ∀ c ∈ tC_2102, c.2.2.2.2.1.all tK_2102.2.2.2.2.1.contains = true ∧ c.2.2.2.2.2.all (tc_wex c.2.1.1 c.2.1.2) = true := tf_hc tSS_2102 (by
  intro c hc
  have hc : c ∈ ([] : List tc_Ct) := hc
  cases hc)
noncomputable def tH_2102_0 : List tc_It := [de_it 0x4010000, de_it 0x10000010401010300000001, de_it 0xa010000, de_it 0x101030101010201010101010101000101000000000000000000000000000100010d00000100010008]
set_option maxRecDepth 100000 in
theorem tR_2102 : fw_go tV_2102 tK_2102.2.1.1 tK_2102.2.1.2 none tH_2102_0 [(tK_2102.2.1, tK_2102.2.2.2.1, 0, tc_args 0 tK_2102.2.2.1, [], ([], 0), ([], 0))] = true := by decide +kernel
noncomputable def tH_2102_1 : List tc_It := [de_it 0x2010000, de_it 0x10000010601010300000001, de_it 0x4010000, de_it 0x300000001, de_it 0x2010000, de_it 0x1030101010201010101010101000101000000000000000000010001000100010c0000010007, de_it 0x6010000, de_it 0x1060102010003010104010102010200000001, de_it 0x10011, de_it 0x1060107010201000401010401010201020002020200020100010002, de_it 0x6010000, de_it 0x1060102010003010104010102010200000001, de_it 0x10601070102010004010104010102010200000002, de_it 0x10000010d01010300000001, de_it 0x6010000, de_it 0x10601020201010401010200000001, de_it 0x2010000, de_it 0x10401010104010602010102010101010101010001010000000001060101000100000001000100010d020202010100010008]
set_option maxRecDepth 100000 in
theorem tP_2102_0 : fw_plk tV_2102 tL_2102_0 tH_2102_1 = true := by decide +kernel
set_option maxRecDepth 100000 in
theorem tT_2102 {RO : am_O} {sa : Nat → Nat} : tc_true (aP sa) tp_G RO tp_T tp_Z tK_2102 := by
  have hC : ∀ c ∈ tC_2102, tc_true (aP sa) tp_G RO tp_T tp_Z c := by
    intro c hc
    have hc : c ∈ ([] : List tc_Ct) := hc
    cases hc
  have hP : ∀ p ∈ tJ_2102, ∃ hs, tc_plk (aP sa, tV_2102.2) p hs = true := by
    intro p hp
    have hp : p ∈ ([tL_2102_0] : List tc_Pl) := hp
    rcases List.mem_cons.mp hp with rfl | hp
    · exact ⟨_, (tc_plk_sa (aP_sa sa _)).trans ((fw_plk_s tHC_2102).trans tP_2102_0)⟩
    cases hp
  exact tc_main (mt := aM_414.1) (hs := tH_2102_0) (PL := tJ_2102) ⟨tp_G_ok, tMs_2102 _, hC, tr_L_ok, tp_G_re⟩ (show am_meth (aP sa) 414 = some aM_414.1 from rfl) aX_414 (by decide +kernel) hP ((tc_go_sa (aP_sa sa _)).trans ((fw_go_s tHC_2102).trans tR_2102))
noncomputable def tK_2103 : tc_Ct := (422, (3, 3), [(2, ([], 0), 0), (0, ([(0, 1)], 0), 0), (0, ([(1, 1)], 0), 0)], ([([(0, -1)], 7), ([(0, 1)], 0), ([(1, -1)], 33), ([(1, 1)], 0), ([(2, -1)], 30), ([(2, 1)], 0)], [(0, 0), (1, 34), (2, 35)], [], [(0, 59, (2, ([], 0), 1)), (0, 60, (2, ([], 0), 2))], [(2, ([(0, 1)], 0), ([(2, 1)], 0))], [], [(64, [1, 2], [])]), [], [((3, 3), ([([(0, -1)], 7), ([(0, 1)], 0), ([(1, -1)], 33), ([(1, 1)], 0), ([(2, -1)], 30), ([(2, 1)], 0)], [], [], [(0, 60, (2, ([], 0), 2))], [(2, ([(0, 1)], 0), ([(2, 1)], 0))], [], [(56, [1], [([(0, 30)], 0), ([(2, 1)], 0), ([(1, 1)], 0)])]), some (0, ([], 0), 0), ([], 0), ([], 0)), ((3, 3), ([([(0, -1)], 7), ([(0, 1)], 0), ([(1, -1)], 33), ([(1, 1)], 0), ([(2, -1)], 30), ([(2, 1)], -1), ([(1, -400)], 13200), ([(1, 400)], 0)], [], [], [(0, 60, (2, ([], 0), 2))], [(2, ([(0, 1)], 0), ([(2, 1)], 0))], [], []), some (0, ([], 1), 0), ([], 0), ([], 0))])
noncomputable def tL_2103_0 : tc_Pl := de_pl 0x30d36ff000001030202020000000000030d36ff0003000000000000000203010004000000000300000201010002000002000100010000000200050500020102400002010100020301003c000103010138020000020201000200010201020000023c00010000023b0002002302220100000300020301000202013c0102010002010142010101000200010e010001070304
noncomputable def tL_2103_1 : tc_Pl := de_pl 0x30d36ff000001030202020000000000030d36ff000300000000000000020301000400020000030000020101000200000200010001000000020005050002010240010000020401000201010400020201000200010202020000023c00010000023b00040000021d00030000021c0004000b040a0323022201000005000000000000000320ff01010000000000006720ff000000000000031fff010101020301010202013c010201000200010e010001070505
noncomputable def tJ_2103 : List tc_Pl := [tL_2103_0, tL_2103_1]
noncomputable def tC_2103 : List tc_Ct := [tK_2102, tK_2099]
def tM_2103 (z : Nat) : Option am_Meth := if z = 414 then some aM_414.1 else none
set_option maxRecDepth 100000 in
theorem tMs_2103 (sa : Nat → Nat) : ∀ z mz, tM_2103 z = some mz → am_meth (aP sa) z = some mz := by
  intro z mz h
  unfold tM_2103 at h
  rcases de_m h with ⟨rfl, rfl⟩ | h
  · exact (show am_meth (aP sa) 414 = some aM_414.1 from rfl)
  cases h
noncomputable def tV_2103 : tc_Ev := (aQ, tp_T, tp_G.2, tp_Z, tM_2103, tC_2103, tr_L, tK_2103.2.2.2.2.1, aM_422.1, aW_422, tK_2103.2.1, tK_2103.2.2.2.2.2, tJ_2103)
theorem tE_2103 : tK_2103.2.2.2.2.2.all (tc_wex tK_2103.2.1.1 tK_2103.2.1.2) = true := by decide +kernel
theorem tSS_2103 : tC_2103.all (fun c => tw_mg tK_2103.2.2.2.2.1 c.2.2.2.2.1) = true := by decide +kernel
theorem tHC_2103 : ∀ c ∈ tC_2103, c.2.2.2.2.1.all tK_2103.2.2.2.2.1.contains = true ∧ c.2.2.2.2.2.all (tc_wex c.2.1.1 c.2.1.2) = true := tf_hc tSS_2103 (by
  intro c hc
  have hc : c ∈ ([tK_2102, tK_2099] : List tc_Ct) := hc
  rcases List.mem_cons.mp hc with rfl | hc
  · exact tE_2102
  rcases List.mem_cons.mp hc with rfl | hc
  · exact tE_2099
  cases hc)
noncomputable def tH_2103_0 : List tc_It := [de_it 0x8010000, de_it 0x11e010101000000000000000000000000000000000a000201010000003c00010302a4020009, de_it 0x1010501010104010101030101010201010101010101000101000000000000000000000000000100010f00000100010008]
set_option maxRecDepth 100000 in
theorem tR_2103 : fw_go tV_2103 tK_2103.2.1.1 tK_2103.2.1.2 none tH_2103_0 [(tK_2103.2.1, tK_2103.2.2.2.1, 0, tc_args 0 tK_2103.2.2.1, [], ([], 0), ([], 0))] = true := by decide +kernel
noncomputable def tH_2103_1 : List tc_It := [de_it 0x4010000, de_it 0x2, de_it 0x2010000, de_it 0x4010011, de_it 0x10701000201010101010200000002, de_it 0x300000001, de_it 0x2010000, de_it 0x10901010000000000000000000000000000000009000202010002010100020301003c00010402a6020009, de_it 0x10501010104010101030101010201010101010101000101000000000000000000010001000100010e0000010007, de_it 0x2010000, de_it 0x2, de_it 0x4010000, de_it 0x1e0001011e0101010200000001, de_it 0x2010000, de_it 0x10901041e00030101061e0102010200000001, de_it 0x2010011, de_it 0x109010a01041e00040101061e010201020002033c00020100010002, de_it 0x2060101020100000c, de_it 0x1060201020100000c, de_it 0x11001010111010102000201010100010013, de_it 0x4010000, de_it 0x10000011201010300000001, de_it 0x2010000, de_it 0x2, de_it 0x4010000, de_it 0x190ff100000000000000190ff0f02010000000000000190ff0301010200000001, de_it 0x2010000, de_it 0x2, de_it 0x2010000, de_it 0x8010011, de_it 0x1100114010f03010103010102000201010100010002, de_it 0x2010000, de_it 0x2, de_it 0x4010000, de_it 0x190ff100000000000000190ff0f02010000000000000190ff0301010200000001, de_it 0x2010000, de_it 0x2, de_it 0x2010000, de_it 0x1100114010f0301010301010200000002, de_it 0x1180101011901010000000000000190ff0301010000000000000190ff100000000000000190ff0f0201000000000000000000000000000000000c00020801000000000000000320ff0101020600020006, de_it 0x10000011f01010300000001, de_it 0x6010000, de_it 0x10901040201010601010200000001, de_it 0x2010000, de_it 0x11b0101011a0101010601010106010902010104010101010101010001010000000001090101000100000001000100010f000208010202030102080602030008, de_it 0x4010000, de_it 0x10000011201010300000001, de_it 0x2010000, de_it 0x2, de_it 0x4010000, de_it 0x190ff0f01010000000000000190ff030000000000000190ff1102010200000001, de_it 0x2010000, de_it 0x2, de_it 0x2010000, de_it 0x8010011, de_it 0x114010f020101030111020102000206010100010002, de_it 0x2010000, de_it 0x2, de_it 0x4010000, de_it 0x190ff110000000000000190ff0f02010000000000000190ff0301010200000001, de_it 0x2010000, de_it 0x2, de_it 0x2010000, de_it 0x1110114010f03010103010102000201010100010002, de_it 0x190ff11011d01180000000000000190ff0f04010000000000000190ff11011c01190000000000000190ff0f0401011d01180000000000000190ff0f0301011c01190000000000000190ff0f03010000000000000190ff11011d0000000000000190ff0f03010000000000000190ff1101190000000000000190ff0f0301011d0000000000000190ff0f020101190000000000000190ff0f0201011c0101011d01010000000000000190ff0301010000000000000190ff110000000000000190ff0f020101180101011901010000000000000190ff030000000000000190ff1102010000000000000190ff0f0101000000000000000000000000000000001800020901000000000000000320ff010100020801000000000000000320ff0601040602020006, de_it 0x5a58565452504e4c46443e3c3a3832302a28221e1c161412100e0c0a080604020021000d, de_it 0x10121010100000300000001, de_it 0x4010000, de_it 0x10901040201010601010200000001, de_it 0x2010000, de_it 0x10e010101060101000000000000000000000000000000000a000206010002010100020301003c00010402a8020009, de_it 0x1060101010601090201010401010118010000000000000190ff010e010d020101010101010001010000000001090101000100000001000100010f020203010100010008, de_it 0x5452504e4c46443e3c3a3832302a28221e1c161412100e0c0a08060402001e000d, de_it 0x10000011f01010300000001, de_it 0x6010000, de_it 0x10901040201010601010200000001, de_it 0x2010000, de_it 0x11801010000000000000190ff0e0000000000000190ff0d0201010601010106010902010104010101010101010001010000000001090101000100000001000100010f000209010202030102080602030008, de_it 0x4010000, de_it 0x10000011101010300000001, de_it 0x2010000, de_it 0x2, de_it 0x4010000, de_it 0x190ff0f01010000000000000190ff0e01010200000001, de_it 0x2010000, de_it 0x2, de_it 0x2010000, de_it 0x8010011, de_it 0x113010f0201010e010102000206010100010002, de_it 0x2010000, de_it 0x2, de_it 0x4010000, de_it 0x190ff0201010000000000000190ff0e0000000000000190ff1002010200000001, de_it 0x2010000, de_it 0x2, de_it 0x2010000, de_it 0x11301020201010e0110020102000201010100010002, de_it 0x11c01170000000000000190ff020301011b01180000000000000190ff020301011c01170000000000000190ff0f0301011b01180000000000000190ff0f0301011c0000000000000190ff02020101180000000000000190ff020201011c0000000000000190ff0f020101180000000000000190ff0f0201011b0101011c01010000000000000190ff0e0000000000000190ff1002010000000000000190ff02010101170101011801010000000000000190ff0e01010000000000000190ff0f0101000000000000000000000000000000001800020901000000000000000320ff010100020801000000000000000320ff0601040602020006, de_it 0x58565452504e4c4a44423c3a3836302e2826201e1c161412100e0c0a080604020021000d, de_it 0x10121010100000300000001, de_it 0x4010000, de_it 0x10901040201010601010200000001, de_it 0x2010000, de_it 0x10e010101060101000000000000000000000000000000000a000206010002010100020301003c00010402aa020009, de_it 0x10601010106010902010104010101160000000000000190ff0e020000000000000190ff0102010101010101010001010000000001090101000100000001000100010f020203010100010008, de_it 0x52504e4c4a44423c3a3836302e2826201e1c161412100e0c0a08060402001e000d, de_it 0x10000011f01010300000001, de_it 0x6010000, de_it 0x10901040201010601010200000001, de_it 0x2010000, de_it 0x1160000000000000190ff0e02010000000000000190ff020101010601010106010902010104010101010101010001010000000001090101000100000001000100010f000209010202030102080602030008]
set_option maxRecDepth 100000 in
theorem tP_2103_0 : fw_plk tV_2103 tL_2103_0 tH_2103_1 = true := by decide +kernel
noncomputable def tH_2103_2 : List tc_It := [de_it 0x4010000, de_it 0x2, de_it 0x2010000, de_it 0x4010011, de_it 0x10701000201010101010200000002, de_it 0x300000001, de_it 0x2010000, de_it 0x10601010105010101030101010201010106010000000000000190ff0105010000000000000190ff010101010100010100000000000000000001000100010001100002010007, de_it 0x2010000, de_it 0x2, de_it 0x4010000, de_it 0x1e0001011e0101010200000001, de_it 0x2010000, de_it 0x10901021e00030101041e0102010200000001, de_it 0x2010011, de_it 0x109010a01021e00040101041e010201020002033c00020100010002, de_it 0x2070101020100000c, de_it 0x1070201020100000c, de_it 0x11001010111010102000201010100010013, de_it 0x4010000, de_it 0x10113010100000300000001, de_it 0x6010000, de_it 0x10901020201010401010200000001, de_it 0x2010000, de_it 0x10601010000000000000190ff100000000000000190ff0f0201010401010104010902010102010101010101010001010000000001090101000100000001000100010f000204010202030102080602030008, de_it 0x4010000, de_it 0x10113010100000300000001, de_it 0x6010000, de_it 0x10901020201010401010200000001, de_it 0x2010000, de_it 0x10601010000000000000190ff110000000000000190ff0f0201010401010104010902010102010101010101010001010000000001090101000100000001000100010f000204010202030102080602030008, de_it 0x4010000, de_it 0x10112010100000300000001, de_it 0x6010000, de_it 0x10901020201010401010200000001, de_it 0x2010000, de_it 0x190ff0e0000000000000190ff10020101050101010401010104010902010102010101010101010001010000000001090101000100000001000100010f000204010202030102080602030008]
set_option maxRecDepth 100000 in
theorem tP_2103_1 : fw_plk tV_2103 tL_2103_1 tH_2103_2 = true := by decide +kernel
set_option maxRecDepth 100000 in
theorem tT_2103 {RO : am_O} {sa : Nat → Nat} (h_2099 : tc_true (aP sa) tp_G RO tp_T tp_Z tK_2099) (h_2102 : tc_true (aP sa) tp_G RO tp_T tp_Z tK_2102) : tc_true (aP sa) tp_G RO tp_T tp_Z tK_2103 := by
  have hC : ∀ c ∈ tC_2103, tc_true (aP sa) tp_G RO tp_T tp_Z c := by
    intro c hc
    have hc : c ∈ ([tK_2102, tK_2099] : List tc_Ct) := hc
    rcases List.mem_cons.mp hc with rfl | hc
    · exact h_2102
    rcases List.mem_cons.mp hc with rfl | hc
    · exact h_2099
    cases hc
  have hP : ∀ p ∈ tJ_2103, ∃ hs, tc_plk (aP sa, tV_2103.2) p hs = true := by
    intro p hp
    have hp : p ∈ ([tL_2103_0, tL_2103_1] : List tc_Pl) := hp
    rcases List.mem_cons.mp hp with rfl | hp
    · exact ⟨_, (tc_plk_sa (aP_sa sa _)).trans ((fw_plk_s tHC_2103).trans tP_2103_0)⟩
    rcases List.mem_cons.mp hp with rfl | hp
    · exact ⟨_, (tc_plk_sa (aP_sa sa _)).trans ((fw_plk_s tHC_2103).trans tP_2103_1)⟩
    cases hp
  exact tc_main (mt := aM_422.1) (hs := tH_2103_0) (PL := tJ_2103) ⟨tp_G_ok, tMs_2103 _, hC, tr_L_ok, tp_G_re⟩ (show am_meth (aP sa) 422 = some aM_422.1 from rfl) aX_422 (by decide +kernel) hP ((tc_go_sa (aP_sa sa _)).trans ((fw_go_s tHC_2103).trans tR_2103))
noncomputable def tK_2104 : tc_Ct := (329, (3, 2), [(2, ([], 0), 0), (2, ([], 0), 1), (0, ([(0, 1)], 0), 0), (0, ([(1, 1)], 0), 0)], ([([(0, -1)], 13600), ([(0, 1)], 0), ([(1, -1)], 400), ([(1, 1)], 0), ([(2, -1)], 7), ([(2, 1)], 0)], [(0, 0), (1, 10)], [], [(0, 9, (0, ([(2, 1)], 0), 0))], [], [], []), [(0, 5), (0, 6), (0, 7), (0, 8), (0, 9), (0, 10), (0, 11)], [((4, 2), ([([(0, -1)], 13600), ([(0, 1)], 0), ([(1, -1)], 400), ([(1, 1)], 0), ([(2, -1)], 7), ([(2, 1)], 0), ([(3, -1)], 7), ([(3, 1)], 0)], [], [], [(0, 9, (0, ([(3, 1)], 0), 0))], [], [], []), none, ([], 0), ([], 0))])
noncomputable def tL_2104_0 : tc_Pl := de_pl 0x30d3aff000001030201020000000000030d3aff00030000000000000002030100040000020101000300000200010002010000020100000002000503000000000002040100090001000a01000002000204010e01040100020301000202010e010201000201010000000000000320ff010101000200010000000000006a40ff010001090205
noncomputable def tJ_2104 : List tc_Pl := [tL_2104_0]
noncomputable def tC_2104 : List tc_Ct := [tK_2009]
def tM_2104 (z : Nat) : Option am_Meth := if z = 330 then some aM_330.1 else none
set_option maxRecDepth 100000 in
theorem tMs_2104 (sa : Nat → Nat) : ∀ z mz, tM_2104 z = some mz → am_meth (aP sa) z = some mz := by
  intro z mz h
  unfold tM_2104 at h
  rcases de_m h with ⟨rfl, rfl⟩ | h
  · exact (show am_meth (aP sa) 330 = some aM_330.1 from rfl)
  cases h
noncomputable def tV_2104 : tc_Ev := (aQ, tp_T, tp_G.2, tp_Z, tM_2104, tC_2104, tr_L, tK_2104.2.2.2.2.1, aM_329.1, aW_329, tK_2104.2.1, tK_2104.2.2.2.2.2, tJ_2104)
theorem tE_2104 : tK_2104.2.2.2.2.2.all (tc_wex tK_2104.2.1.1 tK_2104.2.1.2) = true := by decide +kernel
theorem tSS_2104 : tC_2104.all (fun c => tw_mg tK_2104.2.2.2.2.1 c.2.2.2.2.1) = true := by decide +kernel
theorem tHC_2104 : ∀ c ∈ tC_2104, c.2.2.2.2.1.all tK_2104.2.2.2.2.1.contains = true ∧ c.2.2.2.2.2.all (tc_wex c.2.1.1 c.2.1.2) = true := tf_hc tSS_2104 (by
  intro c hc
  have hc : c ∈ ([tK_2009] : List tc_Ct) := hc
  rcases List.mem_cons.mp hc with rfl | hc
  · exact tE_2009
  cases hc)
noncomputable def tH_2104_0 : List tc_It := [de_it 0x4010000, de_it 0x105010101040101000101050101010401010103010101020101010101010100010100000000000000000000000000010001110002020100000200010008]
set_option maxRecDepth 100000 in
theorem tR_2104 : fw_go tV_2104 tK_2104.2.1.1 tK_2104.2.1.2 none tH_2104_0 [(tK_2104.2.1, tK_2104.2.2.2.1, 0, tc_args 0 tK_2104.2.2.1, [], ([], 0), ([], 0))] = true := by decide +kernel
noncomputable def tH_2104_1 : List tc_It := [de_it 0x4010000, de_it 0x300000001, de_it 0x1080101010701010105010101040101010301010102010101010101010001010000000000000000000000000001000110000204010100010007, de_it 0x8010000, de_it 0x1090102010003010106010102010200000001, de_it 0x2010011, de_it 0x109010a010201000401010601010201020002030200020100010002, de_it 0x108010101070101010e0101010f0101000000000000000000000000000000010c0002040100020601020000020006, de_it 0x10901020201010601010200000001, de_it 0x2010000, de_it 0x11701010119011802020106010101050101010401010106010902010102010101010101010001010000000001090101000100000001000100011100020801020203010200010008]
set_option maxRecDepth 100000 in
theorem tP_2104_0 : fw_plk tV_2104 tL_2104_0 tH_2104_1 = true := by decide +kernel
set_option maxRecDepth 100000 in
theorem tT_2104 {RO : am_O} {sa : Nat → Nat} (h_2009 : tc_true (aP sa) tp_G RO tp_T tp_Z tK_2009) : tc_true (aP sa) tp_G RO tp_T tp_Z tK_2104 := by
  have hC : ∀ c ∈ tC_2104, tc_true (aP sa) tp_G RO tp_T tp_Z c := by
    intro c hc
    have hc : c ∈ ([tK_2009] : List tc_Ct) := hc
    rcases List.mem_cons.mp hc with rfl | hc
    · exact h_2009
    cases hc
  have hP : ∀ p ∈ tJ_2104, ∃ hs, tc_plk (aP sa, tV_2104.2) p hs = true := by
    intro p hp
    have hp : p ∈ ([tL_2104_0] : List tc_Pl) := hp
    rcases List.mem_cons.mp hp with rfl | hp
    · exact ⟨_, (tc_plk_sa (aP_sa sa _)).trans ((fw_plk_s tHC_2104).trans tP_2104_0)⟩
    cases hp
  exact tc_main (mt := aM_329.1) (hs := tH_2104_0) (PL := tJ_2104) ⟨tp_G_ok, tMs_2104 _, hC, tr_L_ok, tp_G_re⟩ (show am_meth (aP sa) 329 = some aM_329.1 from rfl) aX_329 (by decide +kernel) hP ((tc_go_sa (aP_sa sa _)).trans ((fw_go_s tHC_2104).trans tR_2104))
noncomputable def tK_2105 : tc_Ct := (362, (5, 2), [(2, ([], 0), 0), (0, ([(0, 1)], 0), 0), (0, ([(1, 1)], 0), 0), (0, ([(2, 1)], 0), 0), (2, ([], 0), 1), (0, ([(3, 1)], 0), 0), (0, ([(4, 1)], 0), 0)], ([([(0, -1)], 2147483647), ([(0, 1)], 2147483648), ([(1, -1)], 2147483647), ([(1, 1)], 2147483648), ([(2, -1)], 2147483577), ([(2, 1)], -2), ([(3, -1)], 13600), ([(3, 1)], 0), ([(4, -1)], 400), ([(4, 1)], 0)], [(0, 0), (1, 10)], [], [], [], [], []), [(0, 5), (0, 6), (0, 7), (0, 8), (0, 9), (0, 10), (0, 11)], [((6, 2), ([([(0, -1)], 2147483647), ([(0, 1)], 2147483648), ([(1, -1)], 2147483647), ([(1, 1)], 2147483648), ([(2, -1)], 2147483577), ([(2, 1)], -2), ([(3, -1)], 13600), ([(3, 1)], 0), ([(4, -1)], 400), ([(4, 1)], 0), ([(5, -1)], 1073741788), ([(5, 1)], 0)], [], [], [(0, 9, (0, ([], 0), 0)), (0, 10, (1, ([], 0), 0))], [], [], []), some (0, ([(5, 1)], 0), 0), ([], 0), ([], 0))])
noncomputable def tJ_2105 : List tc_Pl := []
noncomputable def tC_2105 : List tc_Ct := [tK_2005, tK_2024, tK_2104, tK_2012, tK_2041]
def tM_2105 (z : Nat) : Option am_Meth := if z = 361 then some aM_361.1 else if z = 346 then some aM_346.1 else if z = 334 then some aM_334.1 else if z = 329 then some aM_329.1 else if z = 328 then some aM_328.1 else none
set_option maxRecDepth 100000 in
theorem tMs_2105 (sa : Nat → Nat) : ∀ z mz, tM_2105 z = some mz → am_meth (aP sa) z = some mz := by
  intro z mz h
  unfold tM_2105 at h
  rcases de_m h with ⟨rfl, rfl⟩ | h
  · exact (show am_meth (aP sa) 361 = some aM_361.1 from rfl)
  rcases de_m h with ⟨rfl, rfl⟩ | h
  · exact (show am_meth (aP sa) 346 = some aM_346.1 from rfl)
  rcases de_m h with ⟨rfl, rfl⟩ | h
  · exact (show am_meth (aP sa) 334 = some aM_334.1 from rfl)
  rcases de_m h with ⟨rfl, rfl⟩ | h
  · exact (show am_meth (aP sa) 329 = some aM_329.1 from rfl)
  rcases de_m h with ⟨rfl, rfl⟩ | h
  · exact (show am_meth (aP sa) 328 = some aM_328.1 from rfl)
  cases h
noncomputable def tV_2105 : tc_Ev := (aQ, tp_T, tp_G.2, tp_Z, tM_2105, tC_2105, tr_L, tK_2105.2.2.2.2.1, aM_362.1, aW_362, tK_2105.2.1, tK_2105.2.2.2.2.2, tJ_2105)
theorem tE_2105 : tK_2105.2.2.2.2.2.all (tc_wex tK_2105.2.1.1 tK_2105.2.1.2) = true := by decide +kernel
theorem tSS_2105 : tC_2105.all (fun c => tw_mg tK_2105.2.2.2.2.1 c.2.2.2.2.1) = true := by decide +kernel
theorem tHC_2105 : ∀ c ∈ tC_2105, c.2.2.2.2.1.all tK_2105.2.2.2.2.1.contains = true ∧ c.2.2.2.2.2.all (tc_wex c.2.1.1 c.2.1.2) = true := tf_hc tSS_2105 (by
  intro c hc
  have hc : c ∈ ([tK_2005, tK_2024, tK_2104, tK_2012, tK_2041] : List tc_Ct) := hc
  rcases List.mem_cons.mp hc with rfl | hc
  · exact tE_2005
  rcases List.mem_cons.mp hc with rfl | hc
  · exact tE_2024
  rcases List.mem_cons.mp hc with rfl | hc
  · exact tE_2104
  rcases List.mem_cons.mp hc with rfl | hc
  · exact tE_2012
  rcases List.mem_cons.mp hc with rfl | hc
  · exact tE_2041
  cases hc)
noncomputable def tH_2105_0 : List tc_It := [de_it 0x4010000, de_it 0x101010101000101000000000000000000000000000000010a00020001010000020006, de_it 0x4010000, de_it 0x100010103010101020101000000000000000000000000000000010c000000020101020002020006, de_it 0x4010000, de_it 0x1190101011a01010105010101040101000000000000000000000000000000010c0002090100020201020002020006, de_it 0x8010000, de_it 0x1200101011f010101090101010801010107010101060101000000000000000000000000000000030e00020a01000204010002030103020004030006, de_it 0x525012100e0c0a08060402000c000d, de_it 0x2010000, de_it 0x10b0101010a0101000000000000000000000000000000000a00020b01010006020006, de_it 0x80008010006, de_it 0x2010000, de_it 0x10f01010100000201, de_it 0x11001010111010101090101010801010107010101060101010501010104010101030101010201010101010101000101000000000000000000000000000100011400000000007fffffb9ff0d020c020100010007]
set_option maxRecDepth 100000 in
theorem tR_2105 : fw_go tV_2105 tK_2105.2.1.1 tK_2105.2.1.2 none tH_2105_0 [(tK_2105.2.1, tK_2105.2.2.2.1, 0, tc_args 0 tK_2105.2.2.1, [], ([], 0), ([], 0))] = true := by decide +kernel
set_option maxRecDepth 100000 in
theorem tT_2105 {RO : am_O} {sa : Nat → Nat} (h_2005 : tc_true (aP sa) tp_G RO tp_T tp_Z tK_2005) (h_2012 : tc_true (aP sa) tp_G RO tp_T tp_Z tK_2012) (h_2024 : tc_true (aP sa) tp_G RO tp_T tp_Z tK_2024) (h_2041 : tc_true (aP sa) tp_G RO tp_T tp_Z tK_2041) (h_2104 : tc_true (aP sa) tp_G RO tp_T tp_Z tK_2104) : tc_true (aP sa) tp_G RO tp_T tp_Z tK_2105 := by
  have hC : ∀ c ∈ tC_2105, tc_true (aP sa) tp_G RO tp_T tp_Z c := by
    intro c hc
    have hc : c ∈ ([tK_2005, tK_2024, tK_2104, tK_2012, tK_2041] : List tc_Ct) := hc
    rcases List.mem_cons.mp hc with rfl | hc
    · exact h_2005
    rcases List.mem_cons.mp hc with rfl | hc
    · exact h_2024
    rcases List.mem_cons.mp hc with rfl | hc
    · exact h_2104
    rcases List.mem_cons.mp hc with rfl | hc
    · exact h_2012
    rcases List.mem_cons.mp hc with rfl | hc
    · exact h_2041
    cases hc
  have hP : ∀ p ∈ tJ_2105, ∃ hs, tc_plk (aP sa, tV_2105.2) p hs = true := by
    intro p hp
    have hp : p ∈ ([] : List tc_Pl) := hp
    cases hp
  exact tc_main (mt := aM_362.1) (hs := tH_2105_0) (PL := tJ_2105) ⟨tp_G_ok, tMs_2105 _, hC, tr_L_ok, tp_G_re⟩ (show am_meth (aP sa) 362 = some aM_362.1 from rfl) aX_362 (by decide +kernel) hP ((tc_go_sa (aP_sa sa _)).trans ((fw_go_s tHC_2105).trans tR_2105))
noncomputable def tK_2106 : tc_Ct := (364, (4, 2), [(2, ([], 0), 0), (0, ([(0, 1)], 0), 0), (0, ([(1, 1)], 0), 0), (1, ([], 0), 0), (2, ([], 0), 1), (0, ([(2, 1)], 0), 0), (0, ([(3, 1)], 0), 0)], ([([(0, -1)], 2147483647), ([(0, 1)], 2147483648), ([(1, -1)], 2147483647), ([(1, 1)], 2147483648), ([(2, -1)], 13600), ([(2, 1)], 0), ([(3, -1)], 400), ([(3, 1)], 0)], [(0, 0), (1, 10)], [], [], [], [], []), [(0, 5), (0, 6), (0, 7), (0, 8), (0, 9), (0, 10), (0, 11)], [((4, 2), ([([(0, -1)], 2147483647), ([(0, 1)], 2147483648), ([(1, -1)], 2147483647), ([(1, 1)], 2147483648), ([(2, -1)], 13600), ([(2, 1)], 0), ([(3, -1)], 400), ([(3, 1)], 0)], [], [], [], [], [], []), some (0, ([], 0), 0), ([], 0), ([], 0)), ((4, 2), ([([(0, -1)], 2147483647), ([(0, 1)], 2147483648), ([(1, -1)], 2147483577), ([(1, 1)], -2), ([(2, -1)], 13600), ([(2, 1)], 0), ([(3, -1)], 400), ([(3, 1)], 0)], [], [], [(0, 9, (0, ([], 0), 0)), (0, 10, (1, ([], 0), 0))], [], [], []), some (0, ([], 1), 0), ([], 0), ([], 0))])
noncomputable def tJ_2106 : List tc_Pl := []
noncomputable def tC_2106 : List tc_Ct := [tK_2000, tK_2033, tK_2105]
def tM_2106 (z : Nat) : Option am_Meth := if z = 362 then some aM_362.1 else if z = 353 then some aM_353.1 else if z = 321 then some aM_321.1 else none
set_option maxRecDepth 100000 in
theorem tMs_2106 (sa : Nat → Nat) : ∀ z mz, tM_2106 z = some mz → am_meth (aP sa) z = some mz := by
  intro z mz h
  unfold tM_2106 at h
  rcases de_m h with ⟨rfl, rfl⟩ | h
  · exact (show am_meth (aP sa) 362 = some aM_362.1 from rfl)
  rcases de_m h with ⟨rfl, rfl⟩ | h
  · exact (show am_meth (aP sa) 353 = some aM_353.1 from rfl)
  rcases de_m h with ⟨rfl, rfl⟩ | h
  · exact (show am_meth (aP sa) 321 = some aM_321.1 from rfl)
  cases h
noncomputable def tV_2106 : tc_Ev := (aQ, tp_T, tp_G.2, tp_Z, tM_2106, tC_2106, tr_L, tK_2106.2.2.2.2.1, aM_364.1, aW_364, tK_2106.2.1, tK_2106.2.2.2.2.2, tJ_2106)
theorem tE_2106 : tK_2106.2.2.2.2.2.all (tc_wex tK_2106.2.1.1 tK_2106.2.1.2) = true := by decide +kernel
theorem tSS_2106 : tC_2106.all (fun c => tw_mg tK_2106.2.2.2.2.1 c.2.2.2.2.1) = true := by decide +kernel
theorem tHC_2106 : ∀ c ∈ tC_2106, c.2.2.2.2.1.all tK_2106.2.2.2.2.1.contains = true ∧ c.2.2.2.2.2.all (tc_wex c.2.1.1 c.2.1.2) = true := tf_hc tSS_2106 (by
  intro c hc
  have hc : c ∈ ([tK_2000, tK_2033, tK_2105] : List tc_Ct) := hc
  rcases List.mem_cons.mp hc with rfl | hc
  · exact tE_2000
  rcases List.mem_cons.mp hc with rfl | hc
  · exact tE_2033
  rcases List.mem_cons.mp hc with rfl | hc
  · exact tE_2105
  cases hc)
noncomputable def tH_2106_0 : List tc_It := [de_it 0x6010000, de_it 0x101, de_it 0x4010000, de_it 0x101, de_it 0xa010000, de_it 0x10001000100010103010101020101000000000000000000000000000000000e00000000ffffff72ff000400000201010300010006, de_it 0x10112010100000300000001, de_it 0x2010000, de_it 0x10701010106010101050101010401010103010101020101010101010100010100000000000000000001000100010001100000010007, de_it 0x10000011501010300000001, de_it 0x8010000, de_it 0x1000100010001000000000000000000000000000000000c00000000ffffff76ff00000000007fffffbaff000202010006, de_it 0x2010000, de_it 0x300000001, de_it 0x2010000, de_it 0x10701010106010101050101010401010113010101120101010101010100010100000000000000000001000100010001100000010007, de_it 0x8010000, de_it 0x10001000100010108010101090101000000000000000000000000000000000e000000007fffffb8ff000000000204010300010006, de_it 0x10123010100000300000001, de_it 0x2010000, de_it 0x10701010106010101050101010401010113010101120101010101010100010100000000000000000001000100010001100000010007, de_it 0x10000012601010300000001, de_it 0x8010000, de_it 0x1000100010001010a0101010b0101000000000000000000000000000000000e000000007fffffb8ff000000000205010300010006, de_it 0x4846262416140e0c0a0802000c000d, de_it 0x10000010c01010300000001, de_it 0x2010000, de_it 0x10501010104010101030101010201010109010101080101010101010100010100000000000000000001000100010001100000010007, de_it 0x5a58484626240e0c0a0802000c000d, de_it 0x1010d010100000300000001, de_it 0x6010000, de_it 0x10001010b0101010a0101000000000000000000000000000000000c00000000ffffff76ff00000205010202010006, de_it 0xa010000, de_it 0x1090101010801010200000001, de_it 0x2010000, de_it 0x100010108010101090101000000000000000000000000000000000c00000000ffffff76ff00000000007fffffbaff0104010202010006, de_it 0x10010000, de_it 0x101, de_it 0x2010000, de_it 0x101, de_it 0x8010000, de_it 0x10501010104010101030101010201010107010101060101011b0101011c010101190101011a0101000000000000000000000000000000061200020301000202010002010100020a010002090105020004030006, de_it 0x504e161412100e0c0a08060402000e000d, de_it 0x2010000, de_it 0x300000001, de_it 0x2010000, de_it 0x10501010104010101030101010201010107010101060101010101010100010100000000000000000001000100010001100000010007, de_it 0x4010000, de_it 0x10501010104010101030101010201010107010101060101010101010100010100000000000000000001000100010001100002010007]
set_option maxRecDepth 100000 in
theorem tR_2106 : fw_go tV_2106 tK_2106.2.1.1 tK_2106.2.1.2 none tH_2106_0 [(tK_2106.2.1, tK_2106.2.2.2.1, 0, tc_args 0 tK_2106.2.2.1, [], ([], 0), ([], 0))] = true := by decide +kernel
set_option maxRecDepth 100000 in
theorem tT_2106 {RO : am_O} {sa : Nat → Nat} (h_2000 : tc_true (aP sa) tp_G RO tp_T tp_Z tK_2000) (h_2033 : tc_true (aP sa) tp_G RO tp_T tp_Z tK_2033) (h_2105 : tc_true (aP sa) tp_G RO tp_T tp_Z tK_2105) : tc_true (aP sa) tp_G RO tp_T tp_Z tK_2106 := by
  have hC : ∀ c ∈ tC_2106, tc_true (aP sa) tp_G RO tp_T tp_Z c := by
    intro c hc
    have hc : c ∈ ([tK_2000, tK_2033, tK_2105] : List tc_Ct) := hc
    rcases List.mem_cons.mp hc with rfl | hc
    · exact h_2000
    rcases List.mem_cons.mp hc with rfl | hc
    · exact h_2033
    rcases List.mem_cons.mp hc with rfl | hc
    · exact h_2105
    cases hc
  have hP : ∀ p ∈ tJ_2106, ∃ hs, tc_plk (aP sa, tV_2106.2) p hs = true := by
    intro p hp
    have hp : p ∈ ([] : List tc_Pl) := hp
    cases hp
  exact tc_main (mt := aM_364.1) (hs := tH_2106_0) (PL := tJ_2106) ⟨tp_G_ok, tMs_2106 _, hC, tr_L_ok, tp_G_re⟩ (show am_meth (aP sa) 364 = some aM_364.1 from rfl) aX_364 (by decide +kernel) hP ((tc_go_sa (aP_sa sa _)).trans ((fw_go_s tHC_2106).trans tR_2106))
noncomputable def tK_2107 : tc_Ct := (395, (1, 1), [(2, ([], 0), 0), (0, ([(0, 1)], 0), 0)], ([([(0, -1)], 13596), ([(0, 1)], 0)], [(0, 10)], [], [], [], [], []), [], [((2, 1), ([([(0, -1)], 13596), ([(0, 1)], 0), ([(1, -1)], 2147483647), ([(1, 1)], 2147483648)], [], [], [], [], [], []), some (0, ([(1, 1)], 0), 0), ([], 0), ([], 0))])
noncomputable def tJ_2107 : List tc_Pl := []
noncomputable def tC_2107 : List tc_Ct := []
def tM_2107 (z : Nat) : Option am_Meth := none
set_option maxRecDepth 100000 in
theorem tMs_2107 (sa : Nat → Nat) : ∀ z mz, tM_2107 z = some mz → am_meth (aP sa) z = some mz := fun z mz h => by cases h
noncomputable def tV_2107 : tc_Ev := (aQ, tp_T, tp_G.2, tp_Z, tM_2107, tC_2107, tr_L, tK_2107.2.2.2.2.1, aM_395.1, aW_395, tK_2107.2.1, tK_2107.2.2.2.2.2, tJ_2107)
theorem tE_2107 : tK_2107.2.2.2.2.2.all (tc_wex tK_2107.2.1.1 tK_2107.2.1.2) = true := by decide +kernel
theorem tSS_2107 : tC_2107.all (fun c => tw_mg tK_2107.2.2.2.2.1 c.2.2.2.2.1) = true := by decide +kernel
theorem tHC_2107 : ∀ c ∈ tC_2107, c.2.2.2.2.1.all tK_2107.2.2.2.2.1.contains = true ∧ c.2.2.2.2.2.all (tc_wex c.2.1.1 c.2.1.2) = true := tf_hc tSS_2107 (by
  intro c hc
  have hc : c ∈ ([] : List tc_Ct) := hc
  cases hc)
noncomputable def tH_2107_0 : List tc_It := [de_it 0x4010000, de_it 0x10011, de_it 0x102010002010101010102000200010100010002, de_it 0x2010000, de_it 0x101, de_it 0x6010000, de_it 0x1000101010101010200000001, de_it 0x102010002010101010102020200010100010002, de_it 0x2010000, de_it 0x10000ff0d01010000000000010000ff0c01010200000001, de_it 0x101, de_it 0x6010000, de_it 0x1000101010101010200000001, de_it 0x102010002010101010102040200010100010002, de_it 0x2010000, de_it 0x100ff1301010000000000000100ff1201010200000001, de_it 0x101, de_it 0x6010000, de_it 0x1000101010101010200000001, de_it 0x102010002010101010102060200010100010002, de_it 0x101, de_it 0x11a0101011b01010101010101000101000000000000000000000000000100010c000209010100010007]
set_option maxRecDepth 100000 in
theorem tR_2107 : fw_go tV_2107 tK_2107.2.1.1 tK_2107.2.1.2 none tH_2107_0 [(tK_2107.2.1, tK_2107.2.2.2.1, 0, tc_args 0 tK_2107.2.2.1, [], ([], 0), ([], 0))] = true := by decide +kernel
set_option maxRecDepth 100000 in
theorem tT_2107 {RO : am_O} {sa : Nat → Nat} : tc_true (aP sa) tp_G RO tp_T tp_Z tK_2107 := by
  have hC : ∀ c ∈ tC_2107, tc_true (aP sa) tp_G RO tp_T tp_Z c := by
    intro c hc
    have hc : c ∈ ([] : List tc_Ct) := hc
    cases hc
  have hP : ∀ p ∈ tJ_2107, ∃ hs, tc_plk (aP sa, tV_2107.2) p hs = true := by
    intro p hp
    have hp : p ∈ ([] : List tc_Pl) := hp
    cases hp
  exact tc_main (mt := aM_395.1) (hs := tH_2107_0) (PL := tJ_2107) ⟨tp_G_ok, tMs_2107 _, hC, tr_L_ok, tp_G_re⟩ (show am_meth (aP sa) 395 = some aM_395.1 from rfl) aX_395 (by decide +kernel) hP ((tc_go_sa (aP_sa sa _)).trans ((fw_go_s tHC_2107).trans tR_2107))
noncomputable def tK_2108 : tc_Ct := (415, (1, 1), [(2, ([], 0), 0), (0, ([(0, 1)], 0), 0)], ([([(0, -1)], 13592), ([(0, 1)], 0)], [(0, 10)], [], [], [], [], []), [], [((1, 1), ([([(0, -1)], 13592), ([(0, 1)], 0)], [], [], [], [], [], []), some (1, ([], 0), 0), ([], 0), ([], 0))])
noncomputable def tJ_2108 : List tc_Pl := []
noncomputable def tC_2108 : List tc_Ct := [tK_2107]
def tM_2108 (z : Nat) : Option am_Meth := if z = 395 then some aM_395.1 else none
set_option maxRecDepth 100000 in
theorem tMs_2108 (sa : Nat → Nat) : ∀ z mz, tM_2108 z = some mz → am_meth (aP sa) z = some mz := by
  intro z mz h
  unfold tM_2108 at h
  rcases de_m h with ⟨rfl, rfl⟩ | h
  · exact (show am_meth (aP sa) 395 = some aM_395.1 from rfl)
  cases h
noncomputable def tV_2108 : tc_Ev := (aQ, tp_T, tp_G.2, tp_Z, tM_2108, tC_2108, tr_L, tK_2108.2.2.2.2.1, aM_415.1, aW_415, tK_2108.2.1, tK_2108.2.2.2.2.2, tJ_2108)
theorem tE_2108 : tK_2108.2.2.2.2.2.all (tc_wex tK_2108.2.1.1 tK_2108.2.1.2) = true := by decide +kernel
theorem tSS_2108 : tC_2108.all (fun c => tw_mg tK_2108.2.2.2.2.1 c.2.2.2.2.1) = true := by decide +kernel
theorem tHC_2108 : ∀ c ∈ tC_2108, c.2.2.2.2.1.all tK_2108.2.2.2.2.1.contains = true ∧ c.2.2.2.2.2.all (tc_wex c.2.1.1 c.2.1.2) = true := tf_hc tSS_2108 (by
  intro c hc
  have hc : c ∈ ([tK_2107] : List tc_Ct) := hc
  rcases List.mem_cons.mp hc with rfl | hc
  · exact tE_2107
  cases hc)
noncomputable def tH_2108_0 : List tc_It := [de_it 0x4010000, de_it 0x101010101000101000000000000000000000000000000000a00020001010000020006, de_it 0xc010000, de_it 0x1000101010101010200000001, de_it 0x101010101000101000000000000000000000000000000000a08020001010000020006, de_it 0x8010000, de_it 0x101010101000101000000000000000000000000000100010a0000010007]
set_option maxRecDepth 100000 in
theorem tR_2108 : fw_go tV_2108 tK_2108.2.1.1 tK_2108.2.1.2 none tH_2108_0 [(tK_2108.2.1, tK_2108.2.2.2.1, 0, tc_args 0 tK_2108.2.2.1, [], ([], 0), ([], 0))] = true := by decide +kernel
set_option maxRecDepth 100000 in
theorem tT_2108 {RO : am_O} {sa : Nat → Nat} (h_2107 : tc_true (aP sa) tp_G RO tp_T tp_Z tK_2107) : tc_true (aP sa) tp_G RO tp_T tp_Z tK_2108 := by
  have hC : ∀ c ∈ tC_2108, tc_true (aP sa) tp_G RO tp_T tp_Z c := by
    intro c hc
    have hc : c ∈ ([tK_2107] : List tc_Ct) := hc
    rcases List.mem_cons.mp hc with rfl | hc
    · exact h_2107
    cases hc
  have hP : ∀ p ∈ tJ_2108, ∃ hs, tc_plk (aP sa, tV_2108.2) p hs = true := by
    intro p hp
    have hp : p ∈ ([] : List tc_Pl) := hp
    cases hp
  exact tc_main (mt := aM_415.1) (hs := tH_2108_0) (PL := tJ_2108) ⟨tp_G_ok, tMs_2108 _, hC, tr_L_ok, tp_G_re⟩ (show am_meth (aP sa) 415 = some aM_415.1 from rfl) aX_415 (by decide +kernel) hP ((tc_go_sa (aP_sa sa _)).trans ((fw_go_s tHC_2108).trans tR_2108))
noncomputable def tK_2109 : tc_Ct := (425, (2, 1), [(2, ([], 0), 0), (0, ([(0, 1)], 0), 0), (0, ([(1, 1)], 0), 0)], ([([(0, -1)], 33), ([(0, 1)], 0), ([(1, -1)], 33), ([(1, 1)], 0)], [(0, 0)], [], [], [], [], []), [(0, 5), (0, 6), (0, 7), (0, 8), (0, 9), (0, 10), (0, 11)], [((2, 1), ([([(0, -1)], 33), ([(0, 1)], 0), ([(1, -1)], 33), ([(1, 1)], 0)], [], [], [], [], [], []), some (0, ([], 0), 0), ([], 0), ([], 0)), ((2, 1), ([([(0, -1)], 33), ([(0, 1)], 0), ([(1, -1)], 33), ([(1, 1)], 0)], [], [], [(0, 9, (0, ([], 0), 0)), (0, 10, (1, ([], 0), 0))], [], [], []), some (0, ([], 1), 0), ([], 0), ([], 0))])
noncomputable def tJ_2109 : List tc_Pl := []
noncomputable def tC_2109 : List tc_Ct := [tK_2108, tK_2106]
def tM_2109 (z : Nat) : Option am_Meth := if z = 415 then some aM_415.1 else if z = 364 then some aM_364.1 else none
set_option maxRecDepth 100000 in
theorem tMs_2109 (sa : Nat → Nat) : ∀ z mz, tM_2109 z = some mz → am_meth (aP sa) z = some mz := by
  intro z mz h
  unfold tM_2109 at h
  rcases de_m h with ⟨rfl, rfl⟩ | h
  · exact (show am_meth (aP sa) 415 = some aM_415.1 from rfl)
  rcases de_m h with ⟨rfl, rfl⟩ | h
  · exact (show am_meth (aP sa) 364 = some aM_364.1 from rfl)
  cases h
noncomputable def tV_2109 : tc_Ev := (aQ, tp_T, tp_G.2, tp_Z, tM_2109, tC_2109, tr_L, tK_2109.2.2.2.2.1, aM_425.1, aW_425, tK_2109.2.1, tK_2109.2.2.2.2.2, tJ_2109)
theorem tE_2109 : tK_2109.2.2.2.2.2.all (tc_wex tK_2109.2.1.1 tK_2109.2.1.2) = true := by decide +kernel
theorem tSS_2109 : tC_2109.all (fun c => tw_mg tK_2109.2.2.2.2.1 c.2.2.2.2.1) = true := by decide +kernel
theorem tHC_2109 : ∀ c ∈ tC_2109, c.2.2.2.2.1.all tK_2109.2.2.2.2.1.contains = true ∧ c.2.2.2.2.2.all (tc_wex c.2.1.1 c.2.1.2) = true := tf_hc tSS_2109 (by
  intro c hc
  have hc : c ∈ ([tK_2108, tK_2106] : List tc_Ct) := hc
  rcases List.mem_cons.mp hc with rfl | hc
  · exact tE_2108
  rcases List.mem_cons.mp hc with rfl | hc
  · exact tE_2106
  cases hc)
noncomputable def tH_2109_0 : List tc_It := [de_it 0x4010000, de_it 0x2, de_it 0x4010000, de_it 0x8000101080101010200000001, de_it 0x2010000, de_it 0x8000101080101010200000001, de_it 0x2010011, de_it 0x10408000201080101010200000002, de_it 0x2010000, de_it 0x2, de_it 0x4010000, de_it 0x8020101080301010200000001, de_it 0x2010000, de_it 0x8020101080301010200000001, de_it 0x10408020201080301010200000002, de_it 0x2010000, de_it 0x2, de_it 0x2010000, de_it 0x2, de_it 0x2010000, de_it 0x6010011, de_it 0x10a010002010101010102000200010100010002, de_it 0x10e0101010f0000000000000190ff000201000000000000000000000000000000000a00020601010400020006, de_it 0x2010000, de_it 0x2, de_it 0x2010000, de_it 0x2, de_it 0x4010000, de_it 0x2000101020101010200000001, de_it 0x8010011, de_it 0x112020002010201010102000200010100010002, de_it 0x2010000, de_it 0x2, de_it 0x4010000, de_it 0x2000101020101010200000001, de_it 0x2010000, de_it 0x2000101020101010200000001, de_it 0x112020002010201010102000200010102010002, de_it 0x11a0101011b01010116010101170000000000000190ff0002010108010101090101010601010107010100000000000000000000000000000006100002090100020801000204010002030104040002030006, de_it 0x1030101010201010101010101000101000000000000000000010001000100010c0000010007, de_it 0x1030101010201010101010101000101000000000000000000010001000100010c0002010007]
set_option maxRecDepth 100000 in
theorem tR_2109 : fw_go tV_2109 tK_2109.2.1.1 tK_2109.2.1.2 none tH_2109_0 [(tK_2109.2.1, tK_2109.2.2.2.1, 0, tc_args 0 tK_2109.2.2.1, [], ([], 0), ([], 0))] = true := by decide +kernel
set_option maxRecDepth 100000 in
theorem tT_2109 {RO : am_O} {sa : Nat → Nat} (h_2106 : tc_true (aP sa) tp_G RO tp_T tp_Z tK_2106) (h_2108 : tc_true (aP sa) tp_G RO tp_T tp_Z tK_2108) : tc_true (aP sa) tp_G RO tp_T tp_Z tK_2109 := by
  have hC : ∀ c ∈ tC_2109, tc_true (aP sa) tp_G RO tp_T tp_Z c := by
    intro c hc
    have hc : c ∈ ([tK_2108, tK_2106] : List tc_Ct) := hc
    rcases List.mem_cons.mp hc with rfl | hc
    · exact h_2108
    rcases List.mem_cons.mp hc with rfl | hc
    · exact h_2106
    cases hc
  have hP : ∀ p ∈ tJ_2109, ∃ hs, tc_plk (aP sa, tV_2109.2) p hs = true := by
    intro p hp
    have hp : p ∈ ([] : List tc_Pl) := hp
    cases hp
  exact tc_main (mt := aM_425.1) (hs := tH_2109_0) (PL := tJ_2109) ⟨tp_G_ok, tMs_2109 _, hC, tr_L_ok, tp_G_re⟩ (show am_meth (aP sa) 425 = some aM_425.1 from rfl) aX_425 (by decide +kernel) hP ((tc_go_sa (aP_sa sa _)).trans ((fw_go_s tHC_2109).trans tR_2109))
noncomputable def tK_2110 : tc_Ct := (414, (3, 1), [(2, ([], 0), 0), (0, ([(0, 1)], 0), 0), (0, ([(1, 1)], 0), 0), (2, ([], 0), 0), (0, ([(2, 1)], 0), 0), (0, ([(1, 1)], 0), 0)], ([([(0, -1)], 14008), ([(0, 1)], -1), ([(1, -1)], 41), ([(1, 1)], 0), ([(2, -1)], 14238), ([(2, 1)], 0), ([(0, -1), (1, -1)], 14008)], [(0, 10)], [], [], [], [], []), [], [((3, 1), ([([(0, -1)], 14007), ([(0, 1)], -1), ([(1, -1)], 41), ([(1, 1)], -1), ([(2, -1)], 14238), ([(2, 1)], 0), ([(0, -1), (1, -1)], 14008)], [], [], [], [], [], []), some (0, ([], 0), 0), ([], 0), ([], 0)), ((3, 1), ([([(0, -1)], 14008), ([(0, 1)], -1), ([(1, -1)], 41), ([(1, 1)], 0), ([(2, -1)], 14238), ([(2, 1)], 0), ([(0, -1), (1, -1)], 14008)], [], [], [], [], [], []), some (0, ([], 1), 0), ([], 0), ([], 0))])
noncomputable def tL_2110_0 : tc_Pl := de_pl 0x30d20ff000001030201020000000000030d20ff0003000000000000000203010007000000000600000202010004000000020300000201010002000002000100010000000200071000000000000a0001010201010000000000006d6eff0100010000000000006d70ff0101010002000202010000000000006f3cff0102015201010101020001070104
noncomputable def tL_2110_1 : tc_Pl := de_pl 0x30d20ff000001030201020000000000030d20ff0003000000000000000203010007000200000600000202010004000000020300000201010002000002000100010000000200071000000000000a0001000203010000000000006d70ff0101010002000202010000000000006f3cff0102010002010152010101010200010000000000006d70ff010001080104
noncomputable def tJ_2110 : List tc_Pl := [tL_2110_0, tL_2110_1]
noncomputable def tC_2110 : List tc_Ct := []
def tM_2110 (z : Nat) : Option am_Meth := none
set_option maxRecDepth 100000 in
theorem tMs_2110 (sa : Nat → Nat) : ∀ z mz, tM_2110 z = some mz → am_meth (aP sa) z = some mz := fun z mz h => by cases h
noncomputable def tV_2110 : tc_Ev := (aQ, tp_T, tp_G.2, tp_Z, tM_2110, tC_2110, tr_L, tK_2110.2.2.2.2.1, aM_414.1, aW_414, tK_2110.2.1, tK_2110.2.2.2.2.2, tJ_2110)
theorem tE_2110 : tK_2110.2.2.2.2.2.all (tc_wex tK_2110.2.1.1 tK_2110.2.1.2) = true := by decide +kernel
theorem tSS_2110 : tC_2110.all (fun c => tw_mg tK_2110.2.2.2.2.1 c.2.2.2.2.1) = true := by decide +kernel
theorem tHC_2110 : ∀ c ∈ tC_2110, c.2.2.2.2.1.all tK_2110.2.2.2.2.1.contains = true ∧ c.2.2.2.2.2.all (tc_wex c.2.1.1 c.2.1.2) = true := tf_hc tSS_2110 (by
  intro c hc
  have hc : c ∈ ([] : List tc_Ct) := hc
  cases hc)
noncomputable def tH_2110_0 : List tc_It := [de_it 0x4010000, de_it 0x10000010701010300000001, de_it 0xa010000, de_it 0x101060101010501010104010101030101010201010101010101000101000000000000000000000000000100011000000102010008]
set_option maxRecDepth 100000 in
theorem tR_2110 : fw_go tV_2110 tK_2110.2.1.1 tK_2110.2.1.2 none tH_2110_0 [(tK_2110.2.1, tK_2110.2.2.2.1, 0, tc_args 0 tK_2110.2.2.1, [], ([], 0), ([], 0))] = true := by decide +kernel
noncomputable def tH_2110_1 : List tc_It := [de_it 0x2010000, de_it 0x10107010100000300000001, de_it 0x2010000, de_it 0x1040101010301010102010101060101010101010100010101050101000000000000000000010001000100010f0000010007]
set_option maxRecDepth 100000 in
theorem tP_2110_0 : fw_plk tV_2110 tL_2110_0 tH_2110_1 = true := by decide +kernel
noncomputable def tH_2110_2 : List tc_It := [de_it 0x2010000, de_it 0x10000010901010300000001, de_it 0x4010000, de_it 0x300000001, de_it 0x2010000, de_it 0x1060101010501010104010101030101010201010101010101000101000000000000000000010001000100010f0002010007, de_it 0x6010000, de_it 0x109010602010107010102010200000001, de_it 0x10011, de_it 0x109010a01060301010701010201020002030200020100010002, de_it 0x6010000, de_it 0x1090102010403010107010502010200000001, de_it 0x109010a010201040401010701050201020002030202020100010002, de_it 0x300000001, de_it 0x4010000, de_it 0x10901020201010701010200000001, de_it 0x2010000, de_it 0x10701090201010701090106030101060101010501010104010101020101010101010000000001090101000100000001000100010f020203010100010008, de_it 0x6010000, de_it 0x10901020201010701010200000001, de_it 0x2010000, de_it 0x10701010106010101050101010401010107010902010102010101010101010701090106030100000000010901010001000000010001000110020203010102010008]
set_option maxRecDepth 100000 in
theorem tP_2110_1 : fw_plk tV_2110 tL_2110_1 tH_2110_2 = true := by decide +kernel
set_option maxRecDepth 100000 in
theorem tT_2110 {RO : am_O} {sa : Nat → Nat} : tc_true (aP sa) tp_G RO tp_T tp_Z tK_2110 := by
  have hC : ∀ c ∈ tC_2110, tc_true (aP sa) tp_G RO tp_T tp_Z c := by
    intro c hc
    have hc : c ∈ ([] : List tc_Ct) := hc
    cases hc
  have hP : ∀ p ∈ tJ_2110, ∃ hs, tc_plk (aP sa, tV_2110.2) p hs = true := by
    intro p hp
    have hp : p ∈ ([tL_2110_0, tL_2110_1] : List tc_Pl) := hp
    rcases List.mem_cons.mp hp with rfl | hp
    · exact ⟨_, (tc_plk_sa (aP_sa sa _)).trans ((fw_plk_s tHC_2110).trans tP_2110_0)⟩
    rcases List.mem_cons.mp hp with rfl | hp
    · exact ⟨_, (tc_plk_sa (aP_sa sa _)).trans ((fw_plk_s tHC_2110).trans tP_2110_1)⟩
    cases hp
  exact tc_main (mt := aM_414.1) (hs := tH_2110_0) (PL := tJ_2110) ⟨tp_G_ok, tMs_2110 _, hC, tr_L_ok, tp_G_re⟩ (show am_meth (aP sa) 414 = some aM_414.1 from rfl) aX_414 (by decide +kernel) hP ((tc_go_sa (aP_sa sa _)).trans ((fw_go_s tHC_2110).trans tR_2110))
noncomputable def tK_2111 : tc_Ct := (428, (4, 1), [(2, ([], 0), 0), (0, ([(0, 1)], 0), 0), (0, ([(1, 1)], 0), 0), (0, ([(2, 1)], 0), 0), (0, ([(3, 1)], 0), 0)], ([([(0, -1)], 13966), ([(0, 1)], 0), ([(1, -1)], 42), ([(1, 1)], 0), ([(2, -1)], 14238), ([(2, 1)], 0), ([(3, -1)], 42), ([(3, 1)], 0)], [(0, 0)], [], [], [], [], []), [], [((4, 1), ([([(0, -1)], 13966), ([(0, 1)], 0), ([(1, -1)], 42), ([(1, 1)], 0), ([(2, -1)], 14238), ([(2, 1)], 0), ([(3, -1)], 42), ([(3, 1)], 0)], [], [], [], [], [], []), some (0, ([], 0), 0), ([], 0), ([], 0)), ((4, 1), ([([(0, -1)], 13966), ([(0, 1)], 0), ([(1, -1)], 42), ([(1, 1)], 0), ([(2, -1)], 14238), ([(2, 1)], 0), ([(3, -1)], 42), ([(3, 1)], 0), ([(1, 1), (3, -1)], 0)], [], [], [], [], [], []), some (0, ([], 1), 0), ([], 0), ([], 0))])
noncomputable def tJ_2111 : List tc_Pl := []
noncomputable def tC_2111 : List tc_Ct := [tK_2110, tK_2099]
def tM_2111 (z : Nat) : Option am_Meth := if z = 414 then some aM_414.1 else none
set_option maxRecDepth 100000 in
theorem tMs_2111 (sa : Nat → Nat) : ∀ z mz, tM_2111 z = some mz → am_meth (aP sa) z = some mz := by
  intro z mz h
  unfold tM_2111 at h
  rcases de_m h with ⟨rfl, rfl⟩ | h
  · exact (show am_meth (aP sa) 414 = some aM_414.1 from rfl)
  cases h
noncomputable def tV_2111 : tc_Ev := (aQ, tp_T, tp_G.2, tp_Z, tM_2111, tC_2111, tr_L, tK_2111.2.2.2.2.1, aM_428.1, aW_428, tK_2111.2.1, tK_2111.2.2.2.2.2, tJ_2111)
theorem tE_2111 : tK_2111.2.2.2.2.2.all (tc_wex tK_2111.2.1.1 tK_2111.2.1.2) = true := by decide +kernel
theorem tSS_2111 : tC_2111.all (fun c => tw_mg tK_2111.2.2.2.2.1 c.2.2.2.2.1) = true := by decide +kernel
theorem tHC_2111 : ∀ c ∈ tC_2111, c.2.2.2.2.1.all tK_2111.2.2.2.2.1.contains = true ∧ c.2.2.2.2.2.all (tc_wex c.2.1.1 c.2.1.2) = true := tf_hc tSS_2111 (by
  intro c hc
  have hc : c ∈ ([tK_2110, tK_2099] : List tc_Ct) := hc
  rcases List.mem_cons.mp hc with rfl | hc
  · exact tE_2110
  rcases List.mem_cons.mp hc with rfl | hc
  · exact tE_2099
  cases hc)
noncomputable def tH_2111_0 : List tc_It := [de_it 0x2010000, de_it 0x2, de_it 0x2010000, de_it 0x2010011, de_it 0x108010002010101010102000200010100010002, de_it 0x2010000, de_it 0x300000001, de_it 0x6010000, de_it 0x1010e010100000300000001, de_it 0x6010000, de_it 0x10110010100000300000001, de_it 0x8010000, de_it 0x300000001, de_it 0x4010000, de_it 0x300000001, de_it 0x2010000, de_it 0x10701010106010101050101010401010103010101020101010101010100010100000000000000000001000100010001100000010007, de_it 0x2010000, de_it 0x2, de_it 0x4010000, de_it 0x1020100020101070112010103010200000001, de_it 0x2010000, de_it 0x1070102010003010112010102010200000001, de_it 0x2010000, de_it 0x1070102010003010112010102010200000001, de_it 0x10801070102010004010112010102010201010302010200030100010002, de_it 0x2010000, de_it 0x300000001, de_it 0x2010000, de_it 0x1070101011201020201010501010104010101070112020101020101010101010100010100000000000000000001000100010001100000010007, de_it 0x2010000, de_it 0x2, de_it 0x4010000, de_it 0x1020100020101070112010103010200000001, de_it 0x2010000, de_it 0x1070102010003010112010102010200000001, de_it 0x4010000, de_it 0x2, de_it 0x4010000, de_it 0x102010002010105010101040101010701010112010202010112010102010107010201000301000000000000000000000000000000000f00020201000203010001030201020003030200020006, de_it 0x10120010100000300000001, de_it 0x2010000, de_it 0x11c01010102011202010105010101040101011c0112020101020101010101010100010100000000000000000001000100010001100000010007, de_it 0x10000012101010300000001, de_it 0x4010000, de_it 0x112010101070101010201120201010501010104010101070112020101020101010101010100010100000000000000000001000100010001110002010007, de_it 0x2010000, de_it 0x2, de_it 0x6010000, de_it 0x2, de_it 0x4010000, de_it 0x104011202010104011302010112010002010113010002010106010402010104010202010106010002010102010002010107010101060101010501010104010101030101010201010101010101000101000000000000000000000000000000001800020301000202010002010100020001040202020006, de_it 0x10701010106010101050101010401010103010101020101010101010100010100000000000000000001000100010001100000010007, de_it 0x1120101010701010106010101050101010401010103010101020101010101010100010100000000000000000001000100010001110002010007, de_it 0x8010000, de_it 0x10000011101010300000001, de_it 0x4010000, de_it 0x1000101010101010200000001, de_it 0x6010000, de_it 0x10000011201010300000001, de_it 0x4010000, de_it 0x1020101010301010200000001, de_it 0x8010000, de_it 0x300000001, de_it 0x4010000, de_it 0x300000001, de_it 0x2010000, de_it 0x10701010106010101050101010401010103010101020101010101010100010100000000000000000001000100010001100000010007, de_it 0x2010000, de_it 0x2, de_it 0x4010000, de_it 0x1020100020101070112010103010200000001, de_it 0x2010000, de_it 0x1070102010003010112010102010200000001, de_it 0x2010000, de_it 0x1070102010003010112010102010200000001, de_it 0x10801070102010004010112010102010201010302010200030100010002, de_it 0x2010000, de_it 0x300000001, de_it 0x2010000, de_it 0x1070101011201020201010501010104010101070112020101020101010101010100010100000000000000000001000100010001100000010007, de_it 0x2010000, de_it 0x2, de_it 0x4010000, de_it 0x1020100020101070112010103010200000001, de_it 0x2010000, de_it 0x1070102010003010112010102010200000001, de_it 0x4010000, de_it 0x2, de_it 0x4010000, de_it 0x102010002010105010101040101010701010112010202010112010102010107010201000301000000000000000000000000000000000f00020201000203010001030201020003030200020006, de_it 0x10120010100000300000001, de_it 0x2010000, de_it 0x11c01010102011202010105010101040101011c0112020101020101010101010100010100000000000000000001000100010001100000010007, de_it 0x10000012101010300000001, de_it 0x4010000, de_it 0x112010101070101010201120201010501010104010101070112020101020101010101010100010100000000000000000001000100010001110002010007, de_it 0x2010000, de_it 0x2, de_it 0x6010000, de_it 0x2, de_it 0x4010000, de_it 0x1040112020101040113020101120100020101130100020101120102010403010104010202010112010201000301010201000201010701010112010202010105010101040101010701120201010201010101010101000101000000000000000000000000000000001800020301000202010302010104020001040202020006, de_it 0x107010101120102020101050101010401010117010101020101010101010100010100000000000000000001000100010001100000010007, de_it 0x11201010107010101120102020101050101010401010117010101020101010101010100010100000000000000000001000100010001110002010007]
set_option maxRecDepth 100000 in
theorem tR_2111 : fw_go tV_2111 tK_2111.2.1.1 tK_2111.2.1.2 none tH_2111_0 [(tK_2111.2.1, tK_2111.2.2.2.1, 0, tc_args 0 tK_2111.2.2.1, [], ([], 0), ([], 0))] = true := by decide +kernel
set_option maxRecDepth 100000 in
theorem tT_2111 {RO : am_O} {sa : Nat → Nat} (h_2099 : tc_true (aP sa) tp_G RO tp_T tp_Z tK_2099) (h_2110 : tc_true (aP sa) tp_G RO tp_T tp_Z tK_2110) : tc_true (aP sa) tp_G RO tp_T tp_Z tK_2111 := by
  have hC : ∀ c ∈ tC_2111, tc_true (aP sa) tp_G RO tp_T tp_Z c := by
    intro c hc
    have hc : c ∈ ([tK_2110, tK_2099] : List tc_Ct) := hc
    rcases List.mem_cons.mp hc with rfl | hc
    · exact h_2110
    rcases List.mem_cons.mp hc with rfl | hc
    · exact h_2099
    cases hc
  have hP : ∀ p ∈ tJ_2111, ∃ hs, tc_plk (aP sa, tV_2111.2) p hs = true := by
    intro p hp
    have hp : p ∈ ([] : List tc_Pl) := hp
    cases hp
  exact tc_main (mt := aM_428.1) (hs := tH_2111_0) (PL := tJ_2111) ⟨tp_G_ok, tMs_2111 _, hC, tr_L_ok, tp_G_re⟩ (show am_meth (aP sa) 428 = some aM_428.1 from rfl) aX_428 (by decide +kernel) hP ((tc_go_sa (aP_sa sa _)).trans ((fw_go_s tHC_2111).trans tR_2111))
noncomputable def tK_2112 : tc_Ct := (427, (3, 1), [(2, ([], 0), 0), (0, ([(0, 1)], 0), 0), (0, ([(1, 1)], 0), 0), (0, ([(2, 1)], 0), 0)], ([([(0, -1)], 33), ([(0, 1)], 0), ([(1, -1)], 13966), ([(1, 1)], 0), ([(2, -1)], 42), ([(2, 1)], 0)], [(0, 0)], [], [], [], [], []), [], [((3, 1), ([([(0, -1)], 33), ([(0, 1)], 0), ([(1, -1)], 13966), ([(1, 1)], 0), ([(2, -1)], 42), ([(2, 1)], 0)], [], [], [], [], [], []), some (0, ([], 0), 0), ([], 0), ([], 0)), ((3, 1), ([([(0, -1)], 33), ([(0, 1)], 0), ([(1, -1)], 13966), ([(1, 1)], 0), ([(2, -1)], 42), ([(2, 1)], 0)], [], [], [], [], [], []), some (0, ([], 1), 0), ([], 0), ([], 0))])
noncomputable def tL_2112_0 : tc_Pl := de_pl 0x30c74ff00080104010000000000030c74ff000300000000000000020401000500000203010004000002020100030000020101000200000200010001000000020006660000000205010206000101010100000223000100110100000200020401000203010002020154010201000201010000000000006d1cff0101010002000142010001080206
noncomputable def tL_2112_1 : tc_Pl := de_pl 0x30d12ff00080104010000000000030d12ff00030000000000000002040100050000020301000400000202010003000002010100020000020001000100000002000617000000020501020600010101010000022300010011010000020801050100020401000203010002020154010201000201010000000000006d1cff0101010002000142010001090206
noncomputable def tJ_2112 : List tc_Pl := [tL_2112_0, tL_2112_1]
noncomputable def tC_2112 : List tc_Ct := [tK_2111]
def tM_2112 (z : Nat) : Option am_Meth := if z = 428 then some aM_428.1 else none
set_option maxRecDepth 100000 in
theorem tMs_2112 (sa : Nat → Nat) : ∀ z mz, tM_2112 z = some mz → am_meth (aP sa) z = some mz := by
  intro z mz h
  unfold tM_2112 at h
  rcases de_m h with ⟨rfl, rfl⟩ | h
  · exact (show am_meth (aP sa) 428 = some aM_428.1 from rfl)
  cases h
noncomputable def tV_2112 : tc_Ev := (aQ, tp_T, tp_G.2, tp_Z, tM_2112, tC_2112, tr_L, tK_2112.2.2.2.2.1, aM_427.1, aW_427, tK_2112.2.1, tK_2112.2.2.2.2.2, tJ_2112)
theorem tE_2112 : tK_2112.2.2.2.2.2.all (tc_wex tK_2112.2.1.1 tK_2112.2.1.2) = true := by decide +kernel
theorem tSS_2112 : tC_2112.all (fun c => tw_mg tK_2112.2.2.2.2.1 c.2.2.2.2.1) = true := by decide +kernel
theorem tHC_2112 : ∀ c ∈ tC_2112, c.2.2.2.2.1.all tK_2112.2.2.2.2.1.contains = true ∧ c.2.2.2.2.2.all (tc_wex c.2.1.1 c.2.1.2) = true := tf_hc tSS_2112 (by
  intro c hc
  have hc : c ∈ ([tK_2111] : List tc_Ct) := hc
  rcases List.mem_cons.mp hc with rfl | hc
  · exact tE_2111
  cases hc)
noncomputable def tH_2112_0 : List tc_It := [de_it 0x2010000, de_it 0x2, de_it 0x4010000, de_it 0x3000101030101010200000001, de_it 0x2010000, de_it 0x3000101030101010200000001, de_it 0x2010011, de_it 0x106030002010301010102020600010100010002, de_it 0x10a0101000000000300000001, de_it 0x8010000, de_it 0x10b01010001000101050101010401010103010101020101010101010100010100000000000000000000000000010001110002040100000000030202020008, de_it 0xa010000, de_it 0x10d01010001000101050101010401010103010101020101010101010100010100000000000000000000000000010001110002040100000200030202020008]
set_option maxRecDepth 100000 in
theorem tR_2112 : fw_go tV_2112 tK_2112.2.1.1 tK_2112.2.1.2 none tH_2112_0 [(tK_2112.2.1, tK_2112.2.2.2.1, 0, tc_args 0 tK_2112.2.2.1, [], ([], 0), ([], 0))] = true := by decide +kernel
noncomputable def tH_2112_1 : List tc_It := [de_it 0x4010000, de_it 0x2, de_it 0x4010000, de_it 0x3000101030101010200000001, de_it 0x2010000, de_it 0x3000101030101010200000001, de_it 0x2010011, de_it 0x108030002010301010102040600010100010002, de_it 0x300000001, de_it 0x2010000, de_it 0x1060101000000000300000001, de_it 0x2010000, de_it 0x10501010104010101030101010201010101010101000101000000000000000000010001000100010e0000010007, de_it 0x4010000, de_it 0x10501010104010101030101010201010101010101000101000000000000000000010001000100010e0002010007, de_it 0x2010000, de_it 0x1060101000000000300000001, de_it 0x4010000, de_it 0x10e010d0201010701010200000001, de_it 0x2010000, de_it 0x1070101000101050101010401010103010101020101010101010100010100000000010e010d0201000100000001000100011000020501020204010000030200020008, de_it 0x8010000, de_it 0x2, de_it 0x4010000, de_it 0x18000101180101010200000001, de_it 0x2010000, de_it 0x18000101180101010200000001, de_it 0x4010000, de_it 0x20e020d0201020701010200000001, de_it 0x20e020d180003010207180102010200000001, de_it 0x4010011, de_it 0x20e0110020d18000401020718010201021002041800020100010002, de_it 0x2010000, de_it 0x2, de_it 0x4010000, de_it 0x18000101180101010200000001, de_it 0x2010000, de_it 0x18000101180101010200000001, de_it 0x4010000, de_it 0x20e020d0201020701010200000001, de_it 0x20e020d180003010207180102010200000001, de_it 0x20e0110020d18000401020718010201021002041800020102010002, de_it 0x11801010119010101140101220e0000000000000198ff000115220d040101050101010401010103010101020101000000000000000000000000000000041000020a01000209010002020100020101040000020006, de_it 0x10000012201010300000001, de_it 0x6010000, de_it 0x10e010d0201010701010200000001, de_it 0x2010000, de_it 0x1070101000101050101010401010103010101020101010101010100010100000000010e010d0201000100000001000100011000020501020204010200030200020008, de_it 0x10124010100000300000001, de_it 0x4010000, de_it 0x10e010d0201010701010200000001, de_it 0x2010000, de_it 0x1070101000101050101010401010103010101020101010101010100010100000000010e010d0201000100000001000100011000020501020204010000030200020008]
set_option maxRecDepth 100000 in
theorem tP_2112_0 : fw_plk tV_2112 tL_2112_0 tH_2112_1 = true := by decide +kernel
noncomputable def tH_2112_2 : List tc_It := [de_it 0x4010000, de_it 0x2, de_it 0x4010000, de_it 0x3000101030101010200000001, de_it 0x2010000, de_it 0x3000101030101010200000001, de_it 0x2010011, de_it 0x10903000201030101010200000002, de_it 0x300000001, de_it 0x4010000, de_it 0x101060101010501010104010101030101010201010101010101000101000000000000000000010001000100011000020501000000020301030200020008, de_it 0x2010000, de_it 0x1060101000000000300000001, de_it 0x6010000, de_it 0x10b01080201010701010200000001, de_it 0x2010000, de_it 0x108010101070101000101050101010401010103010101020101010101010100010100000000010b01080201000100000001000100011100020501020204010200030202020008, de_it 0x8010000, de_it 0x2, de_it 0x4010000, de_it 0x18000101180101010200000001, de_it 0x2010000, de_it 0x18000101180101010200000001, de_it 0x4010000, de_it 0x20b02080201020701010200000001, de_it 0x20b0208180003010207180102010200000001, de_it 0x4010011, de_it 0x20b010e020818000401020718010201020802041800020100010002, de_it 0x2010000, de_it 0x2, de_it 0x4010000, de_it 0x18000101180101010200000001, de_it 0x2010000, de_it 0x18000101180101010200000001, de_it 0x4010000, de_it 0x20b02080201020701010200000001, de_it 0x20b0208180003010207180102010200000001, de_it 0x20b010e020818000401020718010201020802041800020102010002, de_it 0x11601010117010101120101220b0000000000000198ff0001132208040101050101010401010103010101020101000000000000000000000000000000041000020901000208010002020100020101040000020006, de_it 0x10120010100000300000001, de_it 0x4010000, de_it 0x10b01080201010701010200000001, de_it 0x2010000, de_it 0x108010101070101000101050101010401010103010101020101010101010100010100000000010b01080201000100000001000100011100020501020204010000030202020008, de_it 0x10000012201010300000001, de_it 0x6010000, de_it 0x10b01080201010701010200000001, de_it 0x2010000, de_it 0x108010101070101000101050101010401010103010101020101010101010100010100000000010b01080201000100000001000100011100020501020204010200030202020008]
set_option maxRecDepth 100000 in
theorem tP_2112_1 : fw_plk tV_2112 tL_2112_1 tH_2112_2 = true := by decide +kernel
set_option maxRecDepth 100000 in
theorem tT_2112 {RO : am_O} {sa : Nat → Nat} (h_2111 : tc_true (aP sa) tp_G RO tp_T tp_Z tK_2111) : tc_true (aP sa) tp_G RO tp_T tp_Z tK_2112 := by
  have hC : ∀ c ∈ tC_2112, tc_true (aP sa) tp_G RO tp_T tp_Z c := by
    intro c hc
    have hc : c ∈ ([tK_2111] : List tc_Ct) := hc
    rcases List.mem_cons.mp hc with rfl | hc
    · exact h_2111
    cases hc
  have hP : ∀ p ∈ tJ_2112, ∃ hs, tc_plk (aP sa, tV_2112.2) p hs = true := by
    intro p hp
    have hp : p ∈ ([tL_2112_0, tL_2112_1] : List tc_Pl) := hp
    rcases List.mem_cons.mp hp with rfl | hp
    · exact ⟨_, (tc_plk_sa (aP_sa sa _)).trans ((fw_plk_s tHC_2112).trans tP_2112_0)⟩
    rcases List.mem_cons.mp hp with rfl | hp
    · exact ⟨_, (tc_plk_sa (aP_sa sa _)).trans ((fw_plk_s tHC_2112).trans tP_2112_1)⟩
    cases hp
  exact tc_main (mt := aM_427.1) (hs := tH_2112_0) (PL := tJ_2112) ⟨tp_G_ok, tMs_2112 _, hC, tr_L_ok, tp_G_re⟩ (show am_meth (aP sa) 427 = some aM_427.1 from rfl) aX_427 (by decide +kernel) hP ((tc_go_sa (aP_sa sa _)).trans ((fw_go_s tHC_2112).trans tR_2112))
noncomputable def tK_2113 : tc_Ct := (426, (2, 2), [(2, ([], 0), 0), (0, ([(0, 1)], 0), 0), (0, ([(1, 1)], 0), 0)], ([([(0, -1)], 5), ([(0, 1)], 0), ([(1, -1)], 2), ([(1, 1)], 0)], [(0, 0), (1, 26)], [], [(0, 48, (2, ([], 0), 1))], [], [], [(0, [1], [([], 0), ([(0, 1)], 1), ([], -1)])]), [], [((3, 2), ([([(0, -1)], 5), ([(0, 1)], 0), ([(1, -1)], 2), ([(1, 1)], 0), ([(2, -1)], 7), ([(2, 1)], 0), ([(0, 1), (2, -1)], 6)], [], [], [], [], [], []), some (0, ([(2, 1)], 0), 0), ([], 0), ([], 0))])
noncomputable def tL_2113_0 : tc_Pl := de_pl 0x30c6eff00080103010000000000030c6eff000001020200020000000000030c80ff00050000000000000002030100060000020201000500000200010001000000020004690100020200010000030101000100000205010e1004010200020401000200010102010000023000020000021e0002000c021a0100000301010202000200020401420104010002030100020201080102010102000100020101040101010a0100010a0306
noncomputable def tL_2113_1 : tc_Pl := de_pl 0x30c80ff000001020200020000000000030c80ff000500000000000000020201000500000200010001000000020003600100020200010000030101000100000204010e1003010200020301000200010102010000023000020000021e0002000c021a010000030002030142010301000202010002010104010101000200010a010001070305
noncomputable def tJ_2113 : List tc_Pl := [tL_2113_0, tL_2113_1]
noncomputable def tC_2113 : List tc_Ct := [tK_2112]
def tM_2113 (z : Nat) : Option am_Meth := if z = 427 then some aM_427.1 else none
set_option maxRecDepth 100000 in
theorem tMs_2113 (sa : Nat → Nat) : ∀ z mz, tM_2113 z = some mz → am_meth (aP sa) z = some mz := by
  intro z mz h
  unfold tM_2113 at h
  rcases de_m h with ⟨rfl, rfl⟩ | h
  · exact (show am_meth (aP sa) 427 = some aM_427.1 from rfl)
  cases h
noncomputable def tV_2113 : tc_Ev := (aQ, tp_T, tp_G.2, tp_Z, tM_2113, tC_2113, tr_L, tK_2113.2.2.2.2.1, aM_426.1, aW_426, tK_2113.2.1, tK_2113.2.2.2.2.2, tJ_2113)
theorem tE_2113 : tK_2113.2.2.2.2.2.all (tc_wex tK_2113.2.1.1 tK_2113.2.1.2) = true := by decide +kernel
theorem tSS_2113 : tC_2113.all (fun c => tw_mg tK_2113.2.2.2.2.1 c.2.2.2.2.1) = true := by decide +kernel
theorem tHC_2113 : ∀ c ∈ tC_2113, c.2.2.2.2.1.all tK_2113.2.2.2.2.1.contains = true ∧ c.2.2.2.2.2.all (tc_wex c.2.1.1 c.2.1.2) = true := tf_hc tSS_2113 (by
  intro c hc
  have hc : c ∈ ([tK_2112] : List tc_Ct) := hc
  rcases List.mem_cons.mp hc with rfl | hc
  · exact tE_2112
  cases hc)
noncomputable def tH_2113_0 : List tc_It := [de_it 0x4010000, de_it 0x2, de_it 0x2010000, de_it 0x2010011, de_it 0x1040100020101010101020002000100020001020200020012, de_it 0x101010100010101010101010101000000000000000000000000000000000c00020301000200010100020200010000050206020009, de_it 0x10401000201010101010200000002, de_it 0x8090101080a01010200000001, de_it 0x4010000, de_it 0x300000001, de_it 0x2010000, de_it 0x10101010000010c010b02010300000001, de_it 0x8010000, de_it 0x2, de_it 0x4010000, de_it 0x8090101080a01010200000001, de_it 0x4010011, de_it 0x10e08090201080a01010200000002, de_it 0x2010000, de_it 0x10301010100000001, de_it 0x2010000, de_it 0x1130101000000000300000001, de_it 0x2010000, de_it 0x116010b020100000300000001, de_it 0x4010000, de_it 0x10a0101010901010001010301010102010101010101010b01010000000000000000000000000000000000000000000100011300020501000203010000030402020008, de_it 0x2010000, de_it 0x1010101000100010112011402010102010101010101010b0101000000000000000000000000000100010f0a000100010007, de_it 0x2010000, de_it 0x2, de_it 0x4010000, de_it 0x8090101080a01010200000001, de_it 0x4010011, de_it 0x10c08090201080a01010200000002, de_it 0x300000001, de_it 0x2010000, de_it 0x10b01010111010b020100000300000001, de_it 0x6010000, de_it 0x2, de_it 0x4010000, de_it 0x8090101080a01010200000001, de_it 0x10c08090201080a01010200000002, de_it 0x6010000, de_it 0x1140101000000000300000001, de_it 0x2010000, de_it 0x117010b02010300000001, de_it 0x2010000, de_it 0x2, de_it 0x4010000, de_it 0x8090101080a01010200000001, de_it 0x10c08090201080a01010200000002, de_it 0x2010000, de_it 0x300000001, de_it 0x4010000, de_it 0x10a01010109010100010103010101020101010b0101010001010000000000000000000000000000000000000000000100011300020601000203010000030402020008, de_it 0x2010000, de_it 0x2, de_it 0x4010000, de_it 0x8090101080a01010200000001, de_it 0x10c08090201080a01010200000002, de_it 0x4010000, de_it 0x1000101010b01010200000001, de_it 0x300000001, de_it 0x4010000, de_it 0x10a01010109010100010103010101020101010b0101010001010000000000000000000000000000000000000000000100011300020601000203010000030402020008, de_it 0x2010000, de_it 0x10b0101000100010103010101020101010b010101000101000000000000000000000000000100010f0c000100010007, de_it 0x2010000, de_it 0x10b0101000100010103010101020101010b010101000101000000000000000000000000000100010f0a000100010007, de_it 0x2010000, de_it 0x10b0101000100010103010101020101010b010101000101000000000000000000000000000100010f08000100010007]
set_option maxRecDepth 100000 in
theorem tR_2113 : fw_go tV_2113 tK_2113.2.1.1 tK_2113.2.1.2 none tH_2113_0 [(tK_2113.2.1, tK_2113.2.2.2.1, 0, tc_args 0 tK_2113.2.2.1, [], ([], 0), ([], 0))] = true := by decide +kernel
noncomputable def tH_2113_1 : List tc_It := [de_it 0x4010000, de_it 0x2, de_it 0x4010000, de_it 0x2, de_it 0x2010000, de_it 0x2010011, de_it 0x10a0104020101050101020002020100020201020200020012, de_it 0x1050101010901010105010101050101000000000000000000000000000000000c00020701000202010100020200010000050206020009, de_it 0x10a01040201010501010200000002, de_it 0x30f0101031001010200000001, de_it 0x6010011, de_it 0x111030f02010310010102000607010100010002, de_it 0x300000001, de_it 0x1040101010501010200000001, de_it 0x2010000, de_it 0x1080101010701010105010101020101010101010103010101000101000000000000000000000000010901010001000000010001000113000205010002040102020201030402020008, de_it 0x4010000, de_it 0x2, de_it 0x2010000, de_it 0x103010100010103010101030101000000000000000000000000000000000c00020401000200010100020200010000050206020009, de_it 0x10a01000201010301010200000002, de_it 0x2010000, de_it 0x2, de_it 0x4010000, de_it 0x2, de_it 0x2010000, de_it 0x1050101010901010105010101050101000000000000000000000000000000000c00020701000202010100020200010000050206020009, de_it 0x10a01040201010501010200000002, de_it 0x180f0101181001010200000001, de_it 0x4010000, de_it 0x21702160201020601010200000001, de_it 0x217180f021603011810020602010200000001, de_it 0x8010011, de_it 0x217011a180f02160401181002060201020018070203020100010002, de_it 0x2010000, de_it 0x2, de_it 0x4010000, de_it 0x2, de_it 0x2010000, de_it 0x1050101010901010105010101050101000000000000000000000000000000000c00020701000202010100020200010000050206020009, de_it 0x10a01040201010501010200000002, de_it 0x180f0101181001010200000001, de_it 0x4010000, de_it 0x21702160201020601010200000001, de_it 0x217180f021603010206181002010200000001, de_it 0x2010000, de_it 0x217180f021603010206181002010200000001, de_it 0x217011a180f02160401020618100201020018070203020102010002, de_it 0x123010101240101011e01010000000000000198ff0f2217011f221604010108010101070101000000000000000000000000000000030e00020c0100020b0100020401030000020006, de_it 0x4e48463e3c36342e2c2a2422201e161412100e0c0a08060402001a000d, de_it 0x1011a010100000300000001, de_it 0x11201110201010601010200000001, de_it 0x2010000, de_it 0x1090101010801010107010101060101010501010104010101030101010201010101010101000101000000000112011102010001000000010000000100000001000100011600020501000204010202030100020201040400020008, de_it 0x4e48463e3c36342e2c2a2422201e161412100e0c0a08060402001a000d, de_it 0x10000011b01010300000001, de_it 0x2010000, de_it 0x10301010001000101020101010101010103010101000101000000000000000000000000000100010f0e000100010007]
set_option maxRecDepth 100000 in
theorem tP_2113_0 : fw_plk tV_2113 tL_2113_0 tH_2113_1 = true := by decide +kernel
noncomputable def tH_2113_2 : List tc_It := [de_it 0x4010000, de_it 0x300000001, de_it 0x2010000, de_it 0x10101010001000101030101010201010101010101000101000000000000000000000000000100010f00000100010007, de_it 0x4010000, de_it 0x10701010106010101050101000101040101010701000201010401070201010301010102010101000101000000000000000000010001000000010000000100010001160002040100020301000000020201040400020008]
set_option maxRecDepth 100000 in
theorem tP_2113_1 : fw_plk tV_2113 tL_2113_1 tH_2113_2 = true := by decide +kernel
set_option maxRecDepth 100000 in
theorem tT_2113 {RO : am_O} {sa : Nat → Nat} (h_2112 : tc_true (aP sa) tp_G RO tp_T tp_Z tK_2112) : tc_true (aP sa) tp_G RO tp_T tp_Z tK_2113 := by
  have hC : ∀ c ∈ tC_2113, tc_true (aP sa) tp_G RO tp_T tp_Z c := by
    intro c hc
    have hc : c ∈ ([tK_2112] : List tc_Ct) := hc
    rcases List.mem_cons.mp hc with rfl | hc
    · exact h_2112
    cases hc
  have hP : ∀ p ∈ tJ_2113, ∃ hs, tc_plk (aP sa, tV_2113.2) p hs = true := by
    intro p hp
    have hp : p ∈ ([tL_2113_0, tL_2113_1] : List tc_Pl) := hp
    rcases List.mem_cons.mp hp with rfl | hp
    · exact ⟨_, (tc_plk_sa (aP_sa sa _)).trans ((fw_plk_s tHC_2113).trans tP_2113_0)⟩
    rcases List.mem_cons.mp hp with rfl | hp
    · exact ⟨_, (tc_plk_sa (aP_sa sa _)).trans ((fw_plk_s tHC_2113).trans tP_2113_1)⟩
    cases hp
  exact tc_main (mt := aM_426.1) (hs := tH_2113_0) (PL := tJ_2113) ⟨tp_G_ok, tMs_2113 _, hC, tr_L_ok, tp_G_re⟩ (show am_meth (aP sa) 426 = some aM_426.1 from rfl) aX_426 (by decide +kernel) hP ((tc_go_sa (aP_sa sa _)).trans ((fw_go_s tHC_2113).trans tR_2113))
noncomputable def tK_2114 : tc_Ct := (424, (4, 2), [(2, ([], 0), 0), (0, ([(0, 1)], 0), 0), (0, ([], 0), 0), (0, ([(1, 1)], 0), 0), (0, ([(2, 1)], 0), 0), (0, ([(3, 1)], 0), 0)], ([([(0, -1)], 4), ([(0, 1)], 0), ([(1, -1)], 2147483647), ([(1, 1)], 2147483648), ([(2, -1)], 2), ([(2, 1)], 0), ([(3, -1)], 1), ([(3, 1)], 0)], [(0, 0), (1, 26)], [], [(0, 48, (2, ([], 0), 1))], [], [], [(0, [1], [([], 0), ([(0, 1)], 2), ([], -1)])]), [(0, 5), (0, 6), (0, 7), (0, 8), (0, 9), (0, 10), (0, 11)], [((5, 2), ([([(0, -1)], 4), ([(0, 1)], 0), ([(1, -1)], 2147483647), ([(1, 1)], 2147483648), ([(2, -1)], 2), ([(2, 1)], 0), ([(3, -1)], 1), ([(3, 1)], 0), ([(4, -1)], 9), ([(4, 1)], 0), ([(3, 1), (4, -1)], 8)], [], [], [], [], [], []), some (0, ([(4, 1)], 0), 0), ([], 0), ([], 0))])
noncomputable def tJ_2114 : List tc_Pl := []
noncomputable def tC_2114 : List tc_Ct := [tK_2109, tK_2113, tK_2094]
def tM_2114 (z : Nat) : Option am_Meth := if z = 426 then some aM_426.1 else if z = 425 then some aM_425.1 else if z = 412 then some aM_412.1 else none
set_option maxRecDepth 100000 in
theorem tMs_2114 (sa : Nat → Nat) : ∀ z mz, tM_2114 z = some mz → am_meth (aP sa) z = some mz := by
  intro z mz h
  unfold tM_2114 at h
  rcases de_m h with ⟨rfl, rfl⟩ | h
  · exact (show am_meth (aP sa) 426 = some aM_426.1 from rfl)
  rcases de_m h with ⟨rfl, rfl⟩ | h
  · exact (show am_meth (aP sa) 425 = some aM_425.1 from rfl)
  rcases de_m h with ⟨rfl, rfl⟩ | h
  · exact (show am_meth (aP sa) 412 = some aM_412.1 from rfl)
  cases h
noncomputable def tV_2114 : tc_Ev := (aQ, tp_T, tp_G.2, tp_Z, tM_2114, tC_2114, tr_L, tK_2114.2.2.2.2.1, aM_424.1, aW_424, tK_2114.2.1, tK_2114.2.2.2.2.2, tJ_2114)
theorem tE_2114 : tK_2114.2.2.2.2.2.all (tc_wex tK_2114.2.1.1 tK_2114.2.1.2) = true := by decide +kernel
theorem tSS_2114 : tC_2114.all (fun c => tw_mg tK_2114.2.2.2.2.1 c.2.2.2.2.1) = true := by decide +kernel
theorem tHC_2114 : ∀ c ∈ tC_2114, c.2.2.2.2.1.all tK_2114.2.2.2.2.1.contains = true ∧ c.2.2.2.2.2.all (tc_wex c.2.1.1 c.2.1.2) = true := tf_hc tSS_2114 (by
  intro c hc
  have hc : c ∈ ([tK_2109, tK_2113, tK_2094] : List tc_Ct) := hc
  rcases List.mem_cons.mp hc with rfl | hc
  · exact tE_2109
  rcases List.mem_cons.mp hc with rfl | hc
  · exact tE_2113
  rcases List.mem_cons.mp hc with rfl | hc
  · exact tE_2094
  cases hc)
noncomputable def tH_2114_0 : List tc_It := [de_it 0x2010000, de_it 0x2, de_it 0x2010000, de_it 0x2010011, de_it 0x1080100020101010101020002000100020001020200020012, de_it 0x101010100010101010101010101000000000000000000000000000000000c00020501000200010100040200010000050206020009, de_it 0x10801000201010101010200000002, de_it 0x4010000, de_it 0x10000010f01010300000001, de_it 0x6010000, de_it 0x2, de_it 0x4010000, de_it 0x1000101010101010200000001, de_it 0x1080100020101010101020202000102020001020200020012, de_it 0x101010100010101010101010101000000000000000000000000000000000c00020601020200010100040200010000050206020009, de_it 0x10801000201010101010200000002, de_it 0x115010101140101010e0101010d0101000000000000000000000000000000020c0002060100020501020000020006, de_it 0x10000011a01010300000001, de_it 0x2010000, de_it 0x1070101000100010107010101060101010501010104010101030101010201010101010101000101000000000000000000000000000100011302000100010007, de_it 0x1011b010100000300000001, de_it 0x4010000, de_it 0x2, de_it 0x4010000, de_it 0x80d0101080e01010200000001, de_it 0x2010000, de_it 0x80d0101080e01010200000001, de_it 0x4010011, de_it 0x11b080d0201080e01010200000002, de_it 0x300000001, de_it 0x4010000, de_it 0x2, de_it 0x4010000, de_it 0x80d0101080e01010200000001, de_it 0x2010000, de_it 0x80d0101080e01010200000001, de_it 0x11b080d0201080e01010200000002, de_it 0x300000001, de_it 0x6010000, de_it 0x100010001000000000000000000000000000000000b02020001000000000100040200010000060204020009, de_it 0x1050101010401010101010101000101000000000000000000000000000000020c000202010002000102020002030006, de_it 0x52504e4442403e3c3a38362a281c1a12100e0c0a080604020019000d, de_it 0x4010000, de_it 0x1170101000000000300000001, de_it 0x2010000, de_it 0x1160107020101190101011601010107010101060101010501010104010101030101010201010101010101000101000000000000000000000000000100011300020a010100010007, de_it 0x2010000, de_it 0x1011b010100000300000001, de_it 0x6010000, de_it 0x2, de_it 0x4010000, de_it 0x1000101010101010200000001, de_it 0x101010100010101010101010101000000000000000000000000000000000c00020601020200010100040200010000050206020009, de_it 0x10801000201010101010200000002, de_it 0x2010000, de_it 0x103010101020101010d0101010c0101010b0101010a0101000000000000000000000000000000030e000201010002060100020501030004020006, de_it 0x6010000, de_it 0x300000001, de_it 0x4010000, de_it 0x300000001, de_it 0x2010000, de_it 0x1070101000100010107010101060101010501010104010101030101010201010101010101000101000000000000000000000000000100011300000100010007, de_it 0x2010000, de_it 0x1070101000000000300000001, de_it 0x2010000, de_it 0x1070101000100010107010101290101010501010104010101030101010201010101010101000101000000000000000000000000000100011300000100010007, de_it 0x4010000, de_it 0x1280101000100010128010101060101010501010104010101030101010201010101010101000101000000000000000000000000000100011312000100010007, de_it 0x4010000, de_it 0x1070101000100010107010101060101010501010104010101030101010201010101010101000101000000000000000000000000000100011310000100010007, de_it 0x2010000, de_it 0x10701010001000101070101010601010105010101040101012001220201010201010101010101000101000000000000000000000000000100011306000100010007, de_it 0x2010000, de_it 0x1070101000100010107010101060101010501010104010101030101011f011e02010101010101000101000000000000000000000000000100011304000100010007]
set_option maxRecDepth 100000 in
theorem tR_2114 : fw_go tV_2114 tK_2114.2.1.1 tK_2114.2.1.2 none tH_2114_0 [(tK_2114.2.1, tK_2114.2.2.2.1, 0, tc_args 0 tK_2114.2.2.1, [], ([], 0), ([], 0))] = true := by decide +kernel
set_option maxRecDepth 100000 in
theorem tT_2114 {RO : am_O} {sa : Nat → Nat} (h_2094 : tc_true (aP sa) tp_G RO tp_T tp_Z tK_2094) (h_2109 : tc_true (aP sa) tp_G RO tp_T tp_Z tK_2109) (h_2113 : tc_true (aP sa) tp_G RO tp_T tp_Z tK_2113) : tc_true (aP sa) tp_G RO tp_T tp_Z tK_2114 := by
  have hC : ∀ c ∈ tC_2114, tc_true (aP sa) tp_G RO tp_T tp_Z c := by
    intro c hc
    have hc : c ∈ ([tK_2109, tK_2113, tK_2094] : List tc_Ct) := hc
    rcases List.mem_cons.mp hc with rfl | hc
    · exact h_2109
    rcases List.mem_cons.mp hc with rfl | hc
    · exact h_2113
    rcases List.mem_cons.mp hc with rfl | hc
    · exact h_2094
    cases hc
  have hP : ∀ p ∈ tJ_2114, ∃ hs, tc_plk (aP sa, tV_2114.2) p hs = true := by
    intro p hp
    have hp : p ∈ ([] : List tc_Pl) := hp
    cases hp
  exact tc_main (mt := aM_424.1) (hs := tH_2114_0) (PL := tJ_2114) ⟨tp_G_ok, tMs_2114 _, hC, tr_L_ok, tp_G_re⟩ (show am_meth (aP sa) 424 = some aM_424.1 from rfl) aX_424 (by decide +kernel) hP ((tc_go_sa (aP_sa sa _)).trans ((fw_go_s tHC_2114).trans tR_2114))
noncomputable def tK_2115 : tc_Ct := (424, (4, 2), [(2, ([], 0), 0), (0, ([(0, 1)], 0), 0), (0, ([], 1), 0), (0, ([(1, 1)], 0), 0), (0, ([(2, 1)], 0), 0), (0, ([(3, 1)], 0), 0)], ([([(0, -1)], 5), ([(0, 1)], 0), ([(1, -1)], 2147483647), ([(1, 1)], 2147483648), ([(2, -1)], 2), ([(2, 1)], 0), ([(3, -1)], 1), ([(3, 1)], 0)], [(0, 0), (1, 26)], [], [(0, 48, (2, ([], 0), 1))], [], [], [(0, [1], [([], 0), ([(0, 1)], 1), ([], -1)])]), [], [((5, 2), ([([(0, -1)], 5), ([(0, 1)], 0), ([(1, -1)], 2147483647), ([(1, 1)], 2147483648), ([(2, -1)], 2), ([(2, 1)], 0), ([(3, -1)], 1), ([(3, 1)], 0), ([(4, -1)], 7), ([(4, 1)], 0), ([(0, 1), (4, -1)], 6)], [], [], [], [], [], []), some (0, ([(4, 1)], 0), 0), ([], 0), ([], 0))])
noncomputable def tJ_2115 : List tc_Pl := []
noncomputable def tC_2115 : List tc_Ct := [tK_2113]
def tM_2115 (z : Nat) : Option am_Meth := if z = 426 then some aM_426.1 else none
set_option maxRecDepth 100000 in
theorem tMs_2115 (sa : Nat → Nat) : ∀ z mz, tM_2115 z = some mz → am_meth (aP sa) z = some mz := by
  intro z mz h
  unfold tM_2115 at h
  rcases de_m h with ⟨rfl, rfl⟩ | h
  · exact (show am_meth (aP sa) 426 = some aM_426.1 from rfl)
  cases h
noncomputable def tV_2115 : tc_Ev := (aQ, tp_T, tp_G.2, tp_Z, tM_2115, tC_2115, tr_L, tK_2115.2.2.2.2.1, aM_424.1, aW_424, tK_2115.2.1, tK_2115.2.2.2.2.2, tJ_2115)
theorem tE_2115 : tK_2115.2.2.2.2.2.all (tc_wex tK_2115.2.1.1 tK_2115.2.1.2) = true := by decide +kernel
theorem tSS_2115 : tC_2115.all (fun c => tw_mg tK_2115.2.2.2.2.1 c.2.2.2.2.1) = true := by decide +kernel
theorem tHC_2115 : ∀ c ∈ tC_2115, c.2.2.2.2.1.all tK_2115.2.2.2.2.1.contains = true ∧ c.2.2.2.2.2.all (tc_wex c.2.1.1 c.2.1.2) = true := tf_hc tSS_2115 (by
  intro c hc
  have hc : c ∈ ([tK_2113] : List tc_Ct) := hc
  rcases List.mem_cons.mp hc with rfl | hc
  · exact tE_2113
  cases hc)
noncomputable def tH_2115_0 : List tc_It := [de_it 0x2010000, de_it 0x2, de_it 0x2010000, de_it 0x2010011, de_it 0x1080100020101010101020002000100020001020200020012, de_it 0x101010100010101010101010101000000000000000000000000000000000c00020501000200010100020200010000050206020009, de_it 0x10801000201010101010200000002, de_it 0x4010000, de_it 0x10110010100000300000001, de_it 0x6010000, de_it 0x1050101010401010101010101000101000000000000000000000000000000020c000202010002000102020000030006, de_it 0x4010000, de_it 0x1150101000000000300000001, de_it 0x2010000, de_it 0x1160101011701010114010101070101010601010105010101040101010301010102010101010101010001010000000000000000000000000001000113000206010100010007, de_it 0x2010000, de_it 0x10000011a01010300000001, de_it 0x2010000, de_it 0x11801010201011501010118010101070101010601010105010101040101010301010102010101010101010001010000000000000000000000000001000113000206010100010007]
set_option maxRecDepth 100000 in
theorem tR_2115 : fw_go tV_2115 tK_2115.2.1.1 tK_2115.2.1.2 none tH_2115_0 [(tK_2115.2.1, tK_2115.2.2.2.1, 0, tc_args 0 tK_2115.2.2.1, [], ([], 0), ([], 0))] = true := by decide +kernel
set_option maxRecDepth 100000 in
theorem tT_2115 {RO : am_O} {sa : Nat → Nat} (h_2113 : tc_true (aP sa) tp_G RO tp_T tp_Z tK_2113) : tc_true (aP sa) tp_G RO tp_T tp_Z tK_2115 := by
  have hC : ∀ c ∈ tC_2115, tc_true (aP sa) tp_G RO tp_T tp_Z c := by
    intro c hc
    have hc : c ∈ ([tK_2113] : List tc_Ct) := hc
    rcases List.mem_cons.mp hc with rfl | hc
    · exact h_2113
    cases hc
  have hP : ∀ p ∈ tJ_2115, ∃ hs, tc_plk (aP sa, tV_2115.2) p hs = true := by
    intro p hp
    have hp : p ∈ ([] : List tc_Pl) := hp
    cases hp
  exact tc_main (mt := aM_424.1) (hs := tH_2115_0) (PL := tJ_2115) ⟨tp_G_ok, tMs_2115 _, hC, tr_L_ok, tp_G_re⟩ (show am_meth (aP sa) 424 = some aM_424.1 from rfl) aX_424 (by decide +kernel) hP ((tc_go_sa (aP_sa sa _)).trans ((fw_go_s tHC_2115).trans tR_2115))
noncomputable def tK_2116 : tc_Ct := (423, (4, 2), [(2, ([], 0), 0), (0, ([(0, 1)], 0), 0), (0, ([(1, 1)], 0), 0), (0, ([(2, 1)], 0), 0)], ([([(0, -1)], 2147483647), ([(0, 1)], 2147483648), ([(1, -1)], 2), ([(1, 1)], 0), ([(2, -1)], 1), ([(2, 1)], 0), ([(3, -1)], 6), ([(3, 1)], -1)], [(0, 0), (1, 26)], [], [(0, 48, (2, ([], 0), 1)), (0, 49, (0, ([(3, 1)], 0), 0))], [], [], [(0, [1], [([], 0), ([(3, 1)], 0), ([], -1)])]), [(0, 5), (0, 6), (0, 7), (0, 8), (0, 9), (0, 10), (0, 11)], [((5, 2), ([([(0, -1)], 2147483647), ([(0, 1)], 2147483648), ([(1, -1)], 2), ([(1, 1)], 0), ([(2, -1)], 1), ([(2, 1)], 0), ([(3, -1)], 6), ([(3, 1)], -1), ([(4, -1)], 507), ([(4, 1)], 0), ([(3, 1), (4, -1)], 501)], [], [], [], [], [], []), some (0, ([(4, 1)], 0), 0), ([], 0), ([], 0))])
noncomputable def tL_2116_0 : tc_Pl := de_pl 0x30d3aff000001040203020000000000030d3aff000300000000000000020401000400000202010003000002010100020000020001000100000002000503010000020301000003010100010000000002030100310001000002300002001a0100000200020401010203010c010301000202010201020100020101040101010000000100000000ff02000100000000fffffffeff010001090205
noncomputable def tJ_2116 : List tc_Pl := [tL_2116_0]
noncomputable def tC_2116 : List tc_Ct := [tK_2114, tK_2115]
def tM_2116 (z : Nat) : Option am_Meth := if z = 424 then some aM_424.1 else none
set_option maxRecDepth 100000 in
theorem tMs_2116 (sa : Nat → Nat) : ∀ z mz, tM_2116 z = some mz → am_meth (aP sa) z = some mz := by
  intro z mz h
  unfold tM_2116 at h
  rcases de_m h with ⟨rfl, rfl⟩ | h
  · exact (show am_meth (aP sa) 424 = some aM_424.1 from rfl)
  cases h
noncomputable def tV_2116 : tc_Ev := (aQ, tp_T, tp_G.2, tp_Z, tM_2116, tC_2116, tr_L, tK_2116.2.2.2.2.1, aM_423.1, aW_423, tK_2116.2.1, tK_2116.2.2.2.2.2, tJ_2116)
theorem tE_2116 : tK_2116.2.2.2.2.2.all (tc_wex tK_2116.2.1.1 tK_2116.2.1.2) = true := by decide +kernel
theorem tSS_2116 : tC_2116.all (fun c => tw_mg tK_2116.2.2.2.2.1 c.2.2.2.2.1) = true := by decide +kernel
theorem tHC_2116 : ∀ c ∈ tC_2116, c.2.2.2.2.1.all tK_2116.2.2.2.2.1.contains = true ∧ c.2.2.2.2.2.all (tc_wex c.2.1.1 c.2.1.2) = true := tf_hc tSS_2116 (by
  intro c hc
  have hc : c ∈ ([tK_2114, tK_2115] : List tc_Ct) := hc
  rcases List.mem_cons.mp hc with rfl | hc
  · exact tE_2114
  rcases List.mem_cons.mp hc with rfl | hc
  · exact tE_2115
  cases hc)
noncomputable def tH_2116_0 : List tc_It := [de_it 0x4010000, de_it 0x10107010101060101010501010104010101030101010201010101010101000101000000000000000000000000000100011100000100010008]
set_option maxRecDepth 100000 in
theorem tR_2116 : fw_go tV_2116 tK_2116.2.1.1 tK_2116.2.1.2 none tH_2116_0 [(tK_2116.2.1, tK_2116.2.2.2.1, 0, tc_args 0 tK_2116.2.2.1, [], ([], 0), ([], 0))] = true := by decide +kernel
noncomputable def tH_2116_1 : List tc_It := [de_it 0x4010000, de_it 0x2, de_it 0x300000001, de_it 0x2010000, de_it 0x1070101000100010107010101060101010501010104010101030101010201010101010101000101000000000000000000000000000100011300000100010007, de_it 0x8010000, de_it 0x2, de_it 0x2010000, de_it 0x1060101010701010200000001, de_it 0x1090101000000000300000001, de_it 0x8010000, de_it 0x1010a01010001000000000000000000000000000000000b04020401000000000100000203010000060204020009, de_it 0x1050101010401010103010101020101010101010100010101080101010a0106020100000000000000000000000000000005100002020100020101000200010002040104020000030006, de_it 0x4010000, de_it 0x1140101000000000300000001, de_it 0x10b0101010801010200000001, de_it 0x2010000, de_it 0x10801010108010a02010106010101050101010401010103010101020101010101010100010100000000010a01010001000000010001000111020204010100010008, de_it 0x4010000, de_it 0x640b0101640801010200000001, de_it 0x2010000, de_it 0x113640b02010116640802010200000001, de_it 0x1136306640a03010116640802010113640b02010108010a0201010601010105010101040101010301010102010101010101010001010000000000000000000000000001000113000205c804020100010007, de_it 0xa010000, de_it 0x1010901010001000000000000000000000000000000000b02020401000000000100000203010000060204020009, de_it 0x105010101040101010301010102010101010101010001010108010101090106020100000000000000000000000000000005100002020100020101000200010002040104020002030006, de_it 0x4010000, de_it 0x1150101000000000300000001, de_it 0x10c0101010801010200000001, de_it 0x2010000, de_it 0x1080101010701010106010101050101010401010103010101020101010101010100010100000000010901010001000000010001000111020204010100010008, de_it 0x4010000, de_it 0x640c0101640801010200000001, de_it 0x2010000, de_it 0x114640c02010117640802010200000001, de_it 0x1146306640903010117640802010114640c020101070101010601010105010101040101010301010102010101010101010001010000000000000000000000000001000113000205c804020100010007]
set_option maxRecDepth 100000 in
theorem tP_2116_0 : fw_plk tV_2116 tL_2116_0 tH_2116_1 = true := by decide +kernel
set_option maxRecDepth 100000 in
theorem tT_2116 {RO : am_O} {sa : Nat → Nat} (h_2114 : tc_true (aP sa) tp_G RO tp_T tp_Z tK_2114) (h_2115 : tc_true (aP sa) tp_G RO tp_T tp_Z tK_2115) : tc_true (aP sa) tp_G RO tp_T tp_Z tK_2116 := by
  have hC : ∀ c ∈ tC_2116, tc_true (aP sa) tp_G RO tp_T tp_Z c := by
    intro c hc
    have hc : c ∈ ([tK_2114, tK_2115] : List tc_Ct) := hc
    rcases List.mem_cons.mp hc with rfl | hc
    · exact h_2114
    rcases List.mem_cons.mp hc with rfl | hc
    · exact h_2115
    cases hc
  have hP : ∀ p ∈ tJ_2116, ∃ hs, tc_plk (aP sa, tV_2116.2) p hs = true := by
    intro p hp
    have hp : p ∈ ([tL_2116_0] : List tc_Pl) := hp
    rcases List.mem_cons.mp hp with rfl | hp
    · exact ⟨_, (tc_plk_sa (aP_sa sa _)).trans ((fw_plk_s tHC_2116).trans tP_2116_0)⟩
    cases hp
  exact tc_main (mt := aM_423.1) (hs := tH_2116_0) (PL := tJ_2116) ⟨tp_G_ok, tMs_2116 _, hC, tr_L_ok, tp_G_re⟩ (show am_meth (aP sa) 423 = some aM_423.1 from rfl) aX_423 (by decide +kernel) hP ((tc_go_sa (aP_sa sa _)).trans ((fw_go_s tHC_2116).trans tR_2116))
noncomputable def tK_2117 : tc_Ct := (418, (3, 4), [(2, ([], 0), 0), (0, ([(0, 1)], 0), 0), (0, ([(1, 1)], 0), 0), (0, ([(2, 1)], 0), 0)], ([([(0, -1)], 2147483647), ([(0, 1)], 2147483648), ([(1, -1)], 2147483647), ([(1, 1)], 2147483648), ([(2, -1)], 2147483647), ([(2, 1)], 2147483648)], [(0, 0), (1, 34), (2, 35), (3, 14)], [], [(0, 32, (2, ([], 0), 3)), (0, 59, (2, ([], 0), 1)), (0, 60, (2, ([], 0), 2))], [], [], [(312, [3], [([], 0), ([], 30), ([], -1)]), (64, [1, 2], [])]), [(0, 5), (0, 6), (0, 7), (0, 8), (0, 9), (0, 10), (0, 11), (0, 47), (0, 49), (0, 51), (26, 0)], [((4, 4), ([([(0, -1)], 2147483647), ([(0, 1)], 2147483648), ([(1, -1)], 2147483647), ([(1, 1)], 2147483648), ([(2, -1)], 2147483647), ([(2, 1)], 2147483648), ([(3, -1)], 507), ([(3, 1)], 5)], [], [], [], [], [], []), some (0, ([(3, 1)], 0), 0), ([], 0), ([], 0))])
noncomputable def tL_2117_0 : tc_Pl := de_pl 0x30cf0ff000002040103020000000000030cf0ff000300000000000000020301000400000202010003000002010100020000020001000100000002000528000201024001003c0000000303010000000000000138ff010000020301000003040100030000020000023c00010000023b000000020401003300000002040100310004000002300003000002200006001a040e0323022201000005010204010c010401000203010002020104010201000200010e0100010000000100000000ff02010100000000fffffffeff010101090505
noncomputable def tJ_2117 : List tc_Pl := [tL_2117_0]
noncomputable def tC_2117 : List tc_Ct := [tK_2098, tK_2000, tK_2101, tK_2103, tK_2116]
def tM_2117 (z : Nat) : Option am_Meth := if z = 423 then some aM_423.1 else if z = 422 then some aM_422.1 else if z = 420 then some aM_420.1 else if z = 419 then some aM_419.1 else if z = 321 then some aM_321.1 else none
set_option maxRecDepth 100000 in
theorem tMs_2117 (sa : Nat → Nat) : ∀ z mz, tM_2117 z = some mz → am_meth (aP sa) z = some mz := by
  intro z mz h
  unfold tM_2117 at h
  rcases de_m h with ⟨rfl, rfl⟩ | h
  · exact (show am_meth (aP sa) 423 = some aM_423.1 from rfl)
  rcases de_m h with ⟨rfl, rfl⟩ | h
  · exact (show am_meth (aP sa) 422 = some aM_422.1 from rfl)
  rcases de_m h with ⟨rfl, rfl⟩ | h
  · exact (show am_meth (aP sa) 420 = some aM_420.1 from rfl)
  rcases de_m h with ⟨rfl, rfl⟩ | h
  · exact (show am_meth (aP sa) 419 = some aM_419.1 from rfl)
  rcases de_m h with ⟨rfl, rfl⟩ | h
  · exact (show am_meth (aP sa) 321 = some aM_321.1 from rfl)
  cases h
noncomputable def tV_2117 : tc_Ev := (aQ, tp_T, tp_G.2, tp_Z, tM_2117, tC_2117, tr_L, tK_2117.2.2.2.2.1, aM_418.1, aW_418, tK_2117.2.1, tK_2117.2.2.2.2.2, tJ_2117)
theorem tE_2117 : tK_2117.2.2.2.2.2.all (tc_wex tK_2117.2.1.1 tK_2117.2.1.2) = true := by decide +kernel
theorem tSS_2117 : tC_2117.all (fun c => tw_mg tK_2117.2.2.2.2.1 c.2.2.2.2.1) = true := by decide +kernel
theorem tHC_2117 : ∀ c ∈ tC_2117, c.2.2.2.2.1.all tK_2117.2.2.2.2.1.contains = true ∧ c.2.2.2.2.2.all (tc_wex c.2.1.1 c.2.1.2) = true := tf_hc tSS_2117 (by
  intro c hc
  have hc : c ∈ ([tK_2098, tK_2000, tK_2101, tK_2103, tK_2116] : List tc_Ct) := hc
  rcases List.mem_cons.mp hc with rfl | hc
  · exact tE_2098
  rcases List.mem_cons.mp hc with rfl | hc
  · exact tE_2000
  rcases List.mem_cons.mp hc with rfl | hc
  · exact tE_2101
  rcases List.mem_cons.mp hc with rfl | hc
  · exact tE_2103
  rcases List.mem_cons.mp hc with rfl | hc
  · exact tE_2116
  cases hc)
noncomputable def tH_2117_0 : List tc_It := [de_it 0x4010000, de_it 0x101010101000101000000000000000000000000000000010a00020001010000020006, de_it 0x10108010100000300000001, de_it 0x2010000, de_it 0x10001010501010104010101030101010201010101010101000101000000000000000000000000000100011001000100010007, de_it 0x10000010901010300000001, de_it 0x8010000, de_it 0x10001000100010105010101040101000000000000000000000000000000000e04000000000202010302010006, de_it 0x1010f010100000300000001, de_it 0x2010000, de_it 0x10001010501010104010101030101010201010107010101060101000000000000000000000000000100011001000100010007, de_it 0x10000011201010300000001, de_it 0x2010000, de_it 0x2, de_it 0x1120101000000000300000001, de_it 0x4010000, de_it 0x2, de_it 0x113010101140101000000000400000003, de_it 0x4010000, de_it 0x600002000f, de_it 0x10000000000000000000000000000000009010000000000030802020009, de_it 0x114010101130101000101100101010f0101010701010106010101030101010201010000000000000000000000000001000111000203010000020800020008, de_it 0x2010000, de_it 0x1000101100101010f010101030101010201010107010101060101000000000000000000000000000100011001000100010007]
set_option maxRecDepth 100000 in
theorem tR_2117 : fw_go tV_2117 tK_2117.2.1.1 tK_2117.2.1.2 none tH_2117_0 [(tK_2117.2.1, tK_2117.2.2.2.1, 0, tc_args 0 tK_2117.2.2.1, [], ([], 0), ([], 0))] = true := by decide +kernel
noncomputable def tH_2117_1 : List tc_It := [de_it 0x4010000, de_it 0x2, de_it 0x300000001, de_it 0x4010000, de_it 0x10001000000000400000003, de_it 0x4010000, de_it 0x10001000100010400000003, de_it 0x2010000, de_it 0x1010901010001000000000000000000000000000000000b00020401000000000100000203010000060804020009, de_it 0x108010101070101000000000000000000000000000000000a000204010108060004040006, de_it 0x10d0101000000000300000001, de_it 0x2010000, de_it 0x10001010501010104010101010101010001010103010101020101000000000000000000000000000100011009000100010007, de_it 0x6010000, de_it 0x2, de_it 0x2010000, de_it 0x2, de_it 0x2010000, de_it 0x1070101010801010200000001, de_it 0x8010011, de_it 0x1100107020101080101020102040101020401020800020012, de_it 0x108010100010108010101080101000000000000000000000000000000000c00020701010204010100000204010000050806020009, de_it 0x1080101010901010108010101080101000000000000000000000000000000000c00020701010204010100000203010000050806020009, de_it 0x11001070201010801010200000002, de_it 0x4010011, de_it 0x1180102020101030101020002000100020001020400020012, de_it 0x11c0101011d010101160101011501010103010101020101000000000000000000000000000000020e0002090100020701000200010304020006040006, de_it 0x10124010100000300000001, de_it 0x2010000, de_it 0x10001010501010104010101010101010001010103010101020101000000000000000000000000000100011009000100010007, de_it 0x10000012701010300000001, de_it 0x8010000, de_it 0x2, de_it 0x4010000, de_it 0x8020101080301010200000001, de_it 0xa010011, de_it 0x127080202010803010102000200010100010002, de_it 0x2010000, de_it 0x12c0101000000000300000001, de_it 0x2010000, de_it 0x10801010107010100010001010501010104010101010101010001010000000000000000000000000000000310000204010000000202010002010104080008030006, de_it 0x706e6c5a56504e4a48463a32302c2a22201e1c1812100e0c0a08060402001e000d, de_it 0x2010000, de_it 0x11c0101011b0101010501010104010101010101010001010103010101020101000000000000000000000000000100011000020c010100010007, de_it 0x4010000, de_it 0x10801010107010100010001010501010104010101010101010001010000000000000000000000000000000310000204010200000202010002010104080008030006, de_it 0x72706e5a58504e4a48463a32302c2a22201e1c1812100e0c0a08060402001e000d, de_it 0x2010000, de_it 0x11c0101011b0101010501010104010101010101010001010103010101020101000000000000000000000000000100011000020c010100010007, de_it 0x2010000, de_it 0x2, de_it 0x4010000, de_it 0x2, de_it 0x2010000, de_it 0xa010011, de_it 0x109010a010703010106010102000203010100010002, de_it 0x8010011, de_it 0x8000203010000000203010000040808020009, de_it 0x1000101060101000000000000000000000000000000000b00020601000203010002030100000002030100000608080a030009, de_it 0x10f0101010e010101090110010703010106010104000203010100010003, de_it 0x100010001000000000000000000000000000000000b00020301000000000002030100020301000006080c020009, de_it 0x10901070201010601010200000001, de_it 0x2010000, de_it 0x8000203010000000203010000040808020009, de_it 0x1000100010001000000000000000000000000000000000c02020301000000020301000000020301000006080e020009, de_it 0x10e010101060101000000000000000000000000000000000a00020601000203010000020203010000050810020009, de_it 0x10801010107010101060101010501010104010101030101010201010101010101000101000000000109010100010000000100010001110002040102020301020800020008]
set_option maxRecDepth 100000 in
theorem tP_2117_0 : fw_plk tV_2117 tL_2117_0 tH_2117_1 = true := by decide +kernel
set_option maxRecDepth 100000 in
theorem tT_2117 {RO : am_O} {sa : Nat → Nat} (h_2000 : tc_true (aP sa) tp_G RO tp_T tp_Z tK_2000) (h_2098 : tc_true (aP sa) tp_G RO tp_T tp_Z tK_2098) (h_2101 : tc_true (aP sa) tp_G RO tp_T tp_Z tK_2101) (h_2103 : tc_true (aP sa) tp_G RO tp_T tp_Z tK_2103) (h_2116 : tc_true (aP sa) tp_G RO tp_T tp_Z tK_2116) : tc_true (aP sa) tp_G RO tp_T tp_Z tK_2117 := by
  have hC : ∀ c ∈ tC_2117, tc_true (aP sa) tp_G RO tp_T tp_Z c := by
    intro c hc
    have hc : c ∈ ([tK_2098, tK_2000, tK_2101, tK_2103, tK_2116] : List tc_Ct) := hc
    rcases List.mem_cons.mp hc with rfl | hc
    · exact h_2098
    rcases List.mem_cons.mp hc with rfl | hc
    · exact h_2000
    rcases List.mem_cons.mp hc with rfl | hc
    · exact h_2101
    rcases List.mem_cons.mp hc with rfl | hc
    · exact h_2103
    rcases List.mem_cons.mp hc with rfl | hc
    · exact h_2116
    cases hc
  have hP : ∀ p ∈ tJ_2117, ∃ hs, tc_plk (aP sa, tV_2117.2) p hs = true := by
    intro p hp
    have hp : p ∈ ([tL_2117_0] : List tc_Pl) := hp
    rcases List.mem_cons.mp hp with rfl | hp
    · exact ⟨_, (tc_plk_sa (aP_sa sa _)).trans ((fw_plk_s tHC_2117).trans tP_2117_0)⟩
    cases hp
  exact tc_main (mt := aM_418.1) (hs := tH_2117_0) (PL := tJ_2117) ⟨tp_G_ok, tMs_2117 _, hC, tr_L_ok, tp_G_re⟩ (show am_meth (aP sa) 418 = some aM_418.1 from rfl) aX_418 (by decide +kernel) hP ((tc_go_sa (aP_sa sa _)).trans ((fw_go_s tHC_2117).trans tR_2117))
noncomputable def tK_2118 : tc_Ct := (431, (4, 3), [(2, ([], 0), 0), (0, ([(0, 1)], 0), 0), (0, ([(1, 1)], 0), 0), (0, ([(2, 1)], 0), 0), (0, ([(3, 1)], 0), 0)], ([([(0, -1)], 3), ([(0, 1)], -1), ([(1, -1)], 2147483647), ([(1, 1)], 2147483648), ([(2, -1)], 2), ([(2, 1)], 0), ([(3, -1)], 1), ([(3, 1)], 0)], [(0, 0), (1, 14), (2, 26)], [], [(0, 32, (2, ([], 0), 1)), (0, 48, (2, ([], 0), 2))], [], [], [(0, [2], [([], 0), ([(0, 1)], 1), ([], -1)]), (312, [1], [([], 0), ([], 30), ([], -1)])]), [(0, 5), (0, 6), (0, 7), (0, 8), (0, 9), (0, 10), (0, 11)], [((4, 3), ([([(0, -1)], 3), ([(0, 1)], -1), ([(1, -1)], 2147483647), ([(1, 1)], 2147483648), ([(2, -1)], 2), ([(2, 1)], 0), ([(3, -1)], 1), ([(3, 1)], 0)], [], [], [], [], [], []), some (0, ([], 0), 0), ([], 0), ([], 0)), ((4, 3), ([([(0, -1)], 3), ([(0, 1)], -1), ([(1, -1)], 2147483647), ([(1, 1)], 2147483648), ([(2, -1)], 2), ([(2, 1)], 0), ([(3, -1)], 1), ([(3, 1)], 0)], [], [], [], [], [], []), some (0, ([], 1), 0), ([], 0), ([], 0))])
noncomputable def tL_2118_0 : tc_Pl := de_pl 0x30d12ff000001050200020000000000030d12ff000300000000000000020501000600000204010005000002030100040000020201000300000201010002000002000100010000000200071701003c0000000301010000000000000138ff01000202000100000302010002000002070100020001020002060101020001020202000002300001000002200002001a020e01000003000207010002050100020401000203010201030100020201040102010000000100000000ff02010100000000fffffffeff01010101020001060100010b0308
noncomputable def tJ_2118 : List tc_Pl := [tL_2118_0]
noncomputable def tC_2118 : List tc_Ct := [tK_2100, tK_2114]
def tM_2118 (z : Nat) : Option am_Meth := if z = 424 then some aM_424.1 else if z = 421 then some aM_421.1 else none
set_option maxRecDepth 100000 in
theorem tMs_2118 (sa : Nat → Nat) : ∀ z mz, tM_2118 z = some mz → am_meth (aP sa) z = some mz := by
  intro z mz h
  unfold tM_2118 at h
  rcases de_m h with ⟨rfl, rfl⟩ | h
  · exact (show am_meth (aP sa) 424 = some aM_424.1 from rfl)
  rcases de_m h with ⟨rfl, rfl⟩ | h
  · exact (show am_meth (aP sa) 421 = some aM_421.1 from rfl)
  cases h
noncomputable def tV_2118 : tc_Ev := (aQ, tp_T, tp_G.2, tp_Z, tM_2118, tC_2118, tr_L, tK_2118.2.2.2.2.1, aM_431.1, aW_431, tK_2118.2.1, tK_2118.2.2.2.2.2, tJ_2118)
theorem tE_2118 : tK_2118.2.2.2.2.2.all (tc_wex tK_2118.2.1.1 tK_2118.2.1.2) = true := by decide +kernel
theorem tSS_2118 : tC_2118.all (fun c => tw_mg tK_2118.2.2.2.2.1 c.2.2.2.2.1) = true := by decide +kernel
theorem tHC_2118 : ∀ c ∈ tC_2118, c.2.2.2.2.1.all tK_2118.2.2.2.2.1.contains = true ∧ c.2.2.2.2.2.all (tc_wex c.2.1.1 c.2.1.2) = true := tf_hc tSS_2118 (by
  intro c hc
  have hc : c ∈ ([tK_2100, tK_2114] : List tc_Ct) := hc
  rcases List.mem_cons.mp hc with rfl | hc
  · exact tE_2100
  rcases List.mem_cons.mp hc with rfl | hc
  · exact tE_2114
  cases hc)
noncomputable def tH_2118_0 : List tc_It := [de_it 0x4010000, de_it 0x2, de_it 0x4010000, de_it 0x1000101010101010200000001, de_it 0x4010011, de_it 0x1080100020101010101020102000101020001020400020012, de_it 0x101010100010101010101010101000000000000000000000000000000000c00020501010200010100020200010000050406020009, de_it 0x10801000201010101010200000002, de_it 0x2010000, de_it 0x2, de_it 0x2010000, de_it 0x1080100020101010101020002000100020001020400020012, de_it 0x101010100010101010101010101000000000000000000000000000000000c00020601000200010100020200010000050406020009, de_it 0x10801000201010101010200000002, de_it 0x113010101120101010e0101010d0101000000000000000000000000000000020c000206010002050102020000030006, de_it 0x6010000, de_it 0x113010100010001010701010106010101050101010401010103010101020101010101010100010100000000000000000000000000010001130002060100020501000000000400010008, de_it 0x6010000, de_it 0x113010100010001010701010106010101050101010401010103010101020101010101010100010100000000000000000000000000010001130002060100020501000002000400010008]
set_option maxRecDepth 100000 in
theorem tR_2118 : fw_go tV_2118 tK_2118.2.1.1 tK_2118.2.1.2 none tH_2118_0 [(tK_2118.2.1, tK_2118.2.2.2.1, 0, tc_args 0 tK_2118.2.2.1, [], ([], 0), ([], 0))] = true := by decide +kernel
noncomputable def tH_2118_1 : List tc_It := [de_it 0x4010000, de_it 0x300000001, de_it 0x2010000, de_it 0x1080101000000000300000001, de_it 0x2010000, de_it 0x10701010106010101050101010401010103010101020101010101010100010100000000000000000001000100010001100000010007, de_it 0x6010000, de_it 0x1000101010101010200000001, de_it 0x8010000, de_it 0x10701010106010101050101010401010103010101020101010101010100010100000000000000000000000000000005100002030100020201000201010102000104040002030006, de_it 0x1160101000000000300000001, de_it 0x2010000, de_it 0x10701010106010101050101010401010103010101020101010101010100010100000000000000000001000100010001100000010007, de_it 0x4010000, de_it 0x10701010106010101050101010401010103010101020101010101010100010100000000000000000001000100010001100002010007, de_it 0x2010000, de_it 0x1080101000000000300000001, de_it 0x4010000, de_it 0x10b01000201010901010200000001, de_it 0x2010000, de_it 0x10a0101010901010001010701010106010101050101010401010103010101020101010101010100010100000000010b0101000100000001000100011300020701000206010202050100000400010008, de_it 0x2010000, de_it 0x2, de_it 0x2010000, de_it 0x4010011, de_it 0x10b010d0100030101090101020002050100020501020400020012, de_it 0x1090101010b01010109010101090101000000000000000000000000000000000c00020901000205010100020200010000050406020009, de_it 0x10b010d01000301010901010200000002, de_it 0x2010000, de_it 0x2, de_it 0x2010000, de_it 0x101010100010101010101010101000000000000000000000000000000000c00020701000200010100020200010000050406020009, de_it 0x10d01000201010101010200000002, de_it 0x300000001, de_it 0x4010000, de_it 0x10b01000201010901010200000001, de_it 0x2010000, de_it 0x10a0101010901010001010701010106010101050101010401010103010101020101010101010100010100000000010b0101000100000001000100011300020701000206010202050100000400010008, de_it 0x6010000, de_it 0x10b01000201010901010200000001, de_it 0x2010000, de_it 0x10a0101010901010001010701010106010101050101010401010103010101020101010101010100010100000000010b0101000100000001000100011300020701000206010202050102000400010008]
set_option maxRecDepth 100000 in
theorem tP_2118_0 : fw_plk tV_2118 tL_2118_0 tH_2118_1 = true := by decide +kernel
set_option maxRecDepth 100000 in
theorem tT_2118 {RO : am_O} {sa : Nat → Nat} (h_2100 : tc_true (aP sa) tp_G RO tp_T tp_Z tK_2100) (h_2114 : tc_true (aP sa) tp_G RO tp_T tp_Z tK_2114) : tc_true (aP sa) tp_G RO tp_T tp_Z tK_2118 := by
  have hC : ∀ c ∈ tC_2118, tc_true (aP sa) tp_G RO tp_T tp_Z c := by
    intro c hc
    have hc : c ∈ ([tK_2100, tK_2114] : List tc_Ct) := hc
    rcases List.mem_cons.mp hc with rfl | hc
    · exact h_2100
    rcases List.mem_cons.mp hc with rfl | hc
    · exact h_2114
    cases hc
  have hP : ∀ p ∈ tJ_2118, ∃ hs, tc_plk (aP sa, tV_2118.2) p hs = true := by
    intro p hp
    have hp : p ∈ ([tL_2118_0] : List tc_Pl) := hp
    rcases List.mem_cons.mp hp with rfl | hp
    · exact ⟨_, (tc_plk_sa (aP_sa sa _)).trans ((fw_plk_s tHC_2118).trans tP_2118_0)⟩
    cases hp
  exact tc_main (mt := aM_431.1) (hs := tH_2118_0) (PL := tJ_2118) ⟨tp_G_ok, tMs_2118 _, hC, tr_L_ok, tp_G_re⟩ (show am_meth (aP sa) 431 = some aM_431.1 from rfl) aX_431 (by decide +kernel) hP ((tc_go_sa (aP_sa sa _)).trans ((fw_go_s tHC_2118).trans tR_2118))
noncomputable def tK_2119 : tc_Ct := (430, (5, 5), [(2, ([], 0), 0), (0, ([(0, 1)], 0), 0), (0, ([(1, 1)], 0), 0), (0, ([(2, 1)], 0), 0), (0, ([(3, 1)], 0), 0), (0, ([(4, 1)], 0), 0)], ([([(0, -1)], 7), ([(0, 1)], 0), ([(1, -1)], 29), ([(1, 1)], 0), ([(2, -1)], 2147483647), ([(2, 1)], 2147483648), ([(3, -1)], 2), ([(3, 1)], 0), ([(4, -1)], 3), ([(4, 1)], 0)], [(0, 0), (1, 14), (2, 34), (3, 35), (4, 26)], [], [(0, 32, (2, ([], 0), 1)), (0, 48, (2, ([], 0), 4)), (0, 59, (2, ([], 0), 2)), (0, 60, (2, ([], 0), 3))], [], [], [(312, [1], [([], 0), ([], 30), ([], -1)]), (64, [2, 3], [])]), [(0, 5), (0, 6), (0, 7), (0, 8), (0, 9), (0, 10), (0, 11), (0, 49), (26, 0)], [((5, 5), ([([(0, -1)], 7), ([(0, 1)], 0), ([(1, -1)], 29), ([(1, 1)], 0), ([(2, -1)], 2147483647), ([(2, 1)], 2147483648), ([(3, -1)], 2), ([(3, 1)], 0), ([(4, -1)], 3), ([(4, 1)], 0)], [], [], [], [], [], [(0, [4], [([], 0), ([], 0), ([], -1)])]), some (0, ([], 0), 0), ([], 0), ([], 0)), ((6, 5), ([([(0, -1)], 7), ([(0, 1)], 0), ([(1, -1)], 29), ([(1, 1)], 0), ([(2, -1)], 2147483647), ([(2, 1)], 2147483648), ([(3, -1)], 2), ([(3, 1)], 0), ([(4, -1)], 3), ([(4, 1)], 0), ([(5, -1)], 4), ([(5, 1)], -1), ([(1, -400)], 11600), ([(1, 400)], 0), ([(4, -1), (5, 1)], -1), ([(4, 1), (5, -1)], 1)], [], [], [(0, 49, (0, ([(5, 1)], 0), 0))], [], [], [(0, [4], [([], 0), ([(4, 1)], 1), ([], -1)])]), some (0, ([], 1), 0), ([], 0), ([], 0))])
noncomputable def tL_2119_0 : tc_Pl := de_pl 0x30ca8ff0000000000000000030ca8ff00030000000000000000000700000205010006000002040100050000020301000400000202010003000002000100010000000200074c000302024001003c0000000301010000000000000138ff010000000000030401000300000208010010000105000207010200040002010100000403030000023c00020000023b000500000238000400000230000100000220000000020601001b0006001f051a04230322020e01000006010204010601040100020301040103010000000100000000ff02020100000000fffffffeff010201000201013a010101000200010e0100010a0609
noncomputable def tL_2119_1 : tc_Pl := de_pl 0x30ca8ff000000000003c00000ff00000000001fffffff07010000000000030ca8ff00030000000000000200000700000205010006000002040100050000020301000400000202010003000002000100010000000200074c000302024001003c0000000301010000000000000138ff010002000000030401000300000208010010000105000207010200040002010100000403030000023c00020000023b000500000238000400000230000100000220000000020601001b0006001f051a04230322020e01000006010107020602020207013a0107013c0106010002050102010501010204010601040100020301040103010000000100000000ff02020100000000fffffffeff010201000201013a010101000200010e010001100609
noncomputable def tL_2119_2 : tc_Pl := de_pl 0x30ca8ff000000000003de0000ff00000000001fffffff08000000000000ffffff07020000000000030ca8ff00030000000000000400000700000205010006000002040100050000020301000400000202010003000002000100010000000200074c000302024001003c0000000301010000000000000138ff01000400000003040100030000020901001000010500020701040004000208010200040002010100000404030000023c00020000023b000500000238000400000230000100000220000000020601001b0006001f051a04230322020e01000006010108020602010107020602000208013a010801020207013a010701010206013c0106010002050102010501030204010601040100020301040103010000000100000000ff02020100000000fffffffeff010201000201013a010101000200010e01000114060a
noncomputable def tL_2119_3 : tc_Pl := de_pl 0x30ca8ff000000000003def000ff00000000001fffffff09000000000000ffffff0800000000000007ffff07030000000000030ca8ff00030000000000000600000700000205010006000002040100050000020301000400000202010003000002000100010000000200074c000302024001003c0000000301010000000000000138ff01000600000003040100030000020a0100100001050002070106000400020801040004000209010200040002010100000405030000023c00020000023b000500000238000400000230000100000220000000020601001b0006001f051a04230322020e01000006010109020602010108020602010107020602000209013a010901000208013a010801020207013a010701010206013c0106010002050102010501050204010601040100020301040103010000000100000000ff02020100000000fffffffeff010201000201013a010101000200010e01000117060b
noncomputable def tJ_2119 : List tc_Pl := [tL_2119_0, tL_2119_1, tL_2119_2, tL_2119_3]
noncomputable def tC_2119 : List tc_Ct := [tK_2103, tK_2115, tK_2118]
def tM_2119 (z : Nat) : Option am_Meth := if z = 431 then some aM_431.1 else if z = 424 then some aM_424.1 else if z = 422 then some aM_422.1 else none
set_option maxRecDepth 100000 in
theorem tMs_2119 (sa : Nat → Nat) : ∀ z mz, tM_2119 z = some mz → am_meth (aP sa) z = some mz := by
  intro z mz h
  unfold tM_2119 at h
  rcases de_m h with ⟨rfl, rfl⟩ | h
  · exact (show am_meth (aP sa) 431 = some aM_431.1 from rfl)
  rcases de_m h with ⟨rfl, rfl⟩ | h
  · exact (show am_meth (aP sa) 424 = some aM_424.1 from rfl)
  rcases de_m h with ⟨rfl, rfl⟩ | h
  · exact (show am_meth (aP sa) 422 = some aM_422.1 from rfl)
  cases h
noncomputable def tV_2119 : tc_Ev := (aQ, tp_T, tp_G.2, tp_Z, tM_2119, tC_2119, tr_L, tK_2119.2.2.2.2.1, aM_430.1, aW_430, tK_2119.2.1, tK_2119.2.2.2.2.2, tJ_2119)
theorem tE_2119 : tK_2119.2.2.2.2.2.all (tc_wex tK_2119.2.1.1 tK_2119.2.1.2) = true := by decide +kernel
theorem tSS_2119 : tC_2119.all (fun c => tw_mg tK_2119.2.2.2.2.1 c.2.2.2.2.1) = true := by decide +kernel
theorem tHC_2119 : ∀ c ∈ tC_2119, c.2.2.2.2.1.all tK_2119.2.2.2.2.1.contains = true ∧ c.2.2.2.2.2.all (tc_wex c.2.1.1 c.2.1.2) = true := tf_hc tSS_2119 (by
  intro c hc
  have hc : c ∈ ([tK_2103, tK_2115, tK_2118] : List tc_Ct) := hc
  rcases List.mem_cons.mp hc with rfl | hc
  · exact tE_2103
  rcases List.mem_cons.mp hc with rfl | hc
  · exact tE_2115
  rcases List.mem_cons.mp hc with rfl | hc
  · exact tE_2118
  cases hc)
noncomputable def tH_2119_0 : List tc_It := [de_it 0x10000000000000000000000000000000009010000000000030802020009, de_it 0x2010000, de_it 0x2, de_it 0x4010000, de_it 0x8000101080101010200000001, de_it 0xa010011, de_it 0x10a080002010801010102000200010100010002, de_it 0x2010000, de_it 0x10f0101000000000300000001, de_it 0x6010000, de_it 0x2, de_it 0x4010000, de_it 0x8010011, de_it 0x80000000000000000040808020009, de_it 0x100010001000000000000000000000000000000000b00020101000000000000000000000608080a030009, de_it 0x1020101010301010111010100010400000100010003, de_it 0x100010001000000000000000000000000000000000b00000000000000000000000006080c020009, de_it 0x2010000, de_it 0x1090101000000000300000001, de_it 0x6010000, de_it 0x2, de_it 0x4010000, de_it 0x80000000000000000040808020009, de_it 0x1000100010001000000000000000000000000000000000c02000000000000000000000006080e020009, de_it 0x10301010001000000000000000000000000000000000a000201010000000002000000050810020009, de_it 0x80200000002000000040808020009, de_it 0x100010001000000000000000000000000000000000b0100020002000000020000000608080a030009, de_it 0x80200000000000000040808020009, de_it 0x100010001000000000000000000000000000000000b0100020002000000000000000608080a030009, de_it 0x100010111010100010402000100010003, de_it 0x100010001000000000000000000000000000000000b00000000000002000000000006080c020009, de_it 0x100010001000000000000000000000000000000000b02000000000002000200000006080c020009, de_it 0x360002000f, de_it 0x1140101000100010115010100010001011301010108010101070101010601010105010101040101010301010102010101010101010001010000000000000000000000000001000118000206010100000208010000040a02020008, de_it 0x4010000, de_it 0x10001000000000400000003, de_it 0x6010000, de_it 0x6010011, de_it 0x1150100020101010101020002000100020001020600020012, de_it 0x1190101011a010101030101010201010101010101000101000000000000000000000000000000020e0002090100020101000200010306040000040006, de_it 0x10121010100000300000001, de_it 0x2010000, de_it 0x109010101140101010701010106010101050101010401010103010101020101010101010100010100000000000000000001000100010001120000010007, de_it 0x10000012401010300000001, de_it 0xc010000, de_it 0x80000000000000000040808020009, de_it 0x1000100010001000000000000000000000000000000000c02000000000000000000000006080e020009, de_it 0x122010000000000000190ff0001000000000000000000000000000000000a000201010000000002000000050810020009, de_it 0x100010107010101060101010501010104010100010001000000000000000000000000000000051000000002030100020201000004080002030006, de_it 0x5c5a444240342c2a282422201c1614120e0c0a080604020018000d, de_it 0x1160101000000000300000001, de_it 0x2010000, de_it 0x1080101010f0101010701010106010101050101010401010115010000000000000190ff01020101010101010100010100000000000000000001000100010001120000010007, de_it 0x4010000, de_it 0x1010f01010001000000000000000000000000000000000b0202040100000000010002000000060804020009, de_it 0x1080101010f0101011501010000000000000190ff0201010001000101080101010f0101010701010106010101050101010401010115010000000000000190ff010201010101010101000101000000000000000000010001000100011802000102010007, de_it 0x8010000, de_it 0x2, de_it 0x4010000, de_it 0x8010011, de_it 0x80000000000000000040808020009, de_it 0x100010001000000000000000000000000000000000b00020101000000000000000000000608080a030009, de_it 0x1020101010301010112010100010400000100010003, de_it 0x100010001000000000000000000000000000000000b00000000000000000000000006080c020009, de_it 0x2010000, de_it 0x1090101000000000300000001, de_it 0x6010000, de_it 0x2, de_it 0x4010000, de_it 0x80000000000000000040808020009, de_it 0x1000100010001000000000000000000000000000000000c02000000000000000000000006080e020009, de_it 0x10301010001000000000000000000000000000000000a000201010000000002000000050810020009, de_it 0x80200000002000000040808020009, de_it 0x100010001000000000000000000000000000000000b0100020002000000020000000608080a030009, de_it 0x80200000000000000040808020009, de_it 0x100010001000000000000000000000000000000000b0100020002000000000000000608080a030009, de_it 0x100010112010100010402000100010003, de_it 0x100010001000000000000000000000000000000000b00000000000002000000000006080c020009, de_it 0x100010001000000000000000000000000000000000b02000000000002000200000006080c020009, de_it 0x360002000f, de_it 0x1150101000100010116010100010001011401010108010101070101010601010105010101040101010301010102010101010101010001010000000000000000000000000001000118000206010100000208010200040a02020008, de_it 0x4010000, de_it 0x10001000000000400000003, de_it 0x6010000, de_it 0x6010011, de_it 0x1160100020101010101020002000100020001020600020012, de_it 0x11a0101011b010101030101010201010101010101000101000000000000000000000000000000020e0002090100020101000200010306040000040006, de_it 0x10122010100000300000001, de_it 0x2010000, de_it 0x109010101150101010701010106010101050101010401010103010101020101010101010100010100000000000000000001000100010001120000010007, de_it 0x10000012501010300000001, de_it 0xc010000, de_it 0x80000000000000000040808020009, de_it 0x1000100010001000000000000000000000000000000000c02000000000000000000000006080e020009, de_it 0x123010000000000000190ff0001000000000000000000000000000000000a000201010000000002000000050810020009, de_it 0x100010107010101060101010501010104010100010001000000000000000000000000000000051002000002030100020201000004080002030006, de_it 0x5e5c464442362e2c2a2624201e1614120e0c0a080604020018000d, de_it 0x1160101000000000300000001, de_it 0x2010000, de_it 0x1080101010f0101010701010106010101050101010401010115010000000000000190ff01020101010101010100010100000000000000000001000100010001120000010007, de_it 0x4010000, de_it 0x1010f01010001000000000000000000000000000000000b0202040100000000010002000000060804020009, de_it 0x1080101010f0101011501010000000000000190ff0201010001000101080101010f0101010701010106010101050101010401010115010000000000000190ff010201010101010101000101000000000000000000010001000100011802000102010007]
set_option maxRecDepth 100000 in
theorem tR_2119 : fw_go tV_2119 tK_2119.2.1.1 tK_2119.2.1.2 none tH_2119_0 [(tK_2119.2.1, tK_2119.2.2.2.1, 0, tc_args 0 tK_2119.2.2.1, [], ([], 0), ([], 0))] = true := by decide +kernel
noncomputable def tH_2119_1 : List tc_It := [de_it 0x2010000, de_it 0x10a010100000300000001, de_it 0x2010000, de_it 0x109010101080101010701010106010101050101010401010103010101020101010101010100010100000000000000000001000100010001120000010007]
set_option maxRecDepth 100000 in
theorem tP_2119_0 : fw_plk tV_2119 tL_2119_0 tH_2119_1 = true := by decide +kernel
noncomputable def tH_2119_2 : List tc_It := [de_it 0x2010000, de_it 0x11001010300000001, de_it 0x2010000, de_it 0x2, de_it 0x4010000, de_it 0x8010011, de_it 0x111010100010200000002, de_it 0x2010000, de_it 0x10d0101010e01010200000001, de_it 0x80200000002000000040808020009, de_it 0x100010001000000000000000000000000000000000b02020701020002000000020000000608080a030009, de_it 0x10d0101010e01010111010100010402000100010003, de_it 0x100010001000000000000000000000000000000000b02000000000002000200000006080c020009, de_it 0x2010000, de_it 0x2, de_it 0x2010000, de_it 0x111010100010200000002, de_it 0x2010000, de_it 0x2, de_it 0x10f0101000000000300000001, de_it 0xa010000, de_it 0x80200000002000000040808020009, de_it 0x1000100010001000000000000000000000000000000000c04000000020000000200000006080e020009, de_it 0x10e01010001000000000000000000000000000000000a020207010200000004000000050810020009, de_it 0x10b0101010a01010107010101060101010501010104010100010001000000000000000000000000000000041000020501000203010002020102000408020004040006, de_it 0x1011c010100000300000001, de_it 0x1130101010e01010113010c0201010c0101010b0101010a010101090101010801010107010101060101010501010104010101030101010201010101010101000101000000000000000000100000ff130000000000100000ff0c0201000100000001000100011800020801020207010002060100020501040a02020008, de_it 0x10000011d01010300000001, de_it 0x4010000, de_it 0x300000001, de_it 0x6010000, de_it 0x2, de_it 0x2010000, de_it 0x1000100010001000000000000000000000000000000000c020207010200010004000000050806020009, de_it 0x111010100010200000002, de_it 0x6010011, de_it 0x11f0100020101010101020002000100020001020600020012, de_it 0x123010101240101010e01010113010c02010101010101000101000000000000000000000000000000020e00020b0102020701000200010306040000040006, de_it 0x4846403e3a2624221c1a181614120e0c0a080604020016000d, de_it 0x10116010100000300000001, de_it 0x1100101010d01010110010b0201010b0101010a01010109010101080101011101010107010101060101010501010104010101030101010201010101010101000101000000000000000000100000ff100000000000100000ff0b0201000100000001000100011800020801020207010002060100020501040a02020008, de_it 0x58565448403e3a2624221c1a181614120e0c0a080604020018000d, de_it 0x10000011901010300000001, de_it 0xc010000, de_it 0x10a01010109010101070101010601010105010101040101000100010000000000000000000000000000000510000205010002030100020201020004080002030006, de_it 0x1220101000000000300000001, de_it 0x11001010117010000000000000190ff0110010b0201010b0101010a01010109010101080101011101010107010101060101010501010104010101030101010201010101010101000101000000000000000000100000ff100000000000100000ff0b0201000100000001000100011800020801020207010002060100020501040a02020008, de_it 0x6010000, de_it 0x1110101010801010200000001, de_it 0x111010101080101000000000400000003, de_it 0x2010000, de_it 0x1011101010001000000000000000000000000000000000b0202040100000000010004000000060804020009, de_it 0x100010000000000000190ff0301010000000000000190ff0201010108010101110101010801010111010101070101010601010105010101040101010301010102010101010101010001010000000000000000000100010001000118020204010102010007, de_it 0x4010000, de_it 0x2, de_it 0x4010000, de_it 0x80400000004000000040808020009, de_it 0x100010001000000000000000000000000000000000b0100040004000000040000000608080a030009, de_it 0x80400000002000000040808020009, de_it 0x100010001000000000000000000000000000000000b0100040004000000020000000608080a030009, de_it 0x100010111010100010404000100010003, de_it 0x100010001000000000000000000000000000000000b02000000000004000200000006080c020009, de_it 0x100010001000000000000000000000000000000000b04000000000004000400000006080c020009, de_it 0x2010000, de_it 0x1130101010e01130201010e01010113010c020100010001010e01130201010c0101010b0101010a0101011d0101010801010107010101060101010501010104010101030101010201010101010101000101000000000000000000100000ff130000000000100000ff0c0201000100000001000100011c000208010202070101000002060100020501050a04020008, de_it 0x4010000, de_it 0x100010001000000000000000000000000000000000b000000000000010002000000060804020009, de_it 0x1090101010801010107010101060101010501010104010101030101010201010101010101000101000000000000000000100000ff0d01010000000000100000ff0d010100000001000100011200020801020207010002060100020501040a00020008]
set_option maxRecDepth 100000 in
theorem tP_2119_1 : fw_plk tV_2119 tL_2119_1 tH_2119_2 = true := by decide +kernel
noncomputable def tH_2119_3 : List tc_It := [de_it 0x2010000, de_it 0x11401010300000001, de_it 0x2010000, de_it 0x2, de_it 0x4010000, de_it 0x8010011, de_it 0x115010100010200000002, de_it 0x2010000, de_it 0x10e0101010f01010200000001, de_it 0x80400000004000000040808020009, de_it 0x100010001000000000000000000000000000000000b02020701040004000000040000000608080a030009, de_it 0x10e0101010f01010115010100010404000100010003, de_it 0x100010001000000000000000000000000000000000b04000000000004000400000006080c020009, de_it 0x2010000, de_it 0x2, de_it 0x2010000, de_it 0x115010100010200000002, de_it 0x2010000, de_it 0x2, de_it 0x1120101000000000300000001, de_it 0xa010000, de_it 0x80400000004000000040808020009, de_it 0x1000100010001000000000000000000000000000000000c06000000040000000400000006080e020009, de_it 0x10f01010001000000000000000000000000000000000a020207010400000006000000050810020009, de_it 0x10b0101010a01010107010101060101010501010104010100010001000000000000000000000000000000041000020501000203010002020104000408020004040006, de_it 0x10120010100000300000001, de_it 0x1130101011701010111010101100101010f01010117010c0201010d0101010c0101010b0101010a010101090101010801010107010101060101010501010104010101030101010201010101010101000101000000000000000000008000ff170000000000100000ff100000000000008000ff0c0301000100000001000100011c0002090100020801020207010002060100020501050a04020008, de_it 0x10000012101010300000001, de_it 0x4010000, de_it 0x300000001, de_it 0x6010000, de_it 0x2, de_it 0x2010000, de_it 0x1000100010001000000000000000000000000000000000c020207010400010006000000050806020009, de_it 0x115010100010200000002, de_it 0x6010011, de_it 0x1230100020101010101020002000100020001020600020012, de_it 0x127010101280101010f01010117010c02010101010101000101000000000000000000000000000000020e00020c0102020701000200010306040000040006, de_it 0x504e4846422e2c2a2622201e1c1a181614120e0c0a08060402001a000d, de_it 0x1011a010100000300000001, de_it 0x11101010114010101100101010f0101010e01010114010b0201010c0101010b0101010a01010109010101080101011501010107010101060101010501010104010101030101010201010101010101000101000000000000000000008000ff140000000000100000ff0f0000000000008000ff0b0301000100000001000100011c0002090100020801020207010002060100020501050a04020008, de_it 0x605e5c504846422e2c2a2622201e1c1a181614120e0c0a08060402001c000d, de_it 0x10000011d01010300000001, de_it 0xc010000, de_it 0x10a01010109010101070101010601010105010101040101000100010000000000000000000000000000000510000205010002030100020201040004080002030006, de_it 0x1260101000000000300000001, de_it 0x11101010114010101100101010f0101011b010000000000000190ff0114010b0201010c0101010b0101010a01010109010101080101011501010107010101060101010501010104010101030101010201010101010101000101000000000000000000008000ff140000000000100000ff0f0000000000008000ff0b0301000100000001000100011c0002090100020801020207010002060100020501050a04020008, de_it 0x6010000, de_it 0x1150101010801010200000001, de_it 0x115010101080101000000000400000003, de_it 0x2010000, de_it 0x1011501010001000000000000000000000000000000000b0202040100000000010006000000060804020009, de_it 0x100010000000000000190ff0301010000000000000190ff0201010108010101150101010801010115010101070101010601010105010101040101010301010102010101010101010001010000000000000000000100010001000118020204010102010007, de_it 0x4010000, de_it 0x2, de_it 0x4010000, de_it 0x80600000006000000040808020009, de_it 0x100010001000000000000000000000000000000000b0100060006000000060000000608080a030009, de_it 0x80600000004000000040808020009, de_it 0x100010001000000000000000000000000000000000b0100060006000000040000000608080a030009, de_it 0x100010115010100010406000100010003, de_it 0x100010001000000000000000000000000000000000b04000000000006000400000006080c020009, de_it 0x100010001000000000000000000000000000000000b06000000000006000600000006080c020009, de_it 0x2010000, de_it 0x113010101170101010d01010111010101100101010f01010117010c020100010001010d0101010c0101010b0101010a010101210101010801010107010101060101010501010104010101030101010201010101010101000101000000000000000000008000ff170000000000100000ff100000000000008000ff0c0301000100000001000100011f00020901000208010202070101000002060100020501060a06020008, de_it 0x4010000, de_it 0x100010001000000000000000000000000000000000b020000000000010004000000060804020009, de_it 0x11301010111010101100101010c0101010b0101010a010101090101010801010107010101060101010501010104010101030101010201010101010101000101000000000000000000100000ff100000000000008000ff0e02010000000000008000ff0e010100000001000100011800020901000208010002060100020501040a02020008]
set_option maxRecDepth 100000 in
theorem tP_2119_2 : fw_plk tV_2119 tL_2119_2 tH_2119_3 = true := by decide +kernel
noncomputable def tH_2119_4 : List tc_It := [de_it 0x2010000, de_it 0x11701010300000001, de_it 0x2010000, de_it 0x2, de_it 0x4010000, de_it 0x8010011, de_it 0x118010100010200000002, de_it 0x2010000, de_it 0x10e0101010f01010200000001, de_it 0x80600000006000000040808020009, de_it 0x100010001000000000000000000000000000000000b02020701060006000000060000000608080a030009, de_it 0x10e0101010f01010118010100010406000100010003, de_it 0x100010001000000000000000000000000000000000b06000000000006000600000006080c020009, de_it 0x2010000, de_it 0x2, de_it 0x2010000, de_it 0x118010100010200000002, de_it 0x2010000, de_it 0x2, de_it 0x1140101000000000300000001, de_it 0xa010000, de_it 0x80600000006000000040808020009, de_it 0x1000100010001000000000000000000000000000000000c08000000060000000600000006080e020009, de_it 0x10f01010001000000000000000000000000000000000a020207010600000008000000050810020009, de_it 0x10b0101010a01010107010101060101010501010104010100010001000000000000000000000000000000041000020501000203010002020106000408020004040006, de_it 0x10123010100000300000001, de_it 0x116010101150101011a010101130101011201010111010101100101010f0101011a010c0201010d0101010c0101010b0101010a010101090101010801010107010101060101010501010104010101030101010201010101010101000101000000000000000000000400ff1a0000000000100000ff120000000000008000ff100000000000000400ff0c0401000100000001000100011f00020a010002090100020801020207010002060100020501060a06020008, de_it 0x10000012401010300000001, de_it 0x4010000, de_it 0x1240108020100000300000001, de_it 0x6010000, de_it 0x2, de_it 0x2010000, de_it 0x1000100010001000000000000000000000000000000000c020207010600010008000000050806020009, de_it 0x118010100010200000002, de_it 0x6010011, de_it 0x1260100020101010101020002000100020001020600020012, de_it 0x12a0101012b0101010f0101011a010c02010101010101000101000000000000000000000000000000020e00020d0102020701000200010306040000040006, de_it 0x56544e4c3432302c2a262422201e1c1a18161412100e0c0a08060402001d000d, de_it 0x1011d010100000300000001, de_it 0x1150101011401010118010101130101011201010111010101100101010f01010118010c0201010d0101010c0101010b0101010a010101090101010801010107010101060101010501010104010101030101010201010101010101000101000000000000000000000400ff180000000000100000ff120000000000008000ff100000000000000400ff0c0401000100000001000100011f00020a010002090100020801020207010002060100020501060a06020008, de_it 0x666462564e4c3432302c2a262422201e1c1a18161412100e0c0a08060402001f000d, de_it 0x10000012001010300000001, de_it 0xc010000, de_it 0x10b0101010a010101070101010601010105010101040101000100010000000000000000000000000000000510000205010002030100020201060004080002030006, de_it 0x52503c3a38363432302e2c2a28262422201e1c1a18161412100e0c0a080604020021000d, de_it 0x1200101000000000300000001, de_it 0x1150101011401010118010101130101011201010111010101100101011e010000000000000190ff0118010c0201010d0101010c0101010b0101010a010101090101010801010107010101060101010501010104010101030101010201010101010101000101000000000000000000000400ff180000000000100000ff120000000000008000ff100000000000000400ff0c0401000100000001000100011f00020a010002090100020801020207010002060100020501060a06020008, de_it 0x6010000, de_it 0x1080101010901010200000001, de_it 0x108010101090101000000000400000003, de_it 0x2010000, de_it 0x1010801010001000000000000000000000000000000000b0202040100000000010008000000060804020009, de_it 0x100010000000000000190ff0301010000000000000190ff0201010109010101080101010901010108010101070101010601010105010101040101010301010102010101010101010001010000000000000000000100010001000118020204010102010007, de_it 0x4010000, de_it 0x100010001000000000000000000000000000000000b040000000000010006000000060804020009, de_it 0x11601010115010101130101011201010111010101100101010d0101010c0101010b0101010a010101090101010801010107010101060101010501010104010101030101010201010101010101000101000000000000000000100000ff120000000000008000ff100000000000000400ff0e03010000000000000400ff0e010100000001000100011c00020a0100020901000208010002060100020501050a04020008]
set_option maxRecDepth 100000 in
theorem tP_2119_3 : fw_plk tV_2119 tL_2119_3 tH_2119_4 = true := by decide +kernel
set_option maxRecDepth 100000 in
theorem tT_2119 {RO : am_O} {sa : Nat → Nat} (h_2103 : tc_true (aP sa) tp_G RO tp_T tp_Z tK_2103) (h_2115 : tc_true (aP sa) tp_G RO tp_T tp_Z tK_2115) (h_2118 : tc_true (aP sa) tp_G RO tp_T tp_Z tK_2118) : tc_true (aP sa) tp_G RO tp_T tp_Z tK_2119 := by
  have hC : ∀ c ∈ tC_2119, tc_true (aP sa) tp_G RO tp_T tp_Z c := by
    intro c hc
    have hc : c ∈ ([tK_2103, tK_2115, tK_2118] : List tc_Ct) := hc
    rcases List.mem_cons.mp hc with rfl | hc
    · exact h_2103
    rcases List.mem_cons.mp hc with rfl | hc
    · exact h_2115
    rcases List.mem_cons.mp hc with rfl | hc
    · exact h_2118
    cases hc
  have hP : ∀ p ∈ tJ_2119, ∃ hs, tc_plk (aP sa, tV_2119.2) p hs = true := by
    intro p hp
    have hp : p ∈ ([tL_2119_0, tL_2119_1, tL_2119_2, tL_2119_3] : List tc_Pl) := hp
    rcases List.mem_cons.mp hp with rfl | hp
    · exact ⟨_, (tc_plk_sa (aP_sa sa _)).trans ((fw_plk_s tHC_2119).trans tP_2119_0)⟩
    rcases List.mem_cons.mp hp with rfl | hp
    · exact ⟨_, (tc_plk_sa (aP_sa sa _)).trans ((fw_plk_s tHC_2119).trans tP_2119_1)⟩
    rcases List.mem_cons.mp hp with rfl | hp
    · exact ⟨_, (tc_plk_sa (aP_sa sa _)).trans ((fw_plk_s tHC_2119).trans tP_2119_2)⟩
    rcases List.mem_cons.mp hp with rfl | hp
    · exact ⟨_, (tc_plk_sa (aP_sa sa _)).trans ((fw_plk_s tHC_2119).trans tP_2119_3)⟩
    cases hp
  exact tc_main (mt := aM_430.1) (hs := tH_2119_0) (PL := tJ_2119) ⟨tp_G_ok, tMs_2119 _, hC, tr_L_ok, tp_G_re⟩ (show am_meth (aP sa) 430 = some aM_430.1 from rfl) aX_430 (by decide +kernel) hP ((tc_go_sa (aP_sa sa _)).trans ((fw_go_s tHC_2119).trans tR_2119))
noncomputable def tK_2120 : tc_Ct := (429, (4, 4), [(2, ([], 0), 0), (0, ([(0, 1)], 0), 0), (0, ([(1, 1)], 0), 0), (0, ([(2, 1)], 0), 0), (0, ([(3, 1)], 0), 0)], ([([(0, -1)], 2147483647), ([(0, 1)], 2147483648), ([(1, -1)], 2147483647), ([(1, 1)], 2147483648), ([(2, -1)], 2147483647), ([(2, 1)], 2147483648), ([(3, -1)], 2147483647), ([(3, 1)], 2147483648)], [(0, 0), (1, 34), (2, 35), (3, 14)], [], [(0, 32, (2, ([], 0), 3)), (0, 59, (2, ([], 0), 1)), (0, 60, (2, ([], 0), 2))], [], [], [(312, [3], [([], 0), ([], 30), ([], -1)]), (64, [1, 2], [])]), [(0, 5), (0, 6), (0, 7), (0, 8), (0, 9), (0, 10), (0, 11), (0, 47), (0, 49), (0, 51), (26, 0), (27, 0)], [((5, 4), ([([(0, -1)], 2147483647), ([(0, 1)], 2147483648), ([(1, -1)], 2147483647), ([(1, 1)], 2147483648), ([(2, -1)], 2147483647), ([(2, 1)], 2147483648), ([(3, -1)], 2147483647), ([(3, 1)], 2147483648), ([(4, -1)], 4), ([(4, 1)], 1)], [], [], [], [], [], []), some (0, ([(4, 1)], 0), 0), ([], 0), ([], 0))])
noncomputable def tL_2120_0 : tc_Pl := de_pl 0x30ce8ff00080104010000000000030ce8ff0005000000000000000204010005000002030100040000020201000300000201010002000002000100010000000200062c000201024001003c0000000303010000000000000138ff020000020000023c00010000023b000000020501003300000000002f0003000002200005000e03230222010000040001050204020002050108010501000204010002030104010301000201013a010101000200010e0100010000000100000000ff02020100000000fffffffeff0102010c0406
noncomputable def tL_2120_1 : tc_Pl := de_pl 0x30c9cff000201050204020000000000030c9cff00080104010000000000030ce8ff0005000000000000000205010006000002040100050000020301000400000202010003000002010100020000020001000100000002000752000201024001003c0000000303010000000000000138ff010002020401000003040100030000020000023c00010000023b0000020204010033000000020601003100040000023000000000002f0003000002200007001a040e0323022201000005000000000000000320ff01010000000000005aa0ff000000000000031fff01010002050100020401060104010002030104010301000200010e0100010000000100000000ff02020100000000fffffffeff0102010b0507
noncomputable def tJ_2120 : List tc_Pl := [tL_2120_0, tL_2120_1]
noncomputable def tC_2120 : List tc_Ct := [tK_2098, tK_2077, tK_2000, tK_2119]
def tM_2120 (z : Nat) : Option am_Meth := if z = 430 then some aM_430.1 else if z = 419 then some aM_419.1 else if z = 409 then some aM_409.1 else if z = 321 then some aM_321.1 else none
set_option maxRecDepth 100000 in
theorem tMs_2120 (sa : Nat → Nat) : ∀ z mz, tM_2120 z = some mz → am_meth (aP sa) z = some mz := by
  intro z mz h
  unfold tM_2120 at h
  rcases de_m h with ⟨rfl, rfl⟩ | h
  · exact (show am_meth (aP sa) 430 = some aM_430.1 from rfl)
  rcases de_m h with ⟨rfl, rfl⟩ | h
  · exact (show am_meth (aP sa) 419 = some aM_419.1 from rfl)
  rcases de_m h with ⟨rfl, rfl⟩ | h
  · exact (show am_meth (aP sa) 409 = some aM_409.1 from rfl)
  rcases de_m h with ⟨rfl, rfl⟩ | h
  · exact (show am_meth (aP sa) 321 = some aM_321.1 from rfl)
  cases h
noncomputable def tV_2120 : tc_Ev := (aQ, tp_T, tp_G.2, tp_Z, tM_2120, tC_2120, tr_L, tK_2120.2.2.2.2.1, aM_429.1, aW_429, tK_2120.2.1, tK_2120.2.2.2.2.2, tJ_2120)
theorem tE_2120 : tK_2120.2.2.2.2.2.all (tc_wex tK_2120.2.1.1 tK_2120.2.1.2) = true := by decide +kernel
theorem tSS_2120 : tC_2120.all (fun c => tw_mg tK_2120.2.2.2.2.1 c.2.2.2.2.1) = true := by decide +kernel
theorem tHC_2120 : ∀ c ∈ tC_2120, c.2.2.2.2.1.all tK_2120.2.2.2.2.1.contains = true ∧ c.2.2.2.2.2.all (tc_wex c.2.1.1 c.2.1.2) = true := tf_hc tSS_2120 (by
  intro c hc
  have hc : c ∈ ([tK_2098, tK_2077, tK_2000, tK_2119] : List tc_Ct) := hc
  rcases List.mem_cons.mp hc with rfl | hc
  · exact tE_2098
  rcases List.mem_cons.mp hc with rfl | hc
  · exact tE_2077
  rcases List.mem_cons.mp hc with rfl | hc
  · exact tE_2000
  rcases List.mem_cons.mp hc with rfl | hc
  · exact tE_2119
  cases hc)
noncomputable def tH_2120_0 : List tc_It := [de_it 0x4010000, de_it 0x101010101000101000000000000000000000000000000010a00020001010000020006, de_it 0x1010a010100000300000001, de_it 0x2010000, de_it 0x100010107010101060101010501010104010101030101010201010101010101000101000000000000000000000000000100011201000100010007, de_it 0x10000010b01010300000001, de_it 0x4010000, de_it 0x103010101020101000000000000000000000000000000010a00020101010002020006, de_it 0x1010d010100000300000001, de_it 0x2010000, de_it 0x100010107010101060101010501010104010101030101010201010109010101080101000000000000000000000000000100011201000100010007, de_it 0x10000010e01010300000001, de_it 0x8010000, de_it 0x10001000100010107010101060101000000000000000000000000000000000e04000000000203010304010006, de_it 0x10000011401010300000001, de_it 0x2010000, de_it 0x1000101070101010601010105010101040101010c0101010b01010109010101080101000000000000000000000000000100011201000100010007, de_it 0x10117010100000300000001, de_it 0x4010000, de_it 0x10001000100010400000003, de_it 0x4010000, de_it 0x10001000000000400000003, de_it 0x4010000, de_it 0x10001000100010115010101140101010c0101010b01010109010101080101010501010104010100000000000000000000000000000000000000000001000118000000000200010008]
set_option maxRecDepth 100000 in
theorem tR_2120 : fw_go tV_2120 tK_2120.2.1.1 tK_2120.2.1.2 none tH_2120_0 [(tK_2120.2.1, tK_2120.2.2.2.1, 0, tc_args 0 tK_2120.2.2.1, [], ([], 0), ([], 0))] = true := by decide +kernel
noncomputable def tH_2120_1 : List tc_It := [de_it 0x4010000, de_it 0x300000001, de_it 0x2010000, de_it 0x2, de_it 0x10a01010109010101070101010601010101010101000101010501010104010101030101010201010000000000000000000000000001000112000205010100010007, de_it 0x2010000, de_it 0x2, de_it 0x10a0101000000000300000001, de_it 0x2010000, de_it 0x2, de_it 0x10d0101010b010c020101070101010601010101010101000101010501010104010101030101010201010000000000000000000000000001000112000205010100010007, de_it 0xc010000, de_it 0x600002000f, de_it 0x1080101010c010101070101010601010101010101000101010501010104010101030101010201010000000000000000000000000000000512000204010002030100020201000201010002000105080402060006060006, de_it 0x10119010100000300000001, de_it 0x10c0101010801010200000001, de_it 0x2010000, de_it 0x10b0101010a0101010e0101010801010107010101060101010501010104010101030101010201010101010101000101000000000000000000000000010c0101000100000001000100011800020501020204010200010008, de_it 0x10000012001010300000001, de_it 0x6010000, de_it 0x10c0101010801010200000001, de_it 0x10c010101080101000000000400000003, de_it 0x4010000, de_it 0x11c0101011b0101000101080101010c01010107010101060101010301010102010101010101010001010000000000000000000100010000000100000001000100011700020601000000020401030802020008]
set_option maxRecDepth 100000 in
theorem tP_2120_0 : fw_plk tV_2120 tL_2120_0 tH_2120_1 = true := by decide +kernel
noncomputable def tH_2120_2 : List tc_It := [de_it 0x4010000, de_it 0x300000001, de_it 0x1060101010701010200000001, de_it 0x2010000, de_it 0x10107010101060101010701010105010101040101010a010000000000000190ff0109010000000000000190ff0103010101020101010101010100010100000000000000000000000001060101000100000001000100011802020401020204010200010008, de_it 0x2010000, de_it 0x2, de_it 0x4010000, de_it 0x2, de_it 0x2010000, de_it 0x8010011, de_it 0x10b010c0106030101080101020002050100020501020800020012, de_it 0x1080101010b01010108010101080101000000000000000000000000000000000c00020801000205010100020204010000050806020009, de_it 0x10b010c01060301010801010200000002, de_it 0xa010011, de_it 0x111010101120101010b0113010603010108010104000205010100010003, de_it 0x10b01060201010801010200000001, de_it 0x2010000, de_it 0x10a01010109010101080101010701010106010101050101010401010103010101020101010101010100010100000000010b010100010000000100000001000000010001000117000206010202050100020401030802020008]
set_option maxRecDepth 100000 in
theorem tP_2120_1 : fw_plk tV_2120 tL_2120_1 tH_2120_2 = true := by decide +kernel
set_option maxRecDepth 100000 in
theorem tT_2120 {RO : am_O} {sa : Nat → Nat} (h_2000 : tc_true (aP sa) tp_G RO tp_T tp_Z tK_2000) (h_2077 : tc_true (aP sa) tp_G RO tp_T tp_Z tK_2077) (h_2098 : tc_true (aP sa) tp_G RO tp_T tp_Z tK_2098) (h_2119 : tc_true (aP sa) tp_G RO tp_T tp_Z tK_2119) : tc_true (aP sa) tp_G RO tp_T tp_Z tK_2120 := by
  have hC : ∀ c ∈ tC_2120, tc_true (aP sa) tp_G RO tp_T tp_Z c := by
    intro c hc
    have hc : c ∈ ([tK_2098, tK_2077, tK_2000, tK_2119] : List tc_Ct) := hc
    rcases List.mem_cons.mp hc with rfl | hc
    · exact h_2098
    rcases List.mem_cons.mp hc with rfl | hc
    · exact h_2077
    rcases List.mem_cons.mp hc with rfl | hc
    · exact h_2000
    rcases List.mem_cons.mp hc with rfl | hc
    · exact h_2119
    cases hc
  have hP : ∀ p ∈ tJ_2120, ∃ hs, tc_plk (aP sa, tV_2120.2) p hs = true := by
    intro p hp
    have hp : p ∈ ([tL_2120_0, tL_2120_1] : List tc_Pl) := hp
    rcases List.mem_cons.mp hp with rfl | hp
    · exact ⟨_, (tc_plk_sa (aP_sa sa _)).trans ((fw_plk_s tHC_2120).trans tP_2120_0)⟩
    rcases List.mem_cons.mp hp with rfl | hp
    · exact ⟨_, (tc_plk_sa (aP_sa sa _)).trans ((fw_plk_s tHC_2120).trans tP_2120_1)⟩
    cases hp
  exact tc_main (mt := aM_429.1) (hs := tH_2120_0) (PL := tJ_2120) ⟨tp_G_ok, tMs_2120 _, hC, tr_L_ok, tp_G_re⟩ (show am_meth (aP sa) 429 = some aM_429.1 from rfl) aX_429 (by decide +kernel) hP ((tc_go_sa (aP_sa sa _)).trans ((fw_go_s tHC_2120).trans tR_2120))
noncomputable def tK_2121 : tc_Ct := (432, (1, 1), [(2, ([], 0), 0), (0, ([(0, 1)], 0), 0)], ([([(0, -1)], 2147483647), ([(0, 1)], 2147483648)], [(0, 0)], [], [], [], [], []), [(0, 52), (28, 0), (29, 0), (30, 0), (31, 0)], [((2, 1), ([([(0, -1)], 2147483647), ([(0, 1)], 2147483648), ([(1, -1)], 7), ([(1, 1)], 3)], [], [], [], [], [], []), some (0, ([(1, 1)], 0), 0), ([], 0), ([], 0))])
noncomputable def tL_2121_0 : tc_Pl := de_pl 0x30cf4ff00060102010000000000030cf4ff00050000000000000002020100030000020101000200000002000326000000020001000201010101010000023500000002010100340002001c0100000200020201000201010e0101010002000102010001050203
noncomputable def tL_2121_1 : tc_Pl := de_pl 0x30cbcff00060103010000000000030cbcff00060102010000000000030cf4ff00050000000000000002030100040000020201000300000201010002000000020004420000000204010002020601020200020001000201010102020000023700010000023500000002010100340003001e021c01000003000203010002020104010201000201010e0101010002000102010001070305
noncomputable def tJ_2121 : List tc_Pl := [tL_2121_0, tL_2121_1]
noncomputable def tC_2121 : List tc_Ct := [tK_2000]
def tM_2121 (z : Nat) : Option am_Meth := if z = 321 then some aM_321.1 else none
set_option maxRecDepth 100000 in
theorem tMs_2121 (sa : Nat → Nat) : ∀ z mz, tM_2121 z = some mz → am_meth (aP sa) z = some mz := by
  intro z mz h
  unfold tM_2121 at h
  rcases de_m h with ⟨rfl, rfl⟩ | h
  · exact (show am_meth (aP sa) 321 = some aM_321.1 from rfl)
  cases h
noncomputable def tV_2121 : tc_Ev := (aQ, tp_T, tp_G.2, tp_Z, tM_2121, tC_2121, tr_L, tK_2121.2.2.2.2.1, aM_432.1, aW_432, tK_2121.2.1, tK_2121.2.2.2.2.2, tJ_2121)
theorem tE_2121 : tK_2121.2.2.2.2.2.all (tc_wex tK_2121.2.1.1 tK_2121.2.1.2) = true := by decide +kernel
theorem tSS_2121 : tC_2121.all (fun c => tw_mg tK_2121.2.2.2.2.1 c.2.2.2.2.1) = true := by decide +kernel
theorem tHC_2121 : ∀ c ∈ tC_2121, c.2.2.2.2.1.all tK_2121.2.2.2.2.1.contains = true ∧ c.2.2.2.2.2.all (tc_wex c.2.1.1 c.2.1.2) = true := tf_hc tSS_2121 (by
  intro c hc
  have hc : c ∈ ([tK_2000] : List tc_Ct) := hc
  rcases List.mem_cons.mp hc with rfl | hc
  · exact tE_2000
  cases hc)
noncomputable def tH_2121_0 : List tc_It := [de_it 0x8010000, de_it 0x10001000100010101010101000101000000000000000000000000000000000e02000000000200010300010006, de_it 0x10000010801010300000001, de_it 0x2010000, de_it 0x100010101010101000101000000000000000000000000000100010c01000100010007, de_it 0x1010b010100000300000001, de_it 0x2010000, de_it 0x2, de_it 0x2010000, de_it 0x10c0101000000000300000001, de_it 0x2010000, de_it 0x2, de_it 0x4010000, de_it 0x2, de_it 0x4010000, de_it 0x2010011, de_it 0x108010101090101010e010d0201010b010104000201010100010003, de_it 0x4010000, de_it 0x1010b0101010d0101010901010108010100000000000000000000000000000000000000000001000111000000020101020200020008, de_it 0x2010000, de_it 0x100010109010101080101000000000000000000000000000100010c05000100010007]
set_option maxRecDepth 100000 in
theorem tR_2121 : fw_go tV_2121 tK_2121.2.1.1 tK_2121.2.1.2 none tH_2121_0 [(tK_2121.2.1, tK_2121.2.2.2.1, 0, tc_args 0 tK_2121.2.2.1, [], ([], 0), ([], 0))] = true := by decide +kernel
noncomputable def tH_2121_1 : List tc_It := [de_it 0x4010000, de_it 0x300000001, de_it 0x2010000, de_it 0x2, de_it 0x4010000, de_it 0x8020101080301010200000001, de_it 0x2010000, de_it 0x8020101080301010200000001, de_it 0x2010000, de_it 0x4010011, de_it 0x100010106080202010803010104000201010104010003, de_it 0x2010000, de_it 0x2, de_it 0x4010000, de_it 0x8020101080301010200000001, de_it 0x2010000, de_it 0x8020101080301010200000001, de_it 0x2010000, de_it 0x100010106080202010803010104000201010106010003, de_it 0x2010000, de_it 0x2, de_it 0x4010000, de_it 0x8020101080301010200000001, de_it 0x2010000, de_it 0x8020101080301010200000001, de_it 0x2010000, de_it 0x10001010608020201080301010400020101010a010003, de_it 0x2010000, de_it 0x2, de_it 0x4010000, de_it 0x8020101080301010200000001, de_it 0x2010000, de_it 0x8020101080301010200000001, de_it 0x2010000, de_it 0x10001010608020201080301010400020101010e010003, de_it 0x4010000, de_it 0x2, de_it 0x2010000, de_it 0x1020101010301010200000001, de_it 0x102010101030101000000000400000003, de_it 0x2010000, de_it 0x1030101010201010101010101000101000000000000000000000000000100010c000201010100010007, de_it 0x2010000, de_it 0x2, de_it 0x4010000, de_it 0x3020101030301010200000001, de_it 0x2010000, de_it 0x105030202010104030302010200000001, de_it 0x4010000, de_it 0x1050101000000000300000001, de_it 0x2010000, de_it 0x4010011, de_it 0x100010107010603020301010403030201040002020601020100010003, de_it 0x4010000, de_it 0x10104010101060101010301010102010101010101010001010000000000000000000100010000000100000001000100011306000000000202010002010104040202030008, de_it 0x4010000, de_it 0x4010011, de_it 0x100010108010503020301010603030201040002020601020100010003, de_it 0x4010000, de_it 0x10106010101050101010301010102010101010101010001010000000000000000000100010000000100000001000100011304000000000202010002010104040202030008]
set_option maxRecDepth 100000 in
theorem tP_2121_0 : fw_plk tV_2121 tL_2121_0 tH_2121_1 = true := by decide +kernel
noncomputable def tH_2121_2 : List tc_It := [de_it 0x4010000, de_it 0x300000001, de_it 0x1040101010501010200000001, de_it 0x2010000, de_it 0x1050101010301010102010101010101010001010000000000000000000000000104010100010000000100010001110202020100020101020200020008, de_it 0x2010000, de_it 0x2, de_it 0x4010000, de_it 0xc0201010c0301010200000001, de_it 0x4010000, de_it 0x4040101040501010200000001, de_it 0x4040c02020104050c0302010200000001, de_it 0x2010000, de_it 0x10704040c020301010604050c0303010200000001, de_it 0x4010000, de_it 0x1070101010601010200000001, de_it 0x6010011, de_it 0x1070101010601010108010704040c020401010604050c0303010400020308021801030100010003, de_it 0x1070101010601010200000001, de_it 0x2010000, de_it 0x10601010105010101040101010301010102010101010101010001010000000001070101000100000001000000010000000100010001130002040102020301000202010002010104040202030008]
set_option maxRecDepth 100000 in
theorem tP_2121_1 : fw_plk tV_2121 tL_2121_1 tH_2121_2 = true := by decide +kernel
set_option maxRecDepth 100000 in
theorem tT_2121 {RO : am_O} {sa : Nat → Nat} (h_2000 : tc_true (aP sa) tp_G RO tp_T tp_Z tK_2000) : tc_true (aP sa) tp_G RO tp_T tp_Z tK_2121 := by
  have hC : ∀ c ∈ tC_2121, tc_true (aP sa) tp_G RO tp_T tp_Z c := by
    intro c hc
    have hc : c ∈ ([tK_2000] : List tc_Ct) := hc
    rcases List.mem_cons.mp hc with rfl | hc
    · exact h_2000
    cases hc
  have hP : ∀ p ∈ tJ_2121, ∃ hs, tc_plk (aP sa, tV_2121.2) p hs = true := by
    intro p hp
    have hp : p ∈ ([tL_2121_0, tL_2121_1] : List tc_Pl) := hp
    rcases List.mem_cons.mp hp with rfl | hp
    · exact ⟨_, (tc_plk_sa (aP_sa sa _)).trans ((fw_plk_s tHC_2121).trans tP_2121_0)⟩
    rcases List.mem_cons.mp hp with rfl | hp
    · exact ⟨_, (tc_plk_sa (aP_sa sa _)).trans ((fw_plk_s tHC_2121).trans tP_2121_1)⟩
    cases hp
  exact tc_main (mt := aM_432.1) (hs := tH_2121_0) (PL := tJ_2121) ⟨tp_G_ok, tMs_2121 _, hC, tr_L_ok, tp_G_re⟩ (show am_meth (aP sa) 432 = some aM_432.1 from rfl) aX_432 (by decide +kernel) hP ((tc_go_sa (aP_sa sa _)).trans ((fw_go_s tHC_2121).trans tR_2121))
noncomputable def tK_2122 : tc_Ct := (433, (3, 1), [(2, ([], 0), 0), (0, ([(0, 1)], 0), 0), (0, ([(1, 1)], 0), 0), (0, ([(2, 1)], 0), 0)], ([([(0, -1)], 2147483647), ([(0, 1)], 2147483648), ([(1, -1)], 2147483647), ([(1, 1)], 2147483648), ([(2, -1)], 2147483647), ([(2, 1)], 2147483648)], [(0, 0)], [], [], [], [], []), [(29, 0), (30, 0)], [((4, 1), ([([(0, -1)], 2147483647), ([(0, 1)], 2147483648), ([(1, -1)], 2147483647), ([(1, 1)], 2147483648), ([(2, -1)], 2147483647), ([(2, 1)], 2147483648), ([(3, -1)], 4), ([(3, 1)], 1)], [], [], [], [], [], []), some (0, ([(3, 1)], 0), 0), ([], 0), ([], 0))])
noncomputable def tL_2122_0 : tc_Pl := de_pl 0x30c30ff00020204010000000000030c30ff0003000000000000000204010007000002030100040000020201000300000201010002000002000100010000000200068800000000000000010601040103020601040100020301080103010002010104010101000200010e0100010000000100000000ff02020100000000fffffffeff0102010a0105
noncomputable def tL_2122_1 : tc_Pl := de_pl 0x30cfcff00020206010000000000030cfcff00030000000000000002060100070000020501000600000204010005000002030100040000020201000300000201010002000002000100010000000200082200000000000000010102050203020601060103020601060100020501000203010002010104010101000200010e0100010000000100000000ff02020100000000fffffffeff0102010b0107
noncomputable def tJ_2122 : List tc_Pl := [tL_2122_0, tL_2122_1]
noncomputable def tC_2122 : List tc_Ct := [tK_2098, tK_2000]
def tM_2122 (z : Nat) : Option am_Meth := if z = 419 then some aM_419.1 else if z = 321 then some aM_321.1 else none
set_option maxRecDepth 100000 in
theorem tMs_2122 (sa : Nat → Nat) : ∀ z mz, tM_2122 z = some mz → am_meth (aP sa) z = some mz := by
  intro z mz h
  unfold tM_2122 at h
  rcases de_m h with ⟨rfl, rfl⟩ | h
  · exact (show am_meth (aP sa) 419 = some aM_419.1 from rfl)
  rcases de_m h with ⟨rfl, rfl⟩ | h
  · exact (show am_meth (aP sa) 321 = some aM_321.1 from rfl)
  cases h
noncomputable def tV_2122 : tc_Ev := (aQ, tp_T, tp_G.2, tp_Z, tM_2122, tC_2122, tr_L, tK_2122.2.2.2.2.1, aM_433.1, aW_433, tK_2122.2.1, tK_2122.2.2.2.2.2, tJ_2122)
theorem tE_2122 : tK_2122.2.2.2.2.2.all (tc_wex tK_2122.2.1.1 tK_2122.2.1.2) = true := by decide +kernel
theorem tSS_2122 : tC_2122.all (fun c => tw_mg tK_2122.2.2.2.2.1 c.2.2.2.2.1) = true := by decide +kernel
theorem tHC_2122 : ∀ c ∈ tC_2122, c.2.2.2.2.1.all tK_2122.2.2.2.2.1.contains = true ∧ c.2.2.2.2.2.all (tc_wex c.2.1.1 c.2.1.2) = true := tf_hc tSS_2122 (by
  intro c hc
  have hc : c ∈ ([tK_2098, tK_2000] : List tc_Ct) := hc
  rcases List.mem_cons.mp hc with rfl | hc
  · exact tE_2098
  rcases List.mem_cons.mp hc with rfl | hc
  · exact tE_2000
  cases hc)
noncomputable def tH_2122_0 : List tc_It := [de_it 0x4010000, de_it 0x101010101000101000000000000000000000000000000010a00020001010000020006, de_it 0x10108010100000300000001, de_it 0x2010000, de_it 0x10001010501010104010101030101010201010101010101000101000000000000000000000000000100011001000100010007, de_it 0x10000010901010300000001, de_it 0x8010000, de_it 0x10001000100010103010101020101000000000000000000000000000000000e04000000000201010302010006, de_it 0x10000010f01010300000001, de_it 0x2010000, de_it 0x10001010501010104010101030101010201010107010101060101000000000000000000000000000100011001000100010007, de_it 0x10112010100000300000001, de_it 0x10010000, de_it 0x1000100010001000101100101010f010101070101010601010105010101040101000000000000000000000000000100011306000200000000000402010008]
set_option maxRecDepth 100000 in
theorem tR_2122 : fw_go tV_2122 tK_2122.2.1.1 tK_2122.2.1.2 none tH_2122_0 [(tK_2122.2.1, tK_2122.2.2.2.1, 0, tc_args 0 tK_2122.2.2.1, [], ([], 0), ([], 0))] = true := by decide +kernel
noncomputable def tH_2122_1 : List tc_It := [de_it 0x2010000, de_it 0x300000001, de_it 0x2010000, de_it 0x2, de_it 0x4010000, de_it 0x3020101030301010200000001, de_it 0x2010000, de_it 0x104030202010105030302010200000001, de_it 0x2010000, de_it 0x2010011, de_it 0x106010101070101010b010403020301010503030201040002010600020100010003, de_it 0x2010000, de_it 0x1070101010601010101010101000101010501010104010101030101010201010000000000000000000000000001000110000203010100010007, de_it 0x6010000, de_it 0x8080101080a01010200000001, de_it 0x101, de_it 0x8010000, de_it 0x10d0101000000000300000001, de_it 0x1080101010a01010200000001, de_it 0x2010000, de_it 0x10901010108010101070101010a0109020101050101010401010103010101020101010101010100010100000000010a0101000100000001000100011201020401000203010200010008, de_it 0x2010000, de_it 0x2, de_it 0x4010000, de_it 0xc0201010c0301010200000001, de_it 0x4010000, de_it 0x4040101040501010200000001, de_it 0x4040c02020104050c0302010200000001, de_it 0x2010000, de_it 0x10a010904040c020401010704050c0303010200000001, de_it 0x2010000, de_it 0x2010011, de_it 0x10e0101010f0101010a0110010904040c020501010704050c0303010400020308011800030100010003, de_it 0x10a01090201010701010200000001, de_it 0x1080101010a01010200000001, de_it 0x2010000, de_it 0x10901010108010101070101010a0109020101050101010401010103010101020101010101010100010100000000010a0101000100000001000100011201020401020203010200010008]
set_option maxRecDepth 100000 in
theorem tP_2122_0 : fw_plk tV_2122 tL_2122_0 tH_2122_1 = true := by decide +kernel
noncomputable def tH_2122_2 : List tc_It := [de_it 0x2010000, de_it 0x300000001, de_it 0x2010000, de_it 0x1070101000000000300000001, de_it 0x2010000, de_it 0x10001010101010100010101050101010401010103010101020101000000000000000000000000000100011001000100010007, de_it 0x2010000, de_it 0x1060101000000000300000001, de_it 0x8010000, de_it 0x10001000100010105010101040101010301010102010101010101010001010000000000000000000100010001000112060000000200010008, de_it 0x2010000, de_it 0x10001010101010100010101050101010401010103010101020101000000000000000000000000000100011001000100010007, de_it 0x6010000, de_it 0x8080101080b01010200000001, de_it 0x101, de_it 0x8010000, de_it 0x10e0101000000000300000001, de_it 0x1080101010b01010200000001, de_it 0x2010000, de_it 0x10a01010109010101080101010701010106010101050101010401010103010101020101010101010100010100000000010b01010001000000010001000113010206010002050100020401000203010402010008, de_it 0x2010000, de_it 0x1070101000000000300000001, de_it 0xe010000, de_it 0x101, de_it 0x101, de_it 0x2010000, de_it 0x10b01090201010a011202010200000001, de_it 0x109010a01120301010b01010200000001, de_it 0x2010000, de_it 0x10a01120201010901010109010a011203010001010a0112020101050101010401010103010101020101010101010100010100000000010b0101000100000001000100011301020601000000020b01020203010402010008, de_it 0x6010000, de_it 0x1040101000000000300000001, de_it 0x2010000, de_it 0x300000001, de_it 0xe010000, de_it 0x101, de_it 0x101, de_it 0x2010000, de_it 0x10b01090201010601010200000001, de_it 0x1080101010b01010200000001, de_it 0x2010000, de_it 0x1060101010901010108010100010106010101050101011201010103010101020101010101010100010100000000010b0101000100000001000100011301020601000000020b01020203010402010008, de_it 0x6010000, de_it 0x113010101100101020006010301, de_it 0x101, de_it 0x4010000, de_it 0x1160101000000000300000001, de_it 0xc010000, de_it 0x113010101100101020006010301, de_it 0x101, de_it 0x101, de_it 0x2010000, de_it 0x10b01090201010601010200000001, de_it 0x1080101010b01010200000001, de_it 0x2010000, de_it 0x1060101010901010108010100010106010101050101011201010103010101020101010101010100010100000000010b0101000100000001000100011301020601000000020c01020203010402010008, de_it 0xe010000, de_it 0x113010101100101020006010301, de_it 0x101, de_it 0x101, de_it 0x2010000, de_it 0x10b01090201010601010200000001, de_it 0x1080101010b01010200000001, de_it 0x2010000, de_it 0x1060101010901010108010100010106010101050101011201010103010101020101010101010100010100000000010b0101000100000001000100011301020601020000020c01020203010402010008, de_it 0x4010000, de_it 0x300000001, de_it 0xe010000, de_it 0x101, de_it 0x101, de_it 0x2010000, de_it 0x10b01090201010601010200000001, de_it 0x1080101010b01010200000001, de_it 0x2010000, de_it 0x1060101010901010108010100010106010101120101010401010103010101020101010101010100010100000000010b0101000100000001000100011301020601000000020b01020203010402010008, de_it 0x6010000, de_it 0x114010101100101020006010301, de_it 0x101, de_it 0x4010000, de_it 0x1170101000000000300000001, de_it 0xc010000, de_it 0x114010101100101020006010301, de_it 0x101, de_it 0x101, de_it 0x2010000, de_it 0x10b01090201010601010200000001, de_it 0x1080101010b01010200000001, de_it 0x2010000, de_it 0x1060101010901010108010100010106010101120101010401010103010101020101010101010100010100000000010b0101000100000001000100011301020601000000020c01020203010402010008, de_it 0xe010000, de_it 0x114010101100101020006010301, de_it 0x101, de_it 0x101, de_it 0x2010000, de_it 0x10b01090201010601010200000001, de_it 0x1080101010b01010200000001, de_it 0x2010000, de_it 0x1060101010901010108010100010106010101120101010401010103010101020101010101010100010100000000010b0101000100000001000100011301020601020000020c01020203010402010008]
set_option maxRecDepth 100000 in
theorem tP_2122_1 : fw_plk tV_2122 tL_2122_1 tH_2122_2 = true := by decide +kernel
set_option maxRecDepth 100000 in
theorem tT_2122 {RO : am_O} {sa : Nat → Nat} (h_2000 : tc_true (aP sa) tp_G RO tp_T tp_Z tK_2000) (h_2098 : tc_true (aP sa) tp_G RO tp_T tp_Z tK_2098) : tc_true (aP sa) tp_G RO tp_T tp_Z tK_2122 := by
  have hC : ∀ c ∈ tC_2122, tc_true (aP sa) tp_G RO tp_T tp_Z c := by
    intro c hc
    have hc : c ∈ ([tK_2098, tK_2000] : List tc_Ct) := hc
    rcases List.mem_cons.mp hc with rfl | hc
    · exact h_2098
    rcases List.mem_cons.mp hc with rfl | hc
    · exact h_2000
    cases hc
  have hP : ∀ p ∈ tJ_2122, ∃ hs, tc_plk (aP sa, tV_2122.2) p hs = true := by
    intro p hp
    have hp : p ∈ ([tL_2122_0, tL_2122_1] : List tc_Pl) := hp
    rcases List.mem_cons.mp hp with rfl | hp
    · exact ⟨_, (tc_plk_sa (aP_sa sa _)).trans ((fw_plk_s tHC_2122).trans tP_2122_0)⟩
    rcases List.mem_cons.mp hp with rfl | hp
    · exact ⟨_, (tc_plk_sa (aP_sa sa _)).trans ((fw_plk_s tHC_2122).trans tP_2122_1)⟩
    cases hp
  exact tc_main (mt := aM_433.1) (hs := tH_2122_0) (PL := tJ_2122) ⟨tp_G_ok, tMs_2122 _, hC, tr_L_ok, tp_G_re⟩ (show am_meth (aP sa) 433 = some aM_433.1 from rfl) aX_433 (by decide +kernel) hP ((tc_go_sa (aP_sa sa _)).trans ((fw_go_s tHC_2122).trans tR_2122))
noncomputable def tK_2123 : tc_Ct := (434, (3, 1), [(2, ([], 0), 0), (0, ([(0, 1)], 0), 0), (0, ([(1, 1)], 0), 0), (0, ([(2, 1)], 0), 0)], ([([(0, -1)], 2147483647), ([(0, 1)], 2147483648), ([(1, -1)], 2147483647), ([(1, 1)], 2147483648), ([(2, -1)], 2147483647), ([(2, 1)], 2147483648)], [(0, 0)], [], [], [], [], []), [(31, 0)], [((4, 1), ([([(0, -1)], 2147483647), ([(0, 1)], 2147483648), ([(1, -1)], 2147483647), ([(1, 1)], 2147483648), ([(2, -1)], 2147483647), ([(2, 1)], 2147483648), ([(3, -1)], 10000), ([(3, 1)], 1)], [], [], [], [], [], []), some (0, ([(3, 1)], 0), 0), ([], 0), ([], 0))])
noncomputable def tL_2123_0 : tc_Pl := de_pl 0x1e847eff000000000000061a80ff000200000000000000020201000300000201010002000002000100010000000200041600000000000000010502010103020101010201010000000201010e010101000200010e0100010000000100000000ff02020100000000fffffffeff0102010a0103
noncomputable def tJ_2123 : List tc_Pl := [tL_2123_0]
noncomputable def tC_2123 : List tc_Ct := [tK_2098, tK_2000]
def tM_2123 (z : Nat) : Option am_Meth := if z = 419 then some aM_419.1 else if z = 321 then some aM_321.1 else none
set_option maxRecDepth 100000 in
theorem tMs_2123 (sa : Nat → Nat) : ∀ z mz, tM_2123 z = some mz → am_meth (aP sa) z = some mz := by
  intro z mz h
  unfold tM_2123 at h
  rcases de_m h with ⟨rfl, rfl⟩ | h
  · exact (show am_meth (aP sa) 419 = some aM_419.1 from rfl)
  rcases de_m h with ⟨rfl, rfl⟩ | h
  · exact (show am_meth (aP sa) 321 = some aM_321.1 from rfl)
  cases h
noncomputable def tV_2123 : tc_Ev := (aQ, tp_T, tp_G.2, tp_Z, tM_2123, tC_2123, tr_L, tK_2123.2.2.2.2.1, aM_434.1, aW_434, tK_2123.2.1, tK_2123.2.2.2.2.2, tJ_2123)
theorem tE_2123 : tK_2123.2.2.2.2.2.all (tc_wex tK_2123.2.1.1 tK_2123.2.1.2) = true := by decide +kernel
theorem tSS_2123 : tC_2123.all (fun c => tw_mg tK_2123.2.2.2.2.1 c.2.2.2.2.1) = true := by decide +kernel
theorem tHC_2123 : ∀ c ∈ tC_2123, c.2.2.2.2.1.all tK_2123.2.2.2.2.1.contains = true ∧ c.2.2.2.2.2.all (tc_wex c.2.1.1 c.2.1.2) = true := tf_hc tSS_2123 (by
  intro c hc
  have hc : c ∈ ([tK_2098, tK_2000] : List tc_Ct) := hc
  rcases List.mem_cons.mp hc with rfl | hc
  · exact tE_2098
  rcases List.mem_cons.mp hc with rfl | hc
  · exact tE_2000
  cases hc)
noncomputable def tH_2123_0 : List tc_It := [de_it 0x4010000, de_it 0x101010101000101000000000000000000000000000000010a00020001010000020006, de_it 0x10108010100000300000001, de_it 0x2010000, de_it 0x10001010501010104010101030101010201010101010101000101000000000000000000000000000100011001000100010007, de_it 0x10000010901010300000001, de_it 0x8010000, de_it 0x10001000100010103010101020101000000000000000000000000000000000e0e000000000201010302010006, de_it 0xe0c0a08060406000d, de_it 0x10000010601010300000001, de_it 0x2010000, de_it 0x10001010301010102010101010101010001010105010101040101000000000000000000000000000100011001000100010007, de_it 0x201e0e0c0a0806000d, de_it 0x10107010100000300000001, de_it 0x10201010100000c, de_it 0x30201010100000c, de_it 0x50201010100000c, de_it 0x109010101080101010701010001010501010104010101030101010201010101010101000101000000000000000000010001100000010008, de_it 0x1080101010901010204000104010014, de_it 0x2010000, de_it 0x10000010b01010300000001, de_it 0x4010000, de_it 0x10000010b01010300000001, de_it 0x4010000, de_it 0x1010c010100000300000001, de_it 0x2010000, de_it 0x2, de_it 0x2010000, de_it 0x2010011, de_it 0x10d010202010103010102000200010100010002, de_it 0x2412100604020007000d, de_it 0x2010000, de_it 0x1060101000000000300000001, de_it 0x8010000, de_it 0x10109010100000300000001, de_it 0x4010000, de_it 0x10000010901010300000001, de_it 0x8010000, de_it 0x1010b010100000300000001, de_it 0x2010000, de_it 0x10001010101010100010101040101010501010103010101020101000000000000000000000000000100011001000100010007, de_it 0xa010000, de_it 0x1010a010100000300000001, de_it 0x4010000, de_it 0x10000010a01010300000001, de_it 0x8010000, de_it 0x10000010d01010300000001, de_it 0xa010000, de_it 0x10001000100010101010101000101000000000000000000000000000000000e06000000000202010302010006, de_it 0xa080604020006000d, de_it 0x10000010601010300000001, de_it 0x2010000, de_it 0x10001010101010100010101040101010501010103010101020101000000000000000000000000000100011001000100010007, de_it 0x28260a08060406000d, de_it 0x10107010100000300000001, de_it 0x2010000, de_it 0x2, de_it 0x4010000, de_it 0x8000101080101010200000001, de_it 0x2010000, de_it 0x8000101080101010200000001, de_it 0x4010011, de_it 0x107080002010801010102000200010104010002, de_it 0x4010000, de_it 0x2, de_it 0x4010000, de_it 0x8000101080101010200000001, de_it 0x2010000, de_it 0x8000101080101010200000001, de_it 0x2010000, de_it 0x1040101010501010107080002010801010104000200010104010003, de_it 0x2010000, de_it 0x10b0101010c01010105010101040101010201010103010101010101010001010000000000000000000000000001000110000206010100010007, de_it 0x1070101010801010202000104010014, de_it 0x2010000, de_it 0x10000010a01010300000001, de_it 0x4010000, de_it 0x10000010a01010300000001, de_it 0x4010000, de_it 0x1010b010100000300000001, de_it 0x2010000, de_it 0x2, de_it 0x2010000, de_it 0x2010011, de_it 0x10c010202010103010102000200010100010002, de_it 0x22100e0604020007000d, de_it 0x2010000, de_it 0x1060101000000000300000001, de_it 0x8010000, de_it 0x10000010801010300000001, de_it 0x8010000, de_it 0x1010a010100000300000001, de_it 0x2010000, de_it 0x10001010101010100010101040101010501010103010101020101000000000000000000000000000100011001000100010007, de_it 0xa010000, de_it 0x10000010901010300000001, de_it 0x8010000, de_it 0x10000010c01010300000001, de_it 0xa010000, de_it 0x10001000100010101010101000101000000000000000000000000000000000e04000000000202010302010006, de_it 0xa080604020006000d, de_it 0x10000010601010300000001, de_it 0x2010000, de_it 0x10001010101010100010101040101010501010103010101020101000000000000000000000000000100011001000100010007, de_it 0x26240a08060406000d, de_it 0x10107010100000300000001, de_it 0x2010000, de_it 0x2, de_it 0x4010000, de_it 0x8000101080101010200000001, de_it 0x2010000, de_it 0x8000101080101010200000001, de_it 0x4010011, de_it 0x107080002010801010102000200010102010002, de_it 0x4010000, de_it 0x2, de_it 0x4010000, de_it 0x8000101080101010200000001, de_it 0x2010000, de_it 0x8000101080101010200000001, de_it 0x2010000, de_it 0x1040101010501010107080002010801010104000200010102010003, de_it 0x2010000, de_it 0x10b0101010c01010105010101040101010201010103010101010101010001010000000000000000000000000001000110000206010100010007, de_it 0x1050101010701010200000104010014, de_it 0x2010000, de_it 0x10108010100000300000001, de_it 0xa010000, de_it 0x1010a010100000300000001, de_it 0x4010000, de_it 0x1010b010100000300000001, de_it 0x4010000, de_it 0x1010c010100000300000001, de_it 0x4010000, de_it 0x1010d010100000300000001, de_it 0xe0a0604020006000d, de_it 0x4010000, de_it 0x10106010100000300000001, de_it 0x6010000, de_it 0x10000010801010300000001, de_it 0xa010000, de_it 0x10001000100010101010101000101000000000000000000000000000000000e02000000000202010302010006, de_it 0xa080604020006000d, de_it 0x10000010601010300000001, de_it 0x2010000, de_it 0x10001010101010100010101040101010501010103010101020101000000000000000000000000000100011001000100010007, de_it 0x1e1c0a08060406000d, de_it 0x10107010100000300000001, de_it 0x2010000, de_it 0x2, de_it 0x4010000, de_it 0x8000101080101010200000001, de_it 0x2010000, de_it 0x8000101080101010200000001, de_it 0x2010011, de_it 0x107080002010801010102000200010100010002, de_it 0x4010000, de_it 0x2, de_it 0x4010000, de_it 0x8000101080101010200000001, de_it 0x2010000, de_it 0x8000101080101010200000001, de_it 0x2010000, de_it 0x1040101010501010107080002010801010104000200010100010003, de_it 0x2010000, de_it 0x10b0101010c01010105010101040101010201010103010101010101010001010000000000000000000000000001000110000204010100010007]
set_option maxRecDepth 100000 in
theorem tR_2123 : fw_go tV_2123 tK_2123.2.1.1 tK_2123.2.1.2 none tH_2123_0 [(tK_2123.2.1, tK_2123.2.2.2.1, 0, tc_args 0 tK_2123.2.2.1, [], ([], 0), ([], 0))] = true := by decide +kernel
noncomputable def tH_2123_1 : List tc_It := [de_it 0x70201010100000c, de_it 0x90201010100000c, de_it 0xb0201010100000c, de_it 0xd0201010100000c, de_it 0x1a080604020006000d, de_it 0x105010101040101020e000104010014, de_it 0x2010000, de_it 0x10000010701010300000001, de_it 0x4010000, de_it 0x10000010801010300000001, de_it 0x4010000, de_it 0x10109010100000300000001, de_it 0x2010000, de_it 0x2, de_it 0x2010000, de_it 0x2010011, de_it 0x109010202010103010102000200010100010002, de_it 0x1c0a080604020007000d, de_it 0x2010000, de_it 0x1060101000000000300000001, de_it 0x8010000, de_it 0x10109010100000300000001, de_it 0x4010000, de_it 0x1010a010100000300000001, de_it 0x4010000, de_it 0x1010b010100000300000001, de_it 0x4010000, de_it 0x1010c010100000300000001, de_it 0x4010000, de_it 0x10000010c01010300000001, de_it 0xa080604020006000d, de_it 0x8010000, de_it 0x10106010100000300000001, de_it 0x2010000, de_it 0x10001010101010100010101050101010401010103010101020101000000000000000000000000000100011001000100010007, de_it 0xa010000, de_it 0x1010a010100000300000001, de_it 0x4010000, de_it 0x1010b010100000300000001, de_it 0x4010000, de_it 0x1010c010100000300000001, de_it 0x4010000, de_it 0x1010d010100000300000001, de_it 0x4010000, de_it 0x10000010d01010300000001, de_it 0xa080604020006000d, de_it 0x8010000, de_it 0x10000010701010300000001, de_it 0xa010000, de_it 0x10001000100010101010101000101000000000000000000000000000000000ec8000000000202010302010006, de_it 0x10000010d01010300000001, de_it 0xa080604020006000d, de_it 0x2010000, de_it 0x10001010101010100010101050101010401010103010101020101000000000000000000000000000100011001000100010007, de_it 0x1c1a0a08060406000d, de_it 0x10107010100000300000001, de_it 0x2010000, de_it 0x2, de_it 0x4010000, de_it 0x8000101080101010200000001, de_it 0x2010000, de_it 0x8000101080101010200000001, de_it 0x4010011, de_it 0x10708000201080101010200020001010e010002, de_it 0x4010000, de_it 0x2, de_it 0x4010000, de_it 0x8000101080101010200000001, de_it 0x2010000, de_it 0x8000101080101010200000001, de_it 0x2010000, de_it 0x104010101050101010708000201080101010400020001010e010003, de_it 0x2010000, de_it 0x10b0101010c01010105010101040101010301010102010101010101010001010000000000000000000000000001000110000206010100010007, de_it 0x1a180604020006000d, de_it 0x104010101050101020c000104010014, de_it 0x2010000, de_it 0x10000010701010300000001, de_it 0x4010000, de_it 0x10107010100000300000001, de_it 0xa010000, de_it 0x1010a010100000300000001, de_it 0x4010000, de_it 0x1010b010100000300000001, de_it 0x4010000, de_it 0x1010c010100000300000001, de_it 0x4010000, de_it 0x1010d010100000300000001, de_it 0x4010000, de_it 0x1010d010100000300000001, de_it 0xa080604020006000d, de_it 0x6010000, de_it 0x10000010701010300000001, de_it 0xa010000, de_it 0x10001000100010101010101000101000000000000000000000000000000000e02000000000202010302010006, de_it 0x10000010d01010300000001, de_it 0xa080604020006000d, de_it 0x2010000, de_it 0x10001010101010100010101040101010501010103010101020101000000000000000000000000000100011001000100010007, de_it 0x1c1a0a08060406000d, de_it 0x10107010100000300000001, de_it 0x2010000, de_it 0x2, de_it 0x4010000, de_it 0x8000101080101010200000001, de_it 0x2010000, de_it 0x8000101080101010200000001, de_it 0x2010011, de_it 0x10708000201080101010200020001010c010002, de_it 0x4010000, de_it 0x2, de_it 0x4010000, de_it 0x8000101080101010200000001, de_it 0x2010000, de_it 0x8000101080101010200000001, de_it 0x2010000, de_it 0x104010101050101010708000201080101010400020001010c010003, de_it 0x2010000, de_it 0x10b0101010c01010105010101040101010201010103010101010101010001010000000000000000000000000001000110000204010100010007, de_it 0x10b0101010c0101020a000104010014, de_it 0x2010000, de_it 0x10000010e01010300000001, de_it 0x18160604020006000d, de_it 0x4010000, de_it 0x10000010601010300000001, de_it 0x4010000, de_it 0x10000010701010300000001, de_it 0x2010000, de_it 0x2, de_it 0x2010000, de_it 0x2010011, de_it 0x109010202010103010102000200010100010002, de_it 0x1a0a080604020007000d, de_it 0x1060101000000000300000001, de_it 0x8010000, de_it 0x10109010100000300000001, de_it 0x4010000, de_it 0x1010a010100000300000001, de_it 0x4010000, de_it 0x1010b010100000300000001, de_it 0x4010000, de_it 0x1010c010100000300000001, de_it 0x4010000, de_it 0x1010c010100000300000001, de_it 0x6010000, de_it 0x1010d010100000300000001, de_it 0xa080604020006000d, de_it 0x2010000, de_it 0x10001010101010100010101040101010501010103010101020101000000000000000000000000000100011001000100010007, de_it 0xc010000, de_it 0x1010a010100000300000001, de_it 0x4010000, de_it 0x1010b010100000300000001, de_it 0x4010000, de_it 0x1010c010100000300000001, de_it 0x4010000, de_it 0x1010d010100000300000001, de_it 0x4010000, de_it 0x1010d010100000300000001, de_it 0xa080604020006000d, de_it 0x6010000, de_it 0x10000010701010300000001, de_it 0xa010000, de_it 0x10001000100010101010101000101000000000000000000000000000000000e02000000000202010302010006, de_it 0x10000010d01010300000001, de_it 0xa080604020006000d, de_it 0x2010000, de_it 0x10001010101010100010101040101010501010103010101020101000000000000000000000000000100011001000100010007, de_it 0x1c1a0a08060406000d, de_it 0x10107010100000300000001, de_it 0x2010000, de_it 0x2, de_it 0x4010000, de_it 0x8000101080101010200000001, de_it 0x2010000, de_it 0x8000101080101010200000001, de_it 0x4010011, de_it 0x10708000201080101010200020001010a010002, de_it 0x4010000, de_it 0x2, de_it 0x4010000, de_it 0x8000101080101010200000001, de_it 0x2010000, de_it 0x8000101080101010200000001, de_it 0x2010000, de_it 0x104010101050101010708000201080101010400020001010a010003, de_it 0x2010000, de_it 0x10b0101010c01010105010101040101010201010103010101010101010001010000000000000000000000000001000110000206010100010007, de_it 0x10a0101010b01010208000104010014, de_it 0x2010000, de_it 0x10000010d01010300000001, de_it 0x4010000, de_it 0x10000010d01010300000001, de_it 0x16140604020006000d, de_it 0x4010000, de_it 0x10106010100000300000001, de_it 0x2010000, de_it 0x2, de_it 0x2010000, de_it 0x2010011, de_it 0x107010202010103010102000200010100010002, de_it 0x2010000, de_it 0x10c0101000000000300000001, de_it 0xa080604020006000d, de_it 0x8010000, de_it 0x10107010100000300000001, de_it 0x4010000, de_it 0x10108010100000300000001, de_it 0x4010000, de_it 0x10109010100000300000001, de_it 0x4010000, de_it 0x10000010901010300000001, de_it 0x8010000, de_it 0x1010b010100000300000001, de_it 0x2010000, de_it 0x10001010101010100010101040101010501010103010101020101000000000000000000000000000100011001000100010007, de_it 0xa080604020006000d, de_it 0xa010000, de_it 0x10107010100000300000001, de_it 0x4010000, de_it 0x10108010100000300000001, de_it 0x4010000, de_it 0x10109010100000300000001, de_it 0x4010000, de_it 0x10000010901010300000001, de_it 0x8010000, de_it 0x10000010c01010300000001, de_it 0xa010000, de_it 0x10001000100010101010101000101000000000000000000000000000000000e0000000000000320ff000000000202010302010006, de_it 0xa080604020006000d, de_it 0x10000010601010300000001, de_it 0x2010000, de_it 0x10001010101010100010101040101010501010103010101020101000000000000000000000000000100011001000100010007, de_it 0x26240a08060406000d, de_it 0x10107010100000300000001, de_it 0x2010000, de_it 0x2, de_it 0x4010000, de_it 0x8000101080101010200000001, de_it 0x2010000, de_it 0x8000101080101010200000001, de_it 0x4010011, de_it 0x107080002010801010102000200010108010002, de_it 0x4010000, de_it 0x2, de_it 0x4010000, de_it 0x8000101080101010200000001, de_it 0x2010000, de_it 0x8000101080101010200000001, de_it 0x2010000, de_it 0x1040101010501010107080002010801010104000200010108010003, de_it 0x2010000, de_it 0x10b0101010c01010105010101040101010201010103010101010101010001010000000000000000000000000001000110000206010100010007, de_it 0x1090101010a01010206000104010014, de_it 0x2010000, de_it 0x10000010c01010300000001, de_it 0x4010000, de_it 0x10000010c01010300000001, de_it 0x4010000, de_it 0x1010d010100000300000001, de_it 0x14120604020006000d, de_it 0x2010000, de_it 0x2, de_it 0x2010000, de_it 0x2010011, de_it 0x106010202010103010102000200010100010002, de_it 0x2010000, de_it 0x10b0101000000000300000001, de_it 0x8010000, de_it 0x1010e010100000300000001, de_it 0xa080604020006000d, de_it 0x4010000, de_it 0x10107010100000300000001, de_it 0x4010000, de_it 0x10000010701010300000001, de_it 0x8010000, de_it 0x10109010100000300000001, de_it 0x2010000, de_it 0x10001010101010100010101040101010501010103010101020101000000000000000000000000000100011001000100010007, de_it 0xa080604020006000d, de_it 0xa010000, de_it 0x10107010100000300000001, de_it 0x4010000, de_it 0x10108010100000300000001, de_it 0x4010000, de_it 0x10000010801010300000001, de_it 0x8010000, de_it 0x10000010b01010300000001, de_it 0xa010000, de_it 0x10001000100010101010101000101000000000000000000000000000000000e0000000000004e20ff000000000202010302010006, de_it 0xa080604020006000d, de_it 0x10000010601010300000001, de_it 0x2010000, de_it 0x10001010101010100010101040101010501010103010101020101000000000000000000000000000100011001000100010007, de_it 0x24220a08060406000d, de_it 0x10107010100000300000001, de_it 0x2010000, de_it 0x2, de_it 0x4010000, de_it 0x8000101080101010200000001, de_it 0x2010000, de_it 0x8000101080101010200000001, de_it 0x4010011, de_it 0x107080002010801010102000200010106010002, de_it 0x4010000, de_it 0x2, de_it 0x4010000, de_it 0x8000101080101010200000001, de_it 0x2010000, de_it 0x8000101080101010200000001, de_it 0x2010000, de_it 0x1040101010501010107080002010801010104000200010106010003, de_it 0x2010000, de_it 0x10b0101010c01010105010101040101010201010103010101010101010001010000000000000000000000000001000110000206010100010007]
set_option maxRecDepth 100000 in
theorem tP_2123_0 : fw_plk tV_2123 tL_2123_0 tH_2123_1 = true := by decide +kernel
set_option maxRecDepth 100000 in
theorem tT_2123 {RO : am_O} {sa : Nat → Nat} (h_2000 : tc_true (aP sa) tp_G RO tp_T tp_Z tK_2000) (h_2098 : tc_true (aP sa) tp_G RO tp_T tp_Z tK_2098) : tc_true (aP sa) tp_G RO tp_T tp_Z tK_2123 := by
  have hC : ∀ c ∈ tC_2123, tc_true (aP sa) tp_G RO tp_T tp_Z c := by
    intro c hc
    have hc : c ∈ ([tK_2098, tK_2000] : List tc_Ct) := hc
    rcases List.mem_cons.mp hc with rfl | hc
    · exact h_2098
    rcases List.mem_cons.mp hc with rfl | hc
    · exact h_2000
    cases hc
  have hP : ∀ p ∈ tJ_2123, ∃ hs, tc_plk (aP sa, tV_2123.2) p hs = true := by
    intro p hp
    have hp : p ∈ ([tL_2123_0] : List tc_Pl) := hp
    rcases List.mem_cons.mp hp with rfl | hp
    · exact ⟨_, (tc_plk_sa (aP_sa sa _)).trans ((fw_plk_s tHC_2123).trans tP_2123_0)⟩
    cases hp
  exact tc_main (mt := aM_434.1) (hs := tH_2123_0) (PL := tJ_2123) ⟨tp_G_ok, tMs_2123 _, hC, tr_L_ok, tp_G_re⟩ (show am_meth (aP sa) 434 = some aM_434.1 from rfl) aX_434 (by decide +kernel) hP ((tc_go_sa (aP_sa sa _)).trans ((fw_go_s tHC_2123).trans tR_2123))
noncomputable def tK_2124 : tc_Ct := (435, (1, 1), [(2, ([], 0), 0), (0, ([(0, 1)], 0), 0)], ([([(0, -1)], 2147483647), ([(0, 1)], 2147483648)], [(0, 0)], [], [], [], [], []), [(0, 1), (32, 0), (33, 0)], [((2, 1), ([([(0, -1)], 2147483647), ([(0, 1)], 2147483648), ([(1, -1)], 200), ([(1, 1)], 3)], [], [], [], [], [], []), some (0, ([(1, 1)], 0), 0), ([], 0), ([], 0))])
noncomputable def tL_2124_0 : tc_Pl := de_pl 0x30d00ff000002020101020000000000030d00ff00030000000000000002010100020000020001000100000002000320000000020301000200010101010000023a000000020201000100020021010000020000000000000190ff0103010202000203010002020100020101000200010e010001060204
noncomputable def tJ_2124 : List tc_Pl := [tL_2124_0]
noncomputable def tC_2124 : List tc_Ct := [tK_2098]
def tM_2124 (z : Nat) : Option am_Meth := if z = 419 then some aM_419.1 else none
set_option maxRecDepth 100000 in
theorem tMs_2124 (sa : Nat → Nat) : ∀ z mz, tM_2124 z = some mz → am_meth (aP sa) z = some mz := by
  intro z mz h
  unfold tM_2124 at h
  rcases de_m h with ⟨rfl, rfl⟩ | h
  · exact (show am_meth (aP sa) 419 = some aM_419.1 from rfl)
  cases h
noncomputable def tV_2124 : tc_Ev := (aQ, tp_T, tp_G.2, tp_Z, tM_2124, tC_2124, tr_L, tK_2124.2.2.2.2.1, aM_435.1, aW_435, tK_2124.2.1, tK_2124.2.2.2.2.2, tJ_2124)
theorem tE_2124 : tK_2124.2.2.2.2.2.all (tc_wex tK_2124.2.1.1 tK_2124.2.1.2) = true := by decide +kernel
theorem tSS_2124 : tC_2124.all (fun c => tw_mg tK_2124.2.2.2.2.1 c.2.2.2.2.1) = true := by decide +kernel
theorem tHC_2124 : ∀ c ∈ tC_2124, c.2.2.2.2.1.all tK_2124.2.2.2.2.1.contains = true ∧ c.2.2.2.2.2.all (tc_wex c.2.1.1 c.2.1.2) = true := tf_hc tSS_2124 (by
  intro c hc
  have hc : c ∈ ([tK_2098] : List tc_Ct) := hc
  rcases List.mem_cons.mp hc with rfl | hc
  · exact tE_2098
  cases hc)
noncomputable def tH_2124_0 : List tc_It := [de_it 0x4010000, de_it 0x101010101000101000000000000000000000000000000010a00020001010000020006, de_it 0x10000010401010300000001, de_it 0x2010000, de_it 0x100010101010101000101000000000000000000000000000100010c01000100010007, de_it 0x10105010100000300000001, de_it 0x2010000, de_it 0x2, de_it 0x2010000, de_it 0x2010011, de_it 0x105010202010103010102000200010100010002, de_it 0x2010000, de_it 0x2, de_it 0x10c010a0201010b010902010200000001, de_it 0x2010000, de_it 0x300000001, de_it 0x4010000, de_it 0x10d010101090101010b010100010103010101020101000000000000000000000000000100010e00020201000203010000030200020008, de_it 0x2010000, de_it 0x100010103010101020101000000000000000000000000000100010c05000100010007]
set_option maxRecDepth 100000 in
theorem tR_2124 : fw_go tV_2124 tK_2124.2.1.1 tK_2124.2.1.2 none tH_2124_0 [(tK_2124.2.1, tK_2124.2.2.2.1, 0, tc_args 0 tK_2124.2.2.1, [], ([], 0), ([], 0))] = true := by decide +kernel
noncomputable def tH_2124_1 : List tc_It := [de_it 0x4010000, de_it 0x2, de_it 0x300000001, de_it 0x2010000, de_it 0x2, de_it 0x4010000, de_it 0x2010011, de_it 0x10701000201010101010200000002, de_it 0x2010000, de_it 0x2, de_it 0x10501010104010302010200000001, de_it 0x10501010104010302010107010002010101010104000200010100010003, de_it 0x4010000, de_it 0x10001000000000400000003, de_it 0x2010000, de_it 0x2, de_it 0x2010000, de_it 0x10701000201010101010200000002, de_it 0x10401030201010501010101010101000101000000000000000000000000000100010c0002030202020100010007, de_it 0x2010000, de_it 0x2, de_it 0x4010000, de_it 0xc8000101c80101010200000001, de_it 0x2010000, de_it 0x2, de_it 0x2010000, de_it 0x2010011, de_it 0x10701000201010101010200000002, de_it 0x10201060105c80004010104c80102010200000001, de_it 0x2010000, de_it 0x1060105c800030101040102c80103010200000001, de_it 0x2010000, de_it 0x2, de_it 0x2010000, de_it 0x6010011, de_it 0x10401060109010504010102010102000201010100010002, de_it 0x4010011, de_it 0x10e0101010d01010106010f0105c800040101040102c80103010400020302010000000000000190ff00030100010003, de_it 0x104010601050301010201010200000001, de_it 0x2010000, de_it 0x1050101010401010102010602010102010101010101010001010000000001060101000100000001000100010e000203010002020102020101030200020008]
set_option maxRecDepth 100000 in
theorem tP_2124_0 : fw_plk tV_2124 tL_2124_0 tH_2124_1 = true := by decide +kernel
set_option maxRecDepth 100000 in
theorem tT_2124 {RO : am_O} {sa : Nat → Nat} (h_2098 : tc_true (aP sa) tp_G RO tp_T tp_Z tK_2098) : tc_true (aP sa) tp_G RO tp_T tp_Z tK_2124 := by
  have hC : ∀ c ∈ tC_2124, tc_true (aP sa) tp_G RO tp_T tp_Z c := by
    intro c hc
    have hc : c ∈ ([tK_2098] : List tc_Ct) := hc
    rcases List.mem_cons.mp hc with rfl | hc
    · exact h_2098
    cases hc
  have hP : ∀ p ∈ tJ_2124, ∃ hs, tc_plk (aP sa, tV_2124.2) p hs = true := by
    intro p hp
    have hp : p ∈ ([tL_2124_0] : List tc_Pl) := hp
    rcases List.mem_cons.mp hp with rfl | hp
    · exact ⟨_, (tc_plk_sa (aP_sa sa _)).trans ((fw_plk_s tHC_2124).trans tP_2124_0)⟩
    cases hp
  exact tc_main (mt := aM_435.1) (hs := tH_2124_0) (PL := tJ_2124) ⟨tp_G_ok, tMs_2124 _, hC, tr_L_ok, tp_G_re⟩ (show am_meth (aP sa) 435 = some aM_435.1 from rfl) aX_435 (by decide +kernel) hP ((tc_go_sa (aP_sa sa _)).trans ((fw_go_s tHC_2124).trans tR_2124))
noncomputable def tK_2125 : tc_Ct := (436, (2, 3), [(2, ([], 0), 0), (0, ([(0, 1)], 0), 0), (0, ([(1, 1)], 0), 0)], ([([(0, -1)], 2147483647), ([(0, 1)], 2147483648), ([(1, -1)], 2147483647), ([(1, 1)], 2147483648)], [(0, 0), (1, 34), (2, 35)], [], [(0, 59, (2, ([], 0), 1)), (0, 60, (2, ([], 0), 2))], [], [], [(64, [1, 2], [])]), [(34, 0), (35, 0)], [((3, 3), ([([(0, -1)], 2147483647), ([(0, 1)], 2147483648), ([(1, -1)], 2147483647), ([(1, 1)], 2147483648), ([(2, -1)], 30), ([(2, 1)], 1)], [], [], [], [], [], [(64, [1, 2], [])]), some (0, ([(2, 1)], 0), 0), ([], 0), ([], 0))])
noncomputable def tJ_2125 : List tc_Pl := []
noncomputable def tC_2125 : List tc_Ct := [tK_2098, tK_2077, tK_2103]
def tM_2125 (z : Nat) : Option am_Meth := if z = 422 then some aM_422.1 else if z = 419 then some aM_419.1 else if z = 409 then some aM_409.1 else none
set_option maxRecDepth 100000 in
theorem tMs_2125 (sa : Nat → Nat) : ∀ z mz, tM_2125 z = some mz → am_meth (aP sa) z = some mz := by
  intro z mz h
  unfold tM_2125 at h
  rcases de_m h with ⟨rfl, rfl⟩ | h
  · exact (show am_meth (aP sa) 422 = some aM_422.1 from rfl)
  rcases de_m h with ⟨rfl, rfl⟩ | h
  · exact (show am_meth (aP sa) 419 = some aM_419.1 from rfl)
  rcases de_m h with ⟨rfl, rfl⟩ | h
  · exact (show am_meth (aP sa) 409 = some aM_409.1 from rfl)
  cases h
noncomputable def tV_2125 : tc_Ev := (aQ, tp_T, tp_G.2, tp_Z, tM_2125, tC_2125, tr_L, tK_2125.2.2.2.2.1, aM_436.1, aW_436, tK_2125.2.1, tK_2125.2.2.2.2.2, tJ_2125)
theorem tE_2125 : tK_2125.2.2.2.2.2.all (tc_wex tK_2125.2.1.1 tK_2125.2.1.2) = true := by decide +kernel
theorem tSS_2125 : tC_2125.all (fun c => tw_mg tK_2125.2.2.2.2.1 c.2.2.2.2.1) = true := by decide +kernel
theorem tHC_2125 : ∀ c ∈ tC_2125, c.2.2.2.2.1.all tK_2125.2.2.2.2.1.contains = true ∧ c.2.2.2.2.2.all (tc_wex c.2.1.1 c.2.1.2) = true := tf_hc tSS_2125 (by
  intro c hc
  have hc : c ∈ ([tK_2098, tK_2077, tK_2103] : List tc_Ct) := hc
  rcases List.mem_cons.mp hc with rfl | hc
  · exact tE_2098
  rcases List.mem_cons.mp hc with rfl | hc
  · exact tE_2077
  rcases List.mem_cons.mp hc with rfl | hc
  · exact tE_2103
  cases hc)
noncomputable def tH_2125_0 : List tc_It := [de_it 0x4010000, de_it 0x101010101000101000000000000000000000000000000010a00020001010000020006, de_it 0x10106010100000300000001, de_it 0x2010000, de_it 0x1000101030101010201010101010101000101000000000000000000000000000100010e01000100010007, de_it 0x10000010701010300000001, de_it 0x4010000, de_it 0x103010101020101000000000000000000000000000000010a00020101010002020006, de_it 0x10000010901010300000001, de_it 0x2010000, de_it 0x1000101030101010201010105010101040101000000000000000000000000000100010e01000100010007, de_it 0x1010a010100000300000001, de_it 0x6010000, de_it 0x4010011, de_it 0x10a0104020101050101020002000100020001020400020012, de_it 0x10e0101010f010101080101010701010105010101040101000000000000000000000000000000020e0002030100020101000200010304020004040006, de_it 0x10000011601010300000001, de_it 0x2010000, de_it 0x2, de_it 0x4010000, de_it 0x1e0401011e0501010200000001, de_it 0x2010000, de_it 0x2, de_it 0x2010000, de_it 0x10a01040201010501010200000002, de_it 0x10f1e040201010e1e0502010200000001, de_it 0x2010000, de_it 0x1070101010801010104010101050101000000000000000000000000000000000c00020101000203010002000103040212030009, de_it 0x2010011, de_it 0x10e01010001000000000000000000000000000000000a000201010002033c00020002010100020301003c000105020214030009, de_it 0x1180101010e01010104010101050101000000000000000000000000000000000c0002010100020301000200010302040216040009, de_it 0x107010101080101011901181e040301010e1e050201040002033c00020100010003, de_it 0x2010000, de_it 0x2, de_it 0x4010000, de_it 0x10a01040201010501010200000002, de_it 0x2010000, de_it 0x1180101010e01010200000001, de_it 0x107010101080101010e01010104010101050101000000000000000000000000000000000d00020101000203010002000103040218030009, de_it 0x1180101010e0101010a010402010105010104000200010100010003, de_it 0x2010000, de_it 0x2, de_it 0x2010000, de_it 0x10a01040201010501010200000002, de_it 0x10e01010118010101080101010701010105010101040101000000000000000000000000000100010e020203010100010007, de_it 0x10119010100000300000001, de_it 0x2010000, de_it 0x2, de_it 0x2010000, de_it 0x10a01040201010501010200000002, de_it 0x1150101010f01010117010000000000000190ff010701010105010101040101000000000000000000000000000100010e000203010100010007]
set_option maxRecDepth 100000 in
theorem tR_2125 : fw_go tV_2125 tK_2125.2.1.1 tK_2125.2.1.2 none tH_2125_0 [(tK_2125.2.1, tK_2125.2.2.2.1, 0, tc_args 0 tK_2125.2.2.1, [], ([], 0), ([], 0))] = true := by decide +kernel
set_option maxRecDepth 100000 in
theorem tT_2125 {RO : am_O} {sa : Nat → Nat} (h_2077 : tc_true (aP sa) tp_G RO tp_T tp_Z tK_2077) (h_2098 : tc_true (aP sa) tp_G RO tp_T tp_Z tK_2098) (h_2103 : tc_true (aP sa) tp_G RO tp_T tp_Z tK_2103) : tc_true (aP sa) tp_G RO tp_T tp_Z tK_2125 := by
  have hC : ∀ c ∈ tC_2125, tc_true (aP sa) tp_G RO tp_T tp_Z c := by
    intro c hc
    have hc : c ∈ ([tK_2098, tK_2077, tK_2103] : List tc_Ct) := hc
    rcases List.mem_cons.mp hc with rfl | hc
    · exact h_2098
    rcases List.mem_cons.mp hc with rfl | hc
    · exact h_2077
    rcases List.mem_cons.mp hc with rfl | hc
    · exact h_2103
    cases hc
  have hP : ∀ p ∈ tJ_2125, ∃ hs, tc_plk (aP sa, tV_2125.2) p hs = true := by
    intro p hp
    have hp : p ∈ ([] : List tc_Pl) := hp
    cases hp
  exact tc_main (mt := aM_436.1) (hs := tH_2125_0) (PL := tJ_2125) ⟨tp_G_ok, tMs_2125 _, hC, tr_L_ok, tp_G_re⟩ (show am_meth (aP sa) 436 = some aM_436.1 from rfl) aX_436 (by decide +kernel) hP ((tc_go_sa (aP_sa sa _)).trans ((fw_go_s tHC_2125).trans tR_2125))
noncomputable def tK_2126 : tc_Ct := (437, (2, 1), [(2, ([], 0), 0), (0, ([(0, 1)], 0), 0), (0, ([(1, 1)], 0), 0)], ([([(0, -1)], 2147483647), ([(0, 1)], 2147483648), ([(1, -1)], 2147483647), ([(1, 1)], 2147483648)], [(0, 0)], [], [], [], [], []), [(0, 51), (36, 0), (37, 0), (38, 0)], [((3, 1), ([([(0, -1)], 2147483647), ([(0, 1)], 2147483648), ([(1, -1)], 2147483647), ([(1, 1)], 2147483648), ([(2, -1)], 4), ([(2, 1)], 2)], [], [], [], [], [], []), some (0, ([(2, 1)], 0), 0), ([], 0), ([], 0))])
noncomputable def tL_2126_0 : tc_Pl := de_pl 0x30cb4ff000002030102020000000000030cb4ff000300000000000000020201000300000201010002000002000100010000000200044600000002030100020001030002040100000200020501081004010103030000023e000000020301003300020000023200010000021e00040025031b020c0100000401020301080103010002020101020101000000007fffffb8ff010101000200010e010001070406
noncomputable def tJ_2126 : List tc_Pl := [tL_2126_0]
noncomputable def tC_2126 : List tc_Ct := [tK_2098, tK_2038, tK_2000, tK_2039]
def tM_2126 (z : Nat) : Option am_Meth := if z = 419 then some aM_419.1 else if z = 358 then some aM_358.1 else if z = 357 then some aM_357.1 else if z = 321 then some aM_321.1 else none
set_option maxRecDepth 100000 in
theorem tMs_2126 (sa : Nat → Nat) : ∀ z mz, tM_2126 z = some mz → am_meth (aP sa) z = some mz := by
  intro z mz h
  unfold tM_2126 at h
  rcases de_m h with ⟨rfl, rfl⟩ | h
  · exact (show am_meth (aP sa) 419 = some aM_419.1 from rfl)
  rcases de_m h with ⟨rfl, rfl⟩ | h
  · exact (show am_meth (aP sa) 358 = some aM_358.1 from rfl)
  rcases de_m h with ⟨rfl, rfl⟩ | h
  · exact (show am_meth (aP sa) 357 = some aM_357.1 from rfl)
  rcases de_m h with ⟨rfl, rfl⟩ | h
  · exact (show am_meth (aP sa) 321 = some aM_321.1 from rfl)
  cases h
noncomputable def tV_2126 : tc_Ev := (aQ, tp_T, tp_G.2, tp_Z, tM_2126, tC_2126, tr_L, tK_2126.2.2.2.2.1, aM_437.1, aW_437, tK_2126.2.1, tK_2126.2.2.2.2.2, tJ_2126)
theorem tE_2126 : tK_2126.2.2.2.2.2.all (tc_wex tK_2126.2.1.1 tK_2126.2.1.2) = true := by decide +kernel
theorem tSS_2126 : tC_2126.all (fun c => tw_mg tK_2126.2.2.2.2.1 c.2.2.2.2.1) = true := by decide +kernel
theorem tHC_2126 : ∀ c ∈ tC_2126, c.2.2.2.2.1.all tK_2126.2.2.2.2.1.contains = true ∧ c.2.2.2.2.2.all (tc_wex c.2.1.1 c.2.1.2) = true := tf_hc tSS_2126 (by
  intro c hc
  have hc : c ∈ ([tK_2098, tK_2038, tK_2000, tK_2039] : List tc_Ct) := hc
  rcases List.mem_cons.mp hc with rfl | hc
  · exact tE_2098
  rcases List.mem_cons.mp hc with rfl | hc
  · exact tE_2038
  rcases List.mem_cons.mp hc with rfl | hc
  · exact tE_2000
  rcases List.mem_cons.mp hc with rfl | hc
  · exact tE_2039
  cases hc)
noncomputable def tH_2126_0 : List tc_It := [de_it 0x4010000, de_it 0x101010101000101000000000000000000000000000000010a00020001010000020006, de_it 0x10106010100000300000001, de_it 0x2010000, de_it 0x1000101030101010201010101010101000101000000000000000000000000000100010e01000100010007, de_it 0x10000010701010300000001, de_it 0x2010000, de_it 0x103010101020101000000000000000000000000000000000a000201010102010006, de_it 0x10000010901010300000001, de_it 0x2010000, de_it 0x1000101030101010201010105010101040101000000000000000000000000000100010e01000100010007, de_it 0x1010a010100000300000001, de_it 0x2010000, de_it 0x2, de_it 0x6010000, de_it 0x1000100010001010a0101010b0101000000000000000000000000000000000e08000200000202010304010006, de_it 0x10112010100000300000001, de_it 0x2010000, de_it 0x1000101080101010701010105010101040101000000000000000000000000000100010e03000100010007, de_it 0x10000011501010300000001, de_it 0x2010000, de_it 0x108010101070101000000000000000000000000000000000a000201010106010006, de_it 0x2010000, de_it 0x2, de_it 0x4010000, de_it 0x2, de_it 0x2010000, de_it 0x4010011, de_it 0x119010100010200000100010002, de_it 0x81e0101081d01010200000001, de_it 0x2010000, de_it 0x81e0101081d01010200000001, de_it 0x2010011, de_it 0x11f081e0201081d01010200000002, de_it 0x300000001, de_it 0x2010000, de_it 0x2, de_it 0x4010000, de_it 0x2, de_it 0x6010011, de_it 0x1120101011301010125010402010105010104000200010100010003, de_it 0x4010000, de_it 0x113010101120101000101080101010701010105010101040101000000000000000000000000000100010f00020701000205010002020100000406040200040008, de_it 0x2010000, de_it 0x1000101080101010701010105010101040101000000000000000000000000000100010e03000100010007]
set_option maxRecDepth 100000 in
theorem tR_2126 : fw_go tV_2126 tK_2126.2.1.1 tK_2126.2.1.2 none tH_2126_0 [(tK_2126.2.1, tK_2126.2.2.2.1, 0, tc_args 0 tK_2126.2.2.1, [], ([], 0), ([], 0))] = true := by decide +kernel
noncomputable def tH_2126_1 : List tc_It := [de_it 0x4010000, de_it 0x2, de_it 0x300000001, de_it 0x2010000, de_it 0x2, de_it 0x4010000, de_it 0x8010011, de_it 0x10801000201010101010200000003, de_it 0x4010000, de_it 0x10001000000000400000003, de_it 0x2010000, de_it 0x2, de_it 0x2010000, de_it 0x6010011, de_it 0x10a01000201010101010200000002, de_it 0x10601010105010101030101010201010101010101000101000000000000000000000000000100010e000203010100010007, de_it 0x2010000, de_it 0x2, de_it 0x4010000, de_it 0x4000101040101010200000001, de_it 0x2010000, de_it 0x1070105040003010104040102010200000001, de_it 0x2010000, de_it 0x2, de_it 0x2010000, de_it 0x4010011, de_it 0x1070108010503010104010102000202010100010002, de_it 0x8010011, de_it 0x10d0101010c01010107010e010504000401010404010201040002020800020100010003, de_it 0x10701050201010401010200000001, de_it 0x2010000, de_it 0x10601010105010101040101010301010102010101010101010001010000000001070101000100000001000100010f000205010002040100020301020202010406040200040008]
set_option maxRecDepth 100000 in
theorem tP_2126_0 : fw_plk tV_2126 tL_2126_0 tH_2126_1 = true := by decide +kernel
set_option maxRecDepth 100000 in
theorem tT_2126 {RO : am_O} {sa : Nat → Nat} (h_2000 : tc_true (aP sa) tp_G RO tp_T tp_Z tK_2000) (h_2038 : tc_true (aP sa) tp_G RO tp_T tp_Z tK_2038) (h_2039 : tc_true (aP sa) tp_G RO tp_T tp_Z tK_2039) (h_2098 : tc_true (aP sa) tp_G RO tp_T tp_Z tK_2098) : tc_true (aP sa) tp_G RO tp_T tp_Z tK_2126 := by
  have hC : ∀ c ∈ tC_2126, tc_true (aP sa) tp_G RO tp_T tp_Z c := by
    intro c hc
    have hc : c ∈ ([tK_2098, tK_2038, tK_2000, tK_2039] : List tc_Ct) := hc
    rcases List.mem_cons.mp hc with rfl | hc
    · exact h_2098
    rcases List.mem_cons.mp hc with rfl | hc
    · exact h_2038
    rcases List.mem_cons.mp hc with rfl | hc
    · exact h_2000
    rcases List.mem_cons.mp hc with rfl | hc
    · exact h_2039
    cases hc
  have hP : ∀ p ∈ tJ_2126, ∃ hs, tc_plk (aP sa, tV_2126.2) p hs = true := by
    intro p hp
    have hp : p ∈ ([tL_2126_0] : List tc_Pl) := hp
    rcases List.mem_cons.mp hp with rfl | hp
    · exact ⟨_, (tc_plk_sa (aP_sa sa _)).trans ((fw_plk_s tHC_2126).trans tP_2126_0)⟩
    cases hp
  exact tc_main (mt := aM_437.1) (hs := tH_2126_0) (PL := tJ_2126) ⟨tp_G_ok, tMs_2126 _, hC, tr_L_ok, tp_G_re⟩ (show am_meth (aP sa) 437 = some aM_437.1 from rfl) aX_437 (by decide +kernel) hP ((tc_go_sa (aP_sa sa _)).trans ((fw_go_s tHC_2126).trans tR_2126))
noncomputable def tK_2127 : tc_Ct := (438, (1, 1), [(2, ([], 0), 0), (0, ([(0, 1)], 0), 0)], ([([(0, -1)], 2147483647), ([(0, 1)], 2147483648)], [(0, 0)], [], [], [], [], []), [(0, 1), (39, 0), (40, 0)], [((2, 1), ([([(0, -1)], 2147483647), ([(0, 1)], 2147483648), ([(1, -1)], 1), ([(1, 1)], 2)], [], [], [], [], [], []), some (0, ([(1, 1)], 0), 0), ([], 0), ([], 0))])
noncomputable def tL_2127_0 : tc_Pl := de_pl 0x30cdaff000002020101020000000000030cdaff0003000000000000000201010002000002000100010000000200033300000002020100020001030002030100020001010203000002410001000002350000000202010001000200000200000400280301021c010000045001020100020101000200010e010001040404
noncomputable def tJ_2127 : List tc_Pl := [tL_2127_0]
noncomputable def tC_2127 : List tc_Ct := [tK_2098, tK_2063]
def tM_2127 (z : Nat) : Option am_Meth := if z = 419 then some aM_419.1 else if z = 382 then some aM_382.1 else none
set_option maxRecDepth 100000 in
theorem tMs_2127 (sa : Nat → Nat) : ∀ z mz, tM_2127 z = some mz → am_meth (aP sa) z = some mz := by
  intro z mz h
  unfold tM_2127 at h
  rcases de_m h with ⟨rfl, rfl⟩ | h
  · exact (show am_meth (aP sa) 419 = some aM_419.1 from rfl)
  rcases de_m h with ⟨rfl, rfl⟩ | h
  · exact (show am_meth (aP sa) 382 = some aM_382.1 from rfl)
  cases h
noncomputable def tV_2127 : tc_Ev := (aQ, tp_T, tp_G.2, tp_Z, tM_2127, tC_2127, tr_L, tK_2127.2.2.2.2.1, aM_438.1, aW_438, tK_2127.2.1, tK_2127.2.2.2.2.2, tJ_2127)
theorem tE_2127 : tK_2127.2.2.2.2.2.all (tc_wex tK_2127.2.1.1 tK_2127.2.1.2) = true := by decide +kernel
theorem tSS_2127 : tC_2127.all (fun c => tw_mg tK_2127.2.2.2.2.1 c.2.2.2.2.1) = true := by decide +kernel
theorem tHC_2127 : ∀ c ∈ tC_2127, c.2.2.2.2.1.all tK_2127.2.2.2.2.1.contains = true ∧ c.2.2.2.2.2.all (tc_wex c.2.1.1 c.2.1.2) = true := tf_hc tSS_2127 (by
  intro c hc
  have hc : c ∈ ([tK_2098, tK_2063] : List tc_Ct) := hc
  rcases List.mem_cons.mp hc with rfl | hc
  · exact tE_2098
  rcases List.mem_cons.mp hc with rfl | hc
  · exact tE_2063
  cases hc)
noncomputable def tH_2127_0 : List tc_It := [de_it 0x4010000, de_it 0x101010101000101000000000000000000000000000000010a00020001010000020006, de_it 0x10104010100000300000001, de_it 0x2010000, de_it 0x100010101010101000101000000000000000000000000000100010c01000100010007, de_it 0x10000010501010300000001, de_it 0x2010000, de_it 0x2, de_it 0x2010000, de_it 0x2010011, de_it 0x105010202010103010102000200010100010002, de_it 0x1090101000000000300000001, de_it 0x2010000, de_it 0x2, de_it 0x4010000, de_it 0x2, de_it 0x10e0101010d0101010e010100010001000000000000000000000000000000000d000203010000020402020006, de_it 0x2010000, de_it 0x10114010100000300000001, de_it 0x2010000, de_it 0x2, de_it 0x4010000, de_it 0x2, de_it 0x6010011, de_it 0x1110101011201010116010202010103010104000200010100010003, de_it 0x4010000, de_it 0x111010100010103010101020101000000000000000000000000000100010c000202010002030100000306040200040008, de_it 0x2010000, de_it 0x114010100000119011402010300000001, de_it 0x2010000, de_it 0x100010103010101020101000000000000000000000000000100010c03000100010007, de_it 0x2010000, de_it 0x100010103010101020101000000000000000000000000000100010c01000100010007]
set_option maxRecDepth 100000 in
theorem tR_2127 : fw_go tV_2127 tK_2127.2.1.1 tK_2127.2.1.2 none tH_2127_0 [(tK_2127.2.1, tK_2127.2.2.2.1, 0, tc_args 0 tK_2127.2.2.1, [], ([], 0), ([], 0))] = true := by decide +kernel
noncomputable def tH_2127_1 : List tc_It := [de_it 0x4010000, de_it 0x2, de_it 0x300000001, de_it 0x4010000, de_it 0x10001000000000400000003, de_it 0x2010000, de_it 0x100010101010101000101000000000000000000000000000100010c02000100010007, de_it 0x2010000, de_it 0x2, de_it 0x4010000, de_it 0x28000101280101010200000001, de_it 0x2010000, de_it 0x1040103280003010102280102010200000001, de_it 0x2010000, de_it 0x2, de_it 0x2010000, de_it 0x4010011, de_it 0x1040105010303010102010102000201010100010002, de_it 0x8010011, de_it 0x10a0101010901010104010b010328000401010228010201040002015000020100010003, de_it 0x10401030201010201010200000001, de_it 0x2010000, de_it 0x10301010102010101010101010001010000000001040101000100000001000100010c0002030100020201020201010306040200040008]
set_option maxRecDepth 100000 in
theorem tP_2127_0 : fw_plk tV_2127 tL_2127_0 tH_2127_1 = true := by decide +kernel
set_option maxRecDepth 100000 in
theorem tT_2127 {RO : am_O} {sa : Nat → Nat} (h_2063 : tc_true (aP sa) tp_G RO tp_T tp_Z tK_2063) (h_2098 : tc_true (aP sa) tp_G RO tp_T tp_Z tK_2098) : tc_true (aP sa) tp_G RO tp_T tp_Z tK_2127 := by
  have hC : ∀ c ∈ tC_2127, tc_true (aP sa) tp_G RO tp_T tp_Z c := by
    intro c hc
    have hc : c ∈ ([tK_2098, tK_2063] : List tc_Ct) := hc
    rcases List.mem_cons.mp hc with rfl | hc
    · exact h_2098
    rcases List.mem_cons.mp hc with rfl | hc
    · exact h_2063
    cases hc
  have hP : ∀ p ∈ tJ_2127, ∃ hs, tc_plk (aP sa, tV_2127.2) p hs = true := by
    intro p hp
    have hp : p ∈ ([tL_2127_0] : List tc_Pl) := hp
    rcases List.mem_cons.mp hp with rfl | hp
    · exact ⟨_, (tc_plk_sa (aP_sa sa _)).trans ((fw_plk_s tHC_2127).trans tP_2127_0)⟩
    cases hp
  exact tc_main (mt := aM_438.1) (hs := tH_2127_0) (PL := tJ_2127) ⟨tp_G_ok, tMs_2127 _, hC, tr_L_ok, tp_G_re⟩ (show am_meth (aP sa) 438 = some aM_438.1 from rfl) aX_438 (by decide +kernel) hP ((tc_go_sa (aP_sa sa _)).trans ((fw_go_s tHC_2127).trans tR_2127))
noncomputable def tK_2128 : tc_Ct := (439, (2, 1), [(2, ([], 0), 0), (0, ([(0, 1)], 0), 0), (0, ([(1, 1)], 0), 0), (1, ([], 0), 0)], ([([(0, -1)], 2147483647), ([(0, 1)], 2147483648), ([(1, -1)], 2147483647), ([(1, 1)], 2147483648)], [(0, 0)], [], [], [], [], []), [(0, 1), (41, 0), (42, 0), (43, 0), (44, 0), (45, 0), (46, 0), (47, 0)], [((3, 1), ([([(0, -1)], 2147483647), ([(0, 1)], 2147483648), ([(1, -1)], 2147483647), ([(1, 1)], 2147483648), ([(2, -1)], 6), ([(2, 1)], 3)], [], [], [], [], [], []), some (0, ([(2, 1)], 0), 0), ([], 0), ([], 0))])
noncomputable def tL_2128_0 : tc_Pl := de_pl 0x30c1cff000a000000000000030c1cff000300000000000000000006000002020100050000020001000100000002000492000000000002020105000201010002020104000204010002020102000204010002030c0002020002030100020001010505000002470004000002460003000002450002000002440001000002420000000000010006002e052d042c032b022901000006000203010a010301000202015e0102010002010102010101000200010e010001080605
noncomputable def tL_2128_1 : tc_Pl := de_pl 0x30c1cff0008000000000000030c1cff00030000000000000200000600000202010005000002000100010000000200049200000000000a02010600000002020105000201010002020104000204010002020102000204010002030c0002020002030100020001010606000002480005000002470004000002460003000002450002000002440001000002420000000000010007002f062e052d042c032b022901000007000203010a010301000202015e0102010002010102010101000200010e010001080705
noncomputable def tL_2128_2 : tc_Pl := de_pl 0x30c1cff0006000000000000030c1cff00030000000000000400000600000202010005000002000100010000000200049200000000020a0201060000000a02010600000002020105000201010002020104000204010002020102000204010002030c0002020002030100020001010706000002480005000002470004000002460003000002450002000002440001000002420000000000010007002f062e052d042c032b022901000007000203010a010301000202015e0102010002010102010101000200010e010001080705
noncomputable def tL_2128_3 : tc_Pl := de_pl 0x30c1cff0004000000000000030c1cff00030000000000000600000600000202010005000002000100010000000200049200000000040a0201060000020a0201060000000a02010600000002020105000201010002020104000204010002020102000204010002030c0002020002030100020001010806000002480005000002470004000002460003000002450002000002440001000002420000000000010007002f062e052d042c032b022901000007000203010a010301000202015e0102010002010102010101000200010e010001080705
noncomputable def tL_2128_4 : tc_Pl := de_pl 0x30c1cff0002000000000000030c1cff00030000000000000800000600000202010005000002000100010000000200049200000000060a0201060000040a0201060000020a0201060000000a02010600000002020105000201010002020104000204010002020102000204010002030c0002020002030100020001010906000002480005000002470004000002460003000002450002000002440001000002420000000000010007002f062e052d042c032b022901000007000203010a010301000202015e0102010002010102010101000200010e010001080705
noncomputable def tL_2128_5 : tc_Pl := de_pl 0x30c1cff0000000000000000030c1cff00030000000000000a00000600000202010005000002000100010000000200049200000000080a0201060000040a0201060000020a0201060000000a02010600000002020105000201010002020104000204010002020102000204010002030c0002020002030100020001010906000002480005000002470004000002460003000002450002000002440001000002420000000000010007002f062e052d042c032b022901000007000203010a0103010002010102010101000200010e010001060705
noncomputable def tL_2128_6 : tc_Pl := de_pl 0x30ca2ff000002040103020000000000030ca2ff000300000000000000020301000600000202010005000000010300000201010002000002000100010000000200064f0000000204010002020102000204010002050c00020200020501000200010103020000024400010000024200000002040100010003002b022901000003000205010a0105012001040100020301000202015e0102010002010102010101000200010e0100010a0306
noncomputable def tJ_2128 : List tc_Pl := [tL_2128_0, tL_2128_1, tL_2128_2, tL_2128_3, tL_2128_4, tL_2128_5, tL_2128_6]
noncomputable def tC_2128 : List tc_Ct := [tK_2098, tK_2000]
def tM_2128 (z : Nat) : Option am_Meth := if z = 419 then some aM_419.1 else if z = 321 then some aM_321.1 else none
set_option maxRecDepth 100000 in
theorem tMs_2128 (sa : Nat → Nat) : ∀ z mz, tM_2128 z = some mz → am_meth (aP sa) z = some mz := by
  intro z mz h
  unfold tM_2128 at h
  rcases de_m h with ⟨rfl, rfl⟩ | h
  · exact (show am_meth (aP sa) 419 = some aM_419.1 from rfl)
  rcases de_m h with ⟨rfl, rfl⟩ | h
  · exact (show am_meth (aP sa) 321 = some aM_321.1 from rfl)
  cases h
noncomputable def tV_2128 : tc_Ev := (aQ, tp_T, tp_G.2, tp_Z, tM_2128, tC_2128, tr_L, tK_2128.2.2.2.2.1, aM_439.1, aW_439, tK_2128.2.1, tK_2128.2.2.2.2.2, tJ_2128)
theorem tE_2128 : tK_2128.2.2.2.2.2.all (tc_wex tK_2128.2.1.1 tK_2128.2.1.2) = true := by decide +kernel
theorem tSS_2128 : tC_2128.all (fun c => tw_mg tK_2128.2.2.2.2.1 c.2.2.2.2.1) = true := by decide +kernel
theorem tHC_2128 : ∀ c ∈ tC_2128, c.2.2.2.2.1.all tK_2128.2.2.2.2.1.contains = true ∧ c.2.2.2.2.2.all (tc_wex c.2.1.1 c.2.1.2) = true := tf_hc tSS_2128 (by
  intro c hc
  have hc : c ∈ ([tK_2098, tK_2000] : List tc_Ct) := hc
  rcases List.mem_cons.mp hc with rfl | hc
  · exact tE_2098
  rcases List.mem_cons.mp hc with rfl | hc
  · exact tE_2000
  cases hc)
noncomputable def tH_2128_0 : List tc_It := [de_it 0x4010000, de_it 0x101010101000101000000000000000000000000000000010a00020001010000020006, de_it 0x10106010100000300000001, de_it 0x2010000, de_it 0x1000101030101010201010101010101000101000000000000000000000000000100010e01000100010007, de_it 0x10000010701010300000001, de_it 0x8010000, de_it 0x10001000100010103010101020101000000000000000000000000000000000e02000000000201010302010006, de_it 0x10000010d01010300000001, de_it 0x2010000, de_it 0x1000101030101010201010105010101040101000000000000000000000000000100010e01000100010007, de_it 0x10110010100000300000001, de_it 0x2010000, de_it 0x2, de_it 0x6010000, de_it 0x10001000100010110010101110101000000000000000000000000000000000e20000200000202010302010006, de_it 0x10000011801010300000001, de_it 0x2010000, de_it 0x10001010e0101010d01010105010101040101000000000000000000000000000100010e03000100010007, de_it 0x1011b010100000300000001, de_it 0x2010000, de_it 0x2, de_it 0x2010000, de_it 0x2010011, de_it 0x11b010402010105010102000200010100010002, de_it 0x2010000, de_it 0x1200101000000000300000001, de_it 0x4010000, de_it 0x6040101060501010200000001, de_it 0x2010000, de_it 0x2, de_it 0x2010000, de_it 0x11b01040201010501010200000002, de_it 0x12106040201011f060502010200000001, de_it 0x4010000, de_it 0x2, de_it 0x4010000, de_it 0x2, de_it 0x4010011, de_it 0x1180101011901010122012106040301011f06050201040002040c00020100010003, de_it 0x4010000, de_it 0x11f010101210101011801010001011f06050201012106040201010e0101010d010101050101010401010000000000000000000000000001000112000204010002020100000002040c00020404020c030008, de_it 0x2010000, de_it 0x10001010e0101010d01010105010101040101000000000000000000000000000100010e05000100010007]
set_option maxRecDepth 100000 in
theorem tR_2128 : fw_go tV_2128 tK_2128.2.1.1 tK_2128.2.1.2 none tH_2128_0 [(tK_2128.2.1, tK_2128.2.2.2.1, 0, tc_args 0 tK_2128.2.2.1, [], ([], 0), ([], 0))] = true := by decide +kernel
noncomputable def tH_2128_1 : List tc_It := [de_it 0x4010000, de_it 0x10801010300000001, de_it 0x2010000, de_it 0x2, de_it 0x4010000, de_it 0x5040101050501010200000001, de_it 0x2010000, de_it 0x5040101050501010200000001, de_it 0x2010000, de_it 0xc010011, de_it 0x100010109050402010505010104000202010100010003, de_it 0x4010000, de_it 0x1070101010601010105010101040101010301010102010101010101010001010000000000010001000000010001000110000204010002030100020201030c0a0806040202070008]
set_option maxRecDepth 100000 in
theorem tP_2128_0 : fw_plk tV_2128 tL_2128_0 tH_2128_1 = true := by decide +kernel
noncomputable def tH_2128_2 : List tc_It := [de_it 0x4010000, de_it 0x10801010300000001, de_it 0x2010000, de_it 0x2, de_it 0x4010000, de_it 0x5040101050501010200000001, de_it 0x2010000, de_it 0x5040101050501010200000001, de_it 0x2010000, de_it 0xc010011, de_it 0x100010109050402010505010104000202010102010003, de_it 0x4010000, de_it 0x1070101010601010105010101040101010301010102010101010101010001010000000000010001000000010001000110000204010002030100020201030c0a0806040204070008]
set_option maxRecDepth 100000 in
theorem tP_2128_1 : fw_plk tV_2128 tL_2128_1 tH_2128_2 = true := by decide +kernel
noncomputable def tH_2128_3 : List tc_It := [de_it 0x4010000, de_it 0x10801010300000001, de_it 0x2010000, de_it 0x2, de_it 0x4010000, de_it 0x5040101050501010200000001, de_it 0x2010000, de_it 0x5040101050501010200000001, de_it 0x2010000, de_it 0xc010011, de_it 0x100010109050402010505010104000202010104010003, de_it 0x4010000, de_it 0x1070101010601010105010101040101010301010102010101010101010001010000000000010001000000010001000110000204010002030100020201030c0a0806040206070008]
set_option maxRecDepth 100000 in
theorem tP_2128_2 : fw_plk tV_2128 tL_2128_2 tH_2128_3 = true := by decide +kernel
noncomputable def tH_2128_4 : List tc_It := [de_it 0x4010000, de_it 0x10801010300000001, de_it 0x2010000, de_it 0x2, de_it 0x4010000, de_it 0x5040101050501010200000001, de_it 0x2010000, de_it 0x5040101050501010200000001, de_it 0x2010000, de_it 0xc010011, de_it 0x100010109050402010505010104000202010106010003, de_it 0x4010000, de_it 0x1070101010601010105010101040101010301010102010101010101010001010000000000010001000000010001000110000204010002030100020201030c0a0806040208070008]
set_option maxRecDepth 100000 in
theorem tP_2128_3 : fw_plk tV_2128 tL_2128_3 tH_2128_4 = true := by decide +kernel
noncomputable def tH_2128_5 : List tc_It := [de_it 0x4010000, de_it 0x10801010300000001, de_it 0x2010000, de_it 0x2, de_it 0x4010000, de_it 0x5040101050501010200000001, de_it 0x2010000, de_it 0x5040101050501010200000001, de_it 0x2010000, de_it 0xc010011, de_it 0x100010109050402010505010104000202010108010003, de_it 0x4010000, de_it 0x10701010106010101030101010201010101010101000101000000000001000100000001000100010e000204010002030100020201030c0a080604020a070008]
set_option maxRecDepth 100000 in
theorem tP_2128_4 : fw_plk tV_2128 tL_2128_4 tH_2128_5 = true := by decide +kernel
noncomputable def tH_2128_6 : List tc_It := [de_it 0x4010000, de_it 0x106010100000300000001, de_it 0x2010000, de_it 0x2, de_it 0x4010000, de_it 0x2010011, de_it 0x10701000201010101010200000002, de_it 0x2010000, de_it 0x1040101010501010200000001, de_it 0x1040101010501010107010002010101010104000200010100010003, de_it 0x2010000, de_it 0x2, de_it 0x2010000, de_it 0x10701000201010101010200000002, de_it 0x10501010104010101030101010201010101010101000101000000000000000000000000000100010e020203010100010007]
set_option maxRecDepth 100000 in
theorem tP_2128_5 : fw_plk tV_2128 tL_2128_5 tH_2128_6 = true := by decide +kernel
noncomputable def tH_2128_7 : List tc_It := [de_it 0x4010000, de_it 0x2, de_it 0x300000001, de_it 0x4010000, de_it 0x10001000000000400000003, de_it 0x2010000, de_it 0x2, de_it 0x4010000, de_it 0x6010011, de_it 0x10b01040201010501010200000003, de_it 0x2010000, de_it 0x2, de_it 0x4010000, de_it 0x8010011, de_it 0x102010101030101010d010402010105010104000202010100010003, de_it 0x2010000, de_it 0x2, de_it 0x4010000, de_it 0xa010011, de_it 0x10001010f01040201010501010400000003, de_it 0x4010000, de_it 0x1090101010801010105010101040101010301010102010101010101010001010000000000000000000100010001000110000204010002050100020201030a0806040200060008, de_it 0x2010000, de_it 0x2, de_it 0x4010000, de_it 0x10040101100501010200000001, de_it 0x2010000, de_it 0x10a0107100403010106100502010200000001, de_it 0x2010000, de_it 0x2, de_it 0x2010000, de_it 0x8010011, de_it 0x10a010b010703010106010102000203010100010002, de_it 0x6010011, de_it 0x1100101010f0101010a0111010710040401010610050201040002032002020100010003, de_it 0x10a01070201010601010200000001, de_it 0x2010000, de_it 0x109010101080101010701010106010101050101010401010103010101020101010101010100010100000000010a01010001000000010001000112000205010002040102020301000202010404020c030008]
set_option maxRecDepth 100000 in
theorem tP_2128_6 : fw_plk tV_2128 tL_2128_6 tH_2128_7 = true := by decide +kernel
set_option maxRecDepth 100000 in
theorem tT_2128 {RO : am_O} {sa : Nat → Nat} (h_2000 : tc_true (aP sa) tp_G RO tp_T tp_Z tK_2000) (h_2098 : tc_true (aP sa) tp_G RO tp_T tp_Z tK_2098) : tc_true (aP sa) tp_G RO tp_T tp_Z tK_2128 := by
  have hC : ∀ c ∈ tC_2128, tc_true (aP sa) tp_G RO tp_T tp_Z c := by
    intro c hc
    have hc : c ∈ ([tK_2098, tK_2000] : List tc_Ct) := hc
    rcases List.mem_cons.mp hc with rfl | hc
    · exact h_2098
    rcases List.mem_cons.mp hc with rfl | hc
    · exact h_2000
    cases hc
  have hP : ∀ p ∈ tJ_2128, ∃ hs, tc_plk (aP sa, tV_2128.2) p hs = true := by
    intro p hp
    have hp : p ∈ ([tL_2128_0, tL_2128_1, tL_2128_2, tL_2128_3, tL_2128_4, tL_2128_5, tL_2128_6] : List tc_Pl) := hp
    rcases List.mem_cons.mp hp with rfl | hp
    · exact ⟨_, (tc_plk_sa (aP_sa sa _)).trans ((fw_plk_s tHC_2128).trans tP_2128_0)⟩
    rcases List.mem_cons.mp hp with rfl | hp
    · exact ⟨_, (tc_plk_sa (aP_sa sa _)).trans ((fw_plk_s tHC_2128).trans tP_2128_1)⟩
    rcases List.mem_cons.mp hp with rfl | hp
    · exact ⟨_, (tc_plk_sa (aP_sa sa _)).trans ((fw_plk_s tHC_2128).trans tP_2128_2)⟩
    rcases List.mem_cons.mp hp with rfl | hp
    · exact ⟨_, (tc_plk_sa (aP_sa sa _)).trans ((fw_plk_s tHC_2128).trans tP_2128_3)⟩
    rcases List.mem_cons.mp hp with rfl | hp
    · exact ⟨_, (tc_plk_sa (aP_sa sa _)).trans ((fw_plk_s tHC_2128).trans tP_2128_4)⟩
    rcases List.mem_cons.mp hp with rfl | hp
    · exact ⟨_, (tc_plk_sa (aP_sa sa _)).trans ((fw_plk_s tHC_2128).trans tP_2128_5)⟩
    rcases List.mem_cons.mp hp with rfl | hp
    · exact ⟨_, (tc_plk_sa (aP_sa sa _)).trans ((fw_plk_s tHC_2128).trans tP_2128_6)⟩
    cases hp
  exact tc_main (mt := aM_439.1) (hs := tH_2128_0) (PL := tJ_2128) ⟨tp_G_ok, tMs_2128 _, hC, tr_L_ok, tp_G_re⟩ (show am_meth (aP sa) 439 = some aM_439.1 from rfl) aX_439 (by decide +kernel) hP ((tc_go_sa (aP_sa sa _)).trans ((fw_go_s tHC_2128).trans tR_2128))
