/-! contracts -/
noncomputable def tK_2000 : tc_Ct := (321, (3, 0), [(4, ([(0, 1)], 0), 0), (4, ([(1, 1)], 0), 0), (4, ([(2, 1)], 0), 0)], ([([(0, -1)], 4294967295), ([(0, 1)], 4294967295), ([(1, -1)], 2147483647), ([(1, 1)], 2147483648), ([(2, -1)], 2147483647), ([(2, 1)], 2147483648)], [], [], [], [], [], []), [], [((3, 0), ([([(0, -1)], 4294967295), ([(0, 1)], 4294967295), ([(1, -1)], 2147483647), ([(1, 1)], 2147483648), ([(2, -1)], 2147483647), ([(2, 1)], 2147483648)], [], [], [], [], [], []), some (0, ([], 0), 0), ([], 0), ([], 0)), ((3, 0), ([([(0, -1)], 2147483647), ([(0, 1)], 2147483648), ([(1, -1)], 2147483647), ([(1, 1)], 2147483648), ([(2, -1)], 2147483647), ([(2, 1)], 2147483648), ([(0, -1), (2, 1)], 0), ([(0, 1), (1, -1)], 0)], [], [], [], [], [], []), some (0, ([], 1), 0), ([], 0), ([], 0))])
noncomputable def tJ_2000 : List tc_Pl := []
noncomputable def tC_2000 : List tc_Ct := []
def tM_2000 (z : Nat) : Option am_Meth := none
set_option maxRecDepth 100000 in
theorem tMs_2000 (sa : Nat → Nat) : ∀ z mz, tM_2000 z = some mz → am_meth (aP sa) z = some mz := fun z mz h => by cases h
noncomputable def tV_2000 : tc_Ev := (aQ, tp_T, tp_G.2, tp_Z, tM_2000, tC_2000, tr_L, tK_2000.2.2.2.2.1, aM_321.1, aW_321, tK_2000.2.1, tK_2000.2.2.2.2.2, tJ_2000)
theorem tE_2000 : tK_2000.2.2.2.2.2.all (tc_wex tK_2000.2.1.1 tK_2000.2.1.2) = true := by decide +kernel
theorem tSS_2000 : tC_2000.all (fun c => tw_mg tK_2000.2.2.2.2.1 c.2.2.2.2.1) = true := by decide +kernel
theorem tHC_2000 : ∀ c ∈ tC_2000, c.2.2.2.2.1.all tK_2000.2.2.2.2.1.contains = true ∧ c.2.2.2.2.2.all (tc_wex c.2.1.1 c.2.1.2) = true := tf_hc tSS_2000 (by
  intro c hc
  have hc : c ∈ ([] : List tc_Ct) := hc
  cases hc)
noncomputable def tH_2000_0 : List tc_It := [de_it 0x6010000, de_it 0x300000001, de_it 0x2010000, de_it 0x105010101040101010301010102010101010101010601020201000000000000000000010001000100010e0000010007, de_it 0x6010000, de_it 0x300000001, de_it 0x2010000, de_it 0x105010101040101010301010102010101050107020101000101000000000000000000010001000100010e0000010007, de_it 0x4010000, de_it 0x1060101010701010105010101040101010301010102010101030106020101070104020100000000000000000001000100010001100002010007]
set_option maxRecDepth 100000 in
theorem tR_2000 : fw_go tV_2000 tK_2000.2.1.1 tK_2000.2.1.2 none tH_2000_0 [(tK_2000.2.1, tK_2000.2.2.2.1, 0, tc_args 0 tK_2000.2.2.1, [], ([], 0), ([], 0))] = true := by decide +kernel
set_option maxRecDepth 100000 in
theorem tT_2000 {RO : am_O} {sa : Nat → Nat} : tc_true (aP sa) tp_G RO tp_T tp_Z tK_2000 := by
  have hC : ∀ c ∈ tC_2000, tc_true (aP sa) tp_G RO tp_T tp_Z c := by
    intro c hc
    have hc : c ∈ ([] : List tc_Ct) := hc
    cases hc
  have hP : ∀ p ∈ tJ_2000, ∃ hs, tc_plk (aP sa, tV_2000.2) p hs = true := by
    intro p hp
    have hp : p ∈ ([] : List tc_Pl) := hp
    cases hp
  exact tc_main (mt := aM_321.1) (hs := tH_2000_0) (PL := tJ_2000) ⟨tp_G_ok, tMs_2000 _, hC, tr_L_ok, tp_G_re⟩ (show am_meth (aP sa) 321 = some aM_321.1 from rfl) aX_321 (by decide +kernel) hP ((tc_go_sa (aP_sa sa _)).trans ((fw_go_s tHC_2000).trans tR_2000))
noncomputable def tK_2001 : tc_Ct := (320, (1, 1), [(2, ([], 0), 0), (0, ([(0, 1)], 0), 0), (1, ([], 0), 0)], ([([(0, -1)], 2147483647), ([(0, 1)], 2147483648)], [(0, 0)], [], [], [], [], []), [(0, 1), (1, 0)], [((2, 1), ([([(0, -1)], 2147483647), ([(0, 1)], 2147483648), ([(1, -1)], 800), ([(1, 1)], 3)], [], [], [], [], [], []), some (0, ([(1, 1)], 0), 0), ([], 0), ([], 0))])
noncomputable def tL_2001_0 : tc_Pl := de_pl 0x30cfcff00020201010000000000030cfcff000300000000000000020101000400000001020000000200032200000000000202010001000100000001000202020102000000000000063eff0102010102000202010000000000000640ff0102010e0101010102000110010001070103
noncomputable def tJ_2001 : List tc_Pl := [tL_2001_0]
noncomputable def tC_2001 : List tc_Ct := [tK_2000]
def tM_2001 (z : Nat) : Option am_Meth := if z = 321 then some aM_321.1 else none
set_option maxRecDepth 100000 in
theorem tMs_2001 (sa : Nat → Nat) : ∀ z mz, tM_2001 z = some mz → am_meth (aP sa) z = some mz := by
  intro z mz h
  unfold tM_2001 at h
  rcases de_m h with ⟨rfl, rfl⟩ | h
  · exact (show am_meth (aP sa) 321 = some aM_321.1 from rfl)
  cases h
noncomputable def tV_2001 : tc_Ev := (aQ, tp_T, tp_G.2, tp_Z, tM_2001, tC_2001, tr_L, tK_2001.2.2.2.2.1, aM_320.1, aW_320, tK_2001.2.1, tK_2001.2.2.2.2.2, tJ_2001)
theorem tE_2001 : tK_2001.2.2.2.2.2.all (tc_wex tK_2001.2.1.1 tK_2001.2.1.2) = true := by decide +kernel
theorem tSS_2001 : tC_2001.all (fun c => tw_mg tK_2001.2.2.2.2.1 c.2.2.2.2.1) = true := by decide +kernel
theorem tHC_2001 : ∀ c ∈ tC_2001, c.2.2.2.2.1.all tK_2001.2.2.2.2.1.contains = true ∧ c.2.2.2.2.2.all (tc_wex c.2.1.1 c.2.1.2) = true := tf_hc tSS_2001 (by
  intro c hc
  have hc : c ∈ ([tK_2000] : List tc_Ct) := hc
  rcases List.mem_cons.mp hc with rfl | hc
  · exact tE_2000
  cases hc)
noncomputable def tH_2001_0 : List tc_It := [de_it 0x8010000, de_it 0x10001000100010101010101000101000000000000000000000000000000000e10000200000200010300010006, de_it 0x10000010801010300000001, de_it 0x2010000, de_it 0x100010101010101000101000000000000000000000000000100010c01000100010007, de_it 0x1010b010100000300000001, de_it 0x2010000, de_it 0x2, de_it 0x2010000, de_it 0x10c01080201010b010902010200000001, de_it 0x2010000, de_it 0x300000001, de_it 0x4010000, de_it 0x1080101010901010200000001, de_it 0x2010000, de_it 0x10b01090201010d0101010b01010109010d0201010801010109010101080101000000000000000000000000000100010f00020101010200010200010008, de_it 0x2010000, de_it 0x100010109010101080101000000000000000000000000000100010c05000100010007]
set_option maxRecDepth 100000 in
theorem tR_2001 : fw_go tV_2001 tK_2001.2.1.1 tK_2001.2.1.2 none tH_2001_0 [(tK_2001.2.1, tK_2001.2.2.2.1, 0, tc_args 0 tK_2001.2.2.1, [], ([], 0), ([], 0))] = true := by decide +kernel
noncomputable def tH_2001_1 : List tc_It := [de_it 0x2010000, de_it 0x300000001, de_it 0x2010000, de_it 0x2, de_it 0x10601070201010301010101010101000101000000000000000000000000000100010c000202010100010007, de_it 0x2010000, de_it 0x2, de_it 0x2010000, de_it 0x2, de_it 0x6010000, de_it 0x8020101080701010200000001, de_it 0x2010000, de_it 0x101, de_it 0x4010000, de_it 0x2010011, de_it 0x10b0101010a01010107010c010503010104010104000202010100010003, de_it 0x4010000, de_it 0x2, de_it 0x2010000, de_it 0x10701050201010401010200000001, de_it 0x1070105020101040101000000000400000003, de_it 0x1020101010701010200000001, de_it 0x2010000, de_it 0x106010101050101010401010107010502010102010101010101010001010000000001070101000100000001000100010f02020201010201010200010008]
set_option maxRecDepth 100000 in
theorem tP_2001_0 : fw_plk tV_2001 tL_2001_0 tH_2001_1 = true := by decide +kernel
set_option maxRecDepth 100000 in
theorem tT_2001 {RO : am_O} {sa : Nat → Nat} (h_2000 : tc_true (aP sa) tp_G RO tp_T tp_Z tK_2000) : tc_true (aP sa) tp_G RO tp_T tp_Z tK_2001 := by
  have hC : ∀ c ∈ tC_2001, tc_true (aP sa) tp_G RO tp_T tp_Z c := by
    intro c hc
    have hc : c ∈ ([tK_2000] : List tc_Ct) := hc
    rcases List.mem_cons.mp hc with rfl | hc
    · exact h_2000
    cases hc
  have hP : ∀ p ∈ tJ_2001, ∃ hs, tc_plk (aP sa, tV_2001.2) p hs = true := by
    intro p hp
    have hp : p ∈ ([tL_2001_0] : List tc_Pl) := hp
    rcases List.mem_cons.mp hp with rfl | hp
    · exact ⟨_, (tc_plk_sa (aP_sa sa _)).trans ((fw_plk_s tHC_2001).trans tP_2001_0)⟩
    cases hp
  exact tc_main (mt := aM_320.1) (hs := tH_2001_0) (PL := tJ_2001) ⟨tp_G_ok, tMs_2001 _, hC, tr_L_ok, tp_G_re⟩ (show am_meth (aP sa) 320 = some aM_320.1 from rfl) aX_320 (by decide +kernel) hP ((tc_go_sa (aP_sa sa _)).trans ((fw_go_s tHC_2001).trans tR_2001))
noncomputable def tK_2002 : tc_Ct := (322, (1, 1), [(2, ([], 0), 0), (0, ([(0, 1)], 0), 0)], ([([(0, -1)], 2147483647), ([(0, 1)], 2147483648)], [(0, 0)], [], [], [], [], []), [(0, 1)], [((3, 1), ([([(0, -1)], 2147483647), ([(0, 1)], 2147483648), ([(1, -1)], 800), ([(1, 1)], 1), ([(2, -1)], 800), ([(2, 1)], 0), ([(1, -1), (2, -1)], 800)], [], [], [(0, 1, (0, ([(2, 1)], 0), 0))], [], [], []), some (0, ([(1, 1)], 0), 0), ([], 0), ([], 0))])
noncomputable def tJ_2002 : List tc_Pl := []
noncomputable def tC_2002 : List tc_Ct := [tK_2000]
def tM_2002 (z : Nat) : Option am_Meth := if z = 321 then some aM_321.1 else none
set_option maxRecDepth 100000 in
theorem tMs_2002 (sa : Nat → Nat) : ∀ z mz, tM_2002 z = some mz → am_meth (aP sa) z = some mz := by
  intro z mz h
  unfold tM_2002 at h
  rcases de_m h with ⟨rfl, rfl⟩ | h
  · exact (show am_meth (aP sa) 321 = some aM_321.1 from rfl)
  cases h
noncomputable def tV_2002 : tc_Ev := (aQ, tp_T, tp_G.2, tp_Z, tM_2002, tC_2002, tr_L, tK_2002.2.2.2.2.1, aM_322.1, aW_322, tK_2002.2.1, tK_2002.2.2.2.2.2, tJ_2002)
theorem tE_2002 : tK_2002.2.2.2.2.2.all (tc_wex tK_2002.2.1.1 tK_2002.2.1.2) = true := by decide +kernel
theorem tSS_2002 : tC_2002.all (fun c => tw_mg tK_2002.2.2.2.2.1 c.2.2.2.2.1) = true := by decide +kernel
theorem tHC_2002 : ∀ c ∈ tC_2002, c.2.2.2.2.1.all tK_2002.2.2.2.2.1.contains = true ∧ c.2.2.2.2.2.all (tc_wex c.2.1.1 c.2.1.2) = true := tf_hc tSS_2002 (by
  intro c hc
  have hc : c ∈ ([tK_2000] : List tc_Ct) := hc
  rcases List.mem_cons.mp hc with rfl | hc
  · exact tE_2000
  cases hc)
noncomputable def tH_2002_0 : List tc_It := [de_it 0x8010000, de_it 0x2, de_it 0x2010000, de_it 0x102010101030101000100010101010101000101000000000000000000000000000000000e000201010000000200010300010006, de_it 0x10000010a01010300000001, de_it 0x2010000, de_it 0x10301010102010101030101000100010101010101000101000000000000000000000000000100010f0002010101000200010007, de_it 0x1010d010100000300000001, de_it 0x2010000, de_it 0x2, de_it 0x2010000, de_it 0x103010b0201010a01010200000001, de_it 0x6010000, de_it 0x10a01030201010b0101000000000400000003, de_it 0x2010000, de_it 0x1030101010b0101010a01030201010a01010103010b0201010b0101010a01030201000000000000000000000000000100010f000200010002010100020200010007]
set_option maxRecDepth 100000 in
theorem tR_2002 : fw_go tV_2002 tK_2002.2.1.1 tK_2002.2.1.2 none tH_2002_0 [(tK_2002.2.1, tK_2002.2.2.2.1, 0, tc_args 0 tK_2002.2.2.1, [], ([], 0), ([], 0))] = true := by decide +kernel
set_option maxRecDepth 100000 in
theorem tT_2002 {RO : am_O} {sa : Nat → Nat} (h_2000 : tc_true (aP sa) tp_G RO tp_T tp_Z tK_2000) : tc_true (aP sa) tp_G RO tp_T tp_Z tK_2002 := by
  have hC : ∀ c ∈ tC_2002, tc_true (aP sa) tp_G RO tp_T tp_Z c := by
    intro c hc
    have hc : c ∈ ([tK_2000] : List tc_Ct) := hc
    rcases List.mem_cons.mp hc with rfl | hc
    · exact h_2000
    cases hc
  have hP : ∀ p ∈ tJ_2002, ∃ hs, tc_plk (aP sa, tV_2002.2) p hs = true := by
    intro p hp
    have hp : p ∈ ([] : List tc_Pl) := hp
    cases hp
  exact tc_main (mt := aM_322.1) (hs := tH_2002_0) (PL := tJ_2002) ⟨tp_G_ok, tMs_2002 _, hC, tr_L_ok, tp_G_re⟩ (show am_meth (aP sa) 322 = some aM_322.1 from rfl) aX_322 (by decide +kernel) hP ((tc_go_sa (aP_sa sa _)).trans ((fw_go_s tHC_2002).trans tR_2002))
noncomputable def tK_2003 : tc_Ct := (323, (1, 1), [(2, ([], 0), 0), (0, ([(0, 1)], 0), 0)], ([([(0, -1)], 2147483647), ([(0, 1)], 2147483648)], [(0, 0)], [], [], [], [], []), [], [((2, 1), ([([(0, -1)], 2147483647), ([(0, 1)], 2147483648), ([(1, -1)], 820), ([(1, 1)], 1)], [], [], [], [], [], []), some (0, ([(1, 1)], 0), 0), ([], 0), ([], 0))])
noncomputable def tJ_2003 : List tc_Pl := []
noncomputable def tC_2003 : List tc_Ct := [tK_2000]
def tM_2003 (z : Nat) : Option am_Meth := if z = 321 then some aM_321.1 else none
set_option maxRecDepth 100000 in
theorem tMs_2003 (sa : Nat → Nat) : ∀ z mz, tM_2003 z = some mz → am_meth (aP sa) z = some mz := by
  intro z mz h
  unfold tM_2003 at h
  rcases de_m h with ⟨rfl, rfl⟩ | h
  · exact (show am_meth (aP sa) 321 = some aM_321.1 from rfl)
  cases h
noncomputable def tV_2003 : tc_Ev := (aQ, tp_T, tp_G.2, tp_Z, tM_2003, tC_2003, tr_L, tK_2003.2.2.2.2.1, aM_323.1, aW_323, tK_2003.2.1, tK_2003.2.2.2.2.2, tJ_2003)
theorem tE_2003 : tK_2003.2.2.2.2.2.all (tc_wex tK_2003.2.1.1 tK_2003.2.1.2) = true := by decide +kernel
theorem tSS_2003 : tC_2003.all (fun c => tw_mg tK_2003.2.2.2.2.1 c.2.2.2.2.1) = true := by decide +kernel
theorem tHC_2003 : ∀ c ∈ tC_2003, c.2.2.2.2.1.all tK_2003.2.2.2.2.1.contains = true ∧ c.2.2.2.2.2.all (tc_wex c.2.1.1 c.2.1.2) = true := tf_hc tSS_2003 (by
  intro c hc
  have hc : c ∈ ([tK_2000] : List tc_Ct) := hc
  rcases List.mem_cons.mp hc with rfl | hc
  · exact tE_2000
  cases hc)
noncomputable def tH_2003_0 : List tc_It := [de_it 0x4010000, de_it 0x300000001, de_it 0x8010000, de_it 0x2, de_it 0x2010000, de_it 0x1030101010201010200000001, de_it 0x2010000, de_it 0x102010101030101000100010101010101000101000000000000000000000000000000000e010201010000000200010300010006, de_it 0x1010a010100000300000001, de_it 0x2010000, de_it 0x100010101010101000101000000000000000000000000000100010c01000100010007, de_it 0x10000010d01010300000001, de_it 0x2010000, de_it 0x2, de_it 0x2010000, de_it 0x2010011, de_it 0x10a010d01030301010b010102000200010100010002, de_it 0x2010000, de_it 0x111010101120101010b0101010a01030201000000000000000000000000000100010c000203010100010007, de_it 0x2010000, de_it 0x2, de_it 0x2010000, de_it 0x1040101010501010102010101030101000000000000000000000000000100010c000201010100010007]
set_option maxRecDepth 100000 in
theorem tR_2003 : fw_go tV_2003 tK_2003.2.1.1 tK_2003.2.1.2 none tH_2003_0 [(tK_2003.2.1, tK_2003.2.2.2.1, 0, tc_args 0 tK_2003.2.2.1, [], ([], 0), ([], 0))] = true := by decide +kernel
set_option maxRecDepth 100000 in
theorem tT_2003 {RO : am_O} {sa : Nat → Nat} (h_2000 : tc_true (aP sa) tp_G RO tp_T tp_Z tK_2000) : tc_true (aP sa) tp_G RO tp_T tp_Z tK_2003 := by
  have hC : ∀ c ∈ tC_2003, tc_true (aP sa) tp_G RO tp_T tp_Z c := by
    intro c hc
    have hc : c ∈ ([tK_2000] : List tc_Ct) := hc
    rcases List.mem_cons.mp hc with rfl | hc
    · exact h_2000
    cases hc
  have hP : ∀ p ∈ tJ_2003, ∃ hs, tc_plk (aP sa, tV_2003.2) p hs = true := by
    intro p hp
    have hp : p ∈ ([] : List tc_Pl) := hp
    cases hp
  exact tc_main (mt := aM_323.1) (hs := tH_2003_0) (PL := tJ_2003) ⟨tp_G_ok, tMs_2003 _, hC, tr_L_ok, tp_G_re⟩ (show am_meth (aP sa) 323 = some aM_323.1 from rfl) aX_323 (by decide +kernel) hP ((tc_go_sa (aP_sa sa _)).trans ((fw_go_s tHC_2003).trans tR_2003))
noncomputable def tK_2004 : tc_Ct := (324, (0, 1), [(2, ([], 0), 0)], ([], [(0, 0)], [], [], [], [], []), [(0, 1), (1, 0)], [((2, 1), ([([(0, -1)], 800), ([(0, 1)], 3), ([(1, -1)], 800), ([(1, 1)], 0), ([(0, -1), (1, 1)], 0)], [], [], [(0, 1, (0, ([(1, 1)], 0), 0))], [], [], []), some (0, ([(0, 1)], 0), 0), ([], 0), ([], 0))])
noncomputable def tL_2004_0 : tc_Pl := de_pl 0x30d18ff000002020100020000000000030d18ff0003000000000000000200010001000000020002140000000000020201000300000002010100010002000000010000000000000640ff0102010102000202010002010100020001040103
noncomputable def tJ_2004 : List tc_Pl := [tL_2004_0]
noncomputable def tC_2004 : List tc_Ct := []
def tM_2004 (z : Nat) : Option am_Meth := none
set_option maxRecDepth 100000 in
theorem tMs_2004 (sa : Nat → Nat) : ∀ z mz, tM_2004 z = some mz → am_meth (aP sa) z = some mz := fun z mz h => by cases h
noncomputable def tV_2004 : tc_Ev := (aQ, tp_T, tp_G.2, tp_Z, tM_2004, tC_2004, tr_L, tK_2004.2.2.2.2.1, aM_324.1, aW_324, tK_2004.2.1, tK_2004.2.2.2.2.2, tJ_2004)
theorem tE_2004 : tK_2004.2.2.2.2.2.all (tc_wex tK_2004.2.1.1 tK_2004.2.1.2) = true := by decide +kernel
theorem tSS_2004 : tC_2004.all (fun c => tw_mg tK_2004.2.2.2.2.1 c.2.2.2.2.1) = true := by decide +kernel
theorem tHC_2004 : ∀ c ∈ tC_2004, c.2.2.2.2.1.all tK_2004.2.2.2.2.1.contains = true ∧ c.2.2.2.2.2.all (tc_wex c.2.1.1 c.2.1.2) = true := tf_hc tSS_2004 (by
  intro c hc
  have hc : c ∈ ([] : List tc_Ct) := hc
  cases hc)
noncomputable def tH_2004_0 : List tc_It := [de_it 0x2010000, de_it 0x2, de_it 0x2010000, de_it 0x2, de_it 0x103010102010102010002010200000001, de_it 0x2010000, de_it 0x300000001, de_it 0x4010000, de_it 0x104010101020101010001010001000000000000000000000000000100010c000201010002000100000300010008, de_it 0x2010000, de_it 0x1000101010001010101010100010001000000000000000000000000000100010d0002000105000200010007]
set_option maxRecDepth 100000 in
theorem tR_2004 : fw_go tV_2004 tK_2004.2.1.1 tK_2004.2.1.2 none tH_2004_0 [(tK_2004.2.1, tK_2004.2.2.2.1, 0, tc_args 0 tK_2004.2.2.1, [], ([], 0), ([], 0))] = true := by decide +kernel
noncomputable def tH_2004_1 : List tc_It := [de_it 0x4010000, de_it 0x2, de_it 0x300000001, de_it 0x4010000, de_it 0x2, de_it 0x2010000, de_it 0x2, de_it 0x10301010102010102010200000001, de_it 0x1030101010201010201000000000400000003, de_it 0x2010000, de_it 0x2, de_it 0x10102010102010103010101020101020101030101000000000000000000000000000100010d0002020201020002020201020200010007, de_it 0x2010000, de_it 0x2, de_it 0x2010000, de_it 0x2, de_it 0x2010000, de_it 0x104010302010101010002010200000001, de_it 0x2010000, de_it 0x2, de_it 0x2010000, de_it 0x4010011, de_it 0x10101040105010304010100010102000200010100010002, de_it 0x2010011, de_it 0x10a0101010901010104010b01030301010101000201040002010200020100010003, de_it 0x101010401030301010001010200000001, de_it 0x2010000, de_it 0x103010101000104020101010101010001010000000001040101000100000001000100010c0002020100020101020200010300010008]
set_option maxRecDepth 100000 in
theorem tP_2004_0 : fw_plk tV_2004 tL_2004_0 tH_2004_1 = true := by decide +kernel
set_option maxRecDepth 100000 in
theorem tT_2004 {RO : am_O} {sa : Nat → Nat} : tc_true (aP sa) tp_G RO tp_T tp_Z tK_2004 := by
  have hC : ∀ c ∈ tC_2004, tc_true (aP sa) tp_G RO tp_T tp_Z c := by
    intro c hc
    have hc : c ∈ ([] : List tc_Ct) := hc
    cases hc
  have hP : ∀ p ∈ tJ_2004, ∃ hs, tc_plk (aP sa, tV_2004.2) p hs = true := by
    intro p hp
    have hp : p ∈ ([tL_2004_0] : List tc_Pl) := hp
    rcases List.mem_cons.mp hp with rfl | hp
    · exact ⟨_, (tc_plk_sa (aP_sa sa _)).trans ((fw_plk_s tHC_2004).trans tP_2004_0)⟩
    cases hp
  exact tc_main (mt := aM_324.1) (hs := tH_2004_0) (PL := tJ_2004) ⟨tp_G_ok, tMs_2004 _, hC, tr_L_ok, tp_G_re⟩ (show am_meth (aP sa) 324 = some aM_324.1 from rfl) aX_324 (by decide +kernel) hP ((tc_go_sa (aP_sa sa _)).trans ((fw_go_s tHC_2004).trans tR_2004))
noncomputable def tK_2005 : tc_Ct := (328, (1, 1), [(2, ([], 0), 0), (0, ([(0, 1)], 0), 0)], ([([(0, -1)], 2147483647), ([(0, 1)], 2147483648)], [(0, 0)], [], [], [], [], []), [(0, 5), (0, 6), (0, 7), (0, 8), (0, 9), (0, 10), (0, 11)], [((5, 1), ([([(0, -1)], 2147483647), ([(0, 1)], 2147483648), ([(1, -1)], 2147483647), ([(1, 1)], 2147483648), ([(2, -1)], 2147483647), ([(2, 1)], 2147483648), ([(3, -1)], 2147483647), ([(3, 1)], 2147483648), ([(4, -1)], 2147483647), ([(4, 1)], 2147483648)], [], [], [(0, 5, (0, ([(4, 1)], 0), 0)), (0, 6, (0, ([(3, 1)], 0), 0)), (0, 7, (0, ([(2, 1)], 0), 0)), (0, 8, (0, ([(1, 1)], 0), 0)), (0, 9, (0, ([], 0), 0)), (0, 10, (1, ([], 0), 0)), (0, 11, (0, ([], 0), 0))], [], [], []), none, ([], 0), ([], 0))])
noncomputable def tJ_2005 : List tc_Pl := []
noncomputable def tC_2005 : List tc_Ct := []
def tM_2005 (z : Nat) : Option am_Meth := none
set_option maxRecDepth 100000 in
theorem tMs_2005 (sa : Nat → Nat) : ∀ z mz, tM_2005 z = some mz → am_meth (aP sa) z = some mz := fun z mz h => by cases h
noncomputable def tV_2005 : tc_Ev := (aQ, tp_T, tp_G.2, tp_Z, tM_2005, tC_2005, tr_L, tK_2005.2.2.2.2.1, aM_328.1, aW_328, tK_2005.2.1, tK_2005.2.2.2.2.2, tJ_2005)
theorem tE_2005 : tK_2005.2.2.2.2.2.all (tc_wex tK_2005.2.1.1 tK_2005.2.1.2) = true := by decide +kernel
theorem tSS_2005 : tC_2005.all (fun c => tw_mg tK_2005.2.2.2.2.1 c.2.2.2.2.1) = true := by decide +kernel
theorem tHC_2005 : ∀ c ∈ tC_2005, c.2.2.2.2.1.all tK_2005.2.2.2.2.1.contains = true ∧ c.2.2.2.2.2.all (tc_wex c.2.1.1 c.2.1.2) = true := tf_hc tSS_2005 (by
  intro c hc
  have hc : c ∈ ([] : List tc_Ct) := hc
  cases hc)
noncomputable def tH_2005_0 : List tc_It := [de_it 0x6010000, de_it 0x101, de_it 0x103010101020101000000000400000003, de_it 0x6010000, de_it 0x101, de_it 0x105010101040101000000000400000003, de_it 0x6010000, de_it 0x101, de_it 0x107010101060101000000000400000003, de_it 0x6010000, de_it 0x101, de_it 0x109010101080101000000000400000003, de_it 0x4010000, de_it 0x10001000000000400000003, de_it 0x4010000, de_it 0x400000003, de_it 0x4010000, de_it 0x10001000000000400000003, de_it 0x10201010103010101040101010501010106010101070101010801010109010101010101010001010000000000000000000000000001000112000201010002020100020301000204010400010007]
set_option maxRecDepth 100000 in
theorem tR_2005 : fw_go tV_2005 tK_2005.2.1.1 tK_2005.2.1.2 none tH_2005_0 [(tK_2005.2.1, tK_2005.2.2.2.1, 0, tc_args 0 tK_2005.2.2.1, [], ([], 0), ([], 0))] = true := by decide +kernel
set_option maxRecDepth 100000 in
theorem tT_2005 {RO : am_O} {sa : Nat → Nat} : tc_true (aP sa) tp_G RO tp_T tp_Z tK_2005 := by
  have hC : ∀ c ∈ tC_2005, tc_true (aP sa) tp_G RO tp_T tp_Z c := by
    intro c hc
    have hc : c ∈ ([] : List tc_Ct) := hc
    cases hc
  have hP : ∀ p ∈ tJ_2005, ∃ hs, tc_plk (aP sa, tV_2005.2) p hs = true := by
    intro p hp
    have hp : p ∈ ([] : List tc_Pl) := hp
    cases hp
  exact tc_main (mt := aM_328.1) (hs := tH_2005_0) (PL := tJ_2005) ⟨tp_G_ok, tMs_2005 _, hC, tr_L_ok, tp_G_re⟩ (show am_meth (aP sa) 328 = some aM_328.1 from rfl) aX_328 (by decide +kernel) hP ((tc_go_sa (aP_sa sa _)).trans ((fw_go_s tHC_2005).trans tR_2005))
noncomputable def tK_2006 : tc_Ct := (333, (2, 0), [(0, ([(0, 1)], 0), 0), (0, ([(1, 1)], 0), 0)], ([([(0, -1)], 2147483647), ([(0, 1)], 2147483648), ([(1, -1)], 16), ([(1, 1)], -7)], [], [], [], [], [], []), [], [((3, 0), ([([(0, -1)], 2147483647), ([(0, 1)], 2147483648), ([(1, -1)], 16), ([(1, 1)], -7), ([(2, -1)], 2147483647), ([(2, 1)], 2147483648)], [], [], [], [], [], []), some (0, ([(2, 1)], 0), 0), ([], 0), ([], 0))])
noncomputable def tJ_2006 : List tc_Pl := []
noncomputable def tC_2006 : List tc_Ct := []
def tM_2006 (z : Nat) : Option am_Meth := none
set_option maxRecDepth 100000 in
theorem tMs_2006 (sa : Nat → Nat) : ∀ z mz, tM_2006 z = some mz → am_meth (aP sa) z = some mz := fun z mz h => by cases h
noncomputable def tV_2006 : tc_Ev := (aQ, tp_T, tp_G.2, tp_Z, tM_2006, tC_2006, tr_L, tK_2006.2.2.2.2.1, aM_333.1, aW_333, tK_2006.2.1, tK_2006.2.2.2.2.2, tJ_2006)
theorem tE_2006 : tK_2006.2.2.2.2.2.all (tc_wex tK_2006.2.1.1 tK_2006.2.1.2) = true := by decide +kernel
theorem tSS_2006 : tC_2006.all (fun c => tw_mg tK_2006.2.2.2.2.1 c.2.2.2.2.1) = true := by decide +kernel
theorem tHC_2006 : ∀ c ∈ tC_2006, c.2.2.2.2.1.all tK_2006.2.2.2.2.1.contains = true ∧ c.2.2.2.2.2.all (tc_wex c.2.1.1 c.2.1.2) = true := tf_hc tSS_2006 (by
  intro c hc
  have hc : c ∈ ([] : List tc_Ct) := hc
  cases hc)
noncomputable def tH_2006_0 : List tc_It := [de_it 0x4010000, de_it 0x101, de_it 0x6010000, de_it 0x1030101010201010200000001, de_it 0x101, de_it 0x101, de_it 0x10801010109010101030101010201010101010101000101000000000000000000000000000100010e000204010100010007]
set_option maxRecDepth 100000 in
theorem tR_2006 : fw_go tV_2006 tK_2006.2.1.1 tK_2006.2.1.2 none tH_2006_0 [(tK_2006.2.1, tK_2006.2.2.2.1, 0, tc_args 0 tK_2006.2.2.1, [], ([], 0), ([], 0))] = true := by decide +kernel
set_option maxRecDepth 100000 in
theorem tT_2006 {RO : am_O} {sa : Nat → Nat} : tc_true (aP sa) tp_G RO tp_T tp_Z tK_2006 := by
  have hC : ∀ c ∈ tC_2006, tc_true (aP sa) tp_G RO tp_T tp_Z c := by
    intro c hc
    have hc : c ∈ ([] : List tc_Ct) := hc
    cases hc
  have hP : ∀ p ∈ tJ_2006, ∃ hs, tc_plk (aP sa, tV_2006.2) p hs = true := by
    intro p hp
    have hp : p ∈ ([] : List tc_Pl) := hp
    cases hp
  exact tc_main (mt := aM_333.1) (hs := tH_2006_0) (PL := tJ_2006) ⟨tp_G_ok, tMs_2006 _, hC, tr_L_ok, tp_G_re⟩ (show am_meth (aP sa) 333 = some aM_333.1 from rfl) aX_333 (by decide +kernel) hP ((tc_go_sa (aP_sa sa _)).trans ((fw_go_s tHC_2006).trans tR_2006))
noncomputable def tK_2007 : tc_Ct := (332, (0, 1), [(2, ([], 0), 0)], ([], [(0, 0)], [], [], [], [], []), [(0, 5), (0, 6), (0, 7), (0, 8)], [((0, 1), ([], [], [], [], [], [], []), none, ([], 0), ([], 0))])
noncomputable def tL_2007_0 : tc_Pl := de_pl 0x30d3cff00120100010000000000030d3cff000300000000000000020001000100000002000202000000000000000101020001010101
noncomputable def tJ_2007 : List tc_Pl := [tL_2007_0]
noncomputable def tC_2007 : List tc_Ct := [tK_2006]
def tM_2007 (z : Nat) : Option am_Meth := if z = 333 then some aM_333.1 else none
set_option maxRecDepth 100000 in
theorem tMs_2007 (sa : Nat → Nat) : ∀ z mz, tM_2007 z = some mz → am_meth (aP sa) z = some mz := by
  intro z mz h
  unfold tM_2007 at h
  rcases de_m h with ⟨rfl, rfl⟩ | h
  · exact (show am_meth (aP sa) 333 = some aM_333.1 from rfl)
  cases h
noncomputable def tV_2007 : tc_Ev := (aQ, tp_T, tp_G.2, tp_Z, tM_2007, tC_2007, tr_L, tK_2007.2.2.2.2.1, aM_332.1, aW_332, tK_2007.2.1, tK_2007.2.2.2.2.2, tJ_2007)
theorem tE_2007 : tK_2007.2.2.2.2.2.all (tc_wex tK_2007.2.1.1 tK_2007.2.1.2) = true := by decide +kernel
theorem tSS_2007 : tC_2007.all (fun c => tw_mg tK_2007.2.2.2.2.1 c.2.2.2.2.1) = true := by decide +kernel
theorem tHC_2007 : ∀ c ∈ tC_2007, c.2.2.2.2.1.all tK_2007.2.2.2.2.1.contains = true ∧ c.2.2.2.2.2.all (tc_wex c.2.1.1 c.2.1.2) = true := tf_hc tSS_2007 (by
  intro c hc
  have hc : c ∈ ([tK_2006] : List tc_Ct) := hc
  rcases List.mem_cons.mp hc with rfl | hc
  · exact tE_2006
  cases hc)
noncomputable def tH_2007_0 : List tc_It := [de_it 0x4010000, de_it 0x1000000000000000000000000000100010902000100010008]
set_option maxRecDepth 100000 in
theorem tR_2007 : fw_go tV_2007 tK_2007.2.1.1 tK_2007.2.1.2 none tH_2007_0 [(tK_2007.2.1, tK_2007.2.2.2.1, 0, tc_args 0 tK_2007.2.2.1, [], ([], 0), ([], 0))] = true := by decide +kernel
noncomputable def tH_2007_1 : List tc_It := [de_it 0x4010000, de_it 0x300000001, de_it 0x10001080000010007, de_it 0x4010000, de_it 0x2, de_it 0x2010000, de_it 0x2, de_it 0x101, de_it 0x107010101060101000000000400000003, de_it 0x4010000, de_it 0x2, de_it 0x2010000, de_it 0x2, de_it 0x101, de_it 0x2010000, de_it 0x10001010a0101010b0101000000000000000000000000000000000c2000000205010200010006, de_it 0x110010101110101000000000400000003, de_it 0x4010000, de_it 0x2, de_it 0x2010000, de_it 0x2, de_it 0x101, de_it 0x115010101140101000000000400000003, de_it 0x4010000, de_it 0x2, de_it 0x2010000, de_it 0x2, de_it 0x101, de_it 0x2010000, de_it 0x100010116010101170101000000000000000000000000000000000c1800000209010200010006, de_it 0x11c0101011d0101000000000400000003, de_it 0x4010000, de_it 0x2, de_it 0x2010000, de_it 0x2, de_it 0x101, de_it 0x11f0101011e0101000000000400000003, de_it 0x4010000, de_it 0x2, de_it 0x2010000, de_it 0x2, de_it 0x101, de_it 0x2010000, de_it 0x100010120010101210101000000000000000000000000000000000c100000020c010200010006, de_it 0x126010101270101000000000400000003, de_it 0x4010000, de_it 0x2, de_it 0x2010000, de_it 0x2, de_it 0x101, de_it 0x129010101280101000000000400000003, de_it 0x4010000, de_it 0x2, de_it 0x2010000, de_it 0x2, de_it 0x101, de_it 0x2010000, de_it 0x10001012a0101012b0101000000000000000000000000000000000c0e0000020f010200010006, de_it 0x626052504e4c3e3c3a3802000c000d, de_it 0x10a0101010b0101000000000400000003, de_it 0x4010000, de_it 0x2, de_it 0x2010000, de_it 0x101, de_it 0x10d0101010c0101000000000400000003, de_it 0x1010101010001010200000001, de_it 0x2010000, de_it 0x100010100000000010101010001000000010001000109020200010100010008]
set_option maxRecDepth 100000 in
theorem tP_2007_0 : fw_plk tV_2007 tL_2007_0 tH_2007_1 = true := by decide +kernel
set_option maxRecDepth 100000 in
theorem tT_2007 {RO : am_O} {sa : Nat → Nat} (h_2006 : tc_true (aP sa) tp_G RO tp_T tp_Z tK_2006) : tc_true (aP sa) tp_G RO tp_T tp_Z tK_2007 := by
  have hC : ∀ c ∈ tC_2007, tc_true (aP sa) tp_G RO tp_T tp_Z c := by
    intro c hc
    have hc : c ∈ ([tK_2006] : List tc_Ct) := hc
    rcases List.mem_cons.mp hc with rfl | hc
    · exact h_2006
    cases hc
  have hP : ∀ p ∈ tJ_2007, ∃ hs, tc_plk (aP sa, tV_2007.2) p hs = true := by
    intro p hp
    have hp : p ∈ ([tL_2007_0] : List tc_Pl) := hp
    rcases List.mem_cons.mp hp with rfl | hp
    · exact ⟨_, (tc_plk_sa (aP_sa sa _)).trans ((fw_plk_s tHC_2007).trans tP_2007_0)⟩
    cases hp
  exact tc_main (mt := aM_332.1) (hs := tH_2007_0) (PL := tJ_2007) ⟨tp_G_ok, tMs_2007 _, hC, tr_L_ok, tp_G_re⟩ (show am_meth (aP sa) 332 = some aM_332.1 from rfl) aX_332 (by decide +kernel) hP ((tc_go_sa (aP_sa sa _)).trans ((fw_go_s tHC_2007).trans tR_2007))
noncomputable def tK_2008 : tc_Ct := (331, (2, 1), [(2, ([], 0), 0), (0, ([(0, 1)], 0), 0)], ([([(0, -1)], 255), ([(0, 1)], 0), ([(1, -1)], 7), ([(1, 1)], 0)], [(0, 0)], [], [(0, 9, (0, ([(1, 1)], 0), 0))], [], [], []), [(0, 5), (0, 6), (0, 7), (0, 8), (0, 9), (0, 10)], [((2, 1), ([([(0, -1)], 255), ([(0, 1)], 0), ([(1, -1)], 7), ([(1, 1)], -7)], [], [], [(0, 9, (0, ([], 0), 0)), (0, 10, (1, ([], 0), 0))], [], [], []), none, ([], 0), ([], 0)), ((2, 1), ([([(0, -1)], 255), ([(0, 1)], 0), ([(1, -1)], 6), ([(1, 1)], 0)], [], [], [(0, 9, (0, ([(1, 1)], 1), 0)), (0, 10, (1, ([], 0), 0))], [], [], []), none, ([], 0), ([], 0))])
noncomputable def tJ_2008 : List tc_Pl := []
noncomputable def tC_2008 : List tc_Ct := [tK_2007]
def tM_2008 (z : Nat) : Option am_Meth := if z = 332 then some aM_332.1 else none
set_option maxRecDepth 100000 in
theorem tMs_2008 (sa : Nat → Nat) : ∀ z mz, tM_2008 z = some mz → am_meth (aP sa) z = some mz := by
  intro z mz h
  unfold tM_2008 at h
  rcases de_m h with ⟨rfl, rfl⟩ | h
  · exact (show am_meth (aP sa) 332 = some aM_332.1 from rfl)
  cases h
noncomputable def tV_2008 : tc_Ev := (aQ, tp_T, tp_G.2, tp_Z, tM_2008, tC_2008, tr_L, tK_2008.2.2.2.2.1, aM_331.1, aW_331, tK_2008.2.1, tK_2008.2.2.2.2.2, tJ_2008)
theorem tE_2008 : tK_2008.2.2.2.2.2.all (tc_wex tK_2008.2.1.1 tK_2008.2.1.2) = true := by decide +kernel
theorem tSS_2008 : tC_2008.all (fun c => tw_mg tK_2008.2.2.2.2.1 c.2.2.2.2.1) = true := by decide +kernel
theorem tHC_2008 : ∀ c ∈ tC_2008, c.2.2.2.2.1.all tK_2008.2.2.2.2.1.contains = true ∧ c.2.2.2.2.2.all (tc_wex c.2.1.1 c.2.1.2) = true := tf_hc tSS_2008 (by
  intro c hc
  have hc : c ∈ ([tK_2007] : List tc_Ct) := hc
  rcases List.mem_cons.mp hc with rfl | hc
  · exact tE_2007
  cases hc)
noncomputable def tH_2008_0 : List tc_It := [de_it 0x4010000, de_it 0x2, de_it 0xa010000, de_it 0x400000003, de_it 0x4010000, de_it 0x2, de_it 0x2010000, de_it 0x1020101010301010200000001, de_it 0x102010101030101000000000400000003, de_it 0x2010000, de_it 0x2, de_it 0x2010000, de_it 0x1020101000000000300000001, de_it 0x1030101010401010101010101000101000000000000000000000000000100010c0002010007, de_it 0x4010000, de_it 0x2, de_it 0x2010000, de_it 0x2, de_it 0x4010000, de_it 0x101, de_it 0x101, de_it 0x10b0101010a0101000000000400000003, de_it 0x4010000, de_it 0x2, de_it 0x2010000, de_it 0x2, de_it 0x101, de_it 0x101, de_it 0x111010101100101000000000400000003, de_it 0x2010000, de_it 0x8000000020006, de_it 0x4010000, de_it 0x10001000000000400000003, de_it 0x4010000, de_it 0x400000003, de_it 0x1040101010201010101010101000101000000000000000000000000000100010c0000010007]
set_option maxRecDepth 100000 in
theorem tR_2008 : fw_go tV_2008 tK_2008.2.1.1 tK_2008.2.1.2 none tH_2008_0 [(tK_2008.2.1, tK_2008.2.2.2.1, 0, tc_args 0 tK_2008.2.2.1, [], ([], 0), ([], 0))] = true := by decide +kernel
set_option maxRecDepth 100000 in
theorem tT_2008 {RO : am_O} {sa : Nat → Nat} (h_2007 : tc_true (aP sa) tp_G RO tp_T tp_Z tK_2007) : tc_true (aP sa) tp_G RO tp_T tp_Z tK_2008 := by
  have hC : ∀ c ∈ tC_2008, tc_true (aP sa) tp_G RO tp_T tp_Z c := by
    intro c hc
    have hc : c ∈ ([tK_2007] : List tc_Ct) := hc
    rcases List.mem_cons.mp hc with rfl | hc
    · exact h_2007
    cases hc
  have hP : ∀ p ∈ tJ_2008, ∃ hs, tc_plk (aP sa, tV_2008.2) p hs = true := by
    intro p hp
    have hp : p ∈ ([] : List tc_Pl) := hp
    cases hp
  exact tc_main (mt := aM_331.1) (hs := tH_2008_0) (PL := tJ_2008) ⟨tp_G_ok, tMs_2008 _, hC, tr_L_ok, tp_G_re⟩ (show am_meth (aP sa) 331 = some aM_331.1 from rfl) aX_331 (by decide +kernel) hP ((tc_go_sa (aP_sa sa _)).trans ((fw_go_s tHC_2008).trans tR_2008))
noncomputable def tK_2009 : tc_Ct := (330, (2, 1), [(2, ([], 0), 0), (0, ([(0, 1)], 0), 0)], ([([(0, -1)], 255), ([(0, 1)], 0), ([(1, -1)], 7), ([(1, 1)], 0)], [(0, 0)], [], [(0, 9, (0, ([(1, 1)], 0), 0))], [], [], []), [(0, 5), (0, 6), (0, 7), (0, 8), (0, 9), (0, 10), (0, 11)], [((4, 1), ([([(0, -1)], 255), ([(0, 1)], 0), ([(1, -1)], 7), ([(1, 1)], 0), ([(2, -1)], 2147483647), ([(2, 1)], 2147483648), ([(3, -1)], 7), ([(3, 1)], 0), ([(1, -1), (3, -1)], 13), ([(1, 1), (3, -1)], 1), ([(1, 1), (3, 1)], -1)], [], [], [(0, 9, (0, ([(3, 1)], 0), 0)), (0, 10, (1, ([], 0), 0)), (0, 11, (0, ([(2, 1)], 0), 0))], [], [], []), none, ([], 0), ([], 0))])
noncomputable def tJ_2009 : List tc_Pl := []
noncomputable def tC_2009 : List tc_Ct := [tK_2008]
def tM_2009 (z : Nat) : Option am_Meth := if z = 331 then some aM_331.1 else none
set_option maxRecDepth 100000 in
theorem tMs_2009 (sa : Nat → Nat) : ∀ z mz, tM_2009 z = some mz → am_meth (aP sa) z = some mz := by
  intro z mz h
  unfold tM_2009 at h
  rcases de_m h with ⟨rfl, rfl⟩ | h
  · exact (show am_meth (aP sa) 331 = some aM_331.1 from rfl)
  cases h
noncomputable def tV_2009 : tc_Ev := (aQ, tp_T, tp_G.2, tp_Z, tM_2009, tC_2009, tr_L, tK_2009.2.2.2.2.1, aM_330.1, aW_330, tK_2009.2.1, tK_2009.2.2.2.2.2, tJ_2009)
theorem tE_2009 : tK_2009.2.2.2.2.2.all (tc_wex tK_2009.2.1.1 tK_2009.2.1.2) = true := by decide +kernel
theorem tSS_2009 : tC_2009.all (fun c => tw_mg tK_2009.2.2.2.2.1 c.2.2.2.2.1) = true := by decide +kernel
theorem tHC_2009 : ∀ c ∈ tC_2009, c.2.2.2.2.1.all tK_2009.2.2.2.2.1.contains = true ∧ c.2.2.2.2.2.all (tc_wex c.2.1.1 c.2.1.2) = true := tf_hc tSS_2009 (by
  intro c hc
  have hc : c ∈ ([tK_2008] : List tc_Ct) := hc
  rcases List.mem_cons.mp hc with rfl | hc
  · exact tE_2008
  cases hc)
noncomputable def tH_2009_0 : List tc_It := [de_it 0x4010000, de_it 0x1030101010201010101010101000101000000000000000000000000000000010c0002010100020001020000020006, de_it 0x4010000, de_it 0x2, de_it 0x2010000, de_it 0x101, de_it 0x10b0101010a0101000000000400000003, de_it 0x1070101010701010102010100010001010a0101010b01010107010101020101010101010100010100000000000000000000000000010001130000000203010200010007, de_it 0x4010000, de_it 0x2, de_it 0x2010000, de_it 0x101, de_it 0x10b0101010a0101000000000400000003, de_it 0x20301010001020601010103010101060101010a0101010b010101030101010601010101010101000101000000000000000000000000000100011302020101000203010200010007]
set_option maxRecDepth 100000 in
theorem tR_2009 : fw_go tV_2009 tK_2009.2.1.1 tK_2009.2.1.2 none tH_2009_0 [(tK_2009.2.1, tK_2009.2.2.2.1, 0, tc_args 0 tK_2009.2.2.1, [], ([], 0), ([], 0))] = true := by decide +kernel
set_option maxRecDepth 100000 in
theorem tT_2009 {RO : am_O} {sa : Nat → Nat} (h_2008 : tc_true (aP sa) tp_G RO tp_T tp_Z tK_2008) : tc_true (aP sa) tp_G RO tp_T tp_Z tK_2009 := by
  have hC : ∀ c ∈ tC_2009, tc_true (aP sa) tp_G RO tp_T tp_Z c := by
    intro c hc
    have hc : c ∈ ([tK_2008] : List tc_Ct) := hc
    rcases List.mem_cons.mp hc with rfl | hc
    · exact h_2008
    cases hc
  have hP : ∀ p ∈ tJ_2009, ∃ hs, tc_plk (aP sa, tV_2009.2) p hs = true := by
    intro p hp
    have hp : p ∈ ([] : List tc_Pl) := hp
    cases hp
  exact tc_main (mt := aM_330.1) (hs := tH_2009_0) (PL := tJ_2009) ⟨tp_G_ok, tMs_2009 _, hC, tr_L_ok, tp_G_re⟩ (show am_meth (aP sa) 330 = some aM_330.1 from rfl) aX_330 (by decide +kernel) hP ((tc_go_sa (aP_sa sa _)).trans ((fw_go_s tHC_2009).trans tR_2009))
noncomputable def tK_2010 : tc_Ct := (329, (3, 2), [(2, ([], 0), 0), (2, ([], 0), 1), (0, ([(0, 1)], 0), 0), (0, ([(1, 1)], 0), 0)], ([([(0, -1)], 796), ([(0, 1)], 0), ([(1, -1)], 800), ([(1, 1)], 0), ([(2, -1)], 7), ([(2, 1)], 0), ([(0, -1), (1, -1)], 800)], [(0, 0), (1, 1)], [], [(0, 9, (0, ([(2, 1)], 0), 0))], [], [], []), [(0, 5), (0, 6), (0, 7), (0, 8), (0, 9), (0, 10), (0, 11)], [((4, 2), ([([(0, -1)], 796), ([(0, 1)], 0), ([(1, -1)], 800), ([(1, 1)], 0), ([(2, -1)], 7), ([(2, 1)], 0), ([(3, -1)], 7), ([(3, 1)], 0), ([(0, -1), (1, -1)], 800), ([(0, -1), (2, 1), (3, -1)], 800)], [], [], [(0, 9, (0, ([(3, 1)], 0), 0))], [], [], []), none, ([], 0), ([], 0))])
noncomputable def tL_2010_0 : tc_Pl := de_pl 0x30d3aff000001030201020000000000030d3aff0003000000000000000203010004000002010100030000020001000201000002010000000200050300000000000204010009000100010100000200010402030202030000000000000640ff01040202010003000204010e010401000203010000000000000640ff0101010002000202010e010201000201010000000000000640ff010101000200010000000000000638ff0100010c0205
noncomputable def tJ_2010 : List tc_Pl := [tL_2010_0]
noncomputable def tC_2010 : List tc_Ct := [tK_2009]
def tM_2010 (z : Nat) : Option am_Meth := if z = 330 then some aM_330.1 else none
set_option maxRecDepth 100000 in
theorem tMs_2010 (sa : Nat → Nat) : ∀ z mz, tM_2010 z = some mz → am_meth (aP sa) z = some mz := by
  intro z mz h
  unfold tM_2010 at h
  rcases de_m h with ⟨rfl, rfl⟩ | h
  · exact (show am_meth (aP sa) 330 = some aM_330.1 from rfl)
  cases h
noncomputable def tV_2010 : tc_Ev := (aQ, tp_T, tp_G.2, tp_Z, tM_2010, tC_2010, tr_L, tK_2010.2.2.2.2.1, aM_329.1, aW_329, tK_2010.2.1, tK_2010.2.2.2.2.2, tJ_2010)
theorem tE_2010 : tK_2010.2.2.2.2.2.all (tc_wex tK_2010.2.1.1 tK_2010.2.1.2) = true := by decide +kernel
theorem tSS_2010 : tC_2010.all (fun c => tw_mg tK_2010.2.2.2.2.1 c.2.2.2.2.1) = true := by decide +kernel
theorem tHC_2010 : ∀ c ∈ tC_2010, c.2.2.2.2.1.all tK_2010.2.2.2.2.1.contains = true ∧ c.2.2.2.2.2.all (tc_wex c.2.1.1 c.2.1.2) = true := tf_hc tSS_2010 (by
  intro c hc
  have hc : c ∈ ([tK_2009] : List tc_Ct) := hc
  rcases List.mem_cons.mp hc with rfl | hc
  · exact tE_2009
  cases hc)
noncomputable def tH_2010_0 : List tc_It := [de_it 0x4010000, de_it 0x101000101010501010104010100010106010101050101010401010103010101020101010101010100010100000000000000000000000000010001140002020100000200010008]
set_option maxRecDepth 100000 in
theorem tR_2010 : fw_go tV_2010 tK_2010.2.1.1 tK_2010.2.1.2 none tH_2010_0 [(tK_2010.2.1, tK_2010.2.2.2.1, 0, tc_args 0 tK_2010.2.2.1, [], ([], 0), ([], 0))] = true := by decide +kernel
noncomputable def tH_2010_1 : List tc_It := [de_it 0x4010000, de_it 0x300000001, de_it 0x10a01010106010101090101010801010105010101040101010301010102010101010101010001010000000000000000000000000001000112000204010100010007, de_it 0x8010000, de_it 0x10c010602010107010102010200000001, de_it 0x2010011, de_it 0x10c010d01060301010701010201020002030200020100010002, de_it 0x1090101010801010111010101120101000000000000000000000000000000010c0002040100020601020000020006, de_it 0x10c01020201010701010200000001, de_it 0x2010000, de_it 0x11c010b0201011c010c010b01060401011a0101011c011b020201070101010601010105010101040101010c0107020101020101010101010100010100000000010c0101000100000001000100011400020801020203010200010008]
set_option maxRecDepth 100000 in
theorem tP_2010_0 : fw_plk tV_2010 tL_2010_0 tH_2010_1 = true := by decide +kernel
set_option maxRecDepth 100000 in
theorem tT_2010 {RO : am_O} {sa : Nat → Nat} (h_2009 : tc_true (aP sa) tp_G RO tp_T tp_Z tK_2009) : tc_true (aP sa) tp_G RO tp_T tp_Z tK_2010 := by
  have hC : ∀ c ∈ tC_2010, tc_true (aP sa) tp_G RO tp_T tp_Z c := by
    intro c hc
    have hc : c ∈ ([tK_2009] : List tc_Ct) := hc
    rcases List.mem_cons.mp hc with rfl | hc
    · exact h_2009
    cases hc
  have hP : ∀ p ∈ tJ_2010, ∃ hs, tc_plk (aP sa, tV_2010.2) p hs = true := by
    intro p hp
    have hp : p ∈ ([tL_2010_0] : List tc_Pl) := hp
    rcases List.mem_cons.mp hp with rfl | hp
    · exact ⟨_, (tc_plk_sa (aP_sa sa _)).trans ((fw_plk_s tHC_2010).trans tP_2010_0)⟩
    cases hp
  exact tc_main (mt := aM_329.1) (hs := tH_2010_0) (PL := tJ_2010) ⟨tp_G_ok, tMs_2010 _, hC, tr_L_ok, tp_G_re⟩ (show am_meth (aP sa) 329 = some aM_329.1 from rfl) aX_329 (by decide +kernel) hP ((tc_go_sa (aP_sa sa _)).trans ((fw_go_s tHC_2010).trans tR_2010))
noncomputable def tK_2011 : tc_Ct := (335, (0, 1), [(2, ([], 0), 0)], ([], [(0, 0)], [], [], [], [], []), [], [((0, 1), ([], [], [], [], [], [], []), some (1, ([], 0), 0), ([], 0), ([], 0))])
noncomputable def tJ_2011 : List tc_Pl := []
noncomputable def tC_2011 : List tc_Ct := []
def tM_2011 (z : Nat) : Option am_Meth := none
set_option maxRecDepth 100000 in
theorem tMs_2011 (sa : Nat → Nat) : ∀ z mz, tM_2011 z = some mz → am_meth (aP sa) z = some mz := fun z mz h => by cases h
noncomputable def tV_2011 : tc_Ev := (aQ, tp_T, tp_G.2, tp_Z, tM_2011, tC_2011, tr_L, tK_2011.2.2.2.2.1, aM_335.1, aW_335, tK_2011.2.1, tK_2011.2.2.2.2.2, tJ_2011)
theorem tE_2011 : tK_2011.2.2.2.2.2.all (tc_wex tK_2011.2.1.1 tK_2011.2.1.2) = true := by decide +kernel
theorem tSS_2011 : tC_2011.all (fun c => tw_mg tK_2011.2.2.2.2.1 c.2.2.2.2.1) = true := by decide +kernel
theorem tHC_2011 : ∀ c ∈ tC_2011, c.2.2.2.2.1.all tK_2011.2.2.2.2.1.contains = true ∧ c.2.2.2.2.2.all (tc_wex c.2.1.1 c.2.1.2) = true := tf_hc tSS_2011 (by
  intro c hc
  have hc : c ∈ ([] : List tc_Ct) := hc
  cases hc)
noncomputable def tH_2011_0 : List tc_It := [de_it 0x2010000, de_it 0x2, de_it 0x2010000, de_it 0x2, de_it 0x101, de_it 0x8010000, de_it 0x2, de_it 0x2010000, de_it 0x2, de_it 0x101, de_it 0x8010000, de_it 0x10001080000010007]
set_option maxRecDepth 100000 in
theorem tR_2011 : fw_go tV_2011 tK_2011.2.1.1 tK_2011.2.1.2 none tH_2011_0 [(tK_2011.2.1, tK_2011.2.2.2.1, 0, tc_args 0 tK_2011.2.2.1, [], ([], 0), ([], 0))] = true := by decide +kernel
set_option maxRecDepth 100000 in
theorem tT_2011 {RO : am_O} {sa : Nat → Nat} : tc_true (aP sa) tp_G RO tp_T tp_Z tK_2011 := by
  have hC : ∀ c ∈ tC_2011, tc_true (aP sa) tp_G RO tp_T tp_Z c := by
    intro c hc
    have hc : c ∈ ([] : List tc_Ct) := hc
    cases hc
  have hP : ∀ p ∈ tJ_2011, ∃ hs, tc_plk (aP sa, tV_2011.2) p hs = true := by
    intro p hp
    have hp : p ∈ ([] : List tc_Pl) := hp
    cases hp
  exact tc_main (mt := aM_335.1) (hs := tH_2011_0) (PL := tJ_2011) ⟨tp_G_ok, tMs_2011 _, hC, tr_L_ok, tp_G_re⟩ (show am_meth (aP sa) 335 = some aM_335.1 from rfl) aX_335 (by decide +kernel) hP ((tc_go_sa (aP_sa sa _)).trans ((fw_go_s tHC_2011).trans tR_2011))
noncomputable def tK_2012 : tc_Ct := (334, (1, 1), [(2, ([], 0), 0)], ([([(0, -1)], 7), ([(0, 1)], 0)], [(0, 0)], [], [(0, 9, (0, ([(0, 1)], 0), 0))], [], [], []), [(0, 5), (0, 6), (0, 7), (0, 8), (0, 9), (0, 10)], [((1, 1), ([([(0, -1)], 7), ([(0, 1)], 0)], [], [], [(0, 9, (0, ([], 0), 0)), (0, 10, (1, ([], 0), 0))], [], [], []), some (1, ([], 0), 0), ([], 0), ([], 0))])
noncomputable def tL_2012_0 : tc_Pl := de_pl 0x30d32ff0000000000000000030d32ff0003000000000000000002000107000000000000010a000000000009000200000001000200010e010001020101
noncomputable def tL_2012_1 : tc_Pl := de_pl 0x30d32ff00120101010000000000030d32ff0003000000000000000002000107000000000000010a0000000201010009000200000001010201010002010201010e0101010c01000100020001050102
noncomputable def tJ_2012 : List tc_Pl := [tL_2012_0, tL_2012_1]
noncomputable def tC_2012 : List tc_Ct := [tK_2008, tK_2007, tK_2011]
def tM_2012 (z : Nat) : Option am_Meth := if z = 335 then some aM_335.1 else if z = 332 then some aM_332.1 else if z = 331 then some aM_331.1 else none
set_option maxRecDepth 100000 in
theorem tMs_2012 (sa : Nat → Nat) : ∀ z mz, tM_2012 z = some mz → am_meth (aP sa) z = some mz := by
  intro z mz h
  unfold tM_2012 at h
  rcases de_m h with ⟨rfl, rfl⟩ | h
  · exact (show am_meth (aP sa) 335 = some aM_335.1 from rfl)
  rcases de_m h with ⟨rfl, rfl⟩ | h
  · exact (show am_meth (aP sa) 332 = some aM_332.1 from rfl)
  rcases de_m h with ⟨rfl, rfl⟩ | h
  · exact (show am_meth (aP sa) 331 = some aM_331.1 from rfl)
  cases h
noncomputable def tV_2012 : tc_Ev := (aQ, tp_T, tp_G.2, tp_Z, tM_2012, tC_2012, tr_L, tK_2012.2.2.2.2.1, aM_334.1, aW_334, tK_2012.2.1, tK_2012.2.2.2.2.2, tJ_2012)
theorem tE_2012 : tK_2012.2.2.2.2.2.all (tc_wex tK_2012.2.1.1 tK_2012.2.1.2) = true := by decide +kernel
theorem tSS_2012 : tC_2012.all (fun c => tw_mg tK_2012.2.2.2.2.1 c.2.2.2.2.1) = true := by decide +kernel
theorem tHC_2012 : ∀ c ∈ tC_2012, c.2.2.2.2.1.all tK_2012.2.2.2.2.1.contains = true ∧ c.2.2.2.2.2.all (tc_wex c.2.1.1 c.2.1.2) = true := tf_hc tSS_2012 (by
  intro c hc
  have hc : c ∈ ([tK_2008, tK_2007, tK_2011] : List tc_Ct) := hc
  rcases List.mem_cons.mp hc with rfl | hc
  · exact tE_2008
  rcases List.mem_cons.mp hc with rfl | hc
  · exact tE_2007
  rcases List.mem_cons.mp hc with rfl | hc
  · exact tE_2011
  cases hc)
noncomputable def tH_2012_0 : List tc_It := [de_it 0x4010000, de_it 0x10101010100010100010001000000000000000000000000000000010c000200010000000000000100ff00020000020006, de_it 0x105010101000101000000000000000000000000000100010a0000010008, de_it 0x101010101010401010104010101010101000000000000000000000000000100010d020200010102010008]
set_option maxRecDepth 100000 in
theorem tR_2012 : fw_go tV_2012 tK_2012.2.1.1 tK_2012.2.1.2 none tH_2012_0 [(tK_2012.2.1, tK_2012.2.2.2.1, 0, tc_args 0 tK_2012.2.2.1, [], ([], 0), ([], 0))] = true := by decide +kernel
noncomputable def tH_2012_1 : List tc_It := [de_it 0x2010000, de_it 0x2, de_it 0x102010100000300000001, de_it 0x4010000, de_it 0x2, de_it 0x2010000, de_it 0x2, de_it 0x101, de_it 0x108010101070101000000000400000003, de_it 0x2010000, de_it 0x8000002020006, de_it 0x2010000, de_it 0x8000004020006, de_it 0x101010101000101000000000000000000000000000100010a0000010007]
set_option maxRecDepth 100000 in
theorem tP_2012_0 : fw_plk tV_2012 tL_2012_0 tH_2012_1 = true := by decide +kernel
noncomputable def tH_2012_2 : List tc_It := [de_it 0x2010000, de_it 0x2, de_it 0x105010302010300000001, de_it 0x4010000, de_it 0x10301010102010100010001000000000000000000000000000000010c000201010000020000020006, de_it 0x2010000, de_it 0x10001010101010100000000010201010102010100000001000100010a0000010008, de_it 0x2010000, de_it 0x10401010103010101080101010401080201010001010000000001080101000100000001000100010d020201010102010008]
set_option maxRecDepth 100000 in
theorem tP_2012_1 : fw_plk tV_2012 tL_2012_1 tH_2012_2 = true := by decide +kernel
set_option maxRecDepth 100000 in
theorem tT_2012 {RO : am_O} {sa : Nat → Nat} (h_2007 : tc_true (aP sa) tp_G RO tp_T tp_Z tK_2007) (h_2008 : tc_true (aP sa) tp_G RO tp_T tp_Z tK_2008) (h_2011 : tc_true (aP sa) tp_G RO tp_T tp_Z tK_2011) : tc_true (aP sa) tp_G RO tp_T tp_Z tK_2012 := by
  have hC : ∀ c ∈ tC_2012, tc_true (aP sa) tp_G RO tp_T tp_Z c := by
    intro c hc
    have hc : c ∈ ([tK_2008, tK_2007, tK_2011] : List tc_Ct) := hc
    rcases List.mem_cons.mp hc with rfl | hc
    · exact h_2008
    rcases List.mem_cons.mp hc with rfl | hc
    · exact h_2007
    rcases List.mem_cons.mp hc with rfl | hc
    · exact h_2011
    cases hc
  have hP : ∀ p ∈ tJ_2012, ∃ hs, tc_plk (aP sa, tV_2012.2) p hs = true := by
    intro p hp
    have hp : p ∈ ([tL_2012_0, tL_2012_1] : List tc_Pl) := hp
    rcases List.mem_cons.mp hp with rfl | hp
    · exact ⟨_, (tc_plk_sa (aP_sa sa _)).trans ((fw_plk_s tHC_2012).trans tP_2012_0)⟩
    rcases List.mem_cons.mp hp with rfl | hp
    · exact ⟨_, (tc_plk_sa (aP_sa sa _)).trans ((fw_plk_s tHC_2012).trans tP_2012_1)⟩
    cases hp
  exact tc_main (mt := aM_334.1) (hs := tH_2012_0) (PL := tJ_2012) ⟨tp_G_ok, tMs_2012 _, hC, tr_L_ok, tp_G_re⟩ (show am_meth (aP sa) 334 = some aM_334.1 from rfl) aX_334 (by decide +kernel) hP ((tc_go_sa (aP_sa sa _)).trans ((fw_go_s tHC_2012).trans tR_2012))
noncomputable def tK_2013 : tc_Ct := (327, (2, 2), [(2, ([], 0), 0), (0, ([(0, 1)], 0), 0), (2, ([], 0), 1), (0, ([], 0), 0), (0, ([(1, 1)], 0), 0)], ([([(0, -1)], 1), ([(0, 1)], 0), ([(1, -1)], 800), ([(1, 1)], 0)], [(0, 0), (1, 1)], [], [], [], [], []), [(0, 5), (0, 6), (0, 7), (0, 8), (0, 9), (0, 10), (0, 11)], [((2, 2), ([([(0, -1)], 1), ([(0, 1)], 0), ([(1, -1)], 800), ([(1, 1)], 0)], [], [], [(0, 9, (0, ([], 0), 0)), (0, 10, (1, ([], 0), 0))], [], [], []), some (1, ([], 0), 0), ([], 0), ([], 0))])
noncomputable def tJ_2013 : List tc_Pl := []
noncomputable def tC_2013 : List tc_Ct := [tK_2005, tK_2010, tK_2012]
def tM_2013 (z : Nat) : Option am_Meth := if z = 334 then some aM_334.1 else if z = 329 then some aM_329.1 else if z = 328 then some aM_328.1 else none
set_option maxRecDepth 100000 in
theorem tMs_2013 (sa : Nat → Nat) : ∀ z mz, tM_2013 z = some mz → am_meth (aP sa) z = some mz := by
  intro z mz h
  unfold tM_2013 at h
  rcases de_m h with ⟨rfl, rfl⟩ | h
  · exact (show am_meth (aP sa) 334 = some aM_334.1 from rfl)
  rcases de_m h with ⟨rfl, rfl⟩ | h
  · exact (show am_meth (aP sa) 329 = some aM_329.1 from rfl)
  rcases de_m h with ⟨rfl, rfl⟩ | h
  · exact (show am_meth (aP sa) 328 = some aM_328.1 from rfl)
  cases h
noncomputable def tV_2013 : tc_Ev := (aQ, tp_T, tp_G.2, tp_Z, tM_2013, tC_2013, tr_L, tK_2013.2.2.2.2.1, aM_327.1, aW_327, tK_2013.2.1, tK_2013.2.2.2.2.2, tJ_2013)
theorem tE_2013 : tK_2013.2.2.2.2.2.all (tc_wex tK_2013.2.1.1 tK_2013.2.1.2) = true := by decide +kernel
theorem tSS_2013 : tC_2013.all (fun c => tw_mg tK_2013.2.2.2.2.1 c.2.2.2.2.1) = true := by decide +kernel
theorem tHC_2013 : ∀ c ∈ tC_2013, c.2.2.2.2.1.all tK_2013.2.2.2.2.1.contains = true ∧ c.2.2.2.2.2.all (tc_wex c.2.1.1 c.2.1.2) = true := tf_hc tSS_2013 (by
  intro c hc
  have hc : c ∈ ([tK_2005, tK_2010, tK_2012] : List tc_Ct) := hc
  rcases List.mem_cons.mp hc with rfl | hc
  · exact tE_2005
  rcases List.mem_cons.mp hc with rfl | hc
  · exact tE_2010
  rcases List.mem_cons.mp hc with rfl | hc
  · exact tE_2012
  cases hc)
noncomputable def tH_2013_0 : List tc_It := [de_it 0x4010000, de_it 0x101010101000101000000000000000000000000000000010a00020001010000020006, de_it 0x8010000, de_it 0x102010100010001010301010102010100010001000000000000000000000000000000030f000000020101000003020002030006, de_it 0x2010000, de_it 0x115010101140101000000000000000000000000000000000a00020601010004020006, de_it 0x1030101010201010101010101000101000000000000000000000000000100010c0000010007]
set_option maxRecDepth 100000 in
theorem tR_2013 : fw_go tV_2013 tK_2013.2.1.1 tK_2013.2.1.2 none tH_2013_0 [(tK_2013.2.1, tK_2013.2.2.2.1, 0, tc_args 0 tK_2013.2.2.1, [], ([], 0), ([], 0))] = true := by decide +kernel
set_option maxRecDepth 100000 in
theorem tT_2013 {RO : am_O} {sa : Nat → Nat} (h_2005 : tc_true (aP sa) tp_G RO tp_T tp_Z tK_2005) (h_2010 : tc_true (aP sa) tp_G RO tp_T tp_Z tK_2010) (h_2012 : tc_true (aP sa) tp_G RO tp_T tp_Z tK_2012) : tc_true (aP sa) tp_G RO tp_T tp_Z tK_2013 := by
  have hC : ∀ c ∈ tC_2013, tc_true (aP sa) tp_G RO tp_T tp_Z c := by
    intro c hc
    have hc : c ∈ ([tK_2005, tK_2010, tK_2012] : List tc_Ct) := hc
    rcases List.mem_cons.mp hc with rfl | hc
    · exact h_2005
    rcases List.mem_cons.mp hc with rfl | hc
    · exact h_2010
    rcases List.mem_cons.mp hc with rfl | hc
    · exact h_2012
    cases hc
  have hP : ∀ p ∈ tJ_2013, ∃ hs, tc_plk (aP sa, tV_2013.2) p hs = true := by
    intro p hp
    have hp : p ∈ ([] : List tc_Pl) := hp
    cases hp
  exact tc_main (mt := aM_327.1) (hs := tH_2013_0) (PL := tJ_2013) ⟨tp_G_ok, tMs_2013 _, hC, tr_L_ok, tp_G_re⟩ (show am_meth (aP sa) 327 = some aM_327.1 from rfl) aX_327 (by decide +kernel) hP ((tc_go_sa (aP_sa sa _)).trans ((fw_go_s tHC_2013).trans tR_2013))
noncomputable def tK_2014 : tc_Ct := (326, (1, 1), [(2, ([], 0), 0), (0, ([(0, 1)], 0), 0)], ([([(0, -1)], 2147483647), ([(0, 1)], 2147483648)], [(0, 0)], [], [], [], [], []), [(0, 1), (0, 5), (0, 6), (0, 7), (0, 8), (0, 9), (0, 10), (0, 11)], [((1, 1), ([([(0, -1)], 2147483647), ([(0, 1)], 2147483648)], [], [], [], [], [], []), some (1, ([], 0), 0), ([], 0), ([], 0))])
noncomputable def tJ_2014 : List tc_Pl := []
noncomputable def tC_2014 : List tc_Ct := [tK_2000, tK_2013]
def tM_2014 (z : Nat) : Option am_Meth := if z = 327 then some aM_327.1 else if z = 321 then some aM_321.1 else none
set_option maxRecDepth 100000 in
theorem tMs_2014 (sa : Nat → Nat) : ∀ z mz, tM_2014 z = some mz → am_meth (aP sa) z = some mz := by
  intro z mz h
  unfold tM_2014 at h
  rcases de_m h with ⟨rfl, rfl⟩ | h
  · exact (show am_meth (aP sa) 327 = some aM_327.1 from rfl)
  rcases de_m h with ⟨rfl, rfl⟩ | h
  · exact (show am_meth (aP sa) 321 = some aM_321.1 from rfl)
  cases h
noncomputable def tV_2014 : tc_Ev := (aQ, tp_T, tp_G.2, tp_Z, tM_2014, tC_2014, tr_L, tK_2014.2.2.2.2.1, aM_326.1, aW_326, tK_2014.2.1, tK_2014.2.2.2.2.2, tJ_2014)
theorem tE_2014 : tK_2014.2.2.2.2.2.all (tc_wex tK_2014.2.1.1 tK_2014.2.1.2) = true := by decide +kernel
theorem tSS_2014 : tC_2014.all (fun c => tw_mg tK_2014.2.2.2.2.1 c.2.2.2.2.1) = true := by decide +kernel
theorem tHC_2014 : ∀ c ∈ tC_2014, c.2.2.2.2.1.all tK_2014.2.2.2.2.1.contains = true ∧ c.2.2.2.2.2.all (tc_wex c.2.1.1 c.2.1.2) = true := tf_hc tSS_2014 (by
  intro c hc
  have hc : c ∈ ([tK_2000, tK_2013] : List tc_Ct) := hc
  rcases List.mem_cons.mp hc with rfl | hc
  · exact tE_2000
  rcases List.mem_cons.mp hc with rfl | hc
  · exact tE_2013
  cases hc)
noncomputable def tH_2014_0 : List tc_It := [de_it 0x8010000, de_it 0x10001000100010101010101000101000000000000000000000000000000000e02000000000200010300010006, de_it 0x10000010801010300000001, de_it 0x2010000, de_it 0x101010101000101000000000000000000000000000100010a0000010007, de_it 0x1010b010100000300000001, de_it 0x6010000, de_it 0x2, de_it 0x4010000, de_it 0x2, de_it 0x10b0101010c01010109010101080101000000000000000000000000000000040c000201010002000102020002030006, de_it 0x6010000, de_it 0x10001000000000400000003, de_it 0x2010000, de_it 0x109010101080101000000000000000000000000000100010a0000010007]
set_option maxRecDepth 100000 in
theorem tR_2014 : fw_go tV_2014 tK_2014.2.1.1 tK_2014.2.1.2 none tH_2014_0 [(tK_2014.2.1, tK_2014.2.2.2.1, 0, tc_args 0 tK_2014.2.2.1, [], ([], 0), ([], 0))] = true := by decide +kernel
set_option maxRecDepth 100000 in
theorem tT_2014 {RO : am_O} {sa : Nat → Nat} (h_2000 : tc_true (aP sa) tp_G RO tp_T tp_Z tK_2000) (h_2013 : tc_true (aP sa) tp_G RO tp_T tp_Z tK_2013) : tc_true (aP sa) tp_G RO tp_T tp_Z tK_2014 := by
  have hC : ∀ c ∈ tC_2014, tc_true (aP sa) tp_G RO tp_T tp_Z c := by
    intro c hc
    have hc : c ∈ ([tK_2000, tK_2013] : List tc_Ct) := hc
    rcases List.mem_cons.mp hc with rfl | hc
    · exact h_2000
    rcases List.mem_cons.mp hc with rfl | hc
    · exact h_2013
    cases hc
  have hP : ∀ p ∈ tJ_2014, ∃ hs, tc_plk (aP sa, tV_2014.2) p hs = true := by
    intro p hp
    have hp : p ∈ ([] : List tc_Pl) := hp
    cases hp
  exact tc_main (mt := aM_326.1) (hs := tH_2014_0) (PL := tJ_2014) ⟨tp_G_ok, tMs_2014 _, hC, tr_L_ok, tp_G_re⟩ (show am_meth (aP sa) 326 = some aM_326.1 from rfl) aX_326 (by decide +kernel) hP ((tc_go_sa (aP_sa sa _)).trans ((fw_go_s tHC_2014).trans tR_2014))
noncomputable def tK_2015 : tc_Ct := (337, (1, 1), [(2, ([], 0), 0), (0, ([(0, 1)], 0), 0), (1, ([], 0), 0)], ([([(0, -1)], 254), ([(0, 1)], 1)], [(0, 0)], [], [], [], [], []), [(0, 5), (0, 6), (0, 7), (0, 8), (0, 9), (0, 10), (0, 11)], [((3, 1), ([([(0, -1)], 254), ([(0, 1)], 1), ([(1, -1)], 7), ([(1, 1)], 0), ([(2, -1)], 2147483647), ([(2, 1)], 2147483648)], [], [], [(0, 9, (0, ([(1, 1)], 0), 0)), (0, 10, (1, ([], 0), 0)), (0, 11, (0, ([(2, 1)], 0), 0))], [], [], []), none, ([], 0), ([], 0))])
noncomputable def tL_2015_0 : tc_Pl := de_pl 0x30d2eff00020201010000000000030d2eff00030000000000000002010100040000000102000000020003090000000000020301000b00000000010a00000002020100090003000000010e01020101020000000100000000ff02030100000000fffffffeff010301000202010e0102010e0101010202000100000000000001fcff010001080104
noncomputable def tJ_2015 : List tc_Pl := [tL_2015_0]
noncomputable def tC_2015 : List tc_Ct := [tK_2005, tK_2009]
def tM_2015 (z : Nat) : Option am_Meth := if z = 330 then some aM_330.1 else if z = 328 then some aM_328.1 else none
set_option maxRecDepth 100000 in
theorem tMs_2015 (sa : Nat → Nat) : ∀ z mz, tM_2015 z = some mz → am_meth (aP sa) z = some mz := by
  intro z mz h
  unfold tM_2015 at h
  rcases de_m h with ⟨rfl, rfl⟩ | h
  · exact (show am_meth (aP sa) 330 = some aM_330.1 from rfl)
  rcases de_m h with ⟨rfl, rfl⟩ | h
  · exact (show am_meth (aP sa) 328 = some aM_328.1 from rfl)
  cases h
noncomputable def tV_2015 : tc_Ev := (aQ, tp_T, tp_G.2, tp_Z, tM_2015, tC_2015, tr_L, tK_2015.2.2.2.2.1, aM_337.1, aW_337, tK_2015.2.1, tK_2015.2.2.2.2.2, tJ_2015)
theorem tE_2015 : tK_2015.2.2.2.2.2.all (tc_wex tK_2015.2.1.1 tK_2015.2.1.2) = true := by decide +kernel
theorem tSS_2015 : tC_2015.all (fun c => tw_mg tK_2015.2.2.2.2.1 c.2.2.2.2.1) = true := by decide +kernel
theorem tHC_2015 : ∀ c ∈ tC_2015, c.2.2.2.2.1.all tK_2015.2.2.2.2.1.contains = true ∧ c.2.2.2.2.2.all (tc_wex c.2.1.1 c.2.1.2) = true := tf_hc tSS_2015 (by
  intro c hc
  have hc : c ∈ ([tK_2005, tK_2009] : List tc_Ct) := hc
  rcases List.mem_cons.mp hc with rfl | hc
  · exact tE_2005
  rcases List.mem_cons.mp hc with rfl | hc
  · exact tE_2009
  cases hc)
noncomputable def tH_2015_0 : List tc_It := [de_it 0x4010000, de_it 0x101010101000101000000000000000000000000000000010a00020001010000020006, de_it 0x4010000, de_it 0x10001000100010001000101010101010001010000000000000000000000000001000110000000000e000300010008]
set_option maxRecDepth 100000 in
theorem tR_2015 : fw_go tV_2015 tK_2015.2.1.1 tK_2015.2.1.2 none tH_2015_0 [(tK_2015.2.1, tK_2015.2.2.2.1, 0, tc_args 0 tK_2015.2.2.1, [], ([], 0), ([], 0))] = true := by decide +kernel
noncomputable def tH_2015_1 : List tc_It := [de_it 0x2010000, de_it 0x300000001, de_it 0x10601010105010101040101010301010101010101000101000000000000000000000000000100010e00020301000202010200010007, de_it 0x8010000, de_it 0x8020101080801010200000001, de_it 0x2010000, de_it 0x101, de_it 0x6010000, de_it 0x1010c01010001010b0101040010010001, de_it 0x104010101030101010d0101010e0101000000000000000000000000000000010c0002020100020601020002020006, de_it 0x207011901180302010801010200000001, de_it 0x2010000, de_it 0x1180107020101140101011301010116010101180117020202070119011803020101010101000101000000000108010100010000000100010001100002070100020801010201010300010008]
set_option maxRecDepth 100000 in
theorem tP_2015_0 : fw_plk tV_2015 tL_2015_0 tH_2015_1 = true := by decide +kernel
set_option maxRecDepth 100000 in
theorem tT_2015 {RO : am_O} {sa : Nat → Nat} (h_2005 : tc_true (aP sa) tp_G RO tp_T tp_Z tK_2005) (h_2009 : tc_true (aP sa) tp_G RO tp_T tp_Z tK_2009) : tc_true (aP sa) tp_G RO tp_T tp_Z tK_2015 := by
  have hC : ∀ c ∈ tC_2015, tc_true (aP sa) tp_G RO tp_T tp_Z c := by
    intro c hc
    have hc : c ∈ ([tK_2005, tK_2009] : List tc_Ct) := hc
    rcases List.mem_cons.mp hc with rfl | hc
    · exact h_2005
    rcases List.mem_cons.mp hc with rfl | hc
    · exact h_2009
    cases hc
  have hP : ∀ p ∈ tJ_2015, ∃ hs, tc_plk (aP sa, tV_2015.2) p hs = true := by
    intro p hp
    have hp : p ∈ ([tL_2015_0] : List tc_Pl) := hp
    rcases List.mem_cons.mp hp with rfl | hp
    · exact ⟨_, (tc_plk_sa (aP_sa sa _)).trans ((fw_plk_s tHC_2015).trans tP_2015_0)⟩
    cases hp
  exact tc_main (mt := aM_337.1) (hs := tH_2015_0) (PL := tJ_2015) ⟨tp_G_ok, tMs_2015 _, hC, tr_L_ok, tp_G_re⟩ (show am_meth (aP sa) 337 = some aM_337.1 from rfl) aX_337 (by decide +kernel) hP ((tc_go_sa (aP_sa sa _)).trans ((fw_go_s tHC_2015).trans tR_2015))
noncomputable def tK_2016 : tc_Ct := (339, (1, 1), [(2, ([], 0), 0), (1, ([], 0), 0)], ([([(0, -1)], 7), ([(0, 1)], 0)], [(0, 0)], [], [(0, 9, (0, ([(0, 1)], 0), 0))], [], [], []), [(0, 5), (0, 6), (0, 7), (0, 8), (0, 9), (0, 10), (0, 11)], [((2, 1), ([([(0, -1)], 7), ([(0, 1)], 0), ([(1, -1)], 7), ([(1, 1)], 0)], [], [], [(0, 9, (0, ([(1, 1)], 0), 0))], [], [], []), none, ([], 0), ([], 0))])
noncomputable def tL_2016_0 : tc_Pl := de_pl 0x30d3aff00020201010000000000030d3aff000300000000000000020101000300000001010000000200030300000000000202010009000100000001000202010e0102010e010101000200010e010001050103
noncomputable def tJ_2016 : List tc_Pl := [tL_2016_0]
noncomputable def tC_2016 : List tc_Ct := [tK_2009]
def tM_2016 (z : Nat) : Option am_Meth := if z = 330 then some aM_330.1 else none
set_option maxRecDepth 100000 in
theorem tMs_2016 (sa : Nat → Nat) : ∀ z mz, tM_2016 z = some mz → am_meth (aP sa) z = some mz := by
  intro z mz h
  unfold tM_2016 at h
  rcases de_m h with ⟨rfl, rfl⟩ | h
  · exact (show am_meth (aP sa) 330 = some aM_330.1 from rfl)
  cases h
noncomputable def tV_2016 : tc_Ev := (aQ, tp_T, tp_G.2, tp_Z, tM_2016, tC_2016, tr_L, tK_2016.2.2.2.2.1, aM_339.1, aW_339, tK_2016.2.1, tK_2016.2.2.2.2.2, tJ_2016)
theorem tE_2016 : tK_2016.2.2.2.2.2.all (tc_wex tK_2016.2.1.1 tK_2016.2.1.2) = true := by decide +kernel
theorem tSS_2016 : tC_2016.all (fun c => tw_mg tK_2016.2.2.2.2.1 c.2.2.2.2.1) = true := by decide +kernel
theorem tHC_2016 : ∀ c ∈ tC_2016, c.2.2.2.2.1.all tK_2016.2.2.2.2.1.contains = true ∧ c.2.2.2.2.2.all (tc_wex c.2.1.1 c.2.1.2) = true := tf_hc tSS_2016 (by
  intro c hc
  have hc : c ∈ ([tK_2009] : List tc_Ct) := hc
  rcases List.mem_cons.mp hc with rfl | hc
  · exact tE_2009
  cases hc)
noncomputable def tH_2016_0 : List tc_It := [de_it 0x4010000, de_it 0x10101010100010100010101010101000101000000000000000000000000000100010d000200010e000200010008]
set_option maxRecDepth 100000 in
theorem tR_2016 : fw_go tV_2016 tK_2016.2.1.1 tK_2016.2.1.2 none tH_2016_0 [(tK_2016.2.1, tK_2016.2.2.2.1, 0, tc_args 0 tK_2016.2.2.1, [], ([], 0), ([], 0))] = true := by decide +kernel
noncomputable def tH_2016_1 : List tc_It := [de_it 0x2010000, de_it 0x300000001, de_it 0x1040101010301010101010101000101000000000000000000000000000100010c000202010100010007, de_it 0x8010000, de_it 0x8020101080501010200000001, de_it 0x2010000, de_it 0x101, de_it 0x4010000, de_it 0x1040101010301010108010101090101000000000000000000000000000000010c0002020100020401020000020006, de_it 0x1020101010501010200000001, de_it 0x2010000, de_it 0x11101010113011202020102010101010101010001010000000001050101000100000001000100010d00020601010201010200010008]
set_option maxRecDepth 100000 in
theorem tP_2016_0 : fw_plk tV_2016 tL_2016_0 tH_2016_1 = true := by decide +kernel
set_option maxRecDepth 100000 in
theorem tT_2016 {RO : am_O} {sa : Nat → Nat} (h_2009 : tc_true (aP sa) tp_G RO tp_T tp_Z tK_2009) : tc_true (aP sa) tp_G RO tp_T tp_Z tK_2016 := by
  have hC : ∀ c ∈ tC_2016, tc_true (aP sa) tp_G RO tp_T tp_Z c := by
    intro c hc
    have hc : c ∈ ([tK_2009] : List tc_Ct) := hc
    rcases List.mem_cons.mp hc with rfl | hc
    · exact h_2009
    cases hc
  have hP : ∀ p ∈ tJ_2016, ∃ hs, tc_plk (aP sa, tV_2016.2) p hs = true := by
    intro p hp
    have hp : p ∈ ([tL_2016_0] : List tc_Pl) := hp
    rcases List.mem_cons.mp hp with rfl | hp
    · exact ⟨_, (tc_plk_sa (aP_sa sa _)).trans ((fw_plk_s tHC_2016).trans tP_2016_0)⟩
    cases hp
  exact tc_main (mt := aM_339.1) (hs := tH_2016_0) (PL := tJ_2016) ⟨tp_G_ok, tMs_2016 _, hC, tr_L_ok, tp_G_re⟩ (show am_meth (aP sa) 339 = some aM_339.1 from rfl) aX_339 (by decide +kernel) hP ((tc_go_sa (aP_sa sa _)).trans ((fw_go_s tHC_2016).trans tR_2016))
noncomputable def tK_2017 : tc_Ct := (338, (2, 1), [(2, ([], 0), 0), (0, ([(0, 1)], 0), 0), (1, ([], 0), 0)], ([([(0, -1)], 254), ([(0, 1)], 1), ([(1, -1)], 7), ([(1, 1)], 0)], [(0, 0)], [], [(0, 9, (0, ([(1, 1)], 0), 0))], [], [], []), [(0, 5), (0, 6), (0, 7), (0, 8), (0, 9), (0, 10), (0, 11)], [((2, 1), ([([(0, -1)], 254), ([(0, 1)], 1), ([(1, -1)], 7), ([(1, 1)], 0)], [], [], [(0, 9, (0, ([], 0), 0)), (0, 10, (1, ([], 0), 0))], [], [], []), some (1, ([], 0), 0), ([], 0), ([], 0))])
noncomputable def tL_2017_0 : tc_Pl := de_pl 0x30d22ff00020202010000000000030d22ff0003000000000000000202010006000000010400000001020000000200040f0000000000020401000b00000000010a00000002030100090003000000010e0103010202000203010e0103010e010201000201010e0101010202000100000000000001fcff010001080105
noncomputable def tJ_2017 : List tc_Pl := [tL_2017_0]
noncomputable def tC_2017 : List tc_Ct := [tK_2012, tK_2005, tK_2016, tK_2009]
def tM_2017 (z : Nat) : Option am_Meth := if z = 339 then some aM_339.1 else if z = 334 then some aM_334.1 else if z = 330 then some aM_330.1 else if z = 328 then some aM_328.1 else none
set_option maxRecDepth 100000 in
theorem tMs_2017 (sa : Nat → Nat) : ∀ z mz, tM_2017 z = some mz → am_meth (aP sa) z = some mz := by
  intro z mz h
  unfold tM_2017 at h
  rcases de_m h with ⟨rfl, rfl⟩ | h
  · exact (show am_meth (aP sa) 339 = some aM_339.1 from rfl)
  rcases de_m h with ⟨rfl, rfl⟩ | h
  · exact (show am_meth (aP sa) 334 = some aM_334.1 from rfl)
  rcases de_m h with ⟨rfl, rfl⟩ | h
  · exact (show am_meth (aP sa) 330 = some aM_330.1 from rfl)
  rcases de_m h with ⟨rfl, rfl⟩ | h
  · exact (show am_meth (aP sa) 328 = some aM_328.1 from rfl)
  cases h
noncomputable def tV_2017 : tc_Ev := (aQ, tp_T, tp_G.2, tp_Z, tM_2017, tC_2017, tr_L, tK_2017.2.2.2.2.1, aM_338.1, aW_338, tK_2017.2.1, tK_2017.2.2.2.2.2, tJ_2017)
theorem tE_2017 : tK_2017.2.2.2.2.2.all (tc_wex tK_2017.2.1.1 tK_2017.2.1.2) = true := by decide +kernel
theorem tSS_2017 : tC_2017.all (fun c => tw_mg tK_2017.2.2.2.2.1 c.2.2.2.2.1) = true := by decide +kernel
theorem tHC_2017 : ∀ c ∈ tC_2017, c.2.2.2.2.1.all tK_2017.2.2.2.2.1.contains = true ∧ c.2.2.2.2.2.all (tc_wex c.2.1.1 c.2.1.2) = true := tf_hc tSS_2017 (by
  intro c hc
  have hc : c ∈ ([tK_2012, tK_2005, tK_2016, tK_2009] : List tc_Ct) := hc
  rcases List.mem_cons.mp hc with rfl | hc
  · exact tE_2012
  rcases List.mem_cons.mp hc with rfl | hc
  · exact tE_2005
  rcases List.mem_cons.mp hc with rfl | hc
  · exact tE_2016
  rcases List.mem_cons.mp hc with rfl | hc
  · exact tE_2009
  cases hc)
noncomputable def tH_2017_0 : List tc_It := [de_it 0x2010000, de_it 0x103010101020101000000000000000000000000000000000a00020101010000020006, de_it 0x6010000, de_it 0x101010101000101000000000000000000000000000000010a00020001010002020006, de_it 0x4010000, de_it 0x1000100010001010301010102010101010101010001010000000000000000000000000001000110000000000e000300010008]
set_option maxRecDepth 100000 in
theorem tR_2017 : fw_go tV_2017 tK_2017.2.1.1 tK_2017.2.1.2 none tH_2017_0 [(tK_2017.2.1, tK_2017.2.2.2.1, 0, tc_args 0 tK_2017.2.2.1, [], ([], 0), ([], 0))] = true := by decide +kernel
noncomputable def tH_2017_1 : List tc_It := [de_it 0x2010000, de_it 0x300000001, de_it 0x4010000, de_it 0x106010101050101000000000000000000000000000000010a00020301010004020006, de_it 0x2010000, de_it 0x10c0101010b0101000000000000000000000000000000000a00020501010000020006, de_it 0x1030101010201010101010101000101000000000000000000000000000100010c0000010007, de_it 0x8010000, de_it 0x8040101080801010200000001, de_it 0x2010000, de_it 0x101, de_it 0x6010000, de_it 0x1010c01010001010b0101040010010001, de_it 0x106010101050101010d0101010e0101000000000000000000000000000000010c0002030100020701020006020006, de_it 0x207011901180302010801010200000001, de_it 0x2010000, de_it 0x1180107020101160101011801170202020701190118030201030101010201010101010101000101000000000108010100010000000100010001100002080100020901010202010300010008]
set_option maxRecDepth 100000 in
theorem tP_2017_0 : fw_plk tV_2017 tL_2017_0 tH_2017_1 = true := by decide +kernel
set_option maxRecDepth 100000 in
theorem tT_2017 {RO : am_O} {sa : Nat → Nat} (h_2005 : tc_true (aP sa) tp_G RO tp_T tp_Z tK_2005) (h_2009 : tc_true (aP sa) tp_G RO tp_T tp_Z tK_2009) (h_2012 : tc_true (aP sa) tp_G RO tp_T tp_Z tK_2012) (h_2016 : tc_true (aP sa) tp_G RO tp_T tp_Z tK_2016) : tc_true (aP sa) tp_G RO tp_T tp_Z tK_2017 := by
  have hC : ∀ c ∈ tC_2017, tc_true (aP sa) tp_G RO tp_T tp_Z c := by
    intro c hc
    have hc : c ∈ ([tK_2012, tK_2005, tK_2016, tK_2009] : List tc_Ct) := hc
    rcases List.mem_cons.mp hc with rfl | hc
    · exact h_2012
    rcases List.mem_cons.mp hc with rfl | hc
    · exact h_2005
    rcases List.mem_cons.mp hc with rfl | hc
    · exact h_2016
    rcases List.mem_cons.mp hc with rfl | hc
    · exact h_2009
    cases hc
  have hP : ∀ p ∈ tJ_2017, ∃ hs, tc_plk (aP sa, tV_2017.2) p hs = true := by
    intro p hp
    have hp : p ∈ ([tL_2017_0] : List tc_Pl) := hp
    rcases List.mem_cons.mp hp with rfl | hp
    · exact ⟨_, (tc_plk_sa (aP_sa sa _)).trans ((fw_plk_s tHC_2017).trans tP_2017_0)⟩
    cases hp
  exact tc_main (mt := aM_338.1) (hs := tH_2017_0) (PL := tJ_2017) ⟨tp_G_ok, tMs_2017 _, hC, tr_L_ok, tp_G_re⟩ (show am_meth (aP sa) 338 = some aM_338.1 from rfl) aX_338 (by decide +kernel) hP ((tc_go_sa (aP_sa sa _)).trans ((fw_go_s tHC_2017).trans tR_2017))
noncomputable def tK_2018 : tc_Ct := (336, (1, 1), [(2, ([], 0), 0), (0, ([(0, 1)], 0), 0), (1, ([], 0), 0)], ([([(0, -1)], 2147483647), ([(0, 1)], 2147483648)], [(0, 0)], [], [], [], [], []), [(0, 1), (0, 5), (0, 6), (0, 7), (0, 8), (0, 9), (0, 10), (0, 11)], [((1, 1), ([([(0, -1)], 2147483647), ([(0, 1)], 2147483648)], [], [], [], [], [], []), some (1, ([], 0), 0), ([], 0), ([], 0))])
noncomputable def tJ_2018 : List tc_Pl := []
noncomputable def tC_2018 : List tc_Ct := [tK_2000, tK_2015, tK_2010, tK_2017]
def tM_2018 (z : Nat) : Option am_Meth := if z = 338 then some aM_338.1 else if z = 337 then some aM_337.1 else if z = 329 then some aM_329.1 else if z = 321 then some aM_321.1 else none
set_option maxRecDepth 100000 in
theorem tMs_2018 (sa : Nat → Nat) : ∀ z mz, tM_2018 z = some mz → am_meth (aP sa) z = some mz := by
  intro z mz h
  unfold tM_2018 at h
  rcases de_m h with ⟨rfl, rfl⟩ | h
  · exact (show am_meth (aP sa) 338 = some aM_338.1 from rfl)
  rcases de_m h with ⟨rfl, rfl⟩ | h
  · exact (show am_meth (aP sa) 337 = some aM_337.1 from rfl)
  rcases de_m h with ⟨rfl, rfl⟩ | h
  · exact (show am_meth (aP sa) 329 = some aM_329.1 from rfl)
  rcases de_m h with ⟨rfl, rfl⟩ | h
  · exact (show am_meth (aP sa) 321 = some aM_321.1 from rfl)
  cases h
noncomputable def tV_2018 : tc_Ev := (aQ, tp_T, tp_G.2, tp_Z, tM_2018, tC_2018, tr_L, tK_2018.2.2.2.2.1, aM_336.1, aW_336, tK_2018.2.1, tK_2018.2.2.2.2.2, tJ_2018)
theorem tE_2018 : tK_2018.2.2.2.2.2.all (tc_wex tK_2018.2.1.1 tK_2018.2.1.2) = true := by decide +kernel
theorem tSS_2018 : tC_2018.all (fun c => tw_mg tK_2018.2.2.2.2.1 c.2.2.2.2.1) = true := by decide +kernel
theorem tHC_2018 : ∀ c ∈ tC_2018, c.2.2.2.2.1.all tK_2018.2.2.2.2.1.contains = true ∧ c.2.2.2.2.2.all (tc_wex c.2.1.1 c.2.1.2) = true := tf_hc tSS_2018 (by
  intro c hc
  have hc : c ∈ ([tK_2000, tK_2015, tK_2010, tK_2017] : List tc_Ct) := hc
  rcases List.mem_cons.mp hc with rfl | hc
  · exact tE_2000
  rcases List.mem_cons.mp hc with rfl | hc
  · exact tE_2015
  rcases List.mem_cons.mp hc with rfl | hc
  · exact tE_2010
  rcases List.mem_cons.mp hc with rfl | hc
  · exact tE_2017
  cases hc)
noncomputable def tH_2018_0 : List tc_It := [de_it 0x8010000, de_it 0x10001000100010101010101000101000000000000000000000000000000000e02000000000200010300010006, de_it 0x10000010801010300000001, de_it 0x2010000, de_it 0x101010101000101000000000000000000000000000100010a0000010007, de_it 0x1010b010100000300000001, de_it 0x6010000, de_it 0x109010101080101000000000000000000000000000000020a00020001010002020006, de_it 0x4010000, de_it 0x2, de_it 0x4010000, de_it 0x2, de_it 0x1120101010e0101010d0101011101010112010100010001000000000000000000000000000000030f0002010100020301000003020004030006, de_it 0x4010000, de_it 0x10001000000000400000003, de_it 0x6010000, de_it 0x11a0101011901010109010101080101000000000000000000000000000000020c0002040100020001020006020006, de_it 0x109010101080101000000000000000000000000000100010a0000010007]
set_option maxRecDepth 100000 in
theorem tR_2018 : fw_go tV_2018 tK_2018.2.1.1 tK_2018.2.1.2 none tH_2018_0 [(tK_2018.2.1, tK_2018.2.2.2.1, 0, tc_args 0 tK_2018.2.2.1, [], ([], 0), ([], 0))] = true := by decide +kernel
set_option maxRecDepth 100000 in
theorem tT_2018 {RO : am_O} {sa : Nat → Nat} (h_2000 : tc_true (aP sa) tp_G RO tp_T tp_Z tK_2000) (h_2010 : tc_true (aP sa) tp_G RO tp_T tp_Z tK_2010) (h_2015 : tc_true (aP sa) tp_G RO tp_T tp_Z tK_2015) (h_2017 : tc_true (aP sa) tp_G RO tp_T tp_Z tK_2017) : tc_true (aP sa) tp_G RO tp_T tp_Z tK_2018 := by
  have hC : ∀ c ∈ tC_2018, tc_true (aP sa) tp_G RO tp_T tp_Z c := by
    intro c hc
    have hc : c ∈ ([tK_2000, tK_2015, tK_2010, tK_2017] : List tc_Ct) := hc
    rcases List.mem_cons.mp hc with rfl | hc
    · exact h_2000
    rcases List.mem_cons.mp hc with rfl | hc
    · exact h_2015
    rcases List.mem_cons.mp hc with rfl | hc
    · exact h_2010
    rcases List.mem_cons.mp hc with rfl | hc
    · exact h_2017
    cases hc
  have hP : ∀ p ∈ tJ_2018, ∃ hs, tc_plk (aP sa, tV_2018.2) p hs = true := by
    intro p hp
    have hp : p ∈ ([] : List tc_Pl) := hp
    cases hp
  exact tc_main (mt := aM_336.1) (hs := tH_2018_0) (PL := tJ_2018) ⟨tp_G_ok, tMs_2018 _, hC, tr_L_ok, tp_G_re⟩ (show am_meth (aP sa) 336 = some aM_336.1 from rfl) aX_336 (by decide +kernel) hP ((tc_go_sa (aP_sa sa _)).trans ((fw_go_s tHC_2018).trans tR_2018))
noncomputable def tK_2019 : tc_Ct := (341, (2, 1), [(2, ([], 0), 0), (0, ([(0, 1)], 0), 0), (1, ([], 0), 0), (0, ([(1, 1)], 0), 0), (1, ([], 0), 0)], ([([(0, -1)], 1), ([(0, 1)], 0), ([(1, -1)], 255), ([(1, 1)], 0)], [(0, 0)], [], [], [], [], []), [(0, 5), (0, 6), (0, 7), (0, 8), (0, 9), (0, 10), (0, 11)], [((2, 1), ([([(0, -1)], 1), ([(0, 1)], 0), ([(1, -1)], 255), ([(1, 1)], 0)], [], [], [(0, 9, (0, ([], 0), 0)), (0, 10, (1, ([], 0), 0))], [], [], []), some (1, ([], 0), 0), ([], 0), ([], 0))])
noncomputable def tJ_2019 : List tc_Pl := []
noncomputable def tC_2019 : List tc_Ct := [tK_2015, tK_2009, tK_2016, tK_2017]
def tM_2019 (z : Nat) : Option am_Meth := if z = 339 then some aM_339.1 else if z = 338 then some aM_338.1 else if z = 337 then some aM_337.1 else if z = 330 then some aM_330.1 else none
set_option maxRecDepth 100000 in
theorem tMs_2019 (sa : Nat → Nat) : ∀ z mz, tM_2019 z = some mz → am_meth (aP sa) z = some mz := by
  intro z mz h
  unfold tM_2019 at h
  rcases de_m h with ⟨rfl, rfl⟩ | h
  · exact (show am_meth (aP sa) 339 = some aM_339.1 from rfl)
  rcases de_m h with ⟨rfl, rfl⟩ | h
  · exact (show am_meth (aP sa) 338 = some aM_338.1 from rfl)
  rcases de_m h with ⟨rfl, rfl⟩ | h
  · exact (show am_meth (aP sa) 337 = some aM_337.1 from rfl)
  rcases de_m h with ⟨rfl, rfl⟩ | h
  · exact (show am_meth (aP sa) 330 = some aM_330.1 from rfl)
  cases h
noncomputable def tV_2019 : tc_Ev := (aQ, tp_T, tp_G.2, tp_Z, tM_2019, tC_2019, tr_L, tK_2019.2.2.2.2.1, aM_341.1, aW_341, tK_2019.2.1, tK_2019.2.2.2.2.2, tJ_2019)
theorem tE_2019 : tK_2019.2.2.2.2.2.all (tc_wex tK_2019.2.1.1 tK_2019.2.1.2) = true := by decide +kernel
theorem tSS_2019 : tC_2019.all (fun c => tw_mg tK_2019.2.2.2.2.1 c.2.2.2.2.1) = true := by decide +kernel
theorem tHC_2019 : ∀ c ∈ tC_2019, c.2.2.2.2.1.all tK_2019.2.2.2.2.1.contains = true ∧ c.2.2.2.2.2.all (tc_wex c.2.1.1 c.2.1.2) = true := tf_hc tSS_2019 (by
  intro c hc
  have hc : c ∈ ([tK_2015, tK_2009, tK_2016, tK_2017] : List tc_Ct) := hc
  rcases List.mem_cons.mp hc with rfl | hc
  · exact tE_2015
  rcases List.mem_cons.mp hc with rfl | hc
  · exact tE_2009
  rcases List.mem_cons.mp hc with rfl | hc
  · exact tE_2016
  rcases List.mem_cons.mp hc with rfl | hc
  · exact tE_2017
  cases hc)
noncomputable def tH_2019_0 : List tc_It := [de_it 0x6010000, de_it 0x101010101000101000000000000000000000000000000020a00020001010000020006, de_it 0x4010000, de_it 0x1070101010601010103010101020101000000000000000000000000000000010c0002020100020101020002020006, de_it 0x4010000, de_it 0x1110101011301120202000000000000000000000000000000010a00020501010004020006, de_it 0x6010000, de_it 0x1180101011701010101010101000101000000000000000000000000000000020c0002060100020001020006020006, de_it 0x1030101010201010101010101000101000000000000000000000000000100010c0000010007]
set_option maxRecDepth 100000 in
theorem tR_2019 : fw_go tV_2019 tK_2019.2.1.1 tK_2019.2.1.2 none tH_2019_0 [(tK_2019.2.1, tK_2019.2.2.2.1, 0, tc_args 0 tK_2019.2.2.1, [], ([], 0), ([], 0))] = true := by decide +kernel
set_option maxRecDepth 100000 in
theorem tT_2019 {RO : am_O} {sa : Nat → Nat} (h_2009 : tc_true (aP sa) tp_G RO tp_T tp_Z tK_2009) (h_2015 : tc_true (aP sa) tp_G RO tp_T tp_Z tK_2015) (h_2016 : tc_true (aP sa) tp_G RO tp_T tp_Z tK_2016) (h_2017 : tc_true (aP sa) tp_G RO tp_T tp_Z tK_2017) : tc_true (aP sa) tp_G RO tp_T tp_Z tK_2019 := by
  have hC : ∀ c ∈ tC_2019, tc_true (aP sa) tp_G RO tp_T tp_Z c := by
    intro c hc
    have hc : c ∈ ([tK_2015, tK_2009, tK_2016, tK_2017] : List tc_Ct) := hc
    rcases List.mem_cons.mp hc with rfl | hc
    · exact h_2015
    rcases List.mem_cons.mp hc with rfl | hc
    · exact h_2009
    rcases List.mem_cons.mp hc with rfl | hc
    · exact h_2016
    rcases List.mem_cons.mp hc with rfl | hc
    · exact h_2017
    cases hc
  have hP : ∀ p ∈ tJ_2019, ∃ hs, tc_plk (aP sa, tV_2019.2) p hs = true := by
    intro p hp
    have hp : p ∈ ([] : List tc_Pl) := hp
    cases hp
  exact tc_main (mt := aM_341.1) (hs := tH_2019_0) (PL := tJ_2019) ⟨tp_G_ok, tMs_2019 _, hC, tr_L_ok, tp_G_re⟩ (show am_meth (aP sa) 341 = some aM_341.1 from rfl) aX_341 (by decide +kernel) hP ((tc_go_sa (aP_sa sa _)).trans ((fw_go_s tHC_2019).trans tR_2019))
noncomputable def tK_2020 : tc_Ct := (340, (2, 1), [(2, ([], 0), 0), (0, ([(0, 1)], 0), 0), (1, ([], 0), 0), (0, ([(1, 1)], 0), 0), (1, ([], 0), 0)], ([([(0, -1)], 2147483647), ([(0, 1)], 2147483648), ([(1, -1)], 2147483647), ([(1, 1)], 2147483648)], [(0, 0)], [], [], [], [], []), [(0, 5), (0, 6), (0, 7), (0, 8), (0, 9), (0, 10), (0, 11)], [((2, 1), ([([(0, -1)], 2147483647), ([(0, 1)], 2147483648), ([(1, -1)], 2147483647), ([(1, 1)], 2147483648)], [], [], [], [], [], []), some (1, ([], 0), 0), ([], 0), ([], 0))])
noncomputable def tJ_2020 : List tc_Pl := []
noncomputable def tC_2020 : List tc_Ct := [tK_2000, tK_2019]
def tM_2020 (z : Nat) : Option am_Meth := if z = 341 then some aM_341.1 else if z = 321 then some aM_321.1 else none
set_option maxRecDepth 100000 in
theorem tMs_2020 (sa : Nat → Nat) : ∀ z mz, tM_2020 z = some mz → am_meth (aP sa) z = some mz := by
  intro z mz h
  unfold tM_2020 at h
  rcases de_m h with ⟨rfl, rfl⟩ | h
  · exact (show am_meth (aP sa) 341 = some aM_341.1 from rfl)
  rcases de_m h with ⟨rfl, rfl⟩ | h
  · exact (show am_meth (aP sa) 321 = some aM_321.1 from rfl)
  cases h
noncomputable def tV_2020 : tc_Ev := (aQ, tp_T, tp_G.2, tp_Z, tM_2020, tC_2020, tr_L, tK_2020.2.2.2.2.1, aM_340.1, aW_340, tK_2020.2.1, tK_2020.2.2.2.2.2, tJ_2020)
theorem tE_2020 : tK_2020.2.2.2.2.2.all (tc_wex tK_2020.2.1.1 tK_2020.2.1.2) = true := by decide +kernel
theorem tSS_2020 : tC_2020.all (fun c => tw_mg tK_2020.2.2.2.2.1 c.2.2.2.2.1) = true := by decide +kernel
theorem tHC_2020 : ∀ c ∈ tC_2020, c.2.2.2.2.1.all tK_2020.2.2.2.2.1.contains = true ∧ c.2.2.2.2.2.all (tc_wex c.2.1.1 c.2.1.2) = true := tf_hc tSS_2020 (by
  intro c hc
  have hc : c ∈ ([tK_2000, tK_2019] : List tc_Ct) := hc
  rcases List.mem_cons.mp hc with rfl | hc
  · exact tE_2000
  rcases List.mem_cons.mp hc with rfl | hc
  · exact tE_2019
  cases hc)
noncomputable def tH_2020_0 : List tc_It := [de_it 0x8010000, de_it 0x10001000100010101010101000101000000000000000000000000000000000e02000000000200010300010006, de_it 0x1010a010100000300000001, de_it 0x2010000, de_it 0x1030101010201010101010101000101000000000000000000000000000100010c0000010007, de_it 0x10000010d01010300000001, de_it 0x8010000, de_it 0x10001000100010103010101020101000000000000000000000000000000000e00000000000001feff000000000201010300010006, de_it 0x10113010100000300000001, de_it 0x2010000, de_it 0x103010101020101010b0101010a0101000000000000000000000000000100010c0000010007, de_it 0x10000011601010300000001, de_it 0xa010000, de_it 0x114010101130101010b0101010a0101000000000000000000000000000000040c0002010100020001020002020006, de_it 0x2010000, de_it 0x114010101130101010b0101010a0101000000000000000000000000000100010c0000010007]
set_option maxRecDepth 100000 in
theorem tR_2020 : fw_go tV_2020 tK_2020.2.1.1 tK_2020.2.1.2 none tH_2020_0 [(tK_2020.2.1, tK_2020.2.2.2.1, 0, tc_args 0 tK_2020.2.2.1, [], ([], 0), ([], 0))] = true := by decide +kernel
set_option maxRecDepth 100000 in
theorem tT_2020 {RO : am_O} {sa : Nat → Nat} (h_2000 : tc_true (aP sa) tp_G RO tp_T tp_Z tK_2000) (h_2019 : tc_true (aP sa) tp_G RO tp_T tp_Z tK_2019) : tc_true (aP sa) tp_G RO tp_T tp_Z tK_2020 := by
  have hC : ∀ c ∈ tC_2020, tc_true (aP sa) tp_G RO tp_T tp_Z c := by
    intro c hc
    have hc : c ∈ ([tK_2000, tK_2019] : List tc_Ct) := hc
    rcases List.mem_cons.mp hc with rfl | hc
    · exact h_2000
    rcases List.mem_cons.mp hc with rfl | hc
    · exact h_2019
    cases hc
  have hP : ∀ p ∈ tJ_2020, ∃ hs, tc_plk (aP sa, tV_2020.2) p hs = true := by
    intro p hp
    have hp : p ∈ ([] : List tc_Pl) := hp
    cases hp
  exact tc_main (mt := aM_340.1) (hs := tH_2020_0) (PL := tJ_2020) ⟨tp_G_ok, tMs_2020 _, hC, tr_L_ok, tp_G_re⟩ (show am_meth (aP sa) 340 = some aM_340.1 from rfl) aX_340 (by decide +kernel) hP ((tc_go_sa (aP_sa sa _)).trans ((fw_go_s tHC_2020).trans tR_2020))
noncomputable def tK_2021 : tc_Ct := (343, (1, 5), [(2, ([], 0), 0), (1, ([], 0), 0), (1, ([], 0), 0), (2, ([], 0), 1), (0, ([], 0), 0), (0, ([(0, 1)], 0), 0)], ([([(0, -1)], 800), ([(0, 1)], 0)], [(0, 0), (1, 2), (2, 88), (3, 87), (4, 94)], [], [(0, 115, (2, ([], 0), 3)), (0, 116, (2, ([], 0), 2)), (0, 122, (2, ([], 0), 4))], [], [], []), [(0, 5), (0, 6), (0, 7), (0, 8), (2, 0)], [((1, 5), ([([(0, -1)], 800), ([(0, 1)], 0)], [], [], [], [], [], []), none, ([], 0), ([], 0))])
noncomputable def tL_2021_0 : tc_Pl := de_pl 0x30d34ff000001010200020000000000030d34ff000300000000000000020101000a000000010800000200010007000000000601000002050000000103000000010100000002000806000000040000027a0002000002740003000002730003005e0457035802020100000500020101000200010000000000000640ff010001030502
noncomputable def tJ_2021 : List tc_Pl := [tL_2021_0]
noncomputable def tC_2021 : List tc_Ct := [tK_2007, tK_2011]
def tM_2021 (z : Nat) : Option am_Meth := if z = 335 then some aM_335.1 else if z = 332 then some aM_332.1 else none
set_option maxRecDepth 100000 in
theorem tMs_2021 (sa : Nat → Nat) : ∀ z mz, tM_2021 z = some mz → am_meth (aP sa) z = some mz := by
  intro z mz h
  unfold tM_2021 at h
  rcases de_m h with ⟨rfl, rfl⟩ | h
  · exact (show am_meth (aP sa) 335 = some aM_335.1 from rfl)
  rcases de_m h with ⟨rfl, rfl⟩ | h
  · exact (show am_meth (aP sa) 332 = some aM_332.1 from rfl)
  cases h
noncomputable def tV_2021 : tc_Ev := (aQ, tp_T, tp_G.2, tp_Z, tM_2021, tC_2021, tr_L, tK_2021.2.2.2.2.1, aM_343.1, aW_343, tK_2021.2.1, tK_2021.2.2.2.2.2, tJ_2021)
theorem tE_2021 : tK_2021.2.2.2.2.2.all (tc_wex tK_2021.2.1.1 tK_2021.2.1.2) = true := by decide +kernel
theorem tSS_2021 : tC_2021.all (fun c => tw_mg tK_2021.2.2.2.2.1 c.2.2.2.2.1) = true := by decide +kernel
theorem tHC_2021 : ∀ c ∈ tC_2021, c.2.2.2.2.1.all tK_2021.2.2.2.2.1.contains = true ∧ c.2.2.2.2.2.all (tc_wex c.2.1.1 c.2.1.2) = true := tf_hc tSS_2021 (by
  intro c hc
  have hc : c ∈ ([tK_2007, tK_2011] : List tc_Ct) := hc
  rcases List.mem_cons.mp hc with rfl | hc
  · exact tE_2007
  rcases List.mem_cons.mp hc with rfl | hc
  · exact tE_2011
  cases hc)
noncomputable def tH_2021_0 : List tc_It := [de_it 0x8010000, de_it 0x10101010101000101000000000000000000000000000100010b00000100010008]
set_option maxRecDepth 100000 in
theorem tR_2021 : fw_go tV_2021 tK_2021.2.1.1 tK_2021.2.1.2 none tH_2021_0 [(tK_2021.2.1, tK_2021.2.2.2.1, 0, tc_args 0 tK_2021.2.2.1, [], ([], 0), ([], 0))] = true := by decide +kernel
noncomputable def tH_2021_1 : List tc_It := [de_it 0x4010000, de_it 0x300000001, de_it 0x101010101000101000000000000000000000000000100010a0000010007, de_it 0x4010000, de_it 0x10201010100000201, de_it 0x1040101000000000300000001, de_it 0x6010000, de_it 0x10301000201010201010200000001, de_it 0x2010000, de_it 0x2010011, de_it 0x1030107010003010102010102000201010100010002, de_it 0xa010000, de_it 0x10201010100000201, de_it 0x80e0101080d01010200000001, de_it 0x80d0101080e01010200000001, de_it 0x2010000, de_it 0x101, de_it 0x4010000, de_it 0x1120101010c010101110101010b0101040010010001, de_it 0x11401010113010101030107010003010102010104000201010100010003, de_it 0x10301000201010201010200000001, de_it 0x2010000, de_it 0x1020101010201030201010001010000000001030101000100000001000100010b020201010100010008, de_it 0x8010000, de_it 0x101, de_it 0x109010101080101000000000400000003, de_it 0x4010000, de_it 0x101, de_it 0x10b0101010a0101000000000400000003, de_it 0x4010000, de_it 0x101, de_it 0x10d0101010c0101000000000400000003, de_it 0x6010000, de_it 0x10201010100000001, de_it 0x102010f020801000206010100000e, de_it 0x103010e0100030801100101000000000400000003, de_it 0x2010000, de_it 0x8000000020006, de_it 0x2010000, de_it 0x8000002020006, de_it 0x8010000, de_it 0x10301000201010201010200000001, de_it 0x2010000, de_it 0x2010011, de_it 0x1030111010003010102010102000201010100010002, de_it 0xa010000, de_it 0x10201010100000201, de_it 0x8180101081701010200000001, de_it 0x8170101081801010200000001, de_it 0x2010000, de_it 0x101, de_it 0x4010000, de_it 0x11c010101160101011b010101150101040010010001, de_it 0x11e0101011d010101030111010003010102010104000201010100010003, de_it 0x10301000201010201010200000001, de_it 0x2010000, de_it 0x1020101010201030201010001010000000001030101000100000001000100010b020201010100010008]
set_option maxRecDepth 100000 in
theorem tP_2021_0 : fw_plk tV_2021 tL_2021_0 tH_2021_1 = true := by decide +kernel
set_option maxRecDepth 100000 in
theorem tT_2021 {RO : am_O} {sa : Nat → Nat} (h_2007 : tc_true (aP sa) tp_G RO tp_T tp_Z tK_2007) (h_2011 : tc_true (aP sa) tp_G RO tp_T tp_Z tK_2011) : tc_true (aP sa) tp_G RO tp_T tp_Z tK_2021 := by
  have hC : ∀ c ∈ tC_2021, tc_true (aP sa) tp_G RO tp_T tp_Z c := by
    intro c hc
    have hc : c ∈ ([tK_2007, tK_2011] : List tc_Ct) := hc
    rcases List.mem_cons.mp hc with rfl | hc
    · exact h_2007
    rcases List.mem_cons.mp hc with rfl | hc
    · exact h_2011
    cases hc
  have hP : ∀ p ∈ tJ_2021, ∃ hs, tc_plk (aP sa, tV_2021.2) p hs = true := by
    intro p hp
    have hp : p ∈ ([tL_2021_0] : List tc_Pl) := hp
    rcases List.mem_cons.mp hp with rfl | hp
    · exact ⟨_, (tc_plk_sa (aP_sa sa _)).trans ((fw_plk_s tHC_2021).trans tP_2021_0)⟩
    cases hp
  exact tc_main (mt := aM_343.1) (hs := tH_2021_0) (PL := tJ_2021) ⟨tp_G_ok, tMs_2021 _, hC, tr_L_ok, tp_G_re⟩ (show am_meth (aP sa) 343 = some aM_343.1 from rfl) aX_343 (by decide +kernel) hP ((tc_go_sa (aP_sa sa _)).trans ((fw_go_s tHC_2021).trans tR_2021))
noncomputable def tK_2022 : tc_Ct := (329, (2, 2), [(2, ([], 0), 0), (2, ([], 0), 1), (0, ([], 0), 0), (0, ([(0, 1)], 0), 0)], ([([(0, -1)], 800), ([(0, 1)], 0), ([(1, -1)], 7), ([(1, 1)], 0)], [(0, 0), (1, 2)], [], [(0, 9, (0, ([(1, 1)], 0), 0))], [], [], []), [(0, 5), (0, 6), (0, 7), (0, 8), (0, 9), (0, 10), (0, 11)], [((3, 2), ([([(0, -1)], 800), ([(0, 1)], 0), ([(1, -1)], 7), ([(1, 1)], 0), ([(2, -1)], 7), ([(2, 1)], 0)], [], [], [(0, 9, (0, ([(2, 1)], 0), 0))], [], [], []), none, ([], 0), ([], 0))])
noncomputable def tL_2022_0 : tc_Pl := de_pl 0x30d3aff000001020200020000000000030d3aff0003000000000000000202010004000002000100030000000002010000020100000002000503000000000002030100090001000201000002000203010e01030100020201000201010e010101000200010000000000000640ff010001070204
noncomputable def tJ_2022 : List tc_Pl := [tL_2022_0]
noncomputable def tC_2022 : List tc_Ct := [tK_2009]
def tM_2022 (z : Nat) : Option am_Meth := if z = 330 then some aM_330.1 else none
set_option maxRecDepth 100000 in
theorem tMs_2022 (sa : Nat → Nat) : ∀ z mz, tM_2022 z = some mz → am_meth (aP sa) z = some mz := by
  intro z mz h
  unfold tM_2022 at h
  rcases de_m h with ⟨rfl, rfl⟩ | h
  · exact (show am_meth (aP sa) 330 = some aM_330.1 from rfl)
  cases h
noncomputable def tV_2022 : tc_Ev := (aQ, tp_T, tp_G.2, tp_Z, tM_2022, tC_2022, tr_L, tK_2022.2.2.2.2.1, aM_329.1, aW_329, tK_2022.2.1, tK_2022.2.2.2.2.2, tJ_2022)
theorem tE_2022 : tK_2022.2.2.2.2.2.all (tc_wex tK_2022.2.1.1 tK_2022.2.1.2) = true := by decide +kernel
theorem tSS_2022 : tC_2022.all (fun c => tw_mg tK_2022.2.2.2.2.1 c.2.2.2.2.1) = true := by decide +kernel
theorem tHC_2022 : ∀ c ∈ tC_2022, c.2.2.2.2.1.all tK_2022.2.2.2.2.1.contains = true ∧ c.2.2.2.2.2.all (tc_wex c.2.1.1 c.2.1.2) = true := tf_hc tSS_2022 (by
  intro c hc
  have hc : c ∈ ([tK_2009] : List tc_Ct) := hc
  rcases List.mem_cons.mp hc with rfl | hc
  · exact tE_2009
  cases hc)
noncomputable def tH_2022_0 : List tc_It := [de_it 0x4010000, de_it 0x103010101020101000101030101010201010101010101000101000000000000000000000000000100010f0002010100000200010008]
set_option maxRecDepth 100000 in
theorem tR_2022 : fw_go tV_2022 tK_2022.2.1.1 tK_2022.2.1.2 none tH_2022_0 [(tK_2022.2.1, tK_2022.2.2.2.1, 0, tc_args 0 tK_2022.2.2.1, [], ([], 0), ([], 0))] = true := by decide +kernel
noncomputable def tH_2022_1 : List tc_It := [de_it 0x4010000, de_it 0x300000001, de_it 0x10601010105010101030101010201010101010101000101000000000000000000000000000100010e000203010100010007, de_it 0x8010000, de_it 0x10701000201010401010200000001, de_it 0x2010011, de_it 0x1070108010003010104010102000202010100010002, de_it 0x106010101050101010c0101010d0101000000000000000000000000000000010c0002030100020501020000020006, de_it 0x10701000201010401010200000001, de_it 0x2010000, de_it 0x1150101011701160202010401010103010101020101010401070201010001010000000001070101000100000001000100010f00020701020202010200010008]
set_option maxRecDepth 100000 in
theorem tP_2022_0 : fw_plk tV_2022 tL_2022_0 tH_2022_1 = true := by decide +kernel
set_option maxRecDepth 100000 in
theorem tT_2022 {RO : am_O} {sa : Nat → Nat} (h_2009 : tc_true (aP sa) tp_G RO tp_T tp_Z tK_2009) : tc_true (aP sa) tp_G RO tp_T tp_Z tK_2022 := by
  have hC : ∀ c ∈ tC_2022, tc_true (aP sa) tp_G RO tp_T tp_Z c := by
    intro c hc
    have hc : c ∈ ([tK_2009] : List tc_Ct) := hc
    rcases List.mem_cons.mp hc with rfl | hc
    · exact h_2009
    cases hc
  have hP : ∀ p ∈ tJ_2022, ∃ hs, tc_plk (aP sa, tV_2022.2) p hs = true := by
    intro p hp
    have hp : p ∈ ([tL_2022_0] : List tc_Pl) := hp
    rcases List.mem_cons.mp hp with rfl | hp
    · exact ⟨_, (tc_plk_sa (aP_sa sa _)).trans ((fw_plk_s tHC_2022).trans tP_2022_0)⟩
    cases hp
  exact tc_main (mt := aM_329.1) (hs := tH_2022_0) (PL := tJ_2022) ⟨tp_G_ok, tMs_2022 _, hC, tr_L_ok, tp_G_re⟩ (show am_meth (aP sa) 329 = some aM_329.1 from rfl) aX_329 (by decide +kernel) hP ((tc_go_sa (aP_sa sa _)).trans ((fw_go_s tHC_2022).trans tR_2022))
noncomputable def tK_2023 : tc_Ct := (345, (1, 0), [(0, ([(0, 1)], 0), 0)], ([([(0, -1)], 255), ([(0, 1)], 0)], [], [], [], [], [], []), [], [((2, 0), ([([(0, -1)], 255), ([(0, 1)], 0), ([(1, -1)], 1), ([(1, 1)], 0), ([(0, -1), (1, -1)], 255), ([(0, 1), (1, -1)], 0)], [], [], [], [], [], []), some (0, ([(1, 1)], 0), 0), ([], 0), ([], 0))])
noncomputable def tJ_2023 : List tc_Pl := []
noncomputable def tC_2023 : List tc_Ct := []
def tM_2023 (z : Nat) : Option am_Meth := none
set_option maxRecDepth 100000 in
theorem tMs_2023 (sa : Nat → Nat) : ∀ z mz, tM_2023 z = some mz → am_meth (aP sa) z = some mz := fun z mz h => by cases h
noncomputable def tV_2023 : tc_Ev := (aQ, tp_T, tp_G.2, tp_Z, tM_2023, tC_2023, tr_L, tK_2023.2.2.2.2.1, aM_345.1, aW_345, tK_2023.2.1, tK_2023.2.2.2.2.2, tJ_2023)
theorem tE_2023 : tK_2023.2.2.2.2.2.all (tc_wex tK_2023.2.1.1 tK_2023.2.1.2) = true := by decide +kernel
theorem tSS_2023 : tC_2023.all (fun c => tw_mg tK_2023.2.2.2.2.1 c.2.2.2.2.1) = true := by decide +kernel
theorem tHC_2023 : ∀ c ∈ tC_2023, c.2.2.2.2.1.all tK_2023.2.2.2.2.1.contains = true ∧ c.2.2.2.2.2.all (tc_wex c.2.1.1 c.2.1.2) = true := tf_hc tSS_2023 (by
  intro c hc
  have hc : c ∈ ([] : List tc_Ct) := hc
  cases hc)
noncomputable def tH_2023_0 : List tc_It := [de_it 0x4010000, de_it 0x300000001, de_it 0x2010000, de_it 0x101010101000101000100010101010101000101000000000000000000000000000100010e00000100010007, de_it 0x4010000, de_it 0x102010101030101000100010102010101030101000000000000000000000000000100010e02000100010007]
set_option maxRecDepth 100000 in
theorem tR_2023 : fw_go tV_2023 tK_2023.2.1.1 tK_2023.2.1.2 none tH_2023_0 [(tK_2023.2.1, tK_2023.2.2.2.1, 0, tc_args 0 tK_2023.2.2.1, [], ([], 0), ([], 0))] = true := by decide +kernel
set_option maxRecDepth 100000 in
theorem tT_2023 {RO : am_O} {sa : Nat → Nat} : tc_true (aP sa) tp_G RO tp_T tp_Z tK_2023 := by
  have hC : ∀ c ∈ tC_2023, tc_true (aP sa) tp_G RO tp_T tp_Z c := by
    intro c hc
    have hc : c ∈ ([] : List tc_Ct) := hc
    cases hc
  have hP : ∀ p ∈ tJ_2023, ∃ hs, tc_plk (aP sa, tV_2023.2) p hs = true := by
    intro p hp
    have hp : p ∈ ([] : List tc_Pl) := hp
    cases hp
  exact tc_main (mt := aM_345.1) (hs := tH_2023_0) (PL := tJ_2023) ⟨tp_G_ok, tMs_2023 _, hC, tr_L_ok, tp_G_re⟩ (show am_meth (aP sa) 345 = some aM_345.1 from rfl) aX_345 (by decide +kernel) hP ((tc_go_sa (aP_sa sa _)).trans ((fw_go_s tHC_2023).trans tR_2023))
noncomputable def tK_2024 : tc_Ct := (346, (2, 1), [(2, ([], 0), 0), (0, ([(0, 1)], 0), 0)], ([([(0, -1)], 2147483647), ([(0, 1)], 2147483648), ([(1, -1)], 7), ([(1, 1)], 0)], [(0, 0)], [], [(0, 9, (0, ([(1, 1)], 0), 0))], [], [], []), [(0, 5), (0, 6), (0, 7), (0, 8), (0, 9), (0, 10), (0, 11)], [((3, 1), ([([(0, -1)], 2147483647), ([(0, 1)], 2147483648), ([(1, -1)], 7), ([(1, 1)], 0), ([(2, -1)], 7), ([(2, 1)], 0), ([(1, 1), (2, -1)], 4)], [], [], [(0, 9, (0, ([(2, 1)], 0), 0))], [], [], []), none, ([], 0), ([], 0))])
noncomputable def tL_2024_0 : tc_Pl := de_pl 0x30d3cff00020202010000000000030d3cff00030000000000000002020100020000020001000100000002000302000000000002030100090001000000010601030102020103080103020102000203010e01030106010201000201010e0101010000000100000000ff02000100000000fffffffeff010001090104
noncomputable def tJ_2024 : List tc_Pl := [tL_2024_0]
noncomputable def tC_2024 : List tc_Ct := [tK_2009]
def tM_2024 (z : Nat) : Option am_Meth := if z = 330 then some aM_330.1 else none
set_option maxRecDepth 100000 in
theorem tMs_2024 (sa : Nat → Nat) : ∀ z mz, tM_2024 z = some mz → am_meth (aP sa) z = some mz := by
  intro z mz h
  unfold tM_2024 at h
  rcases de_m h with ⟨rfl, rfl⟩ | h
  · exact (show am_meth (aP sa) 330 = some aM_330.1 from rfl)
  cases h
noncomputable def tV_2024 : tc_Ev := (aQ, tp_T, tp_G.2, tp_Z, tM_2024, tC_2024, tr_L, tK_2024.2.2.2.2.1, aM_346.1, aW_346, tK_2024.2.1, tK_2024.2.2.2.2.2, tJ_2024)
theorem tE_2024 : tK_2024.2.2.2.2.2.all (tc_wex tK_2024.2.1.1 tK_2024.2.1.2) = true := by decide +kernel
theorem tSS_2024 : tC_2024.all (fun c => tw_mg tK_2024.2.2.2.2.1 c.2.2.2.2.1) = true := by decide +kernel
theorem tHC_2024 : ∀ c ∈ tC_2024, c.2.2.2.2.1.all tK_2024.2.2.2.2.1.contains = true ∧ c.2.2.2.2.2.all (tc_wex c.2.1.1 c.2.1.2) = true := tf_hc tSS_2024 (by
  intro c hc
  have hc : c ∈ ([tK_2009] : List tc_Ct) := hc
  rcases List.mem_cons.mp hc with rfl | hc
  · exact tE_2009
  cases hc)
noncomputable def tH_2024_0 : List tc_It := [de_it 0x4010000, de_it 0x10001010301010102010100010103010101020101010101010100010100000000000000000000000000010001110002010106000200010008]
set_option maxRecDepth 100000 in
theorem tR_2024 : fw_go tV_2024 tK_2024.2.1.1 tK_2024.2.1.2 none tH_2024_0 [(tK_2024.2.1, tK_2024.2.2.2.1, 0, tc_args 0 tK_2024.2.2.1, [], ([], 0), ([], 0))] = true := by decide +kernel
noncomputable def tH_2024_1 : List tc_It := [de_it 0x2010000, de_it 0x300000001, de_it 0x1070101010601010105010101030101010201010101010101000101000000000000000000000000000100010f000203010100010007, de_it 0x8010000, de_it 0x8040101080901010200000001, de_it 0x101, de_it 0x4010000, de_it 0x106010101050101010c0101010d0101000000000000000000000000000000010c0002030100020501020000020006, de_it 0x1040101010901010200000001, de_it 0x2010000, de_it 0x1170108020101090117010803010115010101170116020201040101010301010102010101010101010001010000000001090101000100000001000100011100020701010202010200010008]
set_option maxRecDepth 100000 in
theorem tP_2024_0 : fw_plk tV_2024 tL_2024_0 tH_2024_1 = true := by decide +kernel
set_option maxRecDepth 100000 in
theorem tT_2024 {RO : am_O} {sa : Nat → Nat} (h_2009 : tc_true (aP sa) tp_G RO tp_T tp_Z tK_2009) : tc_true (aP sa) tp_G RO tp_T tp_Z tK_2024 := by
  have hC : ∀ c ∈ tC_2024, tc_true (aP sa) tp_G RO tp_T tp_Z c := by
    intro c hc
    have hc : c ∈ ([tK_2009] : List tc_Ct) := hc
    rcases List.mem_cons.mp hc with rfl | hc
    · exact h_2009
    cases hc
  have hP : ∀ p ∈ tJ_2024, ∃ hs, tc_plk (aP sa, tV_2024.2) p hs = true := by
    intro p hp
    have hp : p ∈ ([tL_2024_0] : List tc_Pl) := hp
    rcases List.mem_cons.mp hp with rfl | hp
    · exact ⟨_, (tc_plk_sa (aP_sa sa _)).trans ((fw_plk_s tHC_2024).trans tP_2024_0)⟩
    cases hp
  exact tc_main (mt := aM_346.1) (hs := tH_2024_0) (PL := tJ_2024) ⟨tp_G_ok, tMs_2024 _, hC, tr_L_ok, tp_G_re⟩ (show am_meth (aP sa) 346 = some aM_346.1 from rfl) aX_346 (by decide +kernel) hP ((tc_go_sa (aP_sa sa _)).trans ((fw_go_s tHC_2024).trans tR_2024))
noncomputable def tK_2025 : tc_Ct := (344, (3, 3), [(2, ([], 0), 0), (0, ([(0, 1)], 0), 0), (1, ([], 0), 0), (1, ([], 0), 0), (2, ([], 0), 1), (0, ([], 0), 0), (0, ([(1, 1)], 0), 0), (2, ([], 0), 2), (0, ([], 0), 0), (0, ([(2, 1)], 0), 0)], ([([(0, -1)], 3), ([(0, 1)], -1), ([(1, -1)], 800), ([(1, 1)], 0), ([(2, -1)], 800), ([(2, 1)], 0), ([(1, -1), (2, -1)], 800)], [(0, 0), (1, 1), (2, 2)], [], [], [], [], []), [(0, 5), (0, 6), (0, 7), (0, 8), (0, 9), (0, 10), (0, 11)], [((3, 3), ([([(0, -1)], 3), ([(0, 1)], -1), ([(1, -1)], 800), ([(1, 1)], 0), ([(2, -1)], 800), ([(2, 1)], 0), ([(1, -1), (2, -1)], 800)], [], [], [(0, 9, (0, ([], 0), 0)), (0, 10, (1, ([], 0), 0))], [], [], []), some (1, ([], 0), 0), ([], 0), ([], 0))])
noncomputable def tJ_2025 : List tc_Pl := []
noncomputable def tC_2025 : List tc_Ct := [tK_2023, tK_2019, tK_2015, tK_2010, tK_2022, tK_2024, tK_2017]
def tM_2025 (z : Nat) : Option am_Meth := if z = 346 then some aM_346.1 else if z = 345 then some aM_345.1 else if z = 341 then some aM_341.1 else if z = 338 then some aM_338.1 else if z = 337 then some aM_337.1 else if z = 329 then some aM_329.1 else none
set_option maxRecDepth 100000 in
theorem tMs_2025 (sa : Nat → Nat) : ∀ z mz, tM_2025 z = some mz → am_meth (aP sa) z = some mz := by
  intro z mz h
  unfold tM_2025 at h
  rcases de_m h with ⟨rfl, rfl⟩ | h
  · exact (show am_meth (aP sa) 346 = some aM_346.1 from rfl)
  rcases de_m h with ⟨rfl, rfl⟩ | h
  · exact (show am_meth (aP sa) 345 = some aM_345.1 from rfl)
  rcases de_m h with ⟨rfl, rfl⟩ | h
  · exact (show am_meth (aP sa) 341 = some aM_341.1 from rfl)
  rcases de_m h with ⟨rfl, rfl⟩ | h
  · exact (show am_meth (aP sa) 338 = some aM_338.1 from rfl)
  rcases de_m h with ⟨rfl, rfl⟩ | h
  · exact (show am_meth (aP sa) 337 = some aM_337.1 from rfl)
  rcases de_m h with ⟨rfl, rfl⟩ | h
  · exact (show am_meth (aP sa) 329 = some aM_329.1 from rfl)
  cases h
noncomputable def tV_2025 : tc_Ev := (aQ, tp_T, tp_G.2, tp_Z, tM_2025, tC_2025, tr_L, tK_2025.2.2.2.2.1, aM_344.1, aW_344, tK_2025.2.1, tK_2025.2.2.2.2.2, tJ_2025)
theorem tE_2025 : tK_2025.2.2.2.2.2.all (tc_wex tK_2025.2.1.1 tK_2025.2.1.2) = true := by decide +kernel
theorem tSS_2025 : tC_2025.all (fun c => tw_mg tK_2025.2.2.2.2.1 c.2.2.2.2.1) = true := by decide +kernel
theorem tHC_2025 : ∀ c ∈ tC_2025, c.2.2.2.2.1.all tK_2025.2.2.2.2.1.contains = true ∧ c.2.2.2.2.2.all (tc_wex c.2.1.1 c.2.1.2) = true := tf_hc tSS_2025 (by
  intro c hc
  have hc : c ∈ ([tK_2023, tK_2019, tK_2015, tK_2010, tK_2022, tK_2024, tK_2017] : List tc_Ct) := hc
  rcases List.mem_cons.mp hc with rfl | hc
  · exact tE_2023
  rcases List.mem_cons.mp hc with rfl | hc
  · exact tE_2019
  rcases List.mem_cons.mp hc with rfl | hc
  · exact tE_2015
  rcases List.mem_cons.mp hc with rfl | hc
  · exact tE_2010
  rcases List.mem_cons.mp hc with rfl | hc
  · exact tE_2022
  rcases List.mem_cons.mp hc with rfl | hc
  · exact tE_2024
  rcases List.mem_cons.mp hc with rfl | hc
  · exact tE_2017
  cases hc)
noncomputable def tH_2025_0 : List tc_It := [de_it 0x2010000, de_it 0x101010101000101000000000000000000000000000000000a000200010100010006, de_it 0xc010000, de_it 0x10001010a010101090101000000000000000000000000000000040ce80000020301020002020006, de_it 0x8010000, de_it 0x10a010101090101000000000000000000000000000000020a00020301010004020006, de_it 0x8010000, de_it 0x10201010114010101130101010301010102010100010001000000000000000000000000000000030f0002040100020101000003020006030006, de_it 0x8010000, de_it 0x11e0101011d01010105010101040101000000000000000000000000000000030c000206010002020102040008030006, de_it 0x4010000, de_it 0x1260101012501010103010101020101000000000000000000000000000000010c000207010002010102000a020006, de_it 0x5a58564c4a181614120c0a080604020010000d, de_it 0x6010000, de_it 0x10e0101010d01010108010101070101000000000000000000000000000000020c000208010002030102000c020006, de_it 0x1060101010501010104010101030101010201010101010101000101000000000000000000000000000100010f0000010007]
set_option maxRecDepth 100000 in
theorem tR_2025 : fw_go tV_2025 tK_2025.2.1.1 tK_2025.2.1.2 none tH_2025_0 [(tK_2025.2.1, tK_2025.2.2.2.1, 0, tc_args 0 tK_2025.2.2.1, [], ([], 0), ([], 0))] = true := by decide +kernel
set_option maxRecDepth 100000 in
theorem tT_2025 {RO : am_O} {sa : Nat → Nat} (h_2010 : tc_true (aP sa) tp_G RO tp_T tp_Z tK_2010) (h_2015 : tc_true (aP sa) tp_G RO tp_T tp_Z tK_2015) (h_2017 : tc_true (aP sa) tp_G RO tp_T tp_Z tK_2017) (h_2019 : tc_true (aP sa) tp_G RO tp_T tp_Z tK_2019) (h_2022 : tc_true (aP sa) tp_G RO tp_T tp_Z tK_2022) (h_2023 : tc_true (aP sa) tp_G RO tp_T tp_Z tK_2023) (h_2024 : tc_true (aP sa) tp_G RO tp_T tp_Z tK_2024) : tc_true (aP sa) tp_G RO tp_T tp_Z tK_2025 := by
  have hC : ∀ c ∈ tC_2025, tc_true (aP sa) tp_G RO tp_T tp_Z c := by
    intro c hc
    have hc : c ∈ ([tK_2023, tK_2019, tK_2015, tK_2010, tK_2022, tK_2024, tK_2017] : List tc_Ct) := hc
    rcases List.mem_cons.mp hc with rfl | hc
    · exact h_2023
    rcases List.mem_cons.mp hc with rfl | hc
    · exact h_2019
    rcases List.mem_cons.mp hc with rfl | hc
    · exact h_2015
    rcases List.mem_cons.mp hc with rfl | hc
    · exact h_2010
    rcases List.mem_cons.mp hc with rfl | hc
    · exact h_2022
    rcases List.mem_cons.mp hc with rfl | hc
    · exact h_2024
    rcases List.mem_cons.mp hc with rfl | hc
    · exact h_2017
    cases hc
  have hP : ∀ p ∈ tJ_2025, ∃ hs, tc_plk (aP sa, tV_2025.2) p hs = true := by
    intro p hp
    have hp : p ∈ ([] : List tc_Pl) := hp
    cases hp
  exact tc_main (mt := aM_344.1) (hs := tH_2025_0) (PL := tJ_2025) ⟨tp_G_ok, tMs_2025 _, hC, tr_L_ok, tp_G_re⟩ (show am_meth (aP sa) 344 = some aM_344.1 from rfl) aX_344 (by decide +kernel) hP ((tc_go_sa (aP_sa sa _)).trans ((fw_go_s tHC_2025).trans tR_2025))
noncomputable def tK_2026 : tc_Ct := (347, (1, 0), [(0, ([(0, 1)], 0), 0)], ([([(0, -1)], 255), ([(0, 1)], 0)], [], [], [], [], [], []), [], [((1, 0), ([([(0, -1)], 2), ([(0, 1)], -2)], [], [], [], [], [], []), some (0, ([], 4), 0), ([], 0), ([], 0)), ((1, 0), ([([(0, -1)], 255), ([(0, 1)], -3)], [], [], [], [], [], []), some (0, ([], 8), 0), ([], 0), ([], 0)), ((1, 0), ([([(0, -1)], 1), ([(0, 1)], 0)], [], [], [], [], [], []), some (0, ([], 8), 0), ([], 0), ([], 0))])
noncomputable def tJ_2026 : List tc_Pl := []
noncomputable def tC_2026 : List tc_Ct := []
def tM_2026 (z : Nat) : Option am_Meth := none
set_option maxRecDepth 100000 in
theorem tMs_2026 (sa : Nat → Nat) : ∀ z mz, tM_2026 z = some mz → am_meth (aP sa) z = some mz := fun z mz h => by cases h
noncomputable def tV_2026 : tc_Ev := (aQ, tp_T, tp_G.2, tp_Z, tM_2026, tC_2026, tr_L, tK_2026.2.2.2.2.1, aM_347.1, aW_347, tK_2026.2.1, tK_2026.2.2.2.2.2, tJ_2026)
theorem tE_2026 : tK_2026.2.2.2.2.2.all (tc_wex tK_2026.2.1.1 tK_2026.2.1.2) = true := by decide +kernel
theorem tSS_2026 : tC_2026.all (fun c => tw_mg tK_2026.2.2.2.2.1 c.2.2.2.2.1) = true := by decide +kernel
theorem tHC_2026 : ∀ c ∈ tC_2026, c.2.2.2.2.1.all tK_2026.2.2.2.2.1.contains = true ∧ c.2.2.2.2.2.all (tc_wex c.2.1.1 c.2.1.2) = true := tf_hc tSS_2026 (by
  intro c hc
  have hc : c ∈ ([] : List tc_Ct) := hc
  cases hc)
noncomputable def tH_2026_0 : List tc_It := [de_it 0x4010000, de_it 0x30200010100000c, de_it 0x1020101000000000300000001, de_it 0x2010000, de_it 0x103010101000101000000000000000000000000000100010a0002010007, de_it 0x4010000, de_it 0x102010101040101000000000000000000000000000100010a0000010007, de_it 0x102010101030102020100000300000001, de_it 0x2010000, de_it 0x101010101020101000000000000000000000000000100010a0004010007]
set_option maxRecDepth 100000 in
theorem tR_2026 : fw_go tV_2026 tK_2026.2.1.1 tK_2026.2.1.2 none tH_2026_0 [(tK_2026.2.1, tK_2026.2.2.2.1, 0, tc_args 0 tK_2026.2.2.1, [], ([], 0), ([], 0))] = true := by decide +kernel
set_option maxRecDepth 100000 in
theorem tT_2026 {RO : am_O} {sa : Nat → Nat} : tc_true (aP sa) tp_G RO tp_T tp_Z tK_2026 := by
  have hC : ∀ c ∈ tC_2026, tc_true (aP sa) tp_G RO tp_T tp_Z c := by
    intro c hc
    have hc : c ∈ ([] : List tc_Ct) := hc
    cases hc
  have hP : ∀ p ∈ tJ_2026, ∃ hs, tc_plk (aP sa, tV_2026.2) p hs = true := by
    intro p hp
    have hp : p ∈ ([] : List tc_Pl) := hp
    cases hp
  exact tc_main (mt := aM_347.1) (hs := tH_2026_0) (PL := tJ_2026) ⟨tp_G_ok, tMs_2026 _, hC, tr_L_ok, tp_G_re⟩ (show am_meth (aP sa) 347 = some aM_347.1 from rfl) aX_347 (by decide +kernel) hP ((tc_go_sa (aP_sa sa _)).trans ((fw_go_s tHC_2026).trans tR_2026))
noncomputable def tK_2027 : tc_Ct := (348, (1, 0), [(1, ([], 0), 0), (0, ([(0, 1)], 0), 0)], ([([(0, -1)], 7), ([(0, 1)], 0)], [], [], [], [], [], []), [], [((2, 0), ([([(0, -1)], 7), ([(0, 1)], 0), ([(1, -1)], 255), ([(1, 1)], 0)], [], [], [], [], [], []), some (0, ([(1, 1)], 0), 0), ([], 0), ([], 0))])
noncomputable def tJ_2027 : List tc_Pl := []
noncomputable def tC_2027 : List tc_Ct := []
def tM_2027 (z : Nat) : Option am_Meth := none
set_option maxRecDepth 100000 in
theorem tMs_2027 (sa : Nat → Nat) : ∀ z mz, tM_2027 z = some mz → am_meth (aP sa) z = some mz := fun z mz h => by cases h
noncomputable def tV_2027 : tc_Ev := (aQ, tp_T, tp_G.2, tp_Z, tM_2027, tC_2027, tr_L, tK_2027.2.2.2.2.1, aM_348.1, aW_348, tK_2027.2.1, tK_2027.2.2.2.2.2, tJ_2027)
theorem tE_2027 : tK_2027.2.2.2.2.2.all (tc_wex tK_2027.2.1.1 tK_2027.2.1.2) = true := by decide +kernel
theorem tSS_2027 : tC_2027.all (fun c => tw_mg tK_2027.2.2.2.2.1 c.2.2.2.2.1) = true := by decide +kernel
theorem tHC_2027 : ∀ c ∈ tC_2027, c.2.2.2.2.1.all tK_2027.2.2.2.2.1.contains = true ∧ c.2.2.2.2.2.all (tc_wex c.2.1.1 c.2.1.2) = true := tf_hc tSS_2027 (by
  intro c hc
  have hc : c ∈ ([] : List tc_Ct) := hc
  cases hc)
noncomputable def tH_2027_0 : List tc_It := [de_it 0x8010000, de_it 0x8000101080101010200000001, de_it 0x8010101080001010200000001, de_it 0x2010000, de_it 0x101, de_it 0x4010000, de_it 0x1040101010501010101010101000101000000000000000000000000000100010c000202010100010007]
set_option maxRecDepth 100000 in
theorem tR_2027 : fw_go tV_2027 tK_2027.2.1.1 tK_2027.2.1.2 none tH_2027_0 [(tK_2027.2.1, tK_2027.2.2.2.1, 0, tc_args 0 tK_2027.2.2.1, [], ([], 0), ([], 0))] = true := by decide +kernel
set_option maxRecDepth 100000 in
theorem tT_2027 {RO : am_O} {sa : Nat → Nat} : tc_true (aP sa) tp_G RO tp_T tp_Z tK_2027 := by
  have hC : ∀ c ∈ tC_2027, tc_true (aP sa) tp_G RO tp_T tp_Z c := by
    intro c hc
    have hc : c ∈ ([] : List tc_Ct) := hc
    cases hc
  have hP : ∀ p ∈ tJ_2027, ∃ hs, tc_plk (aP sa, tV_2027.2) p hs = true := by
    intro p hp
    have hp : p ∈ ([] : List tc_Pl) := hp
    cases hp
  exact tc_main (mt := aM_348.1) (hs := tH_2027_0) (PL := tJ_2027) ⟨tp_G_ok, tMs_2027 _, hC, tr_L_ok, tp_G_re⟩ (show am_meth (aP sa) 348 = some aM_348.1 from rfl) aX_348 (by decide +kernel) hP ((tc_go_sa (aP_sa sa _)).trans ((fw_go_s tHC_2027).trans tR_2027))
noncomputable def tK_2028 : tc_Ct := (342, (2, 1), [(2, ([], 0), 0), (0, ([(0, 1)], 0), 0), (1, ([], 0), 0), (1, ([], 0), 0), (0, ([(1, 1)], 0), 0)], ([([(0, -1)], 2147483647), ([(0, 1)], 2147483648), ([(1, -1)], 2147483647), ([(1, 1)], 2147483648)], [(0, 0)], [], [], [], [], []), [(0, 1), (0, 3), (0, 5), (0, 6), (0, 7), (0, 8), (0, 9), (0, 10), (0, 11), (2, 0)], [((3, 1), ([([(0, -1)], 2147483647), ([(0, 1)], 2147483648), ([(1, -1)], 2147483647), ([(1, 1)], 2147483648), ([(2, -1)], 808), ([(2, 1)], 1)], [], [], [], [], [], []), some (0, ([(2, 1)], 0), 0), ([], 0), ([], 0))])
noncomputable def tL_2028_0 : tc_Pl := de_pl 0x30c60ff00300103010000000000030c60ff000300000000000000020301000a0000000108000002020100070000020001000100000002000570000000050000027a00040000027400030000027300000000010a00000000000900020000020200000002040100010001000002000008005e05580457030202010100000600020301000202010000000000000640ff010201000201010000000000000640ff0101010102000106010001070605
noncomputable def tL_2028_1 : tc_Pl := de_pl 0x30ceeff000001030202020000000000030ceeff00030000000000000002030100080000020201000700000201010006000000010400000001020000020001000100000002000729000000000002040100010001000000010000000000000640ff010201010200020301000202010000000000000640ff010201000201010000000000000640ff0101010102000106010001080105
noncomputable def tJ_2028 : List tc_Pl := [tL_2028_0, tL_2028_1]
noncomputable def tC_2028 : List tc_Ct := [tK_2000, tK_2026, tK_2027, tK_2021, tK_2025]
def tM_2028 (z : Nat) : Option am_Meth := if z = 348 then some aM_348.1 else if z = 347 then some aM_347.1 else if z = 344 then some aM_344.1 else if z = 343 then some aM_343.1 else if z = 321 then some aM_321.1 else none
set_option maxRecDepth 100000 in
theorem tMs_2028 (sa : Nat → Nat) : ∀ z mz, tM_2028 z = some mz → am_meth (aP sa) z = some mz := by
  intro z mz h
  unfold tM_2028 at h
  rcases de_m h with ⟨rfl, rfl⟩ | h
  · exact (show am_meth (aP sa) 348 = some aM_348.1 from rfl)
  rcases de_m h with ⟨rfl, rfl⟩ | h
  · exact (show am_meth (aP sa) 347 = some aM_347.1 from rfl)
  rcases de_m h with ⟨rfl, rfl⟩ | h
  · exact (show am_meth (aP sa) 344 = some aM_344.1 from rfl)
  rcases de_m h with ⟨rfl, rfl⟩ | h
  · exact (show am_meth (aP sa) 343 = some aM_343.1 from rfl)
  rcases de_m h with ⟨rfl, rfl⟩ | h
  · exact (show am_meth (aP sa) 321 = some aM_321.1 from rfl)
  cases h
noncomputable def tV_2028 : tc_Ev := (aQ, tp_T, tp_G.2, tp_Z, tM_2028, tC_2028, tr_L, tK_2028.2.2.2.2.1, aM_342.1, aW_342, tK_2028.2.1, tK_2028.2.2.2.2.2, tJ_2028)
theorem tE_2028 : tK_2028.2.2.2.2.2.all (tc_wex tK_2028.2.1.1 tK_2028.2.1.2) = true := by decide +kernel
theorem tSS_2028 : tC_2028.all (fun c => tw_mg tK_2028.2.2.2.2.1 c.2.2.2.2.1) = true := by decide +kernel
theorem tHC_2028 : ∀ c ∈ tC_2028, c.2.2.2.2.1.all tK_2028.2.2.2.2.1.contains = true ∧ c.2.2.2.2.2.all (tc_wex c.2.1.1 c.2.1.2) = true := tf_hc tSS_2028 (by
  intro c hc
  have hc : c ∈ ([tK_2000, tK_2026, tK_2027, tK_2021, tK_2025] : List tc_Ct) := hc
  rcases List.mem_cons.mp hc with rfl | hc
  · exact tE_2000
  rcases List.mem_cons.mp hc with rfl | hc
  · exact tE_2026
  rcases List.mem_cons.mp hc with rfl | hc
  · exact tE_2027
  rcases List.mem_cons.mp hc with rfl | hc
  · exact tE_2021
  rcases List.mem_cons.mp hc with rfl | hc
  · exact tE_2025
  cases hc)
noncomputable def tH_2028_0 : List tc_It := [de_it 0x8010000, de_it 0x10001000100010101010101000101000000000000000000000000000000000e06000200000200010300010006, de_it 0x1010a010100000300000001, de_it 0x2010000, de_it 0x1000101030101010201010101010101000101000000000000000000000000000100010e01000100010007, de_it 0x10000010d01010300000001, de_it 0x8010000, de_it 0x2, de_it 0x2010000, de_it 0x10d0101010e0101000100010103010101020101000000000000000000000000000000000e000202010000000201010300010006, de_it 0x10000011501010300000001, de_it 0x2010000, de_it 0x100010103010101020101010b0101010a0101000000000000000000000000000100010e01000100010007, de_it 0x10118010100000300000001, de_it 0x2010000, de_it 0x2, de_it 0x2010000, de_it 0x10e01160201011501010200000001, de_it 0x6010000, de_it 0x10e0101000101150101010e01160201011601010115010e0201010b0101010a010100000000000000000000000000010001100002020100000002020101020302010008]
set_option maxRecDepth 100000 in
theorem tR_2028 : fw_go tV_2028 tK_2028.2.1.1 tK_2028.2.1.2 none tH_2028_0 [(tK_2028.2.1, tK_2028.2.2.2.1, 0, tc_args 0 tK_2028.2.2.1, [], ([], 0), ([], 0))] = true := by decide +kernel
noncomputable def tH_2028_1 : List tc_It := [de_it 0x4010000, de_it 0x101010101000101000000000000000000000000000000000a000200010102010006, de_it 0x300000001, de_it 0x6010000, de_it 0x108010101070101000000000000000000000000000000000a000200010102010006, de_it 0x1040101010501010200000001, de_it 0x104010101050101000000000400000003, de_it 0x4010000, de_it 0x10001000000000400000003, de_it 0x2010000, de_it 0x2, de_it 0x10501010104010101030101010201010108010101070101000000000000000000000000000100010e080202010100010007, de_it 0x10b01070201010000000b, de_it 0x10a01080201010000000b, de_it 0x2010000, de_it 0x2, de_it 0x4010000, de_it 0x109010402010106010502010200000001, de_it 0x4010000, de_it 0x106010101090101000000000000000000000000000000000a000203010104010006, de_it 0x4010011, de_it 0x10c0101010d0101010e010901040301010601050201040002030202020100010003, de_it 0x1090101010601010200000001, de_it 0x2010000, de_it 0x10601010105010101040101010301010102010101080101010701010000000001090101000100000001000100010f000204010202030100020201030a0806040200060008, de_it 0x300000001, de_it 0x6010000, de_it 0x108010101000101000000000000000000000000000000000a000200010102010006, de_it 0x10a01080201010000000b, de_it 0x1040101010501010200000001, de_it 0x104010101050101000000000400000003, de_it 0x4010000, de_it 0x10001000000000400000003, de_it 0x2010000, de_it 0x2, de_it 0x10501010104010101030101010201010108010101000101000000000000000000000000000100010e100202010100010007, de_it 0x10a01080201010000000b, de_it 0x2010000, de_it 0x2, de_it 0x4010000, de_it 0x109010402010106010502010200000001, de_it 0x4010000, de_it 0x106010101090101000000000000000000000000000000000a000203010104010006, de_it 0x4010011, de_it 0x10c0101010d0101010e010901040301010601050201040002030202020100010003, de_it 0x1090101010601010200000001, de_it 0x2010000, de_it 0x10601010105010101040101010301010102010101080101010001010000000001090101000100000001000100010f000204010202030100020201030a0806040200060008, de_it 0x300000001, de_it 0x6010000, de_it 0x101010101070101000000000000000000000000000000000a000200010102010006, de_it 0x10b01070201010000000b, de_it 0x10b01070201010000000b, de_it 0x1040101010501010200000001, de_it 0x104010101050101000000000400000003, de_it 0x4010000, de_it 0x10001000000000400000003, de_it 0x2010000, de_it 0x2, de_it 0x10501010104010101030101010201010101010101070101000000000000000000000000000100010e100202010100010007, de_it 0x2010000, de_it 0x2, de_it 0x4010000, de_it 0x109010402010106010502010200000001, de_it 0x4010000, de_it 0x106010101090101000000000000000000000000000000000a000203010104010006, de_it 0x4010011, de_it 0x10c0101010d0101010e010901040301010601050201040002030202020100010003, de_it 0x1090101010601010200000001, de_it 0x2010000, de_it 0x10601010105010101040101010301010102010101010101010701010000000001090101000100000001000100010f000204010202030100020201030a0806040200060008]
set_option maxRecDepth 100000 in
theorem tP_2028_0 : fw_plk tV_2028 tL_2028_0 tH_2028_1 = true := by decide +kernel
noncomputable def tH_2028_2 : List tc_It := [de_it 0x4010000, de_it 0x300000001, de_it 0x8010000, de_it 0x2, de_it 0x4010000, de_it 0xe80002000f, de_it 0xe60002000f, de_it 0xf40002000f, de_it 0x105010101040101000000000000000000000000000000050a0002020101080604020006060006, de_it 0xa010000, de_it 0x2, de_it 0x6010000, de_it 0x2, de_it 0x4010000, de_it 0x1070101010501010104010101030101010201010101010101000101000000000000000000000000000000090f00020201000201010002000103020a0008040006, de_it 0x6010000, de_it 0x1010501010104010101030101010201010101010101000101000000000000000000010001000100010f0002040100000002020103080406020a00060008, de_it 0x2010000, de_it 0x2, de_it 0x4010000, de_it 0x2, de_it 0x4010000, de_it 0x108010702010106010302010200000001, de_it 0x4010011, de_it 0x108010901070301010601030201020002030201020100010002, de_it 0x2010011, de_it 0x10e0101010d01010108010f010403010106010104000203010100010003, de_it 0x10801040201010601010200000001, de_it 0x2010000, de_it 0x107010101060101010601080201010401010103010101060108010703010101010101000101000000000108010100010000000100010001100002040102020301000202010302010008]
set_option maxRecDepth 100000 in
theorem tP_2028_1 : fw_plk tV_2028 tL_2028_1 tH_2028_2 = true := by decide +kernel
set_option maxRecDepth 100000 in
theorem tT_2028 {RO : am_O} {sa : Nat → Nat} (h_2000 : tc_true (aP sa) tp_G RO tp_T tp_Z tK_2000) (h_2021 : tc_true (aP sa) tp_G RO tp_T tp_Z tK_2021) (h_2025 : tc_true (aP sa) tp_G RO tp_T tp_Z tK_2025) (h_2026 : tc_true (aP sa) tp_G RO tp_T tp_Z tK_2026) (h_2027 : tc_true (aP sa) tp_G RO tp_T tp_Z tK_2027) : tc_true (aP sa) tp_G RO tp_T tp_Z tK_2028 := by
  have hC : ∀ c ∈ tC_2028, tc_true (aP sa) tp_G RO tp_T tp_Z c := by
    intro c hc
    have hc : c ∈ ([tK_2000, tK_2026, tK_2027, tK_2021, tK_2025] : List tc_Ct) := hc
    rcases List.mem_cons.mp hc with rfl | hc
    · exact h_2000
    rcases List.mem_cons.mp hc with rfl | hc
    · exact h_2026
    rcases List.mem_cons.mp hc with rfl | hc
    · exact h_2027
    rcases List.mem_cons.mp hc with rfl | hc
    · exact h_2021
    rcases List.mem_cons.mp hc with rfl | hc
    · exact h_2025
    cases hc
  have hP : ∀ p ∈ tJ_2028, ∃ hs, tc_plk (aP sa, tV_2028.2) p hs = true := by
    intro p hp
    have hp : p ∈ ([tL_2028_0, tL_2028_1] : List tc_Pl) := hp
    rcases List.mem_cons.mp hp with rfl | hp
    · exact ⟨_, (tc_plk_sa (aP_sa sa _)).trans ((fw_plk_s tHC_2028).trans tP_2028_0)⟩
    rcases List.mem_cons.mp hp with rfl | hp
    · exact ⟨_, (tc_plk_sa (aP_sa sa _)).trans ((fw_plk_s tHC_2028).trans tP_2028_1)⟩
    cases hp
  exact tc_main (mt := aM_342.1) (hs := tH_2028_0) (PL := tJ_2028) ⟨tp_G_ok, tMs_2028 _, hC, tr_L_ok, tp_G_re⟩ (show am_meth (aP sa) 342 = some aM_342.1 from rfl) aX_342 (by decide +kernel) hP ((tc_go_sa (aP_sa sa _)).trans ((fw_go_s tHC_2028).trans tR_2028))
noncomputable def tK_2029 : tc_Ct := (343, (2, 5), [(2, ([], 0), 0), (1, ([], 0), 0), (1, ([], 0), 0), (2, ([], 0), 1), (0, ([(0, 1)], 0), 0), (0, ([(1, 1)], 0), 0)], ([([(0, -1)], 796), ([(0, 1)], 0), ([(1, -1)], 796), ([(1, 1)], 0), ([(0, -1), (1, -1)], 796)], [(0, 0), (1, 1), (2, 88), (3, 87), (4, 94)], [], [(0, 115, (2, ([], 0), 3)), (0, 116, (2, ([], 0), 2)), (0, 122, (2, ([], 0), 4))], [], [], []), [(0, 5), (0, 6), (0, 7), (0, 8), (1, 0)], [((2, 5), ([([(0, -1)], 796), ([(0, 1)], 0), ([(1, -1)], 796), ([(1, 1)], 0), ([(0, -1), (1, -1)], 796)], [], [], [], [], [], []), none, ([], 0), ([], 0))])
noncomputable def tL_2029_0 : tc_Pl := de_pl 0x30d34ff000001020201020000000000030d34ff000300000000000000020201000a0000000108000002010100070000020001000601000002050000000103000000010100000002000806000000040000027a0002000002740003000002730003005e04570358020101000005000202010000000000000638ff0101010002000201010000000000000638ff010101000200010000000000000638ff010001060503
noncomputable def tJ_2029 : List tc_Pl := [tL_2029_0]
noncomputable def tC_2029 : List tc_Ct := [tK_2007, tK_2011]
def tM_2029 (z : Nat) : Option am_Meth := if z = 335 then some aM_335.1 else if z = 332 then some aM_332.1 else none
set_option maxRecDepth 100000 in
theorem tMs_2029 (sa : Nat → Nat) : ∀ z mz, tM_2029 z = some mz → am_meth (aP sa) z = some mz := by
  intro z mz h
  unfold tM_2029 at h
  rcases de_m h with ⟨rfl, rfl⟩ | h
  · exact (show am_meth (aP sa) 335 = some aM_335.1 from rfl)
  rcases de_m h with ⟨rfl, rfl⟩ | h
  · exact (show am_meth (aP sa) 332 = some aM_332.1 from rfl)
  cases h
noncomputable def tV_2029 : tc_Ev := (aQ, tp_T, tp_G.2, tp_Z, tM_2029, tC_2029, tr_L, tK_2029.2.2.2.2.1, aM_343.1, aW_343, tK_2029.2.1, tK_2029.2.2.2.2.2, tJ_2029)
theorem tE_2029 : tK_2029.2.2.2.2.2.all (tc_wex tK_2029.2.1.1 tK_2029.2.1.2) = true := by decide +kernel
theorem tSS_2029 : tC_2029.all (fun c => tw_mg tK_2029.2.2.2.2.1 c.2.2.2.2.1) = true := by decide +kernel
theorem tHC_2029 : ∀ c ∈ tC_2029, c.2.2.2.2.1.all tK_2029.2.2.2.2.1.contains = true ∧ c.2.2.2.2.2.all (tc_wex c.2.1.1 c.2.1.2) = true := tf_hc tSS_2029 (by
  intro c hc
  have hc : c ∈ ([tK_2007, tK_2011] : List tc_Ct) := hc
  rcases List.mem_cons.mp hc with rfl | hc
  · exact tE_2007
  rcases List.mem_cons.mp hc with rfl | hc
  · exact tE_2011
  cases hc)
noncomputable def tH_2029_0 : List tc_It := [de_it 0x8010000, de_it 0x10104010101030101010201010101010101000101000000000000000000000000000100010e00000100010008]
set_option maxRecDepth 100000 in
theorem tR_2029 : fw_go tV_2029 tK_2029.2.1.1 tK_2029.2.1.2 none tH_2029_0 [(tK_2029.2.1, tK_2029.2.2.2.1, 0, tc_args 0 tK_2029.2.2.1, [], ([], 0), ([], 0))] = true := by decide +kernel
noncomputable def tH_2029_1 : List tc_It := [de_it 0x4010000, de_it 0x300000001, de_it 0x104010101030101010201010101010101000101000000000000000000000000000100010d0000010007, de_it 0x4010000, de_it 0x10501010100000201, de_it 0x1070101000000000300000001, de_it 0x6010000, de_it 0x106010402010105010102010200000001, de_it 0x2010000, de_it 0x2010011, de_it 0x106010a01040301010501010201020002020200020100010002, de_it 0xa010000, de_it 0x10501010100000201, de_it 0x8110101081001010200000001, de_it 0x8100101081101010200000001, de_it 0x2010000, de_it 0x101, de_it 0x4010000, de_it 0x1150101010f010101140101010e0101040010010001, de_it 0x1170101011601010106010a01040301010501010201040002020200020100010003, de_it 0x10601020201010501010200000001, de_it 0x2010000, de_it 0x105010101040101010501060201010201010101010101050106010403010000000001060101000100000001000100010e020202010100010008, de_it 0x8010000, de_it 0x101, de_it 0x10c0101010b0101000000000400000003, de_it 0x4010000, de_it 0x101, de_it 0x10e0101010d0101000000000400000003, de_it 0x4010000, de_it 0x101, de_it 0x1100101010f0101000000000400000003, de_it 0x6010000, de_it 0x10501010100000001, de_it 0x1050112020801000207010100000e, de_it 0x10601110102030801130101000000000400000003, de_it 0x2010000, de_it 0x8000000020006, de_it 0x2010000, de_it 0x8000002020006, de_it 0x8010000, de_it 0x106010402010105010102010200000001, de_it 0x2010000, de_it 0x2010011, de_it 0x106011401040301010501010201020002020200020100010002, de_it 0xa010000, de_it 0x10501010100000201, de_it 0x81b0101081a01010200000001, de_it 0x81a0101081b01010200000001, de_it 0x2010000, de_it 0x101, de_it 0x4010000, de_it 0x11f010101190101011e010101180101040010010001, de_it 0x1210101012001010106011401040301010501010201040002020200020100010003, de_it 0x10601020201010501010200000001, de_it 0x2010000, de_it 0x105010101040101010501060201010201010101010101050106010403010000000001060101000100000001000100010e020202010100010008]
set_option maxRecDepth 100000 in
theorem tP_2029_0 : fw_plk tV_2029 tL_2029_0 tH_2029_1 = true := by decide +kernel
set_option maxRecDepth 100000 in
theorem tT_2029 {RO : am_O} {sa : Nat → Nat} (h_2007 : tc_true (aP sa) tp_G RO tp_T tp_Z tK_2007) (h_2011 : tc_true (aP sa) tp_G RO tp_T tp_Z tK_2011) : tc_true (aP sa) tp_G RO tp_T tp_Z tK_2029 := by
  have hC : ∀ c ∈ tC_2029, tc_true (aP sa) tp_G RO tp_T tp_Z c := by
    intro c hc
    have hc : c ∈ ([tK_2007, tK_2011] : List tc_Ct) := hc
    rcases List.mem_cons.mp hc with rfl | hc
    · exact h_2007
    rcases List.mem_cons.mp hc with rfl | hc
    · exact h_2011
    cases hc
  have hP : ∀ p ∈ tJ_2029, ∃ hs, tc_plk (aP sa, tV_2029.2) p hs = true := by
    intro p hp
    have hp : p ∈ ([tL_2029_0] : List tc_Pl) := hp
    rcases List.mem_cons.mp hp with rfl | hp
    · exact ⟨_, (tc_plk_sa (aP_sa sa _)).trans ((fw_plk_s tHC_2029).trans tP_2029_0)⟩
    cases hp
  exact tc_main (mt := aM_343.1) (hs := tH_2029_0) (PL := tJ_2029) ⟨tp_G_ok, tMs_2029 _, hC, tr_L_ok, tp_G_re⟩ (show am_meth (aP sa) 343 = some aM_343.1 from rfl) aX_343 (by decide +kernel) hP ((tc_go_sa (aP_sa sa _)).trans ((fw_go_s tHC_2029).trans tR_2029))
noncomputable def tK_2030 : tc_Ct := (344, (3, 2), [(2, ([], 0), 0), (0, ([(0, 1)], 0), 0), (1, ([], 0), 0), (1, ([], 0), 0), (2, ([], 0), 1), (0, ([], 0), 0), (0, ([(1, 1)], 0), 0), (2, ([], 0), 1), (0, ([(1, 1)], 0), 0), (0, ([(2, 1)], 0), 0)], ([([(0, -1)], 3), ([(0, 1)], -1), ([(1, 1)], 0), ([(2, 1)], 0), ([(0, -1), (1, -1)], 798), ([(0, -1), (2, -1)], 798), ([(0, 1), (1, -1)], 794), ([(0, 1), (2, -1)], 794), ([(1, -1), (2, -1)], 796), ([(0, 1), (1, -1), (2, -1)], 794)], [(0, 0), (1, 1)], [], [], [], [], []), [(0, 5), (0, 6), (0, 7), (0, 8), (0, 9), (0, 10), (0, 11)], [((3, 2), ([([(0, -1)], 3), ([(0, 1)], -1), ([(1, -1)], 796), ([(1, 1)], 0), ([(2, -1)], 796), ([(2, 1)], 0), ([(0, -1), (1, -1)], 798), ([(0, -1), (2, -1)], 798), ([(0, 1), (1, -1)], 794), ([(0, 1), (2, -1)], 794), ([(1, -1), (2, -1)], 796), ([(0, 1), (1, -1), (2, -1)], 794)], [], [], [(0, 9, (0, ([], 0), 0)), (0, 10, (1, ([], 0), 0))], [], [], []), some (1, ([], 0), 0), ([], 0), ([], 0))])
noncomputable def tJ_2030 : List tc_Pl := []
noncomputable def tC_2030 : List tc_Ct := [tK_2023, tK_2019, tK_2015, tK_2010, tK_2024, tK_2017]
def tM_2030 (z : Nat) : Option am_Meth := if z = 346 then some aM_346.1 else if z = 345 then some aM_345.1 else if z = 341 then some aM_341.1 else if z = 338 then some aM_338.1 else if z = 337 then some aM_337.1 else if z = 329 then some aM_329.1 else none
set_option maxRecDepth 100000 in
theorem tMs_2030 (sa : Nat → Nat) : ∀ z mz, tM_2030 z = some mz → am_meth (aP sa) z = some mz := by
  intro z mz h
  unfold tM_2030 at h
  rcases de_m h with ⟨rfl, rfl⟩ | h
  · exact (show am_meth (aP sa) 346 = some aM_346.1 from rfl)
  rcases de_m h with ⟨rfl, rfl⟩ | h
  · exact (show am_meth (aP sa) 345 = some aM_345.1 from rfl)
  rcases de_m h with ⟨rfl, rfl⟩ | h
  · exact (show am_meth (aP sa) 341 = some aM_341.1 from rfl)
  rcases de_m h with ⟨rfl, rfl⟩ | h
  · exact (show am_meth (aP sa) 338 = some aM_338.1 from rfl)
  rcases de_m h with ⟨rfl, rfl⟩ | h
  · exact (show am_meth (aP sa) 337 = some aM_337.1 from rfl)
  rcases de_m h with ⟨rfl, rfl⟩ | h
  · exact (show am_meth (aP sa) 329 = some aM_329.1 from rfl)
  cases h
noncomputable def tV_2030 : tc_Ev := (aQ, tp_T, tp_G.2, tp_Z, tM_2030, tC_2030, tr_L, tK_2030.2.2.2.2.1, aM_344.1, aW_344, tK_2030.2.1, tK_2030.2.2.2.2.2, tJ_2030)
theorem tE_2030 : tK_2030.2.2.2.2.2.all (tc_wex tK_2030.2.1.1 tK_2030.2.1.2) = true := by decide +kernel
theorem tSS_2030 : tC_2030.all (fun c => tw_mg tK_2030.2.2.2.2.1 c.2.2.2.2.1) = true := by decide +kernel
theorem tHC_2030 : ∀ c ∈ tC_2030, c.2.2.2.2.1.all tK_2030.2.2.2.2.1.contains = true ∧ c.2.2.2.2.2.all (tc_wex c.2.1.1 c.2.1.2) = true := tf_hc tSS_2030 (by
  intro c hc
  have hc : c ∈ ([tK_2023, tK_2019, tK_2015, tK_2010, tK_2024, tK_2017] : List tc_Ct) := hc
  rcases List.mem_cons.mp hc with rfl | hc
  · exact tE_2023
  rcases List.mem_cons.mp hc with rfl | hc
  · exact tE_2019
  rcases List.mem_cons.mp hc with rfl | hc
  · exact tE_2015
  rcases List.mem_cons.mp hc with rfl | hc
  · exact tE_2010
  rcases List.mem_cons.mp hc with rfl | hc
  · exact tE_2024
  rcases List.mem_cons.mp hc with rfl | hc
  · exact tE_2017
  cases hc)
noncomputable def tH_2030_0 : List tc_It := [de_it 0x2010000, de_it 0x101010101000101000000000000000000000000000000000a000200010100010006, de_it 0xc010000, de_it 0x10001010d0101010c0101000000000000000000000000000000040ce80000020301020002020006, de_it 0x8010000, de_it 0x10d0101010c0101000000000000000000000000000000020a00020301010004020006, de_it 0x8010000, de_it 0x1060104020201170101011601010102010101060104020200010001000000000000000000000000000000030f0002040100020101000003020006030006, de_it 0x8010000, de_it 0x108010101210101012001010103010101070105020201020101010601040202000000000000000000000000000000030f00020601000202010002010103020006030006, de_it 0x5a56544c484642402e2c1e1c1a1812100e0c0a080604020018000d, de_it 0x4010000, de_it 0x11601010115010101020101010601040202000000000000000000000000000000010c0002070100020101020008020006, de_it 0x6010000, de_it 0x11d0101011c0101010b0101010a0101000000000000000000000000000000020c000208010002030102000a020006, de_it 0x109010101080101010701010106010101050101010401010103010101070105020201020101010601040202010101010100010100000000000000000000000000010001140000010007]
set_option maxRecDepth 100000 in
theorem tR_2030 : fw_go tV_2030 tK_2030.2.1.1 tK_2030.2.1.2 none tH_2030_0 [(tK_2030.2.1, tK_2030.2.2.2.1, 0, tc_args 0 tK_2030.2.2.1, [], ([], 0), ([], 0))] = true := by decide +kernel
set_option maxRecDepth 100000 in
theorem tT_2030 {RO : am_O} {sa : Nat → Nat} (h_2010 : tc_true (aP sa) tp_G RO tp_T tp_Z tK_2010) (h_2015 : tc_true (aP sa) tp_G RO tp_T tp_Z tK_2015) (h_2017 : tc_true (aP sa) tp_G RO tp_T tp_Z tK_2017) (h_2019 : tc_true (aP sa) tp_G RO tp_T tp_Z tK_2019) (h_2023 : tc_true (aP sa) tp_G RO tp_T tp_Z tK_2023) (h_2024 : tc_true (aP sa) tp_G RO tp_T tp_Z tK_2024) : tc_true (aP sa) tp_G RO tp_T tp_Z tK_2030 := by
  have hC : ∀ c ∈ tC_2030, tc_true (aP sa) tp_G RO tp_T tp_Z c := by
    intro c hc
    have hc : c ∈ ([tK_2023, tK_2019, tK_2015, tK_2010, tK_2024, tK_2017] : List tc_Ct) := hc
    rcases List.mem_cons.mp hc with rfl | hc
    · exact h_2023
    rcases List.mem_cons.mp hc with rfl | hc
    · exact h_2019
    rcases List.mem_cons.mp hc with rfl | hc
    · exact h_2015
    rcases List.mem_cons.mp hc with rfl | hc
    · exact h_2010
    rcases List.mem_cons.mp hc with rfl | hc
    · exact h_2024
    rcases List.mem_cons.mp hc with rfl | hc
    · exact h_2017
    cases hc
  have hP : ∀ p ∈ tJ_2030, ∃ hs, tc_plk (aP sa, tV_2030.2) p hs = true := by
    intro p hp
    have hp : p ∈ ([] : List tc_Pl) := hp
    cases hp
  exact tc_main (mt := aM_344.1) (hs := tH_2030_0) (PL := tJ_2030) ⟨tp_G_ok, tMs_2030 _, hC, tr_L_ok, tp_G_re⟩ (show am_meth (aP sa) 344 = some aM_344.1 from rfl) aX_344 (by decide +kernel) hP ((tc_go_sa (aP_sa sa _)).trans ((fw_go_s tHC_2030).trans tR_2030))
noncomputable def tK_2031 : tc_Ct := (349, (2, 1), [(2, ([], 0), 0), (0, ([(0, 1)], 0), 0), (1, ([], 0), 0), (1, ([], 0), 0), (0, ([(1, 1)], 0), 0)], ([([(0, -1)], 2147483647), ([(0, 1)], 2147483648), ([(1, -1)], 2147483647), ([(1, 1)], 2147483648)], [(0, 0)], [], [], [], [], []), [(0, 1), (0, 3), (0, 5), (0, 6), (0, 7), (0, 8), (0, 9), (0, 10), (0, 11), (1, 0), (2, 0)], [((3, 1), ([([(0, -1)], 2147483647), ([(0, 1)], 2147483648), ([(1, -1)], 2147483647), ([(1, 1)], 2147483648), ([(2, -1)], 1), ([(2, 1)], 1)], [], [], [], [], [], []), some (0, ([(2, 1)], 0), 0), ([], 0), ([], 0))])
noncomputable def tL_2031_0 : tc_Pl := de_pl 0x30bfeff000001040202020000000000030bfeff0003000000000000000204010009000002030100080000020201000700000201010006000000020005a1000000040000027a00030000027400020000027300000000010a00000000000900000002050100010001000002000007005e0458035702010100000507020501020101030000000000000634ff01020101020003000000000000063cff020201010100030000000000000638ff01020101020000000000000634ff01020200020000000000000634ff0101020002000000000000063cff01020100020000000000000640ff0105010002040101020301000202010002010101020001060100010e0506
noncomputable def tL_2031_1 : tc_Pl := de_pl 0x30c90ff000002050104020000000000030c90ff000300000000000000020401000b0000000109000002030100080000020201000700000201010006000000010400000001020000020001000100000002000958000000000000010a0000000000090000000205010001000100000200000400010100000207020501020101030102040203020000000000000638ff0102010102070205010000000000000640ff0105010002040100020301000202010000000000000638ff010201000201010000000000000638ff01010103020001040100010d0206
noncomputable def tL_2031_2 : tc_Pl := de_pl 0x30c90ff000002050104020000000000030c90ff000300000000000000020401000b0000000109000002030100080000020201000700000201010006000000010400000001020000020001000100000002000958000000000000010a000000000009000000020501000100010000020000040001010000020f020501020101030102040203020000000000000630ff01020101020f0205010000000000000640ff0105010002040100020301000202010000000000000630ff010201000201010000000000000630ff01010105020001060100010d0206
noncomputable def tL_2031_3 : tc_Pl := de_pl 0x30c90ff000002050104020000000000030c90ff000300000000000000020401000b0000000109000002030100080000020201000700000201010006000000010400000001020000020001000100000002000958000000000000010a000000000009000000020501000100010000020000040001010000020f020501020101030102040203020000000000000630ff01020101020f0205010000000000000640ff0105010002040100020301000202010000000000000630ff010201000201010000000000000630ff01010101020001020100010d0206
noncomputable def tJ_2031 : List tc_Pl := [tL_2031_0, tL_2031_1, tL_2031_2, tL_2031_3]
noncomputable def tC_2031 : List tc_Ct := [tK_2000, tK_2026, tK_2030, tK_2029, tK_2027]
def tM_2031 (z : Nat) : Option am_Meth := if z = 348 then some aM_348.1 else if z = 347 then some aM_347.1 else if z = 344 then some aM_344.1 else if z = 343 then some aM_343.1 else if z = 321 then some aM_321.1 else none
set_option maxRecDepth 100000 in
theorem tMs_2031 (sa : Nat → Nat) : ∀ z mz, tM_2031 z = some mz → am_meth (aP sa) z = some mz := by
  intro z mz h
  unfold tM_2031 at h
  rcases de_m h with ⟨rfl, rfl⟩ | h
  · exact (show am_meth (aP sa) 348 = some aM_348.1 from rfl)
  rcases de_m h with ⟨rfl, rfl⟩ | h
  · exact (show am_meth (aP sa) 347 = some aM_347.1 from rfl)
  rcases de_m h with ⟨rfl, rfl⟩ | h
  · exact (show am_meth (aP sa) 344 = some aM_344.1 from rfl)
  rcases de_m h with ⟨rfl, rfl⟩ | h
  · exact (show am_meth (aP sa) 343 = some aM_343.1 from rfl)
  rcases de_m h with ⟨rfl, rfl⟩ | h
  · exact (show am_meth (aP sa) 321 = some aM_321.1 from rfl)
  cases h
noncomputable def tV_2031 : tc_Ev := (aQ, tp_T, tp_G.2, tp_Z, tM_2031, tC_2031, tr_L, tK_2031.2.2.2.2.1, aM_349.1, aW_349, tK_2031.2.1, tK_2031.2.2.2.2.2, tJ_2031)
theorem tE_2031 : tK_2031.2.2.2.2.2.all (tc_wex tK_2031.2.1.1 tK_2031.2.1.2) = true := by decide +kernel
theorem tSS_2031 : tC_2031.all (fun c => tw_mg tK_2031.2.2.2.2.1 c.2.2.2.2.1) = true := by decide +kernel
theorem tHC_2031 : ∀ c ∈ tC_2031, c.2.2.2.2.1.all tK_2031.2.2.2.2.1.contains = true ∧ c.2.2.2.2.2.all (tc_wex c.2.1.1 c.2.1.2) = true := tf_hc tSS_2031 (by
  intro c hc
  have hc : c ∈ ([tK_2000, tK_2026, tK_2030, tK_2029, tK_2027] : List tc_Ct) := hc
  rcases List.mem_cons.mp hc with rfl | hc
  · exact tE_2000
  rcases List.mem_cons.mp hc with rfl | hc
  · exact tE_2026
  rcases List.mem_cons.mp hc with rfl | hc
  · exact tE_2030
  rcases List.mem_cons.mp hc with rfl | hc
  · exact tE_2029
  rcases List.mem_cons.mp hc with rfl | hc
  · exact tE_2027
  cases hc)
noncomputable def tH_2031_0 : List tc_It := [de_it 0x8010000, de_it 0x10001000100010101010101000101000000000000000000000000000000000e06000200000200010300010006, de_it 0x1010a010100000300000001, de_it 0x2010000, de_it 0x1000101030101010201010101010101000101000000000000000000000000000100010e01000100010007, de_it 0x10000010d01010300000001, de_it 0x8010000, de_it 0x2, de_it 0x2010000, de_it 0x10d0101010e0101000100010103010101020101000000000000000000000000000000000e000202010000000201010300010006, de_it 0x10000011501010300000001, de_it 0x2010000, de_it 0x100010103010101020101010b0101010a0101000000000000000000000000000100010e01000100010007, de_it 0x10118010100000300000001, de_it 0x2010000, de_it 0x2, de_it 0x2010000, de_it 0x10e01160201011501010200000001, de_it 0x2010000, de_it 0x10b0101010a0101000000000000000000000000000000000a000200010102010006, de_it 0x10e01160201011501010200000001, de_it 0x4010000, de_it 0x300000001, de_it 0x6010000, de_it 0x1011b010100000300000001, de_it 0x2010000, de_it 0x1011d010100000300000001, de_it 0x4010000, de_it 0x10001000000000400000003, de_it 0x2010000, de_it 0x1011f010100000300000001, de_it 0x2010000, de_it 0x10001011601010115010e02010119010101180101000000000000000000000000000100010e00000100010007, de_it 0x8010000, de_it 0x10000011c01010300000001, de_it 0xa010000, de_it 0x2, de_it 0x6010000, de_it 0x2, de_it 0x4010000, de_it 0x10e01190201010e0101010e011601190301011a010e01190301010e011601180301011a010e01180301011a01010116010101190101011801010000000000000000000000000000000912070202010102000201010002000103020004030006, de_it 0x6010000, de_it 0x10001010e0101011a01160201010e010100010001011a010101250123020201160101012401220202011901010118010100000000000000000000000000010001150002020100000200070202010102040202020008, de_it 0x10e01160201011501010200000001, de_it 0x4010000, de_it 0x300000001, de_it 0x6010000, de_it 0x1011b010100000300000001, de_it 0x2010000, de_it 0x1011d010100000300000001, de_it 0x4010000, de_it 0x10001000000000400000003, de_it 0x2010000, de_it 0x1011f010100000300000001, de_it 0x2010000, de_it 0x10001011601010115010e020101190101010a0101000000000000000000000000000100010e00000100010007, de_it 0x8010000, de_it 0x10000011c01010300000001, de_it 0xa010000, de_it 0x2, de_it 0x6010000, de_it 0x2, de_it 0x4010000, de_it 0x10e01190201010e0101010e011601190301011a010e01190301010e0116010a0301011a010e010a0301011a01010116010101190101010a010100000000000000000000000000000009120f0202010102000201010002000103020004030006, de_it 0x6010000, de_it 0x10001010e0101011a01160201010e010100010001011a0101010e0116020101160101011a010e020101190101010a0101000000000000000000000000000100011500020201000002000f0202010102040204020008, de_it 0x10e01160201011501010200000001, de_it 0x4010000, de_it 0x300000001, de_it 0x6010000, de_it 0x1011b010100000300000001, de_it 0x2010000, de_it 0x1011d010100000300000001, de_it 0x4010000, de_it 0x10001000000000400000003, de_it 0x2010000, de_it 0x1011f010100000300000001, de_it 0x2010000, de_it 0x10001011601010115010e0201010b010101180101000000000000000000000000000100010e00000100010007, de_it 0x8010000, de_it 0x10000011c01010300000001, de_it 0xa010000, de_it 0x2, de_it 0x6010000, de_it 0x2, de_it 0x4010000, de_it 0x10e010b0201010e0101010e0116010b0301011a010e010b0301010e011601180301011a010e01180301011a010101160101010b01010118010100000000000000000000000000000009120f0202010102000201010002000103020004030006, de_it 0x6010000, de_it 0x10001010e0101011a01160201010e010100010001011a0101010e0116020101160101011a010e0201010b010101180101000000000000000000000000000100011500020201000002000f0202010102040206020008]
set_option maxRecDepth 100000 in
theorem tR_2031 : fw_go tV_2031 tK_2031.2.1.1 tK_2031.2.1.2 none tH_2031_0 [(tK_2031.2.1, tK_2031.2.2.2.1, 0, tc_args 0 tK_2031.2.2.1, [], ([], 0), ([], 0))] = true := by decide +kernel
noncomputable def tH_2031_1 : List tc_It := [de_it 0x4010000, de_it 0x300000001, de_it 0x4010000, de_it 0x1090107020201030101000000000400000003, de_it 0x4010000, de_it 0x10001000000000400000003, de_it 0x2010000, de_it 0x104010100000110010402010300000001, de_it 0x4010000, de_it 0x1000101020101010b0108010a03030101010101000101000000000000000000000000000100010e02000100010007, de_it 0x2010000, de_it 0x2, de_it 0x4010000, de_it 0x2, de_it 0x4010000, de_it 0x10e010a02010105010202010200000001, de_it 0x2010011, de_it 0x10e010f010a0301010501020201020002040201020100010002, de_it 0xa010011, de_it 0x1140101011301010109020e0215010704020105010104000204010100010003, de_it 0x109020e01070302010501010200000001, de_it 0x2010000, de_it 0x10d0101010c010102050100020e010a0401010a0101010901010105010e010c0301010701010106010101050101010401010105010e020101020101010101010100010100000000010e0101000100000001000100011600020501020204010002030100020201040806040200050008]
set_option maxRecDepth 100000 in
theorem tP_2031_0 : fw_plk tV_2031 tL_2031_0 tH_2031_1 = true := by decide +kernel
noncomputable def tH_2031_2 : List tc_It := [de_it 0x4010000, de_it 0x101010101000101000000000000000000000000000000000a000200010102010006, de_it 0x300000001, de_it 0x2010000, de_it 0x1060101000000000300000001, de_it 0x4010000, de_it 0x10001000000000400000003, de_it 0x2010000, de_it 0x106010101120111020100000300000001, de_it 0x2010000, de_it 0x1000101030101010201010101010101000101000000000000000000000000000100010e00000100010007, de_it 0x8010000, de_it 0x2, de_it 0x4010000, de_it 0xe80002000f, de_it 0xe60002000f, de_it 0xf40002000f, de_it 0x10a010101050101010401010103010101020101000000000000000000000000000000050d000202010002010102080604020006060006, de_it 0x4010000, de_it 0x10c0101010a010102010105010201000301010a0101010401010201010201010201010401000201010801010001011001010105010101030101010101010100010100000000000000000001000100010001160002050100000002030100020201040804060200050008, de_it 0x2010000, de_it 0x1060101000000000300000001, de_it 0x4010000, de_it 0x10f0101010b011102010200000001, de_it 0x2010000, de_it 0x10c0101010b01110201010a01010109010101080101010b011102010001010501010104010101030101010201010101010101000101000000000109010f020100010000000100010001150002050102020401000000020201040202020008, de_it 0x2010000, de_it 0x2, de_it 0x4010000, de_it 0x10a01010105010302010200000001, de_it 0x2010000, de_it 0x10f010a020101070105010303010200000001, de_it 0x2010011, de_it 0x111010f010a030101070105010303010200020402020201030100010002, de_it 0x4010000, de_it 0x1070101010f0101000000000000000000000000000000000a000204010108010006, de_it 0x300000001, de_it 0x4010000, de_it 0x10f0101010701010200000001, de_it 0x2010000, de_it 0x10c010101070101010a01010109010101080101010701010001010501010104010101030101010201010101010101000101000000000109010f020100010000000100010001150002050102020401000000020201040202020008, de_it 0x6010000, de_it 0x10f0101010701010200000001, de_it 0x2010000, de_it 0x10c010101070101010a01010109010101080101010701010001010501010104010101030101010201010101010101000101000000000109010f020100010000000100010001150002050102020401020000020201040202020008, de_it 0x10e01000201010000000b, de_it 0x10d01010201010000000b]
set_option maxRecDepth 100000 in
theorem tP_2031_1 : fw_plk tV_2031 tL_2031_1 tH_2031_2 = true := by decide +kernel
noncomputable def tH_2031_3 : List tc_It := [de_it 0x4010000, de_it 0x101010101000101000000000000000000000000000000000a000200010102010006, de_it 0x10d01010201010000000b, de_it 0x300000001, de_it 0x2010000, de_it 0x1060101000000000300000001, de_it 0x4010000, de_it 0x10001000000000400000003, de_it 0x2010000, de_it 0x106010101120111020100000300000001, de_it 0x2010000, de_it 0x1000101030101010201010101010101000101000000000000000000000000000100010e00000100010007, de_it 0x8010000, de_it 0x2, de_it 0x4010000, de_it 0xe80002000f, de_it 0xe60002000f, de_it 0xf40002000f, de_it 0x10a010101050101010401010103010101020101000000000000000000000000000000050d000202010002010102080604020006060006, de_it 0x4010000, de_it 0x10c0101010a010102010105010201000301010a0101010401010201010201010201010401000201010801010001011001010105010101030101010101010100010100000000000000000001000100010001160002050100000002030100020201040804060200050008, de_it 0x2010000, de_it 0x1060101000000000300000001, de_it 0x4010000, de_it 0x10f0101010b011102010200000001, de_it 0x2010000, de_it 0x10c0101010b01110201010a01010109010101080101010b011102010001010501010104010101030101010201010101010101000101000000000109010f020100010000000100010001150002050102020401000000020201040204020008, de_it 0x2010000, de_it 0x2, de_it 0x4010000, de_it 0x10a01010105010302010200000001, de_it 0x2010000, de_it 0x10f010a020101070105010303010200000001, de_it 0x2010011, de_it 0x111010f010a030101070105010303010200020402020201030100010002, de_it 0x4010000, de_it 0x1070101010f0101000000000000000000000000000000000a000204010108010006, de_it 0x300000001, de_it 0x4010000, de_it 0x10f0101010701010200000001, de_it 0x2010000, de_it 0x10c010101070101010a01010109010101080101010701010001010501010104010101030101010201010101010101000101000000000109010f020100010000000100010001150002050102020401000000020201040204020008, de_it 0x6010000, de_it 0x10f0101010701010200000001, de_it 0x2010000, de_it 0x10c010101070101010a01010109010101080101010701010001010501010104010101030101010201010101010101000101000000000109010f020100010000000100010001150002050102020401020000020201040204020008, de_it 0x10d01010201010000000b]
set_option maxRecDepth 100000 in
theorem tP_2031_2 : fw_plk tV_2031 tL_2031_2 tH_2031_3 = true := by decide +kernel
noncomputable def tH_2031_4 : List tc_It := [de_it 0x4010000, de_it 0x101010101000101000000000000000000000000000000000a000200010102010006, de_it 0x10e01000201010000000b, de_it 0x10e01000201010000000b, de_it 0x300000001, de_it 0x2010000, de_it 0x1060101000000000300000001, de_it 0x4010000, de_it 0x10001000000000400000003, de_it 0x2010000, de_it 0x106010101120111020100000300000001, de_it 0x2010000, de_it 0x1000101030101010201010101010101000101000000000000000000000000000100010e00000100010007, de_it 0x8010000, de_it 0x2, de_it 0x4010000, de_it 0xe80002000f, de_it 0xe60002000f, de_it 0xf40002000f, de_it 0x10a010101050101010401010103010101020101000000000000000000000000000000050d000202010002010102080604020006060006, de_it 0x4010000, de_it 0x10c0101010a010102010105010201000301010a0101010401010201010201010201010401000201010801010001011001010105010101030101010101010100010100000000000000000001000100010001160002050100000002030100020201040804060200050008, de_it 0x2010000, de_it 0x1060101000000000300000001, de_it 0x4010000, de_it 0x10f0101010b011102010200000001, de_it 0x2010000, de_it 0x10c0101010b01110201010a01010109010101080101010b011102010001010501010104010101030101010201010101010101000101000000000109010f020100010000000100010001150002050102020401000000020201040206020008, de_it 0x2010000, de_it 0x2, de_it 0x4010000, de_it 0x10a01010105010302010200000001, de_it 0x2010000, de_it 0x10f010a020101070105010303010200000001, de_it 0x2010011, de_it 0x111010f010a030101070105010303010200020402020201030100010002, de_it 0x4010000, de_it 0x1070101010f0101000000000000000000000000000000000a000204010108010006, de_it 0x300000001, de_it 0x4010000, de_it 0x10f0101010701010200000001, de_it 0x2010000, de_it 0x10c010101070101010a01010109010101080101010701010001010501010104010101030101010201010101010101000101000000000109010f020100010000000100010001150002050102020401000000020201040206020008, de_it 0x6010000, de_it 0x10f0101010701010200000001, de_it 0x2010000, de_it 0x10c010101070101010a01010109010101080101010701010001010501010104010101030101010201010101010101000101000000000109010f020100010000000100010001150002050102020401020000020201040206020008]
set_option maxRecDepth 100000 in
theorem tP_2031_3 : fw_plk tV_2031 tL_2031_3 tH_2031_4 = true := by decide +kernel
set_option maxRecDepth 100000 in
theorem tT_2031 {RO : am_O} {sa : Nat → Nat} (h_2000 : tc_true (aP sa) tp_G RO tp_T tp_Z tK_2000) (h_2026 : tc_true (aP sa) tp_G RO tp_T tp_Z tK_2026) (h_2027 : tc_true (aP sa) tp_G RO tp_T tp_Z tK_2027) (h_2029 : tc_true (aP sa) tp_G RO tp_T tp_Z tK_2029) (h_2030 : tc_true (aP sa) tp_G RO tp_T tp_Z tK_2030) : tc_true (aP sa) tp_G RO tp_T tp_Z tK_2031 := by
  have hC : ∀ c ∈ tC_2031, tc_true (aP sa) tp_G RO tp_T tp_Z c := by
    intro c hc
    have hc : c ∈ ([tK_2000, tK_2026, tK_2030, tK_2029, tK_2027] : List tc_Ct) := hc
    rcases List.mem_cons.mp hc with rfl | hc
    · exact h_2000
    rcases List.mem_cons.mp hc with rfl | hc
    · exact h_2026
    rcases List.mem_cons.mp hc with rfl | hc
    · exact h_2030
    rcases List.mem_cons.mp hc with rfl | hc
    · exact h_2029
    rcases List.mem_cons.mp hc with rfl | hc
    · exact h_2027
    cases hc
  have hP : ∀ p ∈ tJ_2031, ∃ hs, tc_plk (aP sa, tV_2031.2) p hs = true := by
    intro p hp
    have hp : p ∈ ([tL_2031_0, tL_2031_1, tL_2031_2, tL_2031_3] : List tc_Pl) := hp
    rcases List.mem_cons.mp hp with rfl | hp
    · exact ⟨_, (tc_plk_sa (aP_sa sa _)).trans ((fw_plk_s tHC_2031).trans tP_2031_0)⟩
    rcases List.mem_cons.mp hp with rfl | hp
    · exact ⟨_, (tc_plk_sa (aP_sa sa _)).trans ((fw_plk_s tHC_2031).trans tP_2031_1)⟩
    rcases List.mem_cons.mp hp with rfl | hp
    · exact ⟨_, (tc_plk_sa (aP_sa sa _)).trans ((fw_plk_s tHC_2031).trans tP_2031_2)⟩
    rcases List.mem_cons.mp hp with rfl | hp
    · exact ⟨_, (tc_plk_sa (aP_sa sa _)).trans ((fw_plk_s tHC_2031).trans tP_2031_3)⟩
    cases hp
  exact tc_main (mt := aM_349.1) (hs := tH_2031_0) (PL := tJ_2031) ⟨tp_G_ok, tMs_2031 _, hC, tr_L_ok, tp_G_re⟩ (show am_meth (aP sa) 349 = some aM_349.1 from rfl) aX_349 (by decide +kernel) hP ((tc_go_sa (aP_sa sa _)).trans ((fw_go_s tHC_2031).trans tR_2031))
noncomputable def tK_2032 : tc_Ct := (352, (1, 0), [(0, ([(0, 1)], 0), 0)], ([([(0, -1)], 255), ([(0, 1)], -1)], [], [], [], [], [], []), [], [((2, 0), ([([(0, -1)], 255), ([(0, 1)], -1), ([(1, -1)], 2147483647), ([(1, 1)], -2147483587), ([(0, 1), (1, 1)], -2147483590)], [], [], [], [], [], []), some (0, ([(1, 1)], 0), 0), ([], 0), ([], 0))])
noncomputable def tJ_2032 : List tc_Pl := []
noncomputable def tC_2032 : List tc_Ct := []
def tM_2032 (z : Nat) : Option am_Meth := none
set_option maxRecDepth 100000 in
theorem tMs_2032 (sa : Nat → Nat) : ∀ z mz, tM_2032 z = some mz → am_meth (aP sa) z = some mz := fun z mz h => by cases h
noncomputable def tV_2032 : tc_Ev := (aQ, tp_T, tp_G.2, tp_Z, tM_2032, tC_2032, tr_L, tK_2032.2.2.2.2.1, aM_352.1, aW_352, tK_2032.2.1, tK_2032.2.2.2.2.2, tJ_2032)
theorem tE_2032 : tK_2032.2.2.2.2.2.all (tc_wex tK_2032.2.1.1 tK_2032.2.1.2) = true := by decide +kernel
theorem tSS_2032 : tC_2032.all (fun c => tw_mg tK_2032.2.2.2.2.1 c.2.2.2.2.1) = true := by decide +kernel
theorem tHC_2032 : ∀ c ∈ tC_2032, c.2.2.2.2.1.all tK_2032.2.2.2.2.1.contains = true ∧ c.2.2.2.2.2.all (tc_wex c.2.1.1 c.2.1.2) = true := tf_hc tSS_2032 (by
  intro c hc
  have hc : c ∈ ([] : List tc_Ct) := hc
  cases hc)
noncomputable def tH_2032_0 : List tc_It := [de_it 0x4010000, de_it 0x1010101000000000300000001, de_it 0x4010000, de_it 0x1020101000000000300000001, de_it 0x2010000, de_it 0x1030101000100010103010101000101000000000000000000000000000100010d00000000ffffff86ff000100010007, de_it 0x4010000, de_it 0x1020101000100010102010101040101000000000000000000000000000100010d00000000ffffffdaff000100010007, de_it 0x4010000, de_it 0x1010101000100010101010101030101000000000000000000000000000100010d00000000fffffffeff000100010007]
set_option maxRecDepth 100000 in
theorem tR_2032 : fw_go tV_2032 tK_2032.2.1.1 tK_2032.2.1.2 none tH_2032_0 [(tK_2032.2.1, tK_2032.2.2.2.1, 0, tc_args 0 tK_2032.2.2.1, [], ([], 0), ([], 0))] = true := by decide +kernel
set_option maxRecDepth 100000 in
theorem tT_2032 {RO : am_O} {sa : Nat → Nat} : tc_true (aP sa) tp_G RO tp_T tp_Z tK_2032 := by
  have hC : ∀ c ∈ tC_2032, tc_true (aP sa) tp_G RO tp_T tp_Z c := by
    intro c hc
    have hc : c ∈ ([] : List tc_Ct) := hc
    cases hc
  have hP : ∀ p ∈ tJ_2032, ∃ hs, tc_plk (aP sa, tV_2032.2) p hs = true := by
    intro p hp
    have hp : p ∈ ([] : List tc_Pl) := hp
    cases hp
  exact tc_main (mt := aM_352.1) (hs := tH_2032_0) (PL := tJ_2032) ⟨tp_G_ok, tMs_2032 _, hC, tr_L_ok, tp_G_re⟩ (show am_meth (aP sa) 352 = some aM_352.1 from rfl) aX_352 (by decide +kernel) hP ((tc_go_sa (aP_sa sa _)).trans ((fw_go_s tHC_2032).trans tR_2032))
noncomputable def tK_2033 : tc_Ct := (353, (2, 0), [(1, ([], 0), 0), (0, ([(0, 1)], 0), 0), (0, ([(1, 1)], 0), 0)], ([([(0, -1)], 2147483647), ([(0, 1)], 2147483648), ([(1, -1)], 2147483647), ([(1, 1)], -2147483579)], [], [], [], [], [], []), [], [((3, 0), ([([(0, -1)], 2147483647), ([(0, 1)], 2147483648), ([(1, -1)], 2147483647), ([(1, 1)], -2147483579), ([(2, -1)], 2147483647), ([(2, 1)], 2147483648)], [], [], [], [], [], []), some (0, ([(2, 1)], 0), 0), ([], 0), ([], 0))])
noncomputable def tL_2033_0 : tc_Pl := de_pl 0x30d32ff00020202010000000000030d32ff000300000000000000020201000600000001040000020101000300000200010002000000010005070000000000003c01020100000000ffffff75ff02010100000000fffffffeff0101010000000100000000ff02000100000000fffffffeff010001050003
noncomputable def tJ_2033 : List tc_Pl := [tL_2033_0]
noncomputable def tC_2033 : List tc_Ct := []
def tM_2033 (z : Nat) : Option am_Meth := none
set_option maxRecDepth 100000 in
theorem tMs_2033 (sa : Nat → Nat) : ∀ z mz, tM_2033 z = some mz → am_meth (aP sa) z = some mz := fun z mz h => by cases h
noncomputable def tV_2033 : tc_Ev := (aQ, tp_T, tp_G.2, tp_Z, tM_2033, tC_2033, tr_L, tK_2033.2.2.2.2.1, aM_353.1, aW_353, tK_2033.2.1, tK_2033.2.2.2.2.2, tJ_2033)
theorem tE_2033 : tK_2033.2.2.2.2.2.all (tc_wex tK_2033.2.1.1 tK_2033.2.1.2) = true := by decide +kernel
theorem tSS_2033 : tC_2033.all (fun c => tw_mg tK_2033.2.2.2.2.1 c.2.2.2.2.1) = true := by decide +kernel
theorem tHC_2033 : ∀ c ∈ tC_2033, c.2.2.2.2.1.all tK_2033.2.2.2.2.1.contains = true ∧ c.2.2.2.2.2.all (tc_wex c.2.1.1 c.2.1.2) = true := tf_hc tSS_2033 (by
  intro c hc
  have hc : c ∈ ([] : List tc_Ct) := hc
  cases hc)
noncomputable def tH_2033_0 : List tc_It := [de_it 0x8010000, de_it 0x101030101010201010101010101000101000000000000000000000000000100010d3c000100010008]
set_option maxRecDepth 100000 in
theorem tR_2033 : fw_go tV_2033 tK_2033.2.1.1 tK_2033.2.1.2 none tH_2033_0 [(tK_2033.2.1, tK_2033.2.2.2.1, 0, tc_args 0 tK_2033.2.2.1, [], ([], 0), ([], 0))] = true := by decide +kernel
noncomputable def tH_2033_1 : List tc_It := [de_it 0x2010000, de_it 0x300000001, de_it 0x2010000, de_it 0x101, de_it 0x10601010107010101030101010201010101010101000101000000000000000000000000000100010e000203010100010007, de_it 0xa010000, de_it 0x10301010100000001, de_it 0x6010000, de_it 0x101, de_it 0x6010000, de_it 0x1090101000000000300000001, de_it 0x4010000, de_it 0x1040101010501010200000001, de_it 0x2010000, de_it 0x1040101010301010102010101010101010001010000000001050101000100000001000100010d010202010100010008, de_it 0xa010000, de_it 0x10301010100000001, de_it 0x4010000, de_it 0x1040101010501010200000001, de_it 0x2010000, de_it 0x1040101010301010102010101010101010001010000000001050101000100000001000100010d010202010100010008]
set_option maxRecDepth 100000 in
theorem tP_2033_0 : fw_plk tV_2033 tL_2033_0 tH_2033_1 = true := by decide +kernel
set_option maxRecDepth 100000 in
theorem tT_2033 {RO : am_O} {sa : Nat → Nat} : tc_true (aP sa) tp_G RO tp_T tp_Z tK_2033 := by
  have hC : ∀ c ∈ tC_2033, tc_true (aP sa) tp_G RO tp_T tp_Z c := by
    intro c hc
    have hc : c ∈ ([] : List tc_Ct) := hc
    cases hc
  have hP : ∀ p ∈ tJ_2033, ∃ hs, tc_plk (aP sa, tV_2033.2) p hs = true := by
    intro p hp
    have hp : p ∈ ([tL_2033_0] : List tc_Pl) := hp
    rcases List.mem_cons.mp hp with rfl | hp
    · exact ⟨_, (tc_plk_sa (aP_sa sa _)).trans ((fw_plk_s tHC_2033).trans tP_2033_0)⟩
    cases hp
  exact tc_main (mt := aM_353.1) (hs := tH_2033_0) (PL := tJ_2033) ⟨tp_G_ok, tMs_2033 _, hC, tr_L_ok, tp_G_re⟩ (show am_meth (aP sa) 353 = some aM_353.1 from rfl) aX_353 (by decide +kernel) hP ((tc_go_sa (aP_sa sa _)).trans ((fw_go_s tHC_2033).trans tR_2033))
noncomputable def tK_2034 : tc_Ct := (351, (2, 0), [(0, ([(0, 1)], 0), 0), (0, ([(1, 1)], 0), 0)], ([([(0, -1)], 255), ([(0, 1)], -1), ([(1, -1)], 2147483647), ([(1, 1)], 2147483648)], [], [], [], [], [], []), [], [((3, 0), ([([(0, -1)], 255), ([(0, 1)], -1), ([(1, -1)], 2147483647), ([(1, 1)], 2147483648), ([(2, -1)], 2147483647), ([(2, 1)], 2147483648)], [], [], [], [], [], []), some (0, ([(2, 1)], 0), 0), ([], 0), ([], 0))])
noncomputable def tJ_2034 : List tc_Pl := []
noncomputable def tC_2034 : List tc_Ct := [tK_2032, tK_2033]
def tM_2034 (z : Nat) : Option am_Meth := if z = 353 then some aM_353.1 else if z = 352 then some aM_352.1 else none
set_option maxRecDepth 100000 in
theorem tMs_2034 (sa : Nat → Nat) : ∀ z mz, tM_2034 z = some mz → am_meth (aP sa) z = some mz := by
  intro z mz h
  unfold tM_2034 at h
  rcases de_m h with ⟨rfl, rfl⟩ | h
  · exact (show am_meth (aP sa) 353 = some aM_353.1 from rfl)
  rcases de_m h with ⟨rfl, rfl⟩ | h
  · exact (show am_meth (aP sa) 352 = some aM_352.1 from rfl)
  cases h
noncomputable def tV_2034 : tc_Ev := (aQ, tp_T, tp_G.2, tp_Z, tM_2034, tC_2034, tr_L, tK_2034.2.2.2.2.1, aM_351.1, aW_351, tK_2034.2.1, tK_2034.2.2.2.2.2, tJ_2034)
theorem tE_2034 : tK_2034.2.2.2.2.2.all (tc_wex tK_2034.2.1.1 tK_2034.2.1.2) = true := by decide +kernel
theorem tSS_2034 : tC_2034.all (fun c => tw_mg tK_2034.2.2.2.2.1 c.2.2.2.2.1) = true := by decide +kernel
theorem tHC_2034 : ∀ c ∈ tC_2034, c.2.2.2.2.1.all tK_2034.2.2.2.2.1.contains = true ∧ c.2.2.2.2.2.all (tc_wex c.2.1.1 c.2.1.2) = true := tf_hc tSS_2034 (by
  intro c hc
  have hc : c ∈ ([tK_2032, tK_2033] : List tc_Ct) := hc
  rcases List.mem_cons.mp hc with rfl | hc
  · exact tE_2032
  rcases List.mem_cons.mp hc with rfl | hc
  · exact tE_2033
  cases hc)
noncomputable def tH_2034_0 : List tc_It := [de_it 0x4010000, de_it 0x1010101000000000300000001, de_it 0x6010000, de_it 0x104010101000101000000000000000000000000000000000a000200010100010006, de_it 0x1080101010701010103010101020101000000000000000000000000000000000c00020201000201010202010006, de_it 0x10f0101010e010101030101010201010104010101000101000000000000000000000000000100010e000203010100010007, de_it 0x8010000, de_it 0x101010101050101000000000000000000000000000000000a000200010100010006, de_it 0x10a01050201010801010103010101020101000000000000000000000000000000000c00020201000201010202010006, de_it 0x1100101010f010101030101010201010101010101050101000000000000000000000000000100010e000203010100010007]
set_option maxRecDepth 100000 in
theorem tR_2034 : fw_go tV_2034 tK_2034.2.1.1 tK_2034.2.1.2 none tH_2034_0 [(tK_2034.2.1, tK_2034.2.2.2.1, 0, tc_args 0 tK_2034.2.2.1, [], ([], 0), ([], 0))] = true := by decide +kernel
set_option maxRecDepth 100000 in
theorem tT_2034 {RO : am_O} {sa : Nat → Nat} (h_2032 : tc_true (aP sa) tp_G RO tp_T tp_Z tK_2032) (h_2033 : tc_true (aP sa) tp_G RO tp_T tp_Z tK_2033) : tc_true (aP sa) tp_G RO tp_T tp_Z tK_2034 := by
  have hC : ∀ c ∈ tC_2034, tc_true (aP sa) tp_G RO tp_T tp_Z c := by
    intro c hc
    have hc : c ∈ ([tK_2032, tK_2033] : List tc_Ct) := hc
    rcases List.mem_cons.mp hc with rfl | hc
    · exact h_2032
    rcases List.mem_cons.mp hc with rfl | hc
    · exact h_2033
    cases hc
  have hP : ∀ p ∈ tJ_2034, ∃ hs, tc_plk (aP sa, tV_2034.2) p hs = true := by
    intro p hp
    have hp : p ∈ ([] : List tc_Pl) := hp
    cases hp
  exact tc_main (mt := aM_351.1) (hs := tH_2034_0) (PL := tJ_2034) ⟨tp_G_ok, tMs_2034 _, hC, tr_L_ok, tp_G_re⟩ (show am_meth (aP sa) 351 = some aM_351.1 from rfl) aX_351 (by decide +kernel) hP ((tc_go_sa (aP_sa sa _)).trans ((fw_go_s tHC_2034).trans tR_2034))
noncomputable def tK_2035 : tc_Ct := (350, (2, 1), [(2, ([], 0), 0), (0, ([(0, 1)], 0), 0), (0, ([(1, 1)], 0), 0)], ([([(0, -1)], 2147483647), ([(0, 1)], 2147483648), ([(1, -1)], 2147483647), ([(1, 1)], 2147483648)], [(0, 0)], [], [], [], [], []), [], [((3, 1), ([([(0, -1)], 2147483647), ([(0, 1)], 2147483648), ([(1, -1)], 2147483647), ([(1, 1)], 2147483648), ([(2, -1)], 2147483647), ([(2, 1)], 2147483648)], [], [], [], [], [], []), some (0, ([(2, 1)], 0), 0), ([], 0), ([], 0))])
noncomputable def tJ_2035 : List tc_Pl := []
noncomputable def tC_2035 : List tc_Ct := [tK_2000, tK_2034]
def tM_2035 (z : Nat) : Option am_Meth := if z = 351 then some aM_351.1 else if z = 321 then some aM_321.1 else none
set_option maxRecDepth 100000 in
theorem tMs_2035 (sa : Nat → Nat) : ∀ z mz, tM_2035 z = some mz → am_meth (aP sa) z = some mz := by
  intro z mz h
  unfold tM_2035 at h
  rcases de_m h with ⟨rfl, rfl⟩ | h
  · exact (show am_meth (aP sa) 351 = some aM_351.1 from rfl)
  rcases de_m h with ⟨rfl, rfl⟩ | h
  · exact (show am_meth (aP sa) 321 = some aM_321.1 from rfl)
  cases h
noncomputable def tV_2035 : tc_Ev := (aQ, tp_T, tp_G.2, tp_Z, tM_2035, tC_2035, tr_L, tK_2035.2.2.2.2.1, aM_350.1, aW_350, tK_2035.2.1, tK_2035.2.2.2.2.2, tJ_2035)
theorem tE_2035 : tK_2035.2.2.2.2.2.all (tc_wex tK_2035.2.1.1 tK_2035.2.1.2) = true := by decide +kernel
theorem tSS_2035 : tC_2035.all (fun c => tw_mg tK_2035.2.2.2.2.1 c.2.2.2.2.1) = true := by decide +kernel
theorem tHC_2035 : ∀ c ∈ tC_2035, c.2.2.2.2.1.all tK_2035.2.2.2.2.1.contains = true ∧ c.2.2.2.2.2.all (tc_wex c.2.1.1 c.2.1.2) = true := tf_hc tSS_2035 (by
  intro c hc
  have hc : c ∈ ([tK_2000, tK_2034] : List tc_Ct) := hc
  rcases List.mem_cons.mp hc with rfl | hc
  · exact tE_2000
  rcases List.mem_cons.mp hc with rfl | hc
  · exact tE_2034
  cases hc)
noncomputable def tH_2035_0 : List tc_It := [de_it 0x8010000, de_it 0x10001000100010101010101000101000000000000000000000000000000000e06000200000200010300010006, de_it 0x1010a010100000300000001, de_it 0x2010000, de_it 0x1000101030101010201010101010101000101000000000000000000000000000100010e01000100010007, de_it 0x10000010d01010300000001, de_it 0x2010000, de_it 0x300000001, de_it 0x2010000, de_it 0x1000101030101010d0101010b0101010a0101000000000000000000000000000100010e01000100010007, de_it 0x4010000, de_it 0x10d010101020101010b0101010a0101000000000000000000000000000000000c00020101000200010202010006, de_it 0x2010000, de_it 0x113010101120101010d010101020101010b0101010a0101000000000000000000000000000100010e000202010100010007]
set_option maxRecDepth 100000 in
theorem tR_2035 : fw_go tV_2035 tK_2035.2.1.1 tK_2035.2.1.2 none tH_2035_0 [(tK_2035.2.1, tK_2035.2.2.2.1, 0, tc_args 0 tK_2035.2.2.1, [], ([], 0), ([], 0))] = true := by decide +kernel
set_option maxRecDepth 100000 in
theorem tT_2035 {RO : am_O} {sa : Nat → Nat} (h_2000 : tc_true (aP sa) tp_G RO tp_T tp_Z tK_2000) (h_2034 : tc_true (aP sa) tp_G RO tp_T tp_Z tK_2034) : tc_true (aP sa) tp_G RO tp_T tp_Z tK_2035 := by
  have hC : ∀ c ∈ tC_2035, tc_true (aP sa) tp_G RO tp_T tp_Z c := by
    intro c hc
    have hc : c ∈ ([tK_2000, tK_2034] : List tc_Ct) := hc
    rcases List.mem_cons.mp hc with rfl | hc
    · exact h_2000
    rcases List.mem_cons.mp hc with rfl | hc
    · exact h_2034
    cases hc
  have hP : ∀ p ∈ tJ_2035, ∃ hs, tc_plk (aP sa, tV_2035.2) p hs = true := by
    intro p hp
    have hp : p ∈ ([] : List tc_Pl) := hp
    cases hp
  exact tc_main (mt := aM_350.1) (hs := tH_2035_0) (PL := tJ_2035) ⟨tp_G_ok, tMs_2035 _, hC, tr_L_ok, tp_G_re⟩ (show am_meth (aP sa) 350 = some aM_350.1 from rfl) aX_350 (by decide +kernel) hP ((tc_go_sa (aP_sa sa _)).trans ((fw_go_s tHC_2035).trans tR_2035))
noncomputable def tK_2036 : tc_Ct := (355, (3, 0), [(0, ([(0, 1)], 0), 0), (0, ([(1, 1)], 0), 0), (0, ([(2, 1)], 0), 0)], ([([(0, -1)], 255), ([(0, 1)], -1), ([(1, -1)], 2147483647), ([(1, 1)], 2147483648), ([(2, -1)], 2147483647), ([(2, 1)], 2147483648)], [], [], [], [], [], []), [], [((3, 0), ([([(0, -1)], 255), ([(0, 1)], -1), ([(1, -1)], 2147483647), ([(1, 1)], 2147483648), ([(2, -1)], 2147483647), ([(2, 1)], 2147483648)], [], [], [], [], [], []), some (1, ([], 0), 0), ([], 0), ([], 0))])
noncomputable def tJ_2036 : List tc_Pl := []
noncomputable def tC_2036 : List tc_Ct := [tK_2032, tK_2000, tK_2033]
def tM_2036 (z : Nat) : Option am_Meth := if z = 353 then some aM_353.1 else if z = 352 then some aM_352.1 else if z = 321 then some aM_321.1 else none
set_option maxRecDepth 100000 in
theorem tMs_2036 (sa : Nat → Nat) : ∀ z mz, tM_2036 z = some mz → am_meth (aP sa) z = some mz := by
  intro z mz h
  unfold tM_2036 at h
  rcases de_m h with ⟨rfl, rfl⟩ | h
  · exact (show am_meth (aP sa) 353 = some aM_353.1 from rfl)
  rcases de_m h with ⟨rfl, rfl⟩ | h
  · exact (show am_meth (aP sa) 352 = some aM_352.1 from rfl)
  rcases de_m h with ⟨rfl, rfl⟩ | h
  · exact (show am_meth (aP sa) 321 = some aM_321.1 from rfl)
  cases h
noncomputable def tV_2036 : tc_Ev := (aQ, tp_T, tp_G.2, tp_Z, tM_2036, tC_2036, tr_L, tK_2036.2.2.2.2.1, aM_355.1, aW_355, tK_2036.2.1, tK_2036.2.2.2.2.2, tJ_2036)
theorem tE_2036 : tK_2036.2.2.2.2.2.all (tc_wex tK_2036.2.1.1 tK_2036.2.1.2) = true := by decide +kernel
theorem tSS_2036 : tC_2036.all (fun c => tw_mg tK_2036.2.2.2.2.1 c.2.2.2.2.1) = true := by decide +kernel
theorem tHC_2036 : ∀ c ∈ tC_2036, c.2.2.2.2.1.all tK_2036.2.2.2.2.1.contains = true ∧ c.2.2.2.2.2.all (tc_wex c.2.1.1 c.2.1.2) = true := tf_hc tSS_2036 (by
  intro c hc
  have hc : c ∈ ([tK_2032, tK_2000, tK_2033] : List tc_Ct) := hc
  rcases List.mem_cons.mp hc with rfl | hc
  · exact tE_2032
  rcases List.mem_cons.mp hc with rfl | hc
  · exact tE_2000
  rcases List.mem_cons.mp hc with rfl | hc
  · exact tE_2033
  cases hc)
noncomputable def tH_2036_0 : List tc_It := [de_it 0x2010000, de_it 0x101010101000101000000000000000000000000000000000a000200010100010006, de_it 0xc010000, de_it 0x1080101010901010200000001, de_it 0x2010000, de_it 0x109010101080101000100010105010101040101000000000000000000000000000000000e030203010400000202010302010006, de_it 0x10000011101010300000001, de_it 0x2010000, de_it 0x10501010104010101030101010201010101010101000101000000000000000000000000000100010e0000010007, de_it 0x10114010100000300000001, de_it 0x8010000, de_it 0x1090101010801010103010101020101000000000000000000000000000000000c00020301000201010204010006, de_it 0xc010000, de_it 0x1080101010901010200000001, de_it 0x2010000, de_it 0x109010101080101000100010119010101180101000000000000000000000000000000000e030203010400000204010302010006, de_it 0x10120010100000300000001, de_it 0x2010000, de_it 0x112010101110108020101030101010201010101010101000101000000000000000000000000000100010e0000010007, de_it 0x10000012301010300000001, de_it 0x6010000, de_it 0x112010101110108020101030101010201010101010101000101000000000000000000000000000100010e0000010007]
set_option maxRecDepth 100000 in
theorem tR_2036 : fw_go tV_2036 tK_2036.2.1.1 tK_2036.2.1.2 none tH_2036_0 [(tK_2036.2.1, tK_2036.2.2.2.1, 0, tc_args 0 tK_2036.2.2.1, [], ([], 0), ([], 0))] = true := by decide +kernel
set_option maxRecDepth 100000 in
theorem tT_2036 {RO : am_O} {sa : Nat → Nat} (h_2000 : tc_true (aP sa) tp_G RO tp_T tp_Z tK_2000) (h_2032 : tc_true (aP sa) tp_G RO tp_T tp_Z tK_2032) (h_2033 : tc_true (aP sa) tp_G RO tp_T tp_Z tK_2033) : tc_true (aP sa) tp_G RO tp_T tp_Z tK_2036 := by
  have hC : ∀ c ∈ tC_2036, tc_true (aP sa) tp_G RO tp_T tp_Z c := by
    intro c hc
    have hc : c ∈ ([tK_2032, tK_2000, tK_2033] : List tc_Ct) := hc
    rcases List.mem_cons.mp hc with rfl | hc
    · exact h_2032
    rcases List.mem_cons.mp hc with rfl | hc
    · exact h_2000
    rcases List.mem_cons.mp hc with rfl | hc
    · exact h_2033
    cases hc
  have hP : ∀ p ∈ tJ_2036, ∃ hs, tc_plk (aP sa, tV_2036.2) p hs = true := by
    intro p hp
    have hp : p ∈ ([] : List tc_Pl) := hp
    cases hp
  exact tc_main (mt := aM_355.1) (hs := tH_2036_0) (PL := tJ_2036) ⟨tp_G_ok, tMs_2036 _, hC, tr_L_ok, tp_G_re⟩ (show am_meth (aP sa) 355 = some aM_355.1 from rfl) aX_355 (by decide +kernel) hP ((tc_go_sa (aP_sa sa _)).trans ((fw_go_s tHC_2036).trans tR_2036))
noncomputable def tK_2037 : tc_Ct := (354, (3, 1), [(2, ([], 0), 0), (0, ([(0, 1)], 0), 0), (0, ([(1, 1)], 0), 0), (0, ([(2, 1)], 0), 0)], ([([(0, -1)], 2147483647), ([(0, 1)], 2147483648), ([(1, -1)], 2147483647), ([(1, 1)], 2147483648), ([(2, -1)], 2147483647), ([(2, 1)], 2147483648)], [(0, 0)], [], [], [], [], []), [], [((3, 1), ([([(0, -1)], 2147483647), ([(0, 1)], 2147483648), ([(1, -1)], 2147483647), ([(1, 1)], 2147483648), ([(2, -1)], 2147483647), ([(2, 1)], 2147483648)], [], [], [], [], [], []), some (1, ([], 0), 0), ([], 0), ([], 0))])
noncomputable def tJ_2037 : List tc_Pl := []
noncomputable def tC_2037 : List tc_Ct := [tK_2000, tK_2036]
def tM_2037 (z : Nat) : Option am_Meth := if z = 355 then some aM_355.1 else if z = 321 then some aM_321.1 else none
set_option maxRecDepth 100000 in
theorem tMs_2037 (sa : Nat → Nat) : ∀ z mz, tM_2037 z = some mz → am_meth (aP sa) z = some mz := by
  intro z mz h
  unfold tM_2037 at h
  rcases de_m h with ⟨rfl, rfl⟩ | h
  · exact (show am_meth (aP sa) 355 = some aM_355.1 from rfl)
  rcases de_m h with ⟨rfl, rfl⟩ | h
  · exact (show am_meth (aP sa) 321 = some aM_321.1 from rfl)
  cases h
noncomputable def tV_2037 : tc_Ev := (aQ, tp_T, tp_G.2, tp_Z, tM_2037, tC_2037, tr_L, tK_2037.2.2.2.2.1, aM_354.1, aW_354, tK_2037.2.1, tK_2037.2.2.2.2.2, tJ_2037)
theorem tE_2037 : tK_2037.2.2.2.2.2.all (tc_wex tK_2037.2.1.1 tK_2037.2.1.2) = true := by decide +kernel
theorem tSS_2037 : tC_2037.all (fun c => tw_mg tK_2037.2.2.2.2.1 c.2.2.2.2.1) = true := by decide +kernel
theorem tHC_2037 : ∀ c ∈ tC_2037, c.2.2.2.2.1.all tK_2037.2.2.2.2.1.contains = true ∧ c.2.2.2.2.2.all (tc_wex c.2.1.1 c.2.1.2) = true := tf_hc tSS_2037 (by
  intro c hc
  have hc : c ∈ ([tK_2000, tK_2036] : List tc_Ct) := hc
  rcases List.mem_cons.mp hc with rfl | hc
  · exact tE_2000
  rcases List.mem_cons.mp hc with rfl | hc
  · exact tE_2036
  cases hc)
noncomputable def tH_2037_0 : List tc_It := [de_it 0x8010000, de_it 0x10001000100010101010101000101000000000000000000000000000000000e06000200000200010300010006, de_it 0x1010c010100000300000001, de_it 0x2010000, de_it 0x10501010104010101030101010201010101010101000101000000000000000000000000000100010e0000010007, de_it 0x10000010f01010300000001, de_it 0x2010000, de_it 0x300000001, de_it 0x2010000, de_it 0x10501010104010101030101010f0101010d0101010c0101000000000000000000000000000100010e0000010007, de_it 0x6010000, de_it 0x105010101040101010f010101020101010d0101010c0101000000000000000000000000000000000e0002020100020101000200010302010006, de_it 0x2010000, de_it 0x105010101040101010f010101020101010d0101010c0101000000000000000000000000000100010e0000010007]
set_option maxRecDepth 100000 in
theorem tR_2037 : fw_go tV_2037 tK_2037.2.1.1 tK_2037.2.1.2 none tH_2037_0 [(tK_2037.2.1, tK_2037.2.2.2.1, 0, tc_args 0 tK_2037.2.2.1, [], ([], 0), ([], 0))] = true := by decide +kernel
set_option maxRecDepth 100000 in
theorem tT_2037 {RO : am_O} {sa : Nat → Nat} (h_2000 : tc_true (aP sa) tp_G RO tp_T tp_Z tK_2000) (h_2036 : tc_true (aP sa) tp_G RO tp_T tp_Z tK_2036) : tc_true (aP sa) tp_G RO tp_T tp_Z tK_2037 := by
  have hC : ∀ c ∈ tC_2037, tc_true (aP sa) tp_G RO tp_T tp_Z c := by
    intro c hc
    have hc : c ∈ ([tK_2000, tK_2036] : List tc_Ct) := hc
    rcases List.mem_cons.mp hc with rfl | hc
    · exact h_2000
    rcases List.mem_cons.mp hc with rfl | hc
    · exact h_2036
    cases hc
  have hP : ∀ p ∈ tJ_2037, ∃ hs, tc_plk (aP sa, tV_2037.2) p hs = true := by
    intro p hp
    have hp : p ∈ ([] : List tc_Pl) := hp
    cases hp
  exact tc_main (mt := aM_354.1) (hs := tH_2037_0) (PL := tJ_2037) ⟨tp_G_ok, tMs_2037 _, hC, tr_L_ok, tp_G_re⟩ (show am_meth (aP sa) 354 = some aM_354.1 from rfl) aX_354 (by decide +kernel) hP ((tc_go_sa (aP_sa sa _)).trans ((fw_go_s tHC_2037).trans tR_2037))
noncomputable def tK_2038 : tc_Ct := (357, (1, 0), [(0, ([(0, 1)], 0), 0)], ([([(0, -1)], 2147483647), ([(0, 1)], 2147483648)], [], [], [], [], [], []), [], [((1, 0), ([([(0, -1)], 2147483647), ([(0, 1)], 2147483648)], [], [], [], [], [], []), some (0, ([], 0), 0), ([], 0), ([], 0)), ((1, 0), ([([(0, -1)], 1073741788), ([(0, 1)], -1)], [], [], [], [], [], []), some (0, ([], 1), 0), ([], 0), ([], 0))])
noncomputable def tJ_2038 : List tc_Pl := []
noncomputable def tC_2038 : List tc_Ct := [tK_2000]
def tM_2038 (z : Nat) : Option am_Meth := if z = 321 then some aM_321.1 else none
set_option maxRecDepth 100000 in
theorem tMs_2038 (sa : Nat → Nat) : ∀ z mz, tM_2038 z = some mz → am_meth (aP sa) z = some mz := by
  intro z mz h
  unfold tM_2038 at h
  rcases de_m h with ⟨rfl, rfl⟩ | h
  · exact (show am_meth (aP sa) 321 = some aM_321.1 from rfl)
  cases h
noncomputable def tV_2038 : tc_Ev := (aQ, tp_T, tp_G.2, tp_Z, tM_2038, tC_2038, tr_L, tK_2038.2.2.2.2.1, aM_357.1, aW_357, tK_2038.2.1, tK_2038.2.2.2.2.2, tJ_2038)
theorem tE_2038 : tK_2038.2.2.2.2.2.all (tc_wex tK_2038.2.1.1 tK_2038.2.1.2) = true := by decide +kernel
theorem tSS_2038 : tC_2038.all (fun c => tw_mg tK_2038.2.2.2.2.1 c.2.2.2.2.1) = true := by decide +kernel
theorem tHC_2038 : ∀ c ∈ tC_2038, c.2.2.2.2.1.all tK_2038.2.2.2.2.1.contains = true ∧ c.2.2.2.2.2.all (tc_wex c.2.1.1 c.2.1.2) = true := tf_hc tSS_2038 (by
  intro c hc
  have hc : c ∈ ([tK_2000] : List tc_Ct) := hc
  rcases List.mem_cons.mp hc with rfl | hc
  · exact tE_2000
  cases hc)
noncomputable def tH_2038_0 : List tc_It := [de_it 0x8010000, de_it 0x10001000100010101010101000101000000000000000000000000000000000e000000007fffffb8ff000200000200010300010006, de_it 0x101010101000101000000000000000000010001000100010a0000010007, de_it 0x109010101080101000000000000000000010001000100010a0002010007]
set_option maxRecDepth 100000 in
theorem tR_2038 : fw_go tV_2038 tK_2038.2.1.1 tK_2038.2.1.2 none tH_2038_0 [(tK_2038.2.1, tK_2038.2.2.2.1, 0, tc_args 0 tK_2038.2.2.1, [], ([], 0), ([], 0))] = true := by decide +kernel
set_option maxRecDepth 100000 in
theorem tT_2038 {RO : am_O} {sa : Nat → Nat} (h_2000 : tc_true (aP sa) tp_G RO tp_T tp_Z tK_2000) : tc_true (aP sa) tp_G RO tp_T tp_Z tK_2038 := by
  have hC : ∀ c ∈ tC_2038, tc_true (aP sa) tp_G RO tp_T tp_Z c := by
    intro c hc
    have hc : c ∈ ([tK_2000] : List tc_Ct) := hc
    rcases List.mem_cons.mp hc with rfl | hc
    · exact h_2000
    cases hc
  have hP : ∀ p ∈ tJ_2038, ∃ hs, tc_plk (aP sa, tV_2038.2) p hs = true := by
    intro p hp
    have hp : p ∈ ([] : List tc_Pl) := hp
    cases hp
  exact tc_main (mt := aM_357.1) (hs := tH_2038_0) (PL := tJ_2038) ⟨tp_G_ok, tMs_2038 _, hC, tr_L_ok, tp_G_re⟩ (show am_meth (aP sa) 357 = some aM_357.1 from rfl) aX_357 (by decide +kernel) hP ((tc_go_sa (aP_sa sa _)).trans ((fw_go_s tHC_2038).trans tR_2038))
noncomputable def tK_2039 : tc_Ct := (358, (1, 0), [(0, ([(0, 1)], 0), 0)], ([([(0, -1)], 2147483647), ([(0, 1)], 2147483648)], [], [], [], [], [], []), [], [((2, 0), ([([(0, -1)], 2147483647), ([(0, 1)], 2147483648), ([(1, -1)], 2147483647), ([(1, 1)], 2147483648)], [], [], [], [], [], []), some (0, ([(1, 1)], 0), 0), ([], 0), ([], 0))])
noncomputable def tJ_2039 : List tc_Pl := []
noncomputable def tC_2039 : List tc_Ct := [tK_2033]
def tM_2039 (z : Nat) : Option am_Meth := if z = 353 then some aM_353.1 else none
set_option maxRecDepth 100000 in
theorem tMs_2039 (sa : Nat → Nat) : ∀ z mz, tM_2039 z = some mz → am_meth (aP sa) z = some mz := by
  intro z mz h
  unfold tM_2039 at h
  rcases de_m h with ⟨rfl, rfl⟩ | h
  · exact (show am_meth (aP sa) 353 = some aM_353.1 from rfl)
  cases h
noncomputable def tV_2039 : tc_Ev := (aQ, tp_T, tp_G.2, tp_Z, tM_2039, tC_2039, tr_L, tK_2039.2.2.2.2.1, aM_358.1, aW_358, tK_2039.2.1, tK_2039.2.2.2.2.2, tJ_2039)
theorem tE_2039 : tK_2039.2.2.2.2.2.all (tc_wex tK_2039.2.1.1 tK_2039.2.1.2) = true := by decide +kernel
theorem tSS_2039 : tC_2039.all (fun c => tw_mg tK_2039.2.2.2.2.1 c.2.2.2.2.1) = true := by decide +kernel
theorem tHC_2039 : ∀ c ∈ tC_2039, c.2.2.2.2.1.all tK_2039.2.2.2.2.1.contains = true ∧ c.2.2.2.2.2.all (tc_wex c.2.1.1 c.2.1.2) = true := tf_hc tSS_2039 (by
  intro c hc
  have hc : c ∈ ([tK_2033] : List tc_Ct) := hc
  rcases List.mem_cons.mp hc with rfl | hc
  · exact tE_2033
  cases hc)
noncomputable def tH_2039_0 : List tc_It := [de_it 0x6010000, de_it 0x100010101010101000101000000000000000000000000000000000c00000000ffffff76ff00000200010200010006, de_it 0x1070101010601010101010101000101000000000000000000000000000100010c000201010100010007]
set_option maxRecDepth 100000 in
theorem tR_2039 : fw_go tV_2039 tK_2039.2.1.1 tK_2039.2.1.2 none tH_2039_0 [(tK_2039.2.1, tK_2039.2.2.2.1, 0, tc_args 0 tK_2039.2.2.1, [], ([], 0), ([], 0))] = true := by decide +kernel
set_option maxRecDepth 100000 in
theorem tT_2039 {RO : am_O} {sa : Nat → Nat} (h_2033 : tc_true (aP sa) tp_G RO tp_T tp_Z tK_2033) : tc_true (aP sa) tp_G RO tp_T tp_Z tK_2039 := by
  have hC : ∀ c ∈ tC_2039, tc_true (aP sa) tp_G RO tp_T tp_Z c := by
    intro c hc
    have hc : c ∈ ([tK_2033] : List tc_Ct) := hc
    rcases List.mem_cons.mp hc with rfl | hc
    · exact h_2033
    cases hc
  have hP : ∀ p ∈ tJ_2039, ∃ hs, tc_plk (aP sa, tV_2039.2) p hs = true := by
    intro p hp
    have hp : p ∈ ([] : List tc_Pl) := hp
    cases hp
  exact tc_main (mt := aM_358.1) (hs := tH_2039_0) (PL := tJ_2039) ⟨tp_G_ok, tMs_2039 _, hC, tr_L_ok, tp_G_re⟩ (show am_meth (aP sa) 358 = some aM_358.1 from rfl) aX_358 (by decide +kernel) hP ((tc_go_sa (aP_sa sa _)).trans ((fw_go_s tHC_2039).trans tR_2039))
noncomputable def tK_2040 : tc_Ct := (356, (1, 1), [(2, ([], 0), 0), (0, ([(0, 1)], 0), 0)], ([([(0, -1)], 2147483647), ([(0, 1)], 2147483648)], [(0, 0)], [], [], [], [], []), [], [((2, 1), ([([(0, -1)], 2147483647), ([(0, 1)], 2147483648), ([(1, -1)], 2147483647), ([(1, 1)], 2147483648)], [], [], [], [], [], []), some (0, ([(1, 1)], 0), 0), ([], 0), ([], 0))])
noncomputable def tJ_2040 : List tc_Pl := []
noncomputable def tC_2040 : List tc_Ct := [tK_2038, tK_2039]
def tM_2040 (z : Nat) : Option am_Meth := if z = 358 then some aM_358.1 else if z = 357 then some aM_357.1 else none
set_option maxRecDepth 100000 in
theorem tMs_2040 (sa : Nat → Nat) : ∀ z mz, tM_2040 z = some mz → am_meth (aP sa) z = some mz := by
  intro z mz h
  unfold tM_2040 at h
  rcases de_m h with ⟨rfl, rfl⟩ | h
  · exact (show am_meth (aP sa) 358 = some aM_358.1 from rfl)
  rcases de_m h with ⟨rfl, rfl⟩ | h
  · exact (show am_meth (aP sa) 357 = some aM_357.1 from rfl)
  cases h
noncomputable def tV_2040 : tc_Ev := (aQ, tp_T, tp_G.2, tp_Z, tM_2040, tC_2040, tr_L, tK_2040.2.2.2.2.1, aM_356.1, aW_356, tK_2040.2.1, tK_2040.2.2.2.2.2, tJ_2040)
theorem tE_2040 : tK_2040.2.2.2.2.2.all (tc_wex tK_2040.2.1.1 tK_2040.2.1.2) = true := by decide +kernel
theorem tSS_2040 : tC_2040.all (fun c => tw_mg tK_2040.2.2.2.2.1 c.2.2.2.2.1) = true := by decide +kernel
theorem tHC_2040 : ∀ c ∈ tC_2040, c.2.2.2.2.1.all tK_2040.2.2.2.2.1.contains = true ∧ c.2.2.2.2.2.all (tc_wex c.2.1.1 c.2.1.2) = true := tf_hc tSS_2040 (by
  intro c hc
  have hc : c ∈ ([tK_2038, tK_2039] : List tc_Ct) := hc
  rcases List.mem_cons.mp hc with rfl | hc
  · exact tE_2038
  rcases List.mem_cons.mp hc with rfl | hc
  · exact tE_2039
  cases hc)
noncomputable def tH_2040_0 : List tc_It := [de_it 0x2010000, de_it 0x101010101000101000000000000000000000000000000000a000200010100010006, de_it 0x10104010100000300000001, de_it 0x2010000, de_it 0x100010101010101000101000000000000000000000000000100010c01000100010007, de_it 0x10000010501010300000001, de_it 0x2010000, de_it 0x103010101020101000000000000000000000000000000000a000200010102010006, de_it 0x2010000, de_it 0x1080101010701010103010101020101000000000000000000000000000100010c000201010100010007]
set_option maxRecDepth 100000 in
theorem tR_2040 : fw_go tV_2040 tK_2040.2.1.1 tK_2040.2.1.2 none tH_2040_0 [(tK_2040.2.1, tK_2040.2.2.2.1, 0, tc_args 0 tK_2040.2.2.1, [], ([], 0), ([], 0))] = true := by decide +kernel
set_option maxRecDepth 100000 in
theorem tT_2040 {RO : am_O} {sa : Nat → Nat} (h_2038 : tc_true (aP sa) tp_G RO tp_T tp_Z tK_2038) (h_2039 : tc_true (aP sa) tp_G RO tp_T tp_Z tK_2039) : tc_true (aP sa) tp_G RO tp_T tp_Z tK_2040 := by
  have hC : ∀ c ∈ tC_2040, tc_true (aP sa) tp_G RO tp_T tp_Z c := by
    intro c hc
    have hc : c ∈ ([tK_2038, tK_2039] : List tc_Ct) := hc
    rcases List.mem_cons.mp hc with rfl | hc
    · exact h_2038
    rcases List.mem_cons.mp hc with rfl | hc
    · exact h_2039
    cases hc
  have hP : ∀ p ∈ tJ_2040, ∃ hs, tc_plk (aP sa, tV_2040.2) p hs = true := by
    intro p hp
    have hp : p ∈ ([] : List tc_Pl) := hp
    cases hp
  exact tc_main (mt := aM_356.1) (hs := tH_2040_0) (PL := tJ_2040) ⟨tp_G_ok, tMs_2040 _, hC, tr_L_ok, tp_G_re⟩ (show am_meth (aP sa) 356 = some aM_356.1 from rfl) aX_356 (by decide +kernel) hP ((tc_go_sa (aP_sa sa _)).trans ((fw_go_s tHC_2040).trans tR_2040))
noncomputable def tK_2041 : tc_Ct := (361, (0, 0), [(1, ([], 0), 0)], ([], [], [], [], [], [], []), [], [((1, 0), ([([(0, -1)], 2147483647), ([(0, 1)], 0)], [], [], [], [], [], []), some (0, ([(0, 1)], 0), 0), ([], 0), ([], 0))])
noncomputable def tJ_2041 : List tc_Pl := []
noncomputable def tC_2041 : List tc_Ct := []
def tM_2041 (z : Nat) : Option am_Meth := none
set_option maxRecDepth 100000 in
theorem tMs_2041 (sa : Nat → Nat) : ∀ z mz, tM_2041 z = some mz → am_meth (aP sa) z = some mz := fun z mz h => by cases h
noncomputable def tV_2041 : tc_Ev := (aQ, tp_T, tp_G.2, tp_Z, tM_2041, tC_2041, tr_L, tK_2041.2.2.2.2.1, aM_361.1, aW_361, tK_2041.2.1, tK_2041.2.2.2.2.2, tJ_2041)
theorem tE_2041 : tK_2041.2.2.2.2.2.all (tc_wex tK_2041.2.1.1 tK_2041.2.1.2) = true := by decide +kernel
theorem tSS_2041 : tC_2041.all (fun c => tw_mg tK_2041.2.2.2.2.1 c.2.2.2.2.1) = true := by decide +kernel
theorem tHC_2041 : ∀ c ∈ tC_2041, c.2.2.2.2.1.all tK_2041.2.2.2.2.1.contains = true ∧ c.2.2.2.2.2.all (tc_wex c.2.1.1 c.2.1.2) = true := tf_hc tSS_2041 (by
  intro c hc
  have hc : c ∈ ([] : List tc_Ct) := hc
  cases hc)
noncomputable def tH_2041_0 : List tc_It := [de_it 0x6010000, de_it 0x101, de_it 0x4010000, de_it 0x102010101030101000000000000000000000000000100010a000201010100010007]
set_option maxRecDepth 100000 in
theorem tR_2041 : fw_go tV_2041 tK_2041.2.1.1 tK_2041.2.1.2 none tH_2041_0 [(tK_2041.2.1, tK_2041.2.2.2.1, 0, tc_args 0 tK_2041.2.2.1, [], ([], 0), ([], 0))] = true := by decide +kernel
set_option maxRecDepth 100000 in
theorem tT_2041 {RO : am_O} {sa : Nat → Nat} : tc_true (aP sa) tp_G RO tp_T tp_Z tK_2041 := by
  have hC : ∀ c ∈ tC_2041, tc_true (aP sa) tp_G RO tp_T tp_Z c := by
    intro c hc
    have hc : c ∈ ([] : List tc_Ct) := hc
    cases hc
  have hP : ∀ p ∈ tJ_2041, ∃ hs, tc_plk (aP sa, tV_2041.2) p hs = true := by
    intro p hp
    have hp : p ∈ ([] : List tc_Pl) := hp
    cases hp
  exact tc_main (mt := aM_361.1) (hs := tH_2041_0) (PL := tJ_2041) ⟨tp_G_ok, tMs_2041 _, hC, tr_L_ok, tp_G_re⟩ (show am_meth (aP sa) 361 = some aM_361.1 from rfl) aX_361 (by decide +kernel) hP ((tc_go_sa (aP_sa sa _)).trans ((fw_go_s tHC_2041).trans tR_2041))
noncomputable def tK_2042 : tc_Ct := (362, (4, 2), [(2, ([], 0), 0), (0, ([(0, 1)], 0), 0), (0, ([(1, 1)], 0), 0), (0, ([(2, 1)], 0), 0), (2, ([], 0), 1), (0, ([], 0), 0), (0, ([(3, 1)], 0), 0)], ([([(0, -1)], 1), ([(0, 1)], 0), ([(1, -1)], 2147483647), ([(1, 1)], 2147483648), ([(2, -1)], 2147483647), ([(2, 1)], 2147483648), ([(3, -1)], 800), ([(3, 1)], 0)], [(0, 0), (1, 1)], [], [], [], [], []), [(0, 5), (0, 6), (0, 7), (0, 8), (0, 9), (0, 10), (0, 11)], [((5, 2), ([([(0, -1)], 1), ([(0, 1)], 0), ([(1, -1)], 2147483647), ([(1, 1)], 2147483648), ([(2, -1)], 2147483647), ([(2, 1)], 2147483648), ([(3, -1)], 800), ([(3, 1)], 0), ([(4, -1)], 1073741788), ([(4, 1)], 0)], [], [], [(0, 9, (0, ([], 0), 0)), (0, 10, (1, ([], 0), 0))], [], [], []), some (0, ([(4, 1)], 0), 0), ([], 0), ([], 0))])
noncomputable def tJ_2042 : List tc_Pl := []
noncomputable def tC_2042 : List tc_Ct := [tK_2005, tK_2024, tK_2010, tK_2012, tK_2041]
def tM_2042 (z : Nat) : Option am_Meth := if z = 361 then some aM_361.1 else if z = 346 then some aM_346.1 else if z = 334 then some aM_334.1 else if z = 329 then some aM_329.1 else if z = 328 then some aM_328.1 else none
set_option maxRecDepth 100000 in
theorem tMs_2042 (sa : Nat → Nat) : ∀ z mz, tM_2042 z = some mz → am_meth (aP sa) z = some mz := by
  intro z mz h
  unfold tM_2042 at h
  rcases de_m h with ⟨rfl, rfl⟩ | h
  · exact (show am_meth (aP sa) 361 = some aM_361.1 from rfl)
  rcases de_m h with ⟨rfl, rfl⟩ | h
  · exact (show am_meth (aP sa) 346 = some aM_346.1 from rfl)
  rcases de_m h with ⟨rfl, rfl⟩ | h
  · exact (show am_meth (aP sa) 334 = some aM_334.1 from rfl)
  rcases de_m h with ⟨rfl, rfl⟩ | h
  · exact (show am_meth (aP sa) 329 = some aM_329.1 from rfl)
  rcases de_m h with ⟨rfl, rfl⟩ | h
  · exact (show am_meth (aP sa) 328 = some aM_328.1 from rfl)
  cases h
noncomputable def tV_2042 : tc_Ev := (aQ, tp_T, tp_G.2, tp_Z, tM_2042, tC_2042, tr_L, tK_2042.2.2.2.2.1, aM_362.1, aW_362, tK_2042.2.1, tK_2042.2.2.2.2.2, tJ_2042)
theorem tE_2042 : tK_2042.2.2.2.2.2.all (tc_wex tK_2042.2.1.1 tK_2042.2.1.2) = true := by decide +kernel
theorem tSS_2042 : tC_2042.all (fun c => tw_mg tK_2042.2.2.2.2.1 c.2.2.2.2.1) = true := by decide +kernel
theorem tHC_2042 : ∀ c ∈ tC_2042, c.2.2.2.2.1.all tK_2042.2.2.2.2.1.contains = true ∧ c.2.2.2.2.2.all (tc_wex c.2.1.1 c.2.1.2) = true := tf_hc tSS_2042 (by
  intro c hc
  have hc : c ∈ ([tK_2005, tK_2024, tK_2010, tK_2012, tK_2041] : List tc_Ct) := hc
  rcases List.mem_cons.mp hc with rfl | hc
  · exact tE_2005
  rcases List.mem_cons.mp hc with rfl | hc
  · exact tE_2024
  rcases List.mem_cons.mp hc with rfl | hc
  · exact tE_2010
  rcases List.mem_cons.mp hc with rfl | hc
  · exact tE_2012
  rcases List.mem_cons.mp hc with rfl | hc
  · exact tE_2041
  cases hc)
noncomputable def tH_2042_0 : List tc_It := [de_it 0x4010000, de_it 0x101010101000101000000000000000000000000000000010a00020001010000020006, de_it 0x4010000, de_it 0x100010103010101020101000000000000000000000000000000010c000000020101020002020006, de_it 0x4010000, de_it 0x1170101011801010105010101040101000000000000000000000000000000010c0002080100020201020002020006, de_it 0x8010000, de_it 0x1060101011e0101011d0101010701010106010100010001000000000000000000000000000000030f0002090100020301000003020004030006, de_it 0x524e4c3e3c3a302e0e0c0a080604020010000d, de_it 0x2010000, de_it 0x10e0101010d0101000000000000000000000000000000000a00020a01010006020006, de_it 0x80008010006, de_it 0x2010000, de_it 0x11301010100000201, de_it 0x1140101011501010107010101060101010501010104010101030101010201010101010101000101000000000000000000000000000100011200000000007fffffb9ff0c020b020100010007]
set_option maxRecDepth 100000 in
theorem tR_2042 : fw_go tV_2042 tK_2042.2.1.1 tK_2042.2.1.2 none tH_2042_0 [(tK_2042.2.1, tK_2042.2.2.2.1, 0, tc_args 0 tK_2042.2.2.1, [], ([], 0), ([], 0))] = true := by decide +kernel
set_option maxRecDepth 100000 in
theorem tT_2042 {RO : am_O} {sa : Nat → Nat} (h_2005 : tc_true (aP sa) tp_G RO tp_T tp_Z tK_2005) (h_2010 : tc_true (aP sa) tp_G RO tp_T tp_Z tK_2010) (h_2012 : tc_true (aP sa) tp_G RO tp_T tp_Z tK_2012) (h_2024 : tc_true (aP sa) tp_G RO tp_T tp_Z tK_2024) (h_2041 : tc_true (aP sa) tp_G RO tp_T tp_Z tK_2041) : tc_true (aP sa) tp_G RO tp_T tp_Z tK_2042 := by
  have hC : ∀ c ∈ tC_2042, tc_true (aP sa) tp_G RO tp_T tp_Z c := by
    intro c hc
    have hc : c ∈ ([tK_2005, tK_2024, tK_2010, tK_2012, tK_2041] : List tc_Ct) := hc
    rcases List.mem_cons.mp hc with rfl | hc
    · exact h_2005
    rcases List.mem_cons.mp hc with rfl | hc
    · exact h_2024
    rcases List.mem_cons.mp hc with rfl | hc
    · exact h_2010
    rcases List.mem_cons.mp hc with rfl | hc
    · exact h_2012
    rcases List.mem_cons.mp hc with rfl | hc
    · exact h_2041
    cases hc
  have hP : ∀ p ∈ tJ_2042, ∃ hs, tc_plk (aP sa, tV_2042.2) p hs = true := by
    intro p hp
    have hp : p ∈ ([] : List tc_Pl) := hp
    cases hp
  exact tc_main (mt := aM_362.1) (hs := tH_2042_0) (PL := tJ_2042) ⟨tp_G_ok, tMs_2042 _, hC, tr_L_ok, tp_G_re⟩ (show am_meth (aP sa) 362 = some aM_362.1 from rfl) aX_362 (by decide +kernel) hP ((tc_go_sa (aP_sa sa _)).trans ((fw_go_s tHC_2042).trans tR_2042))
noncomputable def tK_2043 : tc_Ct := (360, (3, 2), [(2, ([], 0), 0), (0, ([(0, 1)], 0), 0), (0, ([(1, 1)], 0), 0), (2, ([], 0), 1), (0, ([], 0), 0), (0, ([(2, 1)], 0), 0)], ([([(0, -1)], 2), ([(0, 1)], -1), ([(1, -1)], 1073741788), ([(1, 1)], -1), ([(2, -1)], 800), ([(2, 1)], 0)], [(0, 0), (1, 1)], [], [], [], [], []), [(0, 5), (0, 6), (0, 7), (0, 8), (0, 9), (0, 10), (0, 11)], [((3, 2), ([([(0, -1)], 2), ([(0, 1)], -1), ([(1, -1)], 1073741788), ([(1, 1)], -1), ([(2, -1)], 800), ([(2, 1)], 0)], [], [], [(0, 9, (0, ([], 0), 0)), (0, 10, (1, ([], 0), 0))], [], [], []), some (1, ([], 0), 0), ([], 0), ([], 0))])
noncomputable def tJ_2043 : List tc_Pl := []
noncomputable def tC_2043 : List tc_Ct := [tK_2015, tK_2010, tK_2017, tK_2041, tK_2039, tK_2042]
def tM_2043 (z : Nat) : Option am_Meth := if z = 362 then some aM_362.1 else if z = 361 then some aM_361.1 else if z = 358 then some aM_358.1 else if z = 338 then some aM_338.1 else if z = 337 then some aM_337.1 else if z = 329 then some aM_329.1 else none
set_option maxRecDepth 100000 in
theorem tMs_2043 (sa : Nat → Nat) : ∀ z mz, tM_2043 z = some mz → am_meth (aP sa) z = some mz := by
  intro z mz h
  unfold tM_2043 at h
  rcases de_m h with ⟨rfl, rfl⟩ | h
  · exact (show am_meth (aP sa) 362 = some aM_362.1 from rfl)
  rcases de_m h with ⟨rfl, rfl⟩ | h
  · exact (show am_meth (aP sa) 361 = some aM_361.1 from rfl)
  rcases de_m h with ⟨rfl, rfl⟩ | h
  · exact (show am_meth (aP sa) 358 = some aM_358.1 from rfl)
  rcases de_m h with ⟨rfl, rfl⟩ | h
  · exact (show am_meth (aP sa) 338 = some aM_338.1 from rfl)
  rcases de_m h with ⟨rfl, rfl⟩ | h
  · exact (show am_meth (aP sa) 337 = some aM_337.1 from rfl)
  rcases de_m h with ⟨rfl, rfl⟩ | h
  · exact (show am_meth (aP sa) 329 = some aM_329.1 from rfl)
  cases h
noncomputable def tV_2043 : tc_Ev := (aQ, tp_T, tp_G.2, tp_Z, tM_2043, tC_2043, tr_L, tK_2043.2.2.2.2.1, aM_360.1, aW_360, tK_2043.2.1, tK_2043.2.2.2.2.2, tJ_2043)
theorem tE_2043 : tK_2043.2.2.2.2.2.all (tc_wex tK_2043.2.1.1 tK_2043.2.1.2) = true := by decide +kernel
theorem tSS_2043 : tC_2043.all (fun c => tw_mg tK_2043.2.2.2.2.1 c.2.2.2.2.1) = true := by decide +kernel
theorem tHC_2043 : ∀ c ∈ tC_2043, c.2.2.2.2.1.all tK_2043.2.2.2.2.1.contains = true ∧ c.2.2.2.2.2.all (tc_wex c.2.1.1 c.2.1.2) = true := tf_hc tSS_2043 (by
  intro c hc
  have hc : c ∈ ([tK_2015, tK_2010, tK_2017, tK_2041, tK_2039, tK_2042] : List tc_Ct) := hc
  rcases List.mem_cons.mp hc with rfl | hc
  · exact tE_2015
  rcases List.mem_cons.mp hc with rfl | hc
  · exact tE_2010
  rcases List.mem_cons.mp hc with rfl | hc
  · exact tE_2017
  rcases List.mem_cons.mp hc with rfl | hc
  · exact tE_2041
  rcases List.mem_cons.mp hc with rfl | hc
  · exact tE_2039
  rcases List.mem_cons.mp hc with rfl | hc
  · exact tE_2042
  cases hc)
noncomputable def tH_2043_0 : List tc_It := [de_it 0x4010000, de_it 0x1000101010101010200000001, de_it 0xa010000, de_it 0x101010101000101000000000000000000000000000000020a01020001010000020006, de_it 0x8010000, de_it 0x10401010109010101080101010501010104010100010001000000000000000000000000000000030f0002030100020201000003020002030006, de_it 0x8010000, de_it 0x1130101011201010101010101000101000000000000000000000000000000020c0002050101020001020004020006, de_it 0x80006010006, de_it 0x8010000, de_it 0x11b01010100000201, de_it 0x11d0101011c01010200000001, de_it 0x4010000, de_it 0x11c0101011d0101000000000000000000000000000000000a02000000007fffffb7ff070206020108010006, de_it 0xa010000, de_it 0x103010101020101000000000000000000000000000000000a000201010108010006, de_it 0x6010000, de_it 0x1050101010401010125010101240101012101010120010101010101010001010000000000000000000000000000000610000202010002090100020801010200010402000a030006, de_it 0x5e5c42403a3836340a08060402000e000d, de_it 0x10010000, de_it 0x101, de_it 0x12010000, de_it 0x10501010104010101030101010201010101010101000101000000000000000000000000000100010e0000010007]
set_option maxRecDepth 100000 in
theorem tR_2043 : fw_go tV_2043 tK_2043.2.1.1 tK_2043.2.1.2 none tH_2043_0 [(tK_2043.2.1, tK_2043.2.2.2.1, 0, tc_args 0 tK_2043.2.2.1, [], ([], 0), ([], 0))] = true := by decide +kernel
set_option maxRecDepth 100000 in
theorem tT_2043 {RO : am_O} {sa : Nat → Nat} (h_2010 : tc_true (aP sa) tp_G RO tp_T tp_Z tK_2010) (h_2015 : tc_true (aP sa) tp_G RO tp_T tp_Z tK_2015) (h_2017 : tc_true (aP sa) tp_G RO tp_T tp_Z tK_2017) (h_2039 : tc_true (aP sa) tp_G RO tp_T tp_Z tK_2039) (h_2041 : tc_true (aP sa) tp_G RO tp_T tp_Z tK_2041) (h_2042 : tc_true (aP sa) tp_G RO tp_T tp_Z tK_2042) : tc_true (aP sa) tp_G RO tp_T tp_Z tK_2043 := by
  have hC : ∀ c ∈ tC_2043, tc_true (aP sa) tp_G RO tp_T tp_Z c := by
    intro c hc
    have hc : c ∈ ([tK_2015, tK_2010, tK_2017, tK_2041, tK_2039, tK_2042] : List tc_Ct) := hc
    rcases List.mem_cons.mp hc with rfl | hc
    · exact h_2015
    rcases List.mem_cons.mp hc with rfl | hc
    · exact h_2010
    rcases List.mem_cons.mp hc with rfl | hc
    · exact h_2017
    rcases List.mem_cons.mp hc with rfl | hc
    · exact h_2041
    rcases List.mem_cons.mp hc with rfl | hc
    · exact h_2039
    rcases List.mem_cons.mp hc with rfl | hc
    · exact h_2042
    cases hc
  have hP : ∀ p ∈ tJ_2043, ∃ hs, tc_plk (aP sa, tV_2043.2) p hs = true := by
    intro p hp
    have hp : p ∈ ([] : List tc_Pl) := hp
    cases hp
  exact tc_main (mt := aM_360.1) (hs := tH_2043_0) (PL := tJ_2043) ⟨tp_G_ok, tMs_2043 _, hC, tr_L_ok, tp_G_re⟩ (show am_meth (aP sa) 360 = some aM_360.1 from rfl) aX_360 (by decide +kernel) hP ((tc_go_sa (aP_sa sa _)).trans ((fw_go_s tHC_2043).trans tR_2043))
noncomputable def tK_2044 : tc_Ct := (359, (2, 1), [(2, ([], 0), 0), (0, ([(0, 1)], 0), 0), (0, ([(1, 1)], 0), 0)], ([([(0, -1)], 2147483647), ([(0, 1)], 2147483648), ([(1, -1)], 2147483647), ([(1, 1)], 2147483648)], [(0, 0)], [], [], [], [], []), [(0, 1), (0, 5), (0, 6), (0, 7), (0, 8), (0, 9), (0, 10), (0, 11)], [((2, 1), ([([(0, -1)], 2147483647), ([(0, 1)], 2147483648), ([(1, -1)], 2147483647), ([(1, 1)], 2147483648)], [], [], [], [], [], []), some (1, ([], 0), 0), ([], 0), ([], 0))])
noncomputable def tJ_2044 : List tc_Pl := []
noncomputable def tC_2044 : List tc_Ct := [tK_2000, tK_2038, tK_2043]
def tM_2044 (z : Nat) : Option am_Meth := if z = 360 then some aM_360.1 else if z = 357 then some aM_357.1 else if z = 321 then some aM_321.1 else none
set_option maxRecDepth 100000 in
theorem tMs_2044 (sa : Nat → Nat) : ∀ z mz, tM_2044 z = some mz → am_meth (aP sa) z = some mz := by
  intro z mz h
  unfold tM_2044 at h
  rcases de_m h with ⟨rfl, rfl⟩ | h
  · exact (show am_meth (aP sa) 360 = some aM_360.1 from rfl)
  rcases de_m h with ⟨rfl, rfl⟩ | h
  · exact (show am_meth (aP sa) 357 = some aM_357.1 from rfl)
  rcases de_m h with ⟨rfl, rfl⟩ | h
  · exact (show am_meth (aP sa) 321 = some aM_321.1 from rfl)
  cases h
noncomputable def tV_2044 : tc_Ev := (aQ, tp_T, tp_G.2, tp_Z, tM_2044, tC_2044, tr_L, tK_2044.2.2.2.2.1, aM_359.1, aW_359, tK_2044.2.1, tK_2044.2.2.2.2.2, tJ_2044)
theorem tE_2044 : tK_2044.2.2.2.2.2.all (tc_wex tK_2044.2.1.1 tK_2044.2.1.2) = true := by decide +kernel
theorem tSS_2044 : tC_2044.all (fun c => tw_mg tK_2044.2.2.2.2.1 c.2.2.2.2.1) = true := by decide +kernel
theorem tHC_2044 : ∀ c ∈ tC_2044, c.2.2.2.2.1.all tK_2044.2.2.2.2.1.contains = true ∧ c.2.2.2.2.2.all (tc_wex c.2.1.1 c.2.1.2) = true := tf_hc tSS_2044 (by
  intro c hc
  have hc : c ∈ ([tK_2000, tK_2038, tK_2043] : List tc_Ct) := hc
  rcases List.mem_cons.mp hc with rfl | hc
  · exact tE_2000
  rcases List.mem_cons.mp hc with rfl | hc
  · exact tE_2038
  rcases List.mem_cons.mp hc with rfl | hc
  · exact tE_2043
  cases hc)
noncomputable def tH_2044_0 : List tc_It := [de_it 0x8010000, de_it 0x10001000100010101010101000101000000000000000000000000000000000e04000200000200010300010006, de_it 0x1010a010100000300000001, de_it 0x2010000, de_it 0x1030101010201010101010101000101000000000000000000000000000100010c0000010007, de_it 0x10000010d01010300000001, de_it 0x2010000, de_it 0x103010101020101000000000000000000000000000000000a000201010102010006, de_it 0x10000010f01010300000001, de_it 0x2010000, de_it 0x103010101020101010b0101010a0101000000000000000000000000000100010c0000010007, de_it 0x10110010100000300000001, de_it 0x8010000, de_it 0x2, de_it 0x4010000, de_it 0x2, de_it 0x110010101110101010e0101010d0101010b0101010a0101000000000000000000000000000000050e00020201000201010002000103020004030006, de_it 0x6010000, de_it 0x10001000000000400000003, de_it 0x2010000, de_it 0x10e0101010d0101010b0101010a0101000000000000000000000000000100010c0000010007]
set_option maxRecDepth 100000 in
theorem tR_2044 : fw_go tV_2044 tK_2044.2.1.1 tK_2044.2.1.2 none tH_2044_0 [(tK_2044.2.1, tK_2044.2.2.2.1, 0, tc_args 0 tK_2044.2.2.1, [], ([], 0), ([], 0))] = true := by decide +kernel
set_option maxRecDepth 100000 in
theorem tT_2044 {RO : am_O} {sa : Nat → Nat} (h_2000 : tc_true (aP sa) tp_G RO tp_T tp_Z tK_2000) (h_2038 : tc_true (aP sa) tp_G RO tp_T tp_Z tK_2038) (h_2043 : tc_true (aP sa) tp_G RO tp_T tp_Z tK_2043) : tc_true (aP sa) tp_G RO tp_T tp_Z tK_2044 := by
  have hC : ∀ c ∈ tC_2044, tc_true (aP sa) tp_G RO tp_T tp_Z c := by
    intro c hc
    have hc : c ∈ ([tK_2000, tK_2038, tK_2043] : List tc_Ct) := hc
    rcases List.mem_cons.mp hc with rfl | hc
    · exact h_2000
    rcases List.mem_cons.mp hc with rfl | hc
    · exact h_2038
    rcases List.mem_cons.mp hc with rfl | hc
    · exact h_2043
    cases hc
  have hP : ∀ p ∈ tJ_2044, ∃ hs, tc_plk (aP sa, tV_2044.2) p hs = true := by
    intro p hp
    have hp : p ∈ ([] : List tc_Pl) := hp
    cases hp
  exact tc_main (mt := aM_359.1) (hs := tH_2044_0) (PL := tJ_2044) ⟨tp_G_ok, tMs_2044 _, hC, tr_L_ok, tp_G_re⟩ (show am_meth (aP sa) 359 = some aM_359.1 from rfl) aX_359 (by decide +kernel) hP ((tc_go_sa (aP_sa sa _)).trans ((fw_go_s tHC_2044).trans tR_2044))
noncomputable def tK_2045 : tc_Ct := (364, (3, 2), [(2, ([], 0), 0), (0, ([(0, 1)], 0), 0), (0, ([(1, 1)], 0), 0), (1, ([], 0), 0), (2, ([], 0), 1), (0, ([], 0), 0), (0, ([(2, 1)], 0), 0)], ([([(0, -1)], 2), ([(0, 1)], -1), ([(1, -1)], 2147483647), ([(1, 1)], 2147483648), ([(2, -1)], 800), ([(2, 1)], 0)], [(0, 0), (1, 1)], [], [], [], [], []), [(0, 5), (0, 6), (0, 7), (0, 8), (0, 9), (0, 10), (0, 11)], [((3, 2), ([([(0, -1)], 2), ([(0, 1)], -1), ([(1, -1)], 2147483647), ([(1, 1)], 2147483648), ([(2, -1)], 800), ([(2, 1)], 0)], [], [], [], [], [], []), some (0, ([], 0), 0), ([], 0), ([], 0)), ((3, 2), ([([(0, -1)], 2), ([(0, 1)], -1), ([(1, -1)], 2147483577), ([(1, 1)], -2), ([(2, -1)], 800), ([(2, 1)], 0)], [], [], [(0, 9, (0, ([], 0), 0)), (0, 10, (1, ([], 0), 0))], [], [], []), some (0, ([], 1), 0), ([], 0), ([], 0))])
noncomputable def tJ_2045 : List tc_Pl := []
noncomputable def tC_2045 : List tc_Ct := [tK_2000, tK_2033, tK_2042]
def tM_2045 (z : Nat) : Option am_Meth := if z = 362 then some aM_362.1 else if z = 353 then some aM_353.1 else if z = 321 then some aM_321.1 else none
set_option maxRecDepth 100000 in
theorem tMs_2045 (sa : Nat → Nat) : ∀ z mz, tM_2045 z = some mz → am_meth (aP sa) z = some mz := by
  intro z mz h
  unfold tM_2045 at h
  rcases de_m h with ⟨rfl, rfl⟩ | h
  · exact (show am_meth (aP sa) 362 = some aM_362.1 from rfl)
  rcases de_m h with ⟨rfl, rfl⟩ | h
  · exact (show am_meth (aP sa) 353 = some aM_353.1 from rfl)
  rcases de_m h with ⟨rfl, rfl⟩ | h
  · exact (show am_meth (aP sa) 321 = some aM_321.1 from rfl)
  cases h
noncomputable def tV_2045 : tc_Ev := (aQ, tp_T, tp_G.2, tp_Z, tM_2045, tC_2045, tr_L, tK_2045.2.2.2.2.1, aM_364.1, aW_364, tK_2045.2.1, tK_2045.2.2.2.2.2, tJ_2045)
theorem tE_2045 : tK_2045.2.2.2.2.2.all (tc_wex tK_2045.2.1.1 tK_2045.2.1.2) = true := by decide +kernel
theorem tSS_2045 : tC_2045.all (fun c => tw_mg tK_2045.2.2.2.2.1 c.2.2.2.2.1) = true := by decide +kernel
theorem tHC_2045 : ∀ c ∈ tC_2045, c.2.2.2.2.1.all tK_2045.2.2.2.2.1.contains = true ∧ c.2.2.2.2.2.all (tc_wex c.2.1.1 c.2.1.2) = true := tf_hc tSS_2045 (by
  intro c hc
  have hc : c ∈ ([tK_2000, tK_2033, tK_2042] : List tc_Ct) := hc
  rcases List.mem_cons.mp hc with rfl | hc
  · exact tE_2000
  rcases List.mem_cons.mp hc with rfl | hc
  · exact tE_2033
  rcases List.mem_cons.mp hc with rfl | hc
  · exact tE_2042
  cases hc)
noncomputable def tH_2045_0 : List tc_It := [de_it 0x6010000, de_it 0x101, de_it 0x4010000, de_it 0x101, de_it 0xa010000, de_it 0x10001000100010103010101020101000000000000000000000000000000000e00000000ffffff72ff000400000201010300010006, de_it 0x10110010100000300000001, de_it 0x2010000, de_it 0x10501010104010101030101010201010101010101000101000000000000000000010001000100010e0000010007, de_it 0x10000011301010300000001, de_it 0x8010000, de_it 0x1000100010001000000000000000000000000000000000c00000000ffffff76ff00000000007fffffbaff000202010006, de_it 0x2010000, de_it 0x300000001, de_it 0x2010000, de_it 0x10501010104010101110101011001010101010101000101000000000000000000010001000100010e0000010007, de_it 0x8010000, de_it 0x10001000100010106010101070101000000000000000000000000000000000e000000007fffffb8ff000000000203010300010006, de_it 0x10121010100000300000001, de_it 0x2010000, de_it 0x10501010104010101110101011001010101010101000101000000000000000000010001000100010e0000010007, de_it 0x10000012401010300000001, de_it 0x8010000, de_it 0x10001000100010108010101090101000000000000000000000000000000000e000000007fffffb8ff000000000204010300010006, de_it 0x4442222012100a0802000a000d, de_it 0x10000010a01010300000001, de_it 0x2010000, de_it 0x10301010102010101070101010601010101010101000101000000000000000000010001000100010e0000010007, de_it 0x5654444222200a0802000a000d, de_it 0x1010b010100000300000001, de_it 0x6010000, de_it 0x100010109010101080101000000000000000000000000000000000c00000000ffffff76ff00000204010202010006, de_it 0xa010000, de_it 0x1070101010601010200000001, de_it 0x2010000, de_it 0x100010106010101070101000000000000000000000000000000000c00000000ffffff76ff00000000007fffffbaff0103010202010006, de_it 0x10010000, de_it 0x1000101010101010200000001, de_it 0x2010000, de_it 0x101, de_it 0x8010000, de_it 0x10301010102010101050101010401010117010101180101010101010100010100000000000000000000000000000006100002020100020101000208010102000104020004030006, de_it 0x2010000, de_it 0x300000001, de_it 0x2010000, de_it 0x10301010102010101050101010401010101010101000101000000000000000000010001000100010e0000010007, de_it 0x4010000, de_it 0x10301010102010101050101010401010101010101000101000000000000000000010001000100010e0002010007]
set_option maxRecDepth 100000 in
theorem tR_2045 : fw_go tV_2045 tK_2045.2.1.1 tK_2045.2.1.2 none tH_2045_0 [(tK_2045.2.1, tK_2045.2.2.2.1, 0, tc_args 0 tK_2045.2.2.1, [], ([], 0), ([], 0))] = true := by decide +kernel
set_option maxRecDepth 100000 in
theorem tT_2045 {RO : am_O} {sa : Nat → Nat} (h_2000 : tc_true (aP sa) tp_G RO tp_T tp_Z tK_2000) (h_2033 : tc_true (aP sa) tp_G RO tp_T tp_Z tK_2033) (h_2042 : tc_true (aP sa) tp_G RO tp_T tp_Z tK_2042) : tc_true (aP sa) tp_G RO tp_T tp_Z tK_2045 := by
  have hC : ∀ c ∈ tC_2045, tc_true (aP sa) tp_G RO tp_T tp_Z c := by
    intro c hc
    have hc : c ∈ ([tK_2000, tK_2033, tK_2042] : List tc_Ct) := hc
    rcases List.mem_cons.mp hc with rfl | hc
    · exact h_2000
    rcases List.mem_cons.mp hc with rfl | hc
    · exact h_2033
    rcases List.mem_cons.mp hc with rfl | hc
    · exact h_2042
    cases hc
  have hP : ∀ p ∈ tJ_2045, ∃ hs, tc_plk (aP sa, tV_2045.2) p hs = true := by
    intro p hp
    have hp : p ∈ ([] : List tc_Pl) := hp
    cases hp
  exact tc_main (mt := aM_364.1) (hs := tH_2045_0) (PL := tJ_2045) ⟨tp_G_ok, tMs_2045 _, hC, tr_L_ok, tp_G_re⟩ (show am_meth (aP sa) 364 = some aM_364.1 from rfl) aX_364 (by decide +kernel) hP ((tc_go_sa (aP_sa sa _)).trans ((fw_go_s tHC_2045).trans tR_2045))
noncomputable def tK_2046 : tc_Ct := (363, (2, 1), [(2, ([], 0), 0), (0, ([(0, 1)], 0), 0), (0, ([(1, 1)], 0), 0), (1, ([], 0), 0)], ([([(0, -1)], 2147483647), ([(0, 1)], 2147483648), ([(1, -1)], 2147483647), ([(1, 1)], 2147483648)], [(0, 0)], [], [], [], [], []), [(0, 1), (0, 5), (0, 6), (0, 7), (0, 8), (0, 9), (0, 10), (0, 11)], [((3, 1), ([([(0, -1)], 2147483647), ([(0, 1)], 2147483648), ([(1, -1)], 2147483647), ([(1, 1)], 2147483648), ([(2, -1)], 1), ([(2, 1)], 1)], [], [], [], [], [], []), some (0, ([(2, 1)], 0), 0), ([], 0), ([], 0))])
noncomputable def tJ_2046 : List tc_Pl := []
noncomputable def tC_2046 : List tc_Ct := [tK_2000, tK_2045]
def tM_2046 (z : Nat) : Option am_Meth := if z = 364 then some aM_364.1 else if z = 321 then some aM_321.1 else none
set_option maxRecDepth 100000 in
theorem tMs_2046 (sa : Nat → Nat) : ∀ z mz, tM_2046 z = some mz → am_meth (aP sa) z = some mz := by
  intro z mz h
  unfold tM_2046 at h
  rcases de_m h with ⟨rfl, rfl⟩ | h
  · exact (show am_meth (aP sa) 364 = some aM_364.1 from rfl)
  rcases de_m h with ⟨rfl, rfl⟩ | h
  · exact (show am_meth (aP sa) 321 = some aM_321.1 from rfl)
  cases h
noncomputable def tV_2046 : tc_Ev := (aQ, tp_T, tp_G.2, tp_Z, tM_2046, tC_2046, tr_L, tK_2046.2.2.2.2.1, aM_363.1, aW_363, tK_2046.2.1, tK_2046.2.2.2.2.2, tJ_2046)
theorem tE_2046 : tK_2046.2.2.2.2.2.all (tc_wex tK_2046.2.1.1 tK_2046.2.1.2) = true := by decide +kernel
theorem tSS_2046 : tC_2046.all (fun c => tw_mg tK_2046.2.2.2.2.1 c.2.2.2.2.1) = true := by decide +kernel
theorem tHC_2046 : ∀ c ∈ tC_2046, c.2.2.2.2.1.all tK_2046.2.2.2.2.1.contains = true ∧ c.2.2.2.2.2.all (tc_wex c.2.1.1 c.2.1.2) = true := tf_hc tSS_2046 (by
  intro c hc
  have hc : c ∈ ([tK_2000, tK_2045] : List tc_Ct) := hc
  rcases List.mem_cons.mp hc with rfl | hc
  · exact tE_2000
  rcases List.mem_cons.mp hc with rfl | hc
  · exact tE_2045
  cases hc)
noncomputable def tH_2046_0 : List tc_It := [de_it 0x8010000, de_it 0x10001000100010101010101000101000000000000000000000000000000000e04000200000200010300010006, de_it 0x10000010a01010300000001, de_it 0x2010000, de_it 0x1000101030101010201010101010101000101000000000000000000000000000100010e01000100010007, de_it 0x1010d010100000300000001, de_it 0xa010000, de_it 0x2, de_it 0x4010000, de_it 0x2, de_it 0x10d0101010e01010103010101020101010b0101010a0101000000000000000000000000000000060e00020201000201010002000103020002030006, de_it 0x6010000, de_it 0x10001000000000400000003, de_it 0x2010000, de_it 0x10115010100000300000001, de_it 0x2010000, de_it 0x100010103010101020101010b0101010a0101000000000000000000000000000100010e00000100010007, de_it 0x6010000, de_it 0x10001000000000400000003, de_it 0x2010000, de_it 0x10000011601010300000001, de_it 0x4010000, de_it 0x100010112010101110101010b0101010a0101000000000000000000000000000100010e02000100010007]
set_option maxRecDepth 100000 in
theorem tR_2046 : fw_go tV_2046 tK_2046.2.1.1 tK_2046.2.1.2 none tH_2046_0 [(tK_2046.2.1, tK_2046.2.2.2.1, 0, tc_args 0 tK_2046.2.2.1, [], ([], 0), ([], 0))] = true := by decide +kernel
set_option maxRecDepth 100000 in
theorem tT_2046 {RO : am_O} {sa : Nat → Nat} (h_2000 : tc_true (aP sa) tp_G RO tp_T tp_Z tK_2000) (h_2045 : tc_true (aP sa) tp_G RO tp_T tp_Z tK_2045) : tc_true (aP sa) tp_G RO tp_T tp_Z tK_2046 := by
  have hC : ∀ c ∈ tC_2046, tc_true (aP sa) tp_G RO tp_T tp_Z c := by
    intro c hc
    have hc : c ∈ ([tK_2000, tK_2045] : List tc_Ct) := hc
    rcases List.mem_cons.mp hc with rfl | hc
    · exact h_2000
    rcases List.mem_cons.mp hc with rfl | hc
    · exact h_2045
    cases hc
  have hP : ∀ p ∈ tJ_2046, ∃ hs, tc_plk (aP sa, tV_2046.2) p hs = true := by
    intro p hp
    have hp : p ∈ ([] : List tc_Pl) := hp
    cases hp
  exact tc_main (mt := aM_363.1) (hs := tH_2046_0) (PL := tJ_2046) ⟨tp_G_ok, tMs_2046 _, hC, tr_L_ok, tp_G_re⟩ (show am_meth (aP sa) 363 = some aM_363.1 from rfl) aX_363 (by decide +kernel) hP ((tc_go_sa (aP_sa sa _)).trans ((fw_go_s tHC_2046).trans tR_2046))
noncomputable def tK_2047 : tc_Ct := (365, (0, 1), [(2, ([], 0), 0)], ([], [(0, 0)], [], [], [], [], []), [(0, 12)], [((2, 1), ([([(0, -1)], 3), ([(0, 1)], 3), ([(1, -1)], 4), ([(1, 1)], -1), ([(0, -1), (1, 1)], -1), ([(0, 1), (1, 1)], -1)], [], [], [(0, 12, (0, ([(1, 1)], 0), 0))], [], [], []), some (0, ([(0, 1)], 0), 0), ([], 0), ([], 0))])
noncomputable def tJ_2047 : List tc_Pl := []
noncomputable def tC_2047 : List tc_Ct := []
def tM_2047 (z : Nat) : Option am_Meth := none
set_option maxRecDepth 100000 in
theorem tMs_2047 (sa : Nat → Nat) : ∀ z mz, tM_2047 z = some mz → am_meth (aP sa) z = some mz := fun z mz h => by cases h
noncomputable def tV_2047 : tc_Ev := (aQ, tp_T, tp_G.2, tp_Z, tM_2047, tC_2047, tr_L, tK_2047.2.2.2.2.1, aM_365.1, aW_365, tK_2047.2.1, tK_2047.2.2.2.2.2, tJ_2047)
theorem tE_2047 : tK_2047.2.2.2.2.2.all (tc_wex tK_2047.2.1.1 tK_2047.2.1.2) = true := by decide +kernel
theorem tSS_2047 : tC_2047.all (fun c => tw_mg tK_2047.2.2.2.2.1 c.2.2.2.2.1) = true := by decide +kernel
theorem tHC_2047 : ∀ c ∈ tC_2047, c.2.2.2.2.1.all tK_2047.2.2.2.2.1.contains = true ∧ c.2.2.2.2.2.all (tc_wex c.2.1.1 c.2.1.2) = true := tf_hc tSS_2047 (by
  intro c hc
  have hc : c ∈ ([] : List tc_Ct) := hc
  cases hc)
noncomputable def tH_2047_0 : List tc_It := [de_it 0x2010000, de_it 0x2, de_it 0x2010000, de_it 0x1010101000000000300000001, de_it 0x4010000, de_it 0x2, de_it 0x2010000, de_it 0x1020101010001010200000001, de_it 0x102010101000101000000000400000003, de_it 0x2010000, de_it 0x2, de_it 0x2010000, de_it 0x1020101010001010200000001, de_it 0x2000101000101000101010201010100010101020101000000000000000000000000000100010e02020001000200010200010007, de_it 0x2010000, de_it 0x102010101020101010201010101010100010001000000000000000000000000000100010e0002000105000200010007]
set_option maxRecDepth 100000 in
theorem tR_2047 : fw_go tV_2047 tK_2047.2.1.1 tK_2047.2.1.2 none tH_2047_0 [(tK_2047.2.1, tK_2047.2.2.2.1, 0, tc_args 0 tK_2047.2.2.1, [], ([], 0), ([], 0))] = true := by decide +kernel
set_option maxRecDepth 100000 in
theorem tT_2047 {RO : am_O} {sa : Nat → Nat} : tc_true (aP sa) tp_G RO tp_T tp_Z tK_2047 := by
  have hC : ∀ c ∈ tC_2047, tc_true (aP sa) tp_G RO tp_T tp_Z c := by
    intro c hc
    have hc : c ∈ ([] : List tc_Ct) := hc
    cases hc
  have hP : ∀ p ∈ tJ_2047, ∃ hs, tc_plk (aP sa, tV_2047.2) p hs = true := by
    intro p hp
    have hp : p ∈ ([] : List tc_Pl) := hp
    cases hp
  exact tc_main (mt := aM_365.1) (hs := tH_2047_0) (PL := tJ_2047) ⟨tp_G_ok, tMs_2047 _, hC, tr_L_ok, tp_G_re⟩ (show am_meth (aP sa) 365 = some aM_365.1 from rfl) aX_365 (by decide +kernel) hP ((tc_go_sa (aP_sa sa _)).trans ((fw_go_s tHC_2047).trans tR_2047))
noncomputable def tK_2048 : tc_Ct := (366, (1, 1), [(2, ([], 0), 0), (0, ([(0, 1)], 0), 0), (1, ([], 0), 0)], ([([(0, -1)], 2147483647), ([(0, 1)], 2147483648)], [(0, 0)], [], [], [], [], []), [(3, 0), (4, 0)], [((2, 1), ([([(0, -1)], 2147483647), ([(0, 1)], 2147483648), ([(1, -1)], 64), ([(1, 1)], 3)], [], [], [], [], [], []), some (0, ([(1, 1)], 0), 0), ([], 0), ([], 0))])
noncomputable def tJ_2048 : List tc_Pl := []
noncomputable def tC_2048 : List tc_Ct := [tK_2000]
def tM_2048 (z : Nat) : Option am_Meth := if z = 321 then some aM_321.1 else none
set_option maxRecDepth 100000 in
theorem tMs_2048 (sa : Nat → Nat) : ∀ z mz, tM_2048 z = some mz → am_meth (aP sa) z = some mz := by
  intro z mz h
  unfold tM_2048 at h
  rcases de_m h with ⟨rfl, rfl⟩ | h
  · exact (show am_meth (aP sa) 321 = some aM_321.1 from rfl)
  cases h
noncomputable def tV_2048 : tc_Ev := (aQ, tp_T, tp_G.2, tp_Z, tM_2048, tC_2048, tr_L, tK_2048.2.2.2.2.1, aM_366.1, aW_366, tK_2048.2.1, tK_2048.2.2.2.2.2, tJ_2048)
theorem tE_2048 : tK_2048.2.2.2.2.2.all (tc_wex tK_2048.2.1.1 tK_2048.2.1.2) = true := by decide +kernel
theorem tSS_2048 : tC_2048.all (fun c => tw_mg tK_2048.2.2.2.2.1 c.2.2.2.2.1) = true := by decide +kernel
theorem tHC_2048 : ∀ c ∈ tC_2048, c.2.2.2.2.1.all tK_2048.2.2.2.2.1.contains = true ∧ c.2.2.2.2.2.all (tc_wex c.2.1.1 c.2.1.2) = true := tf_hc tSS_2048 (by
  intro c hc
  have hc : c ∈ ([tK_2000] : List tc_Ct) := hc
  rcases List.mem_cons.mp hc with rfl | hc
  · exact tE_2000
  cases hc)
noncomputable def tH_2048_0 : List tc_It := [de_it 0x8010000, de_it 0x2, de_it 0x2010000, de_it 0x1030101010201010200000001, de_it 0x2010000, de_it 0x102010101030101000100010101010101000101000000000000000000000000000000000e010201010000000200010300010006, de_it 0x10000010a01010300000001, de_it 0x2010000, de_it 0x100010101010101000101000000000000000000000000000100010c01000100010007, de_it 0x1010d010100000300000001, de_it 0x2010000, de_it 0x2, de_it 0x2010000, de_it 0x2010011, de_it 0x10a010d01030301010b010102000200010100010002, de_it 0x2010000, de_it 0x1120101000000000300000001, de_it 0x2010000, de_it 0x2, de_it 0x4010000, de_it 0x400a40030201400b01010200000001, de_it 0x2010000, de_it 0x2, de_it 0x2010000, de_it 0x10a010d01030301010b01010200000002, de_it 0x400a0113400303010111400b02010200000001, de_it 0x2010000, de_it 0x4010011, de_it 0x400a01140113400304010111400b02010200000003, de_it 0x2010000, de_it 0x2, de_it 0x4010000, de_it 0x10a010d01030301010b01010200000002, de_it 0x2010000, de_it 0x1130101011101010200000001, de_it 0x113010101110101010a010d01030301010b010104000200010100010003, de_it 0x2010000, de_it 0x2, de_it 0x2010000, de_it 0x10a010d01030301010b01010200000002, de_it 0x111010101130101010b0101010a01030201000000000000000000000000000100010c020203010100010007, de_it 0x2010000, de_it 0x10001010b0101010a01030201000000000000000000000000000100010c05000100010007]
set_option maxRecDepth 100000 in
theorem tR_2048 : fw_go tV_2048 tK_2048.2.1.1 tK_2048.2.1.2 none tH_2048_0 [(tK_2048.2.1, tK_2048.2.2.2.1, 0, tc_args 0 tK_2048.2.2.1, [], ([], 0), ([], 0))] = true := by decide +kernel
set_option maxRecDepth 100000 in
theorem tT_2048 {RO : am_O} {sa : Nat → Nat} (h_2000 : tc_true (aP sa) tp_G RO tp_T tp_Z tK_2000) : tc_true (aP sa) tp_G RO tp_T tp_Z tK_2048 := by
  have hC : ∀ c ∈ tC_2048, tc_true (aP sa) tp_G RO tp_T tp_Z c := by
    intro c hc
    have hc : c ∈ ([tK_2000] : List tc_Ct) := hc
    rcases List.mem_cons.mp hc with rfl | hc
    · exact h_2000
    cases hc
  have hP : ∀ p ∈ tJ_2048, ∃ hs, tc_plk (aP sa, tV_2048.2) p hs = true := by
    intro p hp
    have hp : p ∈ ([] : List tc_Pl) := hp
    cases hp
  exact tc_main (mt := aM_366.1) (hs := tH_2048_0) (PL := tJ_2048) ⟨tp_G_ok, tMs_2048 _, hC, tr_L_ok, tp_G_re⟩ (show am_meth (aP sa) 366 = some aM_366.1 from rfl) aX_366 (by decide +kernel) hP ((tc_go_sa (aP_sa sa _)).trans ((fw_go_s tHC_2048).trans tR_2048))
noncomputable def tK_2049 : tc_Ct := (369, (0, 1), [(2, ([], 0), 0), (1, ([], 0), 0)], ([], [(0, 0)], [], [], [], [], []), [(0, 5), (0, 6), (0, 7), (0, 8), (0, 9), (0, 10), (0, 11)], [((0, 1), ([], [], [], [(0, 9, (0, ([], 0), 0)), (0, 10, (1, ([], 0), 0))], [], [], []), some (1, ([], 0), 0), ([], 0), ([], 0))])
noncomputable def tJ_2049 : List tc_Pl := []
noncomputable def tC_2049 : List tc_Ct := [tK_2005, tK_2009, tK_2016, tK_2012]
def tM_2049 (z : Nat) : Option am_Meth := if z = 339 then some aM_339.1 else if z = 334 then some aM_334.1 else if z = 330 then some aM_330.1 else if z = 328 then some aM_328.1 else none
set_option maxRecDepth 100000 in
theorem tMs_2049 (sa : Nat → Nat) : ∀ z mz, tM_2049 z = some mz → am_meth (aP sa) z = some mz := by
  intro z mz h
  unfold tM_2049 at h
  rcases de_m h with ⟨rfl, rfl⟩ | h
  · exact (show am_meth (aP sa) 339 = some aM_339.1 from rfl)
  rcases de_m h with ⟨rfl, rfl⟩ | h
  · exact (show am_meth (aP sa) 334 = some aM_334.1 from rfl)
  rcases de_m h with ⟨rfl, rfl⟩ | h
  · exact (show am_meth (aP sa) 330 = some aM_330.1 from rfl)
  rcases de_m h with ⟨rfl, rfl⟩ | h
  · exact (show am_meth (aP sa) 328 = some aM_328.1 from rfl)
  cases h
noncomputable def tV_2049 : tc_Ev := (aQ, tp_T, tp_G.2, tp_Z, tM_2049, tC_2049, tr_L, tK_2049.2.2.2.2.1, aM_369.1, aW_369, tK_2049.2.1, tK_2049.2.2.2.2.2, tJ_2049)
theorem tE_2049 : tK_2049.2.2.2.2.2.all (tc_wex tK_2049.2.1.1 tK_2049.2.1.2) = true := by decide +kernel
theorem tSS_2049 : tC_2049.all (fun c => tw_mg tK_2049.2.2.2.2.1 c.2.2.2.2.1) = true := by decide +kernel
theorem tHC_2049 : ∀ c ∈ tC_2049, c.2.2.2.2.1.all tK_2049.2.2.2.2.1.contains = true ∧ c.2.2.2.2.2.all (tc_wex c.2.1.1 c.2.1.2) = true := tf_hc tSS_2049 (by
  intro c hc
  have hc : c ∈ ([tK_2005, tK_2009, tK_2016, tK_2012] : List tc_Ct) := hc
  rcases List.mem_cons.mp hc with rfl | hc
  · exact tE_2005
  rcases List.mem_cons.mp hc with rfl | hc
  · exact tE_2009
  rcases List.mem_cons.mp hc with rfl | hc
  · exact tE_2016
  rcases List.mem_cons.mp hc with rfl | hc
  · exact tE_2012
  cases hc)
noncomputable def tH_2049_0 : List tc_It := [de_it 0x4010000, de_it 0x10001000000000000000000000000000000010a0000010000020006, de_it 0x4010000, de_it 0x1000100010001000000000000000000000000000000010c00000000020002020006, de_it 0x4010000, de_it 0x114010101130101000000000000000000000000000000010a00020501010004020006, de_it 0x2010000, de_it 0x118010101170101000000000000000000000000000000000a00020601010006020006, de_it 0x10001080000010007]
set_option maxRecDepth 100000 in
theorem tR_2049 : fw_go tV_2049 tK_2049.2.1.1 tK_2049.2.1.2 none tH_2049_0 [(tK_2049.2.1, tK_2049.2.2.2.1, 0, tc_args 0 tK_2049.2.2.1, [], ([], 0), ([], 0))] = true := by decide +kernel
set_option maxRecDepth 100000 in
theorem tT_2049 {RO : am_O} {sa : Nat → Nat} (h_2005 : tc_true (aP sa) tp_G RO tp_T tp_Z tK_2005) (h_2009 : tc_true (aP sa) tp_G RO tp_T tp_Z tK_2009) (h_2012 : tc_true (aP sa) tp_G RO tp_T tp_Z tK_2012) (h_2016 : tc_true (aP sa) tp_G RO tp_T tp_Z tK_2016) : tc_true (aP sa) tp_G RO tp_T tp_Z tK_2049 := by
  have hC : ∀ c ∈ tC_2049, tc_true (aP sa) tp_G RO tp_T tp_Z c := by
    intro c hc
    have hc : c ∈ ([tK_2005, tK_2009, tK_2016, tK_2012] : List tc_Ct) := hc
    rcases List.mem_cons.mp hc with rfl | hc
    · exact h_2005
    rcases List.mem_cons.mp hc with rfl | hc
    · exact h_2009
    rcases List.mem_cons.mp hc with rfl | hc
    · exact h_2016
    rcases List.mem_cons.mp hc with rfl | hc
    · exact h_2012
    cases hc
  have hP : ∀ p ∈ tJ_2049, ∃ hs, tc_plk (aP sa, tV_2049.2) p hs = true := by
    intro p hp
    have hp : p ∈ ([] : List tc_Pl) := hp
    cases hp
  exact tc_main (mt := aM_369.1) (hs := tH_2049_0) (PL := tJ_2049) ⟨tp_G_ok, tMs_2049 _, hC, tr_L_ok, tp_G_re⟩ (show am_meth (aP sa) 369 = some aM_369.1 from rfl) aX_369 (by decide +kernel) hP ((tc_go_sa (aP_sa sa _)).trans ((fw_go_s tHC_2049).trans tR_2049))
noncomputable def tK_2050 : tc_Ct := (370, (0, 1), [(2, ([], 0), 0), (1, ([], 0), 0), (1, ([], 0), 0)], ([], [(0, 0)], [], [], [], [], []), [(0, 5), (0, 6), (0, 7), (0, 8), (0, 9), (0, 10), (0, 11)], [((0, 1), ([], [], [], [(0, 9, (0, ([], 0), 0)), (0, 10, (1, ([], 0), 0))], [], [], []), some (1, ([], 0), 0), ([], 0), ([], 0))])
noncomputable def tJ_2050 : List tc_Pl := []
noncomputable def tC_2050 : List tc_Ct := [tK_2005, tK_2009, tK_2016, tK_2012]
def tM_2050 (z : Nat) : Option am_Meth := if z = 339 then some aM_339.1 else if z = 334 then some aM_334.1 else if z = 330 then some aM_330.1 else if z = 328 then some aM_328.1 else none
set_option maxRecDepth 100000 in
theorem tMs_2050 (sa : Nat → Nat) : ∀ z mz, tM_2050 z = some mz → am_meth (aP sa) z = some mz := by
  intro z mz h
  unfold tM_2050 at h
  rcases de_m h with ⟨rfl, rfl⟩ | h
  · exact (show am_meth (aP sa) 339 = some aM_339.1 from rfl)
  rcases de_m h with ⟨rfl, rfl⟩ | h
  · exact (show am_meth (aP sa) 334 = some aM_334.1 from rfl)
  rcases de_m h with ⟨rfl, rfl⟩ | h
  · exact (show am_meth (aP sa) 330 = some aM_330.1 from rfl)
  rcases de_m h with ⟨rfl, rfl⟩ | h
  · exact (show am_meth (aP sa) 328 = some aM_328.1 from rfl)
  cases h
noncomputable def tV_2050 : tc_Ev := (aQ, tp_T, tp_G.2, tp_Z, tM_2050, tC_2050, tr_L, tK_2050.2.2.2.2.1, aM_370.1, aW_370, tK_2050.2.1, tK_2050.2.2.2.2.2, tJ_2050)
theorem tE_2050 : tK_2050.2.2.2.2.2.all (tc_wex tK_2050.2.1.1 tK_2050.2.1.2) = true := by decide +kernel
theorem tSS_2050 : tC_2050.all (fun c => tw_mg tK_2050.2.2.2.2.1 c.2.2.2.2.1) = true := by decide +kernel
theorem tHC_2050 : ∀ c ∈ tC_2050, c.2.2.2.2.1.all tK_2050.2.2.2.2.1.contains = true ∧ c.2.2.2.2.2.all (tc_wex c.2.1.1 c.2.1.2) = true := tf_hc tSS_2050 (by
  intro c hc
  have hc : c ∈ ([tK_2005, tK_2009, tK_2016, tK_2012] : List tc_Ct) := hc
  rcases List.mem_cons.mp hc with rfl | hc
  · exact tE_2005
  rcases List.mem_cons.mp hc with rfl | hc
  · exact tE_2009
  rcases List.mem_cons.mp hc with rfl | hc
  · exact tE_2016
  rcases List.mem_cons.mp hc with rfl | hc
  · exact tE_2012
  cases hc)
noncomputable def tH_2050_0 : List tc_It := [de_it 0x4010000, de_it 0x10001000000000000000000000000000000010a0000010000020006, de_it 0x4010000, de_it 0x1000100010001000000000000000000000000000000010c00000200020002020006, de_it 0x4010000, de_it 0x114010101130101000000000000000000000000000000010a00020501010004020006, de_it 0x4010000, de_it 0x118010101170101000000000000000000000000000000010a00020601010004020006, de_it 0x2010000, de_it 0x11c0101011b0101000000000000000000000000000000000a00020701010006020006, de_it 0x10001080000010007]
set_option maxRecDepth 100000 in
theorem tR_2050 : fw_go tV_2050 tK_2050.2.1.1 tK_2050.2.1.2 none tH_2050_0 [(tK_2050.2.1, tK_2050.2.2.2.1, 0, tc_args 0 tK_2050.2.2.1, [], ([], 0), ([], 0))] = true := by decide +kernel
set_option maxRecDepth 100000 in
theorem tT_2050 {RO : am_O} {sa : Nat → Nat} (h_2005 : tc_true (aP sa) tp_G RO tp_T tp_Z tK_2005) (h_2009 : tc_true (aP sa) tp_G RO tp_T tp_Z tK_2009) (h_2012 : tc_true (aP sa) tp_G RO tp_T tp_Z tK_2012) (h_2016 : tc_true (aP sa) tp_G RO tp_T tp_Z tK_2016) : tc_true (aP sa) tp_G RO tp_T tp_Z tK_2050 := by
  have hC : ∀ c ∈ tC_2050, tc_true (aP sa) tp_G RO tp_T tp_Z c := by
    intro c hc
    have hc : c ∈ ([tK_2005, tK_2009, tK_2016, tK_2012] : List tc_Ct) := hc
    rcases List.mem_cons.mp hc with rfl | hc
    · exact h_2005
    rcases List.mem_cons.mp hc with rfl | hc
    · exact h_2009
    rcases List.mem_cons.mp hc with rfl | hc
    · exact h_2016
    rcases List.mem_cons.mp hc with rfl | hc
    · exact h_2012
    cases hc
  have hP : ∀ p ∈ tJ_2050, ∃ hs, tc_plk (aP sa, tV_2050.2) p hs = true := by
    intro p hp
    have hp : p ∈ ([] : List tc_Pl) := hp
    cases hp
  exact tc_main (mt := aM_370.1) (hs := tH_2050_0) (PL := tJ_2050) ⟨tp_G_ok, tMs_2050 _, hC, tr_L_ok, tp_G_re⟩ (show am_meth (aP sa) 370 = some aM_370.1 from rfl) aX_370 (by decide +kernel) hP ((tc_go_sa (aP_sa sa _)).trans ((fw_go_s tHC_2050).trans tR_2050))
noncomputable def tK_2051 : tc_Ct := (368, (3, 1), [(2, ([], 0), 0), (0, ([(0, 1)], 0), 0), (0, ([(1, 1)], 0), 0), (0, ([(2, 1)], 0), 0)], ([([(0, -1)], 3), ([(0, 1)], 0), ([(1, 1)], 0), ([(2, -1)], 64), ([(2, 1)], 0), ([(1, -1), (2, -1)], 64), ([(1, -1), (2, 1)], 62)], [(0, 0)], [], [], [], [], []), [(0, 5), (0, 6), (0, 7), (0, 8), (0, 9), (0, 10), (0, 11), (5, 0), (6, 0)], [((3, 1), ([([(0, -1)], 3), ([(0, 1)], 0), ([(1, -1)], 63), ([(1, 1)], 0), ([(2, -1)], 64), ([(2, 1)], 0), ([(1, -1), (2, -1)], 64), ([(1, -1), (2, 1)], 62)], [], [], [], [], [], []), some (1, ([], 0), 0), ([], 0), ([], 0))])
noncomputable def tL_2051_0 : tc_Pl := de_pl 0x30c1eff000402030100020000000000030c1eff00050000000000000002030100040000000200029100000000000000017e0203010201010300010302020280010301010280010301010202017c0202010102800102010102800102010002010100020001060100010b0104
noncomputable def tL_2051_1 : tc_Pl := de_pl 0x30d18ff000001040202020000000000030d18ff0005000000000000000204010005000002030100040000020201000300000201010002000002000100010000000200061400000000000000017e01040203010103000204010302000103020202800103010102000204010002030180010301010202017c0202010102800102010102800102010002010100020001060100010e0105
noncomputable def tL_2051_2 : tc_Pl := de_pl 0x30cc4ff000402030100020000000000030cc4ff000001040202020000000000030d18ff0005000000000000000204010005000002030100040000020201000300000201010002000002000100010000000200063e000000030000021000010000020f00020000020e00000000010a0000000000090005000603040205010000040202040103020101040202020001030202027e0104010102800103010102000204017e0104010102030180010301010202017c020201010280010201010280010201000201010002000106010001100405
noncomputable def tJ_2051 : List tc_Pl := [tL_2051_0, tL_2051_1, tL_2051_2]
noncomputable def tC_2051 : List tc_Ct := [tK_2005, tK_2012, tK_2050, tK_2049]
def tM_2051 (z : Nat) : Option am_Meth := if z = 370 then some aM_370.1 else if z = 369 then some aM_369.1 else if z = 334 then some aM_334.1 else if z = 328 then some aM_328.1 else none
set_option maxRecDepth 100000 in
theorem tMs_2051 (sa : Nat → Nat) : ∀ z mz, tM_2051 z = some mz → am_meth (aP sa) z = some mz := by
  intro z mz h
  unfold tM_2051 at h
  rcases de_m h with ⟨rfl, rfl⟩ | h
  · exact (show am_meth (aP sa) 370 = some aM_370.1 from rfl)
  rcases de_m h with ⟨rfl, rfl⟩ | h
  · exact (show am_meth (aP sa) 369 = some aM_369.1 from rfl)
  rcases de_m h with ⟨rfl, rfl⟩ | h
  · exact (show am_meth (aP sa) 334 = some aM_334.1 from rfl)
  rcases de_m h with ⟨rfl, rfl⟩ | h
  · exact (show am_meth (aP sa) 328 = some aM_328.1 from rfl)
  cases h
noncomputable def tV_2051 : tc_Ev := (aQ, tp_T, tp_G.2, tp_Z, tM_2051, tC_2051, tr_L, tK_2051.2.2.2.2.1, aM_368.1, aW_368, tK_2051.2.1, tK_2051.2.2.2.2.2, tJ_2051)
theorem tE_2051 : tK_2051.2.2.2.2.2.all (tc_wex tK_2051.2.1.1 tK_2051.2.1.2) = true := by decide +kernel
theorem tSS_2051 : tC_2051.all (fun c => tw_mg tK_2051.2.2.2.2.1 c.2.2.2.2.1) = true := by decide +kernel
theorem tHC_2051 : ∀ c ∈ tC_2051, c.2.2.2.2.1.all tK_2051.2.2.2.2.1.contains = true ∧ c.2.2.2.2.2.all (tc_wex c.2.1.1 c.2.1.2) = true := tf_hc tSS_2051 (by
  intro c hc
  have hc : c ∈ ([tK_2005, tK_2012, tK_2050, tK_2049] : List tc_Ct) := hc
  rcases List.mem_cons.mp hc with rfl | hc
  · exact tE_2005
  rcases List.mem_cons.mp hc with rfl | hc
  · exact tE_2012
  rcases List.mem_cons.mp hc with rfl | hc
  · exact tE_2050
  rcases List.mem_cons.mp hc with rfl | hc
  · exact tE_2049
  cases hc)
noncomputable def tH_2051_0 : List tc_It := [de_it 0x2010000, de_it 0x1040101000000000300000001, de_it 0x8010000, de_it 0x10601050202000101070101010601050202000100010001010701010106010101050101010301010102010101010101010001010000000000000000000000000000000000000000000100011a000000000202010008, de_it 0x4010000, de_it 0x10001000000000000000000000000000000010a0000010000020006, de_it 0x2010000, de_it 0x10001000000000000000000000000000000000a0000010002020006, de_it 0x1060101020801060201010401010108010101020101010601080201010101010100010100000000000000000000000000010001100000010007]
set_option maxRecDepth 100000 in
theorem tR_2051 : fw_go tV_2051 tK_2051.2.1.1 tK_2051.2.1.2 none tH_2051_0 [(tK_2051.2.1, tK_2051.2.2.2.1, 0, tc_args 0 tK_2051.2.2.1, [], ([], 0), ([], 0))] = true := by decide +kernel
noncomputable def tH_2051_1 : List tc_It := [de_it 0x4010000, de_it 0x300000001, de_it 0x2010000, de_it 0x2, de_it 0x2010000, de_it 0x2010011, de_it 0x10c010100010200000002, de_it 0x105010101040101010601010103010101020101010a010501080303010101010100010100000000000000000000000000010001100000010007, de_it 0x2010000, de_it 0x2, de_it 0x4010000, de_it 0x1070101010b01010200000001, de_it 0x4010000, de_it 0x2, de_it 0x4010000, de_it 0x1070101010b01010200000001, de_it 0x2010011, de_it 0x10c01070201010b01010200000002, de_it 0x2010000, de_it 0x2, de_it 0x4010000, de_it 0x1070101010b01010200000001, de_it 0x10c01070201010b01010200000002, de_it 0x208000004020006, de_it 0x10c01070201010b01010200000003, de_it 0x1070101010b01010200000001, de_it 0x2010000, de_it 0x10b01040201010901010108010101070101010b010902010108020b010903010104010101030101010201010101010101000101000000000000000000000000010b010002010001000000010001000117010203010100010008]
set_option maxRecDepth 100000 in
theorem tP_2051_0 : fw_plk tV_2051 tL_2051_0 tH_2051_1 = true := by decide +kernel
noncomputable def tH_2051_2 : List tc_It := [de_it 0x4010000, de_it 0x300000001, de_it 0x10e010d0201010b0101010a0101010701010106010101050101010401010103010101020101010101010100010100000000000000000000000000000000000100010001000117000203010100010008, de_it 0x2010000, de_it 0x2, de_it 0x6010000, de_it 0x2, de_it 0x4010000, de_it 0x40000101400101010200000001, de_it 0x2010000, de_it 0x1050104800003020102400102010200000001, de_it 0x2010000, de_it 0x10e01044000030101090102400103010200000001, de_it 0x4010011, de_it 0x10e010f01044000040101090102400103010200000002, de_it 0x108000006020006, de_it 0x2010011, de_it 0x10c010e0102011101040501010801010200000003, de_it 0x2010000, de_it 0x2, de_it 0x4010000, de_it 0x6010011, de_it 0x10c010e0102011301040501010801010200000003, de_it 0x10c010e010201040401010801010200000001, de_it 0x10c0101010e0101010c010e0201010e01040201010c010e0104030101090101010e01020104030101080101010c010e010201040401010601010105010101040101010301010102010101010101010001010000000000000000000100010000000100000001000100011c00020401020203010206040204040008]
set_option maxRecDepth 100000 in
theorem tP_2051_1 : fw_plk tV_2051 tL_2051_1 tH_2051_2 = true := by decide +kernel
noncomputable def tH_2051_3 : List tc_It := [de_it 0x4010000, de_it 0x300000001, de_it 0x1090101010a01010200000001, de_it 0x2010000, de_it 0x108010c0201010f0101010d0101010b0101010a0101010801010110010101060101010501010104010101030101010201010101010101000101000000000000000000000000010e0101000100000001000100011a02020401000203010202010008, de_it 0x2010000, de_it 0x2, de_it 0x4010000, de_it 0x1070101011001010200000001, de_it 0x6010011, de_it 0x11101070201011001010200000002, de_it 0x2010000, de_it 0x2, de_it 0x4010000, de_it 0x1070101011001010200000001, de_it 0x11101070201011001010200000002, de_it 0x300000001, de_it 0x10901010110010f02010200000001, de_it 0x2010000, de_it 0x110010c0201010f0101010d0101010b01010110010f020101100101010701010110010d02010210020d010403010104010101030101010201010101010101000101000000000000000000000000010e0101000100000001000100011a02020401000203010202010008, de_it 0x2010000, de_it 0x2, de_it 0x4010000, de_it 0x1070101011001010200000001, de_it 0x4010000, de_it 0x2, de_it 0x4010000, de_it 0x1070101011001010200000001, de_it 0x2010011, de_it 0x11901070201011001010200000002, de_it 0x2010000, de_it 0x2, de_it 0x4010000, de_it 0x1070101011001010200000001, de_it 0x11901070201011001010200000002, de_it 0x208000004020006, de_it 0x11901070201011001010200000003, de_it 0x2010000, de_it 0x2, de_it 0x4010000, de_it 0x1070101011001010200000001, de_it 0x2010000, de_it 0x11101070201011001010200000002, de_it 0x2010000, de_it 0x101, de_it 0x11101070201011001010200000003, de_it 0x1070101011001010200000001, de_it 0x2010000, de_it 0x10f0101010e0101010d0101010c0101010b01010110010f02010109010101100101010701010110010d02010210020d010403010104010101030101010201010101010101000101000000000110010002010001000000010000000100000001000100011c00020401010203010206040204040008]
set_option maxRecDepth 100000 in
theorem tP_2051_2 : fw_plk tV_2051 tL_2051_2 tH_2051_3 = true := by decide +kernel
set_option maxRecDepth 100000 in
theorem tT_2051 {RO : am_O} {sa : Nat → Nat} (h_2005 : tc_true (aP sa) tp_G RO tp_T tp_Z tK_2005) (h_2012 : tc_true (aP sa) tp_G RO tp_T tp_Z tK_2012) (h_2049 : tc_true (aP sa) tp_G RO tp_T tp_Z tK_2049) (h_2050 : tc_true (aP sa) tp_G RO tp_T tp_Z tK_2050) : tc_true (aP sa) tp_G RO tp_T tp_Z tK_2051 := by
  have hC : ∀ c ∈ tC_2051, tc_true (aP sa) tp_G RO tp_T tp_Z c := by
    intro c hc
    have hc : c ∈ ([tK_2005, tK_2012, tK_2050, tK_2049] : List tc_Ct) := hc
    rcases List.mem_cons.mp hc with rfl | hc
    · exact h_2005
    rcases List.mem_cons.mp hc with rfl | hc
    · exact h_2012
    rcases List.mem_cons.mp hc with rfl | hc
    · exact h_2050
    rcases List.mem_cons.mp hc with rfl | hc
    · exact h_2049
    cases hc
  have hP : ∀ p ∈ tJ_2051, ∃ hs, tc_plk (aP sa, tV_2051.2) p hs = true := by
    intro p hp
    have hp : p ∈ ([tL_2051_0, tL_2051_1, tL_2051_2] : List tc_Pl) := hp
    rcases List.mem_cons.mp hp with rfl | hp
    · exact ⟨_, (tc_plk_sa (aP_sa sa _)).trans ((fw_plk_s tHC_2051).trans tP_2051_0)⟩
    rcases List.mem_cons.mp hp with rfl | hp
    · exact ⟨_, (tc_plk_sa (aP_sa sa _)).trans ((fw_plk_s tHC_2051).trans tP_2051_1)⟩
    rcases List.mem_cons.mp hp with rfl | hp
    · exact ⟨_, (tc_plk_sa (aP_sa sa _)).trans ((fw_plk_s tHC_2051).trans tP_2051_2)⟩
    cases hp
  exact tc_main (mt := aM_368.1) (hs := tH_2051_0) (PL := tJ_2051) ⟨tp_G_ok, tMs_2051 _, hC, tr_L_ok, tp_G_re⟩ (show am_meth (aP sa) 368 = some aM_368.1 from rfl) aX_368 (by decide +kernel) hP ((tc_go_sa (aP_sa sa _)).trans ((fw_go_s tHC_2051).trans tR_2051))
noncomputable def tK_2052 : tc_Ct := (367, (2, 1), [(2, ([], 0), 0), (0, ([(0, 1)], 0), 0), (0, ([(1, 1)], 0), 0)], ([([(0, -1)], 2147483647), ([(0, 1)], 2147483648), ([(1, -1)], 2147483647), ([(1, 1)], 2147483648)], [(0, 0)], [], [], [], [], []), [(0, 5), (0, 6), (0, 7), (0, 8), (0, 9), (0, 10), (0, 11), (5, 0), (6, 0)], [((2, 1), ([([(0, -1)], 2147483647), ([(0, 1)], 2147483648), ([(1, -1)], 2147483647), ([(1, 1)], 2147483648)], [], [], [], [], [], []), some (1, ([], 0), 0), ([], 0), ([], 0))])
noncomputable def tJ_2052 : List tc_Pl := []
noncomputable def tC_2052 : List tc_Ct := [tK_2000, tK_2051]
def tM_2052 (z : Nat) : Option am_Meth := if z = 368 then some aM_368.1 else if z = 321 then some aM_321.1 else none
set_option maxRecDepth 100000 in
theorem tMs_2052 (sa : Nat → Nat) : ∀ z mz, tM_2052 z = some mz → am_meth (aP sa) z = some mz := by
  intro z mz h
  unfold tM_2052 at h
  rcases de_m h with ⟨rfl, rfl⟩ | h
  · exact (show am_meth (aP sa) 368 = some aM_368.1 from rfl)
  rcases de_m h with ⟨rfl, rfl⟩ | h
  · exact (show am_meth (aP sa) 321 = some aM_321.1 from rfl)
  cases h
noncomputable def tV_2052 : tc_Ev := (aQ, tp_T, tp_G.2, tp_Z, tM_2052, tC_2052, tr_L, tK_2052.2.2.2.2.1, aM_367.1, aW_367, tK_2052.2.1, tK_2052.2.2.2.2.2, tJ_2052)
theorem tE_2052 : tK_2052.2.2.2.2.2.all (tc_wex tK_2052.2.1.1 tK_2052.2.1.2) = true := by decide +kernel
theorem tSS_2052 : tC_2052.all (fun c => tw_mg tK_2052.2.2.2.2.1 c.2.2.2.2.1) = true := by decide +kernel
theorem tHC_2052 : ∀ c ∈ tC_2052, c.2.2.2.2.1.all tK_2052.2.2.2.2.1.contains = true ∧ c.2.2.2.2.2.all (tc_wex c.2.1.1 c.2.1.2) = true := tf_hc tSS_2052 (by
  intro c hc
  have hc : c ∈ ([tK_2000, tK_2051] : List tc_Ct) := hc
  rcases List.mem_cons.mp hc with rfl | hc
  · exact tE_2000
  rcases List.mem_cons.mp hc with rfl | hc
  · exact tE_2051
  cases hc)
noncomputable def tH_2052_0 : List tc_It := [de_it 0x8010000, de_it 0x2, de_it 0x2010000, de_it 0x1050101010401010200000001, de_it 0x2010000, de_it 0x104010101050101000100010101010101000101000000000000000000000000000000000e010202010000000200010300010006, de_it 0x1010c010100000300000001, de_it 0x2010000, de_it 0x1030101010201010101010101000101000000000000000000000000000100010c0000010007, de_it 0x10000010f01010300000001, de_it 0x8010000, de_it 0x2, de_it 0x2010000, de_it 0x2010011, de_it 0x10c010f01050301010d010102000200010100010002, de_it 0x2010000, de_it 0x113010101140101000100010103010101020101000000000000000000000000000000000e000204010000000201010300010006, de_it 0x1011b010100000300000001, de_it 0x2010000, de_it 0x103010101020101010d0101010c01050201000000000000000000000000000100010c0000010007, de_it 0x10000011e01010300000001, de_it 0x8010000, de_it 0x11c0101011b01140201011c0101011b011402010001010d0101010c01050201000000000000000000000000000000030f00020101000000020001030002020006, de_it 0x2010000, de_it 0x11c010101220101010d0101011e0101000000000000000000000000000100010c0000010007]
set_option maxRecDepth 100000 in
theorem tR_2052 : fw_go tV_2052 tK_2052.2.1.1 tK_2052.2.1.2 none tH_2052_0 [(tK_2052.2.1, tK_2052.2.2.2.1, 0, tc_args 0 tK_2052.2.2.1, [], ([], 0), ([], 0))] = true := by decide +kernel
set_option maxRecDepth 100000 in
theorem tT_2052 {RO : am_O} {sa : Nat → Nat} (h_2000 : tc_true (aP sa) tp_G RO tp_T tp_Z tK_2000) (h_2051 : tc_true (aP sa) tp_G RO tp_T tp_Z tK_2051) : tc_true (aP sa) tp_G RO tp_T tp_Z tK_2052 := by
  have hC : ∀ c ∈ tC_2052, tc_true (aP sa) tp_G RO tp_T tp_Z c := by
    intro c hc
    have hc : c ∈ ([tK_2000, tK_2051] : List tc_Ct) := hc
    rcases List.mem_cons.mp hc with rfl | hc
    · exact h_2000
    rcases List.mem_cons.mp hc with rfl | hc
    · exact h_2051
    cases hc
  have hP : ∀ p ∈ tJ_2052, ∃ hs, tc_plk (aP sa, tV_2052.2) p hs = true := by
    intro p hp
    have hp : p ∈ ([] : List tc_Pl) := hp
    cases hp
  exact tc_main (mt := aM_367.1) (hs := tH_2052_0) (PL := tJ_2052) ⟨tp_G_ok, tMs_2052 _, hC, tr_L_ok, tp_G_re⟩ (show am_meth (aP sa) 367 = some aM_367.1 from rfl) aX_367 (by decide +kernel) hP ((tc_go_sa (aP_sa sa _)).trans ((fw_go_s tHC_2052).trans tR_2052))
noncomputable def tK_2053 : tc_Ct := (372, (1, 0), [(0, ([(0, 1)], 0), 0)], ([([(0, -1)], 64), ([(0, 1)], -2)], [], [], [], [], [], []), [], [((1, 0), ([([(0, -1)], 2), ([(0, 1)], -2)], [], [], [], [], [], []), some (0, ([], 1), 0), ([], 0), ([], 0)), ((1, 0), ([([(0, -1)], 32), ([(0, 1)], -17)], [], [], [], [], [], []), some (0, ([], 16), 0), ([], 0), ([], 0)), ((1, 0), ([([(0, -1)], 4), ([(0, 1)], -3)], [], [], [], [], [], []), some (0, ([], 2), 0), ([], 0), ([], 0)), ((1, 0), ([([(0, -1)], 64), ([(0, 1)], -33)], [], [], [], [], [], []), some (0, ([], 32), 0), ([], 0), ([], 0)), ((1, 0), ([([(0, -1)], 8), ([(0, 1)], -5)], [], [], [], [], [], []), some (0, ([], 4), 0), ([], 0), ([], 0)), ((1, 0), ([([(0, -1)], 16), ([(0, 1)], -9)], [], [], [], [], [], []), some (0, ([], 8), 0), ([], 0), ([], 0))])
noncomputable def tL_2053_0 : tc_Pl := de_pl 0x30d3cff00010200010000000000030d3cff0003000000000000020000010000020001000002020000000000000302000180010001020001
noncomputable def tL_2053_1 : tc_Pl := de_pl 0x30d3cff001f0200010000000000030d3cff0003000000000000200000010000020001000002020000000000002102000180010001020001
noncomputable def tL_2053_2 : tc_Pl := de_pl 0x30d3cff00030200010000000000030d3cff0003000000000000040000010000020001000002020000000000000502000180010001020001
noncomputable def tL_2053_3 : tc_Pl := de_pl 0x30d3cff003f0200010000000000030d3cff0003000000000000400000010000020001000002020000000000004102000180010001020001
noncomputable def tL_2053_4 : tc_Pl := de_pl 0x30d3cff00070200010000000000030d3cff0003000000000000080000010000020001000002020000000000000902000180010001020001
noncomputable def tL_2053_5 : tc_Pl := de_pl 0x30d3cff000f0200010000000000030d3cff0003000000000000100000010000020001000002020000000000001102000180010001020001
noncomputable def tJ_2053 : List tc_Pl := [tL_2053_0, tL_2053_1, tL_2053_2, tL_2053_3, tL_2053_4, tL_2053_5]
noncomputable def tC_2053 : List tc_Ct := []
def tM_2053 (z : Nat) : Option am_Meth := none
set_option maxRecDepth 100000 in
theorem tMs_2053 (sa : Nat → Nat) : ∀ z mz, tM_2053 z = some mz → am_meth (aP sa) z = some mz := fun z mz h => by cases h
noncomputable def tV_2053 : tc_Ev := (aQ, tp_T, tp_G.2, tp_Z, tM_2053, tC_2053, tr_L, tK_2053.2.2.2.2.1, aM_372.1, aW_372, tK_2053.2.1, tK_2053.2.2.2.2.2, tJ_2053)
theorem tE_2053 : tK_2053.2.2.2.2.2.all (tc_wex tK_2053.2.1.1 tK_2053.2.1.2) = true := by decide +kernel
theorem tSS_2053 : tC_2053.all (fun c => tw_mg tK_2053.2.2.2.2.1 c.2.2.2.2.1) = true := by decide +kernel
theorem tHC_2053 : ∀ c ∈ tC_2053, c.2.2.2.2.1.all tK_2053.2.2.2.2.1.contains = true ∧ c.2.2.2.2.2.all (tc_wex c.2.1.1 c.2.1.2) = true := tf_hc tSS_2053 (by
  intro c hc
  have hc : c ∈ ([] : List tc_Ct) := hc
  cases hc)
noncomputable def tH_2053_0 : List tc_It := [de_it 0x4010000, de_it 0x101010101000101000000000000000000000000000100010a0000010008]
set_option maxRecDepth 100000 in
theorem tR_2053 : fw_go tV_2053 tK_2053.2.1.1 tK_2053.2.1.2 none tH_2053_0 [(tK_2053.2.1, tK_2053.2.2.2.1, 0, tc_args 0 tK_2053.2.2.1, [], ([], 0), ([], 0))] = true := by decide +kernel
noncomputable def tH_2053_1 : List tc_It := [de_it 0x8010000, de_it 0x300000001, de_it 0x2010000, de_it 0x101010101020101000000000000000000000000000100010a0000010007, de_it 0xa010000, de_it 0x1020101010001010000000001020101000100000001000100010a0004010008]
set_option maxRecDepth 100000 in
theorem tP_2053_0 : fw_plk tV_2053 tL_2053_0 tH_2053_1 = true := by decide +kernel
noncomputable def tH_2053_2 : List tc_It := [de_it 0x8010000, de_it 0x300000001, de_it 0x2010000, de_it 0x101010101020101000000000000000000000000000100010a0002010007, de_it 0xa010000, de_it 0x1020101010001010000000001020101000100000001000100010a0006010008]
set_option maxRecDepth 100000 in
theorem tP_2053_1 : fw_plk tV_2053 tL_2053_1 tH_2053_2 = true := by decide +kernel
noncomputable def tH_2053_3 : List tc_It := [de_it 0x8010000, de_it 0x300000001, de_it 0x2010000, de_it 0x101010101020101000000000000000000000000000100010a0004010007, de_it 0xa010000, de_it 0x1020101010001010000000001020101000100000001000100010a0008010008]
set_option maxRecDepth 100000 in
theorem tP_2053_2 : fw_plk tV_2053 tL_2053_2 tH_2053_3 = true := by decide +kernel
noncomputable def tH_2053_4 : List tc_It := [de_it 0x8010000, de_it 0x1020100020100000300000001, de_it 0x2010000, de_it 0x101010101000101000000000000000000000000000100010a0006010007]
set_option maxRecDepth 100000 in
theorem tP_2053_3 : fw_plk tV_2053 tL_2053_3 tH_2053_4 = true := by decide +kernel
noncomputable def tH_2053_5 : List tc_It := [de_it 0x8010000, de_it 0x300000001, de_it 0x2010000, de_it 0x101010101020101000000000000000000000000000100010a0008010007, de_it 0xa010000, de_it 0x1020101010001010000000001020101000100000001000100010a000a010008]
set_option maxRecDepth 100000 in
theorem tP_2053_4 : fw_plk tV_2053 tL_2053_4 tH_2053_5 = true := by decide +kernel
noncomputable def tH_2053_6 : List tc_It := [de_it 0x8010000, de_it 0x300000001, de_it 0x2010000, de_it 0x101010101020101000000000000000000000000000100010a000a010007, de_it 0xa010000, de_it 0x1020101010001010000000001020101000100000001000100010a0002010008]
set_option maxRecDepth 100000 in
theorem tP_2053_5 : fw_plk tV_2053 tL_2053_5 tH_2053_6 = true := by decide +kernel
set_option maxRecDepth 100000 in
theorem tT_2053 {RO : am_O} {sa : Nat → Nat} : tc_true (aP sa) tp_G RO tp_T tp_Z tK_2053 := by
  have hC : ∀ c ∈ tC_2053, tc_true (aP sa) tp_G RO tp_T tp_Z c := by
    intro c hc
    have hc : c ∈ ([] : List tc_Ct) := hc
    cases hc
  have hP : ∀ p ∈ tJ_2053, ∃ hs, tc_plk (aP sa, tV_2053.2) p hs = true := by
    intro p hp
    have hp : p ∈ ([tL_2053_0, tL_2053_1, tL_2053_2, tL_2053_3, tL_2053_4, tL_2053_5] : List tc_Pl) := hp
    rcases List.mem_cons.mp hp with rfl | hp
    · exact ⟨_, (tc_plk_sa (aP_sa sa _)).trans ((fw_plk_s tHC_2053).trans tP_2053_0)⟩
    rcases List.mem_cons.mp hp with rfl | hp
    · exact ⟨_, (tc_plk_sa (aP_sa sa _)).trans ((fw_plk_s tHC_2053).trans tP_2053_1)⟩
    rcases List.mem_cons.mp hp with rfl | hp
    · exact ⟨_, (tc_plk_sa (aP_sa sa _)).trans ((fw_plk_s tHC_2053).trans tP_2053_2)⟩
    rcases List.mem_cons.mp hp with rfl | hp
    · exact ⟨_, (tc_plk_sa (aP_sa sa _)).trans ((fw_plk_s tHC_2053).trans tP_2053_3)⟩
    rcases List.mem_cons.mp hp with rfl | hp
    · exact ⟨_, (tc_plk_sa (aP_sa sa _)).trans ((fw_plk_s tHC_2053).trans tP_2053_4)⟩
    rcases List.mem_cons.mp hp with rfl | hp
    · exact ⟨_, (tc_plk_sa (aP_sa sa _)).trans ((fw_plk_s tHC_2053).trans tP_2053_5)⟩
    cases hp
  exact tc_main (mt := aM_372.1) (hs := tH_2053_0) (PL := tJ_2053) ⟨tp_G_ok, tMs_2053 _, hC, tr_L_ok, tp_G_re⟩ (show am_meth (aP sa) 372 = some aM_372.1 from rfl) aX_372 (by decide +kernel) hP ((tc_go_sa (aP_sa sa _)).trans ((fw_go_s tHC_2053).trans tR_2053))
noncomputable def tK_2054 : tc_Ct := (373, (1, 1), [(2, ([], 0), 0)], ([([(0, -1)], 7), ([(0, 1)], 0)], [(0, 0)], [], [(0, 18, (0, ([(0, 1)], 0), 0))], [], [], []), [(0, 3), (2, 0)], [((2, 1), ([([(0, -1)], 7), ([(0, 1)], 0), ([(1, -1)], 56), ([(1, 1)], 0), ([(0, -1), (1, 1)], 0), ([(0, 1), (1, -1)], 49)], [], [], [(0, 3, (0, ([(1, 1)], 0), 0))], [], [], []), some (0, ([(1, 1)], 0), 0), ([], 0), ([], 0))])
noncomputable def tL_2054_0 : tc_Pl := de_pl 0x30d28ff00020201010000000000030d28ff00050000000000000002010100010000000200020c0000000000020001001200000002020100030002000000010f01020f0110000310020210010f00036e0102010102620102020002000202010c010101000200010e010001080103
noncomputable def tL_2054_1 : tc_Pl := de_pl 0x30d1cff00100102010000000000030d1cff00020201010000000000030d28ff000500000000000000020201000200000201010001000000020003120000000000020001001200000002030100030002000000010f010302020f01100004100203010210010f00040001030f0110000360010302020101036001030202020002030102027001030101026201030200020002030100020201000201010c010101010200010e0100010e0104
noncomputable def tJ_2054 : List tc_Pl := [tL_2054_0, tL_2054_1]
noncomputable def tC_2054 : List tc_Ct := [tK_2027]
def tM_2054 (z : Nat) : Option am_Meth := if z = 348 then some aM_348.1 else none
set_option maxRecDepth 100000 in
theorem tMs_2054 (sa : Nat → Nat) : ∀ z mz, tM_2054 z = some mz → am_meth (aP sa) z = some mz := by
  intro z mz h
  unfold tM_2054 at h
  rcases de_m h with ⟨rfl, rfl⟩ | h
  · exact (show am_meth (aP sa) 348 = some aM_348.1 from rfl)
  cases h
noncomputable def tV_2054 : tc_Ev := (aQ, tp_T, tp_G.2, tp_Z, tM_2054, tC_2054, tr_L, tK_2054.2.2.2.2.1, aM_373.1, aW_373, tK_2054.2.1, tK_2054.2.2.2.2.2, tJ_2054)
theorem tE_2054 : tK_2054.2.2.2.2.2.all (tc_wex tK_2054.2.1.1 tK_2054.2.1.2) = true := by decide +kernel
theorem tSS_2054 : tC_2054.all (fun c => tw_mg tK_2054.2.2.2.2.1 c.2.2.2.2.1) = true := by decide +kernel
theorem tHC_2054 : ∀ c ∈ tC_2054, c.2.2.2.2.1.all tK_2054.2.2.2.2.1.contains = true ∧ c.2.2.2.2.2.all (tc_wex c.2.1.1 c.2.1.2) = true := tf_hc tSS_2054 (by
  intro c hc
  have hc : c ∈ ([tK_2027] : List tc_Ct) := hc
  rcases List.mem_cons.mp hc with rfl | hc
  · exact tE_2027
  cases hc)
noncomputable def tH_2054_0 : List tc_It := [de_it 0x4010000, de_it 0x10001000000000400000003, de_it 0x2010000, de_it 0x2, de_it 0x2010000, de_it 0x1000101010101010200000001, de_it 0x2010000, de_it 0x1000101000101010101010001010001010101010101000101000000000000000000000000000000000000000000010001140000010200010200010008]
set_option maxRecDepth 100000 in
theorem tR_2054 : fw_go tV_2054 tK_2054.2.1.1 tK_2054.2.1.2 none tH_2054_0 [(tK_2054.2.1, tK_2054.2.2.2.1, 0, tc_args 0 tK_2054.2.2.1, [], ([], 0), ([], 0))] = true := by decide +kernel
noncomputable def tH_2054_1 : List tc_It := [de_it 0x2010000, de_it 0x300000001, de_it 0x2010000, de_it 0x2, de_it 0x1040101010607030808030801030101010608040805030f010101010105010607080308000000000000000000000000000100010e000202010100010007, de_it 0x4010000, de_it 0x1070101010601010107010101070708080003010800080801070301010301010107070808000301080807000107030101030101000101080101010201010808010301070308010001010000000000000000000100010000000100000001000100011a000202010000000201010302010008]
set_option maxRecDepth 100000 in
theorem tP_2054_0 : fw_plk tV_2054 tL_2054_0 tH_2054_1 = true := by decide +kernel
noncomputable def tH_2054_2 : List tc_It := [de_it 0x4010000, de_it 0x300000001, de_it 0x1020101010301010200000001, de_it 0x2010000, de_it 0x10b0101010e010c02010107010101060101010e0108020101020101010101010100010100000000000000000000000001030101000100000001000100011400020301010201010200010008, de_it 0x2010000, de_it 0x2, de_it 0x2010000, de_it 0x2, de_it 0x2010000, de_it 0x2, de_it 0x2010000, de_it 0x4010011, de_it 0x10f01020201010301010200000002, de_it 0x2010000, de_it 0x1040101010e0101000000000000000000000000000000000a000202010100010006, de_it 0x2010011, de_it 0x11301010114010101090115010e03010105010104000203010100010003, de_it 0x4010000, de_it 0x2, de_it 0x2010000, de_it 0x109010e0201010501010200000001, de_it 0x109010e020101050101000000000400000003, de_it 0x10e0101010401010200000001, de_it 0x2010000, de_it 0x10d0101010c0101010d010e0201010a01010109010101080101010e010a020107090803080e010d040801050101010401010103010101020101010101010100010100000000010e01010001000000010000000100000001000100011a0202030102020201000201010302010008]
set_option maxRecDepth 100000 in
theorem tP_2054_1 : fw_plk tV_2054 tL_2054_1 tH_2054_2 = true := by decide +kernel
set_option maxRecDepth 100000 in
theorem tT_2054 {RO : am_O} {sa : Nat → Nat} (h_2027 : tc_true (aP sa) tp_G RO tp_T tp_Z tK_2027) : tc_true (aP sa) tp_G RO tp_T tp_Z tK_2054 := by
  have hC : ∀ c ∈ tC_2054, tc_true (aP sa) tp_G RO tp_T tp_Z c := by
    intro c hc
    have hc : c ∈ ([tK_2027] : List tc_Ct) := hc
    rcases List.mem_cons.mp hc with rfl | hc
    · exact h_2027
    cases hc
  have hP : ∀ p ∈ tJ_2054, ∃ hs, tc_plk (aP sa, tV_2054.2) p hs = true := by
    intro p hp
    have hp : p ∈ ([tL_2054_0, tL_2054_1] : List tc_Pl) := hp
    rcases List.mem_cons.mp hp with rfl | hp
    · exact ⟨_, (tc_plk_sa (aP_sa sa _)).trans ((fw_plk_s tHC_2054).trans tP_2054_0)⟩
    rcases List.mem_cons.mp hp with rfl | hp
    · exact ⟨_, (tc_plk_sa (aP_sa sa _)).trans ((fw_plk_s tHC_2054).trans tP_2054_1)⟩
    cases hp
  exact tc_main (mt := aM_373.1) (hs := tH_2054_0) (PL := tJ_2054) ⟨tp_G_ok, tMs_2054 _, hC, tr_L_ok, tp_G_re⟩ (show am_meth (aP sa) 373 = some aM_373.1 from rfl) aX_373 (by decide +kernel) hP ((tc_go_sa (aP_sa sa _)).trans ((fw_go_s tHC_2054).trans tR_2054))
noncomputable def tK_2055 : tc_Ct := (371, (3, 1), [(2, ([], 0), 0), (0, ([(0, 1)], 0), 0), (0, ([(1, 1)], 0), 0), (0, ([(2, 1)], 0), 0)], ([([(0, -1)], 2147483647), ([(0, 1)], 2147483648), ([(1, -1)], 2147483647), ([(1, 1)], 2147483648), ([(2, -1)], 2147483647), ([(2, 1)], 2147483648)], [(0, 0)], [], [], [], [], []), [(0, 3), (0, 5), (0, 6), (0, 7), (0, 8), (0, 9), (0, 10), (0, 11), (0, 18), (2, 0), (5, 0), (6, 0), (7, 0)], [((4, 1), ([([(0, -1)], 2147483647), ([(0, 1)], 2147483648), ([(1, -1)], 2147483647), ([(1, 1)], 2147483648), ([(2, -1)], 2147483647), ([(2, 1)], 2147483648), ([(3, -1)], 55), ([(3, 1)], 1)], [], [], [], [], [], []), some (0, ([(3, 1)], 0), 0), ([], 0), ([], 0))])
noncomputable def tL_2055_0 : tc_Pl := de_pl 0x1e8480ff000000000000030cccff000402020100020000000000030cccff0004000000000000000202010005000000000400000201010002000002000100010000000200053a000000020401000200010101000000001200010000020d000000020301000c00030003010000020102020101020102020180010201000201017e0101010002000106010001070205
noncomputable def tL_2055_1 : tc_Pl := de_pl 0x1e8480ff000000000000030cccff000402040100020000000000030cccff00040000000000000002040100050000020301000400000201010002000002000100010000000200053a000000020601000200010101000200001200020000021100010000020d000000020501000c0004000702030100000300010401030202030101040202024002040102023e02040101023e020301010240010401000203014001030103020201800102010002010100020001060100010d0307
noncomputable def tL_2055_2 : tc_Pl := de_pl 0x1e8480ff000000000000030cccff000402040100020000000000030cccff00040000000000000002040100050000020301000400000201010002000002000100010000000200053a000000020601000200010101000400001200020000021100010000020d000000020501000c0004000702030100000300010401030202039e020301020101030301040202026002040102025e020401010220010401000203016001030105020201800102010002010100020001060100010d0307
noncomputable def tL_2055_3 : tc_Pl := de_pl 0x1e8480ff000000000000030cccff000402040100020000000000030cccff00040000000000000002040100050000020301000400000201010002000002000100010000000200053a000000020601000200010101000600001200020000021100010000020d000000020501000c0004000702030100000300010401030202030501040202027002040102026e02040101021001040100020301700103010702020180010201000201017e01010100020001060100010d0307
noncomputable def tL_2055_4 : tc_Pl := de_pl 0x1e8480ff000000000000030cccff000402040100020000000000030cccff00040000000000000002040100050000020301000400000201010002000002000100010000000200053a000000020601000200010101000800001200020000021100010000020d000000020501000c0004000702030100000300010401030202030701040202027802040102027602040101020801040100020301780103010902020180010201000201017e01010100020001060100010d0307
noncomputable def tL_2055_5 : tc_Pl := de_pl 0x1e8480ff000000000000030cccff000402040100020000000000030cccff00040000000000000002040100050000020301000400000201010002000002000100010000000200053a000000020601000200010101000a00001200020000021100010000020d000000020501000c000400070203010000030901040202027c02040102027a020401010204010401000203017c0103010b02020180010201000201017e01010100020001060100010c0307
noncomputable def tL_2055_6 : tc_Pl := de_pl 0x1e8480ff000000000000030cccff000402040100020000000000030cccff00040000000000000002040100050000020301000400000201010002000002000100010000000200053a000000020601000200010101000c00001200020000021100010000020d000000020501000c00040007020301000003020104010d02020180010201000201017e0101010002000106010001070307
noncomputable def tJ_2055 : List tc_Pl := [tL_2055_0, tL_2055_1, tL_2055_2, tL_2055_3, tL_2055_4, tL_2055_5, tL_2055_6]
noncomputable def tC_2055 : List tc_Ct := [tK_2000, tK_2054, tK_2053, tK_2051]
def tM_2055 (z : Nat) : Option am_Meth := if z = 373 then some aM_373.1 else if z = 372 then some aM_372.1 else if z = 368 then some aM_368.1 else if z = 321 then some aM_321.1 else none
set_option maxRecDepth 100000 in
theorem tMs_2055 (sa : Nat → Nat) : ∀ z mz, tM_2055 z = some mz → am_meth (aP sa) z = some mz := by
  intro z mz h
  unfold tM_2055 at h
  rcases de_m h with ⟨rfl, rfl⟩ | h
  · exact (show am_meth (aP sa) 373 = some aM_373.1 from rfl)
  rcases de_m h with ⟨rfl, rfl⟩ | h
  · exact (show am_meth (aP sa) 372 = some aM_372.1 from rfl)
  rcases de_m h with ⟨rfl, rfl⟩ | h
  · exact (show am_meth (aP sa) 368 = some aM_368.1 from rfl)
  rcases de_m h with ⟨rfl, rfl⟩ | h
  · exact (show am_meth (aP sa) 321 = some aM_321.1 from rfl)
  cases h
noncomputable def tV_2055 : tc_Ev := (aQ, tp_T, tp_G.2, tp_Z, tM_2055, tC_2055, tr_L, tK_2055.2.2.2.2.1, aM_371.1, aW_371, tK_2055.2.1, tK_2055.2.2.2.2.2, tJ_2055)
theorem tE_2055 : tK_2055.2.2.2.2.2.all (tc_wex tK_2055.2.1.1 tK_2055.2.1.2) = true := by decide +kernel
theorem tSS_2055 : tC_2055.all (fun c => tw_mg tK_2055.2.2.2.2.1 c.2.2.2.2.1) = true := by decide +kernel
theorem tHC_2055 : ∀ c ∈ tC_2055, c.2.2.2.2.1.all tK_2055.2.2.2.2.1.contains = true ∧ c.2.2.2.2.2.all (tc_wex c.2.1.1 c.2.1.2) = true := tf_hc tSS_2055 (by
  intro c hc
  have hc : c ∈ ([tK_2000, tK_2054, tK_2053, tK_2051] : List tc_Ct) := hc
  rcases List.mem_cons.mp hc with rfl | hc
  · exact tE_2000
  rcases List.mem_cons.mp hc with rfl | hc
  · exact tE_2054
  rcases List.mem_cons.mp hc with rfl | hc
  · exact tE_2053
  rcases List.mem_cons.mp hc with rfl | hc
  · exact tE_2051
  cases hc)
noncomputable def tH_2055_0 : List tc_It := [de_it 0x8010000, de_it 0x2, de_it 0x2010000, de_it 0x1070101010601010200000001, de_it 0x2010000, de_it 0x106010101070101000100010101010101000101000000000000000000000000000000000e010203010000000200010300010006, de_it 0xa080604020006000d, de_it 0x10106010100000300000001, de_it 0x2010000, de_it 0x10001010501010104010101030101010201010101010101000101000000000000000000000000000100011001000100010007, de_it 0x1e1c0e0a08060407000d, de_it 0x10000010801010300000001, de_it 0x8010000, de_it 0x2, de_it 0x2010000, de_it 0x2010011, de_it 0x1050108010403010106010102000200010100010002, de_it 0x2010000, de_it 0x10c0101010d0101000100010103010101020101000000000000000000000000000000000e000205010200000202010300010006, de_it 0xc0a080604020007000d, de_it 0x10107010100000300000001, de_it 0x2010000, de_it 0x100010103010101020101010101010100010101060101010501040201000000000000000000000000000100011001000100010007, de_it 0x2a281a0c0a08020008000d, de_it 0x10000010901010300000001, de_it 0xa010000, de_it 0x10601050201010701010200000001, de_it 0x2010000, de_it 0x1070101010601050201000100010101010101000101000000000000000000000000000000000e010202010000000201010300010006, de_it 0x10000010f01010300000001, de_it 0xe0c0a080604020008000d, de_it 0x2010000, de_it 0x1000101070101010601050201010101010100010101040101010301020201000000000000000000000000000100011001000100010007, de_it 0x201e0e0c0a08060408000d, de_it 0x10109010100000300000001, de_it 0x4010000, de_it 0x10001000000000400000003, de_it 0x8010000, de_it 0x106010101050101010401030201010701010104010601030301010201010101010002010000000000000000000000000000000000010001110002050100020301020200020008]
set_option maxRecDepth 100000 in
theorem tR_2055 : fw_go tV_2055 tK_2055.2.1.1 tK_2055.2.1.2 none tH_2055_0 [(tK_2055.2.1, tK_2055.2.2.2.1, 0, tc_args 0 tK_2055.2.2.1, [], ([], 0), ([], 0))] = true := by decide +kernel
noncomputable def tH_2055_1 : List tc_It := [de_it 0x4010000, de_it 0x300000001, de_it 0x2010000, de_it 0x10001000000000000000000000000000000000a0000010002020006, de_it 0x10b0101010d010101050101010701010103010101060107020101010101010001010000000000000000000000000001000110000205010100010007, de_it 0x2010000, de_it 0x107010101040101000000000000000000000000000000000a000202010104010006, de_it 0xa010000, de_it 0x300000001, de_it 0x6010000, de_it 0x2, de_it 0x2010000, de_it 0x2, de_it 0x2010000, de_it 0x1010b010100000300000001, de_it 0x8010000, de_it 0x100010001000100010101010101000101000000000000000000000000000000030f0200000000020001030006020006, de_it 0x14100e0c020006000d, de_it 0x4010011, de_it 0x106010100010200000003, de_it 0x4010000, de_it 0x2, de_it 0x4010000, de_it 0x10001000000000400000003, de_it 0x2010000, de_it 0x10108010100000300000001, de_it 0xa010000, de_it 0x1010a010100000300000001, de_it 0x4010000, de_it 0x1040101010301010200000001, de_it 0x4010000, de_it 0x100010001010201010102010402010104010100010001010301010104010101050101010101010100010100000000000000000103010002010001000000010001000117000204010002030101020201020004040202030008, de_it 0x8010000, de_it 0x2, de_it 0x2010000, de_it 0x2, de_it 0x2010000, de_it 0x10000010c01010300000001, de_it 0xe010000, de_it 0x1080101010701010200000001, de_it 0x107010101080101010701010108010100010101010101000101000000000000000000000000000000030f01020201020000020001030006020006, de_it 0x14100e06020006000d, de_it 0x2010000, de_it 0x4010011, de_it 0x106010100010200000003, de_it 0x4010000, de_it 0x2, de_it 0x4010000, de_it 0x10001000000000400000003, de_it 0x2010000, de_it 0x10000010901010300000001, de_it 0x8010000, de_it 0x10000010a01010300000001, de_it 0x8010000, de_it 0x103010101030101010401010105010101050101000100010001010301010104010101020101010101010100010100000000000000000103010002010103010100000001000100011700020401000203010200000004040202030008, de_it 0xa010000, de_it 0x300000001, de_it 0x6010000, de_it 0x2, de_it 0x2010000, de_it 0x2, de_it 0x2010000, de_it 0x1010b010100000300000001, de_it 0x8010000, de_it 0x100010001000100010101010101000101000000000000000000000000000000030f2000000000020001030006020006, de_it 0x1412100c020006000d, de_it 0x4010011, de_it 0x106010100010200000003, de_it 0x4010000, de_it 0x2, de_it 0x4010000, de_it 0x10001000000000400000003, de_it 0x2010000, de_it 0x10108010100000300000001, de_it 0xa010000, de_it 0x1010a010100000300000001, de_it 0x4010000, de_it 0x1030101010401010200000001, de_it 0x4010000, de_it 0x10001000101020101010201030201010301010001000101040101010301010105010101010101010001010000000000000000010401000201000100000001000100011700020401000203011f020201200004040202030008, de_it 0x8010000, de_it 0x2, de_it 0x2010000, de_it 0x2, de_it 0x2010000, de_it 0x10000010c01010300000001, de_it 0xe010000, de_it 0x1080101010901010200000001, de_it 0x109010101080101010901010108010100010101010101000101000000000000000000000000000000030f1f020201200000020001030006020006, de_it 0x14121006020006000d, de_it 0x2010000, de_it 0x4010011, de_it 0x106010100010200000003, de_it 0x4010000, de_it 0x2, de_it 0x4010000, de_it 0x10001000000000400000003, de_it 0x2010000, de_it 0x10000010901010300000001, de_it 0x8010000, de_it 0x10000010a01010300000001, de_it 0x8010000, de_it 0x104010101040101010301010105010101050101000100010001010401010103010101020101010101010100010100000000000000000104010002010104010100000001000100011700020401000203012000000004040202030008, de_it 0xa010000, de_it 0x300000001, de_it 0x6010000, de_it 0x2, de_it 0x2010000, de_it 0x2, de_it 0x2010000, de_it 0x1010b010100000300000001, de_it 0x8010000, de_it 0x100010001000100010101010101000101000000000000000000000000000000030f0400000000020001030006020006, de_it 0x1412100c020006000d, de_it 0x4010011, de_it 0x106010100010200000003, de_it 0x4010000, de_it 0x2, de_it 0x4010000, de_it 0x10001000000000400000003, de_it 0x2010000, de_it 0x10108010100000300000001, de_it 0xa010000, de_it 0x1010a010100000300000001, de_it 0x4010000, de_it 0x1030101010401010200000001, de_it 0x4010000, de_it 0x100010001010201010102010302010103010100010001010401010103010101050101010101010100010100000000000000000104010002010001000000010001000117000204010002030103020201040004040202030008, de_it 0x8010000, de_it 0x2, de_it 0x2010000, de_it 0x2, de_it 0x2010000, de_it 0x10000010c01010300000001, de_it 0xe010000, de_it 0x1080101010901010200000001, de_it 0x109010101080101010901010108010100010101010101000101000000000000000000000000000000030f03020201040000020001030006020006, de_it 0x14121006020006000d, de_it 0x2010000, de_it 0x4010011, de_it 0x106010100010200000003, de_it 0x4010000, de_it 0x2, de_it 0x4010000, de_it 0x10001000000000400000003, de_it 0x2010000, de_it 0x10000010901010300000001, de_it 0x8010000, de_it 0x10000010a01010300000001, de_it 0x8010000, de_it 0x104010101040101010301010105010101050101000100010001010401010103010101020101010101010100010100000000000000000104010002010104010100000001000100011700020401000203010400000004040202030008, de_it 0xa010000, de_it 0x300000001, de_it 0x6010000, de_it 0x2, de_it 0x2010000, de_it 0x2, de_it 0x2010000, de_it 0x1010b010100000300000001, de_it 0x8010000, de_it 0x100010001000100010101010101000101000000000000000000000000000000030f4000000000020001030006020006, de_it 0x14120c0804020007000d, de_it 0x4010011, de_it 0x107010100010200000003, de_it 0x4010000, de_it 0x2, de_it 0x4010000, de_it 0x10001000000000400000003, de_it 0x2010000, de_it 0x10109010100000300000001, de_it 0xa010000, de_it 0x1010b010100000300000001, de_it 0x4010000, de_it 0x1030101010501010200000001, de_it 0x4010000, de_it 0x1000100010104010101020101010301010001000101050101010301010106010101010101010001010000000000000000010501000201000100000001000100011700020401000203013f020201400004040202030008, de_it 0x8010000, de_it 0x2, de_it 0x2010000, de_it 0x2, de_it 0x2010000, de_it 0x10000010c01010300000001, de_it 0xe010000, de_it 0x1040101010901010200000001, de_it 0x109010101040101010901010104010100010101010101000101000000000000000000000000000000030f3f020201400000020001030006020006, de_it 0x14120806020006000d, de_it 0x2010000, de_it 0x4010011, de_it 0x106010100010200000003, de_it 0x4010000, de_it 0x2, de_it 0x4010000, de_it 0x10001000000000400000003, de_it 0x2010000, de_it 0x10000010901010300000001, de_it 0x8010000, de_it 0x10000010a01010300000001, de_it 0x8010000, de_it 0x104010101040101010301010105010101050101000100010001010401010103010101020101010101010100010100000000000000000104010002010104010100000001000100011700020401000203014000000004040202030008, de_it 0xa010000, de_it 0x300000001, de_it 0x6010000, de_it 0x2, de_it 0x2010000, de_it 0x2, de_it 0x2010000, de_it 0x1010b010100000300000001, de_it 0x8010000, de_it 0x100010001000100010101010101000101000000000000000000000000000000030f0800000000020001030006020006, de_it 0x1412100c020006000d, de_it 0x4010011, de_it 0x106010100010200000003, de_it 0x4010000, de_it 0x2, de_it 0x4010000, de_it 0x10001000000000400000003, de_it 0x2010000, de_it 0x10108010100000300000001, de_it 0xa010000, de_it 0x1010a010100000300000001, de_it 0x4010000, de_it 0x1030101010401010200000001, de_it 0x4010000, de_it 0x100010001010201010102010302010103010100010001010401010103010101050101010101010100010100000000000000000104010002010001000000010001000117000204010002030107020201080004040202030008, de_it 0x8010000, de_it 0x2, de_it 0x2010000, de_it 0x2, de_it 0x2010000, de_it 0x10000010c01010300000001, de_it 0xe010000, de_it 0x1080101010901010200000001, de_it 0x109010101080101010901010108010100010101010101000101000000000000000000000000000000030f07020201080000020001030006020006, de_it 0x14121006020006000d, de_it 0x2010000, de_it 0x4010011, de_it 0x106010100010200000003, de_it 0x4010000, de_it 0x2, de_it 0x4010000, de_it 0x10001000000000400000003, de_it 0x2010000, de_it 0x10000010901010300000001, de_it 0x8010000, de_it 0x10000010a01010300000001, de_it 0x8010000, de_it 0x104010101040101010301010105010101050101000100010001010401010103010101020101010101010100010100000000000000000104010002010104010100000001000100011700020401000203010800000004040202030008, de_it 0xa010000, de_it 0x300000001, de_it 0x6010000, de_it 0x2, de_it 0x2010000, de_it 0x2, de_it 0x2010000, de_it 0x1010b010100000300000001, de_it 0x8010000, de_it 0x100010001000100010101010101000101000000000000000000000000000000030f1000000000020001030006020006, de_it 0x1412100c020006000d, de_it 0x4010011, de_it 0x106010100010200000003, de_it 0x4010000, de_it 0x2, de_it 0x4010000, de_it 0x10001000000000400000003, de_it 0x2010000, de_it 0x10108010100000300000001, de_it 0xa010000, de_it 0x1010a010100000300000001, de_it 0x4010000, de_it 0x1030101010401010200000001, de_it 0x4010000, de_it 0x10001000101020101010201030201010301010001000101040101010301010105010101010101010001010000000000000000010401000201000100000001000100011700020401000203010f020201100004040202030008, de_it 0x8010000, de_it 0x2, de_it 0x2010000, de_it 0x2, de_it 0x2010000, de_it 0x10000010c01010300000001, de_it 0xe010000, de_it 0x1080101010901010200000001, de_it 0x109010101080101010901010108010100010101010101000101000000000000000000000000000000030f0f020201100000020001030006020006, de_it 0x14121006020006000d, de_it 0x2010000, de_it 0x4010011, de_it 0x106010100010200000003, de_it 0x4010000, de_it 0x2, de_it 0x4010000, de_it 0x10001000000000400000003, de_it 0x2010000, de_it 0x10000010901010300000001, de_it 0x8010000, de_it 0x10000010a01010300000001, de_it 0x8010000, de_it 0x104010101040101010301010105010101050101000100010001010401010103010101020101010101010100010100000000000000000104010002010104010100000001000100011700020401000203011000000004040202030008]
set_option maxRecDepth 100000 in
theorem tP_2055_0 : fw_plk tV_2055 tL_2055_0 tH_2055_1 = true := by decide +kernel
noncomputable def tH_2055_2 : List tc_It := [de_it 0x4010000, de_it 0x300000001, de_it 0x2010000, de_it 0x10001000000000000000000000000000000000a0200010002020006, de_it 0x26241a14120804020009000d, de_it 0x107010101080101010301010105010602010102010101040106020101010101010001010000000000000000000000000001000110000207010100010007, de_it 0x2010000, de_it 0x10d010101070101000000000000000000000000000000000a000204010104010006, de_it 0x8010000, de_it 0x1050101010601010200000001, de_it 0x300000001, de_it 0x6010000, de_it 0x2, de_it 0x2010000, de_it 0x2, de_it 0x2010000, de_it 0x10111010100000300000001, de_it 0x8010000, de_it 0x10501010105010100010001010601010101010101000101000000000000000000000000000000030f02000002030100020001030006020006, de_it 0x201c1a18161412100c0a02000c000d, de_it 0x4010011, de_it 0x10c010100010200000003, de_it 0x4010000, de_it 0x2, de_it 0x4010000, de_it 0x10001000000000400000003, de_it 0x2010000, de_it 0x1010e010100000300000001, de_it 0x4010000, de_it 0x1020101010301010200000001, de_it 0x4010000, de_it 0x10110010100000300000001, de_it 0x4010000, de_it 0x10a0101010901010200000001, de_it 0x4010000, de_it 0x10801010106010a01040301010701010106010101050101010a010101030101010201010109010702010106010a02010103010b02010101010101000101000000000000000001090100020100010000000100010001170002060100020501010204010202030104040204030008, de_it 0x8010000, de_it 0x2, de_it 0x2010000, de_it 0x2, de_it 0x2010000, de_it 0x10000011201010300000001, de_it 0x8010000, de_it 0x1050101010601010200000001, de_it 0x4010000, de_it 0x10e0101010d01010200000001, de_it 0x10d010502010105010e0201010d0101010e0101010601010101010101000101000000000000000000000000000000030f010204010202030100020001030006020006, de_it 0x201c1a1816140c0a0402000b000d, de_it 0x2010000, de_it 0x4010011, de_it 0x10b010100010200000003, de_it 0x4010000, de_it 0x2, de_it 0x4010000, de_it 0x10001000000000400000003, de_it 0x2010000, de_it 0x10000010e01010300000001, de_it 0x8010000, de_it 0x10000010f01010300000001, de_it 0x8010000, de_it 0x1080107020101050109010a0301010801060201010501090201010a0103020100010104010101030101010801060201010501090201010201010101010101000101000000000000000001080100020101080101000000010001000117000206010002050102000002030104040204030008, de_it 0x8010000, de_it 0x1050101010601010200000001, de_it 0x300000001, de_it 0x6010000, de_it 0x2, de_it 0x2010000, de_it 0x2, de_it 0x2010000, de_it 0x10111010100000300000001, de_it 0x8010000, de_it 0x10501010105010100010001010601010101010101000101000000000000000000000000000000030f20000002030100020001030006020006, de_it 0x201e18161412100e0c0a0602000d000d, de_it 0x4010011, de_it 0x10d010100010200000003, de_it 0x4010000, de_it 0x2, de_it 0x4010000, de_it 0x10001000000000400000003, de_it 0x2010000, de_it 0x1010f010100000300000001, de_it 0x4010000, de_it 0x1030101010401010200000001, de_it 0x4010000, de_it 0x10111010100000300000001, de_it 0x4010000, de_it 0x1050101010b01010200000001, de_it 0x4010000, de_it 0x10a0101010201060201010901010108010101070101010501010104010101030101010b01090201010201010104010c020101010101010001010000000000000000010b01000201000100000001000100011700020601000205011f0204012002030104040204030008, de_it 0x8010000, de_it 0x2, de_it 0x2010000, de_it 0x2, de_it 0x2010000, de_it 0x10000011201010300000001, de_it 0x8010000, de_it 0x1050101010601010200000001, de_it 0x4010000, de_it 0x1070101010f01010200000001, de_it 0x10f01050201010c01030201010f010101070101010601010101010101000101000000000000000000000000000000030f1f0204012002030100020001030006020006, de_it 0x201e1816140c0a060402000b000d, de_it 0x2010000, de_it 0x4010011, de_it 0x10b010100010200000003, de_it 0x4010000, de_it 0x2, de_it 0x4010000, de_it 0x10001000000000400000003, de_it 0x2010000, de_it 0x10000010e01010300000001, de_it 0x8010000, de_it 0x10000010f01010300000001, de_it 0x8010000, de_it 0x109010802010103010a020101090107020101030101010a010402010001010501010104010101090107020101030101010201010101010101000101000000000000000001090100020101090101000000010001000117000206010002050120000002030104040204030008, de_it 0x8010000, de_it 0x1050101010601010200000001, de_it 0x300000001, de_it 0x6010000, de_it 0x2, de_it 0x2010000, de_it 0x2, de_it 0x2010000, de_it 0x10111010100000300000001, de_it 0x8010000, de_it 0x10501010105010100010001010601010101010101000101000000000000000000000000000000030f04000002030100020001030006020006, de_it 0x201e1c18161412100c0a02000c000d, de_it 0x4010011, de_it 0x10c010100010200000003, de_it 0x4010000, de_it 0x2, de_it 0x4010000, de_it 0x10001000000000400000003, de_it 0x2010000, de_it 0x1010e010100000300000001, de_it 0x4010000, de_it 0x1020101010301010200000001, de_it 0x4010000, de_it 0x10110010100000300000001, de_it 0x4010000, de_it 0x1090101010a01010200000001, de_it 0x4010000, de_it 0x10801010106010901040301010701010106010101050101010901010103010101020101010a010702010106010902010103010b020101010101010001010000000000000000010a0100020100010000000100010001170002060100020501030204010402030104040204030008, de_it 0x8010000, de_it 0x2, de_it 0x2010000, de_it 0x2, de_it 0x2010000, de_it 0x10000011201010300000001, de_it 0x8010000, de_it 0x1050101010601010200000001, de_it 0x4010000, de_it 0x10e0101010f01010200000001, de_it 0x10f010502010105010e0201010f0101010e0101010601010101010101000101000000000000000000000000000000030f030204010402030100020001030006020006, de_it 0x201e1c1816140c0a0402000b000d, de_it 0x2010000, de_it 0x4010011, de_it 0x10b010100010200000003, de_it 0x4010000, de_it 0x2, de_it 0x4010000, de_it 0x10001000000000400000003, de_it 0x2010000, de_it 0x10000010e01010300000001, de_it 0x8010000, de_it 0x10000010f01010300000001, de_it 0x8010000, de_it 0x1090107020101050108010a0301010901060201010501080201010a0103020100010104010101030101010901060201010501080201010201010101010101000101000000000000000001090100020101090101000000010001000117000206010002050104000002030104040204030008, de_it 0x10f01070201010000000b, de_it 0x8010000, de_it 0x1050101010601010200000001, de_it 0x300000001, de_it 0x6010000, de_it 0x2, de_it 0x2010000, de_it 0x2, de_it 0x2010000, de_it 0x10111010100000300000001, de_it 0x8010000, de_it 0x10501010105010100010001010601010101010101000101000000000000000000000000000000030f08000002030100020001030006020006, de_it 0x201e1c18161412100c0a02000c000d, de_it 0x4010011, de_it 0x10c010100010200000003, de_it 0x4010000, de_it 0x2, de_it 0x4010000, de_it 0x10001000000000400000003, de_it 0x2010000, de_it 0x1010e010100000300000001, de_it 0x4010000, de_it 0x1020101010301010200000001, de_it 0x4010000, de_it 0x10110010100000300000001, de_it 0x4010000, de_it 0x1090101010a01010200000001, de_it 0x4010000, de_it 0x10801010106010901040301010701010106010101050101010901010103010101020101010a010702010106010902010103010b020101010101010001010000000000000000010a0100020100010000000100010001170002060100020501070204010802030104040204030008, de_it 0x8010000, de_it 0x2, de_it 0x2010000, de_it 0x2, de_it 0x2010000, de_it 0x10000011201010300000001, de_it 0x8010000, de_it 0x1050101010601010200000001, de_it 0x4010000, de_it 0x10e0101010f01010200000001, de_it 0x10f010502010105010e0201010f0101010e0101010601010101010101000101000000000000000000000000000000030f070204010802030100020001030006020006, de_it 0x201e1c1816140c0a0402000b000d, de_it 0x2010000, de_it 0x4010011, de_it 0x10b010100010200000003, de_it 0x4010000, de_it 0x2, de_it 0x4010000, de_it 0x10001000000000400000003, de_it 0x2010000, de_it 0x10000010e01010300000001, de_it 0x8010000, de_it 0x10000010f01010300000001, de_it 0x8010000, de_it 0x1090107020101050108010a0301010901060201010501080201010a0103020100010104010101030101010901060201010501080201010201010101010101000101000000000000000001090100020101090101000000010001000117000206010002050108000002030104040204030008, de_it 0x8010000, de_it 0x1050101010601010200000001, de_it 0x300000001, de_it 0x6010000, de_it 0x2, de_it 0x2010000, de_it 0x2, de_it 0x2010000, de_it 0x10111010100000300000001, de_it 0x8010000, de_it 0x10501010105010100010001010601010101010101000101000000000000000000000000000000030f10000002030100020001030006020006, de_it 0x201e1c18161412100c0a02000c000d, de_it 0x4010011, de_it 0x10c010100010200000003, de_it 0x4010000, de_it 0x2, de_it 0x4010000, de_it 0x10001000000000400000003, de_it 0x2010000, de_it 0x1010e010100000300000001, de_it 0x4010000, de_it 0x1020101010301010200000001, de_it 0x4010000, de_it 0x10110010100000300000001, de_it 0x4010000, de_it 0x1090101010a01010200000001, de_it 0x4010000, de_it 0x10801010106010901040301010701010106010101050101010901010103010101020101010a010702010106010902010103010b020101010101010001010000000000000000010a01000201000100000001000100011700020601000205010f0204011002030104040204030008, de_it 0x8010000, de_it 0x2, de_it 0x2010000, de_it 0x2, de_it 0x2010000, de_it 0x10000011201010300000001, de_it 0x8010000, de_it 0x1050101010601010200000001, de_it 0x4010000, de_it 0x10e0101010f01010200000001, de_it 0x10f010502010105010e0201010f0101010e0101010601010101010101000101000000000000000000000000000000030f0f0204011002030100020001030006020006, de_it 0x201e1c1816140c0a0402000b000d, de_it 0x2010000, de_it 0x4010011, de_it 0x10b010100010200000003, de_it 0x4010000, de_it 0x2, de_it 0x4010000, de_it 0x10001000000000400000003, de_it 0x2010000, de_it 0x10000010e01010300000001, de_it 0x8010000, de_it 0x10000010f01010300000001, de_it 0x8010000, de_it 0x1090107020101050108010a0301010901060201010501080201010a0103020100010104010101030101010901060201010501080201010201010101010101000101000000000000000001090100020101090101000000010001000117000206010002050110000002030104040204030008]
set_option maxRecDepth 100000 in
theorem tP_2055_1 : fw_plk tV_2055 tL_2055_1 tH_2055_2 = true := by decide +kernel
noncomputable def tH_2055_3 : List tc_It := [de_it 0x4010000, de_it 0x300000001, de_it 0x2010000, de_it 0x10001000000000000000000000000000000000a0400010002020006, de_it 0x26241a12100804020009000d, de_it 0x107010101080101010301010105010602010102010101040106020101010101010001010000000000000000000000000001000110000207010100010007, de_it 0x2010000, de_it 0x10d010101070101000000000000000000000000000000000a000204010104010006, de_it 0x8010000, de_it 0x1050101010601010200000001, de_it 0x300000001, de_it 0x6010000, de_it 0x2, de_it 0x2010000, de_it 0x2, de_it 0x2010000, de_it 0x10111010100000300000001, de_it 0x201c1a181412100c0a02000b000d, de_it 0x8010000, de_it 0x10201010102010100010001010301010101010101000101000000000000000000000000000000030f02000002030100020001030006020006, de_it 0x1412100e0c0a08060402000b000d, de_it 0x4010011, de_it 0x10b010100010200000003, de_it 0x4010000, de_it 0x2, de_it 0x4010000, de_it 0x10001000000000400000003, de_it 0x2010000, de_it 0x1010d010100000300000001, de_it 0x4010000, de_it 0x1020101010301010200000001, de_it 0x4010000, de_it 0x1010f010100000300000001, de_it 0x4010000, de_it 0x1090101010801010200000001, de_it 0x4010000, de_it 0x10701010106010101050101010401010109010101030101010201010108010602010105010902010103010a02010104010902010101010101000101000000000000000001080100020100010000000100010001170002060100020501010204010202030104040206030008, de_it 0x8010000, de_it 0x2, de_it 0x2010000, de_it 0x2, de_it 0x2010000, de_it 0x10000011201010300000001, de_it 0x8010000, de_it 0x1050101010601010200000001, de_it 0x4010000, de_it 0x10e0101010d01010200000001, de_it 0x10d010502010105010e0201010d0101010e0101010601010101010101000101000000000000000000000000000000030f010204010202030100020001030006020006, de_it 0x201c1a1814120c0a0402000b000d, de_it 0x2010000, de_it 0x4010011, de_it 0x10b010100010200000003, de_it 0x4010000, de_it 0x2, de_it 0x4010000, de_it 0x10001000000000400000003, de_it 0x2010000, de_it 0x10000010e01010300000001, de_it 0x8010000, de_it 0x10000010f01010300000001, de_it 0x8010000, de_it 0x10801070201010801060201010501090201010a010302010001010401010103010101080106020101050109020101020101010a010302010101010101000101000000000000000001080100020101080101000000010001000117000206010002050102000002030104040206030008, de_it 0x10f01070201010000000b, de_it 0x8010000, de_it 0x1050101010601010200000001, de_it 0x300000001, de_it 0x6010000, de_it 0x2, de_it 0x2010000, de_it 0x2, de_it 0x2010000, de_it 0x10111010100000300000001, de_it 0x201e1c181412100c0a02000b000d, de_it 0x8010000, de_it 0x10201010102010100010001010301010101010101000101000000000000000000000000000000030f04000002030100020001030006020006, de_it 0x1412100e0c0a08060402000b000d, de_it 0x4010011, de_it 0x10b010100010200000003, de_it 0x4010000, de_it 0x2, de_it 0x4010000, de_it 0x10001000000000400000003, de_it 0x2010000, de_it 0x1010d010100000300000001, de_it 0x4010000, de_it 0x1020101010301010200000001, de_it 0x4010000, de_it 0x1010f010100000300000001, de_it 0x4010000, de_it 0x1080101010901010200000001, de_it 0x4010000, de_it 0x10701010106010101050101010401010108010101030101010201010109010602010105010802010103010a02010104010802010101010101000101000000000000000001090100020100010000000100010001170002060100020501030204010402030104040206030008, de_it 0x8010000, de_it 0x2, de_it 0x2010000, de_it 0x2, de_it 0x2010000, de_it 0x10000011201010300000001, de_it 0x8010000, de_it 0x1050101010601010200000001, de_it 0x4010000, de_it 0x10e0101010f01010200000001, de_it 0x10f010502010105010e0201010f0101010e0101010601010101010101000101000000000000000000000000000000030f030204010402030100020001030006020006, de_it 0x201e1c1814120c0a0402000b000d, de_it 0x2010000, de_it 0x4010011, de_it 0x10b010100010200000003, de_it 0x4010000, de_it 0x2, de_it 0x4010000, de_it 0x10001000000000400000003, de_it 0x2010000, de_it 0x10000010e01010300000001, de_it 0x8010000, de_it 0x10000010f01010300000001, de_it 0x8010000, de_it 0x10901070201010901060201010501080201010a010302010001010401010103010101090106020101050108020101020101010a010302010101010101000101000000000000000001090100020101090101000000010001000117000206010002050104000002030104040206030008, de_it 0x10f01070201010000000b, de_it 0x8010000, de_it 0x1050101010601010200000001, de_it 0x300000001, de_it 0x6010000, de_it 0x2, de_it 0x2010000, de_it 0x2, de_it 0x2010000, de_it 0x10111010100000300000001, de_it 0x201e1c181412100c0a02000b000d, de_it 0x8010000, de_it 0x10201010102010100010001010301010101010101000101000000000000000000000000000000030f08000002030100020001030006020006, de_it 0x1412100e0c0a08060402000b000d, de_it 0x4010011, de_it 0x10b010100010200000003, de_it 0x4010000, de_it 0x2, de_it 0x4010000, de_it 0x10001000000000400000003, de_it 0x2010000, de_it 0x1010d010100000300000001, de_it 0x4010000, de_it 0x1020101010301010200000001, de_it 0x4010000, de_it 0x1010f010100000300000001, de_it 0x4010000, de_it 0x1080101010901010200000001, de_it 0x4010000, de_it 0x10701010106010101050101010401010108010101030101010201010109010602010105010802010103010a02010104010802010101010101000101000000000000000001090100020100010000000100010001170002060100020501070204010802030104040206030008, de_it 0x8010000, de_it 0x2, de_it 0x2010000, de_it 0x2, de_it 0x2010000, de_it 0x10000011201010300000001, de_it 0x8010000, de_it 0x1050101010601010200000001, de_it 0x4010000, de_it 0x10e0101010f01010200000001, de_it 0x10f010502010105010e0201010f0101010e0101010601010101010101000101000000000000000000000000000000030f070204010802030100020001030006020006, de_it 0x201e1c1814120c0a0402000b000d, de_it 0x2010000, de_it 0x4010011, de_it 0x10b010100010200000003, de_it 0x4010000, de_it 0x2, de_it 0x4010000, de_it 0x10001000000000400000003, de_it 0x2010000, de_it 0x10000010e01010300000001, de_it 0x8010000, de_it 0x10000010f01010300000001, de_it 0x8010000, de_it 0x10901070201010901060201010501080201010a010302010001010401010103010101090106020101050108020101020101010a010302010101010101000101000000000000000001090100020101090101000000010001000117000206010002050108000002030104040206030008, de_it 0x8010000, de_it 0x1050101010601010200000001, de_it 0x300000001, de_it 0x6010000, de_it 0x2, de_it 0x2010000, de_it 0x2, de_it 0x2010000, de_it 0x10111010100000300000001, de_it 0x8010000, de_it 0x10501010105010100010001010601010101010101000101000000000000000000000000000000030f10000002030100020001030006020006, de_it 0x201e18161412100e0c0a0602000d000d, de_it 0x4010011, de_it 0x10d010100010200000003, de_it 0x4010000, de_it 0x2, de_it 0x4010000, de_it 0x10001000000000400000003, de_it 0x2010000, de_it 0x1010f010100000300000001, de_it 0x4010000, de_it 0x1030101010401010200000001, de_it 0x4010000, de_it 0x10111010100000300000001, de_it 0x4010000, de_it 0x1050101010b01010200000001, de_it 0x4010000, de_it 0x10a0101010801010107010101060101010501010104010101030101010b01080201010201010104010c020101090106010a030201010101010001010000000000000000010b01000201000100000001000100011700020601000205010f0204011002030104040206030008, de_it 0x8010000, de_it 0x2, de_it 0x2010000, de_it 0x2, de_it 0x2010000, de_it 0x10000011201010300000001, de_it 0x8010000, de_it 0x1050101010601010200000001, de_it 0x4010000, de_it 0x1070101010f01010200000001, de_it 0x10f01050201010c01030201010f010101070101010601010101010101000101000000000000000000000000000000030f0f0204011002030100020001030006020006, de_it 0x201e1814120c0a060402000b000d, de_it 0x2010000, de_it 0x4010011, de_it 0x10b010100010200000003, de_it 0x4010000, de_it 0x2, de_it 0x4010000, de_it 0x10001000000000400000003, de_it 0x2010000, de_it 0x10000010e01010300000001, de_it 0x8010000, de_it 0x10000010f01010300000001, de_it 0x8010000, de_it 0x1090108020101090107020101030101010a01040201000101050101010401010109010702010103010101020101010a010402010101010101000101000000000000000001090100020101090101000000010001000117000206010002050110000002030104040206030008]
set_option maxRecDepth 100000 in
theorem tP_2055_2 : fw_plk tV_2055 tL_2055_2 tH_2055_3 = true := by decide +kernel
noncomputable def tH_2055_4 : List tc_It := [de_it 0x4010000, de_it 0x300000001, de_it 0x2010000, de_it 0x10001000000000000000000000000000000000a0600010002020006, de_it 0x26241a14120a06020009000d, de_it 0x107010101080101010301010105010602010102010101040106020101010101010001010000000000000000000000000001000110000207010100010007, de_it 0x2010000, de_it 0x10d010101080101000000000000000000000000000000000a000204010104010006, de_it 0x8010000, de_it 0x1060101010701010200000001, de_it 0x300000001, de_it 0x6010000, de_it 0x2, de_it 0x2010000, de_it 0x2, de_it 0x2010000, de_it 0x10111010100000300000001, de_it 0x201c1a181614120e0c02000b000d, de_it 0x8010000, de_it 0x10201010102010100010001010301010101010101000101000000000000000000000000000000030f02000002030100020001030006020006, de_it 0x1412100e0c0a08060402000b000d, de_it 0x4010011, de_it 0x10b010100010200000003, de_it 0x4010000, de_it 0x2, de_it 0x4010000, de_it 0x10001000000000400000003, de_it 0x2010000, de_it 0x1010d010100000300000001, de_it 0x4010000, de_it 0x1020101010301010200000001, de_it 0x4010000, de_it 0x1010f010100000300000001, de_it 0x4010000, de_it 0x1090101010801010200000001, de_it 0x4010000, de_it 0x10701010106010101050101010401010109010101030101010201010108010602010105010902010103010a02010104010902010101010101000101000000000000000001080100020100010000000100010001170002060100020501010204010202030104040208030008, de_it 0x8010000, de_it 0x2, de_it 0x2010000, de_it 0x2, de_it 0x2010000, de_it 0x10000011201010300000001, de_it 0x8010000, de_it 0x1060101010701010200000001, de_it 0x4010000, de_it 0x10e0101010d01010200000001, de_it 0x10d010602010106010e0201010d0101010e0101010701010101010101000101000000000000000000000000000000030f010204010202030100020001030006020006, de_it 0x201c1a1816140e0c0602000b000d, de_it 0x2010000, de_it 0x4010011, de_it 0x10b010100010200000003, de_it 0x4010000, de_it 0x2, de_it 0x4010000, de_it 0x10001000000000400000003, de_it 0x2010000, de_it 0x10000010e01010300000001, de_it 0x8010000, de_it 0x10000010f01010300000001, de_it 0x8010000, de_it 0x10801070201010801060201010501090201010a010302010001010401010103010101080106020101050109020101020101010a010302010101010101000101000000000000000001080100020101080101000000010001000117000206010002050102000002030104040208030008, de_it 0x10f01080201010000000b, de_it 0x8010000, de_it 0x1060101010701010200000001, de_it 0x300000001, de_it 0x6010000, de_it 0x2, de_it 0x2010000, de_it 0x2, de_it 0x2010000, de_it 0x10111010100000300000001, de_it 0x201e1c181614120e0c02000b000d, de_it 0x8010000, de_it 0x10201010102010100010001010301010101010101000101000000000000000000000000000000030f04000002030100020001030006020006, de_it 0x1412100e0c0a08060402000b000d, de_it 0x4010011, de_it 0x10b010100010200000003, de_it 0x4010000, de_it 0x2, de_it 0x4010000, de_it 0x10001000000000400000003, de_it 0x2010000, de_it 0x1010d010100000300000001, de_it 0x4010000, de_it 0x1020101010301010200000001, de_it 0x4010000, de_it 0x1010f010100000300000001, de_it 0x4010000, de_it 0x1080101010901010200000001, de_it 0x4010000, de_it 0x10701010106010101050101010401010108010101030101010201010109010602010105010802010103010a02010104010802010101010101000101000000000000000001090100020100010000000100010001170002060100020501030204010402030104040208030008, de_it 0x8010000, de_it 0x2, de_it 0x2010000, de_it 0x2, de_it 0x2010000, de_it 0x10000011201010300000001, de_it 0x8010000, de_it 0x1060101010701010200000001, de_it 0x4010000, de_it 0x10e0101010f01010200000001, de_it 0x10f010602010106010e0201010f0101010e0101010701010101010101000101000000000000000000000000000000030f030204010402030100020001030006020006, de_it 0x201e1c1816140e0c0602000b000d, de_it 0x2010000, de_it 0x4010011, de_it 0x10b010100010200000003, de_it 0x4010000, de_it 0x2, de_it 0x4010000, de_it 0x10001000000000400000003, de_it 0x2010000, de_it 0x10000010e01010300000001, de_it 0x8010000, de_it 0x10000010f01010300000001, de_it 0x8010000, de_it 0x10901070201010901060201010501080201010a010302010001010401010103010101090106020101050108020101020101010a010302010101010101000101000000000000000001090100020101090101000000010001000117000206010002050104000002030104040208030008, de_it 0x10f01080201010000000b, de_it 0x8010000, de_it 0x1060101010701010200000001, de_it 0x300000001, de_it 0x6010000, de_it 0x2, de_it 0x2010000, de_it 0x2, de_it 0x2010000, de_it 0x10111010100000300000001, de_it 0x8010000, de_it 0x10601010106010100010001010701010101010101000101000000000000000000000000000000030f08000002030100020001030006020006, de_it 0x201e18161412100e0c080402000d000d, de_it 0x4010011, de_it 0x10d010100010200000003, de_it 0x4010000, de_it 0x2, de_it 0x4010000, de_it 0x10001000000000400000003, de_it 0x2010000, de_it 0x1010f010100000300000001, de_it 0x4010000, de_it 0x1040101010501010200000001, de_it 0x4010000, de_it 0x10111010100000300000001, de_it 0x4010000, de_it 0x1060101010b01010200000001, de_it 0x4010000, de_it 0x10a0101010901010108010101070101010601010105010101040101010b01090201010301010105010c02010102010101010101010001010000000000000000010b0100020100010000000100010001170002060100020501070204010802030104040208030008, de_it 0x8010000, de_it 0x2, de_it 0x2010000, de_it 0x2, de_it 0x2010000, de_it 0x10000011201010300000001, de_it 0x8010000, de_it 0x1060101010701010200000001, de_it 0x4010000, de_it 0x1080101010f01010200000001, de_it 0x10f01060201010c01040201010f010101080101010701010101010101000101000000000000000000000000000000030f070204010802030100020001030006020006, de_it 0x201e1816140e0c080602000b000d, de_it 0x2010000, de_it 0x4010011, de_it 0x10b010100010200000003, de_it 0x4010000, de_it 0x2, de_it 0x4010000, de_it 0x10001000000000400000003, de_it 0x2010000, de_it 0x10000010e01010300000001, de_it 0x8010000, de_it 0x10000010f01010300000001, de_it 0x8010000, de_it 0x1090108020101090107020101030101010a01040201000101050101010401010109010702010103010101020101010a010402010101010101000101000000000000000001090100020101090101000000010001000117000206010002050108000002030104040208030008, de_it 0x10f01080201010000000b]
set_option maxRecDepth 100000 in
theorem tP_2055_3 : fw_plk tV_2055 tL_2055_3 tH_2055_4 = true := by decide +kernel
noncomputable def tH_2055_5 : List tc_It := [de_it 0x4010000, de_it 0x300000001, de_it 0x2010000, de_it 0x10001000000000000000000000000000000000a0800010002020006, de_it 0x26241a14120a06020009000d, de_it 0x107010101080101010301010105010602010102010101040106020101010101010001010000000000000000000000000001000110000207010100010007, de_it 0x2010000, de_it 0x10d010101080101000000000000000000000000000000000a000204010104010006, de_it 0x8010000, de_it 0x1060101010701010200000001, de_it 0x300000001, de_it 0x6010000, de_it 0x2, de_it 0x2010000, de_it 0x2, de_it 0x2010000, de_it 0x10111010100000300000001, de_it 0x201c1a1614120e0c02000a000d, de_it 0x8010000, de_it 0x10201010102010100010001010301010101010101000101000000000000000000000000000000030f02000002030100020001030006020006, de_it 0x12100e0c0a08060402000a000d, de_it 0x4010011, de_it 0x10a010100010200000003, de_it 0x4010000, de_it 0x2, de_it 0x4010000, de_it 0x10001000000000400000003, de_it 0x2010000, de_it 0x1010c010100000300000001, de_it 0x4010000, de_it 0x1020101010301010200000001, de_it 0x4010000, de_it 0x1010e010100000300000001, de_it 0x4010000, de_it 0x1080101010701010200000001, de_it 0x4010000, de_it 0x10601010105010101040101010801010103010101020101010701060201010501080201010301090201010401080201010101010100010100000000000000000107010002010001000000010001000116000206010002050101020401020203010404020a030008, de_it 0x8010000, de_it 0x2, de_it 0x2010000, de_it 0x2, de_it 0x2010000, de_it 0x10000011201010300000001, de_it 0x8010000, de_it 0x1060101010701010200000001, de_it 0x4010000, de_it 0x10e0101010d01010200000001, de_it 0x10d010602010106010e0201010d0101010e0101010701010101010101000101000000000000000000000000000000030f010204010202030100020001030006020006, de_it 0x201c1a1816140e0c0602000b000d, de_it 0x2010000, de_it 0x4010011, de_it 0x10b010100010200000003, de_it 0x4010000, de_it 0x2, de_it 0x4010000, de_it 0x10001000000000400000003, de_it 0x2010000, de_it 0x10000010e01010300000001, de_it 0x8010000, de_it 0x10000010f01010300000001, de_it 0x8010000, de_it 0x10801060201010501090201010a010302010001010401010103010101080106020101050109020101020101010a01030201010101010100010100000000000000000108010002010108010100000001000100011600020601000205010200000203010404020a030008, de_it 0x10f01080201010000000b, de_it 0x8010000, de_it 0x1060101010701010200000001, de_it 0x300000001, de_it 0x6010000, de_it 0x2, de_it 0x2010000, de_it 0x2, de_it 0x2010000, de_it 0x10111010100000300000001, de_it 0x8010000, de_it 0x10601010106010100010001010701010101010101000101000000000000000000000000000000030f04000002030100020001030006020006, de_it 0x201e161412100e0c080402000c000d, de_it 0x4010011, de_it 0x10c010100010200000003, de_it 0x4010000, de_it 0x2, de_it 0x4010000, de_it 0x10001000000000400000003, de_it 0x2010000, de_it 0x1010e010100000300000001, de_it 0x4010000, de_it 0x1040101010501010200000001, de_it 0x4010000, de_it 0x10110010100000300000001, de_it 0x4010000, de_it 0x1060101010a01010200000001, de_it 0x4010000, de_it 0x10901010108010101070101010601010105010101040101010a01090201010301010105010b02010102010101010101010001010000000000000000010a010002010001000000010001000116000206010002050103020401040203010404020a030008, de_it 0x8010000, de_it 0x2, de_it 0x2010000, de_it 0x2, de_it 0x2010000, de_it 0x10000011201010300000001, de_it 0x8010000, de_it 0x1060101010701010200000001, de_it 0x4010000, de_it 0x1080101010f01010200000001, de_it 0x10f01060201010c01040201010f010101080101010701010101010101000101000000000000000000000000000000030f030204010402030100020001030006020006, de_it 0x201e1816140e0c080602000b000d, de_it 0x2010000, de_it 0x4010011, de_it 0x10b010100010200000003, de_it 0x4010000, de_it 0x2, de_it 0x4010000, de_it 0x10001000000000400000003, de_it 0x2010000, de_it 0x10000010e01010300000001, de_it 0x8010000, de_it 0x10000010f01010300000001, de_it 0x8010000, de_it 0x1090107020101030101010a01040201000101050101010401010109010702010103010101020101010a01040201010101010100010100000000000000000109010002010109010100000001000100011600020601000205010400000203010404020a030008, de_it 0x10f01080201010000000b, de_it 0x10f01080201010000000b, de_it 0x10f01080201010000000b]
set_option maxRecDepth 100000 in
theorem tP_2055_4 : fw_plk tV_2055 tL_2055_4 tH_2055_5 = true := by decide +kernel
noncomputable def tH_2055_6 : List tc_It := [de_it 0x4010000, de_it 0x300000001, de_it 0x2010000, de_it 0x10001000000000000000000000000000000000a0a00010002020006, de_it 0x24221814120a06020009000d, de_it 0x107010101080101010301010105010602010102010101040106020101010101010001010000000000000000000000000001000110000207010100010007, de_it 0x2010000, de_it 0x10c010101080101000000000000000000000000000000000a000204010104010006, de_it 0x8010000, de_it 0x1060101010701010200000001, de_it 0x300000001, de_it 0x6010000, de_it 0x2, de_it 0x2010000, de_it 0x2, de_it 0x2010000, de_it 0x10110010100000300000001, de_it 0x1e1816100e0c080402000a000d, de_it 0x8010000, de_it 0x10401010104010100010001010501010101010101000101000000000000000000000000000000030f02000002030100020001030006020006, de_it 0x12100e0c0a08060402000a000d, de_it 0x4010011, de_it 0x10a010100010200000003, de_it 0x4010000, de_it 0x2, de_it 0x4010000, de_it 0x10001000000000400000003, de_it 0x2010000, de_it 0x1010c010100000300000001, de_it 0x4010000, de_it 0x1040101010501010200000001, de_it 0x4010000, de_it 0x1010e010100000300000001, de_it 0x4010000, de_it 0x1060101010801010200000001, de_it 0x4010000, de_it 0x10601010108010702010103010101050109020101020101010101010100010100000000000000000108010002010001000000010001000111000206010002050101020401020203010404020c030008, de_it 0x8010000, de_it 0x2, de_it 0x2010000, de_it 0x2, de_it 0x2010000, de_it 0x10000011101010300000001, de_it 0x8010000, de_it 0x1060101010701010200000001, de_it 0x4010000, de_it 0x1080101010c01010200000001, de_it 0x10c01060201010801060201010c010101080101010701010101010101000101000000000000000000000000000000030f010204010202030100020001030006020006, de_it 0x302e1e18160806020009000d, de_it 0x2010000, de_it 0x4010011, de_it 0x109010100010200000003, de_it 0x4010000, de_it 0x2, de_it 0x4010000, de_it 0x10001000000000400000003, de_it 0x2010000, de_it 0x10000010c01010300000001, de_it 0x8010000, de_it 0x10000010d01010300000001, de_it 0x8010000, de_it 0x101050104020101030101010201010108020601070302010101010100010100000000000000000105010002010105010100000001000100011100020601000205010200000203010404020c030008, de_it 0x10e01080201010000000b, de_it 0x10e01080201010000000b, de_it 0x10e01080201010000000b, de_it 0x10e01080201010000000b, de_it 0x10e01080201010000000b]
set_option maxRecDepth 100000 in
theorem tP_2055_5 : fw_plk tV_2055 tL_2055_5 tH_2055_6 = true := by decide +kernel
noncomputable def tH_2055_7 : List tc_It := [de_it 0x4010000, de_it 0x1070106020100000300000001, de_it 0x2010000, de_it 0x10001000000000000000000000000000000000a0c00010002020006, de_it 0x10c0101010d01010105010101040101010301010102010101010101010001010000000000000000000000000001000110000207010100010007]
set_option maxRecDepth 100000 in
theorem tP_2055_6 : fw_plk tV_2055 tL_2055_6 tH_2055_7 = true := by decide +kernel
set_option maxRecDepth 100000 in
theorem tT_2055 {RO : am_O} {sa : Nat → Nat} (h_2000 : tc_true (aP sa) tp_G RO tp_T tp_Z tK_2000) (h_2051 : tc_true (aP sa) tp_G RO tp_T tp_Z tK_2051) (h_2053 : tc_true (aP sa) tp_G RO tp_T tp_Z tK_2053) (h_2054 : tc_true (aP sa) tp_G RO tp_T tp_Z tK_2054) : tc_true (aP sa) tp_G RO tp_T tp_Z tK_2055 := by
  have hC : ∀ c ∈ tC_2055, tc_true (aP sa) tp_G RO tp_T tp_Z c := by
    intro c hc
    have hc : c ∈ ([tK_2000, tK_2054, tK_2053, tK_2051] : List tc_Ct) := hc
    rcases List.mem_cons.mp hc with rfl | hc
    · exact h_2000
    rcases List.mem_cons.mp hc with rfl | hc
    · exact h_2054
    rcases List.mem_cons.mp hc with rfl | hc
    · exact h_2053
    rcases List.mem_cons.mp hc with rfl | hc
    · exact h_2051
    cases hc
  have hP : ∀ p ∈ tJ_2055, ∃ hs, tc_plk (aP sa, tV_2055.2) p hs = true := by
    intro p hp
    have hp : p ∈ ([tL_2055_0, tL_2055_1, tL_2055_2, tL_2055_3, tL_2055_4, tL_2055_5, tL_2055_6] : List tc_Pl) := hp
    rcases List.mem_cons.mp hp with rfl | hp
    · exact ⟨_, (tc_plk_sa (aP_sa sa _)).trans ((fw_plk_s tHC_2055).trans tP_2055_0)⟩
    rcases List.mem_cons.mp hp with rfl | hp
    · exact ⟨_, (tc_plk_sa (aP_sa sa _)).trans ((fw_plk_s tHC_2055).trans tP_2055_1)⟩
    rcases List.mem_cons.mp hp with rfl | hp
    · exact ⟨_, (tc_plk_sa (aP_sa sa _)).trans ((fw_plk_s tHC_2055).trans tP_2055_2)⟩
    rcases List.mem_cons.mp hp with rfl | hp
    · exact ⟨_, (tc_plk_sa (aP_sa sa _)).trans ((fw_plk_s tHC_2055).trans tP_2055_3)⟩
    rcases List.mem_cons.mp hp with rfl | hp
    · exact ⟨_, (tc_plk_sa (aP_sa sa _)).trans ((fw_plk_s tHC_2055).trans tP_2055_4)⟩
    rcases List.mem_cons.mp hp with rfl | hp
    · exact ⟨_, (tc_plk_sa (aP_sa sa _)).trans ((fw_plk_s tHC_2055).trans tP_2055_5)⟩
    rcases List.mem_cons.mp hp with rfl | hp
    · exact ⟨_, (tc_plk_sa (aP_sa sa _)).trans ((fw_plk_s tHC_2055).trans tP_2055_6)⟩
    cases hp
  exact tc_main (mt := aM_371.1) (hs := tH_2055_0) (PL := tJ_2055) ⟨tp_G_ok, tMs_2055 _, hC, tr_L_ok, tp_G_re⟩ (show am_meth (aP sa) 371 = some aM_371.1 from rfl) aX_371 (by decide +kernel) hP ((tc_go_sa (aP_sa sa _)).trans ((fw_go_s tHC_2055).trans tR_2055))
