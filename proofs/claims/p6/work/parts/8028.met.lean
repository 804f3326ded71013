/-! contracts -/
noncomputable def tK_388 : tc_Ct := (11, (3, 2), [(2, ([], 0), 0), (0, ([], 2), 0)], ([([(0, -1)], 303), ([(0, 1)], -3), ([(1, -1)], 640), ([(1, 1)], -8), ([(2, -1)], 255), ([(2, 1)], 0), ([(0, -1), (1, 1)], 0)], [(0, 189), (1, 194)], [(1, ([(1, 1)], 0))], [(0, 0, (2, ([], 0), 1)), (0, 1, (0, ([(0, 1)], 0), 0))], [(1, ([], 2), ([(2, 1)], 0))], [], [(1024, [0], []), (1016, [], []), (1088, [], [])]), [], [((3, 2), ([([(0, -1)], 303), ([(0, 1)], -3), ([(1, -1)], 640), ([(1, 1)], -8), ([(2, -1)], 255), ([(2, 1)], 0), ([(0, -1), (1, 1)], 0)], [], [(1, ([(1, 1)], 0))], [], [], [], []), some (0, ([(2, 1)], 0), 0), ([], 0), ([], 0))])
noncomputable def tJ_388 : List tc_Pl := []
noncomputable def tC_388 : List tc_Ct := []
def tM_388 (z : Nat) : Option am_Meth := none
set_option maxRecDepth 100000 in
theorem tMs_388 (sa : Nat → Nat) : ∀ z mz, tM_388 z = some mz → am_meth (aP sa) z = some mz := fun z mz h => by cases h
noncomputable def tV_388 : tc_Ev := (aQ, tp_T, tp_G.2, tp_Z, tM_388, tC_388, tp_L, tK_388.2.2.2.2.1, aM_11.1, aW_11, tK_388.2.1, tK_388.2.2.2.2.2, tJ_388)
theorem tE_388 : tK_388.2.2.2.2.2.all (tc_wex tK_388.2.1.1 tK_388.2.1.2) = true := by decide +kernel
theorem tSS_388 : tC_388.all (fun c => tw_mg tK_388.2.2.2.2.1 c.2.2.2.2.1) = true := by decide +kernel
theorem tHC_388 : ∀ c ∈ tC_388, c.2.2.2.2.1.all tK_388.2.2.2.2.1.contains = true ∧ c.2.2.2.2.2.all (tc_wex c.2.1.1 c.2.1.2) = true := tf_hc tSS_388 (by
  intro c hc
  have hc : c ∈ ([] : List tc_Ct) := hc
  cases hc)
noncomputable def tH_388_0 : List tc_It := [de_it 0x2010000, de_it 0x10701010300000001, de_it 0x4010000, de_it 0x2, de_it 0x108010102010300000001, de_it 0x2010000, de_it 0x2, de_it 0x2010000, de_it 0x103010100010200000002, de_it 0x2010000, de_it 0x1060101010501010104010101030101010201010101010101000101000000000000000000000000000100010f0000010007]
set_option maxRecDepth 100000 in
theorem tR_388 : tf_go tV_388 tK_388.2.1.1 tK_388.2.1.2 none tH_388_0 [(tK_388.2.1, tK_388.2.2.2.1, 0, tc_args 0 tK_388.2.2.1, [], ([], 0), ([], 0))] = true := by decide +kernel
set_option maxRecDepth 100000 in
theorem tT_388 {RO : am_O} {sa : Nat → Nat} : tc_true (aP sa) tp_G RO tp_T tp_Z tK_388 := by
  have hC : ∀ c ∈ tC_388, tc_true (aP sa) tp_G RO tp_T tp_Z c := by
    intro c hc
    have hc : c ∈ ([] : List tc_Ct) := hc
    cases hc
  have hP : ∀ p ∈ tJ_388, ∃ hs, tc_plk (aP sa, tV_388.2) p hs = true := by
    intro p hp
    have hp : p ∈ ([] : List tc_Pl) := hp
    cases hp
  exact tc_main (mt := aM_11.1) (hs := tH_388_0) (PL := tJ_388) ⟨tp_G_ok, tMs_388 _, hC, tp_L_ok, tp_G_re⟩ (show am_meth (aP sa) 11 = some aM_11.1 from rfl) aX_11 (by decide +kernel) hP ((tc_go_sa (aP_sa sa _)).trans ((tf_go_s tHC_388).trans tR_388))
noncomputable def tK_389 : tc_Ct := (171, (4, 2), [(2, ([], 0), 0), (0, ([], 1), 0)], ([([(0, -1)], 303), ([(0, 1)], -3), ([(1, -1)], 640), ([(1, 1)], -8), ([(2, -1)], 255), ([(2, 1)], 0), ([(3, -1)], 255), ([(3, 1)], 0), ([(0, -1), (1, 1)], 0)], [(0, 189), (1, 194)], [(1, ([(1, 1)], 0))], [(0, 0, (2, ([], 0), 1)), (0, 1, (0, ([(0, 1)], 0), 0))], [(1, ([], 1), ([(2, 1)], 0)), (1, ([], 2), ([(3, 1)], 0))], [], [(1024, [0], []), (1016, [], []), (1088, [], [])]), [], [((4, 2), ([([(0, -1)], 303), ([(0, 1)], -3), ([(1, -1)], 640), ([(1, 1)], -8), ([(2, -1)], 255), ([(2, 1)], 0), ([(3, -1)], 255), ([(3, 1)], 0), ([(0, -1), (1, 1)], 0)], [], [(1, ([(1, 1)], 0))], [], [], [], []), some (0, ([(2, 256), (3, 1)], 0), 0), ([], 0), ([], 0))])
noncomputable def tJ_389 : List tc_Pl := []
noncomputable def tC_389 : List tc_Ct := [tK_387, tK_388]
def tM_389 (z : Nat) : Option am_Meth := if z = 11 then some aM_11.1 else none
set_option maxRecDepth 100000 in
theorem tMs_389 (sa : Nat → Nat) : ∀ z mz, tM_389 z = some mz → am_meth (aP sa) z = some mz := by
  intro z mz h
  unfold tM_389 at h
  rcases de_m h with ⟨rfl, rfl⟩ | h
  · exact (show am_meth (aP sa) 11 = some aM_11.1 from rfl)
  cases h
noncomputable def tV_389 : tc_Ev := (aQ, tp_T, tp_G.2, tp_Z, tM_389, tC_389, tp_L, tK_389.2.2.2.2.1, aM_171.1, aW_171, tK_389.2.1, tK_389.2.2.2.2.2, tJ_389)
theorem tE_389 : tK_389.2.2.2.2.2.all (tc_wex tK_389.2.1.1 tK_389.2.1.2) = true := by decide +kernel
theorem tSS_389 : tC_389.all (fun c => tw_mg tK_389.2.2.2.2.1 c.2.2.2.2.1) = true := by decide +kernel
theorem tHC_389 : ∀ c ∈ tC_389, c.2.2.2.2.1.all tK_389.2.2.2.2.1.contains = true ∧ c.2.2.2.2.2.all (tc_wex c.2.1.1 c.2.1.2) = true := tf_hc tSS_389 (by
  intro c hc
  have hc : c ∈ ([tK_387, tK_388] : List tc_Ct) := hc
  rcases List.mem_cons.mp hc with rfl | hc
  · exact tE_387
  rcases List.mem_cons.mp hc with rfl | hc
  · exact tE_388
  cases hc)
noncomputable def tH_389_0 : List tc_It := [de_it 0x4010000, de_it 0x1080101010501010104010101030101010201010101010101000101000000000000000000000000000000010f00020201000201010002000103020000030006, de_it 0x2010000, de_it 0x100ff0401010000000000000100ff0501010200000001, de_it 0x8010000, de_it 0x1080101010701010106010101030101010201010101010101000101000000000000000000000000000000010f00020301000201010002000103020002030006, de_it 0x1060101010701010000000000000100ff050101030010010201, de_it 0x1080101010701010106010101050101010401010103010101020101010101010100010100000000000000000000000000010001110000010007]
set_option maxRecDepth 100000 in
theorem tR_389 : tf_go tV_389 tK_389.2.1.1 tK_389.2.1.2 none tH_389_0 [(tK_389.2.1, tK_389.2.2.2.1, 0, tc_args 0 tK_389.2.2.1, [], ([], 0), ([], 0))] = true := by decide +kernel
set_option maxRecDepth 100000 in
theorem tT_389 {RO : am_O} {sa : Nat → Nat} (h_387 : tc_true (aP sa) tp_G RO tp_T tp_Z tK_387) (h_388 : tc_true (aP sa) tp_G RO tp_T tp_Z tK_388) : tc_true (aP sa) tp_G RO tp_T tp_Z tK_389 := by
  have hC : ∀ c ∈ tC_389, tc_true (aP sa) tp_G RO tp_T tp_Z c := by
    intro c hc
    have hc : c ∈ ([tK_387, tK_388] : List tc_Ct) := hc
    rcases List.mem_cons.mp hc with rfl | hc
    · exact h_387
    rcases List.mem_cons.mp hc with rfl | hc
    · exact h_388
    cases hc
  have hP : ∀ p ∈ tJ_389, ∃ hs, tc_plk (aP sa, tV_389.2) p hs = true := by
    intro p hp
    have hp : p ∈ ([] : List tc_Pl) := hp
    cases hp
  exact tc_main (mt := aM_171.1) (hs := tH_389_0) (PL := tJ_389) ⟨tp_G_ok, tMs_389 _, hC, tp_L_ok, tp_G_re⟩ (show am_meth (aP sa) 171 = some aM_171.1 from rfl) aX_171 (by decide +kernel) hP ((tc_go_sa (aP_sa sa _)).trans ((tf_go_s tHC_389).trans tR_389))
noncomputable def tK_390 : tc_Ct := (11, (3, 2), [(2, ([], 0), 0), (0, ([], 0), 0)], ([([(0, -1)], 303), ([(0, 1)], -3), ([(1, -1)], 640), ([(1, 1)], -8), ([(2, -1)], 255), ([(2, 1)], 0), ([(0, -1), (1, 1)], 0)], [(0, 189), (1, 194)], [(1, ([(1, 1)], 0))], [(0, 0, (2, ([], 0), 1)), (0, 1, (0, ([(0, 1)], 0), 0))], [(1, ([], 0), ([(2, 1)], 0))], [], [(1024, [0], []), (1016, [], []), (1088, [], [])]), [], [((3, 2), ([([(0, -1)], 303), ([(0, 1)], -3), ([(1, -1)], 640), ([(1, 1)], -8), ([(2, -1)], 255), ([(2, 1)], 0), ([(0, -1), (1, 1)], 0)], [], [(1, ([(1, 1)], 0))], [], [], [], []), some (0, ([(2, 1)], 0), 0), ([], 0), ([], 0))])
noncomputable def tJ_390 : List tc_Pl := []
noncomputable def tC_390 : List tc_Ct := []
def tM_390 (z : Nat) : Option am_Meth := none
set_option maxRecDepth 100000 in
theorem tMs_390 (sa : Nat → Nat) : ∀ z mz, tM_390 z = some mz → am_meth (aP sa) z = some mz := fun z mz h => by cases h
noncomputable def tV_390 : tc_Ev := (aQ, tp_T, tp_G.2, tp_Z, tM_390, tC_390, tp_L, tK_390.2.2.2.2.1, aM_11.1, aW_11, tK_390.2.1, tK_390.2.2.2.2.2, tJ_390)
theorem tE_390 : tK_390.2.2.2.2.2.all (tc_wex tK_390.2.1.1 tK_390.2.1.2) = true := by decide +kernel
theorem tSS_390 : tC_390.all (fun c => tw_mg tK_390.2.2.2.2.1 c.2.2.2.2.1) = true := by decide +kernel
theorem tHC_390 : ∀ c ∈ tC_390, c.2.2.2.2.1.all tK_390.2.2.2.2.1.contains = true ∧ c.2.2.2.2.2.all (tc_wex c.2.1.1 c.2.1.2) = true := tf_hc tSS_390 (by
  intro c hc
  have hc : c ∈ ([] : List tc_Ct) := hc
  cases hc)
noncomputable def tH_390_0 : List tc_It := [de_it 0x2010000, de_it 0x10701010300000001, de_it 0x4010000, de_it 0x2, de_it 0x108010102010300000001, de_it 0x2010000, de_it 0x2, de_it 0x2010000, de_it 0x103010100010200000002, de_it 0x2010000, de_it 0x1060101010501010104010101030101010201010101010101000101000000000000000000000000000100010f0000010007]
set_option maxRecDepth 100000 in
theorem tR_390 : tf_go tV_390 tK_390.2.1.1 tK_390.2.1.2 none tH_390_0 [(tK_390.2.1, tK_390.2.2.2.1, 0, tc_args 0 tK_390.2.2.1, [], ([], 0), ([], 0))] = true := by decide +kernel
set_option maxRecDepth 100000 in
theorem tT_390 {RO : am_O} {sa : Nat → Nat} : tc_true (aP sa) tp_G RO tp_T tp_Z tK_390 := by
  have hC : ∀ c ∈ tC_390, tc_true (aP sa) tp_G RO tp_T tp_Z c := by
    intro c hc
    have hc : c ∈ ([] : List tc_Ct) := hc
    cases hc
  have hP : ∀ p ∈ tJ_390, ∃ hs, tc_plk (aP sa, tV_390.2) p hs = true := by
    intro p hp
    have hp : p ∈ ([] : List tc_Pl) := hp
    cases hp
  exact tc_main (mt := aM_11.1) (hs := tH_390_0) (PL := tJ_390) ⟨tp_G_ok, tMs_390 _, hC, tp_L_ok, tp_G_re⟩ (show am_meth (aP sa) 11 = some aM_11.1 from rfl) aX_11 (by decide +kernel) hP ((tc_go_sa (aP_sa sa _)).trans ((tf_go_s tHC_390).trans tR_390))
noncomputable def tK_391 : tc_Ct := (172, (4, 3), [(2, ([], 0), 0)], ([([(0, -1)], 303), ([(0, 1)], -3), ([(1, -1)], 640), ([(1, 1)], -8), ([(2, -1)], 255), ([(2, 1)], 0), ([(3, -1)], 255), ([(3, 1)], 0), ([(0, -1), (1, 1)], 0)], [(0, 171), (1, 189), (2, 194)], [(2, ([(1, 1)], 0))], [(0, 3, (2, ([], 0), 1)), (1, 0, (2, ([], 0), 2)), (1, 1, (0, ([(0, 1)], 0), 0))], [(2, ([], 1), ([(2, 1)], 0)), (2, ([], 2), ([(3, 1)], 0))], [], [(1024, [0], []), (1016, [], []), (984, [], []), (976, [0, 1], []), (1056, [], []), (1088, [], []), (1096, [], [])]), [], [((4, 3), ([([(0, -1)], 303), ([(0, 1)], -3), ([(1, -1)], 640), ([(1, 1)], -8), ([(2, -1)], 1), ([(2, 1)], 0), ([(3, -1)], 255), ([(3, 1)], 0), ([(0, -1), (1, 1)], 0), ([(2, -256), (3, -1)], 300)], [], [(2, ([(1, 1)], 0))], [], [], [], []), some (0, ([], 0), 0), ([], 0), ([], 0)), ((4, 3), ([([(0, -1)], 303), ([(0, 1)], -3), ([(1, -1)], 640), ([(1, 1)], -8), ([(2, -1)], 255), ([(2, 1)], 0), ([(3, -1)], 255), ([(3, 1)], 0), ([(0, -1), (1, 1)], 0)], [], [(2, ([(1, 1)], 0))], [], [], [], []), some (0, ([], 10), 0), ([], 0), ([], 0)), ((4, 3), ([([(0, -1)], 303), ([(0, 1)], -3), ([(1, -1)], 640), ([(1, 1)], -8), ([(2, -1)], 255), ([(2, 1)], -1), ([(3, -1)], 255), ([(3, 1)], 0), ([(0, -1), (1, 1)], 0), ([(2, 256), (3, 1)], -301)], [], [(2, ([(1, 1)], 0))], [], [], [], []), some (0, ([], 22), 0), ([], 0), ([], 0))])
noncomputable def tJ_391 : List tc_Pl := []
noncomputable def tC_391 : List tc_Ct := [tK_390, tK_389]
def tM_391 (z : Nat) : Option am_Meth := if z = 171 then some aM_171.1 else if z = 11 then some aM_11.1 else none
set_option maxRecDepth 100000 in
theorem tMs_391 (sa : Nat → Nat) : ∀ z mz, tM_391 z = some mz → am_meth (aP sa) z = some mz := by
  intro z mz h
  unfold tM_391 at h
  rcases de_m h with ⟨rfl, rfl⟩ | h
  · exact (show am_meth (aP sa) 171 = some aM_171.1 from rfl)
  rcases de_m h with ⟨rfl, rfl⟩ | h
  · exact (show am_meth (aP sa) 11 = some aM_11.1 from rfl)
  cases h
noncomputable def tV_391 : tc_Ev := (aQ, tp_T, tp_G.2, tp_Z, tM_391, tC_391, tp_L, tK_391.2.2.2.2.1, aM_172.1, aW_172, tK_391.2.1, tK_391.2.2.2.2.2, tJ_391)
theorem tE_391 : tK_391.2.2.2.2.2.all (tc_wex tK_391.2.1.1 tK_391.2.1.2) = true := by decide +kernel
theorem tSS_391 : tC_391.all (fun c => tw_mg tK_391.2.2.2.2.1 c.2.2.2.2.1) = true := by decide +kernel
theorem tHC_391 : ∀ c ∈ tC_391, c.2.2.2.2.1.all tK_391.2.2.2.2.1.contains = true ∧ c.2.2.2.2.2.all (tc_wex c.2.1.1 c.2.1.2) = true := tf_hc tSS_391 (by
  intro c hc
  have hc : c ∈ ([tK_390, tK_389] : List tc_Ct) := hc
  rcases List.mem_cons.mp hc with rfl | hc
  · exact tE_390
  rcases List.mem_cons.mp hc with rfl | hc
  · exact tE_389
  cases hc)
noncomputable def tH_391_0 : List tc_It := [de_it 0x2010000, de_it 0x2, de_it 0x2010000, de_it 0x103010100010200000000020400020012, de_it 0xc0002000f, de_it 0x80002000f, de_it 0x20802000f, de_it 0x80002050100020001020408020600000000000000027aff060009, de_it 0x1080101010b0101010c010101030101010201010101010101000101000000000000000000000000000000010f00020401000201010002000103040200030006, de_it 0x6010000, de_it 0x300000001, de_it 0x4010000, de_it 0x8000408020600000000000000027eff060009, de_it 0x1080101010701010106010101050101010401010103010101020101010101010100010100000000000000000000000000010001110002010007, de_it 0x4010000, de_it 0x300000001, de_it 0x2010000, de_it 0x2, de_it 0x2010000, de_it 0x8000408020600000000000000027eff060009, de_it 0x80002050100020001020408020600000000000000027aff060009, de_it 0x1080101010701010106010101050101010401010103010101020101010101010100010100000000000000000000000000000001110002030100020201000201010002000104040202030006, de_it 0x2010000, de_it 0x300000001, de_it 0x2010000, de_it 0x8000408020600000000000000027eff060009, de_it 0x12101010108010101070101010601010105010101070121020000000000000100ff0103010101020101010101010100010100000000000000000000000000010001120000010007, de_it 0x4010000, de_it 0x8000408020600000000000000027eff060009, de_it 0x121010101080101010701010106010101210106020000000000000100ff010401010103010101020101010101010100010100000000000000000000000000010001120004010007, de_it 0x4010000, de_it 0x8000408020600000000000000027eff060009, de_it 0x1080101010701010106010101050101010401010103010101020101010101010100010100000000000000000000000000010001110002010007]
set_option maxRecDepth 100000 in
theorem tR_391 : tf_go tV_391 tK_391.2.1.1 tK_391.2.1.2 none tH_391_0 [(tK_391.2.1, tK_391.2.2.2.1, 0, tc_args 0 tK_391.2.2.1, [], ([], 0), ([], 0))] = true := by decide +kernel
set_option maxRecDepth 100000 in
theorem tT_391 {RO : am_O} {sa : Nat → Nat} (h_389 : tc_true (aP sa) tp_G RO tp_T tp_Z tK_389) (h_390 : tc_true (aP sa) tp_G RO tp_T tp_Z tK_390) : tc_true (aP sa) tp_G RO tp_T tp_Z tK_391 := by
  have hC : ∀ c ∈ tC_391, tc_true (aP sa) tp_G RO tp_T tp_Z c := by
    intro c hc
    have hc : c ∈ ([tK_390, tK_389] : List tc_Ct) := hc
    rcases List.mem_cons.mp hc with rfl | hc
    · exact h_390
    rcases List.mem_cons.mp hc with rfl | hc
    · exact h_389
    cases hc
  have hP : ∀ p ∈ tJ_391, ∃ hs, tc_plk (aP sa, tV_391.2) p hs = true := by
    intro p hp
    have hp : p ∈ ([] : List tc_Pl) := hp
    cases hp
  exact tc_main (mt := aM_172.1) (hs := tH_391_0) (PL := tJ_391) ⟨tp_G_ok, tMs_391 _, hC, tp_L_ok, tp_G_re⟩ (show am_meth (aP sa) 172 = some aM_172.1 from rfl) aX_172 (by decide +kernel) hP ((tc_go_sa (aP_sa sa _)).trans ((tf_go_s tHC_391).trans tR_391))
noncomputable def tK_392 : tc_Ct := (11, (3, 2), [(2, ([], 0), 0), (0, ([(0, 1)], 0), 0)], ([([(0, -1)], 302), ([(0, 1)], 0), ([(1, -1)], 303), ([(1, 1)], -3), ([(2, -1)], 640), ([(2, 1)], -8), ([(0, -1), (1, 1)], -1), ([(0, -1), (2, 1)], -1), ([(1, -1), (2, 1)], 0)], [(0, 189), (1, 194)], [(1, ([(2, 1)], 0))], [(0, 0, (2, ([], 0), 1)), (0, 1, (0, ([(1, 1)], 0), 0))], [], [], [(1024, [0], []), (1016, [], []), (1088, [], [])]), [], [((4, 2), ([([(0, -1)], 302), ([(0, 1)], 0), ([(1, -1)], 303), ([(1, 1)], -3), ([(2, -1)], 640), ([(2, 1)], -8), ([(3, -1)], 255), ([(3, 1)], 0), ([(0, -1), (1, 1)], -1), ([(0, -1), (2, 1)], -1), ([(1, -1), (2, 1)], 0)], [], [(1, ([(2, 1)], 0))], [], [], [], []), some (0, ([(3, 1)], 0), 0), ([], 0), ([], 0))])
noncomputable def tJ_392 : List tc_Pl := []
noncomputable def tC_392 : List tc_Ct := []
def tM_392 (z : Nat) : Option am_Meth := none
set_option maxRecDepth 100000 in
theorem tMs_392 (sa : Nat → Nat) : ∀ z mz, tM_392 z = some mz → am_meth (aP sa) z = some mz := fun z mz h => by cases h
noncomputable def tV_392 : tc_Ev := (aQ, tp_T, tp_G.2, tp_Z, tM_392, tC_392, tp_L, tK_392.2.2.2.2.1, aM_11.1, aW_11, tK_392.2.1, tK_392.2.2.2.2.2, tJ_392)
theorem tE_392 : tK_392.2.2.2.2.2.all (tc_wex tK_392.2.1.1 tK_392.2.1.2) = true := by decide +kernel
theorem tSS_392 : tC_392.all (fun c => tw_mg tK_392.2.2.2.2.1 c.2.2.2.2.1) = true := by decide +kernel
theorem tHC_392 : ∀ c ∈ tC_392, c.2.2.2.2.1.all tK_392.2.2.2.2.1.contains = true ∧ c.2.2.2.2.2.all (tc_wex c.2.1.1 c.2.1.2) = true := tf_hc tSS_392 (by
  intro c hc
  have hc : c ∈ ([] : List tc_Ct) := hc
  cases hc)
noncomputable def tH_392_0 : List tc_It := [de_it 0x2010000, de_it 0x109010102010300000001, de_it 0x4010000, de_it 0x2, de_it 0x10a010602010300000001, de_it 0x2010000, de_it 0x2, de_it 0x2010000, de_it 0x10701010101010102000200010100010002, de_it 0x2010000, de_it 0x10801010107010101060101010d0101010e01010105010101040101010301010102010101010101010001010000000000000000000000000001000113000203010100010007]
set_option maxRecDepth 100000 in
theorem tR_392 : tf_go tV_392 tK_392.2.1.1 tK_392.2.1.2 none tH_392_0 [(tK_392.2.1, tK_392.2.2.2.1, 0, tc_args 0 tK_392.2.2.1, [], ([], 0), ([], 0))] = true := by decide +kernel
set_option maxRecDepth 100000 in
theorem tT_392 {RO : am_O} {sa : Nat → Nat} : tc_true (aP sa) tp_G RO tp_T tp_Z tK_392 := by
  have hC : ∀ c ∈ tC_392, tc_true (aP sa) tp_G RO tp_T tp_Z c := by
    intro c hc
    have hc : c ∈ ([] : List tc_Ct) := hc
    cases hc
  have hP : ∀ p ∈ tJ_392, ∃ hs, tc_plk (aP sa, tV_392.2) p hs = true := by
    intro p hp
    have hp : p ∈ ([] : List tc_Pl) := hp
    cases hp
  exact tc_main (mt := aM_11.1) (hs := tH_392_0) (PL := tJ_392) ⟨tp_G_ok, tMs_392 _, hC, tp_L_ok, tp_G_re⟩ (show am_meth (aP sa) 11 = some aM_11.1 from rfl) aX_11 (by decide +kernel) hP ((tc_go_sa (aP_sa sa _)).trans ((tf_go_s tHC_392).trans tR_392))
noncomputable def tK_393 : tc_Ct := (13, (5, 3), [(2, ([], 0), 0), (2, ([], 0), 1), (0, ([], 3), 0), (0, ([(0, 1)], 0), 0)], ([([(0, -1)], 2), ([(0, 1)], -2), ([(1, -1)], 2502), ([(1, 1)], 0), ([(2, -1)], 640), ([(2, 1)], -8), ([(3, -1)], 6000), ([(3, 1)], -8), ([(4, -1)], 8000000), ([(0, -1), (1, -1), (3, 1)], 2)], [(0, 191), (1, 194), (2, 193)], [(1, ([(2, 1)], 0)), (2, ([(3, 1)], 0))], [(0, 0, (2, ([], 0), 2)), (0, 1, (0, ([(1, 1)], 0), 0))], [], [], [(1024, [0], []), (1136, [], [([(4, 1)], 0)]), (1016, [], []), (1088, [], [])]), [], [((5, 3), ([([(0, -1)], 2), ([(0, 1)], -2), ([(1, -1)], 2502), ([(1, 1)], 0), ([(2, -1)], 640), ([(2, 1)], -8), ([(3, -1)], 6000), ([(3, 1)], -8), ([(4, -1)], 8000000), ([(1, -1), (3, 1)], 0)], [], [(1, ([(2, 1)], 0)), (2, ([(3, 1)], 0))], [], [], [], []), none, ([], 0), ([], 0))])
noncomputable def tJ_393 : List tc_Pl := []
noncomputable def tC_393 : List tc_Ct := []
def tM_393 (z : Nat) : Option am_Meth := none
set_option maxRecDepth 100000 in
theorem tMs_393 (sa : Nat → Nat) : ∀ z mz, tM_393 z = some mz → am_meth (aP sa) z = some mz := fun z mz h => by cases h
noncomputable def tV_393 : tc_Ev := (aQ, tp_T, tp_G.2, tp_Z, tM_393, tC_393, tp_L, tK_393.2.2.2.2.1, aM_13.1, aW_13, tK_393.2.1, tK_393.2.2.2.2.2, tJ_393)
theorem tE_393 : tK_393.2.2.2.2.2.all (tc_wex tK_393.2.1.1 tK_393.2.1.2) = true := by decide +kernel
theorem tSS_393 : tC_393.all (fun c => tw_mg tK_393.2.2.2.2.1 c.2.2.2.2.1) = true := by decide +kernel
theorem tHC_393 : ∀ c ∈ tC_393, c.2.2.2.2.1.all tK_393.2.2.2.2.1.contains = true ∧ c.2.2.2.2.2.all (tc_wex c.2.1.1 c.2.1.2) = true := tf_hc tSS_393 (by
  intro c hc
  have hc : c ∈ ([] : List tc_Ct) := hc
  cases hc)
noncomputable def tH_393_0 : List tc_It := [de_it 0x2010000, de_it 0x10a01010300000001, de_it 0x4010000, de_it 0x2, de_it 0x10b0105010003010300000001, de_it 0x4010000, de_it 0x10c0100020100000300000001, de_it 0x1010109020101080101010701010106010101050101010401010103010101020101010101010100010100000000000000000000000000010001120000010007]
set_option maxRecDepth 100000 in
theorem tR_393 : tf_go tV_393 tK_393.2.1.1 tK_393.2.1.2 none tH_393_0 [(tK_393.2.1, tK_393.2.2.2.1, 0, tc_args 0 tK_393.2.2.1, [], ([], 0), ([], 0))] = true := by decide +kernel
set_option maxRecDepth 100000 in
theorem tT_393 {RO : am_O} {sa : Nat → Nat} : tc_true (aP sa) tp_G RO tp_T tp_Z tK_393 := by
  have hC : ∀ c ∈ tC_393, tc_true (aP sa) tp_G RO tp_T tp_Z c := by
    intro c hc
    have hc : c ∈ ([] : List tc_Ct) := hc
    cases hc
  have hP : ∀ p ∈ tJ_393, ∃ hs, tc_plk (aP sa, tV_393.2) p hs = true := by
    intro p hp
    have hp : p ∈ ([] : List tc_Pl) := hp
    cases hp
  exact tc_main (mt := aM_13.1) (hs := tH_393_0) (PL := tJ_393) ⟨tp_G_ok, tMs_393 _, hC, tp_L_ok, tp_G_re⟩ (show am_meth (aP sa) 13 = some aM_13.1 from rfl) aX_13 (by decide +kernel) hP ((tc_go_sa (aP_sa sa _)).trans ((tf_go_s tHC_393).trans tR_393))
noncomputable def tK_394 : tc_Ct := (13, (5, 3), [(2, ([], 0), 0), (2, ([], 0), 1), (0, ([], 3), 0), (0, ([(0, 1)], 0), 0)], ([([(0, -1)], 303), ([(0, 1)], -3), ([(1, -1)], 2502), ([(1, 1)], 0), ([(2, -1)], 640), ([(2, 1)], -8), ([(3, -1)], 6000), ([(3, 1)], -8), ([(4, -1)], 8000000), ([(0, -1), (2, 1)], 0), ([(0, -1), (1, -1), (3, 1)], 303)], [(0, 191), (1, 194), (2, 193)], [(1, ([(2, 1)], 0)), (2, ([(3, 1)], 0))], [(0, 0, (2, ([], 0), 2)), (0, 1, (0, ([(1, 1)], 0), 0))], [], [], [(1024, [0], []), (1136, [], [([(4, 1)], 0)]), (1016, [], []), (1088, [], [])]), [(191, 0), (191, 1), (193, 0), (193, 1000)], [((9, 3), ([([(0, -1)], 303), ([(0, 1)], -3), ([(1, -1)], 2502), ([(1, 1)], 0), ([(2, -1)], 640), ([(2, 1)], -8), ([(3, -1)], 6000), ([(3, 1)], -8), ([(4, -1)], 8000000), ([(5, -1)], 2802), ([(5, 1)], 0), ([(6, -1)], 1), ([(6, 1)], 0), ([(7, -1)], 5602), ([(7, 1)], 0), ([(8, -1)], 8000000), ([(0, -1), (2, 1)], 0), ([(0, -1), (5, 1)], 3), ([(0, 1), (5, -1)], 2499), ([(1, -1), (3, 1)], 300), ([(1, -1), (5, 1)], 0), ([(1, 1), (5, -1)], 300), ([(3, 1), (5, -1)], 300), ([(6, -16), (7, 1)], 0), ([(0, -1), (1, -1), (3, 1)], 303), ([(0, -1), (1, -1), (5, 1)], 3), ([(0, 1), (1, 1), (5, -1)], -3), ([(4, 1), (7, -1), (8, -1)], 0)], [], [(1, ([(2, 1)], 0)), (2, ([(3, 1)], 0))], [(0, 1, (0, ([(5, 1)], 0), 0))], [], [], [(1024, [0], []), (1136, [], [([(8, 1)], 0)])]), none, ([(6, 1)], 0), ([(7, 1)], 0))])
noncomputable def tJ_394 : List tc_Pl := []
noncomputable def tC_394 : List tc_Ct := [tK_0]
def tM_394 (z : Nat) : Option am_Meth := if z = 8 then some aM_8.1 else none
set_option maxRecDepth 100000 in
theorem tMs_394 (sa : Nat → Nat) : ∀ z mz, tM_394 z = some mz → am_meth (aP sa) z = some mz := by
  intro z mz h
  unfold tM_394 at h
  rcases de_m h with ⟨rfl, rfl⟩ | h
  · exact (show am_meth (aP sa) 8 = some aM_8.1 from rfl)
  cases h
noncomputable def tV_394 : tc_Ev := (aQ, tp_T, tp_G.2, tp_Z, tM_394, tC_394, tp_L, tK_394.2.2.2.2.1, aM_13.1, aW_13, tK_394.2.1, tK_394.2.2.2.2.2, tJ_394)
theorem tE_394 : tK_394.2.2.2.2.2.all (tc_wex tK_394.2.1.1 tK_394.2.1.2) = true := by decide +kernel
theorem tSS_394 : tC_394.all (fun c => tw_mg tK_394.2.2.2.2.1 c.2.2.2.2.1) = true := by decide +kernel
theorem tHC_394 : ∀ c ∈ tC_394, c.2.2.2.2.1.all tK_394.2.2.2.2.1.contains = true ∧ c.2.2.2.2.2.all (tc_wex c.2.1.1 c.2.1.2) = true := tf_hc tSS_394 (by
  intro c hc
  have hc : c ∈ ([tK_0] : List tc_Ct) := hc
  rcases List.mem_cons.mp hc with rfl | hc
  · exact tE_0
  cases hc)
noncomputable def tH_394_0 : List tc_It := [de_it 0x2010000, de_it 0x10b01010300000001, de_it 0x4010000, de_it 0x2, de_it 0x10c010902010300000001, de_it 0x4010000, de_it 0x300000001, de_it 0x101010101010d0101010a010100010101010a0201000100010101010a02010102010102010103010d0201010d0105020101080101000100010001000101030101010201010108010101070101010601010105010101040101010301010102010101010101010d010100000000000000000000000000010001240002040100000000000201010400010007, de_it 0x2010000, de_it 0x2, de_it 0x10010, de_it 0x4010000, de_it 0x1000101010d01010200000001, de_it 0x100010202010103010d02010200000001, de_it 0x2010000, de_it 0x11101020100030100000300000001, de_it 0x2010000, de_it 0x2, de_it 0x2010000, de_it 0x102010002010103010d02010200000001, de_it 0x2010000, de_it 0x102010002010103010d02010200000001, de_it 0x2010000, de_it 0x2, de_it 0x2, de_it 0x300000001, de_it 0x6010000, de_it 0x2, de_it 0x2010000, de_it 0x2, de_it 0x4010000, de_it 0x1000101010d01010200000001, de_it 0x112010101090101000101030101010d01010500000005, de_it 0x4010000, de_it 0x2, de_it 0x4010000, de_it 0x1000101010d01010200000001, de_it 0x102010002010103010d02010200000001, de_it 0x805020102000201000000000000000286ff020009, de_it 0x107010101060101011201010102010002010103010d0201000000000700000003, de_it 0x1000100010112010100010112010101000101010d0101010d011202010102010101030101010901010108010100010001000100010103010d020101020100020101080101010701010106010101050101010401010103010101020101010d010101000101000000000000000000000000000100012400020401000000000502010200020400010007, de_it 0x4010000, de_it 0x2, de_it 0x4010000, de_it 0x2, de_it 0x2, de_it 0x202021202000301020701010200000001, de_it 0x2010000, de_it 0x2, de_it 0x2010000, de_it 0x102010002010107011202010200000001, de_it 0x2010000, de_it 0x102010002010107011202010200000001, de_it 0x200000005, de_it 0x11301070201010a0101010701010113010a0201020701130201020a01130201000000000000000000000000000000000e00020301050201020002020400020006, de_it 0x805020102000200020301000204010306040000000000000002a6ff040009, de_it 0x20701130201020a01130201010e01070113030100000000000000000700000003, de_it 0x6010000, de_it 0x2, de_it 0x2010000, de_it 0x2, de_it 0x4010000, de_it 0x1000101010e0107011303010200000001, de_it 0x101090101000101030101010e0107011303010500000005, de_it 0x4010000, de_it 0x2, de_it 0x4010000, de_it 0x1000101010e0107011303010200000001, de_it 0x20a011302010207011302010200000001, de_it 0x805020102000201000000000000000286ff020009, de_it 0x20701130201020a011302010001020a01130201020701130201000000000700000003, de_it 0x1130101000000000000000000000000000000000906020401010100030c0204040303010300040202010009, de_it 0x100010001010a0101020701130201010a010101000101010e010701130301010e0101010e0113010a030101030101010901010207010801130301020701130201020a0113020100010001020701130201020a0113020101080101010701010113010a0201010e01090107011304010104010101030101010e0113010a0301010e010701130301010001010000000000000000000000000001000124060204010101000305020102000202000502010200020400010007, de_it 0x10701010102011201000301010701010102011201000301020701010202021202000301000000000000000000000000000000000e0002030100040301020400020006, de_it 0x80004030100020301000204010306040000000000000002a6ff040009, de_it 0x115010102020212020003010115020e020200000000000000000700000003, de_it 0x6010000, de_it 0x2, de_it 0x2010000, de_it 0x2, de_it 0x4010000, de_it 0x1000101010d01010200000001, de_it 0x113010101090101000101030101010d01010500000005, de_it 0x4010000, de_it 0x2, de_it 0x4010000, de_it 0x1000101010d01010200000001, de_it 0x102010002010115021202020200000001, de_it 0x805020102000201000000000000000286ff020009, de_it 0x1150101020202120200030101130101010201000201011502120202000000000700000003, de_it 0x100010001010a010101150101010a010101000101010d0101010e0101010201010103010101090101010801150201011501010202021202000301000100010115021202020102010002010108010101150102010201120100030101050101010401010103010101020101010d01010100010100000000000000000000000000010001240002040303020004030102000502010200020400010007]
set_option maxRecDepth 100000 in
theorem tR_394 : tf_go tV_394 tK_394.2.1.1 tK_394.2.1.2 none tH_394_0 [(tK_394.2.1, tK_394.2.2.2.1, 0, tc_args 0 tK_394.2.2.1, [], ([], 0), ([], 0))] = true := by decide +kernel
set_option maxRecDepth 100000 in
theorem tT_394 {RO : am_O} {sa : Nat → Nat} (h_0 : tc_true (aP sa) tp_G RO tp_T tp_Z tK_0) : tc_true (aP sa) tp_G RO tp_T tp_Z tK_394 := by
  have hC : ∀ c ∈ tC_394, tc_true (aP sa) tp_G RO tp_T tp_Z c := by
    intro c hc
    have hc : c ∈ ([tK_0] : List tc_Ct) := hc
    rcases List.mem_cons.mp hc with rfl | hc
    · exact h_0
    cases hc
  have hP : ∀ p ∈ tJ_394, ∃ hs, tc_plk (aP sa, tV_394.2) p hs = true := by
    intro p hp
    have hp : p ∈ ([] : List tc_Pl) := hp
    cases hp
  exact tc_main (mt := aM_13.1) (hs := tH_394_0) (PL := tJ_394) ⟨tp_G_ok, tMs_394 _, hC, tp_L_ok, tp_G_re⟩ (show am_meth (aP sa) 13 = some aM_13.1 from rfl) aX_13 (by decide +kernel) hP ((tc_go_sa (aP_sa sa _)).trans ((tf_go_s tHC_394).trans tR_394))
noncomputable def tK_395 : tc_Ct := (34, (2, 2), [(2, ([], 0), 0), (1, ([], 0), 0), (1, ([], 0), 0), (2, ([], 0), 1), (0, ([], 3), 0), (0, ([(0, 1)], 0), 0)], ([([(0, -1)], 299), ([(0, 1)], -3), ([(1, -1)], 640), ([(1, 1)], -8), ([(0, -1), (1, 1)], -4)], [(0, 167), (1, 194)], [(1, ([(1, 1)], 0))], [], [], [], [(1024, [1], []), (1016, [], []), (1088, [], [])]), [(167, 0), (167, 1), (167, 2), (167, 3), (167, 4), (194, 0)], [((2, 2), ([([(0, -1)], 299), ([(0, 1)], -3), ([(1, -1)], 640), ([(1, 1)], -8), ([(0, -1), (1, 1)], -4)], [], [(1, ([(1, 1)], 0))], [], [], [], [(1024, [1], [])]), none, ([], 0), ([], 0))])
noncomputable def tL_395_0 : tc_Pl := de_pl 0x30d1cff000001020200020000000000030d1cff00030000000000000002020100080000020001000700060000060100000205000000010300000001010000000200071200000000000000000440ff000000000000000003f8ff0001010000000000000400ff03000000000201010101c201a70002000102020002070201010002050202010000000000000256ff0102010f0201010000000000000500ff010101050200010000000000000256ff0100010702010100020f0201010000000000000500ff010101050200010000000000000256ff0100010d0203
noncomputable def tJ_395 : List tc_Pl := [tL_395_0]
noncomputable def tC_395 : List tc_Ct := [tK_11, tK_13]
def tM_395 (z : Nat) : Option am_Meth := if z = 22 then some aM_22.1 else if z = 20 then some aM_20.1 else none
set_option maxRecDepth 100000 in
theorem tMs_395 (sa : Nat → Nat) : ∀ z mz, tM_395 z = some mz → am_meth (aP sa) z = some mz := by
  intro z mz h
  unfold tM_395 at h
  rcases de_m h with ⟨rfl, rfl⟩ | h
  · exact (show am_meth (aP sa) 22 = some aM_22.1 from rfl)
  rcases de_m h with ⟨rfl, rfl⟩ | h
  · exact (show am_meth (aP sa) 20 = some aM_20.1 from rfl)
  cases h
noncomputable def tV_395 : tc_Ev := (aQ, tp_T, tp_G.2, tp_Z, tM_395, tC_395, tp_L, tK_395.2.2.2.2.1, aM_34.1, aW_34, tK_395.2.1, tK_395.2.2.2.2.2, tJ_395)
theorem tE_395 : tK_395.2.2.2.2.2.all (tc_wex tK_395.2.1.1 tK_395.2.1.2) = true := by decide +kernel
theorem tSS_395 : tC_395.all (fun c => tw_mg tK_395.2.2.2.2.1 c.2.2.2.2.1) = true := by decide +kernel
theorem tHC_395 : ∀ c ∈ tC_395, c.2.2.2.2.1.all tK_395.2.2.2.2.1.contains = true ∧ c.2.2.2.2.2.all (tc_wex c.2.1.1 c.2.1.2) = true := tf_hc tSS_395 (by
  intro c hc
  have hc : c ∈ ([tK_11, tK_13] : List tc_Ct) := hc
  rcases List.mem_cons.mp hc with rfl | hc
  · exact tE_11
  rcases List.mem_cons.mp hc with rfl | hc
  · exact tE_13
  cases hc)
noncomputable def tH_395_0 : List tc_It := [de_it 0x2010000, de_it 0x10501010300000001, de_it 0x4010000, de_it 0x2, de_it 0x1060104020100000300000001, de_it 0x4010000, de_it 0x10101010104010100010001010301010102010101010101010001010104010101030101010201010101010101000101000000000000000000000000000100011506000100010008]
set_option maxRecDepth 100000 in
theorem tR_395 : tf_go tV_395 tK_395.2.1.1 tK_395.2.1.2 none tH_395_0 [(tK_395.2.1, tK_395.2.2.2.1, 0, tc_args 0 tK_395.2.2.1, [], ([], 0), ([], 0))] = true := by decide +kernel
noncomputable def tH_395_1 : List tc_It := [de_it 0x4010000, de_it 0x300000001, de_it 0x104010101030101010201010101010101000101000000000000000000000000000100010d0000010007, de_it 0x4010000, de_it 0x10d01000201010a01010200000001, de_it 0x8010000, de_it 0x10e0101000000000300000001, de_it 0x6010000, de_it 0x10d01040201010a010102000202010100010002, de_it 0x2010000, de_it 0x2, de_it 0x6010000, de_it 0x80f0101081001010200000001, de_it 0x8100101080f01010200000001, de_it 0x2010000, de_it 0x101, de_it 0x4010000, de_it 0x1180101011401010117010101130101040010010001, de_it 0x800020701000202010202000000000000029eff020009, de_it 0x11a010101190101010d01040201010a010104000202010100010003, de_it 0x10d01000201010a01010200000001, de_it 0x2010000, de_it 0x10d010101040101010a0101010d010002010103010101020101010a010d020101000101010401010103010101020101010a010d02010100010100000000010d01010001000000010001000115020202010100010008, de_it 0x8010000, de_it 0x101, de_it 0x113010101120101000000000400000003, de_it 0x4010000, de_it 0x101, de_it 0x115010101140101000000000400000003, de_it 0x4010000, de_it 0x101, de_it 0x117010101160101000000000400000003, de_it 0x6010000, de_it 0x10d01000201010a01010200000001, de_it 0x2010000, de_it 0x10a01010100000001, de_it 0x10d011801000308010a01190208000000000400000003, de_it 0x4010000, de_it 0x108000000020006, de_it 0x4010000, de_it 0x8000002020006, de_it 0x400000003, de_it 0x6010000, de_it 0x10d01040201010a010102000202010100010002, de_it 0x2010000, de_it 0x2, de_it 0x6010000, de_it 0x8110101080e01010200000001, de_it 0x80e0101081101010200000001, de_it 0x2010000, de_it 0x101, de_it 0x4010000, de_it 0x1290101012501010128010101240101040010010001, de_it 0x800020f01000202010202000000000000029eff020009, de_it 0x12b0101012a0101010d01040201010a010104000202010100010003, de_it 0x10d01000201010a01010200000001, de_it 0x2010000, de_it 0x10d010101040101010a0101010d010002010103010101020101010a010d020101000101010401010103010101020101010a010d02010100010100000000010d01010001000000010001000115020202010100010008]
set_option maxRecDepth 100000 in
theorem tP_395_0 : tf_plk tV_395 tL_395_0 tH_395_1 = true := by decide +kernel
set_option maxRecDepth 100000 in
theorem tT_395 {RO : am_O} {sa : Nat → Nat} (h_11 : tc_true (aP sa) tp_G RO tp_T tp_Z tK_11) (h_13 : tc_true (aP sa) tp_G RO tp_T tp_Z tK_13) : tc_true (aP sa) tp_G RO tp_T tp_Z tK_395 := by
  have hC : ∀ c ∈ tC_395, tc_true (aP sa) tp_G RO tp_T tp_Z c := by
    intro c hc
    have hc : c ∈ ([tK_11, tK_13] : List tc_Ct) := hc
    rcases List.mem_cons.mp hc with rfl | hc
    · exact h_11
    rcases List.mem_cons.mp hc with rfl | hc
    · exact h_13
    cases hc
  have hP : ∀ p ∈ tJ_395, ∃ hs, tc_plk (aP sa, tV_395.2) p hs = true := by
    intro p hp
    have hp : p ∈ ([tL_395_0] : List tc_Pl) := hp
    rcases List.mem_cons.mp hp with rfl | hp
    · exact ⟨_, (tc_plk_sa (aP_sa sa _)).trans ((tf_plk_s tHC_395).trans tP_395_0)⟩
    cases hp
  exact tc_main (mt := aM_34.1) (hs := tH_395_0) (PL := tJ_395) ⟨tp_G_ok, tMs_395 _, hC, tp_L_ok, tp_G_re⟩ (show am_meth (aP sa) 34 = some aM_34.1 from rfl) aX_34 (by decide +kernel) hP ((tc_go_sa (aP_sa sa _)).trans ((tf_go_s tHC_395).trans tR_395))
noncomputable def tK_396 : tc_Ct := (19, (2, 2), [(2, ([], 0), 0), (2, ([], 0), 1), (0, ([], 0), 0), (0, ([(0, 1)], 0), 0)], ([([(0, -1)], 299), ([(0, 1)], -3), ([(1, -1)], 640), ([(1, 1)], -8), ([(0, -1), (1, 1)], -4)], [(0, 167), (1, 194)], [(1, ([(1, 1)], 0))], [], [], [], []), [(167, 0), (167, 1), (167, 2), (167, 3), (167, 4), (167, 5)], [((2, 2), ([([(0, -1)], 299), ([(0, 1)], -3), ([(1, -1)], 640), ([(1, 1)], -8), ([(0, -1), (1, 1)], -4)], [], [(1, ([(1, 1)], 0))], [], [], [], []), none, ([], 0), ([], 0))])
noncomputable def tL_396_0 : tc_Pl := de_pl 0x30d24ff000001020200020000000000030d24ff00030000000000000002020100040000020001000301000002010000000200040e00000000000201010101c201a70002000102020002070201010002000202010000000000000256ff0102010f0201010000000000000500ff010101050200010000000000000256ff0100010702010100020f0201010000000000000500ff010101050200010000000000000256ff0100010d0203
noncomputable def tJ_396 : List tc_Pl := [tL_396_0]
noncomputable def tC_396 : List tc_Ct := [tK_11]
def tM_396 (z : Nat) : Option am_Meth := if z = 20 then some aM_20.1 else none
set_option maxRecDepth 100000 in
theorem tMs_396 (sa : Nat → Nat) : ∀ z mz, tM_396 z = some mz → am_meth (aP sa) z = some mz := by
  intro z mz h
  unfold tM_396 at h
  rcases de_m h with ⟨rfl, rfl⟩ | h
  · exact (show am_meth (aP sa) 20 = some aM_20.1 from rfl)
  cases h
noncomputable def tV_396 : tc_Ev := (aQ, tp_T, tp_G.2, tp_Z, tM_396, tC_396, tp_L, tK_396.2.2.2.2.1, aM_19.1, aW_19, tK_396.2.1, tK_396.2.2.2.2.2, tJ_396)
theorem tE_396 : tK_396.2.2.2.2.2.all (tc_wex tK_396.2.1.1 tK_396.2.1.2) = true := by decide +kernel
theorem tSS_396 : tC_396.all (fun c => tw_mg tK_396.2.2.2.2.1 c.2.2.2.2.1) = true := by decide +kernel
theorem tHC_396 : ∀ c ∈ tC_396, c.2.2.2.2.1.all tK_396.2.2.2.2.1.contains = true ∧ c.2.2.2.2.2.all (tc_wex c.2.1.1 c.2.1.2) = true := tf_hc tSS_396 (by
  intro c hc
  have hc : c ∈ ([tK_11] : List tc_Ct) := hc
  rcases List.mem_cons.mp hc with rfl | hc
  · exact tE_11
  cases hc)
noncomputable def tH_396_0 : List tc_It := [de_it 0x2010000, de_it 0x10501010300000001, de_it 0x4010000, de_it 0x2, de_it 0x1060104020100000300000001, de_it 0x4010000, de_it 0x10101010104010100010001010301010102010101010101010001010104010101030101010201010101010101000101000000000000000000000000000100011500000100010008]
set_option maxRecDepth 100000 in
theorem tR_396 : tf_go tV_396 tK_396.2.1.1 tK_396.2.1.2 none tH_396_0 [(tK_396.2.1, tK_396.2.2.2.1, 0, tc_args 0 tK_396.2.2.1, [], ([], 0), ([], 0))] = true := by decide +kernel
noncomputable def tH_396_1 : List tc_It := [de_it 0x4010000, de_it 0x300000001, de_it 0x104010101030101010201010101010101000101000000000000000000000000000100010d0000010007, de_it 0x4010000, de_it 0x2, de_it 0x8010000, de_it 0x10d01040201010a010102000202010100010002, de_it 0x4010000, de_it 0x400000003, de_it 0x4010000, de_it 0x2, de_it 0x2010000, de_it 0x101, de_it 0x115010101140101000000000400000003, de_it 0x2010000, de_it 0x2, de_it 0x4010000, de_it 0x1160101000000000300000001, de_it 0x10d01000201010a01010200000001, de_it 0x2010000, de_it 0x10d010101040101010a0101010d0100020101030101010201010101010101000101010401010103010101020101010101010100010100000000010d01010001000000010001000115020202010100010008, de_it 0x4010000, de_it 0x2, de_it 0x108000000020006, de_it 0x10d01000201010a01010200000001, de_it 0x2010000, de_it 0x10d010101040101010a0101010d0100020101030101010201010101010101000101010401010103010101020101010101010100010100000000010d01010001000000010001000115020202010100010008]
set_option maxRecDepth 100000 in
theorem tP_396_0 : tf_plk tV_396 tL_396_0 tH_396_1 = true := by decide +kernel
set_option maxRecDepth 100000 in
theorem tT_396 {RO : am_O} {sa : Nat → Nat} (h_11 : tc_true (aP sa) tp_G RO tp_T tp_Z tK_11) : tc_true (aP sa) tp_G RO tp_T tp_Z tK_396 := by
  have hC : ∀ c ∈ tC_396, tc_true (aP sa) tp_G RO tp_T tp_Z c := by
    intro c hc
    have hc : c ∈ ([tK_11] : List tc_Ct) := hc
    rcases List.mem_cons.mp hc with rfl | hc
    · exact h_11
    cases hc
  have hP : ∀ p ∈ tJ_396, ∃ hs, tc_plk (aP sa, tV_396.2) p hs = true := by
    intro p hp
    have hp : p ∈ ([tL_396_0] : List tc_Pl) := hp
    rcases List.mem_cons.mp hp with rfl | hp
    · exact ⟨_, (tc_plk_sa (aP_sa sa _)).trans ((tf_plk_s tHC_396).trans tP_396_0)⟩
    cases hp
  exact tc_main (mt := aM_19.1) (hs := tH_396_0) (PL := tJ_396) ⟨tp_G_ok, tMs_396 _, hC, tp_L_ok, tp_G_re⟩ (show am_meth (aP sa) 19 = some aM_19.1 from rfl) aX_19 (by decide +kernel) hP ((tc_go_sa (aP_sa sa _)).trans ((tf_go_s tHC_396).trans tR_396))
noncomputable def tK_397 : tc_Ct := (35, (4, 3), [(2, ([], 0), 0), (0, ([(0, 1)], 0), 0), (1, ([], 0), 0), (2, ([], 0), 1), (0, ([], 3), 0), (0, ([(1, 1)], 0), 0)], ([([(0, -1)], 1), ([(0, 1)], 0), ([(1, -1)], 299), ([(1, 1)], -3), ([(2, -1)], 303), ([(2, 1)], -8), ([(3, -1)], 640), ([(3, 1)], -8), ([(1, -1), (2, 1)], -4), ([(1, -1), (3, 1)], -4), ([(1, 1), (2, -1)], 8), ([(2, -1), (3, 1)], 0)], [(0, 167), (1, 189), (2, 194)], [(2, ([(3, 1)], 0))], [(1, 0, (2, ([], 0), 2)), (1, 1, (0, ([(2, 1)], 0), 0))], [], [], [(1024, [1], []), (1016, [], []), (1088, [], [])]), [(167, 0), (167, 1), (167, 2), (167, 3), (167, 4), (167, 5)], [((8, 3), ([([(0, -1)], 1), ([(0, 1)], 0), ([(1, -1)], 299), ([(1, 1)], -3), ([(2, -1)], 303), ([(2, 1)], -8), ([(3, -1)], 640), ([(3, 1)], -8), ([(4, -1)], 2147483647), ([(4, 1)], 2147483648), ([(5, -1)], 2147483647), ([(5, 1)], 2147483648), ([(6, -1)], 2147483647), ([(6, 1)], 2147483648), ([(7, -1)], 2147483647), ([(7, 1)], 2147483648), ([(1, -1), (2, 1)], -4), ([(1, -1), (3, 1)], -4), ([(1, 1), (2, -1)], 8), ([(2, -1), (3, 1)], 0)], [], [(2, ([(3, 1)], 0))], [(0, 0, (0, ([(4, 1)], 0), 0)), (0, 1, (0, ([(5, 1)], 0), 0)), (0, 2, (0, ([(6, 1)], 0), 0)), (0, 3, (0, ([(7, 1)], 0), 0)), (0, 5, (0, ([], 0), 0))], [], [], []), some (1, ([], 0), 0), ([], 0), ([], 0))])
noncomputable def tL_397_0 : tc_Pl := de_pl 0x30d14ff000402040100020000000000030d14ff000300000000000000020401000700060000050000000102000002000100010000000200051600000000000000000440ff000000000000000003f8ff0001010000000000000400ff030000000002020100010102000002000102000203010201c202bd01a7000300020301020210010202010207020301010207020201010210020401300104010f0203010000000000000500ff0103010f020201000000000000025eff010201050201010000000000000256ff01010100020001020100010002030102021001020201020702030101020702020101020f0203010000000000000500ff0103010f020201000000000000025eff010201050201010000000000000256ff01010100020001020100011a0305
noncomputable def tJ_397 : List tc_Pl := [tL_397_0]
noncomputable def tC_397 : List tc_Ct := [tK_18, tK_396, tK_14, tK_19, tK_22]
def tM_397 (z : Nat) : Option am_Meth := if z = 30 then some aM_30.1 else if z = 27 then some aM_27.1 else if z = 26 then some aM_26.1 else if z = 21 then some aM_21.1 else if z = 19 then some aM_19.1 else none
set_option maxRecDepth 100000 in
theorem tMs_397 (sa : Nat → Nat) : ∀ z mz, tM_397 z = some mz → am_meth (aP sa) z = some mz := by
  intro z mz h
  unfold tM_397 at h
  rcases de_m h with ⟨rfl, rfl⟩ | h
  · exact (show am_meth (aP sa) 30 = some aM_30.1 from rfl)
  rcases de_m h with ⟨rfl, rfl⟩ | h
  · exact (show am_meth (aP sa) 27 = some aM_27.1 from rfl)
  rcases de_m h with ⟨rfl, rfl⟩ | h
  · exact (show am_meth (aP sa) 26 = some aM_26.1 from rfl)
  rcases de_m h with ⟨rfl, rfl⟩ | h
  · exact (show am_meth (aP sa) 21 = some aM_21.1 from rfl)
  rcases de_m h with ⟨rfl, rfl⟩ | h
  · exact (show am_meth (aP sa) 19 = some aM_19.1 from rfl)
  cases h
noncomputable def tV_397 : tc_Ev := (aQ, tp_T, tp_G.2, tp_Z, tM_397, tC_397, tp_L, tK_397.2.2.2.2.1, aM_35.1, aW_35, tK_397.2.1, tK_397.2.2.2.2.2, tJ_397)
theorem tE_397 : tK_397.2.2.2.2.2.all (tc_wex tK_397.2.1.1 tK_397.2.1.2) = true := by decide +kernel
theorem tSS_397 : tC_397.all (fun c => tw_mg tK_397.2.2.2.2.1 c.2.2.2.2.1) = true := by decide +kernel
theorem tHC_397 : ∀ c ∈ tC_397, c.2.2.2.2.1.all tK_397.2.2.2.2.1.contains = true ∧ c.2.2.2.2.2.all (tc_wex c.2.1.1 c.2.1.2) = true := tf_hc tSS_397 (by
  intro c hc
  have hc : c ∈ ([tK_18, tK_396, tK_14, tK_19, tK_22] : List tc_Ct) := hc
  rcases List.mem_cons.mp hc with rfl | hc
  · exact tE_18
  rcases List.mem_cons.mp hc with rfl | hc
  · exact tE_396
  rcases List.mem_cons.mp hc with rfl | hc
  · exact tE_14
  rcases List.mem_cons.mp hc with rfl | hc
  · exact tE_19
  rcases List.mem_cons.mp hc with rfl | hc
  · exact tE_22
  cases hc)
noncomputable def tH_397_0 : List tc_It := [de_it 0x6010000, de_it 0x101010101000101000000000000000000000000000000020a00020001010000020006, de_it 0x4010000, de_it 0x2, de_it 0x4010000, de_it 0x109010101070101010601010103010101020101000000000000000000000000000000030d000203010002010102040002030006, de_it 0x4010000, de_it 0x10b0101010a01010109010101080101000100010107010101060101010501010104010101030101010201010101010101000101010b0101010a010101090101010801010107010101060101010501010104010101030101010201010101010101000101000000000000000000000000000100012230000100010008]
set_option maxRecDepth 100000 in
theorem tR_397 : tf_go tV_397 tK_397.2.1.1 tK_397.2.1.2 none tH_397_0 [(tK_397.2.1, tK_397.2.2.2.1, 0, tc_args 0 tK_397.2.2.1, [], ([], 0), ([], 0))] = true := by decide +kernel
noncomputable def tH_397_1 : List tc_It := [de_it 0x2010000, de_it 0x300000001, de_it 0x8010000, de_it 0x8000004020006, de_it 0x101010101000101000000000000000000000000000000030a00020001010006020006, de_it 0x58565452504e4c4a342a161412100e0c0a080604020016000d, de_it 0x10b0101010a01010109010101080101011501010114010101130101011201010111010101100101010f0101010e01010107010101060101010501010104010101030101010201010101010101000101000000000000000000000000000100011c00020c0100020b0100020a01000209010400010007, de_it 0x6010000, de_it 0x101, de_it 0x11b0101011c0101000000000000000000000000000000010a00020501010008020006, de_it 0x1140101011a01010200000001, de_it 0x2010000, de_it 0x10b0101010a01010109010101080101011a0101011401010107010101060101010501010104010101030101010201010101010101000101010b0101010a01010109010101080101010701010106010101050101010401010103010101020101010101010100010100000000011a0100020100010000000100010001220f0204010100010008]
set_option maxRecDepth 100000 in
theorem tP_397_0 : tf_plk tV_397 tL_397_0 tH_397_1 = true := by decide +kernel
set_option maxRecDepth 100000 in
theorem tT_397 {RO : am_O} {sa : Nat → Nat} (h_14 : tc_true (aP sa) tp_G RO tp_T tp_Z tK_14) (h_18 : tc_true (aP sa) tp_G RO tp_T tp_Z tK_18) (h_19 : tc_true (aP sa) tp_G RO tp_T tp_Z tK_19) (h_22 : tc_true (aP sa) tp_G RO tp_T tp_Z tK_22) (h_396 : tc_true (aP sa) tp_G RO tp_T tp_Z tK_396) : tc_true (aP sa) tp_G RO tp_T tp_Z tK_397 := by
  have hC : ∀ c ∈ tC_397, tc_true (aP sa) tp_G RO tp_T tp_Z c := by
    intro c hc
    have hc : c ∈ ([tK_18, tK_396, tK_14, tK_19, tK_22] : List tc_Ct) := hc
    rcases List.mem_cons.mp hc with rfl | hc
    · exact h_18
    rcases List.mem_cons.mp hc with rfl | hc
    · exact h_396
    rcases List.mem_cons.mp hc with rfl | hc
    · exact h_14
    rcases List.mem_cons.mp hc with rfl | hc
    · exact h_19
    rcases List.mem_cons.mp hc with rfl | hc
    · exact h_22
    cases hc
  have hP : ∀ p ∈ tJ_397, ∃ hs, tc_plk (aP sa, tV_397.2) p hs = true := by
    intro p hp
    have hp : p ∈ ([tL_397_0] : List tc_Pl) := hp
    rcases List.mem_cons.mp hp with rfl | hp
    · exact ⟨_, (tc_plk_sa (aP_sa sa _)).trans ((tf_plk_s tHC_397).trans tP_397_0)⟩
    cases hp
  exact tc_main (mt := aM_35.1) (hs := tH_397_0) (PL := tJ_397) ⟨tp_G_ok, tMs_397 _, hC, tp_L_ok, tp_G_re⟩ (show am_meth (aP sa) 35 = some aM_35.1 from rfl) aX_35 (by decide +kernel) hP ((tc_go_sa (aP_sa sa _)).trans ((tf_go_s tHC_397).trans tR_397))
noncomputable def tK_398 : tc_Ct := (39, (3, 3), [(2, ([], 0), 0), (0, ([(0, 1)], 0), 0), (1, ([], 0), 0), (1, ([], 0), 0), (2, ([], 0), 1), (0, ([], 3), 0)], ([([(0, -1)], 2147483647), ([(0, 1)], 2147483648), ([(1, -1)], 303), ([(1, 1)], -8), ([(2, -1)], 640), ([(2, 1)], -8), ([(1, -1), (2, 1)], 0)], [(0, 167), (1, 189), (2, 194)], [(2, ([(2, 1)], 0))], [(1, 0, (2, ([], 0), 2)), (1, 1, (0, ([(1, 1)], 0), 0))], [], [], [(1024, [1], []), (1016, [], []), (1088, [], [])]), [(167, 0), (167, 1), (167, 2), (167, 3), (167, 4), (167, 5), (189, 1), (194, 0)], [((3, 3), ([([(0, -1)], 2147483647), ([(0, 1)], 2147483648), ([(1, -1)], 303), ([(1, 1)], -8), ([(2, -1)], 640), ([(2, 1)], -8), ([(1, -1), (2, 1)], 0)], [], [(2, ([(2, 1)], 0))], [(1, 1, (0, ([(1, 1)], 0), 0))], [], [], [(1024, [1], [])]), some (0, ([], 0), 0), ([], 0), ([], 0)), ((4, 3), ([([(0, -1)], 2147483647), ([(0, 1)], 2147483648), ([(1, -1)], 303), ([(1, 1)], -8), ([(2, -1)], 640), ([(2, 1)], -8), ([(3, -1)], 299), ([(3, 1)], -3), ([(1, -1), (2, 1)], 0), ([(1, -1), (3, 1)], 8), ([(1, 1), (3, -1)], -4)], [], [(2, ([(2, 1)], 0))], [(0, 5, (0, ([], 0), 0)), (1, 1, (0, ([(3, 1)], 0), 0))], [], [], [(1024, [1], []), (1008, [1, 2], [])]), some (0, ([], 1), 0), ([], 0), ([], 0))])
noncomputable def tL_398_0 : tc_Pl := de_pl 0x30cc0ff000001040203020000000000030cc0ff000300000000000000020401000d000000010b0000010302010200090000020301000800060000070100000206000000010400000001020000000200094000000000000000000440ff000000000000000003f8ff0001010000000000000400ff0300000000020101000101020000020001000000000500000002080100030000000207010002000000020601000100000002050100000007000202010201c202bd01a700030001040203020501040201020501030201020002020101020000000100000000ff02080100000000fffffffeff0108010000000100000000ff02070100000000fffffffeff0107010000000100000000ff02060100000000fffffffeff0106010000000100000000ff02050100000000fffffffeff010501000204011001040107020301100103010f0202010000000000000500ff0102010f020101000000000000025eff0101010000000100000000ff02000100000000fffffffeff0100010002020101020f0202010000000000000500ff0102010f020101000000000000025eff0101010000000100000000ff02000100000000fffffffeff0100011d0309
noncomputable def tJ_398 : List tc_Pl := [tL_398_0]
noncomputable def tC_398 : List tc_Ct := [tK_31, tK_28, tK_24, tK_397, tK_395, tK_392]
def tM_398 (z : Nat) : Option am_Meth := if z = 36 then some aM_36.1 else if z = 35 then some aM_35.1 else if z = 34 then some aM_34.1 else if z = 33 then some aM_33.1 else if z = 29 then some aM_29.1 else if z = 11 then some aM_11.1 else none
set_option maxRecDepth 100000 in
theorem tMs_398 (sa : Nat → Nat) : ∀ z mz, tM_398 z = some mz → am_meth (aP sa) z = some mz := by
  intro z mz h
  unfold tM_398 at h
  rcases de_m h with ⟨rfl, rfl⟩ | h
  · exact (show am_meth (aP sa) 36 = some aM_36.1 from rfl)
  rcases de_m h with ⟨rfl, rfl⟩ | h
  · exact (show am_meth (aP sa) 35 = some aM_35.1 from rfl)
  rcases de_m h with ⟨rfl, rfl⟩ | h
  · exact (show am_meth (aP sa) 34 = some aM_34.1 from rfl)
  rcases de_m h with ⟨rfl, rfl⟩ | h
  · exact (show am_meth (aP sa) 33 = some aM_33.1 from rfl)
  rcases de_m h with ⟨rfl, rfl⟩ | h
  · exact (show am_meth (aP sa) 29 = some aM_29.1 from rfl)
  rcases de_m h with ⟨rfl, rfl⟩ | h
  · exact (show am_meth (aP sa) 11 = some aM_11.1 from rfl)
  cases h
noncomputable def tV_398 : tc_Ev := (aQ, tp_T, tp_G.2, tp_Z, tM_398, tC_398, tp_L, tK_398.2.2.2.2.1, aM_39.1, aW_39, tK_398.2.1, tK_398.2.2.2.2.2, tJ_398)
theorem tE_398 : tK_398.2.2.2.2.2.all (tc_wex tK_398.2.1.1 tK_398.2.1.2) = true := by decide +kernel
theorem tSS_398 : tC_398.all (fun c => tw_mg tK_398.2.2.2.2.1 c.2.2.2.2.1) = true := by decide +kernel
theorem tHC_398 : ∀ c ∈ tC_398, c.2.2.2.2.1.all tK_398.2.2.2.2.1.contains = true ∧ c.2.2.2.2.2.all (tc_wex c.2.1.1 c.2.1.2) = true := tf_hc tSS_398 (by
  intro c hc
  have hc : c ∈ ([tK_31, tK_28, tK_24, tK_397, tK_395, tK_392] : List tc_Ct) := hc
  rcases List.mem_cons.mp hc with rfl | hc
  · exact tE_31
  rcases List.mem_cons.mp hc with rfl | hc
  · exact tE_28
  rcases List.mem_cons.mp hc with rfl | hc
  · exact tE_24
  rcases List.mem_cons.mp hc with rfl | hc
  · exact tE_397
  rcases List.mem_cons.mp hc with rfl | hc
  · exact tE_395
  rcases List.mem_cons.mp hc with rfl | hc
  · exact tE_392
  cases hc)
noncomputable def tH_398_0 : List tc_It := [de_it 0x2010000, de_it 0x101010101000101000000000000000000000000000000000a000200010100010006, de_it 0x4010000, de_it 0x2, de_it 0x2010000, de_it 0x10a010202010109010302010200000001, de_it 0x4010000, de_it 0x10b01010300000001, de_it 0x4010000, de_it 0x300000001, de_it 0x2010000, de_it 0x101010101000101000000000000000000000000000000000a000200010102010006, de_it 0x10010000, de_it 0x1000101100101010f0101000000000000000000000000000000040ce80000020401020004020006, de_it 0x6010000, de_it 0x106010101090101010a01060201010a010101050101010401010103010101020101010c0101010a0102020101100101010f010100000000000000000000000000000005140002020100020101000103020102000204010404020006040006, de_it 0x5c58565452504e4c4a3e201e1814120c0a080604020016000d, de_it 0x6010000, de_it 0x10801010103010101090101010601010114010101130101011201010111010101100101010f0101010e0101010d010100010001010801010107010101050101010401010103010101020101010101010100010101060101010501010104010101030101010201010101010101000101000000000000000000000000000100012500020c0100020b0100020a01000209010000000203010600010008, de_it 0x2010000, de_it 0x1060101010501010104010101030101010c010902010101010101000101000000000000000000010001000100010f0000010007]
set_option maxRecDepth 100000 in
theorem tR_398 : tf_go tV_398 tK_398.2.1.1 tK_398.2.1.2 none tH_398_0 [(tK_398.2.1, tK_398.2.2.2.1, 0, tc_args 0 tK_398.2.2.1, [], ([], 0), ([], 0))] = true := by decide +kernel
noncomputable def tH_398_1 : List tc_It := [de_it 0x4010000, de_it 0x300000001, de_it 0x4010000, de_it 0x800010302010201020000000000000286ff020009, de_it 0x105010101040101010e01060201010e01020201011a0101000000000700000003, de_it 0x8010000, de_it 0x2, de_it 0x4010000, de_it 0x80004020000000000000280ff030009, de_it 0x10e010602010105010101040101011a0101010e01020201000000000000000000000000000000050d0002020100010302010202040008030006, de_it 0x2010000, de_it 0x80004020000000000000282ff030009, de_it 0x80004020000000000000284ff030009, de_it 0x80004020000000000000220ff030009, de_it 0x10e0101010d010101060101011a0101011e010101050101010401010103010101020101010101010100010100000000000000000001000100010001130001030201020102010007, de_it 0x6010000, de_it 0x11d010202010110011a02010200000001, de_it 0x1060101011d01060201011d0101010501010104010101030101010201010110011a0201011d010202010000000000000000000000000000000111000202010002010100020401030201030304020a030006, de_it 0x4e4a483e3c3a3634302e2c2a28262422201e1c1a0c0a08060402001b000d, de_it 0x8010000, de_it 0x80708150201080a01010200000001, de_it 0x80a01010807081502010200000001, de_it 0x2010000, de_it 0x101, de_it 0x4010000, de_it 0x300000001, de_it 0x10701150201010a01010200000001, de_it 0x2010000, de_it 0x11501010115011302010113010101060101011201010111010101100101010f0101010e0101010d0101010c0101010b0101010a0101010701150201010801010107010101050101010401010103010101020101010101010100010101060101010501010104010101030101010201010101010101000101000000000115010100010000000100010001250002080100020701000206010002050102020401000203010600010008, de_it 0x2010000, de_it 0x1060101010501010104010101030101010201010101010101000101000000000000000000010001000100010f0000010007]
set_option maxRecDepth 100000 in
theorem tP_398_0 : tf_plk tV_398 tL_398_0 tH_398_1 = true := by decide +kernel
set_option maxRecDepth 100000 in
theorem tT_398 {RO : am_O} {sa : Nat → Nat} (h_24 : tc_true (aP sa) tp_G RO tp_T tp_Z tK_24) (h_28 : tc_true (aP sa) tp_G RO tp_T tp_Z tK_28) (h_31 : tc_true (aP sa) tp_G RO tp_T tp_Z tK_31) (h_392 : tc_true (aP sa) tp_G RO tp_T tp_Z tK_392) (h_395 : tc_true (aP sa) tp_G RO tp_T tp_Z tK_395) (h_397 : tc_true (aP sa) tp_G RO tp_T tp_Z tK_397) : tc_true (aP sa) tp_G RO tp_T tp_Z tK_398 := by
  have hC : ∀ c ∈ tC_398, tc_true (aP sa) tp_G RO tp_T tp_Z c := by
    intro c hc
    have hc : c ∈ ([tK_31, tK_28, tK_24, tK_397, tK_395, tK_392] : List tc_Ct) := hc
    rcases List.mem_cons.mp hc with rfl | hc
    · exact h_31
    rcases List.mem_cons.mp hc with rfl | hc
    · exact h_28
    rcases List.mem_cons.mp hc with rfl | hc
    · exact h_24
    rcases List.mem_cons.mp hc with rfl | hc
    · exact h_397
    rcases List.mem_cons.mp hc with rfl | hc
    · exact h_395
    rcases List.mem_cons.mp hc with rfl | hc
    · exact h_392
    cases hc
  have hP : ∀ p ∈ tJ_398, ∃ hs, tc_plk (aP sa, tV_398.2) p hs = true := by
    intro p hp
    have hp : p ∈ ([tL_398_0] : List tc_Pl) := hp
    rcases List.mem_cons.mp hp with rfl | hp
    · exact ⟨_, (tc_plk_sa (aP_sa sa _)).trans ((tf_plk_s tHC_398).trans tP_398_0)⟩
    cases hp
  exact tc_main (mt := aM_39.1) (hs := tH_398_0) (PL := tJ_398) ⟨tp_G_ok, tMs_398 _, hC, tp_L_ok, tp_G_re⟩ (show am_meth (aP sa) 39 = some aM_39.1 from rfl) aX_39 (by decide +kernel) hP ((tc_go_sa (aP_sa sa _)).trans ((tf_go_s tHC_398).trans tR_398))
noncomputable def tK_399 : tc_Ct := (174, (2, 4), [(2, ([], 0), 0)], ([([(0, -1)], 303), ([(0, 1)], -4), ([(1, -1)], 640), ([(1, 1)], -8), ([(0, -1), (1, 1)], 0)], [(0, 171), (1, 166), (2, 189), (3, 194)], [(3, ([(1, 1)], 0))], [(0, 0, (2, ([], 0), 1)), (0, 3, (2, ([], 0), 2)), (2, 0, (2, ([], 0), 3)), (2, 1, (0, ([(0, 1)], 0), 0))], [], [], [(1024, [0], []), (1016, [], []), (984, [], []), (976, [0, 2], []), (968, [], []), (1040, [], []), (1056, [], []), (1088, [], []), (1096, [], []), (568, [1], [])]), [(167, 0), (167, 1), (167, 2), (167, 3), (167, 4), (167, 5), (189, 1), (194, 0)], [((2, 4), ([([(0, -1)], 303), ([(0, 1)], -4), ([(1, -1)], 640), ([(1, 1)], -8), ([(0, -1), (1, 1)], 0)], [], [(3, ([(1, 1)], 0))], [(2, 1, (0, ([(0, 1)], 0), 0))], [], [], [(1024, [0], [])]), some (0, ([], 0), 0), ([], 0), ([], 0)), ((3, 4), ([([(0, -1)], 303), ([(0, 1)], -8), ([(1, -1)], 640), ([(1, 1)], -8), ([(2, -1)], 299), ([(2, 1)], -3), ([(0, -1), (1, 1)], 0), ([(0, -1), (2, 1)], 8), ([(0, 1), (2, -1)], -4)], [], [(3, ([(1, 1)], 0))], [(2, 1, (0, ([(2, 1)], 0), 0))], [], [], [(1024, [0], []), (1008, [2, 3], [])]), some (0, ([], 1), 0), ([], 0), ([], 0))])
noncomputable def tJ_399 : List tc_Pl := []
noncomputable def tC_399 : List tc_Ct := [tK_31, tK_398]
def tM_399 (z : Nat) : Option am_Meth := if z = 39 then some aM_39.1 else if z = 36 then some aM_36.1 else none
set_option maxRecDepth 100000 in
theorem tMs_399 (sa : Nat → Nat) : ∀ z mz, tM_399 z = some mz → am_meth (aP sa) z = some mz := by
  intro z mz h
  unfold tM_399 at h
  rcases de_m h with ⟨rfl, rfl⟩ | h
  · exact (show am_meth (aP sa) 39 = some aM_39.1 from rfl)
  rcases de_m h with ⟨rfl, rfl⟩ | h
  · exact (show am_meth (aP sa) 36 = some aM_36.1 from rfl)
  cases h
noncomputable def tV_399 : tc_Ev := (aQ, tp_T, tp_G.2, tp_Z, tM_399, tC_399, tp_L, tK_399.2.2.2.2.1, aM_174.1, aW_174, tK_399.2.1, tK_399.2.2.2.2.2, tJ_399)
theorem tE_399 : tK_399.2.2.2.2.2.all (tc_wex tK_399.2.1.1 tK_399.2.1.2) = true := by decide +kernel
theorem tSS_399 : tC_399.all (fun c => tw_mg tK_399.2.2.2.2.1 c.2.2.2.2.1) = true := by decide +kernel
theorem tHC_399 : ∀ c ∈ tC_399, c.2.2.2.2.1.all tK_399.2.2.2.2.1.contains = true ∧ c.2.2.2.2.2.all (tc_wex c.2.1.1 c.2.1.2) = true := tf_hc tSS_399 (by
  intro c hc
  have hc : c ∈ ([tK_31, tK_398] : List tc_Ct) := hc
  rcases List.mem_cons.mp hc with rfl | hc
  · exact tE_31
  rcases List.mem_cons.mp hc with rfl | hc
  · exact tE_398
  cases hc)
noncomputable def tH_399_0 : List tc_It := [de_it 0x2010000, de_it 0x2, de_it 0x2010000, de_it 0x8010011, de_it 0x105010100010200000102010002, de_it 0x4010000, de_it 0x2, de_it 0x2, de_it 0x2010000, de_it 0x1000101010101010200000001, de_it 0x2010000, de_it 0x107010101080101000000000000000000000000000000000a000203010100010006, de_it 0x300000001, de_it 0x2010000, de_it 0x1040101010301010102010101010101010f010d0201000000000000000000010001000100010d0000010007, de_it 0x2010000, de_it 0x2, de_it 0x2, de_it 0x4010000, de_it 0x2, de_it 0x2010000, de_it 0xc010011, de_it 0x110010100010200000002, de_it 0x2010000, de_it 0x2, de_it 0x2010000, de_it 0x105010100010200000116010002, de_it 0x4010000, de_it 0x2, de_it 0x2010000, de_it 0x80002000f, de_it 0x20e02000f, de_it 0x8000207010002000102060e040800000000000000027aff060009, de_it 0x10401010103010101020101010e010f0201010001010107010101080101000000000000000000000000000000050f0002010100020001000203010306040a02040006, de_it 0x1011f010100000300000001, de_it 0x2010000, de_it 0x800060e040800000000000000027eff060009, de_it 0x10401010103010101020101011b010101000101000000000000000000010001000100010d0000010007, de_it 0x10000012401010300000001, de_it 0x4010000, de_it 0x800060e040800000000000000027eff060009, de_it 0x12201010121010101040101011f0101011e01010103010101020101011b0101010001010000000000000000000100010001000111000208010102010007]
set_option maxRecDepth 100000 in
theorem tR_399 : tf_go tV_399 tK_399.2.1.1 tK_399.2.1.2 none tH_399_0 [(tK_399.2.1, tK_399.2.2.2.1, 0, tc_args 0 tK_399.2.2.1, [], ([], 0), ([], 0))] = true := by decide +kernel
set_option maxRecDepth 100000 in
theorem tT_399 {RO : am_O} {sa : Nat → Nat} (h_31 : tc_true (aP sa) tp_G RO tp_T tp_Z tK_31) (h_398 : tc_true (aP sa) tp_G RO tp_T tp_Z tK_398) : tc_true (aP sa) tp_G RO tp_T tp_Z tK_399 := by
  have hC : ∀ c ∈ tC_399, tc_true (aP sa) tp_G RO tp_T tp_Z c := by
    intro c hc
    have hc : c ∈ ([tK_31, tK_398] : List tc_Ct) := hc
    rcases List.mem_cons.mp hc with rfl | hc
    · exact h_31
    rcases List.mem_cons.mp hc with rfl | hc
    · exact h_398
    cases hc
  have hP : ∀ p ∈ tJ_399, ∃ hs, tc_plk (aP sa, tV_399.2) p hs = true := by
    intro p hp
    have hp : p ∈ ([] : List tc_Pl) := hp
    cases hp
  exact tc_main (mt := aM_174.1) (hs := tH_399_0) (PL := tJ_399) ⟨tp_G_ok, tMs_399 _, hC, tp_L_ok, tp_G_re⟩ (show am_meth (aP sa) 174 = some aM_174.1 from rfl) aX_174 (by decide +kernel) hP ((tc_go_sa (aP_sa sa _)).trans ((tf_go_s tHC_399).trans tR_399))
noncomputable def tK_400 : tc_Ct := (8, (2, 1), [(2, ([], 0), 0), (0, ([(0, 1)], 0), 0)], ([([(0, -1)], 3998), ([(0, 1)], -16), ([(1, -1)], 1999), ([(1, 1)], -8), ([(0, -1), (1, 1)], 1999), ([(0, 1), (1, -1)], -8)], [(0, 196)], [(0, ([(1, 1)], 0))], [], [], [], [(1016, [], []), (1088, [], [])]), [(196, 0), (196, 1000)], [((2, 2), ([([(0, -1)], 3998), ([(0, 1)], -16), ([(1, -1)], 1999), ([(1, 1)], -8), ([(0, -1), (1, 1)], 1999), ([(0, 1), (1, -1)], -8)], [(1, 196)], [(0, ([(1, 1)], 0)), (1, ([(0, 1)], 0))], [], [], [], []), some (2, ([], 0), 1), ([], 1), ([(0, 1)], 0))])
noncomputable def tJ_400 : List tc_Pl := []
noncomputable def tC_400 : List tc_Ct := []
def tM_400 (z : Nat) : Option am_Meth := none
set_option maxRecDepth 100000 in
theorem tMs_400 (sa : Nat → Nat) : ∀ z mz, tM_400 z = some mz → am_meth (aP sa) z = some mz := fun z mz h => by cases h
noncomputable def tV_400 : tc_Ev := (aQ, tp_T, tp_G.2, tp_Z, tM_400, tC_400, tp_L, tK_400.2.2.2.2.1, aM_8.1, aW_8, tK_400.2.1, tK_400.2.2.2.2.2, tJ_400)
theorem tE_400 : tK_400.2.2.2.2.2.all (tc_wex tK_400.2.1.1 tK_400.2.1.2) = true := by decide +kernel
theorem tSS_400 : tC_400.all (fun c => tw_mg tK_400.2.2.2.2.1 c.2.2.2.2.1) = true := by decide +kernel
theorem tHC_400 : ∀ c ∈ tC_400, c.2.2.2.2.1.all tK_400.2.2.2.2.1.contains = true ∧ c.2.2.2.2.2.all (tc_wex c.2.1.1 c.2.1.2) = true := tf_hc tSS_400 (by
  intro c hc
  have hc : c ∈ ([] : List tc_Ct) := hc
  cases hc)
noncomputable def tH_400_0 : List tc_It := [de_it 0x4010000, de_it 0x2, de_it 0x105010101070105020100000300000001, de_it 0x2010000, de_it 0x100010101010101010001010101010104000000000000000188ff010004, de_it 0xc010000, de_it 0x2, de_it 0x2010000, de_it 0x107010502010200000005, de_it 0x1050101000100010001010301010500000005, de_it 0x2010000, de_it 0x10501010104010101030101010201010101010101000101000000000000000000000000000100010e000200020007]
set_option maxRecDepth 100000 in
theorem tR_400 : tf_go tV_400 tK_400.2.1.1 tK_400.2.1.2 none tH_400_0 [(tK_400.2.1, tK_400.2.2.2.1, 0, tc_args 0 tK_400.2.2.1, [], ([], 0), ([], 0))] = true := by decide +kernel
set_option maxRecDepth 100000 in
theorem tT_400 {RO : am_O} {sa : Nat → Nat} : tc_true (aP sa) tp_G RO tp_T tp_Z tK_400 := by
  have hC : ∀ c ∈ tC_400, tc_true (aP sa) tp_G RO tp_T tp_Z c := by
    intro c hc
    have hc : c ∈ ([] : List tc_Ct) := hc
    cases hc
  have hP : ∀ p ∈ tJ_400, ∃ hs, tc_plk (aP sa, tV_400.2) p hs = true := by
    intro p hp
    have hp : p ∈ ([] : List tc_Pl) := hp
    cases hp
  exact tc_main (mt := aM_8.1) (hs := tH_400_0) (PL := tJ_400) ⟨tp_G_ok, tMs_400 _, hC, tp_L_ok, tp_G_re⟩ (show am_meth (aP sa) 8 = some aM_8.1 from rfl) aX_8 (by decide +kernel) hP ((tc_go_sa (aP_sa sa _)).trans ((tf_go_s tHC_400).trans tR_400))
noncomputable def tK_401 : tc_Ct := (13, (5, 3), [(2, ([], 0), 0), (2, ([], 0), 1), (0, ([], 3), 0), (0, ([(0, 1)], 0), 0)], ([([(0, -1)], 303), ([(0, 1)], -2), ([(1, -1)], 2000), ([(1, 1)], 0), ([(2, -1)], 640), ([(2, 1)], -8), ([(3, -1)], 4000), ([(3, 1)], -8), ([(4, -1)], 8000000), ([(0, -1), (1, -1)], 2003), ([(0, -1), (2, 1)], 0), ([(0, -1), (1, -1), (3, 1)], 303)], [(0, 186), (1, 194), (2, 196)], [(1, ([(2, 1)], 0)), (2, ([(3, 1)], 0))], [(0, 0, (2, ([], 0), 2)), (0, 1, (0, ([(1, 1)], 0), 0))], [], [], [(1136, [], [([(4, 1)], 0)]), (1016, [], []), (1088, [], [])]), [(186, 0), (186, 1), (196, 0), (196, 1000)], [((9, 3), ([([(0, -1)], 303), ([(0, 1)], -2), ([(1, -1)], 2000), ([(1, 1)], 0), ([(2, -1)], 640), ([(2, 1)], -8), ([(3, -1)], 4000), ([(3, 1)], -8), ([(4, -1)], 8000000), ([(5, -1)], 2000), ([(5, 1)], 0), ([(6, -1)], 1), ([(6, 1)], 0), ([(7, -1)], 3998), ([(7, 1)], 0), ([(8, -1)], 8000000), ([(0, -1), (1, -1)], 2003), ([(0, -1), (2, 1)], 0), ([(0, -1), (5, 1)], 3), ([(1, -1), (3, 1)], 301), ([(1, -1), (5, 1)], 0), ([(1, 1), (5, -1)], 300), ([(3, 1), (5, -1)], 301), ([(6, -16), (7, 1)], 0), ([(0, -1), (1, -1), (3, 1)], 303), ([(0, -1), (1, -1), (5, 1)], 3), ([(0, 1), (1, 1), (5, -1)], -2), ([(4, 1), (7, -1), (8, -1)], 0)], [], [(1, ([(2, 1)], 0)), (2, ([(3, 1)], 0))], [(0, 1, (0, ([(5, 1)], 0), 0))], [], [], [(1136, [], [([(8, 1)], 0)])]), none, ([(6, 1)], 0), ([(7, 1)], 0))])
noncomputable def tJ_401 : List tc_Pl := []
noncomputable def tC_401 : List tc_Ct := [tK_400]
def tM_401 (z : Nat) : Option am_Meth := if z = 8 then some aM_8.1 else none
set_option maxRecDepth 100000 in
theorem tMs_401 (sa : Nat → Nat) : ∀ z mz, tM_401 z = some mz → am_meth (aP sa) z = some mz := by
  intro z mz h
  unfold tM_401 at h
  rcases de_m h with ⟨rfl, rfl⟩ | h
  · exact (show am_meth (aP sa) 8 = some aM_8.1 from rfl)
  cases h
noncomputable def tV_401 : tc_Ev := (aQ, tp_T, tp_G.2, tp_Z, tM_401, tC_401, tp_L, tK_401.2.2.2.2.1, aM_13.1, aW_13, tK_401.2.1, tK_401.2.2.2.2.2, tJ_401)
theorem tE_401 : tK_401.2.2.2.2.2.all (tc_wex tK_401.2.1.1 tK_401.2.1.2) = true := by decide +kernel
theorem tSS_401 : tC_401.all (fun c => tw_mg tK_401.2.2.2.2.1 c.2.2.2.2.1) = true := by decide +kernel
theorem tHC_401 : ∀ c ∈ tC_401, c.2.2.2.2.1.all tK_401.2.2.2.2.1.contains = true ∧ c.2.2.2.2.2.all (tc_wex c.2.1.1 c.2.1.2) = true := tf_hc tSS_401 (by
  intro c hc
  have hc : c ∈ ([tK_400] : List tc_Ct) := hc
  rcases List.mem_cons.mp hc with rfl | hc
  · exact tE_400
  cases hc)
noncomputable def tH_401_0 : List tc_It := [de_it 0x2010000, de_it 0x10c01010300000001, de_it 0x4010000, de_it 0x2, de_it 0x10d010a02010300000001, de_it 0x4010000, de_it 0x300000001, de_it 0x101010101010e0101010b010100010101010b0201000100010101010b02010103010e0201010e010502010109010101080101000100010001000101030101010201010108010101070101010601010105010101040101010301010102010101010101010e010100000000000000000000000000010001240002040100000000000201010400010007, de_it 0x2010000, de_it 0x2, de_it 0x10010, de_it 0x4010000, de_it 0x1000101010e01010200000001, de_it 0x10901010103010e02010200000001, de_it 0x2010000, de_it 0x1120109020100000300000001, de_it 0x2010000, de_it 0x2, de_it 0x2010000, de_it 0x10901010103010e02010200000001, de_it 0x2010000, de_it 0x10901010103010e02010200000001, de_it 0x2010000, de_it 0x2, de_it 0x2, de_it 0x300000001, de_it 0x6010000, de_it 0x2, de_it 0x2010000, de_it 0x2, de_it 0x4010000, de_it 0x1000101010e01010200000001, de_it 0x1130101010a0101000101030101010e01010500000005, de_it 0x4010000, de_it 0x2, de_it 0x4010000, de_it 0x1000101010e01010200000001, de_it 0x10901010103010e02010200000001, de_it 0x10701010106010101130101010901010103010e0201000000000700000003, de_it 0x1000100010113010100010113010101000101010e0101010e0113020101030101010a0101010901010108010100010001000100010103010e020101090101010801010107010101060101010501010104010101030101010e01090201010e010101000101000000000000000000000000000100012400020401000000000502010200020400010007, de_it 0x4010000, de_it 0x2, de_it 0x4010000, de_it 0x2, de_it 0x2, de_it 0x21302090201020701010200000001, de_it 0x2010000, de_it 0x2, de_it 0x2010000, de_it 0x10901010107011302010200000001, de_it 0x2010000, de_it 0x10901010107011302010200000001, de_it 0x200000005, de_it 0x11401070201010b0101010701010114010b0201020701140201020b01140201000000000000000000000000000000000e00020301050201020002020400020006, de_it 0x805020102000200020301000204010306040000000000000002a4ff040009, de_it 0x20701140201020b01140201010f01070114030100000000000000000700000003, de_it 0x6010000, de_it 0x2, de_it 0x2010000, de_it 0x2, de_it 0x4010000, de_it 0x1000101010f0107011403010200000001, de_it 0x1010a0101000101030101010f0107011403010500000005, de_it 0x4010000, de_it 0x2, de_it 0x4010000, de_it 0x1000101010f0107011403010200000001, de_it 0x20b011402010207011402010200000001, de_it 0x20701140201020b011402010001020b01140201020701140201000000000700000003, de_it 0x1140101000000000000000000000000000000000906020401010100030c0204040303010300040202010009, de_it 0x100010001010b0101020701140201010b010101000101010f010701140301010f010101030101010a0101020b011402010207010801140301020701140201020b0114020100010001020701140201020b0114020101080101010701010114010b0201010f010a0107011404010104010101030101010f0114010b0301010f010701140301010001010000000000000000000000000001000124060204010101000305020102000202000502010200020400010007, de_it 0x10701010113010902010107010101130109020102070101021302090201000000000000000000000000000000000e0002030100040301020400020006, de_it 0x80004030100020301000204010306040000000000000002a4ff040009, de_it 0x1160101011501010116020f020200000000000000000700000003, de_it 0x6010000, de_it 0x2, de_it 0x2010000, de_it 0x2, de_it 0x4010000, de_it 0x1000101010e01010200000001, de_it 0x1140101010a0101000101030101010e01010500000005, de_it 0x4010000, de_it 0x2, de_it 0x4010000, de_it 0x1000101010e01010200000001, de_it 0x10901010116021302020200000001, de_it 0x1160101011501010114010101090101011602130202000000000700000003, de_it 0x100010001010f0100020101160101010f0100020101000101010e0101010f010101030101010a01010109010101080116020101160101011501010001000101160213020201090101010801010116010201150102010501010104010101030101020f01150202010e01010100010100000000000000000000000000010001240002040303020004030102000502010200020400010007]
set_option maxRecDepth 100000 in
theorem tR_401 : tf_go tV_401 tK_401.2.1.1 tK_401.2.1.2 none tH_401_0 [(tK_401.2.1, tK_401.2.2.2.1, 0, tc_args 0 tK_401.2.2.1, [], ([], 0), ([], 0))] = true := by decide +kernel
set_option maxRecDepth 100000 in
theorem tT_401 {RO : am_O} {sa : Nat → Nat} (h_400 : tc_true (aP sa) tp_G RO tp_T tp_Z tK_400) : tc_true (aP sa) tp_G RO tp_T tp_Z tK_401 := by
  have hC : ∀ c ∈ tC_401, tc_true (aP sa) tp_G RO tp_T tp_Z c := by
    intro c hc
    have hc : c ∈ ([tK_400] : List tc_Ct) := hc
    rcases List.mem_cons.mp hc with rfl | hc
    · exact h_400
    cases hc
  have hP : ∀ p ∈ tJ_401, ∃ hs, tc_plk (aP sa, tV_401.2) p hs = true := by
    intro p hp
    have hp : p ∈ ([] : List tc_Pl) := hp
    cases hp
  exact tc_main (mt := aM_13.1) (hs := tH_401_0) (PL := tJ_401) ⟨tp_G_ok, tMs_401 _, hC, tp_L_ok, tp_G_re⟩ (show am_meth (aP sa) 13 = some aM_13.1 from rfl) aX_13 (by decide +kernel) hP ((tc_go_sa (aP_sa sa _)).trans ((tf_go_s tHC_401).trans tR_401))
noncomputable def tK_402 : tc_Ct := (176, (1, 1), [(2, ([], 0), 0), (0, ([(0, 1)], 0), 0)], ([([(0, -1)], 300), ([(0, 1)], 1)], [(0, 171)], [], [], [], [], []), [], [((1, 1), ([([(0, -1)], 300), ([(0, 1)], 1)], [], [], [], [], [], []), some (0, ([], 0), 0), ([], 0), ([], 0)), ((1, 1), ([([(0, -1)], 300), ([(0, 1)], 1)], [], [], [], [], [], []), some (0, ([], 1), 0), ([], 0), ([], 0))])
noncomputable def tJ_402 : List tc_Pl := []
noncomputable def tC_402 : List tc_Ct := []
def tM_402 (z : Nat) : Option am_Meth := none
set_option maxRecDepth 100000 in
theorem tMs_402 (sa : Nat → Nat) : ∀ z mz, tM_402 z = some mz → am_meth (aP sa) z = some mz := fun z mz h => by cases h
noncomputable def tV_402 : tc_Ev := (aQ, tp_T, tp_G.2, tp_Z, tM_402, tC_402, tp_L, tK_402.2.2.2.2.1, aM_176.1, aW_176, tK_402.2.1, tK_402.2.2.2.2.2, tJ_402)
theorem tE_402 : tK_402.2.2.2.2.2.all (tc_wex tK_402.2.1.1 tK_402.2.1.2) = true := by decide +kernel
theorem tSS_402 : tC_402.all (fun c => tw_mg tK_402.2.2.2.2.1 c.2.2.2.2.1) = true := by decide +kernel
theorem tHC_402 : ∀ c ∈ tC_402, c.2.2.2.2.1.all tK_402.2.2.2.2.1.contains = true ∧ c.2.2.2.2.2.all (tc_wex c.2.1.1 c.2.1.2) = true := tf_hc tSS_402 (by
  intro c hc
  have hc : c ∈ ([] : List tc_Ct) := hc
  cases hc)
noncomputable def tH_402_0 : List tc_It := [de_it 0x2010000, de_it 0x2, de_it 0x2010000, de_it 0x1030101000000000300000001, de_it 0x2010000, de_it 0x101010101000101000000000000000000010001000100010a0000010007, de_it 0x4010000, de_it 0x101010101000101000000000000000000010001000100010a0002010007]
set_option maxRecDepth 100000 in
theorem tR_402 : tf_go tV_402 tK_402.2.1.1 tK_402.2.1.2 none tH_402_0 [(tK_402.2.1, tK_402.2.2.2.1, 0, tc_args 0 tK_402.2.2.1, [], ([], 0), ([], 0))] = true := by decide +kernel
set_option maxRecDepth 100000 in
theorem tT_402 {RO : am_O} {sa : Nat → Nat} : tc_true (aP sa) tp_G RO tp_T tp_Z tK_402 := by
  have hC : ∀ c ∈ tC_402, tc_true (aP sa) tp_G RO tp_T tp_Z c := by
    intro c hc
    have hc : c ∈ ([] : List tc_Ct) := hc
    cases hc
  have hP : ∀ p ∈ tJ_402, ∃ hs, tc_plk (aP sa, tV_402.2) p hs = true := by
    intro p hp
    have hp : p ∈ ([] : List tc_Pl) := hp
    cases hp
  exact tc_main (mt := aM_176.1) (hs := tH_402_0) (PL := tJ_402) ⟨tp_G_ok, tMs_402 _, hC, tp_L_ok, tp_G_re⟩ (show am_meth (aP sa) 176 = some aM_176.1 from rfl) aX_176 (by decide +kernel) hP ((tc_go_sa (aP_sa sa _)).trans ((tf_go_s tHC_402).trans tR_402))
noncomputable def tK_403 : tc_Ct := (175, (6, 5), [(2, ([], 0), 0), (0, ([(0, 1)], 0), 0)], ([([(0, -1)], 303), ([(0, 1)], -2), ([(1, -1)], 303), ([(1, 1)], -3), ([(2, -1)], 2000), ([(2, 1)], 0), ([(3, -1)], 640), ([(3, 1)], -8), ([(4, -1)], 4000), ([(4, 1)], -8), ([(5, -1)], 8000000), ([(0, -1), (1, 1)], 0), ([(0, -1), (3, 1)], 0), ([(0, 1), (1, -1)], 1), ([(1, -1), (3, 1)], 0), ([(2, -1), (4, 1)], 0)], [(0, 171), (1, 189), (2, 186), (3, 194), (4, 196)], [(3, ([(3, 1)], 0)), (4, ([(4, 1)], 0))], [(0, 3, (2, ([], 0), 1)), (0, 5, (2, ([], 0), 2)), (1, 0, (2, ([], 0), 3)), (1, 1, (0, ([(1, 1)], 0), 0)), (2, 0, (2, ([], 0), 4)), (2, 1, (0, ([(2, 1)], 0), 0))], [], [], [(1024, [0], []), (1136, [], [([(5, 1)], 0)]), (1016, [], []), (984, [], []), (976, [0, 1], []), (1056, [], []), (1088, [], []), (1096, [], [])]), [(186, 0), (186, 1), (196, 0), (196, 1000)], [((10, 5), ([([(0, -1)], 303), ([(0, 1)], -2), ([(1, -1)], 303), ([(1, 1)], -3), ([(2, -1)], 2000), ([(2, 1)], 0), ([(3, -1)], 640), ([(3, 1)], -8), ([(4, -1)], 4000), ([(4, 1)], -8), ([(5, -1)], 8000000), ([(6, -1)], 2000), ([(6, 1)], 0), ([(7, -1)], 1), ([(7, 1)], 0), ([(8, -1)], 3998), ([(8, 1)], 0), ([(9, -1)], 8000000), ([(0, -1), (1, 1)], 0), ([(0, -1), (3, 1)], 0), ([(0, -1), (6, 1)], 3), ([(0, 1), (1, -1)], 1), ([(1, -1), (3, 1)], 0), ([(2, -1), (4, 1)], 0), ([(2, -1), (6, 1)], 0), ([(2, 1), (6, -1)], 300), ([(7, -16), (8, 1)], 0), ([(5, 1), (8, -1), (9, -1)], 0)], [], [(3, ([(3, 1)], 0)), (4, ([(4, 1)], 0))], [(2, 1, (0, ([(6, 1)], 0), 0))], [], [], [(1136, [], [([(9, 1)], 0)])]), some (0, ([], 0), 0), ([(7, 1)], 0), ([(8, 1)], 0)), ((6, 5), ([([(0, -1)], 303), ([(0, 1)], -2), ([(1, -1)], 303), ([(1, 1)], -3), ([(2, -1)], 2000), ([(2, 1)], 0), ([(3, -1)], 640), ([(3, 1)], -8), ([(4, -1)], 4000), ([(4, 1)], -8), ([(5, -1)], 8000000), ([(0, -1), (1, 1)], 0), ([(0, -1), (3, 1)], 0), ([(0, 1), (1, -1)], 1), ([(1, -1), (3, 1)], 0), ([(2, -1), (4, 1)], 0)], [], [(3, ([(3, 1)], 0)), (4, ([(4, 1)], 0))], [(2, 0, (2, ([], 0), 4)), (2, 1, (0, ([(2, 1)], 0), 0))], [], [], [(1136, [], [([(5, 1)], 0)])]), some (0, ([], 10), 0), ([], 0), ([], 0))])
noncomputable def tJ_403 : List tc_Pl := []
noncomputable def tC_403 : List tc_Ct := [tK_402, tK_401]
def tM_403 (z : Nat) : Option am_Meth := if z = 176 then some aM_176.1 else if z = 13 then some aM_13.1 else none
set_option maxRecDepth 100000 in
theorem tMs_403 (sa : Nat → Nat) : ∀ z mz, tM_403 z = some mz → am_meth (aP sa) z = some mz := by
  intro z mz h
  unfold tM_403 at h
  rcases de_m h with ⟨rfl, rfl⟩ | h
  · exact (show am_meth (aP sa) 176 = some aM_176.1 from rfl)
  rcases de_m h with ⟨rfl, rfl⟩ | h
  · exact (show am_meth (aP sa) 13 = some aM_13.1 from rfl)
  cases h
noncomputable def tV_403 : tc_Ev := (aQ, tp_T, tp_G.2, tp_Z, tM_403, tC_403, tp_L, tK_403.2.2.2.2.1, aM_175.1, aW_175, tK_403.2.1, tK_403.2.2.2.2.2, tJ_403)
theorem tE_403 : tK_403.2.2.2.2.2.all (tc_wex tK_403.2.1.1 tK_403.2.1.2) = true := by decide +kernel
theorem tSS_403 : tC_403.all (fun c => tw_mg tK_403.2.2.2.2.1 c.2.2.2.2.1) = true := by decide +kernel
theorem tHC_403 : ∀ c ∈ tC_403, c.2.2.2.2.1.all tK_403.2.2.2.2.1.contains = true ∧ c.2.2.2.2.2.all (tc_wex c.2.1.1 c.2.1.2) = true := tf_hc tSS_403 (by
  intro c hc
  have hc : c ∈ ([tK_402, tK_401] : List tc_Ct) := hc
  rcases List.mem_cons.mp hc with rfl | hc
  · exact tE_402
  rcases List.mem_cons.mp hc with rfl | hc
  · exact tE_401
  cases hc)
noncomputable def tH_403_0 : List tc_It := [de_it 0x6010000, de_it 0x1000101010101010200000001, de_it 0x101010101000101000000000000000000000000000000010a05020001010000020006, de_it 0x10000011201010300000001, de_it 0x2010000, de_it 0x10f0101010e0101010d0101010c0101010b0101010a01010109010101080101010701010106010101050101010401010103010101020101010101010100010100000000000000000000000000010001180002010007, de_it 0x10113010100000300000001, de_it 0x2010000, de_it 0x2, de_it 0x2010000, de_it 0x2, de_it 0x2, de_it 0x8010000, de_it 0x2, de_it 0x2, de_it 0x1050101010401010200000001, de_it 0x200000005, de_it 0x10f0113010003010113010c02010001010a0101010f01130100030101080101010701010106010101130100020101040101010401010113010002010000000000000000000000000000000314000205010002040100020301000202010000000000000fa6ff0102010508060402040006, de_it 0x5e5a58565452504c4a464442403e3a28261e1c1a181614100e0c08060402001f000d, de_it 0x2010000, de_it 0x11e0101011b01010110010e0100030101180101010d0101010c0101010b0101011d01000201010a0101010901010115010101140101011301010112010101110101011d01010110010101080101010d010e010003010107010101060101010501010100010e0201010401010109010e0104030101020101010e01040201010001010000000000000000000000000001000124000209010002080100020701000206010400010007, de_it 0x10f01000201010c010101130101010a01010109010101080101010701010106010101050101010401010101010101000101000000000000000000000000000000031400020501000204010002030100020201000200010508060402040006, de_it 0x5e5c5a58565452504c464442403e3c3a261e1c1a18161412100e0c0a080604020021000d, de_it 0x2010000, de_it 0x1200101011c0101011a010101190101010f0101010e0101010d010101180101010c0101010b010101170101011601010115010101140101011301010112010101110101010a0101010901010108010101070101010601010105010101040101010301010102010101010101010001010000000000000000000000000001000124000209010002080100020701000206010400010007]
set_option maxRecDepth 100000 in
theorem tR_403 : tf_go tV_403 tK_403.2.1.1 tK_403.2.1.2 none tH_403_0 [(tK_403.2.1, tK_403.2.2.2.1, 0, tc_args 0 tK_403.2.2.1, [], ([], 0), ([], 0))] = true := by decide +kernel
set_option maxRecDepth 100000 in
theorem tT_403 {RO : am_O} {sa : Nat → Nat} (h_401 : tc_true (aP sa) tp_G RO tp_T tp_Z tK_401) (h_402 : tc_true (aP sa) tp_G RO tp_T tp_Z tK_402) : tc_true (aP sa) tp_G RO tp_T tp_Z tK_403 := by
  have hC : ∀ c ∈ tC_403, tc_true (aP sa) tp_G RO tp_T tp_Z c := by
    intro c hc
    have hc : c ∈ ([tK_402, tK_401] : List tc_Ct) := hc
    rcases List.mem_cons.mp hc with rfl | hc
    · exact h_402
    rcases List.mem_cons.mp hc with rfl | hc
    · exact h_401
    cases hc
  have hP : ∀ p ∈ tJ_403, ∃ hs, tc_plk (aP sa, tV_403.2) p hs = true := by
    intro p hp
    have hp : p ∈ ([] : List tc_Pl) := hp
    cases hp
  exact tc_main (mt := aM_175.1) (hs := tH_403_0) (PL := tJ_403) ⟨tp_G_ok, tMs_403 _, hC, tp_L_ok, tp_G_re⟩ (show am_meth (aP sa) 175 = some aM_175.1 from rfl) aX_175 (by decide +kernel) hP ((tc_go_sa (aP_sa sa _)).trans ((tf_go_s tHC_403).trans tR_403))
noncomputable def tK_404 : tc_Ct := (178, (3, 3), [(2, ([], 0), 0), (0, ([(0, 1)], 0), 0)], ([([(0, -1)], 303), ([(0, 1)], -2), ([(1, -1)], 303), ([(1, 1)], -3), ([(2, -1)], 640), ([(2, 1)], -8), ([(0, -1), (1, 1)], 0), ([(0, -1), (2, 1)], 0), ([(0, 1), (1, -1)], 1), ([(1, -1), (2, 1)], 0)], [(0, 171), (1, 189), (2, 194)], [(2, ([(2, 1)], 0))], [(0, 3, (2, ([], 0), 1)), (1, 0, (2, ([], 0), 2)), (1, 1, (0, ([(1, 1)], 0), 0))], [], [], [(1024, [0], []), (1016, [], []), (984, [], []), (976, [0, 1], []), (968, [], []), (1040, [], []), (1056, [], []), (1088, [], []), (1096, [], [])]), [(226, 0)], [((3, 3), ([([(0, -1)], 4), ([(0, 1)], -4), ([(1, -1)], 5), ([(1, 1)], -4), ([(2, -1)], 640), ([(2, 1)], -8)], [], [(2, ([(2, 1)], 0))], [], [], [], [(1024, [0], [])]), some (0, ([], 0), 0), ([], 0), ([], 0)), ((3, 3), ([([(0, -1)], 303), ([(0, 1)], -2), ([(1, -1)], 303), ([(1, 1)], -3), ([(2, -1)], 640), ([(2, 1)], -8), ([(0, -1), (1, 1)], 0), ([(0, -1), (2, 1)], 0), ([(0, 1), (1, -1)], 1), ([(1, -1), (2, 1)], 0)], [], [(2, ([(2, 1)], 0))], [], [], [], [(1024, [0], [])]), some (0, ([], 50), 0), ([], 0), ([], 0))])
noncomputable def tJ_404 : List tc_Pl := []
noncomputable def tC_404 : List tc_Ct := [tK_392]
def tM_404 (z : Nat) : Option am_Meth := if z = 11 then some aM_11.1 else none
set_option maxRecDepth 100000 in
theorem tMs_404 (sa : Nat → Nat) : ∀ z mz, tM_404 z = some mz → am_meth (aP sa) z = some mz := by
  intro z mz h
  unfold tM_404 at h
  rcases de_m h with ⟨rfl, rfl⟩ | h
  · exact (show am_meth (aP sa) 11 = some aM_11.1 from rfl)
  cases h
noncomputable def tV_404 : tc_Ev := (aQ, tp_T, tp_G.2, tp_Z, tM_404, tC_404, tp_L, tK_404.2.2.2.2.1, aM_178.1, aW_178, tK_404.2.1, tK_404.2.2.2.2.2, tJ_404)
theorem tE_404 : tK_404.2.2.2.2.2.all (tc_wex tK_404.2.1.1 tK_404.2.1.2) = true := by decide +kernel
theorem tSS_404 : tC_404.all (fun c => tw_mg tK_404.2.2.2.2.1 c.2.2.2.2.1) = true := by decide +kernel
theorem tHC_404 : ∀ c ∈ tC_404, c.2.2.2.2.1.all tK_404.2.2.2.2.1.contains = true ∧ c.2.2.2.2.2.all (tc_wex c.2.1.1 c.2.1.2) = true := tf_hc tSS_404 (by
  intro c hc
  have hc : c ∈ ([tK_392] : List tc_Ct) := hc
  rcases List.mem_cons.mp hc with rfl | hc
  · exact tE_392
  cases hc)
noncomputable def tH_404_0 : List tc_It := [de_it 0x4010000, de_it 0x300000001, de_it 0x2010000, de_it 0x2, de_it 0x4010000, de_it 0x2, de_it 0x2010000, de_it 0x80002000f, de_it 0x20802000f, de_it 0x80002030100020101020408020600000000000000027aff060009, de_it 0x1080105010b030101050101010a010602010105010101040101010a010602010108010b02010001000100000000000000000000000000000001110002020100020101060003040200030006, de_it 0x6010011, de_it 0x10000000000000000000000000000000009000204010e00020602000000000000029aff030009, de_it 0x114010101150101011901010001040000010e010003, de_it 0x8000408020600000000000000027eff060009, de_it 0x2010000, de_it 0x2, de_it 0x2010000, de_it 0x119010100010200000002, de_it 0x1150101000000000300000001, de_it 0x2010000, de_it 0x2, de_it 0x4010000, de_it 0x80002030100020101020408020600000000000000029cff060009, de_it 0x8040000000206000000000000029eff020009, de_it 0x100010119010100010400000100010003, de_it 0x800060000000000000002a0ff030009, de_it 0x800040802060000000000000002a2ff060009, de_it 0x80006000000000000000240ff030009, de_it 0x2010000, de_it 0x105010101040101011601010108010b0201010a0101010b0101000000000000000000000000000100010e0000010007, de_it 0x2010000, de_it 0x2, de_it 0x4010000, de_it 0x1000000000000000000000000000000000902001200020600000000000000029aff030009, de_it 0x100010119010100010400000112010003, de_it 0x4010000, de_it 0x105010101040101011601010108010b0201010a0101010b0101000000000000000000000000000100010e0000010007, de_it 0x2010000, de_it 0x109010101080101010701010106010101050101010401010103010101020101010101010100010100000000000000000000000000010001120002010007]
set_option maxRecDepth 100000 in
theorem tR_404 : tf_go tV_404 tK_404.2.1.1 tK_404.2.1.2 none tH_404_0 [(tK_404.2.1, tK_404.2.2.2.1, 0, tc_args 0 tK_404.2.2.1, [], ([], 0), ([], 0))] = true := by decide +kernel
set_option maxRecDepth 100000 in
theorem tT_404 {RO : am_O} {sa : Nat → Nat} (h_392 : tc_true (aP sa) tp_G RO tp_T tp_Z tK_392) : tc_true (aP sa) tp_G RO tp_T tp_Z tK_404 := by
  have hC : ∀ c ∈ tC_404, tc_true (aP sa) tp_G RO tp_T tp_Z c := by
    intro c hc
    have hc : c ∈ ([tK_392] : List tc_Ct) := hc
    rcases List.mem_cons.mp hc with rfl | hc
    · exact h_392
    cases hc
  have hP : ∀ p ∈ tJ_404, ∃ hs, tc_plk (aP sa, tV_404.2) p hs = true := by
    intro p hp
    have hp : p ∈ ([] : List tc_Pl) := hp
    cases hp
  exact tc_main (mt := aM_178.1) (hs := tH_404_0) (PL := tJ_404) ⟨tp_G_ok, tMs_404 _, hC, tp_L_ok, tp_G_re⟩ (show am_meth (aP sa) 178 = some aM_178.1 from rfl) aX_178 (by decide +kernel) hP ((tc_go_sa (aP_sa sa _)).trans ((tf_go_s tHC_404).trans tR_404))
