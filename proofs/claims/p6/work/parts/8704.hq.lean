/-! what holds with nothing there: the atoms of the law's entry -/
theorem fin_at {l : List ga_S} {t : Nat} {g : ga_S} (h : l[t]? = some g) {RO : am_O} {κ : Nat → Option Nat} {M : am_H} {V : Nat → Int} {A : Nat → Nat} {as : List Nat} {fs : List tl_F} (q : g.1 RO κ M (as.map A) (fs.map (tl_v V))) : tc_xq (tg_of l) RO κ M V A (8 * t, as, fs) := by
  have e : (8 * t, as, fs).1 % 8 = 0 := by
    show 8 * t % 8 = 0
    omega
  have e2 : (8 * t, as, fs).1 / 8 = t := by
    show 8 * t / 8 = t
    omega
  rw [tg_q0 e, e2, tg_of_s h]
  exact q
theorem fin_q_0 {RO : am_O} {κ : Nat → Option Nat} {b : Nat} (h : ∀ a k, κ a = some k → k = 247 ∨ k = 244 ∨ k = 245 ∨ k = 246) : tc_xq tp_G RO κ (fun _ => none) (fun _ => 0) (fun _ => b) (560, [], []) := fin_at (l := tp_S) (t := 70) (g := no_a 166) rfl (st_no (K := 166) (fun a ha => by rcases h a _ ha with e | e | e | e <;> exact absurd e (by decide)))
theorem fin_q_1 {RO : am_O} {κ : Nat → Option Nat} {b : Nat} (h : ∀ a k, κ a = some k → k = 247 ∨ k = 244 ∨ k = 245 ∨ k = 246) : tc_xq tp_G RO κ (fun _ => none) (fun _ => 0) (fun _ => b) (576, [], []) := fin_at (l := tp_S) (t := 72) (g := kn_a tS_72 (nn_a 224)) rfl (st_kn (S := tS_72) (g := nn_a 224) (fun a ha => by rcases h a _ ha with e | e | e | e <;> exact absurd e (by decide)))
theorem fin_q_2 {RO : am_O} {κ : Nat → Option Nat} {b : Nat} (h : ∀ a k, κ a = some k → k = 247 ∨ k = 244 ∨ k = 245 ∨ k = 246) : tc_xq tp_G RO κ (fun _ => none) (fun _ => 0) (fun _ => b) (584, [], []) := fin_at (l := tp_S) (t := 73) (g := kn_a tS_73 (nn_a 225)) rfl (st_kn (S := tS_73) (g := nn_a 225) (fun a ha => by rcases h a _ ha with e | e | e | e <;> exact absurd e (by decide)))
theorem fin_q_3 {RO : am_O} {κ : Nat → Option Nat} {b : Nat} (h : ∀ a k, κ a = some k → k = 247 ∨ k = 244 ∨ k = 245 ∨ k = 246) : tc_xq tp_G RO κ (fun _ => none) (fun _ => 0) (fun _ => b) (592, [], []) := fin_at (l := tp_S) (t := 74) (g := kn_a tS_74 (nn_a 229)) rfl (st_kn (S := tS_74) (g := nn_a 229) (fun a ha => by rcases h a _ ha with e | e | e | e <;> exact absurd e (by decide)))
theorem fin_q_4 {RO : am_O} {κ : Nat → Option Nat} {b : Nat} (h : ∀ a k, κ a = some k → k = 247 ∨ k = 244 ∨ k = 245 ∨ k = 246) : tc_xq tp_G RO κ (fun _ => none) (fun _ => 0) (fun _ => b) (616, [], []) := fin_at (l := tp_S) (t := 77) (g := kn_a tS_77 (nn_a 219)) rfl (st_kn (S := tS_77) (g := nn_a 219) (fun a ha => by rcases h a _ ha with e | e | e | e <;> exact absurd e (by decide)))
theorem fin_q_5 {RO : am_O} {κ : Nat → Option Nat} {b : Nat} (h : ∀ a k, κ a = some k → k = 247 ∨ k = 244 ∨ k = 245 ∨ k = 246) : tc_xq tp_G RO κ (fun _ => none) (fun _ => 0) (fun _ => b) (600, [], []) := fin_at (l := tp_S) (t := 75) (g := kn_a tS_75 (nn_a 228)) rfl (st_kn (S := tS_75) (g := nn_a 228) (fun a ha => by rcases h a _ ha with e | e | e | e <;> exact absurd e (by decide)))
theorem fin_q_6 {RO : am_O} {κ : Nat → Option Nat} {b : Nat} (h : ∀ a k, κ a = some k → k = 247 ∨ k = 244 ∨ k = 245 ∨ k = 246) : tc_xq tp_G RO κ (fun _ => none) (fun _ => 0) (fun _ => b) (608, [], []) := fin_at (l := tp_S) (t := 76) (g := kn_a tS_76 (nn_a 228)) rfl (st_kn (S := tS_76) (g := nn_a 228) (fun a ha => by rcases h a _ ha with e | e | e | e <;> exact absurd e (by decide)))
theorem fin_q_7 {RO : am_O} {κ : Nat → Option Nat} {b : Nat} (h : ∀ a k, κ a = some k → k = 247 ∨ k = 244 ∨ k = 245 ∨ k = 246) : tc_xq tp_G RO κ (fun _ => none) (fun _ => 0) (fun _ => b) (632, [], [([], 0)]) := fin_at (l := tp_S) (t := 79) (g := kn_a tS_79 (ql_a tS_78)) rfl (st_kn (S := tS_79) (g := ql_a tS_78) (fun a ha => by rcases h a _ ha with e | e | e | e <;> exact absurd e (by decide)))
theorem fin_q_8 {RO : am_O} {κ : Nat → Option Nat} {b : Nat} (h : ∀ a k, κ a = some k → k = 247 ∨ k = 244 ∨ k = 245 ∨ k = 246) : tc_xq tp_G RO κ (fun _ => none) (fun _ => 0) (fun _ => b) (648, [], [([], 0)]) := fin_at (l := tp_S) (t := 81) (g := kn_a tS_81 (ql_a tS_80)) rfl (st_kn (S := tS_81) (g := ql_a tS_80) (fun a ha => by rcases h a _ ha with e | e | e | e <;> exact absurd e (by decide)))
theorem fin_q_9 {RO : am_O} {κ : Nat → Option Nat} {b : Nat} (h : ∀ a k, κ a = some k → k = 247 ∨ k = 244 ∨ k = 245 ∨ k = 246) : tc_xq tp_G RO κ (fun _ => none) (fun _ => 0) (fun _ => b) (664, [], []) := fin_at (l := tp_S) (t := 83) (g := kn_a tS_83 (ql_a tS_82)) rfl (st_kn (S := tS_83) (g := ql_a tS_82) (fun a ha => by rcases h a _ ha with e | e | e | e <;> exact absurd e (by decide)))
theorem fin_q_10 {RO : am_O} {κ : Nat → Option Nat} {b : Nat} (h : ∀ a k, κ a = some k → k = 247 ∨ k = 244 ∨ k = 245 ∨ k = 246) : tc_xq tp_G RO κ (fun _ => none) (fun _ => 0) (fun _ => b) (680, [], []) := fin_at (l := tp_S) (t := 85) (g := kn_a tS_85 (ql_a tS_84)) rfl (st_kn (S := tS_85) (g := ql_a tS_84) (fun a ha => by rcases h a _ ha with e | e | e | e <;> exact absurd e (by decide)))
theorem fin_q_11 {RO : am_O} {κ : Nat → Option Nat} {b : Nat} (h : ∀ a k, κ a = some k → k = 247 ∨ k = 244 ∨ k = 245 ∨ k = 246) : tc_xq tp_G RO κ (fun _ => none) (fun _ => 0) (fun _ => b) (704, [], []) := fin_at (l := tp_S) (t := 88) (g := kn_a tS_88 (ql_a tS_86)) rfl (st_kn (S := tS_88) (g := ql_a tS_86) (fun a ha => by rcases h a _ ha with e | e | e | e <;> exact absurd e (by decide)))
theorem fin_q_12 {RO : am_O} {κ : Nat → Option Nat} {b : Nat} (h : ∀ a k, κ a = some k → k = 247 ∨ k = 244 ∨ k = 245 ∨ k = 246) : tc_xq tp_G RO κ (fun _ => none) (fun _ => 0) (fun _ => b) (720, [], []) := fin_at (l := tp_S) (t := 90) (g := kn_a tS_90 (ql_a tS_89)) rfl (st_kn (S := tS_90) (g := ql_a tS_89) (fun a ha => by rcases h a _ ha with e | e | e | e <;> exact absurd e (by decide)))
theorem fin_q_13 {RO : am_O} {κ : Nat → Option Nat} {b : Nat} (h : ∀ a k, κ a = some k → k = 247 ∨ k = 244 ∨ k = 245 ∨ k = 246) : tc_xq tp_G RO κ (fun _ => none) (fun _ => 0) (fun _ => b) (744, [], []) := fin_at (l := tp_S) (t := 93) (g := kn_a tS_93 (ql_a tS_91)) rfl (st_kn (S := tS_93) (g := ql_a tS_91) (fun a ha => by rcases h a _ ha with e | e | e | e <;> exact absurd e (by decide)))
theorem fin_q_14 {RO : am_O} {κ : Nat → Option Nat} {b : Nat} (h : ∀ a k, κ a = some k → k = 247 ∨ k = 244 ∨ k = 245 ∨ k = 246) : tc_xq tp_G RO κ (fun _ => none) (fun _ => 0) (fun _ => b) (760, [], [([], 0)]) := fin_at (l := tp_S) (t := 95) (g := kn_a tS_95 (ql_a tS_94)) rfl (st_kn (S := tS_95) (g := ql_a tS_94) (fun a ha => by rcases h a _ ha with e | e | e | e <;> exact absurd e (by decide)))
theorem fin_q_15 {RO : am_O} {κ : Nat → Option Nat} {b : Nat} (h : ∀ a k, κ a = some k → k = 247 ∨ k = 244 ∨ k = 245 ∨ k = 246) : tc_xq tp_G RO κ (fun _ => none) (fun _ => 0) (fun _ => b) (776, [], []) := fin_at (l := tp_S) (t := 97) (g := kn_a tS_97 (ql_a tS_96)) rfl (st_kn (S := tS_97) (g := ql_a tS_96) (fun a ha => by rcases h a _ ha with e | e | e | e <;> exact absurd e (by decide)))
theorem fin_q_16 {RO : am_O} {κ : Nat → Option Nat} {b : Nat} (h : ∀ a k, κ a = some k → k = 247 ∨ k = 244 ∨ k = 245 ∨ k = 246) : tc_xq tp_G RO κ (fun _ => none) (fun _ => 0) (fun _ => b) (792, [], []) := fin_at (l := tp_S) (t := 99) (g := kn_a tS_99 (np_a 234 233)) rfl (st_kn (S := tS_99) (g := np_a 234 233) (fun a ha => by rcases h a _ ha with e | e | e | e <;> exact absurd e (by decide)))
theorem fin_q_17 {RO : am_O} {κ : Nat → Option Nat} {b : Nat} (h : ∀ a k, κ a = some k → k = 247 ∨ k = 244 ∨ k = 245 ∨ k = 246) : tc_xq tp_G RO κ (fun _ => none) (fun _ => 0) (fun _ => b) (808, [], []) := fin_at (l := tp_S) (t := 101) (g := ij_a 170 10) rfl (st_ij (K := 170) (j := 10) (fun a ha => by rcases h a _ ha with e | e | e | e <;> exact absurd e (by decide)))
theorem fin_q_18 {RO : am_O} {κ : Nat → Option Nat} {b : Nat} (h : ∀ a k, κ a = some k → k = 247 ∨ k = 244 ∨ k = 245 ∨ k = 246) : tc_xq tp_G RO κ (fun _ => none) (fun _ => 0) (fun _ => b) (824, [], []) := fin_at (l := tp_S) (t := 103) (g := ij_a 174 2) rfl (st_ij (K := 174) (j := 2) (fun a ha => by rcases h a _ ha with e | e | e | e <;> exact absurd e (by decide)))
theorem fin_q_19 {RO : am_O} {κ : Nat → Option Nat} {b : Nat} (h : ∀ a k, κ a = some k → k = 247 ∨ k = 244 ∨ k = 245 ∨ k = 246) : tc_xq tp_G RO κ (fun _ => none) (fun _ => 0) (fun _ => b) (840, [], []) := fin_at (l := tp_S) (t := 105) (g := ij_a 175 2) rfl (st_ij (K := 175) (j := 2) (fun a ha => by rcases h a _ ha with e | e | e | e <;> exact absurd e (by decide)))
theorem fin_q_20 {RO : am_O} {κ : Nat → Option Nat} {b : Nat} (h : ∀ a k, κ a = some k → k = 247 ∨ k = 244 ∨ k = 245 ∨ k = 246) : tc_xq tp_G RO κ (fun _ => none) (fun _ => 0) (fun _ => b) (856, [], []) := fin_at (l := tp_S) (t := 107) (g := ij_a 176 2) rfl (st_ij (K := 176) (j := 2) (fun a ha => by rcases h a _ ha with e | e | e | e <;> exact absurd e (by decide)))
theorem fin_q_21 {RO : am_O} {κ : Nat → Option Nat} {b : Nat} (h : ∀ a k, κ a = some k → k = 247 ∨ k = 244 ∨ k = 245 ∨ k = 246) : tc_xq tp_G RO κ (fun _ => none) (fun _ => 0) (fun _ => b) (872, [], []) := fin_at (l := tp_S) (t := 109) (g := ij_a 173 9) rfl (st_ij (K := 173) (j := 9) (fun a ha => by rcases h a _ ha with e | e | e | e <;> exact absurd e (by decide)))
theorem fin_q_22 {RO : am_O} {κ : Nat → Option Nat} {b : Nat} (h : ∀ a k, κ a = some k → k = 247 ∨ k = 244 ∨ k = 245 ∨ k = 246) : tc_xq tp_G RO κ (fun _ => none) (fun _ => 0) (fun _ => b) (888, [], []) := fin_at (l := tp_S) (t := 111) (g := ij_a 168 2) rfl (st_ij (K := 168) (j := 2) (fun a ha => by rcases h a _ ha with e | e | e | e <;> exact absurd e (by decide)))
theorem fin_q_23 {RO : am_O} {κ : Nat → Option Nat} {b : Nat} (h : ∀ a k, κ a = some k → k = 247 ∨ k = 244 ∨ k = 245 ∨ k = 246) : tc_xq tp_G RO κ (fun _ => none) (fun _ => 0) (fun _ => b) (944, [], []) := fin_at (l := tp_S) (t := 118) (g := kn_a tS_118 (m4_a 241)) rfl (st_kn (S := tS_118) (g := m4_a 241) (fun a ha => by rcases h a _ ha with e | e | e | e <;> exact absurd e (by decide)))
theorem fin_q_24 {RO : am_O} {κ : Nat → Option Nat} {b : Nat} (h : ∀ a k, κ a = some k → k = 247 ∨ k = 244 ∨ k = 245 ∨ k = 246) : tc_xq tp_G RO κ (fun _ => none) (fun _ => 0) (fun _ => b) (968, [], []) := fin_at (l := tp_S) (t := 121) (g := ij_a 171 6) rfl (st_ij (K := 171) (j := 6) (fun a ha => by rcases h a _ ha with e | e | e | e <;> exact absurd e (by decide)))
theorem fin_q_25 {RO : am_O} {κ : Nat → Option Nat} {b : Nat} (h : ∀ a k, κ a = some k → k = 247 ∨ k = 244 ∨ k = 245 ∨ k = 246) : tc_xq tp_G RO κ (fun _ => none) (fun _ => 0) (fun _ => b) (984, [], []) := fin_at (l := tp_S) (t := 123) (g := ij_a 171 3) rfl (st_ij (K := 171) (j := 3) (fun a ha => by rcases h a _ ha with e | e | e | e <;> exact absurd e (by decide)))
theorem fin_q_26 {RO : am_O} {κ : Nat → Option Nat} {b : Nat} (h : ∀ a k, κ a = some k → k = 247 ∨ k = 244 ∨ k = 245 ∨ k = 246) : tc_xq tp_G RO κ (fun _ => none) (fun _ => 0) (fun _ => b) (1000, [], []) := fin_at (l := tp_S) (t := 125) (g := ij_a 171 4) rfl (st_ij (K := 171) (j := 4) (fun a ha => by rcases h a _ ha with e | e | e | e <;> exact absurd e (by decide)))
theorem fin_q_27 {RO : am_O} {κ : Nat → Option Nat} {b : Nat} (h : ∀ a k, κ a = some k → k = 247 ∨ k = 244 ∨ k = 245 ∨ k = 246) : tc_xq tp_G RO κ (fun _ => none) (fun _ => 0) (fun _ => b) (1016, [], []) := fin_at (l := tp_S) (t := 127) (g := ij_a 189 0) rfl (st_ij (K := 189) (j := 0) (fun a ha => by rcases h a _ ha with e | e | e | e <;> exact absurd e (by decide)))
theorem fin_q_28 {RO : am_O} {κ : Nat → Option Nat} {b : Nat} (h : ∀ a k, κ a = some k → k = 247 ∨ k = 244 ∨ k = 245 ∨ k = 246) : tc_xq tp_G RO κ (fun _ => none) (fun _ => 0) (fun _ => b) (1024, [], []) := fin_at (l := tp_S) (t := 128) (g := sd_a tS_128) rfl (st_sd (S := tS_128) (fun a ha => by rcases h a _ ha with e | e | e | e <;> exact absurd e (by decide)))
theorem fin_q_29 {RO : am_O} {κ : Nat → Option Nat} {b : Nat} (h : ∀ a k, κ a = some k → k = 247 ∨ k = 244 ∨ k = 245 ∨ k = 246) : tc_xq tp_G RO κ (fun _ => none) (fun _ => 0) (fun _ => b) (1040, [], []) := fin_at (l := tp_S) (t := 130) (g := ij_a 172 6) rfl (st_ij (K := 172) (j := 6) (fun a ha => by rcases h a _ ha with e | e | e | e <;> exact absurd e (by decide)))
theorem fin_q_30 {RO : am_O} {κ : Nat → Option Nat} {b : Nat} (h : ∀ a k, κ a = some k → k = 247 ∨ k = 244 ∨ k = 245 ∨ k = 246) : tc_xq tp_G RO κ (fun _ => none) (fun _ => 0) (fun _ => b) (1056, [], []) := fin_at (l := tp_S) (t := 132) (g := ij_a 172 3) rfl (st_ij (K := 172) (j := 3) (fun a ha => by rcases h a _ ha with e | e | e | e <;> exact absurd e (by decide)))
theorem fin_q_31 {RO : am_O} {κ : Nat → Option Nat} {b : Nat} (h : ∀ a k, κ a = some k → k = 247 ∨ k = 244 ∨ k = 245 ∨ k = 246) : tc_xq tp_G RO κ (fun _ => none) (fun _ => 0) (fun _ => b) (1072, [], []) := fin_at (l := tp_S) (t := 134) (g := ij_a 172 4) rfl (st_ij (K := 172) (j := 4) (fun a ha => by rcases h a _ ha with e | e | e | e <;> exact absurd e (by decide)))
theorem fin_q_32 {RO : am_O} {κ : Nat → Option Nat} {b : Nat} (h : ∀ a k, κ a = some k → k = 247 ∨ k = 244 ∨ k = 245 ∨ k = 246) : tc_xq tp_G RO κ (fun _ => none) (fun _ => 0) (fun _ => b) (1088, [], []) := fin_at (l := tp_S) (t := 136) (g := ij_a 190 0) rfl (st_ij (K := 190) (j := 0) (fun a ha => by rcases h a _ ha with e | e | e | e <;> exact absurd e (by decide)))
theorem fin_q_33 {RO : am_O} {κ : Nat → Option Nat} {b : Nat} (h : ∀ a k, κ a = some k → k = 247 ∨ k = 244 ∨ k = 245 ∨ k = 246) : tc_xq tp_G RO κ (fun _ => none) (fun _ => 0) (fun _ => b) (1096, [], []) := fin_at (l := tp_S) (t := 137) (g := sd_a tS_137) rfl (st_sd (S := tS_137) (fun a ha => by rcases h a _ ha with e | e | e | e <;> exact absurd e (by decide)))
theorem fin_q_34 {RO : am_O} {κ : Nat → Option Nat} {b : Nat} (h : ∀ a k, κ a = some k → k = 247 ∨ k = 244 ∨ k = 245 ∨ k = 246) : tc_xq tp_G RO κ (fun _ => none) (fun _ => 0) (fun _ => b) (1112, [], [([], 38000)]) := fin_at (l := tp_S) (t := 139) (g := kn_a tS_139 (ql_a tS_138)) rfl (st_kn (S := tS_139) (g := ql_a tS_138) (fun a ha => by rcases h a _ ha with e | e | e | e <;> exact absurd e (by decide)))
theorem fin_q_35 {RO : am_O} {κ : Nat → Option Nat} {b : Nat} (h : ∀ a k, κ a = some k → k = 247 ∨ k = 244 ∨ k = 245 ∨ k = 246) : tc_xq tp_G RO κ (fun _ => none) (fun _ => 0) (fun _ => b) (1128, [], [([], 40300)]) := fin_at (l := tp_S) (t := 141) (g := kn_a tS_141 (ql_a tS_140)) rfl (st_kn (S := tS_141) (g := ql_a tS_140) (fun a ha => by rcases h a _ ha with e | e | e | e <;> exact absurd e (by decide)))
theorem fin_q_36 {RO : am_O} {κ : Nat → Option Nat} {b : Nat} (h : ∀ a k, κ a = some k → k = 247 ∨ k = 244 ∨ k = 245 ∨ k = 246) : tc_xq tp_G RO κ (fun _ => none) (fun _ => 0) (fun _ => b) (1136, [], [([], 0)]) := fin_at (l := tp_S) (t := 142) (g := rm_a tS_142) rfl (st_rm (S := tS_142) (fun a k hk => by rcases h a _ hk with e | e | e | e <;> rw [e] <;> decide))
theorem fin_q_37 {RO : am_O} {κ : Nat → Option Nat} {b : Nat} (h : ∀ a k, κ a = some k → k = 247 ∨ k = 244 ∨ k = 245 ∨ k = 246) : tc_xq tp_G RO κ (fun _ => none) (fun _ => 0) (fun _ => b) (1432, [], []) := fin_at (l := tp_S) (t := 179) (g := no_a 159) rfl (st_no (K := 159) (fun a ha => by rcases h a _ ha with e | e | e | e <;> exact absurd e (by decide)))
theorem fin_q_38 {RO : am_O} {κ : Nat → Option Nat} {b : Nat} (h : ∀ a k, κ a = some k → k = 247 ∨ k = 244 ∨ k = 245 ∨ k = 246) : tc_xq tp_G RO κ (fun _ => none) (fun _ => 0) (fun _ => b) (1448, [], []) := fin_at (l := tp_S) (t := 181) (g := no_a 147) rfl (st_no (K := 147) (fun a ha => by rcases h a _ ha with e | e | e | e <;> exact absurd e (by decide)))
def fin_ats : List tg_P := [(560, [], []), (576, [], []), (584, [], []), (592, [], []), (616, [], []), (600, [], []), (608, [], []), (632, [], [([], 0)]), (648, [], [([], 0)]), (664, [], []), (680, [], []), (704, [], []), (720, [], []), (744, [], []), (760, [], [([], 0)]), (776, [], []), (792, [], []), (808, [], []), (824, [], []), (840, [], []), (856, [], []), (872, [], []), (888, [], []), (944, [], []), (968, [], []), (984, [], []), (1000, [], []), (1016, [], []), (1024, [], []), (1040, [], []), (1056, [], []), (1072, [], []), (1088, [], []), (1096, [], []), (1112, [], [([], 38000)]), (1128, [], [([], 40300)]), (1136, [], [([], 0)]), (1432, [], []), (1448, [], [])]
theorem fin_hq (RO : am_O) (κ : Nat → Option Nat) (b : Nat) (h : ∀ a k, κ a = some k → k = 247 ∨ k = 244 ∨ k = 245 ∨ k = 246) : ∀ p ∈ fin_ats, tc_xq tp_G RO κ (fun _ => none) (fun _ => 0) (fun _ => b) p := by
  intro p hp
  have hp : p ∈ ([(560, [], []), (576, [], []), (584, [], []), (592, [], []), (616, [], []), (600, [], []), (608, [], []), (632, [], [([], 0)]), (648, [], [([], 0)]), (664, [], []), (680, [], []), (704, [], []), (720, [], []), (744, [], []), (760, [], [([], 0)]), (776, [], []), (792, [], []), (808, [], []), (824, [], []), (840, [], []), (856, [], []), (872, [], []), (888, [], []), (944, [], []), (968, [], []), (984, [], []), (1000, [], []), (1016, [], []), (1024, [], []), (1040, [], []), (1056, [], []), (1072, [], []), (1088, [], []), (1096, [], []), (1112, [], [([], 38000)]), (1128, [], [([], 40300)]), (1136, [], [([], 0)]), (1432, [], []), (1448, [], [])] : List tg_P) := hp
  rcases List.mem_cons.mp hp with rfl | hp
  · exact fin_q_0 h
  rcases List.mem_cons.mp hp with rfl | hp
  · exact fin_q_1 h
  rcases List.mem_cons.mp hp with rfl | hp
  · exact fin_q_2 h
  rcases List.mem_cons.mp hp with rfl | hp
  · exact fin_q_3 h
  rcases List.mem_cons.mp hp with rfl | hp
  · exact fin_q_4 h
  rcases List.mem_cons.mp hp with rfl | hp
  · exact fin_q_5 h
  rcases List.mem_cons.mp hp with rfl | hp
  · exact fin_q_6 h
  rcases List.mem_cons.mp hp with rfl | hp
  · exact fin_q_7 h
  rcases List.mem_cons.mp hp with rfl | hp
  · exact fin_q_8 h
  rcases List.mem_cons.mp hp with rfl | hp
  · exact fin_q_9 h
  rcases List.mem_cons.mp hp with rfl | hp
  · exact fin_q_10 h
  rcases List.mem_cons.mp hp with rfl | hp
  · exact fin_q_11 h
  rcases List.mem_cons.mp hp with rfl | hp
  · exact fin_q_12 h
  rcases List.mem_cons.mp hp with rfl | hp
  · exact fin_q_13 h
  rcases List.mem_cons.mp hp with rfl | hp
  · exact fin_q_14 h
  rcases List.mem_cons.mp hp with rfl | hp
  · exact fin_q_15 h
  rcases List.mem_cons.mp hp with rfl | hp
  · exact fin_q_16 h
  rcases List.mem_cons.mp hp with rfl | hp
  · exact fin_q_17 h
  rcases List.mem_cons.mp hp with rfl | hp
  · exact fin_q_18 h
  rcases List.mem_cons.mp hp with rfl | hp
  · exact fin_q_19 h
  rcases List.mem_cons.mp hp with rfl | hp
  · exact fin_q_20 h
  rcases List.mem_cons.mp hp with rfl | hp
  · exact fin_q_21 h
  rcases List.mem_cons.mp hp with rfl | hp
  · exact fin_q_22 h
  rcases List.mem_cons.mp hp with rfl | hp
  · exact fin_q_23 h
  rcases List.mem_cons.mp hp with rfl | hp
  · exact fin_q_24 h
  rcases List.mem_cons.mp hp with rfl | hp
  · exact fin_q_25 h
  rcases List.mem_cons.mp hp with rfl | hp
  · exact fin_q_26 h
  rcases List.mem_cons.mp hp with rfl | hp
  · exact fin_q_27 h
  rcases List.mem_cons.mp hp with rfl | hp
  · exact fin_q_28 h
  rcases List.mem_cons.mp hp with rfl | hp
  · exact fin_q_29 h
  rcases List.mem_cons.mp hp with rfl | hp
  · exact fin_q_30 h
  rcases List.mem_cons.mp hp with rfl | hp
  · exact fin_q_31 h
  rcases List.mem_cons.mp hp with rfl | hp
  · exact fin_q_32 h
  rcases List.mem_cons.mp hp with rfl | hp
  · exact fin_q_33 h
  rcases List.mem_cons.mp hp with rfl | hp
  · exact fin_q_34 h
  rcases List.mem_cons.mp hp with rfl | hp
  · exact fin_q_35 h
  rcases List.mem_cons.mp hp with rfl | hp
  · exact fin_q_36 h
  rcases List.mem_cons.mp hp with rfl | hp
  · exact fin_q_37 h
  rcases List.mem_cons.mp hp with rfl | hp
  · exact fin_q_38 h
  cases hp
