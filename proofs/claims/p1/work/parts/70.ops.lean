/-! the calls put together -/
theorem zq_et {E : sx_E} {a b : Term} (h : (sx_d E a).1 = (sx_d E b).1) : sx_h E (true, 1, a, b) := by
  show decide ((sx_d E a).1 = (sx_d E b).1) = true
  exact decide_eq_true h
theorem zq_ef {E : sx_E} {a b : Term} (h : ¬ (sx_d E a).1 = (sx_d E b).1) : sx_h E (false, 1, a, b) := by
  show decide ((sx_d E a).1 = (sx_d E b).1) = false
  exact decide_eq_false h
theorem zq_lt {E : sx_E} {a b : Term} (h : (sx_d E a).1 < (sx_d E b).1) : sx_h E (true, 0, a, b) := by
  show decide ((sx_d E a).1 < (sx_d E b).1) = true
  exact decide_eq_true h
theorem zq_lf {E : sx_E} {a b : Term} (h : ¬ (sx_d E a).1 < (sx_d E b).1) : sx_h E (false, 0, a, b) := by
  show decide ((sx_d E a).1 < (sx_d E b).1) = false
  exact decide_eq_false h
/-- some meanings for the names, and from the loop's head all is well -/
def zz_G (RO : am_O) (sa : Nat → Nat) (E : sx_E) : Prop := ∃ xs : Nat → Int32, (∀ j, j < 8 → xs j = E.2.2 j) ∧ sx_Ok (aP (fun i => i)) RO sa (E.1, E.2.1, xs) (sx_Q0 E) sc_8
theorem zz_w {P : am_P} {RO : am_O} {sa : Nat → Nat} {E : sx_E} {Q : am_Q} {c : sx_G} {cs : List sx_Q} (hc : ∀ q ∈ cs, sx_h E q) (g : sx_Ok P RO sa E Q (cs, c.2)) : sx_Ok P RO sa E Q c := by
  obtain ⟨cs0, y, pc, lv, st, fs, Ms, n, sl⟩ := c
  intro hn _
  exact g hn hc
theorem zz_leaf {f : Nat → Term} {l : List (List sz_D)} (hw : sz_wf (sz_at l) (8 + 32 * l.length) = true) (hn : (List.range 7).all (fun j => sz_nm 8 (f j)) = true) {E : sx_E} {RO : am_O} {sa : Nat → Nat} (h1 : sx_ok E (sx_rt0 7) RO sa) (h2 : ∀ j, j < 7 → (sx_d E (f j)).1 = E.2.2 j) (cs : List sx_Q) (hk : (cs.all (fun q => sz_nm 8 q.2.2.1 && sz_nm 8 q.2.2.2)) = true) (hc : ∀ q ∈ cs, sx_h E q) (ho : ∀ E' : sx_E, zz_H f l RO sa E' → sx_Ok (aP (fun i => i)) RO sa E' (sx_Q0 E') (cs, sc_8.2)) : zz_G RO sa E := by
  obtain ⟨xs, hx, H⟩ := zz_mk hw hn h1 h2
  refine ⟨xs, hx, zz_w (cs := cs) (fun q hq => ?_) (ho _ H)⟩
  have h3 := (Bool.and_eq_true _ _).mp (List.all_eq_true.mp hk q hq)
  have h4 := hc q hq
  have ag : ∀ j, j < 8 → (E.1, E.2.1, xs).2.2 j = E.2.2 j := hx
  unfold sx_h sx_hq at h4 ⊢
  rw [sz_nm_s ag _ h3.1, sz_nm_s ag _ h3.2]
  exact h4
theorem zz_easy {E : sx_E} {RO : am_O} {sa : Nat → Nat} {c : Int32} (h1 : sx_ok E (sx_rt0 7) RO sa) (hop : E.2.2 0 &&& 127 = c) (h : sy_run aMt (aP (fun i => i)) aIns (sx_rt0 7) sx_fin0 3000 (sy_c8 c) = true) : zz_G RO sa E :=
  ⟨E.2.2, fun _ _ => rfl, zz_w (cs := [(true, 1, sy_x0, .int c)]) (pw_cons (zq_et hop) pw_nil) (sy_Ok_run aMt_s aIns_s h1 sx_fin0_s h)⟩
theorem zz_m255 {x : Int32} (h : ¬ x < 0) (h2 : ¬ 255 < x) : x &&& 255 = x := by
  obtain ⟨j, hj, rfl⟩ := nI_of2 (M := 255) (n := 255) rfl h (Int32.not_lt.mp h2)
  have e : ∀ k, k < 256 → nI k &&& 255 = nI k := by decide +kernel
  exact e j (by omega)
theorem zz_mpos {x : Int32} (h : ¬ x < 0) : x &&& 2147483647 = x := sz_msk x (by
  rw [Int32.lt_iff_toInt_lt] at h
  have e : (0 : Int32).toInt = 0 := rfl
  omega)
theorem so_0 {E : sx_E} {RO : am_O} {sa : Nat → Nat} (h1 : sx_ok E (sx_rt0 7) RO sa) (hop : E.2.2 0 &&& 127 = 0) : zz_G RO sa E := by
  by_cases a1_1 : E.2.2 1 = 1
  · have hf : ∀ j, j < 7 → (sx_d E (zf_0_1 j)).1 = E.2.2 j := by
      intro j hj
      unfold zf_0_1
      split
      · rename_i h
        subst h
        exact a1_1.symm
      rfl
    exact zz_leaf zw_0_1 zn_0_1 h1 hf [(true, 1, .op2 .iand (.string "" 0) (.int 127), .int 0)] (by decide +kernel) (pw_cons (zq_et hop) pw_nil) (fun _ H => zo_0_1 H)
  by_cases a1_2 : E.2.2 1 = 2
  · have hf : ∀ j, j < 7 → (sx_d E (zf_0_2 j)).1 = E.2.2 j := by
      intro j hj
      unfold zf_0_2
      split
      · rename_i h
        subst h
        exact a1_2.symm
      rfl
    exact zz_leaf zw_0_2 zn_0_2 h1 hf [(true, 1, .op2 .iand (.string "" 0) (.int 127), .int 0)] (by decide +kernel) (pw_cons (zq_et hop) pw_nil) (fun _ H => zo_0_2 H)
  by_cases a1_3 : E.2.2 1 = 3
  · have hf : ∀ j, j < 7 → (sx_d E (zf_0_3 j)).1 = E.2.2 j := by
      intro j hj
      unfold zf_0_3
      split
      · rename_i h
        subst h
        exact a1_3.symm
      rfl
    exact zz_leaf zw_0_3 zn_0_3 h1 hf [(true, 1, .op2 .iand (.string "" 0) (.int 127), .int 0)] (by decide +kernel) (pw_cons (zq_et hop) pw_nil) (fun _ H => zo_0_3 H)
  by_cases a1_4 : E.2.2 1 = 4
  · have hf : ∀ j, j < 7 → (sx_d E (zf_0_4 j)).1 = E.2.2 j := by
      intro j hj
      unfold zf_0_4
      split
      · rename_i h
        subst h
        exact a1_4.symm
      rfl
    exact zz_leaf zw_0_4 zn_0_4 h1 hf [(true, 1, .op2 .iand (.string "" 0) (.int 127), .int 0)] (by decide +kernel) (pw_cons (zq_et hop) pw_nil) (fun _ H => zo_0_4 H)
  by_cases a1_5 : E.2.2 1 = 5
  · have hf : ∀ j, j < 7 → (sx_d E (zf_0_5 j)).1 = E.2.2 j := by
      intro j hj
      unfold zf_0_5
      split
      · rename_i h
        subst h
        exact a1_5.symm
      rfl
    exact zz_leaf zw_0_5 zn_0_5 h1 hf [(true, 1, .op2 .iand (.string "" 0) (.int 127), .int 0)] (by decide +kernel) (pw_cons (zq_et hop) pw_nil) (fun _ H => zo_0_5 H)
  by_cases a1_6 : E.2.2 1 = 6
  · have hf : ∀ j, j < 7 → (sx_d E (zf_0_6 j)).1 = E.2.2 j := by
      intro j hj
      unfold zf_0_6
      split
      · rename_i h
        subst h
        exact a1_6.symm
      rfl
    exact zz_leaf zw_0_6 zn_0_6 h1 hf [(true, 1, .op2 .iand (.string "" 0) (.int 127), .int 0)] (by decide +kernel) (pw_cons (zq_et hop) pw_nil) (fun _ H => zo_0_6 H)
  by_cases a1_7 : E.2.2 1 = 7
  · have hf : ∀ j, j < 7 → (sx_d E (zf_0_7 j)).1 = E.2.2 j := by
      intro j hj
      unfold zf_0_7
      split
      · rename_i h
        subst h
        exact a1_7.symm
      rfl
    exact zz_leaf zw_0_7 zn_0_7 h1 hf [(true, 1, .op2 .iand (.string "" 0) (.int 127), .int 0)] (by decide +kernel) (pw_cons (zq_et hop) pw_nil) (fun _ H => zo_0_7 H)
  by_cases a1_8 : E.2.2 1 = 8
  · have hf : ∀ j, j < 7 → (sx_d E (zf_0_8 j)).1 = E.2.2 j := by
      intro j hj
      unfold zf_0_8
      split
      · rename_i h
        subst h
        exact a1_8.symm
      rfl
    exact zz_leaf zw_0_8 zn_0_8 h1 hf [(true, 1, .op2 .iand (.string "" 0) (.int 127), .int 0)] (by decide +kernel) (pw_cons (zq_et hop) pw_nil) (fun _ H => zo_0_8 H)
  have hf : ∀ j, j < 7 → (sx_d E (zf_0_b j)).1 = E.2.2 j := by
    intro j hj
    unfold zf_0_b
    rfl
  exact zz_leaf zw_0_b zn_0_b h1 hf [(false, 1, .string "" 1, .int 8), (false, 1, .string "" 1, .int 7), (false, 1, .string "" 1, .int 6), (false, 1, .string "" 1, .int 5), (false, 1, .string "" 1, .int 4), (false, 1, .string "" 1, .int 3), (false, 1, .string "" 1, .int 2), (false, 1, .string "" 1, .int 1), (true, 1, .op2 .iand (.string "" 0) (.int 127), .int 0)] (by decide +kernel) (pw_cons (zq_ef a1_8) (pw_cons (zq_ef a1_7) (pw_cons (zq_ef a1_6) (pw_cons (zq_ef a1_5) (pw_cons (zq_ef a1_4) (pw_cons (zq_ef a1_3) (pw_cons (zq_ef a1_2) (pw_cons (zq_ef a1_1) (pw_cons (zq_et hop) pw_nil))))))))) (fun _ H => zo_0_b H)
theorem so_4 {E : sx_E} {RO : am_O} {sa : Nat → Nat} (h1 : sx_ok E (sx_rt0 7) RO sa) (hop : E.2.2 0 &&& 127 = 4) : zz_G RO sa E := by
  have hf : ∀ j, j < 7 → (sx_d E (zf_4_a j)).1 = E.2.2 j := by
    intro j hj
    unfold zf_4_a
    rfl
  exact zz_leaf zw_4_a zn_4_a h1 hf [(true, 1, .op2 .iand (.string "" 0) (.int 127), .int 4)] (by decide +kernel) (pw_cons (zq_et hop) pw_nil) (fun _ H => zo_4_a H)
theorem so_5 {E : sx_E} {RO : am_O} {sa : Nat → Nat} (h1 : sx_ok E (sx_rt0 7) RO sa) (hop : E.2.2 0 &&& 127 = 5) : zz_G RO sa E := by
  by_cases a1_0 : E.2.2 1 = 0
  · have hf : ∀ j, j < 7 → (sx_d E (zf_5_0 j)).1 = E.2.2 j := by
      intro j hj
      unfold zf_5_0
      split
      · rename_i h
        subst h
        exact a1_0.symm
      rfl
    exact zz_leaf zw_5_0 zn_5_0 h1 hf [(true, 1, .op2 .iand (.string "" 0) (.int 127), .int 5)] (by decide +kernel) (pw_cons (zq_et hop) pw_nil) (fun _ H => zo_5_0 H)
  by_cases a1_1 : E.2.2 1 = 1
  · have hf : ∀ j, j < 7 → (sx_d E (zf_5_1 j)).1 = E.2.2 j := by
      intro j hj
      unfold zf_5_1
      split
      · rename_i h
        subst h
        exact a1_1.symm
      rfl
    exact zz_leaf zw_5_1 zn_5_1 h1 hf [(true, 1, .op2 .iand (.string "" 0) (.int 127), .int 5)] (by decide +kernel) (pw_cons (zq_et hop) pw_nil) (fun _ H => zo_5_1 H)
  have hf : ∀ j, j < 7 → (sx_d E (zf_5_b j)).1 = E.2.2 j := by
    intro j hj
    unfold zf_5_b
    rfl
  exact zz_leaf zw_5_b zn_5_b h1 hf [(false, 1, .string "" 1, .int 1), (false, 1, .string "" 1, .int 0), (true, 1, .op2 .iand (.string "" 0) (.int 127), .int 5)] (by decide +kernel) (pw_cons (zq_ef a1_1) (pw_cons (zq_ef a1_0) (pw_cons (zq_et hop) pw_nil))) (fun _ H => zo_5_b H)
theorem so_6 {E : sx_E} {RO : am_O} {sa : Nat → Nat} (h1 : sx_ok E (sx_rt0 7) RO sa) (hop : E.2.2 0 &&& 127 = 6) : zz_G RO sa E := by
  by_cases a1_0 : E.2.2 1 = 0
  · have hf : ∀ j, j < 7 → (sx_d E (zf_6_0 j)).1 = E.2.2 j := by
      intro j hj
      unfold zf_6_0
      split
      · rename_i h
        subst h
        exact a1_0.symm
      rfl
    exact zz_leaf zw_6_0 zn_6_0 h1 hf [(true, 1, .op2 .iand (.string "" 0) (.int 127), .int 6)] (by decide +kernel) (pw_cons (zq_et hop) pw_nil) (fun _ H => zo_6_0 H)
  by_cases a1_1 : E.2.2 1 = 1
  · have hf : ∀ j, j < 7 → (sx_d E (zf_6_1 j)).1 = E.2.2 j := by
      intro j hj
      unfold zf_6_1
      split
      · rename_i h
        subst h
        exact a1_1.symm
      rfl
    exact zz_leaf zw_6_1 zn_6_1 h1 hf [(true, 1, .op2 .iand (.string "" 0) (.int 127), .int 6)] (by decide +kernel) (pw_cons (zq_et hop) pw_nil) (fun _ H => zo_6_1 H)
  have hf : ∀ j, j < 7 → (sx_d E (zf_6_b j)).1 = E.2.2 j := by
    intro j hj
    unfold zf_6_b
    rfl
  exact zz_leaf zw_6_b zn_6_b h1 hf [(false, 1, .string "" 1, .int 1), (false, 1, .string "" 1, .int 0), (true, 1, .op2 .iand (.string "" 0) (.int 127), .int 6)] (by decide +kernel) (pw_cons (zq_ef a1_1) (pw_cons (zq_ef a1_0) (pw_cons (zq_et hop) pw_nil))) (fun _ H => zo_6_b H)
theorem so_7 {E : sx_E} {RO : am_O} {sa : Nat → Nat} (h1 : sx_ok E (sx_rt0 7) RO sa) (hop : E.2.2 0 &&& 127 = 7) : zz_G RO sa E := by
  by_cases l0 : E.2.2 4 < 0
  · have hf : ∀ j, j < 7 → (sx_d E (zf_7_l j)).1 = E.2.2 j := by
      intro j hj
      unfold zf_7_l
      rfl
    exact zz_leaf zw_7_l zn_7_l h1 hf [(true, 0, .string "" 4, .int 0), (true, 1, .op2 .iand (.string "" 0) (.int 127), .int 7)] (by decide +kernel) (pw_cons (zq_lt l0) (pw_cons (zq_et hop) pw_nil)) (fun _ H => zo_7_l H)
  by_cases l1 : 255 < E.2.2 4
  · have hf : ∀ j, j < 7 → (sx_d E (zf_7_g j)).1 = E.2.2 j := by
      intro j hj
      unfold zf_7_g
      rfl
    exact zz_leaf zw_7_g zn_7_g h1 hf [(true, 0, .int 255, .string "" 4), (true, 1, .op2 .iand (.string "" 0) (.int 127), .int 7)] (by decide +kernel) (pw_cons (zq_lt l1) (pw_cons (zq_et hop) pw_nil)) (fun _ H => zo_7_g H)
  by_cases a1_0 : E.2.2 1 = 0
  · have hf : ∀ j, j < 7 → (sx_d E (zf_7_0 j)).1 = E.2.2 j := by
      intro j hj
      unfold zf_7_0
      split
      · rename_i h
        subst h
        exact a1_0.symm
      split
      · rename_i h
        subst h
        exact zz_m255 l0 l1
      rfl
    exact zz_leaf zw_7_0 zn_7_0 h1 hf [(true, 1, .op2 .iand (.string "" 0) (.int 127), .int 7)] (by decide +kernel) (pw_cons (zq_et hop) pw_nil) (fun _ H => zo_7_0 H)
  by_cases a1_1 : E.2.2 1 = 1
  · have hf : ∀ j, j < 7 → (sx_d E (zf_7_1 j)).1 = E.2.2 j := by
      intro j hj
      unfold zf_7_1
      split
      · rename_i h
        subst h
        exact a1_1.symm
      split
      · rename_i h
        subst h
        exact zz_m255 l0 l1
      rfl
    exact zz_leaf zw_7_1 zn_7_1 h1 hf [(true, 1, .op2 .iand (.string "" 0) (.int 127), .int 7)] (by decide +kernel) (pw_cons (zq_et hop) pw_nil) (fun _ H => zo_7_1 H)
  have hf : ∀ j, j < 7 → (sx_d E (zf_7_b j)).1 = E.2.2 j := by
    intro j hj
    unfold zf_7_b
    rfl
  exact zz_leaf zw_7_b zn_7_b h1 hf [(false, 1, .string "" 1, .int 1), (false, 1, .string "" 1, .int 0), (true, 1, .op2 .iand (.string "" 0) (.int 127), .int 7)] (by decide +kernel) (pw_cons (zq_ef a1_1) (pw_cons (zq_ef a1_0) (pw_cons (zq_et hop) pw_nil))) (fun _ H => zo_7_b H)
theorem so_8 {E : sx_E} {RO : am_O} {sa : Nat → Nat} (h1 : sx_ok E (sx_rt0 7) RO sa) (hop : E.2.2 0 &&& 127 = 8) : zz_G RO sa E := by
  by_cases d0 : E.2.2 6 = 0
  case neg =>
    have hf : ∀ j, j < 7 → (sx_d E (zf_8_d j)).1 = E.2.2 j := by
      intro j hj
      unfold zf_8_d
      rfl
    exact zz_leaf zw_8_d zn_8_d h1 hf [(false, 1, .string "" 6, .int 0), (true, 1, .op2 .iand (.string "" 0) (.int 127), .int 8)] (by decide +kernel) (pw_cons (zq_ef d0) (pw_cons (zq_et hop) pw_nil)) (fun _ H => zo_8_d H)
  by_cases a1_1 : E.2.2 1 = 1
  · have hf : ∀ j, j < 7 → (sx_d E (zf_8_1 j)).1 = E.2.2 j := by
      intro j hj
      unfold zf_8_1
      split
      · rename_i h
        subst h
        exact a1_1.symm
      split
      · rename_i h
        subst h
        exact d0.symm
      rfl
    exact zz_leaf zw_8_1 zn_8_1 h1 hf [(true, 1, .op2 .iand (.string "" 0) (.int 127), .int 8)] (by decide +kernel) (pw_cons (zq_et hop) pw_nil) (fun _ H => zo_8_1 H)
  by_cases a1_2 : E.2.2 1 = 2
  · have hf : ∀ j, j < 7 → (sx_d E (zf_8_2 j)).1 = E.2.2 j := by
      intro j hj
      unfold zf_8_2
      split
      · rename_i h
        subst h
        exact a1_2.symm
      split
      · rename_i h
        subst h
        exact d0.symm
      rfl
    exact zz_leaf zw_8_2 zn_8_2 h1 hf [(true, 1, .op2 .iand (.string "" 0) (.int 127), .int 8)] (by decide +kernel) (pw_cons (zq_et hop) pw_nil) (fun _ H => zo_8_2 H)
  by_cases a1_3 : E.2.2 1 = 3
  · have hf : ∀ j, j < 7 → (sx_d E (zf_8_3 j)).1 = E.2.2 j := by
      intro j hj
      unfold zf_8_3
      split
      · rename_i h
        subst h
        exact a1_3.symm
      split
      · rename_i h
        subst h
        exact d0.symm
      rfl
    exact zz_leaf zw_8_3 zn_8_3 h1 hf [(true, 1, .op2 .iand (.string "" 0) (.int 127), .int 8)] (by decide +kernel) (pw_cons (zq_et hop) pw_nil) (fun _ H => zo_8_3 H)
  have hf : ∀ j, j < 7 → (sx_d E (zf_8_b j)).1 = E.2.2 j := by
    intro j hj
    unfold zf_8_b
    rfl
  exact zz_leaf zw_8_b zn_8_b h1 hf [(false, 1, .string "" 1, .int 3), (false, 1, .string "" 1, .int 2), (false, 1, .string "" 1, .int 1), (true, 1, .op2 .iand (.string "" 0) (.int 127), .int 8)] (by decide +kernel) (pw_cons (zq_ef a1_3) (pw_cons (zq_ef a1_2) (pw_cons (zq_ef a1_1) (pw_cons (zq_et hop) pw_nil)))) (fun _ H => zo_8_b H)
theorem so_9 {E : sx_E} {RO : am_O} {sa : Nat → Nat} (h1 : sx_ok E (sx_rt0 7) RO sa) (hop : E.2.2 0 &&& 127 = 9) : zz_G RO sa E := by
  by_cases d0 : E.2.2 6 = 0
  case neg =>
    have hf : ∀ j, j < 7 → (sx_d E (zf_9_d j)).1 = E.2.2 j := by
      intro j hj
      unfold zf_9_d
      rfl
    exact zz_leaf zw_9_d zn_9_d h1 hf [(false, 1, .string "" 6, .int 0), (true, 1, .op2 .iand (.string "" 0) (.int 127), .int 9)] (by decide +kernel) (pw_cons (zq_ef d0) (pw_cons (zq_et hop) pw_nil)) (fun _ H => zo_9_d H)
  by_cases a1_1 : E.2.2 1 = 1
  · have hf : ∀ j, j < 7 → (sx_d E (zf_9_1 j)).1 = E.2.2 j := by
      intro j hj
      unfold zf_9_1
      split
      · rename_i h
        subst h
        exact a1_1.symm
      split
      · rename_i h
        subst h
        exact d0.symm
      rfl
    exact zz_leaf zw_9_1 zn_9_1 h1 hf [(true, 1, .op2 .iand (.string "" 0) (.int 127), .int 9)] (by decide +kernel) (pw_cons (zq_et hop) pw_nil) (fun _ H => zo_9_1 H)
  by_cases a1_2 : E.2.2 1 = 2
  · have hf : ∀ j, j < 7 → (sx_d E (zf_9_2 j)).1 = E.2.2 j := by
      intro j hj
      unfold zf_9_2
      split
      · rename_i h
        subst h
        exact a1_2.symm
      split
      · rename_i h
        subst h
        exact d0.symm
      rfl
    exact zz_leaf zw_9_2 zn_9_2 h1 hf [(true, 1, .op2 .iand (.string "" 0) (.int 127), .int 9)] (by decide +kernel) (pw_cons (zq_et hop) pw_nil) (fun _ H => zo_9_2 H)
  by_cases a1_3 : E.2.2 1 = 3
  · have hf : ∀ j, j < 7 → (sx_d E (zf_9_3 j)).1 = E.2.2 j := by
      intro j hj
      unfold zf_9_3
      split
      · rename_i h
        subst h
        exact a1_3.symm
      split
      · rename_i h
        subst h
        exact d0.symm
      rfl
    exact zz_leaf zw_9_3 zn_9_3 h1 hf [(true, 1, .op2 .iand (.string "" 0) (.int 127), .int 9)] (by decide +kernel) (pw_cons (zq_et hop) pw_nil) (fun _ H => zo_9_3 H)
  have hf : ∀ j, j < 7 → (sx_d E (zf_9_b j)).1 = E.2.2 j := by
    intro j hj
    unfold zf_9_b
    rfl
  exact zz_leaf zw_9_b zn_9_b h1 hf [(false, 1, .string "" 1, .int 3), (false, 1, .string "" 1, .int 2), (false, 1, .string "" 1, .int 1), (true, 1, .op2 .iand (.string "" 0) (.int 127), .int 9)] (by decide +kernel) (pw_cons (zq_ef a1_3) (pw_cons (zq_ef a1_2) (pw_cons (zq_ef a1_1) (pw_cons (zq_et hop) pw_nil)))) (fun _ H => zo_9_b H)
theorem so_10 {E : sx_E} {RO : am_O} {sa : Nat → Nat} (h1 : sx_ok E (sx_rt0 7) RO sa) (hop : E.2.2 0 &&& 127 = 10) : zz_G RO sa E := by
  by_cases a1_1 : E.2.2 1 = 1
  · have hf : ∀ j, j < 7 → (sx_d E (zf_10_1 j)).1 = E.2.2 j := by
      intro j hj
      unfold zf_10_1
      split
      · rename_i h
        subst h
        exact a1_1.symm
      rfl
    exact zz_leaf zw_10_1 zn_10_1 h1 hf [(true, 1, .op2 .iand (.string "" 0) (.int 127), .int 10)] (by decide +kernel) (pw_cons (zq_et hop) pw_nil) (fun _ H => zo_10_1 H)
  by_cases a1_2 : E.2.2 1 = 2
  · have hf : ∀ j, j < 7 → (sx_d E (zf_10_2 j)).1 = E.2.2 j := by
      intro j hj
      unfold zf_10_2
      split
      · rename_i h
        subst h
        exact a1_2.symm
      rfl
    exact zz_leaf zw_10_2 zn_10_2 h1 hf [(true, 1, .op2 .iand (.string "" 0) (.int 127), .int 10)] (by decide +kernel) (pw_cons (zq_et hop) pw_nil) (fun _ H => zo_10_2 H)
  by_cases a1_3 : E.2.2 1 = 3
  · have hf : ∀ j, j < 7 → (sx_d E (zf_10_3 j)).1 = E.2.2 j := by
      intro j hj
      unfold zf_10_3
      split
      · rename_i h
        subst h
        exact a1_3.symm
      rfl
    exact zz_leaf zw_10_3 zn_10_3 h1 hf [(true, 1, .op2 .iand (.string "" 0) (.int 127), .int 10)] (by decide +kernel) (pw_cons (zq_et hop) pw_nil) (fun _ H => zo_10_3 H)
  have hf : ∀ j, j < 7 → (sx_d E (zf_10_b j)).1 = E.2.2 j := by
    intro j hj
    unfold zf_10_b
    rfl
  exact zz_leaf zw_10_b zn_10_b h1 hf [(false, 1, .string "" 1, .int 3), (false, 1, .string "" 1, .int 2), (false, 1, .string "" 1, .int 1), (true, 1, .op2 .iand (.string "" 0) (.int 127), .int 10)] (by decide +kernel) (pw_cons (zq_ef a1_3) (pw_cons (zq_ef a1_2) (pw_cons (zq_ef a1_1) (pw_cons (zq_et hop) pw_nil)))) (fun _ H => zo_10_b H)
theorem so_11 {E : sx_E} {RO : am_O} {sa : Nat → Nat} (h1 : sx_ok E (sx_rt0 7) RO sa) (hop : E.2.2 0 &&& 127 = 11) : zz_G RO sa E := by
  by_cases a1_1 : E.2.2 1 = 1
  · have hf : ∀ j, j < 7 → (sx_d E (zf_11_1 j)).1 = E.2.2 j := by
      intro j hj
      unfold zf_11_1
      split
      · rename_i h
        subst h
        exact a1_1.symm
      rfl
    exact zz_leaf zw_11_1 zn_11_1 h1 hf [(true, 1, .op2 .iand (.string "" 0) (.int 127), .int 11)] (by decide +kernel) (pw_cons (zq_et hop) pw_nil) (fun _ H => zo_11_1 H)
  by_cases a1_2 : E.2.2 1 = 2
  · have hf : ∀ j, j < 7 → (sx_d E (zf_11_2 j)).1 = E.2.2 j := by
      intro j hj
      unfold zf_11_2
      split
      · rename_i h
        subst h
        exact a1_2.symm
      rfl
    exact zz_leaf zw_11_2 zn_11_2 h1 hf [(true, 1, .op2 .iand (.string "" 0) (.int 127), .int 11)] (by decide +kernel) (pw_cons (zq_et hop) pw_nil) (fun _ H => zo_11_2 H)
  by_cases a1_3 : E.2.2 1 = 3
  · have hf : ∀ j, j < 7 → (sx_d E (zf_11_3 j)).1 = E.2.2 j := by
      intro j hj
      unfold zf_11_3
      split
      · rename_i h
        subst h
        exact a1_3.symm
      rfl
    exact zz_leaf zw_11_3 zn_11_3 h1 hf [(true, 1, .op2 .iand (.string "" 0) (.int 127), .int 11)] (by decide +kernel) (pw_cons (zq_et hop) pw_nil) (fun _ H => zo_11_3 H)
  have hf : ∀ j, j < 7 → (sx_d E (zf_11_b j)).1 = E.2.2 j := by
    intro j hj
    unfold zf_11_b
    rfl
  exact zz_leaf zw_11_b zn_11_b h1 hf [(false, 1, .string "" 1, .int 3), (false, 1, .string "" 1, .int 2), (false, 1, .string "" 1, .int 1), (true, 1, .op2 .iand (.string "" 0) (.int 127), .int 11)] (by decide +kernel) (pw_cons (zq_ef a1_3) (pw_cons (zq_ef a1_2) (pw_cons (zq_ef a1_1) (pw_cons (zq_et hop) pw_nil)))) (fun _ H => zo_11_b H)
theorem so_12 {E : sx_E} {RO : am_O} {sa : Nat → Nat} (h1 : sx_ok E (sx_rt0 7) RO sa) (hop : E.2.2 0 &&& 127 = 12) : zz_G RO sa E := by
  have hf : ∀ j, j < 7 → (sx_d E (zf_12_a j)).1 = E.2.2 j := by
    intro j hj
    unfold zf_12_a
    rfl
  exact zz_leaf zw_12_a zn_12_a h1 hf [(true, 1, .op2 .iand (.string "" 0) (.int 127), .int 12)] (by decide +kernel) (pw_cons (zq_et hop) pw_nil) (fun _ H => zo_12_a H)
theorem so_13 {E : sx_E} {RO : am_O} {sa : Nat → Nat} (h1 : sx_ok E (sx_rt0 7) RO sa) (hop : E.2.2 0 &&& 127 = 13) : zz_G RO sa E := by
  by_cases a1_1 : E.2.2 1 = 1
  · have hf : ∀ j, j < 7 → (sx_d E (zf_13_1 j)).1 = E.2.2 j := by
      intro j hj
      unfold zf_13_1
      split
      · rename_i h
        subst h
        exact a1_1.symm
      rfl
    exact zz_leaf zw_13_1 zn_13_1 h1 hf [(true, 1, .op2 .iand (.string "" 0) (.int 127), .int 13)] (by decide +kernel) (pw_cons (zq_et hop) pw_nil) (fun _ H => zo_13_1 H)
  by_cases a1_2 : E.2.2 1 = 2
  · have hf : ∀ j, j < 7 → (sx_d E (zf_13_2 j)).1 = E.2.2 j := by
      intro j hj
      unfold zf_13_2
      split
      · rename_i h
        subst h
        exact a1_2.symm
      rfl
    exact zz_leaf zw_13_2 zn_13_2 h1 hf [(true, 1, .op2 .iand (.string "" 0) (.int 127), .int 13)] (by decide +kernel) (pw_cons (zq_et hop) pw_nil) (fun _ H => zo_13_2 H)
  have hf : ∀ j, j < 7 → (sx_d E (zf_13_b j)).1 = E.2.2 j := by
    intro j hj
    unfold zf_13_b
    rfl
  exact zz_leaf zw_13_b zn_13_b h1 hf [(false, 1, .string "" 1, .int 2), (false, 1, .string "" 1, .int 1), (true, 1, .op2 .iand (.string "" 0) (.int 127), .int 13)] (by decide +kernel) (pw_cons (zq_ef a1_2) (pw_cons (zq_ef a1_1) (pw_cons (zq_et hop) pw_nil))) (fun _ H => zo_13_b H)
theorem so_16 {E : sx_E} {RO : am_O} {sa : Nat → Nat} (h1 : sx_ok E (sx_rt0 7) RO sa) (hop : E.2.2 0 &&& 127 = 16) : zz_G RO sa E := by
  by_cases a1_1 : E.2.2 1 = 1
  · have hf : ∀ j, j < 7 → (sx_d E (zf_16_1 j)).1 = E.2.2 j := by
      intro j hj
      unfold zf_16_1
      split
      · rename_i h
        subst h
        exact a1_1.symm
      rfl
    exact zz_leaf zw_16_1 zn_16_1 h1 hf [(true, 1, .op2 .iand (.string "" 0) (.int 127), .int 16)] (by decide +kernel) (pw_cons (zq_et hop) pw_nil) (fun _ H => zo_16_1 H)
  by_cases a1_2 : E.2.2 1 = 2
  · have hf : ∀ j, j < 7 → (sx_d E (zf_16_2 j)).1 = E.2.2 j := by
      intro j hj
      unfold zf_16_2
      split
      · rename_i h
        subst h
        exact a1_2.symm
      rfl
    exact zz_leaf zw_16_2 zn_16_2 h1 hf [(true, 1, .op2 .iand (.string "" 0) (.int 127), .int 16)] (by decide +kernel) (pw_cons (zq_et hop) pw_nil) (fun _ H => zo_16_2 H)
  have hf : ∀ j, j < 7 → (sx_d E (zf_16_b j)).1 = E.2.2 j := by
    intro j hj
    unfold zf_16_b
    rfl
  exact zz_leaf zw_16_b zn_16_b h1 hf [(false, 1, .string "" 1, .int 2), (false, 1, .string "" 1, .int 1), (true, 1, .op2 .iand (.string "" 0) (.int 127), .int 16)] (by decide +kernel) (pw_cons (zq_ef a1_2) (pw_cons (zq_ef a1_1) (pw_cons (zq_et hop) pw_nil))) (fun _ H => zo_16_b H)
theorem so_14 {E : sx_E} {RO : am_O} {sa : Nat → Nat} (h1 : sx_ok E (sx_rt0 7) RO sa) (hop : E.2.2 0 &&& 127 = 14) : zz_G RO sa E := by
  by_cases a1 : E.2.2 1 = 1
  · by_cases y0 : E.2.2 2 < 0
    · have hf : ∀ j, j < 7 → (sx_d E (zf_14_1n j)).1 = E.2.2 j := by
        intro j hj
        unfold zf_14_1n
        split
        · rename_i h
          subst h
          exact a1.symm
        rfl
      exact zz_leaf zw_14_1n zn_14_1n h1 hf [(true, 0, .string "" 2, .int 0), (true, 1, .op2 .iand (.string "" 0) (.int 127), .int 14)] (by decide +kernel) (pw_cons (zq_lt y0) (pw_cons (zq_et hop) pw_nil)) (fun _ H => zo_14_1n H)
    · have hf : ∀ j, j < 7 → (sx_d E (zf_14_1 j)).1 = E.2.2 j := by
        intro j hj
        unfold zf_14_1
        split
        · rename_i h
          subst h
          exact a1.symm
        split
        · rename_i h
          subst h
          exact zz_mpos y0
        rfl
      exact zz_leaf zw_14_1 zn_14_1 h1 hf [(true, 1, .op2 .iand (.string "" 0) (.int 127), .int 14)] (by decide +kernel) (pw_cons (zq_et hop) pw_nil) (fun _ H => zo_14_1 H)
  by_cases a2 : E.2.2 1 = 2
  · by_cases y0 : E.2.2 2 < 0
    · have hf : ∀ j, j < 7 → (sx_d E (zf_14_2n j)).1 = E.2.2 j := by
        intro j hj
        unfold zf_14_2n
        split
        · rename_i h
          subst h
          exact a2.symm
        rfl
      exact zz_leaf zw_14_2n zn_14_2n h1 hf [(true, 0, .string "" 2, .int 0), (true, 1, .op2 .iand (.string "" 0) (.int 127), .int 14)] (by decide +kernel) (pw_cons (zq_lt y0) (pw_cons (zq_et hop) pw_nil)) (fun _ H => zo_14_2n H)
    · have hf : ∀ j, j < 7 → (sx_d E (zf_14_2 j)).1 = E.2.2 j := by
        intro j hj
        unfold zf_14_2
        split
        · rename_i h
          subst h
          exact a2.symm
        split
        · rename_i h
          subst h
          exact zz_mpos y0
        rfl
      exact zz_leaf zw_14_2 zn_14_2 h1 hf [(true, 1, .op2 .iand (.string "" 0) (.int 127), .int 14)] (by decide +kernel) (pw_cons (zq_et hop) pw_nil) (fun _ H => zo_14_2 H)
  have hf : ∀ j, j < 7 → (sx_d E (zf_14_b j)).1 = E.2.2 j := by
    intro j hj
    unfold zf_14_b
    rfl
  exact zz_leaf zw_14_b zn_14_b h1 hf [(false, 1, .string "" 1, .int 2), (false, 1, .string "" 1, .int 1), (true, 1, .op2 .iand (.string "" 0) (.int 127), .int 14)] (by decide +kernel) (pw_cons (zq_ef a2) (pw_cons (zq_ef a1) (pw_cons (zq_et hop) pw_nil))) (fun _ H => zo_14_b H)
theorem so_65 {E : sx_E} {RO : am_O} {sa : Nat → Nat} (h1 : sx_ok E (sx_rt0 7) RO sa) (hop : E.2.2 0 &&& 127 = 65) : zz_G RO sa E := by
  by_cases b1 : E.2.2 4 < 1
  · have hf : ∀ j, j < 7 → (sx_d E (zf_65_1 j)).1 = E.2.2 j := by
      intro j hj
      unfold zf_65_1
      rfl
    exact zz_leaf zw_65_1 zn_65_1 h1 hf [(true, 0, .string "" 4, .int 1), (true, 1, .op2 .iand (.string "" 0) (.int 127), .int 65)] (by decide +kernel) (pw_cons (zq_lt b1) (pw_cons (zq_et hop) pw_nil)) (fun _ H => zo_65_1 H)
  by_cases b2 : 64 < E.2.2 4
  · have hf : ∀ j, j < 7 → (sx_d E (zf_65_2 j)).1 = E.2.2 j := by
      intro j hj
      unfold zf_65_2
      rfl
    exact zz_leaf zw_65_2 zn_65_2 h1 hf [(true, 0, .int 64, .string "" 4), (true, 1, .op2 .iand (.string "" 0) (.int 127), .int 65)] (by decide +kernel) (pw_cons (zq_lt b2) (pw_cons (zq_et hop) pw_nil)) (fun _ H => zo_65_2 H)
  by_cases b3 : E.2.2 3 < 0
  · have hf : ∀ j, j < 7 → (sx_d E (zf_65_3 j)).1 = E.2.2 j := by
      intro j hj
      unfold zf_65_3
      rfl
    exact zz_leaf zw_65_3 zn_65_3 h1 hf [(true, 0, .string "" 3, .int 0), (true, 1, .op2 .iand (.string "" 0) (.int 127), .int 65)] (by decide +kernel) (pw_cons (zq_lt b3) (pw_cons (zq_et hop) pw_nil)) (fun _ H => zo_65_3 H)
  by_cases b4 : E.2.2 3 < E.2.2 4
  case neg =>
    have hf : ∀ j, j < 7 → (sx_d E (zf_65_4 j)).1 = E.2.2 j := by
      intro j hj
      unfold zf_65_4
      rfl
    exact zz_leaf zw_65_4 zn_65_4 h1 hf [(false, 0, .string "" 3, .string "" 4), (true, 1, .op2 .iand (.string "" 0) (.int 127), .int 65)] (by decide +kernel) (pw_cons (zq_lf b4) (pw_cons (zq_et hop) pw_nil)) (fun _ H => zo_65_4 H)
  by_cases b5 : E.2.2 4 = 1
  · have i0 : E.2.2 3 = 0 := by
      apply Int32.toInt_inj.mp
      rw [b5] at b4
      rw [Int32.lt_iff_toInt_lt] at b3 b4
      have e0 : (0 : Int32).toInt = 0 := rfl
      have e1 : (1 : Int32).toInt = 1 := rfl
      omega
    have hf : ∀ j, j < 7 → (sx_d E (zf_65_5 j)).1 = E.2.2 j := by
      intro j hj
      unfold zf_65_5
      split
      · rename_i h
        subst h
        exact i0.symm
      split
      · rename_i h
        subst h
        exact b5.symm
      rfl
    exact zz_leaf zw_65_5 zn_65_5 h1 hf [(true, 1, .op2 .iand (.string "" 0) (.int 127), .int 65)] (by decide +kernel) (pw_cons (zq_et hop) pw_nil) (fun _ H => zo_65_5 H)
  have n2 : ¬ E.2.2 4 < 2 := by
    have b6 : ¬ (E.2.2 4).toInt = (1 : Int32).toInt := fun e => b5 (Int32.toInt_inj.mp e)
    rw [Int32.lt_iff_toInt_lt] at b1 ⊢
    have e0 : (0 : Int32).toInt = 0 := rfl
    have e1 : (1 : Int32).toInt = 1 := rfl
    have e2 : (2 : Int32).toInt = 2 := rfl
    omega
  exact zz_leaf zw_65L zn_65L h1 (fun j hj => rfl) [(true, 0, .string "" 3, .string "" 4), (false, 0, .string "" 3, .int 0), (false, 0, .int 64, .string "" 4), (false, 0, .string "" 4, .int 2), (true, 1, .op2 .iand (.string "" 0) (.int 127), .int 65)] (by decide +kernel) (pw_cons (zq_lt b4) (pw_cons (zq_lf b3) (pw_cons (zq_lf b2) (pw_cons (zq_lf n2) (pw_cons (zq_et hop) pw_nil))))) (fun _ H => zo_65L_0 H)
theorem so_66 {E : sx_E} {RO : am_O} {sa : Nat → Nat} (h1 : sx_ok E (sx_rt0 7) RO sa) (hop : E.2.2 0 &&& 127 = 66) : zz_G RO sa E := by
  by_cases b1 : E.2.2 2 < 1
  · have hf : ∀ j, j < 7 → (sx_d E (zf_66_1 j)).1 = E.2.2 j := by
      intro j hj
      unfold zf_66_1
      rfl
    exact zz_leaf zw_66_1 zn_66_1 h1 hf [(true, 0, .string "" 2, .int 1), (true, 1, .op2 .iand (.string "" 0) (.int 127), .int 66)] (by decide +kernel) (pw_cons (zq_lt b1) (pw_cons (zq_et hop) pw_nil)) (fun _ H => zo_66_1 H)
  by_cases b2 : 64 < E.2.2 2
  · have hf : ∀ j, j < 7 → (sx_d E (zf_66_2 j)).1 = E.2.2 j := by
      intro j hj
      unfold zf_66_2
      rfl
    exact zz_leaf zw_66_2 zn_66_2 h1 hf [(true, 0, .int 64, .string "" 2), (true, 1, .op2 .iand (.string "" 0) (.int 127), .int 66)] (by decide +kernel) (pw_cons (zq_lt b2) (pw_cons (zq_et hop) pw_nil)) (fun _ H => zo_66_2 H)
  by_cases b3 : E.2.2 1 < 1
  · have hf : ∀ j, j < 7 → (sx_d E (zf_66_3 j)).1 = E.2.2 j := by
      intro j hj
      unfold zf_66_3
      rfl
    exact zz_leaf zw_66_3 zn_66_3 h1 hf [(true, 0, .string "" 1, .int 1), (true, 1, .op2 .iand (.string "" 0) (.int 127), .int 66)] (by decide +kernel) (pw_cons (zq_lt b3) (pw_cons (zq_et hop) pw_nil)) (fun _ H => zo_66_3 H)
  by_cases b4 : E.2.2 2 < E.2.2 1
  · have hf : ∀ j, j < 7 → (sx_d E (zf_66_4 j)).1 = E.2.2 j := by
      intro j hj
      unfold zf_66_4
      rfl
    exact zz_leaf zw_66_4 zn_66_4 h1 hf [(true, 0, .string "" 2, .string "" 1), (true, 1, .op2 .iand (.string "" 0) (.int 127), .int 66)] (by decide +kernel) (pw_cons (zq_lt b4) (pw_cons (zq_et hop) pw_nil)) (fun _ H => zo_66_4 H)
  by_cases b5 : E.2.2 2 = E.2.2 1
  · have hf : ∀ j, j < 7 → (sx_d E (zf_66_5 j)).1 = E.2.2 j := by
      intro j hj
      unfold zf_66_5
      split
      · rename_i h
        subst h
        exact b5
      rfl
    exact zz_leaf zw_66_5 zn_66_5 h1 hf [(false, 0, .int 64, .string "" 2), (false, 0, .string "" 2, .int 1), (true, 1, .op2 .iand (.string "" 0) (.int 127), .int 66)] (by decide +kernel) (pw_cons (zq_lf b2) (pw_cons (zq_lf b1) (pw_cons (zq_et hop) pw_nil))) (fun _ H => zo_66_5 H)
  have b6 : ¬ (E.2.2 2).toInt = (E.2.2 1).toInt := fun e => b5 (Int32.toInt_inj.mp e)
  have n2 : ¬ E.2.2 2 < 2 := by
    rw [Int32.lt_iff_toInt_lt] at b1 b3 b4 ⊢
    have e0 : (0 : Int32).toInt = 0 := rfl
    have e1 : (1 : Int32).toInt = 1 := rfl
    have e2 : (2 : Int32).toInt = 2 := rfl
    omega
  have n3 : E.2.2 1 < E.2.2 2 := by
    rw [Int32.lt_iff_toInt_lt] at b4 ⊢
    omega
  exact zz_leaf zw_66L zn_66L h1 (fun j hj => rfl) [(true, 0, .string "" 1, .string "" 2), (false, 0, .string "" 2, .string "" 1), (false, 0, .string "" 1, .int 1), (false, 0, .int 64, .string "" 2), (false, 0, .string "" 2, .int 2), (true, 1, .op2 .iand (.string "" 0) (.int 127), .int 66)] (by decide +kernel) (pw_cons (zq_lt n3) (pw_cons (zq_lf b4) (pw_cons (zq_lf b3) (pw_cons (zq_lf b2) (pw_cons (zq_lf n2) (pw_cons (zq_et hop) pw_nil)))))) (fun _ H => zo_66L_0 H)
