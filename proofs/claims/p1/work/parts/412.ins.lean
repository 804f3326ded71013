/-! SX: instructions, trees -/
def aS_0 (pc : Nat) : sx_IL := (if pc < 64 then (if pc < 25 then (if pc < 12 then aI_0_0 else aI_0_1) else (if pc < 38 then aI_0_2 else (if pc < 50 then aI_0_3 else aI_0_4))) else (if pc < 89 then (if pc < 76 then aI_0_5 else aI_0_6) else (if pc < 103 then aI_0_7 else (if pc < 113 then aI_0_8 else aI_0_9))))
theorem aT_0 (pc : Nat) : sx_iOk prog_1_method_1_code (aS_0 pc) := (sx_ite (p := fun l => sx_iOk prog_1_method_1_code l) (sx_ite (p := fun l => sx_iOk prog_1_method_1_code l) (sx_ite (p := fun l => sx_iOk prog_1_method_1_code l) (sx_iB_s aJ_0_0) (sx_iB_s aJ_0_1)) (sx_ite (p := fun l => sx_iOk prog_1_method_1_code l) (sx_iB_s aJ_0_2) (sx_ite (p := fun l => sx_iOk prog_1_method_1_code l) (sx_iB_s aJ_0_3) (sx_iB_s aJ_0_4)))) (sx_ite (p := fun l => sx_iOk prog_1_method_1_code l) (sx_ite (p := fun l => sx_iOk prog_1_method_1_code l) (sx_iB_s aJ_0_5) (sx_iB_s aJ_0_6)) (sx_ite (p := fun l => sx_iOk prog_1_method_1_code l) (sx_iB_s aJ_0_7) (sx_ite (p := fun l => sx_iOk prog_1_method_1_code l) (sx_iB_s aJ_0_8) (sx_iB_s aJ_0_9)))))
def aU_0 (y pc : Nat) : Option (Instr × Nat) := if y = 0 then sx_iF (aS_0 pc) pc else none
set_option maxRecDepth 100000 in
theorem aV0_0 (y : Nat) : sx_P1 (aU_0 y) y := by
  intro pc r h mt hm
  unfold aU_0 at h
  split at h
  · rename_i hy
    subst hy
    have e : aM_0.1 = mt := Option.some.inj (show some aM_0.1 = some mt from hm)
    subst e
    exact sx_iF_s (aT_0 pc) h
  · cases h
def aS_1 (pc : Nat) : sx_IL := (if pc < 92 then (if pc < 40 then (if pc < 12 then aI_1_0 else (if pc < 26 then aI_1_1 else aI_1_2)) else (if pc < 65 then (if pc < 53 then aI_1_3 else aI_1_4) else (if pc < 79 then aI_1_5 else aI_1_6))) else (if pc < 146 then (if pc < 118 then (if pc < 105 then aI_1_7 else aI_1_8) else (if pc < 132 then aI_1_9 else aI_1_10)) else (if pc < 169 then (if pc < 159 then aI_1_11 else aI_1_12) else (if pc < 181 then aI_1_13 else aI_1_14))))
theorem aT_1 (pc : Nat) : sx_iOk prog_5_method_1_code (aS_1 pc) := (sx_ite (p := fun l => sx_iOk prog_5_method_1_code l) (sx_ite (p := fun l => sx_iOk prog_5_method_1_code l) (sx_ite (p := fun l => sx_iOk prog_5_method_1_code l) (sx_iB_s aJ_1_0) (sx_ite (p := fun l => sx_iOk prog_5_method_1_code l) (sx_iB_s aJ_1_1) (sx_iB_s aJ_1_2))) (sx_ite (p := fun l => sx_iOk prog_5_method_1_code l) (sx_ite (p := fun l => sx_iOk prog_5_method_1_code l) (sx_iB_s aJ_1_3) (sx_iB_s aJ_1_4)) (sx_ite (p := fun l => sx_iOk prog_5_method_1_code l) (sx_iB_s aJ_1_5) (sx_iB_s aJ_1_6)))) (sx_ite (p := fun l => sx_iOk prog_5_method_1_code l) (sx_ite (p := fun l => sx_iOk prog_5_method_1_code l) (sx_ite (p := fun l => sx_iOk prog_5_method_1_code l) (sx_iB_s aJ_1_7) (sx_iB_s aJ_1_8)) (sx_ite (p := fun l => sx_iOk prog_5_method_1_code l) (sx_iB_s aJ_1_9) (sx_iB_s aJ_1_10))) (sx_ite (p := fun l => sx_iOk prog_5_method_1_code l) (sx_ite (p := fun l => sx_iOk prog_5_method_1_code l) (sx_iB_s aJ_1_11) (sx_iB_s aJ_1_12)) (sx_ite (p := fun l => sx_iOk prog_5_method_1_code l) (sx_iB_s aJ_1_13) (sx_iB_s aJ_1_14)))))
def aU_1 (y pc : Nat) : Option (Instr × Nat) := if y = 1 then sx_iF (aS_1 pc) pc else none
set_option maxRecDepth 100000 in
theorem aV0_1 (y : Nat) : sx_P1 (aU_1 y) y := by
  intro pc r h mt hm
  unfold aU_1 at h
  split at h
  · rename_i hy
    subst hy
    have e : aM_1.1 = mt := Option.some.inj (show some aM_1.1 = some mt from hm)
    subst e
    exact sx_iF_s (aT_1 pc) h
  · cases h
def aS_2 (pc : Nat) : sx_IL := aI_2_0
theorem aT_2 (pc : Nat) : sx_iOk prog_6_method_1_code (aS_2 pc) := (sx_iB_s aJ_2_0)
def aU_2 (y pc : Nat) : Option (Instr × Nat) := if y = 2 then sx_iF (aS_2 pc) pc else none
set_option maxRecDepth 100000 in
theorem aV0_2 (y : Nat) : sx_P1 (aU_2 y) y := by
  intro pc r h mt hm
  unfold aU_2 at h
  split at h
  · rename_i hy
    subst hy
    have e : aM_2.1 = mt := Option.some.inj (show some aM_2.1 = some mt from hm)
    subst e
    exact sx_iF_s (aT_2 pc) h
  · cases h
def aS_3 (pc : Nat) : sx_IL := (if pc < 11 then aI_3_0 else aI_3_1)
theorem aT_3 (pc : Nat) : sx_iOk prog_9_method_1_code (aS_3 pc) := (sx_ite (p := fun l => sx_iOk prog_9_method_1_code l) (sx_iB_s aJ_3_0) (sx_iB_s aJ_3_1))
def aU_3 (y pc : Nat) : Option (Instr × Nat) := if y = 3 then sx_iF (aS_3 pc) pc else none
set_option maxRecDepth 100000 in
theorem aV0_3 (y : Nat) : sx_P1 (aU_3 y) y := by
  intro pc r h mt hm
  unfold aU_3 at h
  split at h
  · rename_i hy
    subst hy
    have e : aM_3.1 = mt := Option.some.inj (show some aM_3.1 = some mt from hm)
    subst e
    exact sx_iF_s (aT_3 pc) h
  · cases h
def aS_4 (pc : Nat) : sx_IL := (if pc < 11 then aI_4_0 else (if pc < 22 then aI_4_1 else aI_4_2))
theorem aT_4 (pc : Nat) : sx_iOk prog_4_method_1_code (aS_4 pc) := (sx_ite (p := fun l => sx_iOk prog_4_method_1_code l) (sx_iB_s aJ_4_0) (sx_ite (p := fun l => sx_iOk prog_4_method_1_code l) (sx_iB_s aJ_4_1) (sx_iB_s aJ_4_2)))
def aU_4 (y pc : Nat) : Option (Instr × Nat) := if y = 4 then sx_iF (aS_4 pc) pc else none
set_option maxRecDepth 100000 in
theorem aV0_4 (y : Nat) : sx_P1 (aU_4 y) y := by
  intro pc r h mt hm
  unfold aU_4 at h
  split at h
  · rename_i hy
    subst hy
    have e : aM_4.1 = mt := Option.some.inj (show some aM_4.1 = some mt from hm)
    subst e
    exact sx_iF_s (aT_4 pc) h
  · cases h
def aS_5 (pc : Nat) : sx_IL := (if pc < 22 then (if pc < 12 then aI_5_0 else aI_5_1) else (if pc < 33 then aI_5_2 else aI_5_3))
theorem aT_5 (pc : Nat) : sx_iOk prog_8_method_1_code (aS_5 pc) := (sx_ite (p := fun l => sx_iOk prog_8_method_1_code l) (sx_ite (p := fun l => sx_iOk prog_8_method_1_code l) (sx_iB_s aJ_5_0) (sx_iB_s aJ_5_1)) (sx_ite (p := fun l => sx_iOk prog_8_method_1_code l) (sx_iB_s aJ_5_2) (sx_iB_s aJ_5_3)))
def aU_5 (y pc : Nat) : Option (Instr × Nat) := if y = 5 then sx_iF (aS_5 pc) pc else none
set_option maxRecDepth 100000 in
theorem aV0_5 (y : Nat) : sx_P1 (aU_5 y) y := by
  intro pc r h mt hm
  unfold aU_5 at h
  split at h
  · rename_i hy
    subst hy
    have e : aM_5.1 = mt := Option.some.inj (show some aM_5.1 = some mt from hm)
    subst e
    exact sx_iF_s (aT_5 pc) h
  · cases h
def aS_6 (pc : Nat) : sx_IL := (if pc < 32 then (if pc < 11 then aI_6_0 else (if pc < 21 then aI_6_1 else aI_6_2)) else (if pc < 52 then (if pc < 42 then aI_6_3 else aI_6_4) else (if pc < 66 then aI_6_5 else aI_6_6)))
theorem aT_6 (pc : Nat) : sx_iOk prog_1_method_2_code (aS_6 pc) := (sx_ite (p := fun l => sx_iOk prog_1_method_2_code l) (sx_ite (p := fun l => sx_iOk prog_1_method_2_code l) (sx_iB_s aJ_6_0) (sx_ite (p := fun l => sx_iOk prog_1_method_2_code l) (sx_iB_s aJ_6_1) (sx_iB_s aJ_6_2))) (sx_ite (p := fun l => sx_iOk prog_1_method_2_code l) (sx_ite (p := fun l => sx_iOk prog_1_method_2_code l) (sx_iB_s aJ_6_3) (sx_iB_s aJ_6_4)) (sx_ite (p := fun l => sx_iOk prog_1_method_2_code l) (sx_iB_s aJ_6_5) (sx_iB_s aJ_6_6))))
def aU_6 (y pc : Nat) : Option (Instr × Nat) := if y = 6 then sx_iF (aS_6 pc) pc else none
set_option maxRecDepth 100000 in
theorem aV0_6 (y : Nat) : sx_P1 (aU_6 y) y := by
  intro pc r h mt hm
  unfold aU_6 at h
  split at h
  · rename_i hy
    subst hy
    have e : aM_6.1 = mt := Option.some.inj (show some aM_6.1 = some mt from hm)
    subst e
    exact sx_iF_s (aT_6 pc) h
  · cases h
def aS_7 (pc : Nat) : sx_IL := (if pc < 33 then (if pc < 11 then aI_7_0 else (if pc < 23 then aI_7_1 else aI_7_2)) else (if pc < 45 then aI_7_3 else (if pc < 55 then aI_7_4 else aI_7_5)))
theorem aT_7 (pc : Nat) : sx_iOk prog_9_method_7_code (aS_7 pc) := (sx_ite (p := fun l => sx_iOk prog_9_method_7_code l) (sx_ite (p := fun l => sx_iOk prog_9_method_7_code l) (sx_iB_s aJ_7_0) (sx_ite (p := fun l => sx_iOk prog_9_method_7_code l) (sx_iB_s aJ_7_1) (sx_iB_s aJ_7_2))) (sx_ite (p := fun l => sx_iOk prog_9_method_7_code l) (sx_iB_s aJ_7_3) (sx_ite (p := fun l => sx_iOk prog_9_method_7_code l) (sx_iB_s aJ_7_4) (sx_iB_s aJ_7_5))))
def aU_7 (y pc : Nat) : Option (Instr × Nat) := if y = 7 then sx_iF (aS_7 pc) pc else none
set_option maxRecDepth 100000 in
theorem aV0_7 (y : Nat) : sx_P1 (aU_7 y) y := by
  intro pc r h mt hm
  unfold aU_7 at h
  split at h
  · rename_i hy
    subst hy
    have e : aM_7.1 = mt := Option.some.inj (show some aM_7.1 = some mt from hm)
    subst e
    exact sx_iF_s (aT_7 pc) h
  · cases h
def aS_8 (pc : Nat) : sx_IL := (if pc < 19 then (if pc < 10 then aI_8_0 else aI_8_1) else (if pc < 25 then aI_8_2 else aI_8_3))
theorem aT_8 (pc : Nat) : sx_iOk prog_18_method_123_code (aS_8 pc) := (sx_ite (p := fun l => sx_iOk prog_18_method_123_code l) (sx_ite (p := fun l => sx_iOk prog_18_method_123_code l) (sx_iB_s aJ_8_0) (sx_iB_s aJ_8_1)) (sx_ite (p := fun l => sx_iOk prog_18_method_123_code l) (sx_iB_s aJ_8_2) (sx_iB_s aJ_8_3)))
def aU_8 (y pc : Nat) : Option (Instr × Nat) := if y = 8 then sx_iF (aS_8 pc) pc else none
set_option maxRecDepth 100000 in
theorem aV0_8 (y : Nat) : sx_P1 (aU_8 y) y := by
  intro pc r h mt hm
  unfold aU_8 at h
  split at h
  · rename_i hy
    subst hy
    have e : aM_8.1 = mt := Option.some.inj (show some aM_8.1 = some mt from hm)
    subst e
    exact sx_iF_s (aT_8 pc) h
  · cases h
def aS_9 (pc : Nat) : sx_IL := (if pc < 24 then (if pc < 12 then aI_9_0 else aI_9_1) else (if pc < 32 then aI_9_2 else aI_9_3))
theorem aT_9 (pc : Nat) : sx_iOk prog_1_method_3_code (aS_9 pc) := (sx_ite (p := fun l => sx_iOk prog_1_method_3_code l) (sx_ite (p := fun l => sx_iOk prog_1_method_3_code l) (sx_iB_s aJ_9_0) (sx_iB_s aJ_9_1)) (sx_ite (p := fun l => sx_iOk prog_1_method_3_code l) (sx_iB_s aJ_9_2) (sx_iB_s aJ_9_3)))
def aU_9 (y pc : Nat) : Option (Instr × Nat) := if y = 9 then sx_iF (aS_9 pc) pc else none
set_option maxRecDepth 100000 in
theorem aV0_9 (y : Nat) : sx_P1 (aU_9 y) y := by
  intro pc r h mt hm
  unfold aU_9 at h
  split at h
  · rename_i hy
    subst hy
    have e : aM_9.1 = mt := Option.some.inj (show some aM_9.1 = some mt from hm)
    subst e
    exact sx_iF_s (aT_9 pc) h
  · cases h
def aS_10 (pc : Nat) : sx_IL := (if pc < 20 then (if pc < 10 then aI_10_0 else aI_10_1) else (if pc < 34 then aI_10_2 else aI_10_3))
theorem aT_10 (pc : Nat) : sx_iOk prog_1_method_4_code (aS_10 pc) := (sx_ite (p := fun l => sx_iOk prog_1_method_4_code l) (sx_ite (p := fun l => sx_iOk prog_1_method_4_code l) (sx_iB_s aJ_10_0) (sx_iB_s aJ_10_1)) (sx_ite (p := fun l => sx_iOk prog_1_method_4_code l) (sx_iB_s aJ_10_2) (sx_iB_s aJ_10_3)))
def aU_10 (y pc : Nat) : Option (Instr × Nat) := if y = 10 then sx_iF (aS_10 pc) pc else none
set_option maxRecDepth 100000 in
theorem aV0_10 (y : Nat) : sx_P1 (aU_10 y) y := by
  intro pc r h mt hm
  unfold aU_10 at h
  split at h
  · rename_i hy
    subst hy
    have e : aM_10.1 = mt := Option.some.inj (show some aM_10.1 = some mt from hm)
    subst e
    exact sx_iF_s (aT_10 pc) h
  · cases h
def aS_11 (pc : Nat) : sx_IL := (if pc < 12 then aI_11_0 else (if pc < 22 then aI_11_1 else aI_11_2))
theorem aT_11 (pc : Nat) : sx_iOk prog_9_method_3_code (aS_11 pc) := (sx_ite (p := fun l => sx_iOk prog_9_method_3_code l) (sx_iB_s aJ_11_0) (sx_ite (p := fun l => sx_iOk prog_9_method_3_code l) (sx_iB_s aJ_11_1) (sx_iB_s aJ_11_2)))
def aU_11 (y pc : Nat) : Option (Instr × Nat) := if y = 11 then sx_iF (aS_11 pc) pc else none
set_option maxRecDepth 100000 in
theorem aV0_11 (y : Nat) : sx_P1 (aU_11 y) y := by
  intro pc r h mt hm
  unfold aU_11 at h
  split at h
  · rename_i hy
    subst hy
    have e : aM_11.1 = mt := Option.some.inj (show some aM_11.1 = some mt from hm)
    subst e
    exact sx_iF_s (aT_11 pc) h
  · cases h
def aS_12 (pc : Nat) : sx_IL := (if pc < 25 then (if pc < 14 then aI_12_0 else aI_12_1) else (if pc < 37 then aI_12_2 else (if pc < 53 then aI_12_3 else aI_12_4)))
theorem aT_12 (pc : Nat) : sx_iOk prog_1_method_5_code (aS_12 pc) := (sx_ite (p := fun l => sx_iOk prog_1_method_5_code l) (sx_ite (p := fun l => sx_iOk prog_1_method_5_code l) (sx_iB_s aJ_12_0) (sx_iB_s aJ_12_1)) (sx_ite (p := fun l => sx_iOk prog_1_method_5_code l) (sx_iB_s aJ_12_2) (sx_ite (p := fun l => sx_iOk prog_1_method_5_code l) (sx_iB_s aJ_12_3) (sx_iB_s aJ_12_4))))
def aU_12 (y pc : Nat) : Option (Instr × Nat) := if y = 12 then sx_iF (aS_12 pc) pc else none
set_option maxRecDepth 100000 in
theorem aV0_12 (y : Nat) : sx_P1 (aU_12 y) y := by
  intro pc r h mt hm
  unfold aU_12 at h
  split at h
  · rename_i hy
    subst hy
    have e : aM_12.1 = mt := Option.some.inj (show some aM_12.1 = some mt from hm)
    subst e
    exact sx_iF_s (aT_12 pc) h
  · cases h
def aS_13 (pc : Nat) : sx_IL := (if pc < 47 then (if pc < 20 then (if pc < 10 then aI_13_0 else aI_13_1) else (if pc < 29 then aI_13_2 else (if pc < 37 then aI_13_3 else aI_13_4))) else (if pc < 77 then (if pc < 57 then aI_13_5 else (if pc < 65 then aI_13_6 else aI_13_7)) else (if pc < 87 then aI_13_8 else (if pc < 97 then aI_13_9 else aI_13_10))))
theorem aT_13 (pc : Nat) : sx_iOk prog_9_method_12_code (aS_13 pc) := (sx_ite (p := fun l => sx_iOk prog_9_method_12_code l) (sx_ite (p := fun l => sx_iOk prog_9_method_12_code l) (sx_ite (p := fun l => sx_iOk prog_9_method_12_code l) (sx_iB_s aJ_13_0) (sx_iB_s aJ_13_1)) (sx_ite (p := fun l => sx_iOk prog_9_method_12_code l) (sx_iB_s aJ_13_2) (sx_ite (p := fun l => sx_iOk prog_9_method_12_code l) (sx_iB_s aJ_13_3) (sx_iB_s aJ_13_4)))) (sx_ite (p := fun l => sx_iOk prog_9_method_12_code l) (sx_ite (p := fun l => sx_iOk prog_9_method_12_code l) (sx_iB_s aJ_13_5) (sx_ite (p := fun l => sx_iOk prog_9_method_12_code l) (sx_iB_s aJ_13_6) (sx_iB_s aJ_13_7))) (sx_ite (p := fun l => sx_iOk prog_9_method_12_code l) (sx_iB_s aJ_13_8) (sx_ite (p := fun l => sx_iOk prog_9_method_12_code l) (sx_iB_s aJ_13_9) (sx_iB_s aJ_13_10)))))
def aU_13 (y pc : Nat) : Option (Instr × Nat) := if y = 13 then sx_iF (aS_13 pc) pc else none
set_option maxRecDepth 100000 in
theorem aV0_13 (y : Nat) : sx_P1 (aU_13 y) y := by
  intro pc r h mt hm
  unfold aU_13 at h
  split at h
  · rename_i hy
    subst hy
    have e : aM_13.1 = mt := Option.some.inj (show some aM_13.1 = some mt from hm)
    subst e
    exact sx_iF_s (aT_13 pc) h
  · cases h
def aS_14 (pc : Nat) : sx_IL := (if pc < 22 then (if pc < 11 then aI_14_0 else aI_14_1) else (if pc < 33 then aI_14_2 else (if pc < 43 then aI_14_3 else aI_14_4)))
theorem aT_14 (pc : Nat) : sx_iOk prog_1_method_6_code (aS_14 pc) := (sx_ite (p := fun l => sx_iOk prog_1_method_6_code l) (sx_ite (p := fun l => sx_iOk prog_1_method_6_code l) (sx_iB_s aJ_14_0) (sx_iB_s aJ_14_1)) (sx_ite (p := fun l => sx_iOk prog_1_method_6_code l) (sx_iB_s aJ_14_2) (sx_ite (p := fun l => sx_iOk prog_1_method_6_code l) (sx_iB_s aJ_14_3) (sx_iB_s aJ_14_4))))
def aU_14 (y pc : Nat) : Option (Instr × Nat) := if y = 14 then sx_iF (aS_14 pc) pc else none
set_option maxRecDepth 100000 in
theorem aV0_14 (y : Nat) : sx_P1 (aU_14 y) y := by
  intro pc r h mt hm
  unfold aU_14 at h
  split at h
  · rename_i hy
    subst hy
    have e : aM_14.1 = mt := Option.some.inj (show some aM_14.1 = some mt from hm)
    subst e
    exact sx_iF_s (aT_14 pc) h
  · cases h
def aS_15 (pc : Nat) : sx_IL := (if pc < 26 then (if pc < 12 then aI_15_0 else aI_15_1) else (if pc < 38 then aI_15_2 else aI_15_3))
theorem aT_15 (pc : Nat) : sx_iOk prog_1_method_7_code (aS_15 pc) := (sx_ite (p := fun l => sx_iOk prog_1_method_7_code l) (sx_ite (p := fun l => sx_iOk prog_1_method_7_code l) (sx_iB_s aJ_15_0) (sx_iB_s aJ_15_1)) (sx_ite (p := fun l => sx_iOk prog_1_method_7_code l) (sx_iB_s aJ_15_2) (sx_iB_s aJ_15_3)))
def aU_15 (y pc : Nat) : Option (Instr × Nat) := if y = 15 then sx_iF (aS_15 pc) pc else none
set_option maxRecDepth 100000 in
theorem aV0_15 (y : Nat) : sx_P1 (aU_15 y) y := by
  intro pc r h mt hm
  unfold aU_15 at h
  split at h
  · rename_i hy
    subst hy
    have e : aM_15.1 = mt := Option.some.inj (show some aM_15.1 = some mt from hm)
    subst e
    exact sx_iF_s (aT_15 pc) h
  · cases h
def aS_16 (pc : Nat) : sx_IL := (if pc < 10 then aI_16_0 else aI_16_1)
theorem aT_16 (pc : Nat) : sx_iOk prog_1_method_17_code (aS_16 pc) := (sx_ite (p := fun l => sx_iOk prog_1_method_17_code l) (sx_iB_s aJ_16_0) (sx_iB_s aJ_16_1))
def aU_16 (y pc : Nat) : Option (Instr × Nat) := if y = 16 then sx_iF (aS_16 pc) pc else none
set_option maxRecDepth 100000 in
theorem aV0_16 (y : Nat) : sx_P1 (aU_16 y) y := by
  intro pc r h mt hm
  unfold aU_16 at h
  split at h
  · rename_i hy
    subst hy
    have e : aM_16.1 = mt := Option.some.inj (show some aM_16.1 = some mt from hm)
    subst e
    exact sx_iF_s (aT_16 pc) h
  · cases h
def aS_17 (pc : Nat) : sx_IL := (if pc < 8 then aI_17_0 else aI_17_1)
theorem aT_17 (pc : Nat) : sx_iOk prog_6_method_12_code (aS_17 pc) := (sx_ite (p := fun l => sx_iOk prog_6_method_12_code l) (sx_iB_s aJ_17_0) (sx_iB_s aJ_17_1))
def aU_17 (y pc : Nat) : Option (Instr × Nat) := if y = 17 then sx_iF (aS_17 pc) pc else none
set_option maxRecDepth 100000 in
theorem aV0_17 (y : Nat) : sx_P1 (aU_17 y) y := by
  intro pc r h mt hm
  unfold aU_17 at h
  split at h
  · rename_i hy
    subst hy
    have e : aM_17.1 = mt := Option.some.inj (show some aM_17.1 = some mt from hm)
    subst e
    exact sx_iF_s (aT_17 pc) h
  · cases h
def aS_18 (pc : Nat) : sx_IL := (if pc < 16 then (if pc < 8 then aI_18_0 else aI_18_1) else (if pc < 24 then aI_18_2 else aI_18_3))
theorem aT_18 (pc : Nat) : sx_iOk prog_6_method_4_code (aS_18 pc) := (sx_ite (p := fun l => sx_iOk prog_6_method_4_code l) (sx_ite (p := fun l => sx_iOk prog_6_method_4_code l) (sx_iB_s aJ_18_0) (sx_iB_s aJ_18_1)) (sx_ite (p := fun l => sx_iOk prog_6_method_4_code l) (sx_iB_s aJ_18_2) (sx_iB_s aJ_18_3)))
def aU_18 (y pc : Nat) : Option (Instr × Nat) := if y = 18 then sx_iF (aS_18 pc) pc else none
set_option maxRecDepth 100000 in
theorem aV0_18 (y : Nat) : sx_P1 (aU_18 y) y := by
  intro pc r h mt hm
  unfold aU_18 at h
  split at h
  · rename_i hy
    subst hy
    have e : aM_18.1 = mt := Option.some.inj (show some aM_18.1 = some mt from hm)
    subst e
    exact sx_iF_s (aT_18 pc) h
  · cases h
def aS_19 (pc : Nat) : sx_IL := (if pc < 29 then (if pc < 10 then aI_19_0 else (if pc < 20 then aI_19_1 else aI_19_2)) else (if pc < 48 then (if pc < 38 then aI_19_3 else aI_19_4) else (if pc < 59 then aI_19_5 else aI_19_6)))
theorem aT_19 (pc : Nat) : sx_iOk prog_6_method_10_code (aS_19 pc) := (sx_ite (p := fun l => sx_iOk prog_6_method_10_code l) (sx_ite (p := fun l => sx_iOk prog_6_method_10_code l) (sx_iB_s aJ_19_0) (sx_ite (p := fun l => sx_iOk prog_6_method_10_code l) (sx_iB_s aJ_19_1) (sx_iB_s aJ_19_2))) (sx_ite (p := fun l => sx_iOk prog_6_method_10_code l) (sx_ite (p := fun l => sx_iOk prog_6_method_10_code l) (sx_iB_s aJ_19_3) (sx_iB_s aJ_19_4)) (sx_ite (p := fun l => sx_iOk prog_6_method_10_code l) (sx_iB_s aJ_19_5) (sx_iB_s aJ_19_6))))
def aU_19 (y pc : Nat) : Option (Instr × Nat) := if y = 19 then sx_iF (aS_19 pc) pc else none
set_option maxRecDepth 100000 in
theorem aV0_19 (y : Nat) : sx_P1 (aU_19 y) y := by
  intro pc r h mt hm
  unfold aU_19 at h
  split at h
  · rename_i hy
    subst hy
    have e : aM_19.1 = mt := Option.some.inj (show some aM_19.1 = some mt from hm)
    subst e
    exact sx_iF_s (aT_19 pc) h
  · cases h
def aS_20 (pc : Nat) : sx_IL := (if pc < 89 then (if pc < 39 then (if pc < 17 then (if pc < 9 then aI_20_0 else aI_20_1) else (if pc < 27 then aI_20_2 else aI_20_3)) else (if pc < 58 then (if pc < 49 then aI_20_4 else aI_20_5) else (if pc < 68 then aI_20_6 else (if pc < 78 then aI_20_7 else aI_20_8)))) else (if pc < 126 then (if pc < 106 then (if pc < 97 then aI_20_9 else aI_20_10) else (if pc < 115 then aI_20_11 else aI_20_12)) else (if pc < 145 then (if pc < 136 then aI_20_13 else aI_20_14) else (if pc < 156 then aI_20_15 else (if pc < 167 then aI_20_16 else aI_20_17)))))
theorem aT_20 (pc : Nat) : sx_iOk prog_6_method_6_code (aS_20 pc) := (sx_ite (p := fun l => sx_iOk prog_6_method_6_code l) (sx_ite (p := fun l => sx_iOk prog_6_method_6_code l) (sx_ite (p := fun l => sx_iOk prog_6_method_6_code l) (sx_ite (p := fun l => sx_iOk prog_6_method_6_code l) (sx_iB_s aJ_20_0) (sx_iB_s aJ_20_1)) (sx_ite (p := fun l => sx_iOk prog_6_method_6_code l) (sx_iB_s aJ_20_2) (sx_iB_s aJ_20_3))) (sx_ite (p := fun l => sx_iOk prog_6_method_6_code l) (sx_ite (p := fun l => sx_iOk prog_6_method_6_code l) (sx_iB_s aJ_20_4) (sx_iB_s aJ_20_5)) (sx_ite (p := fun l => sx_iOk prog_6_method_6_code l) (sx_iB_s aJ_20_6) (sx_ite (p := fun l => sx_iOk prog_6_method_6_code l) (sx_iB_s aJ_20_7) (sx_iB_s aJ_20_8))))) (sx_ite (p := fun l => sx_iOk prog_6_method_6_code l) (sx_ite (p := fun l => sx_iOk prog_6_method_6_code l) (sx_ite (p := fun l => sx_iOk prog_6_method_6_code l) (sx_iB_s aJ_20_9) (sx_iB_s aJ_20_10)) (sx_ite (p := fun l => sx_iOk prog_6_method_6_code l) (sx_iB_s aJ_20_11) (sx_iB_s aJ_20_12))) (sx_ite (p := fun l => sx_iOk prog_6_method_6_code l) (sx_ite (p := fun l => sx_iOk prog_6_method_6_code l) (sx_iB_s aJ_20_13) (sx_iB_s aJ_20_14)) (sx_ite (p := fun l => sx_iOk prog_6_method_6_code l) (sx_iB_s aJ_20_15) (sx_ite (p := fun l => sx_iOk prog_6_method_6_code l) (sx_iB_s aJ_20_16) (sx_iB_s aJ_20_17))))))
def aU_20 (y pc : Nat) : Option (Instr × Nat) := if y = 20 then sx_iF (aS_20 pc) pc else none
set_option maxRecDepth 100000 in
theorem aV0_20 (y : Nat) : sx_P1 (aU_20 y) y := by
  intro pc r h mt hm
  unfold aU_20 at h
  split at h
  · rename_i hy
    subst hy
    have e : aM_20.1 = mt := Option.some.inj (show some aM_20.1 = some mt from hm)
    subst e
    exact sx_iF_s (aT_20 pc) h
  · cases h
def aS_21 (pc : Nat) : sx_IL := (if pc < 22 then (if pc < 11 then aI_21_0 else aI_21_1) else (if pc < 30 then aI_21_2 else (if pc < 42 then aI_21_3 else aI_21_4)))
theorem aT_21 (pc : Nat) : sx_iOk prog_6_method_11_code (aS_21 pc) := (sx_ite (p := fun l => sx_iOk prog_6_method_11_code l) (sx_ite (p := fun l => sx_iOk prog_6_method_11_code l) (sx_iB_s aJ_21_0) (sx_iB_s aJ_21_1)) (sx_ite (p := fun l => sx_iOk prog_6_method_11_code l) (sx_iB_s aJ_21_2) (sx_ite (p := fun l => sx_iOk prog_6_method_11_code l) (sx_iB_s aJ_21_3) (sx_iB_s aJ_21_4))))
def aU_21 (y pc : Nat) : Option (Instr × Nat) := if y = 21 then sx_iF (aS_21 pc) pc else none
set_option maxRecDepth 100000 in
theorem aV0_21 (y : Nat) : sx_P1 (aU_21 y) y := by
  intro pc r h mt hm
  unfold aU_21 at h
  split at h
  · rename_i hy
    subst hy
    have e : aM_21.1 = mt := Option.some.inj (show some aM_21.1 = some mt from hm)
    subst e
    exact sx_iF_s (aT_21 pc) h
  · cases h
def aS_22 (pc : Nat) : sx_IL := (if pc < 10 then aI_22_0 else (if pc < 21 then aI_22_1 else aI_22_2))
theorem aT_22 (pc : Nat) : sx_iOk prog_6_method_7_code (aS_22 pc) := (sx_ite (p := fun l => sx_iOk prog_6_method_7_code l) (sx_iB_s aJ_22_0) (sx_ite (p := fun l => sx_iOk prog_6_method_7_code l) (sx_iB_s aJ_22_1) (sx_iB_s aJ_22_2)))
def aU_22 (y pc : Nat) : Option (Instr × Nat) := if y = 22 then sx_iF (aS_22 pc) pc else none
set_option maxRecDepth 100000 in
theorem aV0_22 (y : Nat) : sx_P1 (aU_22 y) y := by
  intro pc r h mt hm
  unfold aU_22 at h
  split at h
  · rename_i hy
    subst hy
    have e : aM_22.1 = mt := Option.some.inj (show some aM_22.1 = some mt from hm)
    subst e
    exact sx_iF_s (aT_22 pc) h
  · cases h
def aS_23 (pc : Nat) : sx_IL := aI_23_0
theorem aT_23 (pc : Nat) : sx_iOk prog_9_method_2_code (aS_23 pc) := (sx_iB_s aJ_23_0)
def aU_23 (y pc : Nat) : Option (Instr × Nat) := if y = 23 then sx_iF (aS_23 pc) pc else none
set_option maxRecDepth 100000 in
theorem aV0_23 (y : Nat) : sx_P1 (aU_23 y) y := by
  intro pc r h mt hm
  unfold aU_23 at h
  split at h
  · rename_i hy
    subst hy
    have e : aM_23.1 = mt := Option.some.inj (show some aM_23.1 = some mt from hm)
    subst e
    exact sx_iF_s (aT_23 pc) h
  · cases h
def aS_24 (pc : Nat) : sx_IL := (if pc < 24 then (if pc < 12 then aI_24_0 else aI_24_1) else (if pc < 38 then aI_24_2 else aI_24_3))
theorem aT_24 (pc : Nat) : sx_iOk prog_1_method_8_code (aS_24 pc) := (sx_ite (p := fun l => sx_iOk prog_1_method_8_code l) (sx_ite (p := fun l => sx_iOk prog_1_method_8_code l) (sx_iB_s aJ_24_0) (sx_iB_s aJ_24_1)) (sx_ite (p := fun l => sx_iOk prog_1_method_8_code l) (sx_iB_s aJ_24_2) (sx_iB_s aJ_24_3)))
def aU_24 (y pc : Nat) : Option (Instr × Nat) := if y = 24 then sx_iF (aS_24 pc) pc else none
set_option maxRecDepth 100000 in
theorem aV0_24 (y : Nat) : sx_P1 (aU_24 y) y := by
  intro pc r h mt hm
  unfold aU_24 at h
  split at h
  · rename_i hy
    subst hy
    have e : aM_24.1 = mt := Option.some.inj (show some aM_24.1 = some mt from hm)
    subst e
    exact sx_iF_s (aT_24 pc) h
  · cases h
def aS_25 (pc : Nat) : sx_IL := (if pc < 9 then aI_25_0 else (if pc < 19 then aI_25_1 else aI_25_2))
theorem aT_25 (pc : Nat) : sx_iOk prog_6_method_15_code (aS_25 pc) := (sx_ite (p := fun l => sx_iOk prog_6_method_15_code l) (sx_iB_s aJ_25_0) (sx_ite (p := fun l => sx_iOk prog_6_method_15_code l) (sx_iB_s aJ_25_1) (sx_iB_s aJ_25_2)))
def aU_25 (y pc : Nat) : Option (Instr × Nat) := if y = 25 then sx_iF (aS_25 pc) pc else none
set_option maxRecDepth 100000 in
theorem aV0_25 (y : Nat) : sx_P1 (aU_25 y) y := by
  intro pc r h mt hm
  unfold aU_25 at h
  split at h
  · rename_i hy
    subst hy
    have e : aM_25.1 = mt := Option.some.inj (show some aM_25.1 = some mt from hm)
    subst e
    exact sx_iF_s (aT_25 pc) h
  · cases h
def aS_26 (pc : Nat) : sx_IL := (if pc < 10 then aI_26_0 else aI_26_1)
theorem aT_26 (pc : Nat) : sx_iOk prog_6_method_14_code (aS_26 pc) := (sx_ite (p := fun l => sx_iOk prog_6_method_14_code l) (sx_iB_s aJ_26_0) (sx_iB_s aJ_26_1))
def aU_26 (y pc : Nat) : Option (Instr × Nat) := if y = 26 then sx_iF (aS_26 pc) pc else none
set_option maxRecDepth 100000 in
theorem aV0_26 (y : Nat) : sx_P1 (aU_26 y) y := by
  intro pc r h mt hm
  unfold aU_26 at h
  split at h
  · rename_i hy
    subst hy
    have e : aM_26.1 = mt := Option.some.inj (show some aM_26.1 = some mt from hm)
    subst e
    exact sx_iF_s (aT_26 pc) h
  · cases h
def aS_27 (pc : Nat) : sx_IL := (if pc < 21 then (if pc < 10 then aI_27_0 else aI_27_1) else (if pc < 34 then aI_27_2 else (if pc < 44 then aI_27_3 else aI_27_4)))
theorem aT_27 (pc : Nat) : sx_iOk prog_6_method_13_code (aS_27 pc) := (sx_ite (p := fun l => sx_iOk prog_6_method_13_code l) (sx_ite (p := fun l => sx_iOk prog_6_method_13_code l) (sx_iB_s aJ_27_0) (sx_iB_s aJ_27_1)) (sx_ite (p := fun l => sx_iOk prog_6_method_13_code l) (sx_iB_s aJ_27_2) (sx_ite (p := fun l => sx_iOk prog_6_method_13_code l) (sx_iB_s aJ_27_3) (sx_iB_s aJ_27_4))))
def aU_27 (y pc : Nat) : Option (Instr × Nat) := if y = 27 then sx_iF (aS_27 pc) pc else none
set_option maxRecDepth 100000 in
theorem aV0_27 (y : Nat) : sx_P1 (aU_27 y) y := by
  intro pc r h mt hm
  unfold aU_27 at h
  split at h
  · rename_i hy
    subst hy
    have e : aM_27.1 = mt := Option.some.inj (show some aM_27.1 = some mt from hm)
    subst e
    exact sx_iF_s (aT_27 pc) h
  · cases h
def aS_28 (pc : Nat) : sx_IL := (if pc < 28 then (if pc < 14 then aI_28_0 else aI_28_1) else (if pc < 40 then aI_28_2 else aI_28_3))
theorem aT_28 (pc : Nat) : sx_iOk prog_1_method_9_code (aS_28 pc) := (sx_ite (p := fun l => sx_iOk prog_1_method_9_code l) (sx_ite (p := fun l => sx_iOk prog_1_method_9_code l) (sx_iB_s aJ_28_0) (sx_iB_s aJ_28_1)) (sx_ite (p := fun l => sx_iOk prog_1_method_9_code l) (sx_iB_s aJ_28_2) (sx_iB_s aJ_28_3)))
def aU_28 (y pc : Nat) : Option (Instr × Nat) := if y = 28 then sx_iF (aS_28 pc) pc else none
set_option maxRecDepth 100000 in
theorem aV0_28 (y : Nat) : sx_P1 (aU_28 y) y := by
  intro pc r h mt hm
  unfold aU_28 at h
  split at h
  · rename_i hy
    subst hy
    have e : aM_28.1 = mt := Option.some.inj (show some aM_28.1 = some mt from hm)
    subst e
    exact sx_iF_s (aT_28 pc) h
  · cases h
def aS_29 (pc : Nat) : sx_IL := (if pc < 9 then aI_29_0 else (if pc < 20 then aI_29_1 else aI_29_2))
theorem aT_29 (pc : Nat) : sx_iOk prog_6_method_17_code (aS_29 pc) := (sx_ite (p := fun l => sx_iOk prog_6_method_17_code l) (sx_iB_s aJ_29_0) (sx_ite (p := fun l => sx_iOk prog_6_method_17_code l) (sx_iB_s aJ_29_1) (sx_iB_s aJ_29_2)))
def aU_29 (y pc : Nat) : Option (Instr × Nat) := if y = 29 then sx_iF (aS_29 pc) pc else none
set_option maxRecDepth 100000 in
theorem aV0_29 (y : Nat) : sx_P1 (aU_29 y) y := by
  intro pc r h mt hm
  unfold aU_29 at h
  split at h
  · rename_i hy
    subst hy
    have e : aM_29.1 = mt := Option.some.inj (show some aM_29.1 = some mt from hm)
    subst e
    exact sx_iF_s (aT_29 pc) h
  · cases h
def aS_30 (pc : Nat) : sx_IL := (if pc < 19 then (if pc < 9 then aI_30_0 else aI_30_1) else (if pc < 29 then aI_30_2 else (if pc < 40 then aI_30_3 else aI_30_4)))
theorem aT_30 (pc : Nat) : sx_iOk prog_6_method_8_code (aS_30 pc) := (sx_ite (p := fun l => sx_iOk prog_6_method_8_code l) (sx_ite (p := fun l => sx_iOk prog_6_method_8_code l) (sx_iB_s aJ_30_0) (sx_iB_s aJ_30_1)) (sx_ite (p := fun l => sx_iOk prog_6_method_8_code l) (sx_iB_s aJ_30_2) (sx_ite (p := fun l => sx_iOk prog_6_method_8_code l) (sx_iB_s aJ_30_3) (sx_iB_s aJ_30_4))))
def aU_30 (y pc : Nat) : Option (Instr × Nat) := if y = 30 then sx_iF (aS_30 pc) pc else none
set_option maxRecDepth 100000 in
theorem aV0_30 (y : Nat) : sx_P1 (aU_30 y) y := by
  intro pc r h mt hm
  unfold aU_30 at h
  split at h
  · rename_i hy
    subst hy
    have e : aM_30.1 = mt := Option.some.inj (show some aM_30.1 = some mt from hm)
    subst e
    exact sx_iF_s (aT_30 pc) h
  · cases h
def aS_31 (pc : Nat) : sx_IL := (if pc < 29 then (if pc < 10 then aI_31_0 else (if pc < 20 then aI_31_1 else aI_31_2)) else (if pc < 37 then aI_31_3 else (if pc < 48 then aI_31_4 else aI_31_5)))
theorem aT_31 (pc : Nat) : sx_iOk prog_6_method_9_code (aS_31 pc) := (sx_ite (p := fun l => sx_iOk prog_6_method_9_code l) (sx_ite (p := fun l => sx_iOk prog_6_method_9_code l) (sx_iB_s aJ_31_0) (sx_ite (p := fun l => sx_iOk prog_6_method_9_code l) (sx_iB_s aJ_31_1) (sx_iB_s aJ_31_2))) (sx_ite (p := fun l => sx_iOk prog_6_method_9_code l) (sx_iB_s aJ_31_3) (sx_ite (p := fun l => sx_iOk prog_6_method_9_code l) (sx_iB_s aJ_31_4) (sx_iB_s aJ_31_5))))
def aU_31 (y pc : Nat) : Option (Instr × Nat) := if y = 31 then sx_iF (aS_31 pc) pc else none
set_option maxRecDepth 100000 in
theorem aV0_31 (y : Nat) : sx_P1 (aU_31 y) y := by
  intro pc r h mt hm
  unfold aU_31 at h
  split at h
  · rename_i hy
    subst hy
    have e : aM_31.1 = mt := Option.some.inj (show some aM_31.1 = some mt from hm)
    subst e
    exact sx_iF_s (aT_31 pc) h
  · cases h
def aS_32 (pc : Nat) : sx_IL := (if pc < 74 then (if pc < 35 then (if pc < 10 then aI_32_0 else (if pc < 24 then aI_32_1 else aI_32_2)) else (if pc < 46 then aI_32_3 else (if pc < 61 then aI_32_4 else aI_32_5))) else (if pc < 115 then (if pc < 87 then aI_32_6 else (if pc < 100 then aI_32_7 else aI_32_8)) else (if pc < 142 then (if pc < 128 then aI_32_9 else aI_32_10) else (if pc < 155 then aI_32_11 else aI_32_12))))
theorem aT_32 (pc : Nat) : sx_iOk prog_1_method_10_code (aS_32 pc) := (sx_ite (p := fun l => sx_iOk prog_1_method_10_code l) (sx_ite (p := fun l => sx_iOk prog_1_method_10_code l) (sx_ite (p := fun l => sx_iOk prog_1_method_10_code l) (sx_iB_s aJ_32_0) (sx_ite (p := fun l => sx_iOk prog_1_method_10_code l) (sx_iB_s aJ_32_1) (sx_iB_s aJ_32_2))) (sx_ite (p := fun l => sx_iOk prog_1_method_10_code l) (sx_iB_s aJ_32_3) (sx_ite (p := fun l => sx_iOk prog_1_method_10_code l) (sx_iB_s aJ_32_4) (sx_iB_s aJ_32_5)))) (sx_ite (p := fun l => sx_iOk prog_1_method_10_code l) (sx_ite (p := fun l => sx_iOk prog_1_method_10_code l) (sx_iB_s aJ_32_6) (sx_ite (p := fun l => sx_iOk prog_1_method_10_code l) (sx_iB_s aJ_32_7) (sx_iB_s aJ_32_8))) (sx_ite (p := fun l => sx_iOk prog_1_method_10_code l) (sx_ite (p := fun l => sx_iOk prog_1_method_10_code l) (sx_iB_s aJ_32_9) (sx_iB_s aJ_32_10)) (sx_ite (p := fun l => sx_iOk prog_1_method_10_code l) (sx_iB_s aJ_32_11) (sx_iB_s aJ_32_12)))))
def aU_32 (y pc : Nat) : Option (Instr × Nat) := if y = 32 then sx_iF (aS_32 pc) pc else none
set_option maxRecDepth 100000 in
theorem aV0_32 (y : Nat) : sx_P1 (aU_32 y) y := by
  intro pc r h mt hm
  unfold aU_32 at h
  split at h
  · rename_i hy
    subst hy
    have e : aM_32.1 = mt := Option.some.inj (show some aM_32.1 = some mt from hm)
    subst e
    exact sx_iF_s (aT_32 pc) h
  · cases h
def aS_33 (pc : Nat) : sx_IL := (if pc < 10 then aI_33_0 else aI_33_1)
theorem aT_33 (pc : Nat) : sx_iOk prog_6_method_2_code (aS_33 pc) := (sx_ite (p := fun l => sx_iOk prog_6_method_2_code l) (sx_iB_s aJ_33_0) (sx_iB_s aJ_33_1))
def aU_33 (y pc : Nat) : Option (Instr × Nat) := if y = 33 then sx_iF (aS_33 pc) pc else none
set_option maxRecDepth 100000 in
theorem aV0_33 (y : Nat) : sx_P1 (aU_33 y) y := by
  intro pc r h mt hm
  unfold aU_33 at h
  split at h
  · rename_i hy
    subst hy
    have e : aM_33.1 = mt := Option.some.inj (show some aM_33.1 = some mt from hm)
    subst e
    exact sx_iF_s (aT_33 pc) h
  · cases h
def aS_34 (pc : Nat) : sx_IL := (if pc < 64 then (if pc < 35 then (if pc < 13 then aI_34_0 else (if pc < 25 then aI_34_1 else aI_34_2)) else (if pc < 45 then aI_34_3 else (if pc < 55 then aI_34_4 else aI_34_5))) else (if pc < 95 then (if pc < 73 then aI_34_6 else (if pc < 85 then aI_34_7 else aI_34_8)) else (if pc < 104 then aI_34_9 else (if pc < 114 then aI_34_10 else aI_34_11))))
theorem aT_34 (pc : Nat) : sx_iOk prog_6_method_18_code (aS_34 pc) := (sx_ite (p := fun l => sx_iOk prog_6_method_18_code l) (sx_ite (p := fun l => sx_iOk prog_6_method_18_code l) (sx_ite (p := fun l => sx_iOk prog_6_method_18_code l) (sx_iB_s aJ_34_0) (sx_ite (p := fun l => sx_iOk prog_6_method_18_code l) (sx_iB_s aJ_34_1) (sx_iB_s aJ_34_2))) (sx_ite (p := fun l => sx_iOk prog_6_method_18_code l) (sx_iB_s aJ_34_3) (sx_ite (p := fun l => sx_iOk prog_6_method_18_code l) (sx_iB_s aJ_34_4) (sx_iB_s aJ_34_5)))) (sx_ite (p := fun l => sx_iOk prog_6_method_18_code l) (sx_ite (p := fun l => sx_iOk prog_6_method_18_code l) (sx_iB_s aJ_34_6) (sx_ite (p := fun l => sx_iOk prog_6_method_18_code l) (sx_iB_s aJ_34_7) (sx_iB_s aJ_34_8))) (sx_ite (p := fun l => sx_iOk prog_6_method_18_code l) (sx_iB_s aJ_34_9) (sx_ite (p := fun l => sx_iOk prog_6_method_18_code l) (sx_iB_s aJ_34_10) (sx_iB_s aJ_34_11)))))
def aU_34 (y pc : Nat) : Option (Instr × Nat) := if y = 34 then sx_iF (aS_34 pc) pc else none
set_option maxRecDepth 100000 in
theorem aV0_34 (y : Nat) : sx_P1 (aU_34 y) y := by
  intro pc r h mt hm
  unfold aU_34 at h
  split at h
  · rename_i hy
    subst hy
    have e : aM_34.1 = mt := Option.some.inj (show some aM_34.1 = some mt from hm)
    subst e
    exact sx_iF_s (aT_34 pc) h
  · cases h
def aS_35 (pc : Nat) : sx_IL := (if pc < 22 then (if pc < 9 then aI_35_0 else aI_35_1) else (if pc < 33 then aI_35_2 else (if pc < 45 then aI_35_3 else aI_35_4)))
theorem aT_35 (pc : Nat) : sx_iOk prog_6_method_19_code (aS_35 pc) := (sx_ite (p := fun l => sx_iOk prog_6_method_19_code l) (sx_ite (p := fun l => sx_iOk prog_6_method_19_code l) (sx_iB_s aJ_35_0) (sx_iB_s aJ_35_1)) (sx_ite (p := fun l => sx_iOk prog_6_method_19_code l) (sx_iB_s aJ_35_2) (sx_ite (p := fun l => sx_iOk prog_6_method_19_code l) (sx_iB_s aJ_35_3) (sx_iB_s aJ_35_4))))
def aU_35 (y pc : Nat) : Option (Instr × Nat) := if y = 35 then sx_iF (aS_35 pc) pc else none
set_option maxRecDepth 100000 in
theorem aV0_35 (y : Nat) : sx_P1 (aU_35 y) y := by
  intro pc r h mt hm
  unfold aU_35 at h
  split at h
  · rename_i hy
    subst hy
    have e : aM_35.1 = mt := Option.some.inj (show some aM_35.1 = some mt from hm)
    subst e
    exact sx_iF_s (aT_35 pc) h
  · cases h
def aS_36 (pc : Nat) : sx_IL := (if pc < 11 then aI_36_0 else aI_36_1)
theorem aT_36 (pc : Nat) : sx_iOk prog_6_method_3_code (aS_36 pc) := (sx_ite (p := fun l => sx_iOk prog_6_method_3_code l) (sx_iB_s aJ_36_0) (sx_iB_s aJ_36_1))
def aU_36 (y pc : Nat) : Option (Instr × Nat) := if y = 36 then sx_iF (aS_36 pc) pc else none
set_option maxRecDepth 100000 in
theorem aV0_36 (y : Nat) : sx_P1 (aU_36 y) y := by
  intro pc r h mt hm
  unfold aU_36 at h
  split at h
  · rename_i hy
    subst hy
    have e : aM_36.1 = mt := Option.some.inj (show some aM_36.1 = some mt from hm)
    subst e
    exact sx_iF_s (aT_36 pc) h
  · cases h
def aS_37 (pc : Nat) : sx_IL := (if pc < 22 then (if pc < 11 then aI_37_0 else aI_37_1) else (if pc < 31 then aI_37_2 else aI_37_3))
theorem aT_37 (pc : Nat) : sx_iOk prog_9_method_11_code (aS_37 pc) := (sx_ite (p := fun l => sx_iOk prog_9_method_11_code l) (sx_ite (p := fun l => sx_iOk prog_9_method_11_code l) (sx_iB_s aJ_37_0) (sx_iB_s aJ_37_1)) (sx_ite (p := fun l => sx_iOk prog_9_method_11_code l) (sx_iB_s aJ_37_2) (sx_iB_s aJ_37_3)))
def aU_37 (y pc : Nat) : Option (Instr × Nat) := if y = 37 then sx_iF (aS_37 pc) pc else none
set_option maxRecDepth 100000 in
theorem aV0_37 (y : Nat) : sx_P1 (aU_37 y) y := by
  intro pc r h mt hm
  unfold aU_37 at h
  split at h
  · rename_i hy
    subst hy
    have e : aM_37.1 = mt := Option.some.inj (show some aM_37.1 = some mt from hm)
    subst e
    exact sx_iF_s (aT_37 pc) h
  · cases h
def aS_38 (pc : Nat) : sx_IL := (if pc < 46 then (if pc < 24 then (if pc < 10 then aI_38_0 else aI_38_1) else (if pc < 36 then aI_38_2 else aI_38_3)) else (if pc < 74 then (if pc < 60 then aI_38_4 else aI_38_5) else (if pc < 87 then aI_38_6 else (if pc < 102 then aI_38_7 else aI_38_8))))
theorem aT_38 (pc : Nat) : sx_iOk prog_1_method_11_code (aS_38 pc) := (sx_ite (p := fun l => sx_iOk prog_1_method_11_code l) (sx_ite (p := fun l => sx_iOk prog_1_method_11_code l) (sx_ite (p := fun l => sx_iOk prog_1_method_11_code l) (sx_iB_s aJ_38_0) (sx_iB_s aJ_38_1)) (sx_ite (p := fun l => sx_iOk prog_1_method_11_code l) (sx_iB_s aJ_38_2) (sx_iB_s aJ_38_3))) (sx_ite (p := fun l => sx_iOk prog_1_method_11_code l) (sx_ite (p := fun l => sx_iOk prog_1_method_11_code l) (sx_iB_s aJ_38_4) (sx_iB_s aJ_38_5)) (sx_ite (p := fun l => sx_iOk prog_1_method_11_code l) (sx_iB_s aJ_38_6) (sx_ite (p := fun l => sx_iOk prog_1_method_11_code l) (sx_iB_s aJ_38_7) (sx_iB_s aJ_38_8)))))
def aU_38 (y pc : Nat) : Option (Instr × Nat) := if y = 38 then sx_iF (aS_38 pc) pc else none
set_option maxRecDepth 100000 in
theorem aV0_38 (y : Nat) : sx_P1 (aU_38 y) y := by
  intro pc r h mt hm
  unfold aU_38 at h
  split at h
  · rename_i hy
    subst hy
    have e : aM_38.1 = mt := Option.some.inj (show some aM_38.1 = some mt from hm)
    subst e
    exact sx_iF_s (aT_38 pc) h
  · cases h
def aS_39 (pc : Nat) : sx_IL := (if pc < 71 then (if pc < 36 then (if pc < 13 then aI_39_0 else (if pc < 25 then aI_39_1 else aI_39_2)) else (if pc < 45 then aI_39_3 else (if pc < 59 then aI_39_4 else aI_39_5))) else (if pc < 102 then (if pc < 83 then aI_39_6 else (if pc < 92 then aI_39_7 else aI_39_8)) else (if pc < 116 then aI_39_9 else (if pc < 128 then aI_39_10 else aI_39_11))))
theorem aT_39 (pc : Nat) : sx_iOk prog_6_method_20_code (aS_39 pc) := (sx_ite (p := fun l => sx_iOk prog_6_method_20_code l) (sx_ite (p := fun l => sx_iOk prog_6_method_20_code l) (sx_ite (p := fun l => sx_iOk prog_6_method_20_code l) (sx_iB_s aJ_39_0) (sx_ite (p := fun l => sx_iOk prog_6_method_20_code l) (sx_iB_s aJ_39_1) (sx_iB_s aJ_39_2))) (sx_ite (p := fun l => sx_iOk prog_6_method_20_code l) (sx_iB_s aJ_39_3) (sx_ite (p := fun l => sx_iOk prog_6_method_20_code l) (sx_iB_s aJ_39_4) (sx_iB_s aJ_39_5)))) (sx_ite (p := fun l => sx_iOk prog_6_method_20_code l) (sx_ite (p := fun l => sx_iOk prog_6_method_20_code l) (sx_iB_s aJ_39_6) (sx_ite (p := fun l => sx_iOk prog_6_method_20_code l) (sx_iB_s aJ_39_7) (sx_iB_s aJ_39_8))) (sx_ite (p := fun l => sx_iOk prog_6_method_20_code l) (sx_iB_s aJ_39_9) (sx_ite (p := fun l => sx_iOk prog_6_method_20_code l) (sx_iB_s aJ_39_10) (sx_iB_s aJ_39_11)))))
def aU_39 (y pc : Nat) : Option (Instr × Nat) := if y = 39 then sx_iF (aS_39 pc) pc else none
set_option maxRecDepth 100000 in
theorem aV0_39 (y : Nat) : sx_P1 (aU_39 y) y := by
  intro pc r h mt hm
  unfold aU_39 at h
  split at h
  · rename_i hy
    subst hy
    have e : aM_39.1 = mt := Option.some.inj (show some aM_39.1 = some mt from hm)
    subst e
    exact sx_iF_s (aT_39 pc) h
  · cases h
def aS_40 (pc : Nat) : sx_IL := (if pc < 10 then aI_40_0 else (if pc < 20 then aI_40_1 else aI_40_2))
theorem aT_40 (pc : Nat) : sx_iOk prog_1_method_12_code (aS_40 pc) := (sx_ite (p := fun l => sx_iOk prog_1_method_12_code l) (sx_iB_s aJ_40_0) (sx_ite (p := fun l => sx_iOk prog_1_method_12_code l) (sx_iB_s aJ_40_1) (sx_iB_s aJ_40_2)))
def aU_40 (y pc : Nat) : Option (Instr × Nat) := if y = 40 then sx_iF (aS_40 pc) pc else none
set_option maxRecDepth 100000 in
theorem aV0_40 (y : Nat) : sx_P1 (aU_40 y) y := by
  intro pc r h mt hm
  unfold aU_40 at h
  split at h
  · rename_i hy
    subst hy
    have e : aM_40.1 = mt := Option.some.inj (show some aM_40.1 = some mt from hm)
    subst e
    exact sx_iF_s (aT_40 pc) h
  · cases h
def aS_41 (pc : Nat) : sx_IL := (if pc < 20 then (if pc < 12 then aI_41_0 else aI_41_1) else (if pc < 30 then aI_41_2 else aI_41_3))
theorem aT_41 (pc : Nat) : sx_iOk prog_6_method_22_code (aS_41 pc) := (sx_ite (p := fun l => sx_iOk prog_6_method_22_code l) (sx_ite (p := fun l => sx_iOk prog_6_method_22_code l) (sx_iB_s aJ_41_0) (sx_iB_s aJ_41_1)) (sx_ite (p := fun l => sx_iOk prog_6_method_22_code l) (sx_iB_s aJ_41_2) (sx_iB_s aJ_41_3)))
def aU_41 (y pc : Nat) : Option (Instr × Nat) := if y = 41 then sx_iF (aS_41 pc) pc else none
set_option maxRecDepth 100000 in
theorem aV0_41 (y : Nat) : sx_P1 (aU_41 y) y := by
  intro pc r h mt hm
  unfold aU_41 at h
  split at h
  · rename_i hy
    subst hy
    have e : aM_41.1 = mt := Option.some.inj (show some aM_41.1 = some mt from hm)
    subst e
    exact sx_iF_s (aT_41 pc) h
  · cases h
def aS_42 (pc : Nat) : sx_IL := (if pc < 10 then aI_42_0 else aI_42_1)
theorem aT_42 (pc : Nat) : sx_iOk prog_6_method_23_code (aS_42 pc) := (sx_ite (p := fun l => sx_iOk prog_6_method_23_code l) (sx_iB_s aJ_42_0) (sx_iB_s aJ_42_1))
def aU_42 (y pc : Nat) : Option (Instr × Nat) := if y = 42 then sx_iF (aS_42 pc) pc else none
set_option maxRecDepth 100000 in
theorem aV0_42 (y : Nat) : sx_P1 (aU_42 y) y := by
  intro pc r h mt hm
  unfold aU_42 at h
  split at h
  · rename_i hy
    subst hy
    have e : aM_42.1 = mt := Option.some.inj (show some aM_42.1 = some mt from hm)
    subst e
    exact sx_iF_s (aT_42 pc) h
  · cases h
def aS_43 (pc : Nat) : sx_IL := (if pc < 40 then (if pc < 20 then (if pc < 10 then aI_43_0 else aI_43_1) else (if pc < 31 then aI_43_2 else aI_43_3)) else (if pc < 59 then (if pc < 49 then aI_43_4 else aI_43_5) else (if pc < 71 then aI_43_6 else aI_43_7)))
theorem aT_43 (pc : Nat) : sx_iOk prog_6_method_21_code (aS_43 pc) := (sx_ite (p := fun l => sx_iOk prog_6_method_21_code l) (sx_ite (p := fun l => sx_iOk prog_6_method_21_code l) (sx_ite (p := fun l => sx_iOk prog_6_method_21_code l) (sx_iB_s aJ_43_0) (sx_iB_s aJ_43_1)) (sx_ite (p := fun l => sx_iOk prog_6_method_21_code l) (sx_iB_s aJ_43_2) (sx_iB_s aJ_43_3))) (sx_ite (p := fun l => sx_iOk prog_6_method_21_code l) (sx_ite (p := fun l => sx_iOk prog_6_method_21_code l) (sx_iB_s aJ_43_4) (sx_iB_s aJ_43_5)) (sx_ite (p := fun l => sx_iOk prog_6_method_21_code l) (sx_iB_s aJ_43_6) (sx_iB_s aJ_43_7))))
def aU_43 (y pc : Nat) : Option (Instr × Nat) := if y = 43 then sx_iF (aS_43 pc) pc else none
set_option maxRecDepth 100000 in
theorem aV0_43 (y : Nat) : sx_P1 (aU_43 y) y := by
  intro pc r h mt hm
  unfold aU_43 at h
  split at h
  · rename_i hy
    subst hy
    have e : aM_43.1 = mt := Option.some.inj (show some aM_43.1 = some mt from hm)
    subst e
    exact sx_iF_s (aT_43 pc) h
  · cases h
def aS_44 (pc : Nat) : sx_IL := (if pc < 10 then aI_44_0 else (if pc < 22 then aI_44_1 else aI_44_2))
theorem aT_44 (pc : Nat) : sx_iOk prog_1_method_13_code (aS_44 pc) := (sx_ite (p := fun l => sx_iOk prog_1_method_13_code l) (sx_iB_s aJ_44_0) (sx_ite (p := fun l => sx_iOk prog_1_method_13_code l) (sx_iB_s aJ_44_1) (sx_iB_s aJ_44_2)))
def aU_44 (y pc : Nat) : Option (Instr × Nat) := if y = 44 then sx_iF (aS_44 pc) pc else none
set_option maxRecDepth 100000 in
theorem aV0_44 (y : Nat) : sx_P1 (aU_44 y) y := by
  intro pc r h mt hm
  unfold aU_44 at h
  split at h
  · rename_i hy
    subst hy
    have e : aM_44.1 = mt := Option.some.inj (show some aM_44.1 = some mt from hm)
    subst e
    exact sx_iF_s (aT_44 pc) h
  · cases h
def aS_45 (pc : Nat) : sx_IL := (if pc < 28 then (if pc < 12 then aI_45_0 else (if pc < 19 then aI_45_1 else aI_45_2)) else (if pc < 49 then (if pc < 36 then aI_45_3 else aI_45_4) else (if pc < 59 then aI_45_5 else aI_45_6)))
theorem aT_45 (pc : Nat) : sx_iOk prog_6_method_24_code (aS_45 pc) := (sx_ite (p := fun l => sx_iOk prog_6_method_24_code l) (sx_ite (p := fun l => sx_iOk prog_6_method_24_code l) (sx_iB_s aJ_45_0) (sx_ite (p := fun l => sx_iOk prog_6_method_24_code l) (sx_iB_s aJ_45_1) (sx_iB_s aJ_45_2))) (sx_ite (p := fun l => sx_iOk prog_6_method_24_code l) (sx_ite (p := fun l => sx_iOk prog_6_method_24_code l) (sx_iB_s aJ_45_3) (sx_iB_s aJ_45_4)) (sx_ite (p := fun l => sx_iOk prog_6_method_24_code l) (sx_iB_s aJ_45_5) (sx_iB_s aJ_45_6))))
def aU_45 (y pc : Nat) : Option (Instr × Nat) := if y = 45 then sx_iF (aS_45 pc) pc else none
set_option maxRecDepth 100000 in
theorem aV0_45 (y : Nat) : sx_P1 (aU_45 y) y := by
  intro pc r h mt hm
  unfold aU_45 at h
  split at h
  · rename_i hy
    subst hy
    have e : aM_45.1 = mt := Option.some.inj (show some aM_45.1 = some mt from hm)
    subst e
    exact sx_iF_s (aT_45 pc) h
  · cases h
def aS_46 (pc : Nat) : sx_IL := (if pc < 14 then aI_46_0 else aI_46_1)
theorem aT_46 (pc : Nat) : sx_iOk prog_1_method_14_code (aS_46 pc) := (sx_ite (p := fun l => sx_iOk prog_1_method_14_code l) (sx_iB_s aJ_46_0) (sx_iB_s aJ_46_1))
def aU_46 (y pc : Nat) : Option (Instr × Nat) := if y = 46 then sx_iF (aS_46 pc) pc else none
set_option maxRecDepth 100000 in
theorem aV0_46 (y : Nat) : sx_P1 (aU_46 y) y := by
  intro pc r h mt hm
  unfold aU_46 at h
  split at h
  · rename_i hy
    subst hy
    have e : aM_46.1 = mt := Option.some.inj (show some aM_46.1 = some mt from hm)
    subst e
    exact sx_iF_s (aT_46 pc) h
  · cases h
def aS_47 (pc : Nat) : sx_IL := (if pc < 11 then aI_47_0 else aI_47_1)
theorem aT_47 (pc : Nat) : sx_iOk prog_1_method_19_code (aS_47 pc) := (sx_ite (p := fun l => sx_iOk prog_1_method_19_code l) (sx_iB_s aJ_47_0) (sx_iB_s aJ_47_1))
def aU_47 (y pc : Nat) : Option (Instr × Nat) := if y = 47 then sx_iF (aS_47 pc) pc else none
set_option maxRecDepth 100000 in
theorem aV0_47 (y : Nat) : sx_P1 (aU_47 y) y := by
  intro pc r h mt hm
  unfold aU_47 at h
  split at h
  · rename_i hy
    subst hy
    have e : aM_47.1 = mt := Option.some.inj (show some aM_47.1 = some mt from hm)
    subst e
    exact sx_iF_s (aT_47 pc) h
  · cases h
def aS_48 (pc : Nat) : sx_IL := aI_48_0
theorem aT_48 (pc : Nat) : sx_iOk prog_6_method_25_code (aS_48 pc) := (sx_iB_s aJ_48_0)
def aU_48 (y pc : Nat) : Option (Instr × Nat) := if y = 48 then sx_iF (aS_48 pc) pc else none
set_option maxRecDepth 100000 in
theorem aV0_48 (y : Nat) : sx_P1 (aU_48 y) y := by
  intro pc r h mt hm
  unfold aU_48 at h
  split at h
  · rename_i hy
    subst hy
    have e : aM_48.1 = mt := Option.some.inj (show some aM_48.1 = some mt from hm)
    subst e
    exact sx_iF_s (aT_48 pc) h
  · cases h
def aS_49 (pc : Nat) : sx_IL := (if pc < 26 then (if pc < 14 then aI_49_0 else aI_49_1) else (if pc < 36 then aI_49_2 else (if pc < 50 then aI_49_3 else aI_49_4)))
theorem aT_49 (pc : Nat) : sx_iOk prog_1_method_15_code (aS_49 pc) := (sx_ite (p := fun l => sx_iOk prog_1_method_15_code l) (sx_ite (p := fun l => sx_iOk prog_1_method_15_code l) (sx_iB_s aJ_49_0) (sx_iB_s aJ_49_1)) (sx_ite (p := fun l => sx_iOk prog_1_method_15_code l) (sx_iB_s aJ_49_2) (sx_ite (p := fun l => sx_iOk prog_1_method_15_code l) (sx_iB_s aJ_49_3) (sx_iB_s aJ_49_4))))
def aU_49 (y pc : Nat) : Option (Instr × Nat) := if y = 49 then sx_iF (aS_49 pc) pc else none
set_option maxRecDepth 100000 in
theorem aV0_49 (y : Nat) : sx_P1 (aU_49 y) y := by
  intro pc r h mt hm
  unfold aU_49 at h
  split at h
  · rename_i hy
    subst hy
    have e : aM_49.1 = mt := Option.some.inj (show some aM_49.1 = some mt from hm)
    subst e
    exact sx_iF_s (aT_49 pc) h
  · cases h
def aS_50 (pc : Nat) : sx_IL := (if pc < 10 then aI_50_0 else aI_50_1)
theorem aT_50 (pc : Nat) : sx_iOk prog_1_method_18_code (aS_50 pc) := (sx_ite (p := fun l => sx_iOk prog_1_method_18_code l) (sx_iB_s aJ_50_0) (sx_iB_s aJ_50_1))
def aU_50 (y pc : Nat) : Option (Instr × Nat) := if y = 50 then sx_iF (aS_50 pc) pc else none
set_option maxRecDepth 100000 in
theorem aV0_50 (y : Nat) : sx_P1 (aU_50 y) y := by
  intro pc r h mt hm
  unfold aU_50 at h
  split at h
  · rename_i hy
    subst hy
    have e : aM_50.1 = mt := Option.some.inj (show some aM_50.1 = some mt from hm)
    subst e
    exact sx_iF_s (aT_50 pc) h
  · cases h
def aS_51 (pc : Nat) : sx_IL := (if pc < 49 then (if pc < 19 then (if pc < 6 then aI_51_0 else aI_51_1) else (if pc < 28 then aI_51_2 else (if pc < 36 then aI_51_3 else aI_51_4))) else (if pc < 81 then (if pc < 57 then aI_51_5 else (if pc < 69 then aI_51_6 else aI_51_7)) else (if pc < 89 then aI_51_8 else (if pc < 99 then aI_51_9 else aI_51_10))))
theorem aT_51 (pc : Nat) : sx_iOk prog_6_method_27_code (aS_51 pc) := (sx_ite (p := fun l => sx_iOk prog_6_method_27_code l) (sx_ite (p := fun l => sx_iOk prog_6_method_27_code l) (sx_ite (p := fun l => sx_iOk prog_6_method_27_code l) (sx_iB_s aJ_51_0) (sx_iB_s aJ_51_1)) (sx_ite (p := fun l => sx_iOk prog_6_method_27_code l) (sx_iB_s aJ_51_2) (sx_ite (p := fun l => sx_iOk prog_6_method_27_code l) (sx_iB_s aJ_51_3) (sx_iB_s aJ_51_4)))) (sx_ite (p := fun l => sx_iOk prog_6_method_27_code l) (sx_ite (p := fun l => sx_iOk prog_6_method_27_code l) (sx_iB_s aJ_51_5) (sx_ite (p := fun l => sx_iOk prog_6_method_27_code l) (sx_iB_s aJ_51_6) (sx_iB_s aJ_51_7))) (sx_ite (p := fun l => sx_iOk prog_6_method_27_code l) (sx_iB_s aJ_51_8) (sx_ite (p := fun l => sx_iOk prog_6_method_27_code l) (sx_iB_s aJ_51_9) (sx_iB_s aJ_51_10)))))
def aU_51 (y pc : Nat) : Option (Instr × Nat) := if y = 51 then sx_iF (aS_51 pc) pc else none
set_option maxRecDepth 100000 in
theorem aV0_51 (y : Nat) : sx_P1 (aU_51 y) y := by
  intro pc r h mt hm
  unfold aU_51 at h
  split at h
  · rename_i hy
    subst hy
    have e : aM_51.1 = mt := Option.some.inj (show some aM_51.1 = some mt from hm)
    subst e
    exact sx_iF_s (aT_51 pc) h
  · cases h
def aS_52 (pc : Nat) : sx_IL := (if pc < 8 then aI_52_0 else aI_52_1)
theorem aT_52 (pc : Nat) : sx_iOk prog_6_method_26_code (aS_52 pc) := (sx_ite (p := fun l => sx_iOk prog_6_method_26_code l) (sx_iB_s aJ_52_0) (sx_iB_s aJ_52_1))
def aU_52 (y pc : Nat) : Option (Instr × Nat) := if y = 52 then sx_iF (aS_52 pc) pc else none
set_option maxRecDepth 100000 in
theorem aV0_52 (y : Nat) : sx_P1 (aU_52 y) y := by
  intro pc r h mt hm
  unfold aU_52 at h
  split at h
  · rename_i hy
    subst hy
    have e : aM_52.1 = mt := Option.some.inj (show some aM_52.1 = some mt from hm)
    subst e
    exact sx_iF_s (aT_52 pc) h
  · cases h
def aS_53 (pc : Nat) : sx_IL := (if pc < 20 then (if pc < 10 then aI_53_0 else aI_53_1) else (if pc < 34 then aI_53_2 else (if pc < 48 then aI_53_3 else aI_53_4)))
theorem aT_53 (pc : Nat) : sx_iOk prog_1_method_16_code (aS_53 pc) := (sx_ite (p := fun l => sx_iOk prog_1_method_16_code l) (sx_ite (p := fun l => sx_iOk prog_1_method_16_code l) (sx_iB_s aJ_53_0) (sx_iB_s aJ_53_1)) (sx_ite (p := fun l => sx_iOk prog_1_method_16_code l) (sx_iB_s aJ_53_2) (sx_ite (p := fun l => sx_iOk prog_1_method_16_code l) (sx_iB_s aJ_53_3) (sx_iB_s aJ_53_4))))
def aU_53 (y pc : Nat) : Option (Instr × Nat) := if y = 53 then sx_iF (aS_53 pc) pc else none
set_option maxRecDepth 100000 in
theorem aV0_53 (y : Nat) : sx_P1 (aU_53 y) y := by
  intro pc r h mt hm
  unfold aU_53 at h
  split at h
  · rename_i hy
    subst hy
    have e : aM_53.1 = mt := Option.some.inj (show some aM_53.1 = some mt from hm)
    subst e
    exact sx_iF_s (aT_53 pc) h
  · cases h
def aS_54 (pc : Nat) : sx_IL := (if pc < 78 then (if pc < 31 then (if pc < 8 then aI_54_0 else (if pc < 17 then aI_54_1 else aI_54_2)) else (if pc < 56 then (if pc < 46 then aI_54_3 else aI_54_4) else (if pc < 68 then aI_54_5 else aI_54_6))) else (if pc < 106 then (if pc < 89 then aI_54_7 else (if pc < 96 then aI_54_8 else aI_54_9)) else (if pc < 127 then (if pc < 114 then aI_54_10 else aI_54_11) else (if pc < 139 then aI_54_12 else aI_54_13))))
theorem aT_54 (pc : Nat) : sx_iOk prog_6_method_28_code (aS_54 pc) := (sx_ite (p := fun l => sx_iOk prog_6_method_28_code l) (sx_ite (p := fun l => sx_iOk prog_6_method_28_code l) (sx_ite (p := fun l => sx_iOk prog_6_method_28_code l) (sx_iB_s aJ_54_0) (sx_ite (p := fun l => sx_iOk prog_6_method_28_code l) (sx_iB_s aJ_54_1) (sx_iB_s aJ_54_2))) (sx_ite (p := fun l => sx_iOk prog_6_method_28_code l) (sx_ite (p := fun l => sx_iOk prog_6_method_28_code l) (sx_iB_s aJ_54_3) (sx_iB_s aJ_54_4)) (sx_ite (p := fun l => sx_iOk prog_6_method_28_code l) (sx_iB_s aJ_54_5) (sx_iB_s aJ_54_6)))) (sx_ite (p := fun l => sx_iOk prog_6_method_28_code l) (sx_ite (p := fun l => sx_iOk prog_6_method_28_code l) (sx_iB_s aJ_54_7) (sx_ite (p := fun l => sx_iOk prog_6_method_28_code l) (sx_iB_s aJ_54_8) (sx_iB_s aJ_54_9))) (sx_ite (p := fun l => sx_iOk prog_6_method_28_code l) (sx_ite (p := fun l => sx_iOk prog_6_method_28_code l) (sx_iB_s aJ_54_10) (sx_iB_s aJ_54_11)) (sx_ite (p := fun l => sx_iOk prog_6_method_28_code l) (sx_iB_s aJ_54_12) (sx_iB_s aJ_54_13)))))
def aU_54 (y pc : Nat) : Option (Instr × Nat) := if y = 54 then sx_iF (aS_54 pc) pc else none
set_option maxRecDepth 100000 in
theorem aV0_54 (y : Nat) : sx_P1 (aU_54 y) y := by
  intro pc r h mt hm
  unfold aU_54 at h
  split at h
  · rename_i hy
    subst hy
    have e : aM_54.1 = mt := Option.some.inj (show some aM_54.1 = some mt from hm)
    subst e
    exact sx_iF_s (aT_54 pc) h
  · cases h
def aS_55 (pc : Nat) : sx_IL := (if pc < 26 then (if pc < 12 then aI_55_0 else aI_55_1) else (if pc < 38 then aI_55_2 else aI_55_3))
theorem aT_55 (pc : Nat) : sx_iOk prog_1_method_20_code (aS_55 pc) := (sx_ite (p := fun l => sx_iOk prog_1_method_20_code l) (sx_ite (p := fun l => sx_iOk prog_1_method_20_code l) (sx_iB_s aJ_55_0) (sx_iB_s aJ_55_1)) (sx_ite (p := fun l => sx_iOk prog_1_method_20_code l) (sx_iB_s aJ_55_2) (sx_iB_s aJ_55_3)))
def aU_55 (y pc : Nat) : Option (Instr × Nat) := if y = 55 then sx_iF (aS_55 pc) pc else none
set_option maxRecDepth 100000 in
theorem aV0_55 (y : Nat) : sx_P1 (aU_55 y) y := by
  intro pc r h mt hm
  unfold aU_55 at h
  split at h
  · rename_i hy
    subst hy
    have e : aM_55.1 = mt := Option.some.inj (show some aM_55.1 = some mt from hm)
    subst e
    exact sx_iF_s (aT_55 pc) h
  · cases h
def aS_56 (pc : Nat) : sx_IL := (if pc < 147 then (if pc < 74 then (if pc < 27 then (if pc < 9 then aI_56_0 else (if pc < 20 then aI_56_1 else aI_56_2)) else (if pc < 53 then (if pc < 39 then aI_56_3 else aI_56_4) else (if pc < 62 then aI_56_5 else aI_56_6))) else (if pc < 108 then (if pc < 88 then aI_56_7 else (if pc < 95 then aI_56_8 else aI_56_9)) else (if pc < 127 then (if pc < 117 then aI_56_10 else aI_56_11) else (if pc < 138 then aI_56_12 else aI_56_13)))) else (if pc < 223 then (if pc < 179 then (if pc < 159 then aI_56_14 else (if pc < 168 then aI_56_15 else aI_56_16)) else (if pc < 200 then (if pc < 191 then aI_56_17 else aI_56_18) else (if pc < 210 then aI_56_19 else aI_56_20))) else (if pc < 266 then (if pc < 245 then (if pc < 233 then aI_56_21 else aI_56_22) else (if pc < 257 then aI_56_23 else aI_56_24)) else (if pc < 292 then (if pc < 280 then aI_56_25 else aI_56_26) else (if pc < 303 then aI_56_27 else aI_56_28)))))
theorem aT_56 (pc : Nat) : sx_iOk prog_8_method_7_code (aS_56 pc) := (sx_ite (p := fun l => sx_iOk prog_8_method_7_code l) (sx_ite (p := fun l => sx_iOk prog_8_method_7_code l) (sx_ite (p := fun l => sx_iOk prog_8_method_7_code l) (sx_ite (p := fun l => sx_iOk prog_8_method_7_code l) (sx_iB_s aJ_56_0) (sx_ite (p := fun l => sx_iOk prog_8_method_7_code l) (sx_iB_s aJ_56_1) (sx_iB_s aJ_56_2))) (sx_ite (p := fun l => sx_iOk prog_8_method_7_code l) (sx_ite (p := fun l => sx_iOk prog_8_method_7_code l) (sx_iB_s aJ_56_3) (sx_iB_s aJ_56_4)) (sx_ite (p := fun l => sx_iOk prog_8_method_7_code l) (sx_iB_s aJ_56_5) (sx_iB_s aJ_56_6)))) (sx_ite (p := fun l => sx_iOk prog_8_method_7_code l) (sx_ite (p := fun l => sx_iOk prog_8_method_7_code l) (sx_iB_s aJ_56_7) (sx_ite (p := fun l => sx_iOk prog_8_method_7_code l) (sx_iB_s aJ_56_8) (sx_iB_s aJ_56_9))) (sx_ite (p := fun l => sx_iOk prog_8_method_7_code l) (sx_ite (p := fun l => sx_iOk prog_8_method_7_code l) (sx_iB_s aJ_56_10) (sx_iB_s aJ_56_11)) (sx_ite (p := fun l => sx_iOk prog_8_method_7_code l) (sx_iB_s aJ_56_12) (sx_iB_s aJ_56_13))))) (sx_ite (p := fun l => sx_iOk prog_8_method_7_code l) (sx_ite (p := fun l => sx_iOk prog_8_method_7_code l) (sx_ite (p := fun l => sx_iOk prog_8_method_7_code l) (sx_iB_s aJ_56_14) (sx_ite (p := fun l => sx_iOk prog_8_method_7_code l) (sx_iB_s aJ_56_15) (sx_iB_s aJ_56_16))) (sx_ite (p := fun l => sx_iOk prog_8_method_7_code l) (sx_ite (p := fun l => sx_iOk prog_8_method_7_code l) (sx_iB_s aJ_56_17) (sx_iB_s aJ_56_18)) (sx_ite (p := fun l => sx_iOk prog_8_method_7_code l) (sx_iB_s aJ_56_19) (sx_iB_s aJ_56_20)))) (sx_ite (p := fun l => sx_iOk prog_8_method_7_code l) (sx_ite (p := fun l => sx_iOk prog_8_method_7_code l) (sx_ite (p := fun l => sx_iOk prog_8_method_7_code l) (sx_iB_s aJ_56_21) (sx_iB_s aJ_56_22)) (sx_ite (p := fun l => sx_iOk prog_8_method_7_code l) (sx_iB_s aJ_56_23) (sx_iB_s aJ_56_24))) (sx_ite (p := fun l => sx_iOk prog_8_method_7_code l) (sx_ite (p := fun l => sx_iOk prog_8_method_7_code l) (sx_iB_s aJ_56_25) (sx_iB_s aJ_56_26)) (sx_ite (p := fun l => sx_iOk prog_8_method_7_code l) (sx_iB_s aJ_56_27) (sx_iB_s aJ_56_28))))))
def aU_56 (y pc : Nat) : Option (Instr × Nat) := if y = 56 then sx_iF (aS_56 pc) pc else none
set_option maxRecDepth 100000 in
theorem aV0_56 (y : Nat) : sx_P1 (aU_56 y) y := by
  intro pc r h mt hm
  unfold aU_56 at h
  split at h
  · rename_i hy
    subst hy
    have e : aM_56.1 = mt := Option.some.inj (show some aM_56.1 = some mt from hm)
    subst e
    exact sx_iF_s (aT_56 pc) h
  · cases h
def aS_61 (pc : Nat) : sx_IL := (if pc < 68 then (if pc < 33 then (if pc < 8 then aI_61_0 else (if pc < 19 then aI_61_1 else aI_61_2)) else (if pc < 47 then aI_61_3 else (if pc < 58 then aI_61_4 else aI_61_5))) else (if pc < 101 then (if pc < 77 then aI_61_6 else (if pc < 86 then aI_61_7 else aI_61_8)) else (if pc < 111 then aI_61_9 else (if pc < 119 then aI_61_10 else aI_61_11))))
theorem aT_61 (pc : Nat) : sx_iOk prog_8_method_12_code (aS_61 pc) := (sx_ite (p := fun l => sx_iOk prog_8_method_12_code l) (sx_ite (p := fun l => sx_iOk prog_8_method_12_code l) (sx_ite (p := fun l => sx_iOk prog_8_method_12_code l) (sx_iB_s aJ_61_0) (sx_ite (p := fun l => sx_iOk prog_8_method_12_code l) (sx_iB_s aJ_61_1) (sx_iB_s aJ_61_2))) (sx_ite (p := fun l => sx_iOk prog_8_method_12_code l) (sx_iB_s aJ_61_3) (sx_ite (p := fun l => sx_iOk prog_8_method_12_code l) (sx_iB_s aJ_61_4) (sx_iB_s aJ_61_5)))) (sx_ite (p := fun l => sx_iOk prog_8_method_12_code l) (sx_ite (p := fun l => sx_iOk prog_8_method_12_code l) (sx_iB_s aJ_61_6) (sx_ite (p := fun l => sx_iOk prog_8_method_12_code l) (sx_iB_s aJ_61_7) (sx_iB_s aJ_61_8))) (sx_ite (p := fun l => sx_iOk prog_8_method_12_code l) (sx_iB_s aJ_61_9) (sx_ite (p := fun l => sx_iOk prog_8_method_12_code l) (sx_iB_s aJ_61_10) (sx_iB_s aJ_61_11)))))
def aU_61 (y pc : Nat) : Option (Instr × Nat) := if y = 61 then sx_iF (aS_61 pc) pc else none
set_option maxRecDepth 100000 in
theorem aV0_61 (y : Nat) : sx_P1 (aU_61 y) y := by
  intro pc r h mt hm
  unfold aU_61 at h
  split at h
  · rename_i hy
    subst hy
    have e : aM_61.1 = mt := Option.some.inj (show some aM_61.1 = some mt from hm)
    subst e
    exact sx_iF_s (aT_61 pc) h
  · cases h
def aS_62 (pc : Nat) : sx_IL := (if pc < 46 then (if pc < 25 then (if pc < 14 then aI_62_0 else aI_62_1) else (if pc < 33 then aI_62_2 else aI_62_3)) else (if pc < 70 then (if pc < 59 then aI_62_4 else aI_62_5) else (if pc < 83 then aI_62_6 else (if pc < 98 then aI_62_7 else aI_62_8))))
theorem aT_62 (pc : Nat) : sx_iOk prog_1_method_21_code (aS_62 pc) := (sx_ite (p := fun l => sx_iOk prog_1_method_21_code l) (sx_ite (p := fun l => sx_iOk prog_1_method_21_code l) (sx_ite (p := fun l => sx_iOk prog_1_method_21_code l) (sx_iB_s aJ_62_0) (sx_iB_s aJ_62_1)) (sx_ite (p := fun l => sx_iOk prog_1_method_21_code l) (sx_iB_s aJ_62_2) (sx_iB_s aJ_62_3))) (sx_ite (p := fun l => sx_iOk prog_1_method_21_code l) (sx_ite (p := fun l => sx_iOk prog_1_method_21_code l) (sx_iB_s aJ_62_4) (sx_iB_s aJ_62_5)) (sx_ite (p := fun l => sx_iOk prog_1_method_21_code l) (sx_iB_s aJ_62_6) (sx_ite (p := fun l => sx_iOk prog_1_method_21_code l) (sx_iB_s aJ_62_7) (sx_iB_s aJ_62_8)))))
def aU_62 (y pc : Nat) : Option (Instr × Nat) := if y = 62 then sx_iF (aS_62 pc) pc else none
set_option maxRecDepth 100000 in
theorem aV0_62 (y : Nat) : sx_P1 (aU_62 y) y := by
  intro pc r h mt hm
  unfold aU_62 at h
  split at h
  · rename_i hy
    subst hy
    have e : aM_62.1 = mt := Option.some.inj (show some aM_62.1 = some mt from hm)
    subst e
    exact sx_iF_s (aT_62 pc) h
  · cases h
def aS_63 (pc : Nat) : sx_IL := (if pc < 12 then aI_63_0 else aI_63_1)
theorem aT_63 (pc : Nat) : sx_iOk prog_9_method_14_code (aS_63 pc) := (sx_ite (p := fun l => sx_iOk prog_9_method_14_code l) (sx_iB_s aJ_63_0) (sx_iB_s aJ_63_1))
def aU_63 (y pc : Nat) : Option (Instr × Nat) := if y = 63 then sx_iF (aS_63 pc) pc else none
set_option maxRecDepth 100000 in
theorem aV0_63 (y : Nat) : sx_P1 (aU_63 y) y := by
  intro pc r h mt hm
  unfold aU_63 at h
  split at h
  · rename_i hy
    subst hy
    have e : aM_63.1 = mt := Option.some.inj (show some aM_63.1 = some mt from hm)
    subst e
    exact sx_iF_s (aT_63 pc) h
  · cases h
def aS_64 (pc : Nat) : sx_IL := (if pc < 35 then (if pc < 10 then aI_64_0 else (if pc < 22 then aI_64_1 else aI_64_2)) else (if pc < 46 then aI_64_3 else (if pc < 58 then aI_64_4 else aI_64_5)))
theorem aT_64 (pc : Nat) : sx_iOk prog_5_method_2_code (aS_64 pc) := (sx_ite (p := fun l => sx_iOk prog_5_method_2_code l) (sx_ite (p := fun l => sx_iOk prog_5_method_2_code l) (sx_iB_s aJ_64_0) (sx_ite (p := fun l => sx_iOk prog_5_method_2_code l) (sx_iB_s aJ_64_1) (sx_iB_s aJ_64_2))) (sx_ite (p := fun l => sx_iOk prog_5_method_2_code l) (sx_iB_s aJ_64_3) (sx_ite (p := fun l => sx_iOk prog_5_method_2_code l) (sx_iB_s aJ_64_4) (sx_iB_s aJ_64_5))))
def aU_64 (y pc : Nat) : Option (Instr × Nat) := if y = 64 then sx_iF (aS_64 pc) pc else none
set_option maxRecDepth 100000 in
theorem aV0_64 (y : Nat) : sx_P1 (aU_64 y) y := by
  intro pc r h mt hm
  unfold aU_64 at h
  split at h
  · rename_i hy
    subst hy
    have e : aM_64.1 = mt := Option.some.inj (show some aM_64.1 = some mt from hm)
    subst e
    exact sx_iF_s (aT_64 pc) h
  · cases h
def aS_65 (pc : Nat) : sx_IL := (if pc < 36 then (if pc < 12 then aI_65_0 else (if pc < 24 then aI_65_1 else aI_65_2)) else (if pc < 50 then aI_65_3 else (if pc < 59 then aI_65_4 else aI_65_5)))
theorem aT_65 (pc : Nat) : sx_iOk prog_9_method_15_code (aS_65 pc) := (sx_ite (p := fun l => sx_iOk prog_9_method_15_code l) (sx_ite (p := fun l => sx_iOk prog_9_method_15_code l) (sx_iB_s aJ_65_0) (sx_ite (p := fun l => sx_iOk prog_9_method_15_code l) (sx_iB_s aJ_65_1) (sx_iB_s aJ_65_2))) (sx_ite (p := fun l => sx_iOk prog_9_method_15_code l) (sx_iB_s aJ_65_3) (sx_ite (p := fun l => sx_iOk prog_9_method_15_code l) (sx_iB_s aJ_65_4) (sx_iB_s aJ_65_5))))
def aU_65 (y pc : Nat) : Option (Instr × Nat) := if y = 65 then sx_iF (aS_65 pc) pc else none
set_option maxRecDepth 100000 in
theorem aV0_65 (y : Nat) : sx_P1 (aU_65 y) y := by
  intro pc r h mt hm
  unfold aU_65 at h
  split at h
  · rename_i hy
    subst hy
    have e : aM_65.1 = mt := Option.some.inj (show some aM_65.1 = some mt from hm)
    subst e
    exact sx_iF_s (aT_65 pc) h
  · cases h
def aS_66 (pc : Nat) : sx_IL := (if pc < 9 then aI_66_0 else (if pc < 21 then aI_66_1 else aI_66_2))
theorem aT_66 (pc : Nat) : sx_iOk prog_9_method_10_code (aS_66 pc) := (sx_ite (p := fun l => sx_iOk prog_9_method_10_code l) (sx_iB_s aJ_66_0) (sx_ite (p := fun l => sx_iOk prog_9_method_10_code l) (sx_iB_s aJ_66_1) (sx_iB_s aJ_66_2)))
def aU_66 (y pc : Nat) : Option (Instr × Nat) := if y = 66 then sx_iF (aS_66 pc) pc else none
set_option maxRecDepth 100000 in
theorem aV0_66 (y : Nat) : sx_P1 (aU_66 y) y := by
  intro pc r h mt hm
  unfold aU_66 at h
  split at h
  · rename_i hy
    subst hy
    have e : aM_66.1 = mt := Option.some.inj (show some aM_66.1 = some mt from hm)
    subst e
    exact sx_iF_s (aT_66 pc) h
  · cases h
def aS_67 (pc : Nat) : sx_IL := aI_67_0
theorem aT_67 (pc : Nat) : sx_iOk prog_1_method_22_code (aS_67 pc) := (sx_iB_s aJ_67_0)
def aU_67 (y pc : Nat) : Option (Instr × Nat) := if y = 67 then sx_iF (aS_67 pc) pc else none
set_option maxRecDepth 100000 in
theorem aV0_67 (y : Nat) : sx_P1 (aU_67 y) y := by
  intro pc r h mt hm
  unfold aU_67 at h
  split at h
  · rename_i hy
    subst hy
    have e : aM_67.1 = mt := Option.some.inj (show some aM_67.1 = some mt from hm)
    subst e
    exact sx_iF_s (aT_67 pc) h
  · cases h
def aS_68 (pc : Nat) : sx_IL := (if pc < 37 then (if pc < 12 then aI_68_0 else (if pc < 26 then aI_68_1 else aI_68_2)) else (if pc < 49 then aI_68_3 else (if pc < 60 then aI_68_4 else aI_68_5)))
theorem aT_68 (pc : Nat) : sx_iOk prog_1_method_25_code (aS_68 pc) := (sx_ite (p := fun l => sx_iOk prog_1_method_25_code l) (sx_ite (p := fun l => sx_iOk prog_1_method_25_code l) (sx_iB_s aJ_68_0) (sx_ite (p := fun l => sx_iOk prog_1_method_25_code l) (sx_iB_s aJ_68_1) (sx_iB_s aJ_68_2))) (sx_ite (p := fun l => sx_iOk prog_1_method_25_code l) (sx_iB_s aJ_68_3) (sx_ite (p := fun l => sx_iOk prog_1_method_25_code l) (sx_iB_s aJ_68_4) (sx_iB_s aJ_68_5))))
def aU_68 (y pc : Nat) : Option (Instr × Nat) := if y = 68 then sx_iF (aS_68 pc) pc else none
set_option maxRecDepth 100000 in
theorem aV0_68 (y : Nat) : sx_P1 (aU_68 y) y := by
  intro pc r h mt hm
  unfold aU_68 at h
  split at h
  · rename_i hy
    subst hy
    have e : aM_68.1 = mt := Option.some.inj (show some aM_68.1 = some mt from hm)
    subst e
    exact sx_iF_s (aT_68 pc) h
  · cases h
def aS_86 (pc : Nat) : sx_IL := (if pc < 40 then (if pc < 21 then (if pc < 8 then aI_86_0 else aI_86_1) else (if pc < 30 then aI_86_2 else aI_86_3)) else (if pc < 57 then (if pc < 48 then aI_86_4 else aI_86_5) else (if pc < 67 then aI_86_6 else aI_86_7)))
theorem aT_86 (pc : Nat) : sx_iOk prog_9_method_18_code (aS_86 pc) := (sx_ite (p := fun l => sx_iOk prog_9_method_18_code l) (sx_ite (p := fun l => sx_iOk prog_9_method_18_code l) (sx_ite (p := fun l => sx_iOk prog_9_method_18_code l) (sx_iB_s aJ_86_0) (sx_iB_s aJ_86_1)) (sx_ite (p := fun l => sx_iOk prog_9_method_18_code l) (sx_iB_s aJ_86_2) (sx_iB_s aJ_86_3))) (sx_ite (p := fun l => sx_iOk prog_9_method_18_code l) (sx_ite (p := fun l => sx_iOk prog_9_method_18_code l) (sx_iB_s aJ_86_4) (sx_iB_s aJ_86_5)) (sx_ite (p := fun l => sx_iOk prog_9_method_18_code l) (sx_iB_s aJ_86_6) (sx_iB_s aJ_86_7))))
def aU_86 (y pc : Nat) : Option (Instr × Nat) := if y = 86 then sx_iF (aS_86 pc) pc else none
set_option maxRecDepth 100000 in
theorem aV0_86 (y : Nat) : sx_P1 (aU_86 y) y := by
  intro pc r h mt hm
  unfold aU_86 at h
  split at h
  · rename_i hy
    subst hy
    have e : aM_86.1 = mt := Option.some.inj (show some aM_86.1 = some mt from hm)
    subst e
    exact sx_iF_s (aT_86 pc) h
  · cases h
def aS_87 (pc : Nat) : sx_IL := aI_87_0
theorem aT_87 (pc : Nat) : sx_iOk prog_1_method_23_code (aS_87 pc) := (sx_iB_s aJ_87_0)
def aU_87 (y pc : Nat) : Option (Instr × Nat) := if y = 87 then sx_iF (aS_87 pc) pc else none
set_option maxRecDepth 100000 in
theorem aV0_87 (y : Nat) : sx_P1 (aU_87 y) y := by
  intro pc r h mt hm
  unfold aU_87 at h
  split at h
  · rename_i hy
    subst hy
    have e : aM_87.1 = mt := Option.some.inj (show some aM_87.1 = some mt from hm)
    subst e
    exact sx_iF_s (aT_87 pc) h
  · cases h
def aS_88 (pc : Nat) : sx_IL := aI_88_0
theorem aT_88 (pc : Nat) : sx_iOk prog_1_method_24_code (aS_88 pc) := (sx_iB_s aJ_88_0)
def aU_88 (y pc : Nat) : Option (Instr × Nat) := if y = 88 then sx_iF (aS_88 pc) pc else none
set_option maxRecDepth 100000 in
theorem aV0_88 (y : Nat) : sx_P1 (aU_88 y) y := by
  intro pc r h mt hm
  unfold aU_88 at h
  split at h
  · rename_i hy
    subst hy
    have e : aM_88.1 = mt := Option.some.inj (show some aM_88.1 = some mt from hm)
    subst e
    exact sx_iF_s (aT_88 pc) h
  · cases h
def aS_89 (pc : Nat) : sx_IL := (if pc < 21 then (if pc < 12 then aI_89_0 else aI_89_1) else (if pc < 33 then aI_89_2 else aI_89_3))
theorem aT_89 (pc : Nat) : sx_iOk prog_1_method_26_code (aS_89 pc) := (sx_ite (p := fun l => sx_iOk prog_1_method_26_code l) (sx_ite (p := fun l => sx_iOk prog_1_method_26_code l) (sx_iB_s aJ_89_0) (sx_iB_s aJ_89_1)) (sx_ite (p := fun l => sx_iOk prog_1_method_26_code l) (sx_iB_s aJ_89_2) (sx_iB_s aJ_89_3)))
def aU_89 (y pc : Nat) : Option (Instr × Nat) := if y = 89 then sx_iF (aS_89 pc) pc else none
set_option maxRecDepth 100000 in
theorem aV0_89 (y : Nat) : sx_P1 (aU_89 y) y := by
  intro pc r h mt hm
  unfold aU_89 at h
  split at h
  · rename_i hy
    subst hy
    have e : aM_89.1 = mt := Option.some.inj (show some aM_89.1 = some mt from hm)
    subst e
    exact sx_iF_s (aT_89 pc) h
  · cases h
def aS_90 (pc : Nat) : sx_IL := (if pc < 12 then aI_90_0 else aI_90_1)
theorem aT_90 (pc : Nat) : sx_iOk prog_1_method_28_code (aS_90 pc) := (sx_ite (p := fun l => sx_iOk prog_1_method_28_code l) (sx_iB_s aJ_90_0) (sx_iB_s aJ_90_1))
def aU_90 (y pc : Nat) : Option (Instr × Nat) := if y = 90 then sx_iF (aS_90 pc) pc else none
set_option maxRecDepth 100000 in
theorem aV0_90 (y : Nat) : sx_P1 (aU_90 y) y := by
  intro pc r h mt hm
  unfold aU_90 at h
  split at h
  · rename_i hy
    subst hy
    have e : aM_90.1 = mt := Option.some.inj (show some aM_90.1 = some mt from hm)
    subst e
    exact sx_iF_s (aT_90 pc) h
  · cases h
def aS_91 (pc : Nat) : sx_IL := (if pc < 71 then (if pc < 32 then (if pc < 10 then aI_91_0 else (if pc < 21 then aI_91_1 else aI_91_2)) else (if pc < 56 then (if pc < 43 then aI_91_3 else aI_91_4) else (if pc < 64 then aI_91_5 else aI_91_6))) else (if pc < 122 then (if pc < 98 then (if pc < 84 then aI_91_7 else aI_91_8) else (if pc < 109 then aI_91_9 else aI_91_10)) else (if pc < 146 then (if pc < 131 then aI_91_11 else aI_91_12) else (if pc < 160 then aI_91_13 else aI_91_14))))
theorem aT_91 (pc : Nat) : sx_iOk prog_1_method_27_code (aS_91 pc) := (sx_ite (p := fun l => sx_iOk prog_1_method_27_code l) (sx_ite (p := fun l => sx_iOk prog_1_method_27_code l) (sx_ite (p := fun l => sx_iOk prog_1_method_27_code l) (sx_iB_s aJ_91_0) (sx_ite (p := fun l => sx_iOk prog_1_method_27_code l) (sx_iB_s aJ_91_1) (sx_iB_s aJ_91_2))) (sx_ite (p := fun l => sx_iOk prog_1_method_27_code l) (sx_ite (p := fun l => sx_iOk prog_1_method_27_code l) (sx_iB_s aJ_91_3) (sx_iB_s aJ_91_4)) (sx_ite (p := fun l => sx_iOk prog_1_method_27_code l) (sx_iB_s aJ_91_5) (sx_iB_s aJ_91_6)))) (sx_ite (p := fun l => sx_iOk prog_1_method_27_code l) (sx_ite (p := fun l => sx_iOk prog_1_method_27_code l) (sx_ite (p := fun l => sx_iOk prog_1_method_27_code l) (sx_iB_s aJ_91_7) (sx_iB_s aJ_91_8)) (sx_ite (p := fun l => sx_iOk prog_1_method_27_code l) (sx_iB_s aJ_91_9) (sx_iB_s aJ_91_10))) (sx_ite (p := fun l => sx_iOk prog_1_method_27_code l) (sx_ite (p := fun l => sx_iOk prog_1_method_27_code l) (sx_iB_s aJ_91_11) (sx_iB_s aJ_91_12)) (sx_ite (p := fun l => sx_iOk prog_1_method_27_code l) (sx_iB_s aJ_91_13) (sx_iB_s aJ_91_14)))))
def aU_91 (y pc : Nat) : Option (Instr × Nat) := if y = 91 then sx_iF (aS_91 pc) pc else none
set_option maxRecDepth 100000 in
theorem aV0_91 (y : Nat) : sx_P1 (aU_91 y) y := by
  intro pc r h mt hm
  unfold aU_91 at h
  split at h
  · rename_i hy
    subst hy
    have e : aM_91.1 = mt := Option.some.inj (show some aM_91.1 = some mt from hm)
    subst e
    exact sx_iF_s (aT_91 pc) h
  · cases h
def aS_94 (pc : Nat) : sx_IL := (if pc < 22 then (if pc < 10 then aI_94_0 else aI_94_1) else (if pc < 32 then aI_94_2 else (if pc < 42 then aI_94_3 else aI_94_4)))
theorem aT_94 (pc : Nat) : sx_iOk prog_1_method_29_code (aS_94 pc) := (sx_ite (p := fun l => sx_iOk prog_1_method_29_code l) (sx_ite (p := fun l => sx_iOk prog_1_method_29_code l) (sx_iB_s aJ_94_0) (sx_iB_s aJ_94_1)) (sx_ite (p := fun l => sx_iOk prog_1_method_29_code l) (sx_iB_s aJ_94_2) (sx_ite (p := fun l => sx_iOk prog_1_method_29_code l) (sx_iB_s aJ_94_3) (sx_iB_s aJ_94_4))))
def aU_94 (y pc : Nat) : Option (Instr × Nat) := if y = 94 then sx_iF (aS_94 pc) pc else none
set_option maxRecDepth 100000 in
theorem aV0_94 (y : Nat) : sx_P1 (aU_94 y) y := by
  intro pc r h mt hm
  unfold aU_94 at h
  split at h
  · rename_i hy
    subst hy
    have e : aM_94.1 = mt := Option.some.inj (show some aM_94.1 = some mt from hm)
    subst e
    exact sx_iF_s (aT_94 pc) h
  · cases h
def aS_95 (pc : Nat) : sx_IL := (if pc < 72 then (if pc < 34 then (if pc < 12 then aI_95_0 else (if pc < 24 then aI_95_1 else aI_95_2)) else (if pc < 46 then aI_95_3 else (if pc < 59 then aI_95_4 else aI_95_5))) else (if pc < 106 then (if pc < 82 then aI_95_6 else (if pc < 94 then aI_95_7 else aI_95_8)) else (if pc < 118 then aI_95_9 else (if pc < 129 then aI_95_10 else aI_95_11))))
theorem aT_95 (pc : Nat) : sx_iOk prog_1_method_30_code (aS_95 pc) := (sx_ite (p := fun l => sx_iOk prog_1_method_30_code l) (sx_ite (p := fun l => sx_iOk prog_1_method_30_code l) (sx_ite (p := fun l => sx_iOk prog_1_method_30_code l) (sx_iB_s aJ_95_0) (sx_ite (p := fun l => sx_iOk prog_1_method_30_code l) (sx_iB_s aJ_95_1) (sx_iB_s aJ_95_2))) (sx_ite (p := fun l => sx_iOk prog_1_method_30_code l) (sx_iB_s aJ_95_3) (sx_ite (p := fun l => sx_iOk prog_1_method_30_code l) (sx_iB_s aJ_95_4) (sx_iB_s aJ_95_5)))) (sx_ite (p := fun l => sx_iOk prog_1_method_30_code l) (sx_ite (p := fun l => sx_iOk prog_1_method_30_code l) (sx_iB_s aJ_95_6) (sx_ite (p := fun l => sx_iOk prog_1_method_30_code l) (sx_iB_s aJ_95_7) (sx_iB_s aJ_95_8))) (sx_ite (p := fun l => sx_iOk prog_1_method_30_code l) (sx_iB_s aJ_95_9) (sx_ite (p := fun l => sx_iOk prog_1_method_30_code l) (sx_iB_s aJ_95_10) (sx_iB_s aJ_95_11)))))
def aU_95 (y pc : Nat) : Option (Instr × Nat) := if y = 95 then sx_iF (aS_95 pc) pc else none
set_option maxRecDepth 100000 in
theorem aV0_95 (y : Nat) : sx_P1 (aU_95 y) y := by
  intro pc r h mt hm
  unfold aU_95 at h
  split at h
  · rename_i hy
    subst hy
    have e : aM_95.1 = mt := Option.some.inj (show some aM_95.1 = some mt from hm)
    subst e
    exact sx_iF_s (aT_95 pc) h
  · cases h
def aS_96 (pc : Nat) : sx_IL := (if pc < 12 then aI_96_0 else aI_96_1)
theorem aT_96 (pc : Nat) : sx_iOk prog_1_method_35_code (aS_96 pc) := (sx_ite (p := fun l => sx_iOk prog_1_method_35_code l) (sx_iB_s aJ_96_0) (sx_iB_s aJ_96_1))
def aU_96 (y pc : Nat) : Option (Instr × Nat) := if y = 96 then sx_iF (aS_96 pc) pc else none
set_option maxRecDepth 100000 in
theorem aV0_96 (y : Nat) : sx_P1 (aU_96 y) y := by
  intro pc r h mt hm
  unfold aU_96 at h
  split at h
  · rename_i hy
    subst hy
    have e : aM_96.1 = mt := Option.some.inj (show some aM_96.1 = some mt from hm)
    subst e
    exact sx_iF_s (aT_96 pc) h
  · cases h
def aS_111 (pc : Nat) : sx_IL := (if pc < 42 then (if pc < 24 then (if pc < 10 then aI_111_0 else aI_111_1) else (if pc < 34 then aI_111_2 else aI_111_3)) else (if pc < 68 then (if pc < 55 then aI_111_4 else aI_111_5) else (if pc < 81 then aI_111_6 else aI_111_7)))
theorem aT_111 (pc : Nat) : sx_iOk prog_1_method_31_code (aS_111 pc) := (sx_ite (p := fun l => sx_iOk prog_1_method_31_code l) (sx_ite (p := fun l => sx_iOk prog_1_method_31_code l) (sx_ite (p := fun l => sx_iOk prog_1_method_31_code l) (sx_iB_s aJ_111_0) (sx_iB_s aJ_111_1)) (sx_ite (p := fun l => sx_iOk prog_1_method_31_code l) (sx_iB_s aJ_111_2) (sx_iB_s aJ_111_3))) (sx_ite (p := fun l => sx_iOk prog_1_method_31_code l) (sx_ite (p := fun l => sx_iOk prog_1_method_31_code l) (sx_iB_s aJ_111_4) (sx_iB_s aJ_111_5)) (sx_ite (p := fun l => sx_iOk prog_1_method_31_code l) (sx_iB_s aJ_111_6) (sx_iB_s aJ_111_7))))
def aU_111 (y pc : Nat) : Option (Instr × Nat) := if y = 111 then sx_iF (aS_111 pc) pc else none
set_option maxRecDepth 100000 in
theorem aV0_111 (y : Nat) : sx_P1 (aU_111 y) y := by
  intro pc r h mt hm
  unfold aU_111 at h
  split at h
  · rename_i hy
    subst hy
    have e : aM_111.1 = mt := Option.some.inj (show some aM_111.1 = some mt from hm)
    subst e
    exact sx_iF_s (aT_111 pc) h
  · cases h
def aS_113 (pc : Nat) : sx_IL := (if pc < 20 then (if pc < 10 then aI_113_0 else aI_113_1) else (if pc < 32 then aI_113_2 else aI_113_3))
theorem aT_113 (pc : Nat) : sx_iOk prog_1_method_32_code (aS_113 pc) := (sx_ite (p := fun l => sx_iOk prog_1_method_32_code l) (sx_ite (p := fun l => sx_iOk prog_1_method_32_code l) (sx_iB_s aJ_113_0) (sx_iB_s aJ_113_1)) (sx_ite (p := fun l => sx_iOk prog_1_method_32_code l) (sx_iB_s aJ_113_2) (sx_iB_s aJ_113_3)))
def aU_113 (y pc : Nat) : Option (Instr × Nat) := if y = 113 then sx_iF (aS_113 pc) pc else none
set_option maxRecDepth 100000 in
theorem aV0_113 (y : Nat) : sx_P1 (aU_113 y) y := by
  intro pc r h mt hm
  unfold aU_113 at h
  split at h
  · rename_i hy
    subst hy
    have e : aM_113.1 = mt := Option.some.inj (show some aM_113.1 = some mt from hm)
    subst e
    exact sx_iF_s (aT_113 pc) h
  · cases h
def aS_114 (pc : Nat) : sx_IL := (if pc < 22 then (if pc < 10 then aI_114_0 else aI_114_1) else (if pc < 34 then aI_114_2 else (if pc < 46 then aI_114_3 else aI_114_4)))
theorem aT_114 (pc : Nat) : sx_iOk prog_1_method_33_code (aS_114 pc) := (sx_ite (p := fun l => sx_iOk prog_1_method_33_code l) (sx_ite (p := fun l => sx_iOk prog_1_method_33_code l) (sx_iB_s aJ_114_0) (sx_iB_s aJ_114_1)) (sx_ite (p := fun l => sx_iOk prog_1_method_33_code l) (sx_iB_s aJ_114_2) (sx_ite (p := fun l => sx_iOk prog_1_method_33_code l) (sx_iB_s aJ_114_3) (sx_iB_s aJ_114_4))))
def aU_114 (y pc : Nat) : Option (Instr × Nat) := if y = 114 then sx_iF (aS_114 pc) pc else none
set_option maxRecDepth 100000 in
theorem aV0_114 (y : Nat) : sx_P1 (aU_114 y) y := by
  intro pc r h mt hm
  unfold aU_114 at h
  split at h
  · rename_i hy
    subst hy
    have e : aM_114.1 = mt := Option.some.inj (show some aM_114.1 = some mt from hm)
    subst e
    exact sx_iF_s (aT_114 pc) h
  · cases h
def aS_115 (pc : Nat) : sx_IL := (if pc < 34 then (if pc < 10 then aI_115_0 else (if pc < 22 then aI_115_1 else aI_115_2)) else (if pc < 54 then (if pc < 44 then aI_115_3 else aI_115_4) else (if pc < 64 then aI_115_5 else aI_115_6)))
theorem aT_115 (pc : Nat) : sx_iOk prog_1_method_34_code (aS_115 pc) := (sx_ite (p := fun l => sx_iOk prog_1_method_34_code l) (sx_ite (p := fun l => sx_iOk prog_1_method_34_code l) (sx_iB_s aJ_115_0) (sx_ite (p := fun l => sx_iOk prog_1_method_34_code l) (sx_iB_s aJ_115_1) (sx_iB_s aJ_115_2))) (sx_ite (p := fun l => sx_iOk prog_1_method_34_code l) (sx_ite (p := fun l => sx_iOk prog_1_method_34_code l) (sx_iB_s aJ_115_3) (sx_iB_s aJ_115_4)) (sx_ite (p := fun l => sx_iOk prog_1_method_34_code l) (sx_iB_s aJ_115_5) (sx_iB_s aJ_115_6))))
def aU_115 (y pc : Nat) : Option (Instr × Nat) := if y = 115 then sx_iF (aS_115 pc) pc else none
set_option maxRecDepth 100000 in
theorem aV0_115 (y : Nat) : sx_P1 (aU_115 y) y := by
  intro pc r h mt hm
  unfold aU_115 at h
  split at h
  · rename_i hy
    subst hy
    have e : aM_115.1 = mt := Option.some.inj (show some aM_115.1 = some mt from hm)
    subst e
    exact sx_iF_s (aT_115 pc) h
  · cases h
def aS_116 (pc : Nat) : sx_IL := (if pc < 83 then (if pc < 42 then (if pc < 23 then (if pc < 10 then aI_116_0 else (if pc < 17 then aI_116_1 else aI_116_2)) else (if pc < 29 then aI_116_3 else (if pc < 36 then aI_116_4 else aI_116_5))) else (if pc < 61 then (if pc < 48 then aI_116_6 else (if pc < 54 then aI_116_7 else aI_116_8)) else (if pc < 67 then aI_116_9 else (if pc < 73 then aI_116_10 else aI_116_11)))) else (if pc < 126 then (if pc < 102 then (if pc < 89 then aI_116_12 else (if pc < 95 then aI_116_13 else aI_116_14)) else (if pc < 108 then aI_116_15 else (if pc < 116 then aI_116_16 else aI_116_17))) else (if pc < 163 then (if pc < 139 then aI_116_18 else (if pc < 150 then aI_116_19 else aI_116_20)) else (if pc < 176 then aI_116_21 else (if pc < 190 then aI_116_22 else aI_116_23)))))
theorem aT_116 (pc : Nat) : sx_iOk prog_3_method_1_code (aS_116 pc) := (sx_ite (p := fun l => sx_iOk prog_3_method_1_code l) (sx_ite (p := fun l => sx_iOk prog_3_method_1_code l) (sx_ite (p := fun l => sx_iOk prog_3_method_1_code l) (sx_ite (p := fun l => sx_iOk prog_3_method_1_code l) (sx_iB_s aJ_116_0) (sx_ite (p := fun l => sx_iOk prog_3_method_1_code l) (sx_iB_s aJ_116_1) (sx_iB_s aJ_116_2))) (sx_ite (p := fun l => sx_iOk prog_3_method_1_code l) (sx_iB_s aJ_116_3) (sx_ite (p := fun l => sx_iOk prog_3_method_1_code l) (sx_iB_s aJ_116_4) (sx_iB_s aJ_116_5)))) (sx_ite (p := fun l => sx_iOk prog_3_method_1_code l) (sx_ite (p := fun l => sx_iOk prog_3_method_1_code l) (sx_iB_s aJ_116_6) (sx_ite (p := fun l => sx_iOk prog_3_method_1_code l) (sx_iB_s aJ_116_7) (sx_iB_s aJ_116_8))) (sx_ite (p := fun l => sx_iOk prog_3_method_1_code l) (sx_iB_s aJ_116_9) (sx_ite (p := fun l => sx_iOk prog_3_method_1_code l) (sx_iB_s aJ_116_10) (sx_iB_s aJ_116_11))))) (sx_ite (p := fun l => sx_iOk prog_3_method_1_code l) (sx_ite (p := fun l => sx_iOk prog_3_method_1_code l) (sx_ite (p := fun l => sx_iOk prog_3_method_1_code l) (sx_iB_s aJ_116_12) (sx_ite (p := fun l => sx_iOk prog_3_method_1_code l) (sx_iB_s aJ_116_13) (sx_iB_s aJ_116_14))) (sx_ite (p := fun l => sx_iOk prog_3_method_1_code l) (sx_iB_s aJ_116_15) (sx_ite (p := fun l => sx_iOk prog_3_method_1_code l) (sx_iB_s aJ_116_16) (sx_iB_s aJ_116_17)))) (sx_ite (p := fun l => sx_iOk prog_3_method_1_code l) (sx_ite (p := fun l => sx_iOk prog_3_method_1_code l) (sx_iB_s aJ_116_18) (sx_ite (p := fun l => sx_iOk prog_3_method_1_code l) (sx_iB_s aJ_116_19) (sx_iB_s aJ_116_20))) (sx_ite (p := fun l => sx_iOk prog_3_method_1_code l) (sx_iB_s aJ_116_21) (sx_ite (p := fun l => sx_iOk prog_3_method_1_code l) (sx_iB_s aJ_116_22) (sx_iB_s aJ_116_23))))))
def aU_116 (y pc : Nat) : Option (Instr × Nat) := if y = 116 then sx_iF (aS_116 pc) pc else none
set_option maxRecDepth 100000 in
theorem aV0_116 (y : Nat) : sx_P1 (aU_116 y) y := by
  intro pc r h mt hm
  unfold aU_116 at h
  split at h
  · rename_i hy
    subst hy
    have e : aM_116.1 = mt := Option.some.inj (show some aM_116.1 = some mt from hm)
    subst e
    exact sx_iF_s (aT_116 pc) h
  · cases h
def aS_117 (pc : Nat) : sx_IL := (if pc < 30 then (if pc < 12 then aI_117_0 else (if pc < 20 then aI_117_1 else aI_117_2)) else (if pc < 42 then aI_117_3 else (if pc < 50 then aI_117_4 else aI_117_5)))
theorem aT_117 (pc : Nat) : sx_iOk prog_1_method_37_code (aS_117 pc) := (sx_ite (p := fun l => sx_iOk prog_1_method_37_code l) (sx_ite (p := fun l => sx_iOk prog_1_method_37_code l) (sx_iB_s aJ_117_0) (sx_ite (p := fun l => sx_iOk prog_1_method_37_code l) (sx_iB_s aJ_117_1) (sx_iB_s aJ_117_2))) (sx_ite (p := fun l => sx_iOk prog_1_method_37_code l) (sx_iB_s aJ_117_3) (sx_ite (p := fun l => sx_iOk prog_1_method_37_code l) (sx_iB_s aJ_117_4) (sx_iB_s aJ_117_5))))
def aU_117 (y pc : Nat) : Option (Instr × Nat) := if y = 117 then sx_iF (aS_117 pc) pc else none
set_option maxRecDepth 100000 in
theorem aV0_117 (y : Nat) : sx_P1 (aU_117 y) y := by
  intro pc r h mt hm
  unfold aU_117 at h
  split at h
  · rename_i hy
    subst hy
    have e : aM_117.1 = mt := Option.some.inj (show some aM_117.1 = some mt from hm)
    subst e
    exact sx_iF_s (aT_117 pc) h
  · cases h
def aS_120 (pc : Nat) : sx_IL := (if pc < 30 then (if pc < 12 then aI_120_0 else (if pc < 22 then aI_120_1 else aI_120_2)) else (if pc < 41 then aI_120_3 else (if pc < 49 then aI_120_4 else aI_120_5)))
theorem aT_120 (pc : Nat) : sx_iOk prog_1_method_38_code (aS_120 pc) := (sx_ite (p := fun l => sx_iOk prog_1_method_38_code l) (sx_ite (p := fun l => sx_iOk prog_1_method_38_code l) (sx_iB_s aJ_120_0) (sx_ite (p := fun l => sx_iOk prog_1_method_38_code l) (sx_iB_s aJ_120_1) (sx_iB_s aJ_120_2))) (sx_ite (p := fun l => sx_iOk prog_1_method_38_code l) (sx_iB_s aJ_120_3) (sx_ite (p := fun l => sx_iOk prog_1_method_38_code l) (sx_iB_s aJ_120_4) (sx_iB_s aJ_120_5))))
def aU_120 (y pc : Nat) : Option (Instr × Nat) := if y = 120 then sx_iF (aS_120 pc) pc else none
set_option maxRecDepth 100000 in
theorem aV0_120 (y : Nat) : sx_P1 (aU_120 y) y := by
  intro pc r h mt hm
  unfold aU_120 at h
  split at h
  · rename_i hy
    subst hy
    have e : aM_120.1 = mt := Option.some.inj (show some aM_120.1 = some mt from hm)
    subst e
    exact sx_iF_s (aT_120 pc) h
  · cases h
def aS_122 (pc : Nat) : sx_IL := (if pc < 32 then (if pc < 10 then aI_122_0 else (if pc < 20 then aI_122_1 else aI_122_2)) else (if pc < 57 then (if pc < 43 then aI_122_3 else aI_122_4) else (if pc < 71 then aI_122_5 else aI_122_6)))
theorem aT_122 (pc : Nat) : sx_iOk prog_1_method_39_code (aS_122 pc) := (sx_ite (p := fun l => sx_iOk prog_1_method_39_code l) (sx_ite (p := fun l => sx_iOk prog_1_method_39_code l) (sx_iB_s aJ_122_0) (sx_ite (p := fun l => sx_iOk prog_1_method_39_code l) (sx_iB_s aJ_122_1) (sx_iB_s aJ_122_2))) (sx_ite (p := fun l => sx_iOk prog_1_method_39_code l) (sx_ite (p := fun l => sx_iOk prog_1_method_39_code l) (sx_iB_s aJ_122_3) (sx_iB_s aJ_122_4)) (sx_ite (p := fun l => sx_iOk prog_1_method_39_code l) (sx_iB_s aJ_122_5) (sx_iB_s aJ_122_6))))
def aU_122 (y pc : Nat) : Option (Instr × Nat) := if y = 122 then sx_iF (aS_122 pc) pc else none
set_option maxRecDepth 100000 in
theorem aV0_122 (y : Nat) : sx_P1 (aU_122 y) y := by
  intro pc r h mt hm
  unfold aU_122 at h
  split at h
  · rename_i hy
    subst hy
    have e : aM_122.1 = mt := Option.some.inj (show some aM_122.1 = some mt from hm)
    subst e
    exact sx_iF_s (aT_122 pc) h
  · cases h
def aS_123 (pc : Nat) : sx_IL := (if pc < 10 then aI_123_0 else (if pc < 22 then aI_123_1 else aI_123_2))
theorem aT_123 (pc : Nat) : sx_iOk prog_1_method_40_code (aS_123 pc) := (sx_ite (p := fun l => sx_iOk prog_1_method_40_code l) (sx_iB_s aJ_123_0) (sx_ite (p := fun l => sx_iOk prog_1_method_40_code l) (sx_iB_s aJ_123_1) (sx_iB_s aJ_123_2)))
def aU_123 (y pc : Nat) : Option (Instr × Nat) := if y = 123 then sx_iF (aS_123 pc) pc else none
set_option maxRecDepth 100000 in
theorem aV0_123 (y : Nat) : sx_P1 (aU_123 y) y := by
  intro pc r h mt hm
  unfold aU_123 at h
  split at h
  · rename_i hy
    subst hy
    have e : aM_123.1 = mt := Option.some.inj (show some aM_123.1 = some mt from hm)
    subst e
    exact sx_iF_s (aT_123 pc) h
  · cases h
def aS_125 (pc : Nat) : sx_IL := (if pc < 69 then (if pc < 35 then (if pc < 12 then aI_125_0 else (if pc < 22 then aI_125_1 else aI_125_2)) else (if pc < 47 then aI_125_3 else (if pc < 55 then aI_125_4 else aI_125_5))) else (if pc < 101 then (if pc < 78 then aI_125_6 else (if pc < 88 then aI_125_7 else aI_125_8)) else (if pc < 112 then aI_125_9 else (if pc < 124 then aI_125_10 else aI_125_11))))
theorem aT_125 (pc : Nat) : sx_iOk prog_1_method_41_code (aS_125 pc) := (sx_ite (p := fun l => sx_iOk prog_1_method_41_code l) (sx_ite (p := fun l => sx_iOk prog_1_method_41_code l) (sx_ite (p := fun l => sx_iOk prog_1_method_41_code l) (sx_iB_s aJ_125_0) (sx_ite (p := fun l => sx_iOk prog_1_method_41_code l) (sx_iB_s aJ_125_1) (sx_iB_s aJ_125_2))) (sx_ite (p := fun l => sx_iOk prog_1_method_41_code l) (sx_iB_s aJ_125_3) (sx_ite (p := fun l => sx_iOk prog_1_method_41_code l) (sx_iB_s aJ_125_4) (sx_iB_s aJ_125_5)))) (sx_ite (p := fun l => sx_iOk prog_1_method_41_code l) (sx_ite (p := fun l => sx_iOk prog_1_method_41_code l) (sx_iB_s aJ_125_6) (sx_ite (p := fun l => sx_iOk prog_1_method_41_code l) (sx_iB_s aJ_125_7) (sx_iB_s aJ_125_8))) (sx_ite (p := fun l => sx_iOk prog_1_method_41_code l) (sx_iB_s aJ_125_9) (sx_ite (p := fun l => sx_iOk prog_1_method_41_code l) (sx_iB_s aJ_125_10) (sx_iB_s aJ_125_11)))))
def aU_125 (y pc : Nat) : Option (Instr × Nat) := if y = 125 then sx_iF (aS_125 pc) pc else none
set_option maxRecDepth 100000 in
theorem aV0_125 (y : Nat) : sx_P1 (aU_125 y) y := by
  intro pc r h mt hm
  unfold aU_125 at h
  split at h
  · rename_i hy
    subst hy
    have e : aM_125.1 = mt := Option.some.inj (show some aM_125.1 = some mt from hm)
    subst e
    exact sx_iF_s (aT_125 pc) h
  · cases h
def aS_126 (pc : Nat) : sx_IL := (if pc < 35 then (if pc < 10 then aI_126_0 else (if pc < 22 then aI_126_1 else aI_126_2)) else (if pc < 59 then (if pc < 47 then aI_126_3 else aI_126_4) else (if pc < 73 then aI_126_5 else aI_126_6)))
theorem aT_126 (pc : Nat) : sx_iOk prog_1_method_42_code (aS_126 pc) := (sx_ite (p := fun l => sx_iOk prog_1_method_42_code l) (sx_ite (p := fun l => sx_iOk prog_1_method_42_code l) (sx_iB_s aJ_126_0) (sx_ite (p := fun l => sx_iOk prog_1_method_42_code l) (sx_iB_s aJ_126_1) (sx_iB_s aJ_126_2))) (sx_ite (p := fun l => sx_iOk prog_1_method_42_code l) (sx_ite (p := fun l => sx_iOk prog_1_method_42_code l) (sx_iB_s aJ_126_3) (sx_iB_s aJ_126_4)) (sx_ite (p := fun l => sx_iOk prog_1_method_42_code l) (sx_iB_s aJ_126_5) (sx_iB_s aJ_126_6))))
def aU_126 (y pc : Nat) : Option (Instr × Nat) := if y = 126 then sx_iF (aS_126 pc) pc else none
set_option maxRecDepth 100000 in
theorem aV0_126 (y : Nat) : sx_P1 (aU_126 y) y := by
  intro pc r h mt hm
  unfold aU_126 at h
  split at h
  · rename_i hy
    subst hy
    have e : aM_126.1 = mt := Option.some.inj (show some aM_126.1 = some mt from hm)
    subst e
    exact sx_iF_s (aT_126 pc) h
  · cases h
def aS_127 (pc : Nat) : sx_IL := (if pc < 12 then aI_127_0 else (if pc < 24 then aI_127_1 else aI_127_2))
theorem aT_127 (pc : Nat) : sx_iOk prog_1_method_36_code (aS_127 pc) := (sx_ite (p := fun l => sx_iOk prog_1_method_36_code l) (sx_iB_s aJ_127_0) (sx_ite (p := fun l => sx_iOk prog_1_method_36_code l) (sx_iB_s aJ_127_1) (sx_iB_s aJ_127_2)))
def aU_127 (y pc : Nat) : Option (Instr × Nat) := if y = 127 then sx_iF (aS_127 pc) pc else none
set_option maxRecDepth 100000 in
theorem aV0_127 (y : Nat) : sx_P1 (aU_127 y) y := by
  intro pc r h mt hm
  unfold aU_127 at h
  split at h
  · rename_i hy
    subst hy
    have e : aM_127.1 = mt := Option.some.inj (show some aM_127.1 = some mt from hm)
    subst e
    exact sx_iF_s (aT_127 pc) h
  · cases h
def aS_128 (pc : Nat) : sx_IL := (if pc < 48 then (if pc < 24 then (if pc < 12 then aI_128_0 else aI_128_1) else (if pc < 37 then aI_128_2 else aI_128_3)) else (if pc < 70 then (if pc < 60 then aI_128_4 else aI_128_5) else (if pc < 82 then aI_128_6 else (if pc < 94 then aI_128_7 else aI_128_8))))
theorem aT_128 (pc : Nat) : sx_iOk prog_1_method_43_code (aS_128 pc) := (sx_ite (p := fun l => sx_iOk prog_1_method_43_code l) (sx_ite (p := fun l => sx_iOk prog_1_method_43_code l) (sx_ite (p := fun l => sx_iOk prog_1_method_43_code l) (sx_iB_s aJ_128_0) (sx_iB_s aJ_128_1)) (sx_ite (p := fun l => sx_iOk prog_1_method_43_code l) (sx_iB_s aJ_128_2) (sx_iB_s aJ_128_3))) (sx_ite (p := fun l => sx_iOk prog_1_method_43_code l) (sx_ite (p := fun l => sx_iOk prog_1_method_43_code l) (sx_iB_s aJ_128_4) (sx_iB_s aJ_128_5)) (sx_ite (p := fun l => sx_iOk prog_1_method_43_code l) (sx_iB_s aJ_128_6) (sx_ite (p := fun l => sx_iOk prog_1_method_43_code l) (sx_iB_s aJ_128_7) (sx_iB_s aJ_128_8)))))
def aU_128 (y pc : Nat) : Option (Instr × Nat) := if y = 128 then sx_iF (aS_128 pc) pc else none
set_option maxRecDepth 100000 in
theorem aV0_128 (y : Nat) : sx_P1 (aU_128 y) y := by
  intro pc r h mt hm
  unfold aU_128 at h
  split at h
  · rename_i hy
    subst hy
    have e : aM_128.1 = mt := Option.some.inj (show some aM_128.1 = some mt from hm)
    subst e
    exact sx_iF_s (aT_128 pc) h
  · cases h
def aS_131 (pc : Nat) : sx_IL := (if pc < 22 then (if pc < 12 then aI_131_0 else aI_131_1) else (if pc < 32 then aI_131_2 else aI_131_3))
theorem aT_131 (pc : Nat) : sx_iOk prog_1_method_44_code (aS_131 pc) := (sx_ite (p := fun l => sx_iOk prog_1_method_44_code l) (sx_ite (p := fun l => sx_iOk prog_1_method_44_code l) (sx_iB_s aJ_131_0) (sx_iB_s aJ_131_1)) (sx_ite (p := fun l => sx_iOk prog_1_method_44_code l) (sx_iB_s aJ_131_2) (sx_iB_s aJ_131_3)))
def aU_131 (y pc : Nat) : Option (Instr × Nat) := if y = 131 then sx_iF (aS_131 pc) pc else none
set_option maxRecDepth 100000 in
theorem aV0_131 (y : Nat) : sx_P1 (aU_131 y) y := by
  intro pc r h mt hm
  unfold aU_131 at h
  split at h
  · rename_i hy
    subst hy
    have e : aM_131.1 = mt := Option.some.inj (show some aM_131.1 = some mt from hm)
    subst e
    exact sx_iF_s (aT_131 pc) h
  · cases h
def aS_133 (pc : Nat) : sx_IL := (if pc < 42 then (if pc < 22 then (if pc < 12 then aI_133_0 else aI_133_1) else (if pc < 34 then aI_133_2 else aI_133_3)) else (if pc < 66 then (if pc < 53 then aI_133_4 else aI_133_5) else (if pc < 78 then aI_133_6 else aI_133_7)))
theorem aT_133 (pc : Nat) : sx_iOk prog_1_method_45_code (aS_133 pc) := (sx_ite (p := fun l => sx_iOk prog_1_method_45_code l) (sx_ite (p := fun l => sx_iOk prog_1_method_45_code l) (sx_ite (p := fun l => sx_iOk prog_1_method_45_code l) (sx_iB_s aJ_133_0) (sx_iB_s aJ_133_1)) (sx_ite (p := fun l => sx_iOk prog_1_method_45_code l) (sx_iB_s aJ_133_2) (sx_iB_s aJ_133_3))) (sx_ite (p := fun l => sx_iOk prog_1_method_45_code l) (sx_ite (p := fun l => sx_iOk prog_1_method_45_code l) (sx_iB_s aJ_133_4) (sx_iB_s aJ_133_5)) (sx_ite (p := fun l => sx_iOk prog_1_method_45_code l) (sx_iB_s aJ_133_6) (sx_iB_s aJ_133_7))))
def aU_133 (y pc : Nat) : Option (Instr × Nat) := if y = 133 then sx_iF (aS_133 pc) pc else none
set_option maxRecDepth 100000 in
theorem aV0_133 (y : Nat) : sx_P1 (aU_133 y) y := by
  intro pc r h mt hm
  unfold aU_133 at h
  split at h
  · rename_i hy
    subst hy
    have e : aM_133.1 = mt := Option.some.inj (show some aM_133.1 = some mt from hm)
    subst e
    exact sx_iF_s (aT_133 pc) h
  · cases h
def aS_135 (pc : Nat) : sx_IL := (if pc < 35 then (if pc < 10 then aI_135_0 else (if pc < 25 then aI_135_1 else aI_135_2)) else (if pc < 59 then (if pc < 47 then aI_135_3 else aI_135_4) else (if pc < 73 then aI_135_5 else aI_135_6)))
theorem aT_135 (pc : Nat) : sx_iOk prog_1_method_46_code (aS_135 pc) := (sx_ite (p := fun l => sx_iOk prog_1_method_46_code l) (sx_ite (p := fun l => sx_iOk prog_1_method_46_code l) (sx_iB_s aJ_135_0) (sx_ite (p := fun l => sx_iOk prog_1_method_46_code l) (sx_iB_s aJ_135_1) (sx_iB_s aJ_135_2))) (sx_ite (p := fun l => sx_iOk prog_1_method_46_code l) (sx_ite (p := fun l => sx_iOk prog_1_method_46_code l) (sx_iB_s aJ_135_3) (sx_iB_s aJ_135_4)) (sx_ite (p := fun l => sx_iOk prog_1_method_46_code l) (sx_iB_s aJ_135_5) (sx_iB_s aJ_135_6))))
def aU_135 (y pc : Nat) : Option (Instr × Nat) := if y = 135 then sx_iF (aS_135 pc) pc else none
set_option maxRecDepth 100000 in
theorem aV0_135 (y : Nat) : sx_P1 (aU_135 y) y := by
  intro pc r h mt hm
  unfold aU_135 at h
  split at h
  · rename_i hy
    subst hy
    have e : aM_135.1 = mt := Option.some.inj (show some aM_135.1 = some mt from hm)
    subst e
    exact sx_iF_s (aT_135 pc) h
  · cases h
def aS_136 (pc : Nat) : sx_IL := (if pc < 88 then (if pc < 44 then (if pc < 20 then (if pc < 10 then aI_136_0 else aI_136_1) else (if pc < 32 then aI_136_2 else aI_136_3)) else (if pc < 66 then (if pc < 55 then aI_136_4 else aI_136_5) else (if pc < 76 then aI_136_6 else aI_136_7))) else (if pc < 128 then (if pc < 109 then (if pc < 97 then aI_136_8 else aI_136_9) else (if pc < 118 then aI_136_10 else aI_136_11)) else (if pc < 150 then (if pc < 138 then aI_136_12 else aI_136_13) else (if pc < 161 then aI_136_14 else (if pc < 170 then aI_136_15 else aI_136_16)))))
theorem aT_136 (pc : Nat) : sx_iOk prog_1_method_47_code (aS_136 pc) := (sx_ite (p := fun l => sx_iOk prog_1_method_47_code l) (sx_ite (p := fun l => sx_iOk prog_1_method_47_code l) (sx_ite (p := fun l => sx_iOk prog_1_method_47_code l) (sx_ite (p := fun l => sx_iOk prog_1_method_47_code l) (sx_iB_s aJ_136_0) (sx_iB_s aJ_136_1)) (sx_ite (p := fun l => sx_iOk prog_1_method_47_code l) (sx_iB_s aJ_136_2) (sx_iB_s aJ_136_3))) (sx_ite (p := fun l => sx_iOk prog_1_method_47_code l) (sx_ite (p := fun l => sx_iOk prog_1_method_47_code l) (sx_iB_s aJ_136_4) (sx_iB_s aJ_136_5)) (sx_ite (p := fun l => sx_iOk prog_1_method_47_code l) (sx_iB_s aJ_136_6) (sx_iB_s aJ_136_7)))) (sx_ite (p := fun l => sx_iOk prog_1_method_47_code l) (sx_ite (p := fun l => sx_iOk prog_1_method_47_code l) (sx_ite (p := fun l => sx_iOk prog_1_method_47_code l) (sx_iB_s aJ_136_8) (sx_iB_s aJ_136_9)) (sx_ite (p := fun l => sx_iOk prog_1_method_47_code l) (sx_iB_s aJ_136_10) (sx_iB_s aJ_136_11))) (sx_ite (p := fun l => sx_iOk prog_1_method_47_code l) (sx_ite (p := fun l => sx_iOk prog_1_method_47_code l) (sx_iB_s aJ_136_12) (sx_iB_s aJ_136_13)) (sx_ite (p := fun l => sx_iOk prog_1_method_47_code l) (sx_iB_s aJ_136_14) (sx_ite (p := fun l => sx_iOk prog_1_method_47_code l) (sx_iB_s aJ_136_15) (sx_iB_s aJ_136_16))))))
def aU_136 (y pc : Nat) : Option (Instr × Nat) := if y = 136 then sx_iF (aS_136 pc) pc else none
set_option maxRecDepth 100000 in
theorem aV0_136 (y : Nat) : sx_P1 (aU_136 y) y := by
  intro pc r h mt hm
  unfold aU_136 at h
  split at h
  · rename_i hy
    subst hy
    have e : aM_136.1 = mt := Option.some.inj (show some aM_136.1 = some mt from hm)
    subst e
    exact sx_iF_s (aT_136 pc) h
  · cases h
def aS_143 (pc : Nat) : sx_IL := (if pc < 18 then (if pc < 9 then aI_143_0 else aI_143_1) else (if pc < 26 then aI_143_2 else (if pc < 33 then aI_143_3 else aI_143_4)))
theorem aT_143 (pc : Nat) : sx_iOk prog_9_method_5_code (aS_143 pc) := (sx_ite (p := fun l => sx_iOk prog_9_method_5_code l) (sx_ite (p := fun l => sx_iOk prog_9_method_5_code l) (sx_iB_s aJ_143_0) (sx_iB_s aJ_143_1)) (sx_ite (p := fun l => sx_iOk prog_9_method_5_code l) (sx_iB_s aJ_143_2) (sx_ite (p := fun l => sx_iOk prog_9_method_5_code l) (sx_iB_s aJ_143_3) (sx_iB_s aJ_143_4))))
def aU_143 (y pc : Nat) : Option (Instr × Nat) := if y = 143 then sx_iF (aS_143 pc) pc else none
set_option maxRecDepth 100000 in
theorem aV0_143 (y : Nat) : sx_P1 (aU_143 y) y := by
  intro pc r h mt hm
  unfold aU_143 at h
  split at h
  · rename_i hy
    subst hy
    have e : aM_143.1 = mt := Option.some.inj (show some aM_143.1 = some mt from hm)
    subst e
    exact sx_iF_s (aT_143 pc) h
  · cases h
def aS_144 (pc : Nat) : sx_IL := (if pc < 22 then (if pc < 12 then aI_144_0 else aI_144_1) else (if pc < 32 then aI_144_2 else (if pc < 42 then aI_144_3 else aI_144_4)))
theorem aT_144 (pc : Nat) : sx_iOk prog_9_method_13_code (aS_144 pc) := (sx_ite (p := fun l => sx_iOk prog_9_method_13_code l) (sx_ite (p := fun l => sx_iOk prog_9_method_13_code l) (sx_iB_s aJ_144_0) (sx_iB_s aJ_144_1)) (sx_ite (p := fun l => sx_iOk prog_9_method_13_code l) (sx_iB_s aJ_144_2) (sx_ite (p := fun l => sx_iOk prog_9_method_13_code l) (sx_iB_s aJ_144_3) (sx_iB_s aJ_144_4))))
def aU_144 (y pc : Nat) : Option (Instr × Nat) := if y = 144 then sx_iF (aS_144 pc) pc else none
set_option maxRecDepth 100000 in
theorem aV0_144 (y : Nat) : sx_P1 (aU_144 y) y := by
  intro pc r h mt hm
  unfold aU_144 at h
  split at h
  · rename_i hy
    subst hy
    have e : aM_144.1 = mt := Option.some.inj (show some aM_144.1 = some mt from hm)
    subst e
    exact sx_iF_s (aT_144 pc) h
  · cases h
def aS_149 (pc : Nat) : sx_IL := (if pc < 9 then aI_149_0 else aI_149_1)
theorem aT_149 (pc : Nat) : sx_iOk prog_9_method_8_code (aS_149 pc) := (sx_ite (p := fun l => sx_iOk prog_9_method_8_code l) (sx_iB_s aJ_149_0) (sx_iB_s aJ_149_1))
def aU_149 (y pc : Nat) : Option (Instr × Nat) := if y = 149 then sx_iF (aS_149 pc) pc else none
set_option maxRecDepth 100000 in
theorem aV0_149 (y : Nat) : sx_P1 (aU_149 y) y := by
  intro pc r h mt hm
  unfold aU_149 at h
  split at h
  · rename_i hy
    subst hy
    have e : aM_149.1 = mt := Option.some.inj (show some aM_149.1 = some mt from hm)
    subst e
    exact sx_iF_s (aT_149 pc) h
  · cases h
def aS_152 (pc : Nat) : sx_IL := (if pc < 9 then aI_152_0 else aI_152_1)
theorem aT_152 (pc : Nat) : sx_iOk prog_9_method_9_code (aS_152 pc) := (sx_ite (p := fun l => sx_iOk prog_9_method_9_code l) (sx_iB_s aJ_152_0) (sx_iB_s aJ_152_1))
def aU_152 (y pc : Nat) : Option (Instr × Nat) := if y = 152 then sx_iF (aS_152 pc) pc else none
set_option maxRecDepth 100000 in
theorem aV0_152 (y : Nat) : sx_P1 (aU_152 y) y := by
  intro pc r h mt hm
  unfold aU_152 at h
  split at h
  · rename_i hy
    subst hy
    have e : aM_152.1 = mt := Option.some.inj (show some aM_152.1 = some mt from hm)
    subst e
    exact sx_iF_s (aT_152 pc) h
  · cases h
def aS_160 (pc : Nat) : sx_IL := (if pc < 9 then aI_160_0 else (if pc < 19 then aI_160_1 else aI_160_2))
theorem aT_160 (pc : Nat) : sx_iOk prog_6_method_16_code (aS_160 pc) := (sx_ite (p := fun l => sx_iOk prog_6_method_16_code l) (sx_iB_s aJ_160_0) (sx_ite (p := fun l => sx_iOk prog_6_method_16_code l) (sx_iB_s aJ_160_1) (sx_iB_s aJ_160_2)))
def aU_160 (y pc : Nat) : Option (Instr × Nat) := if y = 160 then sx_iF (aS_160 pc) pc else none
set_option maxRecDepth 100000 in
theorem aV0_160 (y : Nat) : sx_P1 (aU_160 y) y := by
  intro pc r h mt hm
  unfold aU_160 at h
  split at h
  · rename_i hy
    subst hy
    have e : aM_160.1 = mt := Option.some.inj (show some aM_160.1 = some mt from hm)
    subst e
    exact sx_iF_s (aT_160 pc) h
  · cases h
def aS_161 (pc : Nat) : sx_IL := (if pc < 24 then (if pc < 10 then aI_161_0 else aI_161_1) else (if pc < 34 then aI_161_2 else (if pc < 48 then aI_161_3 else aI_161_4)))
theorem aT_161 (pc : Nat) : sx_iOk prog_6_method_5_code (aS_161 pc) := (sx_ite (p := fun l => sx_iOk prog_6_method_5_code l) (sx_ite (p := fun l => sx_iOk prog_6_method_5_code l) (sx_iB_s aJ_161_0) (sx_iB_s aJ_161_1)) (sx_ite (p := fun l => sx_iOk prog_6_method_5_code l) (sx_iB_s aJ_161_2) (sx_ite (p := fun l => sx_iOk prog_6_method_5_code l) (sx_iB_s aJ_161_3) (sx_iB_s aJ_161_4))))
def aU_161 (y pc : Nat) : Option (Instr × Nat) := if y = 161 then sx_iF (aS_161 pc) pc else none
set_option maxRecDepth 100000 in
theorem aV0_161 (y : Nat) : sx_P1 (aU_161 y) y := by
  intro pc r h mt hm
  unfold aU_161 at h
  split at h
  · rename_i hy
    subst hy
    have e : aM_161.1 = mt := Option.some.inj (show some aM_161.1 = some mt from hm)
    subst e
    exact sx_iF_s (aT_161 pc) h
  · cases h
def aS_167 (pc : Nat) : sx_IL := (if pc < 29 then (if pc < 10 then aI_167_0 else (if pc < 18 then aI_167_1 else aI_167_2)) else (if pc < 54 then (if pc < 42 then aI_167_3 else aI_167_4) else (if pc < 68 then aI_167_5 else aI_167_6)))
theorem aT_167 (pc : Nat) : sx_iOk prog_1_method_50_code (aS_167 pc) := (sx_ite (p := fun l => sx_iOk prog_1_method_50_code l) (sx_ite (p := fun l => sx_iOk prog_1_method_50_code l) (sx_iB_s aJ_167_0) (sx_ite (p := fun l => sx_iOk prog_1_method_50_code l) (sx_iB_s aJ_167_1) (sx_iB_s aJ_167_2))) (sx_ite (p := fun l => sx_iOk prog_1_method_50_code l) (sx_ite (p := fun l => sx_iOk prog_1_method_50_code l) (sx_iB_s aJ_167_3) (sx_iB_s aJ_167_4)) (sx_ite (p := fun l => sx_iOk prog_1_method_50_code l) (sx_iB_s aJ_167_5) (sx_iB_s aJ_167_6))))
def aU_167 (y pc : Nat) : Option (Instr × Nat) := if y = 167 then sx_iF (aS_167 pc) pc else none
set_option maxRecDepth 100000 in
theorem aV0_167 (y : Nat) : sx_P1 (aU_167 y) y := by
  intro pc r h mt hm
  unfold aU_167 at h
  split at h
  · rename_i hy
    subst hy
    have e : aM_167.1 = mt := Option.some.inj (show some aM_167.1 = some mt from hm)
    subst e
    exact sx_iF_s (aT_167 pc) h
  · cases h
def aS_168 (pc : Nat) : sx_IL := (if pc < 12 then aI_168_0 else (if pc < 22 then aI_168_1 else aI_168_2))
theorem aT_168 (pc : Nat) : sx_iOk prog_1_method_48_code (aS_168 pc) := (sx_ite (p := fun l => sx_iOk prog_1_method_48_code l) (sx_iB_s aJ_168_0) (sx_ite (p := fun l => sx_iOk prog_1_method_48_code l) (sx_iB_s aJ_168_1) (sx_iB_s aJ_168_2)))
def aU_168 (y pc : Nat) : Option (Instr × Nat) := if y = 168 then sx_iF (aS_168 pc) pc else none
set_option maxRecDepth 100000 in
theorem aV0_168 (y : Nat) : sx_P1 (aU_168 y) y := by
  intro pc r h mt hm
  unfold aU_168 at h
  split at h
  · rename_i hy
    subst hy
    have e : aM_168.1 = mt := Option.some.inj (show some aM_168.1 = some mt from hm)
    subst e
    exact sx_iF_s (aT_168 pc) h
  · cases h
def aS_169 (pc : Nat) : sx_IL := (if pc < 10 then aI_169_0 else (if pc < 18 then aI_169_1 else aI_169_2))
theorem aT_169 (pc : Nat) : sx_iOk prog_1_method_49_code (aS_169 pc) := (sx_ite (p := fun l => sx_iOk prog_1_method_49_code l) (sx_iB_s aJ_169_0) (sx_ite (p := fun l => sx_iOk prog_1_method_49_code l) (sx_iB_s aJ_169_1) (sx_iB_s aJ_169_2)))
def aU_169 (y pc : Nat) : Option (Instr × Nat) := if y = 169 then sx_iF (aS_169 pc) pc else none
set_option maxRecDepth 100000 in
theorem aV0_169 (y : Nat) : sx_P1 (aU_169 y) y := by
  intro pc r h mt hm
  unfold aU_169 at h
  split at h
  · rename_i hy
    subst hy
    have e : aM_169.1 = mt := Option.some.inj (show some aM_169.1 = some mt from hm)
    subst e
    exact sx_iF_s (aT_169 pc) h
  · cases h
def aS_171 (pc : Nat) : sx_IL := (if pc < 9 then aI_171_0 else aI_171_1)
theorem aT_171 (pc : Nat) : sx_iOk prog_9_method_4_code (aS_171 pc) := (sx_ite (p := fun l => sx_iOk prog_9_method_4_code l) (sx_iB_s aJ_171_0) (sx_iB_s aJ_171_1))
def aU_171 (y pc : Nat) : Option (Instr × Nat) := if y = 171 then sx_iF (aS_171 pc) pc else none
set_option maxRecDepth 100000 in
theorem aV0_171 (y : Nat) : sx_P1 (aU_171 y) y := by
  intro pc r h mt hm
  unfold aU_171 at h
  split at h
  · rename_i hy
    subst hy
    have e : aM_171.1 = mt := Option.some.inj (show some aM_171.1 = some mt from hm)
    subst e
    exact sx_iF_s (aT_171 pc) h
  · cases h
def aS_195 (pc : Nat) : sx_IL := (if pc < 9 then aI_195_0 else (if pc < 17 then aI_195_1 else aI_195_2))
theorem aT_195 (pc : Nat) : sx_iOk prog_9_method_6_code (aS_195 pc) := (sx_ite (p := fun l => sx_iOk prog_9_method_6_code l) (sx_iB_s aJ_195_0) (sx_ite (p := fun l => sx_iOk prog_9_method_6_code l) (sx_iB_s aJ_195_1) (sx_iB_s aJ_195_2)))
def aU_195 (y pc : Nat) : Option (Instr × Nat) := if y = 195 then sx_iF (aS_195 pc) pc else none
set_option maxRecDepth 100000 in
theorem aV0_195 (y : Nat) : sx_P1 (aU_195 y) y := by
  intro pc r h mt hm
  unfold aU_195 at h
  split at h
  · rename_i hy
    subst hy
    have e : aM_195.1 = mt := Option.some.inj (show some aM_195.1 = some mt from hm)
    subst e
    exact sx_iF_s (aT_195 pc) h
  · cases h
def aS_258 (pc : Nat) : sx_IL := (if pc < 81 then (if pc < 31 then (if pc < 10 then aI_258_0 else (if pc < 22 then aI_258_1 else aI_258_2)) else (if pc < 54 then (if pc < 39 then aI_258_3 else aI_258_4) else (if pc < 68 then aI_258_5 else aI_258_6))) else (if pc < 125 then (if pc < 96 then aI_258_7 else (if pc < 110 then aI_258_8 else aI_258_9)) else (if pc < 152 then (if pc < 139 then aI_258_10 else aI_258_11) else (if pc < 167 then aI_258_12 else aI_258_13))))
theorem aT_258 (pc : Nat) : sx_iOk prog_1_method_51_code (aS_258 pc) := (sx_ite (p := fun l => sx_iOk prog_1_method_51_code l) (sx_ite (p := fun l => sx_iOk prog_1_method_51_code l) (sx_ite (p := fun l => sx_iOk prog_1_method_51_code l) (sx_iB_s aJ_258_0) (sx_ite (p := fun l => sx_iOk prog_1_method_51_code l) (sx_iB_s aJ_258_1) (sx_iB_s aJ_258_2))) (sx_ite (p := fun l => sx_iOk prog_1_method_51_code l) (sx_ite (p := fun l => sx_iOk prog_1_method_51_code l) (sx_iB_s aJ_258_3) (sx_iB_s aJ_258_4)) (sx_ite (p := fun l => sx_iOk prog_1_method_51_code l) (sx_iB_s aJ_258_5) (sx_iB_s aJ_258_6)))) (sx_ite (p := fun l => sx_iOk prog_1_method_51_code l) (sx_ite (p := fun l => sx_iOk prog_1_method_51_code l) (sx_iB_s aJ_258_7) (sx_ite (p := fun l => sx_iOk prog_1_method_51_code l) (sx_iB_s aJ_258_8) (sx_iB_s aJ_258_9))) (sx_ite (p := fun l => sx_iOk prog_1_method_51_code l) (sx_ite (p := fun l => sx_iOk prog_1_method_51_code l) (sx_iB_s aJ_258_10) (sx_iB_s aJ_258_11)) (sx_ite (p := fun l => sx_iOk prog_1_method_51_code l) (sx_iB_s aJ_258_12) (sx_iB_s aJ_258_13)))))
def aU_258 (y pc : Nat) : Option (Instr × Nat) := if y = 258 then sx_iF (aS_258 pc) pc else none
set_option maxRecDepth 100000 in
theorem aV0_258 (y : Nat) : sx_P1 (aU_258 y) y := by
  intro pc r h mt hm
  unfold aU_258 at h
  split at h
  · rename_i hy
    subst hy
    have e : aM_258.1 = mt := Option.some.inj (show some aM_258.1 = some mt from hm)
    subst e
    exact sx_iF_s (aT_258 pc) h
  · cases h
def aS_259 (pc : Nat) : sx_IL := (if pc < 36 then (if pc < 10 then aI_259_0 else (if pc < 25 then aI_259_1 else aI_259_2)) else (if pc < 56 then (if pc < 47 then aI_259_3 else aI_259_4) else (if pc < 70 then aI_259_5 else aI_259_6)))
theorem aT_259 (pc : Nat) : sx_iOk prog_1_method_52_code (aS_259 pc) := (sx_ite (p := fun l => sx_iOk prog_1_method_52_code l) (sx_ite (p := fun l => sx_iOk prog_1_method_52_code l) (sx_iB_s aJ_259_0) (sx_ite (p := fun l => sx_iOk prog_1_method_52_code l) (sx_iB_s aJ_259_1) (sx_iB_s aJ_259_2))) (sx_ite (p := fun l => sx_iOk prog_1_method_52_code l) (sx_ite (p := fun l => sx_iOk prog_1_method_52_code l) (sx_iB_s aJ_259_3) (sx_iB_s aJ_259_4)) (sx_ite (p := fun l => sx_iOk prog_1_method_52_code l) (sx_iB_s aJ_259_5) (sx_iB_s aJ_259_6))))
def aU_259 (y pc : Nat) : Option (Instr × Nat) := if y = 259 then sx_iF (aS_259 pc) pc else none
set_option maxRecDepth 100000 in
theorem aV0_259 (y : Nat) : sx_P1 (aU_259 y) y := by
  intro pc r h mt hm
  unfold aU_259 at h
  split at h
  · rename_i hy
    subst hy
    have e : aM_259.1 = mt := Option.some.inj (show some aM_259.1 = some mt from hm)
    subst e
    exact sx_iF_s (aT_259 pc) h
  · cases h
def aS_260 (pc : Nat) : sx_IL := (if pc < 37 then (if pc < 10 then aI_260_0 else (if pc < 23 then aI_260_1 else aI_260_2)) else (if pc < 50 then aI_260_3 else (if pc < 59 then aI_260_4 else aI_260_5)))
theorem aT_260 (pc : Nat) : sx_iOk prog_1_method_53_code (aS_260 pc) := (sx_ite (p := fun l => sx_iOk prog_1_method_53_code l) (sx_ite (p := fun l => sx_iOk prog_1_method_53_code l) (sx_iB_s aJ_260_0) (sx_ite (p := fun l => sx_iOk prog_1_method_53_code l) (sx_iB_s aJ_260_1) (sx_iB_s aJ_260_2))) (sx_ite (p := fun l => sx_iOk prog_1_method_53_code l) (sx_iB_s aJ_260_3) (sx_ite (p := fun l => sx_iOk prog_1_method_53_code l) (sx_iB_s aJ_260_4) (sx_iB_s aJ_260_5))))
def aU_260 (y pc : Nat) : Option (Instr × Nat) := if y = 260 then sx_iF (aS_260 pc) pc else none
set_option maxRecDepth 100000 in
theorem aV0_260 (y : Nat) : sx_P1 (aU_260 y) y := by
  intro pc r h mt hm
  unfold aU_260 at h
  split at h
  · rename_i hy
    subst hy
    have e : aM_260.1 = mt := Option.some.inj (show some aM_260.1 = some mt from hm)
    subst e
    exact sx_iF_s (aT_260 pc) h
  · cases h
def aS_261 (pc : Nat) : sx_IL := (if pc < 45 then (if pc < 18 then (if pc < 10 then aI_261_0 else aI_261_1) else (if pc < 31 then aI_261_2 else aI_261_3)) else (if pc < 68 then (if pc < 57 then aI_261_4 else aI_261_5) else (if pc < 82 then aI_261_6 else aI_261_7)))
theorem aT_261 (pc : Nat) : sx_iOk prog_1_method_54_code (aS_261 pc) := (sx_ite (p := fun l => sx_iOk prog_1_method_54_code l) (sx_ite (p := fun l => sx_iOk prog_1_method_54_code l) (sx_ite (p := fun l => sx_iOk prog_1_method_54_code l) (sx_iB_s aJ_261_0) (sx_iB_s aJ_261_1)) (sx_ite (p := fun l => sx_iOk prog_1_method_54_code l) (sx_iB_s aJ_261_2) (sx_iB_s aJ_261_3))) (sx_ite (p := fun l => sx_iOk prog_1_method_54_code l) (sx_ite (p := fun l => sx_iOk prog_1_method_54_code l) (sx_iB_s aJ_261_4) (sx_iB_s aJ_261_5)) (sx_ite (p := fun l => sx_iOk prog_1_method_54_code l) (sx_iB_s aJ_261_6) (sx_iB_s aJ_261_7))))
def aU_261 (y pc : Nat) : Option (Instr × Nat) := if y = 261 then sx_iF (aS_261 pc) pc else none
set_option maxRecDepth 100000 in
theorem aV0_261 (y : Nat) : sx_P1 (aU_261 y) y := by
  intro pc r h mt hm
  unfold aU_261 at h
  split at h
  · rename_i hy
    subst hy
    have e : aM_261.1 = mt := Option.some.inj (show some aM_261.1 = some mt from hm)
    subst e
    exact sx_iF_s (aT_261 pc) h
  · cases h
def aS_263 (pc : Nat) : sx_IL := (if pc < 8 then aI_263_0 else aI_263_1)
theorem aT_263 (pc : Nat) : sx_iOk prog_1_method_55_code (aS_263 pc) := (sx_ite (p := fun l => sx_iOk prog_1_method_55_code l) (sx_iB_s aJ_263_0) (sx_iB_s aJ_263_1))
def aU_263 (y pc : Nat) : Option (Instr × Nat) := if y = 263 then sx_iF (aS_263 pc) pc else none
set_option maxRecDepth 100000 in
theorem aV0_263 (y : Nat) : sx_P1 (aU_263 y) y := by
  intro pc r h mt hm
  unfold aU_263 at h
  split at h
  · rename_i hy
    subst hy
    have e : aM_263.1 = mt := Option.some.inj (show some aM_263.1 = some mt from hm)
    subst e
    exact sx_iF_s (aT_263 pc) h
  · cases h
def aS_265 (pc : Nat) : sx_IL := (if pc < 18 then (if pc < 10 then aI_265_0 else aI_265_1) else (if pc < 31 then aI_265_2 else (if pc < 41 then aI_265_3 else aI_265_4)))
theorem aT_265 (pc : Nat) : sx_iOk prog_1_method_56_code (aS_265 pc) := (sx_ite (p := fun l => sx_iOk prog_1_method_56_code l) (sx_ite (p := fun l => sx_iOk prog_1_method_56_code l) (sx_iB_s aJ_265_0) (sx_iB_s aJ_265_1)) (sx_ite (p := fun l => sx_iOk prog_1_method_56_code l) (sx_iB_s aJ_265_2) (sx_ite (p := fun l => sx_iOk prog_1_method_56_code l) (sx_iB_s aJ_265_3) (sx_iB_s aJ_265_4))))
def aU_265 (y pc : Nat) : Option (Instr × Nat) := if y = 265 then sx_iF (aS_265 pc) pc else none
set_option maxRecDepth 100000 in
theorem aV0_265 (y : Nat) : sx_P1 (aU_265 y) y := by
  intro pc r h mt hm
  unfold aU_265 at h
  split at h
  · rename_i hy
    subst hy
    have e : aM_265.1 = mt := Option.some.inj (show some aM_265.1 = some mt from hm)
    subst e
    exact sx_iF_s (aT_265 pc) h
  · cases h
def aS_266 (pc : Nat) : sx_IL := (if pc < 30 then (if pc < 10 then aI_266_0 else (if pc < 20 then aI_266_1 else aI_266_2)) else (if pc < 60 then (if pc < 44 then aI_266_3 else aI_266_4) else (if pc < 72 then aI_266_5 else aI_266_6)))
theorem aT_266 (pc : Nat) : sx_iOk prog_1_method_57_code (aS_266 pc) := (sx_ite (p := fun l => sx_iOk prog_1_method_57_code l) (sx_ite (p := fun l => sx_iOk prog_1_method_57_code l) (sx_iB_s aJ_266_0) (sx_ite (p := fun l => sx_iOk prog_1_method_57_code l) (sx_iB_s aJ_266_1) (sx_iB_s aJ_266_2))) (sx_ite (p := fun l => sx_iOk prog_1_method_57_code l) (sx_ite (p := fun l => sx_iOk prog_1_method_57_code l) (sx_iB_s aJ_266_3) (sx_iB_s aJ_266_4)) (sx_ite (p := fun l => sx_iOk prog_1_method_57_code l) (sx_iB_s aJ_266_5) (sx_iB_s aJ_266_6))))
def aU_266 (y pc : Nat) : Option (Instr × Nat) := if y = 266 then sx_iF (aS_266 pc) pc else none
set_option maxRecDepth 100000 in
theorem aV0_266 (y : Nat) : sx_P1 (aU_266 y) y := by
  intro pc r h mt hm
  unfold aU_266 at h
  split at h
  · rename_i hy
    subst hy
    have e : aM_266.1 = mt := Option.some.inj (show some aM_266.1 = some mt from hm)
    subst e
    exact sx_iF_s (aT_266 pc) h
  · cases h
def aS_267 (pc : Nat) : sx_IL := (if pc < 23 then (if pc < 10 then aI_267_0 else aI_267_1) else (if pc < 34 then aI_267_2 else aI_267_3))
theorem aT_267 (pc : Nat) : sx_iOk prog_1_method_58_code (aS_267 pc) := (sx_ite (p := fun l => sx_iOk prog_1_method_58_code l) (sx_ite (p := fun l => sx_iOk prog_1_method_58_code l) (sx_iB_s aJ_267_0) (sx_iB_s aJ_267_1)) (sx_ite (p := fun l => sx_iOk prog_1_method_58_code l) (sx_iB_s aJ_267_2) (sx_iB_s aJ_267_3)))
def aU_267 (y pc : Nat) : Option (Instr × Nat) := if y = 267 then sx_iF (aS_267 pc) pc else none
set_option maxRecDepth 100000 in
theorem aV0_267 (y : Nat) : sx_P1 (aU_267 y) y := by
  intro pc r h mt hm
  unfold aU_267 at h
  split at h
  · rename_i hy
    subst hy
    have e : aM_267.1 = mt := Option.some.inj (show some aM_267.1 = some mt from hm)
    subst e
    exact sx_iF_s (aT_267 pc) h
  · cases h
def aS_268 (pc : Nat) : sx_IL := (if pc < 23 then (if pc < 10 then aI_268_0 else aI_268_1) else (if pc < 35 then aI_268_2 else (if pc < 48 then aI_268_3 else aI_268_4)))
theorem aT_268 (pc : Nat) : sx_iOk prog_1_method_59_code (aS_268 pc) := (sx_ite (p := fun l => sx_iOk prog_1_method_59_code l) (sx_ite (p := fun l => sx_iOk prog_1_method_59_code l) (sx_iB_s aJ_268_0) (sx_iB_s aJ_268_1)) (sx_ite (p := fun l => sx_iOk prog_1_method_59_code l) (sx_iB_s aJ_268_2) (sx_ite (p := fun l => sx_iOk prog_1_method_59_code l) (sx_iB_s aJ_268_3) (sx_iB_s aJ_268_4))))
def aU_268 (y pc : Nat) : Option (Instr × Nat) := if y = 268 then sx_iF (aS_268 pc) pc else none
set_option maxRecDepth 100000 in
theorem aV0_268 (y : Nat) : sx_P1 (aU_268 y) y := by
  intro pc r h mt hm
  unfold aU_268 at h
  split at h
  · rename_i hy
    subst hy
    have e : aM_268.1 = mt := Option.some.inj (show some aM_268.1 = some mt from hm)
    subst e
    exact sx_iF_s (aT_268 pc) h
  · cases h
def aS_269 (pc : Nat) : sx_IL := (if pc < 45 then (if pc < 19 then (if pc < 8 then aI_269_0 else aI_269_1) else (if pc < 31 then aI_269_2 else aI_269_3)) else (if pc < 72 then (if pc < 57 then aI_269_4 else aI_269_5) else (if pc < 82 then aI_269_6 else (if pc < 96 then aI_269_7 else aI_269_8))))
theorem aT_269 (pc : Nat) : sx_iOk prog_1_method_60_code (aS_269 pc) := (sx_ite (p := fun l => sx_iOk prog_1_method_60_code l) (sx_ite (p := fun l => sx_iOk prog_1_method_60_code l) (sx_ite (p := fun l => sx_iOk prog_1_method_60_code l) (sx_iB_s aJ_269_0) (sx_iB_s aJ_269_1)) (sx_ite (p := fun l => sx_iOk prog_1_method_60_code l) (sx_iB_s aJ_269_2) (sx_iB_s aJ_269_3))) (sx_ite (p := fun l => sx_iOk prog_1_method_60_code l) (sx_ite (p := fun l => sx_iOk prog_1_method_60_code l) (sx_iB_s aJ_269_4) (sx_iB_s aJ_269_5)) (sx_ite (p := fun l => sx_iOk prog_1_method_60_code l) (sx_iB_s aJ_269_6) (sx_ite (p := fun l => sx_iOk prog_1_method_60_code l) (sx_iB_s aJ_269_7) (sx_iB_s aJ_269_8)))))
def aU_269 (y pc : Nat) : Option (Instr × Nat) := if y = 269 then sx_iF (aS_269 pc) pc else none
set_option maxRecDepth 100000 in
theorem aV0_269 (y : Nat) : sx_P1 (aU_269 y) y := by
  intro pc r h mt hm
  unfold aU_269 at h
  split at h
  · rename_i hy
    subst hy
    have e : aM_269.1 = mt := Option.some.inj (show some aM_269.1 = some mt from hm)
    subst e
    exact sx_iF_s (aT_269 pc) h
  · cases h
def aS_270 (pc : Nat) : sx_IL := (if pc < 59 then (if pc < 24 then (if pc < 12 then aI_270_0 else aI_270_1) else (if pc < 35 then aI_270_2 else (if pc < 47 then aI_270_3 else aI_270_4))) else (if pc < 93 then (if pc < 70 then aI_270_5 else (if pc < 81 then aI_270_6 else aI_270_7)) else (if pc < 104 then aI_270_8 else (if pc < 114 then aI_270_9 else aI_270_10))))
theorem aT_270 (pc : Nat) : sx_iOk prog_1_method_61_code (aS_270 pc) := (sx_ite (p := fun l => sx_iOk prog_1_method_61_code l) (sx_ite (p := fun l => sx_iOk prog_1_method_61_code l) (sx_ite (p := fun l => sx_iOk prog_1_method_61_code l) (sx_iB_s aJ_270_0) (sx_iB_s aJ_270_1)) (sx_ite (p := fun l => sx_iOk prog_1_method_61_code l) (sx_iB_s aJ_270_2) (sx_ite (p := fun l => sx_iOk prog_1_method_61_code l) (sx_iB_s aJ_270_3) (sx_iB_s aJ_270_4)))) (sx_ite (p := fun l => sx_iOk prog_1_method_61_code l) (sx_ite (p := fun l => sx_iOk prog_1_method_61_code l) (sx_iB_s aJ_270_5) (sx_ite (p := fun l => sx_iOk prog_1_method_61_code l) (sx_iB_s aJ_270_6) (sx_iB_s aJ_270_7))) (sx_ite (p := fun l => sx_iOk prog_1_method_61_code l) (sx_iB_s aJ_270_8) (sx_ite (p := fun l => sx_iOk prog_1_method_61_code l) (sx_iB_s aJ_270_9) (sx_iB_s aJ_270_10)))))
def aU_270 (y pc : Nat) : Option (Instr × Nat) := if y = 270 then sx_iF (aS_270 pc) pc else none
set_option maxRecDepth 100000 in
theorem aV0_270 (y : Nat) : sx_P1 (aU_270 y) y := by
  intro pc r h mt hm
  unfold aU_270 at h
  split at h
  · rename_i hy
    subst hy
    have e : aM_270.1 = mt := Option.some.inj (show some aM_270.1 = some mt from hm)
    subst e
    exact sx_iF_s (aT_270 pc) h
  · cases h
def aS_272 (pc : Nat) : sx_IL := (if pc < 12 then aI_272_0 else (if pc < 22 then aI_272_1 else aI_272_2))
theorem aT_272 (pc : Nat) : sx_iOk prog_1_method_65_code (aS_272 pc) := (sx_ite (p := fun l => sx_iOk prog_1_method_65_code l) (sx_iB_s aJ_272_0) (sx_ite (p := fun l => sx_iOk prog_1_method_65_code l) (sx_iB_s aJ_272_1) (sx_iB_s aJ_272_2)))
def aU_272 (y pc : Nat) : Option (Instr × Nat) := if y = 272 then sx_iF (aS_272 pc) pc else none
set_option maxRecDepth 100000 in
theorem aV0_272 (y : Nat) : sx_P1 (aU_272 y) y := by
  intro pc r h mt hm
  unfold aU_272 at h
  split at h
  · rename_i hy
    subst hy
    have e : aM_272.1 = mt := Option.some.inj (show some aM_272.1 = some mt from hm)
    subst e
    exact sx_iF_s (aT_272 pc) h
  · cases h
def aS_273 (pc : Nat) : sx_IL := (if pc < 12 then aI_273_0 else aI_273_1)
theorem aT_273 (pc : Nat) : sx_iOk prog_1_method_62_code (aS_273 pc) := (sx_ite (p := fun l => sx_iOk prog_1_method_62_code l) (sx_iB_s aJ_273_0) (sx_iB_s aJ_273_1))
def aU_273 (y pc : Nat) : Option (Instr × Nat) := if y = 273 then sx_iF (aS_273 pc) pc else none
set_option maxRecDepth 100000 in
theorem aV0_273 (y : Nat) : sx_P1 (aU_273 y) y := by
  intro pc r h mt hm
  unfold aU_273 at h
  split at h
  · rename_i hy
    subst hy
    have e : aM_273.1 = mt := Option.some.inj (show some aM_273.1 = some mt from hm)
    subst e
    exact sx_iF_s (aT_273 pc) h
  · cases h
def aS_275 (pc : Nat) : sx_IL := (if pc < 32 then (if pc < 12 then aI_275_0 else (if pc < 22 then aI_275_1 else aI_275_2)) else (if pc < 42 then aI_275_3 else (if pc < 54 then aI_275_4 else aI_275_5)))
theorem aT_275 (pc : Nat) : sx_iOk prog_1_method_66_code (aS_275 pc) := (sx_ite (p := fun l => sx_iOk prog_1_method_66_code l) (sx_ite (p := fun l => sx_iOk prog_1_method_66_code l) (sx_iB_s aJ_275_0) (sx_ite (p := fun l => sx_iOk prog_1_method_66_code l) (sx_iB_s aJ_275_1) (sx_iB_s aJ_275_2))) (sx_ite (p := fun l => sx_iOk prog_1_method_66_code l) (sx_iB_s aJ_275_3) (sx_ite (p := fun l => sx_iOk prog_1_method_66_code l) (sx_iB_s aJ_275_4) (sx_iB_s aJ_275_5))))
def aU_275 (y pc : Nat) : Option (Instr × Nat) := if y = 275 then sx_iF (aS_275 pc) pc else none
set_option maxRecDepth 100000 in
theorem aV0_275 (y : Nat) : sx_P1 (aU_275 y) y := by
  intro pc r h mt hm
  unfold aU_275 at h
  split at h
  · rename_i hy
    subst hy
    have e : aM_275.1 = mt := Option.some.inj (show some aM_275.1 = some mt from hm)
    subst e
    exact sx_iF_s (aT_275 pc) h
  · cases h
def aS_280 (pc : Nat) : sx_IL := (if pc < 10 then aI_280_0 else (if pc < 20 then aI_280_1 else aI_280_2))
theorem aT_280 (pc : Nat) : sx_iOk prog_1_method_67_code (aS_280 pc) := (sx_ite (p := fun l => sx_iOk prog_1_method_67_code l) (sx_iB_s aJ_280_0) (sx_ite (p := fun l => sx_iOk prog_1_method_67_code l) (sx_iB_s aJ_280_1) (sx_iB_s aJ_280_2)))
def aU_280 (y pc : Nat) : Option (Instr × Nat) := if y = 280 then sx_iF (aS_280 pc) pc else none
set_option maxRecDepth 100000 in
theorem aV0_280 (y : Nat) : sx_P1 (aU_280 y) y := by
  intro pc r h mt hm
  unfold aU_280 at h
  split at h
  · rename_i hy
    subst hy
    have e : aM_280.1 = mt := Option.some.inj (show some aM_280.1 = some mt from hm)
    subst e
    exact sx_iF_s (aT_280 pc) h
  · cases h
def aS_281 (pc : Nat) : sx_IL := (if pc < 12 then aI_281_0 else (if pc < 22 then aI_281_1 else aI_281_2))
theorem aT_281 (pc : Nat) : sx_iOk prog_1_method_63_code (aS_281 pc) := (sx_ite (p := fun l => sx_iOk prog_1_method_63_code l) (sx_iB_s aJ_281_0) (sx_ite (p := fun l => sx_iOk prog_1_method_63_code l) (sx_iB_s aJ_281_1) (sx_iB_s aJ_281_2)))
def aU_281 (y pc : Nat) : Option (Instr × Nat) := if y = 281 then sx_iF (aS_281 pc) pc else none
set_option maxRecDepth 100000 in
theorem aV0_281 (y : Nat) : sx_P1 (aU_281 y) y := by
  intro pc r h mt hm
  unfold aU_281 at h
  split at h
  · rename_i hy
    subst hy
    have e : aM_281.1 = mt := Option.some.inj (show some aM_281.1 = some mt from hm)
    subst e
    exact sx_iF_s (aT_281 pc) h
  · cases h
def aS_283 (pc : Nat) : sx_IL := (if pc < 71 then (if pc < 37 then (if pc < 12 then aI_283_0 else (if pc < 25 then aI_283_1 else aI_283_2)) else (if pc < 50 then aI_283_3 else (if pc < 61 then aI_283_4 else aI_283_5))) else (if pc < 107 then (if pc < 85 then aI_283_6 else (if pc < 95 then aI_283_7 else aI_283_8)) else (if pc < 119 then aI_283_9 else (if pc < 129 then aI_283_10 else aI_283_11))))
theorem aT_283 (pc : Nat) : sx_iOk prog_1_method_68_code (aS_283 pc) := (sx_ite (p := fun l => sx_iOk prog_1_method_68_code l) (sx_ite (p := fun l => sx_iOk prog_1_method_68_code l) (sx_ite (p := fun l => sx_iOk prog_1_method_68_code l) (sx_iB_s aJ_283_0) (sx_ite (p := fun l => sx_iOk prog_1_method_68_code l) (sx_iB_s aJ_283_1) (sx_iB_s aJ_283_2))) (sx_ite (p := fun l => sx_iOk prog_1_method_68_code l) (sx_iB_s aJ_283_3) (sx_ite (p := fun l => sx_iOk prog_1_method_68_code l) (sx_iB_s aJ_283_4) (sx_iB_s aJ_283_5)))) (sx_ite (p := fun l => sx_iOk prog_1_method_68_code l) (sx_ite (p := fun l => sx_iOk prog_1_method_68_code l) (sx_iB_s aJ_283_6) (sx_ite (p := fun l => sx_iOk prog_1_method_68_code l) (sx_iB_s aJ_283_7) (sx_iB_s aJ_283_8))) (sx_ite (p := fun l => sx_iOk prog_1_method_68_code l) (sx_iB_s aJ_283_9) (sx_ite (p := fun l => sx_iOk prog_1_method_68_code l) (sx_iB_s aJ_283_10) (sx_iB_s aJ_283_11)))))
def aU_283 (y pc : Nat) : Option (Instr × Nat) := if y = 283 then sx_iF (aS_283 pc) pc else none
set_option maxRecDepth 100000 in
theorem aV0_283 (y : Nat) : sx_P1 (aU_283 y) y := by
  intro pc r h mt hm
  unfold aU_283 at h
  split at h
  · rename_i hy
    subst hy
    have e : aM_283.1 = mt := Option.some.inj (show some aM_283.1 = some mt from hm)
    subst e
    exact sx_iF_s (aT_283 pc) h
  · cases h
def aS_285 (pc : Nat) : sx_IL := (if pc < 60 then (if pc < 30 then (if pc < 10 then aI_285_0 else (if pc < 20 then aI_285_1 else aI_285_2)) else (if pc < 40 then aI_285_3 else (if pc < 51 then aI_285_4 else aI_285_5))) else (if pc < 97 then (if pc < 70 then aI_285_6 else (if pc < 84 then aI_285_7 else aI_285_8)) else (if pc < 121 then (if pc < 110 then aI_285_9 else aI_285_10) else (if pc < 131 then aI_285_11 else aI_285_12))))
theorem aT_285 (pc : Nat) : sx_iOk prog_1_method_70_code (aS_285 pc) := (sx_ite (p := fun l => sx_iOk prog_1_method_70_code l) (sx_ite (p := fun l => sx_iOk prog_1_method_70_code l) (sx_ite (p := fun l => sx_iOk prog_1_method_70_code l) (sx_iB_s aJ_285_0) (sx_ite (p := fun l => sx_iOk prog_1_method_70_code l) (sx_iB_s aJ_285_1) (sx_iB_s aJ_285_2))) (sx_ite (p := fun l => sx_iOk prog_1_method_70_code l) (sx_iB_s aJ_285_3) (sx_ite (p := fun l => sx_iOk prog_1_method_70_code l) (sx_iB_s aJ_285_4) (sx_iB_s aJ_285_5)))) (sx_ite (p := fun l => sx_iOk prog_1_method_70_code l) (sx_ite (p := fun l => sx_iOk prog_1_method_70_code l) (sx_iB_s aJ_285_6) (sx_ite (p := fun l => sx_iOk prog_1_method_70_code l) (sx_iB_s aJ_285_7) (sx_iB_s aJ_285_8))) (sx_ite (p := fun l => sx_iOk prog_1_method_70_code l) (sx_ite (p := fun l => sx_iOk prog_1_method_70_code l) (sx_iB_s aJ_285_9) (sx_iB_s aJ_285_10)) (sx_ite (p := fun l => sx_iOk prog_1_method_70_code l) (sx_iB_s aJ_285_11) (sx_iB_s aJ_285_12)))))
def aU_285 (y pc : Nat) : Option (Instr × Nat) := if y = 285 then sx_iF (aS_285 pc) pc else none
set_option maxRecDepth 100000 in
theorem aV0_285 (y : Nat) : sx_P1 (aU_285 y) y := by
  intro pc r h mt hm
  unfold aU_285 at h
  split at h
  · rename_i hy
    subst hy
    have e : aM_285.1 = mt := Option.some.inj (show some aM_285.1 = some mt from hm)
    subst e
    exact sx_iF_s (aT_285 pc) h
  · cases h
def aS_289 (pc : Nat) : sx_IL := (if pc < 23 then (if pc < 10 then aI_289_0 else aI_289_1) else (if pc < 35 then aI_289_2 else (if pc < 44 then aI_289_3 else aI_289_4)))
theorem aT_289 (pc : Nat) : sx_iOk prog_1_method_71_code (aS_289 pc) := (sx_ite (p := fun l => sx_iOk prog_1_method_71_code l) (sx_ite (p := fun l => sx_iOk prog_1_method_71_code l) (sx_iB_s aJ_289_0) (sx_iB_s aJ_289_1)) (sx_ite (p := fun l => sx_iOk prog_1_method_71_code l) (sx_iB_s aJ_289_2) (sx_ite (p := fun l => sx_iOk prog_1_method_71_code l) (sx_iB_s aJ_289_3) (sx_iB_s aJ_289_4))))
def aU_289 (y pc : Nat) : Option (Instr × Nat) := if y = 289 then sx_iF (aS_289 pc) pc else none
set_option maxRecDepth 100000 in
theorem aV0_289 (y : Nat) : sx_P1 (aU_289 y) y := by
  intro pc r h mt hm
  unfold aU_289 at h
  split at h
  · rename_i hy
    subst hy
    have e : aM_289.1 = mt := Option.some.inj (show some aM_289.1 = some mt from hm)
    subst e
    exact sx_iF_s (aT_289 pc) h
  · cases h
def aS_293 (pc : Nat) : sx_IL := (if pc < 34 then (if pc < 12 then aI_293_0 else (if pc < 24 then aI_293_1 else aI_293_2)) else (if pc < 51 then (if pc < 42 then aI_293_3 else aI_293_4) else (if pc < 63 then aI_293_5 else aI_293_6)))
theorem aT_293 (pc : Nat) : sx_iOk prog_9_method_16_code (aS_293 pc) := (sx_ite (p := fun l => sx_iOk prog_9_method_16_code l) (sx_ite (p := fun l => sx_iOk prog_9_method_16_code l) (sx_iB_s aJ_293_0) (sx_ite (p := fun l => sx_iOk prog_9_method_16_code l) (sx_iB_s aJ_293_1) (sx_iB_s aJ_293_2))) (sx_ite (p := fun l => sx_iOk prog_9_method_16_code l) (sx_ite (p := fun l => sx_iOk prog_9_method_16_code l) (sx_iB_s aJ_293_3) (sx_iB_s aJ_293_4)) (sx_ite (p := fun l => sx_iOk prog_9_method_16_code l) (sx_iB_s aJ_293_5) (sx_iB_s aJ_293_6))))
def aU_293 (y pc : Nat) : Option (Instr × Nat) := if y = 293 then sx_iF (aS_293 pc) pc else none
set_option maxRecDepth 100000 in
theorem aV0_293 (y : Nat) : sx_P1 (aU_293 y) y := by
  intro pc r h mt hm
  unfold aU_293 at h
  split at h
  · rename_i hy
    subst hy
    have e : aM_293.1 = mt := Option.some.inj (show some aM_293.1 = some mt from hm)
    subst e
    exact sx_iF_s (aT_293 pc) h
  · cases h
def aS_295 (pc : Nat) : sx_IL := (if pc < 7 then aI_295_0 else (if pc < 18 then aI_295_1 else aI_295_2))
theorem aT_295 (pc : Nat) : sx_iOk prog_9_method_17_code (aS_295 pc) := (sx_ite (p := fun l => sx_iOk prog_9_method_17_code l) (sx_iB_s aJ_295_0) (sx_ite (p := fun l => sx_iOk prog_9_method_17_code l) (sx_iB_s aJ_295_1) (sx_iB_s aJ_295_2)))
def aU_295 (y pc : Nat) : Option (Instr × Nat) := if y = 295 then sx_iF (aS_295 pc) pc else none
set_option maxRecDepth 100000 in
theorem aV0_295 (y : Nat) : sx_P1 (aU_295 y) y := by
  intro pc r h mt hm
  unfold aU_295 at h
  split at h
  · rename_i hy
    subst hy
    have e : aM_295.1 = mt := Option.some.inj (show some aM_295.1 = some mt from hm)
    subst e
    exact sx_iF_s (aT_295 pc) h
  · cases h
def aS_298 (pc : Nat) : sx_IL := (if pc < 22 then (if pc < 12 then aI_298_0 else aI_298_1) else (if pc < 34 then aI_298_2 else aI_298_3))
theorem aT_298 (pc : Nat) : sx_iOk prog_1_method_72_code (aS_298 pc) := (sx_ite (p := fun l => sx_iOk prog_1_method_72_code l) (sx_ite (p := fun l => sx_iOk prog_1_method_72_code l) (sx_iB_s aJ_298_0) (sx_iB_s aJ_298_1)) (sx_ite (p := fun l => sx_iOk prog_1_method_72_code l) (sx_iB_s aJ_298_2) (sx_iB_s aJ_298_3)))
def aU_298 (y pc : Nat) : Option (Instr × Nat) := if y = 298 then sx_iF (aS_298 pc) pc else none
set_option maxRecDepth 100000 in
theorem aV0_298 (y : Nat) : sx_P1 (aU_298 y) y := by
  intro pc r h mt hm
  unfold aU_298 at h
  split at h
  · rename_i hy
    subst hy
    have e : aM_298.1 = mt := Option.some.inj (show some aM_298.1 = some mt from hm)
    subst e
    exact sx_iF_s (aT_298 pc) h
  · cases h
def aS_302 (pc : Nat) : sx_IL := (if pc < 12 then aI_302_0 else (if pc < 22 then aI_302_1 else aI_302_2))
theorem aT_302 (pc : Nat) : sx_iOk prog_1_method_73_code (aS_302 pc) := (sx_ite (p := fun l => sx_iOk prog_1_method_73_code l) (sx_iB_s aJ_302_0) (sx_ite (p := fun l => sx_iOk prog_1_method_73_code l) (sx_iB_s aJ_302_1) (sx_iB_s aJ_302_2)))
def aU_302 (y pc : Nat) : Option (Instr × Nat) := if y = 302 then sx_iF (aS_302 pc) pc else none
set_option maxRecDepth 100000 in
theorem aV0_302 (y : Nat) : sx_P1 (aU_302 y) y := by
  intro pc r h mt hm
  unfold aU_302 at h
  split at h
  · rename_i hy
    subst hy
    have e : aM_302.1 = mt := Option.some.inj (show some aM_302.1 = some mt from hm)
    subst e
    exact sx_iF_s (aT_302 pc) h
  · cases h
def aS_304 (pc : Nat) : sx_IL := (if pc < 22 then (if pc < 12 then aI_304_0 else aI_304_1) else (if pc < 34 then aI_304_2 else aI_304_3))
theorem aT_304 (pc : Nat) : sx_iOk prog_1_method_74_code (aS_304 pc) := (sx_ite (p := fun l => sx_iOk prog_1_method_74_code l) (sx_ite (p := fun l => sx_iOk prog_1_method_74_code l) (sx_iB_s aJ_304_0) (sx_iB_s aJ_304_1)) (sx_ite (p := fun l => sx_iOk prog_1_method_74_code l) (sx_iB_s aJ_304_2) (sx_iB_s aJ_304_3)))
def aU_304 (y pc : Nat) : Option (Instr × Nat) := if y = 304 then sx_iF (aS_304 pc) pc else none
set_option maxRecDepth 100000 in
theorem aV0_304 (y : Nat) : sx_P1 (aU_304 y) y := by
  intro pc r h mt hm
  unfold aU_304 at h
  split at h
  · rename_i hy
    subst hy
    have e : aM_304.1 = mt := Option.some.inj (show some aM_304.1 = some mt from hm)
    subst e
    exact sx_iF_s (aT_304 pc) h
  · cases h
def aS_306 (pc : Nat) : sx_IL := (if pc < 11 then aI_306_0 else (if pc < 21 then aI_306_1 else aI_306_2))
theorem aT_306 (pc : Nat) : sx_iOk prog_1_method_75_code (aS_306 pc) := (sx_ite (p := fun l => sx_iOk prog_1_method_75_code l) (sx_iB_s aJ_306_0) (sx_ite (p := fun l => sx_iOk prog_1_method_75_code l) (sx_iB_s aJ_306_1) (sx_iB_s aJ_306_2)))
def aU_306 (y pc : Nat) : Option (Instr × Nat) := if y = 306 then sx_iF (aS_306 pc) pc else none
set_option maxRecDepth 100000 in
theorem aV0_306 (y : Nat) : sx_P1 (aU_306 y) y := by
  intro pc r h mt hm
  unfold aU_306 at h
  split at h
  · rename_i hy
    subst hy
    have e : aM_306.1 = mt := Option.some.inj (show some aM_306.1 = some mt from hm)
    subst e
    exact sx_iF_s (aT_306 pc) h
  · cases h
def aS_307 (pc : Nat) : sx_IL := (if pc < 30 then (if pc < 10 then aI_307_0 else (if pc < 21 then aI_307_1 else aI_307_2)) else (if pc < 46 then (if pc < 38 then aI_307_3 else aI_307_4) else (if pc < 54 then aI_307_5 else aI_307_6)))
theorem aT_307 (pc : Nat) : sx_iOk prog_1_method_77_code (aS_307 pc) := (sx_ite (p := fun l => sx_iOk prog_1_method_77_code l) (sx_ite (p := fun l => sx_iOk prog_1_method_77_code l) (sx_iB_s aJ_307_0) (sx_ite (p := fun l => sx_iOk prog_1_method_77_code l) (sx_iB_s aJ_307_1) (sx_iB_s aJ_307_2))) (sx_ite (p := fun l => sx_iOk prog_1_method_77_code l) (sx_ite (p := fun l => sx_iOk prog_1_method_77_code l) (sx_iB_s aJ_307_3) (sx_iB_s aJ_307_4)) (sx_ite (p := fun l => sx_iOk prog_1_method_77_code l) (sx_iB_s aJ_307_5) (sx_iB_s aJ_307_6))))
def aU_307 (y pc : Nat) : Option (Instr × Nat) := if y = 307 then sx_iF (aS_307 pc) pc else none
set_option maxRecDepth 100000 in
theorem aV0_307 (y : Nat) : sx_P1 (aU_307 y) y := by
  intro pc r h mt hm
  unfold aU_307 at h
  split at h
  · rename_i hy
    subst hy
    have e : aM_307.1 = mt := Option.some.inj (show some aM_307.1 = some mt from hm)
    subst e
    exact sx_iF_s (aT_307 pc) h
  · cases h
def aS_308 (pc : Nat) : sx_IL := (if pc < 12 then aI_308_0 else aI_308_1)
theorem aT_308 (pc : Nat) : sx_iOk prog_1_method_76_code (aS_308 pc) := (sx_ite (p := fun l => sx_iOk prog_1_method_76_code l) (sx_iB_s aJ_308_0) (sx_iB_s aJ_308_1))
def aU_308 (y pc : Nat) : Option (Instr × Nat) := if y = 308 then sx_iF (aS_308 pc) pc else none
set_option maxRecDepth 100000 in
theorem aV0_308 (y : Nat) : sx_P1 (aU_308 y) y := by
  intro pc r h mt hm
  unfold aU_308 at h
  split at h
  · rename_i hy
    subst hy
    have e : aM_308.1 = mt := Option.some.inj (show some aM_308.1 = some mt from hm)
    subst e
    exact sx_iF_s (aT_308 pc) h
  · cases h
def aS_309 (pc : Nat) : sx_IL := (if pc < 22 then (if pc < 12 then aI_309_0 else aI_309_1) else (if pc < 32 then aI_309_2 else aI_309_3))
theorem aT_309 (pc : Nat) : sx_iOk prog_1_method_78_code (aS_309 pc) := (sx_ite (p := fun l => sx_iOk prog_1_method_78_code l) (sx_ite (p := fun l => sx_iOk prog_1_method_78_code l) (sx_iB_s aJ_309_0) (sx_iB_s aJ_309_1)) (sx_ite (p := fun l => sx_iOk prog_1_method_78_code l) (sx_iB_s aJ_309_2) (sx_iB_s aJ_309_3)))
def aU_309 (y pc : Nat) : Option (Instr × Nat) := if y = 309 then sx_iF (aS_309 pc) pc else none
set_option maxRecDepth 100000 in
theorem aV0_309 (y : Nat) : sx_P1 (aU_309 y) y := by
  intro pc r h mt hm
  unfold aU_309 at h
  split at h
  · rename_i hy
    subst hy
    have e : aM_309.1 = mt := Option.some.inj (show some aM_309.1 = some mt from hm)
    subst e
    exact sx_iF_s (aT_309 pc) h
  · cases h
def aS_311 (pc : Nat) : sx_IL := (if pc < 10 then aI_311_0 else (if pc < 20 then aI_311_1 else aI_311_2))
theorem aT_311 (pc : Nat) : sx_iOk prog_1_method_85_code (aS_311 pc) := (sx_ite (p := fun l => sx_iOk prog_1_method_85_code l) (sx_iB_s aJ_311_0) (sx_ite (p := fun l => sx_iOk prog_1_method_85_code l) (sx_iB_s aJ_311_1) (sx_iB_s aJ_311_2)))
def aU_311 (y pc : Nat) : Option (Instr × Nat) := if y = 311 then sx_iF (aS_311 pc) pc else none
set_option maxRecDepth 100000 in
theorem aV0_311 (y : Nat) : sx_P1 (aU_311 y) y := by
  intro pc r h mt hm
  unfold aU_311 at h
  split at h
  · rename_i hy
    subst hy
    have e : aM_311.1 = mt := Option.some.inj (show some aM_311.1 = some mt from hm)
    subst e
    exact sx_iF_s (aT_311 pc) h
  · cases h
def aS_313 (pc : Nat) : sx_IL := (if pc < 99 then (if pc < 40 then (if pc < 20 then (if pc < 10 then aI_313_0 else aI_313_1) else (if pc < 32 then aI_313_2 else aI_313_3)) else (if pc < 64 then (if pc < 49 then aI_313_4 else aI_313_5) else (if pc < 77 then aI_313_6 else (if pc < 88 then aI_313_7 else aI_313_8)))) else (if pc < 143 then (if pc < 119 then (if pc < 108 then aI_313_9 else aI_313_10) else (if pc < 131 then aI_313_11 else aI_313_12)) else (if pc < 166 then (if pc < 155 then aI_313_13 else aI_313_14) else (if pc < 179 then aI_313_15 else (if pc < 193 then aI_313_16 else aI_313_17)))))
theorem aT_313 (pc : Nat) : sx_iOk prog_1_method_79_code (aS_313 pc) := (sx_ite (p := fun l => sx_iOk prog_1_method_79_code l) (sx_ite (p := fun l => sx_iOk prog_1_method_79_code l) (sx_ite (p := fun l => sx_iOk prog_1_method_79_code l) (sx_ite (p := fun l => sx_iOk prog_1_method_79_code l) (sx_iB_s aJ_313_0) (sx_iB_s aJ_313_1)) (sx_ite (p := fun l => sx_iOk prog_1_method_79_code l) (sx_iB_s aJ_313_2) (sx_iB_s aJ_313_3))) (sx_ite (p := fun l => sx_iOk prog_1_method_79_code l) (sx_ite (p := fun l => sx_iOk prog_1_method_79_code l) (sx_iB_s aJ_313_4) (sx_iB_s aJ_313_5)) (sx_ite (p := fun l => sx_iOk prog_1_method_79_code l) (sx_iB_s aJ_313_6) (sx_ite (p := fun l => sx_iOk prog_1_method_79_code l) (sx_iB_s aJ_313_7) (sx_iB_s aJ_313_8))))) (sx_ite (p := fun l => sx_iOk prog_1_method_79_code l) (sx_ite (p := fun l => sx_iOk prog_1_method_79_code l) (sx_ite (p := fun l => sx_iOk prog_1_method_79_code l) (sx_iB_s aJ_313_9) (sx_iB_s aJ_313_10)) (sx_ite (p := fun l => sx_iOk prog_1_method_79_code l) (sx_iB_s aJ_313_11) (sx_iB_s aJ_313_12))) (sx_ite (p := fun l => sx_iOk prog_1_method_79_code l) (sx_ite (p := fun l => sx_iOk prog_1_method_79_code l) (sx_iB_s aJ_313_13) (sx_iB_s aJ_313_14)) (sx_ite (p := fun l => sx_iOk prog_1_method_79_code l) (sx_iB_s aJ_313_15) (sx_ite (p := fun l => sx_iOk prog_1_method_79_code l) (sx_iB_s aJ_313_16) (sx_iB_s aJ_313_17))))))
def aU_313 (y pc : Nat) : Option (Instr × Nat) := if y = 313 then sx_iF (aS_313 pc) pc else none
set_option maxRecDepth 100000 in
theorem aV0_313 (y : Nat) : sx_P1 (aU_313 y) y := by
  intro pc r h mt hm
  unfold aU_313 at h
  split at h
  · rename_i hy
    subst hy
    have e : aM_313.1 = mt := Option.some.inj (show some aM_313.1 = some mt from hm)
    subst e
    exact sx_iF_s (aT_313 pc) h
  · cases h
def aS_314 (pc : Nat) : sx_IL := (if pc < 17 then (if pc < 7 then aI_314_0 else aI_314_1) else (if pc < 27 then aI_314_2 else aI_314_3))
theorem aT_314 (pc : Nat) : sx_iOk prog_1_method_84_code (aS_314 pc) := (sx_ite (p := fun l => sx_iOk prog_1_method_84_code l) (sx_ite (p := fun l => sx_iOk prog_1_method_84_code l) (sx_iB_s aJ_314_0) (sx_iB_s aJ_314_1)) (sx_ite (p := fun l => sx_iOk prog_1_method_84_code l) (sx_iB_s aJ_314_2) (sx_iB_s aJ_314_3)))
def aU_314 (y pc : Nat) : Option (Instr × Nat) := if y = 314 then sx_iF (aS_314 pc) pc else none
set_option maxRecDepth 100000 in
theorem aV0_314 (y : Nat) : sx_P1 (aU_314 y) y := by
  intro pc r h mt hm
  unfold aU_314 at h
  split at h
  · rename_i hy
    subst hy
    have e : aM_314.1 = mt := Option.some.inj (show some aM_314.1 = some mt from hm)
    subst e
    exact sx_iF_s (aT_314 pc) h
  · cases h
def aS_316 (pc : Nat) : sx_IL := (if pc < 119 then (if pc < 48 then (if pc < 20 then (if pc < 10 then aI_316_0 else aI_316_1) else (if pc < 30 then aI_316_2 else (if pc < 39 then aI_316_3 else aI_316_4))) else (if pc < 86 then (if pc < 61 then aI_316_5 else (if pc < 75 then aI_316_6 else aI_316_7)) else (if pc < 99 then aI_316_8 else (if pc < 108 then aI_316_9 else aI_316_10)))) else (if pc < 191 then (if pc < 153 then (if pc < 129 then aI_316_11 else (if pc < 141 then aI_316_12 else aI_316_13)) else (if pc < 166 then aI_316_14 else (if pc < 179 then aI_316_15 else aI_316_16))) else (if pc < 228 then (if pc < 203 then aI_316_17 else (if pc < 218 then aI_316_18 else aI_316_19)) else (if pc < 238 then aI_316_20 else (if pc < 251 then aI_316_21 else aI_316_22)))))
theorem aT_316 (pc : Nat) : sx_iOk prog_1_method_80_code (aS_316 pc) := (sx_ite (p := fun l => sx_iOk prog_1_method_80_code l) (sx_ite (p := fun l => sx_iOk prog_1_method_80_code l) (sx_ite (p := fun l => sx_iOk prog_1_method_80_code l) (sx_ite (p := fun l => sx_iOk prog_1_method_80_code l) (sx_iB_s aJ_316_0) (sx_iB_s aJ_316_1)) (sx_ite (p := fun l => sx_iOk prog_1_method_80_code l) (sx_iB_s aJ_316_2) (sx_ite (p := fun l => sx_iOk prog_1_method_80_code l) (sx_iB_s aJ_316_3) (sx_iB_s aJ_316_4)))) (sx_ite (p := fun l => sx_iOk prog_1_method_80_code l) (sx_ite (p := fun l => sx_iOk prog_1_method_80_code l) (sx_iB_s aJ_316_5) (sx_ite (p := fun l => sx_iOk prog_1_method_80_code l) (sx_iB_s aJ_316_6) (sx_iB_s aJ_316_7))) (sx_ite (p := fun l => sx_iOk prog_1_method_80_code l) (sx_iB_s aJ_316_8) (sx_ite (p := fun l => sx_iOk prog_1_method_80_code l) (sx_iB_s aJ_316_9) (sx_iB_s aJ_316_10))))) (sx_ite (p := fun l => sx_iOk prog_1_method_80_code l) (sx_ite (p := fun l => sx_iOk prog_1_method_80_code l) (sx_ite (p := fun l => sx_iOk prog_1_method_80_code l) (sx_iB_s aJ_316_11) (sx_ite (p := fun l => sx_iOk prog_1_method_80_code l) (sx_iB_s aJ_316_12) (sx_iB_s aJ_316_13))) (sx_ite (p := fun l => sx_iOk prog_1_method_80_code l) (sx_iB_s aJ_316_14) (sx_ite (p := fun l => sx_iOk prog_1_method_80_code l) (sx_iB_s aJ_316_15) (sx_iB_s aJ_316_16)))) (sx_ite (p := fun l => sx_iOk prog_1_method_80_code l) (sx_ite (p := fun l => sx_iOk prog_1_method_80_code l) (sx_iB_s aJ_316_17) (sx_ite (p := fun l => sx_iOk prog_1_method_80_code l) (sx_iB_s aJ_316_18) (sx_iB_s aJ_316_19))) (sx_ite (p := fun l => sx_iOk prog_1_method_80_code l) (sx_iB_s aJ_316_20) (sx_ite (p := fun l => sx_iOk prog_1_method_80_code l) (sx_iB_s aJ_316_21) (sx_iB_s aJ_316_22))))))
def aU_316 (y pc : Nat) : Option (Instr × Nat) := if y = 316 then sx_iF (aS_316 pc) pc else none
set_option maxRecDepth 100000 in
theorem aV0_316 (y : Nat) : sx_P1 (aU_316 y) y := by
  intro pc r h mt hm
  unfold aU_316 at h
  split at h
  · rename_i hy
    subst hy
    have e : aM_316.1 = mt := Option.some.inj (show some aM_316.1 = some mt from hm)
    subst e
    exact sx_iF_s (aT_316 pc) h
  · cases h
def aS_317 (pc : Nat) : sx_IL := (if pc < 130 then (if pc < 58 then (if pc < 24 then (if pc < 13 then aI_317_0 else aI_317_1) else (if pc < 32 then aI_317_2 else (if pc < 44 then aI_317_3 else aI_317_4))) else (if pc < 92 then (if pc < 70 then aI_317_5 else (if pc < 82 then aI_317_6 else aI_317_7)) else (if pc < 104 then aI_317_8 else (if pc < 118 then aI_317_9 else aI_317_10)))) else (if pc < 198 then (if pc < 166 then (if pc < 144 then aI_317_11 else (if pc < 153 then aI_317_12 else aI_317_13)) else (if pc < 179 then aI_317_14 else (if pc < 191 then aI_317_15 else aI_317_16))) else (if pc < 234 then (if pc < 208 then aI_317_17 else (if pc < 220 then aI_317_18 else aI_317_19)) else (if pc < 249 then aI_317_20 else (if pc < 262 then aI_317_21 else aI_317_22)))))
theorem aT_317 (pc : Nat) : sx_iOk prog_1_method_82_code (aS_317 pc) := (sx_ite (p := fun l => sx_iOk prog_1_method_82_code l) (sx_ite (p := fun l => sx_iOk prog_1_method_82_code l) (sx_ite (p := fun l => sx_iOk prog_1_method_82_code l) (sx_ite (p := fun l => sx_iOk prog_1_method_82_code l) (sx_iB_s aJ_317_0) (sx_iB_s aJ_317_1)) (sx_ite (p := fun l => sx_iOk prog_1_method_82_code l) (sx_iB_s aJ_317_2) (sx_ite (p := fun l => sx_iOk prog_1_method_82_code l) (sx_iB_s aJ_317_3) (sx_iB_s aJ_317_4)))) (sx_ite (p := fun l => sx_iOk prog_1_method_82_code l) (sx_ite (p := fun l => sx_iOk prog_1_method_82_code l) (sx_iB_s aJ_317_5) (sx_ite (p := fun l => sx_iOk prog_1_method_82_code l) (sx_iB_s aJ_317_6) (sx_iB_s aJ_317_7))) (sx_ite (p := fun l => sx_iOk prog_1_method_82_code l) (sx_iB_s aJ_317_8) (sx_ite (p := fun l => sx_iOk prog_1_method_82_code l) (sx_iB_s aJ_317_9) (sx_iB_s aJ_317_10))))) (sx_ite (p := fun l => sx_iOk prog_1_method_82_code l) (sx_ite (p := fun l => sx_iOk prog_1_method_82_code l) (sx_ite (p := fun l => sx_iOk prog_1_method_82_code l) (sx_iB_s aJ_317_11) (sx_ite (p := fun l => sx_iOk prog_1_method_82_code l) (sx_iB_s aJ_317_12) (sx_iB_s aJ_317_13))) (sx_ite (p := fun l => sx_iOk prog_1_method_82_code l) (sx_iB_s aJ_317_14) (sx_ite (p := fun l => sx_iOk prog_1_method_82_code l) (sx_iB_s aJ_317_15) (sx_iB_s aJ_317_16)))) (sx_ite (p := fun l => sx_iOk prog_1_method_82_code l) (sx_ite (p := fun l => sx_iOk prog_1_method_82_code l) (sx_iB_s aJ_317_17) (sx_ite (p := fun l => sx_iOk prog_1_method_82_code l) (sx_iB_s aJ_317_18) (sx_iB_s aJ_317_19))) (sx_ite (p := fun l => sx_iOk prog_1_method_82_code l) (sx_iB_s aJ_317_20) (sx_ite (p := fun l => sx_iOk prog_1_method_82_code l) (sx_iB_s aJ_317_21) (sx_iB_s aJ_317_22))))))
def aU_317 (y pc : Nat) : Option (Instr × Nat) := if y = 317 then sx_iF (aS_317 pc) pc else none
set_option maxRecDepth 100000 in
theorem aV0_317 (y : Nat) : sx_P1 (aU_317 y) y := by
  intro pc r h mt hm
  unfold aU_317 at h
  split at h
  · rename_i hy
    subst hy
    have e : aM_317.1 = mt := Option.some.inj (show some aM_317.1 = some mt from hm)
    subst e
    exact sx_iF_s (aT_317 pc) h
  · cases h
def aS_318 (pc : Nat) : sx_IL := (if pc < 171 then (if pc < 78 then (if pc < 29 then (if pc < 11 then aI_318_0 else (if pc < 21 then aI_318_1 else aI_318_2)) else (if pc < 54 then (if pc < 39 then aI_318_3 else aI_318_4) else (if pc < 67 then aI_318_5 else aI_318_6))) else (if pc < 127 then (if pc < 101 then (if pc < 88 then aI_318_7 else aI_318_8) else (if pc < 114 then aI_318_9 else aI_318_10)) else (if pc < 147 then (if pc < 135 then aI_318_11 else aI_318_12) else (if pc < 158 then aI_318_13 else aI_318_14)))) else (if pc < 249 then (if pc < 206 then (if pc < 182 then aI_318_15 else (if pc < 195 then aI_318_16 else aI_318_17)) else (if pc < 231 then (if pc < 220 then aI_318_18 else aI_318_19) else (if pc < 242 then aI_318_20 else aI_318_21))) else (if pc < 299 then (if pc < 273 then (if pc < 260 then aI_318_22 else aI_318_23) else (if pc < 286 then aI_318_24 else aI_318_25)) else (if pc < 327 then (if pc < 313 then aI_318_26 else aI_318_27) else (if pc < 339 then aI_318_28 else aI_318_29)))))
theorem aT_318 (pc : Nat) : sx_iOk prog_1_method_83_code (aS_318 pc) := (sx_ite (p := fun l => sx_iOk prog_1_method_83_code l) (sx_ite (p := fun l => sx_iOk prog_1_method_83_code l) (sx_ite (p := fun l => sx_iOk prog_1_method_83_code l) (sx_ite (p := fun l => sx_iOk prog_1_method_83_code l) (sx_iB_s aJ_318_0) (sx_ite (p := fun l => sx_iOk prog_1_method_83_code l) (sx_iB_s aJ_318_1) (sx_iB_s aJ_318_2))) (sx_ite (p := fun l => sx_iOk prog_1_method_83_code l) (sx_ite (p := fun l => sx_iOk prog_1_method_83_code l) (sx_iB_s aJ_318_3) (sx_iB_s aJ_318_4)) (sx_ite (p := fun l => sx_iOk prog_1_method_83_code l) (sx_iB_s aJ_318_5) (sx_iB_s aJ_318_6)))) (sx_ite (p := fun l => sx_iOk prog_1_method_83_code l) (sx_ite (p := fun l => sx_iOk prog_1_method_83_code l) (sx_ite (p := fun l => sx_iOk prog_1_method_83_code l) (sx_iB_s aJ_318_7) (sx_iB_s aJ_318_8)) (sx_ite (p := fun l => sx_iOk prog_1_method_83_code l) (sx_iB_s aJ_318_9) (sx_iB_s aJ_318_10))) (sx_ite (p := fun l => sx_iOk prog_1_method_83_code l) (sx_ite (p := fun l => sx_iOk prog_1_method_83_code l) (sx_iB_s aJ_318_11) (sx_iB_s aJ_318_12)) (sx_ite (p := fun l => sx_iOk prog_1_method_83_code l) (sx_iB_s aJ_318_13) (sx_iB_s aJ_318_14))))) (sx_ite (p := fun l => sx_iOk prog_1_method_83_code l) (sx_ite (p := fun l => sx_iOk prog_1_method_83_code l) (sx_ite (p := fun l => sx_iOk prog_1_method_83_code l) (sx_iB_s aJ_318_15) (sx_ite (p := fun l => sx_iOk prog_1_method_83_code l) (sx_iB_s aJ_318_16) (sx_iB_s aJ_318_17))) (sx_ite (p := fun l => sx_iOk prog_1_method_83_code l) (sx_ite (p := fun l => sx_iOk prog_1_method_83_code l) (sx_iB_s aJ_318_18) (sx_iB_s aJ_318_19)) (sx_ite (p := fun l => sx_iOk prog_1_method_83_code l) (sx_iB_s aJ_318_20) (sx_iB_s aJ_318_21)))) (sx_ite (p := fun l => sx_iOk prog_1_method_83_code l) (sx_ite (p := fun l => sx_iOk prog_1_method_83_code l) (sx_ite (p := fun l => sx_iOk prog_1_method_83_code l) (sx_iB_s aJ_318_22) (sx_iB_s aJ_318_23)) (sx_ite (p := fun l => sx_iOk prog_1_method_83_code l) (sx_iB_s aJ_318_24) (sx_iB_s aJ_318_25))) (sx_ite (p := fun l => sx_iOk prog_1_method_83_code l) (sx_ite (p := fun l => sx_iOk prog_1_method_83_code l) (sx_iB_s aJ_318_26) (sx_iB_s aJ_318_27)) (sx_ite (p := fun l => sx_iOk prog_1_method_83_code l) (sx_iB_s aJ_318_28) (sx_iB_s aJ_318_29))))))
def aU_318 (y pc : Nat) : Option (Instr × Nat) := if y = 318 then sx_iF (aS_318 pc) pc else none
set_option maxRecDepth 100000 in
theorem aV0_318 (y : Nat) : sx_P1 (aU_318 y) y := by
  intro pc r h mt hm
  unfold aU_318 at h
  split at h
  · rename_i hy
    subst hy
    have e : aM_318.1 = mt := Option.some.inj (show some aM_318.1 = some mt from hm)
    subst e
    exact sx_iF_s (aT_318 pc) h
  · cases h
def aS_319 (pc : Nat) : sx_IL := (if pc < 676 then (if pc < 335 then (if pc < 162 then (if pc < 73 then (if pc < 38 then (if pc < 13 then aI_319_0 else (if pc < 24 then aI_319_1 else aI_319_2)) else (if pc < 49 then aI_319_3 else (if pc < 62 then aI_319_4 else aI_319_5))) else (if pc < 112 then (if pc < 87 then aI_319_6 else (if pc < 99 then aI_319_7 else aI_319_8)) else (if pc < 136 then (if pc < 123 then aI_319_9 else aI_319_10) else (if pc < 148 then aI_319_11 else aI_319_12)))) else (if pc < 247 then (if pc < 198 then (if pc < 173 then aI_319_13 else (if pc < 187 then aI_319_14 else aI_319_15)) else (if pc < 223 then (if pc < 212 then aI_319_16 else aI_319_17) else (if pc < 236 then aI_319_18 else aI_319_19))) else (if pc < 286 then (if pc < 260 then aI_319_20 else (if pc < 272 then aI_319_21 else aI_319_22)) else (if pc < 310 then (if pc < 297 then aI_319_23 else aI_319_24) else (if pc < 322 then aI_319_25 else aI_319_26))))) else (if pc < 510 then (if pc < 421 then (if pc < 371 then (if pc < 347 then aI_319_27 else (if pc < 360 then aI_319_28 else aI_319_29)) else (if pc < 397 then (if pc < 384 then aI_319_30 else aI_319_31) else (if pc < 410 then aI_319_32 else aI_319_33))) else (if pc < 460 then (if pc < 434 then aI_319_34 else (if pc < 446 then aI_319_35 else aI_319_36)) else (if pc < 487 then (if pc < 473 then aI_319_37 else aI_319_38) else (if pc < 498 then aI_319_39 else aI_319_40)))) else (if pc < 587 then (if pc < 540 then (if pc < 519 then aI_319_41 else (if pc < 531 then aI_319_42 else aI_319_43)) else (if pc < 563 then (if pc < 553 then aI_319_44 else aI_319_45) else (if pc < 576 then aI_319_46 else aI_319_47))) else (if pc < 628 then (if pc < 601 then aI_319_48 else (if pc < 614 then aI_319_49 else aI_319_50)) else (if pc < 653 then (if pc < 639 then aI_319_51 else aI_319_52) else (if pc < 664 then aI_319_53 else aI_319_54)))))) else (if pc < 1015 then (if pc < 847 then (if pc < 762 then (if pc < 712 then (if pc < 686 then aI_319_55 else (if pc < 700 then aI_319_56 else aI_319_57)) else (if pc < 737 then (if pc < 725 then aI_319_58 else aI_319_59) else (if pc < 751 then aI_319_60 else aI_319_61))) else (if pc < 799 then (if pc < 775 then aI_319_62 else (if pc < 786 then aI_319_63 else aI_319_64)) else (if pc < 823 then (if pc < 810 then aI_319_65 else aI_319_66) else (if pc < 834 then aI_319_67 else aI_319_68)))) else (if pc < 930 then (if pc < 882 then (if pc < 858 then aI_319_69 else (if pc < 871 then aI_319_70 else aI_319_71)) else (if pc < 906 then (if pc < 895 then aI_319_72 else aI_319_73) else (if pc < 919 then aI_319_74 else aI_319_75))) else (if pc < 967 then (if pc < 943 then aI_319_76 else (if pc < 954 then aI_319_77 else aI_319_78)) else (if pc < 991 then (if pc < 978 then aI_319_79 else aI_319_80) else (if pc < 1002 then aI_319_81 else aI_319_82))))) else (if pc < 1184 then (if pc < 1098 then (if pc < 1050 then (if pc < 1026 then aI_319_83 else (if pc < 1039 then aI_319_84 else aI_319_85)) else (if pc < 1074 then (if pc < 1063 then aI_319_86 else aI_319_87) else (if pc < 1087 then aI_319_88 else aI_319_89))) else (if pc < 1136 then (if pc < 1111 then aI_319_90 else (if pc < 1123 then aI_319_91 else aI_319_92)) else (if pc < 1160 then (if pc < 1147 then aI_319_93 else aI_319_94) else (if pc < 1171 then aI_319_95 else aI_319_96)))) else (if pc < 1269 then (if pc < 1220 then (if pc < 1195 then aI_319_97 else (if pc < 1208 then aI_319_98 else aI_319_99)) else (if pc < 1244 then (if pc < 1233 then aI_319_100 else aI_319_101) else (if pc < 1257 then aI_319_102 else aI_319_103))) else (if pc < 1306 then (if pc < 1283 then aI_319_104 else (if pc < 1293 then aI_319_105 else aI_319_106)) else (if pc < 1328 then (if pc < 1316 then aI_319_107 else aI_319_108) else (if pc < 1339 then aI_319_109 else aI_319_110)))))))
theorem aT_319 (pc : Nat) : sx_iOk prog_14_method_1_code (aS_319 pc) := (sx_ite (p := fun l => sx_iOk prog_14_method_1_code l) (sx_ite (p := fun l => sx_iOk prog_14_method_1_code l) (sx_ite (p := fun l => sx_iOk prog_14_method_1_code l) (sx_ite (p := fun l => sx_iOk prog_14_method_1_code l) (sx_ite (p := fun l => sx_iOk prog_14_method_1_code l) (sx_ite (p := fun l => sx_iOk prog_14_method_1_code l) (sx_iB_s aJ_319_0) (sx_ite (p := fun l => sx_iOk prog_14_method_1_code l) (sx_iB_s aJ_319_1) (sx_iB_s aJ_319_2))) (sx_ite (p := fun l => sx_iOk prog_14_method_1_code l) (sx_iB_s aJ_319_3) (sx_ite (p := fun l => sx_iOk prog_14_method_1_code l) (sx_iB_s aJ_319_4) (sx_iB_s aJ_319_5)))) (sx_ite (p := fun l => sx_iOk prog_14_method_1_code l) (sx_ite (p := fun l => sx_iOk prog_14_method_1_code l) (sx_iB_s aJ_319_6) (sx_ite (p := fun l => sx_iOk prog_14_method_1_code l) (sx_iB_s aJ_319_7) (sx_iB_s aJ_319_8))) (sx_ite (p := fun l => sx_iOk prog_14_method_1_code l) (sx_ite (p := fun l => sx_iOk prog_14_method_1_code l) (sx_iB_s aJ_319_9) (sx_iB_s aJ_319_10)) (sx_ite (p := fun l => sx_iOk prog_14_method_1_code l) (sx_iB_s aJ_319_11) (sx_iB_s aJ_319_12))))) (sx_ite (p := fun l => sx_iOk prog_14_method_1_code l) (sx_ite (p := fun l => sx_iOk prog_14_method_1_code l) (sx_ite (p := fun l => sx_iOk prog_14_method_1_code l) (sx_iB_s aJ_319_13) (sx_ite (p := fun l => sx_iOk prog_14_method_1_code l) (sx_iB_s aJ_319_14) (sx_iB_s aJ_319_15))) (sx_ite (p := fun l => sx_iOk prog_14_method_1_code l) (sx_ite (p := fun l => sx_iOk prog_14_method_1_code l) (sx_iB_s aJ_319_16) (sx_iB_s aJ_319_17)) (sx_ite (p := fun l => sx_iOk prog_14_method_1_code l) (sx_iB_s aJ_319_18) (sx_iB_s aJ_319_19)))) (sx_ite (p := fun l => sx_iOk prog_14_method_1_code l) (sx_ite (p := fun l => sx_iOk prog_14_method_1_code l) (sx_iB_s aJ_319_20) (sx_ite (p := fun l => sx_iOk prog_14_method_1_code l) (sx_iB_s aJ_319_21) (sx_iB_s aJ_319_22))) (sx_ite (p := fun l => sx_iOk prog_14_method_1_code l) (sx_ite (p := fun l => sx_iOk prog_14_method_1_code l) (sx_iB_s aJ_319_23) (sx_iB_s aJ_319_24)) (sx_ite (p := fun l => sx_iOk prog_14_method_1_code l) (sx_iB_s aJ_319_25) (sx_iB_s aJ_319_26)))))) (sx_ite (p := fun l => sx_iOk prog_14_method_1_code l) (sx_ite (p := fun l => sx_iOk prog_14_method_1_code l) (sx_ite (p := fun l => sx_iOk prog_14_method_1_code l) (sx_ite (p := fun l => sx_iOk prog_14_method_1_code l) (sx_iB_s aJ_319_27) (sx_ite (p := fun l => sx_iOk prog_14_method_1_code l) (sx_iB_s aJ_319_28) (sx_iB_s aJ_319_29))) (sx_ite (p := fun l => sx_iOk prog_14_method_1_code l) (sx_ite (p := fun l => sx_iOk prog_14_method_1_code l) (sx_iB_s aJ_319_30) (sx_iB_s aJ_319_31)) (sx_ite (p := fun l => sx_iOk prog_14_method_1_code l) (sx_iB_s aJ_319_32) (sx_iB_s aJ_319_33)))) (sx_ite (p := fun l => sx_iOk prog_14_method_1_code l) (sx_ite (p := fun l => sx_iOk prog_14_method_1_code l) (sx_iB_s aJ_319_34) (sx_ite (p := fun l => sx_iOk prog_14_method_1_code l) (sx_iB_s aJ_319_35) (sx_iB_s aJ_319_36))) (sx_ite (p := fun l => sx_iOk prog_14_method_1_code l) (sx_ite (p := fun l => sx_iOk prog_14_method_1_code l) (sx_iB_s aJ_319_37) (sx_iB_s aJ_319_38)) (sx_ite (p := fun l => sx_iOk prog_14_method_1_code l) (sx_iB_s aJ_319_39) (sx_iB_s aJ_319_40))))) (sx_ite (p := fun l => sx_iOk prog_14_method_1_code l) (sx_ite (p := fun l => sx_iOk prog_14_method_1_code l) (sx_ite (p := fun l => sx_iOk prog_14_method_1_code l) (sx_iB_s aJ_319_41) (sx_ite (p := fun l => sx_iOk prog_14_method_1_code l) (sx_iB_s aJ_319_42) (sx_iB_s aJ_319_43))) (sx_ite (p := fun l => sx_iOk prog_14_method_1_code l) (sx_ite (p := fun l => sx_iOk prog_14_method_1_code l) (sx_iB_s aJ_319_44) (sx_iB_s aJ_319_45)) (sx_ite (p := fun l => sx_iOk prog_14_method_1_code l) (sx_iB_s aJ_319_46) (sx_iB_s aJ_319_47)))) (sx_ite (p := fun l => sx_iOk prog_14_method_1_code l) (sx_ite (p := fun l => sx_iOk prog_14_method_1_code l) (sx_iB_s aJ_319_48) (sx_ite (p := fun l => sx_iOk prog_14_method_1_code l) (sx_iB_s aJ_319_49) (sx_iB_s aJ_319_50))) (sx_ite (p := fun l => sx_iOk prog_14_method_1_code l) (sx_ite (p := fun l => sx_iOk prog_14_method_1_code l) (sx_iB_s aJ_319_51) (sx_iB_s aJ_319_52)) (sx_ite (p := fun l => sx_iOk prog_14_method_1_code l) (sx_iB_s aJ_319_53) (sx_iB_s aJ_319_54))))))) (sx_ite (p := fun l => sx_iOk prog_14_method_1_code l) (sx_ite (p := fun l => sx_iOk prog_14_method_1_code l) (sx_ite (p := fun l => sx_iOk prog_14_method_1_code l) (sx_ite (p := fun l => sx_iOk prog_14_method_1_code l) (sx_ite (p := fun l => sx_iOk prog_14_method_1_code l) (sx_iB_s aJ_319_55) (sx_ite (p := fun l => sx_iOk prog_14_method_1_code l) (sx_iB_s aJ_319_56) (sx_iB_s aJ_319_57))) (sx_ite (p := fun l => sx_iOk prog_14_method_1_code l) (sx_ite (p := fun l => sx_iOk prog_14_method_1_code l) (sx_iB_s aJ_319_58) (sx_iB_s aJ_319_59)) (sx_ite (p := fun l => sx_iOk prog_14_method_1_code l) (sx_iB_s aJ_319_60) (sx_iB_s aJ_319_61)))) (sx_ite (p := fun l => sx_iOk prog_14_method_1_code l) (sx_ite (p := fun l => sx_iOk prog_14_method_1_code l) (sx_iB_s aJ_319_62) (sx_ite (p := fun l => sx_iOk prog_14_method_1_code l) (sx_iB_s aJ_319_63) (sx_iB_s aJ_319_64))) (sx_ite (p := fun l => sx_iOk prog_14_method_1_code l) (sx_ite (p := fun l => sx_iOk prog_14_method_1_code l) (sx_iB_s aJ_319_65) (sx_iB_s aJ_319_66)) (sx_ite (p := fun l => sx_iOk prog_14_method_1_code l) (sx_iB_s aJ_319_67) (sx_iB_s aJ_319_68))))) (sx_ite (p := fun l => sx_iOk prog_14_method_1_code l) (sx_ite (p := fun l => sx_iOk prog_14_method_1_code l) (sx_ite (p := fun l => sx_iOk prog_14_method_1_code l) (sx_iB_s aJ_319_69) (sx_ite (p := fun l => sx_iOk prog_14_method_1_code l) (sx_iB_s aJ_319_70) (sx_iB_s aJ_319_71))) (sx_ite (p := fun l => sx_iOk prog_14_method_1_code l) (sx_ite (p := fun l => sx_iOk prog_14_method_1_code l) (sx_iB_s aJ_319_72) (sx_iB_s aJ_319_73)) (sx_ite (p := fun l => sx_iOk prog_14_method_1_code l) (sx_iB_s aJ_319_74) (sx_iB_s aJ_319_75)))) (sx_ite (p := fun l => sx_iOk prog_14_method_1_code l) (sx_ite (p := fun l => sx_iOk prog_14_method_1_code l) (sx_iB_s aJ_319_76) (sx_ite (p := fun l => sx_iOk prog_14_method_1_code l) (sx_iB_s aJ_319_77) (sx_iB_s aJ_319_78))) (sx_ite (p := fun l => sx_iOk prog_14_method_1_code l) (sx_ite (p := fun l => sx_iOk prog_14_method_1_code l) (sx_iB_s aJ_319_79) (sx_iB_s aJ_319_80)) (sx_ite (p := fun l => sx_iOk prog_14_method_1_code l) (sx_iB_s aJ_319_81) (sx_iB_s aJ_319_82)))))) (sx_ite (p := fun l => sx_iOk prog_14_method_1_code l) (sx_ite (p := fun l => sx_iOk prog_14_method_1_code l) (sx_ite (p := fun l => sx_iOk prog_14_method_1_code l) (sx_ite (p := fun l => sx_iOk prog_14_method_1_code l) (sx_iB_s aJ_319_83) (sx_ite (p := fun l => sx_iOk prog_14_method_1_code l) (sx_iB_s aJ_319_84) (sx_iB_s aJ_319_85))) (sx_ite (p := fun l => sx_iOk prog_14_method_1_code l) (sx_ite (p := fun l => sx_iOk prog_14_method_1_code l) (sx_iB_s aJ_319_86) (sx_iB_s aJ_319_87)) (sx_ite (p := fun l => sx_iOk prog_14_method_1_code l) (sx_iB_s aJ_319_88) (sx_iB_s aJ_319_89)))) (sx_ite (p := fun l => sx_iOk prog_14_method_1_code l) (sx_ite (p := fun l => sx_iOk prog_14_method_1_code l) (sx_iB_s aJ_319_90) (sx_ite (p := fun l => sx_iOk prog_14_method_1_code l) (sx_iB_s aJ_319_91) (sx_iB_s aJ_319_92))) (sx_ite (p := fun l => sx_iOk prog_14_method_1_code l) (sx_ite (p := fun l => sx_iOk prog_14_method_1_code l) (sx_iB_s aJ_319_93) (sx_iB_s aJ_319_94)) (sx_ite (p := fun l => sx_iOk prog_14_method_1_code l) (sx_iB_s aJ_319_95) (sx_iB_s aJ_319_96))))) (sx_ite (p := fun l => sx_iOk prog_14_method_1_code l) (sx_ite (p := fun l => sx_iOk prog_14_method_1_code l) (sx_ite (p := fun l => sx_iOk prog_14_method_1_code l) (sx_iB_s aJ_319_97) (sx_ite (p := fun l => sx_iOk prog_14_method_1_code l) (sx_iB_s aJ_319_98) (sx_iB_s aJ_319_99))) (sx_ite (p := fun l => sx_iOk prog_14_method_1_code l) (sx_ite (p := fun l => sx_iOk prog_14_method_1_code l) (sx_iB_s aJ_319_100) (sx_iB_s aJ_319_101)) (sx_ite (p := fun l => sx_iOk prog_14_method_1_code l) (sx_iB_s aJ_319_102) (sx_iB_s aJ_319_103)))) (sx_ite (p := fun l => sx_iOk prog_14_method_1_code l) (sx_ite (p := fun l => sx_iOk prog_14_method_1_code l) (sx_iB_s aJ_319_104) (sx_ite (p := fun l => sx_iOk prog_14_method_1_code l) (sx_iB_s aJ_319_105) (sx_iB_s aJ_319_106))) (sx_ite (p := fun l => sx_iOk prog_14_method_1_code l) (sx_ite (p := fun l => sx_iOk prog_14_method_1_code l) (sx_iB_s aJ_319_107) (sx_iB_s aJ_319_108)) (sx_ite (p := fun l => sx_iOk prog_14_method_1_code l) (sx_iB_s aJ_319_109) (sx_iB_s aJ_319_110))))))))
def aU_319 (y pc : Nat) : Option (Instr × Nat) := if y = 319 then sx_iF (aS_319 pc) pc else none
set_option maxRecDepth 100000 in
theorem aV0_319 (y : Nat) : sx_P1 (aU_319 y) y := by
  intro pc r h mt hm
  unfold aU_319 at h
  split at h
  · rename_i hy
    subst hy
    have e : aM_319.1 = mt := Option.some.inj (show some aM_319.1 = some mt from hm)
    subst e
    exact sx_iF_s (aT_319 pc) h
  · cases h
def aS_320 (pc : Nat) : sx_IL := (if pc < 43 then (if pc < 20 then (if pc < 12 then aI_320_0 else aI_320_1) else (if pc < 31 then aI_320_2 else aI_320_3)) else (if pc < 61 then (if pc < 53 then aI_320_4 else aI_320_5) else (if pc < 73 then aI_320_6 else aI_320_7)))
theorem aT_320 (pc : Nat) : sx_iOk prog_14_method_3_code (aS_320 pc) := (sx_ite (p := fun l => sx_iOk prog_14_method_3_code l) (sx_ite (p := fun l => sx_iOk prog_14_method_3_code l) (sx_ite (p := fun l => sx_iOk prog_14_method_3_code l) (sx_iB_s aJ_320_0) (sx_iB_s aJ_320_1)) (sx_ite (p := fun l => sx_iOk prog_14_method_3_code l) (sx_iB_s aJ_320_2) (sx_iB_s aJ_320_3))) (sx_ite (p := fun l => sx_iOk prog_14_method_3_code l) (sx_ite (p := fun l => sx_iOk prog_14_method_3_code l) (sx_iB_s aJ_320_4) (sx_iB_s aJ_320_5)) (sx_ite (p := fun l => sx_iOk prog_14_method_3_code l) (sx_iB_s aJ_320_6) (sx_iB_s aJ_320_7))))
def aU_320 (y pc : Nat) : Option (Instr × Nat) := if y = 320 then sx_iF (aS_320 pc) pc else none
set_option maxRecDepth 100000 in
theorem aV0_320 (y : Nat) : sx_P1 (aU_320 y) y := by
  intro pc r h mt hm
  unfold aU_320 at h
  split at h
  · rename_i hy
    subst hy
    have e : aM_320.1 = mt := Option.some.inj (show some aM_320.1 = some mt from hm)
    subst e
    exact sx_iF_s (aT_320 pc) h
  · cases h
def aS_321 (pc : Nat) : sx_IL := (if pc < 9 then aI_321_0 else aI_321_1)
theorem aT_321 (pc : Nat) : sx_iOk prog_14_method_2_code (aS_321 pc) := (sx_ite (p := fun l => sx_iOk prog_14_method_2_code l) (sx_iB_s aJ_321_0) (sx_iB_s aJ_321_1))
def aU_321 (y pc : Nat) : Option (Instr × Nat) := if y = 321 then sx_iF (aS_321 pc) pc else none
set_option maxRecDepth 100000 in
theorem aV0_321 (y : Nat) : sx_P1 (aU_321 y) y := by
  intro pc r h mt hm
  unfold aU_321 at h
  split at h
  · rename_i hy
    subst hy
    have e : aM_321.1 = mt := Option.some.inj (show some aM_321.1 = some mt from hm)
    subst e
    exact sx_iF_s (aT_321 pc) h
  · cases h
def aS_322 (pc : Nat) : sx_IL := (if pc < 20 then (if pc < 8 then aI_322_0 else aI_322_1) else (if pc < 28 then aI_322_2 else aI_322_3))
theorem aT_322 (pc : Nat) : sx_iOk prog_14_method_4_code (aS_322 pc) := (sx_ite (p := fun l => sx_iOk prog_14_method_4_code l) (sx_ite (p := fun l => sx_iOk prog_14_method_4_code l) (sx_iB_s aJ_322_0) (sx_iB_s aJ_322_1)) (sx_ite (p := fun l => sx_iOk prog_14_method_4_code l) (sx_iB_s aJ_322_2) (sx_iB_s aJ_322_3)))
def aU_322 (y pc : Nat) : Option (Instr × Nat) := if y = 322 then sx_iF (aS_322 pc) pc else none
set_option maxRecDepth 100000 in
theorem aV0_322 (y : Nat) : sx_P1 (aU_322 y) y := by
  intro pc r h mt hm
  unfold aU_322 at h
  split at h
  · rename_i hy
    subst hy
    have e : aM_322.1 = mt := Option.some.inj (show some aM_322.1 = some mt from hm)
    subst e
    exact sx_iF_s (aT_322 pc) h
  · cases h
def aS_323 (pc : Nat) : sx_IL := (if pc < 20 then (if pc < 12 then aI_323_0 else aI_323_1) else (if pc < 32 then aI_323_2 else aI_323_3))
theorem aT_323 (pc : Nat) : sx_iOk prog_14_method_5_code (aS_323 pc) := (sx_ite (p := fun l => sx_iOk prog_14_method_5_code l) (sx_ite (p := fun l => sx_iOk prog_14_method_5_code l) (sx_iB_s aJ_323_0) (sx_iB_s aJ_323_1)) (sx_ite (p := fun l => sx_iOk prog_14_method_5_code l) (sx_iB_s aJ_323_2) (sx_iB_s aJ_323_3)))
def aU_323 (y pc : Nat) : Option (Instr × Nat) := if y = 323 then sx_iF (aS_323 pc) pc else none
set_option maxRecDepth 100000 in
theorem aV0_323 (y : Nat) : sx_P1 (aU_323 y) y := by
  intro pc r h mt hm
  unfold aU_323 at h
  split at h
  · rename_i hy
    subst hy
    have e : aM_323.1 = mt := Option.some.inj (show some aM_323.1 = some mt from hm)
    subst e
    exact sx_iF_s (aT_323 pc) h
  · cases h
def aS_324 (pc : Nat) : sx_IL := (if pc < 33 then (if pc < 12 then aI_324_0 else (if pc < 21 then aI_324_1 else aI_324_2)) else (if pc < 53 then (if pc < 43 then aI_324_3 else aI_324_4) else (if pc < 65 then aI_324_5 else aI_324_6)))
theorem aT_324 (pc : Nat) : sx_iOk prog_14_method_6_code (aS_324 pc) := (sx_ite (p := fun l => sx_iOk prog_14_method_6_code l) (sx_ite (p := fun l => sx_iOk prog_14_method_6_code l) (sx_iB_s aJ_324_0) (sx_ite (p := fun l => sx_iOk prog_14_method_6_code l) (sx_iB_s aJ_324_1) (sx_iB_s aJ_324_2))) (sx_ite (p := fun l => sx_iOk prog_14_method_6_code l) (sx_ite (p := fun l => sx_iOk prog_14_method_6_code l) (sx_iB_s aJ_324_3) (sx_iB_s aJ_324_4)) (sx_ite (p := fun l => sx_iOk prog_14_method_6_code l) (sx_iB_s aJ_324_5) (sx_iB_s aJ_324_6))))
def aU_324 (y pc : Nat) : Option (Instr × Nat) := if y = 324 then sx_iF (aS_324 pc) pc else none
set_option maxRecDepth 100000 in
theorem aV0_324 (y : Nat) : sx_P1 (aU_324 y) y := by
  intro pc r h mt hm
  unfold aU_324 at h
  split at h
  · rename_i hy
    subst hy
    have e : aM_324.1 = mt := Option.some.inj (show some aM_324.1 = some mt from hm)
    subst e
    exact sx_iF_s (aT_324 pc) h
  · cases h
def aS_325 (pc : Nat) : sx_IL := (if pc < 20 then (if pc < 12 then aI_325_0 else aI_325_1) else (if pc < 31 then aI_325_2 else (if pc < 43 then aI_325_3 else aI_325_4)))
theorem aT_325 (pc : Nat) : sx_iOk prog_14_method_7_code (aS_325 pc) := (sx_ite (p := fun l => sx_iOk prog_14_method_7_code l) (sx_ite (p := fun l => sx_iOk prog_14_method_7_code l) (sx_iB_s aJ_325_0) (sx_iB_s aJ_325_1)) (sx_ite (p := fun l => sx_iOk prog_14_method_7_code l) (sx_iB_s aJ_325_2) (sx_ite (p := fun l => sx_iOk prog_14_method_7_code l) (sx_iB_s aJ_325_3) (sx_iB_s aJ_325_4))))
def aU_325 (y pc : Nat) : Option (Instr × Nat) := if y = 325 then sx_iF (aS_325 pc) pc else none
set_option maxRecDepth 100000 in
theorem aV0_325 (y : Nat) : sx_P1 (aU_325 y) y := by
  intro pc r h mt hm
  unfold aU_325 at h
  split at h
  · rename_i hy
    subst hy
    have e : aM_325.1 = mt := Option.some.inj (show some aM_325.1 = some mt from hm)
    subst e
    exact sx_iF_s (aT_325 pc) h
  · cases h
def aS_326 (pc : Nat) : sx_IL := (if pc < 20 then (if pc < 10 then aI_326_0 else aI_326_1) else (if pc < 30 then aI_326_2 else aI_326_3))
theorem aT_326 (pc : Nat) : sx_iOk prog_14_method_22_code (aS_326 pc) := (sx_ite (p := fun l => sx_iOk prog_14_method_22_code l) (sx_ite (p := fun l => sx_iOk prog_14_method_22_code l) (sx_iB_s aJ_326_0) (sx_iB_s aJ_326_1)) (sx_ite (p := fun l => sx_iOk prog_14_method_22_code l) (sx_iB_s aJ_326_2) (sx_iB_s aJ_326_3)))
def aU_326 (y pc : Nat) : Option (Instr × Nat) := if y = 326 then sx_iF (aS_326 pc) pc else none
set_option maxRecDepth 100000 in
theorem aV0_326 (y : Nat) : sx_P1 (aU_326 y) y := by
  intro pc r h mt hm
  unfold aU_326 at h
  split at h
  · rename_i hy
    subst hy
    have e : aM_326.1 = mt := Option.some.inj (show some aM_326.1 = some mt from hm)
    subst e
    exact sx_iF_s (aT_326 pc) h
  · cases h
def aS_327 (pc : Nat) : sx_IL := (if pc < 8 then aI_327_0 else aI_327_1)
theorem aT_327 (pc : Nat) : sx_iOk prog_14_method_21_code (aS_327 pc) := (sx_ite (p := fun l => sx_iOk prog_14_method_21_code l) (sx_iB_s aJ_327_0) (sx_iB_s aJ_327_1))
def aU_327 (y pc : Nat) : Option (Instr × Nat) := if y = 327 then sx_iF (aS_327 pc) pc else none
set_option maxRecDepth 100000 in
theorem aV0_327 (y : Nat) : sx_P1 (aU_327 y) y := by
  intro pc r h mt hm
  unfold aU_327 at h
  split at h
  · rename_i hy
    subst hy
    have e : aM_327.1 = mt := Option.some.inj (show some aM_327.1 = some mt from hm)
    subst e
    exact sx_iF_s (aT_327 pc) h
  · cases h
def aS_328 (pc : Nat) : sx_IL := (if pc < 16 then (if pc < 8 then aI_328_0 else aI_328_1) else (if pc < 24 then aI_328_2 else (if pc < 34 then aI_328_3 else aI_328_4)))
theorem aT_328 (pc : Nat) : sx_iOk prog_14_method_11_code (aS_328 pc) := (sx_ite (p := fun l => sx_iOk prog_14_method_11_code l) (sx_ite (p := fun l => sx_iOk prog_14_method_11_code l) (sx_iB_s aJ_328_0) (sx_iB_s aJ_328_1)) (sx_ite (p := fun l => sx_iOk prog_14_method_11_code l) (sx_iB_s aJ_328_2) (sx_ite (p := fun l => sx_iOk prog_14_method_11_code l) (sx_iB_s aJ_328_3) (sx_iB_s aJ_328_4))))
def aU_328 (y pc : Nat) : Option (Instr × Nat) := if y = 328 then sx_iF (aS_328 pc) pc else none
set_option maxRecDepth 100000 in
theorem aV0_328 (y : Nat) : sx_P1 (aU_328 y) y := by
  intro pc r h mt hm
  unfold aU_328 at h
  split at h
  · rename_i hy
    subst hy
    have e : aM_328.1 = mt := Option.some.inj (show some aM_328.1 = some mt from hm)
    subst e
    exact sx_iF_s (aT_328 pc) h
  · cases h
def aS_329 (pc : Nat) : sx_IL := (if pc < 10 then aI_329_0 else (if pc < 19 then aI_329_1 else aI_329_2))
theorem aT_329 (pc : Nat) : sx_iOk prog_14_method_14_code (aS_329 pc) := (sx_ite (p := fun l => sx_iOk prog_14_method_14_code l) (sx_iB_s aJ_329_0) (sx_ite (p := fun l => sx_iOk prog_14_method_14_code l) (sx_iB_s aJ_329_1) (sx_iB_s aJ_329_2)))
def aU_329 (y pc : Nat) : Option (Instr × Nat) := if y = 329 then sx_iF (aS_329 pc) pc else none
set_option maxRecDepth 100000 in
theorem aV0_329 (y : Nat) : sx_P1 (aU_329 y) y := by
  intro pc r h mt hm
  unfold aU_329 at h
  split at h
  · rename_i hy
    subst hy
    have e : aM_329.1 = mt := Option.some.inj (show some aM_329.1 = some mt from hm)
    subst e
    exact sx_iF_s (aT_329 pc) h
  · cases h
def aS_330 (pc : Nat) : sx_IL := (if pc < 10 then aI_330_0 else aI_330_1)
theorem aT_330 (pc : Nat) : sx_iOk prog_14_method_12_code (aS_330 pc) := (sx_ite (p := fun l => sx_iOk prog_14_method_12_code l) (sx_iB_s aJ_330_0) (sx_iB_s aJ_330_1))
def aU_330 (y pc : Nat) : Option (Instr × Nat) := if y = 330 then sx_iF (aS_330 pc) pc else none
set_option maxRecDepth 100000 in
theorem aV0_330 (y : Nat) : sx_P1 (aU_330 y) y := by
  intro pc r h mt hm
  unfold aU_330 at h
  split at h
  · rename_i hy
    subst hy
    have e : aM_330.1 = mt := Option.some.inj (show some aM_330.1 = some mt from hm)
    subst e
    exact sx_iF_s (aT_330 pc) h
  · cases h
def aS_331 (pc : Nat) : sx_IL := (if pc < 42 then (if pc < 19 then (if pc < 9 then aI_331_0 else aI_331_1) else (if pc < 30 then aI_331_2 else aI_331_3)) else (if pc < 61 then (if pc < 51 then aI_331_4 else aI_331_5) else (if pc < 73 then aI_331_6 else aI_331_7)))
theorem aT_331 (pc : Nat) : sx_iOk prog_14_method_13_code (aS_331 pc) := (sx_ite (p := fun l => sx_iOk prog_14_method_13_code l) (sx_ite (p := fun l => sx_iOk prog_14_method_13_code l) (sx_ite (p := fun l => sx_iOk prog_14_method_13_code l) (sx_iB_s aJ_331_0) (sx_iB_s aJ_331_1)) (sx_ite (p := fun l => sx_iOk prog_14_method_13_code l) (sx_iB_s aJ_331_2) (sx_iB_s aJ_331_3))) (sx_ite (p := fun l => sx_iOk prog_14_method_13_code l) (sx_ite (p := fun l => sx_iOk prog_14_method_13_code l) (sx_iB_s aJ_331_4) (sx_iB_s aJ_331_5)) (sx_ite (p := fun l => sx_iOk prog_14_method_13_code l) (sx_iB_s aJ_331_6) (sx_iB_s aJ_331_7))))
def aU_331 (y pc : Nat) : Option (Instr × Nat) := if y = 331 then sx_iF (aS_331 pc) pc else none
set_option maxRecDepth 100000 in
theorem aV0_331 (y : Nat) : sx_P1 (aU_331 y) y := by
  intro pc r h mt hm
  unfold aU_331 at h
  split at h
  · rename_i hy
    subst hy
    have e : aM_331.1 = mt := Option.some.inj (show some aM_331.1 = some mt from hm)
    subst e
    exact sx_iF_s (aT_331 pc) h
  · cases h
def aS_332 (pc : Nat) : sx_IL := (if pc < 67 then (if pc < 31 then (if pc < 9 then aI_332_0 else (if pc < 21 then aI_332_1 else aI_332_2)) else (if pc < 44 then aI_332_3 else (if pc < 54 then aI_332_4 else aI_332_5))) else (if pc < 102 then (if pc < 79 then aI_332_6 else (if pc < 89 then aI_332_7 else aI_332_8)) else (if pc < 124 then (if pc < 114 then aI_332_9 else aI_332_10) else (if pc < 137 then aI_332_11 else aI_332_12))))
theorem aT_332 (pc : Nat) : sx_iOk prog_14_method_9_code (aS_332 pc) := (sx_ite (p := fun l => sx_iOk prog_14_method_9_code l) (sx_ite (p := fun l => sx_iOk prog_14_method_9_code l) (sx_ite (p := fun l => sx_iOk prog_14_method_9_code l) (sx_iB_s aJ_332_0) (sx_ite (p := fun l => sx_iOk prog_14_method_9_code l) (sx_iB_s aJ_332_1) (sx_iB_s aJ_332_2))) (sx_ite (p := fun l => sx_iOk prog_14_method_9_code l) (sx_iB_s aJ_332_3) (sx_ite (p := fun l => sx_iOk prog_14_method_9_code l) (sx_iB_s aJ_332_4) (sx_iB_s aJ_332_5)))) (sx_ite (p := fun l => sx_iOk prog_14_method_9_code l) (sx_ite (p := fun l => sx_iOk prog_14_method_9_code l) (sx_iB_s aJ_332_6) (sx_ite (p := fun l => sx_iOk prog_14_method_9_code l) (sx_iB_s aJ_332_7) (sx_iB_s aJ_332_8))) (sx_ite (p := fun l => sx_iOk prog_14_method_9_code l) (sx_ite (p := fun l => sx_iOk prog_14_method_9_code l) (sx_iB_s aJ_332_9) (sx_iB_s aJ_332_10)) (sx_ite (p := fun l => sx_iOk prog_14_method_9_code l) (sx_iB_s aJ_332_11) (sx_iB_s aJ_332_12)))))
def aU_332 (y pc : Nat) : Option (Instr × Nat) := if y = 332 then sx_iF (aS_332 pc) pc else none
set_option maxRecDepth 100000 in
theorem aV0_332 (y : Nat) : sx_P1 (aU_332 y) y := by
  intro pc r h mt hm
  unfold aU_332 at h
  split at h
  · rename_i hy
    subst hy
    have e : aM_332.1 = mt := Option.some.inj (show some aM_332.1 = some mt from hm)
    subst e
    exact sx_iF_s (aT_332 pc) h
  · cases h
def aS_333 (pc : Nat) : sx_IL := (if pc < 7 then aI_333_0 else aI_333_1)
theorem aT_333 (pc : Nat) : sx_iOk prog_14_method_8_code (aS_333 pc) := (sx_ite (p := fun l => sx_iOk prog_14_method_8_code l) (sx_iB_s aJ_333_0) (sx_iB_s aJ_333_1))
def aU_333 (y pc : Nat) : Option (Instr × Nat) := if y = 333 then sx_iF (aS_333 pc) pc else none
set_option maxRecDepth 100000 in
theorem aV0_333 (y : Nat) : sx_P1 (aU_333 y) y := by
  intro pc r h mt hm
  unfold aU_333 at h
  split at h
  · rename_i hy
    subst hy
    have e : aM_333.1 = mt := Option.some.inj (show some aM_333.1 = some mt from hm)
    subst e
    exact sx_iF_s (aT_333 pc) h
  · cases h
def aS_334 (pc : Nat) : sx_IL := (if pc < 24 then (if pc < 14 then aI_334_0 else aI_334_1) else (if pc < 36 then aI_334_2 else aI_334_3))
theorem aT_334 (pc : Nat) : sx_iOk prog_14_method_17_code (aS_334 pc) := (sx_ite (p := fun l => sx_iOk prog_14_method_17_code l) (sx_ite (p := fun l => sx_iOk prog_14_method_17_code l) (sx_iB_s aJ_334_0) (sx_iB_s aJ_334_1)) (sx_ite (p := fun l => sx_iOk prog_14_method_17_code l) (sx_iB_s aJ_334_2) (sx_iB_s aJ_334_3)))
def aU_334 (y pc : Nat) : Option (Instr × Nat) := if y = 334 then sx_iF (aS_334 pc) pc else none
set_option maxRecDepth 100000 in
theorem aV0_334 (y : Nat) : sx_P1 (aU_334 y) y := by
  intro pc r h mt hm
  unfold aU_334 at h
  split at h
  · rename_i hy
    subst hy
    have e : aM_334.1 = mt := Option.some.inj (show some aM_334.1 = some mt from hm)
    subst e
    exact sx_iF_s (aT_334 pc) h
  · cases h
def aS_335 (pc : Nat) : sx_IL := (if pc < 10 then aI_335_0 else (if pc < 21 then aI_335_1 else aI_335_2))
theorem aT_335 (pc : Nat) : sx_iOk prog_14_method_10_code (aS_335 pc) := (sx_ite (p := fun l => sx_iOk prog_14_method_10_code l) (sx_iB_s aJ_335_0) (sx_ite (p := fun l => sx_iOk prog_14_method_10_code l) (sx_iB_s aJ_335_1) (sx_iB_s aJ_335_2)))
def aU_335 (y pc : Nat) : Option (Instr × Nat) := if y = 335 then sx_iF (aS_335 pc) pc else none
set_option maxRecDepth 100000 in
theorem aV0_335 (y : Nat) : sx_P1 (aU_335 y) y := by
  intro pc r h mt hm
  unfold aU_335 at h
  split at h
  · rename_i hy
    subst hy
    have e : aM_335.1 = mt := Option.some.inj (show some aM_335.1 = some mt from hm)
    subst e
    exact sx_iF_s (aT_335 pc) h
  · cases h
def aS_336 (pc : Nat) : sx_IL := (if pc < 20 then (if pc < 10 then aI_336_0 else aI_336_1) else (if pc < 30 then aI_336_2 else (if pc < 40 then aI_336_3 else aI_336_4)))
theorem aT_336 (pc : Nat) : sx_iOk prog_14_method_23_code (aS_336 pc) := (sx_ite (p := fun l => sx_iOk prog_14_method_23_code l) (sx_ite (p := fun l => sx_iOk prog_14_method_23_code l) (sx_iB_s aJ_336_0) (sx_iB_s aJ_336_1)) (sx_ite (p := fun l => sx_iOk prog_14_method_23_code l) (sx_iB_s aJ_336_2) (sx_ite (p := fun l => sx_iOk prog_14_method_23_code l) (sx_iB_s aJ_336_3) (sx_iB_s aJ_336_4))))
def aU_336 (y pc : Nat) : Option (Instr × Nat) := if y = 336 then sx_iF (aS_336 pc) pc else none
set_option maxRecDepth 100000 in
theorem aV0_336 (y : Nat) : sx_P1 (aU_336 y) y := by
  intro pc r h mt hm
  unfold aU_336 at h
  split at h
  · rename_i hy
    subst hy
    have e : aM_336.1 = mt := Option.some.inj (show some aM_336.1 = some mt from hm)
    subst e
    exact sx_iF_s (aT_336 pc) h
  · cases h
def aS_337 (pc : Nat) : sx_IL := (if pc < 21 then (if pc < 11 then aI_337_0 else aI_337_1) else (if pc < 30 then aI_337_2 else aI_337_3))
theorem aT_337 (pc : Nat) : sx_iOk prog_14_method_18_code (aS_337 pc) := (sx_ite (p := fun l => sx_iOk prog_14_method_18_code l) (sx_ite (p := fun l => sx_iOk prog_14_method_18_code l) (sx_iB_s aJ_337_0) (sx_iB_s aJ_337_1)) (sx_ite (p := fun l => sx_iOk prog_14_method_18_code l) (sx_iB_s aJ_337_2) (sx_iB_s aJ_337_3)))
def aU_337 (y pc : Nat) : Option (Instr × Nat) := if y = 337 then sx_iF (aS_337 pc) pc else none
set_option maxRecDepth 100000 in
theorem aV0_337 (y : Nat) : sx_P1 (aU_337 y) y := by
  intro pc r h mt hm
  unfold aU_337 at h
  split at h
  · rename_i hy
    subst hy
    have e : aM_337.1 = mt := Option.some.inj (show some aM_337.1 = some mt from hm)
    subst e
    exact sx_iF_s (aT_337 pc) h
  · cases h
def aS_338 (pc : Nat) : sx_IL := (if pc < 22 then (if pc < 11 then aI_338_0 else aI_338_1) else (if pc < 32 then aI_338_2 else (if pc < 45 then aI_338_3 else aI_338_4)))
theorem aT_338 (pc : Nat) : sx_iOk prog_14_method_19_code (aS_338 pc) := (sx_ite (p := fun l => sx_iOk prog_14_method_19_code l) (sx_ite (p := fun l => sx_iOk prog_14_method_19_code l) (sx_iB_s aJ_338_0) (sx_iB_s aJ_338_1)) (sx_ite (p := fun l => sx_iOk prog_14_method_19_code l) (sx_iB_s aJ_338_2) (sx_ite (p := fun l => sx_iOk prog_14_method_19_code l) (sx_iB_s aJ_338_3) (sx_iB_s aJ_338_4))))
def aU_338 (y pc : Nat) : Option (Instr × Nat) := if y = 338 then sx_iF (aS_338 pc) pc else none
set_option maxRecDepth 100000 in
theorem aV0_338 (y : Nat) : sx_P1 (aU_338 y) y := by
  intro pc r h mt hm
  unfold aU_338 at h
  split at h
  · rename_i hy
    subst hy
    have e : aM_338.1 = mt := Option.some.inj (show some aM_338.1 = some mt from hm)
    subst e
    exact sx_iF_s (aT_338 pc) h
  · cases h
def aS_339 (pc : Nat) : sx_IL := (if pc < 9 then aI_339_0 else (if pc < 18 then aI_339_1 else aI_339_2))
theorem aT_339 (pc : Nat) : sx_iOk prog_14_method_15_code (aS_339 pc) := (sx_ite (p := fun l => sx_iOk prog_14_method_15_code l) (sx_iB_s aJ_339_0) (sx_ite (p := fun l => sx_iOk prog_14_method_15_code l) (sx_iB_s aJ_339_1) (sx_iB_s aJ_339_2)))
def aU_339 (y pc : Nat) : Option (Instr × Nat) := if y = 339 then sx_iF (aS_339 pc) pc else none
set_option maxRecDepth 100000 in
theorem aV0_339 (y : Nat) : sx_P1 (aU_339 y) y := by
  intro pc r h mt hm
  unfold aU_339 at h
  split at h
  · rename_i hy
    subst hy
    have e : aM_339.1 = mt := Option.some.inj (show some aM_339.1 = some mt from hm)
    subst e
    exact sx_iF_s (aT_339 pc) h
  · cases h
def aS_340 (pc : Nat) : sx_IL := (if pc < 23 then (if pc < 10 then aI_340_0 else aI_340_1) else (if pc < 33 then aI_340_2 else aI_340_3))
theorem aT_340 (pc : Nat) : sx_iOk prog_14_method_24_code (aS_340 pc) := (sx_ite (p := fun l => sx_iOk prog_14_method_24_code l) (sx_ite (p := fun l => sx_iOk prog_14_method_24_code l) (sx_iB_s aJ_340_0) (sx_iB_s aJ_340_1)) (sx_ite (p := fun l => sx_iOk prog_14_method_24_code l) (sx_iB_s aJ_340_2) (sx_iB_s aJ_340_3)))
def aU_340 (y pc : Nat) : Option (Instr × Nat) := if y = 340 then sx_iF (aS_340 pc) pc else none
set_option maxRecDepth 100000 in
theorem aV0_340 (y : Nat) : sx_P1 (aU_340 y) y := by
  intro pc r h mt hm
  unfold aU_340 at h
  split at h
  · rename_i hy
    subst hy
    have e : aM_340.1 = mt := Option.some.inj (show some aM_340.1 = some mt from hm)
    subst e
    exact sx_iF_s (aT_340 pc) h
  · cases h
def aS_341 (pc : Nat) : sx_IL := (if pc < 9 then aI_341_0 else (if pc < 20 then aI_341_1 else aI_341_2))
theorem aT_341 (pc : Nat) : sx_iOk prog_14_method_20_code (aS_341 pc) := (sx_ite (p := fun l => sx_iOk prog_14_method_20_code l) (sx_iB_s aJ_341_0) (sx_ite (p := fun l => sx_iOk prog_14_method_20_code l) (sx_iB_s aJ_341_1) (sx_iB_s aJ_341_2)))
def aU_341 (y pc : Nat) : Option (Instr × Nat) := if y = 341 then sx_iF (aS_341 pc) pc else none
set_option maxRecDepth 100000 in
theorem aV0_341 (y : Nat) : sx_P1 (aU_341 y) y := by
  intro pc r h mt hm
  unfold aU_341 at h
  split at h
  · rename_i hy
    subst hy
    have e : aM_341.1 = mt := Option.some.inj (show some aM_341.1 = some mt from hm)
    subst e
    exact sx_iF_s (aT_341 pc) h
  · cases h
def aS_342 (pc : Nat) : sx_IL := (if pc < 76 then (if pc < 33 then (if pc < 12 then aI_342_0 else (if pc < 21 then aI_342_1 else aI_342_2)) else (if pc < 55 then (if pc < 43 then aI_342_3 else aI_342_4) else (if pc < 65 then aI_342_5 else aI_342_6))) else (if pc < 121 then (if pc < 97 then (if pc < 87 then aI_342_7 else aI_342_8) else (if pc < 109 then aI_342_9 else aI_342_10)) else (if pc < 145 then (if pc < 132 then aI_342_11 else aI_342_12) else (if pc < 156 then aI_342_13 else aI_342_14))))
theorem aT_342 (pc : Nat) : sx_iOk prog_14_method_30_code (aS_342 pc) := (sx_ite (p := fun l => sx_iOk prog_14_method_30_code l) (sx_ite (p := fun l => sx_iOk prog_14_method_30_code l) (sx_ite (p := fun l => sx_iOk prog_14_method_30_code l) (sx_iB_s aJ_342_0) (sx_ite (p := fun l => sx_iOk prog_14_method_30_code l) (sx_iB_s aJ_342_1) (sx_iB_s aJ_342_2))) (sx_ite (p := fun l => sx_iOk prog_14_method_30_code l) (sx_ite (p := fun l => sx_iOk prog_14_method_30_code l) (sx_iB_s aJ_342_3) (sx_iB_s aJ_342_4)) (sx_ite (p := fun l => sx_iOk prog_14_method_30_code l) (sx_iB_s aJ_342_5) (sx_iB_s aJ_342_6)))) (sx_ite (p := fun l => sx_iOk prog_14_method_30_code l) (sx_ite (p := fun l => sx_iOk prog_14_method_30_code l) (sx_ite (p := fun l => sx_iOk prog_14_method_30_code l) (sx_iB_s aJ_342_7) (sx_iB_s aJ_342_8)) (sx_ite (p := fun l => sx_iOk prog_14_method_30_code l) (sx_iB_s aJ_342_9) (sx_iB_s aJ_342_10))) (sx_ite (p := fun l => sx_iOk prog_14_method_30_code l) (sx_ite (p := fun l => sx_iOk prog_14_method_30_code l) (sx_iB_s aJ_342_11) (sx_iB_s aJ_342_12)) (sx_ite (p := fun l => sx_iOk prog_14_method_30_code l) (sx_iB_s aJ_342_13) (sx_iB_s aJ_342_14)))))
def aU_342 (y pc : Nat) : Option (Instr × Nat) := if y = 342 then sx_iF (aS_342 pc) pc else none
set_option maxRecDepth 100000 in
theorem aV0_342 (y : Nat) : sx_P1 (aU_342 y) y := by
  intro pc r h mt hm
  unfold aU_342 at h
  split at h
  · rename_i hy
    subst hy
    have e : aM_342.1 = mt := Option.some.inj (show some aM_342.1 = some mt from hm)
    subst e
    exact sx_iF_s (aT_342 pc) h
  · cases h
def aS_343 (pc : Nat) : sx_IL := (if pc < 51 then (if pc < 22 then (if pc < 10 then aI_343_0 else aI_343_1) else (if pc < 31 then aI_343_2 else (if pc < 39 then aI_343_3 else aI_343_4))) else (if pc < 72 then (if pc < 63 then aI_343_5 else aI_343_6) else (if pc < 82 then aI_343_7 else (if pc < 90 then aI_343_8 else aI_343_9))))
theorem aT_343 (pc : Nat) : sx_iOk prog_14_method_27_code (aS_343 pc) := (sx_ite (p := fun l => sx_iOk prog_14_method_27_code l) (sx_ite (p := fun l => sx_iOk prog_14_method_27_code l) (sx_ite (p := fun l => sx_iOk prog_14_method_27_code l) (sx_iB_s aJ_343_0) (sx_iB_s aJ_343_1)) (sx_ite (p := fun l => sx_iOk prog_14_method_27_code l) (sx_iB_s aJ_343_2) (sx_ite (p := fun l => sx_iOk prog_14_method_27_code l) (sx_iB_s aJ_343_3) (sx_iB_s aJ_343_4)))) (sx_ite (p := fun l => sx_iOk prog_14_method_27_code l) (sx_ite (p := fun l => sx_iOk prog_14_method_27_code l) (sx_iB_s aJ_343_5) (sx_iB_s aJ_343_6)) (sx_ite (p := fun l => sx_iOk prog_14_method_27_code l) (sx_iB_s aJ_343_7) (sx_ite (p := fun l => sx_iOk prog_14_method_27_code l) (sx_iB_s aJ_343_8) (sx_iB_s aJ_343_9)))))
def aU_343 (y pc : Nat) : Option (Instr × Nat) := if y = 343 then sx_iF (aS_343 pc) pc else none
set_option maxRecDepth 100000 in
theorem aV0_343 (y : Nat) : sx_P1 (aU_343 y) y := by
  intro pc r h mt hm
  unfold aU_343 at h
  split at h
  · rename_i hy
    subst hy
    have e : aM_343.1 = mt := Option.some.inj (show some aM_343.1 = some mt from hm)
    subst e
    exact sx_iF_s (aT_343 pc) h
  · cases h
def aS_344 (pc : Nat) : sx_IL := (if pc < 34 then (if pc < 10 then aI_344_0 else (if pc < 22 then aI_344_1 else aI_344_2)) else (if pc < 47 then aI_344_3 else (if pc < 58 then aI_344_4 else aI_344_5)))
theorem aT_344 (pc : Nat) : sx_iOk prog_14_method_28_code (aS_344 pc) := (sx_ite (p := fun l => sx_iOk prog_14_method_28_code l) (sx_ite (p := fun l => sx_iOk prog_14_method_28_code l) (sx_iB_s aJ_344_0) (sx_ite (p := fun l => sx_iOk prog_14_method_28_code l) (sx_iB_s aJ_344_1) (sx_iB_s aJ_344_2))) (sx_ite (p := fun l => sx_iOk prog_14_method_28_code l) (sx_iB_s aJ_344_3) (sx_ite (p := fun l => sx_iOk prog_14_method_28_code l) (sx_iB_s aJ_344_4) (sx_iB_s aJ_344_5))))
def aU_344 (y pc : Nat) : Option (Instr × Nat) := if y = 344 then sx_iF (aS_344 pc) pc else none
set_option maxRecDepth 100000 in
theorem aV0_344 (y : Nat) : sx_P1 (aU_344 y) y := by
  intro pc r h mt hm
  unfold aU_344 at h
  split at h
  · rename_i hy
    subst hy
    have e : aM_344.1 = mt := Option.some.inj (show some aM_344.1 = some mt from hm)
    subst e
    exact sx_iF_s (aT_344 pc) h
  · cases h
def aS_345 (pc : Nat) : sx_IL := (if pc < 10 then aI_345_0 else aI_345_1)
theorem aT_345 (pc : Nat) : sx_iOk prog_14_method_25_code (aS_345 pc) := (sx_ite (p := fun l => sx_iOk prog_14_method_25_code l) (sx_iB_s aJ_345_0) (sx_iB_s aJ_345_1))
def aU_345 (y pc : Nat) : Option (Instr × Nat) := if y = 345 then sx_iF (aS_345 pc) pc else none
set_option maxRecDepth 100000 in
theorem aV0_345 (y : Nat) : sx_P1 (aU_345 y) y := by
  intro pc r h mt hm
  unfold aU_345 at h
  split at h
  · rename_i hy
    subst hy
    have e : aM_345.1 = mt := Option.some.inj (show some aM_345.1 = some mt from hm)
    subst e
    exact sx_iF_s (aT_345 pc) h
  · cases h
def aS_346 (pc : Nat) : sx_IL := (if pc < 8 then aI_346_0 else (if pc < 17 then aI_346_1 else aI_346_2))
theorem aT_346 (pc : Nat) : sx_iOk prog_14_method_16_code (aS_346 pc) := (sx_ite (p := fun l => sx_iOk prog_14_method_16_code l) (sx_iB_s aJ_346_0) (sx_ite (p := fun l => sx_iOk prog_14_method_16_code l) (sx_iB_s aJ_346_1) (sx_iB_s aJ_346_2)))
def aU_346 (y pc : Nat) : Option (Instr × Nat) := if y = 346 then sx_iF (aS_346 pc) pc else none
set_option maxRecDepth 100000 in
theorem aV0_346 (y : Nat) : sx_P1 (aU_346 y) y := by
  intro pc r h mt hm
  unfold aU_346 at h
  split at h
  · rename_i hy
    subst hy
    have e : aM_346.1 = mt := Option.some.inj (show some aM_346.1 = some mt from hm)
    subst e
    exact sx_iF_s (aT_346 pc) h
  · cases h
def aS_347 (pc : Nat) : sx_IL := (if pc < 11 then aI_347_0 else aI_347_1)
theorem aT_347 (pc : Nat) : sx_iOk prog_14_method_26_code (aS_347 pc) := (sx_ite (p := fun l => sx_iOk prog_14_method_26_code l) (sx_iB_s aJ_347_0) (sx_iB_s aJ_347_1))
def aU_347 (y pc : Nat) : Option (Instr × Nat) := if y = 347 then sx_iF (aS_347 pc) pc else none
set_option maxRecDepth 100000 in
theorem aV0_347 (y : Nat) : sx_P1 (aU_347 y) y := by
  intro pc r h mt hm
  unfold aU_347 at h
  split at h
  · rename_i hy
    subst hy
    have e : aM_347.1 = mt := Option.some.inj (show some aM_347.1 = some mt from hm)
    subst e
    exact sx_iF_s (aT_347 pc) h
  · cases h
def aS_348 (pc : Nat) : sx_IL := (if pc < 8 then aI_348_0 else aI_348_1)
theorem aT_348 (pc : Nat) : sx_iOk prog_14_method_29_code (aS_348 pc) := (sx_ite (p := fun l => sx_iOk prog_14_method_29_code l) (sx_iB_s aJ_348_0) (sx_iB_s aJ_348_1))
def aU_348 (y pc : Nat) : Option (Instr × Nat) := if y = 348 then sx_iF (aS_348 pc) pc else none
set_option maxRecDepth 100000 in
theorem aV0_348 (y : Nat) : sx_P1 (aU_348 y) y := by
  intro pc r h mt hm
  unfold aU_348 at h
  split at h
  · rename_i hy
    subst hy
    have e : aM_348.1 = mt := Option.some.inj (show some aM_348.1 = some mt from hm)
    subst e
    exact sx_iF_s (aT_348 pc) h
  · cases h
def aS_349 (pc : Nat) : sx_IL := (if pc < 102 then (if pc < 43 then (if pc < 21 then (if pc < 12 then aI_349_0 else aI_349_1) else (if pc < 33 then aI_349_2 else aI_349_3)) else (if pc < 65 then (if pc < 55 then aI_349_4 else aI_349_5) else (if pc < 76 then aI_349_6 else (if pc < 88 then aI_349_7 else aI_349_8)))) else (if pc < 161 then (if pc < 125 then (if pc < 113 then aI_349_9 else aI_349_10) else (if pc < 138 then aI_349_11 else (if pc < 148 then aI_349_12 else aI_349_13))) else (if pc < 184 then (if pc < 174 then aI_349_14 else aI_349_15) else (if pc < 197 then aI_349_16 else (if pc < 208 then aI_349_17 else aI_349_18)))))
theorem aT_349 (pc : Nat) : sx_iOk prog_14_method_31_code (aS_349 pc) := (sx_ite (p := fun l => sx_iOk prog_14_method_31_code l) (sx_ite (p := fun l => sx_iOk prog_14_method_31_code l) (sx_ite (p := fun l => sx_iOk prog_14_method_31_code l) (sx_ite (p := fun l => sx_iOk prog_14_method_31_code l) (sx_iB_s aJ_349_0) (sx_iB_s aJ_349_1)) (sx_ite (p := fun l => sx_iOk prog_14_method_31_code l) (sx_iB_s aJ_349_2) (sx_iB_s aJ_349_3))) (sx_ite (p := fun l => sx_iOk prog_14_method_31_code l) (sx_ite (p := fun l => sx_iOk prog_14_method_31_code l) (sx_iB_s aJ_349_4) (sx_iB_s aJ_349_5)) (sx_ite (p := fun l => sx_iOk prog_14_method_31_code l) (sx_iB_s aJ_349_6) (sx_ite (p := fun l => sx_iOk prog_14_method_31_code l) (sx_iB_s aJ_349_7) (sx_iB_s aJ_349_8))))) (sx_ite (p := fun l => sx_iOk prog_14_method_31_code l) (sx_ite (p := fun l => sx_iOk prog_14_method_31_code l) (sx_ite (p := fun l => sx_iOk prog_14_method_31_code l) (sx_iB_s aJ_349_9) (sx_iB_s aJ_349_10)) (sx_ite (p := fun l => sx_iOk prog_14_method_31_code l) (sx_iB_s aJ_349_11) (sx_ite (p := fun l => sx_iOk prog_14_method_31_code l) (sx_iB_s aJ_349_12) (sx_iB_s aJ_349_13)))) (sx_ite (p := fun l => sx_iOk prog_14_method_31_code l) (sx_ite (p := fun l => sx_iOk prog_14_method_31_code l) (sx_iB_s aJ_349_14) (sx_iB_s aJ_349_15)) (sx_ite (p := fun l => sx_iOk prog_14_method_31_code l) (sx_iB_s aJ_349_16) (sx_ite (p := fun l => sx_iOk prog_14_method_31_code l) (sx_iB_s aJ_349_17) (sx_iB_s aJ_349_18))))))
def aU_349 (y pc : Nat) : Option (Instr × Nat) := if y = 349 then sx_iF (aS_349 pc) pc else none
set_option maxRecDepth 100000 in
theorem aV0_349 (y : Nat) : sx_P1 (aU_349 y) y := by
  intro pc r h mt hm
  unfold aU_349 at h
  split at h
  · rename_i hy
    subst hy
    have e : aM_349.1 = mt := Option.some.inj (show some aM_349.1 = some mt from hm)
    subst e
    exact sx_iF_s (aT_349 pc) h
  · cases h
def aS_350 (pc : Nat) : sx_IL := (if pc < 12 then aI_350_0 else (if pc < 24 then aI_350_1 else aI_350_2))
theorem aT_350 (pc : Nat) : sx_iOk prog_14_method_36_code (aS_350 pc) := (sx_ite (p := fun l => sx_iOk prog_14_method_36_code l) (sx_iB_s aJ_350_0) (sx_ite (p := fun l => sx_iOk prog_14_method_36_code l) (sx_iB_s aJ_350_1) (sx_iB_s aJ_350_2)))
def aU_350 (y pc : Nat) : Option (Instr × Nat) := if y = 350 then sx_iF (aS_350 pc) pc else none
set_option maxRecDepth 100000 in
theorem aV0_350 (y : Nat) : sx_P1 (aU_350 y) y := by
  intro pc r h mt hm
  unfold aU_350 at h
  split at h
  · rename_i hy
    subst hy
    have e : aM_350.1 = mt := Option.some.inj (show some aM_350.1 = some mt from hm)
    subst e
    exact sx_iF_s (aT_350 pc) h
  · cases h
def aS_351 (pc : Nat) : sx_IL := (if pc < 14 then aI_351_0 else aI_351_1)
theorem aT_351 (pc : Nat) : sx_iOk prog_14_method_34_code (aS_351 pc) := (sx_ite (p := fun l => sx_iOk prog_14_method_34_code l) (sx_iB_s aJ_351_0) (sx_iB_s aJ_351_1))
def aU_351 (y pc : Nat) : Option (Instr × Nat) := if y = 351 then sx_iF (aS_351 pc) pc else none
set_option maxRecDepth 100000 in
theorem aV0_351 (y : Nat) : sx_P1 (aU_351 y) y := by
  intro pc r h mt hm
  unfold aU_351 at h
  split at h
  · rename_i hy
    subst hy
    have e : aM_351.1 = mt := Option.some.inj (show some aM_351.1 = some mt from hm)
    subst e
    exact sx_iF_s (aT_351 pc) h
  · cases h
def aS_352 (pc : Nat) : sx_IL := (if pc < 12 then aI_352_0 else aI_352_1)
theorem aT_352 (pc : Nat) : sx_iOk prog_14_method_32_code (aS_352 pc) := (sx_ite (p := fun l => sx_iOk prog_14_method_32_code l) (sx_iB_s aJ_352_0) (sx_iB_s aJ_352_1))
def aU_352 (y pc : Nat) : Option (Instr × Nat) := if y = 352 then sx_iF (aS_352 pc) pc else none
set_option maxRecDepth 100000 in
theorem aV0_352 (y : Nat) : sx_P1 (aU_352 y) y := by
  intro pc r h mt hm
  unfold aU_352 at h
  split at h
  · rename_i hy
    subst hy
    have e : aM_352.1 = mt := Option.some.inj (show some aM_352.1 = some mt from hm)
    subst e
    exact sx_iF_s (aT_352 pc) h
  · cases h
def aS_353 (pc : Nat) : sx_IL := (if pc < 28 then (if pc < 12 then aI_353_0 else (if pc < 20 then aI_353_1 else aI_353_2)) else (if pc < 37 then aI_353_3 else (if pc < 49 then aI_353_4 else aI_353_5)))
theorem aT_353 (pc : Nat) : sx_iOk prog_14_method_33_code (aS_353 pc) := (sx_ite (p := fun l => sx_iOk prog_14_method_33_code l) (sx_ite (p := fun l => sx_iOk prog_14_method_33_code l) (sx_iB_s aJ_353_0) (sx_ite (p := fun l => sx_iOk prog_14_method_33_code l) (sx_iB_s aJ_353_1) (sx_iB_s aJ_353_2))) (sx_ite (p := fun l => sx_iOk prog_14_method_33_code l) (sx_iB_s aJ_353_3) (sx_ite (p := fun l => sx_iOk prog_14_method_33_code l) (sx_iB_s aJ_353_4) (sx_iB_s aJ_353_5))))
def aU_353 (y pc : Nat) : Option (Instr × Nat) := if y = 353 then sx_iF (aS_353 pc) pc else none
set_option maxRecDepth 100000 in
theorem aV0_353 (y : Nat) : sx_P1 (aU_353 y) y := by
  intro pc r h mt hm
  unfold aU_353 at h
  split at h
  · rename_i hy
    subst hy
    have e : aM_353.1 = mt := Option.some.inj (show some aM_353.1 = some mt from hm)
    subst e
    exact sx_iF_s (aT_353 pc) h
  · cases h
def aS_354 (pc : Nat) : sx_IL := (if pc < 12 then aI_354_0 else (if pc < 22 then aI_354_1 else aI_354_2))
theorem aT_354 (pc : Nat) : sx_iOk prog_14_method_37_code (aS_354 pc) := (sx_ite (p := fun l => sx_iOk prog_14_method_37_code l) (sx_iB_s aJ_354_0) (sx_ite (p := fun l => sx_iOk prog_14_method_37_code l) (sx_iB_s aJ_354_1) (sx_iB_s aJ_354_2)))
def aU_354 (y pc : Nat) : Option (Instr × Nat) := if y = 354 then sx_iF (aS_354 pc) pc else none
set_option maxRecDepth 100000 in
theorem aV0_354 (y : Nat) : sx_P1 (aU_354 y) y := by
  intro pc r h mt hm
  unfold aU_354 at h
  split at h
  · rename_i hy
    subst hy
    have e : aM_354.1 = mt := Option.some.inj (show some aM_354.1 = some mt from hm)
    subst e
    exact sx_iF_s (aT_354 pc) h
  · cases h
def aS_355 (pc : Nat) : sx_IL := (if pc < 26 then (if pc < 10 then aI_355_0 else (if pc < 20 then aI_355_1 else aI_355_2)) else (if pc < 38 then aI_355_3 else (if pc < 49 then aI_355_4 else aI_355_5)))
theorem aT_355 (pc : Nat) : sx_iOk prog_14_method_35_code (aS_355 pc) := (sx_ite (p := fun l => sx_iOk prog_14_method_35_code l) (sx_ite (p := fun l => sx_iOk prog_14_method_35_code l) (sx_iB_s aJ_355_0) (sx_ite (p := fun l => sx_iOk prog_14_method_35_code l) (sx_iB_s aJ_355_1) (sx_iB_s aJ_355_2))) (sx_ite (p := fun l => sx_iOk prog_14_method_35_code l) (sx_iB_s aJ_355_3) (sx_ite (p := fun l => sx_iOk prog_14_method_35_code l) (sx_iB_s aJ_355_4) (sx_iB_s aJ_355_5))))
def aU_355 (y pc : Nat) : Option (Instr × Nat) := if y = 355 then sx_iF (aS_355 pc) pc else none
set_option maxRecDepth 100000 in
theorem aV0_355 (y : Nat) : sx_P1 (aU_355 y) y := by
  intro pc r h mt hm
  unfold aU_355 at h
  split at h
  · rename_i hy
    subst hy
    have e : aM_355.1 = mt := Option.some.inj (show some aM_355.1 = some mt from hm)
    subst e
    exact sx_iF_s (aT_355 pc) h
  · cases h
def aS_356 (pc : Nat) : sx_IL := (if pc < 14 then aI_356_0 else aI_356_1)
theorem aT_356 (pc : Nat) : sx_iOk prog_14_method_40_code (aS_356 pc) := (sx_ite (p := fun l => sx_iOk prog_14_method_40_code l) (sx_iB_s aJ_356_0) (sx_iB_s aJ_356_1))
def aU_356 (y pc : Nat) : Option (Instr × Nat) := if y = 356 then sx_iF (aS_356 pc) pc else none
set_option maxRecDepth 100000 in
theorem aV0_356 (y : Nat) : sx_P1 (aU_356 y) y := by
  intro pc r h mt hm
  unfold aU_356 at h
  split at h
  · rename_i hy
    subst hy
    have e : aM_356.1 = mt := Option.some.inj (show some aM_356.1 = some mt from hm)
    subst e
    exact sx_iF_s (aT_356 pc) h
  · cases h
def aS_357 (pc : Nat) : sx_IL := aI_357_0
theorem aT_357 (pc : Nat) : sx_iOk prog_14_method_38_code (aS_357 pc) := (sx_iB_s aJ_357_0)
def aU_357 (y pc : Nat) : Option (Instr × Nat) := if y = 357 then sx_iF (aS_357 pc) pc else none
set_option maxRecDepth 100000 in
theorem aV0_357 (y : Nat) : sx_P1 (aU_357 y) y := by
  intro pc r h mt hm
  unfold aU_357 at h
  split at h
  · rename_i hy
    subst hy
    have e : aM_357.1 = mt := Option.some.inj (show some aM_357.1 = some mt from hm)
    subst e
    exact sx_iF_s (aT_357 pc) h
  · cases h
def aS_358 (pc : Nat) : sx_IL := aI_358_0
theorem aT_358 (pc : Nat) : sx_iOk prog_14_method_39_code (aS_358 pc) := (sx_iB_s aJ_358_0)
def aU_358 (y pc : Nat) : Option (Instr × Nat) := if y = 358 then sx_iF (aS_358 pc) pc else none
set_option maxRecDepth 100000 in
theorem aV0_358 (y : Nat) : sx_P1 (aU_358 y) y := by
  intro pc r h mt hm
  unfold aU_358 at h
  split at h
  · rename_i hy
    subst hy
    have e : aM_358.1 = mt := Option.some.inj (show some aM_358.1 = some mt from hm)
    subst e
    exact sx_iF_s (aT_358 pc) h
  · cases h
def aS_359 (pc : Nat) : sx_IL := (if pc < 24 then (if pc < 12 then aI_359_0 else aI_359_1) else (if pc < 32 then aI_359_2 else (if pc < 44 then aI_359_3 else aI_359_4)))
theorem aT_359 (pc : Nat) : sx_iOk prog_14_method_45_code (aS_359 pc) := (sx_ite (p := fun l => sx_iOk prog_14_method_45_code l) (sx_ite (p := fun l => sx_iOk prog_14_method_45_code l) (sx_iB_s aJ_359_0) (sx_iB_s aJ_359_1)) (sx_ite (p := fun l => sx_iOk prog_14_method_45_code l) (sx_iB_s aJ_359_2) (sx_ite (p := fun l => sx_iOk prog_14_method_45_code l) (sx_iB_s aJ_359_3) (sx_iB_s aJ_359_4))))
def aU_359 (y pc : Nat) : Option (Instr × Nat) := if y = 359 then sx_iF (aS_359 pc) pc else none
set_option maxRecDepth 100000 in
theorem aV0_359 (y : Nat) : sx_P1 (aU_359 y) y := by
  intro pc r h mt hm
  unfold aU_359 at h
  split at h
  · rename_i hy
    subst hy
    have e : aM_359.1 = mt := Option.some.inj (show some aM_359.1 = some mt from hm)
    subst e
    exact sx_iF_s (aT_359 pc) h
  · cases h
def aS_360 (pc : Nat) : sx_IL := (if pc < 52 then (if pc < 17 then (if pc < 8 then aI_360_0 else aI_360_1) else (if pc < 27 then aI_360_2 else (if pc < 41 then aI_360_3 else aI_360_4))) else (if pc < 74 then (if pc < 62 then aI_360_5 else aI_360_6) else (if pc < 81 then aI_360_7 else (if pc < 92 then aI_360_8 else aI_360_9))))
theorem aT_360 (pc : Nat) : sx_iOk prog_14_method_43_code (aS_360 pc) := (sx_ite (p := fun l => sx_iOk prog_14_method_43_code l) (sx_ite (p := fun l => sx_iOk prog_14_method_43_code l) (sx_ite (p := fun l => sx_iOk prog_14_method_43_code l) (sx_iB_s aJ_360_0) (sx_iB_s aJ_360_1)) (sx_ite (p := fun l => sx_iOk prog_14_method_43_code l) (sx_iB_s aJ_360_2) (sx_ite (p := fun l => sx_iOk prog_14_method_43_code l) (sx_iB_s aJ_360_3) (sx_iB_s aJ_360_4)))) (sx_ite (p := fun l => sx_iOk prog_14_method_43_code l) (sx_ite (p := fun l => sx_iOk prog_14_method_43_code l) (sx_iB_s aJ_360_5) (sx_iB_s aJ_360_6)) (sx_ite (p := fun l => sx_iOk prog_14_method_43_code l) (sx_iB_s aJ_360_7) (sx_ite (p := fun l => sx_iOk prog_14_method_43_code l) (sx_iB_s aJ_360_8) (sx_iB_s aJ_360_9)))))
def aU_360 (y pc : Nat) : Option (Instr × Nat) := if y = 360 then sx_iF (aS_360 pc) pc else none
set_option maxRecDepth 100000 in
theorem aV0_360 (y : Nat) : sx_P1 (aU_360 y) y := by
  intro pc r h mt hm
  unfold aU_360 at h
  split at h
  · rename_i hy
    subst hy
    have e : aM_360.1 = mt := Option.some.inj (show some aM_360.1 = some mt from hm)
    subst e
    exact sx_iF_s (aT_360 pc) h
  · cases h
def aS_361 (pc : Nat) : sx_IL := (if pc < 9 then aI_361_0 else aI_361_1)
theorem aT_361 (pc : Nat) : sx_iOk prog_14_method_41_code (aS_361 pc) := (sx_ite (p := fun l => sx_iOk prog_14_method_41_code l) (sx_iB_s aJ_361_0) (sx_iB_s aJ_361_1))
def aU_361 (y pc : Nat) : Option (Instr × Nat) := if y = 361 then sx_iF (aS_361 pc) pc else none
set_option maxRecDepth 100000 in
theorem aV0_361 (y : Nat) : sx_P1 (aU_361 y) y := by
  intro pc r h mt hm
  unfold aU_361 at h
  split at h
  · rename_i hy
    subst hy
    have e : aM_361.1 = mt := Option.some.inj (show some aM_361.1 = some mt from hm)
    subst e
    exact sx_iF_s (aT_361 pc) h
  · cases h
def aS_362 (pc : Nat) : sx_IL := (if pc < 20 then (if pc < 10 then aI_362_0 else aI_362_1) else (if pc < 35 then aI_362_2 else aI_362_3))
theorem aT_362 (pc : Nat) : sx_iOk prog_14_method_42_code (aS_362 pc) := (sx_ite (p := fun l => sx_iOk prog_14_method_42_code l) (sx_ite (p := fun l => sx_iOk prog_14_method_42_code l) (sx_iB_s aJ_362_0) (sx_iB_s aJ_362_1)) (sx_ite (p := fun l => sx_iOk prog_14_method_42_code l) (sx_iB_s aJ_362_2) (sx_iB_s aJ_362_3)))
def aU_362 (y pc : Nat) : Option (Instr × Nat) := if y = 362 then sx_iF (aS_362 pc) pc else none
set_option maxRecDepth 100000 in
theorem aV0_362 (y : Nat) : sx_P1 (aU_362 y) y := by
  intro pc r h mt hm
  unfold aU_362 at h
  split at h
  · rename_i hy
    subst hy
    have e : aM_362.1 = mt := Option.some.inj (show some aM_362.1 = some mt from hm)
    subst e
    exact sx_iF_s (aT_362 pc) h
  · cases h
def aS_363 (pc : Nat) : sx_IL := (if pc < 18 then (if pc < 12 then aI_363_0 else aI_363_1) else (if pc < 30 then aI_363_2 else (if pc < 42 then aI_363_3 else aI_363_4)))
theorem aT_363 (pc : Nat) : sx_iOk prog_14_method_46_code (aS_363 pc) := (sx_ite (p := fun l => sx_iOk prog_14_method_46_code l) (sx_ite (p := fun l => sx_iOk prog_14_method_46_code l) (sx_iB_s aJ_363_0) (sx_iB_s aJ_363_1)) (sx_ite (p := fun l => sx_iOk prog_14_method_46_code l) (sx_iB_s aJ_363_2) (sx_ite (p := fun l => sx_iOk prog_14_method_46_code l) (sx_iB_s aJ_363_3) (sx_iB_s aJ_363_4))))
def aU_363 (y pc : Nat) : Option (Instr × Nat) := if y = 363 then sx_iF (aS_363 pc) pc else none
set_option maxRecDepth 100000 in
theorem aV0_363 (y : Nat) : sx_P1 (aU_363 y) y := by
  intro pc r h mt hm
  unfold aU_363 at h
  split at h
  · rename_i hy
    subst hy
    have e : aM_363.1 = mt := Option.some.inj (show some aM_363.1 = some mt from hm)
    subst e
    exact sx_iF_s (aT_363 pc) h
  · cases h
def aS_364 (pc : Nat) : sx_IL := (if pc < 71 then (if pc < 33 then (if pc < 8 then aI_364_0 else (if pc < 19 then aI_364_1 else aI_364_2)) else (if pc < 44 then aI_364_3 else (if pc < 57 then aI_364_4 else aI_364_5))) else (if pc < 104 then (if pc < 82 then aI_364_6 else (if pc < 95 then aI_364_7 else aI_364_8)) else (if pc < 112 then aI_364_9 else (if pc < 125 then aI_364_10 else aI_364_11))))
theorem aT_364 (pc : Nat) : sx_iOk prog_14_method_44_code (aS_364 pc) := (sx_ite (p := fun l => sx_iOk prog_14_method_44_code l) (sx_ite (p := fun l => sx_iOk prog_14_method_44_code l) (sx_ite (p := fun l => sx_iOk prog_14_method_44_code l) (sx_iB_s aJ_364_0) (sx_ite (p := fun l => sx_iOk prog_14_method_44_code l) (sx_iB_s aJ_364_1) (sx_iB_s aJ_364_2))) (sx_ite (p := fun l => sx_iOk prog_14_method_44_code l) (sx_iB_s aJ_364_3) (sx_ite (p := fun l => sx_iOk prog_14_method_44_code l) (sx_iB_s aJ_364_4) (sx_iB_s aJ_364_5)))) (sx_ite (p := fun l => sx_iOk prog_14_method_44_code l) (sx_ite (p := fun l => sx_iOk prog_14_method_44_code l) (sx_iB_s aJ_364_6) (sx_ite (p := fun l => sx_iOk prog_14_method_44_code l) (sx_iB_s aJ_364_7) (sx_iB_s aJ_364_8))) (sx_ite (p := fun l => sx_iOk prog_14_method_44_code l) (sx_iB_s aJ_364_9) (sx_ite (p := fun l => sx_iOk prog_14_method_44_code l) (sx_iB_s aJ_364_10) (sx_iB_s aJ_364_11)))))
def aU_364 (y pc : Nat) : Option (Instr × Nat) := if y = 364 then sx_iF (aS_364 pc) pc else none
set_option maxRecDepth 100000 in
theorem aV0_364 (y : Nat) : sx_P1 (aU_364 y) y := by
  intro pc r h mt hm
  unfold aU_364 at h
  split at h
  · rename_i hy
    subst hy
    have e : aM_364.1 = mt := Option.some.inj (show some aM_364.1 = some mt from hm)
    subst e
    exact sx_iF_s (aT_364 pc) h
  · cases h
def aS_365 (pc : Nat) : sx_IL := (if pc < 11 then aI_365_0 else (if pc < 21 then aI_365_1 else aI_365_2))
theorem aT_365 (pc : Nat) : sx_iOk prog_14_method_49_code (aS_365 pc) := (sx_ite (p := fun l => sx_iOk prog_14_method_49_code l) (sx_iB_s aJ_365_0) (sx_ite (p := fun l => sx_iOk prog_14_method_49_code l) (sx_iB_s aJ_365_1) (sx_iB_s aJ_365_2)))
def aU_365 (y pc : Nat) : Option (Instr × Nat) := if y = 365 then sx_iF (aS_365 pc) pc else none
set_option maxRecDepth 100000 in
theorem aV0_365 (y : Nat) : sx_P1 (aU_365 y) y := by
  intro pc r h mt hm
  unfold aU_365 at h
  split at h
  · rename_i hy
    subst hy
    have e : aM_365.1 = mt := Option.some.inj (show some aM_365.1 = some mt from hm)
    subst e
    exact sx_iF_s (aT_365 pc) h
  · cases h
def aS_366 (pc : Nat) : sx_IL := (if pc < 39 then (if pc < 18 then (if pc < 8 then aI_366_0 else aI_366_1) else (if pc < 29 then aI_366_2 else aI_366_3)) else (if pc < 55 then (if pc < 47 then aI_366_4 else aI_366_5) else (if pc < 63 then aI_366_6 else aI_366_7)))
theorem aT_366 (pc : Nat) : sx_iOk prog_14_method_50_code (aS_366 pc) := (sx_ite (p := fun l => sx_iOk prog_14_method_50_code l) (sx_ite (p := fun l => sx_iOk prog_14_method_50_code l) (sx_ite (p := fun l => sx_iOk prog_14_method_50_code l) (sx_iB_s aJ_366_0) (sx_iB_s aJ_366_1)) (sx_ite (p := fun l => sx_iOk prog_14_method_50_code l) (sx_iB_s aJ_366_2) (sx_iB_s aJ_366_3))) (sx_ite (p := fun l => sx_iOk prog_14_method_50_code l) (sx_ite (p := fun l => sx_iOk prog_14_method_50_code l) (sx_iB_s aJ_366_4) (sx_iB_s aJ_366_5)) (sx_ite (p := fun l => sx_iOk prog_14_method_50_code l) (sx_iB_s aJ_366_6) (sx_iB_s aJ_366_7))))
def aU_366 (y pc : Nat) : Option (Instr × Nat) := if y = 366 then sx_iF (aS_366 pc) pc else none
set_option maxRecDepth 100000 in
theorem aV0_366 (y : Nat) : sx_P1 (aU_366 y) y := by
  intro pc r h mt hm
  unfold aU_366 at h
  split at h
  · rename_i hy
    subst hy
    have e : aM_366.1 = mt := Option.some.inj (show some aM_366.1 = some mt from hm)
    subst e
    exact sx_iF_s (aT_366 pc) h
  · cases h
def aS_367 (pc : Nat) : sx_IL := (if pc < 18 then (if pc < 8 then aI_367_0 else aI_367_1) else (if pc < 26 then aI_367_2 else (if pc < 36 then aI_367_3 else aI_367_4)))
theorem aT_367 (pc : Nat) : sx_iOk prog_14_method_53_code (aS_367 pc) := (sx_ite (p := fun l => sx_iOk prog_14_method_53_code l) (sx_ite (p := fun l => sx_iOk prog_14_method_53_code l) (sx_iB_s aJ_367_0) (sx_iB_s aJ_367_1)) (sx_ite (p := fun l => sx_iOk prog_14_method_53_code l) (sx_iB_s aJ_367_2) (sx_ite (p := fun l => sx_iOk prog_14_method_53_code l) (sx_iB_s aJ_367_3) (sx_iB_s aJ_367_4))))
def aU_367 (y pc : Nat) : Option (Instr × Nat) := if y = 367 then sx_iF (aS_367 pc) pc else none
set_option maxRecDepth 100000 in
theorem aV0_367 (y : Nat) : sx_P1 (aU_367 y) y := by
  intro pc r h mt hm
  unfold aU_367 at h
  split at h
  · rename_i hy
    subst hy
    have e : aM_367.1 = mt := Option.some.inj (show some aM_367.1 = some mt from hm)
    subst e
    exact sx_iF_s (aT_367 pc) h
  · cases h
def aS_368 (pc : Nat) : sx_IL := (if pc < 99 then (if pc < 50 then (if pc < 20 then (if pc < 10 then aI_368_0 else aI_368_1) else (if pc < 32 then aI_368_2 else (if pc < 41 then aI_368_3 else aI_368_4))) else (if pc < 72 then (if pc < 59 then aI_368_5 else aI_368_6) else (if pc < 81 then aI_368_7 else (if pc < 90 then aI_368_8 else aI_368_9)))) else (if pc < 151 then (if pc < 119 then (if pc < 108 then aI_368_10 else aI_368_11) else (if pc < 128 then aI_368_12 else (if pc < 136 then aI_368_13 else aI_368_14))) else (if pc < 169 then (if pc < 160 then aI_368_15 else aI_368_16) else (if pc < 178 then aI_368_17 else (if pc < 192 then aI_368_18 else aI_368_19)))))
theorem aT_368 (pc : Nat) : sx_iOk prog_14_method_51_code (aS_368 pc) := (sx_ite (p := fun l => sx_iOk prog_14_method_51_code l) (sx_ite (p := fun l => sx_iOk prog_14_method_51_code l) (sx_ite (p := fun l => sx_iOk prog_14_method_51_code l) (sx_ite (p := fun l => sx_iOk prog_14_method_51_code l) (sx_iB_s aJ_368_0) (sx_iB_s aJ_368_1)) (sx_ite (p := fun l => sx_iOk prog_14_method_51_code l) (sx_iB_s aJ_368_2) (sx_ite (p := fun l => sx_iOk prog_14_method_51_code l) (sx_iB_s aJ_368_3) (sx_iB_s aJ_368_4)))) (sx_ite (p := fun l => sx_iOk prog_14_method_51_code l) (sx_ite (p := fun l => sx_iOk prog_14_method_51_code l) (sx_iB_s aJ_368_5) (sx_iB_s aJ_368_6)) (sx_ite (p := fun l => sx_iOk prog_14_method_51_code l) (sx_iB_s aJ_368_7) (sx_ite (p := fun l => sx_iOk prog_14_method_51_code l) (sx_iB_s aJ_368_8) (sx_iB_s aJ_368_9))))) (sx_ite (p := fun l => sx_iOk prog_14_method_51_code l) (sx_ite (p := fun l => sx_iOk prog_14_method_51_code l) (sx_ite (p := fun l => sx_iOk prog_14_method_51_code l) (sx_iB_s aJ_368_10) (sx_iB_s aJ_368_11)) (sx_ite (p := fun l => sx_iOk prog_14_method_51_code l) (sx_iB_s aJ_368_12) (sx_ite (p := fun l => sx_iOk prog_14_method_51_code l) (sx_iB_s aJ_368_13) (sx_iB_s aJ_368_14)))) (sx_ite (p := fun l => sx_iOk prog_14_method_51_code l) (sx_ite (p := fun l => sx_iOk prog_14_method_51_code l) (sx_iB_s aJ_368_15) (sx_iB_s aJ_368_16)) (sx_ite (p := fun l => sx_iOk prog_14_method_51_code l) (sx_iB_s aJ_368_17) (sx_ite (p := fun l => sx_iOk prog_14_method_51_code l) (sx_iB_s aJ_368_18) (sx_iB_s aJ_368_19))))))
def aU_368 (y pc : Nat) : Option (Instr × Nat) := if y = 368 then sx_iF (aS_368 pc) pc else none
set_option maxRecDepth 100000 in
theorem aV0_368 (y : Nat) : sx_P1 (aU_368 y) y := by
  intro pc r h mt hm
  unfold aU_368 at h
  split at h
  · rename_i hy
    subst hy
    have e : aM_368.1 = mt := Option.some.inj (show some aM_368.1 = some mt from hm)
    subst e
    exact sx_iF_s (aT_368 pc) h
  · cases h
def aS_369 (pc : Nat) : sx_IL := (if pc < 10 then aI_369_0 else aI_369_1)
theorem aT_369 (pc : Nat) : sx_iOk prog_14_method_47_code (aS_369 pc) := (sx_ite (p := fun l => sx_iOk prog_14_method_47_code l) (sx_iB_s aJ_369_0) (sx_iB_s aJ_369_1))
def aU_369 (y pc : Nat) : Option (Instr × Nat) := if y = 369 then sx_iF (aS_369 pc) pc else none
set_option maxRecDepth 100000 in
theorem aV0_369 (y : Nat) : sx_P1 (aU_369 y) y := by
  intro pc r h mt hm
  unfold aU_369 at h
  split at h
  · rename_i hy
    subst hy
    have e : aM_369.1 = mt := Option.some.inj (show some aM_369.1 = some mt from hm)
    subst e
    exact sx_iF_s (aT_369 pc) h
  · cases h
def aS_370 (pc : Nat) : sx_IL := (if pc < 10 then aI_370_0 else (if pc < 20 then aI_370_1 else aI_370_2))
theorem aT_370 (pc : Nat) : sx_iOk prog_14_method_48_code (aS_370 pc) := (sx_ite (p := fun l => sx_iOk prog_14_method_48_code l) (sx_iB_s aJ_370_0) (sx_ite (p := fun l => sx_iOk prog_14_method_48_code l) (sx_iB_s aJ_370_1) (sx_iB_s aJ_370_2)))
def aU_370 (y pc : Nat) : Option (Instr × Nat) := if y = 370 then sx_iF (aS_370 pc) pc else none
set_option maxRecDepth 100000 in
theorem aV0_370 (y : Nat) : sx_P1 (aU_370 y) y := by
  intro pc r h mt hm
  unfold aU_370 at h
  split at h
  · rename_i hy
    subst hy
    have e : aM_370.1 = mt := Option.some.inj (show some aM_370.1 = some mt from hm)
    subst e
    exact sx_iF_s (aT_370 pc) h
  · cases h
def aS_371 (pc : Nat) : sx_IL := (if pc < 77 then (if pc < 36 then (if pc < 18 then (if pc < 8 then aI_371_0 else aI_371_1) else (if pc < 26 then aI_371_2 else aI_371_3)) else (if pc < 55 then (if pc < 46 then aI_371_4 else aI_371_5) else (if pc < 66 then aI_371_6 else aI_371_7))) else (if pc < 122 then (if pc < 101 then (if pc < 88 then aI_371_8 else aI_371_9) else (if pc < 111 then aI_371_10 else aI_371_11)) else (if pc < 145 then (if pc < 133 then aI_371_12 else aI_371_13) else (if pc < 157 then aI_371_14 else (if pc < 170 then aI_371_15 else aI_371_16)))))
theorem aT_371 (pc : Nat) : sx_iOk prog_14_method_55_code (aS_371 pc) := (sx_ite (p := fun l => sx_iOk prog_14_method_55_code l) (sx_ite (p := fun l => sx_iOk prog_14_method_55_code l) (sx_ite (p := fun l => sx_iOk prog_14_method_55_code l) (sx_ite (p := fun l => sx_iOk prog_14_method_55_code l) (sx_iB_s aJ_371_0) (sx_iB_s aJ_371_1)) (sx_ite (p := fun l => sx_iOk prog_14_method_55_code l) (sx_iB_s aJ_371_2) (sx_iB_s aJ_371_3))) (sx_ite (p := fun l => sx_iOk prog_14_method_55_code l) (sx_ite (p := fun l => sx_iOk prog_14_method_55_code l) (sx_iB_s aJ_371_4) (sx_iB_s aJ_371_5)) (sx_ite (p := fun l => sx_iOk prog_14_method_55_code l) (sx_iB_s aJ_371_6) (sx_iB_s aJ_371_7)))) (sx_ite (p := fun l => sx_iOk prog_14_method_55_code l) (sx_ite (p := fun l => sx_iOk prog_14_method_55_code l) (sx_ite (p := fun l => sx_iOk prog_14_method_55_code l) (sx_iB_s aJ_371_8) (sx_iB_s aJ_371_9)) (sx_ite (p := fun l => sx_iOk prog_14_method_55_code l) (sx_iB_s aJ_371_10) (sx_iB_s aJ_371_11))) (sx_ite (p := fun l => sx_iOk prog_14_method_55_code l) (sx_ite (p := fun l => sx_iOk prog_14_method_55_code l) (sx_iB_s aJ_371_12) (sx_iB_s aJ_371_13)) (sx_ite (p := fun l => sx_iOk prog_14_method_55_code l) (sx_iB_s aJ_371_14) (sx_ite (p := fun l => sx_iOk prog_14_method_55_code l) (sx_iB_s aJ_371_15) (sx_iB_s aJ_371_16))))))
def aU_371 (y pc : Nat) : Option (Instr × Nat) := if y = 371 then sx_iF (aS_371 pc) pc else none
set_option maxRecDepth 100000 in
theorem aV0_371 (y : Nat) : sx_P1 (aU_371 y) y := by
  intro pc r h mt hm
  unfold aU_371 at h
  split at h
  · rename_i hy
    subst hy
    have e : aM_371.1 = mt := Option.some.inj (show some aM_371.1 = some mt from hm)
    subst e
    exact sx_iF_s (aT_371 pc) h
  · cases h
def aS_372 (pc : Nat) : sx_IL := (if pc < 6 then aI_372_0 else (if pc < 16 then aI_372_1 else aI_372_2))
theorem aT_372 (pc : Nat) : sx_iOk prog_14_method_52_code (aS_372 pc) := (sx_ite (p := fun l => sx_iOk prog_14_method_52_code l) (sx_iB_s aJ_372_0) (sx_ite (p := fun l => sx_iOk prog_14_method_52_code l) (sx_iB_s aJ_372_1) (sx_iB_s aJ_372_2)))
def aU_372 (y pc : Nat) : Option (Instr × Nat) := if y = 372 then sx_iF (aS_372 pc) pc else none
set_option maxRecDepth 100000 in
theorem aV0_372 (y : Nat) : sx_P1 (aU_372 y) y := by
  intro pc r h mt hm
  unfold aU_372 at h
  split at h
  · rename_i hy
    subst hy
    have e : aM_372.1 = mt := Option.some.inj (show some aM_372.1 = some mt from hm)
    subst e
    exact sx_iF_s (aT_372 pc) h
  · cases h
def aS_373 (pc : Nat) : sx_IL := (if pc < 29 then (if pc < 10 then aI_373_0 else (if pc < 18 then aI_373_1 else aI_373_2)) else (if pc < 49 then (if pc < 39 then aI_373_3 else aI_373_4) else (if pc < 65 then aI_373_5 else aI_373_6)))
theorem aT_373 (pc : Nat) : sx_iOk prog_14_method_54_code (aS_373 pc) := (sx_ite (p := fun l => sx_iOk prog_14_method_54_code l) (sx_ite (p := fun l => sx_iOk prog_14_method_54_code l) (sx_iB_s aJ_373_0) (sx_ite (p := fun l => sx_iOk prog_14_method_54_code l) (sx_iB_s aJ_373_1) (sx_iB_s aJ_373_2))) (sx_ite (p := fun l => sx_iOk prog_14_method_54_code l) (sx_ite (p := fun l => sx_iOk prog_14_method_54_code l) (sx_iB_s aJ_373_3) (sx_iB_s aJ_373_4)) (sx_ite (p := fun l => sx_iOk prog_14_method_54_code l) (sx_iB_s aJ_373_5) (sx_iB_s aJ_373_6))))
def aU_373 (y pc : Nat) : Option (Instr × Nat) := if y = 373 then sx_iF (aS_373 pc) pc else none
set_option maxRecDepth 100000 in
theorem aV0_373 (y : Nat) : sx_P1 (aU_373 y) y := by
  intro pc r h mt hm
  unfold aU_373 at h
  split at h
  · rename_i hy
    subst hy
    have e : aM_373.1 = mt := Option.some.inj (show some aM_373.1 = some mt from hm)
    subst e
    exact sx_iF_s (aT_373 pc) h
  · cases h
def aS_374 (pc : Nat) : sx_IL := (if pc < 114 then (if pc < 46 then (if pc < 18 then (if pc < 8 then aI_374_0 else aI_374_1) else (if pc < 26 then aI_374_2 else (if pc < 36 then aI_374_3 else aI_374_4))) else (if pc < 80 then (if pc < 56 then aI_374_5 else (if pc < 66 then aI_374_6 else aI_374_7)) else (if pc < 91 then aI_374_8 else (if pc < 104 then aI_374_9 else aI_374_10)))) else (if pc < 187 then (if pc < 148 then (if pc < 125 then aI_374_11 else (if pc < 136 then aI_374_12 else aI_374_13)) else (if pc < 160 then aI_374_14 else (if pc < 173 then aI_374_15 else aI_374_16))) else (if pc < 225 then (if pc < 199 then aI_374_17 else (if pc < 212 then aI_374_18 else aI_374_19)) else (if pc < 235 then aI_374_20 else (if pc < 245 then aI_374_21 else aI_374_22)))))
theorem aT_374 (pc : Nat) : sx_iOk prog_14_method_56_code (aS_374 pc) := (sx_ite (p := fun l => sx_iOk prog_14_method_56_code l) (sx_ite (p := fun l => sx_iOk prog_14_method_56_code l) (sx_ite (p := fun l => sx_iOk prog_14_method_56_code l) (sx_ite (p := fun l => sx_iOk prog_14_method_56_code l) (sx_iB_s aJ_374_0) (sx_iB_s aJ_374_1)) (sx_ite (p := fun l => sx_iOk prog_14_method_56_code l) (sx_iB_s aJ_374_2) (sx_ite (p := fun l => sx_iOk prog_14_method_56_code l) (sx_iB_s aJ_374_3) (sx_iB_s aJ_374_4)))) (sx_ite (p := fun l => sx_iOk prog_14_method_56_code l) (sx_ite (p := fun l => sx_iOk prog_14_method_56_code l) (sx_iB_s aJ_374_5) (sx_ite (p := fun l => sx_iOk prog_14_method_56_code l) (sx_iB_s aJ_374_6) (sx_iB_s aJ_374_7))) (sx_ite (p := fun l => sx_iOk prog_14_method_56_code l) (sx_iB_s aJ_374_8) (sx_ite (p := fun l => sx_iOk prog_14_method_56_code l) (sx_iB_s aJ_374_9) (sx_iB_s aJ_374_10))))) (sx_ite (p := fun l => sx_iOk prog_14_method_56_code l) (sx_ite (p := fun l => sx_iOk prog_14_method_56_code l) (sx_ite (p := fun l => sx_iOk prog_14_method_56_code l) (sx_iB_s aJ_374_11) (sx_ite (p := fun l => sx_iOk prog_14_method_56_code l) (sx_iB_s aJ_374_12) (sx_iB_s aJ_374_13))) (sx_ite (p := fun l => sx_iOk prog_14_method_56_code l) (sx_iB_s aJ_374_14) (sx_ite (p := fun l => sx_iOk prog_14_method_56_code l) (sx_iB_s aJ_374_15) (sx_iB_s aJ_374_16)))) (sx_ite (p := fun l => sx_iOk prog_14_method_56_code l) (sx_ite (p := fun l => sx_iOk prog_14_method_56_code l) (sx_iB_s aJ_374_17) (sx_ite (p := fun l => sx_iOk prog_14_method_56_code l) (sx_iB_s aJ_374_18) (sx_iB_s aJ_374_19))) (sx_ite (p := fun l => sx_iOk prog_14_method_56_code l) (sx_iB_s aJ_374_20) (sx_ite (p := fun l => sx_iOk prog_14_method_56_code l) (sx_iB_s aJ_374_21) (sx_iB_s aJ_374_22))))))
def aU_374 (y pc : Nat) : Option (Instr × Nat) := if y = 374 then sx_iF (aS_374 pc) pc else none
set_option maxRecDepth 100000 in
theorem aV0_374 (y : Nat) : sx_P1 (aU_374 y) y := by
  intro pc r h mt hm
  unfold aU_374 at h
  split at h
  · rename_i hy
    subst hy
    have e : aM_374.1 = mt := Option.some.inj (show some aM_374.1 = some mt from hm)
    subst e
    exact sx_iF_s (aT_374 pc) h
  · cases h
def aS_375 (pc : Nat) : sx_IL := (if pc < 101 then (if pc < 41 then (if pc < 20 then (if pc < 13 then aI_375_0 else aI_375_1) else (if pc < 30 then aI_375_2 else aI_375_3)) else (if pc < 64 then (if pc < 52 then aI_375_4 else aI_375_5) else (if pc < 77 then aI_375_6 else (if pc < 89 then aI_375_7 else aI_375_8)))) else (if pc < 161 then (if pc < 128 then (if pc < 115 then aI_375_9 else aI_375_10) else (if pc < 138 then aI_375_11 else (if pc < 148 then aI_375_12 else aI_375_13))) else (if pc < 181 then (if pc < 171 then aI_375_14 else aI_375_15) else (if pc < 194 then aI_375_16 else (if pc < 209 then aI_375_17 else aI_375_18)))))
theorem aT_375 (pc : Nat) : sx_iOk prog_14_method_58_code (aS_375 pc) := (sx_ite (p := fun l => sx_iOk prog_14_method_58_code l) (sx_ite (p := fun l => sx_iOk prog_14_method_58_code l) (sx_ite (p := fun l => sx_iOk prog_14_method_58_code l) (sx_ite (p := fun l => sx_iOk prog_14_method_58_code l) (sx_iB_s aJ_375_0) (sx_iB_s aJ_375_1)) (sx_ite (p := fun l => sx_iOk prog_14_method_58_code l) (sx_iB_s aJ_375_2) (sx_iB_s aJ_375_3))) (sx_ite (p := fun l => sx_iOk prog_14_method_58_code l) (sx_ite (p := fun l => sx_iOk prog_14_method_58_code l) (sx_iB_s aJ_375_4) (sx_iB_s aJ_375_5)) (sx_ite (p := fun l => sx_iOk prog_14_method_58_code l) (sx_iB_s aJ_375_6) (sx_ite (p := fun l => sx_iOk prog_14_method_58_code l) (sx_iB_s aJ_375_7) (sx_iB_s aJ_375_8))))) (sx_ite (p := fun l => sx_iOk prog_14_method_58_code l) (sx_ite (p := fun l => sx_iOk prog_14_method_58_code l) (sx_ite (p := fun l => sx_iOk prog_14_method_58_code l) (sx_iB_s aJ_375_9) (sx_iB_s aJ_375_10)) (sx_ite (p := fun l => sx_iOk prog_14_method_58_code l) (sx_iB_s aJ_375_11) (sx_ite (p := fun l => sx_iOk prog_14_method_58_code l) (sx_iB_s aJ_375_12) (sx_iB_s aJ_375_13)))) (sx_ite (p := fun l => sx_iOk prog_14_method_58_code l) (sx_ite (p := fun l => sx_iOk prog_14_method_58_code l) (sx_iB_s aJ_375_14) (sx_iB_s aJ_375_15)) (sx_ite (p := fun l => sx_iOk prog_14_method_58_code l) (sx_iB_s aJ_375_16) (sx_ite (p := fun l => sx_iOk prog_14_method_58_code l) (sx_iB_s aJ_375_17) (sx_iB_s aJ_375_18))))))
def aU_375 (y pc : Nat) : Option (Instr × Nat) := if y = 375 then sx_iF (aS_375 pc) pc else none
set_option maxRecDepth 100000 in
theorem aV0_375 (y : Nat) : sx_P1 (aU_375 y) y := by
  intro pc r h mt hm
  unfold aU_375 at h
  split at h
  · rename_i hy
    subst hy
    have e : aM_375.1 = mt := Option.some.inj (show some aM_375.1 = some mt from hm)
    subst e
    exact sx_iF_s (aT_375 pc) h
  · cases h
def aS_376 (pc : Nat) : sx_IL := (if pc < 20 then (if pc < 9 then aI_376_0 else aI_376_1) else (if pc < 28 then aI_376_2 else (if pc < 38 then aI_376_3 else aI_376_4)))
theorem aT_376 (pc : Nat) : sx_iOk prog_14_method_57_code (aS_376 pc) := (sx_ite (p := fun l => sx_iOk prog_14_method_57_code l) (sx_ite (p := fun l => sx_iOk prog_14_method_57_code l) (sx_iB_s aJ_376_0) (sx_iB_s aJ_376_1)) (sx_ite (p := fun l => sx_iOk prog_14_method_57_code l) (sx_iB_s aJ_376_2) (sx_ite (p := fun l => sx_iOk prog_14_method_57_code l) (sx_iB_s aJ_376_3) (sx_iB_s aJ_376_4))))
def aU_376 (y pc : Nat) : Option (Instr × Nat) := if y = 376 then sx_iF (aS_376 pc) pc else none
set_option maxRecDepth 100000 in
theorem aV0_376 (y : Nat) : sx_P1 (aU_376 y) y := by
  intro pc r h mt hm
  unfold aU_376 at h
  split at h
  · rename_i hy
    subst hy
    have e : aM_376.1 = mt := Option.some.inj (show some aM_376.1 = some mt from hm)
    subst e
    exact sx_iF_s (aT_376 pc) h
  · cases h
def aS_377 (pc : Nat) : sx_IL := (if pc < 153 then (if pc < 63 then (if pc < 31 then (if pc < 12 then aI_377_0 else (if pc < 20 then aI_377_1 else aI_377_2)) else (if pc < 40 then aI_377_3 else (if pc < 50 then aI_377_4 else aI_377_5))) else (if pc < 100 then (if pc < 76 then aI_377_6 else (if pc < 88 then aI_377_7 else aI_377_8)) else (if pc < 126 then (if pc < 114 then aI_377_9 else aI_377_10) else (if pc < 138 then aI_377_11 else aI_377_12)))) else (if pc < 219 then (if pc < 185 then (if pc < 164 then aI_377_13 else (if pc < 173 then aI_377_14 else aI_377_15)) else (if pc < 196 then aI_377_16 else (if pc < 207 then aI_377_17 else aI_377_18))) else (if pc < 254 then (if pc < 228 then aI_377_19 else (if pc < 241 then aI_377_20 else aI_377_21)) else (if pc < 281 then (if pc < 267 then aI_377_22 else aI_377_23) else (if pc < 293 then aI_377_24 else aI_377_25)))))
theorem aT_377 (pc : Nat) : sx_iOk prog_14_method_59_code (aS_377 pc) := (sx_ite (p := fun l => sx_iOk prog_14_method_59_code l) (sx_ite (p := fun l => sx_iOk prog_14_method_59_code l) (sx_ite (p := fun l => sx_iOk prog_14_method_59_code l) (sx_ite (p := fun l => sx_iOk prog_14_method_59_code l) (sx_iB_s aJ_377_0) (sx_ite (p := fun l => sx_iOk prog_14_method_59_code l) (sx_iB_s aJ_377_1) (sx_iB_s aJ_377_2))) (sx_ite (p := fun l => sx_iOk prog_14_method_59_code l) (sx_iB_s aJ_377_3) (sx_ite (p := fun l => sx_iOk prog_14_method_59_code l) (sx_iB_s aJ_377_4) (sx_iB_s aJ_377_5)))) (sx_ite (p := fun l => sx_iOk prog_14_method_59_code l) (sx_ite (p := fun l => sx_iOk prog_14_method_59_code l) (sx_iB_s aJ_377_6) (sx_ite (p := fun l => sx_iOk prog_14_method_59_code l) (sx_iB_s aJ_377_7) (sx_iB_s aJ_377_8))) (sx_ite (p := fun l => sx_iOk prog_14_method_59_code l) (sx_ite (p := fun l => sx_iOk prog_14_method_59_code l) (sx_iB_s aJ_377_9) (sx_iB_s aJ_377_10)) (sx_ite (p := fun l => sx_iOk prog_14_method_59_code l) (sx_iB_s aJ_377_11) (sx_iB_s aJ_377_12))))) (sx_ite (p := fun l => sx_iOk prog_14_method_59_code l) (sx_ite (p := fun l => sx_iOk prog_14_method_59_code l) (sx_ite (p := fun l => sx_iOk prog_14_method_59_code l) (sx_iB_s aJ_377_13) (sx_ite (p := fun l => sx_iOk prog_14_method_59_code l) (sx_iB_s aJ_377_14) (sx_iB_s aJ_377_15))) (sx_ite (p := fun l => sx_iOk prog_14_method_59_code l) (sx_iB_s aJ_377_16) (sx_ite (p := fun l => sx_iOk prog_14_method_59_code l) (sx_iB_s aJ_377_17) (sx_iB_s aJ_377_18)))) (sx_ite (p := fun l => sx_iOk prog_14_method_59_code l) (sx_ite (p := fun l => sx_iOk prog_14_method_59_code l) (sx_iB_s aJ_377_19) (sx_ite (p := fun l => sx_iOk prog_14_method_59_code l) (sx_iB_s aJ_377_20) (sx_iB_s aJ_377_21))) (sx_ite (p := fun l => sx_iOk prog_14_method_59_code l) (sx_ite (p := fun l => sx_iOk prog_14_method_59_code l) (sx_iB_s aJ_377_22) (sx_iB_s aJ_377_23)) (sx_ite (p := fun l => sx_iOk prog_14_method_59_code l) (sx_iB_s aJ_377_24) (sx_iB_s aJ_377_25))))))
def aU_377 (y pc : Nat) : Option (Instr × Nat) := if y = 377 then sx_iF (aS_377 pc) pc else none
set_option maxRecDepth 100000 in
theorem aV0_377 (y : Nat) : sx_P1 (aU_377 y) y := by
  intro pc r h mt hm
  unfold aU_377 at h
  split at h
  · rename_i hy
    subst hy
    have e : aM_377.1 = mt := Option.some.inj (show some aM_377.1 = some mt from hm)
    subst e
    exact sx_iF_s (aT_377 pc) h
  · cases h
def aS_378 (pc : Nat) : sx_IL := (if pc < 20 then (if pc < 10 then aI_378_0 else aI_378_1) else (if pc < 32 then aI_378_2 else aI_378_3))
theorem aT_378 (pc : Nat) : sx_iOk prog_14_method_66_code (aS_378 pc) := (sx_ite (p := fun l => sx_iOk prog_14_method_66_code l) (sx_ite (p := fun l => sx_iOk prog_14_method_66_code l) (sx_iB_s aJ_378_0) (sx_iB_s aJ_378_1)) (sx_ite (p := fun l => sx_iOk prog_14_method_66_code l) (sx_iB_s aJ_378_2) (sx_iB_s aJ_378_3)))
def aU_378 (y pc : Nat) : Option (Instr × Nat) := if y = 378 then sx_iF (aS_378 pc) pc else none
set_option maxRecDepth 100000 in
theorem aV0_378 (y : Nat) : sx_P1 (aU_378 y) y := by
  intro pc r h mt hm
  unfold aU_378 at h
  split at h
  · rename_i hy
    subst hy
    have e : aM_378.1 = mt := Option.some.inj (show some aM_378.1 = some mt from hm)
    subst e
    exact sx_iF_s (aT_378 pc) h
  · cases h
def aS_379 (pc : Nat) : sx_IL := (if pc < 141 then (if pc < 69 then (if pc < 29 then (if pc < 9 then aI_379_0 else (if pc < 16 then aI_379_1 else aI_379_2)) else (if pc < 41 then aI_379_3 else (if pc < 56 then aI_379_4 else aI_379_5))) else (if pc < 99 then (if pc < 81 then aI_379_6 else (if pc < 91 then aI_379_7 else aI_379_8)) else (if pc < 121 then (if pc < 110 then aI_379_9 else aI_379_10) else (if pc < 130 then aI_379_11 else aI_379_12)))) else (if pc < 221 then (if pc < 177 then (if pc < 155 then aI_379_13 else (if pc < 166 then aI_379_14 else aI_379_15)) else (if pc < 201 then (if pc < 189 then aI_379_16 else aI_379_17) else (if pc < 210 then aI_379_18 else aI_379_19))) else (if pc < 257 then (if pc < 232 then aI_379_20 else (if pc < 246 then aI_379_21 else aI_379_22)) else (if pc < 278 then (if pc < 266 then aI_379_23 else aI_379_24) else (if pc < 289 then aI_379_25 else aI_379_26)))))
theorem aT_379 (pc : Nat) : sx_iOk prog_14_method_65_code (aS_379 pc) := (sx_ite (p := fun l => sx_iOk prog_14_method_65_code l) (sx_ite (p := fun l => sx_iOk prog_14_method_65_code l) (sx_ite (p := fun l => sx_iOk prog_14_method_65_code l) (sx_ite (p := fun l => sx_iOk prog_14_method_65_code l) (sx_iB_s aJ_379_0) (sx_ite (p := fun l => sx_iOk prog_14_method_65_code l) (sx_iB_s aJ_379_1) (sx_iB_s aJ_379_2))) (sx_ite (p := fun l => sx_iOk prog_14_method_65_code l) (sx_iB_s aJ_379_3) (sx_ite (p := fun l => sx_iOk prog_14_method_65_code l) (sx_iB_s aJ_379_4) (sx_iB_s aJ_379_5)))) (sx_ite (p := fun l => sx_iOk prog_14_method_65_code l) (sx_ite (p := fun l => sx_iOk prog_14_method_65_code l) (sx_iB_s aJ_379_6) (sx_ite (p := fun l => sx_iOk prog_14_method_65_code l) (sx_iB_s aJ_379_7) (sx_iB_s aJ_379_8))) (sx_ite (p := fun l => sx_iOk prog_14_method_65_code l) (sx_ite (p := fun l => sx_iOk prog_14_method_65_code l) (sx_iB_s aJ_379_9) (sx_iB_s aJ_379_10)) (sx_ite (p := fun l => sx_iOk prog_14_method_65_code l) (sx_iB_s aJ_379_11) (sx_iB_s aJ_379_12))))) (sx_ite (p := fun l => sx_iOk prog_14_method_65_code l) (sx_ite (p := fun l => sx_iOk prog_14_method_65_code l) (sx_ite (p := fun l => sx_iOk prog_14_method_65_code l) (sx_iB_s aJ_379_13) (sx_ite (p := fun l => sx_iOk prog_14_method_65_code l) (sx_iB_s aJ_379_14) (sx_iB_s aJ_379_15))) (sx_ite (p := fun l => sx_iOk prog_14_method_65_code l) (sx_ite (p := fun l => sx_iOk prog_14_method_65_code l) (sx_iB_s aJ_379_16) (sx_iB_s aJ_379_17)) (sx_ite (p := fun l => sx_iOk prog_14_method_65_code l) (sx_iB_s aJ_379_18) (sx_iB_s aJ_379_19)))) (sx_ite (p := fun l => sx_iOk prog_14_method_65_code l) (sx_ite (p := fun l => sx_iOk prog_14_method_65_code l) (sx_iB_s aJ_379_20) (sx_ite (p := fun l => sx_iOk prog_14_method_65_code l) (sx_iB_s aJ_379_21) (sx_iB_s aJ_379_22))) (sx_ite (p := fun l => sx_iOk prog_14_method_65_code l) (sx_ite (p := fun l => sx_iOk prog_14_method_65_code l) (sx_iB_s aJ_379_23) (sx_iB_s aJ_379_24)) (sx_ite (p := fun l => sx_iOk prog_14_method_65_code l) (sx_iB_s aJ_379_25) (sx_iB_s aJ_379_26))))))
def aU_379 (y pc : Nat) : Option (Instr × Nat) := if y = 379 then sx_iF (aS_379 pc) pc else none
set_option maxRecDepth 100000 in
theorem aV0_379 (y : Nat) : sx_P1 (aU_379 y) y := by
  intro pc r h mt hm
  unfold aU_379 at h
  split at h
  · rename_i hy
    subst hy
    have e : aM_379.1 = mt := Option.some.inj (show some aM_379.1 = some mt from hm)
    subst e
    exact sx_iF_s (aT_379 pc) h
  · cases h
def aS_380 (pc : Nat) : sx_IL := (if pc < 22 then (if pc < 11 then aI_380_0 else aI_380_1) else (if pc < 36 then aI_380_2 else aI_380_3))
theorem aT_380 (pc : Nat) : sx_iOk prog_14_method_63_code (aS_380 pc) := (sx_ite (p := fun l => sx_iOk prog_14_method_63_code l) (sx_ite (p := fun l => sx_iOk prog_14_method_63_code l) (sx_iB_s aJ_380_0) (sx_iB_s aJ_380_1)) (sx_ite (p := fun l => sx_iOk prog_14_method_63_code l) (sx_iB_s aJ_380_2) (sx_iB_s aJ_380_3)))
def aU_380 (y pc : Nat) : Option (Instr × Nat) := if y = 380 then sx_iF (aS_380 pc) pc else none
set_option maxRecDepth 100000 in
theorem aV0_380 (y : Nat) : sx_P1 (aU_380 y) y := by
  intro pc r h mt hm
  unfold aU_380 at h
  split at h
  · rename_i hy
    subst hy
    have e : aM_380.1 = mt := Option.some.inj (show some aM_380.1 = some mt from hm)
    subst e
    exact sx_iF_s (aT_380 pc) h
  · cases h
def aS_381 (pc : Nat) : sx_IL := (if pc < 94 then (if pc < 46 then (if pc < 18 then (if pc < 8 then aI_381_0 else aI_381_1) else (if pc < 33 then aI_381_2 else aI_381_3)) else (if pc < 69 then (if pc < 59 then aI_381_4 else aI_381_5) else (if pc < 80 then aI_381_6 else aI_381_7))) else (if pc < 131 then (if pc < 109 then (if pc < 102 then aI_381_8 else aI_381_9) else (if pc < 115 then aI_381_10 else aI_381_11)) else (if pc < 160 then (if pc < 146 then aI_381_12 else aI_381_13) else (if pc < 170 then aI_381_14 else (if pc < 180 then aI_381_15 else aI_381_16)))))
theorem aT_381 (pc : Nat) : sx_iOk prog_14_method_64_code (aS_381 pc) := (sx_ite (p := fun l => sx_iOk prog_14_method_64_code l) (sx_ite (p := fun l => sx_iOk prog_14_method_64_code l) (sx_ite (p := fun l => sx_iOk prog_14_method_64_code l) (sx_ite (p := fun l => sx_iOk prog_14_method_64_code l) (sx_iB_s aJ_381_0) (sx_iB_s aJ_381_1)) (sx_ite (p := fun l => sx_iOk prog_14_method_64_code l) (sx_iB_s aJ_381_2) (sx_iB_s aJ_381_3))) (sx_ite (p := fun l => sx_iOk prog_14_method_64_code l) (sx_ite (p := fun l => sx_iOk prog_14_method_64_code l) (sx_iB_s aJ_381_4) (sx_iB_s aJ_381_5)) (sx_ite (p := fun l => sx_iOk prog_14_method_64_code l) (sx_iB_s aJ_381_6) (sx_iB_s aJ_381_7)))) (sx_ite (p := fun l => sx_iOk prog_14_method_64_code l) (sx_ite (p := fun l => sx_iOk prog_14_method_64_code l) (sx_ite (p := fun l => sx_iOk prog_14_method_64_code l) (sx_iB_s aJ_381_8) (sx_iB_s aJ_381_9)) (sx_ite (p := fun l => sx_iOk prog_14_method_64_code l) (sx_iB_s aJ_381_10) (sx_iB_s aJ_381_11))) (sx_ite (p := fun l => sx_iOk prog_14_method_64_code l) (sx_ite (p := fun l => sx_iOk prog_14_method_64_code l) (sx_iB_s aJ_381_12) (sx_iB_s aJ_381_13)) (sx_ite (p := fun l => sx_iOk prog_14_method_64_code l) (sx_iB_s aJ_381_14) (sx_ite (p := fun l => sx_iOk prog_14_method_64_code l) (sx_iB_s aJ_381_15) (sx_iB_s aJ_381_16))))))
def aU_381 (y pc : Nat) : Option (Instr × Nat) := if y = 381 then sx_iF (aS_381 pc) pc else none
set_option maxRecDepth 100000 in
theorem aV0_381 (y : Nat) : sx_P1 (aU_381 y) y := by
  intro pc r h mt hm
  unfold aU_381 at h
  split at h
  · rename_i hy
    subst hy
    have e : aM_381.1 = mt := Option.some.inj (show some aM_381.1 = some mt from hm)
    subst e
    exact sx_iF_s (aT_381 pc) h
  · cases h
def aS_382 (pc : Nat) : sx_IL := (if pc < 45 then (if pc < 17 then (if pc < 8 then aI_382_0 else aI_382_1) else (if pc < 31 then aI_382_2 else aI_382_3)) else (if pc < 66 then (if pc < 56 then aI_382_4 else aI_382_5) else (if pc < 79 then aI_382_6 else aI_382_7)))
theorem aT_382 (pc : Nat) : sx_iOk prog_14_method_61_code (aS_382 pc) := (sx_ite (p := fun l => sx_iOk prog_14_method_61_code l) (sx_ite (p := fun l => sx_iOk prog_14_method_61_code l) (sx_ite (p := fun l => sx_iOk prog_14_method_61_code l) (sx_iB_s aJ_382_0) (sx_iB_s aJ_382_1)) (sx_ite (p := fun l => sx_iOk prog_14_method_61_code l) (sx_iB_s aJ_382_2) (sx_iB_s aJ_382_3))) (sx_ite (p := fun l => sx_iOk prog_14_method_61_code l) (sx_ite (p := fun l => sx_iOk prog_14_method_61_code l) (sx_iB_s aJ_382_4) (sx_iB_s aJ_382_5)) (sx_ite (p := fun l => sx_iOk prog_14_method_61_code l) (sx_iB_s aJ_382_6) (sx_iB_s aJ_382_7))))
def aU_382 (y pc : Nat) : Option (Instr × Nat) := if y = 382 then sx_iF (aS_382 pc) pc else none
set_option maxRecDepth 100000 in
theorem aV0_382 (y : Nat) : sx_P1 (aU_382 y) y := by
  intro pc r h mt hm
  unfold aU_382 at h
  split at h
  · rename_i hy
    subst hy
    have e : aM_382.1 = mt := Option.some.inj (show some aM_382.1 = some mt from hm)
    subst e
    exact sx_iF_s (aT_382 pc) h
  · cases h
def aS_383 (pc : Nat) : sx_IL := (if pc < 28 then (if pc < 14 then aI_383_0 else aI_383_1) else (if pc < 39 then aI_383_2 else aI_383_3))
theorem aT_383 (pc : Nat) : sx_iOk prog_14_method_60_code (aS_383 pc) := (sx_ite (p := fun l => sx_iOk prog_14_method_60_code l) (sx_ite (p := fun l => sx_iOk prog_14_method_60_code l) (sx_iB_s aJ_383_0) (sx_iB_s aJ_383_1)) (sx_ite (p := fun l => sx_iOk prog_14_method_60_code l) (sx_iB_s aJ_383_2) (sx_iB_s aJ_383_3)))
def aU_383 (y pc : Nat) : Option (Instr × Nat) := if y = 383 then sx_iF (aS_383 pc) pc else none
set_option maxRecDepth 100000 in
theorem aV0_383 (y : Nat) : sx_P1 (aU_383 y) y := by
  intro pc r h mt hm
  unfold aU_383 at h
  split at h
  · rename_i hy
    subst hy
    have e : aM_383.1 = mt := Option.some.inj (show some aM_383.1 = some mt from hm)
    subst e
    exact sx_iF_s (aT_383 pc) h
  · cases h
def aS_384 (pc : Nat) : sx_IL := (if pc < 31 then (if pc < 10 then aI_384_0 else (if pc < 22 then aI_384_1 else aI_384_2)) else (if pc < 56 then (if pc < 45 then aI_384_3 else aI_384_4) else (if pc < 69 then aI_384_5 else aI_384_6)))
theorem aT_384 (pc : Nat) : sx_iOk prog_14_method_74_code (aS_384 pc) := (sx_ite (p := fun l => sx_iOk prog_14_method_74_code l) (sx_ite (p := fun l => sx_iOk prog_14_method_74_code l) (sx_iB_s aJ_384_0) (sx_ite (p := fun l => sx_iOk prog_14_method_74_code l) (sx_iB_s aJ_384_1) (sx_iB_s aJ_384_2))) (sx_ite (p := fun l => sx_iOk prog_14_method_74_code l) (sx_ite (p := fun l => sx_iOk prog_14_method_74_code l) (sx_iB_s aJ_384_3) (sx_iB_s aJ_384_4)) (sx_ite (p := fun l => sx_iOk prog_14_method_74_code l) (sx_iB_s aJ_384_5) (sx_iB_s aJ_384_6))))
def aU_384 (y pc : Nat) : Option (Instr × Nat) := if y = 384 then sx_iF (aS_384 pc) pc else none
set_option maxRecDepth 100000 in
theorem aV0_384 (y : Nat) : sx_P1 (aU_384 y) y := by
  intro pc r h mt hm
  unfold aU_384 at h
  split at h
  · rename_i hy
    subst hy
    have e : aM_384.1 = mt := Option.some.inj (show some aM_384.1 = some mt from hm)
    subst e
    exact sx_iF_s (aT_384 pc) h
  · cases h
def aS_385 (pc : Nat) : sx_IL := (if pc < 108 then (if pc < 53 then (if pc < 21 then (if pc < 11 then aI_385_0 else aI_385_1) else (if pc < 35 then aI_385_2 else (if pc < 42 then aI_385_3 else aI_385_4))) else (if pc < 74 then (if pc < 65 then aI_385_5 else aI_385_6) else (if pc < 87 then aI_385_7 else (if pc < 96 then aI_385_8 else aI_385_9)))) else (if pc < 154 then (if pc < 128 then (if pc < 117 then aI_385_10 else aI_385_11) else (if pc < 136 then aI_385_12 else (if pc < 146 then aI_385_13 else aI_385_14))) else (if pc < 191 then (if pc < 164 then aI_385_15 else (if pc < 178 then aI_385_16 else aI_385_17)) else (if pc < 201 then aI_385_18 else (if pc < 210 then aI_385_19 else aI_385_20)))))
theorem aT_385 (pc : Nat) : sx_iOk prog_14_method_69_code (aS_385 pc) := (sx_ite (p := fun l => sx_iOk prog_14_method_69_code l) (sx_ite (p := fun l => sx_iOk prog_14_method_69_code l) (sx_ite (p := fun l => sx_iOk prog_14_method_69_code l) (sx_ite (p := fun l => sx_iOk prog_14_method_69_code l) (sx_iB_s aJ_385_0) (sx_iB_s aJ_385_1)) (sx_ite (p := fun l => sx_iOk prog_14_method_69_code l) (sx_iB_s aJ_385_2) (sx_ite (p := fun l => sx_iOk prog_14_method_69_code l) (sx_iB_s aJ_385_3) (sx_iB_s aJ_385_4)))) (sx_ite (p := fun l => sx_iOk prog_14_method_69_code l) (sx_ite (p := fun l => sx_iOk prog_14_method_69_code l) (sx_iB_s aJ_385_5) (sx_iB_s aJ_385_6)) (sx_ite (p := fun l => sx_iOk prog_14_method_69_code l) (sx_iB_s aJ_385_7) (sx_ite (p := fun l => sx_iOk prog_14_method_69_code l) (sx_iB_s aJ_385_8) (sx_iB_s aJ_385_9))))) (sx_ite (p := fun l => sx_iOk prog_14_method_69_code l) (sx_ite (p := fun l => sx_iOk prog_14_method_69_code l) (sx_ite (p := fun l => sx_iOk prog_14_method_69_code l) (sx_iB_s aJ_385_10) (sx_iB_s aJ_385_11)) (sx_ite (p := fun l => sx_iOk prog_14_method_69_code l) (sx_iB_s aJ_385_12) (sx_ite (p := fun l => sx_iOk prog_14_method_69_code l) (sx_iB_s aJ_385_13) (sx_iB_s aJ_385_14)))) (sx_ite (p := fun l => sx_iOk prog_14_method_69_code l) (sx_ite (p := fun l => sx_iOk prog_14_method_69_code l) (sx_iB_s aJ_385_15) (sx_ite (p := fun l => sx_iOk prog_14_method_69_code l) (sx_iB_s aJ_385_16) (sx_iB_s aJ_385_17))) (sx_ite (p := fun l => sx_iOk prog_14_method_69_code l) (sx_iB_s aJ_385_18) (sx_ite (p := fun l => sx_iOk prog_14_method_69_code l) (sx_iB_s aJ_385_19) (sx_iB_s aJ_385_20))))))
def aU_385 (y pc : Nat) : Option (Instr × Nat) := if y = 385 then sx_iF (aS_385 pc) pc else none
set_option maxRecDepth 100000 in
theorem aV0_385 (y : Nat) : sx_P1 (aU_385 y) y := by
  intro pc r h mt hm
  unfold aU_385 at h
  split at h
  · rename_i hy
    subst hy
    have e : aM_385.1 = mt := Option.some.inj (show some aM_385.1 = some mt from hm)
    subst e
    exact sx_iF_s (aT_385 pc) h
  · cases h
def aS_386 (pc : Nat) : sx_IL := (if pc < 43 then (if pc < 22 then (if pc < 12 then aI_386_0 else aI_386_1) else (if pc < 32 then aI_386_2 else aI_386_3)) else (if pc < 63 then (if pc < 51 then aI_386_4 else aI_386_5) else (if pc < 75 then aI_386_6 else aI_386_7)))
theorem aT_386 (pc : Nat) : sx_iOk prog_14_method_67_code (aS_386 pc) := (sx_ite (p := fun l => sx_iOk prog_14_method_67_code l) (sx_ite (p := fun l => sx_iOk prog_14_method_67_code l) (sx_ite (p := fun l => sx_iOk prog_14_method_67_code l) (sx_iB_s aJ_386_0) (sx_iB_s aJ_386_1)) (sx_ite (p := fun l => sx_iOk prog_14_method_67_code l) (sx_iB_s aJ_386_2) (sx_iB_s aJ_386_3))) (sx_ite (p := fun l => sx_iOk prog_14_method_67_code l) (sx_ite (p := fun l => sx_iOk prog_14_method_67_code l) (sx_iB_s aJ_386_4) (sx_iB_s aJ_386_5)) (sx_ite (p := fun l => sx_iOk prog_14_method_67_code l) (sx_iB_s aJ_386_6) (sx_iB_s aJ_386_7))))
def aU_386 (y pc : Nat) : Option (Instr × Nat) := if y = 386 then sx_iF (aS_386 pc) pc else none
set_option maxRecDepth 100000 in
theorem aV0_386 (y : Nat) : sx_P1 (aU_386 y) y := by
  intro pc r h mt hm
  unfold aU_386 at h
  split at h
  · rename_i hy
    subst hy
    have e : aM_386.1 = mt := Option.some.inj (show some aM_386.1 = some mt from hm)
    subst e
    exact sx_iF_s (aT_386 pc) h
  · cases h
def aS_387 (pc : Nat) : sx_IL := (if pc < 242 then (if pc < 111 then (if pc < 58 then (if pc < 29 then (if pc < 7 then aI_387_0 else (if pc < 19 then aI_387_1 else aI_387_2)) else (if pc < 38 then aI_387_3 else (if pc < 50 then aI_387_4 else aI_387_5))) else (if pc < 85 then (if pc < 66 then aI_387_6 else (if pc < 75 then aI_387_7 else aI_387_8)) else (if pc < 95 then aI_387_9 else (if pc < 103 then aI_387_10 else aI_387_11)))) else (if pc < 172 then (if pc < 142 then (if pc < 121 then aI_387_12 else (if pc < 131 then aI_387_13 else aI_387_14)) else (if pc < 154 then aI_387_15 else (if pc < 162 then aI_387_16 else aI_387_17))) else (if pc < 204 then (if pc < 178 then aI_387_18 else (if pc < 190 then aI_387_19 else aI_387_20)) else (if pc < 222 then (if pc < 212 then aI_387_21 else aI_387_22) else (if pc < 230 then aI_387_23 else aI_387_24))))) else (if pc < 369 then (if pc < 306 then (if pc < 274 then (if pc < 250 then aI_387_25 else (if pc < 264 then aI_387_26 else aI_387_27)) else (if pc < 283 then aI_387_28 else (if pc < 298 then aI_387_29 else aI_387_30))) else (if pc < 340 then (if pc < 318 then aI_387_31 else (if pc < 329 then aI_387_32 else aI_387_33)) else (if pc < 351 then aI_387_34 else (if pc < 360 then aI_387_35 else aI_387_36)))) else (if pc < 438 then (if pc < 408 then (if pc < 384 then aI_387_37 else (if pc < 396 then aI_387_38 else aI_387_39)) else (if pc < 419 then aI_387_40 else (if pc < 428 then aI_387_41 else aI_387_42))) else (if pc < 468 then (if pc < 448 then aI_387_43 else (if pc < 455 then aI_387_44 else aI_387_45)) else (if pc < 493 then (if pc < 480 then aI_387_46 else aI_387_47) else (if pc < 506 then aI_387_48 else aI_387_49))))))
theorem aT_387 (pc : Nat) : sx_iOk prog_14_method_70_code (aS_387 pc) := (sx_ite (p := fun l => sx_iOk prog_14_method_70_code l) (sx_ite (p := fun l => sx_iOk prog_14_method_70_code l) (sx_ite (p := fun l => sx_iOk prog_14_method_70_code l) (sx_ite (p := fun l => sx_iOk prog_14_method_70_code l) (sx_ite (p := fun l => sx_iOk prog_14_method_70_code l) (sx_iB_s aJ_387_0) (sx_ite (p := fun l => sx_iOk prog_14_method_70_code l) (sx_iB_s aJ_387_1) (sx_iB_s aJ_387_2))) (sx_ite (p := fun l => sx_iOk prog_14_method_70_code l) (sx_iB_s aJ_387_3) (sx_ite (p := fun l => sx_iOk prog_14_method_70_code l) (sx_iB_s aJ_387_4) (sx_iB_s aJ_387_5)))) (sx_ite (p := fun l => sx_iOk prog_14_method_70_code l) (sx_ite (p := fun l => sx_iOk prog_14_method_70_code l) (sx_iB_s aJ_387_6) (sx_ite (p := fun l => sx_iOk prog_14_method_70_code l) (sx_iB_s aJ_387_7) (sx_iB_s aJ_387_8))) (sx_ite (p := fun l => sx_iOk prog_14_method_70_code l) (sx_iB_s aJ_387_9) (sx_ite (p := fun l => sx_iOk prog_14_method_70_code l) (sx_iB_s aJ_387_10) (sx_iB_s aJ_387_11))))) (sx_ite (p := fun l => sx_iOk prog_14_method_70_code l) (sx_ite (p := fun l => sx_iOk prog_14_method_70_code l) (sx_ite (p := fun l => sx_iOk prog_14_method_70_code l) (sx_iB_s aJ_387_12) (sx_ite (p := fun l => sx_iOk prog_14_method_70_code l) (sx_iB_s aJ_387_13) (sx_iB_s aJ_387_14))) (sx_ite (p := fun l => sx_iOk prog_14_method_70_code l) (sx_iB_s aJ_387_15) (sx_ite (p := fun l => sx_iOk prog_14_method_70_code l) (sx_iB_s aJ_387_16) (sx_iB_s aJ_387_17)))) (sx_ite (p := fun l => sx_iOk prog_14_method_70_code l) (sx_ite (p := fun l => sx_iOk prog_14_method_70_code l) (sx_iB_s aJ_387_18) (sx_ite (p := fun l => sx_iOk prog_14_method_70_code l) (sx_iB_s aJ_387_19) (sx_iB_s aJ_387_20))) (sx_ite (p := fun l => sx_iOk prog_14_method_70_code l) (sx_ite (p := fun l => sx_iOk prog_14_method_70_code l) (sx_iB_s aJ_387_21) (sx_iB_s aJ_387_22)) (sx_ite (p := fun l => sx_iOk prog_14_method_70_code l) (sx_iB_s aJ_387_23) (sx_iB_s aJ_387_24)))))) (sx_ite (p := fun l => sx_iOk prog_14_method_70_code l) (sx_ite (p := fun l => sx_iOk prog_14_method_70_code l) (sx_ite (p := fun l => sx_iOk prog_14_method_70_code l) (sx_ite (p := fun l => sx_iOk prog_14_method_70_code l) (sx_iB_s aJ_387_25) (sx_ite (p := fun l => sx_iOk prog_14_method_70_code l) (sx_iB_s aJ_387_26) (sx_iB_s aJ_387_27))) (sx_ite (p := fun l => sx_iOk prog_14_method_70_code l) (sx_iB_s aJ_387_28) (sx_ite (p := fun l => sx_iOk prog_14_method_70_code l) (sx_iB_s aJ_387_29) (sx_iB_s aJ_387_30)))) (sx_ite (p := fun l => sx_iOk prog_14_method_70_code l) (sx_ite (p := fun l => sx_iOk prog_14_method_70_code l) (sx_iB_s aJ_387_31) (sx_ite (p := fun l => sx_iOk prog_14_method_70_code l) (sx_iB_s aJ_387_32) (sx_iB_s aJ_387_33))) (sx_ite (p := fun l => sx_iOk prog_14_method_70_code l) (sx_iB_s aJ_387_34) (sx_ite (p := fun l => sx_iOk prog_14_method_70_code l) (sx_iB_s aJ_387_35) (sx_iB_s aJ_387_36))))) (sx_ite (p := fun l => sx_iOk prog_14_method_70_code l) (sx_ite (p := fun l => sx_iOk prog_14_method_70_code l) (sx_ite (p := fun l => sx_iOk prog_14_method_70_code l) (sx_iB_s aJ_387_37) (sx_ite (p := fun l => sx_iOk prog_14_method_70_code l) (sx_iB_s aJ_387_38) (sx_iB_s aJ_387_39))) (sx_ite (p := fun l => sx_iOk prog_14_method_70_code l) (sx_iB_s aJ_387_40) (sx_ite (p := fun l => sx_iOk prog_14_method_70_code l) (sx_iB_s aJ_387_41) (sx_iB_s aJ_387_42)))) (sx_ite (p := fun l => sx_iOk prog_14_method_70_code l) (sx_ite (p := fun l => sx_iOk prog_14_method_70_code l) (sx_iB_s aJ_387_43) (sx_ite (p := fun l => sx_iOk prog_14_method_70_code l) (sx_iB_s aJ_387_44) (sx_iB_s aJ_387_45))) (sx_ite (p := fun l => sx_iOk prog_14_method_70_code l) (sx_ite (p := fun l => sx_iOk prog_14_method_70_code l) (sx_iB_s aJ_387_46) (sx_iB_s aJ_387_47)) (sx_ite (p := fun l => sx_iOk prog_14_method_70_code l) (sx_iB_s aJ_387_48) (sx_iB_s aJ_387_49)))))))
def aU_387 (y pc : Nat) : Option (Instr × Nat) := if y = 387 then sx_iF (aS_387 pc) pc else none
set_option maxRecDepth 100000 in
theorem aV0_387 (y : Nat) : sx_P1 (aU_387 y) y := by
  intro pc r h mt hm
  unfold aU_387 at h
  split at h
  · rename_i hy
    subst hy
    have e : aM_387.1 = mt := Option.some.inj (show some aM_387.1 = some mt from hm)
    subst e
    exact sx_iF_s (aT_387 pc) h
  · cases h
def aS_388 (pc : Nat) : sx_IL := (if pc < 17 then (if pc < 6 then aI_388_0 else aI_388_1) else (if pc < 27 then aI_388_2 else aI_388_3))
theorem aT_388 (pc : Nat) : sx_iOk prog_14_method_68_code (aS_388 pc) := (sx_ite (p := fun l => sx_iOk prog_14_method_68_code l) (sx_ite (p := fun l => sx_iOk prog_14_method_68_code l) (sx_iB_s aJ_388_0) (sx_iB_s aJ_388_1)) (sx_ite (p := fun l => sx_iOk prog_14_method_68_code l) (sx_iB_s aJ_388_2) (sx_iB_s aJ_388_3)))
def aU_388 (y pc : Nat) : Option (Instr × Nat) := if y = 388 then sx_iF (aS_388 pc) pc else none
set_option maxRecDepth 100000 in
theorem aV0_388 (y : Nat) : sx_P1 (aU_388 y) y := by
  intro pc r h mt hm
  unfold aU_388 at h
  split at h
  · rename_i hy
    subst hy
    have e : aM_388.1 = mt := Option.some.inj (show some aM_388.1 = some mt from hm)
    subst e
    exact sx_iF_s (aT_388 pc) h
  · cases h
def aS_389 (pc : Nat) : sx_IL := (if pc < 123 then (if pc < 58 then (if pc < 21 then (if pc < 10 then aI_389_0 else aI_389_1) else (if pc < 32 then aI_389_2 else (if pc < 46 then aI_389_3 else aI_389_4))) else (if pc < 82 then (if pc < 70 then aI_389_5 else aI_389_6) else (if pc < 98 then aI_389_7 else (if pc < 110 then aI_389_8 else aI_389_9)))) else (if pc < 169 then (if pc < 143 then (if pc < 136 then aI_389_10 else aI_389_11) else (if pc < 152 then aI_389_12 else (if pc < 161 then aI_389_13 else aI_389_14))) else (if pc < 189 then (if pc < 177 then aI_389_15 else aI_389_16) else (if pc < 196 then aI_389_17 else (if pc < 208 then aI_389_18 else aI_389_19)))))
theorem aT_389 (pc : Nat) : sx_iOk prog_14_method_71_code (aS_389 pc) := (sx_ite (p := fun l => sx_iOk prog_14_method_71_code l) (sx_ite (p := fun l => sx_iOk prog_14_method_71_code l) (sx_ite (p := fun l => sx_iOk prog_14_method_71_code l) (sx_ite (p := fun l => sx_iOk prog_14_method_71_code l) (sx_iB_s aJ_389_0) (sx_iB_s aJ_389_1)) (sx_ite (p := fun l => sx_iOk prog_14_method_71_code l) (sx_iB_s aJ_389_2) (sx_ite (p := fun l => sx_iOk prog_14_method_71_code l) (sx_iB_s aJ_389_3) (sx_iB_s aJ_389_4)))) (sx_ite (p := fun l => sx_iOk prog_14_method_71_code l) (sx_ite (p := fun l => sx_iOk prog_14_method_71_code l) (sx_iB_s aJ_389_5) (sx_iB_s aJ_389_6)) (sx_ite (p := fun l => sx_iOk prog_14_method_71_code l) (sx_iB_s aJ_389_7) (sx_ite (p := fun l => sx_iOk prog_14_method_71_code l) (sx_iB_s aJ_389_8) (sx_iB_s aJ_389_9))))) (sx_ite (p := fun l => sx_iOk prog_14_method_71_code l) (sx_ite (p := fun l => sx_iOk prog_14_method_71_code l) (sx_ite (p := fun l => sx_iOk prog_14_method_71_code l) (sx_iB_s aJ_389_10) (sx_iB_s aJ_389_11)) (sx_ite (p := fun l => sx_iOk prog_14_method_71_code l) (sx_iB_s aJ_389_12) (sx_ite (p := fun l => sx_iOk prog_14_method_71_code l) (sx_iB_s aJ_389_13) (sx_iB_s aJ_389_14)))) (sx_ite (p := fun l => sx_iOk prog_14_method_71_code l) (sx_ite (p := fun l => sx_iOk prog_14_method_71_code l) (sx_iB_s aJ_389_15) (sx_iB_s aJ_389_16)) (sx_ite (p := fun l => sx_iOk prog_14_method_71_code l) (sx_iB_s aJ_389_17) (sx_ite (p := fun l => sx_iOk prog_14_method_71_code l) (sx_iB_s aJ_389_18) (sx_iB_s aJ_389_19))))))
def aU_389 (y pc : Nat) : Option (Instr × Nat) := if y = 389 then sx_iF (aS_389 pc) pc else none
set_option maxRecDepth 100000 in
theorem aV0_389 (y : Nat) : sx_P1 (aU_389 y) y := by
  intro pc r h mt hm
  unfold aU_389 at h
  split at h
  · rename_i hy
    subst hy
    have e : aM_389.1 = mt := Option.some.inj (show some aM_389.1 = some mt from hm)
    subst e
    exact sx_iF_s (aT_389 pc) h
  · cases h
def aS_390 (pc : Nat) : sx_IL := (if pc < 47 then (if pc < 17 then (if pc < 8 then aI_390_0 else aI_390_1) else (if pc < 26 then aI_390_2 else (if pc < 39 then aI_390_3 else aI_390_4))) else (if pc < 79 then (if pc < 57 then aI_390_5 else (if pc < 67 then aI_390_6 else aI_390_7)) else (if pc < 87 then aI_390_8 else (if pc < 98 then aI_390_9 else aI_390_10))))
theorem aT_390 (pc : Nat) : sx_iOk prog_14_method_62_code (aS_390 pc) := (sx_ite (p := fun l => sx_iOk prog_14_method_62_code l) (sx_ite (p := fun l => sx_iOk prog_14_method_62_code l) (sx_ite (p := fun l => sx_iOk prog_14_method_62_code l) (sx_iB_s aJ_390_0) (sx_iB_s aJ_390_1)) (sx_ite (p := fun l => sx_iOk prog_14_method_62_code l) (sx_iB_s aJ_390_2) (sx_ite (p := fun l => sx_iOk prog_14_method_62_code l) (sx_iB_s aJ_390_3) (sx_iB_s aJ_390_4)))) (sx_ite (p := fun l => sx_iOk prog_14_method_62_code l) (sx_ite (p := fun l => sx_iOk prog_14_method_62_code l) (sx_iB_s aJ_390_5) (sx_ite (p := fun l => sx_iOk prog_14_method_62_code l) (sx_iB_s aJ_390_6) (sx_iB_s aJ_390_7))) (sx_ite (p := fun l => sx_iOk prog_14_method_62_code l) (sx_iB_s aJ_390_8) (sx_ite (p := fun l => sx_iOk prog_14_method_62_code l) (sx_iB_s aJ_390_9) (sx_iB_s aJ_390_10)))))
def aU_390 (y pc : Nat) : Option (Instr × Nat) := if y = 390 then sx_iF (aS_390 pc) pc else none
set_option maxRecDepth 100000 in
theorem aV0_390 (y : Nat) : sx_P1 (aU_390 y) y := by
  intro pc r h mt hm
  unfold aU_390 at h
  split at h
  · rename_i hy
    subst hy
    have e : aM_390.1 = mt := Option.some.inj (show some aM_390.1 = some mt from hm)
    subst e
    exact sx_iF_s (aT_390 pc) h
  · cases h
def aS_391 (pc : Nat) : sx_IL := (if pc < 60 then (if pc < 31 then (if pc < 10 then aI_391_0 else (if pc < 20 then aI_391_1 else aI_391_2)) else (if pc < 39 then aI_391_3 else (if pc < 50 then aI_391_4 else aI_391_5))) else (if pc < 92 then (if pc < 70 then aI_391_6 else (if pc < 80 then aI_391_7 else aI_391_8)) else (if pc < 117 then (if pc < 107 then aI_391_9 else aI_391_10) else (if pc < 127 then aI_391_11 else aI_391_12))))
theorem aT_391 (pc : Nat) : sx_iOk prog_14_method_73_code (aS_391 pc) := (sx_ite (p := fun l => sx_iOk prog_14_method_73_code l) (sx_ite (p := fun l => sx_iOk prog_14_method_73_code l) (sx_ite (p := fun l => sx_iOk prog_14_method_73_code l) (sx_iB_s aJ_391_0) (sx_ite (p := fun l => sx_iOk prog_14_method_73_code l) (sx_iB_s aJ_391_1) (sx_iB_s aJ_391_2))) (sx_ite (p := fun l => sx_iOk prog_14_method_73_code l) (sx_iB_s aJ_391_3) (sx_ite (p := fun l => sx_iOk prog_14_method_73_code l) (sx_iB_s aJ_391_4) (sx_iB_s aJ_391_5)))) (sx_ite (p := fun l => sx_iOk prog_14_method_73_code l) (sx_ite (p := fun l => sx_iOk prog_14_method_73_code l) (sx_iB_s aJ_391_6) (sx_ite (p := fun l => sx_iOk prog_14_method_73_code l) (sx_iB_s aJ_391_7) (sx_iB_s aJ_391_8))) (sx_ite (p := fun l => sx_iOk prog_14_method_73_code l) (sx_ite (p := fun l => sx_iOk prog_14_method_73_code l) (sx_iB_s aJ_391_9) (sx_iB_s aJ_391_10)) (sx_ite (p := fun l => sx_iOk prog_14_method_73_code l) (sx_iB_s aJ_391_11) (sx_iB_s aJ_391_12)))))
def aU_391 (y pc : Nat) : Option (Instr × Nat) := if y = 391 then sx_iF (aS_391 pc) pc else none
set_option maxRecDepth 100000 in
theorem aV0_391 (y : Nat) : sx_P1 (aU_391 y) y := by
  intro pc r h mt hm
  unfold aU_391 at h
  split at h
  · rename_i hy
    subst hy
    have e : aM_391.1 = mt := Option.some.inj (show some aM_391.1 = some mt from hm)
    subst e
    exact sx_iF_s (aT_391 pc) h
  · cases h
def aS_392 (pc : Nat) : sx_IL := (if pc < 20 then (if pc < 10 then aI_392_0 else aI_392_1) else (if pc < 30 then aI_392_2 else (if pc < 40 then aI_392_3 else aI_392_4)))
theorem aT_392 (pc : Nat) : sx_iOk prog_14_method_72_code (aS_392 pc) := (sx_ite (p := fun l => sx_iOk prog_14_method_72_code l) (sx_ite (p := fun l => sx_iOk prog_14_method_72_code l) (sx_iB_s aJ_392_0) (sx_iB_s aJ_392_1)) (sx_ite (p := fun l => sx_iOk prog_14_method_72_code l) (sx_iB_s aJ_392_2) (sx_ite (p := fun l => sx_iOk prog_14_method_72_code l) (sx_iB_s aJ_392_3) (sx_iB_s aJ_392_4))))
def aU_392 (y pc : Nat) : Option (Instr × Nat) := if y = 392 then sx_iF (aS_392 pc) pc else none
set_option maxRecDepth 100000 in
theorem aV0_392 (y : Nat) : sx_P1 (aU_392 y) y := by
  intro pc r h mt hm
  unfold aU_392 at h
  split at h
  · rename_i hy
    subst hy
    have e : aM_392.1 = mt := Option.some.inj (show some aM_392.1 = some mt from hm)
    subst e
    exact sx_iF_s (aT_392 pc) h
  · cases h
def aS_393 (pc : Nat) : sx_IL := (if pc < 44 then (if pc < 21 then (if pc < 10 then aI_393_0 else aI_393_1) else (if pc < 32 then aI_393_2 else aI_393_3)) else (if pc < 67 then (if pc < 54 then aI_393_4 else aI_393_5) else (if pc < 78 then aI_393_6 else (if pc < 90 then aI_393_7 else aI_393_8))))
theorem aT_393 (pc : Nat) : sx_iOk prog_14_method_78_code (aS_393 pc) := (sx_ite (p := fun l => sx_iOk prog_14_method_78_code l) (sx_ite (p := fun l => sx_iOk prog_14_method_78_code l) (sx_ite (p := fun l => sx_iOk prog_14_method_78_code l) (sx_iB_s aJ_393_0) (sx_iB_s aJ_393_1)) (sx_ite (p := fun l => sx_iOk prog_14_method_78_code l) (sx_iB_s aJ_393_2) (sx_iB_s aJ_393_3))) (sx_ite (p := fun l => sx_iOk prog_14_method_78_code l) (sx_ite (p := fun l => sx_iOk prog_14_method_78_code l) (sx_iB_s aJ_393_4) (sx_iB_s aJ_393_5)) (sx_ite (p := fun l => sx_iOk prog_14_method_78_code l) (sx_iB_s aJ_393_6) (sx_ite (p := fun l => sx_iOk prog_14_method_78_code l) (sx_iB_s aJ_393_7) (sx_iB_s aJ_393_8)))))
def aU_393 (y pc : Nat) : Option (Instr × Nat) := if y = 393 then sx_iF (aS_393 pc) pc else none
set_option maxRecDepth 100000 in
theorem aV0_393 (y : Nat) : sx_P1 (aU_393 y) y := by
  intro pc r h mt hm
  unfold aU_393 at h
  split at h
  · rename_i hy
    subst hy
    have e : aM_393.1 = mt := Option.some.inj (show some aM_393.1 = some mt from hm)
    subst e
    exact sx_iF_s (aT_393 pc) h
  · cases h
def aS_394 (pc : Nat) : sx_IL := (if pc < 211 then (if pc < 97 then (if pc < 43 then (if pc < 21 then (if pc < 11 then aI_394_0 else aI_394_1) else (if pc < 31 then aI_394_2 else aI_394_3)) else (if pc < 61 then (if pc < 51 then aI_394_4 else aI_394_5) else (if pc < 73 then aI_394_6 else (if pc < 85 then aI_394_7 else aI_394_8)))) else (if pc < 156 then (if pc < 120 then (if pc < 106 then aI_394_9 else aI_394_10) else (if pc < 131 then aI_394_11 else (if pc < 141 then aI_394_12 else aI_394_13))) else (if pc < 177 then (if pc < 167 then aI_394_14 else aI_394_15) else (if pc < 188 then aI_394_16 else (if pc < 200 then aI_394_17 else aI_394_18))))) else (if pc < 317 then (if pc < 265 then (if pc < 230 then (if pc < 220 then aI_394_19 else aI_394_20) else (if pc < 243 then aI_394_21 else (if pc < 253 then aI_394_22 else aI_394_23))) else (if pc < 283 then (if pc < 274 then aI_394_24 else aI_394_25) else (if pc < 294 then aI_394_26 else (if pc < 306 then aI_394_27 else aI_394_28)))) else (if pc < 373 then (if pc < 340 then (if pc < 328 then aI_394_29 else aI_394_30) else (if pc < 350 then aI_394_31 else (if pc < 364 then aI_394_32 else aI_394_33))) else (if pc < 398 then (if pc < 387 then aI_394_34 else aI_394_35) else (if pc < 411 then aI_394_36 else (if pc < 424 then aI_394_37 else aI_394_38))))))
theorem aT_394 (pc : Nat) : sx_iOk prog_14_method_75_code (aS_394 pc) := (sx_ite (p := fun l => sx_iOk prog_14_method_75_code l) (sx_ite (p := fun l => sx_iOk prog_14_method_75_code l) (sx_ite (p := fun l => sx_iOk prog_14_method_75_code l) (sx_ite (p := fun l => sx_iOk prog_14_method_75_code l) (sx_ite (p := fun l => sx_iOk prog_14_method_75_code l) (sx_iB_s aJ_394_0) (sx_iB_s aJ_394_1)) (sx_ite (p := fun l => sx_iOk prog_14_method_75_code l) (sx_iB_s aJ_394_2) (sx_iB_s aJ_394_3))) (sx_ite (p := fun l => sx_iOk prog_14_method_75_code l) (sx_ite (p := fun l => sx_iOk prog_14_method_75_code l) (sx_iB_s aJ_394_4) (sx_iB_s aJ_394_5)) (sx_ite (p := fun l => sx_iOk prog_14_method_75_code l) (sx_iB_s aJ_394_6) (sx_ite (p := fun l => sx_iOk prog_14_method_75_code l) (sx_iB_s aJ_394_7) (sx_iB_s aJ_394_8))))) (sx_ite (p := fun l => sx_iOk prog_14_method_75_code l) (sx_ite (p := fun l => sx_iOk prog_14_method_75_code l) (sx_ite (p := fun l => sx_iOk prog_14_method_75_code l) (sx_iB_s aJ_394_9) (sx_iB_s aJ_394_10)) (sx_ite (p := fun l => sx_iOk prog_14_method_75_code l) (sx_iB_s aJ_394_11) (sx_ite (p := fun l => sx_iOk prog_14_method_75_code l) (sx_iB_s aJ_394_12) (sx_iB_s aJ_394_13)))) (sx_ite (p := fun l => sx_iOk prog_14_method_75_code l) (sx_ite (p := fun l => sx_iOk prog_14_method_75_code l) (sx_iB_s aJ_394_14) (sx_iB_s aJ_394_15)) (sx_ite (p := fun l => sx_iOk prog_14_method_75_code l) (sx_iB_s aJ_394_16) (sx_ite (p := fun l => sx_iOk prog_14_method_75_code l) (sx_iB_s aJ_394_17) (sx_iB_s aJ_394_18)))))) (sx_ite (p := fun l => sx_iOk prog_14_method_75_code l) (sx_ite (p := fun l => sx_iOk prog_14_method_75_code l) (sx_ite (p := fun l => sx_iOk prog_14_method_75_code l) (sx_ite (p := fun l => sx_iOk prog_14_method_75_code l) (sx_iB_s aJ_394_19) (sx_iB_s aJ_394_20)) (sx_ite (p := fun l => sx_iOk prog_14_method_75_code l) (sx_iB_s aJ_394_21) (sx_ite (p := fun l => sx_iOk prog_14_method_75_code l) (sx_iB_s aJ_394_22) (sx_iB_s aJ_394_23)))) (sx_ite (p := fun l => sx_iOk prog_14_method_75_code l) (sx_ite (p := fun l => sx_iOk prog_14_method_75_code l) (sx_iB_s aJ_394_24) (sx_iB_s aJ_394_25)) (sx_ite (p := fun l => sx_iOk prog_14_method_75_code l) (sx_iB_s aJ_394_26) (sx_ite (p := fun l => sx_iOk prog_14_method_75_code l) (sx_iB_s aJ_394_27) (sx_iB_s aJ_394_28))))) (sx_ite (p := fun l => sx_iOk prog_14_method_75_code l) (sx_ite (p := fun l => sx_iOk prog_14_method_75_code l) (sx_ite (p := fun l => sx_iOk prog_14_method_75_code l) (sx_iB_s aJ_394_29) (sx_iB_s aJ_394_30)) (sx_ite (p := fun l => sx_iOk prog_14_method_75_code l) (sx_iB_s aJ_394_31) (sx_ite (p := fun l => sx_iOk prog_14_method_75_code l) (sx_iB_s aJ_394_32) (sx_iB_s aJ_394_33)))) (sx_ite (p := fun l => sx_iOk prog_14_method_75_code l) (sx_ite (p := fun l => sx_iOk prog_14_method_75_code l) (sx_iB_s aJ_394_34) (sx_iB_s aJ_394_35)) (sx_ite (p := fun l => sx_iOk prog_14_method_75_code l) (sx_iB_s aJ_394_36) (sx_ite (p := fun l => sx_iOk prog_14_method_75_code l) (sx_iB_s aJ_394_37) (sx_iB_s aJ_394_38)))))))
def aU_394 (y pc : Nat) : Option (Instr × Nat) := if y = 394 then sx_iF (aS_394 pc) pc else none
set_option maxRecDepth 100000 in
theorem aV0_394 (y : Nat) : sx_P1 (aU_394 y) y := by
  intro pc r h mt hm
  unfold aU_394 at h
  split at h
  · rename_i hy
    subst hy
    have e : aM_394.1 = mt := Option.some.inj (show some aM_394.1 = some mt from hm)
    subst e
    exact sx_iF_s (aT_394 pc) h
  · cases h
def aS_395 (pc : Nat) : sx_IL := (if pc < 14 then (if pc < 7 then aI_395_0 else aI_395_1) else (if pc < 20 then aI_395_2 else (if pc < 27 then aI_395_3 else aI_395_4)))
theorem aT_395 (pc : Nat) : sx_iOk prog_14_method_76_code (aS_395 pc) := (sx_ite (p := fun l => sx_iOk prog_14_method_76_code l) (sx_ite (p := fun l => sx_iOk prog_14_method_76_code l) (sx_iB_s aJ_395_0) (sx_iB_s aJ_395_1)) (sx_ite (p := fun l => sx_iOk prog_14_method_76_code l) (sx_iB_s aJ_395_2) (sx_ite (p := fun l => sx_iOk prog_14_method_76_code l) (sx_iB_s aJ_395_3) (sx_iB_s aJ_395_4))))
def aU_395 (y pc : Nat) : Option (Instr × Nat) := if y = 395 then sx_iF (aS_395 pc) pc else none
set_option maxRecDepth 100000 in
theorem aV0_395 (y : Nat) : sx_P1 (aU_395 y) y := by
  intro pc r h mt hm
  unfold aU_395 at h
  split at h
  · rename_i hy
    subst hy
    have e : aM_395.1 = mt := Option.some.inj (show some aM_395.1 = some mt from hm)
    subst e
    exact sx_iF_s (aT_395 pc) h
  · cases h
def aS_396 (pc : Nat) : sx_IL := (if pc < 35 then (if pc < 12 then aI_396_0 else (if pc < 24 then aI_396_1 else aI_396_2)) else (if pc < 45 then aI_396_3 else (if pc < 57 then aI_396_4 else aI_396_5)))
theorem aT_396 (pc : Nat) : sx_iOk prog_14_method_79_code (aS_396 pc) := (sx_ite (p := fun l => sx_iOk prog_14_method_79_code l) (sx_ite (p := fun l => sx_iOk prog_14_method_79_code l) (sx_iB_s aJ_396_0) (sx_ite (p := fun l => sx_iOk prog_14_method_79_code l) (sx_iB_s aJ_396_1) (sx_iB_s aJ_396_2))) (sx_ite (p := fun l => sx_iOk prog_14_method_79_code l) (sx_iB_s aJ_396_3) (sx_ite (p := fun l => sx_iOk prog_14_method_79_code l) (sx_iB_s aJ_396_4) (sx_iB_s aJ_396_5))))
def aU_396 (y pc : Nat) : Option (Instr × Nat) := if y = 396 then sx_iF (aS_396 pc) pc else none
set_option maxRecDepth 100000 in
theorem aV0_396 (y : Nat) : sx_P1 (aU_396 y) y := by
  intro pc r h mt hm
  unfold aU_396 at h
  split at h
  · rename_i hy
    subst hy
    have e : aM_396.1 = mt := Option.some.inj (show some aM_396.1 = some mt from hm)
    subst e
    exact sx_iF_s (aT_396 pc) h
  · cases h
def aS_397 (pc : Nat) : sx_IL := (if pc < 44 then (if pc < 21 then (if pc < 10 then aI_397_0 else aI_397_1) else (if pc < 32 then aI_397_2 else aI_397_3)) else (if pc < 67 then (if pc < 54 then aI_397_4 else aI_397_5) else (if pc < 78 then aI_397_6 else (if pc < 90 then aI_397_7 else aI_397_8))))
theorem aT_397 (pc : Nat) : sx_iOk prog_14_method_80_code (aS_397 pc) := (sx_ite (p := fun l => sx_iOk prog_14_method_80_code l) (sx_ite (p := fun l => sx_iOk prog_14_method_80_code l) (sx_ite (p := fun l => sx_iOk prog_14_method_80_code l) (sx_iB_s aJ_397_0) (sx_iB_s aJ_397_1)) (sx_ite (p := fun l => sx_iOk prog_14_method_80_code l) (sx_iB_s aJ_397_2) (sx_iB_s aJ_397_3))) (sx_ite (p := fun l => sx_iOk prog_14_method_80_code l) (sx_ite (p := fun l => sx_iOk prog_14_method_80_code l) (sx_iB_s aJ_397_4) (sx_iB_s aJ_397_5)) (sx_ite (p := fun l => sx_iOk prog_14_method_80_code l) (sx_iB_s aJ_397_6) (sx_ite (p := fun l => sx_iOk prog_14_method_80_code l) (sx_iB_s aJ_397_7) (sx_iB_s aJ_397_8)))))
def aU_397 (y pc : Nat) : Option (Instr × Nat) := if y = 397 then sx_iF (aS_397 pc) pc else none
set_option maxRecDepth 100000 in
theorem aV0_397 (y : Nat) : sx_P1 (aU_397 y) y := by
  intro pc r h mt hm
  unfold aU_397 at h
  split at h
  · rename_i hy
    subst hy
    have e : aM_397.1 = mt := Option.some.inj (show some aM_397.1 = some mt from hm)
    subst e
    exact sx_iF_s (aT_397 pc) h
  · cases h
def aS_398 (pc : Nat) : sx_IL := (if pc < 188 then (if pc < 85 then (if pc < 43 then (if pc < 21 then (if pc < 11 then aI_398_0 else aI_398_1) else (if pc < 31 then aI_398_2 else aI_398_3)) else (if pc < 61 then (if pc < 51 then aI_398_4 else aI_398_5) else (if pc < 73 then aI_398_6 else aI_398_7))) else (if pc < 131 then (if pc < 106 then (if pc < 97 then aI_398_8 else aI_398_9) else (if pc < 120 then aI_398_10 else aI_398_11)) else (if pc < 156 then (if pc < 141 then aI_398_12 else aI_398_13) else (if pc < 167 then aI_398_14 else (if pc < 177 then aI_398_15 else aI_398_16))))) else (if pc < 283 then (if pc < 231 then (if pc < 211 then (if pc < 200 then aI_398_17 else aI_398_18) else (if pc < 220 then aI_398_19 else aI_398_20)) else (if pc < 250 then (if pc < 242 then aI_398_21 else aI_398_22) else (if pc < 263 then aI_398_23 else (if pc < 273 then aI_398_24 else aI_398_25)))) else (if pc < 328 then (if pc < 304 then (if pc < 293 then aI_398_26 else aI_398_27) else (if pc < 314 then aI_398_28 else aI_398_29)) else (if pc < 346 then (if pc < 337 then aI_398_30 else aI_398_31) else (if pc < 355 then aI_398_32 else (if pc < 369 then aI_398_33 else aI_398_34))))))
theorem aT_398 (pc : Nat) : sx_iOk prog_14_method_77_code (aS_398 pc) := (sx_ite (p := fun l => sx_iOk prog_14_method_77_code l) (sx_ite (p := fun l => sx_iOk prog_14_method_77_code l) (sx_ite (p := fun l => sx_iOk prog_14_method_77_code l) (sx_ite (p := fun l => sx_iOk prog_14_method_77_code l) (sx_ite (p := fun l => sx_iOk prog_14_method_77_code l) (sx_iB_s aJ_398_0) (sx_iB_s aJ_398_1)) (sx_ite (p := fun l => sx_iOk prog_14_method_77_code l) (sx_iB_s aJ_398_2) (sx_iB_s aJ_398_3))) (sx_ite (p := fun l => sx_iOk prog_14_method_77_code l) (sx_ite (p := fun l => sx_iOk prog_14_method_77_code l) (sx_iB_s aJ_398_4) (sx_iB_s aJ_398_5)) (sx_ite (p := fun l => sx_iOk prog_14_method_77_code l) (sx_iB_s aJ_398_6) (sx_iB_s aJ_398_7)))) (sx_ite (p := fun l => sx_iOk prog_14_method_77_code l) (sx_ite (p := fun l => sx_iOk prog_14_method_77_code l) (sx_ite (p := fun l => sx_iOk prog_14_method_77_code l) (sx_iB_s aJ_398_8) (sx_iB_s aJ_398_9)) (sx_ite (p := fun l => sx_iOk prog_14_method_77_code l) (sx_iB_s aJ_398_10) (sx_iB_s aJ_398_11))) (sx_ite (p := fun l => sx_iOk prog_14_method_77_code l) (sx_ite (p := fun l => sx_iOk prog_14_method_77_code l) (sx_iB_s aJ_398_12) (sx_iB_s aJ_398_13)) (sx_ite (p := fun l => sx_iOk prog_14_method_77_code l) (sx_iB_s aJ_398_14) (sx_ite (p := fun l => sx_iOk prog_14_method_77_code l) (sx_iB_s aJ_398_15) (sx_iB_s aJ_398_16)))))) (sx_ite (p := fun l => sx_iOk prog_14_method_77_code l) (sx_ite (p := fun l => sx_iOk prog_14_method_77_code l) (sx_ite (p := fun l => sx_iOk prog_14_method_77_code l) (sx_ite (p := fun l => sx_iOk prog_14_method_77_code l) (sx_iB_s aJ_398_17) (sx_iB_s aJ_398_18)) (sx_ite (p := fun l => sx_iOk prog_14_method_77_code l) (sx_iB_s aJ_398_19) (sx_iB_s aJ_398_20))) (sx_ite (p := fun l => sx_iOk prog_14_method_77_code l) (sx_ite (p := fun l => sx_iOk prog_14_method_77_code l) (sx_iB_s aJ_398_21) (sx_iB_s aJ_398_22)) (sx_ite (p := fun l => sx_iOk prog_14_method_77_code l) (sx_iB_s aJ_398_23) (sx_ite (p := fun l => sx_iOk prog_14_method_77_code l) (sx_iB_s aJ_398_24) (sx_iB_s aJ_398_25))))) (sx_ite (p := fun l => sx_iOk prog_14_method_77_code l) (sx_ite (p := fun l => sx_iOk prog_14_method_77_code l) (sx_ite (p := fun l => sx_iOk prog_14_method_77_code l) (sx_iB_s aJ_398_26) (sx_iB_s aJ_398_27)) (sx_ite (p := fun l => sx_iOk prog_14_method_77_code l) (sx_iB_s aJ_398_28) (sx_iB_s aJ_398_29))) (sx_ite (p := fun l => sx_iOk prog_14_method_77_code l) (sx_ite (p := fun l => sx_iOk prog_14_method_77_code l) (sx_iB_s aJ_398_30) (sx_iB_s aJ_398_31)) (sx_ite (p := fun l => sx_iOk prog_14_method_77_code l) (sx_iB_s aJ_398_32) (sx_ite (p := fun l => sx_iOk prog_14_method_77_code l) (sx_iB_s aJ_398_33) (sx_iB_s aJ_398_34)))))))
def aU_398 (y pc : Nat) : Option (Instr × Nat) := if y = 398 then sx_iF (aS_398 pc) pc else none
set_option maxRecDepth 100000 in
theorem aV0_398 (y : Nat) : sx_P1 (aU_398 y) y := by
  intro pc r h mt hm
  unfold aU_398 at h
  split at h
  · rename_i hy
    subst hy
    have e : aM_398.1 = mt := Option.some.inj (show some aM_398.1 = some mt from hm)
    subst e
    exact sx_iF_s (aT_398 pc) h
  · cases h
def aS_399 (pc : Nat) : sx_IL := (if pc < 35 then (if pc < 12 then aI_399_0 else (if pc < 24 then aI_399_1 else aI_399_2)) else (if pc < 45 then aI_399_3 else (if pc < 57 then aI_399_4 else aI_399_5)))
theorem aT_399 (pc : Nat) : sx_iOk prog_14_method_81_code (aS_399 pc) := (sx_ite (p := fun l => sx_iOk prog_14_method_81_code l) (sx_ite (p := fun l => sx_iOk prog_14_method_81_code l) (sx_iB_s aJ_399_0) (sx_ite (p := fun l => sx_iOk prog_14_method_81_code l) (sx_iB_s aJ_399_1) (sx_iB_s aJ_399_2))) (sx_ite (p := fun l => sx_iOk prog_14_method_81_code l) (sx_iB_s aJ_399_3) (sx_ite (p := fun l => sx_iOk prog_14_method_81_code l) (sx_iB_s aJ_399_4) (sx_iB_s aJ_399_5))))
def aU_399 (y pc : Nat) : Option (Instr × Nat) := if y = 399 then sx_iF (aS_399 pc) pc else none
set_option maxRecDepth 100000 in
theorem aV0_399 (y : Nat) : sx_P1 (aU_399 y) y := by
  intro pc r h mt hm
  unfold aU_399 at h
  split at h
  · rename_i hy
    subst hy
    have e : aM_399.1 = mt := Option.some.inj (show some aM_399.1 = some mt from hm)
    subst e
    exact sx_iF_s (aT_399 pc) h
  · cases h
def aS_400 (pc : Nat) : sx_IL := (if pc < 42 then (if pc < 22 then (if pc < 12 then aI_400_0 else aI_400_1) else (if pc < 32 then aI_400_2 else aI_400_3)) else (if pc < 65 then (if pc < 57 then aI_400_4 else aI_400_5) else (if pc < 77 then aI_400_6 else (if pc < 87 then aI_400_7 else aI_400_8))))
theorem aT_400 (pc : Nat) : sx_iOk prog_14_method_91_code (aS_400 pc) := (sx_ite (p := fun l => sx_iOk prog_14_method_91_code l) (sx_ite (p := fun l => sx_iOk prog_14_method_91_code l) (sx_ite (p := fun l => sx_iOk prog_14_method_91_code l) (sx_iB_s aJ_400_0) (sx_iB_s aJ_400_1)) (sx_ite (p := fun l => sx_iOk prog_14_method_91_code l) (sx_iB_s aJ_400_2) (sx_iB_s aJ_400_3))) (sx_ite (p := fun l => sx_iOk prog_14_method_91_code l) (sx_ite (p := fun l => sx_iOk prog_14_method_91_code l) (sx_iB_s aJ_400_4) (sx_iB_s aJ_400_5)) (sx_ite (p := fun l => sx_iOk prog_14_method_91_code l) (sx_iB_s aJ_400_6) (sx_ite (p := fun l => sx_iOk prog_14_method_91_code l) (sx_iB_s aJ_400_7) (sx_iB_s aJ_400_8)))))
def aU_400 (y pc : Nat) : Option (Instr × Nat) := if y = 400 then sx_iF (aS_400 pc) pc else none
set_option maxRecDepth 100000 in
theorem aV0_400 (y : Nat) : sx_P1 (aU_400 y) y := by
  intro pc r h mt hm
  unfold aU_400 at h
  split at h
  · rename_i hy
    subst hy
    have e : aM_400.1 = mt := Option.some.inj (show some aM_400.1 = some mt from hm)
    subst e
    exact sx_iF_s (aT_400 pc) h
  · cases h
def aS_401 (pc : Nat) : sx_IL := (if pc < 10 then aI_401_0 else (if pc < 19 then aI_401_1 else aI_401_2))
theorem aT_401 (pc : Nat) : sx_iOk prog_14_method_86_code (aS_401 pc) := (sx_ite (p := fun l => sx_iOk prog_14_method_86_code l) (sx_iB_s aJ_401_0) (sx_ite (p := fun l => sx_iOk prog_14_method_86_code l) (sx_iB_s aJ_401_1) (sx_iB_s aJ_401_2)))
def aU_401 (y pc : Nat) : Option (Instr × Nat) := if y = 401 then sx_iF (aS_401 pc) pc else none
set_option maxRecDepth 100000 in
theorem aV0_401 (y : Nat) : sx_P1 (aU_401 y) y := by
  intro pc r h mt hm
  unfold aU_401 at h
  split at h
  · rename_i hy
    subst hy
    have e : aM_401.1 = mt := Option.some.inj (show some aM_401.1 = some mt from hm)
    subst e
    exact sx_iF_s (aT_401 pc) h
  · cases h
def aS_402 (pc : Nat) : sx_IL := (if pc < 12 then aI_402_0 else (if pc < 20 then aI_402_1 else aI_402_2))
theorem aT_402 (pc : Nat) : sx_iOk prog_14_method_82_code (aS_402 pc) := (sx_ite (p := fun l => sx_iOk prog_14_method_82_code l) (sx_iB_s aJ_402_0) (sx_ite (p := fun l => sx_iOk prog_14_method_82_code l) (sx_iB_s aJ_402_1) (sx_iB_s aJ_402_2)))
def aU_402 (y pc : Nat) : Option (Instr × Nat) := if y = 402 then sx_iF (aS_402 pc) pc else none
set_option maxRecDepth 100000 in
theorem aV0_402 (y : Nat) : sx_P1 (aU_402 y) y := by
  intro pc r h mt hm
  unfold aU_402 at h
  split at h
  · rename_i hy
    subst hy
    have e : aM_402.1 = mt := Option.some.inj (show some aM_402.1 = some mt from hm)
    subst e
    exact sx_iF_s (aT_402 pc) h
  · cases h
def aS_403 (pc : Nat) : sx_IL := (if pc < 18 then (if pc < 8 then aI_403_0 else aI_403_1) else (if pc < 29 then aI_403_2 else aI_403_3))
theorem aT_403 (pc : Nat) : sx_iOk prog_14_method_90_code (aS_403 pc) := (sx_ite (p := fun l => sx_iOk prog_14_method_90_code l) (sx_ite (p := fun l => sx_iOk prog_14_method_90_code l) (sx_iB_s aJ_403_0) (sx_iB_s aJ_403_1)) (sx_ite (p := fun l => sx_iOk prog_14_method_90_code l) (sx_iB_s aJ_403_2) (sx_iB_s aJ_403_3)))
def aU_403 (y pc : Nat) : Option (Instr × Nat) := if y = 403 then sx_iF (aS_403 pc) pc else none
set_option maxRecDepth 100000 in
theorem aV0_403 (y : Nat) : sx_P1 (aU_403 y) y := by
  intro pc r h mt hm
  unfold aU_403 at h
  split at h
  · rename_i hy
    subst hy
    have e : aM_403.1 = mt := Option.some.inj (show some aM_403.1 = some mt from hm)
    subst e
    exact sx_iF_s (aT_403 pc) h
  · cases h
def aS_404 (pc : Nat) : sx_IL := (if pc < 9 then aI_404_0 else aI_404_1)
theorem aT_404 (pc : Nat) : sx_iOk prog_14_method_85_code (aS_404 pc) := (sx_ite (p := fun l => sx_iOk prog_14_method_85_code l) (sx_iB_s aJ_404_0) (sx_iB_s aJ_404_1))
def aU_404 (y pc : Nat) : Option (Instr × Nat) := if y = 404 then sx_iF (aS_404 pc) pc else none
set_option maxRecDepth 100000 in
theorem aV0_404 (y : Nat) : sx_P1 (aU_404 y) y := by
  intro pc r h mt hm
  unfold aU_404 at h
  split at h
  · rename_i hy
    subst hy
    have e : aM_404.1 = mt := Option.some.inj (show some aM_404.1 = some mt from hm)
    subst e
    exact sx_iF_s (aT_404 pc) h
  · cases h
def aS_405 (pc : Nat) : sx_IL := (if pc < 9 then aI_405_0 else aI_405_1)
theorem aT_405 (pc : Nat) : sx_iOk prog_14_method_84_code (aS_405 pc) := (sx_ite (p := fun l => sx_iOk prog_14_method_84_code l) (sx_iB_s aJ_405_0) (sx_iB_s aJ_405_1))
def aU_405 (y pc : Nat) : Option (Instr × Nat) := if y = 405 then sx_iF (aS_405 pc) pc else none
set_option maxRecDepth 100000 in
theorem aV0_405 (y : Nat) : sx_P1 (aU_405 y) y := by
  intro pc r h mt hm
  unfold aU_405 at h
  split at h
  · rename_i hy
    subst hy
    have e : aM_405.1 = mt := Option.some.inj (show some aM_405.1 = some mt from hm)
    subst e
    exact sx_iF_s (aT_405 pc) h
  · cases h
def aS_406 (pc : Nat) : sx_IL := (if pc < 9 then aI_406_0 else aI_406_1)
theorem aT_406 (pc : Nat) : sx_iOk prog_14_method_83_code (aS_406 pc) := (sx_ite (p := fun l => sx_iOk prog_14_method_83_code l) (sx_iB_s aJ_406_0) (sx_iB_s aJ_406_1))
def aU_406 (y pc : Nat) : Option (Instr × Nat) := if y = 406 then sx_iF (aS_406 pc) pc else none
set_option maxRecDepth 100000 in
theorem aV0_406 (y : Nat) : sx_P1 (aU_406 y) y := by
  intro pc r h mt hm
  unfold aU_406 at h
  split at h
  · rename_i hy
    subst hy
    have e : aM_406.1 = mt := Option.some.inj (show some aM_406.1 = some mt from hm)
    subst e
    exact sx_iF_s (aT_406 pc) h
  · cases h
def aS_407 (pc : Nat) : sx_IL := (if pc < 66 then (if pc < 33 then (if pc < 8 then aI_407_0 else (if pc < 22 then aI_407_1 else aI_407_2)) else (if pc < 43 then aI_407_3 else (if pc < 55 then aI_407_4 else aI_407_5))) else (if pc < 100 then (if pc < 76 then aI_407_6 else (if pc < 87 then aI_407_7 else aI_407_8)) else (if pc < 126 then (if pc < 114 then aI_407_9 else aI_407_10) else (if pc < 136 then aI_407_11 else aI_407_12))))
theorem aT_407 (pc : Nat) : sx_iOk prog_14_method_89_code (aS_407 pc) := (sx_ite (p := fun l => sx_iOk prog_14_method_89_code l) (sx_ite (p := fun l => sx_iOk prog_14_method_89_code l) (sx_ite (p := fun l => sx_iOk prog_14_method_89_code l) (sx_iB_s aJ_407_0) (sx_ite (p := fun l => sx_iOk prog_14_method_89_code l) (sx_iB_s aJ_407_1) (sx_iB_s aJ_407_2))) (sx_ite (p := fun l => sx_iOk prog_14_method_89_code l) (sx_iB_s aJ_407_3) (sx_ite (p := fun l => sx_iOk prog_14_method_89_code l) (sx_iB_s aJ_407_4) (sx_iB_s aJ_407_5)))) (sx_ite (p := fun l => sx_iOk prog_14_method_89_code l) (sx_ite (p := fun l => sx_iOk prog_14_method_89_code l) (sx_iB_s aJ_407_6) (sx_ite (p := fun l => sx_iOk prog_14_method_89_code l) (sx_iB_s aJ_407_7) (sx_iB_s aJ_407_8))) (sx_ite (p := fun l => sx_iOk prog_14_method_89_code l) (sx_ite (p := fun l => sx_iOk prog_14_method_89_code l) (sx_iB_s aJ_407_9) (sx_iB_s aJ_407_10)) (sx_ite (p := fun l => sx_iOk prog_14_method_89_code l) (sx_iB_s aJ_407_11) (sx_iB_s aJ_407_12)))))
def aU_407 (y pc : Nat) : Option (Instr × Nat) := if y = 407 then sx_iF (aS_407 pc) pc else none
set_option maxRecDepth 100000 in
theorem aV0_407 (y : Nat) : sx_P1 (aU_407 y) y := by
  intro pc r h mt hm
  unfold aU_407 at h
  split at h
  · rename_i hy
    subst hy
    have e : aM_407.1 = mt := Option.some.inj (show some aM_407.1 = some mt from hm)
    subst e
    exact sx_iF_s (aT_407 pc) h
  · cases h
def aS_408 (pc : Nat) : sx_IL := (if pc < 42 then (if pc < 22 then (if pc < 10 then aI_408_0 else aI_408_1) else (if pc < 34 then aI_408_2 else aI_408_3)) else (if pc < 63 then (if pc < 53 then aI_408_4 else aI_408_5) else (if pc < 70 then aI_408_6 else aI_408_7)))
theorem aT_408 (pc : Nat) : sx_iOk prog_14_method_93_code (aS_408 pc) := (sx_ite (p := fun l => sx_iOk prog_14_method_93_code l) (sx_ite (p := fun l => sx_iOk prog_14_method_93_code l) (sx_ite (p := fun l => sx_iOk prog_14_method_93_code l) (sx_iB_s aJ_408_0) (sx_iB_s aJ_408_1)) (sx_ite (p := fun l => sx_iOk prog_14_method_93_code l) (sx_iB_s aJ_408_2) (sx_iB_s aJ_408_3))) (sx_ite (p := fun l => sx_iOk prog_14_method_93_code l) (sx_ite (p := fun l => sx_iOk prog_14_method_93_code l) (sx_iB_s aJ_408_4) (sx_iB_s aJ_408_5)) (sx_ite (p := fun l => sx_iOk prog_14_method_93_code l) (sx_iB_s aJ_408_6) (sx_iB_s aJ_408_7))))
def aU_408 (y pc : Nat) : Option (Instr × Nat) := if y = 408 then sx_iF (aS_408 pc) pc else none
set_option maxRecDepth 100000 in
theorem aV0_408 (y : Nat) : sx_P1 (aU_408 y) y := by
  intro pc r h mt hm
  unfold aU_408 at h
  split at h
  · rename_i hy
    subst hy
    have e : aM_408.1 = mt := Option.some.inj (show some aM_408.1 = some mt from hm)
    subst e
    exact sx_iF_s (aT_408 pc) h
  · cases h
def aS_409 (pc : Nat) : sx_IL := (if pc < 8 then aI_409_0 else aI_409_1)
theorem aT_409 (pc : Nat) : sx_iOk prog_14_method_92_code (aS_409 pc) := (sx_ite (p := fun l => sx_iOk prog_14_method_92_code l) (sx_iB_s aJ_409_0) (sx_iB_s aJ_409_1))
def aU_409 (y pc : Nat) : Option (Instr × Nat) := if y = 409 then sx_iF (aS_409 pc) pc else none
set_option maxRecDepth 100000 in
theorem aV0_409 (y : Nat) : sx_P1 (aU_409 y) y := by
  intro pc r h mt hm
  unfold aU_409 at h
  split at h
  · rename_i hy
    subst hy
    have e : aM_409.1 = mt := Option.some.inj (show some aM_409.1 = some mt from hm)
    subst e
    exact sx_iF_s (aT_409 pc) h
  · cases h
def aS_410 (pc : Nat) : sx_IL := (if pc < 144 then (if pc < 71 then (if pc < 37 then (if pc < 10 then aI_410_0 else (if pc < 23 then aI_410_1 else aI_410_2)) else (if pc < 52 then (if pc < 45 then aI_410_3 else aI_410_4) else (if pc < 62 then aI_410_5 else aI_410_6))) else (if pc < 104 then (if pc < 84 then aI_410_7 else (if pc < 94 then aI_410_8 else aI_410_9)) else (if pc < 125 then (if pc < 112 then aI_410_10 else aI_410_11) else (if pc < 136 then aI_410_12 else aI_410_13)))) else (if pc < 209 then (if pc < 169 then (if pc < 150 then aI_410_14 else (if pc < 161 then aI_410_15 else aI_410_16)) else (if pc < 187 then (if pc < 179 then aI_410_17 else aI_410_18) else (if pc < 198 then aI_410_19 else aI_410_20))) else (if pc < 233 then (if pc < 217 then aI_410_21 else (if pc < 223 then aI_410_22 else aI_410_23)) else (if pc < 257 then (if pc < 244 then aI_410_24 else aI_410_25) else (if pc < 268 then aI_410_26 else aI_410_27)))))
theorem aT_410 (pc : Nat) : sx_iOk prog_14_method_94_code (aS_410 pc) := (sx_ite (p := fun l => sx_iOk prog_14_method_94_code l) (sx_ite (p := fun l => sx_iOk prog_14_method_94_code l) (sx_ite (p := fun l => sx_iOk prog_14_method_94_code l) (sx_ite (p := fun l => sx_iOk prog_14_method_94_code l) (sx_iB_s aJ_410_0) (sx_ite (p := fun l => sx_iOk prog_14_method_94_code l) (sx_iB_s aJ_410_1) (sx_iB_s aJ_410_2))) (sx_ite (p := fun l => sx_iOk prog_14_method_94_code l) (sx_ite (p := fun l => sx_iOk prog_14_method_94_code l) (sx_iB_s aJ_410_3) (sx_iB_s aJ_410_4)) (sx_ite (p := fun l => sx_iOk prog_14_method_94_code l) (sx_iB_s aJ_410_5) (sx_iB_s aJ_410_6)))) (sx_ite (p := fun l => sx_iOk prog_14_method_94_code l) (sx_ite (p := fun l => sx_iOk prog_14_method_94_code l) (sx_iB_s aJ_410_7) (sx_ite (p := fun l => sx_iOk prog_14_method_94_code l) (sx_iB_s aJ_410_8) (sx_iB_s aJ_410_9))) (sx_ite (p := fun l => sx_iOk prog_14_method_94_code l) (sx_ite (p := fun l => sx_iOk prog_14_method_94_code l) (sx_iB_s aJ_410_10) (sx_iB_s aJ_410_11)) (sx_ite (p := fun l => sx_iOk prog_14_method_94_code l) (sx_iB_s aJ_410_12) (sx_iB_s aJ_410_13))))) (sx_ite (p := fun l => sx_iOk prog_14_method_94_code l) (sx_ite (p := fun l => sx_iOk prog_14_method_94_code l) (sx_ite (p := fun l => sx_iOk prog_14_method_94_code l) (sx_iB_s aJ_410_14) (sx_ite (p := fun l => sx_iOk prog_14_method_94_code l) (sx_iB_s aJ_410_15) (sx_iB_s aJ_410_16))) (sx_ite (p := fun l => sx_iOk prog_14_method_94_code l) (sx_ite (p := fun l => sx_iOk prog_14_method_94_code l) (sx_iB_s aJ_410_17) (sx_iB_s aJ_410_18)) (sx_ite (p := fun l => sx_iOk prog_14_method_94_code l) (sx_iB_s aJ_410_19) (sx_iB_s aJ_410_20)))) (sx_ite (p := fun l => sx_iOk prog_14_method_94_code l) (sx_ite (p := fun l => sx_iOk prog_14_method_94_code l) (sx_iB_s aJ_410_21) (sx_ite (p := fun l => sx_iOk prog_14_method_94_code l) (sx_iB_s aJ_410_22) (sx_iB_s aJ_410_23))) (sx_ite (p := fun l => sx_iOk prog_14_method_94_code l) (sx_ite (p := fun l => sx_iOk prog_14_method_94_code l) (sx_iB_s aJ_410_24) (sx_iB_s aJ_410_25)) (sx_ite (p := fun l => sx_iOk prog_14_method_94_code l) (sx_iB_s aJ_410_26) (sx_iB_s aJ_410_27))))))
def aU_410 (y pc : Nat) : Option (Instr × Nat) := if y = 410 then sx_iF (aS_410 pc) pc else none
set_option maxRecDepth 100000 in
theorem aV0_410 (y : Nat) : sx_P1 (aU_410 y) y := by
  intro pc r h mt hm
  unfold aU_410 at h
  split at h
  · rename_i hy
    subst hy
    have e : aM_410.1 = mt := Option.some.inj (show some aM_410.1 = some mt from hm)
    subst e
    exact sx_iF_s (aT_410 pc) h
  · cases h
def aS_411 (pc : Nat) : sx_IL := (if pc < 20 then (if pc < 10 then aI_411_0 else aI_411_1) else (if pc < 30 then aI_411_2 else aI_411_3))
theorem aT_411 (pc : Nat) : sx_iOk prog_14_method_102_code (aS_411 pc) := (sx_ite (p := fun l => sx_iOk prog_14_method_102_code l) (sx_ite (p := fun l => sx_iOk prog_14_method_102_code l) (sx_iB_s aJ_411_0) (sx_iB_s aJ_411_1)) (sx_ite (p := fun l => sx_iOk prog_14_method_102_code l) (sx_iB_s aJ_411_2) (sx_iB_s aJ_411_3)))
def aU_411 (y pc : Nat) : Option (Instr × Nat) := if y = 411 then sx_iF (aS_411 pc) pc else none
set_option maxRecDepth 100000 in
theorem aV0_411 (y : Nat) : sx_P1 (aU_411 y) y := by
  intro pc r h mt hm
  unfold aU_411 at h
  split at h
  · rename_i hy
    subst hy
    have e : aM_411.1 = mt := Option.some.inj (show some aM_411.1 = some mt from hm)
    subst e
    exact sx_iF_s (aT_411 pc) h
  · cases h
def aS_416 (pc : Nat) : sx_IL := (if pc < 22 then (if pc < 10 then aI_416_0 else aI_416_1) else (if pc < 32 then aI_416_2 else (if pc < 42 then aI_416_3 else aI_416_4)))
theorem aT_416 (pc : Nat) : sx_iOk prog_14_method_108_code (aS_416 pc) := (sx_ite (p := fun l => sx_iOk prog_14_method_108_code l) (sx_ite (p := fun l => sx_iOk prog_14_method_108_code l) (sx_iB_s aJ_416_0) (sx_iB_s aJ_416_1)) (sx_ite (p := fun l => sx_iOk prog_14_method_108_code l) (sx_iB_s aJ_416_2) (sx_ite (p := fun l => sx_iOk prog_14_method_108_code l) (sx_iB_s aJ_416_3) (sx_iB_s aJ_416_4))))
def aU_416 (y pc : Nat) : Option (Instr × Nat) := if y = 416 then sx_iF (aS_416 pc) pc else none
set_option maxRecDepth 100000 in
theorem aV0_416 (y : Nat) : sx_P1 (aU_416 y) y := by
  intro pc r h mt hm
  unfold aU_416 at h
  split at h
  · rename_i hy
    subst hy
    have e : aM_416.1 = mt := Option.some.inj (show some aM_416.1 = some mt from hm)
    subst e
    exact sx_iF_s (aT_416 pc) h
  · cases h
def aS_417 (pc : Nat) : sx_IL := (if pc < 20 then (if pc < 12 then aI_417_0 else aI_417_1) else (if pc < 32 then aI_417_2 else aI_417_3))
theorem aT_417 (pc : Nat) : sx_iOk prog_14_method_109_code (aS_417 pc) := (sx_ite (p := fun l => sx_iOk prog_14_method_109_code l) (sx_ite (p := fun l => sx_iOk prog_14_method_109_code l) (sx_iB_s aJ_417_0) (sx_iB_s aJ_417_1)) (sx_ite (p := fun l => sx_iOk prog_14_method_109_code l) (sx_iB_s aJ_417_2) (sx_iB_s aJ_417_3)))
def aU_417 (y pc : Nat) : Option (Instr × Nat) := if y = 417 then sx_iF (aS_417 pc) pc else none
set_option maxRecDepth 100000 in
theorem aV0_417 (y : Nat) : sx_P1 (aU_417 y) y := by
  intro pc r h mt hm
  unfold aU_417 at h
  split at h
  · rename_i hy
    subst hy
    have e : aM_417.1 = mt := Option.some.inj (show some aM_417.1 = some mt from hm)
    subst e
    exact sx_iF_s (aT_417 pc) h
  · cases h
def aS_418 (pc : Nat) : sx_IL := (if pc < 70 then (if pc < 34 then (if pc < 10 then aI_418_0 else (if pc < 24 then aI_418_1 else aI_418_2)) else (if pc < 46 then aI_418_3 else (if pc < 59 then aI_418_4 else aI_418_5))) else (if pc < 102 then (if pc < 80 then aI_418_6 else (if pc < 92 then aI_418_7 else aI_418_8)) else (if pc < 121 then (if pc < 112 then aI_418_9 else aI_418_10) else (if pc < 134 then aI_418_11 else aI_418_12))))
theorem aT_418 (pc : Nat) : sx_iOk prog_14_method_110_code (aS_418 pc) := (sx_ite (p := fun l => sx_iOk prog_14_method_110_code l) (sx_ite (p := fun l => sx_iOk prog_14_method_110_code l) (sx_ite (p := fun l => sx_iOk prog_14_method_110_code l) (sx_iB_s aJ_418_0) (sx_ite (p := fun l => sx_iOk prog_14_method_110_code l) (sx_iB_s aJ_418_1) (sx_iB_s aJ_418_2))) (sx_ite (p := fun l => sx_iOk prog_14_method_110_code l) (sx_iB_s aJ_418_3) (sx_ite (p := fun l => sx_iOk prog_14_method_110_code l) (sx_iB_s aJ_418_4) (sx_iB_s aJ_418_5)))) (sx_ite (p := fun l => sx_iOk prog_14_method_110_code l) (sx_ite (p := fun l => sx_iOk prog_14_method_110_code l) (sx_iB_s aJ_418_6) (sx_ite (p := fun l => sx_iOk prog_14_method_110_code l) (sx_iB_s aJ_418_7) (sx_iB_s aJ_418_8))) (sx_ite (p := fun l => sx_iOk prog_14_method_110_code l) (sx_ite (p := fun l => sx_iOk prog_14_method_110_code l) (sx_iB_s aJ_418_9) (sx_iB_s aJ_418_10)) (sx_ite (p := fun l => sx_iOk prog_14_method_110_code l) (sx_iB_s aJ_418_11) (sx_iB_s aJ_418_12)))))
def aU_418 (y pc : Nat) : Option (Instr × Nat) := if y = 418 then sx_iF (aS_418 pc) pc else none
set_option maxRecDepth 100000 in
theorem aV0_418 (y : Nat) : sx_P1 (aU_418 y) y := by
  intro pc r h mt hm
  unfold aU_418 at h
  split at h
  · rename_i hy
    subst hy
    have e : aM_418.1 = mt := Option.some.inj (show some aM_418.1 = some mt from hm)
    subst e
    exact sx_iF_s (aT_418 pc) h
  · cases h
def aS_419 (pc : Nat) : sx_IL := (if pc < 8 then aI_419_0 else aI_419_1)
theorem aT_419 (pc : Nat) : sx_iOk prog_14_method_114_code (aS_419 pc) := (sx_ite (p := fun l => sx_iOk prog_14_method_114_code l) (sx_iB_s aJ_419_0) (sx_iB_s aJ_419_1))
def aU_419 (y pc : Nat) : Option (Instr × Nat) := if y = 419 then sx_iF (aS_419 pc) pc else none
set_option maxRecDepth 100000 in
theorem aV0_419 (y : Nat) : sx_P1 (aU_419 y) y := by
  intro pc r h mt hm
  unfold aU_419 at h
  split at h
  · rename_i hy
    subst hy
    have e : aM_419.1 = mt := Option.some.inj (show some aM_419.1 = some mt from hm)
    subst e
    exact sx_iF_s (aT_419 pc) h
  · cases h
def aS_429 (pc : Nat) : sx_IL := (if pc < 57 then (if pc < 23 then (if pc < 10 then aI_429_0 else aI_429_1) else (if pc < 33 then aI_429_2 else (if pc < 44 then aI_429_3 else aI_429_4))) else (if pc < 89 then (if pc < 65 then aI_429_5 else (if pc < 76 then aI_429_6 else aI_429_7)) else (if pc < 101 then aI_429_8 else (if pc < 115 then aI_429_9 else aI_429_10))))
theorem aT_429 (pc : Nat) : sx_iOk prog_14_method_111_code (aS_429 pc) := (sx_ite (p := fun l => sx_iOk prog_14_method_111_code l) (sx_ite (p := fun l => sx_iOk prog_14_method_111_code l) (sx_ite (p := fun l => sx_iOk prog_14_method_111_code l) (sx_iB_s aJ_429_0) (sx_iB_s aJ_429_1)) (sx_ite (p := fun l => sx_iOk prog_14_method_111_code l) (sx_iB_s aJ_429_2) (sx_ite (p := fun l => sx_iOk prog_14_method_111_code l) (sx_iB_s aJ_429_3) (sx_iB_s aJ_429_4)))) (sx_ite (p := fun l => sx_iOk prog_14_method_111_code l) (sx_ite (p := fun l => sx_iOk prog_14_method_111_code l) (sx_iB_s aJ_429_5) (sx_ite (p := fun l => sx_iOk prog_14_method_111_code l) (sx_iB_s aJ_429_6) (sx_iB_s aJ_429_7))) (sx_ite (p := fun l => sx_iOk prog_14_method_111_code l) (sx_iB_s aJ_429_8) (sx_ite (p := fun l => sx_iOk prog_14_method_111_code l) (sx_iB_s aJ_429_9) (sx_iB_s aJ_429_10)))))
def aU_429 (y pc : Nat) : Option (Instr × Nat) := if y = 429 then sx_iF (aS_429 pc) pc else none
set_option maxRecDepth 100000 in
theorem aV0_429 (y : Nat) : sx_P1 (aU_429 y) y := by
  intro pc r h mt hm
  unfold aU_429 at h
  split at h
  · rename_i hy
    subst hy
    have e : aM_429.1 = mt := Option.some.inj (show some aM_429.1 = some mt from hm)
    subst e
    exact sx_iF_s (aT_429 pc) h
  · cases h
def aS_432 (pc : Nat) : sx_IL := (if pc < 83 then (if pc < 38 then (if pc < 21 then (if pc < 10 then aI_432_0 else aI_432_1) else (if pc < 30 then aI_432_2 else aI_432_3)) else (if pc < 54 then (if pc < 48 then aI_432_4 else aI_432_5) else (if pc < 64 then aI_432_6 else (if pc < 76 then aI_432_7 else aI_432_8)))) else (if pc < 130 then (if pc < 105 then (if pc < 91 then aI_432_9 else aI_432_10) else (if pc < 114 then aI_432_11 else (if pc < 123 then aI_432_12 else aI_432_13))) else (if pc < 148 then (if pc < 139 then aI_432_14 else aI_432_15) else (if pc < 155 then aI_432_16 else (if pc < 165 then aI_432_17 else aI_432_18)))))
theorem aT_432 (pc : Nat) : sx_iOk prog_14_method_116_code (aS_432 pc) := (sx_ite (p := fun l => sx_iOk prog_14_method_116_code l) (sx_ite (p := fun l => sx_iOk prog_14_method_116_code l) (sx_ite (p := fun l => sx_iOk prog_14_method_116_code l) (sx_ite (p := fun l => sx_iOk prog_14_method_116_code l) (sx_iB_s aJ_432_0) (sx_iB_s aJ_432_1)) (sx_ite (p := fun l => sx_iOk prog_14_method_116_code l) (sx_iB_s aJ_432_2) (sx_iB_s aJ_432_3))) (sx_ite (p := fun l => sx_iOk prog_14_method_116_code l) (sx_ite (p := fun l => sx_iOk prog_14_method_116_code l) (sx_iB_s aJ_432_4) (sx_iB_s aJ_432_5)) (sx_ite (p := fun l => sx_iOk prog_14_method_116_code l) (sx_iB_s aJ_432_6) (sx_ite (p := fun l => sx_iOk prog_14_method_116_code l) (sx_iB_s aJ_432_7) (sx_iB_s aJ_432_8))))) (sx_ite (p := fun l => sx_iOk prog_14_method_116_code l) (sx_ite (p := fun l => sx_iOk prog_14_method_116_code l) (sx_ite (p := fun l => sx_iOk prog_14_method_116_code l) (sx_iB_s aJ_432_9) (sx_iB_s aJ_432_10)) (sx_ite (p := fun l => sx_iOk prog_14_method_116_code l) (sx_iB_s aJ_432_11) (sx_ite (p := fun l => sx_iOk prog_14_method_116_code l) (sx_iB_s aJ_432_12) (sx_iB_s aJ_432_13)))) (sx_ite (p := fun l => sx_iOk prog_14_method_116_code l) (sx_ite (p := fun l => sx_iOk prog_14_method_116_code l) (sx_iB_s aJ_432_14) (sx_iB_s aJ_432_15)) (sx_ite (p := fun l => sx_iOk prog_14_method_116_code l) (sx_iB_s aJ_432_16) (sx_ite (p := fun l => sx_iOk prog_14_method_116_code l) (sx_iB_s aJ_432_17) (sx_iB_s aJ_432_18))))))
def aU_432 (y pc : Nat) : Option (Instr × Nat) := if y = 432 then sx_iF (aS_432 pc) pc else none
set_option maxRecDepth 100000 in
theorem aV0_432 (y : Nat) : sx_P1 (aU_432 y) y := by
  intro pc r h mt hm
  unfold aU_432 at h
  split at h
  · rename_i hy
    subst hy
    have e : aM_432.1 = mt := Option.some.inj (show some aM_432.1 = some mt from hm)
    subst e
    exact sx_iF_s (aT_432 pc) h
  · cases h
def aS_433 (pc : Nat) : sx_IL := (if pc < 97 then (if pc < 42 then (if pc < 22 then (if pc < 10 then aI_433_0 else aI_433_1) else (if pc < 31 then aI_433_2 else aI_433_3)) else (if pc < 65 then (if pc < 52 then aI_433_4 else aI_433_5) else (if pc < 77 then aI_433_6 else (if pc < 86 then aI_433_7 else aI_433_8)))) else (if pc < 152 then (if pc < 120 then (if pc < 106 then aI_433_9 else aI_433_10) else (if pc < 131 then aI_433_11 else (if pc < 142 then aI_433_12 else aI_433_13))) else (if pc < 171 then (if pc < 165 then aI_433_14 else aI_433_15) else (if pc < 183 then aI_433_16 else (if pc < 193 then aI_433_17 else aI_433_18)))))
theorem aT_433 (pc : Nat) : sx_iOk prog_14_method_117_code (aS_433 pc) := (sx_ite (p := fun l => sx_iOk prog_14_method_117_code l) (sx_ite (p := fun l => sx_iOk prog_14_method_117_code l) (sx_ite (p := fun l => sx_iOk prog_14_method_117_code l) (sx_ite (p := fun l => sx_iOk prog_14_method_117_code l) (sx_iB_s aJ_433_0) (sx_iB_s aJ_433_1)) (sx_ite (p := fun l => sx_iOk prog_14_method_117_code l) (sx_iB_s aJ_433_2) (sx_iB_s aJ_433_3))) (sx_ite (p := fun l => sx_iOk prog_14_method_117_code l) (sx_ite (p := fun l => sx_iOk prog_14_method_117_code l) (sx_iB_s aJ_433_4) (sx_iB_s aJ_433_5)) (sx_ite (p := fun l => sx_iOk prog_14_method_117_code l) (sx_iB_s aJ_433_6) (sx_ite (p := fun l => sx_iOk prog_14_method_117_code l) (sx_iB_s aJ_433_7) (sx_iB_s aJ_433_8))))) (sx_ite (p := fun l => sx_iOk prog_14_method_117_code l) (sx_ite (p := fun l => sx_iOk prog_14_method_117_code l) (sx_ite (p := fun l => sx_iOk prog_14_method_117_code l) (sx_iB_s aJ_433_9) (sx_iB_s aJ_433_10)) (sx_ite (p := fun l => sx_iOk prog_14_method_117_code l) (sx_iB_s aJ_433_11) (sx_ite (p := fun l => sx_iOk prog_14_method_117_code l) (sx_iB_s aJ_433_12) (sx_iB_s aJ_433_13)))) (sx_ite (p := fun l => sx_iOk prog_14_method_117_code l) (sx_ite (p := fun l => sx_iOk prog_14_method_117_code l) (sx_iB_s aJ_433_14) (sx_iB_s aJ_433_15)) (sx_ite (p := fun l => sx_iOk prog_14_method_117_code l) (sx_iB_s aJ_433_16) (sx_ite (p := fun l => sx_iOk prog_14_method_117_code l) (sx_iB_s aJ_433_17) (sx_iB_s aJ_433_18))))))
def aU_433 (y pc : Nat) : Option (Instr × Nat) := if y = 433 then sx_iF (aS_433 pc) pc else none
set_option maxRecDepth 100000 in
theorem aV0_433 (y : Nat) : sx_P1 (aU_433 y) y := by
  intro pc r h mt hm
  unfold aU_433 at h
  split at h
  · rename_i hy
    subst hy
    have e : aM_433.1 = mt := Option.some.inj (show some aM_433.1 = some mt from hm)
    subst e
    exact sx_iF_s (aT_433 pc) h
  · cases h
def aS_434 (pc : Nat) : sx_IL := (if pc < 86 then (if pc < 43 then (if pc < 22 then (if pc < 10 then aI_434_0 else aI_434_1) else (if pc < 33 then aI_434_2 else aI_434_3)) else (if pc < 66 then (if pc < 55 then aI_434_4 else aI_434_5) else (if pc < 76 then aI_434_6 else aI_434_7))) else (if pc < 137 then (if pc < 114 then (if pc < 100 then aI_434_8 else aI_434_9) else (if pc < 126 then aI_434_10 else aI_434_11)) else (if pc < 153 then (if pc < 146 then aI_434_12 else aI_434_13) else (if pc < 162 then aI_434_14 else aI_434_15))))
theorem aT_434 (pc : Nat) : sx_iOk prog_14_method_119_code (aS_434 pc) := (sx_ite (p := fun l => sx_iOk prog_14_method_119_code l) (sx_ite (p := fun l => sx_iOk prog_14_method_119_code l) (sx_ite (p := fun l => sx_iOk prog_14_method_119_code l) (sx_ite (p := fun l => sx_iOk prog_14_method_119_code l) (sx_iB_s aJ_434_0) (sx_iB_s aJ_434_1)) (sx_ite (p := fun l => sx_iOk prog_14_method_119_code l) (sx_iB_s aJ_434_2) (sx_iB_s aJ_434_3))) (sx_ite (p := fun l => sx_iOk prog_14_method_119_code l) (sx_ite (p := fun l => sx_iOk prog_14_method_119_code l) (sx_iB_s aJ_434_4) (sx_iB_s aJ_434_5)) (sx_ite (p := fun l => sx_iOk prog_14_method_119_code l) (sx_iB_s aJ_434_6) (sx_iB_s aJ_434_7)))) (sx_ite (p := fun l => sx_iOk prog_14_method_119_code l) (sx_ite (p := fun l => sx_iOk prog_14_method_119_code l) (sx_ite (p := fun l => sx_iOk prog_14_method_119_code l) (sx_iB_s aJ_434_8) (sx_iB_s aJ_434_9)) (sx_ite (p := fun l => sx_iOk prog_14_method_119_code l) (sx_iB_s aJ_434_10) (sx_iB_s aJ_434_11))) (sx_ite (p := fun l => sx_iOk prog_14_method_119_code l) (sx_ite (p := fun l => sx_iOk prog_14_method_119_code l) (sx_iB_s aJ_434_12) (sx_iB_s aJ_434_13)) (sx_ite (p := fun l => sx_iOk prog_14_method_119_code l) (sx_iB_s aJ_434_14) (sx_iB_s aJ_434_15)))))
def aU_434 (y pc : Nat) : Option (Instr × Nat) := if y = 434 then sx_iF (aS_434 pc) pc else none
set_option maxRecDepth 100000 in
theorem aV0_434 (y : Nat) : sx_P1 (aU_434 y) y := by
  intro pc r h mt hm
  unfold aU_434 at h
  split at h
  · rename_i hy
    subst hy
    have e : aM_434.1 = mt := Option.some.inj (show some aM_434.1 = some mt from hm)
    subst e
    exact sx_iF_s (aT_434 pc) h
  · cases h
def aS_435 (pc : Nat) : sx_IL := (if pc < 53 then (if pc < 20 then (if pc < 10 then aI_435_0 else aI_435_1) else (if pc < 31 then aI_435_2 else (if pc < 41 then aI_435_3 else aI_435_4))) else (if pc < 71 then (if pc < 59 then aI_435_5 else aI_435_6) else (if pc < 79 then aI_435_7 else (if pc < 89 then aI_435_8 else aI_435_9))))
theorem aT_435 (pc : Nat) : sx_iOk prog_14_method_120_code (aS_435 pc) := (sx_ite (p := fun l => sx_iOk prog_14_method_120_code l) (sx_ite (p := fun l => sx_iOk prog_14_method_120_code l) (sx_ite (p := fun l => sx_iOk prog_14_method_120_code l) (sx_iB_s aJ_435_0) (sx_iB_s aJ_435_1)) (sx_ite (p := fun l => sx_iOk prog_14_method_120_code l) (sx_iB_s aJ_435_2) (sx_ite (p := fun l => sx_iOk prog_14_method_120_code l) (sx_iB_s aJ_435_3) (sx_iB_s aJ_435_4)))) (sx_ite (p := fun l => sx_iOk prog_14_method_120_code l) (sx_ite (p := fun l => sx_iOk prog_14_method_120_code l) (sx_iB_s aJ_435_5) (sx_iB_s aJ_435_6)) (sx_ite (p := fun l => sx_iOk prog_14_method_120_code l) (sx_iB_s aJ_435_7) (sx_ite (p := fun l => sx_iOk prog_14_method_120_code l) (sx_iB_s aJ_435_8) (sx_iB_s aJ_435_9)))))
def aU_435 (y pc : Nat) : Option (Instr × Nat) := if y = 435 then sx_iF (aS_435 pc) pc else none
set_option maxRecDepth 100000 in
theorem aV0_435 (y : Nat) : sx_P1 (aU_435 y) y := by
  intro pc r h mt hm
  unfold aU_435 at h
  split at h
  · rename_i hy
    subst hy
    have e : aM_435.1 = mt := Option.some.inj (show some aM_435.1 = some mt from hm)
    subst e
    exact sx_iF_s (aT_435 pc) h
  · cases h
def aS_436 (pc : Nat) : sx_IL := (if pc < 33 then (if pc < 10 then aI_436_0 else (if pc < 20 then aI_436_1 else aI_436_2)) else (if pc < 49 then (if pc < 41 then aI_436_3 else aI_436_4) else (if pc < 55 then aI_436_5 else aI_436_6)))
theorem aT_436 (pc : Nat) : sx_iOk prog_14_method_124_code (aS_436 pc) := (sx_ite (p := fun l => sx_iOk prog_14_method_124_code l) (sx_ite (p := fun l => sx_iOk prog_14_method_124_code l) (sx_iB_s aJ_436_0) (sx_ite (p := fun l => sx_iOk prog_14_method_124_code l) (sx_iB_s aJ_436_1) (sx_iB_s aJ_436_2))) (sx_ite (p := fun l => sx_iOk prog_14_method_124_code l) (sx_ite (p := fun l => sx_iOk prog_14_method_124_code l) (sx_iB_s aJ_436_3) (sx_iB_s aJ_436_4)) (sx_ite (p := fun l => sx_iOk prog_14_method_124_code l) (sx_iB_s aJ_436_5) (sx_iB_s aJ_436_6))))
def aU_436 (y pc : Nat) : Option (Instr × Nat) := if y = 436 then sx_iF (aS_436 pc) pc else none
set_option maxRecDepth 100000 in
theorem aV0_436 (y : Nat) : sx_P1 (aU_436 y) y := by
  intro pc r h mt hm
  unfold aU_436 at h
  split at h
  · rename_i hy
    subst hy
    have e : aM_436.1 = mt := Option.some.inj (show some aM_436.1 = some mt from hm)
    subst e
    exact sx_iF_s (aT_436 pc) h
  · cases h
def aS_437 (pc : Nat) : sx_IL := (if pc < 64 then (if pc < 36 then (if pc < 12 then aI_437_0 else (if pc < 22 then aI_437_1 else aI_437_2)) else (if pc < 47 then aI_437_3 else (if pc < 55 then aI_437_4 else aI_437_5))) else (if pc < 92 then (if pc < 72 then aI_437_6 else (if pc < 84 then aI_437_7 else aI_437_8)) else (if pc < 104 then aI_437_9 else (if pc < 112 then aI_437_10 else aI_437_11))))
theorem aT_437 (pc : Nat) : sx_iOk prog_14_method_125_code (aS_437 pc) := (sx_ite (p := fun l => sx_iOk prog_14_method_125_code l) (sx_ite (p := fun l => sx_iOk prog_14_method_125_code l) (sx_ite (p := fun l => sx_iOk prog_14_method_125_code l) (sx_iB_s aJ_437_0) (sx_ite (p := fun l => sx_iOk prog_14_method_125_code l) (sx_iB_s aJ_437_1) (sx_iB_s aJ_437_2))) (sx_ite (p := fun l => sx_iOk prog_14_method_125_code l) (sx_iB_s aJ_437_3) (sx_ite (p := fun l => sx_iOk prog_14_method_125_code l) (sx_iB_s aJ_437_4) (sx_iB_s aJ_437_5)))) (sx_ite (p := fun l => sx_iOk prog_14_method_125_code l) (sx_ite (p := fun l => sx_iOk prog_14_method_125_code l) (sx_iB_s aJ_437_6) (sx_ite (p := fun l => sx_iOk prog_14_method_125_code l) (sx_iB_s aJ_437_7) (sx_iB_s aJ_437_8))) (sx_ite (p := fun l => sx_iOk prog_14_method_125_code l) (sx_iB_s aJ_437_9) (sx_ite (p := fun l => sx_iOk prog_14_method_125_code l) (sx_iB_s aJ_437_10) (sx_iB_s aJ_437_11)))))
def aU_437 (y pc : Nat) : Option (Instr × Nat) := if y = 437 then sx_iF (aS_437 pc) pc else none
set_option maxRecDepth 100000 in
theorem aV0_437 (y : Nat) : sx_P1 (aU_437 y) y := by
  intro pc r h mt hm
  unfold aU_437 at h
  split at h
  · rename_i hy
    subst hy
    have e : aM_437.1 = mt := Option.some.inj (show some aM_437.1 = some mt from hm)
    subst e
    exact sx_iF_s (aT_437 pc) h
  · cases h
def aS_438 (pc : Nat) : sx_IL := (if pc < 44 then (if pc < 20 then (if pc < 12 then aI_438_0 else aI_438_1) else (if pc < 33 then aI_438_2 else aI_438_3)) else (if pc < 65 then (if pc < 52 then aI_438_4 else aI_438_5) else (if pc < 73 then aI_438_6 else (if pc < 83 then aI_438_7 else aI_438_8))))
theorem aT_438 (pc : Nat) : sx_iOk prog_14_method_126_code (aS_438 pc) := (sx_ite (p := fun l => sx_iOk prog_14_method_126_code l) (sx_ite (p := fun l => sx_iOk prog_14_method_126_code l) (sx_ite (p := fun l => sx_iOk prog_14_method_126_code l) (sx_iB_s aJ_438_0) (sx_iB_s aJ_438_1)) (sx_ite (p := fun l => sx_iOk prog_14_method_126_code l) (sx_iB_s aJ_438_2) (sx_iB_s aJ_438_3))) (sx_ite (p := fun l => sx_iOk prog_14_method_126_code l) (sx_ite (p := fun l => sx_iOk prog_14_method_126_code l) (sx_iB_s aJ_438_4) (sx_iB_s aJ_438_5)) (sx_ite (p := fun l => sx_iOk prog_14_method_126_code l) (sx_iB_s aJ_438_6) (sx_ite (p := fun l => sx_iOk prog_14_method_126_code l) (sx_iB_s aJ_438_7) (sx_iB_s aJ_438_8)))))
def aU_438 (y pc : Nat) : Option (Instr × Nat) := if y = 438 then sx_iF (aS_438 pc) pc else none
set_option maxRecDepth 100000 in
theorem aV0_438 (y : Nat) : sx_P1 (aU_438 y) y := by
  intro pc r h mt hm
  unfold aU_438 at h
  split at h
  · rename_i hy
    subst hy
    have e : aM_438.1 = mt := Option.some.inj (show some aM_438.1 = some mt from hm)
    subst e
    exact sx_iF_s (aT_438 pc) h
  · cases h
def aS_439 (pc : Nat) : sx_IL := (if pc < 96 then (if pc < 43 then (if pc < 20 then (if pc < 10 then aI_439_0 else aI_439_1) else (if pc < 32 then aI_439_2 else aI_439_3)) else (if pc < 62 then (if pc < 54 then aI_439_4 else aI_439_5) else (if pc < 72 then aI_439_6 else (if pc < 82 then aI_439_7 else aI_439_8)))) else (if pc < 146 then (if pc < 116 then (if pc < 106 then aI_439_9 else aI_439_10) else (if pc < 127 then aI_439_11 else (if pc < 136 then aI_439_12 else aI_439_13))) else (if pc < 165 then (if pc < 157 then aI_439_14 else aI_439_15) else (if pc < 177 then aI_439_16 else (if pc < 185 then aI_439_17 else aI_439_18)))))
theorem aT_439 (pc : Nat) : sx_iOk prog_14_method_127_code (aS_439 pc) := (sx_ite (p := fun l => sx_iOk prog_14_method_127_code l) (sx_ite (p := fun l => sx_iOk prog_14_method_127_code l) (sx_ite (p := fun l => sx_iOk prog_14_method_127_code l) (sx_ite (p := fun l => sx_iOk prog_14_method_127_code l) (sx_iB_s aJ_439_0) (sx_iB_s aJ_439_1)) (sx_ite (p := fun l => sx_iOk prog_14_method_127_code l) (sx_iB_s aJ_439_2) (sx_iB_s aJ_439_3))) (sx_ite (p := fun l => sx_iOk prog_14_method_127_code l) (sx_ite (p := fun l => sx_iOk prog_14_method_127_code l) (sx_iB_s aJ_439_4) (sx_iB_s aJ_439_5)) (sx_ite (p := fun l => sx_iOk prog_14_method_127_code l) (sx_iB_s aJ_439_6) (sx_ite (p := fun l => sx_iOk prog_14_method_127_code l) (sx_iB_s aJ_439_7) (sx_iB_s aJ_439_8))))) (sx_ite (p := fun l => sx_iOk prog_14_method_127_code l) (sx_ite (p := fun l => sx_iOk prog_14_method_127_code l) (sx_ite (p := fun l => sx_iOk prog_14_method_127_code l) (sx_iB_s aJ_439_9) (sx_iB_s aJ_439_10)) (sx_ite (p := fun l => sx_iOk prog_14_method_127_code l) (sx_iB_s aJ_439_11) (sx_ite (p := fun l => sx_iOk prog_14_method_127_code l) (sx_iB_s aJ_439_12) (sx_iB_s aJ_439_13)))) (sx_ite (p := fun l => sx_iOk prog_14_method_127_code l) (sx_ite (p := fun l => sx_iOk prog_14_method_127_code l) (sx_iB_s aJ_439_14) (sx_iB_s aJ_439_15)) (sx_ite (p := fun l => sx_iOk prog_14_method_127_code l) (sx_iB_s aJ_439_16) (sx_ite (p := fun l => sx_iOk prog_14_method_127_code l) (sx_iB_s aJ_439_17) (sx_iB_s aJ_439_18))))))
def aU_439 (y pc : Nat) : Option (Instr × Nat) := if y = 439 then sx_iF (aS_439 pc) pc else none
set_option maxRecDepth 100000 in
theorem aV0_439 (y : Nat) : sx_P1 (aU_439 y) y := by
  intro pc r h mt hm
  unfold aU_439 at h
  split at h
  · rename_i hy
    subst hy
    have e : aM_439.1 = mt := Option.some.inj (show some aM_439.1 = some mt from hm)
    subst e
    exact sx_iF_s (aT_439 pc) h
  · cases h
def aS_440 (pc : Nat) : sx_IL := (if pc < 102 then (if pc < 50 then (if pc < 28 then (if pc < 10 then aI_440_0 else (if pc < 18 then aI_440_1 else aI_440_2)) else (if pc < 36 then aI_440_3 else (if pc < 43 then aI_440_4 else aI_440_5))) else (if pc < 78 then (if pc < 60 then aI_440_6 else (if pc < 70 then aI_440_7 else aI_440_8)) else (if pc < 86 then aI_440_9 else (if pc < 94 then aI_440_10 else aI_440_11)))) else (if pc < 160 then (if pc < 132 then (if pc < 112 then aI_440_12 else (if pc < 119 then aI_440_13 else aI_440_14)) else (if pc < 141 then aI_440_15 else (if pc < 150 then aI_440_16 else aI_440_17))) else (if pc < 187 then (if pc < 172 then aI_440_18 else (if pc < 179 then aI_440_19 else aI_440_20)) else (if pc < 198 then aI_440_21 else (if pc < 210 then aI_440_22 else aI_440_23)))))
theorem aT_440 (pc : Nat) : sx_iOk prog_14_method_128_code (aS_440 pc) := (sx_ite (p := fun l => sx_iOk prog_14_method_128_code l) (sx_ite (p := fun l => sx_iOk prog_14_method_128_code l) (sx_ite (p := fun l => sx_iOk prog_14_method_128_code l) (sx_ite (p := fun l => sx_iOk prog_14_method_128_code l) (sx_iB_s aJ_440_0) (sx_ite (p := fun l => sx_iOk prog_14_method_128_code l) (sx_iB_s aJ_440_1) (sx_iB_s aJ_440_2))) (sx_ite (p := fun l => sx_iOk prog_14_method_128_code l) (sx_iB_s aJ_440_3) (sx_ite (p := fun l => sx_iOk prog_14_method_128_code l) (sx_iB_s aJ_440_4) (sx_iB_s aJ_440_5)))) (sx_ite (p := fun l => sx_iOk prog_14_method_128_code l) (sx_ite (p := fun l => sx_iOk prog_14_method_128_code l) (sx_iB_s aJ_440_6) (sx_ite (p := fun l => sx_iOk prog_14_method_128_code l) (sx_iB_s aJ_440_7) (sx_iB_s aJ_440_8))) (sx_ite (p := fun l => sx_iOk prog_14_method_128_code l) (sx_iB_s aJ_440_9) (sx_ite (p := fun l => sx_iOk prog_14_method_128_code l) (sx_iB_s aJ_440_10) (sx_iB_s aJ_440_11))))) (sx_ite (p := fun l => sx_iOk prog_14_method_128_code l) (sx_ite (p := fun l => sx_iOk prog_14_method_128_code l) (sx_ite (p := fun l => sx_iOk prog_14_method_128_code l) (sx_iB_s aJ_440_12) (sx_ite (p := fun l => sx_iOk prog_14_method_128_code l) (sx_iB_s aJ_440_13) (sx_iB_s aJ_440_14))) (sx_ite (p := fun l => sx_iOk prog_14_method_128_code l) (sx_iB_s aJ_440_15) (sx_ite (p := fun l => sx_iOk prog_14_method_128_code l) (sx_iB_s aJ_440_16) (sx_iB_s aJ_440_17)))) (sx_ite (p := fun l => sx_iOk prog_14_method_128_code l) (sx_ite (p := fun l => sx_iOk prog_14_method_128_code l) (sx_iB_s aJ_440_18) (sx_ite (p := fun l => sx_iOk prog_14_method_128_code l) (sx_iB_s aJ_440_19) (sx_iB_s aJ_440_20))) (sx_ite (p := fun l => sx_iOk prog_14_method_128_code l) (sx_iB_s aJ_440_21) (sx_ite (p := fun l => sx_iOk prog_14_method_128_code l) (sx_iB_s aJ_440_22) (sx_iB_s aJ_440_23))))))
def aU_440 (y pc : Nat) : Option (Instr × Nat) := if y = 440 then sx_iF (aS_440 pc) pc else none
set_option maxRecDepth 100000 in
theorem aV0_440 (y : Nat) : sx_P1 (aU_440 y) y := by
  intro pc r h mt hm
  unfold aU_440 at h
  split at h
  · rename_i hy
    subst hy
    have e : aM_440.1 = mt := Option.some.inj (show some aM_440.1 = some mt from hm)
    subst e
    exact sx_iF_s (aT_440 pc) h
  · cases h
def aS_441 (pc : Nat) : sx_IL := (if pc < 71 then (if pc < 28 then (if pc < 10 then aI_441_0 else (if pc < 18 then aI_441_1 else aI_441_2)) else (if pc < 48 then (if pc < 40 then aI_441_3 else aI_441_4) else (if pc < 59 then aI_441_5 else aI_441_6))) else (if pc < 105 then (if pc < 83 then aI_441_7 else (if pc < 91 then aI_441_8 else aI_441_9)) else (if pc < 127 then (if pc < 116 then aI_441_10 else aI_441_11) else (if pc < 139 then aI_441_12 else aI_441_13))))
theorem aT_441 (pc : Nat) : sx_iOk prog_14_method_129_code (aS_441 pc) := (sx_ite (p := fun l => sx_iOk prog_14_method_129_code l) (sx_ite (p := fun l => sx_iOk prog_14_method_129_code l) (sx_ite (p := fun l => sx_iOk prog_14_method_129_code l) (sx_iB_s aJ_441_0) (sx_ite (p := fun l => sx_iOk prog_14_method_129_code l) (sx_iB_s aJ_441_1) (sx_iB_s aJ_441_2))) (sx_ite (p := fun l => sx_iOk prog_14_method_129_code l) (sx_ite (p := fun l => sx_iOk prog_14_method_129_code l) (sx_iB_s aJ_441_3) (sx_iB_s aJ_441_4)) (sx_ite (p := fun l => sx_iOk prog_14_method_129_code l) (sx_iB_s aJ_441_5) (sx_iB_s aJ_441_6)))) (sx_ite (p := fun l => sx_iOk prog_14_method_129_code l) (sx_ite (p := fun l => sx_iOk prog_14_method_129_code l) (sx_iB_s aJ_441_7) (sx_ite (p := fun l => sx_iOk prog_14_method_129_code l) (sx_iB_s aJ_441_8) (sx_iB_s aJ_441_9))) (sx_ite (p := fun l => sx_iOk prog_14_method_129_code l) (sx_ite (p := fun l => sx_iOk prog_14_method_129_code l) (sx_iB_s aJ_441_10) (sx_iB_s aJ_441_11)) (sx_ite (p := fun l => sx_iOk prog_14_method_129_code l) (sx_iB_s aJ_441_12) (sx_iB_s aJ_441_13)))))
def aU_441 (y pc : Nat) : Option (Instr × Nat) := if y = 441 then sx_iF (aS_441 pc) pc else none
set_option maxRecDepth 100000 in
theorem aV0_441 (y : Nat) : sx_P1 (aU_441 y) y := by
  intro pc r h mt hm
  unfold aU_441 at h
  split at h
  · rename_i hy
    subst hy
    have e : aM_441.1 = mt := Option.some.inj (show some aM_441.1 = some mt from hm)
    subst e
    exact sx_iF_s (aT_441 pc) h
  · cases h
def aS_442 (pc : Nat) : sx_IL := (if pc < 43 then (if pc < 20 then (if pc < 12 then aI_442_0 else aI_442_1) else (if pc < 33 then aI_442_2 else aI_442_3)) else (if pc < 63 then (if pc < 53 then aI_442_4 else aI_442_5) else (if pc < 73 then aI_442_6 else (if pc < 85 then aI_442_7 else aI_442_8))))
theorem aT_442 (pc : Nat) : sx_iOk prog_14_method_130_code (aS_442 pc) := (sx_ite (p := fun l => sx_iOk prog_14_method_130_code l) (sx_ite (p := fun l => sx_iOk prog_14_method_130_code l) (sx_ite (p := fun l => sx_iOk prog_14_method_130_code l) (sx_iB_s aJ_442_0) (sx_iB_s aJ_442_1)) (sx_ite (p := fun l => sx_iOk prog_14_method_130_code l) (sx_iB_s aJ_442_2) (sx_iB_s aJ_442_3))) (sx_ite (p := fun l => sx_iOk prog_14_method_130_code l) (sx_ite (p := fun l => sx_iOk prog_14_method_130_code l) (sx_iB_s aJ_442_4) (sx_iB_s aJ_442_5)) (sx_ite (p := fun l => sx_iOk prog_14_method_130_code l) (sx_iB_s aJ_442_6) (sx_ite (p := fun l => sx_iOk prog_14_method_130_code l) (sx_iB_s aJ_442_7) (sx_iB_s aJ_442_8)))))
def aU_442 (y pc : Nat) : Option (Instr × Nat) := if y = 442 then sx_iF (aS_442 pc) pc else none
set_option maxRecDepth 100000 in
theorem aV0_442 (y : Nat) : sx_P1 (aU_442 y) y := by
  intro pc r h mt hm
  unfold aU_442 at h
  split at h
  · rename_i hy
    subst hy
    have e : aM_442.1 = mt := Option.some.inj (show some aM_442.1 = some mt from hm)
    subst e
    exact sx_iF_s (aT_442 pc) h
  · cases h
def aS_443 (pc : Nat) : sx_IL := (if pc < 74 then (if pc < 35 then (if pc < 12 then aI_443_0 else (if pc < 24 then aI_443_1 else aI_443_2)) else (if pc < 54 then (if pc < 43 then aI_443_3 else aI_443_4) else (if pc < 63 then aI_443_5 else aI_443_6))) else (if pc < 114 then (if pc < 94 then (if pc < 84 then aI_443_7 else aI_443_8) else (if pc < 104 then aI_443_9 else aI_443_10)) else (if pc < 134 then (if pc < 124 then aI_443_11 else aI_443_12) else (if pc < 142 then aI_443_13 else aI_443_14))))
theorem aT_443 (pc : Nat) : sx_iOk prog_14_method_132_code (aS_443 pc) := (sx_ite (p := fun l => sx_iOk prog_14_method_132_code l) (sx_ite (p := fun l => sx_iOk prog_14_method_132_code l) (sx_ite (p := fun l => sx_iOk prog_14_method_132_code l) (sx_iB_s aJ_443_0) (sx_ite (p := fun l => sx_iOk prog_14_method_132_code l) (sx_iB_s aJ_443_1) (sx_iB_s aJ_443_2))) (sx_ite (p := fun l => sx_iOk prog_14_method_132_code l) (sx_ite (p := fun l => sx_iOk prog_14_method_132_code l) (sx_iB_s aJ_443_3) (sx_iB_s aJ_443_4)) (sx_ite (p := fun l => sx_iOk prog_14_method_132_code l) (sx_iB_s aJ_443_5) (sx_iB_s aJ_443_6)))) (sx_ite (p := fun l => sx_iOk prog_14_method_132_code l) (sx_ite (p := fun l => sx_iOk prog_14_method_132_code l) (sx_ite (p := fun l => sx_iOk prog_14_method_132_code l) (sx_iB_s aJ_443_7) (sx_iB_s aJ_443_8)) (sx_ite (p := fun l => sx_iOk prog_14_method_132_code l) (sx_iB_s aJ_443_9) (sx_iB_s aJ_443_10))) (sx_ite (p := fun l => sx_iOk prog_14_method_132_code l) (sx_ite (p := fun l => sx_iOk prog_14_method_132_code l) (sx_iB_s aJ_443_11) (sx_iB_s aJ_443_12)) (sx_ite (p := fun l => sx_iOk prog_14_method_132_code l) (sx_iB_s aJ_443_13) (sx_iB_s aJ_443_14)))))
def aU_443 (y pc : Nat) : Option (Instr × Nat) := if y = 443 then sx_iF (aS_443 pc) pc else none
set_option maxRecDepth 100000 in
theorem aV0_443 (y : Nat) : sx_P1 (aU_443 y) y := by
  intro pc r h mt hm
  unfold aU_443 at h
  split at h
  · rename_i hy
    subst hy
    have e : aM_443.1 = mt := Option.some.inj (show some aM_443.1 = some mt from hm)
    subst e
    exact sx_iF_s (aT_443 pc) h
  · cases h
def aS_444 (pc : Nat) : sx_IL := (if pc < 31 then (if pc < 10 then aI_444_0 else (if pc < 21 then aI_444_1 else aI_444_2)) else (if pc < 47 then (if pc < 39 then aI_444_3 else aI_444_4) else (if pc < 55 then aI_444_5 else aI_444_6)))
theorem aT_444 (pc : Nat) : sx_iOk prog_14_method_133_code (aS_444 pc) := (sx_ite (p := fun l => sx_iOk prog_14_method_133_code l) (sx_ite (p := fun l => sx_iOk prog_14_method_133_code l) (sx_iB_s aJ_444_0) (sx_ite (p := fun l => sx_iOk prog_14_method_133_code l) (sx_iB_s aJ_444_1) (sx_iB_s aJ_444_2))) (sx_ite (p := fun l => sx_iOk prog_14_method_133_code l) (sx_ite (p := fun l => sx_iOk prog_14_method_133_code l) (sx_iB_s aJ_444_3) (sx_iB_s aJ_444_4)) (sx_ite (p := fun l => sx_iOk prog_14_method_133_code l) (sx_iB_s aJ_444_5) (sx_iB_s aJ_444_6))))
def aU_444 (y pc : Nat) : Option (Instr × Nat) := if y = 444 then sx_iF (aS_444 pc) pc else none
set_option maxRecDepth 100000 in
theorem aV0_444 (y : Nat) : sx_P1 (aU_444 y) y := by
  intro pc r h mt hm
  unfold aU_444 at h
  split at h
  · rename_i hy
    subst hy
    have e : aM_444.1 = mt := Option.some.inj (show some aM_444.1 = some mt from hm)
    subst e
    exact sx_iF_s (aT_444 pc) h
  · cases h
def aS_445 (pc : Nat) : sx_IL := (if pc < 8 then aI_445_0 else aI_445_1)
theorem aT_445 (pc : Nat) : sx_iOk prog_14_method_131_code (aS_445 pc) := (sx_ite (p := fun l => sx_iOk prog_14_method_131_code l) (sx_iB_s aJ_445_0) (sx_iB_s aJ_445_1))
def aU_445 (y pc : Nat) : Option (Instr × Nat) := if y = 445 then sx_iF (aS_445 pc) pc else none
set_option maxRecDepth 100000 in
theorem aV0_445 (y : Nat) : sx_P1 (aU_445 y) y := by
  intro pc r h mt hm
  unfold aU_445 at h
  split at h
  · rename_i hy
    subst hy
    have e : aM_445.1 = mt := Option.some.inj (show some aM_445.1 = some mt from hm)
    subst e
    exact sx_iF_s (aT_445 pc) h
  · cases h
def aS_446 (pc : Nat) : sx_IL := (if pc < 226 then (if pc < 104 then (if pc < 44 then (if pc < 18 then (if pc < 10 then aI_446_0 else aI_446_1) else (if pc < 28 then aI_446_2 else (if pc < 37 then aI_446_3 else aI_446_4))) else (if pc < 68 then (if pc < 54 then aI_446_5 else aI_446_6) else (if pc < 81 then aI_446_7 else (if pc < 93 then aI_446_8 else aI_446_9)))) else (if pc < 164 then (if pc < 129 then (if pc < 117 then aI_446_10 else aI_446_11) else (if pc < 142 then aI_446_12 else (if pc < 153 then aI_446_13 else aI_446_14))) else (if pc < 191 then (if pc < 177 then aI_446_15 else aI_446_16) else (if pc < 202 then aI_446_17 else (if pc < 212 then aI_446_18 else aI_446_19))))) else (if pc < 331 then (if pc < 276 then (if pc < 246 then (if pc < 235 then aI_446_20 else aI_446_21) else (if pc < 256 then aI_446_22 else (if pc < 267 then aI_446_23 else aI_446_24))) else (if pc < 299 then (if pc < 287 then aI_446_25 else aI_446_26) else (if pc < 310 then aI_446_27 else (if pc < 318 then aI_446_28 else aI_446_29)))) else (if pc < 379 then (if pc < 347 then (if pc < 341 then aI_446_30 else aI_446_31) else (if pc < 358 then aI_446_32 else (if pc < 370 then aI_446_33 else aI_446_34))) else (if pc < 396 then (if pc < 387 then aI_446_35 else aI_446_36) else (if pc < 404 then aI_446_37 else (if pc < 412 then aI_446_38 else aI_446_39))))))
theorem aT_446 (pc : Nat) : sx_iOk prog_14_method_134_code (aS_446 pc) := (sx_ite (p := fun l => sx_iOk prog_14_method_134_code l) (sx_ite (p := fun l => sx_iOk prog_14_method_134_code l) (sx_ite (p := fun l => sx_iOk prog_14_method_134_code l) (sx_ite (p := fun l => sx_iOk prog_14_method_134_code l) (sx_ite (p := fun l => sx_iOk prog_14_method_134_code l) (sx_iB_s aJ_446_0) (sx_iB_s aJ_446_1)) (sx_ite (p := fun l => sx_iOk prog_14_method_134_code l) (sx_iB_s aJ_446_2) (sx_ite (p := fun l => sx_iOk prog_14_method_134_code l) (sx_iB_s aJ_446_3) (sx_iB_s aJ_446_4)))) (sx_ite (p := fun l => sx_iOk prog_14_method_134_code l) (sx_ite (p := fun l => sx_iOk prog_14_method_134_code l) (sx_iB_s aJ_446_5) (sx_iB_s aJ_446_6)) (sx_ite (p := fun l => sx_iOk prog_14_method_134_code l) (sx_iB_s aJ_446_7) (sx_ite (p := fun l => sx_iOk prog_14_method_134_code l) (sx_iB_s aJ_446_8) (sx_iB_s aJ_446_9))))) (sx_ite (p := fun l => sx_iOk prog_14_method_134_code l) (sx_ite (p := fun l => sx_iOk prog_14_method_134_code l) (sx_ite (p := fun l => sx_iOk prog_14_method_134_code l) (sx_iB_s aJ_446_10) (sx_iB_s aJ_446_11)) (sx_ite (p := fun l => sx_iOk prog_14_method_134_code l) (sx_iB_s aJ_446_12) (sx_ite (p := fun l => sx_iOk prog_14_method_134_code l) (sx_iB_s aJ_446_13) (sx_iB_s aJ_446_14)))) (sx_ite (p := fun l => sx_iOk prog_14_method_134_code l) (sx_ite (p := fun l => sx_iOk prog_14_method_134_code l) (sx_iB_s aJ_446_15) (sx_iB_s aJ_446_16)) (sx_ite (p := fun l => sx_iOk prog_14_method_134_code l) (sx_iB_s aJ_446_17) (sx_ite (p := fun l => sx_iOk prog_14_method_134_code l) (sx_iB_s aJ_446_18) (sx_iB_s aJ_446_19)))))) (sx_ite (p := fun l => sx_iOk prog_14_method_134_code l) (sx_ite (p := fun l => sx_iOk prog_14_method_134_code l) (sx_ite (p := fun l => sx_iOk prog_14_method_134_code l) (sx_ite (p := fun l => sx_iOk prog_14_method_134_code l) (sx_iB_s aJ_446_20) (sx_iB_s aJ_446_21)) (sx_ite (p := fun l => sx_iOk prog_14_method_134_code l) (sx_iB_s aJ_446_22) (sx_ite (p := fun l => sx_iOk prog_14_method_134_code l) (sx_iB_s aJ_446_23) (sx_iB_s aJ_446_24)))) (sx_ite (p := fun l => sx_iOk prog_14_method_134_code l) (sx_ite (p := fun l => sx_iOk prog_14_method_134_code l) (sx_iB_s aJ_446_25) (sx_iB_s aJ_446_26)) (sx_ite (p := fun l => sx_iOk prog_14_method_134_code l) (sx_iB_s aJ_446_27) (sx_ite (p := fun l => sx_iOk prog_14_method_134_code l) (sx_iB_s aJ_446_28) (sx_iB_s aJ_446_29))))) (sx_ite (p := fun l => sx_iOk prog_14_method_134_code l) (sx_ite (p := fun l => sx_iOk prog_14_method_134_code l) (sx_ite (p := fun l => sx_iOk prog_14_method_134_code l) (sx_iB_s aJ_446_30) (sx_iB_s aJ_446_31)) (sx_ite (p := fun l => sx_iOk prog_14_method_134_code l) (sx_iB_s aJ_446_32) (sx_ite (p := fun l => sx_iOk prog_14_method_134_code l) (sx_iB_s aJ_446_33) (sx_iB_s aJ_446_34)))) (sx_ite (p := fun l => sx_iOk prog_14_method_134_code l) (sx_ite (p := fun l => sx_iOk prog_14_method_134_code l) (sx_iB_s aJ_446_35) (sx_iB_s aJ_446_36)) (sx_ite (p := fun l => sx_iOk prog_14_method_134_code l) (sx_iB_s aJ_446_37) (sx_ite (p := fun l => sx_iOk prog_14_method_134_code l) (sx_iB_s aJ_446_38) (sx_iB_s aJ_446_39)))))))
def aU_446 (y pc : Nat) : Option (Instr × Nat) := if y = 446 then sx_iF (aS_446 pc) pc else none
set_option maxRecDepth 100000 in
theorem aV0_446 (y : Nat) : sx_P1 (aU_446 y) y := by
  intro pc r h mt hm
  unfold aU_446 at h
  split at h
  · rename_i hy
    subst hy
    have e : aM_446.1 = mt := Option.some.inj (show some aM_446.1 = some mt from hm)
    subst e
    exact sx_iF_s (aT_446 pc) h
  · cases h
def aS_447 (pc : Nat) : sx_IL := (if pc < 84 then (if pc < 41 then (if pc < 17 then (if pc < 10 then aI_447_0 else aI_447_1) else (if pc < 28 then aI_447_2 else aI_447_3)) else (if pc < 62 then (if pc < 51 then aI_447_4 else aI_447_5) else (if pc < 75 then aI_447_6 else aI_447_7))) else (if pc < 122 then (if pc < 106 then (if pc < 96 then aI_447_8 else aI_447_9) else (if pc < 115 then aI_447_10 else aI_447_11)) else (if pc < 146 then (if pc < 134 then aI_447_12 else aI_447_13) else (if pc < 154 then aI_447_14 else aI_447_15))))
theorem aT_447 (pc : Nat) : sx_iOk prog_14_method_136_code (aS_447 pc) := (sx_ite (p := fun l => sx_iOk prog_14_method_136_code l) (sx_ite (p := fun l => sx_iOk prog_14_method_136_code l) (sx_ite (p := fun l => sx_iOk prog_14_method_136_code l) (sx_ite (p := fun l => sx_iOk prog_14_method_136_code l) (sx_iB_s aJ_447_0) (sx_iB_s aJ_447_1)) (sx_ite (p := fun l => sx_iOk prog_14_method_136_code l) (sx_iB_s aJ_447_2) (sx_iB_s aJ_447_3))) (sx_ite (p := fun l => sx_iOk prog_14_method_136_code l) (sx_ite (p := fun l => sx_iOk prog_14_method_136_code l) (sx_iB_s aJ_447_4) (sx_iB_s aJ_447_5)) (sx_ite (p := fun l => sx_iOk prog_14_method_136_code l) (sx_iB_s aJ_447_6) (sx_iB_s aJ_447_7)))) (sx_ite (p := fun l => sx_iOk prog_14_method_136_code l) (sx_ite (p := fun l => sx_iOk prog_14_method_136_code l) (sx_ite (p := fun l => sx_iOk prog_14_method_136_code l) (sx_iB_s aJ_447_8) (sx_iB_s aJ_447_9)) (sx_ite (p := fun l => sx_iOk prog_14_method_136_code l) (sx_iB_s aJ_447_10) (sx_iB_s aJ_447_11))) (sx_ite (p := fun l => sx_iOk prog_14_method_136_code l) (sx_ite (p := fun l => sx_iOk prog_14_method_136_code l) (sx_iB_s aJ_447_12) (sx_iB_s aJ_447_13)) (sx_ite (p := fun l => sx_iOk prog_14_method_136_code l) (sx_iB_s aJ_447_14) (sx_iB_s aJ_447_15)))))
def aU_447 (y pc : Nat) : Option (Instr × Nat) := if y = 447 then sx_iF (aS_447 pc) pc else none
set_option maxRecDepth 100000 in
theorem aV0_447 (y : Nat) : sx_P1 (aU_447 y) y := by
  intro pc r h mt hm
  unfold aU_447 at h
  split at h
  · rename_i hy
    subst hy
    have e : aM_447.1 = mt := Option.some.inj (show some aM_447.1 = some mt from hm)
    subst e
    exact sx_iF_s (aT_447 pc) h
  · cases h
def aS_448 (pc : Nat) : sx_IL := (if pc < 18 then (if pc < 10 then aI_448_0 else aI_448_1) else (if pc < 30 then aI_448_2 else aI_448_3))
theorem aT_448 (pc : Nat) : sx_iOk prog_14_method_135_code (aS_448 pc) := (sx_ite (p := fun l => sx_iOk prog_14_method_135_code l) (sx_ite (p := fun l => sx_iOk prog_14_method_135_code l) (sx_iB_s aJ_448_0) (sx_iB_s aJ_448_1)) (sx_ite (p := fun l => sx_iOk prog_14_method_135_code l) (sx_iB_s aJ_448_2) (sx_iB_s aJ_448_3)))
def aU_448 (y pc : Nat) : Option (Instr × Nat) := if y = 448 then sx_iF (aS_448 pc) pc else none
set_option maxRecDepth 100000 in
theorem aV0_448 (y : Nat) : sx_P1 (aU_448 y) y := by
  intro pc r h mt hm
  unfold aU_448 at h
  split at h
  · rename_i hy
    subst hy
    have e : aM_448.1 = mt := Option.some.inj (show some aM_448.1 = some mt from hm)
    subst e
    exact sx_iF_s (aT_448 pc) h
  · cases h
def aS_449 (pc : Nat) : sx_IL := (if pc < 94 then (if pc < 46 then (if pc < 24 then (if pc < 12 then aI_449_0 else aI_449_1) else (if pc < 34 then aI_449_2 else aI_449_3)) else (if pc < 70 then (if pc < 56 then aI_449_4 else aI_449_5) else (if pc < 82 then aI_449_6 else aI_449_7))) else (if pc < 137 then (if pc < 116 then (if pc < 103 then aI_449_8 else aI_449_9) else (if pc < 124 then aI_449_10 else aI_449_11)) else (if pc < 157 then (if pc < 145 then aI_449_12 else aI_449_13) else (if pc < 169 then aI_449_14 else aI_449_15))))
theorem aT_449 (pc : Nat) : sx_iOk prog_14_method_137_code (aS_449 pc) := (sx_ite (p := fun l => sx_iOk prog_14_method_137_code l) (sx_ite (p := fun l => sx_iOk prog_14_method_137_code l) (sx_ite (p := fun l => sx_iOk prog_14_method_137_code l) (sx_ite (p := fun l => sx_iOk prog_14_method_137_code l) (sx_iB_s aJ_449_0) (sx_iB_s aJ_449_1)) (sx_ite (p := fun l => sx_iOk prog_14_method_137_code l) (sx_iB_s aJ_449_2) (sx_iB_s aJ_449_3))) (sx_ite (p := fun l => sx_iOk prog_14_method_137_code l) (sx_ite (p := fun l => sx_iOk prog_14_method_137_code l) (sx_iB_s aJ_449_4) (sx_iB_s aJ_449_5)) (sx_ite (p := fun l => sx_iOk prog_14_method_137_code l) (sx_iB_s aJ_449_6) (sx_iB_s aJ_449_7)))) (sx_ite (p := fun l => sx_iOk prog_14_method_137_code l) (sx_ite (p := fun l => sx_iOk prog_14_method_137_code l) (sx_ite (p := fun l => sx_iOk prog_14_method_137_code l) (sx_iB_s aJ_449_8) (sx_iB_s aJ_449_9)) (sx_ite (p := fun l => sx_iOk prog_14_method_137_code l) (sx_iB_s aJ_449_10) (sx_iB_s aJ_449_11))) (sx_ite (p := fun l => sx_iOk prog_14_method_137_code l) (sx_ite (p := fun l => sx_iOk prog_14_method_137_code l) (sx_iB_s aJ_449_12) (sx_iB_s aJ_449_13)) (sx_ite (p := fun l => sx_iOk prog_14_method_137_code l) (sx_iB_s aJ_449_14) (sx_iB_s aJ_449_15)))))
def aU_449 (y pc : Nat) : Option (Instr × Nat) := if y = 449 then sx_iF (aS_449 pc) pc else none
set_option maxRecDepth 100000 in
theorem aV0_449 (y : Nat) : sx_P1 (aU_449 y) y := by
  intro pc r h mt hm
  unfold aU_449 at h
  split at h
  · rename_i hy
    subst hy
    have e : aM_449.1 = mt := Option.some.inj (show some aM_449.1 = some mt from hm)
    subst e
    exact sx_iF_s (aT_449 pc) h
  · cases h
def aS_450 (pc : Nat) : sx_IL := (if pc < 135 then (if pc < 64 then (if pc < 25 then (if pc < 10 then aI_450_0 else (if pc < 19 then aI_450_1 else aI_450_2)) else (if pc < 43 then (if pc < 36 then aI_450_3 else aI_450_4) else (if pc < 51 then aI_450_5 else aI_450_6))) else (if pc < 96 then (if pc < 74 then aI_450_7 else (if pc < 87 then aI_450_8 else aI_450_9)) else (if pc < 115 then (if pc < 105 then aI_450_10 else aI_450_11) else (if pc < 127 then aI_450_12 else aI_450_13)))) else (if pc < 215 then (if pc < 170 then (if pc < 148 then aI_450_14 else (if pc < 160 then aI_450_15 else aI_450_16)) else (if pc < 191 then (if pc < 180 then aI_450_17 else aI_450_18) else (if pc < 204 then aI_450_19 else aI_450_20))) else (if pc < 258 then (if pc < 239 then (if pc < 226 then aI_450_21 else aI_450_22) else (if pc < 247 then aI_450_23 else aI_450_24)) else (if pc < 282 then (if pc < 271 then aI_450_25 else aI_450_26) else (if pc < 295 then aI_450_27 else aI_450_28)))))
theorem aT_450 (pc : Nat) : sx_iOk prog_14_method_139_code (aS_450 pc) := (sx_ite (p := fun l => sx_iOk prog_14_method_139_code l) (sx_ite (p := fun l => sx_iOk prog_14_method_139_code l) (sx_ite (p := fun l => sx_iOk prog_14_method_139_code l) (sx_ite (p := fun l => sx_iOk prog_14_method_139_code l) (sx_iB_s aJ_450_0) (sx_ite (p := fun l => sx_iOk prog_14_method_139_code l) (sx_iB_s aJ_450_1) (sx_iB_s aJ_450_2))) (sx_ite (p := fun l => sx_iOk prog_14_method_139_code l) (sx_ite (p := fun l => sx_iOk prog_14_method_139_code l) (sx_iB_s aJ_450_3) (sx_iB_s aJ_450_4)) (sx_ite (p := fun l => sx_iOk prog_14_method_139_code l) (sx_iB_s aJ_450_5) (sx_iB_s aJ_450_6)))) (sx_ite (p := fun l => sx_iOk prog_14_method_139_code l) (sx_ite (p := fun l => sx_iOk prog_14_method_139_code l) (sx_iB_s aJ_450_7) (sx_ite (p := fun l => sx_iOk prog_14_method_139_code l) (sx_iB_s aJ_450_8) (sx_iB_s aJ_450_9))) (sx_ite (p := fun l => sx_iOk prog_14_method_139_code l) (sx_ite (p := fun l => sx_iOk prog_14_method_139_code l) (sx_iB_s aJ_450_10) (sx_iB_s aJ_450_11)) (sx_ite (p := fun l => sx_iOk prog_14_method_139_code l) (sx_iB_s aJ_450_12) (sx_iB_s aJ_450_13))))) (sx_ite (p := fun l => sx_iOk prog_14_method_139_code l) (sx_ite (p := fun l => sx_iOk prog_14_method_139_code l) (sx_ite (p := fun l => sx_iOk prog_14_method_139_code l) (sx_iB_s aJ_450_14) (sx_ite (p := fun l => sx_iOk prog_14_method_139_code l) (sx_iB_s aJ_450_15) (sx_iB_s aJ_450_16))) (sx_ite (p := fun l => sx_iOk prog_14_method_139_code l) (sx_ite (p := fun l => sx_iOk prog_14_method_139_code l) (sx_iB_s aJ_450_17) (sx_iB_s aJ_450_18)) (sx_ite (p := fun l => sx_iOk prog_14_method_139_code l) (sx_iB_s aJ_450_19) (sx_iB_s aJ_450_20)))) (sx_ite (p := fun l => sx_iOk prog_14_method_139_code l) (sx_ite (p := fun l => sx_iOk prog_14_method_139_code l) (sx_ite (p := fun l => sx_iOk prog_14_method_139_code l) (sx_iB_s aJ_450_21) (sx_iB_s aJ_450_22)) (sx_ite (p := fun l => sx_iOk prog_14_method_139_code l) (sx_iB_s aJ_450_23) (sx_iB_s aJ_450_24))) (sx_ite (p := fun l => sx_iOk prog_14_method_139_code l) (sx_ite (p := fun l => sx_iOk prog_14_method_139_code l) (sx_iB_s aJ_450_25) (sx_iB_s aJ_450_26)) (sx_ite (p := fun l => sx_iOk prog_14_method_139_code l) (sx_iB_s aJ_450_27) (sx_iB_s aJ_450_28))))))
def aU_450 (y pc : Nat) : Option (Instr × Nat) := if y = 450 then sx_iF (aS_450 pc) pc else none
set_option maxRecDepth 100000 in
theorem aV0_450 (y : Nat) : sx_P1 (aU_450 y) y := by
  intro pc r h mt hm
  unfold aU_450 at h
  split at h
  · rename_i hy
    subst hy
    have e : aM_450.1 = mt := Option.some.inj (show some aM_450.1 = some mt from hm)
    subst e
    exact sx_iF_s (aT_450 pc) h
  · cases h
def aS_452 (pc : Nat) : sx_IL := (if pc < 172 then (if pc < 87 then (if pc < 44 then (if pc < 25 then (if pc < 10 then aI_452_0 else aI_452_1) else (if pc < 37 then aI_452_2 else aI_452_3)) else (if pc < 66 then (if pc < 54 then aI_452_4 else aI_452_5) else (if pc < 77 then aI_452_6 else aI_452_7))) else (if pc < 128 then (if pc < 108 then (if pc < 98 then aI_452_8 else aI_452_9) else (if pc < 119 then aI_452_10 else aI_452_11)) else (if pc < 152 then (if pc < 139 then aI_452_12 else aI_452_13) else (if pc < 162 then aI_452_14 else aI_452_15)))) else (if pc < 260 then (if pc < 216 then (if pc < 194 then (if pc < 184 then aI_452_16 else aI_452_17) else (if pc < 205 then aI_452_18 else aI_452_19)) else (if pc < 235 then (if pc < 226 then aI_452_20 else aI_452_21) else (if pc < 245 then aI_452_22 else aI_452_23))) else (if pc < 302 then (if pc < 279 then (if pc < 269 then aI_452_24 else aI_452_25) else (if pc < 290 then aI_452_26 else aI_452_27)) else (if pc < 324 then (if pc < 316 then aI_452_28 else aI_452_29) else (if pc < 333 then aI_452_30 else (if pc < 343 then aI_452_31 else aI_452_32))))))
theorem aT_452 (pc : Nat) : sx_iOk prog_14_method_142_code (aS_452 pc) := (sx_ite (p := fun l => sx_iOk prog_14_method_142_code l) (sx_ite (p := fun l => sx_iOk prog_14_method_142_code l) (sx_ite (p := fun l => sx_iOk prog_14_method_142_code l) (sx_ite (p := fun l => sx_iOk prog_14_method_142_code l) (sx_ite (p := fun l => sx_iOk prog_14_method_142_code l) (sx_iB_s aJ_452_0) (sx_iB_s aJ_452_1)) (sx_ite (p := fun l => sx_iOk prog_14_method_142_code l) (sx_iB_s aJ_452_2) (sx_iB_s aJ_452_3))) (sx_ite (p := fun l => sx_iOk prog_14_method_142_code l) (sx_ite (p := fun l => sx_iOk prog_14_method_142_code l) (sx_iB_s aJ_452_4) (sx_iB_s aJ_452_5)) (sx_ite (p := fun l => sx_iOk prog_14_method_142_code l) (sx_iB_s aJ_452_6) (sx_iB_s aJ_452_7)))) (sx_ite (p := fun l => sx_iOk prog_14_method_142_code l) (sx_ite (p := fun l => sx_iOk prog_14_method_142_code l) (sx_ite (p := fun l => sx_iOk prog_14_method_142_code l) (sx_iB_s aJ_452_8) (sx_iB_s aJ_452_9)) (sx_ite (p := fun l => sx_iOk prog_14_method_142_code l) (sx_iB_s aJ_452_10) (sx_iB_s aJ_452_11))) (sx_ite (p := fun l => sx_iOk prog_14_method_142_code l) (sx_ite (p := fun l => sx_iOk prog_14_method_142_code l) (sx_iB_s aJ_452_12) (sx_iB_s aJ_452_13)) (sx_ite (p := fun l => sx_iOk prog_14_method_142_code l) (sx_iB_s aJ_452_14) (sx_iB_s aJ_452_15))))) (sx_ite (p := fun l => sx_iOk prog_14_method_142_code l) (sx_ite (p := fun l => sx_iOk prog_14_method_142_code l) (sx_ite (p := fun l => sx_iOk prog_14_method_142_code l) (sx_ite (p := fun l => sx_iOk prog_14_method_142_code l) (sx_iB_s aJ_452_16) (sx_iB_s aJ_452_17)) (sx_ite (p := fun l => sx_iOk prog_14_method_142_code l) (sx_iB_s aJ_452_18) (sx_iB_s aJ_452_19))) (sx_ite (p := fun l => sx_iOk prog_14_method_142_code l) (sx_ite (p := fun l => sx_iOk prog_14_method_142_code l) (sx_iB_s aJ_452_20) (sx_iB_s aJ_452_21)) (sx_ite (p := fun l => sx_iOk prog_14_method_142_code l) (sx_iB_s aJ_452_22) (sx_iB_s aJ_452_23)))) (sx_ite (p := fun l => sx_iOk prog_14_method_142_code l) (sx_ite (p := fun l => sx_iOk prog_14_method_142_code l) (sx_ite (p := fun l => sx_iOk prog_14_method_142_code l) (sx_iB_s aJ_452_24) (sx_iB_s aJ_452_25)) (sx_ite (p := fun l => sx_iOk prog_14_method_142_code l) (sx_iB_s aJ_452_26) (sx_iB_s aJ_452_27))) (sx_ite (p := fun l => sx_iOk prog_14_method_142_code l) (sx_ite (p := fun l => sx_iOk prog_14_method_142_code l) (sx_iB_s aJ_452_28) (sx_iB_s aJ_452_29)) (sx_ite (p := fun l => sx_iOk prog_14_method_142_code l) (sx_iB_s aJ_452_30) (sx_ite (p := fun l => sx_iOk prog_14_method_142_code l) (sx_iB_s aJ_452_31) (sx_iB_s aJ_452_32)))))))
def aU_452 (y pc : Nat) : Option (Instr × Nat) := if y = 452 then sx_iF (aS_452 pc) pc else none
set_option maxRecDepth 100000 in
theorem aV0_452 (y : Nat) : sx_P1 (aU_452 y) y := by
  intro pc r h mt hm
  unfold aU_452 at h
  split at h
  · rename_i hy
    subst hy
    have e : aM_452.1 = mt := Option.some.inj (show some aM_452.1 = some mt from hm)
    subst e
    exact sx_iF_s (aT_452 pc) h
  · cases h
def aS_457 (pc : Nat) : sx_IL := (if pc < 76 then (if pc < 39 then (if pc < 18 then (if pc < 10 then aI_457_0 else aI_457_1) else (if pc < 28 then aI_457_2 else aI_457_3)) else (if pc < 59 then (if pc < 48 then aI_457_4 else aI_457_5) else (if pc < 69 then aI_457_6 else aI_457_7))) else (if pc < 112 then (if pc < 93 then (if pc < 86 then aI_457_8 else aI_457_9) else (if pc < 102 then aI_457_10 else aI_457_11)) else (if pc < 129 then (if pc < 121 then aI_457_12 else aI_457_13) else (if pc < 135 then aI_457_14 else aI_457_15))))
theorem aT_457 (pc : Nat) : sx_iOk prog_14_method_143_code (aS_457 pc) := (sx_ite (p := fun l => sx_iOk prog_14_method_143_code l) (sx_ite (p := fun l => sx_iOk prog_14_method_143_code l) (sx_ite (p := fun l => sx_iOk prog_14_method_143_code l) (sx_ite (p := fun l => sx_iOk prog_14_method_143_code l) (sx_iB_s aJ_457_0) (sx_iB_s aJ_457_1)) (sx_ite (p := fun l => sx_iOk prog_14_method_143_code l) (sx_iB_s aJ_457_2) (sx_iB_s aJ_457_3))) (sx_ite (p := fun l => sx_iOk prog_14_method_143_code l) (sx_ite (p := fun l => sx_iOk prog_14_method_143_code l) (sx_iB_s aJ_457_4) (sx_iB_s aJ_457_5)) (sx_ite (p := fun l => sx_iOk prog_14_method_143_code l) (sx_iB_s aJ_457_6) (sx_iB_s aJ_457_7)))) (sx_ite (p := fun l => sx_iOk prog_14_method_143_code l) (sx_ite (p := fun l => sx_iOk prog_14_method_143_code l) (sx_ite (p := fun l => sx_iOk prog_14_method_143_code l) (sx_iB_s aJ_457_8) (sx_iB_s aJ_457_9)) (sx_ite (p := fun l => sx_iOk prog_14_method_143_code l) (sx_iB_s aJ_457_10) (sx_iB_s aJ_457_11))) (sx_ite (p := fun l => sx_iOk prog_14_method_143_code l) (sx_ite (p := fun l => sx_iOk prog_14_method_143_code l) (sx_iB_s aJ_457_12) (sx_iB_s aJ_457_13)) (sx_ite (p := fun l => sx_iOk prog_14_method_143_code l) (sx_iB_s aJ_457_14) (sx_iB_s aJ_457_15)))))
def aU_457 (y pc : Nat) : Option (Instr × Nat) := if y = 457 then sx_iF (aS_457 pc) pc else none
set_option maxRecDepth 100000 in
theorem aV0_457 (y : Nat) : sx_P1 (aU_457 y) y := by
  intro pc r h mt hm
  unfold aU_457 at h
  split at h
  · rename_i hy
    subst hy
    have e : aM_457.1 = mt := Option.some.inj (show some aM_457.1 = some mt from hm)
    subst e
    exact sx_iF_s (aT_457 pc) h
  · cases h
def aS_459 (pc : Nat) : sx_IL := (if pc < 96 then (if pc < 44 then (if pc < 22 then (if pc < 10 then aI_459_0 else aI_459_1) else (if pc < 34 then aI_459_2 else aI_459_3)) else (if pc < 64 then (if pc < 54 then aI_459_4 else aI_459_5) else (if pc < 76 then aI_459_6 else (if pc < 86 then aI_459_7 else aI_459_8)))) else (if pc < 137 then (if pc < 116 then (if pc < 107 then aI_459_9 else aI_459_10) else (if pc < 128 then aI_459_11 else aI_459_12)) else (if pc < 157 then (if pc < 147 then aI_459_13 else aI_459_14) else (if pc < 164 then aI_459_15 else (if pc < 176 then aI_459_16 else aI_459_17)))))
theorem aT_459 (pc : Nat) : sx_iOk prog_14_method_145_code (aS_459 pc) := (sx_ite (p := fun l => sx_iOk prog_14_method_145_code l) (sx_ite (p := fun l => sx_iOk prog_14_method_145_code l) (sx_ite (p := fun l => sx_iOk prog_14_method_145_code l) (sx_ite (p := fun l => sx_iOk prog_14_method_145_code l) (sx_iB_s aJ_459_0) (sx_iB_s aJ_459_1)) (sx_ite (p := fun l => sx_iOk prog_14_method_145_code l) (sx_iB_s aJ_459_2) (sx_iB_s aJ_459_3))) (sx_ite (p := fun l => sx_iOk prog_14_method_145_code l) (sx_ite (p := fun l => sx_iOk prog_14_method_145_code l) (sx_iB_s aJ_459_4) (sx_iB_s aJ_459_5)) (sx_ite (p := fun l => sx_iOk prog_14_method_145_code l) (sx_iB_s aJ_459_6) (sx_ite (p := fun l => sx_iOk prog_14_method_145_code l) (sx_iB_s aJ_459_7) (sx_iB_s aJ_459_8))))) (sx_ite (p := fun l => sx_iOk prog_14_method_145_code l) (sx_ite (p := fun l => sx_iOk prog_14_method_145_code l) (sx_ite (p := fun l => sx_iOk prog_14_method_145_code l) (sx_iB_s aJ_459_9) (sx_iB_s aJ_459_10)) (sx_ite (p := fun l => sx_iOk prog_14_method_145_code l) (sx_iB_s aJ_459_11) (sx_iB_s aJ_459_12))) (sx_ite (p := fun l => sx_iOk prog_14_method_145_code l) (sx_ite (p := fun l => sx_iOk prog_14_method_145_code l) (sx_iB_s aJ_459_13) (sx_iB_s aJ_459_14)) (sx_ite (p := fun l => sx_iOk prog_14_method_145_code l) (sx_iB_s aJ_459_15) (sx_ite (p := fun l => sx_iOk prog_14_method_145_code l) (sx_iB_s aJ_459_16) (sx_iB_s aJ_459_17))))))
def aU_459 (y pc : Nat) : Option (Instr × Nat) := if y = 459 then sx_iF (aS_459 pc) pc else none
set_option maxRecDepth 100000 in
theorem aV0_459 (y : Nat) : sx_P1 (aU_459 y) y := by
  intro pc r h mt hm
  unfold aU_459 at h
  split at h
  · rename_i hy
    subst hy
    have e : aM_459.1 = mt := Option.some.inj (show some aM_459.1 = some mt from hm)
    subst e
    exact sx_iF_s (aT_459 pc) h
  · cases h
def aS_460 (pc : Nat) : sx_IL := (if pc < 82 then (if pc < 40 then (if pc < 18 then (if pc < 10 then aI_460_0 else aI_460_1) else (if pc < 28 then aI_460_2 else aI_460_3)) else (if pc < 62 then (if pc < 52 then aI_460_4 else aI_460_5) else (if pc < 70 then aI_460_6 else aI_460_7))) else (if pc < 125 then (if pc < 104 then (if pc < 94 then aI_460_8 else aI_460_9) else (if pc < 114 then aI_460_10 else aI_460_11)) else (if pc < 144 then (if pc < 135 then aI_460_12 else aI_460_13) else (if pc < 160 then aI_460_14 else aI_460_15))))
theorem aT_460 (pc : Nat) : sx_iOk prog_14_method_146_code (aS_460 pc) := (sx_ite (p := fun l => sx_iOk prog_14_method_146_code l) (sx_ite (p := fun l => sx_iOk prog_14_method_146_code l) (sx_ite (p := fun l => sx_iOk prog_14_method_146_code l) (sx_ite (p := fun l => sx_iOk prog_14_method_146_code l) (sx_iB_s aJ_460_0) (sx_iB_s aJ_460_1)) (sx_ite (p := fun l => sx_iOk prog_14_method_146_code l) (sx_iB_s aJ_460_2) (sx_iB_s aJ_460_3))) (sx_ite (p := fun l => sx_iOk prog_14_method_146_code l) (sx_ite (p := fun l => sx_iOk prog_14_method_146_code l) (sx_iB_s aJ_460_4) (sx_iB_s aJ_460_5)) (sx_ite (p := fun l => sx_iOk prog_14_method_146_code l) (sx_iB_s aJ_460_6) (sx_iB_s aJ_460_7)))) (sx_ite (p := fun l => sx_iOk prog_14_method_146_code l) (sx_ite (p := fun l => sx_iOk prog_14_method_146_code l) (sx_ite (p := fun l => sx_iOk prog_14_method_146_code l) (sx_iB_s aJ_460_8) (sx_iB_s aJ_460_9)) (sx_ite (p := fun l => sx_iOk prog_14_method_146_code l) (sx_iB_s aJ_460_10) (sx_iB_s aJ_460_11))) (sx_ite (p := fun l => sx_iOk prog_14_method_146_code l) (sx_ite (p := fun l => sx_iOk prog_14_method_146_code l) (sx_iB_s aJ_460_12) (sx_iB_s aJ_460_13)) (sx_ite (p := fun l => sx_iOk prog_14_method_146_code l) (sx_iB_s aJ_460_14) (sx_iB_s aJ_460_15)))))
def aU_460 (y pc : Nat) : Option (Instr × Nat) := if y = 460 then sx_iF (aS_460 pc) pc else none
set_option maxRecDepth 100000 in
theorem aV0_460 (y : Nat) : sx_P1 (aU_460 y) y := by
  intro pc r h mt hm
  unfold aU_460 at h
  split at h
  · rename_i hy
    subst hy
    have e : aM_460.1 = mt := Option.some.inj (show some aM_460.1 = some mt from hm)
    subst e
    exact sx_iF_s (aT_460 pc) h
  · cases h
def aS_461 (pc : Nat) : sx_IL := (if pc < 107 then (if pc < 52 then (if pc < 22 then (if pc < 10 then aI_461_0 else aI_461_1) else (if pc < 30 then aI_461_2 else (if pc < 42 then aI_461_3 else aI_461_4))) else (if pc < 74 then (if pc < 64 then aI_461_5 else aI_461_6) else (if pc < 85 then aI_461_7 else (if pc < 97 then aI_461_8 else aI_461_9)))) else (if pc < 158 then (if pc < 125 then (if pc < 116 then aI_461_10 else aI_461_11) else (if pc < 136 then aI_461_12 else (if pc < 146 then aI_461_13 else aI_461_14))) else (if pc < 189 then (if pc < 168 then aI_461_15 else (if pc < 179 then aI_461_16 else aI_461_17)) else (if pc < 205 then aI_461_18 else (if pc < 215 then aI_461_19 else aI_461_20)))))
theorem aT_461 (pc : Nat) : sx_iOk prog_14_method_176_code (aS_461 pc) := (sx_ite (p := fun l => sx_iOk prog_14_method_176_code l) (sx_ite (p := fun l => sx_iOk prog_14_method_176_code l) (sx_ite (p := fun l => sx_iOk prog_14_method_176_code l) (sx_ite (p := fun l => sx_iOk prog_14_method_176_code l) (sx_iB_s aJ_461_0) (sx_iB_s aJ_461_1)) (sx_ite (p := fun l => sx_iOk prog_14_method_176_code l) (sx_iB_s aJ_461_2) (sx_ite (p := fun l => sx_iOk prog_14_method_176_code l) (sx_iB_s aJ_461_3) (sx_iB_s aJ_461_4)))) (sx_ite (p := fun l => sx_iOk prog_14_method_176_code l) (sx_ite (p := fun l => sx_iOk prog_14_method_176_code l) (sx_iB_s aJ_461_5) (sx_iB_s aJ_461_6)) (sx_ite (p := fun l => sx_iOk prog_14_method_176_code l) (sx_iB_s aJ_461_7) (sx_ite (p := fun l => sx_iOk prog_14_method_176_code l) (sx_iB_s aJ_461_8) (sx_iB_s aJ_461_9))))) (sx_ite (p := fun l => sx_iOk prog_14_method_176_code l) (sx_ite (p := fun l => sx_iOk prog_14_method_176_code l) (sx_ite (p := fun l => sx_iOk prog_14_method_176_code l) (sx_iB_s aJ_461_10) (sx_iB_s aJ_461_11)) (sx_ite (p := fun l => sx_iOk prog_14_method_176_code l) (sx_iB_s aJ_461_12) (sx_ite (p := fun l => sx_iOk prog_14_method_176_code l) (sx_iB_s aJ_461_13) (sx_iB_s aJ_461_14)))) (sx_ite (p := fun l => sx_iOk prog_14_method_176_code l) (sx_ite (p := fun l => sx_iOk prog_14_method_176_code l) (sx_iB_s aJ_461_15) (sx_ite (p := fun l => sx_iOk prog_14_method_176_code l) (sx_iB_s aJ_461_16) (sx_iB_s aJ_461_17))) (sx_ite (p := fun l => sx_iOk prog_14_method_176_code l) (sx_iB_s aJ_461_18) (sx_ite (p := fun l => sx_iOk prog_14_method_176_code l) (sx_iB_s aJ_461_19) (sx_iB_s aJ_461_20))))))
def aU_461 (y pc : Nat) : Option (Instr × Nat) := if y = 461 then sx_iF (aS_461 pc) pc else none
set_option maxRecDepth 100000 in
theorem aV0_461 (y : Nat) : sx_P1 (aU_461 y) y := by
  intro pc r h mt hm
  unfold aU_461 at h
  split at h
  · rename_i hy
    subst hy
    have e : aM_461.1 = mt := Option.some.inj (show some aM_461.1 = some mt from hm)
    subst e
    exact sx_iF_s (aT_461 pc) h
  · cases h
def aS_483 (pc : Nat) : sx_IL := (if pc < 35 then (if pc < 20 then (if pc < 10 then aI_483_0 else aI_483_1) else (if pc < 27 then aI_483_2 else aI_483_3)) else (if pc < 58 then (if pc < 48 then aI_483_4 else aI_483_5) else (if pc < 68 then aI_483_6 else (if pc < 83 then aI_483_7 else aI_483_8))))
theorem aT_483 (pc : Nat) : sx_iOk prog_14_method_231_code (aS_483 pc) := (sx_ite (p := fun l => sx_iOk prog_14_method_231_code l) (sx_ite (p := fun l => sx_iOk prog_14_method_231_code l) (sx_ite (p := fun l => sx_iOk prog_14_method_231_code l) (sx_iB_s aJ_483_0) (sx_iB_s aJ_483_1)) (sx_ite (p := fun l => sx_iOk prog_14_method_231_code l) (sx_iB_s aJ_483_2) (sx_iB_s aJ_483_3))) (sx_ite (p := fun l => sx_iOk prog_14_method_231_code l) (sx_ite (p := fun l => sx_iOk prog_14_method_231_code l) (sx_iB_s aJ_483_4) (sx_iB_s aJ_483_5)) (sx_ite (p := fun l => sx_iOk prog_14_method_231_code l) (sx_iB_s aJ_483_6) (sx_ite (p := fun l => sx_iOk prog_14_method_231_code l) (sx_iB_s aJ_483_7) (sx_iB_s aJ_483_8)))))
def aU_483 (y pc : Nat) : Option (Instr × Nat) := if y = 483 then sx_iF (aS_483 pc) pc else none
set_option maxRecDepth 100000 in
theorem aV0_483 (y : Nat) : sx_P1 (aU_483 y) y := by
  intro pc r h mt hm
  unfold aU_483 at h
  split at h
  · rename_i hy
    subst hy
    have e : aM_483.1 = mt := Option.some.inj (show some aM_483.1 = some mt from hm)
    subst e
    exact sx_iF_s (aT_483 pc) h
  · cases h
def aS_484 (pc : Nat) : sx_IL := (if pc < 10 then aI_484_0 else (if pc < 22 then aI_484_1 else aI_484_2))
theorem aT_484 (pc : Nat) : sx_iOk prog_14_method_148_code (aS_484 pc) := (sx_ite (p := fun l => sx_iOk prog_14_method_148_code l) (sx_iB_s aJ_484_0) (sx_ite (p := fun l => sx_iOk prog_14_method_148_code l) (sx_iB_s aJ_484_1) (sx_iB_s aJ_484_2)))
def aU_484 (y pc : Nat) : Option (Instr × Nat) := if y = 484 then sx_iF (aS_484 pc) pc else none
set_option maxRecDepth 100000 in
theorem aV0_484 (y : Nat) : sx_P1 (aU_484 y) y := by
  intro pc r h mt hm
  unfold aU_484 at h
  split at h
  · rename_i hy
    subst hy
    have e : aM_484.1 = mt := Option.some.inj (show some aM_484.1 = some mt from hm)
    subst e
    exact sx_iF_s (aT_484 pc) h
  · cases h
def aS_485 (pc : Nat) : sx_IL := (if pc < 8 then aI_485_0 else aI_485_1)
theorem aT_485 (pc : Nat) : sx_iOk prog_14_method_147_code (aS_485 pc) := (sx_ite (p := fun l => sx_iOk prog_14_method_147_code l) (sx_iB_s aJ_485_0) (sx_iB_s aJ_485_1))
def aU_485 (y pc : Nat) : Option (Instr × Nat) := if y = 485 then sx_iF (aS_485 pc) pc else none
set_option maxRecDepth 100000 in
theorem aV0_485 (y : Nat) : sx_P1 (aU_485 y) y := by
  intro pc r h mt hm
  unfold aU_485 at h
  split at h
  · rename_i hy
    subst hy
    have e : aM_485.1 = mt := Option.some.inj (show some aM_485.1 = some mt from hm)
    subst e
    exact sx_iF_s (aT_485 pc) h
  · cases h
def aS_550 (pc : Nat) : sx_IL := (if pc < 151 then (if pc < 65 then (if pc < 28 then (if pc < 10 then aI_550_0 else (if pc < 22 then aI_550_1 else aI_550_2)) else (if pc < 48 then (if pc < 35 then aI_550_3 else aI_550_4) else (if pc < 59 then aI_550_5 else aI_550_6))) else (if pc < 100 then (if pc < 76 then aI_550_7 else (if pc < 89 then aI_550_8 else aI_550_9)) else (if pc < 128 then (if pc < 117 then aI_550_10 else aI_550_11) else (if pc < 141 then aI_550_12 else aI_550_13)))) else (if pc < 227 then (if pc < 182 then (if pc < 164 then aI_550_14 else (if pc < 171 then aI_550_15 else aI_550_16)) else (if pc < 207 then (if pc < 195 then aI_550_17 else aI_550_18) else (if pc < 215 then aI_550_19 else aI_550_20))) else (if pc < 259 then (if pc < 241 then aI_550_21 else (if pc < 251 then aI_550_22 else aI_550_23)) else (if pc < 281 then (if pc < 268 then aI_550_24 else aI_550_25) else (if pc < 296 then aI_550_26 else aI_550_27)))))
theorem aT_550 (pc : Nat) : sx_iOk prog_14_method_232_code (aS_550 pc) := (sx_ite (p := fun l => sx_iOk prog_14_method_232_code l) (sx_ite (p := fun l => sx_iOk prog_14_method_232_code l) (sx_ite (p := fun l => sx_iOk prog_14_method_232_code l) (sx_ite (p := fun l => sx_iOk prog_14_method_232_code l) (sx_iB_s aJ_550_0) (sx_ite (p := fun l => sx_iOk prog_14_method_232_code l) (sx_iB_s aJ_550_1) (sx_iB_s aJ_550_2))) (sx_ite (p := fun l => sx_iOk prog_14_method_232_code l) (sx_ite (p := fun l => sx_iOk prog_14_method_232_code l) (sx_iB_s aJ_550_3) (sx_iB_s aJ_550_4)) (sx_ite (p := fun l => sx_iOk prog_14_method_232_code l) (sx_iB_s aJ_550_5) (sx_iB_s aJ_550_6)))) (sx_ite (p := fun l => sx_iOk prog_14_method_232_code l) (sx_ite (p := fun l => sx_iOk prog_14_method_232_code l) (sx_iB_s aJ_550_7) (sx_ite (p := fun l => sx_iOk prog_14_method_232_code l) (sx_iB_s aJ_550_8) (sx_iB_s aJ_550_9))) (sx_ite (p := fun l => sx_iOk prog_14_method_232_code l) (sx_ite (p := fun l => sx_iOk prog_14_method_232_code l) (sx_iB_s aJ_550_10) (sx_iB_s aJ_550_11)) (sx_ite (p := fun l => sx_iOk prog_14_method_232_code l) (sx_iB_s aJ_550_12) (sx_iB_s aJ_550_13))))) (sx_ite (p := fun l => sx_iOk prog_14_method_232_code l) (sx_ite (p := fun l => sx_iOk prog_14_method_232_code l) (sx_ite (p := fun l => sx_iOk prog_14_method_232_code l) (sx_iB_s aJ_550_14) (sx_ite (p := fun l => sx_iOk prog_14_method_232_code l) (sx_iB_s aJ_550_15) (sx_iB_s aJ_550_16))) (sx_ite (p := fun l => sx_iOk prog_14_method_232_code l) (sx_ite (p := fun l => sx_iOk prog_14_method_232_code l) (sx_iB_s aJ_550_17) (sx_iB_s aJ_550_18)) (sx_ite (p := fun l => sx_iOk prog_14_method_232_code l) (sx_iB_s aJ_550_19) (sx_iB_s aJ_550_20)))) (sx_ite (p := fun l => sx_iOk prog_14_method_232_code l) (sx_ite (p := fun l => sx_iOk prog_14_method_232_code l) (sx_iB_s aJ_550_21) (sx_ite (p := fun l => sx_iOk prog_14_method_232_code l) (sx_iB_s aJ_550_22) (sx_iB_s aJ_550_23))) (sx_ite (p := fun l => sx_iOk prog_14_method_232_code l) (sx_ite (p := fun l => sx_iOk prog_14_method_232_code l) (sx_iB_s aJ_550_24) (sx_iB_s aJ_550_25)) (sx_ite (p := fun l => sx_iOk prog_14_method_232_code l) (sx_iB_s aJ_550_26) (sx_iB_s aJ_550_27))))))
def aU_550 (y pc : Nat) : Option (Instr × Nat) := if y = 550 then sx_iF (aS_550 pc) pc else none
set_option maxRecDepth 100000 in
theorem aV0_550 (y : Nat) : sx_P1 (aU_550 y) y := by
  intro pc r h mt hm
  unfold aU_550 at h
  split at h
  · rename_i hy
    subst hy
    have e : aM_550.1 = mt := Option.some.inj (show some aM_550.1 = some mt from hm)
    subst e
    exact sx_iF_s (aT_550 pc) h
  · cases h
def aS_551 (pc : Nat) : sx_IL := (if pc < 36 then (if pc < 16 then (if pc < 10 then aI_551_0 else aI_551_1) else (if pc < 27 then aI_551_2 else aI_551_3)) else (if pc < 59 then (if pc < 45 then aI_551_4 else aI_551_5) else (if pc < 68 then aI_551_6 else aI_551_7)))
theorem aT_551 (pc : Nat) : sx_iOk prog_14_method_233_code (aS_551 pc) := (sx_ite (p := fun l => sx_iOk prog_14_method_233_code l) (sx_ite (p := fun l => sx_iOk prog_14_method_233_code l) (sx_ite (p := fun l => sx_iOk prog_14_method_233_code l) (sx_iB_s aJ_551_0) (sx_iB_s aJ_551_1)) (sx_ite (p := fun l => sx_iOk prog_14_method_233_code l) (sx_iB_s aJ_551_2) (sx_iB_s aJ_551_3))) (sx_ite (p := fun l => sx_iOk prog_14_method_233_code l) (sx_ite (p := fun l => sx_iOk prog_14_method_233_code l) (sx_iB_s aJ_551_4) (sx_iB_s aJ_551_5)) (sx_ite (p := fun l => sx_iOk prog_14_method_233_code l) (sx_iB_s aJ_551_6) (sx_iB_s aJ_551_7))))
def aU_551 (y pc : Nat) : Option (Instr × Nat) := if y = 551 then sx_iF (aS_551 pc) pc else none
set_option maxRecDepth 100000 in
theorem aV0_551 (y : Nat) : sx_P1 (aU_551 y) y := by
  intro pc r h mt hm
  unfold aU_551 at h
  split at h
  · rename_i hy
    subst hy
    have e : aM_551.1 = mt := Option.some.inj (show some aM_551.1 = some mt from hm)
    subst e
    exact sx_iF_s (aT_551 pc) h
  · cases h
def aS_552 (pc : Nat) : sx_IL := (if pc < 47 then (if pc < 18 then (if pc < 10 then aI_552_0 else aI_552_1) else (if pc < 24 then aI_552_2 else (if pc < 35 then aI_552_3 else aI_552_4))) else (if pc < 63 then (if pc < 57 then aI_552_5 else aI_552_6) else (if pc < 74 then aI_552_7 else (if pc < 80 then aI_552_8 else aI_552_9))))
theorem aT_552 (pc : Nat) : sx_iOk prog_14_method_234_code (aS_552 pc) := (sx_ite (p := fun l => sx_iOk prog_14_method_234_code l) (sx_ite (p := fun l => sx_iOk prog_14_method_234_code l) (sx_ite (p := fun l => sx_iOk prog_14_method_234_code l) (sx_iB_s aJ_552_0) (sx_iB_s aJ_552_1)) (sx_ite (p := fun l => sx_iOk prog_14_method_234_code l) (sx_iB_s aJ_552_2) (sx_ite (p := fun l => sx_iOk prog_14_method_234_code l) (sx_iB_s aJ_552_3) (sx_iB_s aJ_552_4)))) (sx_ite (p := fun l => sx_iOk prog_14_method_234_code l) (sx_ite (p := fun l => sx_iOk prog_14_method_234_code l) (sx_iB_s aJ_552_5) (sx_iB_s aJ_552_6)) (sx_ite (p := fun l => sx_iOk prog_14_method_234_code l) (sx_iB_s aJ_552_7) (sx_ite (p := fun l => sx_iOk prog_14_method_234_code l) (sx_iB_s aJ_552_8) (sx_iB_s aJ_552_9)))))
def aU_552 (y pc : Nat) : Option (Instr × Nat) := if y = 552 then sx_iF (aS_552 pc) pc else none
set_option maxRecDepth 100000 in
theorem aV0_552 (y : Nat) : sx_P1 (aU_552 y) y := by
  intro pc r h mt hm
  unfold aU_552 at h
  split at h
  · rename_i hy
    subst hy
    have e : aM_552.1 = mt := Option.some.inj (show some aM_552.1 = some mt from hm)
    subst e
    exact sx_iF_s (aT_552 pc) h
  · cases h
def aS_553 (pc : Nat) : sx_IL := (if pc < 60 then (if pc < 26 then (if pc < 10 then aI_553_0 else (if pc < 16 then aI_553_1 else aI_553_2)) else (if pc < 38 then aI_553_3 else (if pc < 47 then aI_553_4 else aI_553_5))) else (if pc < 92 then (if pc < 70 then aI_553_6 else (if pc < 81 then aI_553_7 else aI_553_8)) else (if pc < 106 then aI_553_9 else (if pc < 123 then aI_553_10 else aI_553_11))))
theorem aT_553 (pc : Nat) : sx_iOk prog_14_method_236_code (aS_553 pc) := (sx_ite (p := fun l => sx_iOk prog_14_method_236_code l) (sx_ite (p := fun l => sx_iOk prog_14_method_236_code l) (sx_ite (p := fun l => sx_iOk prog_14_method_236_code l) (sx_iB_s aJ_553_0) (sx_ite (p := fun l => sx_iOk prog_14_method_236_code l) (sx_iB_s aJ_553_1) (sx_iB_s aJ_553_2))) (sx_ite (p := fun l => sx_iOk prog_14_method_236_code l) (sx_iB_s aJ_553_3) (sx_ite (p := fun l => sx_iOk prog_14_method_236_code l) (sx_iB_s aJ_553_4) (sx_iB_s aJ_553_5)))) (sx_ite (p := fun l => sx_iOk prog_14_method_236_code l) (sx_ite (p := fun l => sx_iOk prog_14_method_236_code l) (sx_iB_s aJ_553_6) (sx_ite (p := fun l => sx_iOk prog_14_method_236_code l) (sx_iB_s aJ_553_7) (sx_iB_s aJ_553_8))) (sx_ite (p := fun l => sx_iOk prog_14_method_236_code l) (sx_iB_s aJ_553_9) (sx_ite (p := fun l => sx_iOk prog_14_method_236_code l) (sx_iB_s aJ_553_10) (sx_iB_s aJ_553_11)))))
def aU_553 (y pc : Nat) : Option (Instr × Nat) := if y = 553 then sx_iF (aS_553 pc) pc else none
set_option maxRecDepth 100000 in
theorem aV0_553 (y : Nat) : sx_P1 (aU_553 y) y := by
  intro pc r h mt hm
  unfold aU_553 at h
  split at h
  · rename_i hy
    subst hy
    have e : aM_553.1 = mt := Option.some.inj (show some aM_553.1 = some mt from hm)
    subst e
    exact sx_iF_s (aT_553 pc) h
  · cases h
def aS_555 (pc : Nat) : sx_IL := (if pc < 73 then (if pc < 26 then (if pc < 10 then aI_555_0 else (if pc < 20 then aI_555_1 else aI_555_2)) else (if pc < 49 then (if pc < 36 then aI_555_3 else aI_555_4) else (if pc < 60 then aI_555_5 else aI_555_6))) else (if pc < 98 then (if pc < 82 then aI_555_7 else (if pc < 88 then aI_555_8 else aI_555_9)) else (if pc < 121 then (if pc < 110 then aI_555_10 else aI_555_11) else (if pc < 128 then aI_555_12 else aI_555_13))))
theorem aT_555 (pc : Nat) : sx_iOk prog_14_method_237_code (aS_555 pc) := (sx_ite (p := fun l => sx_iOk prog_14_method_237_code l) (sx_ite (p := fun l => sx_iOk prog_14_method_237_code l) (sx_ite (p := fun l => sx_iOk prog_14_method_237_code l) (sx_iB_s aJ_555_0) (sx_ite (p := fun l => sx_iOk prog_14_method_237_code l) (sx_iB_s aJ_555_1) (sx_iB_s aJ_555_2))) (sx_ite (p := fun l => sx_iOk prog_14_method_237_code l) (sx_ite (p := fun l => sx_iOk prog_14_method_237_code l) (sx_iB_s aJ_555_3) (sx_iB_s aJ_555_4)) (sx_ite (p := fun l => sx_iOk prog_14_method_237_code l) (sx_iB_s aJ_555_5) (sx_iB_s aJ_555_6)))) (sx_ite (p := fun l => sx_iOk prog_14_method_237_code l) (sx_ite (p := fun l => sx_iOk prog_14_method_237_code l) (sx_iB_s aJ_555_7) (sx_ite (p := fun l => sx_iOk prog_14_method_237_code l) (sx_iB_s aJ_555_8) (sx_iB_s aJ_555_9))) (sx_ite (p := fun l => sx_iOk prog_14_method_237_code l) (sx_ite (p := fun l => sx_iOk prog_14_method_237_code l) (sx_iB_s aJ_555_10) (sx_iB_s aJ_555_11)) (sx_ite (p := fun l => sx_iOk prog_14_method_237_code l) (sx_iB_s aJ_555_12) (sx_iB_s aJ_555_13)))))
def aU_555 (y pc : Nat) : Option (Instr × Nat) := if y = 555 then sx_iF (aS_555 pc) pc else none
set_option maxRecDepth 100000 in
theorem aV0_555 (y : Nat) : sx_P1 (aU_555 y) y := by
  intro pc r h mt hm
  unfold aU_555 at h
  split at h
  · rename_i hy
    subst hy
    have e : aM_555.1 = mt := Option.some.inj (show some aM_555.1 = some mt from hm)
    subst e
    exact sx_iF_s (aT_555 pc) h
  · cases h
def aS_556 (pc : Nat) : sx_IL := (if pc < 26 then (if pc < 10 then aI_556_0 else (if pc < 16 then aI_556_1 else aI_556_2)) else (if pc < 47 then (if pc < 38 then aI_556_3 else aI_556_4) else (if pc < 57 then aI_556_5 else aI_556_6)))
theorem aT_556 (pc : Nat) : sx_iOk prog_14_method_238_code (aS_556 pc) := (sx_ite (p := fun l => sx_iOk prog_14_method_238_code l) (sx_ite (p := fun l => sx_iOk prog_14_method_238_code l) (sx_iB_s aJ_556_0) (sx_ite (p := fun l => sx_iOk prog_14_method_238_code l) (sx_iB_s aJ_556_1) (sx_iB_s aJ_556_2))) (sx_ite (p := fun l => sx_iOk prog_14_method_238_code l) (sx_ite (p := fun l => sx_iOk prog_14_method_238_code l) (sx_iB_s aJ_556_3) (sx_iB_s aJ_556_4)) (sx_ite (p := fun l => sx_iOk prog_14_method_238_code l) (sx_iB_s aJ_556_5) (sx_iB_s aJ_556_6))))
def aU_556 (y pc : Nat) : Option (Instr × Nat) := if y = 556 then sx_iF (aS_556 pc) pc else none
set_option maxRecDepth 100000 in
theorem aV0_556 (y : Nat) : sx_P1 (aU_556 y) y := by
  intro pc r h mt hm
  unfold aU_556 at h
  split at h
  · rename_i hy
    subst hy
    have e : aM_556.1 = mt := Option.some.inj (show some aM_556.1 = some mt from hm)
    subst e
    exact sx_iF_s (aT_556 pc) h
  · cases h
def aS_557 (pc : Nat) : sx_IL := (if pc < 37 then (if pc < 20 then (if pc < 10 then aI_557_0 else aI_557_1) else (if pc < 26 then aI_557_2 else aI_557_3)) else (if pc < 60 then (if pc < 50 then aI_557_4 else aI_557_5) else (if pc < 74 then aI_557_6 else (if pc < 83 then aI_557_7 else aI_557_8))))
theorem aT_557 (pc : Nat) : sx_iOk prog_14_method_239_code (aS_557 pc) := (sx_ite (p := fun l => sx_iOk prog_14_method_239_code l) (sx_ite (p := fun l => sx_iOk prog_14_method_239_code l) (sx_ite (p := fun l => sx_iOk prog_14_method_239_code l) (sx_iB_s aJ_557_0) (sx_iB_s aJ_557_1)) (sx_ite (p := fun l => sx_iOk prog_14_method_239_code l) (sx_iB_s aJ_557_2) (sx_iB_s aJ_557_3))) (sx_ite (p := fun l => sx_iOk prog_14_method_239_code l) (sx_ite (p := fun l => sx_iOk prog_14_method_239_code l) (sx_iB_s aJ_557_4) (sx_iB_s aJ_557_5)) (sx_ite (p := fun l => sx_iOk prog_14_method_239_code l) (sx_iB_s aJ_557_6) (sx_ite (p := fun l => sx_iOk prog_14_method_239_code l) (sx_iB_s aJ_557_7) (sx_iB_s aJ_557_8)))))
def aU_557 (y pc : Nat) : Option (Instr × Nat) := if y = 557 then sx_iF (aS_557 pc) pc else none
set_option maxRecDepth 100000 in
theorem aV0_557 (y : Nat) : sx_P1 (aU_557 y) y := by
  intro pc r h mt hm
  unfold aU_557 at h
  split at h
  · rename_i hy
    subst hy
    have e : aM_557.1 = mt := Option.some.inj (show some aM_557.1 = some mt from hm)
    subst e
    exact sx_iF_s (aT_557 pc) h
  · cases h
def aS_558 (pc : Nat) : sx_IL := (if pc < 183 then (if pc < 119 then (if pc < 20 then (if pc < 10 then aI_558_0 else aI_558_1) else (if pc < 32 then aI_558_2 else (if pc < 39 then aI_558_3 else aI_558_4))) else (if pc < 153 then (if pc < 132 then aI_558_5 else (if pc < 142 then aI_558_6 else aI_558_7)) else (if pc < 163 then aI_558_8 else (if pc < 172 then aI_558_9 else aI_558_10)))) else (if pc < 244 then (if pc < 212 then (if pc < 193 then aI_558_11 else (if pc < 203 then aI_558_12 else aI_558_13)) else (if pc < 222 then aI_558_14 else (if pc < 235 then aI_558_15 else aI_558_16))) else (if pc < 279 then (if pc < 257 then aI_558_17 else (if pc < 266 then aI_558_18 else aI_558_19)) else (if pc < 288 then aI_558_20 else (if pc < 297 then aI_558_21 else aI_558_22)))))
theorem aT_558 (pc : Nat) : sx_iOk prog_14_method_240_code (aS_558 pc) := (sx_ite (p := fun l => sx_iOk prog_14_method_240_code l) (sx_ite (p := fun l => sx_iOk prog_14_method_240_code l) (sx_ite (p := fun l => sx_iOk prog_14_method_240_code l) (sx_ite (p := fun l => sx_iOk prog_14_method_240_code l) (sx_iB_s aJ_558_0) (sx_iB_s aJ_558_1)) (sx_ite (p := fun l => sx_iOk prog_14_method_240_code l) (sx_iB_s aJ_558_2) (sx_ite (p := fun l => sx_iOk prog_14_method_240_code l) (sx_iB_s aJ_558_3) (sx_iB_s aJ_558_4)))) (sx_ite (p := fun l => sx_iOk prog_14_method_240_code l) (sx_ite (p := fun l => sx_iOk prog_14_method_240_code l) (sx_iB_s aJ_558_5) (sx_ite (p := fun l => sx_iOk prog_14_method_240_code l) (sx_iB_s aJ_558_6) (sx_iB_s aJ_558_7))) (sx_ite (p := fun l => sx_iOk prog_14_method_240_code l) (sx_iB_s aJ_558_8) (sx_ite (p := fun l => sx_iOk prog_14_method_240_code l) (sx_iB_s aJ_558_9) (sx_iB_s aJ_558_10))))) (sx_ite (p := fun l => sx_iOk prog_14_method_240_code l) (sx_ite (p := fun l => sx_iOk prog_14_method_240_code l) (sx_ite (p := fun l => sx_iOk prog_14_method_240_code l) (sx_iB_s aJ_558_11) (sx_ite (p := fun l => sx_iOk prog_14_method_240_code l) (sx_iB_s aJ_558_12) (sx_iB_s aJ_558_13))) (sx_ite (p := fun l => sx_iOk prog_14_method_240_code l) (sx_iB_s aJ_558_14) (sx_ite (p := fun l => sx_iOk prog_14_method_240_code l) (sx_iB_s aJ_558_15) (sx_iB_s aJ_558_16)))) (sx_ite (p := fun l => sx_iOk prog_14_method_240_code l) (sx_ite (p := fun l => sx_iOk prog_14_method_240_code l) (sx_iB_s aJ_558_17) (sx_ite (p := fun l => sx_iOk prog_14_method_240_code l) (sx_iB_s aJ_558_18) (sx_iB_s aJ_558_19))) (sx_ite (p := fun l => sx_iOk prog_14_method_240_code l) (sx_iB_s aJ_558_20) (sx_ite (p := fun l => sx_iOk prog_14_method_240_code l) (sx_iB_s aJ_558_21) (sx_iB_s aJ_558_22))))))
def aU_558 (y pc : Nat) : Option (Instr × Nat) := if y = 558 then sx_iF (aS_558 pc) pc else none
set_option maxRecDepth 100000 in
theorem aV0_558 (y : Nat) : sx_P1 (aU_558 y) y := by
  intro pc r h mt hm
  unfold aU_558 at h
  split at h
  · rename_i hy
    subst hy
    have e : aM_558.1 = mt := Option.some.inj (show some aM_558.1 = some mt from hm)
    subst e
    exact sx_iF_s (aT_558 pc) h
  · cases h
def aS_559 (pc : Nat) : sx_IL := (if pc < 113 then (if pc < 34 then (if pc < 10 then aI_559_0 else (if pc < 20 then aI_559_1 else aI_559_2)) else (if pc < 91 then (if pc < 41 then aI_559_3 else aI_559_4) else (if pc < 104 then aI_559_5 else aI_559_6))) else (if pc < 153 then (if pc < 135 then (if pc < 126 then aI_559_7 else aI_559_8) else (if pc < 144 then aI_559_9 else aI_559_10)) else (if pc < 174 then (if pc < 164 then aI_559_11 else aI_559_12) else (if pc < 185 then aI_559_13 else aI_559_14))))
theorem aT_559 (pc : Nat) : sx_iOk prog_14_method_241_code (aS_559 pc) := (sx_ite (p := fun l => sx_iOk prog_14_method_241_code l) (sx_ite (p := fun l => sx_iOk prog_14_method_241_code l) (sx_ite (p := fun l => sx_iOk prog_14_method_241_code l) (sx_iB_s aJ_559_0) (sx_ite (p := fun l => sx_iOk prog_14_method_241_code l) (sx_iB_s aJ_559_1) (sx_iB_s aJ_559_2))) (sx_ite (p := fun l => sx_iOk prog_14_method_241_code l) (sx_ite (p := fun l => sx_iOk prog_14_method_241_code l) (sx_iB_s aJ_559_3) (sx_iB_s aJ_559_4)) (sx_ite (p := fun l => sx_iOk prog_14_method_241_code l) (sx_iB_s aJ_559_5) (sx_iB_s aJ_559_6)))) (sx_ite (p := fun l => sx_iOk prog_14_method_241_code l) (sx_ite (p := fun l => sx_iOk prog_14_method_241_code l) (sx_ite (p := fun l => sx_iOk prog_14_method_241_code l) (sx_iB_s aJ_559_7) (sx_iB_s aJ_559_8)) (sx_ite (p := fun l => sx_iOk prog_14_method_241_code l) (sx_iB_s aJ_559_9) (sx_iB_s aJ_559_10))) (sx_ite (p := fun l => sx_iOk prog_14_method_241_code l) (sx_ite (p := fun l => sx_iOk prog_14_method_241_code l) (sx_iB_s aJ_559_11) (sx_iB_s aJ_559_12)) (sx_ite (p := fun l => sx_iOk prog_14_method_241_code l) (sx_iB_s aJ_559_13) (sx_iB_s aJ_559_14)))))
def aU_559 (y pc : Nat) : Option (Instr × Nat) := if y = 559 then sx_iF (aS_559 pc) pc else none
set_option maxRecDepth 100000 in
theorem aV0_559 (y : Nat) : sx_P1 (aU_559 y) y := by
  intro pc r h mt hm
  unfold aU_559 at h
  split at h
  · rename_i hy
    subst hy
    have e : aM_559.1 = mt := Option.some.inj (show some aM_559.1 = some mt from hm)
    subst e
    exact sx_iF_s (aT_559 pc) h
  · cases h
def aS_560 (pc : Nat) : sx_IL := (if pc < 47 then (if pc < 22 then (if pc < 10 then aI_560_0 else aI_560_1) else (if pc < 28 then aI_560_2 else (if pc < 39 then aI_560_3 else aI_560_4))) else (if pc < 65 then (if pc < 57 then aI_560_5 else aI_560_6) else (if pc < 77 then aI_560_7 else (if pc < 85 then aI_560_8 else aI_560_9))))
theorem aT_560 (pc : Nat) : sx_iOk prog_14_method_242_code (aS_560 pc) := (sx_ite (p := fun l => sx_iOk prog_14_method_242_code l) (sx_ite (p := fun l => sx_iOk prog_14_method_242_code l) (sx_ite (p := fun l => sx_iOk prog_14_method_242_code l) (sx_iB_s aJ_560_0) (sx_iB_s aJ_560_1)) (sx_ite (p := fun l => sx_iOk prog_14_method_242_code l) (sx_iB_s aJ_560_2) (sx_ite (p := fun l => sx_iOk prog_14_method_242_code l) (sx_iB_s aJ_560_3) (sx_iB_s aJ_560_4)))) (sx_ite (p := fun l => sx_iOk prog_14_method_242_code l) (sx_ite (p := fun l => sx_iOk prog_14_method_242_code l) (sx_iB_s aJ_560_5) (sx_iB_s aJ_560_6)) (sx_ite (p := fun l => sx_iOk prog_14_method_242_code l) (sx_iB_s aJ_560_7) (sx_ite (p := fun l => sx_iOk prog_14_method_242_code l) (sx_iB_s aJ_560_8) (sx_iB_s aJ_560_9)))))
def aU_560 (y pc : Nat) : Option (Instr × Nat) := if y = 560 then sx_iF (aS_560 pc) pc else none
set_option maxRecDepth 100000 in
theorem aV0_560 (y : Nat) : sx_P1 (aU_560 y) y := by
  intro pc r h mt hm
  unfold aU_560 at h
  split at h
  · rename_i hy
    subst hy
    have e : aM_560.1 = mt := Option.some.inj (show some aM_560.1 = some mt from hm)
    subst e
    exact sx_iF_s (aT_560 pc) h
  · cases h
def aS_561 (pc : Nat) : sx_IL := (if pc < 1760 then (if pc < 1024 then (if pc < 660 then (if pc < 476 then (if pc < 378 then (if pc < 331 then (if pc < 29 then (if pc < 12 then aI_561_0 else (if pc < 20 then aI_561_1 else aI_561_2)) else (if pc < 318 then aI_561_3 else (if pc < 324 then aI_561_4 else aI_561_5))) else (if pc < 353 then (if pc < 337 then aI_561_6 else (if pc < 347 then aI_561_7 else aI_561_8)) else (if pc < 360 then aI_561_9 else (if pc < 366 then aI_561_10 else aI_561_11)))) else (if pc < 426 then (if pc < 402 then (if pc < 384 then aI_561_12 else (if pc < 392 then aI_561_13 else aI_561_14)) else (if pc < 408 then aI_561_15 else (if pc < 416 then aI_561_16 else aI_561_17))) else (if pc < 452 then (if pc < 438 then aI_561_18 else (if pc < 444 then aI_561_19 else aI_561_20)) else (if pc < 462 then aI_561_21 else (if pc < 470 then aI_561_22 else aI_561_23))))) else (if pc < 565 then (if pc < 521 then (if pc < 499 then (if pc < 486 then aI_561_24 else (if pc < 492 then aI_561_25 else aI_561_26)) else (if pc < 505 then aI_561_27 else (if pc < 515 then aI_561_28 else aI_561_29))) else (if pc < 544 then (if pc < 528 then aI_561_30 else (if pc < 534 then aI_561_31 else aI_561_32)) else (if pc < 552 then aI_561_33 else (if pc < 558 then aI_561_34 else aI_561_35)))) else (if pc < 609 then (if pc < 585 then (if pc < 573 then aI_561_36 else (if pc < 579 then aI_561_37 else aI_561_38)) else (if pc < 593 then aI_561_39 else (if pc < 601 then aI_561_40 else aI_561_41))) else (if pc < 630 then (if pc < 615 then aI_561_42 else (if pc < 622 then aI_561_43 else aI_561_44)) else (if pc < 643 then (if pc < 636 then aI_561_45 else aI_561_46) else (if pc < 650 then aI_561_47 else aI_561_48)))))) else (if pc < 841 then (if pc < 746 then (if pc < 702 then (if pc < 681 then (if pc < 668 then aI_561_49 else (if pc < 674 then aI_561_50 else aI_561_51)) else (if pc < 689 then aI_561_52 else (if pc < 695 then aI_561_53 else aI_561_54))) else (if pc < 725 then (if pc < 710 then aI_561_55 else (if pc < 717 then aI_561_56 else aI_561_57)) else (if pc < 731 then aI_561_58 else (if pc < 738 then aI_561_59 else aI_561_60)))) else (if pc < 790 then (if pc < 767 then (if pc < 752 then aI_561_61 else (if pc < 759 then aI_561_62 else aI_561_63)) else (if pc < 778 then aI_561_64 else (if pc < 784 then aI_561_65 else aI_561_66))) else (if pc < 811 then (if pc < 797 then aI_561_67 else (if pc < 805 then aI_561_68 else aI_561_69)) else (if pc < 826 then (if pc < 818 then aI_561_70 else aI_561_71) else (if pc < 835 then aI_561_72 else aI_561_73))))) else (if pc < 930 then (if pc < 883 then (if pc < 862 then (if pc < 847 then aI_561_74 else (if pc < 854 then aI_561_75 else aI_561_76)) else (if pc < 869 then aI_561_77 else (if pc < 875 then aI_561_78 else aI_561_79))) else (if pc < 906 then (if pc < 894 then aI_561_80 else (if pc < 900 then aI_561_81 else aI_561_82)) else (if pc < 914 then aI_561_83 else (if pc < 920 then aI_561_84 else aI_561_85)))) else (if pc < 972 then (if pc < 950 then (if pc < 936 then aI_561_86 else (if pc < 942 then aI_561_87 else aI_561_88)) else (if pc < 956 then aI_561_89 else (if pc < 962 then aI_561_90 else aI_561_91))) else (if pc < 996 then (if pc < 978 then aI_561_92 else (if pc < 986 then aI_561_93 else aI_561_94)) else (if pc < 1010 then (if pc < 1002 then aI_561_95 else aI_561_96) else (if pc < 1016 then aI_561_97 else aI_561_98))))))) else (if pc < 1394 then (if pc < 1218 then (if pc < 1116 then (if pc < 1067 then (if pc < 1044 then (if pc < 1032 then aI_561_99 else (if pc < 1038 then aI_561_100 else aI_561_101)) else (if pc < 1051 then aI_561_102 else (if pc < 1059 then aI_561_103 else aI_561_104))) else (if pc < 1086 then (if pc < 1073 then aI_561_105 else (if pc < 1079 then aI_561_106 else aI_561_107)) else (if pc < 1094 then aI_561_108 else (if pc < 1106 then aI_561_109 else aI_561_110)))) else (if pc < 1166 then (if pc < 1136 then (if pc < 1122 then aI_561_111 else (if pc < 1130 then aI_561_112 else aI_561_113)) else (if pc < 1146 then aI_561_114 else (if pc < 1156 then aI_561_115 else aI_561_116))) else (if pc < 1194 then (if pc < 1178 then aI_561_117 else (if pc < 1188 then aI_561_118 else aI_561_119)) else (if pc < 1202 then aI_561_120 else (if pc < 1208 then aI_561_121 else aI_561_122))))) else (if pc < 1302 then (if pc < 1258 then (if pc < 1236 then (if pc < 1224 then aI_561_123 else (if pc < 1230 then aI_561_124 else aI_561_125)) else (if pc < 1244 then aI_561_126 else (if pc < 1250 then aI_561_127 else aI_561_128))) else (if pc < 1284 then (if pc < 1266 then aI_561_129 else (if pc < 1274 then aI_561_130 else aI_561_131)) else (if pc < 1290 then aI_561_132 else (if pc < 1296 then aI_561_133 else aI_561_134)))) else (if pc < 1344 then (if pc < 1324 then (if pc < 1310 then aI_561_135 else (if pc < 1316 then aI_561_136 else aI_561_137)) else (if pc < 1332 then aI_561_138 else (if pc < 1338 then aI_561_139 else aI_561_140))) else (if pc < 1364 then (if pc < 1350 then aI_561_141 else (if pc < 1358 then aI_561_142 else aI_561_143)) else (if pc < 1380 then (if pc < 1370 then aI_561_144 else aI_561_145) else (if pc < 1386 then aI_561_146 else aI_561_147)))))) else (if pc < 1578 then (if pc < 1482 then (if pc < 1436 then (if pc < 1416 then (if pc < 1404 then aI_561_148 else (if pc < 1410 then aI_561_149 else aI_561_150)) else (if pc < 1424 then aI_561_151 else (if pc < 1430 then aI_561_152 else aI_561_153))) else (if pc < 1460 then (if pc < 1446 then aI_561_154 else (if pc < 1452 then aI_561_155 else aI_561_156)) else (if pc < 1470 then aI_561_157 else (if pc < 1476 then aI_561_158 else aI_561_159)))) else (if pc < 1524 then (if pc < 1502 then (if pc < 1490 then aI_561_160 else (if pc < 1496 then aI_561_161 else aI_561_162)) else (if pc < 1512 then aI_561_163 else (if pc < 1518 then aI_561_164 else aI_561_165))) else (if pc < 1544 then (if pc < 1530 then aI_561_166 else (if pc < 1538 then aI_561_167 else aI_561_168)) else (if pc < 1560 then (if pc < 1552 then aI_561_169 else aI_561_170) else (if pc < 1568 then aI_561_171 else aI_561_172))))) else (if pc < 1668 then (if pc < 1620 then (if pc < 1598 then (if pc < 1584 then aI_561_173 else (if pc < 1590 then aI_561_174 else aI_561_175)) else (if pc < 1604 then aI_561_176 else (if pc < 1614 then aI_561_177 else aI_561_178))) else (if pc < 1644 then (if pc < 1628 then aI_561_179 else (if pc < 1634 then aI_561_180 else aI_561_181)) else (if pc < 1650 then aI_561_182 else (if pc < 1658 then aI_561_183 else aI_561_184)))) else (if pc < 1709 then (if pc < 1686 then (if pc < 1674 then aI_561_185 else (if pc < 1680 then aI_561_186 else aI_561_187)) else (if pc < 1693 then aI_561_188 else (if pc < 1703 then aI_561_189 else aI_561_190))) else (if pc < 1728 then (if pc < 1715 then aI_561_191 else (if pc < 1722 then aI_561_192 else aI_561_193)) else (if pc < 1746 then (if pc < 1740 then aI_561_194 else aI_561_195) else (if pc < 1752 then aI_561_196 else aI_561_197)))))))) else (if pc < 2468 then (if pc < 2112 then (if pc < 1934 then (if pc < 1848 then (if pc < 1802 then (if pc < 1782 then (if pc < 1766 then aI_561_198 else (if pc < 1776 then aI_561_199 else aI_561_200)) else (if pc < 1788 then aI_561_201 else (if pc < 1796 then aI_561_202 else aI_561_203))) else (if pc < 1824 then (if pc < 1808 then aI_561_204 else (if pc < 1818 then aI_561_205 else aI_561_206)) else (if pc < 1832 then aI_561_207 else (if pc < 1842 then aI_561_208 else aI_561_209)))) else (if pc < 1892 then (if pc < 1872 then (if pc < 1856 then aI_561_210 else (if pc < 1862 then aI_561_211 else aI_561_212)) else (if pc < 1878 then aI_561_213 else (if pc < 1884 then aI_561_214 else aI_561_215))) else (if pc < 1914 then (if pc < 1898 then aI_561_216 else (if pc < 1908 then aI_561_217 else aI_561_218)) else (if pc < 1920 then aI_561_219 else (if pc < 1928 then aI_561_220 else aI_561_221))))) else (if pc < 2018 then (if pc < 1976 then (if pc < 1956 then (if pc < 1940 then aI_561_222 else (if pc < 1950 then aI_561_223 else aI_561_224)) else (if pc < 1962 then aI_561_225 else (if pc < 1970 then aI_561_226 else aI_561_227))) else (if pc < 1998 then (if pc < 1982 then aI_561_228 else (if pc < 1992 then aI_561_229 else aI_561_230)) else (if pc < 2004 then aI_561_231 else (if pc < 2010 then aI_561_232 else aI_561_233)))) else (if pc < 2060 then (if pc < 2036 then (if pc < 2024 then aI_561_234 else (if pc < 2030 then aI_561_235 else aI_561_236)) else (if pc < 2046 then aI_561_237 else (if pc < 2052 then aI_561_238 else aI_561_239))) else (if pc < 2082 then (if pc < 2066 then aI_561_240 else (if pc < 2074 then aI_561_241 else aI_561_242)) else (if pc < 2096 then (if pc < 2088 then aI_561_243 else aI_561_244) else (if pc < 2102 then aI_561_245 else aI_561_246)))))) else (if pc < 2286 then (if pc < 2196 then (if pc < 2154 then (if pc < 2132 then (if pc < 2118 then aI_561_247 else (if pc < 2126 then aI_561_248 else aI_561_249)) else (if pc < 2140 then aI_561_250 else (if pc < 2148 then aI_561_251 else aI_561_252))) else (if pc < 2174 then (if pc < 2160 then aI_561_253 else (if pc < 2168 then aI_561_254 else aI_561_255)) else (if pc < 2180 then aI_561_256 else (if pc < 2190 then aI_561_257 else aI_561_258)))) else (if pc < 2238 then (if pc < 2216 then (if pc < 2202 then aI_561_259 else (if pc < 2210 then aI_561_260 else aI_561_261)) else (if pc < 2222 then aI_561_262 else (if pc < 2232 then aI_561_263 else aI_561_264))) else (if pc < 2258 then (if pc < 2244 then aI_561_265 else (if pc < 2252 then aI_561_266 else aI_561_267)) else (if pc < 2274 then (if pc < 2264 then aI_561_268 else aI_561_269) else (if pc < 2280 then aI_561_270 else aI_561_271))))) else (if pc < 2371 then (if pc < 2330 then (if pc < 2310 then (if pc < 2294 then aI_561_272 else (if pc < 2300 then aI_561_273 else aI_561_274)) else (if pc < 2316 then aI_561_275 else (if pc < 2322 then aI_561_276 else aI_561_277))) else (if pc < 2352 then (if pc < 2336 then aI_561_278 else (if pc < 2342 then aI_561_279 else aI_561_280)) else (if pc < 2358 then aI_561_281 else (if pc < 2364 then aI_561_282 else aI_561_283)))) else (if pc < 2418 then (if pc < 2393 then (if pc < 2381 then aI_561_284 else (if pc < 2387 then aI_561_285 else aI_561_286)) else (if pc < 2400 then aI_561_287 else (if pc < 2410 then aI_561_288 else aI_561_289))) else (if pc < 2438 then (if pc < 2424 then aI_561_290 else (if pc < 2432 then aI_561_291 else aI_561_292)) else (if pc < 2454 then (if pc < 2448 then aI_561_293 else aI_561_294) else (if pc < 2460 then aI_561_295 else aI_561_296))))))) else (if pc < 2826 then (if pc < 2640 then (if pc < 2556 then (if pc < 2511 then (if pc < 2490 then (if pc < 2474 then aI_561_297 else (if pc < 2480 then aI_561_298 else aI_561_299)) else (if pc < 2496 then aI_561_300 else (if pc < 2503 then aI_561_301 else aI_561_302))) else (if pc < 2534 then (if pc < 2519 then aI_561_303 else (if pc < 2526 then aI_561_304 else aI_561_305)) else (if pc < 2544 then aI_561_306 else (if pc < 2550 then aI_561_307 else aI_561_308)))) else (if pc < 2598 then (if pc < 2576 then (if pc < 2564 then aI_561_309 else (if pc < 2570 then aI_561_310 else aI_561_311)) else (if pc < 2586 then aI_561_312 else (if pc < 2592 then aI_561_313 else aI_561_314))) else (if pc < 2618 then (if pc < 2604 then aI_561_315 else (if pc < 2612 then aI_561_316 else aI_561_317)) else (if pc < 2624 then aI_561_318 else (if pc < 2630 then aI_561_319 else aI_561_320))))) else (if pc < 2726 then (if pc < 2682 then (if pc < 2660 then (if pc < 2646 then aI_561_321 else (if pc < 2654 then aI_561_322 else aI_561_323)) else (if pc < 2668 then aI_561_324 else (if pc < 2676 then aI_561_325 else aI_561_326))) else (if pc < 2706 then (if pc < 2690 then aI_561_327 else (if pc < 2696 then aI_561_328 else aI_561_329)) else (if pc < 2712 then aI_561_330 else (if pc < 2718 then aI_561_331 else aI_561_332)))) else (if pc < 2772 then (if pc < 2748 then (if pc < 2732 then aI_561_333 else (if pc < 2738 then aI_561_334 else aI_561_335)) else (if pc < 2760 then aI_561_336 else (if pc < 2766 then aI_561_337 else aI_561_338))) else (if pc < 2795 then (if pc < 2779 then aI_561_339 else (if pc < 2787 then aI_561_340 else aI_561_341)) else (if pc < 2808 then (if pc < 2801 then aI_561_342 else aI_561_343) else (if pc < 2816 then aI_561_344 else aI_561_345)))))) else (if pc < 3003 then (if pc < 2910 then (if pc < 2868 then (if pc < 2846 then (if pc < 2832 then aI_561_346 else (if pc < 2840 then aI_561_347 else aI_561_348)) else (if pc < 2854 then aI_561_349 else (if pc < 2862 then aI_561_350 else aI_561_351))) else (if pc < 2888 then (if pc < 2874 then aI_561_352 else (if pc < 2882 then aI_561_353 else aI_561_354)) else (if pc < 2894 then aI_561_355 else (if pc < 2904 then aI_561_356 else aI_561_357)))) else (if pc < 2952 then (if pc < 2930 then (if pc < 2916 then aI_561_358 else (if pc < 2924 then aI_561_359 else aI_561_360)) else (if pc < 2936 then aI_561_361 else (if pc < 2946 then aI_561_362 else aI_561_363))) else (if pc < 2973 then (if pc < 2959 then aI_561_364 else (if pc < 2967 then aI_561_365 else aI_561_366)) else (if pc < 2986 then (if pc < 2979 then aI_561_367 else aI_561_368) else (if pc < 2995 then aI_561_369 else aI_561_370))))) else (if pc < 3089 then (if pc < 3044 then (if pc < 3024 then (if pc < 3010 then aI_561_371 else (if pc < 3016 then aI_561_372 else aI_561_373)) else (if pc < 3030 then aI_561_374 else (if pc < 3036 then aI_561_375 else aI_561_376))) else (if pc < 3068 then (if pc < 3052 then aI_561_377 else (if pc < 3062 then aI_561_378 else aI_561_379)) else (if pc < 3074 then aI_561_380 else (if pc < 3081 then aI_561_381 else aI_561_382)))) else (if pc < 3131 then (if pc < 3111 then (if pc < 3095 then aI_561_383 else (if pc < 3102 then aI_561_384 else aI_561_385)) else (if pc < 3119 then aI_561_386 else (if pc < 3125 then aI_561_387 else aI_561_388))) else (if pc < 3152 then (if pc < 3138 then aI_561_389 else (if pc < 3146 then aI_561_390 else aI_561_391)) else (if pc < 3170 then (if pc < 3160 then aI_561_392 else aI_561_393) else (if pc < 3182 then aI_561_394 else aI_561_395)))))))))
theorem aT_561 (pc : Nat) : sx_iOk code (aS_561 pc) := (sx_ite (p := fun l => sx_iOk code l) (sx_ite (p := fun l => sx_iOk code l) (sx_ite (p := fun l => sx_iOk code l) (sx_ite (p := fun l => sx_iOk code l) (sx_ite (p := fun l => sx_iOk code l) (sx_ite (p := fun l => sx_iOk code l) (sx_ite (p := fun l => sx_iOk code l) (sx_ite (p := fun l => sx_iOk code l) (sx_iB_s aJ_561_0) (sx_ite (p := fun l => sx_iOk code l) (sx_iB_s aJ_561_1) (sx_iB_s aJ_561_2))) (sx_ite (p := fun l => sx_iOk code l) (sx_iB_s aJ_561_3) (sx_ite (p := fun l => sx_iOk code l) (sx_iB_s aJ_561_4) (sx_iB_s aJ_561_5)))) (sx_ite (p := fun l => sx_iOk code l) (sx_ite (p := fun l => sx_iOk code l) (sx_iB_s aJ_561_6) (sx_ite (p := fun l => sx_iOk code l) (sx_iB_s aJ_561_7) (sx_iB_s aJ_561_8))) (sx_ite (p := fun l => sx_iOk code l) (sx_iB_s aJ_561_9) (sx_ite (p := fun l => sx_iOk code l) (sx_iB_s aJ_561_10) (sx_iB_s aJ_561_11))))) (sx_ite (p := fun l => sx_iOk code l) (sx_ite (p := fun l => sx_iOk code l) (sx_ite (p := fun l => sx_iOk code l) (sx_iB_s aJ_561_12) (sx_ite (p := fun l => sx_iOk code l) (sx_iB_s aJ_561_13) (sx_iB_s aJ_561_14))) (sx_ite (p := fun l => sx_iOk code l) (sx_iB_s aJ_561_15) (sx_ite (p := fun l => sx_iOk code l) (sx_iB_s aJ_561_16) (sx_iB_s aJ_561_17)))) (sx_ite (p := fun l => sx_iOk code l) (sx_ite (p := fun l => sx_iOk code l) (sx_iB_s aJ_561_18) (sx_ite (p := fun l => sx_iOk code l) (sx_iB_s aJ_561_19) (sx_iB_s aJ_561_20))) (sx_ite (p := fun l => sx_iOk code l) (sx_iB_s aJ_561_21) (sx_ite (p := fun l => sx_iOk code l) (sx_iB_s aJ_561_22) (sx_iB_s aJ_561_23)))))) (sx_ite (p := fun l => sx_iOk code l) (sx_ite (p := fun l => sx_iOk code l) (sx_ite (p := fun l => sx_iOk code l) (sx_ite (p := fun l => sx_iOk code l) (sx_iB_s aJ_561_24) (sx_ite (p := fun l => sx_iOk code l) (sx_iB_s aJ_561_25) (sx_iB_s aJ_561_26))) (sx_ite (p := fun l => sx_iOk code l) (sx_iB_s aJ_561_27) (sx_ite (p := fun l => sx_iOk code l) (sx_iB_s aJ_561_28) (sx_iB_s aJ_561_29)))) (sx_ite (p := fun l => sx_iOk code l) (sx_ite (p := fun l => sx_iOk code l) (sx_iB_s aJ_561_30) (sx_ite (p := fun l => sx_iOk code l) (sx_iB_s aJ_561_31) (sx_iB_s aJ_561_32))) (sx_ite (p := fun l => sx_iOk code l) (sx_iB_s aJ_561_33) (sx_ite (p := fun l => sx_iOk code l) (sx_iB_s aJ_561_34) (sx_iB_s aJ_561_35))))) (sx_ite (p := fun l => sx_iOk code l) (sx_ite (p := fun l => sx_iOk code l) (sx_ite (p := fun l => sx_iOk code l) (sx_iB_s aJ_561_36) (sx_ite (p := fun l => sx_iOk code l) (sx_iB_s aJ_561_37) (sx_iB_s aJ_561_38))) (sx_ite (p := fun l => sx_iOk code l) (sx_iB_s aJ_561_39) (sx_ite (p := fun l => sx_iOk code l) (sx_iB_s aJ_561_40) (sx_iB_s aJ_561_41)))) (sx_ite (p := fun l => sx_iOk code l) (sx_ite (p := fun l => sx_iOk code l) (sx_iB_s aJ_561_42) (sx_ite (p := fun l => sx_iOk code l) (sx_iB_s aJ_561_43) (sx_iB_s aJ_561_44))) (sx_ite (p := fun l => sx_iOk code l) (sx_ite (p := fun l => sx_iOk code l) (sx_iB_s aJ_561_45) (sx_iB_s aJ_561_46)) (sx_ite (p := fun l => sx_iOk code l) (sx_iB_s aJ_561_47) (sx_iB_s aJ_561_48))))))) (sx_ite (p := fun l => sx_iOk code l) (sx_ite (p := fun l => sx_iOk code l) (sx_ite (p := fun l => sx_iOk code l) (sx_ite (p := fun l => sx_iOk code l) (sx_ite (p := fun l => sx_iOk code l) (sx_iB_s aJ_561_49) (sx_ite (p := fun l => sx_iOk code l) (sx_iB_s aJ_561_50) (sx_iB_s aJ_561_51))) (sx_ite (p := fun l => sx_iOk code l) (sx_iB_s aJ_561_52) (sx_ite (p := fun l => sx_iOk code l) (sx_iB_s aJ_561_53) (sx_iB_s aJ_561_54)))) (sx_ite (p := fun l => sx_iOk code l) (sx_ite (p := fun l => sx_iOk code l) (sx_iB_s aJ_561_55) (sx_ite (p := fun l => sx_iOk code l) (sx_iB_s aJ_561_56) (sx_iB_s aJ_561_57))) (sx_ite (p := fun l => sx_iOk code l) (sx_iB_s aJ_561_58) (sx_ite (p := fun l => sx_iOk code l) (sx_iB_s aJ_561_59) (sx_iB_s aJ_561_60))))) (sx_ite (p := fun l => sx_iOk code l) (sx_ite (p := fun l => sx_iOk code l) (sx_ite (p := fun l => sx_iOk code l) (sx_iB_s aJ_561_61) (sx_ite (p := fun l => sx_iOk code l) (sx_iB_s aJ_561_62) (sx_iB_s aJ_561_63))) (sx_ite (p := fun l => sx_iOk code l) (sx_iB_s aJ_561_64) (sx_ite (p := fun l => sx_iOk code l) (sx_iB_s aJ_561_65) (sx_iB_s aJ_561_66)))) (sx_ite (p := fun l => sx_iOk code l) (sx_ite (p := fun l => sx_iOk code l) (sx_iB_s aJ_561_67) (sx_ite (p := fun l => sx_iOk code l) (sx_iB_s aJ_561_68) (sx_iB_s aJ_561_69))) (sx_ite (p := fun l => sx_iOk code l) (sx_ite (p := fun l => sx_iOk code l) (sx_iB_s aJ_561_70) (sx_iB_s aJ_561_71)) (sx_ite (p := fun l => sx_iOk code l) (sx_iB_s aJ_561_72) (sx_iB_s aJ_561_73)))))) (sx_ite (p := fun l => sx_iOk code l) (sx_ite (p := fun l => sx_iOk code l) (sx_ite (p := fun l => sx_iOk code l) (sx_ite (p := fun l => sx_iOk code l) (sx_iB_s aJ_561_74) (sx_ite (p := fun l => sx_iOk code l) (sx_iB_s aJ_561_75) (sx_iB_s aJ_561_76))) (sx_ite (p := fun l => sx_iOk code l) (sx_iB_s aJ_561_77) (sx_ite (p := fun l => sx_iOk code l) (sx_iB_s aJ_561_78) (sx_iB_s aJ_561_79)))) (sx_ite (p := fun l => sx_iOk code l) (sx_ite (p := fun l => sx_iOk code l) (sx_iB_s aJ_561_80) (sx_ite (p := fun l => sx_iOk code l) (sx_iB_s aJ_561_81) (sx_iB_s aJ_561_82))) (sx_ite (p := fun l => sx_iOk code l) (sx_iB_s aJ_561_83) (sx_ite (p := fun l => sx_iOk code l) (sx_iB_s aJ_561_84) (sx_iB_s aJ_561_85))))) (sx_ite (p := fun l => sx_iOk code l) (sx_ite (p := fun l => sx_iOk code l) (sx_ite (p := fun l => sx_iOk code l) (sx_iB_s aJ_561_86) (sx_ite (p := fun l => sx_iOk code l) (sx_iB_s aJ_561_87) (sx_iB_s aJ_561_88))) (sx_ite (p := fun l => sx_iOk code l) (sx_iB_s aJ_561_89) (sx_ite (p := fun l => sx_iOk code l) (sx_iB_s aJ_561_90) (sx_iB_s aJ_561_91)))) (sx_ite (p := fun l => sx_iOk code l) (sx_ite (p := fun l => sx_iOk code l) (sx_iB_s aJ_561_92) (sx_ite (p := fun l => sx_iOk code l) (sx_iB_s aJ_561_93) (sx_iB_s aJ_561_94))) (sx_ite (p := fun l => sx_iOk code l) (sx_ite (p := fun l => sx_iOk code l) (sx_iB_s aJ_561_95) (sx_iB_s aJ_561_96)) (sx_ite (p := fun l => sx_iOk code l) (sx_iB_s aJ_561_97) (sx_iB_s aJ_561_98)))))))) (sx_ite (p := fun l => sx_iOk code l) (sx_ite (p := fun l => sx_iOk code l) (sx_ite (p := fun l => sx_iOk code l) (sx_ite (p := fun l => sx_iOk code l) (sx_ite (p := fun l => sx_iOk code l) (sx_ite (p := fun l => sx_iOk code l) (sx_iB_s aJ_561_99) (sx_ite (p := fun l => sx_iOk code l) (sx_iB_s aJ_561_100) (sx_iB_s aJ_561_101))) (sx_ite (p := fun l => sx_iOk code l) (sx_iB_s aJ_561_102) (sx_ite (p := fun l => sx_iOk code l) (sx_iB_s aJ_561_103) (sx_iB_s aJ_561_104)))) (sx_ite (p := fun l => sx_iOk code l) (sx_ite (p := fun l => sx_iOk code l) (sx_iB_s aJ_561_105) (sx_ite (p := fun l => sx_iOk code l) (sx_iB_s aJ_561_106) (sx_iB_s aJ_561_107))) (sx_ite (p := fun l => sx_iOk code l) (sx_iB_s aJ_561_108) (sx_ite (p := fun l => sx_iOk code l) (sx_iB_s aJ_561_109) (sx_iB_s aJ_561_110))))) (sx_ite (p := fun l => sx_iOk code l) (sx_ite (p := fun l => sx_iOk code l) (sx_ite (p := fun l => sx_iOk code l) (sx_iB_s aJ_561_111) (sx_ite (p := fun l => sx_iOk code l) (sx_iB_s aJ_561_112) (sx_iB_s aJ_561_113))) (sx_ite (p := fun l => sx_iOk code l) (sx_iB_s aJ_561_114) (sx_ite (p := fun l => sx_iOk code l) (sx_iB_s aJ_561_115) (sx_iB_s aJ_561_116)))) (sx_ite (p := fun l => sx_iOk code l) (sx_ite (p := fun l => sx_iOk code l) (sx_iB_s aJ_561_117) (sx_ite (p := fun l => sx_iOk code l) (sx_iB_s aJ_561_118) (sx_iB_s aJ_561_119))) (sx_ite (p := fun l => sx_iOk code l) (sx_iB_s aJ_561_120) (sx_ite (p := fun l => sx_iOk code l) (sx_iB_s aJ_561_121) (sx_iB_s aJ_561_122)))))) (sx_ite (p := fun l => sx_iOk code l) (sx_ite (p := fun l => sx_iOk code l) (sx_ite (p := fun l => sx_iOk code l) (sx_ite (p := fun l => sx_iOk code l) (sx_iB_s aJ_561_123) (sx_ite (p := fun l => sx_iOk code l) (sx_iB_s aJ_561_124) (sx_iB_s aJ_561_125))) (sx_ite (p := fun l => sx_iOk code l) (sx_iB_s aJ_561_126) (sx_ite (p := fun l => sx_iOk code l) (sx_iB_s aJ_561_127) (sx_iB_s aJ_561_128)))) (sx_ite (p := fun l => sx_iOk code l) (sx_ite (p := fun l => sx_iOk code l) (sx_iB_s aJ_561_129) (sx_ite (p := fun l => sx_iOk code l) (sx_iB_s aJ_561_130) (sx_iB_s aJ_561_131))) (sx_ite (p := fun l => sx_iOk code l) (sx_iB_s aJ_561_132) (sx_ite (p := fun l => sx_iOk code l) (sx_iB_s aJ_561_133) (sx_iB_s aJ_561_134))))) (sx_ite (p := fun l => sx_iOk code l) (sx_ite (p := fun l => sx_iOk code l) (sx_ite (p := fun l => sx_iOk code l) (sx_iB_s aJ_561_135) (sx_ite (p := fun l => sx_iOk code l) (sx_iB_s aJ_561_136) (sx_iB_s aJ_561_137))) (sx_ite (p := fun l => sx_iOk code l) (sx_iB_s aJ_561_138) (sx_ite (p := fun l => sx_iOk code l) (sx_iB_s aJ_561_139) (sx_iB_s aJ_561_140)))) (sx_ite (p := fun l => sx_iOk code l) (sx_ite (p := fun l => sx_iOk code l) (sx_iB_s aJ_561_141) (sx_ite (p := fun l => sx_iOk code l) (sx_iB_s aJ_561_142) (sx_iB_s aJ_561_143))) (sx_ite (p := fun l => sx_iOk code l) (sx_ite (p := fun l => sx_iOk code l) (sx_iB_s aJ_561_144) (sx_iB_s aJ_561_145)) (sx_ite (p := fun l => sx_iOk code l) (sx_iB_s aJ_561_146) (sx_iB_s aJ_561_147))))))) (sx_ite (p := fun l => sx_iOk code l) (sx_ite (p := fun l => sx_iOk code l) (sx_ite (p := fun l => sx_iOk code l) (sx_ite (p := fun l => sx_iOk code l) (sx_ite (p := fun l => sx_iOk code l) (sx_iB_s aJ_561_148) (sx_ite (p := fun l => sx_iOk code l) (sx_iB_s aJ_561_149) (sx_iB_s aJ_561_150))) (sx_ite (p := fun l => sx_iOk code l) (sx_iB_s aJ_561_151) (sx_ite (p := fun l => sx_iOk code l) (sx_iB_s aJ_561_152) (sx_iB_s aJ_561_153)))) (sx_ite (p := fun l => sx_iOk code l) (sx_ite (p := fun l => sx_iOk code l) (sx_iB_s aJ_561_154) (sx_ite (p := fun l => sx_iOk code l) (sx_iB_s aJ_561_155) (sx_iB_s aJ_561_156))) (sx_ite (p := fun l => sx_iOk code l) (sx_iB_s aJ_561_157) (sx_ite (p := fun l => sx_iOk code l) (sx_iB_s aJ_561_158) (sx_iB_s aJ_561_159))))) (sx_ite (p := fun l => sx_iOk code l) (sx_ite (p := fun l => sx_iOk code l) (sx_ite (p := fun l => sx_iOk code l) (sx_iB_s aJ_561_160) (sx_ite (p := fun l => sx_iOk code l) (sx_iB_s aJ_561_161) (sx_iB_s aJ_561_162))) (sx_ite (p := fun l => sx_iOk code l) (sx_iB_s aJ_561_163) (sx_ite (p := fun l => sx_iOk code l) (sx_iB_s aJ_561_164) (sx_iB_s aJ_561_165)))) (sx_ite (p := fun l => sx_iOk code l) (sx_ite (p := fun l => sx_iOk code l) (sx_iB_s aJ_561_166) (sx_ite (p := fun l => sx_iOk code l) (sx_iB_s aJ_561_167) (sx_iB_s aJ_561_168))) (sx_ite (p := fun l => sx_iOk code l) (sx_ite (p := fun l => sx_iOk code l) (sx_iB_s aJ_561_169) (sx_iB_s aJ_561_170)) (sx_ite (p := fun l => sx_iOk code l) (sx_iB_s aJ_561_171) (sx_iB_s aJ_561_172)))))) (sx_ite (p := fun l => sx_iOk code l) (sx_ite (p := fun l => sx_iOk code l) (sx_ite (p := fun l => sx_iOk code l) (sx_ite (p := fun l => sx_iOk code l) (sx_iB_s aJ_561_173) (sx_ite (p := fun l => sx_iOk code l) (sx_iB_s aJ_561_174) (sx_iB_s aJ_561_175))) (sx_ite (p := fun l => sx_iOk code l) (sx_iB_s aJ_561_176) (sx_ite (p := fun l => sx_iOk code l) (sx_iB_s aJ_561_177) (sx_iB_s aJ_561_178)))) (sx_ite (p := fun l => sx_iOk code l) (sx_ite (p := fun l => sx_iOk code l) (sx_iB_s aJ_561_179) (sx_ite (p := fun l => sx_iOk code l) (sx_iB_s aJ_561_180) (sx_iB_s aJ_561_181))) (sx_ite (p := fun l => sx_iOk code l) (sx_iB_s aJ_561_182) (sx_ite (p := fun l => sx_iOk code l) (sx_iB_s aJ_561_183) (sx_iB_s aJ_561_184))))) (sx_ite (p := fun l => sx_iOk code l) (sx_ite (p := fun l => sx_iOk code l) (sx_ite (p := fun l => sx_iOk code l) (sx_iB_s aJ_561_185) (sx_ite (p := fun l => sx_iOk code l) (sx_iB_s aJ_561_186) (sx_iB_s aJ_561_187))) (sx_ite (p := fun l => sx_iOk code l) (sx_iB_s aJ_561_188) (sx_ite (p := fun l => sx_iOk code l) (sx_iB_s aJ_561_189) (sx_iB_s aJ_561_190)))) (sx_ite (p := fun l => sx_iOk code l) (sx_ite (p := fun l => sx_iOk code l) (sx_iB_s aJ_561_191) (sx_ite (p := fun l => sx_iOk code l) (sx_iB_s aJ_561_192) (sx_iB_s aJ_561_193))) (sx_ite (p := fun l => sx_iOk code l) (sx_ite (p := fun l => sx_iOk code l) (sx_iB_s aJ_561_194) (sx_iB_s aJ_561_195)) (sx_ite (p := fun l => sx_iOk code l) (sx_iB_s aJ_561_196) (sx_iB_s aJ_561_197))))))))) (sx_ite (p := fun l => sx_iOk code l) (sx_ite (p := fun l => sx_iOk code l) (sx_ite (p := fun l => sx_iOk code l) (sx_ite (p := fun l => sx_iOk code l) (sx_ite (p := fun l => sx_iOk code l) (sx_ite (p := fun l => sx_iOk code l) (sx_ite (p := fun l => sx_iOk code l) (sx_iB_s aJ_561_198) (sx_ite (p := fun l => sx_iOk code l) (sx_iB_s aJ_561_199) (sx_iB_s aJ_561_200))) (sx_ite (p := fun l => sx_iOk code l) (sx_iB_s aJ_561_201) (sx_ite (p := fun l => sx_iOk code l) (sx_iB_s aJ_561_202) (sx_iB_s aJ_561_203)))) (sx_ite (p := fun l => sx_iOk code l) (sx_ite (p := fun l => sx_iOk code l) (sx_iB_s aJ_561_204) (sx_ite (p := fun l => sx_iOk code l) (sx_iB_s aJ_561_205) (sx_iB_s aJ_561_206))) (sx_ite (p := fun l => sx_iOk code l) (sx_iB_s aJ_561_207) (sx_ite (p := fun l => sx_iOk code l) (sx_iB_s aJ_561_208) (sx_iB_s aJ_561_209))))) (sx_ite (p := fun l => sx_iOk code l) (sx_ite (p := fun l => sx_iOk code l) (sx_ite (p := fun l => sx_iOk code l) (sx_iB_s aJ_561_210) (sx_ite (p := fun l => sx_iOk code l) (sx_iB_s aJ_561_211) (sx_iB_s aJ_561_212))) (sx_ite (p := fun l => sx_iOk code l) (sx_iB_s aJ_561_213) (sx_ite (p := fun l => sx_iOk code l) (sx_iB_s aJ_561_214) (sx_iB_s aJ_561_215)))) (sx_ite (p := fun l => sx_iOk code l) (sx_ite (p := fun l => sx_iOk code l) (sx_iB_s aJ_561_216) (sx_ite (p := fun l => sx_iOk code l) (sx_iB_s aJ_561_217) (sx_iB_s aJ_561_218))) (sx_ite (p := fun l => sx_iOk code l) (sx_iB_s aJ_561_219) (sx_ite (p := fun l => sx_iOk code l) (sx_iB_s aJ_561_220) (sx_iB_s aJ_561_221)))))) (sx_ite (p := fun l => sx_iOk code l) (sx_ite (p := fun l => sx_iOk code l) (sx_ite (p := fun l => sx_iOk code l) (sx_ite (p := fun l => sx_iOk code l) (sx_iB_s aJ_561_222) (sx_ite (p := fun l => sx_iOk code l) (sx_iB_s aJ_561_223) (sx_iB_s aJ_561_224))) (sx_ite (p := fun l => sx_iOk code l) (sx_iB_s aJ_561_225) (sx_ite (p := fun l => sx_iOk code l) (sx_iB_s aJ_561_226) (sx_iB_s aJ_561_227)))) (sx_ite (p := fun l => sx_iOk code l) (sx_ite (p := fun l => sx_iOk code l) (sx_iB_s aJ_561_228) (sx_ite (p := fun l => sx_iOk code l) (sx_iB_s aJ_561_229) (sx_iB_s aJ_561_230))) (sx_ite (p := fun l => sx_iOk code l) (sx_iB_s aJ_561_231) (sx_ite (p := fun l => sx_iOk code l) (sx_iB_s aJ_561_232) (sx_iB_s aJ_561_233))))) (sx_ite (p := fun l => sx_iOk code l) (sx_ite (p := fun l => sx_iOk code l) (sx_ite (p := fun l => sx_iOk code l) (sx_iB_s aJ_561_234) (sx_ite (p := fun l => sx_iOk code l) (sx_iB_s aJ_561_235) (sx_iB_s aJ_561_236))) (sx_ite (p := fun l => sx_iOk code l) (sx_iB_s aJ_561_237) (sx_ite (p := fun l => sx_iOk code l) (sx_iB_s aJ_561_238) (sx_iB_s aJ_561_239)))) (sx_ite (p := fun l => sx_iOk code l) (sx_ite (p := fun l => sx_iOk code l) (sx_iB_s aJ_561_240) (sx_ite (p := fun l => sx_iOk code l) (sx_iB_s aJ_561_241) (sx_iB_s aJ_561_242))) (sx_ite (p := fun l => sx_iOk code l) (sx_ite (p := fun l => sx_iOk code l) (sx_iB_s aJ_561_243) (sx_iB_s aJ_561_244)) (sx_ite (p := fun l => sx_iOk code l) (sx_iB_s aJ_561_245) (sx_iB_s aJ_561_246))))))) (sx_ite (p := fun l => sx_iOk code l) (sx_ite (p := fun l => sx_iOk code l) (sx_ite (p := fun l => sx_iOk code l) (sx_ite (p := fun l => sx_iOk code l) (sx_ite (p := fun l => sx_iOk code l) (sx_iB_s aJ_561_247) (sx_ite (p := fun l => sx_iOk code l) (sx_iB_s aJ_561_248) (sx_iB_s aJ_561_249))) (sx_ite (p := fun l => sx_iOk code l) (sx_iB_s aJ_561_250) (sx_ite (p := fun l => sx_iOk code l) (sx_iB_s aJ_561_251) (sx_iB_s aJ_561_252)))) (sx_ite (p := fun l => sx_iOk code l) (sx_ite (p := fun l => sx_iOk code l) (sx_iB_s aJ_561_253) (sx_ite (p := fun l => sx_iOk code l) (sx_iB_s aJ_561_254) (sx_iB_s aJ_561_255))) (sx_ite (p := fun l => sx_iOk code l) (sx_iB_s aJ_561_256) (sx_ite (p := fun l => sx_iOk code l) (sx_iB_s aJ_561_257) (sx_iB_s aJ_561_258))))) (sx_ite (p := fun l => sx_iOk code l) (sx_ite (p := fun l => sx_iOk code l) (sx_ite (p := fun l => sx_iOk code l) (sx_iB_s aJ_561_259) (sx_ite (p := fun l => sx_iOk code l) (sx_iB_s aJ_561_260) (sx_iB_s aJ_561_261))) (sx_ite (p := fun l => sx_iOk code l) (sx_iB_s aJ_561_262) (sx_ite (p := fun l => sx_iOk code l) (sx_iB_s aJ_561_263) (sx_iB_s aJ_561_264)))) (sx_ite (p := fun l => sx_iOk code l) (sx_ite (p := fun l => sx_iOk code l) (sx_iB_s aJ_561_265) (sx_ite (p := fun l => sx_iOk code l) (sx_iB_s aJ_561_266) (sx_iB_s aJ_561_267))) (sx_ite (p := fun l => sx_iOk code l) (sx_ite (p := fun l => sx_iOk code l) (sx_iB_s aJ_561_268) (sx_iB_s aJ_561_269)) (sx_ite (p := fun l => sx_iOk code l) (sx_iB_s aJ_561_270) (sx_iB_s aJ_561_271)))))) (sx_ite (p := fun l => sx_iOk code l) (sx_ite (p := fun l => sx_iOk code l) (sx_ite (p := fun l => sx_iOk code l) (sx_ite (p := fun l => sx_iOk code l) (sx_iB_s aJ_561_272) (sx_ite (p := fun l => sx_iOk code l) (sx_iB_s aJ_561_273) (sx_iB_s aJ_561_274))) (sx_ite (p := fun l => sx_iOk code l) (sx_iB_s aJ_561_275) (sx_ite (p := fun l => sx_iOk code l) (sx_iB_s aJ_561_276) (sx_iB_s aJ_561_277)))) (sx_ite (p := fun l => sx_iOk code l) (sx_ite (p := fun l => sx_iOk code l) (sx_iB_s aJ_561_278) (sx_ite (p := fun l => sx_iOk code l) (sx_iB_s aJ_561_279) (sx_iB_s aJ_561_280))) (sx_ite (p := fun l => sx_iOk code l) (sx_iB_s aJ_561_281) (sx_ite (p := fun l => sx_iOk code l) (sx_iB_s aJ_561_282) (sx_iB_s aJ_561_283))))) (sx_ite (p := fun l => sx_iOk code l) (sx_ite (p := fun l => sx_iOk code l) (sx_ite (p := fun l => sx_iOk code l) (sx_iB_s aJ_561_284) (sx_ite (p := fun l => sx_iOk code l) (sx_iB_s aJ_561_285) (sx_iB_s aJ_561_286))) (sx_ite (p := fun l => sx_iOk code l) (sx_iB_s aJ_561_287) (sx_ite (p := fun l => sx_iOk code l) (sx_iB_s aJ_561_288) (sx_iB_s aJ_561_289)))) (sx_ite (p := fun l => sx_iOk code l) (sx_ite (p := fun l => sx_iOk code l) (sx_iB_s aJ_561_290) (sx_ite (p := fun l => sx_iOk code l) (sx_iB_s aJ_561_291) (sx_iB_s aJ_561_292))) (sx_ite (p := fun l => sx_iOk code l) (sx_ite (p := fun l => sx_iOk code l) (sx_iB_s aJ_561_293) (sx_iB_s aJ_561_294)) (sx_ite (p := fun l => sx_iOk code l) (sx_iB_s aJ_561_295) (sx_iB_s aJ_561_296)))))))) (sx_ite (p := fun l => sx_iOk code l) (sx_ite (p := fun l => sx_iOk code l) (sx_ite (p := fun l => sx_iOk code l) (sx_ite (p := fun l => sx_iOk code l) (sx_ite (p := fun l => sx_iOk code l) (sx_ite (p := fun l => sx_iOk code l) (sx_iB_s aJ_561_297) (sx_ite (p := fun l => sx_iOk code l) (sx_iB_s aJ_561_298) (sx_iB_s aJ_561_299))) (sx_ite (p := fun l => sx_iOk code l) (sx_iB_s aJ_561_300) (sx_ite (p := fun l => sx_iOk code l) (sx_iB_s aJ_561_301) (sx_iB_s aJ_561_302)))) (sx_ite (p := fun l => sx_iOk code l) (sx_ite (p := fun l => sx_iOk code l) (sx_iB_s aJ_561_303) (sx_ite (p := fun l => sx_iOk code l) (sx_iB_s aJ_561_304) (sx_iB_s aJ_561_305))) (sx_ite (p := fun l => sx_iOk code l) (sx_iB_s aJ_561_306) (sx_ite (p := fun l => sx_iOk code l) (sx_iB_s aJ_561_307) (sx_iB_s aJ_561_308))))) (sx_ite (p := fun l => sx_iOk code l) (sx_ite (p := fun l => sx_iOk code l) (sx_ite (p := fun l => sx_iOk code l) (sx_iB_s aJ_561_309) (sx_ite (p := fun l => sx_iOk code l) (sx_iB_s aJ_561_310) (sx_iB_s aJ_561_311))) (sx_ite (p := fun l => sx_iOk code l) (sx_iB_s aJ_561_312) (sx_ite (p := fun l => sx_iOk code l) (sx_iB_s aJ_561_313) (sx_iB_s aJ_561_314)))) (sx_ite (p := fun l => sx_iOk code l) (sx_ite (p := fun l => sx_iOk code l) (sx_iB_s aJ_561_315) (sx_ite (p := fun l => sx_iOk code l) (sx_iB_s aJ_561_316) (sx_iB_s aJ_561_317))) (sx_ite (p := fun l => sx_iOk code l) (sx_iB_s aJ_561_318) (sx_ite (p := fun l => sx_iOk code l) (sx_iB_s aJ_561_319) (sx_iB_s aJ_561_320)))))) (sx_ite (p := fun l => sx_iOk code l) (sx_ite (p := fun l => sx_iOk code l) (sx_ite (p := fun l => sx_iOk code l) (sx_ite (p := fun l => sx_iOk code l) (sx_iB_s aJ_561_321) (sx_ite (p := fun l => sx_iOk code l) (sx_iB_s aJ_561_322) (sx_iB_s aJ_561_323))) (sx_ite (p := fun l => sx_iOk code l) (sx_iB_s aJ_561_324) (sx_ite (p := fun l => sx_iOk code l) (sx_iB_s aJ_561_325) (sx_iB_s aJ_561_326)))) (sx_ite (p := fun l => sx_iOk code l) (sx_ite (p := fun l => sx_iOk code l) (sx_iB_s aJ_561_327) (sx_ite (p := fun l => sx_iOk code l) (sx_iB_s aJ_561_328) (sx_iB_s aJ_561_329))) (sx_ite (p := fun l => sx_iOk code l) (sx_iB_s aJ_561_330) (sx_ite (p := fun l => sx_iOk code l) (sx_iB_s aJ_561_331) (sx_iB_s aJ_561_332))))) (sx_ite (p := fun l => sx_iOk code l) (sx_ite (p := fun l => sx_iOk code l) (sx_ite (p := fun l => sx_iOk code l) (sx_iB_s aJ_561_333) (sx_ite (p := fun l => sx_iOk code l) (sx_iB_s aJ_561_334) (sx_iB_s aJ_561_335))) (sx_ite (p := fun l => sx_iOk code l) (sx_iB_s aJ_561_336) (sx_ite (p := fun l => sx_iOk code l) (sx_iB_s aJ_561_337) (sx_iB_s aJ_561_338)))) (sx_ite (p := fun l => sx_iOk code l) (sx_ite (p := fun l => sx_iOk code l) (sx_iB_s aJ_561_339) (sx_ite (p := fun l => sx_iOk code l) (sx_iB_s aJ_561_340) (sx_iB_s aJ_561_341))) (sx_ite (p := fun l => sx_iOk code l) (sx_ite (p := fun l => sx_iOk code l) (sx_iB_s aJ_561_342) (sx_iB_s aJ_561_343)) (sx_ite (p := fun l => sx_iOk code l) (sx_iB_s aJ_561_344) (sx_iB_s aJ_561_345))))))) (sx_ite (p := fun l => sx_iOk code l) (sx_ite (p := fun l => sx_iOk code l) (sx_ite (p := fun l => sx_iOk code l) (sx_ite (p := fun l => sx_iOk code l) (sx_ite (p := fun l => sx_iOk code l) (sx_iB_s aJ_561_346) (sx_ite (p := fun l => sx_iOk code l) (sx_iB_s aJ_561_347) (sx_iB_s aJ_561_348))) (sx_ite (p := fun l => sx_iOk code l) (sx_iB_s aJ_561_349) (sx_ite (p := fun l => sx_iOk code l) (sx_iB_s aJ_561_350) (sx_iB_s aJ_561_351)))) (sx_ite (p := fun l => sx_iOk code l) (sx_ite (p := fun l => sx_iOk code l) (sx_iB_s aJ_561_352) (sx_ite (p := fun l => sx_iOk code l) (sx_iB_s aJ_561_353) (sx_iB_s aJ_561_354))) (sx_ite (p := fun l => sx_iOk code l) (sx_iB_s aJ_561_355) (sx_ite (p := fun l => sx_iOk code l) (sx_iB_s aJ_561_356) (sx_iB_s aJ_561_357))))) (sx_ite (p := fun l => sx_iOk code l) (sx_ite (p := fun l => sx_iOk code l) (sx_ite (p := fun l => sx_iOk code l) (sx_iB_s aJ_561_358) (sx_ite (p := fun l => sx_iOk code l) (sx_iB_s aJ_561_359) (sx_iB_s aJ_561_360))) (sx_ite (p := fun l => sx_iOk code l) (sx_iB_s aJ_561_361) (sx_ite (p := fun l => sx_iOk code l) (sx_iB_s aJ_561_362) (sx_iB_s aJ_561_363)))) (sx_ite (p := fun l => sx_iOk code l) (sx_ite (p := fun l => sx_iOk code l) (sx_iB_s aJ_561_364) (sx_ite (p := fun l => sx_iOk code l) (sx_iB_s aJ_561_365) (sx_iB_s aJ_561_366))) (sx_ite (p := fun l => sx_iOk code l) (sx_ite (p := fun l => sx_iOk code l) (sx_iB_s aJ_561_367) (sx_iB_s aJ_561_368)) (sx_ite (p := fun l => sx_iOk code l) (sx_iB_s aJ_561_369) (sx_iB_s aJ_561_370)))))) (sx_ite (p := fun l => sx_iOk code l) (sx_ite (p := fun l => sx_iOk code l) (sx_ite (p := fun l => sx_iOk code l) (sx_ite (p := fun l => sx_iOk code l) (sx_iB_s aJ_561_371) (sx_ite (p := fun l => sx_iOk code l) (sx_iB_s aJ_561_372) (sx_iB_s aJ_561_373))) (sx_ite (p := fun l => sx_iOk code l) (sx_iB_s aJ_561_374) (sx_ite (p := fun l => sx_iOk code l) (sx_iB_s aJ_561_375) (sx_iB_s aJ_561_376)))) (sx_ite (p := fun l => sx_iOk code l) (sx_ite (p := fun l => sx_iOk code l) (sx_iB_s aJ_561_377) (sx_ite (p := fun l => sx_iOk code l) (sx_iB_s aJ_561_378) (sx_iB_s aJ_561_379))) (sx_ite (p := fun l => sx_iOk code l) (sx_iB_s aJ_561_380) (sx_ite (p := fun l => sx_iOk code l) (sx_iB_s aJ_561_381) (sx_iB_s aJ_561_382))))) (sx_ite (p := fun l => sx_iOk code l) (sx_ite (p := fun l => sx_iOk code l) (sx_ite (p := fun l => sx_iOk code l) (sx_iB_s aJ_561_383) (sx_ite (p := fun l => sx_iOk code l) (sx_iB_s aJ_561_384) (sx_iB_s aJ_561_385))) (sx_ite (p := fun l => sx_iOk code l) (sx_iB_s aJ_561_386) (sx_ite (p := fun l => sx_iOk code l) (sx_iB_s aJ_561_387) (sx_iB_s aJ_561_388)))) (sx_ite (p := fun l => sx_iOk code l) (sx_ite (p := fun l => sx_iOk code l) (sx_iB_s aJ_561_389) (sx_ite (p := fun l => sx_iOk code l) (sx_iB_s aJ_561_390) (sx_iB_s aJ_561_391))) (sx_ite (p := fun l => sx_iOk code l) (sx_ite (p := fun l => sx_iOk code l) (sx_iB_s aJ_561_392) (sx_iB_s aJ_561_393)) (sx_ite (p := fun l => sx_iOk code l) (sx_iB_s aJ_561_394) (sx_iB_s aJ_561_395))))))))))
def aU_561 (y pc : Nat) : Option (Instr × Nat) := if y = 561 then sx_iF (aS_561 pc) pc else none
set_option maxRecDepth 100000 in
theorem aV0_561 (y : Nat) : sx_P1 (aU_561 y) y := by
  intro pc r h mt hm
  unfold aU_561 at h
  split at h
  · rename_i hy
    subst hy
    have e : aM_561.1 = mt := Option.some.inj (show some aM_561.1 = some mt from hm)
    subst e
    exact sx_iF_s (aT_561 pc) h
  · cases h
def aIns : sx_Ins := fun y => (if y < 319 then (if y < 89 then (if y < 34 then (if y < 17 then (if y < 8 then (if y < 4 then (if y < 2 then (if y < 1 then aU_0 y else aU_1 y) else (if y < 3 then aU_2 y else aU_3 y)) else (if y < 6 then (if y < 5 then aU_4 y else aU_5 y) else (if y < 7 then aU_6 y else aU_7 y))) else (if y < 12 then (if y < 10 then (if y < 9 then aU_8 y else aU_9 y) else (if y < 11 then aU_10 y else aU_11 y)) else (if y < 14 then (if y < 13 then aU_12 y else aU_13 y) else (if y < 15 then aU_14 y else (if y < 16 then aU_15 y else aU_16 y))))) else (if y < 25 then (if y < 21 then (if y < 19 then (if y < 18 then aU_17 y else aU_18 y) else (if y < 20 then aU_19 y else aU_20 y)) else (if y < 23 then (if y < 22 then aU_21 y else aU_22 y) else (if y < 24 then aU_23 y else aU_24 y))) else (if y < 29 then (if y < 27 then (if y < 26 then aU_25 y else aU_26 y) else (if y < 28 then aU_27 y else aU_28 y)) else (if y < 31 then (if y < 30 then aU_29 y else aU_30 y) else (if y < 32 then aU_31 y else (if y < 33 then aU_32 y else aU_33 y)))))) else (if y < 51 then (if y < 42 then (if y < 38 then (if y < 36 then (if y < 35 then aU_34 y else aU_35 y) else (if y < 37 then aU_36 y else aU_37 y)) else (if y < 40 then (if y < 39 then aU_38 y else aU_39 y) else (if y < 41 then aU_40 y else aU_41 y))) else (if y < 46 then (if y < 44 then (if y < 43 then aU_42 y else aU_43 y) else (if y < 45 then aU_44 y else aU_45 y)) else (if y < 48 then (if y < 47 then aU_46 y else aU_47 y) else (if y < 49 then aU_48 y else (if y < 50 then aU_49 y else aU_50 y))))) else (if y < 63 then (if y < 55 then (if y < 53 then (if y < 52 then aU_51 y else aU_52 y) else (if y < 54 then aU_53 y else aU_54 y)) else (if y < 61 then (if y < 56 then aU_55 y else aU_56 y) else (if y < 62 then aU_61 y else aU_62 y))) else (if y < 67 then (if y < 65 then (if y < 64 then aU_63 y else aU_64 y) else (if y < 66 then aU_65 y else aU_66 y)) else (if y < 86 then (if y < 68 then aU_67 y else aU_68 y) else (if y < 87 then aU_86 y else (if y < 88 then aU_87 y else aU_88 y))))))) else (if y < 258 then (if y < 127 then (if y < 114 then (if y < 95 then (if y < 91 then (if y < 90 then aU_89 y else aU_90 y) else (if y < 94 then aU_91 y else aU_94 y)) else (if y < 111 then (if y < 96 then aU_95 y else aU_96 y) else (if y < 113 then aU_111 y else aU_113 y))) else (if y < 120 then (if y < 116 then (if y < 115 then aU_114 y else aU_115 y) else (if y < 117 then aU_116 y else aU_117 y)) else (if y < 123 then (if y < 122 then aU_120 y else aU_122 y) else (if y < 125 then aU_123 y else (if y < 126 then aU_125 y else aU_126 y))))) else (if y < 149 then (if y < 135 then (if y < 131 then (if y < 128 then aU_127 y else aU_128 y) else (if y < 133 then aU_131 y else aU_133 y)) else (if y < 143 then (if y < 136 then aU_135 y else aU_136 y) else (if y < 144 then aU_143 y else aU_144 y))) else (if y < 167 then (if y < 160 then (if y < 152 then aU_149 y else aU_152 y) else (if y < 161 then aU_160 y else aU_161 y)) else (if y < 169 then (if y < 168 then aU_167 y else aU_168 y) else (if y < 171 then aU_169 y else (if y < 195 then aU_171 y else aU_195 y)))))) else (if y < 285 then (if y < 268 then (if y < 263 then (if y < 260 then (if y < 259 then aU_258 y else aU_259 y) else (if y < 261 then aU_260 y else aU_261 y)) else (if y < 266 then (if y < 265 then aU_263 y else aU_265 y) else (if y < 267 then aU_266 y else aU_267 y))) else (if y < 273 then (if y < 270 then (if y < 269 then aU_268 y else aU_269 y) else (if y < 272 then aU_270 y else aU_272 y)) else (if y < 280 then (if y < 275 then aU_273 y else aU_275 y) else (if y < 281 then aU_280 y else (if y < 283 then aU_281 y else aU_283 y))))) else (if y < 307 then (if y < 298 then (if y < 293 then (if y < 289 then aU_285 y else aU_289 y) else (if y < 295 then aU_293 y else aU_295 y)) else (if y < 304 then (if y < 302 then aU_298 y else aU_302 y) else (if y < 306 then aU_304 y else aU_306 y))) else (if y < 313 then (if y < 309 then (if y < 308 then aU_307 y else aU_308 y) else (if y < 311 then aU_309 y else aU_311 y)) else (if y < 316 then (if y < 314 then aU_313 y else aU_314 y) else (if y < 317 then aU_316 y else (if y < 318 then aU_317 y else aU_318 y)))))))) else (if y < 387 then (if y < 353 then (if y < 336 then (if y < 327 then (if y < 323 then (if y < 321 then (if y < 320 then aU_319 y else aU_320 y) else (if y < 322 then aU_321 y else aU_322 y)) else (if y < 325 then (if y < 324 then aU_323 y else aU_324 y) else (if y < 326 then aU_325 y else aU_326 y))) else (if y < 331 then (if y < 329 then (if y < 328 then aU_327 y else aU_328 y) else (if y < 330 then aU_329 y else aU_330 y)) else (if y < 333 then (if y < 332 then aU_331 y else aU_332 y) else (if y < 334 then aU_333 y else (if y < 335 then aU_334 y else aU_335 y))))) else (if y < 344 then (if y < 340 then (if y < 338 then (if y < 337 then aU_336 y else aU_337 y) else (if y < 339 then aU_338 y else aU_339 y)) else (if y < 342 then (if y < 341 then aU_340 y else aU_341 y) else (if y < 343 then aU_342 y else aU_343 y))) else (if y < 348 then (if y < 346 then (if y < 345 then aU_344 y else aU_345 y) else (if y < 347 then aU_346 y else aU_347 y)) else (if y < 350 then (if y < 349 then aU_348 y else aU_349 y) else (if y < 351 then aU_350 y else (if y < 352 then aU_351 y else aU_352 y)))))) else (if y < 370 then (if y < 361 then (if y < 357 then (if y < 355 then (if y < 354 then aU_353 y else aU_354 y) else (if y < 356 then aU_355 y else aU_356 y)) else (if y < 359 then (if y < 358 then aU_357 y else aU_358 y) else (if y < 360 then aU_359 y else aU_360 y))) else (if y < 365 then (if y < 363 then (if y < 362 then aU_361 y else aU_362 y) else (if y < 364 then aU_363 y else aU_364 y)) else (if y < 367 then (if y < 366 then aU_365 y else aU_366 y) else (if y < 368 then aU_367 y else (if y < 369 then aU_368 y else aU_369 y))))) else (if y < 378 then (if y < 374 then (if y < 372 then (if y < 371 then aU_370 y else aU_371 y) else (if y < 373 then aU_372 y else aU_373 y)) else (if y < 376 then (if y < 375 then aU_374 y else aU_375 y) else (if y < 377 then aU_376 y else aU_377 y))) else (if y < 382 then (if y < 380 then (if y < 379 then aU_378 y else aU_379 y) else (if y < 381 then aU_380 y else aU_381 y)) else (if y < 384 then (if y < 383 then aU_382 y else aU_383 y) else (if y < 385 then aU_384 y else (if y < 386 then aU_385 y else aU_386 y))))))) else (if y < 436 then (if y < 404 then (if y < 395 then (if y < 391 then (if y < 389 then (if y < 388 then aU_387 y else aU_388 y) else (if y < 390 then aU_389 y else aU_390 y)) else (if y < 393 then (if y < 392 then aU_391 y else aU_392 y) else (if y < 394 then aU_393 y else aU_394 y))) else (if y < 399 then (if y < 397 then (if y < 396 then aU_395 y else aU_396 y) else (if y < 398 then aU_397 y else aU_398 y)) else (if y < 401 then (if y < 400 then aU_399 y else aU_400 y) else (if y < 402 then aU_401 y else (if y < 403 then aU_402 y else aU_403 y))))) else (if y < 416 then (if y < 408 then (if y < 406 then (if y < 405 then aU_404 y else aU_405 y) else (if y < 407 then aU_406 y else aU_407 y)) else (if y < 410 then (if y < 409 then aU_408 y else aU_409 y) else (if y < 411 then aU_410 y else aU_411 y))) else (if y < 429 then (if y < 418 then (if y < 417 then aU_416 y else aU_417 y) else (if y < 419 then aU_418 y else aU_419 y)) else (if y < 433 then (if y < 432 then aU_429 y else aU_432 y) else (if y < 434 then aU_433 y else (if y < 435 then aU_434 y else aU_435 y)))))) else (if y < 459 then (if y < 444 then (if y < 440 then (if y < 438 then (if y < 437 then aU_436 y else aU_437 y) else (if y < 439 then aU_438 y else aU_439 y)) else (if y < 442 then (if y < 441 then aU_440 y else aU_441 y) else (if y < 443 then aU_442 y else aU_443 y))) else (if y < 448 then (if y < 446 then (if y < 445 then aU_444 y else aU_445 y) else (if y < 447 then aU_446 y else aU_447 y)) else (if y < 450 then (if y < 449 then aU_448 y else aU_449 y) else (if y < 452 then aU_450 y else (if y < 457 then aU_452 y else aU_457 y))))) else (if y < 552 then (if y < 484 then (if y < 461 then (if y < 460 then aU_459 y else aU_460 y) else (if y < 483 then aU_461 y else aU_483 y)) else (if y < 550 then (if y < 485 then aU_484 y else aU_485 y) else (if y < 551 then aU_550 y else aU_551 y))) else (if y < 557 then (if y < 555 then (if y < 553 then aU_552 y else aU_553 y) else (if y < 556 then aU_555 y else aU_556 y)) else (if y < 559 then (if y < 558 then aU_557 y else aU_558 y) else (if y < 560 then aU_559 y else (if y < 561 then aU_560 y else aU_561 y)))))))))
theorem aIns_s : sx_insOk (aP (fun i => i)) aIns := by
  intro y
  show sx_P1 (aIns y) y
  unfold aIns
  exact (sx_ite (p := fun f => sx_P1 f y) (sx_ite (p := fun f => sx_P1 f y) (sx_ite (p := fun f => sx_P1 f y) (sx_ite (p := fun f => sx_P1 f y) (sx_ite (p := fun f => sx_P1 f y) (sx_ite (p := fun f => sx_P1 f y) (sx_ite (p := fun f => sx_P1 f y) (sx_ite (p := fun f => sx_P1 f y) (aV0_0 y) (aV0_1 y)) (sx_ite (p := fun f => sx_P1 f y) (aV0_2 y) (aV0_3 y))) (sx_ite (p := fun f => sx_P1 f y) (sx_ite (p := fun f => sx_P1 f y) (aV0_4 y) (aV0_5 y)) (sx_ite (p := fun f => sx_P1 f y) (aV0_6 y) (aV0_7 y)))) (sx_ite (p := fun f => sx_P1 f y) (sx_ite (p := fun f => sx_P1 f y) (sx_ite (p := fun f => sx_P1 f y) (aV0_8 y) (aV0_9 y)) (sx_ite (p := fun f => sx_P1 f y) (aV0_10 y) (aV0_11 y))) (sx_ite (p := fun f => sx_P1 f y) (sx_ite (p := fun f => sx_P1 f y) (aV0_12 y) (aV0_13 y)) (sx_ite (p := fun f => sx_P1 f y) (aV0_14 y) (sx_ite (p := fun f => sx_P1 f y) (aV0_15 y) (aV0_16 y)))))) (sx_ite (p := fun f => sx_P1 f y) (sx_ite (p := fun f => sx_P1 f y) (sx_ite (p := fun f => sx_P1 f y) (sx_ite (p := fun f => sx_P1 f y) (aV0_17 y) (aV0_18 y)) (sx_ite (p := fun f => sx_P1 f y) (aV0_19 y) (aV0_20 y))) (sx_ite (p := fun f => sx_P1 f y) (sx_ite (p := fun f => sx_P1 f y) (aV0_21 y) (aV0_22 y)) (sx_ite (p := fun f => sx_P1 f y) (aV0_23 y) (aV0_24 y)))) (sx_ite (p := fun f => sx_P1 f y) (sx_ite (p := fun f => sx_P1 f y) (sx_ite (p := fun f => sx_P1 f y) (aV0_25 y) (aV0_26 y)) (sx_ite (p := fun f => sx_P1 f y) (aV0_27 y) (aV0_28 y))) (sx_ite (p := fun f => sx_P1 f y) (sx_ite (p := fun f => sx_P1 f y) (aV0_29 y) (aV0_30 y)) (sx_ite (p := fun f => sx_P1 f y) (aV0_31 y) (sx_ite (p := fun f => sx_P1 f y) (aV0_32 y) (aV0_33 y))))))) (sx_ite (p := fun f => sx_P1 f y) (sx_ite (p := fun f => sx_P1 f y) (sx_ite (p := fun f => sx_P1 f y) (sx_ite (p := fun f => sx_P1 f y) (sx_ite (p := fun f => sx_P1 f y) (aV0_34 y) (aV0_35 y)) (sx_ite (p := fun f => sx_P1 f y) (aV0_36 y) (aV0_37 y))) (sx_ite (p := fun f => sx_P1 f y) (sx_ite (p := fun f => sx_P1 f y) (aV0_38 y) (aV0_39 y)) (sx_ite (p := fun f => sx_P1 f y) (aV0_40 y) (aV0_41 y)))) (sx_ite (p := fun f => sx_P1 f y) (sx_ite (p := fun f => sx_P1 f y) (sx_ite (p := fun f => sx_P1 f y) (aV0_42 y) (aV0_43 y)) (sx_ite (p := fun f => sx_P1 f y) (aV0_44 y) (aV0_45 y))) (sx_ite (p := fun f => sx_P1 f y) (sx_ite (p := fun f => sx_P1 f y) (aV0_46 y) (aV0_47 y)) (sx_ite (p := fun f => sx_P1 f y) (aV0_48 y) (sx_ite (p := fun f => sx_P1 f y) (aV0_49 y) (aV0_50 y)))))) (sx_ite (p := fun f => sx_P1 f y) (sx_ite (p := fun f => sx_P1 f y) (sx_ite (p := fun f => sx_P1 f y) (sx_ite (p := fun f => sx_P1 f y) (aV0_51 y) (aV0_52 y)) (sx_ite (p := fun f => sx_P1 f y) (aV0_53 y) (aV0_54 y))) (sx_ite (p := fun f => sx_P1 f y) (sx_ite (p := fun f => sx_P1 f y) (aV0_55 y) (aV0_56 y)) (sx_ite (p := fun f => sx_P1 f y) (aV0_61 y) (aV0_62 y)))) (sx_ite (p := fun f => sx_P1 f y) (sx_ite (p := fun f => sx_P1 f y) (sx_ite (p := fun f => sx_P1 f y) (aV0_63 y) (aV0_64 y)) (sx_ite (p := fun f => sx_P1 f y) (aV0_65 y) (aV0_66 y))) (sx_ite (p := fun f => sx_P1 f y) (sx_ite (p := fun f => sx_P1 f y) (aV0_67 y) (aV0_68 y)) (sx_ite (p := fun f => sx_P1 f y) (aV0_86 y) (sx_ite (p := fun f => sx_P1 f y) (aV0_87 y) (aV0_88 y)))))))) (sx_ite (p := fun f => sx_P1 f y) (sx_ite (p := fun f => sx_P1 f y) (sx_ite (p := fun f => sx_P1 f y) (sx_ite (p := fun f => sx_P1 f y) (sx_ite (p := fun f => sx_P1 f y) (sx_ite (p := fun f => sx_P1 f y) (aV0_89 y) (aV0_90 y)) (sx_ite (p := fun f => sx_P1 f y) (aV0_91 y) (aV0_94 y))) (sx_ite (p := fun f => sx_P1 f y) (sx_ite (p := fun f => sx_P1 f y) (aV0_95 y) (aV0_96 y)) (sx_ite (p := fun f => sx_P1 f y) (aV0_111 y) (aV0_113 y)))) (sx_ite (p := fun f => sx_P1 f y) (sx_ite (p := fun f => sx_P1 f y) (sx_ite (p := fun f => sx_P1 f y) (aV0_114 y) (aV0_115 y)) (sx_ite (p := fun f => sx_P1 f y) (aV0_116 y) (aV0_117 y))) (sx_ite (p := fun f => sx_P1 f y) (sx_ite (p := fun f => sx_P1 f y) (aV0_120 y) (aV0_122 y)) (sx_ite (p := fun f => sx_P1 f y) (aV0_123 y) (sx_ite (p := fun f => sx_P1 f y) (aV0_125 y) (aV0_126 y)))))) (sx_ite (p := fun f => sx_P1 f y) (sx_ite (p := fun f => sx_P1 f y) (sx_ite (p := fun f => sx_P1 f y) (sx_ite (p := fun f => sx_P1 f y) (aV0_127 y) (aV0_128 y)) (sx_ite (p := fun f => sx_P1 f y) (aV0_131 y) (aV0_133 y))) (sx_ite (p := fun f => sx_P1 f y) (sx_ite (p := fun f => sx_P1 f y) (aV0_135 y) (aV0_136 y)) (sx_ite (p := fun f => sx_P1 f y) (aV0_143 y) (aV0_144 y)))) (sx_ite (p := fun f => sx_P1 f y) (sx_ite (p := fun f => sx_P1 f y) (sx_ite (p := fun f => sx_P1 f y) (aV0_149 y) (aV0_152 y)) (sx_ite (p := fun f => sx_P1 f y) (aV0_160 y) (aV0_161 y))) (sx_ite (p := fun f => sx_P1 f y) (sx_ite (p := fun f => sx_P1 f y) (aV0_167 y) (aV0_168 y)) (sx_ite (p := fun f => sx_P1 f y) (aV0_169 y) (sx_ite (p := fun f => sx_P1 f y) (aV0_171 y) (aV0_195 y))))))) (sx_ite (p := fun f => sx_P1 f y) (sx_ite (p := fun f => sx_P1 f y) (sx_ite (p := fun f => sx_P1 f y) (sx_ite (p := fun f => sx_P1 f y) (sx_ite (p := fun f => sx_P1 f y) (aV0_258 y) (aV0_259 y)) (sx_ite (p := fun f => sx_P1 f y) (aV0_260 y) (aV0_261 y))) (sx_ite (p := fun f => sx_P1 f y) (sx_ite (p := fun f => sx_P1 f y) (aV0_263 y) (aV0_265 y)) (sx_ite (p := fun f => sx_P1 f y) (aV0_266 y) (aV0_267 y)))) (sx_ite (p := fun f => sx_P1 f y) (sx_ite (p := fun f => sx_P1 f y) (sx_ite (p := fun f => sx_P1 f y) (aV0_268 y) (aV0_269 y)) (sx_ite (p := fun f => sx_P1 f y) (aV0_270 y) (aV0_272 y))) (sx_ite (p := fun f => sx_P1 f y) (sx_ite (p := fun f => sx_P1 f y) (aV0_273 y) (aV0_275 y)) (sx_ite (p := fun f => sx_P1 f y) (aV0_280 y) (sx_ite (p := fun f => sx_P1 f y) (aV0_281 y) (aV0_283 y)))))) (sx_ite (p := fun f => sx_P1 f y) (sx_ite (p := fun f => sx_P1 f y) (sx_ite (p := fun f => sx_P1 f y) (sx_ite (p := fun f => sx_P1 f y) (aV0_285 y) (aV0_289 y)) (sx_ite (p := fun f => sx_P1 f y) (aV0_293 y) (aV0_295 y))) (sx_ite (p := fun f => sx_P1 f y) (sx_ite (p := fun f => sx_P1 f y) (aV0_298 y) (aV0_302 y)) (sx_ite (p := fun f => sx_P1 f y) (aV0_304 y) (aV0_306 y)))) (sx_ite (p := fun f => sx_P1 f y) (sx_ite (p := fun f => sx_P1 f y) (sx_ite (p := fun f => sx_P1 f y) (aV0_307 y) (aV0_308 y)) (sx_ite (p := fun f => sx_P1 f y) (aV0_309 y) (aV0_311 y))) (sx_ite (p := fun f => sx_P1 f y) (sx_ite (p := fun f => sx_P1 f y) (aV0_313 y) (aV0_314 y)) (sx_ite (p := fun f => sx_P1 f y) (aV0_316 y) (sx_ite (p := fun f => sx_P1 f y) (aV0_317 y) (aV0_318 y))))))))) (sx_ite (p := fun f => sx_P1 f y) (sx_ite (p := fun f => sx_P1 f y) (sx_ite (p := fun f => sx_P1 f y) (sx_ite (p := fun f => sx_P1 f y) (sx_ite (p := fun f => sx_P1 f y) (sx_ite (p := fun f => sx_P1 f y) (sx_ite (p := fun f => sx_P1 f y) (aV0_319 y) (aV0_320 y)) (sx_ite (p := fun f => sx_P1 f y) (aV0_321 y) (aV0_322 y))) (sx_ite (p := fun f => sx_P1 f y) (sx_ite (p := fun f => sx_P1 f y) (aV0_323 y) (aV0_324 y)) (sx_ite (p := fun f => sx_P1 f y) (aV0_325 y) (aV0_326 y)))) (sx_ite (p := fun f => sx_P1 f y) (sx_ite (p := fun f => sx_P1 f y) (sx_ite (p := fun f => sx_P1 f y) (aV0_327 y) (aV0_328 y)) (sx_ite (p := fun f => sx_P1 f y) (aV0_329 y) (aV0_330 y))) (sx_ite (p := fun f => sx_P1 f y) (sx_ite (p := fun f => sx_P1 f y) (aV0_331 y) (aV0_332 y)) (sx_ite (p := fun f => sx_P1 f y) (aV0_333 y) (sx_ite (p := fun f => sx_P1 f y) (aV0_334 y) (aV0_335 y)))))) (sx_ite (p := fun f => sx_P1 f y) (sx_ite (p := fun f => sx_P1 f y) (sx_ite (p := fun f => sx_P1 f y) (sx_ite (p := fun f => sx_P1 f y) (aV0_336 y) (aV0_337 y)) (sx_ite (p := fun f => sx_P1 f y) (aV0_338 y) (aV0_339 y))) (sx_ite (p := fun f => sx_P1 f y) (sx_ite (p := fun f => sx_P1 f y) (aV0_340 y) (aV0_341 y)) (sx_ite (p := fun f => sx_P1 f y) (aV0_342 y) (aV0_343 y)))) (sx_ite (p := fun f => sx_P1 f y) (sx_ite (p := fun f => sx_P1 f y) (sx_ite (p := fun f => sx_P1 f y) (aV0_344 y) (aV0_345 y)) (sx_ite (p := fun f => sx_P1 f y) (aV0_346 y) (aV0_347 y))) (sx_ite (p := fun f => sx_P1 f y) (sx_ite (p := fun f => sx_P1 f y) (aV0_348 y) (aV0_349 y)) (sx_ite (p := fun f => sx_P1 f y) (aV0_350 y) (sx_ite (p := fun f => sx_P1 f y) (aV0_351 y) (aV0_352 y))))))) (sx_ite (p := fun f => sx_P1 f y) (sx_ite (p := fun f => sx_P1 f y) (sx_ite (p := fun f => sx_P1 f y) (sx_ite (p := fun f => sx_P1 f y) (sx_ite (p := fun f => sx_P1 f y) (aV0_353 y) (aV0_354 y)) (sx_ite (p := fun f => sx_P1 f y) (aV0_355 y) (aV0_356 y))) (sx_ite (p := fun f => sx_P1 f y) (sx_ite (p := fun f => sx_P1 f y) (aV0_357 y) (aV0_358 y)) (sx_ite (p := fun f => sx_P1 f y) (aV0_359 y) (aV0_360 y)))) (sx_ite (p := fun f => sx_P1 f y) (sx_ite (p := fun f => sx_P1 f y) (sx_ite (p := fun f => sx_P1 f y) (aV0_361 y) (aV0_362 y)) (sx_ite (p := fun f => sx_P1 f y) (aV0_363 y) (aV0_364 y))) (sx_ite (p := fun f => sx_P1 f y) (sx_ite (p := fun f => sx_P1 f y) (aV0_365 y) (aV0_366 y)) (sx_ite (p := fun f => sx_P1 f y) (aV0_367 y) (sx_ite (p := fun f => sx_P1 f y) (aV0_368 y) (aV0_369 y)))))) (sx_ite (p := fun f => sx_P1 f y) (sx_ite (p := fun f => sx_P1 f y) (sx_ite (p := fun f => sx_P1 f y) (sx_ite (p := fun f => sx_P1 f y) (aV0_370 y) (aV0_371 y)) (sx_ite (p := fun f => sx_P1 f y) (aV0_372 y) (aV0_373 y))) (sx_ite (p := fun f => sx_P1 f y) (sx_ite (p := fun f => sx_P1 f y) (aV0_374 y) (aV0_375 y)) (sx_ite (p := fun f => sx_P1 f y) (aV0_376 y) (aV0_377 y)))) (sx_ite (p := fun f => sx_P1 f y) (sx_ite (p := fun f => sx_P1 f y) (sx_ite (p := fun f => sx_P1 f y) (aV0_378 y) (aV0_379 y)) (sx_ite (p := fun f => sx_P1 f y) (aV0_380 y) (aV0_381 y))) (sx_ite (p := fun f => sx_P1 f y) (sx_ite (p := fun f => sx_P1 f y) (aV0_382 y) (aV0_383 y)) (sx_ite (p := fun f => sx_P1 f y) (aV0_384 y) (sx_ite (p := fun f => sx_P1 f y) (aV0_385 y) (aV0_386 y)))))))) (sx_ite (p := fun f => sx_P1 f y) (sx_ite (p := fun f => sx_P1 f y) (sx_ite (p := fun f => sx_P1 f y) (sx_ite (p := fun f => sx_P1 f y) (sx_ite (p := fun f => sx_P1 f y) (sx_ite (p := fun f => sx_P1 f y) (aV0_387 y) (aV0_388 y)) (sx_ite (p := fun f => sx_P1 f y) (aV0_389 y) (aV0_390 y))) (sx_ite (p := fun f => sx_P1 f y) (sx_ite (p := fun f => sx_P1 f y) (aV0_391 y) (aV0_392 y)) (sx_ite (p := fun f => sx_P1 f y) (aV0_393 y) (aV0_394 y)))) (sx_ite (p := fun f => sx_P1 f y) (sx_ite (p := fun f => sx_P1 f y) (sx_ite (p := fun f => sx_P1 f y) (aV0_395 y) (aV0_396 y)) (sx_ite (p := fun f => sx_P1 f y) (aV0_397 y) (aV0_398 y))) (sx_ite (p := fun f => sx_P1 f y) (sx_ite (p := fun f => sx_P1 f y) (aV0_399 y) (aV0_400 y)) (sx_ite (p := fun f => sx_P1 f y) (aV0_401 y) (sx_ite (p := fun f => sx_P1 f y) (aV0_402 y) (aV0_403 y)))))) (sx_ite (p := fun f => sx_P1 f y) (sx_ite (p := fun f => sx_P1 f y) (sx_ite (p := fun f => sx_P1 f y) (sx_ite (p := fun f => sx_P1 f y) (aV0_404 y) (aV0_405 y)) (sx_ite (p := fun f => sx_P1 f y) (aV0_406 y) (aV0_407 y))) (sx_ite (p := fun f => sx_P1 f y) (sx_ite (p := fun f => sx_P1 f y) (aV0_408 y) (aV0_409 y)) (sx_ite (p := fun f => sx_P1 f y) (aV0_410 y) (aV0_411 y)))) (sx_ite (p := fun f => sx_P1 f y) (sx_ite (p := fun f => sx_P1 f y) (sx_ite (p := fun f => sx_P1 f y) (aV0_416 y) (aV0_417 y)) (sx_ite (p := fun f => sx_P1 f y) (aV0_418 y) (aV0_419 y))) (sx_ite (p := fun f => sx_P1 f y) (sx_ite (p := fun f => sx_P1 f y) (aV0_429 y) (aV0_432 y)) (sx_ite (p := fun f => sx_P1 f y) (aV0_433 y) (sx_ite (p := fun f => sx_P1 f y) (aV0_434 y) (aV0_435 y))))))) (sx_ite (p := fun f => sx_P1 f y) (sx_ite (p := fun f => sx_P1 f y) (sx_ite (p := fun f => sx_P1 f y) (sx_ite (p := fun f => sx_P1 f y) (sx_ite (p := fun f => sx_P1 f y) (aV0_436 y) (aV0_437 y)) (sx_ite (p := fun f => sx_P1 f y) (aV0_438 y) (aV0_439 y))) (sx_ite (p := fun f => sx_P1 f y) (sx_ite (p := fun f => sx_P1 f y) (aV0_440 y) (aV0_441 y)) (sx_ite (p := fun f => sx_P1 f y) (aV0_442 y) (aV0_443 y)))) (sx_ite (p := fun f => sx_P1 f y) (sx_ite (p := fun f => sx_P1 f y) (sx_ite (p := fun f => sx_P1 f y) (aV0_444 y) (aV0_445 y)) (sx_ite (p := fun f => sx_P1 f y) (aV0_446 y) (aV0_447 y))) (sx_ite (p := fun f => sx_P1 f y) (sx_ite (p := fun f => sx_P1 f y) (aV0_448 y) (aV0_449 y)) (sx_ite (p := fun f => sx_P1 f y) (aV0_450 y) (sx_ite (p := fun f => sx_P1 f y) (aV0_452 y) (aV0_457 y)))))) (sx_ite (p := fun f => sx_P1 f y) (sx_ite (p := fun f => sx_P1 f y) (sx_ite (p := fun f => sx_P1 f y) (sx_ite (p := fun f => sx_P1 f y) (aV0_459 y) (aV0_460 y)) (sx_ite (p := fun f => sx_P1 f y) (aV0_461 y) (aV0_483 y))) (sx_ite (p := fun f => sx_P1 f y) (sx_ite (p := fun f => sx_P1 f y) (aV0_484 y) (aV0_485 y)) (sx_ite (p := fun f => sx_P1 f y) (aV0_550 y) (aV0_551 y)))) (sx_ite (p := fun f => sx_P1 f y) (sx_ite (p := fun f => sx_P1 f y) (sx_ite (p := fun f => sx_P1 f y) (aV0_552 y) (aV0_553 y)) (sx_ite (p := fun f => sx_P1 f y) (aV0_555 y) (aV0_556 y))) (sx_ite (p := fun f => sx_P1 f y) (sx_ite (p := fun f => sx_P1 f y) (aV0_557 y) (aV0_558 y)) (sx_ite (p := fun f => sx_P1 f y) (aV0_559 y) (sx_ite (p := fun f => sx_P1 f y) (aV0_560 y) (aV0_561 y))))))))))
