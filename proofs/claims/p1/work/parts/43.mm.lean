/-! SY: the methods, quickly -/
def sy_P2 (q : Option am_Meth) (y : Nat) : Prop := ∀ mt, q = some mt → am_meth (aP (fun i => i)) y = some mt
set_option maxRecDepth 100000 in
theorem aMv_0 (y : Nat) : sy_P2 (if y = 0 then some aM_0.1 else none) y := by
  intro mt h
  split at h
  · rename_i hy
    subst hy
    exact (show am_meth (aP (fun i => i)) 0 = some aM_0.1 from rfl).trans h
  · cases h
set_option maxRecDepth 100000 in
theorem aMv_1 (y : Nat) : sy_P2 (if y = 1 then some aM_1.1 else none) y := by
  intro mt h
  split at h
  · rename_i hy
    subst hy
    exact (show am_meth (aP (fun i => i)) 1 = some aM_1.1 from rfl).trans h
  · cases h
set_option maxRecDepth 100000 in
theorem aMv_2 (y : Nat) : sy_P2 (if y = 2 then some aM_2.1 else none) y := by
  intro mt h
  split at h
  · rename_i hy
    subst hy
    exact (show am_meth (aP (fun i => i)) 2 = some aM_2.1 from rfl).trans h
  · cases h
set_option maxRecDepth 100000 in
theorem aMv_3 (y : Nat) : sy_P2 (if y = 3 then some aM_3.1 else none) y := by
  intro mt h
  split at h
  · rename_i hy
    subst hy
    exact (show am_meth (aP (fun i => i)) 3 = some aM_3.1 from rfl).trans h
  · cases h
set_option maxRecDepth 100000 in
theorem aMv_4 (y : Nat) : sy_P2 (if y = 4 then some aM_4.1 else none) y := by
  intro mt h
  split at h
  · rename_i hy
    subst hy
    exact (show am_meth (aP (fun i => i)) 4 = some aM_4.1 from rfl).trans h
  · cases h
set_option maxRecDepth 100000 in
theorem aMv_5 (y : Nat) : sy_P2 (if y = 5 then some aM_5.1 else none) y := by
  intro mt h
  split at h
  · rename_i hy
    subst hy
    exact (show am_meth (aP (fun i => i)) 5 = some aM_5.1 from rfl).trans h
  · cases h
set_option maxRecDepth 100000 in
theorem aMv_6 (y : Nat) : sy_P2 (if y = 6 then some aM_6.1 else none) y := by
  intro mt h
  split at h
  · rename_i hy
    subst hy
    exact (show am_meth (aP (fun i => i)) 6 = some aM_6.1 from rfl).trans h
  · cases h
set_option maxRecDepth 100000 in
theorem aMv_7 (y : Nat) : sy_P2 (if y = 7 then some aM_7.1 else none) y := by
  intro mt h
  split at h
  · rename_i hy
    subst hy
    exact (show am_meth (aP (fun i => i)) 7 = some aM_7.1 from rfl).trans h
  · cases h
set_option maxRecDepth 100000 in
theorem aMv_8 (y : Nat) : sy_P2 (if y = 8 then some aM_8.1 else none) y := by
  intro mt h
  split at h
  · rename_i hy
    subst hy
    exact (show am_meth (aP (fun i => i)) 8 = some aM_8.1 from rfl).trans h
  · cases h
set_option maxRecDepth 100000 in
theorem aMv_9 (y : Nat) : sy_P2 (if y = 9 then some aM_9.1 else none) y := by
  intro mt h
  split at h
  · rename_i hy
    subst hy
    exact (show am_meth (aP (fun i => i)) 9 = some aM_9.1 from rfl).trans h
  · cases h
set_option maxRecDepth 100000 in
theorem aMv_10 (y : Nat) : sy_P2 (if y = 10 then some aM_10.1 else none) y := by
  intro mt h
  split at h
  · rename_i hy
    subst hy
    exact (show am_meth (aP (fun i => i)) 10 = some aM_10.1 from rfl).trans h
  · cases h
set_option maxRecDepth 100000 in
theorem aMv_11 (y : Nat) : sy_P2 (if y = 11 then some aM_11.1 else none) y := by
  intro mt h
  split at h
  · rename_i hy
    subst hy
    exact (show am_meth (aP (fun i => i)) 11 = some aM_11.1 from rfl).trans h
  · cases h
set_option maxRecDepth 100000 in
theorem aMv_12 (y : Nat) : sy_P2 (if y = 12 then some aM_12.1 else none) y := by
  intro mt h
  split at h
  · rename_i hy
    subst hy
    exact (show am_meth (aP (fun i => i)) 12 = some aM_12.1 from rfl).trans h
  · cases h
set_option maxRecDepth 100000 in
theorem aMv_13 (y : Nat) : sy_P2 (if y = 13 then some aM_13.1 else none) y := by
  intro mt h
  split at h
  · rename_i hy
    subst hy
    exact (show am_meth (aP (fun i => i)) 13 = some aM_13.1 from rfl).trans h
  · cases h
set_option maxRecDepth 100000 in
theorem aMv_14 (y : Nat) : sy_P2 (if y = 14 then some aM_14.1 else none) y := by
  intro mt h
  split at h
  · rename_i hy
    subst hy
    exact (show am_meth (aP (fun i => i)) 14 = some aM_14.1 from rfl).trans h
  · cases h
set_option maxRecDepth 100000 in
theorem aMv_15 (y : Nat) : sy_P2 (if y = 15 then some aM_15.1 else none) y := by
  intro mt h
  split at h
  · rename_i hy
    subst hy
    exact (show am_meth (aP (fun i => i)) 15 = some aM_15.1 from rfl).trans h
  · cases h
set_option maxRecDepth 100000 in
theorem aMv_16 (y : Nat) : sy_P2 (if y = 16 then some aM_16.1 else none) y := by
  intro mt h
  split at h
  · rename_i hy
    subst hy
    exact (show am_meth (aP (fun i => i)) 16 = some aM_16.1 from rfl).trans h
  · cases h
set_option maxRecDepth 100000 in
theorem aMv_17 (y : Nat) : sy_P2 (if y = 17 then some aM_17.1 else none) y := by
  intro mt h
  split at h
  · rename_i hy
    subst hy
    exact (show am_meth (aP (fun i => i)) 17 = some aM_17.1 from rfl).trans h
  · cases h
set_option maxRecDepth 100000 in
theorem aMv_18 (y : Nat) : sy_P2 (if y = 18 then some aM_18.1 else none) y := by
  intro mt h
  split at h
  · rename_i hy
    subst hy
    exact (show am_meth (aP (fun i => i)) 18 = some aM_18.1 from rfl).trans h
  · cases h
set_option maxRecDepth 100000 in
theorem aMv_19 (y : Nat) : sy_P2 (if y = 19 then some aM_19.1 else none) y := by
  intro mt h
  split at h
  · rename_i hy
    subst hy
    exact (show am_meth (aP (fun i => i)) 19 = some aM_19.1 from rfl).trans h
  · cases h
set_option maxRecDepth 100000 in
theorem aMv_20 (y : Nat) : sy_P2 (if y = 20 then some aM_20.1 else none) y := by
  intro mt h
  split at h
  · rename_i hy
    subst hy
    exact (show am_meth (aP (fun i => i)) 20 = some aM_20.1 from rfl).trans h
  · cases h
set_option maxRecDepth 100000 in
theorem aMv_21 (y : Nat) : sy_P2 (if y = 21 then some aM_21.1 else none) y := by
  intro mt h
  split at h
  · rename_i hy
    subst hy
    exact (show am_meth (aP (fun i => i)) 21 = some aM_21.1 from rfl).trans h
  · cases h
set_option maxRecDepth 100000 in
theorem aMv_22 (y : Nat) : sy_P2 (if y = 22 then some aM_22.1 else none) y := by
  intro mt h
  split at h
  · rename_i hy
    subst hy
    exact (show am_meth (aP (fun i => i)) 22 = some aM_22.1 from rfl).trans h
  · cases h
set_option maxRecDepth 100000 in
theorem aMv_23 (y : Nat) : sy_P2 (if y = 23 then some aM_23.1 else none) y := by
  intro mt h
  split at h
  · rename_i hy
    subst hy
    exact (show am_meth (aP (fun i => i)) 23 = some aM_23.1 from rfl).trans h
  · cases h
set_option maxRecDepth 100000 in
theorem aMv_24 (y : Nat) : sy_P2 (if y = 24 then some aM_24.1 else none) y := by
  intro mt h
  split at h
  · rename_i hy
    subst hy
    exact (show am_meth (aP (fun i => i)) 24 = some aM_24.1 from rfl).trans h
  · cases h
set_option maxRecDepth 100000 in
theorem aMv_25 (y : Nat) : sy_P2 (if y = 25 then some aM_25.1 else none) y := by
  intro mt h
  split at h
  · rename_i hy
    subst hy
    exact (show am_meth (aP (fun i => i)) 25 = some aM_25.1 from rfl).trans h
  · cases h
set_option maxRecDepth 100000 in
theorem aMv_26 (y : Nat) : sy_P2 (if y = 26 then some aM_26.1 else none) y := by
  intro mt h
  split at h
  · rename_i hy
    subst hy
    exact (show am_meth (aP (fun i => i)) 26 = some aM_26.1 from rfl).trans h
  · cases h
set_option maxRecDepth 100000 in
theorem aMv_27 (y : Nat) : sy_P2 (if y = 27 then some aM_27.1 else none) y := by
  intro mt h
  split at h
  · rename_i hy
    subst hy
    exact (show am_meth (aP (fun i => i)) 27 = some aM_27.1 from rfl).trans h
  · cases h
set_option maxRecDepth 100000 in
theorem aMv_28 (y : Nat) : sy_P2 (if y = 28 then some aM_28.1 else none) y := by
  intro mt h
  split at h
  · rename_i hy
    subst hy
    exact (show am_meth (aP (fun i => i)) 28 = some aM_28.1 from rfl).trans h
  · cases h
set_option maxRecDepth 100000 in
theorem aMv_29 (y : Nat) : sy_P2 (if y = 29 then some aM_29.1 else none) y := by
  intro mt h
  split at h
  · rename_i hy
    subst hy
    exact (show am_meth (aP (fun i => i)) 29 = some aM_29.1 from rfl).trans h
  · cases h
set_option maxRecDepth 100000 in
theorem aMv_30 (y : Nat) : sy_P2 (if y = 30 then some aM_30.1 else none) y := by
  intro mt h
  split at h
  · rename_i hy
    subst hy
    exact (show am_meth (aP (fun i => i)) 30 = some aM_30.1 from rfl).trans h
  · cases h
set_option maxRecDepth 100000 in
theorem aMv_31 (y : Nat) : sy_P2 (if y = 31 then some aM_31.1 else none) y := by
  intro mt h
  split at h
  · rename_i hy
    subst hy
    exact (show am_meth (aP (fun i => i)) 31 = some aM_31.1 from rfl).trans h
  · cases h
set_option maxRecDepth 100000 in
theorem aMv_32 (y : Nat) : sy_P2 (if y = 32 then some aM_32.1 else none) y := by
  intro mt h
  split at h
  · rename_i hy
    subst hy
    exact (show am_meth (aP (fun i => i)) 32 = some aM_32.1 from rfl).trans h
  · cases h
set_option maxRecDepth 100000 in
theorem aMv_33 (y : Nat) : sy_P2 (if y = 33 then some aM_33.1 else none) y := by
  intro mt h
  split at h
  · rename_i hy
    subst hy
    exact (show am_meth (aP (fun i => i)) 33 = some aM_33.1 from rfl).trans h
  · cases h
set_option maxRecDepth 100000 in
theorem aMv_34 (y : Nat) : sy_P2 (if y = 34 then some aM_34.1 else none) y := by
  intro mt h
  split at h
  · rename_i hy
    subst hy
    exact (show am_meth (aP (fun i => i)) 34 = some aM_34.1 from rfl).trans h
  · cases h
set_option maxRecDepth 100000 in
theorem aMv_35 (y : Nat) : sy_P2 (if y = 35 then some aM_35.1 else none) y := by
  intro mt h
  split at h
  · rename_i hy
    subst hy
    exact (show am_meth (aP (fun i => i)) 35 = some aM_35.1 from rfl).trans h
  · cases h
set_option maxRecDepth 100000 in
theorem aMv_36 (y : Nat) : sy_P2 (if y = 36 then some aM_36.1 else none) y := by
  intro mt h
  split at h
  · rename_i hy
    subst hy
    exact (show am_meth (aP (fun i => i)) 36 = some aM_36.1 from rfl).trans h
  · cases h
set_option maxRecDepth 100000 in
theorem aMv_37 (y : Nat) : sy_P2 (if y = 37 then some aM_37.1 else none) y := by
  intro mt h
  split at h
  · rename_i hy
    subst hy
    exact (show am_meth (aP (fun i => i)) 37 = some aM_37.1 from rfl).trans h
  · cases h
set_option maxRecDepth 100000 in
theorem aMv_38 (y : Nat) : sy_P2 (if y = 38 then some aM_38.1 else none) y := by
  intro mt h
  split at h
  · rename_i hy
    subst hy
    exact (show am_meth (aP (fun i => i)) 38 = some aM_38.1 from rfl).trans h
  · cases h
set_option maxRecDepth 100000 in
theorem aMv_39 (y : Nat) : sy_P2 (if y = 39 then some aM_39.1 else none) y := by
  intro mt h
  split at h
  · rename_i hy
    subst hy
    exact (show am_meth (aP (fun i => i)) 39 = some aM_39.1 from rfl).trans h
  · cases h
set_option maxRecDepth 100000 in
theorem aMv_40 (y : Nat) : sy_P2 (if y = 40 then some aM_40.1 else none) y := by
  intro mt h
  split at h
  · rename_i hy
    subst hy
    exact (show am_meth (aP (fun i => i)) 40 = some aM_40.1 from rfl).trans h
  · cases h
set_option maxRecDepth 100000 in
theorem aMv_41 (y : Nat) : sy_P2 (if y = 41 then some aM_41.1 else none) y := by
  intro mt h
  split at h
  · rename_i hy
    subst hy
    exact (show am_meth (aP (fun i => i)) 41 = some aM_41.1 from rfl).trans h
  · cases h
set_option maxRecDepth 100000 in
theorem aMv_42 (y : Nat) : sy_P2 (if y = 42 then some aM_42.1 else none) y := by
  intro mt h
  split at h
  · rename_i hy
    subst hy
    exact (show am_meth (aP (fun i => i)) 42 = some aM_42.1 from rfl).trans h
  · cases h
set_option maxRecDepth 100000 in
theorem aMv_43 (y : Nat) : sy_P2 (if y = 43 then some aM_43.1 else none) y := by
  intro mt h
  split at h
  · rename_i hy
    subst hy
    exact (show am_meth (aP (fun i => i)) 43 = some aM_43.1 from rfl).trans h
  · cases h
set_option maxRecDepth 100000 in
theorem aMv_44 (y : Nat) : sy_P2 (if y = 44 then some aM_44.1 else none) y := by
  intro mt h
  split at h
  · rename_i hy
    subst hy
    exact (show am_meth (aP (fun i => i)) 44 = some aM_44.1 from rfl).trans h
  · cases h
set_option maxRecDepth 100000 in
theorem aMv_45 (y : Nat) : sy_P2 (if y = 45 then some aM_45.1 else none) y := by
  intro mt h
  split at h
  · rename_i hy
    subst hy
    exact (show am_meth (aP (fun i => i)) 45 = some aM_45.1 from rfl).trans h
  · cases h
set_option maxRecDepth 100000 in
theorem aMv_46 (y : Nat) : sy_P2 (if y = 46 then some aM_46.1 else none) y := by
  intro mt h
  split at h
  · rename_i hy
    subst hy
    exact (show am_meth (aP (fun i => i)) 46 = some aM_46.1 from rfl).trans h
  · cases h
set_option maxRecDepth 100000 in
theorem aMv_47 (y : Nat) : sy_P2 (if y = 47 then some aM_47.1 else none) y := by
  intro mt h
  split at h
  · rename_i hy
    subst hy
    exact (show am_meth (aP (fun i => i)) 47 = some aM_47.1 from rfl).trans h
  · cases h
set_option maxRecDepth 100000 in
theorem aMv_48 (y : Nat) : sy_P2 (if y = 48 then some aM_48.1 else none) y := by
  intro mt h
  split at h
  · rename_i hy
    subst hy
    exact (show am_meth (aP (fun i => i)) 48 = some aM_48.1 from rfl).trans h
  · cases h
set_option maxRecDepth 100000 in
theorem aMv_49 (y : Nat) : sy_P2 (if y = 49 then some aM_49.1 else none) y := by
  intro mt h
  split at h
  · rename_i hy
    subst hy
    exact (show am_meth (aP (fun i => i)) 49 = some aM_49.1 from rfl).trans h
  · cases h
set_option maxRecDepth 100000 in
theorem aMv_50 (y : Nat) : sy_P2 (if y = 50 then some aM_50.1 else none) y := by
  intro mt h
  split at h
  · rename_i hy
    subst hy
    exact (show am_meth (aP (fun i => i)) 50 = some aM_50.1 from rfl).trans h
  · cases h
set_option maxRecDepth 100000 in
theorem aMv_51 (y : Nat) : sy_P2 (if y = 51 then some aM_51.1 else none) y := by
  intro mt h
  split at h
  · rename_i hy
    subst hy
    exact (show am_meth (aP (fun i => i)) 51 = some aM_51.1 from rfl).trans h
  · cases h
set_option maxRecDepth 100000 in
theorem aMv_52 (y : Nat) : sy_P2 (if y = 52 then some aM_52.1 else none) y := by
  intro mt h
  split at h
  · rename_i hy
    subst hy
    exact (show am_meth (aP (fun i => i)) 52 = some aM_52.1 from rfl).trans h
  · cases h
set_option maxRecDepth 100000 in
theorem aMv_53 (y : Nat) : sy_P2 (if y = 53 then some aM_53.1 else none) y := by
  intro mt h
  split at h
  · rename_i hy
    subst hy
    exact (show am_meth (aP (fun i => i)) 53 = some aM_53.1 from rfl).trans h
  · cases h
set_option maxRecDepth 100000 in
theorem aMv_54 (y : Nat) : sy_P2 (if y = 54 then some aM_54.1 else none) y := by
  intro mt h
  split at h
  · rename_i hy
    subst hy
    exact (show am_meth (aP (fun i => i)) 54 = some aM_54.1 from rfl).trans h
  · cases h
set_option maxRecDepth 100000 in
theorem aMv_55 (y : Nat) : sy_P2 (if y = 55 then some aM_55.1 else none) y := by
  intro mt h
  split at h
  · rename_i hy
    subst hy
    exact (show am_meth (aP (fun i => i)) 55 = some aM_55.1 from rfl).trans h
  · cases h
set_option maxRecDepth 100000 in
theorem aMv_56 (y : Nat) : sy_P2 (if y = 56 then some aM_56.1 else none) y := by
  intro mt h
  split at h
  · rename_i hy
    subst hy
    exact (show am_meth (aP (fun i => i)) 56 = some aM_56.1 from rfl).trans h
  · cases h
set_option maxRecDepth 100000 in
theorem aMv_61 (y : Nat) : sy_P2 (if y = 61 then some aM_61.1 else none) y := by
  intro mt h
  split at h
  · rename_i hy
    subst hy
    exact (show am_meth (aP (fun i => i)) 61 = some aM_61.1 from rfl).trans h
  · cases h
set_option maxRecDepth 100000 in
theorem aMv_62 (y : Nat) : sy_P2 (if y = 62 then some aM_62.1 else none) y := by
  intro mt h
  split at h
  · rename_i hy
    subst hy
    exact (show am_meth (aP (fun i => i)) 62 = some aM_62.1 from rfl).trans h
  · cases h
set_option maxRecDepth 100000 in
theorem aMv_63 (y : Nat) : sy_P2 (if y = 63 then some aM_63.1 else none) y := by
  intro mt h
  split at h
  · rename_i hy
    subst hy
    exact (show am_meth (aP (fun i => i)) 63 = some aM_63.1 from rfl).trans h
  · cases h
set_option maxRecDepth 100000 in
theorem aMv_64 (y : Nat) : sy_P2 (if y = 64 then some aM_64.1 else none) y := by
  intro mt h
  split at h
  · rename_i hy
    subst hy
    exact (show am_meth (aP (fun i => i)) 64 = some aM_64.1 from rfl).trans h
  · cases h
set_option maxRecDepth 100000 in
theorem aMv_65 (y : Nat) : sy_P2 (if y = 65 then some aM_65.1 else none) y := by
  intro mt h
  split at h
  · rename_i hy
    subst hy
    exact (show am_meth (aP (fun i => i)) 65 = some aM_65.1 from rfl).trans h
  · cases h
set_option maxRecDepth 100000 in
theorem aMv_66 (y : Nat) : sy_P2 (if y = 66 then some aM_66.1 else none) y := by
  intro mt h
  split at h
  · rename_i hy
    subst hy
    exact (show am_meth (aP (fun i => i)) 66 = some aM_66.1 from rfl).trans h
  · cases h
set_option maxRecDepth 100000 in
theorem aMv_67 (y : Nat) : sy_P2 (if y = 67 then some aM_67.1 else none) y := by
  intro mt h
  split at h
  · rename_i hy
    subst hy
    exact (show am_meth (aP (fun i => i)) 67 = some aM_67.1 from rfl).trans h
  · cases h
set_option maxRecDepth 100000 in
theorem aMv_68 (y : Nat) : sy_P2 (if y = 68 then some aM_68.1 else none) y := by
  intro mt h
  split at h
  · rename_i hy
    subst hy
    exact (show am_meth (aP (fun i => i)) 68 = some aM_68.1 from rfl).trans h
  · cases h
set_option maxRecDepth 100000 in
theorem aMv_86 (y : Nat) : sy_P2 (if y = 86 then some aM_86.1 else none) y := by
  intro mt h
  split at h
  · rename_i hy
    subst hy
    exact (show am_meth (aP (fun i => i)) 86 = some aM_86.1 from rfl).trans h
  · cases h
set_option maxRecDepth 100000 in
theorem aMv_87 (y : Nat) : sy_P2 (if y = 87 then some aM_87.1 else none) y := by
  intro mt h
  split at h
  · rename_i hy
    subst hy
    exact (show am_meth (aP (fun i => i)) 87 = some aM_87.1 from rfl).trans h
  · cases h
set_option maxRecDepth 100000 in
theorem aMv_88 (y : Nat) : sy_P2 (if y = 88 then some aM_88.1 else none) y := by
  intro mt h
  split at h
  · rename_i hy
    subst hy
    exact (show am_meth (aP (fun i => i)) 88 = some aM_88.1 from rfl).trans h
  · cases h
set_option maxRecDepth 100000 in
theorem aMv_89 (y : Nat) : sy_P2 (if y = 89 then some aM_89.1 else none) y := by
  intro mt h
  split at h
  · rename_i hy
    subst hy
    exact (show am_meth (aP (fun i => i)) 89 = some aM_89.1 from rfl).trans h
  · cases h
set_option maxRecDepth 100000 in
theorem aMv_90 (y : Nat) : sy_P2 (if y = 90 then some aM_90.1 else none) y := by
  intro mt h
  split at h
  · rename_i hy
    subst hy
    exact (show am_meth (aP (fun i => i)) 90 = some aM_90.1 from rfl).trans h
  · cases h
set_option maxRecDepth 100000 in
theorem aMv_91 (y : Nat) : sy_P2 (if y = 91 then some aM_91.1 else none) y := by
  intro mt h
  split at h
  · rename_i hy
    subst hy
    exact (show am_meth (aP (fun i => i)) 91 = some aM_91.1 from rfl).trans h
  · cases h
set_option maxRecDepth 100000 in
theorem aMv_94 (y : Nat) : sy_P2 (if y = 94 then some aM_94.1 else none) y := by
  intro mt h
  split at h
  · rename_i hy
    subst hy
    exact (show am_meth (aP (fun i => i)) 94 = some aM_94.1 from rfl).trans h
  · cases h
set_option maxRecDepth 100000 in
theorem aMv_95 (y : Nat) : sy_P2 (if y = 95 then some aM_95.1 else none) y := by
  intro mt h
  split at h
  · rename_i hy
    subst hy
    exact (show am_meth (aP (fun i => i)) 95 = some aM_95.1 from rfl).trans h
  · cases h
set_option maxRecDepth 100000 in
theorem aMv_96 (y : Nat) : sy_P2 (if y = 96 then some aM_96.1 else none) y := by
  intro mt h
  split at h
  · rename_i hy
    subst hy
    exact (show am_meth (aP (fun i => i)) 96 = some aM_96.1 from rfl).trans h
  · cases h
set_option maxRecDepth 100000 in
theorem aMv_111 (y : Nat) : sy_P2 (if y = 111 then some aM_111.1 else none) y := by
  intro mt h
  split at h
  · rename_i hy
    subst hy
    exact (show am_meth (aP (fun i => i)) 111 = some aM_111.1 from rfl).trans h
  · cases h
set_option maxRecDepth 100000 in
theorem aMv_113 (y : Nat) : sy_P2 (if y = 113 then some aM_113.1 else none) y := by
  intro mt h
  split at h
  · rename_i hy
    subst hy
    exact (show am_meth (aP (fun i => i)) 113 = some aM_113.1 from rfl).trans h
  · cases h
set_option maxRecDepth 100000 in
theorem aMv_114 (y : Nat) : sy_P2 (if y = 114 then some aM_114.1 else none) y := by
  intro mt h
  split at h
  · rename_i hy
    subst hy
    exact (show am_meth (aP (fun i => i)) 114 = some aM_114.1 from rfl).trans h
  · cases h
set_option maxRecDepth 100000 in
theorem aMv_115 (y : Nat) : sy_P2 (if y = 115 then some aM_115.1 else none) y := by
  intro mt h
  split at h
  · rename_i hy
    subst hy
    exact (show am_meth (aP (fun i => i)) 115 = some aM_115.1 from rfl).trans h
  · cases h
set_option maxRecDepth 100000 in
theorem aMv_116 (y : Nat) : sy_P2 (if y = 116 then some aM_116.1 else none) y := by
  intro mt h
  split at h
  · rename_i hy
    subst hy
    exact (show am_meth (aP (fun i => i)) 116 = some aM_116.1 from rfl).trans h
  · cases h
set_option maxRecDepth 100000 in
theorem aMv_117 (y : Nat) : sy_P2 (if y = 117 then some aM_117.1 else none) y := by
  intro mt h
  split at h
  · rename_i hy
    subst hy
    exact (show am_meth (aP (fun i => i)) 117 = some aM_117.1 from rfl).trans h
  · cases h
set_option maxRecDepth 100000 in
theorem aMv_120 (y : Nat) : sy_P2 (if y = 120 then some aM_120.1 else none) y := by
  intro mt h
  split at h
  · rename_i hy
    subst hy
    exact (show am_meth (aP (fun i => i)) 120 = some aM_120.1 from rfl).trans h
  · cases h
set_option maxRecDepth 100000 in
theorem aMv_122 (y : Nat) : sy_P2 (if y = 122 then some aM_122.1 else none) y := by
  intro mt h
  split at h
  · rename_i hy
    subst hy
    exact (show am_meth (aP (fun i => i)) 122 = some aM_122.1 from rfl).trans h
  · cases h
set_option maxRecDepth 100000 in
theorem aMv_123 (y : Nat) : sy_P2 (if y = 123 then some aM_123.1 else none) y := by
  intro mt h
  split at h
  · rename_i hy
    subst hy
    exact (show am_meth (aP (fun i => i)) 123 = some aM_123.1 from rfl).trans h
  · cases h
set_option maxRecDepth 100000 in
theorem aMv_125 (y : Nat) : sy_P2 (if y = 125 then some aM_125.1 else none) y := by
  intro mt h
  split at h
  · rename_i hy
    subst hy
    exact (show am_meth (aP (fun i => i)) 125 = some aM_125.1 from rfl).trans h
  · cases h
set_option maxRecDepth 100000 in
theorem aMv_126 (y : Nat) : sy_P2 (if y = 126 then some aM_126.1 else none) y := by
  intro mt h
  split at h
  · rename_i hy
    subst hy
    exact (show am_meth (aP (fun i => i)) 126 = some aM_126.1 from rfl).trans h
  · cases h
set_option maxRecDepth 100000 in
theorem aMv_127 (y : Nat) : sy_P2 (if y = 127 then some aM_127.1 else none) y := by
  intro mt h
  split at h
  · rename_i hy
    subst hy
    exact (show am_meth (aP (fun i => i)) 127 = some aM_127.1 from rfl).trans h
  · cases h
set_option maxRecDepth 100000 in
theorem aMv_128 (y : Nat) : sy_P2 (if y = 128 then some aM_128.1 else none) y := by
  intro mt h
  split at h
  · rename_i hy
    subst hy
    exact (show am_meth (aP (fun i => i)) 128 = some aM_128.1 from rfl).trans h
  · cases h
set_option maxRecDepth 100000 in
theorem aMv_131 (y : Nat) : sy_P2 (if y = 131 then some aM_131.1 else none) y := by
  intro mt h
  split at h
  · rename_i hy
    subst hy
    exact (show am_meth (aP (fun i => i)) 131 = some aM_131.1 from rfl).trans h
  · cases h
set_option maxRecDepth 100000 in
theorem aMv_133 (y : Nat) : sy_P2 (if y = 133 then some aM_133.1 else none) y := by
  intro mt h
  split at h
  · rename_i hy
    subst hy
    exact (show am_meth (aP (fun i => i)) 133 = some aM_133.1 from rfl).trans h
  · cases h
set_option maxRecDepth 100000 in
theorem aMv_135 (y : Nat) : sy_P2 (if y = 135 then some aM_135.1 else none) y := by
  intro mt h
  split at h
  · rename_i hy
    subst hy
    exact (show am_meth (aP (fun i => i)) 135 = some aM_135.1 from rfl).trans h
  · cases h
set_option maxRecDepth 100000 in
theorem aMv_136 (y : Nat) : sy_P2 (if y = 136 then some aM_136.1 else none) y := by
  intro mt h
  split at h
  · rename_i hy
    subst hy
    exact (show am_meth (aP (fun i => i)) 136 = some aM_136.1 from rfl).trans h
  · cases h
set_option maxRecDepth 100000 in
theorem aMv_143 (y : Nat) : sy_P2 (if y = 143 then some aM_143.1 else none) y := by
  intro mt h
  split at h
  · rename_i hy
    subst hy
    exact (show am_meth (aP (fun i => i)) 143 = some aM_143.1 from rfl).trans h
  · cases h
set_option maxRecDepth 100000 in
theorem aMv_144 (y : Nat) : sy_P2 (if y = 144 then some aM_144.1 else none) y := by
  intro mt h
  split at h
  · rename_i hy
    subst hy
    exact (show am_meth (aP (fun i => i)) 144 = some aM_144.1 from rfl).trans h
  · cases h
set_option maxRecDepth 100000 in
theorem aMv_149 (y : Nat) : sy_P2 (if y = 149 then some aM_149.1 else none) y := by
  intro mt h
  split at h
  · rename_i hy
    subst hy
    exact (show am_meth (aP (fun i => i)) 149 = some aM_149.1 from rfl).trans h
  · cases h
set_option maxRecDepth 100000 in
theorem aMv_152 (y : Nat) : sy_P2 (if y = 152 then some aM_152.1 else none) y := by
  intro mt h
  split at h
  · rename_i hy
    subst hy
    exact (show am_meth (aP (fun i => i)) 152 = some aM_152.1 from rfl).trans h
  · cases h
set_option maxRecDepth 100000 in
theorem aMv_160 (y : Nat) : sy_P2 (if y = 160 then some aM_160.1 else none) y := by
  intro mt h
  split at h
  · rename_i hy
    subst hy
    exact (show am_meth (aP (fun i => i)) 160 = some aM_160.1 from rfl).trans h
  · cases h
set_option maxRecDepth 100000 in
theorem aMv_161 (y : Nat) : sy_P2 (if y = 161 then some aM_161.1 else none) y := by
  intro mt h
  split at h
  · rename_i hy
    subst hy
    exact (show am_meth (aP (fun i => i)) 161 = some aM_161.1 from rfl).trans h
  · cases h
set_option maxRecDepth 100000 in
theorem aMv_167 (y : Nat) : sy_P2 (if y = 167 then some aM_167.1 else none) y := by
  intro mt h
  split at h
  · rename_i hy
    subst hy
    exact (show am_meth (aP (fun i => i)) 167 = some aM_167.1 from rfl).trans h
  · cases h
set_option maxRecDepth 100000 in
theorem aMv_168 (y : Nat) : sy_P2 (if y = 168 then some aM_168.1 else none) y := by
  intro mt h
  split at h
  · rename_i hy
    subst hy
    exact (show am_meth (aP (fun i => i)) 168 = some aM_168.1 from rfl).trans h
  · cases h
set_option maxRecDepth 100000 in
theorem aMv_169 (y : Nat) : sy_P2 (if y = 169 then some aM_169.1 else none) y := by
  intro mt h
  split at h
  · rename_i hy
    subst hy
    exact (show am_meth (aP (fun i => i)) 169 = some aM_169.1 from rfl).trans h
  · cases h
set_option maxRecDepth 100000 in
theorem aMv_171 (y : Nat) : sy_P2 (if y = 171 then some aM_171.1 else none) y := by
  intro mt h
  split at h
  · rename_i hy
    subst hy
    exact (show am_meth (aP (fun i => i)) 171 = some aM_171.1 from rfl).trans h
  · cases h
set_option maxRecDepth 100000 in
theorem aMv_195 (y : Nat) : sy_P2 (if y = 195 then some aM_195.1 else none) y := by
  intro mt h
  split at h
  · rename_i hy
    subst hy
    exact (show am_meth (aP (fun i => i)) 195 = some aM_195.1 from rfl).trans h
  · cases h
set_option maxRecDepth 100000 in
theorem aMv_258 (y : Nat) : sy_P2 (if y = 258 then some aM_258.1 else none) y := by
  intro mt h
  split at h
  · rename_i hy
    subst hy
    exact (show am_meth (aP (fun i => i)) 258 = some aM_258.1 from rfl).trans h
  · cases h
set_option maxRecDepth 100000 in
theorem aMv_259 (y : Nat) : sy_P2 (if y = 259 then some aM_259.1 else none) y := by
  intro mt h
  split at h
  · rename_i hy
    subst hy
    exact (show am_meth (aP (fun i => i)) 259 = some aM_259.1 from rfl).trans h
  · cases h
set_option maxRecDepth 100000 in
theorem aMv_260 (y : Nat) : sy_P2 (if y = 260 then some aM_260.1 else none) y := by
  intro mt h
  split at h
  · rename_i hy
    subst hy
    exact (show am_meth (aP (fun i => i)) 260 = some aM_260.1 from rfl).trans h
  · cases h
set_option maxRecDepth 100000 in
theorem aMv_261 (y : Nat) : sy_P2 (if y = 261 then some aM_261.1 else none) y := by
  intro mt h
  split at h
  · rename_i hy
    subst hy
    exact (show am_meth (aP (fun i => i)) 261 = some aM_261.1 from rfl).trans h
  · cases h
set_option maxRecDepth 100000 in
theorem aMv_263 (y : Nat) : sy_P2 (if y = 263 then some aM_263.1 else none) y := by
  intro mt h
  split at h
  · rename_i hy
    subst hy
    exact (show am_meth (aP (fun i => i)) 263 = some aM_263.1 from rfl).trans h
  · cases h
set_option maxRecDepth 100000 in
theorem aMv_265 (y : Nat) : sy_P2 (if y = 265 then some aM_265.1 else none) y := by
  intro mt h
  split at h
  · rename_i hy
    subst hy
    exact (show am_meth (aP (fun i => i)) 265 = some aM_265.1 from rfl).trans h
  · cases h
set_option maxRecDepth 100000 in
theorem aMv_266 (y : Nat) : sy_P2 (if y = 266 then some aM_266.1 else none) y := by
  intro mt h
  split at h
  · rename_i hy
    subst hy
    exact (show am_meth (aP (fun i => i)) 266 = some aM_266.1 from rfl).trans h
  · cases h
set_option maxRecDepth 100000 in
theorem aMv_267 (y : Nat) : sy_P2 (if y = 267 then some aM_267.1 else none) y := by
  intro mt h
  split at h
  · rename_i hy
    subst hy
    exact (show am_meth (aP (fun i => i)) 267 = some aM_267.1 from rfl).trans h
  · cases h
set_option maxRecDepth 100000 in
theorem aMv_268 (y : Nat) : sy_P2 (if y = 268 then some aM_268.1 else none) y := by
  intro mt h
  split at h
  · rename_i hy
    subst hy
    exact (show am_meth (aP (fun i => i)) 268 = some aM_268.1 from rfl).trans h
  · cases h
set_option maxRecDepth 100000 in
theorem aMv_269 (y : Nat) : sy_P2 (if y = 269 then some aM_269.1 else none) y := by
  intro mt h
  split at h
  · rename_i hy
    subst hy
    exact (show am_meth (aP (fun i => i)) 269 = some aM_269.1 from rfl).trans h
  · cases h
set_option maxRecDepth 100000 in
theorem aMv_270 (y : Nat) : sy_P2 (if y = 270 then some aM_270.1 else none) y := by
  intro mt h
  split at h
  · rename_i hy
    subst hy
    exact (show am_meth (aP (fun i => i)) 270 = some aM_270.1 from rfl).trans h
  · cases h
set_option maxRecDepth 100000 in
theorem aMv_272 (y : Nat) : sy_P2 (if y = 272 then some aM_272.1 else none) y := by
  intro mt h
  split at h
  · rename_i hy
    subst hy
    exact (show am_meth (aP (fun i => i)) 272 = some aM_272.1 from rfl).trans h
  · cases h
set_option maxRecDepth 100000 in
theorem aMv_273 (y : Nat) : sy_P2 (if y = 273 then some aM_273.1 else none) y := by
  intro mt h
  split at h
  · rename_i hy
    subst hy
    exact (show am_meth (aP (fun i => i)) 273 = some aM_273.1 from rfl).trans h
  · cases h
set_option maxRecDepth 100000 in
theorem aMv_275 (y : Nat) : sy_P2 (if y = 275 then some aM_275.1 else none) y := by
  intro mt h
  split at h
  · rename_i hy
    subst hy
    exact (show am_meth (aP (fun i => i)) 275 = some aM_275.1 from rfl).trans h
  · cases h
set_option maxRecDepth 100000 in
theorem aMv_280 (y : Nat) : sy_P2 (if y = 280 then some aM_280.1 else none) y := by
  intro mt h
  split at h
  · rename_i hy
    subst hy
    exact (show am_meth (aP (fun i => i)) 280 = some aM_280.1 from rfl).trans h
  · cases h
set_option maxRecDepth 100000 in
theorem aMv_281 (y : Nat) : sy_P2 (if y = 281 then some aM_281.1 else none) y := by
  intro mt h
  split at h
  · rename_i hy
    subst hy
    exact (show am_meth (aP (fun i => i)) 281 = some aM_281.1 from rfl).trans h
  · cases h
set_option maxRecDepth 100000 in
theorem aMv_283 (y : Nat) : sy_P2 (if y = 283 then some aM_283.1 else none) y := by
  intro mt h
  split at h
  · rename_i hy
    subst hy
    exact (show am_meth (aP (fun i => i)) 283 = some aM_283.1 from rfl).trans h
  · cases h
set_option maxRecDepth 100000 in
theorem aMv_285 (y : Nat) : sy_P2 (if y = 285 then some aM_285.1 else none) y := by
  intro mt h
  split at h
  · rename_i hy
    subst hy
    exact (show am_meth (aP (fun i => i)) 285 = some aM_285.1 from rfl).trans h
  · cases h
set_option maxRecDepth 100000 in
theorem aMv_289 (y : Nat) : sy_P2 (if y = 289 then some aM_289.1 else none) y := by
  intro mt h
  split at h
  · rename_i hy
    subst hy
    exact (show am_meth (aP (fun i => i)) 289 = some aM_289.1 from rfl).trans h
  · cases h
set_option maxRecDepth 100000 in
theorem aMv_293 (y : Nat) : sy_P2 (if y = 293 then some aM_293.1 else none) y := by
  intro mt h
  split at h
  · rename_i hy
    subst hy
    exact (show am_meth (aP (fun i => i)) 293 = some aM_293.1 from rfl).trans h
  · cases h
set_option maxRecDepth 100000 in
theorem aMv_295 (y : Nat) : sy_P2 (if y = 295 then some aM_295.1 else none) y := by
  intro mt h
  split at h
  · rename_i hy
    subst hy
    exact (show am_meth (aP (fun i => i)) 295 = some aM_295.1 from rfl).trans h
  · cases h
set_option maxRecDepth 100000 in
theorem aMv_298 (y : Nat) : sy_P2 (if y = 298 then some aM_298.1 else none) y := by
  intro mt h
  split at h
  · rename_i hy
    subst hy
    exact (show am_meth (aP (fun i => i)) 298 = some aM_298.1 from rfl).trans h
  · cases h
set_option maxRecDepth 100000 in
theorem aMv_302 (y : Nat) : sy_P2 (if y = 302 then some aM_302.1 else none) y := by
  intro mt h
  split at h
  · rename_i hy
    subst hy
    exact (show am_meth (aP (fun i => i)) 302 = some aM_302.1 from rfl).trans h
  · cases h
set_option maxRecDepth 100000 in
theorem aMv_304 (y : Nat) : sy_P2 (if y = 304 then some aM_304.1 else none) y := by
  intro mt h
  split at h
  · rename_i hy
    subst hy
    exact (show am_meth (aP (fun i => i)) 304 = some aM_304.1 from rfl).trans h
  · cases h
set_option maxRecDepth 100000 in
theorem aMv_306 (y : Nat) : sy_P2 (if y = 306 then some aM_306.1 else none) y := by
  intro mt h
  split at h
  · rename_i hy
    subst hy
    exact (show am_meth (aP (fun i => i)) 306 = some aM_306.1 from rfl).trans h
  · cases h
set_option maxRecDepth 100000 in
theorem aMv_307 (y : Nat) : sy_P2 (if y = 307 then some aM_307.1 else none) y := by
  intro mt h
  split at h
  · rename_i hy
    subst hy
    exact (show am_meth (aP (fun i => i)) 307 = some aM_307.1 from rfl).trans h
  · cases h
set_option maxRecDepth 100000 in
theorem aMv_308 (y : Nat) : sy_P2 (if y = 308 then some aM_308.1 else none) y := by
  intro mt h
  split at h
  · rename_i hy
    subst hy
    exact (show am_meth (aP (fun i => i)) 308 = some aM_308.1 from rfl).trans h
  · cases h
set_option maxRecDepth 100000 in
theorem aMv_309 (y : Nat) : sy_P2 (if y = 309 then some aM_309.1 else none) y := by
  intro mt h
  split at h
  · rename_i hy
    subst hy
    exact (show am_meth (aP (fun i => i)) 309 = some aM_309.1 from rfl).trans h
  · cases h
set_option maxRecDepth 100000 in
theorem aMv_311 (y : Nat) : sy_P2 (if y = 311 then some aM_311.1 else none) y := by
  intro mt h
  split at h
  · rename_i hy
    subst hy
    exact (show am_meth (aP (fun i => i)) 311 = some aM_311.1 from rfl).trans h
  · cases h
set_option maxRecDepth 100000 in
theorem aMv_313 (y : Nat) : sy_P2 (if y = 313 then some aM_313.1 else none) y := by
  intro mt h
  split at h
  · rename_i hy
    subst hy
    exact (show am_meth (aP (fun i => i)) 313 = some aM_313.1 from rfl).trans h
  · cases h
set_option maxRecDepth 100000 in
theorem aMv_314 (y : Nat) : sy_P2 (if y = 314 then some aM_314.1 else none) y := by
  intro mt h
  split at h
  · rename_i hy
    subst hy
    exact (show am_meth (aP (fun i => i)) 314 = some aM_314.1 from rfl).trans h
  · cases h
set_option maxRecDepth 100000 in
theorem aMv_316 (y : Nat) : sy_P2 (if y = 316 then some aM_316.1 else none) y := by
  intro mt h
  split at h
  · rename_i hy
    subst hy
    exact (show am_meth (aP (fun i => i)) 316 = some aM_316.1 from rfl).trans h
  · cases h
set_option maxRecDepth 100000 in
theorem aMv_317 (y : Nat) : sy_P2 (if y = 317 then some aM_317.1 else none) y := by
  intro mt h
  split at h
  · rename_i hy
    subst hy
    exact (show am_meth (aP (fun i => i)) 317 = some aM_317.1 from rfl).trans h
  · cases h
set_option maxRecDepth 100000 in
theorem aMv_318 (y : Nat) : sy_P2 (if y = 318 then some aM_318.1 else none) y := by
  intro mt h
  split at h
  · rename_i hy
    subst hy
    exact (show am_meth (aP (fun i => i)) 318 = some aM_318.1 from rfl).trans h
  · cases h
set_option maxRecDepth 100000 in
theorem aMv_319 (y : Nat) : sy_P2 (if y = 319 then some aM_319.1 else none) y := by
  intro mt h
  split at h
  · rename_i hy
    subst hy
    exact (show am_meth (aP (fun i => i)) 319 = some aM_319.1 from rfl).trans h
  · cases h
set_option maxRecDepth 100000 in
theorem aMv_320 (y : Nat) : sy_P2 (if y = 320 then some aM_320.1 else none) y := by
  intro mt h
  split at h
  · rename_i hy
    subst hy
    exact (show am_meth (aP (fun i => i)) 320 = some aM_320.1 from rfl).trans h
  · cases h
set_option maxRecDepth 100000 in
theorem aMv_321 (y : Nat) : sy_P2 (if y = 321 then some aM_321.1 else none) y := by
  intro mt h
  split at h
  · rename_i hy
    subst hy
    exact (show am_meth (aP (fun i => i)) 321 = some aM_321.1 from rfl).trans h
  · cases h
set_option maxRecDepth 100000 in
theorem aMv_322 (y : Nat) : sy_P2 (if y = 322 then some aM_322.1 else none) y := by
  intro mt h
  split at h
  · rename_i hy
    subst hy
    exact (show am_meth (aP (fun i => i)) 322 = some aM_322.1 from rfl).trans h
  · cases h
set_option maxRecDepth 100000 in
theorem aMv_323 (y : Nat) : sy_P2 (if y = 323 then some aM_323.1 else none) y := by
  intro mt h
  split at h
  · rename_i hy
    subst hy
    exact (show am_meth (aP (fun i => i)) 323 = some aM_323.1 from rfl).trans h
  · cases h
set_option maxRecDepth 100000 in
theorem aMv_324 (y : Nat) : sy_P2 (if y = 324 then some aM_324.1 else none) y := by
  intro mt h
  split at h
  · rename_i hy
    subst hy
    exact (show am_meth (aP (fun i => i)) 324 = some aM_324.1 from rfl).trans h
  · cases h
set_option maxRecDepth 100000 in
theorem aMv_325 (y : Nat) : sy_P2 (if y = 325 then some aM_325.1 else none) y := by
  intro mt h
  split at h
  · rename_i hy
    subst hy
    exact (show am_meth (aP (fun i => i)) 325 = some aM_325.1 from rfl).trans h
  · cases h
set_option maxRecDepth 100000 in
theorem aMv_326 (y : Nat) : sy_P2 (if y = 326 then some aM_326.1 else none) y := by
  intro mt h
  split at h
  · rename_i hy
    subst hy
    exact (show am_meth (aP (fun i => i)) 326 = some aM_326.1 from rfl).trans h
  · cases h
set_option maxRecDepth 100000 in
theorem aMv_327 (y : Nat) : sy_P2 (if y = 327 then some aM_327.1 else none) y := by
  intro mt h
  split at h
  · rename_i hy
    subst hy
    exact (show am_meth (aP (fun i => i)) 327 = some aM_327.1 from rfl).trans h
  · cases h
set_option maxRecDepth 100000 in
theorem aMv_328 (y : Nat) : sy_P2 (if y = 328 then some aM_328.1 else none) y := by
  intro mt h
  split at h
  · rename_i hy
    subst hy
    exact (show am_meth (aP (fun i => i)) 328 = some aM_328.1 from rfl).trans h
  · cases h
set_option maxRecDepth 100000 in
theorem aMv_329 (y : Nat) : sy_P2 (if y = 329 then some aM_329.1 else none) y := by
  intro mt h
  split at h
  · rename_i hy
    subst hy
    exact (show am_meth (aP (fun i => i)) 329 = some aM_329.1 from rfl).trans h
  · cases h
set_option maxRecDepth 100000 in
theorem aMv_330 (y : Nat) : sy_P2 (if y = 330 then some aM_330.1 else none) y := by
  intro mt h
  split at h
  · rename_i hy
    subst hy
    exact (show am_meth (aP (fun i => i)) 330 = some aM_330.1 from rfl).trans h
  · cases h
set_option maxRecDepth 100000 in
theorem aMv_331 (y : Nat) : sy_P2 (if y = 331 then some aM_331.1 else none) y := by
  intro mt h
  split at h
  · rename_i hy
    subst hy
    exact (show am_meth (aP (fun i => i)) 331 = some aM_331.1 from rfl).trans h
  · cases h
set_option maxRecDepth 100000 in
theorem aMv_332 (y : Nat) : sy_P2 (if y = 332 then some aM_332.1 else none) y := by
  intro mt h
  split at h
  · rename_i hy
    subst hy
    exact (show am_meth (aP (fun i => i)) 332 = some aM_332.1 from rfl).trans h
  · cases h
set_option maxRecDepth 100000 in
theorem aMv_333 (y : Nat) : sy_P2 (if y = 333 then some aM_333.1 else none) y := by
  intro mt h
  split at h
  · rename_i hy
    subst hy
    exact (show am_meth (aP (fun i => i)) 333 = some aM_333.1 from rfl).trans h
  · cases h
set_option maxRecDepth 100000 in
theorem aMv_334 (y : Nat) : sy_P2 (if y = 334 then some aM_334.1 else none) y := by
  intro mt h
  split at h
  · rename_i hy
    subst hy
    exact (show am_meth (aP (fun i => i)) 334 = some aM_334.1 from rfl).trans h
  · cases h
set_option maxRecDepth 100000 in
theorem aMv_335 (y : Nat) : sy_P2 (if y = 335 then some aM_335.1 else none) y := by
  intro mt h
  split at h
  · rename_i hy
    subst hy
    exact (show am_meth (aP (fun i => i)) 335 = some aM_335.1 from rfl).trans h
  · cases h
set_option maxRecDepth 100000 in
theorem aMv_336 (y : Nat) : sy_P2 (if y = 336 then some aM_336.1 else none) y := by
  intro mt h
  split at h
  · rename_i hy
    subst hy
    exact (show am_meth (aP (fun i => i)) 336 = some aM_336.1 from rfl).trans h
  · cases h
set_option maxRecDepth 100000 in
theorem aMv_337 (y : Nat) : sy_P2 (if y = 337 then some aM_337.1 else none) y := by
  intro mt h
  split at h
  · rename_i hy
    subst hy
    exact (show am_meth (aP (fun i => i)) 337 = some aM_337.1 from rfl).trans h
  · cases h
set_option maxRecDepth 100000 in
theorem aMv_338 (y : Nat) : sy_P2 (if y = 338 then some aM_338.1 else none) y := by
  intro mt h
  split at h
  · rename_i hy
    subst hy
    exact (show am_meth (aP (fun i => i)) 338 = some aM_338.1 from rfl).trans h
  · cases h
set_option maxRecDepth 100000 in
theorem aMv_339 (y : Nat) : sy_P2 (if y = 339 then some aM_339.1 else none) y := by
  intro mt h
  split at h
  · rename_i hy
    subst hy
    exact (show am_meth (aP (fun i => i)) 339 = some aM_339.1 from rfl).trans h
  · cases h
set_option maxRecDepth 100000 in
theorem aMv_340 (y : Nat) : sy_P2 (if y = 340 then some aM_340.1 else none) y := by
  intro mt h
  split at h
  · rename_i hy
    subst hy
    exact (show am_meth (aP (fun i => i)) 340 = some aM_340.1 from rfl).trans h
  · cases h
set_option maxRecDepth 100000 in
theorem aMv_341 (y : Nat) : sy_P2 (if y = 341 then some aM_341.1 else none) y := by
  intro mt h
  split at h
  · rename_i hy
    subst hy
    exact (show am_meth (aP (fun i => i)) 341 = some aM_341.1 from rfl).trans h
  · cases h
set_option maxRecDepth 100000 in
theorem aMv_342 (y : Nat) : sy_P2 (if y = 342 then some aM_342.1 else none) y := by
  intro mt h
  split at h
  · rename_i hy
    subst hy
    exact (show am_meth (aP (fun i => i)) 342 = some aM_342.1 from rfl).trans h
  · cases h
set_option maxRecDepth 100000 in
theorem aMv_343 (y : Nat) : sy_P2 (if y = 343 then some aM_343.1 else none) y := by
  intro mt h
  split at h
  · rename_i hy
    subst hy
    exact (show am_meth (aP (fun i => i)) 343 = some aM_343.1 from rfl).trans h
  · cases h
set_option maxRecDepth 100000 in
theorem aMv_344 (y : Nat) : sy_P2 (if y = 344 then some aM_344.1 else none) y := by
  intro mt h
  split at h
  · rename_i hy
    subst hy
    exact (show am_meth (aP (fun i => i)) 344 = some aM_344.1 from rfl).trans h
  · cases h
set_option maxRecDepth 100000 in
theorem aMv_345 (y : Nat) : sy_P2 (if y = 345 then some aM_345.1 else none) y := by
  intro mt h
  split at h
  · rename_i hy
    subst hy
    exact (show am_meth (aP (fun i => i)) 345 = some aM_345.1 from rfl).trans h
  · cases h
set_option maxRecDepth 100000 in
theorem aMv_346 (y : Nat) : sy_P2 (if y = 346 then some aM_346.1 else none) y := by
  intro mt h
  split at h
  · rename_i hy
    subst hy
    exact (show am_meth (aP (fun i => i)) 346 = some aM_346.1 from rfl).trans h
  · cases h
set_option maxRecDepth 100000 in
theorem aMv_347 (y : Nat) : sy_P2 (if y = 347 then some aM_347.1 else none) y := by
  intro mt h
  split at h
  · rename_i hy
    subst hy
    exact (show am_meth (aP (fun i => i)) 347 = some aM_347.1 from rfl).trans h
  · cases h
set_option maxRecDepth 100000 in
theorem aMv_348 (y : Nat) : sy_P2 (if y = 348 then some aM_348.1 else none) y := by
  intro mt h
  split at h
  · rename_i hy
    subst hy
    exact (show am_meth (aP (fun i => i)) 348 = some aM_348.1 from rfl).trans h
  · cases h
set_option maxRecDepth 100000 in
theorem aMv_349 (y : Nat) : sy_P2 (if y = 349 then some aM_349.1 else none) y := by
  intro mt h
  split at h
  · rename_i hy
    subst hy
    exact (show am_meth (aP (fun i => i)) 349 = some aM_349.1 from rfl).trans h
  · cases h
set_option maxRecDepth 100000 in
theorem aMv_350 (y : Nat) : sy_P2 (if y = 350 then some aM_350.1 else none) y := by
  intro mt h
  split at h
  · rename_i hy
    subst hy
    exact (show am_meth (aP (fun i => i)) 350 = some aM_350.1 from rfl).trans h
  · cases h
set_option maxRecDepth 100000 in
theorem aMv_351 (y : Nat) : sy_P2 (if y = 351 then some aM_351.1 else none) y := by
  intro mt h
  split at h
  · rename_i hy
    subst hy
    exact (show am_meth (aP (fun i => i)) 351 = some aM_351.1 from rfl).trans h
  · cases h
set_option maxRecDepth 100000 in
theorem aMv_352 (y : Nat) : sy_P2 (if y = 352 then some aM_352.1 else none) y := by
  intro mt h
  split at h
  · rename_i hy
    subst hy
    exact (show am_meth (aP (fun i => i)) 352 = some aM_352.1 from rfl).trans h
  · cases h
set_option maxRecDepth 100000 in
theorem aMv_353 (y : Nat) : sy_P2 (if y = 353 then some aM_353.1 else none) y := by
  intro mt h
  split at h
  · rename_i hy
    subst hy
    exact (show am_meth (aP (fun i => i)) 353 = some aM_353.1 from rfl).trans h
  · cases h
set_option maxRecDepth 100000 in
theorem aMv_354 (y : Nat) : sy_P2 (if y = 354 then some aM_354.1 else none) y := by
  intro mt h
  split at h
  · rename_i hy
    subst hy
    exact (show am_meth (aP (fun i => i)) 354 = some aM_354.1 from rfl).trans h
  · cases h
set_option maxRecDepth 100000 in
theorem aMv_355 (y : Nat) : sy_P2 (if y = 355 then some aM_355.1 else none) y := by
  intro mt h
  split at h
  · rename_i hy
    subst hy
    exact (show am_meth (aP (fun i => i)) 355 = some aM_355.1 from rfl).trans h
  · cases h
set_option maxRecDepth 100000 in
theorem aMv_356 (y : Nat) : sy_P2 (if y = 356 then some aM_356.1 else none) y := by
  intro mt h
  split at h
  · rename_i hy
    subst hy
    exact (show am_meth (aP (fun i => i)) 356 = some aM_356.1 from rfl).trans h
  · cases h
set_option maxRecDepth 100000 in
theorem aMv_357 (y : Nat) : sy_P2 (if y = 357 then some aM_357.1 else none) y := by
  intro mt h
  split at h
  · rename_i hy
    subst hy
    exact (show am_meth (aP (fun i => i)) 357 = some aM_357.1 from rfl).trans h
  · cases h
set_option maxRecDepth 100000 in
theorem aMv_358 (y : Nat) : sy_P2 (if y = 358 then some aM_358.1 else none) y := by
  intro mt h
  split at h
  · rename_i hy
    subst hy
    exact (show am_meth (aP (fun i => i)) 358 = some aM_358.1 from rfl).trans h
  · cases h
set_option maxRecDepth 100000 in
theorem aMv_359 (y : Nat) : sy_P2 (if y = 359 then some aM_359.1 else none) y := by
  intro mt h
  split at h
  · rename_i hy
    subst hy
    exact (show am_meth (aP (fun i => i)) 359 = some aM_359.1 from rfl).trans h
  · cases h
set_option maxRecDepth 100000 in
theorem aMv_360 (y : Nat) : sy_P2 (if y = 360 then some aM_360.1 else none) y := by
  intro mt h
  split at h
  · rename_i hy
    subst hy
    exact (show am_meth (aP (fun i => i)) 360 = some aM_360.1 from rfl).trans h
  · cases h
set_option maxRecDepth 100000 in
theorem aMv_361 (y : Nat) : sy_P2 (if y = 361 then some aM_361.1 else none) y := by
  intro mt h
  split at h
  · rename_i hy
    subst hy
    exact (show am_meth (aP (fun i => i)) 361 = some aM_361.1 from rfl).trans h
  · cases h
set_option maxRecDepth 100000 in
theorem aMv_362 (y : Nat) : sy_P2 (if y = 362 then some aM_362.1 else none) y := by
  intro mt h
  split at h
  · rename_i hy
    subst hy
    exact (show am_meth (aP (fun i => i)) 362 = some aM_362.1 from rfl).trans h
  · cases h
set_option maxRecDepth 100000 in
theorem aMv_363 (y : Nat) : sy_P2 (if y = 363 then some aM_363.1 else none) y := by
  intro mt h
  split at h
  · rename_i hy
    subst hy
    exact (show am_meth (aP (fun i => i)) 363 = some aM_363.1 from rfl).trans h
  · cases h
set_option maxRecDepth 100000 in
theorem aMv_364 (y : Nat) : sy_P2 (if y = 364 then some aM_364.1 else none) y := by
  intro mt h
  split at h
  · rename_i hy
    subst hy
    exact (show am_meth (aP (fun i => i)) 364 = some aM_364.1 from rfl).trans h
  · cases h
set_option maxRecDepth 100000 in
theorem aMv_365 (y : Nat) : sy_P2 (if y = 365 then some aM_365.1 else none) y := by
  intro mt h
  split at h
  · rename_i hy
    subst hy
    exact (show am_meth (aP (fun i => i)) 365 = some aM_365.1 from rfl).trans h
  · cases h
set_option maxRecDepth 100000 in
theorem aMv_366 (y : Nat) : sy_P2 (if y = 366 then some aM_366.1 else none) y := by
  intro mt h
  split at h
  · rename_i hy
    subst hy
    exact (show am_meth (aP (fun i => i)) 366 = some aM_366.1 from rfl).trans h
  · cases h
set_option maxRecDepth 100000 in
theorem aMv_367 (y : Nat) : sy_P2 (if y = 367 then some aM_367.1 else none) y := by
  intro mt h
  split at h
  · rename_i hy
    subst hy
    exact (show am_meth (aP (fun i => i)) 367 = some aM_367.1 from rfl).trans h
  · cases h
set_option maxRecDepth 100000 in
theorem aMv_368 (y : Nat) : sy_P2 (if y = 368 then some aM_368.1 else none) y := by
  intro mt h
  split at h
  · rename_i hy
    subst hy
    exact (show am_meth (aP (fun i => i)) 368 = some aM_368.1 from rfl).trans h
  · cases h
set_option maxRecDepth 100000 in
theorem aMv_369 (y : Nat) : sy_P2 (if y = 369 then some aM_369.1 else none) y := by
  intro mt h
  split at h
  · rename_i hy
    subst hy
    exact (show am_meth (aP (fun i => i)) 369 = some aM_369.1 from rfl).trans h
  · cases h
set_option maxRecDepth 100000 in
theorem aMv_370 (y : Nat) : sy_P2 (if y = 370 then some aM_370.1 else none) y := by
  intro mt h
  split at h
  · rename_i hy
    subst hy
    exact (show am_meth (aP (fun i => i)) 370 = some aM_370.1 from rfl).trans h
  · cases h
set_option maxRecDepth 100000 in
theorem aMv_371 (y : Nat) : sy_P2 (if y = 371 then some aM_371.1 else none) y := by
  intro mt h
  split at h
  · rename_i hy
    subst hy
    exact (show am_meth (aP (fun i => i)) 371 = some aM_371.1 from rfl).trans h
  · cases h
set_option maxRecDepth 100000 in
theorem aMv_372 (y : Nat) : sy_P2 (if y = 372 then some aM_372.1 else none) y := by
  intro mt h
  split at h
  · rename_i hy
    subst hy
    exact (show am_meth (aP (fun i => i)) 372 = some aM_372.1 from rfl).trans h
  · cases h
set_option maxRecDepth 100000 in
theorem aMv_373 (y : Nat) : sy_P2 (if y = 373 then some aM_373.1 else none) y := by
  intro mt h
  split at h
  · rename_i hy
    subst hy
    exact (show am_meth (aP (fun i => i)) 373 = some aM_373.1 from rfl).trans h
  · cases h
set_option maxRecDepth 100000 in
theorem aMv_374 (y : Nat) : sy_P2 (if y = 374 then some aM_374.1 else none) y := by
  intro mt h
  split at h
  · rename_i hy
    subst hy
    exact (show am_meth (aP (fun i => i)) 374 = some aM_374.1 from rfl).trans h
  · cases h
set_option maxRecDepth 100000 in
theorem aMv_375 (y : Nat) : sy_P2 (if y = 375 then some aM_375.1 else none) y := by
  intro mt h
  split at h
  · rename_i hy
    subst hy
    exact (show am_meth (aP (fun i => i)) 375 = some aM_375.1 from rfl).trans h
  · cases h
set_option maxRecDepth 100000 in
theorem aMv_376 (y : Nat) : sy_P2 (if y = 376 then some aM_376.1 else none) y := by
  intro mt h
  split at h
  · rename_i hy
    subst hy
    exact (show am_meth (aP (fun i => i)) 376 = some aM_376.1 from rfl).trans h
  · cases h
set_option maxRecDepth 100000 in
theorem aMv_377 (y : Nat) : sy_P2 (if y = 377 then some aM_377.1 else none) y := by
  intro mt h
  split at h
  · rename_i hy
    subst hy
    exact (show am_meth (aP (fun i => i)) 377 = some aM_377.1 from rfl).trans h
  · cases h
set_option maxRecDepth 100000 in
theorem aMv_378 (y : Nat) : sy_P2 (if y = 378 then some aM_378.1 else none) y := by
  intro mt h
  split at h
  · rename_i hy
    subst hy
    exact (show am_meth (aP (fun i => i)) 378 = some aM_378.1 from rfl).trans h
  · cases h
set_option maxRecDepth 100000 in
theorem aMv_379 (y : Nat) : sy_P2 (if y = 379 then some aM_379.1 else none) y := by
  intro mt h
  split at h
  · rename_i hy
    subst hy
    exact (show am_meth (aP (fun i => i)) 379 = some aM_379.1 from rfl).trans h
  · cases h
set_option maxRecDepth 100000 in
theorem aMv_380 (y : Nat) : sy_P2 (if y = 380 then some aM_380.1 else none) y := by
  intro mt h
  split at h
  · rename_i hy
    subst hy
    exact (show am_meth (aP (fun i => i)) 380 = some aM_380.1 from rfl).trans h
  · cases h
set_option maxRecDepth 100000 in
theorem aMv_381 (y : Nat) : sy_P2 (if y = 381 then some aM_381.1 else none) y := by
  intro mt h
  split at h
  · rename_i hy
    subst hy
    exact (show am_meth (aP (fun i => i)) 381 = some aM_381.1 from rfl).trans h
  · cases h
set_option maxRecDepth 100000 in
theorem aMv_382 (y : Nat) : sy_P2 (if y = 382 then some aM_382.1 else none) y := by
  intro mt h
  split at h
  · rename_i hy
    subst hy
    exact (show am_meth (aP (fun i => i)) 382 = some aM_382.1 from rfl).trans h
  · cases h
set_option maxRecDepth 100000 in
theorem aMv_383 (y : Nat) : sy_P2 (if y = 383 then some aM_383.1 else none) y := by
  intro mt h
  split at h
  · rename_i hy
    subst hy
    exact (show am_meth (aP (fun i => i)) 383 = some aM_383.1 from rfl).trans h
  · cases h
set_option maxRecDepth 100000 in
theorem aMv_384 (y : Nat) : sy_P2 (if y = 384 then some aM_384.1 else none) y := by
  intro mt h
  split at h
  · rename_i hy
    subst hy
    exact (show am_meth (aP (fun i => i)) 384 = some aM_384.1 from rfl).trans h
  · cases h
set_option maxRecDepth 100000 in
theorem aMv_385 (y : Nat) : sy_P2 (if y = 385 then some aM_385.1 else none) y := by
  intro mt h
  split at h
  · rename_i hy
    subst hy
    exact (show am_meth (aP (fun i => i)) 385 = some aM_385.1 from rfl).trans h
  · cases h
set_option maxRecDepth 100000 in
theorem aMv_386 (y : Nat) : sy_P2 (if y = 386 then some aM_386.1 else none) y := by
  intro mt h
  split at h
  · rename_i hy
    subst hy
    exact (show am_meth (aP (fun i => i)) 386 = some aM_386.1 from rfl).trans h
  · cases h
set_option maxRecDepth 100000 in
theorem aMv_387 (y : Nat) : sy_P2 (if y = 387 then some aM_387.1 else none) y := by
  intro mt h
  split at h
  · rename_i hy
    subst hy
    exact (show am_meth (aP (fun i => i)) 387 = some aM_387.1 from rfl).trans h
  · cases h
set_option maxRecDepth 100000 in
theorem aMv_388 (y : Nat) : sy_P2 (if y = 388 then some aM_388.1 else none) y := by
  intro mt h
  split at h
  · rename_i hy
    subst hy
    exact (show am_meth (aP (fun i => i)) 388 = some aM_388.1 from rfl).trans h
  · cases h
set_option maxRecDepth 100000 in
theorem aMv_389 (y : Nat) : sy_P2 (if y = 389 then some aM_389.1 else none) y := by
  intro mt h
  split at h
  · rename_i hy
    subst hy
    exact (show am_meth (aP (fun i => i)) 389 = some aM_389.1 from rfl).trans h
  · cases h
set_option maxRecDepth 100000 in
theorem aMv_390 (y : Nat) : sy_P2 (if y = 390 then some aM_390.1 else none) y := by
  intro mt h
  split at h
  · rename_i hy
    subst hy
    exact (show am_meth (aP (fun i => i)) 390 = some aM_390.1 from rfl).trans h
  · cases h
set_option maxRecDepth 100000 in
theorem aMv_391 (y : Nat) : sy_P2 (if y = 391 then some aM_391.1 else none) y := by
  intro mt h
  split at h
  · rename_i hy
    subst hy
    exact (show am_meth (aP (fun i => i)) 391 = some aM_391.1 from rfl).trans h
  · cases h
set_option maxRecDepth 100000 in
theorem aMv_392 (y : Nat) : sy_P2 (if y = 392 then some aM_392.1 else none) y := by
  intro mt h
  split at h
  · rename_i hy
    subst hy
    exact (show am_meth (aP (fun i => i)) 392 = some aM_392.1 from rfl).trans h
  · cases h
set_option maxRecDepth 100000 in
theorem aMv_393 (y : Nat) : sy_P2 (if y = 393 then some aM_393.1 else none) y := by
  intro mt h
  split at h
  · rename_i hy
    subst hy
    exact (show am_meth (aP (fun i => i)) 393 = some aM_393.1 from rfl).trans h
  · cases h
set_option maxRecDepth 100000 in
theorem aMv_394 (y : Nat) : sy_P2 (if y = 394 then some aM_394.1 else none) y := by
  intro mt h
  split at h
  · rename_i hy
    subst hy
    exact (show am_meth (aP (fun i => i)) 394 = some aM_394.1 from rfl).trans h
  · cases h
set_option maxRecDepth 100000 in
theorem aMv_395 (y : Nat) : sy_P2 (if y = 395 then some aM_395.1 else none) y := by
  intro mt h
  split at h
  · rename_i hy
    subst hy
    exact (show am_meth (aP (fun i => i)) 395 = some aM_395.1 from rfl).trans h
  · cases h
set_option maxRecDepth 100000 in
theorem aMv_396 (y : Nat) : sy_P2 (if y = 396 then some aM_396.1 else none) y := by
  intro mt h
  split at h
  · rename_i hy
    subst hy
    exact (show am_meth (aP (fun i => i)) 396 = some aM_396.1 from rfl).trans h
  · cases h
set_option maxRecDepth 100000 in
theorem aMv_397 (y : Nat) : sy_P2 (if y = 397 then some aM_397.1 else none) y := by
  intro mt h
  split at h
  · rename_i hy
    subst hy
    exact (show am_meth (aP (fun i => i)) 397 = some aM_397.1 from rfl).trans h
  · cases h
set_option maxRecDepth 100000 in
theorem aMv_398 (y : Nat) : sy_P2 (if y = 398 then some aM_398.1 else none) y := by
  intro mt h
  split at h
  · rename_i hy
    subst hy
    exact (show am_meth (aP (fun i => i)) 398 = some aM_398.1 from rfl).trans h
  · cases h
set_option maxRecDepth 100000 in
theorem aMv_399 (y : Nat) : sy_P2 (if y = 399 then some aM_399.1 else none) y := by
  intro mt h
  split at h
  · rename_i hy
    subst hy
    exact (show am_meth (aP (fun i => i)) 399 = some aM_399.1 from rfl).trans h
  · cases h
set_option maxRecDepth 100000 in
theorem aMv_400 (y : Nat) : sy_P2 (if y = 400 then some aM_400.1 else none) y := by
  intro mt h
  split at h
  · rename_i hy
    subst hy
    exact (show am_meth (aP (fun i => i)) 400 = some aM_400.1 from rfl).trans h
  · cases h
set_option maxRecDepth 100000 in
theorem aMv_401 (y : Nat) : sy_P2 (if y = 401 then some aM_401.1 else none) y := by
  intro mt h
  split at h
  · rename_i hy
    subst hy
    exact (show am_meth (aP (fun i => i)) 401 = some aM_401.1 from rfl).trans h
  · cases h
set_option maxRecDepth 100000 in
theorem aMv_402 (y : Nat) : sy_P2 (if y = 402 then some aM_402.1 else none) y := by
  intro mt h
  split at h
  · rename_i hy
    subst hy
    exact (show am_meth (aP (fun i => i)) 402 = some aM_402.1 from rfl).trans h
  · cases h
set_option maxRecDepth 100000 in
theorem aMv_403 (y : Nat) : sy_P2 (if y = 403 then some aM_403.1 else none) y := by
  intro mt h
  split at h
  · rename_i hy
    subst hy
    exact (show am_meth (aP (fun i => i)) 403 = some aM_403.1 from rfl).trans h
  · cases h
set_option maxRecDepth 100000 in
theorem aMv_404 (y : Nat) : sy_P2 (if y = 404 then some aM_404.1 else none) y := by
  intro mt h
  split at h
  · rename_i hy
    subst hy
    exact (show am_meth (aP (fun i => i)) 404 = some aM_404.1 from rfl).trans h
  · cases h
set_option maxRecDepth 100000 in
theorem aMv_405 (y : Nat) : sy_P2 (if y = 405 then some aM_405.1 else none) y := by
  intro mt h
  split at h
  · rename_i hy
    subst hy
    exact (show am_meth (aP (fun i => i)) 405 = some aM_405.1 from rfl).trans h
  · cases h
set_option maxRecDepth 100000 in
theorem aMv_406 (y : Nat) : sy_P2 (if y = 406 then some aM_406.1 else none) y := by
  intro mt h
  split at h
  · rename_i hy
    subst hy
    exact (show am_meth (aP (fun i => i)) 406 = some aM_406.1 from rfl).trans h
  · cases h
set_option maxRecDepth 100000 in
theorem aMv_407 (y : Nat) : sy_P2 (if y = 407 then some aM_407.1 else none) y := by
  intro mt h
  split at h
  · rename_i hy
    subst hy
    exact (show am_meth (aP (fun i => i)) 407 = some aM_407.1 from rfl).trans h
  · cases h
set_option maxRecDepth 100000 in
theorem aMv_408 (y : Nat) : sy_P2 (if y = 408 then some aM_408.1 else none) y := by
  intro mt h
  split at h
  · rename_i hy
    subst hy
    exact (show am_meth (aP (fun i => i)) 408 = some aM_408.1 from rfl).trans h
  · cases h
set_option maxRecDepth 100000 in
theorem aMv_409 (y : Nat) : sy_P2 (if y = 409 then some aM_409.1 else none) y := by
  intro mt h
  split at h
  · rename_i hy
    subst hy
    exact (show am_meth (aP (fun i => i)) 409 = some aM_409.1 from rfl).trans h
  · cases h
set_option maxRecDepth 100000 in
theorem aMv_410 (y : Nat) : sy_P2 (if y = 410 then some aM_410.1 else none) y := by
  intro mt h
  split at h
  · rename_i hy
    subst hy
    exact (show am_meth (aP (fun i => i)) 410 = some aM_410.1 from rfl).trans h
  · cases h
set_option maxRecDepth 100000 in
theorem aMv_411 (y : Nat) : sy_P2 (if y = 411 then some aM_411.1 else none) y := by
  intro mt h
  split at h
  · rename_i hy
    subst hy
    exact (show am_meth (aP (fun i => i)) 411 = some aM_411.1 from rfl).trans h
  · cases h
set_option maxRecDepth 100000 in
theorem aMv_416 (y : Nat) : sy_P2 (if y = 416 then some aM_416.1 else none) y := by
  intro mt h
  split at h
  · rename_i hy
    subst hy
    exact (show am_meth (aP (fun i => i)) 416 = some aM_416.1 from rfl).trans h
  · cases h
set_option maxRecDepth 100000 in
theorem aMv_417 (y : Nat) : sy_P2 (if y = 417 then some aM_417.1 else none) y := by
  intro mt h
  split at h
  · rename_i hy
    subst hy
    exact (show am_meth (aP (fun i => i)) 417 = some aM_417.1 from rfl).trans h
  · cases h
set_option maxRecDepth 100000 in
theorem aMv_418 (y : Nat) : sy_P2 (if y = 418 then some aM_418.1 else none) y := by
  intro mt h
  split at h
  · rename_i hy
    subst hy
    exact (show am_meth (aP (fun i => i)) 418 = some aM_418.1 from rfl).trans h
  · cases h
set_option maxRecDepth 100000 in
theorem aMv_419 (y : Nat) : sy_P2 (if y = 419 then some aM_419.1 else none) y := by
  intro mt h
  split at h
  · rename_i hy
    subst hy
    exact (show am_meth (aP (fun i => i)) 419 = some aM_419.1 from rfl).trans h
  · cases h
set_option maxRecDepth 100000 in
theorem aMv_429 (y : Nat) : sy_P2 (if y = 429 then some aM_429.1 else none) y := by
  intro mt h
  split at h
  · rename_i hy
    subst hy
    exact (show am_meth (aP (fun i => i)) 429 = some aM_429.1 from rfl).trans h
  · cases h
set_option maxRecDepth 100000 in
theorem aMv_432 (y : Nat) : sy_P2 (if y = 432 then some aM_432.1 else none) y := by
  intro mt h
  split at h
  · rename_i hy
    subst hy
    exact (show am_meth (aP (fun i => i)) 432 = some aM_432.1 from rfl).trans h
  · cases h
set_option maxRecDepth 100000 in
theorem aMv_433 (y : Nat) : sy_P2 (if y = 433 then some aM_433.1 else none) y := by
  intro mt h
  split at h
  · rename_i hy
    subst hy
    exact (show am_meth (aP (fun i => i)) 433 = some aM_433.1 from rfl).trans h
  · cases h
set_option maxRecDepth 100000 in
theorem aMv_434 (y : Nat) : sy_P2 (if y = 434 then some aM_434.1 else none) y := by
  intro mt h
  split at h
  · rename_i hy
    subst hy
    exact (show am_meth (aP (fun i => i)) 434 = some aM_434.1 from rfl).trans h
  · cases h
set_option maxRecDepth 100000 in
theorem aMv_435 (y : Nat) : sy_P2 (if y = 435 then some aM_435.1 else none) y := by
  intro mt h
  split at h
  · rename_i hy
    subst hy
    exact (show am_meth (aP (fun i => i)) 435 = some aM_435.1 from rfl).trans h
  · cases h
set_option maxRecDepth 100000 in
theorem aMv_436 (y : Nat) : sy_P2 (if y = 436 then some aM_436.1 else none) y := by
  intro mt h
  split at h
  · rename_i hy
    subst hy
    exact (show am_meth (aP (fun i => i)) 436 = some aM_436.1 from rfl).trans h
  · cases h
set_option maxRecDepth 100000 in
theorem aMv_437 (y : Nat) : sy_P2 (if y = 437 then some aM_437.1 else none) y := by
  intro mt h
  split at h
  · rename_i hy
    subst hy
    exact (show am_meth (aP (fun i => i)) 437 = some aM_437.1 from rfl).trans h
  · cases h
set_option maxRecDepth 100000 in
theorem aMv_438 (y : Nat) : sy_P2 (if y = 438 then some aM_438.1 else none) y := by
  intro mt h
  split at h
  · rename_i hy
    subst hy
    exact (show am_meth (aP (fun i => i)) 438 = some aM_438.1 from rfl).trans h
  · cases h
set_option maxRecDepth 100000 in
theorem aMv_439 (y : Nat) : sy_P2 (if y = 439 then some aM_439.1 else none) y := by
  intro mt h
  split at h
  · rename_i hy
    subst hy
    exact (show am_meth (aP (fun i => i)) 439 = some aM_439.1 from rfl).trans h
  · cases h
set_option maxRecDepth 100000 in
theorem aMv_440 (y : Nat) : sy_P2 (if y = 440 then some aM_440.1 else none) y := by
  intro mt h
  split at h
  · rename_i hy
    subst hy
    exact (show am_meth (aP (fun i => i)) 440 = some aM_440.1 from rfl).trans h
  · cases h
set_option maxRecDepth 100000 in
theorem aMv_441 (y : Nat) : sy_P2 (if y = 441 then some aM_441.1 else none) y := by
  intro mt h
  split at h
  · rename_i hy
    subst hy
    exact (show am_meth (aP (fun i => i)) 441 = some aM_441.1 from rfl).trans h
  · cases h
set_option maxRecDepth 100000 in
theorem aMv_442 (y : Nat) : sy_P2 (if y = 442 then some aM_442.1 else none) y := by
  intro mt h
  split at h
  · rename_i hy
    subst hy
    exact (show am_meth (aP (fun i => i)) 442 = some aM_442.1 from rfl).trans h
  · cases h
set_option maxRecDepth 100000 in
theorem aMv_443 (y : Nat) : sy_P2 (if y = 443 then some aM_443.1 else none) y := by
  intro mt h
  split at h
  · rename_i hy
    subst hy
    exact (show am_meth (aP (fun i => i)) 443 = some aM_443.1 from rfl).trans h
  · cases h
set_option maxRecDepth 100000 in
theorem aMv_444 (y : Nat) : sy_P2 (if y = 444 then some aM_444.1 else none) y := by
  intro mt h
  split at h
  · rename_i hy
    subst hy
    exact (show am_meth (aP (fun i => i)) 444 = some aM_444.1 from rfl).trans h
  · cases h
set_option maxRecDepth 100000 in
theorem aMv_445 (y : Nat) : sy_P2 (if y = 445 then some aM_445.1 else none) y := by
  intro mt h
  split at h
  · rename_i hy
    subst hy
    exact (show am_meth (aP (fun i => i)) 445 = some aM_445.1 from rfl).trans h
  · cases h
set_option maxRecDepth 100000 in
theorem aMv_446 (y : Nat) : sy_P2 (if y = 446 then some aM_446.1 else none) y := by
  intro mt h
  split at h
  · rename_i hy
    subst hy
    exact (show am_meth (aP (fun i => i)) 446 = some aM_446.1 from rfl).trans h
  · cases h
set_option maxRecDepth 100000 in
theorem aMv_447 (y : Nat) : sy_P2 (if y = 447 then some aM_447.1 else none) y := by
  intro mt h
  split at h
  · rename_i hy
    subst hy
    exact (show am_meth (aP (fun i => i)) 447 = some aM_447.1 from rfl).trans h
  · cases h
set_option maxRecDepth 100000 in
theorem aMv_448 (y : Nat) : sy_P2 (if y = 448 then some aM_448.1 else none) y := by
  intro mt h
  split at h
  · rename_i hy
    subst hy
    exact (show am_meth (aP (fun i => i)) 448 = some aM_448.1 from rfl).trans h
  · cases h
set_option maxRecDepth 100000 in
theorem aMv_449 (y : Nat) : sy_P2 (if y = 449 then some aM_449.1 else none) y := by
  intro mt h
  split at h
  · rename_i hy
    subst hy
    exact (show am_meth (aP (fun i => i)) 449 = some aM_449.1 from rfl).trans h
  · cases h
set_option maxRecDepth 100000 in
theorem aMv_450 (y : Nat) : sy_P2 (if y = 450 then some aM_450.1 else none) y := by
  intro mt h
  split at h
  · rename_i hy
    subst hy
    exact (show am_meth (aP (fun i => i)) 450 = some aM_450.1 from rfl).trans h
  · cases h
set_option maxRecDepth 100000 in
theorem aMv_452 (y : Nat) : sy_P2 (if y = 452 then some aM_452.1 else none) y := by
  intro mt h
  split at h
  · rename_i hy
    subst hy
    exact (show am_meth (aP (fun i => i)) 452 = some aM_452.1 from rfl).trans h
  · cases h
set_option maxRecDepth 100000 in
theorem aMv_457 (y : Nat) : sy_P2 (if y = 457 then some aM_457.1 else none) y := by
  intro mt h
  split at h
  · rename_i hy
    subst hy
    exact (show am_meth (aP (fun i => i)) 457 = some aM_457.1 from rfl).trans h
  · cases h
set_option maxRecDepth 100000 in
theorem aMv_459 (y : Nat) : sy_P2 (if y = 459 then some aM_459.1 else none) y := by
  intro mt h
  split at h
  · rename_i hy
    subst hy
    exact (show am_meth (aP (fun i => i)) 459 = some aM_459.1 from rfl).trans h
  · cases h
set_option maxRecDepth 100000 in
theorem aMv_460 (y : Nat) : sy_P2 (if y = 460 then some aM_460.1 else none) y := by
  intro mt h
  split at h
  · rename_i hy
    subst hy
    exact (show am_meth (aP (fun i => i)) 460 = some aM_460.1 from rfl).trans h
  · cases h
set_option maxRecDepth 100000 in
theorem aMv_461 (y : Nat) : sy_P2 (if y = 461 then some aM_461.1 else none) y := by
  intro mt h
  split at h
  · rename_i hy
    subst hy
    exact (show am_meth (aP (fun i => i)) 461 = some aM_461.1 from rfl).trans h
  · cases h
set_option maxRecDepth 100000 in
theorem aMv_483 (y : Nat) : sy_P2 (if y = 483 then some aM_483.1 else none) y := by
  intro mt h
  split at h
  · rename_i hy
    subst hy
    exact (show am_meth (aP (fun i => i)) 483 = some aM_483.1 from rfl).trans h
  · cases h
set_option maxRecDepth 100000 in
theorem aMv_484 (y : Nat) : sy_P2 (if y = 484 then some aM_484.1 else none) y := by
  intro mt h
  split at h
  · rename_i hy
    subst hy
    exact (show am_meth (aP (fun i => i)) 484 = some aM_484.1 from rfl).trans h
  · cases h
set_option maxRecDepth 100000 in
theorem aMv_485 (y : Nat) : sy_P2 (if y = 485 then some aM_485.1 else none) y := by
  intro mt h
  split at h
  · rename_i hy
    subst hy
    exact (show am_meth (aP (fun i => i)) 485 = some aM_485.1 from rfl).trans h
  · cases h
set_option maxRecDepth 100000 in
theorem aMv_550 (y : Nat) : sy_P2 (if y = 550 then some aM_550.1 else none) y := by
  intro mt h
  split at h
  · rename_i hy
    subst hy
    exact (show am_meth (aP (fun i => i)) 550 = some aM_550.1 from rfl).trans h
  · cases h
set_option maxRecDepth 100000 in
theorem aMv_551 (y : Nat) : sy_P2 (if y = 551 then some aM_551.1 else none) y := by
  intro mt h
  split at h
  · rename_i hy
    subst hy
    exact (show am_meth (aP (fun i => i)) 551 = some aM_551.1 from rfl).trans h
  · cases h
set_option maxRecDepth 100000 in
theorem aMv_552 (y : Nat) : sy_P2 (if y = 552 then some aM_552.1 else none) y := by
  intro mt h
  split at h
  · rename_i hy
    subst hy
    exact (show am_meth (aP (fun i => i)) 552 = some aM_552.1 from rfl).trans h
  · cases h
set_option maxRecDepth 100000 in
theorem aMv_553 (y : Nat) : sy_P2 (if y = 553 then some aM_553.1 else none) y := by
  intro mt h
  split at h
  · rename_i hy
    subst hy
    exact (show am_meth (aP (fun i => i)) 553 = some aM_553.1 from rfl).trans h
  · cases h
set_option maxRecDepth 100000 in
theorem aMv_555 (y : Nat) : sy_P2 (if y = 555 then some aM_555.1 else none) y := by
  intro mt h
  split at h
  · rename_i hy
    subst hy
    exact (show am_meth (aP (fun i => i)) 555 = some aM_555.1 from rfl).trans h
  · cases h
set_option maxRecDepth 100000 in
theorem aMv_556 (y : Nat) : sy_P2 (if y = 556 then some aM_556.1 else none) y := by
  intro mt h
  split at h
  · rename_i hy
    subst hy
    exact (show am_meth (aP (fun i => i)) 556 = some aM_556.1 from rfl).trans h
  · cases h
set_option maxRecDepth 100000 in
theorem aMv_557 (y : Nat) : sy_P2 (if y = 557 then some aM_557.1 else none) y := by
  intro mt h
  split at h
  · rename_i hy
    subst hy
    exact (show am_meth (aP (fun i => i)) 557 = some aM_557.1 from rfl).trans h
  · cases h
set_option maxRecDepth 100000 in
theorem aMv_558 (y : Nat) : sy_P2 (if y = 558 then some aM_558.1 else none) y := by
  intro mt h
  split at h
  · rename_i hy
    subst hy
    exact (show am_meth (aP (fun i => i)) 558 = some aM_558.1 from rfl).trans h
  · cases h
set_option maxRecDepth 100000 in
theorem aMv_559 (y : Nat) : sy_P2 (if y = 559 then some aM_559.1 else none) y := by
  intro mt h
  split at h
  · rename_i hy
    subst hy
    exact (show am_meth (aP (fun i => i)) 559 = some aM_559.1 from rfl).trans h
  · cases h
set_option maxRecDepth 100000 in
theorem aMv_560 (y : Nat) : sy_P2 (if y = 560 then some aM_560.1 else none) y := by
  intro mt h
  split at h
  · rename_i hy
    subst hy
    exact (show am_meth (aP (fun i => i)) 560 = some aM_560.1 from rfl).trans h
  · cases h
set_option maxRecDepth 100000 in
theorem aMv_561 (y : Nat) : sy_P2 (if y = 561 then some aM_561.1 else none) y := by
  intro mt h
  split at h
  · rename_i hy
    subst hy
    exact (show am_meth (aP (fun i => i)) 561 = some aM_561.1 from rfl).trans h
  · cases h
def aMt (y : Nat) : Option am_Meth := (if y < 319 then (if y < 89 then (if y < 34 then (if y < 17 then (if y < 8 then (if y < 4 then (if y < 2 then (if y < 1 then (if y = 0 then some aM_0.1 else none) else (if y = 1 then some aM_1.1 else none)) else (if y < 3 then (if y = 2 then some aM_2.1 else none) else (if y = 3 then some aM_3.1 else none))) else (if y < 6 then (if y < 5 then (if y = 4 then some aM_4.1 else none) else (if y = 5 then some aM_5.1 else none)) else (if y < 7 then (if y = 6 then some aM_6.1 else none) else (if y = 7 then some aM_7.1 else none)))) else (if y < 12 then (if y < 10 then (if y < 9 then (if y = 8 then some aM_8.1 else none) else (if y = 9 then some aM_9.1 else none)) else (if y < 11 then (if y = 10 then some aM_10.1 else none) else (if y = 11 then some aM_11.1 else none))) else (if y < 14 then (if y < 13 then (if y = 12 then some aM_12.1 else none) else (if y = 13 then some aM_13.1 else none)) else (if y < 15 then (if y = 14 then some aM_14.1 else none) else (if y < 16 then (if y = 15 then some aM_15.1 else none) else (if y = 16 then some aM_16.1 else none)))))) else (if y < 25 then (if y < 21 then (if y < 19 then (if y < 18 then (if y = 17 then some aM_17.1 else none) else (if y = 18 then some aM_18.1 else none)) else (if y < 20 then (if y = 19 then some aM_19.1 else none) else (if y = 20 then some aM_20.1 else none))) else (if y < 23 then (if y < 22 then (if y = 21 then some aM_21.1 else none) else (if y = 22 then some aM_22.1 else none)) else (if y < 24 then (if y = 23 then some aM_23.1 else none) else (if y = 24 then some aM_24.1 else none)))) else (if y < 29 then (if y < 27 then (if y < 26 then (if y = 25 then some aM_25.1 else none) else (if y = 26 then some aM_26.1 else none)) else (if y < 28 then (if y = 27 then some aM_27.1 else none) else (if y = 28 then some aM_28.1 else none))) else (if y < 31 then (if y < 30 then (if y = 29 then some aM_29.1 else none) else (if y = 30 then some aM_30.1 else none)) else (if y < 32 then (if y = 31 then some aM_31.1 else none) else (if y < 33 then (if y = 32 then some aM_32.1 else none) else (if y = 33 then some aM_33.1 else none))))))) else (if y < 51 then (if y < 42 then (if y < 38 then (if y < 36 then (if y < 35 then (if y = 34 then some aM_34.1 else none) else (if y = 35 then some aM_35.1 else none)) else (if y < 37 then (if y = 36 then some aM_36.1 else none) else (if y = 37 then some aM_37.1 else none))) else (if y < 40 then (if y < 39 then (if y = 38 then some aM_38.1 else none) else (if y = 39 then some aM_39.1 else none)) else (if y < 41 then (if y = 40 then some aM_40.1 else none) else (if y = 41 then some aM_41.1 else none)))) else (if y < 46 then (if y < 44 then (if y < 43 then (if y = 42 then some aM_42.1 else none) else (if y = 43 then some aM_43.1 else none)) else (if y < 45 then (if y = 44 then some aM_44.1 else none) else (if y = 45 then some aM_45.1 else none))) else (if y < 48 then (if y < 47 then (if y = 46 then some aM_46.1 else none) else (if y = 47 then some aM_47.1 else none)) else (if y < 49 then (if y = 48 then some aM_48.1 else none) else (if y < 50 then (if y = 49 then some aM_49.1 else none) else (if y = 50 then some aM_50.1 else none)))))) else (if y < 63 then (if y < 55 then (if y < 53 then (if y < 52 then (if y = 51 then some aM_51.1 else none) else (if y = 52 then some aM_52.1 else none)) else (if y < 54 then (if y = 53 then some aM_53.1 else none) else (if y = 54 then some aM_54.1 else none))) else (if y < 61 then (if y < 56 then (if y = 55 then some aM_55.1 else none) else (if y = 56 then some aM_56.1 else none)) else (if y < 62 then (if y = 61 then some aM_61.1 else none) else (if y = 62 then some aM_62.1 else none)))) else (if y < 67 then (if y < 65 then (if y < 64 then (if y = 63 then some aM_63.1 else none) else (if y = 64 then some aM_64.1 else none)) else (if y < 66 then (if y = 65 then some aM_65.1 else none) else (if y = 66 then some aM_66.1 else none))) else (if y < 86 then (if y < 68 then (if y = 67 then some aM_67.1 else none) else (if y = 68 then some aM_68.1 else none)) else (if y < 87 then (if y = 86 then some aM_86.1 else none) else (if y < 88 then (if y = 87 then some aM_87.1 else none) else (if y = 88 then some aM_88.1 else none)))))))) else (if y < 258 then (if y < 127 then (if y < 114 then (if y < 95 then (if y < 91 then (if y < 90 then (if y = 89 then some aM_89.1 else none) else (if y = 90 then some aM_90.1 else none)) else (if y < 94 then (if y = 91 then some aM_91.1 else none) else (if y = 94 then some aM_94.1 else none))) else (if y < 111 then (if y < 96 then (if y = 95 then some aM_95.1 else none) else (if y = 96 then some aM_96.1 else none)) else (if y < 113 then (if y = 111 then some aM_111.1 else none) else (if y = 113 then some aM_113.1 else none)))) else (if y < 120 then (if y < 116 then (if y < 115 then (if y = 114 then some aM_114.1 else none) else (if y = 115 then some aM_115.1 else none)) else (if y < 117 then (if y = 116 then some aM_116.1 else none) else (if y = 117 then some aM_117.1 else none))) else (if y < 123 then (if y < 122 then (if y = 120 then some aM_120.1 else none) else (if y = 122 then some aM_122.1 else none)) else (if y < 125 then (if y = 123 then some aM_123.1 else none) else (if y < 126 then (if y = 125 then some aM_125.1 else none) else (if y = 126 then some aM_126.1 else none)))))) else (if y < 149 then (if y < 135 then (if y < 131 then (if y < 128 then (if y = 127 then some aM_127.1 else none) else (if y = 128 then some aM_128.1 else none)) else (if y < 133 then (if y = 131 then some aM_131.1 else none) else (if y = 133 then some aM_133.1 else none))) else (if y < 143 then (if y < 136 then (if y = 135 then some aM_135.1 else none) else (if y = 136 then some aM_136.1 else none)) else (if y < 144 then (if y = 143 then some aM_143.1 else none) else (if y = 144 then some aM_144.1 else none)))) else (if y < 167 then (if y < 160 then (if y < 152 then (if y = 149 then some aM_149.1 else none) else (if y = 152 then some aM_152.1 else none)) else (if y < 161 then (if y = 160 then some aM_160.1 else none) else (if y = 161 then some aM_161.1 else none))) else (if y < 169 then (if y < 168 then (if y = 167 then some aM_167.1 else none) else (if y = 168 then some aM_168.1 else none)) else (if y < 171 then (if y = 169 then some aM_169.1 else none) else (if y < 195 then (if y = 171 then some aM_171.1 else none) else (if y = 195 then some aM_195.1 else none))))))) else (if y < 285 then (if y < 268 then (if y < 263 then (if y < 260 then (if y < 259 then (if y = 258 then some aM_258.1 else none) else (if y = 259 then some aM_259.1 else none)) else (if y < 261 then (if y = 260 then some aM_260.1 else none) else (if y = 261 then some aM_261.1 else none))) else (if y < 266 then (if y < 265 then (if y = 263 then some aM_263.1 else none) else (if y = 265 then some aM_265.1 else none)) else (if y < 267 then (if y = 266 then some aM_266.1 else none) else (if y = 267 then some aM_267.1 else none)))) else (if y < 273 then (if y < 270 then (if y < 269 then (if y = 268 then some aM_268.1 else none) else (if y = 269 then some aM_269.1 else none)) else (if y < 272 then (if y = 270 then some aM_270.1 else none) else (if y = 272 then some aM_272.1 else none))) else (if y < 280 then (if y < 275 then (if y = 273 then some aM_273.1 else none) else (if y = 275 then some aM_275.1 else none)) else (if y < 281 then (if y = 280 then some aM_280.1 else none) else (if y < 283 then (if y = 281 then some aM_281.1 else none) else (if y = 283 then some aM_283.1 else none)))))) else (if y < 307 then (if y < 298 then (if y < 293 then (if y < 289 then (if y = 285 then some aM_285.1 else none) else (if y = 289 then some aM_289.1 else none)) else (if y < 295 then (if y = 293 then some aM_293.1 else none) else (if y = 295 then some aM_295.1 else none))) else (if y < 304 then (if y < 302 then (if y = 298 then some aM_298.1 else none) else (if y = 302 then some aM_302.1 else none)) else (if y < 306 then (if y = 304 then some aM_304.1 else none) else (if y = 306 then some aM_306.1 else none)))) else (if y < 313 then (if y < 309 then (if y < 308 then (if y = 307 then some aM_307.1 else none) else (if y = 308 then some aM_308.1 else none)) else (if y < 311 then (if y = 309 then some aM_309.1 else none) else (if y = 311 then some aM_311.1 else none))) else (if y < 316 then (if y < 314 then (if y = 313 then some aM_313.1 else none) else (if y = 314 then some aM_314.1 else none)) else (if y < 317 then (if y = 316 then some aM_316.1 else none) else (if y < 318 then (if y = 317 then some aM_317.1 else none) else (if y = 318 then some aM_318.1 else none))))))))) else (if y < 387 then (if y < 353 then (if y < 336 then (if y < 327 then (if y < 323 then (if y < 321 then (if y < 320 then (if y = 319 then some aM_319.1 else none) else (if y = 320 then some aM_320.1 else none)) else (if y < 322 then (if y = 321 then some aM_321.1 else none) else (if y = 322 then some aM_322.1 else none))) else (if y < 325 then (if y < 324 then (if y = 323 then some aM_323.1 else none) else (if y = 324 then some aM_324.1 else none)) else (if y < 326 then (if y = 325 then some aM_325.1 else none) else (if y = 326 then some aM_326.1 else none)))) else (if y < 331 then (if y < 329 then (if y < 328 then (if y = 327 then some aM_327.1 else none) else (if y = 328 then some aM_328.1 else none)) else (if y < 330 then (if y = 329 then some aM_329.1 else none) else (if y = 330 then some aM_330.1 else none))) else (if y < 333 then (if y < 332 then (if y = 331 then some aM_331.1 else none) else (if y = 332 then some aM_332.1 else none)) else (if y < 334 then (if y = 333 then some aM_333.1 else none) else (if y < 335 then (if y = 334 then some aM_334.1 else none) else (if y = 335 then some aM_335.1 else none)))))) else (if y < 344 then (if y < 340 then (if y < 338 then (if y < 337 then (if y = 336 then some aM_336.1 else none) else (if y = 337 then some aM_337.1 else none)) else (if y < 339 then (if y = 338 then some aM_338.1 else none) else (if y = 339 then some aM_339.1 else none))) else (if y < 342 then (if y < 341 then (if y = 340 then some aM_340.1 else none) else (if y = 341 then some aM_341.1 else none)) else (if y < 343 then (if y = 342 then some aM_342.1 else none) else (if y = 343 then some aM_343.1 else none)))) else (if y < 348 then (if y < 346 then (if y < 345 then (if y = 344 then some aM_344.1 else none) else (if y = 345 then some aM_345.1 else none)) else (if y < 347 then (if y = 346 then some aM_346.1 else none) else (if y = 347 then some aM_347.1 else none))) else (if y < 350 then (if y < 349 then (if y = 348 then some aM_348.1 else none) else (if y = 349 then some aM_349.1 else none)) else (if y < 351 then (if y = 350 then some aM_350.1 else none) else (if y < 352 then (if y = 351 then some aM_351.1 else none) else (if y = 352 then some aM_352.1 else none))))))) else (if y < 370 then (if y < 361 then (if y < 357 then (if y < 355 then (if y < 354 then (if y = 353 then some aM_353.1 else none) else (if y = 354 then some aM_354.1 else none)) else (if y < 356 then (if y = 355 then some aM_355.1 else none) else (if y = 356 then some aM_356.1 else none))) else (if y < 359 then (if y < 358 then (if y = 357 then some aM_357.1 else none) else (if y = 358 then some aM_358.1 else none)) else (if y < 360 then (if y = 359 then some aM_359.1 else none) else (if y = 360 then some aM_360.1 else none)))) else (if y < 365 then (if y < 363 then (if y < 362 then (if y = 361 then some aM_361.1 else none) else (if y = 362 then some aM_362.1 else none)) else (if y < 364 then (if y = 363 then some aM_363.1 else none) else (if y = 364 then some aM_364.1 else none))) else (if y < 367 then (if y < 366 then (if y = 365 then some aM_365.1 else none) else (if y = 366 then some aM_366.1 else none)) else (if y < 368 then (if y = 367 then some aM_367.1 else none) else (if y < 369 then (if y = 368 then some aM_368.1 else none) else (if y = 369 then some aM_369.1 else none)))))) else (if y < 378 then (if y < 374 then (if y < 372 then (if y < 371 then (if y = 370 then some aM_370.1 else none) else (if y = 371 then some aM_371.1 else none)) else (if y < 373 then (if y = 372 then some aM_372.1 else none) else (if y = 373 then some aM_373.1 else none))) else (if y < 376 then (if y < 375 then (if y = 374 then some aM_374.1 else none) else (if y = 375 then some aM_375.1 else none)) else (if y < 377 then (if y = 376 then some aM_376.1 else none) else (if y = 377 then some aM_377.1 else none)))) else (if y < 382 then (if y < 380 then (if y < 379 then (if y = 378 then some aM_378.1 else none) else (if y = 379 then some aM_379.1 else none)) else (if y < 381 then (if y = 380 then some aM_380.1 else none) else (if y = 381 then some aM_381.1 else none))) else (if y < 384 then (if y < 383 then (if y = 382 then some aM_382.1 else none) else (if y = 383 then some aM_383.1 else none)) else (if y < 385 then (if y = 384 then some aM_384.1 else none) else (if y < 386 then (if y = 385 then some aM_385.1 else none) else (if y = 386 then some aM_386.1 else none)))))))) else (if y < 436 then (if y < 404 then (if y < 395 then (if y < 391 then (if y < 389 then (if y < 388 then (if y = 387 then some aM_387.1 else none) else (if y = 388 then some aM_388.1 else none)) else (if y < 390 then (if y = 389 then some aM_389.1 else none) else (if y = 390 then some aM_390.1 else none))) else (if y < 393 then (if y < 392 then (if y = 391 then some aM_391.1 else none) else (if y = 392 then some aM_392.1 else none)) else (if y < 394 then (if y = 393 then some aM_393.1 else none) else (if y = 394 then some aM_394.1 else none)))) else (if y < 399 then (if y < 397 then (if y < 396 then (if y = 395 then some aM_395.1 else none) else (if y = 396 then some aM_396.1 else none)) else (if y < 398 then (if y = 397 then some aM_397.1 else none) else (if y = 398 then some aM_398.1 else none))) else (if y < 401 then (if y < 400 then (if y = 399 then some aM_399.1 else none) else (if y = 400 then some aM_400.1 else none)) else (if y < 402 then (if y = 401 then some aM_401.1 else none) else (if y < 403 then (if y = 402 then some aM_402.1 else none) else (if y = 403 then some aM_403.1 else none)))))) else (if y < 416 then (if y < 408 then (if y < 406 then (if y < 405 then (if y = 404 then some aM_404.1 else none) else (if y = 405 then some aM_405.1 else none)) else (if y < 407 then (if y = 406 then some aM_406.1 else none) else (if y = 407 then some aM_407.1 else none))) else (if y < 410 then (if y < 409 then (if y = 408 then some aM_408.1 else none) else (if y = 409 then some aM_409.1 else none)) else (if y < 411 then (if y = 410 then some aM_410.1 else none) else (if y = 411 then some aM_411.1 else none)))) else (if y < 429 then (if y < 418 then (if y < 417 then (if y = 416 then some aM_416.1 else none) else (if y = 417 then some aM_417.1 else none)) else (if y < 419 then (if y = 418 then some aM_418.1 else none) else (if y = 419 then some aM_419.1 else none))) else (if y < 433 then (if y < 432 then (if y = 429 then some aM_429.1 else none) else (if y = 432 then some aM_432.1 else none)) else (if y < 434 then (if y = 433 then some aM_433.1 else none) else (if y < 435 then (if y = 434 then some aM_434.1 else none) else (if y = 435 then some aM_435.1 else none))))))) else (if y < 459 then (if y < 444 then (if y < 440 then (if y < 438 then (if y < 437 then (if y = 436 then some aM_436.1 else none) else (if y = 437 then some aM_437.1 else none)) else (if y < 439 then (if y = 438 then some aM_438.1 else none) else (if y = 439 then some aM_439.1 else none))) else (if y < 442 then (if y < 441 then (if y = 440 then some aM_440.1 else none) else (if y = 441 then some aM_441.1 else none)) else (if y < 443 then (if y = 442 then some aM_442.1 else none) else (if y = 443 then some aM_443.1 else none)))) else (if y < 448 then (if y < 446 then (if y < 445 then (if y = 444 then some aM_444.1 else none) else (if y = 445 then some aM_445.1 else none)) else (if y < 447 then (if y = 446 then some aM_446.1 else none) else (if y = 447 then some aM_447.1 else none))) else (if y < 450 then (if y < 449 then (if y = 448 then some aM_448.1 else none) else (if y = 449 then some aM_449.1 else none)) else (if y < 452 then (if y = 450 then some aM_450.1 else none) else (if y < 457 then (if y = 452 then some aM_452.1 else none) else (if y = 457 then some aM_457.1 else none)))))) else (if y < 552 then (if y < 484 then (if y < 461 then (if y < 460 then (if y = 459 then some aM_459.1 else none) else (if y = 460 then some aM_460.1 else none)) else (if y < 483 then (if y = 461 then some aM_461.1 else none) else (if y = 483 then some aM_483.1 else none))) else (if y < 550 then (if y < 485 then (if y = 484 then some aM_484.1 else none) else (if y = 485 then some aM_485.1 else none)) else (if y < 551 then (if y = 550 then some aM_550.1 else none) else (if y = 551 then some aM_551.1 else none)))) else (if y < 557 then (if y < 555 then (if y < 553 then (if y = 552 then some aM_552.1 else none) else (if y = 553 then some aM_553.1 else none)) else (if y < 556 then (if y = 555 then some aM_555.1 else none) else (if y = 556 then some aM_556.1 else none))) else (if y < 559 then (if y < 558 then (if y = 557 then some aM_557.1 else none) else (if y = 558 then some aM_558.1 else none)) else (if y < 560 then (if y = 559 then some aM_559.1 else none) else (if y < 561 then (if y = 560 then some aM_560.1 else none) else (if y = 561 then some aM_561.1 else none))))))))))
theorem aMt_s : sy_mm aMt (aP (fun i => i)) := by
  intro y
  show sy_P2 (aMt y) y
  unfold aMt
  exact (sx_ite (p := fun q => sy_P2 q y) (sx_ite (p := fun q => sy_P2 q y) (sx_ite (p := fun q => sy_P2 q y) (sx_ite (p := fun q => sy_P2 q y) (sx_ite (p := fun q => sy_P2 q y) (sx_ite (p := fun q => sy_P2 q y) (sx_ite (p := fun q => sy_P2 q y) (sx_ite (p := fun q => sy_P2 q y) (aMv_0 y) (aMv_1 y)) (sx_ite (p := fun q => sy_P2 q y) (aMv_2 y) (aMv_3 y))) (sx_ite (p := fun q => sy_P2 q y) (sx_ite (p := fun q => sy_P2 q y) (aMv_4 y) (aMv_5 y)) (sx_ite (p := fun q => sy_P2 q y) (aMv_6 y) (aMv_7 y)))) (sx_ite (p := fun q => sy_P2 q y) (sx_ite (p := fun q => sy_P2 q y) (sx_ite (p := fun q => sy_P2 q y) (aMv_8 y) (aMv_9 y)) (sx_ite (p := fun q => sy_P2 q y) (aMv_10 y) (aMv_11 y))) (sx_ite (p := fun q => sy_P2 q y) (sx_ite (p := fun q => sy_P2 q y) (aMv_12 y) (aMv_13 y)) (sx_ite (p := fun q => sy_P2 q y) (aMv_14 y) (sx_ite (p := fun q => sy_P2 q y) (aMv_15 y) (aMv_16 y)))))) (sx_ite (p := fun q => sy_P2 q y) (sx_ite (p := fun q => sy_P2 q y) (sx_ite (p := fun q => sy_P2 q y) (sx_ite (p := fun q => sy_P2 q y) (aMv_17 y) (aMv_18 y)) (sx_ite (p := fun q => sy_P2 q y) (aMv_19 y) (aMv_20 y))) (sx_ite (p := fun q => sy_P2 q y) (sx_ite (p := fun q => sy_P2 q y) (aMv_21 y) (aMv_22 y)) (sx_ite (p := fun q => sy_P2 q y) (aMv_23 y) (aMv_24 y)))) (sx_ite (p := fun q => sy_P2 q y) (sx_ite (p := fun q => sy_P2 q y) (sx_ite (p := fun q => sy_P2 q y) (aMv_25 y) (aMv_26 y)) (sx_ite (p := fun q => sy_P2 q y) (aMv_27 y) (aMv_28 y))) (sx_ite (p := fun q => sy_P2 q y) (sx_ite (p := fun q => sy_P2 q y) (aMv_29 y) (aMv_30 y)) (sx_ite (p := fun q => sy_P2 q y) (aMv_31 y) (sx_ite (p := fun q => sy_P2 q y) (aMv_32 y) (aMv_33 y))))))) (sx_ite (p := fun q => sy_P2 q y) (sx_ite (p := fun q => sy_P2 q y) (sx_ite (p := fun q => sy_P2 q y) (sx_ite (p := fun q => sy_P2 q y) (sx_ite (p := fun q => sy_P2 q y) (aMv_34 y) (aMv_35 y)) (sx_ite (p := fun q => sy_P2 q y) (aMv_36 y) (aMv_37 y))) (sx_ite (p := fun q => sy_P2 q y) (sx_ite (p := fun q => sy_P2 q y) (aMv_38 y) (aMv_39 y)) (sx_ite (p := fun q => sy_P2 q y) (aMv_40 y) (aMv_41 y)))) (sx_ite (p := fun q => sy_P2 q y) (sx_ite (p := fun q => sy_P2 q y) (sx_ite (p := fun q => sy_P2 q y) (aMv_42 y) (aMv_43 y)) (sx_ite (p := fun q => sy_P2 q y) (aMv_44 y) (aMv_45 y))) (sx_ite (p := fun q => sy_P2 q y) (sx_ite (p := fun q => sy_P2 q y) (aMv_46 y) (aMv_47 y)) (sx_ite (p := fun q => sy_P2 q y) (aMv_48 y) (sx_ite (p := fun q => sy_P2 q y) (aMv_49 y) (aMv_50 y)))))) (sx_ite (p := fun q => sy_P2 q y) (sx_ite (p := fun q => sy_P2 q y) (sx_ite (p := fun q => sy_P2 q y) (sx_ite (p := fun q => sy_P2 q y) (aMv_51 y) (aMv_52 y)) (sx_ite (p := fun q => sy_P2 q y) (aMv_53 y) (aMv_54 y))) (sx_ite (p := fun q => sy_P2 q y) (sx_ite (p := fun q => sy_P2 q y) (aMv_55 y) (aMv_56 y)) (sx_ite (p := fun q => sy_P2 q y) (aMv_61 y) (aMv_62 y)))) (sx_ite (p := fun q => sy_P2 q y) (sx_ite (p := fun q => sy_P2 q y) (sx_ite (p := fun q => sy_P2 q y) (aMv_63 y) (aMv_64 y)) (sx_ite (p := fun q => sy_P2 q y) (aMv_65 y) (aMv_66 y))) (sx_ite (p := fun q => sy_P2 q y) (sx_ite (p := fun q => sy_P2 q y) (aMv_67 y) (aMv_68 y)) (sx_ite (p := fun q => sy_P2 q y) (aMv_86 y) (sx_ite (p := fun q => sy_P2 q y) (aMv_87 y) (aMv_88 y)))))))) (sx_ite (p := fun q => sy_P2 q y) (sx_ite (p := fun q => sy_P2 q y) (sx_ite (p := fun q => sy_P2 q y) (sx_ite (p := fun q => sy_P2 q y) (sx_ite (p := fun q => sy_P2 q y) (sx_ite (p := fun q => sy_P2 q y) (aMv_89 y) (aMv_90 y)) (sx_ite (p := fun q => sy_P2 q y) (aMv_91 y) (aMv_94 y))) (sx_ite (p := fun q => sy_P2 q y) (sx_ite (p := fun q => sy_P2 q y) (aMv_95 y) (aMv_96 y)) (sx_ite (p := fun q => sy_P2 q y) (aMv_111 y) (aMv_113 y)))) (sx_ite (p := fun q => sy_P2 q y) (sx_ite (p := fun q => sy_P2 q y) (sx_ite (p := fun q => sy_P2 q y) (aMv_114 y) (aMv_115 y)) (sx_ite (p := fun q => sy_P2 q y) (aMv_116 y) (aMv_117 y))) (sx_ite (p := fun q => sy_P2 q y) (sx_ite (p := fun q => sy_P2 q y) (aMv_120 y) (aMv_122 y)) (sx_ite (p := fun q => sy_P2 q y) (aMv_123 y) (sx_ite (p := fun q => sy_P2 q y) (aMv_125 y) (aMv_126 y)))))) (sx_ite (p := fun q => sy_P2 q y) (sx_ite (p := fun q => sy_P2 q y) (sx_ite (p := fun q => sy_P2 q y) (sx_ite (p := fun q => sy_P2 q y) (aMv_127 y) (aMv_128 y)) (sx_ite (p := fun q => sy_P2 q y) (aMv_131 y) (aMv_133 y))) (sx_ite (p := fun q => sy_P2 q y) (sx_ite (p := fun q => sy_P2 q y) (aMv_135 y) (aMv_136 y)) (sx_ite (p := fun q => sy_P2 q y) (aMv_143 y) (aMv_144 y)))) (sx_ite (p := fun q => sy_P2 q y) (sx_ite (p := fun q => sy_P2 q y) (sx_ite (p := fun q => sy_P2 q y) (aMv_149 y) (aMv_152 y)) (sx_ite (p := fun q => sy_P2 q y) (aMv_160 y) (aMv_161 y))) (sx_ite (p := fun q => sy_P2 q y) (sx_ite (p := fun q => sy_P2 q y) (aMv_167 y) (aMv_168 y)) (sx_ite (p := fun q => sy_P2 q y) (aMv_169 y) (sx_ite (p := fun q => sy_P2 q y) (aMv_171 y) (aMv_195 y))))))) (sx_ite (p := fun q => sy_P2 q y) (sx_ite (p := fun q => sy_P2 q y) (sx_ite (p := fun q => sy_P2 q y) (sx_ite (p := fun q => sy_P2 q y) (sx_ite (p := fun q => sy_P2 q y) (aMv_258 y) (aMv_259 y)) (sx_ite (p := fun q => sy_P2 q y) (aMv_260 y) (aMv_261 y))) (sx_ite (p := fun q => sy_P2 q y) (sx_ite (p := fun q => sy_P2 q y) (aMv_263 y) (aMv_265 y)) (sx_ite (p := fun q => sy_P2 q y) (aMv_266 y) (aMv_267 y)))) (sx_ite (p := fun q => sy_P2 q y) (sx_ite (p := fun q => sy_P2 q y) (sx_ite (p := fun q => sy_P2 q y) (aMv_268 y) (aMv_269 y)) (sx_ite (p := fun q => sy_P2 q y) (aMv_270 y) (aMv_272 y))) (sx_ite (p := fun q => sy_P2 q y) (sx_ite (p := fun q => sy_P2 q y) (aMv_273 y) (aMv_275 y)) (sx_ite (p := fun q => sy_P2 q y) (aMv_280 y) (sx_ite (p := fun q => sy_P2 q y) (aMv_281 y) (aMv_283 y)))))) (sx_ite (p := fun q => sy_P2 q y) (sx_ite (p := fun q => sy_P2 q y) (sx_ite (p := fun q => sy_P2 q y) (sx_ite (p := fun q => sy_P2 q y) (aMv_285 y) (aMv_289 y)) (sx_ite (p := fun q => sy_P2 q y) (aMv_293 y) (aMv_295 y))) (sx_ite (p := fun q => sy_P2 q y) (sx_ite (p := fun q => sy_P2 q y) (aMv_298 y) (aMv_302 y)) (sx_ite (p := fun q => sy_P2 q y) (aMv_304 y) (aMv_306 y)))) (sx_ite (p := fun q => sy_P2 q y) (sx_ite (p := fun q => sy_P2 q y) (sx_ite (p := fun q => sy_P2 q y) (aMv_307 y) (aMv_308 y)) (sx_ite (p := fun q => sy_P2 q y) (aMv_309 y) (aMv_311 y))) (sx_ite (p := fun q => sy_P2 q y) (sx_ite (p := fun q => sy_P2 q y) (aMv_313 y) (aMv_314 y)) (sx_ite (p := fun q => sy_P2 q y) (aMv_316 y) (sx_ite (p := fun q => sy_P2 q y) (aMv_317 y) (aMv_318 y))))))))) (sx_ite (p := fun q => sy_P2 q y) (sx_ite (p := fun q => sy_P2 q y) (sx_ite (p := fun q => sy_P2 q y) (sx_ite (p := fun q => sy_P2 q y) (sx_ite (p := fun q => sy_P2 q y) (sx_ite (p := fun q => sy_P2 q y) (sx_ite (p := fun q => sy_P2 q y) (aMv_319 y) (aMv_320 y)) (sx_ite (p := fun q => sy_P2 q y) (aMv_321 y) (aMv_322 y))) (sx_ite (p := fun q => sy_P2 q y) (sx_ite (p := fun q => sy_P2 q y) (aMv_323 y) (aMv_324 y)) (sx_ite (p := fun q => sy_P2 q y) (aMv_325 y) (aMv_326 y)))) (sx_ite (p := fun q => sy_P2 q y) (sx_ite (p := fun q => sy_P2 q y) (sx_ite (p := fun q => sy_P2 q y) (aMv_327 y) (aMv_328 y)) (sx_ite (p := fun q => sy_P2 q y) (aMv_329 y) (aMv_330 y))) (sx_ite (p := fun q => sy_P2 q y) (sx_ite (p := fun q => sy_P2 q y) (aMv_331 y) (aMv_332 y)) (sx_ite (p := fun q => sy_P2 q y) (aMv_333 y) (sx_ite (p := fun q => sy_P2 q y) (aMv_334 y) (aMv_335 y)))))) (sx_ite (p := fun q => sy_P2 q y) (sx_ite (p := fun q => sy_P2 q y) (sx_ite (p := fun q => sy_P2 q y) (sx_ite (p := fun q => sy_P2 q y) (aMv_336 y) (aMv_337 y)) (sx_ite (p := fun q => sy_P2 q y) (aMv_338 y) (aMv_339 y))) (sx_ite (p := fun q => sy_P2 q y) (sx_ite (p := fun q => sy_P2 q y) (aMv_340 y) (aMv_341 y)) (sx_ite (p := fun q => sy_P2 q y) (aMv_342 y) (aMv_343 y)))) (sx_ite (p := fun q => sy_P2 q y) (sx_ite (p := fun q => sy_P2 q y) (sx_ite (p := fun q => sy_P2 q y) (aMv_344 y) (aMv_345 y)) (sx_ite (p := fun q => sy_P2 q y) (aMv_346 y) (aMv_347 y))) (sx_ite (p := fun q => sy_P2 q y) (sx_ite (p := fun q => sy_P2 q y) (aMv_348 y) (aMv_349 y)) (sx_ite (p := fun q => sy_P2 q y) (aMv_350 y) (sx_ite (p := fun q => sy_P2 q y) (aMv_351 y) (aMv_352 y))))))) (sx_ite (p := fun q => sy_P2 q y) (sx_ite (p := fun q => sy_P2 q y) (sx_ite (p := fun q => sy_P2 q y) (sx_ite (p := fun q => sy_P2 q y) (sx_ite (p := fun q => sy_P2 q y) (aMv_353 y) (aMv_354 y)) (sx_ite (p := fun q => sy_P2 q y) (aMv_355 y) (aMv_356 y))) (sx_ite (p := fun q => sy_P2 q y) (sx_ite (p := fun q => sy_P2 q y) (aMv_357 y) (aMv_358 y)) (sx_ite (p := fun q => sy_P2 q y) (aMv_359 y) (aMv_360 y)))) (sx_ite (p := fun q => sy_P2 q y) (sx_ite (p := fun q => sy_P2 q y) (sx_ite (p := fun q => sy_P2 q y) (aMv_361 y) (aMv_362 y)) (sx_ite (p := fun q => sy_P2 q y) (aMv_363 y) (aMv_364 y))) (sx_ite (p := fun q => sy_P2 q y) (sx_ite (p := fun q => sy_P2 q y) (aMv_365 y) (aMv_366 y)) (sx_ite (p := fun q => sy_P2 q y) (aMv_367 y) (sx_ite (p := fun q => sy_P2 q y) (aMv_368 y) (aMv_369 y)))))) (sx_ite (p := fun q => sy_P2 q y) (sx_ite (p := fun q => sy_P2 q y) (sx_ite (p := fun q => sy_P2 q y) (sx_ite (p := fun q => sy_P2 q y) (aMv_370 y) (aMv_371 y)) (sx_ite (p := fun q => sy_P2 q y) (aMv_372 y) (aMv_373 y))) (sx_ite (p := fun q => sy_P2 q y) (sx_ite (p := fun q => sy_P2 q y) (aMv_374 y) (aMv_375 y)) (sx_ite (p := fun q => sy_P2 q y) (aMv_376 y) (aMv_377 y)))) (sx_ite (p := fun q => sy_P2 q y) (sx_ite (p := fun q => sy_P2 q y) (sx_ite (p := fun q => sy_P2 q y) (aMv_378 y) (aMv_379 y)) (sx_ite (p := fun q => sy_P2 q y) (aMv_380 y) (aMv_381 y))) (sx_ite (p := fun q => sy_P2 q y) (sx_ite (p := fun q => sy_P2 q y) (aMv_382 y) (aMv_383 y)) (sx_ite (p := fun q => sy_P2 q y) (aMv_384 y) (sx_ite (p := fun q => sy_P2 q y) (aMv_385 y) (aMv_386 y)))))))) (sx_ite (p := fun q => sy_P2 q y) (sx_ite (p := fun q => sy_P2 q y) (sx_ite (p := fun q => sy_P2 q y) (sx_ite (p := fun q => sy_P2 q y) (sx_ite (p := fun q => sy_P2 q y) (sx_ite (p := fun q => sy_P2 q y) (aMv_387 y) (aMv_388 y)) (sx_ite (p := fun q => sy_P2 q y) (aMv_389 y) (aMv_390 y))) (sx_ite (p := fun q => sy_P2 q y) (sx_ite (p := fun q => sy_P2 q y) (aMv_391 y) (aMv_392 y)) (sx_ite (p := fun q => sy_P2 q y) (aMv_393 y) (aMv_394 y)))) (sx_ite (p := fun q => sy_P2 q y) (sx_ite (p := fun q => sy_P2 q y) (sx_ite (p := fun q => sy_P2 q y) (aMv_395 y) (aMv_396 y)) (sx_ite (p := fun q => sy_P2 q y) (aMv_397 y) (aMv_398 y))) (sx_ite (p := fun q => sy_P2 q y) (sx_ite (p := fun q => sy_P2 q y) (aMv_399 y) (aMv_400 y)) (sx_ite (p := fun q => sy_P2 q y) (aMv_401 y) (sx_ite (p := fun q => sy_P2 q y) (aMv_402 y) (aMv_403 y)))))) (sx_ite (p := fun q => sy_P2 q y) (sx_ite (p := fun q => sy_P2 q y) (sx_ite (p := fun q => sy_P2 q y) (sx_ite (p := fun q => sy_P2 q y) (aMv_404 y) (aMv_405 y)) (sx_ite (p := fun q => sy_P2 q y) (aMv_406 y) (aMv_407 y))) (sx_ite (p := fun q => sy_P2 q y) (sx_ite (p := fun q => sy_P2 q y) (aMv_408 y) (aMv_409 y)) (sx_ite (p := fun q => sy_P2 q y) (aMv_410 y) (aMv_411 y)))) (sx_ite (p := fun q => sy_P2 q y) (sx_ite (p := fun q => sy_P2 q y) (sx_ite (p := fun q => sy_P2 q y) (aMv_416 y) (aMv_417 y)) (sx_ite (p := fun q => sy_P2 q y) (aMv_418 y) (aMv_419 y))) (sx_ite (p := fun q => sy_P2 q y) (sx_ite (p := fun q => sy_P2 q y) (aMv_429 y) (aMv_432 y)) (sx_ite (p := fun q => sy_P2 q y) (aMv_433 y) (sx_ite (p := fun q => sy_P2 q y) (aMv_434 y) (aMv_435 y))))))) (sx_ite (p := fun q => sy_P2 q y) (sx_ite (p := fun q => sy_P2 q y) (sx_ite (p := fun q => sy_P2 q y) (sx_ite (p := fun q => sy_P2 q y) (sx_ite (p := fun q => sy_P2 q y) (aMv_436 y) (aMv_437 y)) (sx_ite (p := fun q => sy_P2 q y) (aMv_438 y) (aMv_439 y))) (sx_ite (p := fun q => sy_P2 q y) (sx_ite (p := fun q => sy_P2 q y) (aMv_440 y) (aMv_441 y)) (sx_ite (p := fun q => sy_P2 q y) (aMv_442 y) (aMv_443 y)))) (sx_ite (p := fun q => sy_P2 q y) (sx_ite (p := fun q => sy_P2 q y) (sx_ite (p := fun q => sy_P2 q y) (aMv_444 y) (aMv_445 y)) (sx_ite (p := fun q => sy_P2 q y) (aMv_446 y) (aMv_447 y))) (sx_ite (p := fun q => sy_P2 q y) (sx_ite (p := fun q => sy_P2 q y) (aMv_448 y) (aMv_449 y)) (sx_ite (p := fun q => sy_P2 q y) (aMv_450 y) (sx_ite (p := fun q => sy_P2 q y) (aMv_452 y) (aMv_457 y)))))) (sx_ite (p := fun q => sy_P2 q y) (sx_ite (p := fun q => sy_P2 q y) (sx_ite (p := fun q => sy_P2 q y) (sx_ite (p := fun q => sy_P2 q y) (aMv_459 y) (aMv_460 y)) (sx_ite (p := fun q => sy_P2 q y) (aMv_461 y) (aMv_483 y))) (sx_ite (p := fun q => sy_P2 q y) (sx_ite (p := fun q => sy_P2 q y) (aMv_484 y) (aMv_485 y)) (sx_ite (p := fun q => sy_P2 q y) (aMv_550 y) (aMv_551 y)))) (sx_ite (p := fun q => sy_P2 q y) (sx_ite (p := fun q => sy_P2 q y) (sx_ite (p := fun q => sy_P2 q y) (aMv_552 y) (aMv_553 y)) (sx_ite (p := fun q => sy_P2 q y) (aMv_555 y) (aMv_556 y))) (sx_ite (p := fun q => sy_P2 q y) (sx_ite (p := fun q => sy_P2 q y) (aMv_557 y) (aMv_558 y)) (sx_ite (p := fun q => sy_P2 q y) (aMv_559 y) (sx_ite (p := fun q => sy_P2 q y) (aMv_560 y) (aMv_561 y))))))))))
