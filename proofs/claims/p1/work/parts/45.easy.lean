/-! SY: the script's ints by terms; the calls that end soon -/
def sy_rt (L : Nat) (f : Nat → Term) : sx_R := fun k => match k with
  | 0 => some (L, f)
  | 1 => some (3, fun j => .int (aV_0 j))
  | 2 => some (3, fun j => .int (aV_1 j))
  | 3 => some (8, fun j => .int (aV_2 j))
  | _ => none
theorem sy_rt_s {E : sx_E} {RO : am_O} {sa : Nat → Nat} {L : Nat} {f : Nat → Term} (h : sx_ok E (sx_rt0 L) RO sa) (hf : ∀ j, j < L → (sx_d E (f j)).1 = E.2.2 j) : sx_ok E (sy_rt L f) RO sa := by
  refine ⟨fun k n g hk => ?_, h.2⟩
  match k, hk with
  | 0, hk =>
    cases hk
    obtain ⟨h1, f0, h2, h3⟩ := h.1 0 L (fun j => .string "" j) rfl
    exact ⟨h1, f0, h2, fun j hj => (h3 j hj).trans (hf j hj).symm⟩
  | 1, hk =>
    cases hk
    exact h.1 1 _ _ rfl
  | 2, hk =>
    cases hk
    exact h.1 2 _ _ rfl
  | 3, hk =>
    cases hk
    exact h.1 3 _ _ rfl
  | k + 4, hk => cases hk
theorem sy_known {P : am_P} {RO : am_O} {sa : Nat → Nat} {E : sx_E} {Q : am_Q} {c : sx_G} (q : sx_Q) (hq : sx_h E q) (h : sx_Ok P RO sa E Q (sx_ask c q.1 q.2)) : sx_Ok P RO sa E Q c := by
  obtain ⟨cs, y, pc, lv, st, fs, Ms, n, sl⟩ := c
  intro hn hc
  refine h hn (fun p hp => ?_)
  rcases List.mem_cons.mp hp with rfl | hp
  · exact hq
  · exact hc p hp
def sy_x0 : Term := .op2 .iand (.string "" 0) (.int 127)
def sy_c8 (c : Int32) : sx_G := sx_ask sc_8 true (1, sy_x0, .int c)
set_option maxRecDepth 100000 in
theorem sr_d : sy_run aMt (aP (fun i => i)) aIns (sx_rt0 7) sx_fin0 3000 (sx_ask sc_8 false (0, sy_x0, .int 67)) = true := by decide +kernel
set_option maxRecDepth 100000 in
theorem sr_L0 : sy_run aMt (aP (fun i => i)) aIns (sx_rt0 0) sx_fin0 3000 sc_8 = true := by decide +kernel
set_option maxRecDepth 100000 in
theorem sr_L1 : sy_run aMt (aP (fun i => i)) aIns (sx_rt0 1) sx_fin0 3000 sc_8 = true := by decide +kernel
set_option maxRecDepth 100000 in
theorem sr_L2 : sy_run aMt (aP (fun i => i)) aIns (sx_rt0 2) sx_fin0 3000 sc_8 = true := by decide +kernel
set_option maxRecDepth 100000 in
theorem sr_L3 : sy_run aMt (aP (fun i => i)) aIns (sx_rt0 3) sx_fin0 3000 sc_8 = true := by decide +kernel
set_option maxRecDepth 100000 in
theorem sr_L4 : sy_run aMt (aP (fun i => i)) aIns (sx_rt0 4) sx_fin0 3000 sc_8 = true := by decide +kernel
set_option maxRecDepth 100000 in
theorem sr_L5 : sy_run aMt (aP (fun i => i)) aIns (sx_rt0 5) sx_fin0 3000 sc_8 = true := by decide +kernel
set_option maxRecDepth 100000 in
theorem sr_L6 : sy_run aMt (aP (fun i => i)) aIns (sx_rt0 6) sx_fin0 3000 sc_8 = true := by decide +kernel
set_option maxRecDepth 100000 in
theorem sr_1 : sy_run aMt (aP (fun i => i)) aIns (sx_rt0 7) sx_fin0 3000 (sy_c8 1) = true := by decide +kernel
set_option maxRecDepth 100000 in
theorem sr_2 : sy_run aMt (aP (fun i => i)) aIns (sx_rt0 7) sx_fin0 3000 (sy_c8 2) = true := by decide +kernel
set_option maxRecDepth 100000 in
theorem sr_3 : sy_run aMt (aP (fun i => i)) aIns (sx_rt0 7) sx_fin0 3000 (sy_c8 3) = true := by decide +kernel
set_option maxRecDepth 100000 in
theorem sr_15 : sy_run aMt (aP (fun i => i)) aIns (sx_rt0 7) sx_fin0 3000 (sy_c8 15) = true := by decide +kernel
set_option maxRecDepth 100000 in
theorem sr_17 : sy_run aMt (aP (fun i => i)) aIns (sx_rt0 7) sx_fin0 3000 (sy_c8 17) = true := by decide +kernel
set_option maxRecDepth 100000 in
theorem sr_18 : sy_run aMt (aP (fun i => i)) aIns (sx_rt0 7) sx_fin0 3000 (sy_c8 18) = true := by decide +kernel
set_option maxRecDepth 100000 in
theorem sr_19 : sy_run aMt (aP (fun i => i)) aIns (sx_rt0 7) sx_fin0 3000 (sy_c8 19) = true := by decide +kernel
set_option maxRecDepth 100000 in
theorem sr_20 : sy_run aMt (aP (fun i => i)) aIns (sx_rt0 7) sx_fin0 3000 (sy_c8 20) = true := by decide +kernel
set_option maxRecDepth 100000 in
theorem sr_21 : sy_run aMt (aP (fun i => i)) aIns (sx_rt0 7) sx_fin0 3000 (sy_c8 21) = true := by decide +kernel
set_option maxRecDepth 100000 in
theorem sr_22 : sy_run aMt (aP (fun i => i)) aIns (sx_rt0 7) sx_fin0 3000 (sy_c8 22) = true := by decide +kernel
set_option maxRecDepth 100000 in
theorem sr_23 : sy_run aMt (aP (fun i => i)) aIns (sx_rt0 7) sx_fin0 3000 (sy_c8 23) = true := by decide +kernel
set_option maxRecDepth 100000 in
theorem sr_24 : sy_run aMt (aP (fun i => i)) aIns (sx_rt0 7) sx_fin0 3000 (sy_c8 24) = true := by decide +kernel
set_option maxRecDepth 100000 in
theorem sr_25 : sy_run aMt (aP (fun i => i)) aIns (sx_rt0 7) sx_fin0 3000 (sy_c8 25) = true := by decide +kernel
set_option maxRecDepth 100000 in
theorem sr_26 : sy_run aMt (aP (fun i => i)) aIns (sx_rt0 7) sx_fin0 3000 (sy_c8 26) = true := by decide +kernel
set_option maxRecDepth 100000 in
theorem sr_27 : sy_run aMt (aP (fun i => i)) aIns (sx_rt0 7) sx_fin0 3000 (sy_c8 27) = true := by decide +kernel
set_option maxRecDepth 100000 in
theorem sr_28 : sy_run aMt (aP (fun i => i)) aIns (sx_rt0 7) sx_fin0 3000 (sy_c8 28) = true := by decide +kernel
set_option maxRecDepth 100000 in
theorem sr_29 : sy_run aMt (aP (fun i => i)) aIns (sx_rt0 7) sx_fin0 3000 (sy_c8 29) = true := by decide +kernel
set_option maxRecDepth 100000 in
theorem sr_30 : sy_run aMt (aP (fun i => i)) aIns (sx_rt0 7) sx_fin0 3000 (sy_c8 30) = true := by decide +kernel
set_option maxRecDepth 100000 in
theorem sr_31 : sy_run aMt (aP (fun i => i)) aIns (sx_rt0 7) sx_fin0 3000 (sy_c8 31) = true := by decide +kernel
set_option maxRecDepth 100000 in
theorem sr_32 : sy_run aMt (aP (fun i => i)) aIns (sx_rt0 7) sx_fin0 3000 (sy_c8 32) = true := by decide +kernel
set_option maxRecDepth 100000 in
theorem sr_33 : sy_run aMt (aP (fun i => i)) aIns (sx_rt0 7) sx_fin0 3000 (sy_c8 33) = true := by decide +kernel
set_option maxRecDepth 100000 in
theorem sr_34 : sy_run aMt (aP (fun i => i)) aIns (sx_rt0 7) sx_fin0 3000 (sy_c8 34) = true := by decide +kernel
set_option maxRecDepth 100000 in
theorem sr_35 : sy_run aMt (aP (fun i => i)) aIns (sx_rt0 7) sx_fin0 3000 (sy_c8 35) = true := by decide +kernel
set_option maxRecDepth 100000 in
theorem sr_36 : sy_run aMt (aP (fun i => i)) aIns (sx_rt0 7) sx_fin0 3000 (sy_c8 36) = true := by decide +kernel
set_option maxRecDepth 100000 in
theorem sr_37 : sy_run aMt (aP (fun i => i)) aIns (sx_rt0 7) sx_fin0 3000 (sy_c8 37) = true := by decide +kernel
set_option maxRecDepth 100000 in
theorem sr_38 : sy_run aMt (aP (fun i => i)) aIns (sx_rt0 7) sx_fin0 3000 (sy_c8 38) = true := by decide +kernel
set_option maxRecDepth 100000 in
theorem sr_39 : sy_run aMt (aP (fun i => i)) aIns (sx_rt0 7) sx_fin0 3000 (sy_c8 39) = true := by decide +kernel
set_option maxRecDepth 100000 in
theorem sr_40 : sy_run aMt (aP (fun i => i)) aIns (sx_rt0 7) sx_fin0 3000 (sy_c8 40) = true := by decide +kernel
set_option maxRecDepth 100000 in
theorem sr_41 : sy_run aMt (aP (fun i => i)) aIns (sx_rt0 7) sx_fin0 3000 (sy_c8 41) = true := by decide +kernel
set_option maxRecDepth 100000 in
theorem sr_42 : sy_run aMt (aP (fun i => i)) aIns (sx_rt0 7) sx_fin0 3000 (sy_c8 42) = true := by decide +kernel
set_option maxRecDepth 100000 in
theorem sr_43 : sy_run aMt (aP (fun i => i)) aIns (sx_rt0 7) sx_fin0 3000 (sy_c8 43) = true := by decide +kernel
set_option maxRecDepth 100000 in
theorem sr_44 : sy_run aMt (aP (fun i => i)) aIns (sx_rt0 7) sx_fin0 3000 (sy_c8 44) = true := by decide +kernel
set_option maxRecDepth 100000 in
theorem sr_45 : sy_run aMt (aP (fun i => i)) aIns (sx_rt0 7) sx_fin0 3000 (sy_c8 45) = true := by decide +kernel
set_option maxRecDepth 100000 in
theorem sr_46 : sy_run aMt (aP (fun i => i)) aIns (sx_rt0 7) sx_fin0 3000 (sy_c8 46) = true := by decide +kernel
set_option maxRecDepth 100000 in
theorem sr_47 : sy_run aMt (aP (fun i => i)) aIns (sx_rt0 7) sx_fin0 3000 (sy_c8 47) = true := by decide +kernel
set_option maxRecDepth 100000 in
theorem sr_48 : sy_run aMt (aP (fun i => i)) aIns (sx_rt0 7) sx_fin0 3000 (sy_c8 48) = true := by decide +kernel
set_option maxRecDepth 100000 in
theorem sr_49 : sy_run aMt (aP (fun i => i)) aIns (sx_rt0 7) sx_fin0 3000 (sy_c8 49) = true := by decide +kernel
set_option maxRecDepth 100000 in
theorem sr_50 : sy_run aMt (aP (fun i => i)) aIns (sx_rt0 7) sx_fin0 3000 (sy_c8 50) = true := by decide +kernel
set_option maxRecDepth 100000 in
theorem sr_51 : sy_run aMt (aP (fun i => i)) aIns (sx_rt0 7) sx_fin0 3000 (sy_c8 51) = true := by decide +kernel
set_option maxRecDepth 100000 in
theorem sr_52 : sy_run aMt (aP (fun i => i)) aIns (sx_rt0 7) sx_fin0 3000 (sy_c8 52) = true := by decide +kernel
set_option maxRecDepth 100000 in
theorem sr_53 : sy_run aMt (aP (fun i => i)) aIns (sx_rt0 7) sx_fin0 3000 (sy_c8 53) = true := by decide +kernel
set_option maxRecDepth 100000 in
theorem sr_54 : sy_run aMt (aP (fun i => i)) aIns (sx_rt0 7) sx_fin0 3000 (sy_c8 54) = true := by decide +kernel
set_option maxRecDepth 100000 in
theorem sr_55 : sy_run aMt (aP (fun i => i)) aIns (sx_rt0 7) sx_fin0 3000 (sy_c8 55) = true := by decide +kernel
set_option maxRecDepth 100000 in
theorem sr_56 : sy_run aMt (aP (fun i => i)) aIns (sx_rt0 7) sx_fin0 3000 (sy_c8 56) = true := by decide +kernel
set_option maxRecDepth 100000 in
theorem sr_57 : sy_run aMt (aP (fun i => i)) aIns (sx_rt0 7) sx_fin0 3000 (sy_c8 57) = true := by decide +kernel
set_option maxRecDepth 100000 in
theorem sr_58 : sy_run aMt (aP (fun i => i)) aIns (sx_rt0 7) sx_fin0 3000 (sy_c8 58) = true := by decide +kernel
set_option maxRecDepth 100000 in
theorem sr_59 : sy_run aMt (aP (fun i => i)) aIns (sx_rt0 7) sx_fin0 3000 (sy_c8 59) = true := by decide +kernel
set_option maxRecDepth 100000 in
theorem sr_60 : sy_run aMt (aP (fun i => i)) aIns (sx_rt0 7) sx_fin0 3000 (sy_c8 60) = true := by decide +kernel
set_option maxRecDepth 100000 in
theorem sr_61 : sy_run aMt (aP (fun i => i)) aIns (sx_rt0 7) sx_fin0 3000 (sy_c8 61) = true := by decide +kernel
set_option maxRecDepth 100000 in
theorem sr_62 : sy_run aMt (aP (fun i => i)) aIns (sx_rt0 7) sx_fin0 3000 (sy_c8 62) = true := by decide +kernel
set_option maxRecDepth 100000 in
theorem sr_63 : sy_run aMt (aP (fun i => i)) aIns (sx_rt0 7) sx_fin0 3000 (sy_c8 63) = true := by decide +kernel
set_option maxRecDepth 100000 in
theorem sr_64 : sy_run aMt (aP (fun i => i)) aIns (sx_rt0 7) sx_fin0 3000 (sy_c8 64) = true := by decide +kernel
