/-! SZ: runs of the calls 0, 4, 9, 10, 11, 12, 66 -/
def zd_0_1 : List (List sz_D) := []
def zf_0_1 : Nat → Term := fun j => if j = 1 then .int 1 else .string "" j
set_option maxRecDepth 100000 in
theorem zw_0_1 : sz_wf (sz_at zd_0_1) (8 + 32 * zd_0_1.length) = true := by decide +kernel
theorem zn_0_1 : (List.range 7).all (fun j => sz_nm 8 (zf_0_1 j)) = true := by decide +kernel
def zc_0_1_0 : sx_G := ([(true, 1, .op2 .iand (.string "" 0) (.int 127), .int 0)], 561, 18, [(3, .int 0), (2, .index 64), (1, .index 0), (0, .arg 0)], [], [], sc_8_m, 229, 606934)
set_option maxRecDepth 100000 in
theorem zs_0_1_0 : (sz_ck aMt (aP (fun i => i)) aIns (sy_rt 7 zf_0_1) sx_fin0 zPW (sz_at zd_0_1) (fun _ => zz_bot) zz_fb 20000 [(0, 186), (4, 0)] zc_0_1_0).isSome = true := by decide +kernel
theorem zo_0_1 {E : sx_E} {RO : am_O} {sa : Nat → Nat} (H : zz_H zf_0_1 zd_0_1 RO sa E) : sx_Ok (aP (fun i => i)) RO sa E (sx_Q0 E) zc_0_1_0 := zz_end H zs_0_1_0
def zd_0_2 : List (List sz_D) := []
def zf_0_2 : Nat → Term := fun j => if j = 1 then .int 2 else .string "" j
set_option maxRecDepth 100000 in
theorem zw_0_2 : sz_wf (sz_at zd_0_2) (8 + 32 * zd_0_2.length) = true := by decide +kernel
theorem zn_0_2 : (List.range 7).all (fun j => sz_nm 8 (zf_0_2 j)) = true := by decide +kernel
def zc_0_2_0 : sx_G := ([(true, 1, .op2 .iand (.string "" 0) (.int 127), .int 0)], 561, 18, [(3, .int 0), (2, .index 64), (1, .index 0), (0, .arg 0)], [], [], sc_8_m, 229, 606934)
set_option maxRecDepth 100000 in
theorem zs_0_2_0 : (sz_ck aMt (aP (fun i => i)) aIns (sy_rt 7 zf_0_2) sx_fin0 zPW (sz_at zd_0_2) (fun _ => zz_bot) zz_fb 20000 [(0, 247), (4, 0)] zc_0_2_0).isSome = true := by decide +kernel
theorem zo_0_2 {E : sx_E} {RO : am_O} {sa : Nat → Nat} (H : zz_H zf_0_2 zd_0_2 RO sa E) : sx_Ok (aP (fun i => i)) RO sa E (sx_Q0 E) zc_0_2_0 := zz_end H zs_0_2_0
def zd_0_3 : List (List sz_D) := []
def zf_0_3 : Nat → Term := fun j => if j = 1 then .int 3 else .string "" j
set_option maxRecDepth 100000 in
theorem zw_0_3 : sz_wf (sz_at zd_0_3) (8 + 32 * zd_0_3.length) = true := by decide +kernel
theorem zn_0_3 : (List.range 7).all (fun j => sz_nm 8 (zf_0_3 j)) = true := by decide +kernel
def zc_0_3_0 : sx_G := ([(true, 1, .op2 .iand (.string "" 0) (.int 127), .int 0)], 561, 18, [(3, .int 0), (2, .index 64), (1, .index 0), (0, .arg 0)], [], [], sc_8_m, 229, 606934)
set_option maxRecDepth 100000 in
theorem zs_0_3_0 : (sz_ck aMt (aP (fun i => i)) aIns (sy_rt 7 zf_0_3) sx_fin0 zPW (sz_at zd_0_3) (fun _ => zz_bot) zz_fb 20000 [(0, 308), (4, 0)] zc_0_3_0).isSome = true := by decide +kernel
theorem zo_0_3 {E : sx_E} {RO : am_O} {sa : Nat → Nat} (H : zz_H zf_0_3 zd_0_3 RO sa E) : sx_Ok (aP (fun i => i)) RO sa E (sx_Q0 E) zc_0_3_0 := zz_end H zs_0_3_0
def zd_0_4 : List (List sz_D) := []
def zf_0_4 : Nat → Term := fun j => if j = 1 then .int 4 else .string "" j
set_option maxRecDepth 100000 in
theorem zw_0_4 : sz_wf (sz_at zd_0_4) (8 + 32 * zd_0_4.length) = true := by decide +kernel
theorem zn_0_4 : (List.range 7).all (fun j => sz_nm 8 (zf_0_4 j)) = true := by decide +kernel
def zc_0_4_0 : sx_G := ([(true, 1, .op2 .iand (.string "" 0) (.int 127), .int 0)], 561, 18, [(3, .int 0), (2, .index 64), (1, .index 0), (0, .arg 0)], [], [], sc_8_m, 229, 606934)
set_option maxRecDepth 100000 in
theorem zs_0_4_0 : (sz_ck aMt (aP (fun i => i)) aIns (sy_rt 7 zf_0_4) sx_fin0 zPW (sz_at zd_0_4) (fun _ => zz_bot) zz_fb 20000 [(0, 369), (4, 0)] zc_0_4_0).isSome = true := by decide +kernel
theorem zo_0_4 {E : sx_E} {RO : am_O} {sa : Nat → Nat} (H : zz_H zf_0_4 zd_0_4 RO sa E) : sx_Ok (aP (fun i => i)) RO sa E (sx_Q0 E) zc_0_4_0 := zz_end H zs_0_4_0
def zd_0_5 : List (List sz_D) := []
def zf_0_5 : Nat → Term := fun j => if j = 1 then .int 5 else .string "" j
set_option maxRecDepth 100000 in
theorem zw_0_5 : sz_wf (sz_at zd_0_5) (8 + 32 * zd_0_5.length) = true := by decide +kernel
theorem zn_0_5 : (List.range 7).all (fun j => sz_nm 8 (zf_0_5 j)) = true := by decide +kernel
def zc_0_5_0 : sx_G := ([(true, 1, .op2 .iand (.string "" 0) (.int 127), .int 0)], 561, 18, [(3, .int 0), (2, .index 64), (1, .index 0), (0, .arg 0)], [], [], sc_8_m, 229, 606934)
set_option maxRecDepth 100000 in
theorem zs_0_5_0 : (sz_ck aMt (aP (fun i => i)) aIns (sy_rt 7 zf_0_5) sx_fin0 zPW (sz_at zd_0_5) (fun _ => zz_bot) zz_fb 20000 [(0, 430), (4, 0)] zc_0_5_0).isSome = true := by decide +kernel
theorem zo_0_5 {E : sx_E} {RO : am_O} {sa : Nat → Nat} (H : zz_H zf_0_5 zd_0_5 RO sa E) : sx_Ok (aP (fun i => i)) RO sa E (sx_Q0 E) zc_0_5_0 := zz_end H zs_0_5_0
def zd_0_6 : List (List sz_D) := []
def zf_0_6 : Nat → Term := fun j => if j = 1 then .int 6 else .string "" j
set_option maxRecDepth 100000 in
theorem zw_0_6 : sz_wf (sz_at zd_0_6) (8 + 32 * zd_0_6.length) = true := by decide +kernel
theorem zn_0_6 : (List.range 7).all (fun j => sz_nm 8 (zf_0_6 j)) = true := by decide +kernel
def zc_0_6_0 : sx_G := ([(true, 1, .op2 .iand (.string "" 0) (.int 127), .int 0)], 561, 18, [(3, .int 0), (2, .index 64), (1, .index 0), (0, .arg 0)], [], [], sc_8_m, 229, 606934)
set_option maxRecDepth 100000 in
theorem zs_0_6_0 : (sz_ck aMt (aP (fun i => i)) aIns (sy_rt 7 zf_0_6) sx_fin0 zPW (sz_at zd_0_6) (fun _ => zz_bot) zz_fb 20000 [(0, 491), (4, 0)] zc_0_6_0).isSome = true := by decide +kernel
theorem zo_0_6 {E : sx_E} {RO : am_O} {sa : Nat → Nat} (H : zz_H zf_0_6 zd_0_6 RO sa E) : sx_Ok (aP (fun i => i)) RO sa E (sx_Q0 E) zc_0_6_0 := zz_end H zs_0_6_0
def zd_0_7 : List (List sz_D) := []
def zf_0_7 : Nat → Term := fun j => if j = 1 then .int 7 else .string "" j
set_option maxRecDepth 100000 in
theorem zw_0_7 : sz_wf (sz_at zd_0_7) (8 + 32 * zd_0_7.length) = true := by decide +kernel
theorem zn_0_7 : (List.range 7).all (fun j => sz_nm 8 (zf_0_7 j)) = true := by decide +kernel
def zc_0_7_0 : sx_G := ([(true, 1, .op2 .iand (.string "" 0) (.int 127), .int 0)], 561, 18, [(3, .int 0), (2, .index 64), (1, .index 0), (0, .arg 0)], [], [], sc_8_m, 229, 606934)
set_option maxRecDepth 100000 in
theorem zs_0_7_0 : (sz_ck aMt (aP (fun i => i)) aIns (sy_rt 7 zf_0_7) sx_fin0 zPW (sz_at zd_0_7) (fun _ => zz_bot) zz_fb 20000 [(0, 552), (4, 0)] zc_0_7_0).isSome = true := by decide +kernel
theorem zo_0_7 {E : sx_E} {RO : am_O} {sa : Nat → Nat} (H : zz_H zf_0_7 zd_0_7 RO sa E) : sx_Ok (aP (fun i => i)) RO sa E (sx_Q0 E) zc_0_7_0 := zz_end H zs_0_7_0
def zd_0_8 : List (List sz_D) := []
def zf_0_8 : Nat → Term := fun j => if j = 1 then .int 8 else .string "" j
set_option maxRecDepth 100000 in
theorem zw_0_8 : sz_wf (sz_at zd_0_8) (8 + 32 * zd_0_8.length) = true := by decide +kernel
theorem zn_0_8 : (List.range 7).all (fun j => sz_nm 8 (zf_0_8 j)) = true := by decide +kernel
def zc_0_8_0 : sx_G := ([(true, 1, .op2 .iand (.string "" 0) (.int 127), .int 0)], 561, 18, [(3, .int 0), (2, .index 64), (1, .index 0), (0, .arg 0)], [], [], sc_8_m, 229, 606934)
set_option maxRecDepth 100000 in
theorem zs_0_8_0 : (sz_ck aMt (aP (fun i => i)) aIns (sy_rt 7 zf_0_8) sx_fin0 zPW (sz_at zd_0_8) (fun _ => zz_bot) zz_fb 20000 [(0, 613), (4, 0)] zc_0_8_0).isSome = true := by decide +kernel
theorem zo_0_8 {E : sx_E} {RO : am_O} {sa : Nat → Nat} (H : zz_H zf_0_8 zd_0_8 RO sa E) : sx_Ok (aP (fun i => i)) RO sa E (sx_Q0 E) zc_0_8_0 := zz_end H zs_0_8_0
def zd_0_b : List (List sz_D) := []
def zf_0_b : Nat → Term := fun j => .string "" j
set_option maxRecDepth 100000 in
theorem zw_0_b : sz_wf (sz_at zd_0_b) (8 + 32 * zd_0_b.length) = true := by decide +kernel
theorem zn_0_b : (List.range 7).all (fun j => sz_nm 8 (zf_0_b j)) = true := by decide +kernel
def zc_0_b_0 : sx_G := ([(false, 1, .string "" 1, .int 8), (false, 1, .string "" 1, .int 7), (false, 1, .string "" 1, .int 6), (false, 1, .string "" 1, .int 5), (false, 1, .string "" 1, .int 4), (false, 1, .string "" 1, .int 3), (false, 1, .string "" 1, .int 2), (false, 1, .string "" 1, .int 1), (true, 1, .op2 .iand (.string "" 0) (.int 127), .int 0)], 561, 18, [(3, .int 0), (2, .index 64), (1, .index 0), (0, .arg 0)], [], [], sc_8_m, 229, 606934)
set_option maxRecDepth 100000 in
theorem zs_0_b_0 : (sz_ck aMt (aP (fun i => i)) aIns (sy_rt 7 zf_0_b) sx_fin0 zPW (sz_at zd_0_b) (fun _ => zz_bot) zz_fb 20000 [(0, 38), (2, 0), (0, 51), (4, 0), (0, 58), (4, 0)] zc_0_b_0).isSome = true := by decide +kernel
theorem zo_0_b {E : sx_E} {RO : am_O} {sa : Nat → Nat} (H : zz_H zf_0_b zd_0_b RO sa E) : sx_Ok (aP (fun i => i)) RO sa E (sx_Q0 E) zc_0_b_0 := zz_end H zs_0_b_0
def zd_4_a : List (List sz_D) := []
def zf_4_a : Nat → Term := fun j => .string "" j
set_option maxRecDepth 100000 in
theorem zw_4_a : sz_wf (sz_at zd_4_a) (8 + 32 * zd_4_a.length) = true := by decide +kernel
theorem zn_4_a : (List.range 7).all (fun j => sz_nm 8 (zf_4_a j)) = true := by decide +kernel
def zc_4_a_0 : sx_G := ([(true, 1, .op2 .iand (.string "" 0) (.int 127), .int 4)], 561, 18, [(3, .int 0), (2, .index 64), (1, .index 0), (0, .arg 0)], [], [], sc_8_m, 229, 606934)
set_option maxRecDepth 100000 in
theorem zs_4_a_0 : (sz_ck aMt (aP (fun i => i)) aIns (sy_rt 7 zf_4_a) sx_fin0 zPW (sz_at zd_4_a) (fun _ => zz_bot) zz_fb 20000 [(0, 20), (2, 0), (0, 34), (4, 0), (0, 3), (2, 0), (0, 38), (4, 0), (0, 7), (2, 0), (3, 0), (0, 61), (4, 0)] zc_4_a_0).isSome = true := by decide +kernel
theorem zo_4_a {E : sx_E} {RO : am_O} {sa : Nat → Nat} (H : zz_H zf_4_a zd_4_a RO sa E) : sx_Ok (aP (fun i => i)) RO sa E (sx_Q0 E) zc_4_a_0 := zz_end H zs_4_a_0
def zd_9_1 : List (List sz_D) := []
def zf_9_1 : Nat → Term := fun j => if j = 1 then .int 1 else if j = 6 then .int 0 else .string "" j
set_option maxRecDepth 100000 in
theorem zw_9_1 : sz_wf (sz_at zd_9_1) (8 + 32 * zd_9_1.length) = true := by decide +kernel
theorem zn_9_1 : (List.range 7).all (fun j => sz_nm 8 (zf_9_1 j)) = true := by decide +kernel
def zc_9_1_0 : sx_G := ([(true, 1, .op2 .iand (.string "" 0) (.int 127), .int 9)], 561, 18, [(3, .int 0), (2, .index 64), (1, .index 0), (0, .arg 0)], [], [], sc_8_m, 229, 606934)
set_option maxRecDepth 100000 in
theorem zs_9_1_0 : (sz_ck aMt (aP (fun i => i)) aIns (sy_rt 7 zf_9_1) sx_fin0 zPW (sz_at zd_9_1) (fun _ => zz_bot) zz_fb 20000 [(0, 235), (4, 0)] zc_9_1_0).isSome = true := by decide +kernel
theorem zo_9_1 {E : sx_E} {RO : am_O} {sa : Nat → Nat} (H : zz_H zf_9_1 zd_9_1 RO sa E) : sx_Ok (aP (fun i => i)) RO sa E (sx_Q0 E) zc_9_1_0 := zz_end H zs_9_1_0
def zd_9_2 : List (List sz_D) := []
def zf_9_2 : Nat → Term := fun j => if j = 1 then .int 2 else if j = 6 then .int 0 else .string "" j
set_option maxRecDepth 100000 in
theorem zw_9_2 : sz_wf (sz_at zd_9_2) (8 + 32 * zd_9_2.length) = true := by decide +kernel
theorem zn_9_2 : (List.range 7).all (fun j => sz_nm 8 (zf_9_2 j)) = true := by decide +kernel
def zc_9_2_0 : sx_G := ([(true, 1, .op2 .iand (.string "" 0) (.int 127), .int 9)], 561, 18, [(3, .int 0), (2, .index 64), (1, .index 0), (0, .arg 0)], [], [], sc_8_m, 229, 606934)
set_option maxRecDepth 100000 in
theorem zs_9_2_0 : (sz_ck aMt (aP (fun i => i)) aIns (sy_rt 7 zf_9_2) sx_fin0 zPW (sz_at zd_9_2) (fun _ => zz_bot) zz_fb 20000 [(0, 237), (4, 0)] zc_9_2_0).isSome = true := by decide +kernel
theorem zo_9_2 {E : sx_E} {RO : am_O} {sa : Nat → Nat} (H : zz_H zf_9_2 zd_9_2 RO sa E) : sx_Ok (aP (fun i => i)) RO sa E (sx_Q0 E) zc_9_2_0 := zz_end H zs_9_2_0
def zd_9_3 : List (List sz_D) := []
def zf_9_3 : Nat → Term := fun j => if j = 1 then .int 3 else if j = 6 then .int 0 else .string "" j
set_option maxRecDepth 100000 in
theorem zw_9_3 : sz_wf (sz_at zd_9_3) (8 + 32 * zd_9_3.length) = true := by decide +kernel
theorem zn_9_3 : (List.range 7).all (fun j => sz_nm 8 (zf_9_3 j)) = true := by decide +kernel
def zc_9_3_0 : sx_G := ([(true, 1, .op2 .iand (.string "" 0) (.int 127), .int 9)], 561, 18, [(3, .int 0), (2, .index 64), (1, .index 0), (0, .arg 0)], [], [], sc_8_m, 229, 606934)
set_option maxRecDepth 100000 in
theorem zs_9_3_0 : (sz_ck aMt (aP (fun i => i)) aIns (sy_rt 7 zf_9_3) sx_fin0 zPW (sz_at zd_9_3) (fun _ => zz_bot) zz_fb 20000 [(0, 235), (4, 0)] zc_9_3_0).isSome = true := by decide +kernel
theorem zo_9_3 {E : sx_E} {RO : am_O} {sa : Nat → Nat} (H : zz_H zf_9_3 zd_9_3 RO sa E) : sx_Ok (aP (fun i => i)) RO sa E (sx_Q0 E) zc_9_3_0 := zz_end H zs_9_3_0
def zd_9_d : List (List sz_D) := []
def zf_9_d : Nat → Term := fun j => .string "" j
set_option maxRecDepth 100000 in
theorem zw_9_d : sz_wf (sz_at zd_9_d) (8 + 32 * zd_9_d.length) = true := by decide +kernel
theorem zn_9_d : (List.range 7).all (fun j => sz_nm 8 (zf_9_d j)) = true := by decide +kernel
def zc_9_d_0 : sx_G := ([(false, 1, .string "" 6, .int 0), (true, 1, .op2 .iand (.string "" 0) (.int 127), .int 9)], 561, 18, [(3, .int 0), (2, .index 64), (1, .index 0), (0, .arg 0)], [], [], sc_8_m, 229, 606934)
set_option maxRecDepth 100000 in
theorem zs_9_d_0 : (sz_ck aMt (aP (fun i => i)) aIns (sy_rt 7 zf_9_d) sx_fin0 zPW (sz_at zd_9_d) (fun _ => zz_bot) zz_fb 20000 [(0, 60), (2, 0), (0, 73), (4, 0), (0, 3), (2, 0), (0, 77), (4, 0), (0, 2), (2, 0), (0, 92), (4, 0), (0, 101), (4, 0)] zc_9_d_0).isSome = true := by decide +kernel
theorem zo_9_d {E : sx_E} {RO : am_O} {sa : Nat → Nat} (H : zz_H zf_9_d zd_9_d RO sa E) : sx_Ok (aP (fun i => i)) RO sa E (sx_Q0 E) zc_9_d_0 := zz_end H zs_9_d_0
def zd_9_b : List (List sz_D) := []
def zf_9_b : Nat → Term := fun j => .string "" j
set_option maxRecDepth 100000 in
theorem zw_9_b : sz_wf (sz_at zd_9_b) (8 + 32 * zd_9_b.length) = true := by decide +kernel
theorem zn_9_b : (List.range 7).all (fun j => sz_nm 8 (zf_9_b j)) = true := by decide +kernel
def zc_9_b_0 : sx_G := ([(false, 1, .string "" 1, .int 3), (false, 1, .string "" 1, .int 2), (false, 1, .string "" 1, .int 1), (true, 1, .op2 .iand (.string "" 0) (.int 127), .int 9)], 561, 18, [(3, .int 0), (2, .index 64), (1, .index 0), (0, .arg 0)], [], [], sc_8_m, 229, 606934)
set_option maxRecDepth 100000 in
theorem zs_9_b_0 : (sz_ck aMt (aP (fun i => i)) aIns (sy_rt 7 zf_9_b) sx_fin0 zPW (sz_at zd_9_b) (fun _ => zz_bot) zz_fb 20000 [(0, 60), (2, 0), (0, 73), (4, 0), (0, 80), (4, 0)] zc_9_b_0).isSome = true := by decide +kernel
theorem zo_9_b {E : sx_E} {RO : am_O} {sa : Nat → Nat} (H : zz_H zf_9_b zd_9_b RO sa E) : sx_Ok (aP (fun i => i)) RO sa E (sx_Q0 E) zc_9_b_0 := zz_end H zs_9_b_0
def zd_10_1_0 : List sz_D := [(1, .int 7, .string "" 2, .int 2147483647)]
def zd_10_1 : List (List sz_D) := [zd_10_1_0]
def zf_10_1 : Nat → Term := fun j => if j = 1 then .int 1 else .string "" j
set_option maxRecDepth 100000 in
theorem zw_10_1 : sz_wf (sz_at zd_10_1) (8 + 32 * zd_10_1.length) = true := by decide +kernel
theorem zn_10_1 : (List.range 7).all (fun j => sz_nm 8 (zf_10_1 j)) = true := by decide +kernel
def zc_10_1_0 : sx_G := ([(true, 1, .op2 .iand (.string "" 0) (.int 127), .int 10)], 561, 18, [(3, .int 0), (2, .index 64), (1, .index 0), (0, .arg 0)], [], [], sc_8_m, 229, 606934)
set_option maxRecDepth 100000 in
theorem zs_10_1_0 : (sz_ck aMt (aP (fun i => i)) aIns (sy_rt 7 zf_10_1) sx_fin0 zPW (sz_at zd_10_1) (fun _ => zz_bot) zz_fb 20000 [(0, 31), (2, 0), (0, 46), (4, 0), (0, 32), (5, 8), (0, 52), (5, 8), (0, 13), (4, 0)] zc_10_1_0).isSome = true := by decide +kernel
theorem zo_10_1 {E : sx_E} {RO : am_O} {sa : Nat → Nat} (H : zz_H zf_10_1 zd_10_1 RO sa E) : sx_Ok (aP (fun i => i)) RO sa E (sx_Q0 E) zc_10_1_0 := zz_end H zs_10_1_0
def zd_10_2_0 : List sz_D := [(1, .int 2, .string "" 2, .int 2147483629)]
def zd_10_2 : List (List sz_D) := [zd_10_2_0]
def zf_10_2 : Nat → Term := fun j => if j = 1 then .int 2 else .string "" j
set_option maxRecDepth 100000 in
theorem zw_10_2 : sz_wf (sz_at zd_10_2) (8 + 32 * zd_10_2.length) = true := by decide +kernel
theorem zn_10_2 : (List.range 7).all (fun j => sz_nm 8 (zf_10_2 j)) = true := by decide +kernel
def zc_10_2_0 : sx_G := ([(true, 1, .op2 .iand (.string "" 0) (.int 127), .int 10)], 561, 18, [(3, .int 0), (2, .index 64), (1, .index 0), (0, .arg 0)], [], [], sc_8_m, 229, 606934)
set_option maxRecDepth 100000 in
theorem zs_10_2_0 : (sz_ck aMt (aP (fun i => i)) aIns (sy_rt 7 zf_10_2) sx_fin0 zPW (sz_at zd_10_2) (fun _ => zz_bot) zz_fb 20000 [(0, 31), (2, 0), (0, 46), (4, 0), (0, 32), (5, 8), (0, 54), (5, 8), (0, 13), (4, 0)] zc_10_2_0).isSome = true := by decide +kernel
theorem zo_10_2 {E : sx_E} {RO : am_O} {sa : Nat → Nat} (H : zz_H zf_10_2 zd_10_2 RO sa E) : sx_Ok (aP (fun i => i)) RO sa E (sx_Q0 E) zc_10_2_0 := zz_end H zs_10_2_0
def zd_10_3_0 : List sz_D := [(1, .int 2, .string "" 2, .int 2147483587)]
def zd_10_3 : List (List sz_D) := [zd_10_3_0]
def zf_10_3 : Nat → Term := fun j => if j = 1 then .int 3 else .string "" j
set_option maxRecDepth 100000 in
theorem zw_10_3 : sz_wf (sz_at zd_10_3) (8 + 32 * zd_10_3.length) = true := by decide +kernel
theorem zn_10_3 : (List.range 7).all (fun j => sz_nm 8 (zf_10_3 j)) = true := by decide +kernel
def zc_10_3_0 : sx_G := ([(true, 1, .op2 .iand (.string "" 0) (.int 127), .int 10)], 561, 18, [(3, .int 0), (2, .index 64), (1, .index 0), (0, .arg 0)], [], [], sc_8_m, 229, 606934)
set_option maxRecDepth 100000 in
theorem zs_10_3_0 : (sz_ck aMt (aP (fun i => i)) aIns (sy_rt 7 zf_10_3) sx_fin0 zPW (sz_at zd_10_3) (fun _ => zz_bot) zz_fb 20000 [(0, 31), (2, 0), (0, 46), (4, 0), (0, 32), (5, 8), (0, 53), (5, 8), (0, 13), (4, 0)] zc_10_3_0).isSome = true := by decide +kernel
theorem zo_10_3 {E : sx_E} {RO : am_O} {sa : Nat → Nat} (H : zz_H zf_10_3 zd_10_3 RO sa E) : sx_Ok (aP (fun i => i)) RO sa E (sx_Q0 E) zc_10_3_0 := zz_end H zs_10_3_0
def zd_10_b : List (List sz_D) := []
def zf_10_b : Nat → Term := fun j => .string "" j
set_option maxRecDepth 100000 in
theorem zw_10_b : sz_wf (sz_at zd_10_b) (8 + 32 * zd_10_b.length) = true := by decide +kernel
theorem zn_10_b : (List.range 7).all (fun j => sz_nm 8 (zf_10_b j)) = true := by decide +kernel
def zc_10_b_0 : sx_G := ([(false, 1, .string "" 1, .int 3), (false, 1, .string "" 1, .int 2), (false, 1, .string "" 1, .int 1), (true, 1, .op2 .iand (.string "" 0) (.int 127), .int 10)], 561, 18, [(3, .int 0), (2, .index 64), (1, .index 0), (0, .arg 0)], [], [], sc_8_m, 229, 606934)
set_option maxRecDepth 100000 in
theorem zs_10_b_0 : (sz_ck aMt (aP (fun i => i)) aIns (sy_rt 7 zf_10_b) sx_fin0 zPW (sz_at zd_10_b) (fun _ => zz_bot) zz_fb 20000 [(0, 26), (2, 0), (0, 39), (4, 0), (0, 46), (4, 0)] zc_10_b_0).isSome = true := by decide +kernel
theorem zo_10_b {E : sx_E} {RO : am_O} {sa : Nat → Nat} (H : zz_H zf_10_b zd_10_b RO sa E) : sx_Ok (aP (fun i => i)) RO sa E (sx_Q0 E) zc_10_b_0 := zz_end H zs_10_b_0
def zd_11_1_0 : List sz_D := [(1, .string "" 3, .string "" 2, .int 2147483647)]
def zd_11_1 : List (List sz_D) := [zd_11_1_0]
def zf_11_1 : Nat → Term := fun j => if j = 1 then .int 1 else .string "" j
set_option maxRecDepth 100000 in
theorem zw_11_1 : sz_wf (sz_at zd_11_1) (8 + 32 * zd_11_1.length) = true := by decide +kernel
theorem zn_11_1 : (List.range 7).all (fun j => sz_nm 8 (zf_11_1 j)) = true := by decide +kernel
def zc_11_1_0 : sx_G := ([(true, 1, .op2 .iand (.string "" 0) (.int 127), .int 11)], 561, 18, [(3, .int 0), (2, .index 64), (1, .index 0), (0, .arg 0)], [], [], sc_8_m, 229, 606934)
set_option maxRecDepth 100000 in
theorem zs_11_1_0 : (sz_ck aMt (aP (fun i => i)) aIns (sy_rt 7 zf_11_1) sx_fin0 zPW (sz_at zd_11_1) (fun _ => zz_bot) zz_fb 20000 [(0, 36), (2, 0), (0, 52), (4, 0), (0, 28), (2, 0), (0, 83), (4, 0), (0, 5), (2, 0), (0, 87), (4, 0), (0, 6), (5, 8), (0, 3), (2, 0), (0, 79), (5, 8), (0, 31), (4, 0), (0, 5), (2, 0), (0, 79), (5, 8), (0, 35), (4, 0), (0, 79), (5, 8), (0, 38), (4, 0)] zc_11_1_0).isSome = true := by decide +kernel
theorem zo_11_1 {E : sx_E} {RO : am_O} {sa : Nat → Nat} (H : zz_H zf_11_1 zd_11_1 RO sa E) : sx_Ok (aP (fun i => i)) RO sa E (sx_Q0 E) zc_11_1_0 := zz_end H zs_11_1_0
def zd_11_2_0 : List sz_D := [(1, .string "" 3, .string "" 2, .int 2147483629)]
def zd_11_2 : List (List sz_D) := [zd_11_2_0]
def zf_11_2 : Nat → Term := fun j => if j = 1 then .int 2 else .string "" j
set_option maxRecDepth 100000 in
theorem zw_11_2 : sz_wf (sz_at zd_11_2) (8 + 32 * zd_11_2.length) = true := by decide +kernel
theorem zn_11_2 : (List.range 7).all (fun j => sz_nm 8 (zf_11_2 j)) = true := by decide +kernel
def zc_11_2_0 : sx_G := ([(true, 1, .op2 .iand (.string "" 0) (.int 127), .int 11)], 561, 18, [(3, .int 0), (2, .index 64), (1, .index 0), (0, .arg 0)], [], [], sc_8_m, 229, 606934)
set_option maxRecDepth 100000 in
theorem zs_11_2_0 : (sz_ck aMt (aP (fun i => i)) aIns (sy_rt 7 zf_11_2) sx_fin0 zPW (sz_at zd_11_2) (fun _ => zz_bot) zz_fb 20000 [(0, 36), (2, 0), (0, 52), (4, 0), (0, 28), (2, 0), (0, 86), (4, 0), (0, 5), (2, 0), (0, 90), (4, 0), (0, 6), (5, 8), (0, 3), (2, 0), (0, 82), (5, 8), (0, 31), (4, 0), (0, 5), (2, 0), (0, 82), (5, 8), (0, 35), (4, 0), (0, 82), (5, 8), (0, 38), (4, 0)] zc_11_2_0).isSome = true := by decide +kernel
theorem zo_11_2 {E : sx_E} {RO : am_O} {sa : Nat → Nat} (H : zz_H zf_11_2 zd_11_2 RO sa E) : sx_Ok (aP (fun i => i)) RO sa E (sx_Q0 E) zc_11_2_0 := zz_end H zs_11_2_0
def zd_11_3_0 : List sz_D := [(1, .string "" 3, .string "" 2, .int 2147483587)]
def zd_11_3 : List (List sz_D) := [zd_11_3_0]
def zf_11_3 : Nat → Term := fun j => if j = 1 then .int 3 else .string "" j
set_option maxRecDepth 100000 in
theorem zw_11_3 : sz_wf (sz_at zd_11_3) (8 + 32 * zd_11_3.length) = true := by decide +kernel
theorem zn_11_3 : (List.range 7).all (fun j => sz_nm 8 (zf_11_3 j)) = true := by decide +kernel
def zc_11_3_0 : sx_G := ([(true, 1, .op2 .iand (.string "" 0) (.int 127), .int 11)], 561, 18, [(3, .int 0), (2, .index 64), (1, .index 0), (0, .arg 0)], [], [], sc_8_m, 229, 606934)
set_option maxRecDepth 100000 in
theorem zs_11_3_0 : (sz_ck aMt (aP (fun i => i)) aIns (sy_rt 7 zf_11_3) sx_fin0 zPW (sz_at zd_11_3) (fun _ => zz_bot) zz_fb 20000 [(0, 36), (2, 0), (0, 52), (4, 0), (0, 28), (2, 0), (0, 85), (4, 0), (0, 5), (2, 0), (0, 89), (4, 0), (0, 6), (5, 8), (0, 3), (2, 0), (0, 81), (5, 8), (0, 31), (4, 0), (0, 5), (2, 0), (0, 81), (5, 8), (0, 35), (4, 0), (0, 81), (5, 8), (0, 38), (4, 0)] zc_11_3_0).isSome = true := by decide +kernel
theorem zo_11_3 {E : sx_E} {RO : am_O} {sa : Nat → Nat} (H : zz_H zf_11_3 zd_11_3 RO sa E) : sx_Ok (aP (fun i => i)) RO sa E (sx_Q0 E) zc_11_3_0 := zz_end H zs_11_3_0
def zd_11_b : List (List sz_D) := []
def zf_11_b : Nat → Term := fun j => .string "" j
set_option maxRecDepth 100000 in
theorem zw_11_b : sz_wf (sz_at zd_11_b) (8 + 32 * zd_11_b.length) = true := by decide +kernel
theorem zn_11_b : (List.range 7).all (fun j => sz_nm 8 (zf_11_b j)) = true := by decide +kernel
def zc_11_b_0 : sx_G := ([(false, 1, .string "" 1, .int 3), (false, 1, .string "" 1, .int 2), (false, 1, .string "" 1, .int 1), (true, 1, .op2 .iand (.string "" 0) (.int 127), .int 11)], 561, 18, [(3, .int 0), (2, .index 64), (1, .index 0), (0, .arg 0)], [], [], sc_8_m, 229, 606934)
set_option maxRecDepth 100000 in
theorem zs_11_b_0 : (sz_ck aMt (aP (fun i => i)) aIns (sy_rt 7 zf_11_b) sx_fin0 zPW (sz_at zd_11_b) (fun _ => zz_bot) zz_fb 20000 [(0, 31), (2, 0), (0, 45), (4, 0), (0, 52), (4, 0)] zc_11_b_0).isSome = true := by decide +kernel
theorem zo_11_b {E : sx_E} {RO : am_O} {sa : Nat → Nat} (H : zz_H zf_11_b zd_11_b RO sa E) : sx_Ok (aP (fun i => i)) RO sa E (sx_Q0 E) zc_11_b_0 := zz_end H zs_11_b_0
def zd_12_a_0 : List sz_D := [(1, .int 4, .string "" 1, .int 2147483579)]
def zd_12_a : List (List sz_D) := [zd_12_a_0]
def zf_12_a : Nat → Term := fun j => .string "" j
set_option maxRecDepth 100000 in
theorem zw_12_a : sz_wf (sz_at zd_12_a) (8 + 32 * zd_12_a.length) = true := by decide +kernel
theorem zn_12_a : (List.range 7).all (fun j => sz_nm 8 (zf_12_a j)) = true := by decide +kernel
def zc_12_a_0 : sx_G := ([(true, 1, .op2 .iand (.string "" 0) (.int 127), .int 12)], 561, 18, [(3, .int 0), (2, .index 64), (1, .index 0), (0, .arg 0)], [], [], sc_8_m, 229, 606934)
set_option maxRecDepth 100000 in
theorem zs_12_a_0 : (sz_ck aMt (aP (fun i => i)) aIns (sy_rt 7 zf_12_a) sx_fin0 zPW (sz_at zd_12_a) (fun _ => zz_bot) zz_fb 20000 [(0, 23), (2, 0), (0, 40), (4, 0), (0, 3), (2, 0), (0, 14), (5, 8), (0, 36), (5, 8), (0, 13), (4, 0), (0, 44), (4, 0)] zc_12_a_0).isSome = true := by decide +kernel
theorem zo_12_a {E : sx_E} {RO : am_O} {sa : Nat → Nat} (H : zz_H zf_12_a zd_12_a RO sa E) : sx_Ok (aP (fun i => i)) RO sa E (sx_Q0 E) zc_12_a_0 := zz_end H zs_12_a_0
def zd_66_1 : List (List sz_D) := []
def zf_66_1 : Nat → Term := fun j => .string "" j
set_option maxRecDepth 100000 in
theorem zw_66_1 : sz_wf (sz_at zd_66_1) (8 + 32 * zd_66_1.length) = true := by decide +kernel
theorem zn_66_1 : (List.range 7).all (fun j => sz_nm 8 (zf_66_1 j)) = true := by decide +kernel
def zc_66_1_0 : sx_G := ([(true, 0, .string "" 2, .int 1), (true, 1, .op2 .iand (.string "" 0) (.int 127), .int 66)], 561, 18, [(3, .int 0), (2, .index 64), (1, .index 0), (0, .arg 0)], [], [], sc_8_m, 229, 606934)
set_option maxRecDepth 100000 in
theorem zs_66_1_0 : (sz_ck aMt (aP (fun i => i)) aIns (sy_rt 7 zf_66_1) sx_fin0 zPW (sz_at zd_66_1) (fun _ => zz_bot) zz_fb 20000 [(0, 133), (4, 0)] zc_66_1_0).isSome = true := by decide +kernel
theorem zo_66_1 {E : sx_E} {RO : am_O} {sa : Nat → Nat} (H : zz_H zf_66_1 zd_66_1 RO sa E) : sx_Ok (aP (fun i => i)) RO sa E (sx_Q0 E) zc_66_1_0 := zz_end H zs_66_1_0
def zd_66_2 : List (List sz_D) := []
def zf_66_2 : Nat → Term := fun j => .string "" j
set_option maxRecDepth 100000 in
theorem zw_66_2 : sz_wf (sz_at zd_66_2) (8 + 32 * zd_66_2.length) = true := by decide +kernel
theorem zn_66_2 : (List.range 7).all (fun j => sz_nm 8 (zf_66_2 j)) = true := by decide +kernel
def zc_66_2_0 : sx_G := ([(true, 0, .int 64, .string "" 2), (true, 1, .op2 .iand (.string "" 0) (.int 127), .int 66)], 561, 18, [(3, .int 0), (2, .index 64), (1, .index 0), (0, .arg 0)], [], [], sc_8_m, 229, 606934)
set_option maxRecDepth 100000 in
theorem zs_66_2_0 : (sz_ck aMt (aP (fun i => i)) aIns (sy_rt 7 zf_66_2) sx_fin0 zPW (sz_at zd_66_2) (fun _ => zz_bot) zz_fb 20000 [(0, 140), (4, 0)] zc_66_2_0).isSome = true := by decide +kernel
theorem zo_66_2 {E : sx_E} {RO : am_O} {sa : Nat → Nat} (H : zz_H zf_66_2 zd_66_2 RO sa E) : sx_Ok (aP (fun i => i)) RO sa E (sx_Q0 E) zc_66_2_0 := zz_end H zs_66_2_0
def zd_66_3 : List (List sz_D) := []
def zf_66_3 : Nat → Term := fun j => .string "" j
set_option maxRecDepth 100000 in
theorem zw_66_3 : sz_wf (sz_at zd_66_3) (8 + 32 * zd_66_3.length) = true := by decide +kernel
theorem zn_66_3 : (List.range 7).all (fun j => sz_nm 8 (zf_66_3 j)) = true := by decide +kernel
def zc_66_3_0 : sx_G := ([(true, 0, .string "" 1, .int 1), (true, 1, .op2 .iand (.string "" 0) (.int 127), .int 66)], 561, 18, [(3, .int 0), (2, .index 64), (1, .index 0), (0, .arg 0)], [], [], sc_8_m, 229, 606934)
set_option maxRecDepth 100000 in
theorem zs_66_3_0 : (sz_ck aMt (aP (fun i => i)) aIns (sy_rt 7 zf_66_3) sx_fin0 zPW (sz_at zd_66_3) (fun _ => zz_bot) zz_fb 20000 [(0, 60), (2, 0), (0, 73), (4, 0), (0, 3), (2, 0), (0, 77), (4, 0), (0, 94), (4, 0)] zc_66_3_0).isSome = true := by decide +kernel
theorem zo_66_3 {E : sx_E} {RO : am_O} {sa : Nat → Nat} (H : zz_H zf_66_3 zd_66_3 RO sa E) : sx_Ok (aP (fun i => i)) RO sa E (sx_Q0 E) zc_66_3_0 := zz_end H zs_66_3_0
def zd_66_4 : List (List sz_D) := []
def zf_66_4 : Nat → Term := fun j => .string "" j
set_option maxRecDepth 100000 in
theorem zw_66_4 : sz_wf (sz_at zd_66_4) (8 + 32 * zd_66_4.length) = true := by decide +kernel
theorem zn_66_4 : (List.range 7).all (fun j => sz_nm 8 (zf_66_4 j)) = true := by decide +kernel
def zc_66_4_0 : sx_G := ([(true, 0, .string "" 2, .string "" 1), (true, 1, .op2 .iand (.string "" 0) (.int 127), .int 66)], 561, 18, [(3, .int 0), (2, .index 64), (1, .index 0), (0, .arg 0)], [], [], sc_8_m, 229, 606934)
set_option maxRecDepth 100000 in
theorem zs_66_4_0 : (sz_ck aMt (aP (fun i => i)) aIns (sy_rt 7 zf_66_4) sx_fin0 zPW (sz_at zd_66_4) (fun _ => zz_bot) zz_fb 20000 [(0, 60), (2, 0), (0, 73), (4, 0), (0, 3), (2, 0), (0, 77), (4, 0), (0, 3), (2, 0), (0, 91), (4, 0), (0, 98), (4, 0)] zc_66_4_0).isSome = true := by decide +kernel
theorem zo_66_4 {E : sx_E} {RO : am_O} {sa : Nat → Nat} (H : zz_H zf_66_4 zd_66_4 RO sa E) : sx_Ok (aP (fun i => i)) RO sa E (sx_Q0 E) zc_66_4_0 := zz_end H zs_66_4_0
def zd_66_5 : List (List sz_D) := []
def zf_66_5 : Nat → Term := fun j => if j = 1 then .string "" 2 else .string "" j
set_option maxRecDepth 100000 in
theorem zw_66_5 : sz_wf (sz_at zd_66_5) (8 + 32 * zd_66_5.length) = true := by decide +kernel
theorem zn_66_5 : (List.range 7).all (fun j => sz_nm 8 (zf_66_5 j)) = true := by decide +kernel
def zc_66_5_0 : sx_G := ([(false, 0, .int 64, .string "" 2), (false, 0, .string "" 2, .int 1), (true, 1, .op2 .iand (.string "" 0) (.int 127), .int 66)], 561, 18, [(3, .int 0), (2, .index 64), (1, .index 0), (0, .arg 0)], [], [], sc_8_m, 229, 606934)
set_option maxRecDepth 100000 in
theorem zs_66_5_0 : (sz_ck aMt (aP (fun i => i)) aIns (sy_rt 7 zf_66_5) sx_fin0 zPW (sz_at zd_66_5) (fun _ => zz_bot) zz_fb 20000 [(0, 69), (2, 0), (3, 0), (0, 65), (2, 0), (0, 4), (2, 0), (0, 147), (4, 0), (0, 145), (4, 0), (3, 0)] zc_66_5_0).isSome = true := by decide +kernel
theorem zo_66_5 {E : sx_E} {RO : am_O} {sa : Nat → Nat} (H : zz_H zf_66_5 zd_66_5 RO sa E) : sx_Ok (aP (fun i => i)) RO sa E (sx_Q0 E) zc_66_5_0 := zz_end H zs_66_5_0
