/-! the kinds of the reference (a try) -/
/-! SX: instructions of the program, checked -/
abbrev sx_IL : Type := List (Nat × Instr × Nat)
theorem sx_ite {α : Type} {p : α → Prop} {c : Prop} [Decidable c] {a b : α} (ha : p a) (hb : p b) : p (if c then a else b) := by
  split
  · exact ha
  · exact hb
def sx_iOk (cc : ByteArray) (l : sx_IL) : Prop := ∀ q ∈ l, decode cc q.1 = .ok q.2
theorem sx_iN (cc : ByteArray) : sx_iOk cc [] := fun q hq => by cases hq
theorem sx_iC {cc : ByteArray} {pc n : Nat} {i : Instr} {l : sx_IL} (h : decode cc pc = .ok (i, n)) (g : sx_iOk cc l) : sx_iOk cc ((pc, i, n) :: l) := by
  intro q hq
  rcases List.mem_cons.mp hq with rfl | hq
  · exact h
  · exact g q hq
def sx_iB (cc : ByteArray) (l : sx_IL) : Bool := l.all (fun q => decide (decode cc q.1 = .ok q.2))
theorem sx_iB_s {cc : ByteArray} {l : sx_IL} (h : sx_iB cc l = true) : sx_iOk cc l := fun q hq => of_decide_eq_true (List.all_eq_true.mp h q hq)
def sx_iF (l : sx_IL) (pc : Nat) : Option (Instr × Nat) := (l.find? (fun q => q.1 == pc)).map (fun q => q.2)
theorem sx_iF_s {cc : ByteArray} {l : sx_IL} (h : sx_iOk cc l) {pc : Nat} {r : Instr × Nat} (e : sx_iF l pc = some r) : decode cc pc = .ok r := by
  unfold sx_iF at e
  obtain ⟨q, h1, rfl⟩ := Option.map_eq_some_iff.mp e
  have h2 : (q.1 == pc) = true := List.find?_some (p := fun q : Nat × Instr × Nat => q.1 == pc) h1
  rw [← eq_of_beq h2]
  exact h q (List.mem_of_find?_eq_some h1)
/-- the program, statics by their numbers -/
abbrev aQ : am_P := aP (fun i => i)
def tp_T_0 : List tk_K := [(0, 11, [(2, 0, 0, [1]), (0, 0, 800, []), (2, 0, 0, [2]), (0, 0, 820, []), (0, 0, 2000000000, []), (0, -2147483648, 2147483647, []), (0, -2147483648, 2147483647, []), (0, -2147483648, 2147483647, []), (0, -2147483648, 2147483647, []), (0, 0, 8, []), (1, 0, 0, []), (0, -2147483648, 2147483647, []), (0, 0, 4, []), (2, 0, 0, [3]), (2, 0, 0, [4]), (2, 0, 0, [5]), (2, 0, 0, [6]), (2, 0, 0, [7]), (0, 0, 16, []), (2, 0, 0, [8]), (2, 0, 0, [9]), (0, 0, 3, []), (0, 0, 65535, []), (3, 0, 0, [10, 19, 22]), (0, 0, 14400, []), (0, 0, 14400, []), (0, 0, 14400, []), (0, 0, 30, []), (2, 0, 0, [10]), (2, 0, 0, [11]), (2, 0, 0, [12]), (2, 0, 0, [13]), (2, 0, 0, [14]), (2, 0, 0, [15]), (2, 0, 0, [16]), (2, 0, 0, [17]), (2, 0, 0, [18]), (0, 0, 12, []), (2, 0, 0, [19]), (2, 0, 0, [20]), (2, 0, 0, [21]), (0, 0, 12, []), (2, 0, 0, [22]), (2, 0, 0, [23]), (2, 0, 0, [24]), (2, 0, 0, [25]), (0, 0, 2000, []), (0, 0, 1, []), (2, 0, 0, [26]), (0, 0, 6, []), (2, 0, 0, [27]), (0, 0, 6, []), (0, 0, 8, []), (2, 0, 0, [28]), (2, 0, 0, [29]), (2, 0, 0, [30]), (2, 0, 0, [31]), (2, 0, 0, [32]), (2, 0, 0, [33]), (2, 0, 0, [34]), (2, 0, 0, [35]), (2, 0, 0, [36]), (2, 0, 0, [37]), (2, 0, 0, [38]), (2, 0, 0, [39]), (2, 0, 0, [40]), (2, 0, 0, [41]), (2, 0, 0, [42]), (2, 0, 0, [43]), (2, 0, 0, [44]), (2, 0, 0, [45]), (2, 0, 0, [46]), (2, 0, 0, [47]), (2, 0, 0, [48]), (2, 0, 0, [49]), (2, 0, 0, [50]), (2, 0, 0, [51]), (2, 0, 0, [52]), (2, 0, 0, [53]), (2, 0, 0, [54]), (2, 0, 0, [55]), (2, 0, 0, [56]), (2, 0, 0, [57]), (2, 0, 0, [58]), (2, 0, 0, [59]), (0, 0, 4, []), (2, 0, 0, [60]), (2, 0, 0, [61]), (2, 0, 0, [62]), (2, 0, 0, [63]), (2, 0, 0, [64]), (2, 0, 0, [65]), (2, 0, 0, [66]), (2, 0, 0, [67]), (2, 0, 0, [68]), (2, 0, 0, [69]), (2, 0, 0, [70]), (2, 0, 0, [71]), (2, 0, 0, [72]), (2, 0, 0, [73]), (2, 0, 0, [74]), (2, 0, 0, [75]), (2, 0, 0, [76]), (2, 0, 0, [77]), (2, 0, 0, [78]), (0, 0, 16, []), (2, 0, 0, [79]), (2, 0, 0, [80]), (2, 0, 0, [81]), (2, 0, 0, [82]), (2, 0, 0, [83]), (0, 0, 12, []), (2, 0, 0, [84]), (2, 0, 0, [85]), (2, 0, 0, [86]), (2, 0, 0, [87]), (2, 0, 0, [88]), (2, 0, 0, [89]), (2, 0, 0, [90]), (2, 0, 0, [91]), (2, 0, 0, [92]), (2, 0, 0, [93]), (2, 0, 0, [94]), (2, 0, 0, [95]), (2, 0, 0, [96]), (2, 0, 0, [97]), (2, 0, 0, [98]), (2, 0, 0, [99]), (2, 0, 0, [100]), (2, 0, 0, [101]), (2, 0, 0, [102]), (2, 0, 0, [103]), (2, 0, 0, [104]), (2, 0, 0, [105]), (2, 0, 0, [106]), (2, 0, 0, [107]), (2, 0, 0, [108]), (2, 0, 0, [109]), (2, 0, 0, [110]), (2, 0, 0, [111]), (2, 0, 0, [112]), (2, 0, 0, [113]), (2, 0, 0, [114]), (2, 0, 0, [115]), (2, 0, 0, [116]), (2, 0, 0, [117]), (2, 0, 0, [118]), (2, 0, 0, [119]), (2, 0, 0, [120]), (2, 0, 0, [121]), (2, 0, 0, [122]), (2, 0, 0, [123]), (2, 0, 0, [124]), (2, 0, 0, [125]), (2, 0, 0, [126]), (2, 0, 0, [127]), (2, 0, 0, [128]), (2, 0, 0, [129]), (2, 0, 0, [130]), (2, 0, 0, [131]), (2, 0, 0, [132]), (2, 0, 0, [133]), (2, 0, 0, [134]), (2, 0, 0, [135]), (2, 0, 0, [136]), (2, 0, 0, [137]), (2, 0, 0, [138]), (2, 0, 0, [139]), (2, 0, 0, [140]), (2, 0, 0, [141]), (2, 0, 0, [142]), (2, 0, 0, [143]), (2, 0, 0, [144]), (2, 0, 0, [145]), (2, 0, 0, [146]), (2, 0, 0, [147]), (2, 0, 0, [148]), (2, 0, 0, [149]), (2, 0, 0, [150]), (2, 0, 0, [151]), (2, 0, 0, [152]), (2, 0, 0, [153]), (2, 0, 0, [154]), (2, 0, 0, [155]), (2, 0, 0, [156]), (2, 0, 0, [157]), (2, 0, 0, [158]), (2, 0, 0, [159]), (2, 0, 0, [160]), (0, 0, 1, []), (1, 0, 0, []), (2, 0, 0, [161]), (2, 0, 0, [162]), (2, 0, 0, [163]), (0, 0, 4, []), (0, 0, 1, []), (0, 0, 255, []), (0, 0, 255, []), (0, 0, 1, []), (0, 0, 2, []), (0, 0, 254, []), (0, 0, 159, []), (0, 0, 1, []), (0, -2147483648, 2147483647, []), (0, 0, 255, []), (2, 0, 0, [164])], [], 0, 0, []), (1, 0, [], [(0, 0, 255, 0)], 800, 800, []), (1, 0, [], [(0, 0, 255, 0)], 820, 820, []), (1, 0, [], [(0, 0, 64, 0)], 4, 4, []), (2, 1, [], [], 256, 256, []), (2, 1, [], [], 64, 64, []), (1, 0, [], [], 64, 64, []), (2, 1, [], [], 16, 16, []), (1, 2, [], [(0, 0, 1, 0)], 16, 16, []), (1, 0, [], [(0, 0, 80000, 0)], 12, 12, []), (1, 0, [], [(0, 0, 255, 0)], 14400, 14400, []), (1, 0, [], [(0, 0, 400, 0)], 36, 36, [])]
def tp_T_1 : List tk_K := [(1, 0, [], [], 288, 288, []), (1, 0, [], [(0, 0, 400, 400), (0, 0, 400, 0)], 72, 72, []), (1, 0, [], [(0, 0, 400, 400), (0, 0, 400, 0)], 72, 72, []), (1, 0, [], [(0, 0, 400, 400), (0, 0, 400, 0)], 72, 72, []), (1, 0, [], [(0, 0, 392, 400)], 36, 36, []), (1, 0, [], [(0, 0, 4, 0)], 108, 108, []), (1, 0, [], [(0, 0, 400, 34), (0, 0, 42, 0)], 864, 864, []), (1, 0, [], [(0, 0, 255, 0)], 5600, 5600, []), (1, 0, [], [(0, 0, 400, 0)], 14, 14, []), (1, 0, [], [(0, 0, 400, 400), (0, 0, 400, 0), (-2147483648, 0, 2147483647, 0), (-2147483648, 0, 2147483647, 0), (-2147483648, 0, 2147483647, 0), (-2147483648, 0, 2147483647, 0), (0, 0, 400, 400), (0, 0, 400, 400)], 112, 112, []), (1, 0, [], [(0, 0, 255, 0)], 5600, 5600, []), (1, 0, [], [(0, 0, 400, 0)], 14, 14, [])]
def tp_T_2 : List tk_K := [(1, 0, [], [(0, 0, 400, 400), (0, 0, 400, 0), (-2147483648, 0, 2147483647, 0), (-2147483648, 0, 2147483647, 0), (-2147483648, 0, 2147483647, 0), (-2147483648, 0, 2147483647, 0), (0, 0, 400, 400), (-2147483648, 0, 2147483647, 0)], 112, 112, []), (1, 0, [], [(0, 0, 255, 0)], 2000, 2000, []), (1, 0, [], [(-1, 0, 33, 0)], 8, 8, []), (1, 0, [], [(0, 0, 33, 0)], 6, 6, []), (1, 0, [], [(0, 0, 1, 0)], 8, 8, []), (1, 0, [], [(0, 0, 255, 0)], 96, 96, []), (1, 0, [], [(0, 0, 4, 0)], 24, 24, []), (1, 0, [], [(0, 0, 1, 0), (0, 0, 2, 0), (0, 0, 3, 0), (0, 0, 10000, 0), (0, 0, 400, 0), (0, 0, 1, 0), (0, 0, 1, 0), (0, 0, 100, 0)], 64, 64, []), (1, 0, [], [(0, 0, 255, 0)], 1600, 1600, []), (1, 0, [], [(0, 0, 200, 0)], 8, 8, []), (1, 0, [], [(0, 0, 29, 0)], 240, 240, []), (1, 0, [], [(0, 0, 30, 0)], 8, 8, [])]
def tp_T_3 : List tk_K := [(1, 0, [], [(0, 0, 33, 0)], 32, 32, []), (1, 0, [], [(0, 0, 4, 0)], 8, 8, []), (1, 0, [], [], 8, 8, []), (1, 0, [], [(0, 0, 255, 0)], 320, 320, []), (1, 0, [], [(0, 0, 40, 0)], 8, 8, []), (1, 0, [], [(0, 0, 6, 0)], 8, 8, []), (1, 0, [], [(0, 0, 255, 0)], 768, 768, []), (1, 0, [], [(0, 0, 16, 0)], 48, 48, []), (2, 1, [], [], 48, 48, []), (1, 0, [], [(0, 0, 1, 0)], 48, 48, []), (1, 2, [], [(0, 0, 1, 0)], 48, 48, []), (1, 0, [], [], 240, 240, [])]
def tp_T_4 : List tk_K := [(1, 0, [], [(0, 0, 255, 0)], 3200, 3200, []), (1, 0, [], [(0, 0, 400, 0)], 8, 8, []), (2, 1, [], [], 8, 8, []), (1, 2, [], [(0, 0, 1, 0)], 8, 8, []), (1, 0, [], [], 8, 8, []), (1, 0, [], [(0, 0, 20, 0)], 8, 8, []), (2, 1, [], [], 160, 160, []), (2, 1, [], [], 160, 160, []), (1, 0, [], [(0, 0, 255, 0)], 160, 160, []), (1, 0, [], [], 160, 160, []), (1, 0, [], [], 160, 160, []), (1, 2, [], [(0, 0, 1, 0)], 160, 160, [])]
def tp_T_5 : List tk_K := [(1, 0, [], [(0, 0, 29, 0)], 4, 4, []), (1, 0, [], [], 4, 4, []), (1, 0, [], [(0, 0, 2, 0)], 4, 4, []), (1, 0, [], [], 4, 4, []), (1, 0, [], [], 4, 4, []), (1, 0, [], [], 4, 4, []), (1, 0, [], [(0, 0, 8, 0)], 4, 4, []), (2, 1, [], [], 32, 32, []), (1, 0, [], [(0, 0, 12, 0)], 4, 4, []), (1, 0, [], [(0, 0, 7, 0)], 48, 48, []), (1, 0, [], [], 48, 48, []), (1, 0, [], [(-4, 0, 29, 0)], 48, 48, [])]
def tp_T_6 : List tk_K := [(1, 0, [], [(0, 0, 3, 0)], 48, 48, []), (1, 0, [], [(0, 0, 255, 0)], 6048, 6048, []), (1, 0, [], [(0, 0, 42, 0)], 144, 144, []), (1, 0, [], [], 144, 144, []), (1, 0, [], [], 144, 144, []), (1, 0, [], [(0, 0, 40, 0)], 4, 4, []), (1, 0, [], [], 160, 160, []), (1, 0, [], [(0, 0, 255, 0)], 640, 640, []), (1, 0, [], [(0, 0, 40, 0)], 16, 16, []), (2, 1, [], [], 16, 16, []), (1, 0, [], [(0, 0, 801, 0)], 4, 4, []), (1, 0, [], [(0, 0, 42, 0)], 4, 4, [])]
def tp_T_7 : List tk_K := [(1, 0, [], [(-1, 0, 7, 0)], 24, 24, []), (1, 0, [], [(0, 0, 255, 0)], 384000, 384000, []), (1, 0, [], [(0, 0, 32000, 0), (0, 0, 16000, 0)], 24, 24, []), (1, 0, [], [(0, 0, 255, 0)], 7680, 7680, []), (1, 0, [], [(0, 0, 304, 0)], 24, 24, []), (1, 0, [], [(0, 0, 255, 0)], 72000, 72000, []), (1, 0, [], [(0, 0, 3000, 0)], 24, 24, []), (1, 0, [], [(0, 0, 255, 0)], 48000, 48000, []), (1, 0, [], [(0, 0, 2000, 0)], 24, 24, []), (1, 0, [], [(0, 0, 7, 0)], 24, 24, []), (1, 2, [], [(0, 0, 1, 0)], 24, 24, []), (1, 2, [], [(0, 0, 1, 0)], 24, 24, [])]
def tp_T_8 : List tk_K := [(1, 2, [], [(0, 0, 1, 0)], 24, 24, []), (1, 0, [], [], 24, 24, []), (1, 0, [], [], 24, 24, []), (1, 2, [], [(0, 0, 1, 0)], 24, 24, []), (1, 2, [], [(0, 0, 1, 0)], 24, 24, []), (2, 1, [], [], 24, 24, []), (2, 1, [], [], 24, 24, []), (1, 0, [], [], 24, 24, []), (1, 0, [], [], 24, 24, []), (1, 0, [], [(0, 0, 255, 0)], 24, 24, []), (1, 0, [], [(0, 0, 255, 0)], 24, 24, []), (1, 0, [], [(0, 0, 255, 0)], 24, 24, [])]
def tp_T_9 : List tk_K := [(1, 0, [], [], 24, 24, []), (1, 0, [], [(0, 0, 2, 0)], 24, 24, []), (1, 2, [], [(0, 0, 1, 0)], 24, 24, []), (1, 0, [], [(0, 0, 4, 0)], 24, 24, []), (1, 0, [], [], 24, 24, []), (1, 0, [], [], 24, 24, []), (1, 2, [], [(0, 0, 1, 0)], 24, 24, []), (2, 1, [], [], 24, 24, []), (2, 1, [], [], 24, 24, []), (2, 1, [], [], 24, 24, []), (2, 1, [], [], 24, 24, []), (2, 1, [], [], 24, 24, [])]
def tp_T_10 : List tk_K := [(2, 1, [], [], 24, 24, []), (2, 1, [], [], 24, 24, []), (2, 1, [], [], 24, 24, []), (1, 0, [], [], 24, 24, []), (1, 0, [], [], 24, 24, []), (1, 0, [], [], 48, 48, []), (1, 0, [], [], 48, 48, []), (1, 0, [], [], 48, 48, []), (1, 0, [], [], 48, 48, []), (1, 0, [], [(0, 0, 7, 0)], 48, 48, []), (1, 0, [], [], 48, 48, []), (2, 1, [], [], 48, 48, [])]
def tp_T_11 : List tk_K := [(2, 1, [], [], 12, 12, []), (1, 0, [], [(0, 0, 255, 0)], 12, 12, []), (1, 0, [], [], 12, 12, []), (1, 0, [], [(0, 0, 3, 0)], 12, 12, []), (1, 0, [], [(0, 0, 6, 0)], 12, 12, []), (1, 0, [], [(0, 0, 255, 0)], 1152, 1152, []), (1, 0, [], [(0, 0, 16, 0)], 72, 72, []), (2, 1, [], [], 72, 72, []), (1, 0, [], [(0, 0, 1, 0)], 72, 72, []), (1, 2, [], [(0, 0, 1, 0)], 72, 72, []), (1, 0, [], [], 72, 72, []), (1, 2, [], [(0, 0, 1, 0)], 12, 12, [])]
def tp_T_12 : List tk_K := [(1, 2, [], [(0, 0, 1, 0)], 12, 12, []), (2, 1, [], [], 12, 12, []), (1, 2, [], [(0, 0, 1, 0)], 12, 12, []), (1, 0, [], [(-4, 0, 5, 0)], 12, 12, []), (1, 0, [], [(0, 0, 255, 0)], 24, 24, []), (1, 0, [], [(0, 0, 255, 0)], 24, 24, []), (1, 0, [], [(0, 0, 255, 0)], 30000, 30000, []), (1, 0, [], [(0, 0, 2500, 0)], 12, 12, []), (2, 1, [], [], 12, 12, []), (2, 1, [], [], 12, 12, []), (1, 0, [], [], 12, 12, []), (1, 0, [], [], 12, 12, [])]
def tp_T_13 : List tk_K := [(1, 0, [], [(0, 0, 255, 0)], 320, 320, []), (1, 0, [], [(0, 0, 255, 0)], 2700, 2700, []), (1, 0, [], [(0, 0, 255, 0)], 1, 1, []), (1, 0, [], [(-4, 0, 71503, 0)], 11, 11, []), (1, 0, [], [(0, 0, 2500, 0)], 11, 11, []), (1, 0, [], [(0, 0, 255, 0)], 9, 9, []), (1, 0, [], [(0, 0, 72000, 0)], 4, 4, []), (1, 0, [], [(0, 0, 65535, 0)], 4, 4, []), (1, 0, [], [(0, 0, 255, 0)], 8000, 8000, [])]
def tp_T : tk_T := tp_T_0 ++ tp_T_1 ++ tp_T_2 ++ tp_T_3 ++ tp_T_4 ++ tp_T_5 ++ tp_T_6 ++ tp_T_7 ++ tp_T_8 ++ tp_T_9 ++ tp_T_10 ++ tp_T_11 ++ tp_T_12 ++ tp_T_13
def tp_Z : tc_Z := fun own x => none
abbrev tS_0 : ql_S := ([(26, 1, 0, 1)], [], 0)
abbrev tS_1 : Nat × Int := (159, -4)
abbrev tS_2 : Nat × Int := (147, -4)
abbrev tS_3 : ql_S := ([(88, 1, 0, -1), (87, 320, 1, 256), (87, 320, 2, 1), (94, 1, 0, 400)], [], 2)
abbrev tS_4 : ql_S := ([(88, 1, 0, -1), (94, 1, 0, 2)], [], 302)
abbrev tS_5 : ql_S := ([(90, 1, 0, -1), (94, 1, 0, 498)], [], 2502)
abbrev tS_6 : ql_S := ([(159, 1, 0, -1), (160, 1, 0, -1)], [], 71503)
abbrev tS_8 : Nat × Nat := (34, 35)
abbrev tS_9 : sg_S := (89, 1, [([([(0, 1)], -1), ([(0, -1)], 16)], ([(0, 1)], 5))])
abbrev tS_10 : sg_S := (89, 0, [([], ([(1, 256), (2, 1)], 3))])
abbrev tS_11 : sg_S := (150, 0, [([], ([(1, 256), (2, 1)], 3))])
abbrev tS_12 : Nat × Nat := (89, 150)
abbrev tS_14 : ql_S := ([(105, 2, 1, 1), (106, 2, 1, -1), (99, 2, 1, -255)], [], 255)
abbrev tS_15 : ql_S := ([(105, 2, 1, -1), (106, 2, 1, 1), (99, 2, 1, -255)], [], 255)
abbrev tS_16 : ql_S := ([(99, 2, 1, 5), (93, 2, 1, -1)], [], 1)
abbrev tS_17 : ql_S := ([(99, 2, 1, -2), (93, 2, 1, 1)], [], 0)
abbrev tS_18 : ql_S := ([(100, 2, 0, 1), (93, 2, 0, -1)], [], 6)
abbrev tS_19 : ql_S := ([(100, 2, 1, 1), (93, 2, 1, -1)], [], 5)
abbrev tS_20 : ql_S := ([(86, 2, 0, -1), (93, 2, 0, -1)], [], 0)
abbrev tS_21 : ql_S := ([(86, 2, 0, -1), (95, 2, 0, 20)], [], 31950)
abbrev tS_22 : ql_S := ([(86, 2, 1, -1), (95, 2, 1, 20)], [], 15980)
abbrev tS_23 : sg_S := (1, 1, [([([(0, 1)], -48), ([(0, -1)], 48), ([(1, -1)], 127)], ([], 2)), ([([(0, 1)], -48), ([(0, -1)], 48), ([(1, 1)], -129), ([(1, -1)], 129)], ([], 3)), ([([(0, 1)], -48), ([(0, -1)], 48), ([(1, 1)], -130), ([(1, -1)], 130)], ([], 4)), ([([(0, 1)], -12), ([(0, -1)], 12), ([(1, -1)], 42)], ([(1, 1)], 2)), ([([(0, 1)], -2), ([(0, -1)], 2), ([(1, -1)], 4)], ([(1, 1)], 2)), ([([(0, 1)], -4), ([(0, -1)], 4), ([(1, -1)], 127)], ([(1, 1)], 2)), ([([(0, 1)], -4), ([(0, -1)], 4), ([(1, 1)], -129), ([(1, -1)], 129)], ([(2, 1)], 3)), ([([(0, 1)], -4), ([(0, -1)], 4), ([(1, 1)], -130), ([(1, -1)], 130)], ([(2, 256), (3, 1)], 4)), ([([(0, 1)], -161), ([(1, -1)], 127)], ([(1, 1)], 2)), ([([(0, 1)], -161), ([(1, 1)], -129), ([(1, -1)], 129)], ([(2, 1)], 3)), ([([(0, 1)], -161), ([(1, 1)], -130), ([(1, -1)], 130)], ([(2, 256), (3, 1)], 4)), ([([(0, 1)], -12), ([(0, -1)], 12), ([(1, 1)], -131)], ([], 2))])
abbrev tS_24 : sg_S := (10, 1, [([([(0, 1)], -48), ([(0, -1)], 48), ([(1, -1)], 127)], ([], 2)), ([([(0, 1)], -48), ([(0, -1)], 48), ([(1, 1)], -129), ([(1, -1)], 129)], ([], 3)), ([([(0, 1)], -48), ([(0, -1)], 48), ([(1, 1)], -130), ([(1, -1)], 130)], ([], 4)), ([([(0, 1)], -12), ([(0, -1)], 12), ([(1, -1)], 42)], ([(1, 1)], 2)), ([([(0, 1)], -2), ([(0, -1)], 2), ([(1, -1)], 4)], ([(1, 1)], 2)), ([([(0, 1)], -4), ([(0, -1)], 4), ([(1, -1)], 127)], ([(1, 1)], 2)), ([([(0, 1)], -4), ([(0, -1)], 4), ([(1, 1)], -129), ([(1, -1)], 129)], ([(2, 1)], 3)), ([([(0, 1)], -4), ([(0, -1)], 4), ([(1, 1)], -130), ([(1, -1)], 130)], ([(2, 256), (3, 1)], 4)), ([([(0, 1)], -161), ([(1, -1)], 127)], ([(1, 1)], 2)), ([([(0, 1)], -161), ([(1, 1)], -129), ([(1, -1)], 129)], ([(2, 1)], 3)), ([([(0, 1)], -161), ([(1, 1)], -130), ([(1, -1)], 130)], ([(2, 256), (3, 1)], 4)), ([([(0, 1)], -12), ([(0, -1)], 12), ([(1, 1)], -131)], ([], 2))])
abbrev tS_25 : sg_S := (22, 1, [([([(0, 1)], -48), ([(0, -1)], 48), ([(1, -1)], 127)], ([], 2)), ([([(0, 1)], -48), ([(0, -1)], 48), ([(1, 1)], -129), ([(1, -1)], 129)], ([], 3)), ([([(0, 1)], -48), ([(0, -1)], 48), ([(1, 1)], -130), ([(1, -1)], 130)], ([], 4)), ([([(0, 1)], -12), ([(0, -1)], 12), ([(1, -1)], 42)], ([(1, 1)], 2)), ([([(0, 1)], -2), ([(0, -1)], 2), ([(1, -1)], 4)], ([(1, 1)], 2)), ([([(0, 1)], -4), ([(0, -1)], 4), ([(1, -1)], 127)], ([(1, 1)], 2)), ([([(0, 1)], -4), ([(0, -1)], 4), ([(1, 1)], -129), ([(1, -1)], 129)], ([(2, 1)], 3)), ([([(0, 1)], -4), ([(0, -1)], 4), ([(1, 1)], -130), ([(1, -1)], 130)], ([(2, 256), (3, 1)], 4)), ([([(0, 1)], -161), ([(1, -1)], 127)], ([(1, 1)], 2)), ([([(0, 1)], -161), ([(1, 1)], -129), ([(1, -1)], 129)], ([(2, 1)], 3)), ([([(0, 1)], -161), ([(1, 1)], -130), ([(1, -1)], 130)], ([(2, 256), (3, 1)], 4)), ([([(0, 1)], -12), ([(0, -1)], 12), ([(1, 1)], -131)], ([], 2))])
abbrev tS_26 : sg_S := (25, 1, [([([(0, 1)], -48), ([(0, -1)], 48), ([(1, -1)], 127)], ([], 2)), ([([(0, 1)], -48), ([(0, -1)], 48), ([(1, 1)], -129), ([(1, -1)], 129)], ([], 3)), ([([(0, 1)], -48), ([(0, -1)], 48), ([(1, 1)], -130), ([(1, -1)], 130)], ([], 4)), ([([(0, 1)], -12), ([(0, -1)], 12), ([(1, -1)], 42)], ([(1, 1)], 2)), ([([(0, 1)], -2), ([(0, -1)], 2), ([(1, -1)], 4)], ([(1, 1)], 2)), ([([(0, 1)], -4), ([(0, -1)], 4), ([(1, -1)], 127)], ([(1, 1)], 2)), ([([(0, 1)], -4), ([(0, -1)], 4), ([(1, 1)], -129), ([(1, -1)], 129)], ([(2, 1)], 3)), ([([(0, 1)], -4), ([(0, -1)], 4), ([(1, 1)], -130), ([(1, -1)], 130)], ([(2, 256), (3, 1)], 4)), ([([(0, 1)], -161), ([(1, -1)], 127)], ([(1, 1)], 2)), ([([(0, 1)], -161), ([(1, 1)], -129), ([(1, -1)], 129)], ([(2, 1)], 3)), ([([(0, 1)], -161), ([(1, 1)], -130), ([(1, -1)], 130)], ([(2, 256), (3, 1)], 4)), ([([(0, 1)], -12), ([(0, -1)], 12), ([(1, 1)], -131)], ([], 2))])
abbrev tS_27 : sg_S := (1, 1, [([([(1, -1)], 127)], ([(1, 1)], 2)), ([([(1, 1)], -129), ([(1, -1)], 129)], ([(2, 1)], 3)), ([([(1, 1)], -130), ([(1, -1)], 130)], ([(2, 256), (3, 1)], 4))])
abbrev tS_28 : sg_S := (22, 1, [([([(1, -1)], 127)], ([(1, 1)], 2)), ([([(1, 1)], -129), ([(1, -1)], 129)], ([(2, 1)], 3)), ([([(1, 1)], -130), ([(1, -1)], 130)], ([(2, 256), (3, 1)], 4))])
abbrev tS_29 : Nat × Nat := (1, 22)
abbrev tS_30 : Nat × Nat := (1, 10)
abbrev tS_31 : Nat × Nat := (25, 10)
abbrev tS_32 : Nat × Nat := (10, 10)
abbrev tS_33 : ql_S := ([(9, 1, 0, 1), (9, 1, 1, -1)], [], 0)
abbrev tS_34 : ql_S := ([(9, 1, 0, -1)], [1], 0)
abbrev tS_35 : ql_S := ([(9, 1, 0, 1)], [-1], 0)
abbrev tS_36 : ql_S := ([(9, 1, 0, -1)], [1], 0)
abbrev tS_37 : ql_S := ([(23, 1, 0, -1)], [], 389)
abbrev tS_38 : ql_S := ([(14, 2, 1, -1)], [], 42)
abbrev tS_39 : sg_S := (25, 1, [([([(0, 1)], -48), ([(0, -1)], 48), ([(1, -1)], 127)], ([], 2)), ([([(0, 1)], -48), ([(0, -1)], 48), ([(1, 1)], -129), ([(1, -1)], 129)], ([], 3)), ([([(0, 1)], -48), ([(0, -1)], 48), ([(1, 1)], -130), ([(1, -1)], 130)], ([], 4)), ([([(0, 1)], -12), ([(0, -1)], 12), ([(1, -1)], 42)], ([(1, 1)], 2)), ([([(0, 1)], -2), ([(0, -1)], 2), ([(1, -1)], 4)], ([(1, 1)], 2)), ([([(0, 1)], -4), ([(0, -1)], 4), ([(1, -1)], 127)], ([(1, 1)], 2)), ([([(0, 1)], -4), ([(0, -1)], 4), ([(1, 1)], -129), ([(1, -1)], 129)], ([(2, 1)], 3)), ([([(0, 1)], -4), ([(0, -1)], 4), ([(1, 1)], -130), ([(1, -1)], 130)], ([(2, 256), (3, 1)], 4)), ([([(0, 1)], -161), ([(1, -1)], 127)], ([(1, 1)], 2)), ([([(0, 1)], -161), ([(1, 1)], -129), ([(1, -1)], 129)], ([(2, 1)], 3)), ([([(0, 1)], -161), ([(1, 1)], -130), ([(1, -1)], 130)], ([(2, 256), (3, 1)], 4)), ([([(0, 1)], -12), ([(0, -1)], 12), ([(1, 1)], -131)], ([], 2))])
abbrev tS_40 : sg_S := (25, 1, [([([(0, 1)], -48), ([(0, -1)], 48), ([(1, -1)], 127)], ([], 2)), ([([(0, 1)], -48), ([(0, -1)], 48), ([(1, 1)], -129), ([(1, -1)], 129)], ([], 3)), ([([(0, 1)], -48), ([(0, -1)], 48), ([(1, 1)], -130), ([(1, -1)], 130)], ([], 4)), ([([(0, 1)], -12), ([(0, -1)], 12), ([(1, -1)], 42)], ([(1, 1)], 2)), ([([(0, 1)], -2), ([(0, -1)], 2), ([(1, -1)], 4)], ([(1, 1)], 2)), ([([(0, 1)], -4), ([(0, -1)], 4), ([(1, -1)], 127)], ([(1, 1)], 2)), ([([(0, 1)], -4), ([(0, -1)], 4), ([(1, 1)], -129), ([(1, -1)], 129)], ([(2, 1)], 3)), ([([(0, 1)], -4), ([(0, -1)], 4), ([(1, 1)], -130), ([(1, -1)], 130)], ([(2, 256), (3, 1)], 4)), ([([(0, 1)], -161), ([(1, -1)], 127)], ([(1, 1)], 2)), ([([(0, 1)], -161), ([(1, 1)], -129), ([(1, -1)], 129)], ([(2, 1)], 3)), ([([(0, 1)], -161), ([(1, 1)], -130), ([(1, -1)], 130)], ([(2, 256), (3, 1)], 4)), ([([(0, 1)], -12), ([(0, -1)], 12), ([(1, 1)], -131)], ([], 2))])
abbrev tp_S : List ga_S := [ql_a tS_0, kx_a tS_1, kx_a tS_2, ql_a tS_3, ql_a tS_4, ql_a tS_5, ql_a tS_6, ni_a 34, da_a tS_8, sg_a tS_9, sg_a tS_10, sg_a tS_11, cp_a tS_12, fa_a (tS_11, 151), ql_a tS_14, ql_a tS_15, ql_a tS_16, ql_a tS_17, ql_a tS_18, ql_a tS_19, ql_a tS_20, ql_a tS_21, ql_a tS_22, sg_a tS_23, sg_a tS_24, sg_a tS_25, sg_a tS_26, sg_a tS_27, sg_a tS_28, cp_a tS_29, cp_a tS_30, cp_a tS_31, cp_a tS_32, ql_a tS_33, ql_a tS_34, ql_a tS_35, ql_a tS_36, ql_a tS_37, ql_a tS_38, sh_a tS_39, sx_a tS_40]
def tp_G : tg_G := tg_of tp_S
theorem tp_S_ok : ∀ s ∈ tp_S, ga_ok s := by
  intro s h
  rcases List.mem_cons.mp h with rfl | h
  · exact ql_a_ok _
  rcases List.mem_cons.mp h with rfl | h
  · exact kx_a_ok _
  rcases List.mem_cons.mp h with rfl | h
  · exact kx_a_ok _
  rcases List.mem_cons.mp h with rfl | h
  · exact ql_a_ok _
  rcases List.mem_cons.mp h with rfl | h
  · exact ql_a_ok _
  rcases List.mem_cons.mp h with rfl | h
  · exact ql_a_ok _
  rcases List.mem_cons.mp h with rfl | h
  · exact ql_a_ok _
  rcases List.mem_cons.mp h with rfl | h
  · exact ni_a_ok _
  rcases List.mem_cons.mp h with rfl | h
  · exact da_a_ok _
  rcases List.mem_cons.mp h with rfl | h
  · exact sg_a_ok _
  rcases List.mem_cons.mp h with rfl | h
  · exact sg_a_ok _
  rcases List.mem_cons.mp h with rfl | h
  · exact sg_a_ok _
  rcases List.mem_cons.mp h with rfl | h
  · exact cp_a_ok _
  rcases List.mem_cons.mp h with rfl | h
  · exact fa_a_ok _
  rcases List.mem_cons.mp h with rfl | h
  · exact ql_a_ok _
  rcases List.mem_cons.mp h with rfl | h
  · exact ql_a_ok _
  rcases List.mem_cons.mp h with rfl | h
  · exact ql_a_ok _
  rcases List.mem_cons.mp h with rfl | h
  · exact ql_a_ok _
  rcases List.mem_cons.mp h with rfl | h
  · exact ql_a_ok _
  rcases List.mem_cons.mp h with rfl | h
  · exact ql_a_ok _
  rcases List.mem_cons.mp h with rfl | h
  · exact ql_a_ok _
  rcases List.mem_cons.mp h with rfl | h
  · exact ql_a_ok _
  rcases List.mem_cons.mp h with rfl | h
  · exact ql_a_ok _
  rcases List.mem_cons.mp h with rfl | h
  · exact sg_a_ok _
  rcases List.mem_cons.mp h with rfl | h
  · exact sg_a_ok _
  rcases List.mem_cons.mp h with rfl | h
  · exact sg_a_ok _
  rcases List.mem_cons.mp h with rfl | h
  · exact sg_a_ok _
  rcases List.mem_cons.mp h with rfl | h
  · exact sg_a_ok _
  rcases List.mem_cons.mp h with rfl | h
  · exact sg_a_ok _
  rcases List.mem_cons.mp h with rfl | h
  · exact cp_a_ok _
  rcases List.mem_cons.mp h with rfl | h
  · exact cp_a_ok _
  rcases List.mem_cons.mp h with rfl | h
  · exact cp_a_ok _
  rcases List.mem_cons.mp h with rfl | h
  · exact cp_a_ok _
  rcases List.mem_cons.mp h with rfl | h
  · exact ql_a_ok _
  rcases List.mem_cons.mp h with rfl | h
  · exact ql_a_ok _
  rcases List.mem_cons.mp h with rfl | h
  · exact ql_a_ok _
  rcases List.mem_cons.mp h with rfl | h
  · exact ql_a_ok _
  rcases List.mem_cons.mp h with rfl | h
  · exact ql_a_ok _
  rcases List.mem_cons.mp h with rfl | h
  · exact ql_a_ok _
  rcases List.mem_cons.mp h with rfl | h
  · exact sh_a_ok _
  rcases List.mem_cons.mp h with rfl | h
  · exact sx_a_ok _
  cases h
theorem tp_G_ok : tg_ok tp_G := tg_of_ok tp_S_ok
theorem tp_S_re : ∀ s ∈ tp_S, ga_re s := by
  intro s h
  rcases List.mem_cons.mp h with rfl | h
  · exact ga_re_no rfl
  rcases List.mem_cons.mp h with rfl | h
  · exact ga_re_no rfl
  rcases List.mem_cons.mp h with rfl | h
  · exact ga_re_no rfl
  rcases List.mem_cons.mp h with rfl | h
  · exact ga_re_no rfl
  rcases List.mem_cons.mp h with rfl | h
  · exact ga_re_no rfl
  rcases List.mem_cons.mp h with rfl | h
  · exact ga_re_no rfl
  rcases List.mem_cons.mp h with rfl | h
  · exact ga_re_no rfl
  rcases List.mem_cons.mp h with rfl | h
  · exact ga_re_no rfl
  rcases List.mem_cons.mp h with rfl | h
  · exact ga_re_no rfl
  rcases List.mem_cons.mp h with rfl | h
  · exact ga_re_no rfl
  rcases List.mem_cons.mp h with rfl | h
  · exact ga_re_no rfl
  rcases List.mem_cons.mp h with rfl | h
  · exact ga_re_no rfl
  rcases List.mem_cons.mp h with rfl | h
  · exact ga_re_no rfl
  rcases List.mem_cons.mp h with rfl | h
  · exact ga_re_no rfl
  rcases List.mem_cons.mp h with rfl | h
  · exact ga_re_no rfl
  rcases List.mem_cons.mp h with rfl | h
  · exact ga_re_no rfl
  rcases List.mem_cons.mp h with rfl | h
  · exact ga_re_no rfl
  rcases List.mem_cons.mp h with rfl | h
  · exact ga_re_no rfl
  rcases List.mem_cons.mp h with rfl | h
  · exact ga_re_no rfl
  rcases List.mem_cons.mp h with rfl | h
  · exact ga_re_no rfl
  rcases List.mem_cons.mp h with rfl | h
  · exact ga_re_no rfl
  rcases List.mem_cons.mp h with rfl | h
  · exact ga_re_no rfl
  rcases List.mem_cons.mp h with rfl | h
  · exact ga_re_no rfl
  rcases List.mem_cons.mp h with rfl | h
  · exact ga_re_no rfl
  rcases List.mem_cons.mp h with rfl | h
  · exact ga_re_no rfl
  rcases List.mem_cons.mp h with rfl | h
  · exact ga_re_no rfl
  rcases List.mem_cons.mp h with rfl | h
  · exact ga_re_no rfl
  rcases List.mem_cons.mp h with rfl | h
  · exact ga_re_no rfl
  rcases List.mem_cons.mp h with rfl | h
  · exact ga_re_no rfl
  rcases List.mem_cons.mp h with rfl | h
  · exact ga_re_no rfl
  rcases List.mem_cons.mp h with rfl | h
  · exact ga_re_no rfl
  rcases List.mem_cons.mp h with rfl | h
  · exact ga_re_no rfl
  rcases List.mem_cons.mp h with rfl | h
  · exact ga_re_no rfl
  rcases List.mem_cons.mp h with rfl | h
  · exact ga_re_no rfl
  rcases List.mem_cons.mp h with rfl | h
  · exact ga_re_no rfl
  rcases List.mem_cons.mp h with rfl | h
  · exact ga_re_no rfl
  rcases List.mem_cons.mp h with rfl | h
  · exact ga_re_no rfl
  rcases List.mem_cons.mp h with rfl | h
  · exact ga_re_no rfl
  rcases List.mem_cons.mp h with rfl | h
  · exact ga_re_no rfl
  rcases List.mem_cons.mp h with rfl | h
  · exact ga_re_no rfl
  rcases List.mem_cons.mp h with rfl | h
  · exact ga_re_no rfl
  cases h
theorem tp_S_fr : ∀ s ∈ tp_S, ga_fr s := by
  intro s h
  rcases List.mem_cons.mp h with rfl | h
  · exact ga_fr_no rfl
  rcases List.mem_cons.mp h with rfl | h
  · exact ga_fr_no rfl
  rcases List.mem_cons.mp h with rfl | h
  · exact ga_fr_no rfl
  rcases List.mem_cons.mp h with rfl | h
  · exact ga_fr_no rfl
  rcases List.mem_cons.mp h with rfl | h
  · exact ga_fr_no rfl
  rcases List.mem_cons.mp h with rfl | h
  · exact ga_fr_no rfl
  rcases List.mem_cons.mp h with rfl | h
  · exact ga_fr_no rfl
  rcases List.mem_cons.mp h with rfl | h
  · exact ga_fr_no rfl
  rcases List.mem_cons.mp h with rfl | h
  · exact ga_fr_no rfl
  rcases List.mem_cons.mp h with rfl | h
  · exact ga_fr_no rfl
  rcases List.mem_cons.mp h with rfl | h
  · exact ga_fr_no rfl
  rcases List.mem_cons.mp h with rfl | h
  · exact ga_fr_no rfl
  rcases List.mem_cons.mp h with rfl | h
  · exact ga_fr_no rfl
  rcases List.mem_cons.mp h with rfl | h
  · exact ga_fr_no rfl
  rcases List.mem_cons.mp h with rfl | h
  · exact ga_fr_no rfl
  rcases List.mem_cons.mp h with rfl | h
  · exact ga_fr_no rfl
  rcases List.mem_cons.mp h with rfl | h
  · exact ga_fr_no rfl
  rcases List.mem_cons.mp h with rfl | h
  · exact ga_fr_no rfl
  rcases List.mem_cons.mp h with rfl | h
  · exact ga_fr_no rfl
  rcases List.mem_cons.mp h with rfl | h
  · exact ga_fr_no rfl
  rcases List.mem_cons.mp h with rfl | h
  · exact ga_fr_no rfl
  rcases List.mem_cons.mp h with rfl | h
  · exact ga_fr_no rfl
  rcases List.mem_cons.mp h with rfl | h
  · exact ga_fr_no rfl
  rcases List.mem_cons.mp h with rfl | h
  · exact ga_fr_no rfl
  rcases List.mem_cons.mp h with rfl | h
  · exact ga_fr_no rfl
  rcases List.mem_cons.mp h with rfl | h
  · exact ga_fr_no rfl
  rcases List.mem_cons.mp h with rfl | h
  · exact ga_fr_no rfl
  rcases List.mem_cons.mp h with rfl | h
  · exact ga_fr_no rfl
  rcases List.mem_cons.mp h with rfl | h
  · exact ga_fr_no rfl
  rcases List.mem_cons.mp h with rfl | h
  · exact ga_fr_no rfl
  rcases List.mem_cons.mp h with rfl | h
  · exact ga_fr_no rfl
  rcases List.mem_cons.mp h with rfl | h
  · exact ga_fr_no rfl
  rcases List.mem_cons.mp h with rfl | h
  · exact ga_fr_no rfl
  rcases List.mem_cons.mp h with rfl | h
  · exact ga_fr_no rfl
  rcases List.mem_cons.mp h with rfl | h
  · exact ga_fr_no rfl
  rcases List.mem_cons.mp h with rfl | h
  · exact ga_fr_no rfl
  rcases List.mem_cons.mp h with rfl | h
  · exact ga_fr_no rfl
  rcases List.mem_cons.mp h with rfl | h
  · exact ga_fr_no rfl
  rcases List.mem_cons.mp h with rfl | h
  · exact ga_fr_no rfl
  rcases List.mem_cons.mp h with rfl | h
  · exact ga_fr_no rfl
  rcases List.mem_cons.mp h with rfl | h
  · exact ga_fr_no rfl
  cases h
theorem tp_G_re : tg_re tp_G ∧ tg_fr tp_G := ⟨tg_of_re tp_S_re, tg_of_fr tp_S_fr⟩
def tY_0 : tc_Lm := ql_nil 33 tS_33
theorem tZ_0 {RO : am_O} : tc_lmt tp_G RO tp_T tY_0 := ql_nil_ok rfl
def tY_1 : tc_Lm := ql_nil 34 tS_34
theorem tZ_1 {RO : am_O} : tc_lmt tp_G RO tp_T tY_1 := ql_nil_ok rfl
def tY_2 : tc_Lm := ql_open 34 tS_34
theorem tZ_2 {RO : am_O} : tc_lmt tp_G RO tp_T tY_2 := ql_open_ok rfl
def tY_3 : tc_Lm := ql_put 34 tS_34 9 [0]
theorem tZ_3 {RO : am_O} : tc_lmt tp_G RO tp_T tY_3 := ql_put_ok rfl (by decide)
def tY_4 : tc_Lm := ql_open 33 tS_33
theorem tZ_4 {RO : am_O} : tc_lmt tp_G RO tp_T tY_4 := ql_open_ok rfl
def tY_5 : tc_Lm := ql_less 34 tS_34 false
theorem tZ_5 {RO : am_O} : tc_lmt tp_G RO tp_T tY_5 := ql_less_ok rfl
def tY_6 : tc_Lm := sg_nil 23 tS_23
theorem tZ_6 {RO : am_O} : tc_lmt tp_G RO tp_T tY_6 := sg_nil_ok rfl
def tY_7 : tc_Lm := sg_nil 27 tS_27
theorem tZ_7 {RO : am_O} : tc_lmt tp_G RO tp_T tY_7 := sg_nil_ok rfl
def tY_8 : tc_Lm := ql_grow 34 tS_34
theorem tZ_8 {RO : am_O} : tc_lmt tp_G RO tp_T tY_8 := ql_grow_ok rfl
def tY_9 : tc_Lm := ql_shut 34 tS_34
theorem tZ_9 {RO : am_O} : tc_lmt tp_G RO tp_T tY_9 := ql_shut_ok rfl
def tY_10 : tc_Lm := ql_use 34 tS_34 false
theorem tZ_10 {RO : am_O} : tc_lmt tp_G RO tp_T tY_10 := ql_use_ok rfl
def tY_11 : tc_Lm := sg_snoc 23 tS_23 ([([(0, 1)], -161), ([(1, -1)], 127)], ([(1, 1)], 2)) [0, 1]
theorem tZ_11 {RO : am_O} : tc_lmt tp_G RO tp_T tY_11 := sg_snoc_ok rfl (by decide) (by decide)
def tY_12 : tc_Lm := sg_snoc 27 tS_27 ([([(1, -1)], 127)], ([(1, 1)], 2)) [1]
theorem tZ_12 {RO : am_O} : tc_lmt tp_G RO tp_T tY_12 := sg_snoc_ok rfl (by decide) (by decide)
def tY_13 : tc_Lm := sg_snoc 23 tS_23 ([([(0, 1)], -161), ([(1, 1)], -129), ([(1, -1)], 129)], ([(2, 1)], 3)) [0, 1, 2]
theorem tZ_13 {RO : am_O} : tc_lmt tp_G RO tp_T tY_13 := sg_snoc_ok rfl (by decide) (by decide)
def tY_14 : tc_Lm := sg_snoc 27 tS_27 ([([(1, 1)], -129), ([(1, -1)], 129)], ([(2, 1)], 3)) [1, 2]
theorem tZ_14 {RO : am_O} : tc_lmt tp_G RO tp_T tY_14 := sg_snoc_ok rfl (by decide) (by decide)
def tY_15 : tc_Lm := sg_snoc 23 tS_23 ([([(0, 1)], -161), ([(1, 1)], -130), ([(1, -1)], 130)], ([(2, 256), (3, 1)], 4)) [0, 1, 2, 3]
theorem tZ_15 {RO : am_O} : tc_lmt tp_G RO tp_T tY_15 := sg_snoc_ok rfl (by decide) (by decide)
def tY_16 : tc_Lm := sg_eq 23
theorem tZ_16 {RO : am_O} : tc_lmt tp_G RO tp_T tY_16 := sg_eq_ok (S := tS_23) rfl
def tY_17 : tc_Lm := sg_snoc 27 tS_27 ([([(1, 1)], -130), ([(1, -1)], 130)], ([(2, 256), (3, 1)], 4)) [1, 2, 3]
theorem tZ_17 {RO : am_O} : tc_lmt tp_G RO tp_T tY_17 := sg_snoc_ok rfl (by decide) (by decide)
def tY_18 : tc_Lm := sg_snoc 23 tS_23 ([([(0, 1)], -12), ([(0, -1)], 12), ([(1, -1)], 42)], ([(1, 1)], 2)) [0, 1]
theorem tZ_18 {RO : am_O} : tc_lmt tp_G RO tp_T tY_18 := sg_snoc_ok rfl (by decide) (by decide)
def tY_19 : tc_Lm := sg_snoc 23 tS_23 ([([(0, 1)], -2), ([(0, -1)], 2), ([(1, -1)], 4)], ([(1, 1)], 2)) [0, 1]
theorem tZ_19 {RO : am_O} : tc_lmt tp_G RO tp_T tY_19 := sg_snoc_ok rfl (by decide) (by decide)
def tY_20 : tc_Lm := sg_snoc 23 tS_23 ([([(0, 1)], -4), ([(0, -1)], 4), ([(1, -1)], 127)], ([(1, 1)], 2)) [0, 1]
theorem tZ_20 {RO : am_O} : tc_lmt tp_G RO tp_T tY_20 := sg_snoc_ok rfl (by decide) (by decide)
def tY_21 : tc_Lm := sg_snoc 23 tS_23 ([([(0, 1)], -4), ([(0, -1)], 4), ([(1, 1)], -129), ([(1, -1)], 129)], ([(2, 1)], 3)) [0, 1, 2]
theorem tZ_21 {RO : am_O} : tc_lmt tp_G RO tp_T tY_21 := sg_snoc_ok rfl (by decide) (by decide)
def tY_22 : tc_Lm := sg_snoc 23 tS_23 ([([(0, 1)], -4), ([(0, -1)], 4), ([(1, 1)], -130), ([(1, -1)], 130)], ([(2, 256), (3, 1)], 4)) [0, 1, 2, 3]
theorem tZ_22 {RO : am_O} : tc_lmt tp_G RO tp_T tY_22 := sg_snoc_ok rfl (by decide) (by decide)
def tY_23 : tc_Lm := ql_far 33 tS_33 9
theorem tZ_23 {RO : am_O} : tc_lmt tp_G RO tp_T tY_23 := ql_far_ok rfl
def tY_24 : tc_Lm := sg_snoc 23 tS_23 ([([(0, 1)], -48), ([(0, -1)], 48), ([(1, -1)], 127)], ([], 2)) [0, 1]
theorem tZ_24 {RO : am_O} : tc_lmt tp_G RO tp_T tY_24 := sg_snoc_ok rfl (by decide) (by decide)
def tY_25 : tc_Lm := ql_nil 35 tS_35
theorem tZ_25 {RO : am_O} : tc_lmt tp_G RO tp_T tY_25 := ql_nil_ok rfl
def tY_26 : tc_Lm := ql_open 35 tS_35
theorem tZ_26 {RO : am_O} : tc_lmt tp_G RO tp_T tY_26 := ql_open_ok rfl
def tY_27 : tc_Lm := ql_grow 35 tS_35
theorem tZ_27 {RO : am_O} : tc_lmt tp_G RO tp_T tY_27 := ql_grow_ok rfl
def tY_28 : tc_Lm := ql_shut 35 tS_35
theorem tZ_28 {RO : am_O} : tc_lmt tp_G RO tp_T tY_28 := ql_shut_ok rfl
def tY_29 : tc_Lm := ql_nil 36 tS_36
theorem tZ_29 {RO : am_O} : tc_lmt tp_G RO tp_T tY_29 := ql_nil_ok rfl
def tY_30 : tc_Lm := ql_open 36 tS_36
theorem tZ_30 {RO : am_O} : tc_lmt tp_G RO tp_T tY_30 := ql_open_ok rfl
def tY_31 : tc_Lm := ql_grow 36 tS_36
theorem tZ_31 {RO : am_O} : tc_lmt tp_G RO tp_T tY_31 := ql_grow_ok rfl
def tY_32 : tc_Lm := ql_shut 36 tS_36
theorem tZ_32 {RO : am_O} : tc_lmt tp_G RO tp_T tY_32 := ql_shut_ok rfl
def tY_33 : tc_Lm := ql_grow 33 tS_33
theorem tZ_33 {RO : am_O} : tc_lmt tp_G RO tp_T tY_33 := ql_grow_ok rfl
def tY_34 : tc_Lm := ql_shut 33 tS_33
theorem tZ_34 {RO : am_O} : tc_lmt tp_G RO tp_T tY_34 := ql_shut_ok rfl
def tY_35 : tc_Lm := sg_snoc 23 tS_23 ([([(0, 1)], -48), ([(0, -1)], 48), ([(1, 1)], -129), ([(1, -1)], 129)], ([], 3)) [0, 1]
theorem tZ_35 {RO : am_O} : tc_lmt tp_G RO tp_T tY_35 := sg_snoc_ok rfl (by decide) (by decide)
def tY_36 : tc_Lm := sg_snoc 23 tS_23 ([([(0, 1)], -48), ([(0, -1)], 48), ([(1, 1)], -130), ([(1, -1)], 130)], ([], 4)) [0, 1]
theorem tZ_36 {RO : am_O} : tc_lmt tp_G RO tp_T tY_36 := sg_snoc_ok rfl (by decide) (by decide)
def tY_37 : tc_Lm := sg_eq 27
theorem tZ_37 {RO : am_O} : tc_lmt tp_G RO tp_T tY_37 := sg_eq_ok (S := tS_27) rfl
def tY_38 : tc_Lm := ql_use 33 tS_33 false
theorem tZ_38 {RO : am_O} : tc_lmt tp_G RO tp_T tY_38 := ql_use_ok rfl
def tY_39 : tc_Lm := ql_use 36 tS_36 false
theorem tZ_39 {RO : am_O} : tc_lmt tp_G RO tp_T tY_39 := ql_use_ok rfl
def tY_40 : tc_Lm := ql_use 35 tS_35 false
theorem tZ_40 {RO : am_O} : tc_lmt tp_G RO tp_T tY_40 := ql_use_ok rfl
def tY_41 : tc_Lm := ql_far 35 tS_35 9
theorem tZ_41 {RO : am_O} : tc_lmt tp_G RO tp_T tY_41 := ql_far_ok rfl
def tY_42 : tc_Lm := ql_far 36 tS_36 9
theorem tZ_42 {RO : am_O} : tc_lmt tp_G RO tp_T tY_42 := ql_far_ok rfl
def tY_43 : tc_Lm := ql_less 33 tS_33 true
theorem tZ_43 {RO : am_O} : tc_lmt tp_G RO tp_T tY_43 := ql_less_ok rfl
def tY_44 : tc_Lm := ql_less 34 tS_34 true
theorem tZ_44 {RO : am_O} : tc_lmt tp_G RO tp_T tY_44 := ql_less_ok rfl
def tY_45 : tc_Lm := el_eq
theorem tZ_45 {RO : am_O} : tc_lmt tp_G RO tp_T tY_45 := el_eq_ok
def tY_46 : tc_Lm := ql_use 38 tS_38 false
theorem tZ_46 {RO : am_O} : tc_lmt tp_G RO tp_T tY_46 := ql_use_ok rfl
def tY_47 : tc_Lm := ni_nil 7 34
theorem tZ_47 {RO : am_O} : tc_lmt tp_G RO tp_T tY_47 := ni_nil_ok rfl
def tY_48 : tc_Lm := ni_less 7
theorem tZ_48 {RO : am_O} : tc_lmt tp_G RO tp_T tY_48 := ni_less_ok (k := 34) rfl
def tY_49 : tc_Lm := ni_snoc 7 34 true
theorem tZ_49 {RO : am_O} : tc_lmt tp_G RO tp_T tY_49 := ni_snoc_ok rfl
def tY_50 : tc_Lm := ni_snoc 7 34 false
theorem tZ_50 {RO : am_O} : tc_lmt tp_G RO tp_T tY_50 := ni_snoc_ok rfl
def tY_51 : tc_Lm := da_bd 8 7 tS_8
theorem tZ_51 {RO : am_O} : tc_lmt tp_G RO tp_T tY_51 := da_bd_ok rfl rfl
def tY_52 : tc_Lm := ni_put 7
theorem tZ_52 {RO : am_O} : tc_lmt tp_G RO tp_T tY_52 := ni_put_ok (k := 34) rfl
def tY_53 : tc_Lm := da_p1 8
theorem tZ_53 {RO : am_O} : tc_lmt tp_G RO tp_T tY_53 := da_p1_ok (S := tS_8) rfl (by decide)
def tY_54 : tc_Lm := da_p2 8 7
theorem tZ_54 {RO : am_O} : tc_lmt tp_G RO tp_T tY_54 := da_p2_ok (S := tS_8) rfl rfl (by decide)
def tY_55 : tc_Lm := ql_use 22 tS_22 false
theorem tZ_55 {RO : am_O} : tc_lmt tp_G RO tp_T tY_55 := ql_use_ok rfl
def tY_56 : tc_Lm := ql_use 21 tS_21 false
theorem tZ_56 {RO : am_O} : tc_lmt tp_G RO tp_T tY_56 := ql_use_ok rfl
def tY_57 : tc_Lm := ql_use 3 tS_3 false
theorem tZ_57 {RO : am_O} : tc_lmt tp_G RO tp_T tY_57 := ql_use_ok rfl
def tY_58 : tc_Lm := ql_use 4 tS_4 false
theorem tZ_58 {RO : am_O} : tc_lmt tp_G RO tp_T tY_58 := ql_use_ok rfl
def tY_59 : tc_Lm := ql_use 5 tS_5 false
theorem tZ_59 {RO : am_O} : tc_lmt tp_G RO tp_T tY_59 := ql_use_ok rfl
def tY_60 : tc_Lm := ql_open 22 tS_22
theorem tZ_60 {RO : am_O} : tc_lmt tp_G RO tp_T tY_60 := ql_open_ok rfl
def tY_61 : tc_Lm := ql_open 21 tS_21
theorem tZ_61 {RO : am_O} : tc_lmt tp_G RO tp_T tY_61 := ql_open_ok rfl
def tY_62 : tc_Lm := ql_shut 22 tS_22
theorem tZ_62 {RO : am_O} : tc_lmt tp_G RO tp_T tY_62 := ql_shut_ok rfl
def tY_63 : tc_Lm := ql_use 14 tS_14 false
theorem tZ_63 {RO : am_O} : tc_lmt tp_G RO tp_T tY_63 := ql_use_ok rfl
def tY_64 : tc_Lm := ql_use 15 tS_15 false
theorem tZ_64 {RO : am_O} : tc_lmt tp_G RO tp_T tY_64 := ql_use_ok rfl
def tY_65 : tc_Lm := ql_use 16 tS_16 false
theorem tZ_65 {RO : am_O} : tc_lmt tp_G RO tp_T tY_65 := ql_use_ok rfl
def tY_66 : tc_Lm := ql_use 17 tS_17 false
theorem tZ_66 {RO : am_O} : tc_lmt tp_G RO tp_T tY_66 := ql_use_ok rfl
def tY_67 : tc_Lm := ql_miss 20 tS_20 86 [1, 0]
theorem tZ_67 {RO : am_O} : tc_lmt tp_G RO tp_T tY_67 := ql_miss_ok rfl (by decide) (by decide)
def tY_68 : tc_Lm := ql_miss 21 tS_21 86 [1, 0]
theorem tZ_68 {RO : am_O} : tc_lmt tp_G RO tp_T tY_68 := ql_miss_ok rfl (by decide) (by decide)
def tY_69 : tc_Lm := ql_put 22 tS_22 86 [0, 0]
theorem tZ_69 {RO : am_O} : tc_lmt tp_G RO tp_T tY_69 := ql_put_ok rfl (by decide)
def tY_70 : tc_Lm := ql_shut 21 tS_21
theorem tZ_70 {RO : am_O} : tc_lmt tp_G RO tp_T tY_70 := ql_shut_ok rfl
def tY_71 : tc_Lm := ql_open 20 tS_20
theorem tZ_71 {RO : am_O} : tc_lmt tp_G RO tp_T tY_71 := ql_open_ok rfl
def tY_72 : tc_Lm := ql_put 20 tS_20 86 [0, 0]
theorem tZ_72 {RO : am_O} : tc_lmt tp_G RO tp_T tY_72 := ql_put_ok rfl (by decide)
def tY_73 : tc_Lm := ql_put 21 tS_21 86 [0, 0]
theorem tZ_73 {RO : am_O} : tc_lmt tp_G RO tp_T tY_73 := ql_put_ok rfl (by decide)
def tY_74 : tc_Lm := ql_miss 22 tS_22 86 [1, 0]
theorem tZ_74 {RO : am_O} : tc_lmt tp_G RO tp_T tY_74 := ql_miss_ok rfl (by decide) (by decide)
def tY_75 : tc_Lm := ql_less 20 tS_20 true
theorem tZ_75 {RO : am_O} : tc_lmt tp_G RO tp_T tY_75 := ql_less_ok rfl
def tY_76 : tc_Lm := ql_miss 21 tS_21 95 [0, 1]
theorem tZ_76 {RO : am_O} : tc_lmt tp_G RO tp_T tY_76 := ql_miss_ok rfl (by decide) (by decide)
def tY_77 : tc_Lm := ql_put 22 tS_22 95 [0, 0]
theorem tZ_77 {RO : am_O} : tc_lmt tp_G RO tp_T tY_77 := ql_put_ok rfl (by decide)
def tY_78 : tc_Lm := ql_open 14 tS_14
theorem tZ_78 {RO : am_O} : tc_lmt tp_G RO tp_T tY_78 := ql_open_ok rfl
def tY_79 : tc_Lm := ql_put 14 tS_14 99 [0, 0, 0]
theorem tZ_79 {RO : am_O} : tc_lmt tp_G RO tp_T tY_79 := ql_put_ok rfl (by decide)
def tY_80 : tc_Lm := ql_open 15 tS_15
theorem tZ_80 {RO : am_O} : tc_lmt tp_G RO tp_T tY_80 := ql_open_ok rfl
def tY_81 : tc_Lm := ql_put 15 tS_15 99 [0, 0, 0]
theorem tZ_81 {RO : am_O} : tc_lmt tp_G RO tp_T tY_81 := ql_put_ok rfl (by decide)
def tY_82 : tc_Lm := ql_open 16 tS_16
theorem tZ_82 {RO : am_O} : tc_lmt tp_G RO tp_T tY_82 := ql_open_ok rfl
def tY_83 : tc_Lm := ql_put 16 tS_16 99 [0, 0]
theorem tZ_83 {RO : am_O} : tc_lmt tp_G RO tp_T tY_83 := ql_put_ok rfl (by decide)
def tY_84 : tc_Lm := ql_open 17 tS_17
theorem tZ_84 {RO : am_O} : tc_lmt tp_G RO tp_T tY_84 := ql_open_ok rfl
def tY_85 : tc_Lm := ql_put 17 tS_17 99 [0, 0]
theorem tZ_85 {RO : am_O} : tc_lmt tp_G RO tp_T tY_85 := ql_put_ok rfl (by decide)
def tY_86 : tc_Lm := ql_shut 16 tS_16
theorem tZ_86 {RO : am_O} : tc_lmt tp_G RO tp_T tY_86 := ql_shut_ok rfl
def tY_87 : tc_Lm := ql_put 15 tS_15 105 [0, 0, 0]
theorem tZ_87 {RO : am_O} : tc_lmt tp_G RO tp_T tY_87 := ql_put_ok rfl (by decide)
def tY_88 : tc_Lm := ql_put 14 tS_14 105 [0, 0, 0]
theorem tZ_88 {RO : am_O} : tc_lmt tp_G RO tp_T tY_88 := ql_put_ok rfl (by decide)
def tY_89 : tc_Lm := ql_shut 14 tS_14
theorem tZ_89 {RO : am_O} : tc_lmt tp_G RO tp_T tY_89 := ql_shut_ok rfl
def tY_90 : tc_Lm := ql_shut 15 tS_15
theorem tZ_90 {RO : am_O} : tc_lmt tp_G RO tp_T tY_90 := ql_shut_ok rfl
def tY_91 : tc_Lm := ql_put 21 tS_21 95 [0, 0]
theorem tZ_91 {RO : am_O} : tc_lmt tp_G RO tp_T tY_91 := ql_put_ok rfl (by decide)
def tY_92 : tc_Lm := ql_miss 22 tS_22 95 [0, 1]
theorem tZ_92 {RO : am_O} : tc_lmt tp_G RO tp_T tY_92 := ql_miss_ok rfl (by decide) (by decide)
def tY_93 : tc_Lm := ql_miss 14 tS_14 99 [0, 0, 1]
theorem tZ_93 {RO : am_O} : tc_lmt tp_G RO tp_T tY_93 := ql_miss_ok rfl (by decide) (by decide)
def tY_94 : tc_Lm := ql_miss 15 tS_15 99 [0, 0, 1]
theorem tZ_94 {RO : am_O} : tc_lmt tp_G RO tp_T tY_94 := ql_miss_ok rfl (by decide) (by decide)
def tY_95 : tc_Lm := ql_miss 16 tS_16 99 [1, 0]
theorem tZ_95 {RO : am_O} : tc_lmt tp_G RO tp_T tY_95 := ql_miss_ok rfl (by decide) (by decide)
def tY_96 : tc_Lm := ql_miss 17 tS_17 99 [1, 0]
theorem tZ_96 {RO : am_O} : tc_lmt tp_G RO tp_T tY_96 := ql_miss_ok rfl (by decide) (by decide)
def tY_97 : tc_Lm := ql_miss 15 tS_15 105 [1, 0, 0]
theorem tZ_97 {RO : am_O} : tc_lmt tp_G RO tp_T tY_97 := ql_miss_ok rfl (by decide) (by decide)
def tY_98 : tc_Lm := ql_miss 14 tS_14 105 [1, 0, 0]
theorem tZ_98 {RO : am_O} : tc_lmt tp_G RO tp_T tY_98 := ql_miss_ok rfl (by decide) (by decide)
def tp_L : List tc_Lm := [tY_0, tY_1, tY_2, tY_3, tY_4, tY_5, tY_6, tY_7, tY_8, tY_9, tY_10, tY_11, tY_12, tY_13, tY_14, tY_15, tY_16, tY_17, tY_18, tY_19, tY_20, tY_21, tY_22, tY_23, tY_24, tY_25, tY_26, tY_27, tY_28, tY_29, tY_30, tY_31, tY_32, tY_33, tY_34, tY_35, tY_36, tY_37, tY_38, tY_39, tY_40, tY_41, tY_42, tY_43, tY_44, tY_45, tY_46, tY_47, tY_48, tY_49, tY_50, tY_51, tY_52, tY_53, tY_54, tY_55, tY_56, tY_57, tY_58, tY_59, tY_60, tY_61, tY_62, tY_63, tY_64, tY_65, tY_66, tY_67, tY_68, tY_69, tY_70, tY_71, tY_72, tY_73, tY_74, tY_75, tY_76, tY_77, tY_78, tY_79, tY_80, tY_81, tY_82, tY_83, tY_84, tY_85, tY_86, tY_87, tY_88, tY_89, tY_90, tY_91, tY_92, tY_93, tY_94, tY_95, tY_96, tY_97, tY_98]
theorem tp_L_ok {RO : am_O} : ∀ c ∈ tp_L, tc_lmt tp_G RO tp_T c := by
  intro c h
  rcases List.mem_cons.mp h with rfl | h
  · exact tZ_0
  rcases List.mem_cons.mp h with rfl | h
  · exact tZ_1
  rcases List.mem_cons.mp h with rfl | h
  · exact tZ_2
  rcases List.mem_cons.mp h with rfl | h
  · exact tZ_3
  rcases List.mem_cons.mp h with rfl | h
  · exact tZ_4
  rcases List.mem_cons.mp h with rfl | h
  · exact tZ_5
  rcases List.mem_cons.mp h with rfl | h
  · exact tZ_6
  rcases List.mem_cons.mp h with rfl | h
  · exact tZ_7
  rcases List.mem_cons.mp h with rfl | h
  · exact tZ_8
  rcases List.mem_cons.mp h with rfl | h
  · exact tZ_9
  rcases List.mem_cons.mp h with rfl | h
  · exact tZ_10
  rcases List.mem_cons.mp h with rfl | h
  · exact tZ_11
  rcases List.mem_cons.mp h with rfl | h
  · exact tZ_12
  rcases List.mem_cons.mp h with rfl | h
  · exact tZ_13
  rcases List.mem_cons.mp h with rfl | h
  · exact tZ_14
  rcases List.mem_cons.mp h with rfl | h
  · exact tZ_15
  rcases List.mem_cons.mp h with rfl | h
  · exact tZ_16
  rcases List.mem_cons.mp h with rfl | h
  · exact tZ_17
  rcases List.mem_cons.mp h with rfl | h
  · exact tZ_18
  rcases List.mem_cons.mp h with rfl | h
  · exact tZ_19
  rcases List.mem_cons.mp h with rfl | h
  · exact tZ_20
  rcases List.mem_cons.mp h with rfl | h
  · exact tZ_21
  rcases List.mem_cons.mp h with rfl | h
  · exact tZ_22
  rcases List.mem_cons.mp h with rfl | h
  · exact tZ_23
  rcases List.mem_cons.mp h with rfl | h
  · exact tZ_24
  rcases List.mem_cons.mp h with rfl | h
  · exact tZ_25
  rcases List.mem_cons.mp h with rfl | h
  · exact tZ_26
  rcases List.mem_cons.mp h with rfl | h
  · exact tZ_27
  rcases List.mem_cons.mp h with rfl | h
  · exact tZ_28
  rcases List.mem_cons.mp h with rfl | h
  · exact tZ_29
  rcases List.mem_cons.mp h with rfl | h
  · exact tZ_30
  rcases List.mem_cons.mp h with rfl | h
  · exact tZ_31
  rcases List.mem_cons.mp h with rfl | h
  · exact tZ_32
  rcases List.mem_cons.mp h with rfl | h
  · exact tZ_33
  rcases List.mem_cons.mp h with rfl | h
  · exact tZ_34
  rcases List.mem_cons.mp h with rfl | h
  · exact tZ_35
  rcases List.mem_cons.mp h with rfl | h
  · exact tZ_36
  rcases List.mem_cons.mp h with rfl | h
  · exact tZ_37
  rcases List.mem_cons.mp h with rfl | h
  · exact tZ_38
  rcases List.mem_cons.mp h with rfl | h
  · exact tZ_39
  rcases List.mem_cons.mp h with rfl | h
  · exact tZ_40
  rcases List.mem_cons.mp h with rfl | h
  · exact tZ_41
  rcases List.mem_cons.mp h with rfl | h
  · exact tZ_42
  rcases List.mem_cons.mp h with rfl | h
  · exact tZ_43
  rcases List.mem_cons.mp h with rfl | h
  · exact tZ_44
  rcases List.mem_cons.mp h with rfl | h
  · exact tZ_45
  rcases List.mem_cons.mp h with rfl | h
  · exact tZ_46
  rcases List.mem_cons.mp h with rfl | h
  · exact tZ_47
  rcases List.mem_cons.mp h with rfl | h
  · exact tZ_48
  rcases List.mem_cons.mp h with rfl | h
  · exact tZ_49
  rcases List.mem_cons.mp h with rfl | h
  · exact tZ_50
  rcases List.mem_cons.mp h with rfl | h
  · exact tZ_51
  rcases List.mem_cons.mp h with rfl | h
  · exact tZ_52
  rcases List.mem_cons.mp h with rfl | h
  · exact tZ_53
  rcases List.mem_cons.mp h with rfl | h
  · exact tZ_54
  rcases List.mem_cons.mp h with rfl | h
  · exact tZ_55
  rcases List.mem_cons.mp h with rfl | h
  · exact tZ_56
  rcases List.mem_cons.mp h with rfl | h
  · exact tZ_57
  rcases List.mem_cons.mp h with rfl | h
  · exact tZ_58
  rcases List.mem_cons.mp h with rfl | h
  · exact tZ_59
  rcases List.mem_cons.mp h with rfl | h
  · exact tZ_60
  rcases List.mem_cons.mp h with rfl | h
  · exact tZ_61
  rcases List.mem_cons.mp h with rfl | h
  · exact tZ_62
  rcases List.mem_cons.mp h with rfl | h
  · exact tZ_63
  rcases List.mem_cons.mp h with rfl | h
  · exact tZ_64
  rcases List.mem_cons.mp h with rfl | h
  · exact tZ_65
  rcases List.mem_cons.mp h with rfl | h
  · exact tZ_66
  rcases List.mem_cons.mp h with rfl | h
  · exact tZ_67
  rcases List.mem_cons.mp h with rfl | h
  · exact tZ_68
  rcases List.mem_cons.mp h with rfl | h
  · exact tZ_69
  rcases List.mem_cons.mp h with rfl | h
  · exact tZ_70
  rcases List.mem_cons.mp h with rfl | h
  · exact tZ_71
  rcases List.mem_cons.mp h with rfl | h
  · exact tZ_72
  rcases List.mem_cons.mp h with rfl | h
  · exact tZ_73
  rcases List.mem_cons.mp h with rfl | h
  · exact tZ_74
  rcases List.mem_cons.mp h with rfl | h
  · exact tZ_75
  rcases List.mem_cons.mp h with rfl | h
  · exact tZ_76
  rcases List.mem_cons.mp h with rfl | h
  · exact tZ_77
  rcases List.mem_cons.mp h with rfl | h
  · exact tZ_78
  rcases List.mem_cons.mp h with rfl | h
  · exact tZ_79
  rcases List.mem_cons.mp h with rfl | h
  · exact tZ_80
  rcases List.mem_cons.mp h with rfl | h
  · exact tZ_81
  rcases List.mem_cons.mp h with rfl | h
  · exact tZ_82
  rcases List.mem_cons.mp h with rfl | h
  · exact tZ_83
  rcases List.mem_cons.mp h with rfl | h
  · exact tZ_84
  rcases List.mem_cons.mp h with rfl | h
  · exact tZ_85
  rcases List.mem_cons.mp h with rfl | h
  · exact tZ_86
  rcases List.mem_cons.mp h with rfl | h
  · exact tZ_87
  rcases List.mem_cons.mp h with rfl | h
  · exact tZ_88
  rcases List.mem_cons.mp h with rfl | h
  · exact tZ_89
  rcases List.mem_cons.mp h with rfl | h
  · exact tZ_90
  rcases List.mem_cons.mp h with rfl | h
  · exact tZ_91
  rcases List.mem_cons.mp h with rfl | h
  · exact tZ_92
  rcases List.mem_cons.mp h with rfl | h
  · exact tZ_93
  rcases List.mem_cons.mp h with rfl | h
  · exact tZ_94
  rcases List.mem_cons.mp h with rfl | h
  · exact tZ_95
  rcases List.mem_cons.mp h with rfl | h
  · exact tZ_96
  rcases List.mem_cons.mp h with rfl | h
  · exact tZ_97
  rcases List.mem_cons.mp h with rfl | h
  · exact tZ_98
  cases h
