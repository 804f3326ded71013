/-! SX: instructions of the program, checked -/
abbrev sx_IL : Type := List (Nat × Instr × Nat)
theorem sx_ite {α : Type} {p : α → Prop} {c : Prop} [Decidable c] {a b : α} (ha : p a) (hb : p b) : p (if c then a else b) := by
  split
  · exact ha
  · exact hb
def sx_iOk (cc : ByteArray) (l : sx_IL) : Prop := ∀ q ∈ l, decode cc q.1 = .ok q.2
theorem sx_iN (cc : ByteArray) : sx_iOk cc [] := fun q hq => by cases hq
theorem sx_iC {cc : ByteArray} {pc n : Nat} {i : Instr} {l : sx_IL} (h : decode cc pc = .ok (i, n)) (g : sx_iOk cc l) : sx_iOk cc ((pc, i, n) :: l) := by
  intro q hq
  rcases List.mem_cons.mp hq with rfl | hq
  · exact h
  · exact g q hq
def sx_iB (cc : ByteArray) (l : sx_IL) : Bool := l.all (fun q => decide (decode cc q.1 = .ok q.2))
theorem sx_iB_s {cc : ByteArray} {l : sx_IL} (h : sx_iB cc l = true) : sx_iOk cc l := fun q hq => of_decide_eq_true (List.all_eq_true.mp h q hq)
def sx_iF (l : sx_IL) (pc : Nat) : Option (Instr × Nat) := (l.find? (fun q => q.1 == pc)).map (fun q => q.2)
theorem sx_iF_s {cc : ByteArray} {l : sx_IL} (h : sx_iOk cc l) {pc : Nat} {r : Instr × Nat} (e : sx_iF l pc = some r) : decode cc pc = .ok r := by
  unfold sx_iF at e
  obtain ⟨q, h1, rfl⟩ := Option.map_eq_some_iff.mp e
  have h2 : (q.1 == pc) = true := List.find?_some (p := fun q : Nat × Instr × Nat => q.1 == pc) h1
  rw [← eq_of_beq h2]
  exact h q (List.mem_of_find?_eq_some h1)
def sx_P1 (f : Nat → Option (Instr × Nat)) (y : Nat) : Prop := ∀ pc r, f pc = some r → ∀ mt, am_meth (aP (fun i => i)) y = some mt → decode mt.2.1 pc = .ok r
def aI_561_0 : sx_IL := [(0, .new 7, 3), (3, .dup, 1), (4, .invokespecial 9, 3), (7, .astore_n 1, 1), (8, .new 10, 3), (11, .dup, 1)]
theorem aJ_561_0 : sx_iB code aI_561_0 = true := by decide +kernel
def aI_561_1 : sx_IL := [(12, .invokespecial 12, 3), (15, .astore_n 2, 1), (16, .iconst 0, 1), (17, .istore_n 3, 1), (18, .iload_n 3, 1), (19, .aload_n 0, 1)]
theorem aJ_561_1 : sx_iB code aI_561_1 = true := by decide +kernel
def aI_561_2 : sx_IL := [(20, .arraylength, 1), (21, .bipush 7, 2), (23, .isub, 1), (24, .if_icmp .gt 3157, 3), (27, .aload_n 0, 1), (28, .iload_n 3, 1)]
theorem aJ_561_2 : sx_iB code aI_561_2 = true := by decide +kernel
def aI_561_3 : sx_IL := [(29, .iaload, 1), (30, .bipush 127, 2), (32, .iand, 1), (33, .tableswitch 3142 0 66 #[283, 346, 369, 392, 405, 428, 452, 516, 632, 747, 862, 895, 939, 962, 996, 1069, 1082, 1115, 1128, 1141, 1154, 1187, 1230, 1253, 1296, 1349, 1372, 1415, 1438, 1481, 1524, 1547, 1580, 1613, 1636, 1709, 1742, 1785, 1808, 1841, 1874, 1917, 1960, 2013, 2046, 2079, 2112, 2155, 2198, 2242, 2276, 2319, 2382, 2415, 2458, 2511, 2554, 2607, 2640, 2673, 2716, 2729, 2792, 2826, 2869, 2912, 3027], 283), (316, .aload_n 1, 1), (317, .aload_n 0, 1)]
theorem aJ_561_3 : sx_iB code aI_561_3 = true := by decide +kernel
def aI_561_4 : sx_IL := [(318, .iload_n 3, 1), (319, .iconst 1, 1), (320, .iadd, 1), (321, .iaload, 1), (322, .aload_n 0, 1), (323, .iload_n 3, 1)]
theorem aJ_561_4 : sx_iB code aI_561_4 = true := by decide +kernel
def aI_561_5 : sx_IL := [(324, .iconst 2, 1), (325, .iadd, 1), (326, .iaload, 1), (327, .i2l, 1), (328, .bipush 32, 2), (330, .lshl, 1)]
theorem aJ_561_5 : sx_iB code aI_561_5 = true := by decide +kernel
def aI_561_6 : sx_IL := [(331, .aload_n 0, 1), (332, .iload_n 3, 1), (333, .iconst 3, 1), (334, .iadd, 1), (335, .iaload, 1), (336, .i2l, 1)]
theorem aJ_561_6 : sx_iB code aI_561_6 = true := by decide +kernel
def aI_561_7 : sx_IL := [(337, .ldc2_w 13, 3), (340, .land, 1), (341, .lor, 1), (342, .invokevirtual 15, 3), (345, .aload_n 2, 1), (346, .aload_n 0, 1)]
theorem aJ_561_7 : sx_iB code aI_561_7 = true := by decide +kernel
def aI_561_8 : sx_IL := [(347, .iload_n 3, 1), (348, .iconst 1, 1), (349, .iadd, 1), (350, .iaload, 1), (351, .aload_n 0, 1), (352, .iload_n 3, 1)]
theorem aJ_561_8 : sx_iB code aI_561_8 = true := by decide +kernel
def aI_561_9 : sx_IL := [(353, .iconst 2, 1), (354, .iadd, 1), (355, .iaload, 1), (356, .i2l, 1), (357, .bipush 32, 2), (359, .lshl, 1)]
theorem aJ_561_9 : sx_iB code aI_561_9 = true := by decide +kernel
def aI_561_10 : sx_IL := [(360, .aload_n 0, 1), (361, .iload_n 3, 1), (362, .iconst 3, 1), (363, .iadd, 1), (364, .iaload, 1), (365, .i2l, 1)]
theorem aJ_561_10 : sx_iB code aI_561_10 = true := by decide +kernel
def aI_561_11 : sx_IL := [(366, .ldc2_w 13, 3), (369, .land, 1), (370, .lor, 1), (371, .invokevirtual 19, 3), (374, .if_icmp .eq 2801, 3), (377, .iconst 0, 1)]
theorem aJ_561_11 : sx_iB code aI_561_11 = true := by decide +kernel
def aI_561_12 : sx_IL := [(378, .ireturn, 1), (379, .aload_n 1, 1), (380, .aload_n 0, 1), (381, .iload_n 3, 1), (382, .iconst 1, 1), (383, .iadd, 1)]
theorem aJ_561_12 : sx_iB code aI_561_12 = true := by decide +kernel
def aI_561_13 : sx_IL := [(384, .iaload, 1), (385, .invokevirtual 20, 3), (388, .aload_n 2, 1), (389, .aload_n 0, 1), (390, .iload_n 3, 1), (391, .iconst 1, 1)]
theorem aJ_561_13 : sx_iB code aI_561_13 = true := by decide +kernel
def aI_561_14 : sx_IL := [(392, .iadd, 1), (393, .iaload, 1), (394, .invokevirtual 24, 3), (397, .if_icmp .eq 2778, 3), (400, .iconst 0, 1), (401, .ireturn, 1)]
theorem aJ_561_14 : sx_iB code aI_561_14 = true := by decide +kernel
def aI_561_15 : sx_IL := [(402, .aload_n 1, 1), (403, .aload_n 0, 1), (404, .iload_n 3, 1), (405, .iconst 1, 1), (406, .iadd, 1), (407, .iaload, 1)]
theorem aJ_561_15 : sx_iB code aI_561_15 = true := by decide +kernel
def aI_561_16 : sx_IL := [(408, .invokevirtual 25, 3), (411, .aload_n 2, 1), (412, .aload_n 0, 1), (413, .iload_n 3, 1), (414, .iconst 1, 1), (415, .iadd, 1)]
theorem aJ_561_16 : sx_iB code aI_561_16 = true := by decide +kernel
def aI_561_17 : sx_IL := [(416, .iaload, 1), (417, .invokevirtual 28, 3), (420, .if_icmp .eq 2755, 3), (423, .iconst 0, 1), (424, .ireturn, 1), (425, .aload_n 1, 1)]
theorem aJ_561_17 : sx_iB code aI_561_17 = true := by decide +kernel
def aI_561_18 : sx_IL := [(426, .invokevirtual 29, 3), (429, .aload_n 2, 1), (430, .invokevirtual 33, 3), (433, .if_icmp .eq 2742, 3), (436, .iconst 0, 1), (437, .ireturn, 1)]
theorem aJ_561_18 : sx_iB code aI_561_18 = true := by decide +kernel
def aI_561_19 : sx_IL := [(438, .aload_n 1, 1), (439, .aload_n 0, 1), (440, .iload_n 3, 1), (441, .iconst 1, 1), (442, .iadd, 1), (443, .iaload, 1)]
theorem aJ_561_19 : sx_iB code aI_561_19 = true := by decide +kernel
def aI_561_20 : sx_IL := [(444, .invokevirtual 34, 3), (447, .aload_n 2, 1), (448, .aload_n 0, 1), (449, .iload_n 3, 1), (450, .iconst 1, 1), (451, .iadd, 1)]
theorem aJ_561_20 : sx_iB code aI_561_20 = true := by decide +kernel
def aI_561_21 : sx_IL := [(452, .iaload, 1), (453, .invokevirtual 37, 3), (456, .if_icmp .eq 2719, 3), (459, .iconst 0, 1), (460, .ireturn, 1), (461, .aload_n 1, 1)]
theorem aJ_561_21 : sx_iB code aI_561_21 = true := by decide +kernel
def aI_561_22 : sx_IL := [(462, .aload_n 0, 1), (463, .iload_n 3, 1), (464, .iconst 1, 1), (465, .iadd, 1), (466, .iaload, 1), (467, .invokevirtual 38, 3)]
theorem aJ_561_22 : sx_iB code aI_561_22 = true := by decide +kernel
def aI_561_23 : sx_IL := [(470, .aload_n 2, 1), (471, .aload_n 0, 1), (472, .iload_n 3, 1), (473, .iconst 1, 1), (474, .iadd, 1), (475, .iaload, 1)]
theorem aJ_561_23 : sx_iB code aI_561_23 = true := by decide +kernel
def aI_561_24 : sx_IL := [(476, .invokevirtual 42, 3), (479, .lcmp, 1), (480, .ifCond .eq 2695, 3), (483, .iconst 0, 1), (484, .ireturn, 1), (485, .aload_n 1, 1)]
theorem aJ_561_24 : sx_iB code aI_561_24 = true := by decide +kernel
def aI_561_25 : sx_IL := [(486, .aload_n 0, 1), (487, .iload_n 3, 1), (488, .iconst 1, 1), (489, .iadd, 1), (490, .iaload, 1), (491, .aload_n 0, 1)]
theorem aJ_561_25 : sx_iB code aI_561_25 = true := by decide +kernel
def aI_561_26 : sx_IL := [(492, .iload_n 3, 1), (493, .iconst 2, 1), (494, .iadd, 1), (495, .iaload, 1), (496, .i2l, 1), (497, .bipush 32, 2)]
theorem aJ_561_26 : sx_iB code aI_561_26 = true := by decide +kernel
def aI_561_27 : sx_IL := [(499, .lshl, 1), (500, .aload_n 0, 1), (501, .iload_n 3, 1), (502, .iconst 3, 1), (503, .iadd, 1), (504, .iaload, 1)]
theorem aJ_561_27 : sx_iB code aI_561_27 = true := by decide +kernel
def aI_561_28 : sx_IL := [(505, .i2l, 1), (506, .ldc2_w 13, 3), (509, .land, 1), (510, .lor, 1), (511, .invokevirtual 43, 3), (514, .aload_n 2, 1)]
theorem aJ_561_28 : sx_iB code aI_561_28 = true := by decide +kernel
def aI_561_29 : sx_IL := [(515, .aload_n 0, 1), (516, .iload_n 3, 1), (517, .iconst 1, 1), (518, .iadd, 1), (519, .iaload, 1), (520, .aload_n 0, 1)]
theorem aJ_561_29 : sx_iB code aI_561_29 = true := by decide +kernel
def aI_561_30 : sx_IL := [(521, .iload_n 3, 1), (522, .iconst 2, 1), (523, .iadd, 1), (524, .iaload, 1), (525, .i2l, 1), (526, .bipush 32, 2)]
theorem aJ_561_30 : sx_iB code aI_561_30 = true := by decide +kernel
def aI_561_31 : sx_IL := [(528, .lshl, 1), (529, .aload_n 0, 1), (530, .iload_n 3, 1), (531, .iconst 3, 1), (532, .iadd, 1), (533, .iaload, 1)]
theorem aJ_561_31 : sx_iB code aI_561_31 = true := by decide +kernel
def aI_561_32 : sx_IL := [(534, .i2l, 1), (535, .ldc2_w 13, 3), (538, .land, 1), (539, .lor, 1), (540, .invokevirtual 47, 3), (543, .lcmp, 1)]
theorem aJ_561_32 : sx_iB code aI_561_32 = true := by decide +kernel
def aI_561_33 : sx_IL := [(544, .ifCond .eq 2631, 3), (547, .iconst 0, 1), (548, .ireturn, 1), (549, .aload_n 1, 1), (550, .aload_n 0, 1), (551, .iload_n 3, 1)]
theorem aJ_561_33 : sx_iB code aI_561_33 = true := by decide +kernel
def aI_561_34 : sx_IL := [(552, .iconst 1, 1), (553, .iadd, 1), (554, .iaload, 1), (555, .aload_n 0, 1), (556, .iload_n 3, 1), (557, .iconst 2, 1)]
theorem aJ_561_34 : sx_iB code aI_561_34 = true := by decide +kernel
def aI_561_35 : sx_IL := [(558, .iadd, 1), (559, .iaload, 1), (560, .i2l, 1), (561, .bipush 32, 2), (563, .lshl, 1), (564, .aload_n 0, 1)]
theorem aJ_561_35 : sx_iB code aI_561_35 = true := by decide +kernel
def aI_561_36 : sx_IL := [(565, .iload_n 3, 1), (566, .iconst 3, 1), (567, .iadd, 1), (568, .iaload, 1), (569, .i2l, 1), (570, .ldc2_w 13, 3)]
theorem aJ_561_36 : sx_iB code aI_561_36 = true := by decide +kernel
def aI_561_37 : sx_IL := [(573, .land, 1), (574, .lor, 1), (575, .aload_n 0, 1), (576, .iload_n 3, 1), (577, .iconst 4, 1), (578, .iadd, 1)]
theorem aJ_561_37 : sx_iB code aI_561_37 = true := by decide +kernel
def aI_561_38 : sx_IL := [(579, .iaload, 1), (580, .aload_n 0, 1), (581, .iload_n 3, 1), (582, .iconst 5, 1), (583, .iadd, 1), (584, .iaload, 1)]
theorem aJ_561_38 : sx_iB code aI_561_38 = true := by decide +kernel
def aI_561_39 : sx_IL := [(585, .i2l, 1), (586, .bipush 32, 2), (588, .lshl, 1), (589, .aload_n 0, 1), (590, .iload_n 3, 1), (591, .bipush 6, 2)]
theorem aJ_561_39 : sx_iB code aI_561_39 = true := by decide +kernel
def aI_561_40 : sx_IL := [(593, .iadd, 1), (594, .iaload, 1), (595, .i2l, 1), (596, .ldc2_w 13, 3), (599, .land, 1), (600, .lor, 1)]
theorem aJ_561_40 : sx_iB code aI_561_40 = true := by decide +kernel
def aI_561_41 : sx_IL := [(601, .invokevirtual 48, 3), (604, .aload_n 2, 1), (605, .aload_n 0, 1), (606, .iload_n 3, 1), (607, .iconst 1, 1), (608, .iadd, 1)]
theorem aJ_561_41 : sx_iB code aI_561_41 = true := by decide +kernel
def aI_561_42 : sx_IL := [(609, .iaload, 1), (610, .aload_n 0, 1), (611, .iload_n 3, 1), (612, .iconst 2, 1), (613, .iadd, 1), (614, .iaload, 1)]
theorem aJ_561_42 : sx_iB code aI_561_42 = true := by decide +kernel
def aI_561_43 : sx_IL := [(615, .i2l, 1), (616, .bipush 32, 2), (618, .lshl, 1), (619, .aload_n 0, 1), (620, .iload_n 3, 1), (621, .iconst 3, 1)]
theorem aJ_561_43 : sx_iB code aI_561_43 = true := by decide +kernel
def aI_561_44 : sx_IL := [(622, .iadd, 1), (623, .iaload, 1), (624, .i2l, 1), (625, .ldc2_w 13, 3), (628, .land, 1), (629, .lor, 1)]
theorem aJ_561_44 : sx_iB code aI_561_44 = true := by decide +kernel
def aI_561_45 : sx_IL := [(630, .aload_n 0, 1), (631, .iload_n 3, 1), (632, .iconst 4, 1), (633, .iadd, 1), (634, .iaload, 1), (635, .aload_n 0, 1)]
theorem aJ_561_45 : sx_iB code aI_561_45 = true := by decide +kernel
def aI_561_46 : sx_IL := [(636, .iload_n 3, 1), (637, .iconst 5, 1), (638, .iadd, 1), (639, .iaload, 1), (640, .i2l, 1), (641, .bipush 32, 2)]
theorem aJ_561_46 : sx_iB code aI_561_46 = true := by decide +kernel
def aI_561_47 : sx_IL := [(643, .lshl, 1), (644, .aload_n 0, 1), (645, .iload_n 3, 1), (646, .bipush 6, 2), (648, .iadd, 1), (649, .iaload, 1)]
theorem aJ_561_47 : sx_iB code aI_561_47 = true := by decide +kernel
def aI_561_48 : sx_IL := [(650, .i2l, 1), (651, .ldc2_w 13, 3), (654, .land, 1), (655, .lor, 1), (656, .invokevirtual 52, 3), (659, .lcmp, 1)]
theorem aJ_561_48 : sx_iB code aI_561_48 = true := by decide +kernel
def aI_561_49 : sx_IL := [(660, .ifCond .eq 2515, 3), (663, .iconst 0, 1), (664, .ireturn, 1), (665, .aload_n 1, 1), (666, .aload_n 0, 1), (667, .iload_n 3, 1)]
theorem aJ_561_49 : sx_iB code aI_561_49 = true := by decide +kernel
def aI_561_50 : sx_IL := [(668, .iconst 1, 1), (669, .iadd, 1), (670, .iaload, 1), (671, .aload_n 0, 1), (672, .iload_n 3, 1), (673, .iconst 2, 1)]
theorem aJ_561_50 : sx_iB code aI_561_50 = true := by decide +kernel
def aI_561_51 : sx_IL := [(674, .iadd, 1), (675, .iaload, 1), (676, .i2l, 1), (677, .bipush 32, 2), (679, .lshl, 1), (680, .aload_n 0, 1)]
theorem aJ_561_51 : sx_iB code aI_561_51 = true := by decide +kernel
def aI_561_52 : sx_IL := [(681, .iload_n 3, 1), (682, .iconst 3, 1), (683, .iadd, 1), (684, .iaload, 1), (685, .i2l, 1), (686, .ldc2_w 13, 3)]
theorem aJ_561_52 : sx_iB code aI_561_52 = true := by decide +kernel
def aI_561_53 : sx_IL := [(689, .land, 1), (690, .lor, 1), (691, .aload_n 0, 1), (692, .iload_n 3, 1), (693, .iconst 4, 1), (694, .iadd, 1)]
theorem aJ_561_53 : sx_iB code aI_561_53 = true := by decide +kernel
def aI_561_54 : sx_IL := [(695, .iaload, 1), (696, .i2l, 1), (697, .bipush 32, 2), (699, .lshl, 1), (700, .aload_n 0, 1), (701, .iload_n 3, 1)]
theorem aJ_561_54 : sx_iB code aI_561_54 = true := by decide +kernel
def aI_561_55 : sx_IL := [(702, .iconst 5, 1), (703, .iadd, 1), (704, .iaload, 1), (705, .i2l, 1), (706, .ldc2_w 13, 3), (709, .land, 1)]
theorem aJ_561_55 : sx_iB code aI_561_55 = true := by decide +kernel
def aI_561_56 : sx_IL := [(710, .lor, 1), (711, .aload_n 0, 1), (712, .iload_n 3, 1), (713, .bipush 6, 2), (715, .iadd, 1), (716, .iaload, 1)]
theorem aJ_561_56 : sx_iB code aI_561_56 = true := by decide +kernel
def aI_561_57 : sx_IL := [(717, .invokevirtual 53, 3), (720, .aload_n 2, 1), (721, .aload_n 0, 1), (722, .iload_n 3, 1), (723, .iconst 1, 1), (724, .iadd, 1)]
theorem aJ_561_57 : sx_iB code aI_561_57 = true := by decide +kernel
def aI_561_58 : sx_IL := [(725, .iaload, 1), (726, .aload_n 0, 1), (727, .iload_n 3, 1), (728, .iconst 2, 1), (729, .iadd, 1), (730, .iaload, 1)]
theorem aJ_561_58 : sx_iB code aI_561_58 = true := by decide +kernel
def aI_561_59 : sx_IL := [(731, .i2l, 1), (732, .bipush 32, 2), (734, .lshl, 1), (735, .aload_n 0, 1), (736, .iload_n 3, 1), (737, .iconst 3, 1)]
theorem aJ_561_59 : sx_iB code aI_561_59 = true := by decide +kernel
def aI_561_60 : sx_IL := [(738, .iadd, 1), (739, .iaload, 1), (740, .i2l, 1), (741, .ldc2_w 13, 3), (744, .land, 1), (745, .lor, 1)]
theorem aJ_561_60 : sx_iB code aI_561_60 = true := by decide +kernel
def aI_561_61 : sx_IL := [(746, .aload_n 0, 1), (747, .iload_n 3, 1), (748, .iconst 4, 1), (749, .iadd, 1), (750, .iaload, 1), (751, .i2l, 1)]
theorem aJ_561_61 : sx_iB code aI_561_61 = true := by decide +kernel
def aI_561_62 : sx_IL := [(752, .bipush 32, 2), (754, .lshl, 1), (755, .aload_n 0, 1), (756, .iload_n 3, 1), (757, .iconst 5, 1), (758, .iadd, 1)]
theorem aJ_561_62 : sx_iB code aI_561_62 = true := by decide +kernel
def aI_561_63 : sx_IL := [(759, .iaload, 1), (760, .i2l, 1), (761, .ldc2_w 13, 3), (764, .land, 1), (765, .lor, 1), (766, .aload_n 0, 1)]
theorem aJ_561_63 : sx_iB code aI_561_63 = true := by decide +kernel
def aI_561_64 : sx_IL := [(767, .iload_n 3, 1), (768, .bipush 6, 2), (770, .iadd, 1), (771, .iaload, 1), (772, .invokevirtual 57, 3), (775, .if_icmp .eq 2400, 3)]
theorem aJ_561_64 : sx_iB code aI_561_64 = true := by decide +kernel
def aI_561_65 : sx_IL := [(778, .iconst 0, 1), (779, .ireturn, 1), (780, .aload_n 1, 1), (781, .aload_n 0, 1), (782, .iload_n 3, 1), (783, .iconst 1, 1)]
theorem aJ_561_65 : sx_iB code aI_561_65 = true := by decide +kernel
def aI_561_66 : sx_IL := [(784, .iadd, 1), (785, .iaload, 1), (786, .aload_n 0, 1), (787, .iload_n 3, 1), (788, .iconst 2, 1), (789, .iadd, 1)]
theorem aJ_561_66 : sx_iB code aI_561_66 = true := by decide +kernel
def aI_561_67 : sx_IL := [(790, .iaload, 1), (791, .i2l, 1), (792, .bipush 32, 2), (794, .lshl, 1), (795, .aload_n 0, 1), (796, .iload_n 3, 1)]
theorem aJ_561_67 : sx_iB code aI_561_67 = true := by decide +kernel
def aI_561_68 : sx_IL := [(797, .iconst 3, 1), (798, .iadd, 1), (799, .iaload, 1), (800, .i2l, 1), (801, .ldc2_w 13, 3), (804, .land, 1)]
theorem aJ_561_68 : sx_iB code aI_561_68 = true := by decide +kernel
def aI_561_69 : sx_IL := [(805, .lor, 1), (806, .aload_n 0, 1), (807, .iload_n 3, 1), (808, .iconst 4, 1), (809, .iadd, 1), (810, .iaload, 1)]
theorem aJ_561_69 : sx_iB code aI_561_69 = true := by decide +kernel
def aI_561_70 : sx_IL := [(811, .i2l, 1), (812, .bipush 32, 2), (814, .lshl, 1), (815, .aload_n 0, 1), (816, .iload_n 3, 1), (817, .iconst 5, 1)]
theorem aJ_561_70 : sx_iB code aI_561_70 = true := by decide +kernel
def aI_561_71 : sx_IL := [(818, .iadd, 1), (819, .iaload, 1), (820, .i2l, 1), (821, .ldc2_w 13, 3), (824, .land, 1), (825, .lor, 1)]
theorem aJ_561_71 : sx_iB code aI_561_71 = true := by decide +kernel
def aI_561_72 : sx_IL := [(826, .aload_n 0, 1), (827, .iload_n 3, 1), (828, .bipush 6, 2), (830, .iadd, 1), (831, .iaload, 1), (832, .invokevirtual 58, 3)]
theorem aJ_561_72 : sx_iB code aI_561_72 = true := by decide +kernel
def aI_561_73 : sx_IL := [(835, .aload_n 2, 1), (836, .aload_n 0, 1), (837, .iload_n 3, 1), (838, .iconst 1, 1), (839, .iadd, 1), (840, .iaload, 1)]
theorem aJ_561_73 : sx_iB code aI_561_73 = true := by decide +kernel
def aI_561_74 : sx_IL := [(841, .aload_n 0, 1), (842, .iload_n 3, 1), (843, .iconst 2, 1), (844, .iadd, 1), (845, .iaload, 1), (846, .i2l, 1)]
theorem aJ_561_74 : sx_iB code aI_561_74 = true := by decide +kernel
def aI_561_75 : sx_IL := [(847, .bipush 32, 2), (849, .lshl, 1), (850, .aload_n 0, 1), (851, .iload_n 3, 1), (852, .iconst 3, 1), (853, .iadd, 1)]
theorem aJ_561_75 : sx_iB code aI_561_75 = true := by decide +kernel
def aI_561_76 : sx_IL := [(854, .iaload, 1), (855, .i2l, 1), (856, .ldc2_w 13, 3), (859, .land, 1), (860, .lor, 1), (861, .aload_n 0, 1)]
theorem aJ_561_76 : sx_iB code aI_561_76 = true := by decide +kernel
def aI_561_77 : sx_IL := [(862, .iload_n 3, 1), (863, .iconst 4, 1), (864, .iadd, 1), (865, .iaload, 1), (866, .i2l, 1), (867, .bipush 32, 2)]
theorem aJ_561_77 : sx_iB code aI_561_77 = true := by decide +kernel
def aI_561_78 : sx_IL := [(869, .lshl, 1), (870, .aload_n 0, 1), (871, .iload_n 3, 1), (872, .iconst 5, 1), (873, .iadd, 1), (874, .iaload, 1)]
theorem aJ_561_78 : sx_iB code aI_561_78 = true := by decide +kernel
def aI_561_79 : sx_IL := [(875, .i2l, 1), (876, .ldc2_w 13, 3), (879, .land, 1), (880, .lor, 1), (881, .aload_n 0, 1), (882, .iload_n 3, 1)]
theorem aJ_561_79 : sx_iB code aI_561_79 = true := by decide +kernel
def aI_561_80 : sx_IL := [(883, .bipush 6, 2), (885, .iadd, 1), (886, .iaload, 1), (887, .invokevirtual 61, 3), (890, .if_icmp .eq 2285, 3), (893, .iconst 0, 1)]
theorem aJ_561_80 : sx_iB code aI_561_80 = true := by decide +kernel
def aI_561_81 : sx_IL := [(894, .ireturn, 1), (895, .aload_n 1, 1), (896, .aload_n 0, 1), (897, .iload_n 3, 1), (898, .iconst 1, 1), (899, .iadd, 1)]
theorem aJ_561_81 : sx_iB code aI_561_81 = true := by decide +kernel
def aI_561_82 : sx_IL := [(900, .iaload, 1), (901, .aload_n 0, 1), (902, .iload_n 3, 1), (903, .iconst 2, 1), (904, .iadd, 1), (905, .iaload, 1)]
theorem aJ_561_82 : sx_iB code aI_561_82 = true := by decide +kernel
def aI_561_83 : sx_IL := [(906, .invokevirtual 62, 3), (909, .aload_n 2, 1), (910, .aload_n 0, 1), (911, .iload_n 3, 1), (912, .iconst 1, 1), (913, .iadd, 1)]
theorem aJ_561_83 : sx_iB code aI_561_83 = true := by decide +kernel
def aI_561_84 : sx_IL := [(914, .iaload, 1), (915, .aload_n 0, 1), (916, .iload_n 3, 1), (917, .iconst 2, 1), (918, .iadd, 1), (919, .iaload, 1)]
theorem aJ_561_84 : sx_iB code aI_561_84 = true := by decide +kernel
def aI_561_85 : sx_IL := [(920, .invokevirtual 66, 3), (923, .if_icmp .eq 2252, 3), (926, .iconst 0, 1), (927, .ireturn, 1), (928, .aload_n 1, 1), (929, .aload_n 0, 1)]
theorem aJ_561_85 : sx_iB code aI_561_85 = true := by decide +kernel
def aI_561_86 : sx_IL := [(930, .iload_n 3, 1), (931, .iconst 1, 1), (932, .iadd, 1), (933, .iaload, 1), (934, .aload_n 0, 1), (935, .iload_n 3, 1)]
theorem aJ_561_86 : sx_iB code aI_561_86 = true := by decide +kernel
def aI_561_87 : sx_IL := [(936, .iconst 2, 1), (937, .iadd, 1), (938, .iaload, 1), (939, .aload_n 0, 1), (940, .iload_n 3, 1), (941, .iconst 3, 1)]
theorem aJ_561_87 : sx_iB code aI_561_87 = true := by decide +kernel
def aI_561_88 : sx_IL := [(942, .iadd, 1), (943, .iaload, 1), (944, .invokevirtual 67, 3), (947, .aload_n 2, 1), (948, .aload_n 0, 1), (949, .iload_n 3, 1)]
theorem aJ_561_88 : sx_iB code aI_561_88 = true := by decide +kernel
def aI_561_89 : sx_IL := [(950, .iconst 1, 1), (951, .iadd, 1), (952, .iaload, 1), (953, .aload_n 0, 1), (954, .iload_n 3, 1), (955, .iconst 2, 1)]
theorem aJ_561_89 : sx_iB code aI_561_89 = true := by decide +kernel
def aI_561_90 : sx_IL := [(956, .iadd, 1), (957, .iaload, 1), (958, .aload_n 0, 1), (959, .iload_n 3, 1), (960, .iconst 3, 1), (961, .iadd, 1)]
theorem aJ_561_90 : sx_iB code aI_561_90 = true := by decide +kernel
def aI_561_91 : sx_IL := [(962, .iaload, 1), (963, .invokevirtual 71, 3), (966, .lcmp, 1), (967, .ifCond .eq 2208, 3), (970, .iconst 0, 1), (971, .ireturn, 1)]
theorem aJ_561_91 : sx_iB code aI_561_91 = true := by decide +kernel
def aI_561_92 : sx_IL := [(972, .aload_n 1, 1), (973, .aload_n 0, 1), (974, .iload_n 3, 1), (975, .iconst 1, 1), (976, .iadd, 1), (977, .iaload, 1)]
theorem aJ_561_92 : sx_iB code aI_561_92 = true := by decide +kernel
def aI_561_93 : sx_IL := [(978, .invokevirtual 72, 3), (981, .aload_n 2, 1), (982, .aload_n 0, 1), (983, .iload_n 3, 1), (984, .iconst 1, 1), (985, .iadd, 1)]
theorem aJ_561_93 : sx_iB code aI_561_93 = true := by decide +kernel
def aI_561_94 : sx_IL := [(986, .iaload, 1), (987, .invokevirtual 75, 3), (990, .if_icmp .eq 2185, 3), (993, .iconst 0, 1), (994, .ireturn, 1), (995, .aload_n 1, 1)]
theorem aJ_561_94 : sx_iB code aI_561_94 = true := by decide +kernel
def aI_561_95 : sx_IL := [(996, .aload_n 0, 1), (997, .iload_n 3, 1), (998, .iconst 1, 1), (999, .iadd, 1), (1000, .iaload, 1), (1001, .aload_n 0, 1)]
theorem aJ_561_95 : sx_iB code aI_561_95 = true := by decide +kernel
def aI_561_96 : sx_IL := [(1002, .iload_n 3, 1), (1003, .iconst 2, 1), (1004, .iadd, 1), (1005, .iaload, 1), (1006, .invokevirtual 76, 3), (1009, .aload_n 2, 1)]
theorem aJ_561_96 : sx_iB code aI_561_96 = true := by decide +kernel
def aI_561_97 : sx_IL := [(1010, .aload_n 0, 1), (1011, .iload_n 3, 1), (1012, .iconst 1, 1), (1013, .iadd, 1), (1014, .iaload, 1), (1015, .aload_n 0, 1)]
theorem aJ_561_97 : sx_iB code aI_561_97 = true := by decide +kernel
def aI_561_98 : sx_IL := [(1016, .iload_n 3, 1), (1017, .iconst 2, 1), (1018, .iadd, 1), (1019, .iaload, 1), (1020, .invokevirtual 80, 3), (1023, .lcmp, 1)]
theorem aJ_561_98 : sx_iB code aI_561_98 = true := by decide +kernel
def aI_561_99 : sx_IL := [(1024, .ifCond .eq 2151, 3), (1027, .iconst 0, 1), (1028, .ireturn, 1), (1029, .aload_n 1, 1), (1030, .aload_n 0, 1), (1031, .iload_n 3, 1)]
theorem aJ_561_99 : sx_iB code aI_561_99 = true := by decide +kernel
def aI_561_100 : sx_IL := [(1032, .iconst 1, 1), (1033, .iadd, 1), (1034, .iaload, 1), (1035, .aload_n 0, 1), (1036, .iload_n 3, 1), (1037, .iconst 2, 1)]
theorem aJ_561_100 : sx_iB code aI_561_100 = true := by decide +kernel
def aI_561_101 : sx_IL := [(1038, .iadd, 1), (1039, .iaload, 1), (1040, .aload_n 0, 1), (1041, .iload_n 3, 1), (1042, .iconst 3, 1), (1043, .iadd, 1)]
theorem aJ_561_101 : sx_iB code aI_561_101 = true := by decide +kernel
def aI_561_102 : sx_IL := [(1044, .iaload, 1), (1045, .i2l, 1), (1046, .bipush 32, 2), (1048, .lshl, 1), (1049, .aload_n 0, 1), (1050, .iload_n 3, 1)]
theorem aJ_561_102 : sx_iB code aI_561_102 = true := by decide +kernel
def aI_561_103 : sx_IL := [(1051, .iconst 4, 1), (1052, .iadd, 1), (1053, .iaload, 1), (1054, .i2l, 1), (1055, .ldc2_w 13, 3), (1058, .land, 1)]
theorem aJ_561_103 : sx_iB code aI_561_103 = true := by decide +kernel
def aI_561_104 : sx_IL := [(1059, .lor, 1), (1060, .invokevirtual 81, 3), (1063, .aload_n 2, 1), (1064, .aload_n 0, 1), (1065, .iload_n 3, 1), (1066, .iconst 1, 1)]
theorem aJ_561_104 : sx_iB code aI_561_104 = true := by decide +kernel
def aI_561_105 : sx_IL := [(1067, .iadd, 1), (1068, .iaload, 1), (1069, .aload_n 0, 1), (1070, .iload_n 3, 1), (1071, .iconst 2, 1), (1072, .iadd, 1)]
theorem aJ_561_105 : sx_iB code aI_561_105 = true := by decide +kernel
def aI_561_106 : sx_IL := [(1073, .iaload, 1), (1074, .aload_n 0, 1), (1075, .iload_n 3, 1), (1076, .iconst 3, 1), (1077, .iadd, 1), (1078, .iaload, 1)]
theorem aJ_561_106 : sx_iB code aI_561_106 = true := by decide +kernel
def aI_561_107 : sx_IL := [(1079, .i2l, 1), (1080, .bipush 32, 2), (1082, .lshl, 1), (1083, .aload_n 0, 1), (1084, .iload_n 3, 1), (1085, .iconst 4, 1)]
theorem aJ_561_107 : sx_iB code aI_561_107 = true := by decide +kernel
def aI_561_108 : sx_IL := [(1086, .iadd, 1), (1087, .iaload, 1), (1088, .i2l, 1), (1089, .ldc2_w 13, 3), (1092, .land, 1), (1093, .lor, 1)]
theorem aJ_561_108 : sx_iB code aI_561_108 = true := by decide +kernel
def aI_561_109 : sx_IL := [(1094, .invokevirtual 85, 3), (1097, .if_icmp .eq 2078, 3), (1100, .iconst 0, 1), (1101, .ireturn, 1), (1102, .aload_n 1, 1), (1103, .invokevirtual 86, 3)]
theorem aJ_561_109 : sx_iB code aI_561_109 = true := by decide +kernel
def aI_561_110 : sx_IL := [(1106, .aload_n 2, 1), (1107, .invokevirtual 89, 3), (1110, .if_icmp .eq 2065, 3), (1113, .iconst 0, 1), (1114, .ireturn, 1), (1115, .aload_n 1, 1)]
theorem aJ_561_110 : sx_iB code aI_561_110 = true := by decide +kernel
def aI_561_111 : sx_IL := [(1116, .aload_n 0, 1), (1117, .iload_n 3, 1), (1118, .iconst 1, 1), (1119, .iadd, 1), (1120, .iaload, 1), (1121, .aload_n 0, 1)]
theorem aJ_561_111 : sx_iB code aI_561_111 = true := by decide +kernel
def aI_561_112 : sx_IL := [(1122, .iload_n 3, 1), (1123, .iconst 2, 1), (1124, .iadd, 1), (1125, .iaload, 1), (1126, .invokevirtual 90, 3), (1129, .aload_n 2, 1)]
theorem aJ_561_112 : sx_iB code aI_561_112 = true := by decide +kernel
def aI_561_113 : sx_IL := [(1130, .aload_n 0, 1), (1131, .iload_n 3, 1), (1132, .iconst 1, 1), (1133, .iadd, 1), (1134, .iaload, 1), (1135, .aload_n 0, 1)]
theorem aJ_561_113 : sx_iB code aI_561_113 = true := by decide +kernel
def aI_561_114 : sx_IL := [(1136, .iload_n 3, 1), (1137, .iconst 2, 1), (1138, .iadd, 1), (1139, .iaload, 1), (1140, .invokevirtual 93, 3), (1143, .if_icmp .eq 2032, 3)]
theorem aJ_561_114 : sx_iB code aI_561_114 = true := by decide +kernel
def aI_561_115 : sx_IL := [(1146, .iconst 0, 1), (1147, .ireturn, 1), (1148, .aload_n 1, 1), (1149, .invokevirtual 94, 3), (1152, .aload_n 2, 1), (1153, .invokevirtual 97, 3)]
theorem aJ_561_115 : sx_iB code aI_561_115 = true := by decide +kernel
def aI_561_116 : sx_IL := [(1156, .if_icmp .eq 2019, 3), (1159, .iconst 0, 1), (1160, .ireturn, 1), (1161, .aload_n 1, 1), (1162, .invokevirtual 98, 3), (1165, .aload_n 2, 1)]
theorem aJ_561_116 : sx_iB code aI_561_116 = true := by decide +kernel
def aI_561_117 : sx_IL := [(1166, .invokevirtual 101, 3), (1169, .if_icmp .eq 2006, 3), (1172, .iconst 0, 1), (1173, .ireturn, 1), (1174, .aload_n 1, 1), (1175, .invokevirtual 102, 3)]
theorem aJ_561_117 : sx_iB code aI_561_117 = true := by decide +kernel
def aI_561_118 : sx_IL := [(1178, .aload_n 2, 1), (1179, .invokevirtual 105, 3), (1182, .if_icmp .eq 1993, 3), (1185, .iconst 0, 1), (1186, .ireturn, 1), (1187, .aload_n 1, 1)]
theorem aJ_561_118 : sx_iB code aI_561_118 = true := by decide +kernel
def aI_561_119 : sx_IL := [(1188, .aload_n 0, 1), (1189, .iload_n 3, 1), (1190, .iconst 1, 1), (1191, .iadd, 1), (1192, .iaload, 1), (1193, .aload_n 0, 1)]
theorem aJ_561_119 : sx_iB code aI_561_119 = true := by decide +kernel
def aI_561_120 : sx_IL := [(1194, .iload_n 3, 1), (1195, .iconst 2, 1), (1196, .iadd, 1), (1197, .iaload, 1), (1198, .invokevirtual 106, 3), (1201, .aload_n 2, 1)]
theorem aJ_561_120 : sx_iB code aI_561_120 = true := by decide +kernel
def aI_561_121 : sx_IL := [(1202, .aload_n 0, 1), (1203, .iload_n 3, 1), (1204, .iconst 1, 1), (1205, .iadd, 1), (1206, .iaload, 1), (1207, .aload_n 0, 1)]
theorem aJ_561_121 : sx_iB code aI_561_121 = true := by decide +kernel
def aI_561_122 : sx_IL := [(1208, .iload_n 3, 1), (1209, .iconst 2, 1), (1210, .iadd, 1), (1211, .iaload, 1), (1212, .invokevirtual 109, 3), (1215, .if_icmp .eq 1960, 3)]
theorem aJ_561_122 : sx_iB code aI_561_122 = true := by decide +kernel
def aI_561_123 : sx_IL := [(1218, .iconst 0, 1), (1219, .ireturn, 1), (1220, .aload_n 1, 1), (1221, .aload_n 0, 1), (1222, .iload_n 3, 1), (1223, .iconst 1, 1)]
theorem aJ_561_123 : sx_iB code aI_561_123 = true := by decide +kernel
def aI_561_124 : sx_IL := [(1224, .iadd, 1), (1225, .iaload, 1), (1226, .aload_n 0, 1), (1227, .iload_n 3, 1), (1228, .iconst 2, 1), (1229, .iadd, 1)]
theorem aJ_561_124 : sx_iB code aI_561_124 = true := by decide +kernel
def aI_561_125 : sx_IL := [(1230, .iaload, 1), (1231, .aload_n 0, 1), (1232, .iload_n 3, 1), (1233, .iconst 3, 1), (1234, .iadd, 1), (1235, .iaload, 1)]
theorem aJ_561_125 : sx_iB code aI_561_125 = true := by decide +kernel
def aI_561_126 : sx_IL := [(1236, .invokevirtual 110, 3), (1239, .aload_n 2, 1), (1240, .aload_n 0, 1), (1241, .iload_n 3, 1), (1242, .iconst 1, 1), (1243, .iadd, 1)]
theorem aJ_561_126 : sx_iB code aI_561_126 = true := by decide +kernel
def aI_561_127 : sx_IL := [(1244, .iaload, 1), (1245, .aload_n 0, 1), (1246, .iload_n 3, 1), (1247, .iconst 2, 1), (1248, .iadd, 1), (1249, .iaload, 1)]
theorem aJ_561_127 : sx_iB code aI_561_127 = true := by decide +kernel
def aI_561_128 : sx_IL := [(1250, .aload_n 0, 1), (1251, .iload_n 3, 1), (1252, .iconst 3, 1), (1253, .iadd, 1), (1254, .iaload, 1), (1255, .invokevirtual 114, 3)]
theorem aJ_561_128 : sx_iB code aI_561_128 = true := by decide +kernel
def aI_561_129 : sx_IL := [(1258, .if_icmp .eq 1917, 3), (1261, .iconst 0, 1), (1262, .ireturn, 1), (1263, .aload_n 1, 1), (1264, .aload_n 0, 1), (1265, .iload_n 3, 1)]
theorem aJ_561_129 : sx_iB code aI_561_129 = true := by decide +kernel
def aI_561_130 : sx_IL := [(1266, .iconst 1, 1), (1267, .iadd, 1), (1268, .iaload, 1), (1269, .invokevirtual 115, 3), (1272, .aload_n 2, 1), (1273, .aload_n 0, 1)]
theorem aJ_561_130 : sx_iB code aI_561_130 = true := by decide +kernel
def aI_561_131 : sx_IL := [(1274, .iload_n 3, 1), (1275, .iconst 1, 1), (1276, .iadd, 1), (1277, .iaload, 1), (1278, .invokevirtual 118, 3), (1281, .if_icmp .eq 1894, 3)]
theorem aJ_561_131 : sx_iB code aI_561_131 = true := by decide +kernel
def aI_561_132 : sx_IL := [(1284, .iconst 0, 1), (1285, .ireturn, 1), (1286, .aload_n 1, 1), (1287, .aload_n 0, 1), (1288, .iload_n 3, 1), (1289, .iconst 1, 1)]
theorem aJ_561_132 : sx_iB code aI_561_132 = true := by decide +kernel
def aI_561_133 : sx_IL := [(1290, .iadd, 1), (1291, .iaload, 1), (1292, .aload_n 0, 1), (1293, .iload_n 3, 1), (1294, .iconst 2, 1), (1295, .iadd, 1)]
theorem aJ_561_133 : sx_iB code aI_561_133 = true := by decide +kernel
def aI_561_134 : sx_IL := [(1296, .iaload, 1), (1297, .aload_n 0, 1), (1298, .iload_n 3, 1), (1299, .iconst 3, 1), (1300, .iadd, 1), (1301, .iaload, 1)]
theorem aJ_561_134 : sx_iB code aI_561_134 = true := by decide +kernel
def aI_561_135 : sx_IL := [(1302, .invokevirtual 119, 3), (1305, .aload_n 2, 1), (1306, .aload_n 0, 1), (1307, .iload_n 3, 1), (1308, .iconst 1, 1), (1309, .iadd, 1)]
theorem aJ_561_135 : sx_iB code aI_561_135 = true := by decide +kernel
def aI_561_136 : sx_IL := [(1310, .iaload, 1), (1311, .aload_n 0, 1), (1312, .iload_n 3, 1), (1313, .iconst 2, 1), (1314, .iadd, 1), (1315, .iaload, 1)]
theorem aJ_561_136 : sx_iB code aI_561_136 = true := by decide +kernel
def aI_561_137 : sx_IL := [(1316, .aload_n 0, 1), (1317, .iload_n 3, 1), (1318, .iconst 3, 1), (1319, .iadd, 1), (1320, .iaload, 1), (1321, .invokevirtual 122, 3)]
theorem aJ_561_137 : sx_iB code aI_561_137 = true := by decide +kernel
def aI_561_138 : sx_IL := [(1324, .if_icmp .eq 1851, 3), (1327, .iconst 0, 1), (1328, .ireturn, 1), (1329, .aload_n 1, 1), (1330, .aload_n 0, 1), (1331, .iload_n 3, 1)]
theorem aJ_561_138 : sx_iB code aI_561_138 = true := by decide +kernel
def aI_561_139 : sx_IL := [(1332, .iconst 1, 1), (1333, .iadd, 1), (1334, .iaload, 1), (1335, .aload_n 0, 1), (1336, .iload_n 3, 1), (1337, .iconst 2, 1)]
theorem aJ_561_139 : sx_iB code aI_561_139 = true := by decide +kernel
def aI_561_140 : sx_IL := [(1338, .iadd, 1), (1339, .iaload, 1), (1340, .aload_n 0, 1), (1341, .iload_n 3, 1), (1342, .iconst 3, 1), (1343, .iadd, 1)]
theorem aJ_561_140 : sx_iB code aI_561_140 = true := by decide +kernel
def aI_561_141 : sx_IL := [(1344, .iaload, 1), (1345, .aload_n 0, 1), (1346, .iload_n 3, 1), (1347, .iconst 4, 1), (1348, .iadd, 1), (1349, .iaload, 1)]
theorem aJ_561_141 : sx_iB code aI_561_141 = true := by decide +kernel
def aI_561_142 : sx_IL := [(1350, .invokevirtual 123, 3), (1353, .aload_n 2, 1), (1354, .aload_n 0, 1), (1355, .iload_n 3, 1), (1356, .iconst 1, 1), (1357, .iadd, 1)]
theorem aJ_561_142 : sx_iB code aI_561_142 = true := by decide +kernel
def aI_561_143 : sx_IL := [(1358, .iaload, 1), (1359, .aload_n 0, 1), (1360, .iload_n 3, 1), (1361, .iconst 2, 1), (1362, .iadd, 1), (1363, .iaload, 1)]
theorem aJ_561_143 : sx_iB code aI_561_143 = true := by decide +kernel
def aI_561_144 : sx_IL := [(1364, .aload_n 0, 1), (1365, .iload_n 3, 1), (1366, .iconst 3, 1), (1367, .iadd, 1), (1368, .iaload, 1), (1369, .aload_n 0, 1)]
theorem aJ_561_144 : sx_iB code aI_561_144 = true := by decide +kernel
def aI_561_145 : sx_IL := [(1370, .iload_n 3, 1), (1371, .iconst 4, 1), (1372, .iadd, 1), (1373, .iaload, 1), (1374, .invokevirtual 127, 3), (1377, .if_icmp .eq 1798, 3)]
theorem aJ_561_145 : sx_iB code aI_561_145 = true := by decide +kernel
def aI_561_146 : sx_IL := [(1380, .iconst 0, 1), (1381, .ireturn, 1), (1382, .aload_n 1, 1), (1383, .aload_n 0, 1), (1384, .iload_n 3, 1), (1385, .iconst 1, 1)]
theorem aJ_561_146 : sx_iB code aI_561_146 = true := by decide +kernel
def aI_561_147 : sx_IL := [(1386, .iadd, 1), (1387, .iaload, 1), (1388, .invokevirtual 128, 3), (1391, .aload_n 2, 1), (1392, .aload_n 0, 1), (1393, .iload_n 3, 1)]
theorem aJ_561_147 : sx_iB code aI_561_147 = true := by decide +kernel
def aI_561_148 : sx_IL := [(1394, .iconst 1, 1), (1395, .iadd, 1), (1396, .iaload, 1), (1397, .invokevirtual 131, 3), (1400, .if_icmp .eq 1775, 3), (1403, .iconst 0, 1)]
theorem aJ_561_148 : sx_iB code aI_561_148 = true := by decide +kernel
def aI_561_149 : sx_IL := [(1404, .ireturn, 1), (1405, .aload_n 1, 1), (1406, .aload_n 0, 1), (1407, .iload_n 3, 1), (1408, .iconst 1, 1), (1409, .iadd, 1)]
theorem aJ_561_149 : sx_iB code aI_561_149 = true := by decide +kernel
def aI_561_150 : sx_IL := [(1410, .iaload, 1), (1411, .aload_n 0, 1), (1412, .iload_n 3, 1), (1413, .iconst 2, 1), (1414, .iadd, 1), (1415, .iaload, 1)]
theorem aJ_561_150 : sx_iB code aI_561_150 = true := by decide +kernel
def aI_561_151 : sx_IL := [(1416, .aload_n 0, 1), (1417, .iload_n 3, 1), (1418, .iconst 3, 1), (1419, .iadd, 1), (1420, .iaload, 1), (1421, .invokevirtual 132, 3)]
theorem aJ_561_151 : sx_iB code aI_561_151 = true := by decide +kernel
def aI_561_152 : sx_IL := [(1424, .aload_n 2, 1), (1425, .aload_n 0, 1), (1426, .iload_n 3, 1), (1427, .iconst 1, 1), (1428, .iadd, 1), (1429, .iaload, 1)]
theorem aJ_561_152 : sx_iB code aI_561_152 = true := by decide +kernel
def aI_561_153 : sx_IL := [(1430, .aload_n 0, 1), (1431, .iload_n 3, 1), (1432, .iconst 2, 1), (1433, .iadd, 1), (1434, .iaload, 1), (1435, .aload_n 0, 1)]
theorem aJ_561_153 : sx_iB code aI_561_153 = true := by decide +kernel
def aI_561_154 : sx_IL := [(1436, .iload_n 3, 1), (1437, .iconst 3, 1), (1438, .iadd, 1), (1439, .iaload, 1), (1440, .invokevirtual 135, 3), (1443, .if_icmp .eq 1732, 3)]
theorem aJ_561_154 : sx_iB code aI_561_154 = true := by decide +kernel
def aI_561_155 : sx_IL := [(1446, .iconst 0, 1), (1447, .ireturn, 1), (1448, .aload_n 1, 1), (1449, .aload_n 0, 1), (1450, .iload_n 3, 1), (1451, .iconst 1, 1)]
theorem aJ_561_155 : sx_iB code aI_561_155 = true := by decide +kernel
def aI_561_156 : sx_IL := [(1452, .iadd, 1), (1453, .iaload, 1), (1454, .invokevirtual 136, 3), (1457, .aload_n 2, 1), (1458, .aload_n 0, 1), (1459, .iload_n 3, 1)]
theorem aJ_561_156 : sx_iB code aI_561_156 = true := by decide +kernel
def aI_561_157 : sx_IL := [(1460, .iconst 1, 1), (1461, .iadd, 1), (1462, .iaload, 1), (1463, .invokevirtual 139, 3), (1466, .if_icmp .eq 1709, 3), (1469, .iconst 0, 1)]
theorem aJ_561_157 : sx_iB code aI_561_157 = true := by decide +kernel
def aI_561_158 : sx_IL := [(1470, .ireturn, 1), (1471, .aload_n 1, 1), (1472, .aload_n 0, 1), (1473, .iload_n 3, 1), (1474, .iconst 1, 1), (1475, .iadd, 1)]
theorem aJ_561_158 : sx_iB code aI_561_158 = true := by decide +kernel
def aI_561_159 : sx_IL := [(1476, .iaload, 1), (1477, .aload_n 0, 1), (1478, .iload_n 3, 1), (1479, .iconst 2, 1), (1480, .iadd, 1), (1481, .iaload, 1)]
theorem aJ_561_159 : sx_iB code aI_561_159 = true := by decide +kernel
def aI_561_160 : sx_IL := [(1482, .aload_n 0, 1), (1483, .iload_n 3, 1), (1484, .iconst 3, 1), (1485, .iadd, 1), (1486, .iaload, 1), (1487, .invokevirtual 140, 3)]
theorem aJ_561_160 : sx_iB code aI_561_160 = true := by decide +kernel
def aI_561_161 : sx_IL := [(1490, .aload_n 2, 1), (1491, .aload_n 0, 1), (1492, .iload_n 3, 1), (1493, .iconst 1, 1), (1494, .iadd, 1), (1495, .iaload, 1)]
theorem aJ_561_161 : sx_iB code aI_561_161 = true := by decide +kernel
def aI_561_162 : sx_IL := [(1496, .aload_n 0, 1), (1497, .iload_n 3, 1), (1498, .iconst 2, 1), (1499, .iadd, 1), (1500, .iaload, 1), (1501, .aload_n 0, 1)]
theorem aJ_561_162 : sx_iB code aI_561_162 = true := by decide +kernel
def aI_561_163 : sx_IL := [(1502, .iload_n 3, 1), (1503, .iconst 3, 1), (1504, .iadd, 1), (1505, .iaload, 1), (1506, .invokevirtual 143, 3), (1509, .if_icmp .eq 1666, 3)]
theorem aJ_561_163 : sx_iB code aI_561_163 = true := by decide +kernel
def aI_561_164 : sx_IL := [(1512, .iconst 0, 1), (1513, .ireturn, 1), (1514, .aload_n 1, 1), (1515, .aload_n 0, 1), (1516, .iload_n 3, 1), (1517, .iconst 1, 1)]
theorem aJ_561_164 : sx_iB code aI_561_164 = true := by decide +kernel
def aI_561_165 : sx_IL := [(1518, .iadd, 1), (1519, .iaload, 1), (1520, .aload_n 0, 1), (1521, .iload_n 3, 1), (1522, .iconst 2, 1), (1523, .iadd, 1)]
theorem aJ_561_165 : sx_iB code aI_561_165 = true := by decide +kernel
def aI_561_166 : sx_IL := [(1524, .iaload, 1), (1525, .aload_n 0, 1), (1526, .iload_n 3, 1), (1527, .iconst 3, 1), (1528, .iadd, 1), (1529, .iaload, 1)]
theorem aJ_561_166 : sx_iB code aI_561_166 = true := by decide +kernel
def aI_561_167 : sx_IL := [(1530, .invokevirtual 144, 3), (1533, .aload_n 2, 1), (1534, .aload_n 0, 1), (1535, .iload_n 3, 1), (1536, .iconst 1, 1), (1537, .iadd, 1)]
theorem aJ_561_167 : sx_iB code aI_561_167 = true := by decide +kernel
def aI_561_168 : sx_IL := [(1538, .iaload, 1), (1539, .aload_n 0, 1), (1540, .iload_n 3, 1), (1541, .iconst 2, 1), (1542, .iadd, 1), (1543, .iaload, 1)]
theorem aJ_561_168 : sx_iB code aI_561_168 = true := by decide +kernel
def aI_561_169 : sx_IL := [(1544, .aload_n 0, 1), (1545, .iload_n 3, 1), (1546, .iconst 3, 1), (1547, .iadd, 1), (1548, .iaload, 1), (1549, .invokevirtual 147, 3)]
theorem aJ_561_169 : sx_iB code aI_561_169 = true := by decide +kernel
def aI_561_170 : sx_IL := [(1552, .if_icmp .eq 1623, 3), (1555, .iconst 0, 1), (1556, .ireturn, 1), (1557, .aload_n 1, 1), (1558, .aload_n 0, 1), (1559, .iload_n 3, 1)]
theorem aJ_561_170 : sx_iB code aI_561_170 = true := by decide +kernel
def aI_561_171 : sx_IL := [(1560, .iconst 1, 1), (1561, .iadd, 1), (1562, .iaload, 1), (1563, .invokevirtual 148, 3), (1566, .aload_n 2, 1), (1567, .aload_n 0, 1)]
theorem aJ_561_171 : sx_iB code aI_561_171 = true := by decide +kernel
def aI_561_172 : sx_IL := [(1568, .iload_n 3, 1), (1569, .iconst 1, 1), (1570, .iadd, 1), (1571, .iaload, 1), (1572, .invokevirtual 151, 3), (1575, .if_icmp .eq 1600, 3)]
theorem aJ_561_172 : sx_iB code aI_561_172 = true := by decide +kernel
def aI_561_173 : sx_IL := [(1578, .iconst 0, 1), (1579, .ireturn, 1), (1580, .aload_n 1, 1), (1581, .aload_n 0, 1), (1582, .iload_n 3, 1), (1583, .iconst 1, 1)]
theorem aJ_561_173 : sx_iB code aI_561_173 = true := by decide +kernel
def aI_561_174 : sx_IL := [(1584, .iadd, 1), (1585, .iaload, 1), (1586, .aload_n 0, 1), (1587, .iload_n 3, 1), (1588, .iconst 2, 1), (1589, .iadd, 1)]
theorem aJ_561_174 : sx_iB code aI_561_174 = true := by decide +kernel
def aI_561_175 : sx_IL := [(1590, .iaload, 1), (1591, .invokevirtual 152, 3), (1594, .aload_n 2, 1), (1595, .aload_n 0, 1), (1596, .iload_n 3, 1), (1597, .iconst 1, 1)]
theorem aJ_561_175 : sx_iB code aI_561_175 = true := by decide +kernel
def aI_561_176 : sx_IL := [(1598, .iadd, 1), (1599, .iaload, 1), (1600, .aload_n 0, 1), (1601, .iload_n 3, 1), (1602, .iconst 2, 1), (1603, .iadd, 1)]
theorem aJ_561_176 : sx_iB code aI_561_176 = true := by decide +kernel
def aI_561_177 : sx_IL := [(1604, .iaload, 1), (1605, .invokevirtual 155, 3), (1608, .if_icmp .eq 1567, 3), (1611, .iconst 0, 1), (1612, .ireturn, 1), (1613, .aload_n 1, 1)]
theorem aJ_561_177 : sx_iB code aI_561_177 = true := by decide +kernel
def aI_561_178 : sx_IL := [(1614, .aload_n 0, 1), (1615, .iload_n 3, 1), (1616, .iconst 1, 1), (1617, .iadd, 1), (1618, .iaload, 1), (1619, .aload_n 0, 1)]
theorem aJ_561_178 : sx_iB code aI_561_178 = true := by decide +kernel
def aI_561_179 : sx_IL := [(1620, .iload_n 3, 1), (1621, .iconst 2, 1), (1622, .iadd, 1), (1623, .iaload, 1), (1624, .invokevirtual 156, 3), (1627, .aload_n 2, 1)]
theorem aJ_561_179 : sx_iB code aI_561_179 = true := by decide +kernel
def aI_561_180 : sx_IL := [(1628, .aload_n 0, 1), (1629, .iload_n 3, 1), (1630, .iconst 1, 1), (1631, .iadd, 1), (1632, .iaload, 1), (1633, .aload_n 0, 1)]
theorem aJ_561_180 : sx_iB code aI_561_180 = true := by decide +kernel
def aI_561_181 : sx_IL := [(1634, .iload_n 3, 1), (1635, .iconst 2, 1), (1636, .iadd, 1), (1637, .iaload, 1), (1638, .invokevirtual 159, 3), (1641, .if_icmp .eq 1534, 3)]
theorem aJ_561_181 : sx_iB code aI_561_181 = true := by decide +kernel
def aI_561_182 : sx_IL := [(1644, .iconst 0, 1), (1645, .ireturn, 1), (1646, .aload_n 1, 1), (1647, .aload_n 0, 1), (1648, .iload_n 3, 1), (1649, .iconst 1, 1)]
theorem aJ_561_182 : sx_iB code aI_561_182 = true := by decide +kernel
def aI_561_183 : sx_IL := [(1650, .iadd, 1), (1651, .iaload, 1), (1652, .invokevirtual 160, 3), (1655, .aload_n 2, 1), (1656, .aload_n 0, 1), (1657, .iload_n 3, 1)]
theorem aJ_561_183 : sx_iB code aI_561_183 = true := by decide +kernel
def aI_561_184 : sx_IL := [(1658, .iconst 1, 1), (1659, .iadd, 1), (1660, .iaload, 1), (1661, .invokevirtual 163, 3), (1664, .if_icmp .eq 1511, 3), (1667, .iconst 0, 1)]
theorem aJ_561_184 : sx_iB code aI_561_184 = true := by decide +kernel
def aI_561_185 : sx_IL := [(1668, .ireturn, 1), (1669, .aload_n 1, 1), (1670, .aload_n 0, 1), (1671, .iload_n 3, 1), (1672, .iconst 1, 1), (1673, .iadd, 1)]
theorem aJ_561_185 : sx_iB code aI_561_185 = true := by decide +kernel
def aI_561_186 : sx_IL := [(1674, .iaload, 1), (1675, .aload_n 0, 1), (1676, .iload_n 3, 1), (1677, .iconst 2, 1), (1678, .iadd, 1), (1679, .iaload, 1)]
theorem aJ_561_186 : sx_iB code aI_561_186 = true := by decide +kernel
def aI_561_187 : sx_IL := [(1680, .aload_n 0, 1), (1681, .iload_n 3, 1), (1682, .iconst 3, 1), (1683, .iadd, 1), (1684, .iaload, 1), (1685, .i2l, 1)]
theorem aJ_561_187 : sx_iB code aI_561_187 = true := by decide +kernel
def aI_561_188 : sx_IL := [(1686, .bipush 32, 2), (1688, .lshl, 1), (1689, .aload_n 0, 1), (1690, .iload_n 3, 1), (1691, .iconst 4, 1), (1692, .iadd, 1)]
theorem aJ_561_188 : sx_iB code aI_561_188 = true := by decide +kernel
def aI_561_189 : sx_IL := [(1693, .iaload, 1), (1694, .i2l, 1), (1695, .ldc2_w 13, 3), (1698, .land, 1), (1699, .lor, 1), (1700, .invokevirtual 164, 3)]
theorem aJ_561_189 : sx_iB code aI_561_189 = true := by decide +kernel
def aI_561_190 : sx_IL := [(1703, .aload_n 2, 1), (1704, .aload_n 0, 1), (1705, .iload_n 3, 1), (1706, .iconst 1, 1), (1707, .iadd, 1), (1708, .iaload, 1)]
theorem aJ_561_190 : sx_iB code aI_561_190 = true := by decide +kernel
def aI_561_191 : sx_IL := [(1709, .aload_n 0, 1), (1710, .iload_n 3, 1), (1711, .iconst 2, 1), (1712, .iadd, 1), (1713, .iaload, 1), (1714, .aload_n 0, 1)]
theorem aJ_561_191 : sx_iB code aI_561_191 = true := by decide +kernel
def aI_561_192 : sx_IL := [(1715, .iload_n 3, 1), (1716, .iconst 3, 1), (1717, .iadd, 1), (1718, .iaload, 1), (1719, .i2l, 1), (1720, .bipush 32, 2)]
theorem aJ_561_192 : sx_iB code aI_561_192 = true := by decide +kernel
def aI_561_193 : sx_IL := [(1722, .lshl, 1), (1723, .aload_n 0, 1), (1724, .iload_n 3, 1), (1725, .iconst 4, 1), (1726, .iadd, 1), (1727, .iaload, 1)]
theorem aJ_561_193 : sx_iB code aI_561_193 = true := by decide +kernel
def aI_561_194 : sx_IL := [(1728, .i2l, 1), (1729, .ldc2_w 13, 3), (1732, .land, 1), (1733, .lor, 1), (1734, .invokevirtual 167, 3), (1737, .if_icmp .eq 1438, 3)]
theorem aJ_561_194 : sx_iB code aI_561_194 = true := by decide +kernel
def aI_561_195 : sx_IL := [(1740, .iconst 0, 1), (1741, .ireturn, 1), (1742, .aload_n 1, 1), (1743, .aload_n 0, 1), (1744, .iload_n 3, 1), (1745, .iconst 1, 1)]
theorem aJ_561_195 : sx_iB code aI_561_195 = true := by decide +kernel
def aI_561_196 : sx_IL := [(1746, .iadd, 1), (1747, .iaload, 1), (1748, .aload_n 0, 1), (1749, .iload_n 3, 1), (1750, .iconst 2, 1), (1751, .iadd, 1)]
theorem aJ_561_196 : sx_iB code aI_561_196 = true := by decide +kernel
def aI_561_197 : sx_IL := [(1752, .iaload, 1), (1753, .invokevirtual 168, 3), (1756, .aload_n 2, 1), (1757, .aload_n 0, 1), (1758, .iload_n 3, 1), (1759, .iconst 1, 1)]
theorem aJ_561_197 : sx_iB code aI_561_197 = true := by decide +kernel
def aI_561_198 : sx_IL := [(1760, .iadd, 1), (1761, .iaload, 1), (1762, .aload_n 0, 1), (1763, .iload_n 3, 1), (1764, .iconst 2, 1), (1765, .iadd, 1)]
theorem aJ_561_198 : sx_iB code aI_561_198 = true := by decide +kernel
def aI_561_199 : sx_IL := [(1766, .iaload, 1), (1767, .invokevirtual 171, 3), (1770, .if_icmp .eq 1405, 3), (1773, .iconst 0, 1), (1774, .ireturn, 1), (1775, .aload_n 1, 1)]
theorem aJ_561_199 : sx_iB code aI_561_199 = true := by decide +kernel
def aI_561_200 : sx_IL := [(1776, .aload_n 0, 1), (1777, .iload_n 3, 1), (1778, .iconst 1, 1), (1779, .iadd, 1), (1780, .iaload, 1), (1781, .aload_n 0, 1)]
theorem aJ_561_200 : sx_iB code aI_561_200 = true := by decide +kernel
def aI_561_201 : sx_IL := [(1782, .iload_n 3, 1), (1783, .iconst 2, 1), (1784, .iadd, 1), (1785, .iaload, 1), (1786, .aload_n 0, 1), (1787, .iload_n 3, 1)]
theorem aJ_561_201 : sx_iB code aI_561_201 = true := by decide +kernel
def aI_561_202 : sx_IL := [(1788, .iconst 3, 1), (1789, .iadd, 1), (1790, .iaload, 1), (1791, .invokevirtual 172, 3), (1794, .aload_n 2, 1), (1795, .aload_n 0, 1)]
theorem aJ_561_202 : sx_iB code aI_561_202 = true := by decide +kernel
def aI_561_203 : sx_IL := [(1796, .iload_n 3, 1), (1797, .iconst 1, 1), (1798, .iadd, 1), (1799, .iaload, 1), (1800, .aload_n 0, 1), (1801, .iload_n 3, 1)]
theorem aJ_561_203 : sx_iB code aI_561_203 = true := by decide +kernel
def aI_561_204 : sx_IL := [(1802, .iconst 2, 1), (1803, .iadd, 1), (1804, .iaload, 1), (1805, .aload_n 0, 1), (1806, .iload_n 3, 1), (1807, .iconst 3, 1)]
theorem aJ_561_204 : sx_iB code aI_561_204 = true := by decide +kernel
def aI_561_205 : sx_IL := [(1808, .iadd, 1), (1809, .iaload, 1), (1810, .invokevirtual 175, 3), (1813, .if_icmp .eq 1362, 3), (1816, .iconst 0, 1), (1817, .ireturn, 1)]
theorem aJ_561_205 : sx_iB code aI_561_205 = true := by decide +kernel
def aI_561_206 : sx_IL := [(1818, .aload_n 1, 1), (1819, .aload_n 0, 1), (1820, .iload_n 3, 1), (1821, .iconst 1, 1), (1822, .iadd, 1), (1823, .iaload, 1)]
theorem aJ_561_206 : sx_iB code aI_561_206 = true := by decide +kernel
def aI_561_207 : sx_IL := [(1824, .invokevirtual 176, 3), (1827, .aload_n 2, 1), (1828, .aload_n 0, 1), (1829, .iload_n 3, 1), (1830, .iconst 1, 1), (1831, .iadd, 1)]
theorem aJ_561_207 : sx_iB code aI_561_207 = true := by decide +kernel
def aI_561_208 : sx_IL := [(1832, .iaload, 1), (1833, .invokevirtual 179, 3), (1836, .if_icmp .eq 1339, 3), (1839, .iconst 0, 1), (1840, .ireturn, 1), (1841, .aload_n 1, 1)]
theorem aJ_561_208 : sx_iB code aI_561_208 = true := by decide +kernel
def aI_561_209 : sx_IL := [(1842, .aload_n 0, 1), (1843, .iload_n 3, 1), (1844, .iconst 1, 1), (1845, .iadd, 1), (1846, .iaload, 1), (1847, .aload_n 0, 1)]
theorem aJ_561_209 : sx_iB code aI_561_209 = true := by decide +kernel
def aI_561_210 : sx_IL := [(1848, .iload_n 3, 1), (1849, .iconst 2, 1), (1850, .iadd, 1), (1851, .iaload, 1), (1852, .invokevirtual 180, 3), (1855, .aload_n 2, 1)]
theorem aJ_561_210 : sx_iB code aI_561_210 = true := by decide +kernel
def aI_561_211 : sx_IL := [(1856, .aload_n 0, 1), (1857, .iload_n 3, 1), (1858, .iconst 1, 1), (1859, .iadd, 1), (1860, .iaload, 1), (1861, .aload_n 0, 1)]
theorem aJ_561_211 : sx_iB code aI_561_211 = true := by decide +kernel
def aI_561_212 : sx_IL := [(1862, .iload_n 3, 1), (1863, .iconst 2, 1), (1864, .iadd, 1), (1865, .iaload, 1), (1866, .invokevirtual 183, 3), (1869, .if_icmp .eq 1306, 3)]
theorem aJ_561_212 : sx_iB code aI_561_212 = true := by decide +kernel
def aI_561_213 : sx_IL := [(1872, .iconst 0, 1), (1873, .ireturn, 1), (1874, .aload_n 1, 1), (1875, .aload_n 0, 1), (1876, .iload_n 3, 1), (1877, .iconst 1, 1)]
theorem aJ_561_213 : sx_iB code aI_561_213 = true := by decide +kernel
def aI_561_214 : sx_IL := [(1878, .iadd, 1), (1879, .iaload, 1), (1880, .aload_n 0, 1), (1881, .iload_n 3, 1), (1882, .iconst 2, 1), (1883, .iadd, 1)]
theorem aJ_561_214 : sx_iB code aI_561_214 = true := by decide +kernel
def aI_561_215 : sx_IL := [(1884, .iaload, 1), (1885, .invokevirtual 184, 3), (1888, .aload_n 2, 1), (1889, .aload_n 0, 1), (1890, .iload_n 3, 1), (1891, .iconst 1, 1)]
theorem aJ_561_215 : sx_iB code aI_561_215 = true := by decide +kernel
def aI_561_216 : sx_IL := [(1892, .iadd, 1), (1893, .iaload, 1), (1894, .aload_n 0, 1), (1895, .iload_n 3, 1), (1896, .iconst 2, 1), (1897, .iadd, 1)]
theorem aJ_561_216 : sx_iB code aI_561_216 = true := by decide +kernel
def aI_561_217 : sx_IL := [(1898, .iaload, 1), (1899, .invokevirtual 187, 3), (1902, .if_icmp .eq 1273, 3), (1905, .iconst 0, 1), (1906, .ireturn, 1), (1907, .aload_n 1, 1)]
theorem aJ_561_217 : sx_iB code aI_561_217 = true := by decide +kernel
def aI_561_218 : sx_IL := [(1908, .aload_n 0, 1), (1909, .iload_n 3, 1), (1910, .iconst 1, 1), (1911, .iadd, 1), (1912, .iaload, 1), (1913, .aload_n 0, 1)]
theorem aJ_561_218 : sx_iB code aI_561_218 = true := by decide +kernel
def aI_561_219 : sx_IL := [(1914, .iload_n 3, 1), (1915, .iconst 2, 1), (1916, .iadd, 1), (1917, .iaload, 1), (1918, .aload_n 0, 1), (1919, .iload_n 3, 1)]
theorem aJ_561_219 : sx_iB code aI_561_219 = true := by decide +kernel
def aI_561_220 : sx_IL := [(1920, .iconst 3, 1), (1921, .iadd, 1), (1922, .iaload, 1), (1923, .invokevirtual 188, 3), (1926, .aload_n 2, 1), (1927, .aload_n 0, 1)]
theorem aJ_561_220 : sx_iB code aI_561_220 = true := by decide +kernel
def aI_561_221 : sx_IL := [(1928, .iload_n 3, 1), (1929, .iconst 1, 1), (1930, .iadd, 1), (1931, .iaload, 1), (1932, .aload_n 0, 1), (1933, .iload_n 3, 1)]
theorem aJ_561_221 : sx_iB code aI_561_221 = true := by decide +kernel
def aI_561_222 : sx_IL := [(1934, .iconst 2, 1), (1935, .iadd, 1), (1936, .iaload, 1), (1937, .aload_n 0, 1), (1938, .iload_n 3, 1), (1939, .iconst 3, 1)]
theorem aJ_561_222 : sx_iB code aI_561_222 = true := by decide +kernel
def aI_561_223 : sx_IL := [(1940, .iadd, 1), (1941, .iaload, 1), (1942, .invokevirtual 191, 3), (1945, .if_icmp .eq 1230, 3), (1948, .iconst 0, 1), (1949, .ireturn, 1)]
theorem aJ_561_223 : sx_iB code aI_561_223 = true := by decide +kernel
def aI_561_224 : sx_IL := [(1950, .aload_n 1, 1), (1951, .aload_n 0, 1), (1952, .iload_n 3, 1), (1953, .iconst 1, 1), (1954, .iadd, 1), (1955, .iaload, 1)]
theorem aJ_561_224 : sx_iB code aI_561_224 = true := by decide +kernel
def aI_561_225 : sx_IL := [(1956, .aload_n 0, 1), (1957, .iload_n 3, 1), (1958, .iconst 2, 1), (1959, .iadd, 1), (1960, .iaload, 1), (1961, .aload_n 0, 1)]
theorem aJ_561_225 : sx_iB code aI_561_225 = true := by decide +kernel
def aI_561_226 : sx_IL := [(1962, .iload_n 3, 1), (1963, .iconst 3, 1), (1964, .iadd, 1), (1965, .iaload, 1), (1966, .invokevirtual 192, 3), (1969, .aload_n 2, 1)]
theorem aJ_561_226 : sx_iB code aI_561_226 = true := by decide +kernel
def aI_561_227 : sx_IL := [(1970, .aload_n 0, 1), (1971, .iload_n 3, 1), (1972, .iconst 1, 1), (1973, .iadd, 1), (1974, .iaload, 1), (1975, .aload_n 0, 1)]
theorem aJ_561_227 : sx_iB code aI_561_227 = true := by decide +kernel
def aI_561_228 : sx_IL := [(1976, .iload_n 3, 1), (1977, .iconst 2, 1), (1978, .iadd, 1), (1979, .iaload, 1), (1980, .aload_n 0, 1), (1981, .iload_n 3, 1)]
theorem aJ_561_228 : sx_iB code aI_561_228 = true := by decide +kernel
def aI_561_229 : sx_IL := [(1982, .iconst 3, 1), (1983, .iadd, 1), (1984, .iaload, 1), (1985, .invokevirtual 195, 3), (1988, .if_icmp .eq 1187, 3), (1991, .iconst 0, 1)]
theorem aJ_561_229 : sx_iB code aI_561_229 = true := by decide +kernel
def aI_561_230 : sx_IL := [(1992, .ireturn, 1), (1993, .aload_n 1, 1), (1994, .aload_n 0, 1), (1995, .iload_n 3, 1), (1996, .iconst 1, 1), (1997, .iadd, 1)]
theorem aJ_561_230 : sx_iB code aI_561_230 = true := by decide +kernel
def aI_561_231 : sx_IL := [(1998, .iaload, 1), (1999, .aload_n 0, 1), (2000, .iload_n 3, 1), (2001, .iconst 2, 1), (2002, .iadd, 1), (2003, .iaload, 1)]
theorem aJ_561_231 : sx_iB code aI_561_231 = true := by decide +kernel
def aI_561_232 : sx_IL := [(2004, .aload_n 0, 1), (2005, .iload_n 3, 1), (2006, .iconst 3, 1), (2007, .iadd, 1), (2008, .iaload, 1), (2009, .aload_n 0, 1)]
theorem aJ_561_232 : sx_iB code aI_561_232 = true := by decide +kernel
def aI_561_233 : sx_IL := [(2010, .iload_n 3, 1), (2011, .iconst 4, 1), (2012, .iadd, 1), (2013, .iaload, 1), (2014, .invokevirtual 196, 3), (2017, .aload_n 2, 1)]
theorem aJ_561_233 : sx_iB code aI_561_233 = true := by decide +kernel
def aI_561_234 : sx_IL := [(2018, .aload_n 0, 1), (2019, .iload_n 3, 1), (2020, .iconst 1, 1), (2021, .iadd, 1), (2022, .iaload, 1), (2023, .aload_n 0, 1)]
theorem aJ_561_234 : sx_iB code aI_561_234 = true := by decide +kernel
def aI_561_235 : sx_IL := [(2024, .iload_n 3, 1), (2025, .iconst 2, 1), (2026, .iadd, 1), (2027, .iaload, 1), (2028, .aload_n 0, 1), (2029, .iload_n 3, 1)]
theorem aJ_561_235 : sx_iB code aI_561_235 = true := by decide +kernel
def aI_561_236 : sx_IL := [(2030, .iconst 3, 1), (2031, .iadd, 1), (2032, .iaload, 1), (2033, .aload_n 0, 1), (2034, .iload_n 3, 1), (2035, .iconst 4, 1)]
theorem aJ_561_236 : sx_iB code aI_561_236 = true := by decide +kernel
def aI_561_237 : sx_IL := [(2036, .iadd, 1), (2037, .iaload, 1), (2038, .invokevirtual 199, 3), (2041, .if_icmp .eq 1134, 3), (2044, .iconst 0, 1), (2045, .ireturn, 1)]
theorem aJ_561_237 : sx_iB code aI_561_237 = true := by decide +kernel
def aI_561_238 : sx_IL := [(2046, .aload_n 1, 1), (2047, .aload_n 0, 1), (2048, .iload_n 3, 1), (2049, .iconst 1, 1), (2050, .iadd, 1), (2051, .iaload, 1)]
theorem aJ_561_238 : sx_iB code aI_561_238 = true := by decide +kernel
def aI_561_239 : sx_IL := [(2052, .aload_n 0, 1), (2053, .iload_n 3, 1), (2054, .iconst 2, 1), (2055, .iadd, 1), (2056, .iaload, 1), (2057, .invokevirtual 200, 3)]
theorem aJ_561_239 : sx_iB code aI_561_239 = true := by decide +kernel
def aI_561_240 : sx_IL := [(2060, .aload_n 2, 1), (2061, .aload_n 0, 1), (2062, .iload_n 3, 1), (2063, .iconst 1, 1), (2064, .iadd, 1), (2065, .iaload, 1)]
theorem aJ_561_240 : sx_iB code aI_561_240 = true := by decide +kernel
def aI_561_241 : sx_IL := [(2066, .aload_n 0, 1), (2067, .iload_n 3, 1), (2068, .iconst 2, 1), (2069, .iadd, 1), (2070, .iaload, 1), (2071, .invokevirtual 203, 3)]
theorem aJ_561_241 : sx_iB code aI_561_241 = true := by decide +kernel
def aI_561_242 : sx_IL := [(2074, .if_icmp .eq 1101, 3), (2077, .iconst 0, 1), (2078, .ireturn, 1), (2079, .aload_n 1, 1), (2080, .aload_n 0, 1), (2081, .iload_n 3, 1)]
theorem aJ_561_242 : sx_iB code aI_561_242 = true := by decide +kernel
def aI_561_243 : sx_IL := [(2082, .iconst 1, 1), (2083, .iadd, 1), (2084, .iaload, 1), (2085, .aload_n 0, 1), (2086, .iload_n 3, 1), (2087, .iconst 2, 1)]
theorem aJ_561_243 : sx_iB code aI_561_243 = true := by decide +kernel
def aI_561_244 : sx_IL := [(2088, .iadd, 1), (2089, .iaload, 1), (2090, .invokevirtual 204, 3), (2093, .aload_n 2, 1), (2094, .aload_n 0, 1), (2095, .iload_n 3, 1)]
theorem aJ_561_244 : sx_iB code aI_561_244 = true := by decide +kernel
def aI_561_245 : sx_IL := [(2096, .iconst 1, 1), (2097, .iadd, 1), (2098, .iaload, 1), (2099, .aload_n 0, 1), (2100, .iload_n 3, 1), (2101, .iconst 2, 1)]
theorem aJ_561_245 : sx_iB code aI_561_245 = true := by decide +kernel
def aI_561_246 : sx_IL := [(2102, .iadd, 1), (2103, .iaload, 1), (2104, .invokevirtual 207, 3), (2107, .if_icmp .eq 1068, 3), (2110, .iconst 0, 1), (2111, .ireturn, 1)]
theorem aJ_561_246 : sx_iB code aI_561_246 = true := by decide +kernel
def aI_561_247 : sx_IL := [(2112, .aload_n 1, 1), (2113, .aload_n 0, 1), (2114, .iload_n 3, 1), (2115, .iconst 1, 1), (2116, .iadd, 1), (2117, .iaload, 1)]
theorem aJ_561_247 : sx_iB code aI_561_247 = true := by decide +kernel
def aI_561_248 : sx_IL := [(2118, .aload_n 0, 1), (2119, .iload_n 3, 1), (2120, .iconst 2, 1), (2121, .iadd, 1), (2122, .iaload, 1), (2123, .invokevirtual 208, 3)]
theorem aJ_561_248 : sx_iB code aI_561_248 = true := by decide +kernel
def aI_561_249 : sx_IL := [(2126, .aload_n 2, 1), (2127, .aload_n 0, 1), (2128, .iload_n 3, 1), (2129, .iconst 1, 1), (2130, .iadd, 1), (2131, .iaload, 1)]
theorem aJ_561_249 : sx_iB code aI_561_249 = true := by decide +kernel
def aI_561_250 : sx_IL := [(2132, .aload_n 0, 1), (2133, .iload_n 3, 1), (2134, .iconst 2, 1), (2135, .iadd, 1), (2136, .iaload, 1), (2137, .invokevirtual 211, 3)]
theorem aJ_561_250 : sx_iB code aI_561_250 = true := by decide +kernel
def aI_561_251 : sx_IL := [(2140, .if_icmp .eq 1035, 3), (2143, .iconst 0, 1), (2144, .ireturn, 1), (2145, .aload_n 1, 1), (2146, .aload_n 0, 1), (2147, .iload_n 3, 1)]
theorem aJ_561_251 : sx_iB code aI_561_251 = true := by decide +kernel
def aI_561_252 : sx_IL := [(2148, .iconst 1, 1), (2149, .iadd, 1), (2150, .iaload, 1), (2151, .aload_n 0, 1), (2152, .iload_n 3, 1), (2153, .iconst 2, 1)]
theorem aJ_561_252 : sx_iB code aI_561_252 = true := by decide +kernel
def aI_561_253 : sx_IL := [(2154, .iadd, 1), (2155, .iaload, 1), (2156, .aload_n 0, 1), (2157, .iload_n 3, 1), (2158, .iconst 3, 1), (2159, .iadd, 1)]
theorem aJ_561_253 : sx_iB code aI_561_253 = true := by decide +kernel
def aI_561_254 : sx_IL := [(2160, .iaload, 1), (2161, .invokevirtual 212, 3), (2164, .aload_n 2, 1), (2165, .aload_n 0, 1), (2166, .iload_n 3, 1), (2167, .iconst 1, 1)]
theorem aJ_561_254 : sx_iB code aI_561_254 = true := by decide +kernel
def aI_561_255 : sx_IL := [(2168, .iadd, 1), (2169, .iaload, 1), (2170, .aload_n 0, 1), (2171, .iload_n 3, 1), (2172, .iconst 2, 1), (2173, .iadd, 1)]
theorem aJ_561_255 : sx_iB code aI_561_255 = true := by decide +kernel
def aI_561_256 : sx_IL := [(2174, .iaload, 1), (2175, .aload_n 0, 1), (2176, .iload_n 3, 1), (2177, .iconst 3, 1), (2178, .iadd, 1), (2179, .iaload, 1)]
theorem aJ_561_256 : sx_iB code aI_561_256 = true := by decide +kernel
def aI_561_257 : sx_IL := [(2180, .invokevirtual 215, 3), (2183, .if_icmp .eq 992, 3), (2186, .iconst 0, 1), (2187, .ireturn, 1), (2188, .aload_n 1, 1), (2189, .aload_n 0, 1)]
theorem aJ_561_257 : sx_iB code aI_561_257 = true := by decide +kernel
def aI_561_258 : sx_IL := [(2190, .iload_n 3, 1), (2191, .iconst 1, 1), (2192, .iadd, 1), (2193, .iaload, 1), (2194, .aload_n 0, 1), (2195, .iload_n 3, 1)]
theorem aJ_561_258 : sx_iB code aI_561_258 = true := by decide +kernel
def aI_561_259 : sx_IL := [(2196, .iconst 2, 1), (2197, .iadd, 1), (2198, .iaload, 1), (2199, .aload_n 0, 1), (2200, .iload_n 3, 1), (2201, .iconst 3, 1)]
theorem aJ_561_259 : sx_iB code aI_561_259 = true := by decide +kernel
def aI_561_260 : sx_IL := [(2202, .iadd, 1), (2203, .iaload, 1), (2204, .invokevirtual 216, 3), (2207, .aload_n 2, 1), (2208, .aload_n 0, 1), (2209, .iload_n 3, 1)]
theorem aJ_561_260 : sx_iB code aI_561_260 = true := by decide +kernel
def aI_561_261 : sx_IL := [(2210, .iconst 1, 1), (2211, .iadd, 1), (2212, .iaload, 1), (2213, .aload_n 0, 1), (2214, .iload_n 3, 1), (2215, .iconst 2, 1)]
theorem aJ_561_261 : sx_iB code aI_561_261 = true := by decide +kernel
def aI_561_262 : sx_IL := [(2216, .iadd, 1), (2217, .iaload, 1), (2218, .aload_n 0, 1), (2219, .iload_n 3, 1), (2220, .iconst 3, 1), (2221, .iadd, 1)]
theorem aJ_561_262 : sx_iB code aI_561_262 = true := by decide +kernel
def aI_561_263 : sx_IL := [(2222, .iaload, 1), (2223, .invokevirtual 219, 3), (2226, .if_icmp .eq 949, 3), (2229, .iconst 0, 1), (2230, .ireturn, 1), (2231, .aload_n 1, 1)]
theorem aJ_561_263 : sx_iB code aI_561_263 = true := by decide +kernel
def aI_561_264 : sx_IL := [(2232, .aload_n 0, 1), (2233, .iload_n 3, 1), (2234, .iconst 1, 1), (2235, .iadd, 1), (2236, .iaload, 1), (2237, .aload_n 0, 1)]
theorem aJ_561_264 : sx_iB code aI_561_264 = true := by decide +kernel
def aI_561_265 : sx_IL := [(2238, .iload_n 3, 1), (2239, .iconst 2, 1), (2240, .iadd, 1), (2241, .iaload, 1), (2242, .aload_n 0, 1), (2243, .iload_n 3, 1)]
theorem aJ_561_265 : sx_iB code aI_561_265 = true := by decide +kernel
def aI_561_266 : sx_IL := [(2244, .iconst 3, 1), (2245, .iadd, 1), (2246, .iaload, 1), (2247, .invokevirtual 220, 3), (2250, .aload_n 2, 1), (2251, .aload_n 0, 1)]
theorem aJ_561_266 : sx_iB code aI_561_266 = true := by decide +kernel
def aI_561_267 : sx_IL := [(2252, .iload_n 3, 1), (2253, .iconst 1, 1), (2254, .iadd, 1), (2255, .iaload, 1), (2256, .aload_n 0, 1), (2257, .iload_n 3, 1)]
theorem aJ_561_267 : sx_iB code aI_561_267 = true := by decide +kernel
def aI_561_268 : sx_IL := [(2258, .iconst 2, 1), (2259, .iadd, 1), (2260, .iaload, 1), (2261, .aload_n 0, 1), (2262, .iload_n 3, 1), (2263, .iconst 3, 1)]
theorem aJ_561_268 : sx_iB code aI_561_268 = true := by decide +kernel
def aI_561_269 : sx_IL := [(2264, .iadd, 1), (2265, .iaload, 1), (2266, .invokevirtual 223, 3), (2269, .lcmp, 1), (2270, .ifCond .eq 905, 3), (2273, .iconst 0, 1)]
theorem aJ_561_269 : sx_iB code aI_561_269 = true := by decide +kernel
def aI_561_270 : sx_IL := [(2274, .ireturn, 1), (2275, .aload_n 1, 1), (2276, .aload_n 0, 1), (2277, .iload_n 3, 1), (2278, .iconst 1, 1), (2279, .iadd, 1)]
theorem aJ_561_270 : sx_iB code aI_561_270 = true := by decide +kernel
def aI_561_271 : sx_IL := [(2280, .iaload, 1), (2281, .aload_n 0, 1), (2282, .iload_n 3, 1), (2283, .iconst 2, 1), (2284, .iadd, 1), (2285, .iaload, 1)]
theorem aJ_561_271 : sx_iB code aI_561_271 = true := by decide +kernel
def aI_561_272 : sx_IL := [(2286, .invokevirtual 224, 3), (2289, .aload_n 2, 1), (2290, .aload_n 0, 1), (2291, .iload_n 3, 1), (2292, .iconst 1, 1), (2293, .iadd, 1)]
theorem aJ_561_272 : sx_iB code aI_561_272 = true := by decide +kernel
def aI_561_273 : sx_IL := [(2294, .iaload, 1), (2295, .aload_n 0, 1), (2296, .iload_n 3, 1), (2297, .iconst 2, 1), (2298, .iadd, 1), (2299, .iaload, 1)]
theorem aJ_561_273 : sx_iB code aI_561_273 = true := by decide +kernel
def aI_561_274 : sx_IL := [(2300, .invokevirtual 227, 3), (2303, .lcmp, 1), (2304, .ifCond .eq 871, 3), (2307, .iconst 0, 1), (2308, .ireturn, 1), (2309, .aload_n 1, 1)]
theorem aJ_561_274 : sx_iB code aI_561_274 = true := by decide +kernel
def aI_561_275 : sx_IL := [(2310, .aload_n 0, 1), (2311, .iload_n 3, 1), (2312, .iconst 1, 1), (2313, .iadd, 1), (2314, .iaload, 1), (2315, .aload_n 0, 1)]
theorem aJ_561_275 : sx_iB code aI_561_275 = true := by decide +kernel
def aI_561_276 : sx_IL := [(2316, .iload_n 3, 1), (2317, .iconst 2, 1), (2318, .iadd, 1), (2319, .iaload, 1), (2320, .aload_n 0, 1), (2321, .iload_n 3, 1)]
theorem aJ_561_276 : sx_iB code aI_561_276 = true := by decide +kernel
def aI_561_277 : sx_IL := [(2322, .iconst 3, 1), (2323, .iadd, 1), (2324, .iaload, 1), (2325, .invokevirtual 228, 3), (2328, .aload_n 2, 1), (2329, .aload_n 0, 1)]
theorem aJ_561_277 : sx_iB code aI_561_277 = true := by decide +kernel
def aI_561_278 : sx_IL := [(2330, .iload_n 3, 1), (2331, .iconst 1, 1), (2332, .iadd, 1), (2333, .iaload, 1), (2334, .aload_n 0, 1), (2335, .iload_n 3, 1)]
theorem aJ_561_278 : sx_iB code aI_561_278 = true := by decide +kernel
def aI_561_279 : sx_IL := [(2336, .iconst 2, 1), (2337, .iadd, 1), (2338, .iaload, 1), (2339, .aload_n 0, 1), (2340, .iload_n 3, 1), (2341, .iconst 3, 1)]
theorem aJ_561_279 : sx_iB code aI_561_279 = true := by decide +kernel
def aI_561_280 : sx_IL := [(2342, .iadd, 1), (2343, .iaload, 1), (2344, .invokevirtual 231, 3), (2347, .if_icmp .eq 828, 3), (2350, .iconst 0, 1), (2351, .ireturn, 1)]
theorem aJ_561_280 : sx_iB code aI_561_280 = true := by decide +kernel
def aI_561_281 : sx_IL := [(2352, .aload_n 1, 1), (2353, .aload_n 0, 1), (2354, .iload_n 3, 1), (2355, .iconst 1, 1), (2356, .iadd, 1), (2357, .iaload, 1)]
theorem aJ_561_281 : sx_iB code aI_561_281 = true := by decide +kernel
def aI_561_282 : sx_IL := [(2358, .aload_n 0, 1), (2359, .iload_n 3, 1), (2360, .iconst 2, 1), (2361, .iadd, 1), (2362, .iaload, 1), (2363, .i2l, 1)]
theorem aJ_561_282 : sx_iB code aI_561_282 = true := by decide +kernel
def aI_561_283 : sx_IL := [(2364, .bipush 32, 2), (2366, .lshl, 1), (2367, .aload_n 0, 1), (2368, .iload_n 3, 1), (2369, .iconst 3, 1), (2370, .iadd, 1)]
theorem aJ_561_283 : sx_iB code aI_561_283 = true := by decide +kernel
def aI_561_284 : sx_IL := [(2371, .iaload, 1), (2372, .i2l, 1), (2373, .ldc2_w 13, 3), (2376, .land, 1), (2377, .lor, 1), (2378, .invokevirtual 232, 3)]
theorem aJ_561_284 : sx_iB code aI_561_284 = true := by decide +kernel
def aI_561_285 : sx_IL := [(2381, .aload_n 2, 1), (2382, .aload_n 0, 1), (2383, .iload_n 3, 1), (2384, .iconst 1, 1), (2385, .iadd, 1), (2386, .iaload, 1)]
theorem aJ_561_285 : sx_iB code aI_561_285 = true := by decide +kernel
def aI_561_286 : sx_IL := [(2387, .aload_n 0, 1), (2388, .iload_n 3, 1), (2389, .iconst 2, 1), (2390, .iadd, 1), (2391, .iaload, 1), (2392, .i2l, 1)]
theorem aJ_561_286 : sx_iB code aI_561_286 = true := by decide +kernel
def aI_561_287 : sx_IL := [(2393, .bipush 32, 2), (2395, .lshl, 1), (2396, .aload_n 0, 1), (2397, .iload_n 3, 1), (2398, .iconst 3, 1), (2399, .iadd, 1)]
theorem aJ_561_287 : sx_iB code aI_561_287 = true := by decide +kernel
def aI_561_288 : sx_IL := [(2400, .iaload, 1), (2401, .i2l, 1), (2402, .ldc2_w 13, 3), (2405, .land, 1), (2406, .lor, 1), (2407, .invokevirtual 235, 3)]
theorem aJ_561_288 : sx_iB code aI_561_288 = true := by decide +kernel
def aI_561_289 : sx_IL := [(2410, .if_icmp .eq 765, 3), (2413, .iconst 0, 1), (2414, .ireturn, 1), (2415, .aload_n 1, 1), (2416, .aload_n 0, 1), (2417, .iload_n 3, 1)]
theorem aJ_561_289 : sx_iB code aI_561_289 = true := by decide +kernel
def aI_561_290 : sx_IL := [(2418, .iconst 1, 1), (2419, .iadd, 1), (2420, .iaload, 1), (2421, .aload_n 0, 1), (2422, .iload_n 3, 1), (2423, .iconst 2, 1)]
theorem aJ_561_290 : sx_iB code aI_561_290 = true := by decide +kernel
def aI_561_291 : sx_IL := [(2424, .iadd, 1), (2425, .iaload, 1), (2426, .invokevirtual 236, 3), (2429, .aload_n 2, 1), (2430, .aload_n 0, 1), (2431, .iload_n 3, 1)]
theorem aJ_561_291 : sx_iB code aI_561_291 = true := by decide +kernel
def aI_561_292 : sx_IL := [(2432, .iconst 1, 1), (2433, .iadd, 1), (2434, .iaload, 1), (2435, .aload_n 0, 1), (2436, .iload_n 3, 1), (2437, .iconst 2, 1)]
theorem aJ_561_292 : sx_iB code aI_561_292 = true := by decide +kernel
def aI_561_293 : sx_IL := [(2438, .iadd, 1), (2439, .iaload, 1), (2440, .invokevirtual 239, 3), (2443, .if_icmp .eq 732, 3), (2446, .iconst 0, 1), (2447, .ireturn, 1)]
theorem aJ_561_293 : sx_iB code aI_561_293 = true := by decide +kernel
def aI_561_294 : sx_IL := [(2448, .aload_n 1, 1), (2449, .aload_n 0, 1), (2450, .iload_n 3, 1), (2451, .iconst 1, 1), (2452, .iadd, 1), (2453, .iaload, 1)]
theorem aJ_561_294 : sx_iB code aI_561_294 = true := by decide +kernel
def aI_561_295 : sx_IL := [(2454, .aload_n 0, 1), (2455, .iload_n 3, 1), (2456, .iconst 2, 1), (2457, .iadd, 1), (2458, .iaload, 1), (2459, .aload_n 0, 1)]
theorem aJ_561_295 : sx_iB code aI_561_295 = true := by decide +kernel
def aI_561_296 : sx_IL := [(2460, .iload_n 3, 1), (2461, .iconst 3, 1), (2462, .iadd, 1), (2463, .iaload, 1), (2464, .invokevirtual 240, 3), (2467, .aload_n 2, 1)]
theorem aJ_561_296 : sx_iB code aI_561_296 = true := by decide +kernel
def aI_561_297 : sx_IL := [(2468, .aload_n 0, 1), (2469, .iload_n 3, 1), (2470, .iconst 1, 1), (2471, .iadd, 1), (2472, .iaload, 1), (2473, .aload_n 0, 1)]
theorem aJ_561_297 : sx_iB code aI_561_297 = true := by decide +kernel
def aI_561_298 : sx_IL := [(2474, .iload_n 3, 1), (2475, .iconst 2, 1), (2476, .iadd, 1), (2477, .iaload, 1), (2478, .aload_n 0, 1), (2479, .iload_n 3, 1)]
theorem aJ_561_298 : sx_iB code aI_561_298 = true := by decide +kernel
def aI_561_299 : sx_IL := [(2480, .iconst 3, 1), (2481, .iadd, 1), (2482, .iaload, 1), (2483, .invokevirtual 243, 3), (2486, .if_icmp .eq 689, 3), (2489, .iconst 0, 1)]
theorem aJ_561_299 : sx_iB code aI_561_299 = true := by decide +kernel
def aI_561_300 : sx_IL := [(2490, .ireturn, 1), (2491, .aload_n 1, 1), (2492, .aload_n 0, 1), (2493, .iload_n 3, 1), (2494, .iconst 1, 1), (2495, .iadd, 1)]
theorem aJ_561_300 : sx_iB code aI_561_300 = true := by decide +kernel
def aI_561_301 : sx_IL := [(2496, .iaload, 1), (2497, .i2l, 1), (2498, .bipush 32, 2), (2500, .lshl, 1), (2501, .aload_n 0, 1), (2502, .iload_n 3, 1)]
theorem aJ_561_301 : sx_iB code aI_561_301 = true := by decide +kernel
def aI_561_302 : sx_IL := [(2503, .iconst 2, 1), (2504, .iadd, 1), (2505, .iaload, 1), (2506, .i2l, 1), (2507, .ldc2_w 13, 3), (2510, .land, 1)]
theorem aJ_561_302 : sx_iB code aI_561_302 = true := by decide +kernel
def aI_561_303 : sx_IL := [(2511, .lor, 1), (2512, .invokevirtual 244, 3), (2515, .aload_n 2, 1), (2516, .aload_n 0, 1), (2517, .iload_n 3, 1), (2518, .iconst 1, 1)]
theorem aJ_561_303 : sx_iB code aI_561_303 = true := by decide +kernel
def aI_561_304 : sx_IL := [(2519, .iadd, 1), (2520, .iaload, 1), (2521, .i2l, 1), (2522, .bipush 32, 2), (2524, .lshl, 1), (2525, .aload_n 0, 1)]
theorem aJ_561_304 : sx_iB code aI_561_304 = true := by decide +kernel
def aI_561_305 : sx_IL := [(2526, .iload_n 3, 1), (2527, .iconst 2, 1), (2528, .iadd, 1), (2529, .iaload, 1), (2530, .i2l, 1), (2531, .ldc2_w 13, 3)]
theorem aJ_561_305 : sx_iB code aI_561_305 = true := by decide +kernel
def aI_561_306 : sx_IL := [(2534, .land, 1), (2535, .lor, 1), (2536, .invokevirtual 248, 3), (2539, .if_icmp .eq 636, 3), (2542, .iconst 0, 1), (2543, .ireturn, 1)]
theorem aJ_561_306 : sx_iB code aI_561_306 = true := by decide +kernel
def aI_561_307 : sx_IL := [(2544, .aload_n 1, 1), (2545, .aload_n 0, 1), (2546, .iload_n 3, 1), (2547, .iconst 1, 1), (2548, .iadd, 1), (2549, .iaload, 1)]
theorem aJ_561_307 : sx_iB code aI_561_307 = true := by decide +kernel
def aI_561_308 : sx_IL := [(2550, .aload_n 0, 1), (2551, .iload_n 3, 1), (2552, .iconst 2, 1), (2553, .iadd, 1), (2554, .iaload, 1), (2555, .aload_n 0, 1)]
theorem aJ_561_308 : sx_iB code aI_561_308 = true := by decide +kernel
def aI_561_309 : sx_IL := [(2556, .iload_n 3, 1), (2557, .iconst 3, 1), (2558, .iadd, 1), (2559, .iaload, 1), (2560, .invokevirtual 249, 3), (2563, .aload_n 2, 1)]
theorem aJ_561_309 : sx_iB code aI_561_309 = true := by decide +kernel
def aI_561_310 : sx_IL := [(2564, .aload_n 0, 1), (2565, .iload_n 3, 1), (2566, .iconst 1, 1), (2567, .iadd, 1), (2568, .iaload, 1), (2569, .aload_n 0, 1)]
theorem aJ_561_310 : sx_iB code aI_561_310 = true := by decide +kernel
def aI_561_311 : sx_IL := [(2570, .iload_n 3, 1), (2571, .iconst 2, 1), (2572, .iadd, 1), (2573, .iaload, 1), (2574, .aload_n 0, 1), (2575, .iload_n 3, 1)]
theorem aJ_561_311 : sx_iB code aI_561_311 = true := by decide +kernel
def aI_561_312 : sx_IL := [(2576, .iconst 3, 1), (2577, .iadd, 1), (2578, .iaload, 1), (2579, .invokevirtual 252, 3), (2582, .if_icmp .eq 593, 3), (2585, .iconst 0, 1)]
theorem aJ_561_312 : sx_iB code aI_561_312 = true := by decide +kernel
def aI_561_313 : sx_IL := [(2586, .ireturn, 1), (2587, .aload_n 1, 1), (2588, .aload_n 0, 1), (2589, .iload_n 3, 1), (2590, .iconst 1, 1), (2591, .iadd, 1)]
theorem aJ_561_313 : sx_iB code aI_561_313 = true := by decide +kernel
def aI_561_314 : sx_IL := [(2592, .iaload, 1), (2593, .aload_n 0, 1), (2594, .iload_n 3, 1), (2595, .iconst 2, 1), (2596, .iadd, 1), (2597, .iaload, 1)]
theorem aJ_561_314 : sx_iB code aI_561_314 = true := by decide +kernel
def aI_561_315 : sx_IL := [(2598, .aload_n 0, 1), (2599, .iload_n 3, 1), (2600, .iconst 3, 1), (2601, .iadd, 1), (2602, .iaload, 1), (2603, .aload_n 0, 1)]
theorem aJ_561_315 : sx_iB code aI_561_315 = true := by decide +kernel
def aI_561_316 : sx_IL := [(2604, .iload_n 3, 1), (2605, .iconst 4, 1), (2606, .iadd, 1), (2607, .iaload, 1), (2608, .invokevirtual 253, 3), (2611, .aload_n 2, 1)]
theorem aJ_561_316 : sx_iB code aI_561_316 = true := by decide +kernel
def aI_561_317 : sx_IL := [(2612, .aload_n 0, 1), (2613, .iload_n 3, 1), (2614, .iconst 1, 1), (2615, .iadd, 1), (2616, .iaload, 1), (2617, .aload_n 0, 1)]
theorem aJ_561_317 : sx_iB code aI_561_317 = true := by decide +kernel
def aI_561_318 : sx_IL := [(2618, .iload_n 3, 1), (2619, .iconst 2, 1), (2620, .iadd, 1), (2621, .iaload, 1), (2622, .aload_n 0, 1), (2623, .iload_n 3, 1)]
theorem aJ_561_318 : sx_iB code aI_561_318 = true := by decide +kernel
def aI_561_319 : sx_IL := [(2624, .iconst 3, 1), (2625, .iadd, 1), (2626, .iaload, 1), (2627, .aload_n 0, 1), (2628, .iload_n 3, 1), (2629, .iconst 4, 1)]
theorem aJ_561_319 : sx_iB code aI_561_319 = true := by decide +kernel
def aI_561_320 : sx_IL := [(2630, .iadd, 1), (2631, .iaload, 1), (2632, .invokevirtual 256, 3), (2635, .if_icmp .eq 540, 3), (2638, .iconst 0, 1), (2639, .ireturn, 1)]
theorem aJ_561_320 : sx_iB code aI_561_320 = true := by decide +kernel
def aI_561_321 : sx_IL := [(2640, .aload_n 1, 1), (2641, .aload_n 0, 1), (2642, .iload_n 3, 1), (2643, .iconst 1, 1), (2644, .iadd, 1), (2645, .iaload, 1)]
theorem aJ_561_321 : sx_iB code aI_561_321 = true := by decide +kernel
def aI_561_322 : sx_IL := [(2646, .aload_n 0, 1), (2647, .iload_n 3, 1), (2648, .iconst 2, 1), (2649, .iadd, 1), (2650, .iaload, 1), (2651, .invokevirtual 257, 3)]
theorem aJ_561_322 : sx_iB code aI_561_322 = true := by decide +kernel
def aI_561_323 : sx_IL := [(2654, .aload_n 2, 1), (2655, .aload_n 0, 1), (2656, .iload_n 3, 1), (2657, .iconst 1, 1), (2658, .iadd, 1), (2659, .iaload, 1)]
theorem aJ_561_323 : sx_iB code aI_561_323 = true := by decide +kernel
def aI_561_324 : sx_IL := [(2660, .aload_n 0, 1), (2661, .iload_n 3, 1), (2662, .iconst 2, 1), (2663, .iadd, 1), (2664, .iaload, 1), (2665, .invokevirtual 260, 3)]
theorem aJ_561_324 : sx_iB code aI_561_324 = true := by decide +kernel
def aI_561_325 : sx_IL := [(2668, .if_icmp .eq 507, 3), (2671, .iconst 0, 1), (2672, .ireturn, 1), (2673, .aload_n 1, 1), (2674, .aload_n 0, 1), (2675, .iload_n 3, 1)]
theorem aJ_561_325 : sx_iB code aI_561_325 = true := by decide +kernel
def aI_561_326 : sx_IL := [(2676, .iconst 1, 1), (2677, .iadd, 1), (2678, .iaload, 1), (2679, .aload_n 0, 1), (2680, .iload_n 3, 1), (2681, .iconst 2, 1)]
theorem aJ_561_326 : sx_iB code aI_561_326 = true := by decide +kernel
def aI_561_327 : sx_IL := [(2682, .iadd, 1), (2683, .iaload, 1), (2684, .invokevirtual 261, 3), (2687, .aload_n 2, 1), (2688, .aload_n 0, 1), (2689, .iload_n 3, 1)]
theorem aJ_561_327 : sx_iB code aI_561_327 = true := by decide +kernel
def aI_561_328 : sx_IL := [(2690, .iconst 1, 1), (2691, .iadd, 1), (2692, .iaload, 1), (2693, .aload_n 0, 1), (2694, .iload_n 3, 1), (2695, .iconst 2, 1)]
theorem aJ_561_328 : sx_iB code aI_561_328 = true := by decide +kernel
def aI_561_329 : sx_IL := [(2696, .iadd, 1), (2697, .iaload, 1), (2698, .invokevirtual 264, 3), (2701, .if_icmp .eq 474, 3), (2704, .iconst 0, 1), (2705, .ireturn, 1)]
theorem aJ_561_329 : sx_iB code aI_561_329 = true := by decide +kernel
def aI_561_330 : sx_IL := [(2706, .aload_n 1, 1), (2707, .aload_n 0, 1), (2708, .iload_n 3, 1), (2709, .iconst 1, 1), (2710, .iadd, 1), (2711, .iaload, 1)]
theorem aJ_561_330 : sx_iB code aI_561_330 = true := by decide +kernel
def aI_561_331 : sx_IL := [(2712, .aload_n 0, 1), (2713, .iload_n 3, 1), (2714, .iconst 2, 1), (2715, .iadd, 1), (2716, .iaload, 1), (2717, .aload_n 0, 1)]
theorem aJ_561_331 : sx_iB code aI_561_331 = true := by decide +kernel
def aI_561_332 : sx_IL := [(2718, .iload_n 3, 1), (2719, .iconst 3, 1), (2720, .iadd, 1), (2721, .iaload, 1), (2722, .invokevirtual 265, 3), (2725, .aload_n 2, 1)]
theorem aJ_561_332 : sx_iB code aI_561_332 = true := by decide +kernel
def aI_561_333 : sx_IL := [(2726, .aload_n 0, 1), (2727, .iload_n 3, 1), (2728, .iconst 1, 1), (2729, .iadd, 1), (2730, .iaload, 1), (2731, .aload_n 0, 1)]
theorem aJ_561_333 : sx_iB code aI_561_333 = true := by decide +kernel
def aI_561_334 : sx_IL := [(2732, .iload_n 3, 1), (2733, .iconst 2, 1), (2734, .iadd, 1), (2735, .iaload, 1), (2736, .aload_n 0, 1), (2737, .iload_n 3, 1)]
theorem aJ_561_334 : sx_iB code aI_561_334 = true := by decide +kernel
def aI_561_335 : sx_IL := [(2738, .iconst 3, 1), (2739, .iadd, 1), (2740, .iaload, 1), (2741, .invokevirtual 268, 3), (2744, .if_icmp .eq 431, 3), (2747, .iconst 0, 1)]
theorem aJ_561_335 : sx_iB code aI_561_335 = true := by decide +kernel
def aI_561_336 : sx_IL := [(2748, .ireturn, 1), (2749, .aload_n 1, 1), (2750, .invokevirtual 269, 3), (2753, .aload_n 2, 1), (2754, .invokevirtual 272, 3), (2757, .if_icmp .eq 418, 3)]
theorem aJ_561_336 : sx_iB code aI_561_336 = true := by decide +kernel
def aI_561_337 : sx_IL := [(2760, .iconst 0, 1), (2761, .ireturn, 1), (2762, .aload_n 1, 1), (2763, .aload_n 0, 1), (2764, .iload_n 3, 1), (2765, .iconst 1, 1)]
theorem aJ_561_337 : sx_iB code aI_561_337 = true := by decide +kernel
def aI_561_338 : sx_IL := [(2766, .iadd, 1), (2767, .iaload, 1), (2768, .aload_n 0, 1), (2769, .iload_n 3, 1), (2770, .iconst 2, 1), (2771, .iadd, 1)]
theorem aJ_561_338 : sx_iB code aI_561_338 = true := by decide +kernel
def aI_561_339 : sx_IL := [(2772, .iaload, 1), (2773, .i2l, 1), (2774, .bipush 32, 2), (2776, .lshl, 1), (2777, .aload_n 0, 1), (2778, .iload_n 3, 1)]
theorem aJ_561_339 : sx_iB code aI_561_339 = true := by decide +kernel
def aI_561_340 : sx_IL := [(2779, .iconst 3, 1), (2780, .iadd, 1), (2781, .iaload, 1), (2782, .i2l, 1), (2783, .ldc2_w 13, 3), (2786, .land, 1)]
theorem aJ_561_340 : sx_iB code aI_561_340 = true := by decide +kernel
def aI_561_341 : sx_IL := [(2787, .lor, 1), (2788, .invokevirtual 273, 3), (2791, .aload_n 2, 1), (2792, .aload_n 0, 1), (2793, .iload_n 3, 1), (2794, .iconst 1, 1)]
theorem aJ_561_341 : sx_iB code aI_561_341 = true := by decide +kernel
def aI_561_342 : sx_IL := [(2795, .iadd, 1), (2796, .iaload, 1), (2797, .aload_n 0, 1), (2798, .iload_n 3, 1), (2799, .iconst 2, 1), (2800, .iadd, 1)]
theorem aJ_561_342 : sx_iB code aI_561_342 = true := by decide +kernel
def aI_561_343 : sx_IL := [(2801, .iaload, 1), (2802, .i2l, 1), (2803, .bipush 32, 2), (2805, .lshl, 1), (2806, .aload_n 0, 1), (2807, .iload_n 3, 1)]
theorem aJ_561_343 : sx_iB code aI_561_343 = true := by decide +kernel
def aI_561_344 : sx_IL := [(2808, .iconst 3, 1), (2809, .iadd, 1), (2810, .iaload, 1), (2811, .i2l, 1), (2812, .ldc2_w 13, 3), (2815, .land, 1)]
theorem aJ_561_344 : sx_iB code aI_561_344 = true := by decide +kernel
def aI_561_345 : sx_IL := [(2816, .lor, 1), (2817, .invokevirtual 276, 3), (2820, .if_icmp .eq 355, 3), (2823, .iconst 0, 1), (2824, .ireturn, 1), (2825, .aload_n 1, 1)]
theorem aJ_561_345 : sx_iB code aI_561_345 = true := by decide +kernel
def aI_561_346 : sx_IL := [(2826, .aload_n 0, 1), (2827, .iload_n 3, 1), (2828, .iconst 1, 1), (2829, .iadd, 1), (2830, .iaload, 1), (2831, .aload_n 0, 1)]
theorem aJ_561_346 : sx_iB code aI_561_346 = true := by decide +kernel
def aI_561_347 : sx_IL := [(2832, .iload_n 3, 1), (2833, .iconst 2, 1), (2834, .iadd, 1), (2835, .iaload, 1), (2836, .invokevirtual 277, 3), (2839, .aload_n 2, 1)]
theorem aJ_561_347 : sx_iB code aI_561_347 = true := by decide +kernel
def aI_561_348 : sx_IL := [(2840, .aload_n 0, 1), (2841, .iload_n 3, 1), (2842, .iconst 1, 1), (2843, .iadd, 1), (2844, .iaload, 1), (2845, .aload_n 0, 1)]
theorem aJ_561_348 : sx_iB code aI_561_348 = true := by decide +kernel
def aI_561_349 : sx_IL := [(2846, .iload_n 3, 1), (2847, .iconst 2, 1), (2848, .iadd, 1), (2849, .iaload, 1), (2850, .invokevirtual 280, 3), (2853, .lcmp, 1)]
theorem aJ_561_349 : sx_iB code aI_561_349 = true := by decide +kernel
def aI_561_350 : sx_IL := [(2854, .ifCond .eq 321, 3), (2857, .iconst 0, 1), (2858, .ireturn, 1), (2859, .aload_n 1, 1), (2860, .aload_n 0, 1), (2861, .iload_n 3, 1)]
theorem aJ_561_350 : sx_iB code aI_561_350 = true := by decide +kernel
def aI_561_351 : sx_IL := [(2862, .iconst 1, 1), (2863, .iadd, 1), (2864, .iaload, 1), (2865, .aload_n 0, 1), (2866, .iload_n 3, 1), (2867, .iconst 2, 1)]
theorem aJ_561_351 : sx_iB code aI_561_351 = true := by decide +kernel
def aI_561_352 : sx_IL := [(2868, .iadd, 1), (2869, .iaload, 1), (2870, .aload_n 0, 1), (2871, .iload_n 3, 1), (2872, .iconst 3, 1), (2873, .iadd, 1)]
theorem aJ_561_352 : sx_iB code aI_561_352 = true := by decide +kernel
def aI_561_353 : sx_IL := [(2874, .iaload, 1), (2875, .invokevirtual 281, 3), (2878, .aload_n 2, 1), (2879, .aload_n 0, 1), (2880, .iload_n 3, 1), (2881, .iconst 1, 1)]
theorem aJ_561_353 : sx_iB code aI_561_353 = true := by decide +kernel
def aI_561_354 : sx_IL := [(2882, .iadd, 1), (2883, .iaload, 1), (2884, .aload_n 0, 1), (2885, .iload_n 3, 1), (2886, .iconst 2, 1), (2887, .iadd, 1)]
theorem aJ_561_354 : sx_iB code aI_561_354 = true := by decide +kernel
def aI_561_355 : sx_IL := [(2888, .iaload, 1), (2889, .aload_n 0, 1), (2890, .iload_n 3, 1), (2891, .iconst 3, 1), (2892, .iadd, 1), (2893, .iaload, 1)]
theorem aJ_561_355 : sx_iB code aI_561_355 = true := by decide +kernel
def aI_561_356 : sx_IL := [(2894, .invokevirtual 284, 3), (2897, .if_icmp .eq 278, 3), (2900, .iconst 0, 1), (2901, .ireturn, 1), (2902, .aload_n 1, 1), (2903, .aload_n 0, 1)]
theorem aJ_561_356 : sx_iB code aI_561_356 = true := by decide +kernel
def aI_561_357 : sx_IL := [(2904, .iload_n 3, 1), (2905, .iconst 1, 1), (2906, .iadd, 1), (2907, .iaload, 1), (2908, .aload_n 0, 1), (2909, .iload_n 3, 1)]
theorem aJ_561_357 : sx_iB code aI_561_357 = true := by decide +kernel
def aI_561_358 : sx_IL := [(2910, .iconst 2, 1), (2911, .iadd, 1), (2912, .iaload, 1), (2913, .aload_n 0, 1), (2914, .iload_n 3, 1), (2915, .iconst 3, 1)]
theorem aJ_561_358 : sx_iB code aI_561_358 = true := by decide +kernel
def aI_561_359 : sx_IL := [(2916, .iadd, 1), (2917, .iaload, 1), (2918, .invokevirtual 285, 3), (2921, .aload_n 2, 1), (2922, .aload_n 0, 1), (2923, .iload_n 3, 1)]
theorem aJ_561_359 : sx_iB code aI_561_359 = true := by decide +kernel
def aI_561_360 : sx_IL := [(2924, .iconst 1, 1), (2925, .iadd, 1), (2926, .iaload, 1), (2927, .aload_n 0, 1), (2928, .iload_n 3, 1), (2929, .iconst 2, 1)]
theorem aJ_561_360 : sx_iB code aI_561_360 = true := by decide +kernel
def aI_561_361 : sx_IL := [(2930, .iadd, 1), (2931, .iaload, 1), (2932, .aload_n 0, 1), (2933, .iload_n 3, 1), (2934, .iconst 3, 1), (2935, .iadd, 1)]
theorem aJ_561_361 : sx_iB code aI_561_361 = true := by decide +kernel
def aI_561_362 : sx_IL := [(2936, .iaload, 1), (2937, .invokevirtual 288, 3), (2940, .if_icmp .eq 235, 3), (2943, .iconst 0, 1), (2944, .ireturn, 1), (2945, .aload_n 1, 1)]
theorem aJ_561_362 : sx_iB code aI_561_362 = true := by decide +kernel
def aI_561_363 : sx_IL := [(2946, .aload_n 0, 1), (2947, .iload_n 3, 1), (2948, .iconst 1, 1), (2949, .iadd, 1), (2950, .iaload, 1), (2951, .i2l, 1)]
theorem aJ_561_363 : sx_iB code aI_561_363 = true := by decide +kernel
def aI_561_364 : sx_IL := [(2952, .bipush 32, 2), (2954, .lshl, 1), (2955, .aload_n 0, 1), (2956, .iload_n 3, 1), (2957, .iconst 2, 1), (2958, .iadd, 1)]
theorem aJ_561_364 : sx_iB code aI_561_364 = true := by decide +kernel
def aI_561_365 : sx_IL := [(2959, .iaload, 1), (2960, .i2l, 1), (2961, .ldc2_w 13, 3), (2964, .land, 1), (2965, .lor, 1), (2966, .aload_n 0, 1)]
theorem aJ_561_365 : sx_iB code aI_561_365 = true := by decide +kernel
def aI_561_366 : sx_IL := [(2967, .iload_n 3, 1), (2968, .iconst 3, 1), (2969, .iadd, 1), (2970, .iaload, 1), (2971, .aload_n 0, 1), (2972, .iload_n 3, 1)]
theorem aJ_561_366 : sx_iB code aI_561_366 = true := by decide +kernel
def aI_561_367 : sx_IL := [(2973, .iconst 4, 1), (2974, .iadd, 1), (2975, .iaload, 1), (2976, .aload_n 0, 1), (2977, .iload_n 3, 1), (2978, .iconst 5, 1)]
theorem aJ_561_367 : sx_iB code aI_561_367 = true := by decide +kernel
def aI_561_368 : sx_IL := [(2979, .iadd, 1), (2980, .iaload, 1), (2981, .i2l, 1), (2982, .bipush 32, 2), (2984, .lshl, 1), (2985, .aload_n 0, 1)]
theorem aJ_561_368 : sx_iB code aI_561_368 = true := by decide +kernel
def aI_561_369 : sx_IL := [(2986, .iload_n 3, 1), (2987, .bipush 6, 2), (2989, .iadd, 1), (2990, .iaload, 1), (2991, .i2l, 1), (2992, .ldc2_w 13, 3)]
theorem aJ_561_369 : sx_iB code aI_561_369 = true := by decide +kernel
def aI_561_370 : sx_IL := [(2995, .land, 1), (2996, .lor, 1), (2997, .invokevirtual 289, 3), (3000, .aload_n 2, 1), (3001, .aload_n 0, 1), (3002, .iload_n 3, 1)]
theorem aJ_561_370 : sx_iB code aI_561_370 = true := by decide +kernel
def aI_561_371 : sx_IL := [(3003, .iconst 1, 1), (3004, .iadd, 1), (3005, .iaload, 1), (3006, .i2l, 1), (3007, .bipush 32, 2), (3009, .lshl, 1)]
theorem aJ_561_371 : sx_iB code aI_561_371 = true := by decide +kernel
def aI_561_372 : sx_IL := [(3010, .aload_n 0, 1), (3011, .iload_n 3, 1), (3012, .iconst 2, 1), (3013, .iadd, 1), (3014, .iaload, 1), (3015, .i2l, 1)]
theorem aJ_561_372 : sx_iB code aI_561_372 = true := by decide +kernel
def aI_561_373 : sx_IL := [(3016, .ldc2_w 13, 3), (3019, .land, 1), (3020, .lor, 1), (3021, .aload_n 0, 1), (3022, .iload_n 3, 1), (3023, .iconst 3, 1)]
theorem aJ_561_373 : sx_iB code aI_561_373 = true := by decide +kernel
def aI_561_374 : sx_IL := [(3024, .iadd, 1), (3025, .iaload, 1), (3026, .aload_n 0, 1), (3027, .iload_n 3, 1), (3028, .iconst 4, 1), (3029, .iadd, 1)]
theorem aJ_561_374 : sx_iB code aI_561_374 = true := by decide +kernel
def aI_561_375 : sx_IL := [(3030, .iaload, 1), (3031, .aload_n 0, 1), (3032, .iload_n 3, 1), (3033, .iconst 5, 1), (3034, .iadd, 1), (3035, .iaload, 1)]
theorem aJ_561_375 : sx_iB code aI_561_375 = true := by decide +kernel
def aI_561_376 : sx_IL := [(3036, .i2l, 1), (3037, .bipush 32, 2), (3039, .lshl, 1), (3040, .aload_n 0, 1), (3041, .iload_n 3, 1), (3042, .bipush 6, 2)]
theorem aJ_561_376 : sx_iB code aI_561_376 = true := by decide +kernel
def aI_561_377 : sx_IL := [(3044, .iadd, 1), (3045, .iaload, 1), (3046, .i2l, 1), (3047, .ldc2_w 13, 3), (3050, .land, 1), (3051, .lor, 1)]
theorem aJ_561_377 : sx_iB code aI_561_377 = true := by decide +kernel
def aI_561_378 : sx_IL := [(3052, .invokevirtual 293, 3), (3055, .if_icmp .eq 120, 3), (3058, .iconst 0, 1), (3059, .ireturn, 1), (3060, .aload_n 1, 1), (3061, .aload_n 0, 1)]
theorem aJ_561_378 : sx_iB code aI_561_378 = true := by decide +kernel
def aI_561_379 : sx_IL := [(3062, .iload_n 3, 1), (3063, .iconst 1, 1), (3064, .iadd, 1), (3065, .iaload, 1), (3066, .aload_n 0, 1), (3067, .iload_n 3, 1)]
theorem aJ_561_379 : sx_iB code aI_561_379 = true := by decide +kernel
def aI_561_380 : sx_IL := [(3068, .iconst 2, 1), (3069, .iadd, 1), (3070, .iaload, 1), (3071, .aload_n 0, 1), (3072, .iload_n 3, 1), (3073, .iconst 3, 1)]
theorem aJ_561_380 : sx_iB code aI_561_380 = true := by decide +kernel
def aI_561_381 : sx_IL := [(3074, .iadd, 1), (3075, .iaload, 1), (3076, .i2l, 1), (3077, .bipush 32, 2), (3079, .lshl, 1), (3080, .aload_n 0, 1)]
theorem aJ_561_381 : sx_iB code aI_561_381 = true := by decide +kernel
def aI_561_382 : sx_IL := [(3081, .iload_n 3, 1), (3082, .iconst 4, 1), (3083, .iadd, 1), (3084, .iaload, 1), (3085, .i2l, 1), (3086, .ldc2_w 13, 3)]
theorem aJ_561_382 : sx_iB code aI_561_382 = true := by decide +kernel
def aI_561_383 : sx_IL := [(3089, .land, 1), (3090, .lor, 1), (3091, .aload_n 0, 1), (3092, .iload_n 3, 1), (3093, .iconst 5, 1), (3094, .iadd, 1)]
theorem aJ_561_383 : sx_iB code aI_561_383 = true := by decide +kernel
def aI_561_384 : sx_IL := [(3095, .iaload, 1), (3096, .i2l, 1), (3097, .bipush 32, 2), (3099, .lshl, 1), (3100, .aload_n 0, 1), (3101, .iload_n 3, 1)]
theorem aJ_561_384 : sx_iB code aI_561_384 = true := by decide +kernel
def aI_561_385 : sx_IL := [(3102, .bipush 6, 2), (3104, .iadd, 1), (3105, .iaload, 1), (3106, .i2l, 1), (3107, .ldc2_w 13, 3), (3110, .land, 1)]
theorem aJ_561_385 : sx_iB code aI_561_385 = true := by decide +kernel
def aI_561_386 : sx_IL := [(3111, .lor, 1), (3112, .invokevirtual 294, 3), (3115, .aload_n 2, 1), (3116, .aload_n 0, 1), (3117, .iload_n 3, 1), (3118, .iconst 1, 1)]
theorem aJ_561_386 : sx_iB code aI_561_386 = true := by decide +kernel
def aI_561_387 : sx_IL := [(3119, .iadd, 1), (3120, .iaload, 1), (3121, .aload_n 0, 1), (3122, .iload_n 3, 1), (3123, .iconst 2, 1), (3124, .iadd, 1)]
theorem aJ_561_387 : sx_iB code aI_561_387 = true := by decide +kernel
def aI_561_388 : sx_IL := [(3125, .iaload, 1), (3126, .aload_n 0, 1), (3127, .iload_n 3, 1), (3128, .iconst 3, 1), (3129, .iadd, 1), (3130, .iaload, 1)]
theorem aJ_561_388 : sx_iB code aI_561_388 = true := by decide +kernel
def aI_561_389 : sx_IL := [(3131, .i2l, 1), (3132, .bipush 32, 2), (3134, .lshl, 1), (3135, .aload_n 0, 1), (3136, .iload_n 3, 1), (3137, .iconst 4, 1)]
theorem aJ_561_389 : sx_iB code aI_561_389 = true := by decide +kernel
def aI_561_390 : sx_IL := [(3138, .iadd, 1), (3139, .iaload, 1), (3140, .i2l, 1), (3141, .ldc2_w 13, 3), (3144, .land, 1), (3145, .lor, 1)]
theorem aJ_561_390 : sx_iB code aI_561_390 = true := by decide +kernel
def aI_561_391 : sx_IL := [(3146, .aload_n 0, 1), (3147, .iload_n 3, 1), (3148, .iconst 5, 1), (3149, .iadd, 1), (3150, .iaload, 1), (3151, .i2l, 1)]
theorem aJ_561_391 : sx_iB code aI_561_391 = true := by decide +kernel
def aI_561_392 : sx_IL := [(3152, .bipush 32, 2), (3154, .lshl, 1), (3155, .aload_n 0, 1), (3156, .iload_n 3, 1), (3157, .bipush 6, 2), (3159, .iadd, 1)]
theorem aJ_561_392 : sx_iB code aI_561_392 = true := by decide +kernel
def aI_561_393 : sx_IL := [(3160, .iaload, 1), (3161, .i2l, 1), (3162, .ldc2_w 13, 3), (3165, .land, 1), (3166, .lor, 1), (3167, .invokevirtual 298, 3)]
theorem aJ_561_393 : sx_iB code aI_561_393 = true := by decide +kernel
def aI_561_394 : sx_IL := [(3170, .if_icmp .eq 5, 3), (3173, .iconst 0, 1), (3174, .ireturn, 1), (3175, .iinc 3 7, 3), (3178, .goto (-3160), 3), (3181, .iconst 1, 1)]
theorem aJ_561_394 : sx_iB code aI_561_394 = true := by decide +kernel
def aI_561_395 : sx_IL := [(3182, .ireturn, 1)]
theorem aJ_561_395 : sx_iB code aI_561_395 = true := by decide +kernel
