/-! SX: configurations compared; stretches of known end -/
def sx_cd (a b : sx_C) : Bool := match a, b with
  | .inl x, .inl y => decide (x.1 = y.1) && decide (x.2.1 = y.2.1) && decide (x.2.2 = y.2.2)
  | .inr x, .inr y => decide (x.1 = y.1) && decide (x.2 = y.2)
  | _, _ => false
theorem sx_cd_s {a b : sx_C} (h : sx_cd a b = true) : a = b := by
  unfold sx_cd at h
  split at h
  · rename_i x y
    obtain ⟨x1, x2, x3⟩ := x
    obtain ⟨y1, y2, y3⟩ := y
    simp only [Bool.and_eq_true, decide_eq_true_eq] at h
    obtain ⟨⟨rfl, rfl⟩, rfl⟩ := h
    rfl
  · rename_i x y
    obtain ⟨x1, x2⟩ := x
    obtain ⟨y1, y2⟩ := y
    simp only [Bool.and_eq_true, decide_eq_true_eq] at h
    obtain ⟨rfl, rfl⟩ := h
    rfl
  · cases h
def sx_md : sx_M → sx_M → Bool
  | [], [] => true
  | a :: r, b :: s => sx_cd a b && sx_md r s
  | _, _ => false
theorem sx_md_s : ∀ {a b : sx_M}, sx_md a b = true → a = b
  | [], [], _ => rfl
  | a :: r, b :: s, h => by
    unfold sx_md at h
    rw [Bool.and_eq_true] at h
    rw [sx_cd_s h.1, sx_md_s h.2]
  | [], _ :: _, h => by
    unfold sx_md at h
    cases h
  | _ :: _, [], h => by
    unfold sx_md at h
    cases h
def sx_fd1 : List sx_Fr → List sx_Fr → Bool
  | [], [] => true
  | (y, pc, lv, st) :: r, (y2, pc2, lv2, st2) :: s => decide (y = y2) && decide (pc = pc2) && decide (lv = lv2) && decide (st = st2) && sx_fd1 r s
  | _, _ => false
theorem sx_fd1_s : ∀ {a b : List sx_Fr}, sx_fd1 a b = true → a = b
  | [], [], _ => rfl
  | (y, pc, lv, st) :: r, (y2, pc2, lv2, st2) :: s, h => by
    unfold sx_fd1 at h
    simp only [Bool.and_eq_true, decide_eq_true_eq] at h
    obtain ⟨⟨⟨⟨rfl, rfl⟩, rfl⟩, rfl⟩, h⟩ := h
    rw [sx_fd1_s h]
  | [], _ :: _, h => by
    unfold sx_fd1 at h
    cases h
  | _ :: _, [], h => by
    unfold sx_fd1 at h
    cases h
def sx_gd (a b : sx_G) : Bool := match a, b with
  | (cs, y, pc, lv, st, fs, Ms, n, sl), (cs2, y2, pc2, lv2, st2, fs2, Ms2, n2, sl2) => decide (cs = cs2) && (decide (y = y2) && (decide (pc = pc2) && (decide (lv = lv2) && (decide (st = st2) && (sx_fd1 fs fs2 && (sx_md Ms Ms2 && (decide (n = n2) && decide (sl = sl2))))))))
theorem sx_gd_s {a b : sx_G} (h : sx_gd a b = true) : a = b := by
  obtain ⟨cs, y, pc, lv, st, fs, Ms, n, sl⟩ := a
  obtain ⟨cs2, y2, pc2, lv2, st2, fs2, Ms2, n2, sl2⟩ := b
  unfold sx_gd at h
  simp only [Bool.and_eq_true, decide_eq_true_eq] at h
  obtain ⟨rfl, rfl, rfl, rfl, rfl, h1, h2, rfl, rfl⟩ := h
  rw [sx_fd1_s h1, sx_md_s h2]
/-- a stretch from one configuration to another -/
def sx_to (P : am_P) (rt : sx_R) (k : Nat) (c d : sx_G) : Bool := match sx_go P rt k c with
  | some c' => sx_gd c' d
  | none => false
theorem sx_Ok_to {P : am_P} {rt : sx_R} {E : sx_E} {RO : am_O} {sa : Nat → Nat} {Q : am_Q} (hok : sx_ok E rt RO sa) {k : Nat} {c d : sx_G} (h : sx_to P rt k c d = true) (g : sx_Ok P RO sa E Q d) : sx_Ok P RO sa E Q c := by
  unfold sx_to at h
  split at h
  · rename_i _ c' h1
    rw [← sx_gd_s h] at g
    exact sx_Ok_go hok h1 g
  · cases h
