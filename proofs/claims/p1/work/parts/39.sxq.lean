/-! SX: configurations compared; stretches of known end -/
def sx_ie (x y : Int32) : Bool := x.toBitVec.toNat == y.toBitVec.toNat
theorem sx_ie_s {x y : Int32} (h : sx_ie x y = true) : x = y := Int32.toBitVec_inj.mp (BitVec.eq_of_toNat_eq (eq_of_beq h))
def sx_je (x y : Int64) : Bool := x.toBitVec.toNat == y.toBitVec.toNat
theorem sx_je_s {x y : Int64} (h : sx_je x y = true) : x = y := Int64.toBitVec_inj.mp (BitVec.eq_of_toNat_eq (eq_of_beq h))
/-- equal terms, quickly -/
def sx_te (a b : Term) : Bool := match a with
  | .int x => (match b with
    | .int y => sx_ie x y
    | _ => false)
  | .long x => (match b with
    | .long y => sx_je x y
    | _ => false)
  | .null => (match b with
    | .null => true
    | _ => false)
  | .index x => (match b with
    | .index y => x == y
    | _ => false)
  | .arg x => (match b with
    | .arg y => x == y
    | _ => false)
  | t => decide (t = b)
theorem sx_te_s {a b : Term} (h : sx_te a b = true) : a = b := by
  unfold sx_te at h
  split at h
  · split at h
    · rw [sx_ie_s h]
    · cases h
  · split at h
    · rw [sx_je_s h]
    · cases h
  · split at h
    · rfl
    · cases h
  · split at h
    · rw [eq_of_beq h]
    · cases h
  · split at h
    · rw [eq_of_beq h]
    · cases h
  · exact of_decide_eq_true h
def sx_le : List Term → List Term → Bool
  | [], [] => true
  | a :: r, b :: s => sx_te a b && sx_le r s
  | _, _ => false
theorem sx_le_s : ∀ {a b : List Term}, sx_le a b = true → a = b
  | [], [], _ => rfl
  | a :: r, b :: s, h => by
    unfold sx_le at h
    rw [Bool.and_eq_true] at h
    rw [sx_te_s h.1, sx_le_s h.2]
  | [], _ :: _, h => by
    unfold sx_le at h
    cases h
  | _ :: _, [], h => by
    unfold sx_le at h
    cases h
def sx_we : sx_W → sx_W → Bool
  | [], [] => true
  | (i, a) :: r, (j, b) :: s => (i == j) && (sx_te a b && sx_we r s)
  | _, _ => false
theorem sx_we_s : ∀ {a b : sx_W}, sx_we a b = true → a = b
  | [], [], _ => rfl
  | (i, a) :: r, (j, b) :: s, h => by
    unfold sx_we at h
    simp only [Bool.and_eq_true] at h
    rw [eq_of_beq h.1, sx_te_s h.2.1, sx_we_s h.2.2]
  | [], _ :: _, h => by
    unfold sx_we at h
    cases h
  | _ :: _, [], h => by
    unfold sx_we at h
    cases h
def sx_cd (a b : sx_C) : Bool := match a, b with
  | .inl (t, n, w), .inl (t2, n2, w2) => (t == t2) && ((n == n2) && sx_we w w2)
  | .inr (ci, fs), .inr (ci2, fs2) => (ci == ci2) && sx_le fs fs2
  | _, _ => false
theorem sx_cd_s {a b : sx_C} (h : sx_cd a b = true) : a = b := by
  unfold sx_cd at h
  split at h
  · simp only [Bool.and_eq_true] at h
    rw [eq_of_beq h.1, eq_of_beq h.2.1, sx_we_s h.2.2]
  · simp only [Bool.and_eq_true] at h
    rw [eq_of_beq h.1, sx_le_s h.2]
  · cases h
def sx_md : sx_M → sx_M → Bool
  | [], [] => true
  | a :: r, b :: s => sx_cd a b && sx_md r s
  | _, _ => false
theorem sx_md_s : ∀ {a b : sx_M}, sx_md a b = true → a = b
  | [], [], _ => rfl
  | a :: r, b :: s, h => by
    unfold sx_md at h
    rw [Bool.and_eq_true] at h
    rw [sx_cd_s h.1, sx_md_s h.2]
  | [], _ :: _, h => by
    unfold sx_md at h
    cases h
  | _ :: _, [], h => by
    unfold sx_md at h
    cases h
def sx_fd1 : List sx_Fr → List sx_Fr → Bool
  | [], [] => true
  | (y, pc, lv, st) :: r, (y2, pc2, lv2, st2) :: s => (y == y2) && ((pc == pc2) && (sx_we lv lv2 && (sx_le st st2 && sx_fd1 r s)))
  | _, _ => false
theorem sx_fd1_s : ∀ {a b : List sx_Fr}, sx_fd1 a b = true → a = b
  | [], [], _ => rfl
  | (y, pc, lv, st) :: r, (y2, pc2, lv2, st2) :: s, h => by
    unfold sx_fd1 at h
    simp only [Bool.and_eq_true] at h
    obtain ⟨h1, h2, h3, h4, h⟩ := h
    rw [eq_of_beq h1, eq_of_beq h2, sx_we_s h3, sx_le_s h4, sx_fd1_s h]
  | [], _ :: _, h => by
    unfold sx_fd1 at h
    cases h
  | _ :: _, [], h => by
    unfold sx_fd1 at h
    cases h
def sx_gd (a b : sx_G) : Bool := match a, b with
  | (cs, y, pc, lv, st, fs, Ms, n, sl), (cs2, y2, pc2, lv2, st2, fs2, Ms2, n2, sl2) => decide (cs = cs2) && ((y == y2) && ((pc == pc2) && (sx_we lv lv2 && (sx_le st st2 && (sx_fd1 fs fs2 && (sx_md Ms Ms2 && ((n == n2) && (sl == sl2))))))))
theorem sx_gd_s {a b : sx_G} (h : sx_gd a b = true) : a = b := by
  obtain ⟨cs, y, pc, lv, st, fs, Ms, n, sl⟩ := a
  obtain ⟨cs2, y2, pc2, lv2, st2, fs2, Ms2, n2, sl2⟩ := b
  unfold sx_gd at h
  simp only [Bool.and_eq_true, decide_eq_true_eq] at h
  obtain ⟨rfl, g1, g2, g3, g4, h1, h2, g5, g6⟩ := h
  rw [eq_of_beq g1, eq_of_beq g2, sx_we_s g3, sx_le_s g4, sx_fd1_s h1, sx_md_s h2, eq_of_beq g5, eq_of_beq g6]
/-- a stretch from one configuration to another -/
def sx_to (P : am_P) (ins : sx_Ins) (rt : sx_R) (k : Nat) (c d : sx_G) : Bool := match sx_go P ins rt k c with
  | some c' => sx_gd c' d
  | none => false
theorem sx_Ok_to {P : am_P} {ins : sx_Ins} {rt : sx_R} {E : sx_E} {RO : am_O} {sa : Nat → Nat} {Q : am_Q} (hins : sx_insOk P ins) (hok : sx_ok E rt RO sa) {k : Nat} {c d : sx_G} (h : sx_to P ins rt k c d = true) (g : sx_Ok P RO sa E Q d) : sx_Ok P RO sa E Q c := by
  unfold sx_to at h
  split at h
  · rename_i _ c' h1
    rw [← sx_gd_s h] at g
    exact sx_Ok_go hins hok h1 g
  · cases h
