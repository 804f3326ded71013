/-! TC: linear forms over named ints; a certificate that one is not below 0 -/
abbrev tl_F : Type := List (Nat × Int) × Int
def tl_s (V : Nat → Int) : List (Nat × Int) → Int
  | [] => 0
  | (k, c) :: r => c * V k + tl_s V r
def tl_v (V : Nat → Int) (f : tl_F) : Int := tl_s V f.1 + f.2
theorem tl_s_app (V : Nat → Int) : ∀ a b : List (Nat × Int), tl_s V (a ++ b) = tl_s V a + tl_s V b
  | [], b => by
    show tl_s V b = 0 + tl_s V b
    omega
  | (k, c) :: a, b => by
    show c * V k + tl_s V (a ++ b) = c * V k + tl_s V a + tl_s V b
    rw [tl_s_app V a b]
    omega
def tl_app (a b : tl_F) : tl_F := (a.1 ++ b.1, a.2 + b.2)
theorem tl_app_s (V : Nat → Int) (a b : tl_F) : tl_v V (tl_app a b) = tl_v V a + tl_v V b := by
  unfold tl_v tl_app
  dsimp only
  rw [tl_s_app]
  omega
def tl_sc (k : Int) (a : tl_F) : tl_F := (a.1.map (fun q => (q.1, k * q.2)), k * a.2)
theorem tl_s_sc (V : Nat → Int) (k : Int) : ∀ a : List (Nat × Int), tl_s V (a.map (fun q => (q.1, k * q.2))) = k * tl_s V a
  | [] => by
    show (0 : Int) = k * 0
    rw [Int.mul_zero]
  | (n, c) :: a => by
    show k * c * V n + tl_s V (a.map (fun q => (q.1, k * q.2))) = k * (c * V n + tl_s V a)
    rw [tl_s_sc V k a, Int.mul_add, Int.mul_assoc]
theorem tl_sc_s (V : Nat → Int) (k : Int) (a : tl_F) : tl_v V (tl_sc k a) = k * tl_v V a := by
  unfold tl_v tl_sc
  dsimp only
  rw [tl_s_sc, Int.mul_add]
/-- one name more, in order -/
def tl_in (k : Nat) (c : Int) : List (Nat × Int) → List (Nat × Int)
  | [] => [(k, c)]
  | (j, d) :: r => if k < j then (k, c) :: (j, d) :: r else if k = j then (j, c + d) :: r else (j, d) :: tl_in k c r
theorem tl_in_s (V : Nat → Int) (k : Nat) (c : Int) : ∀ l : List (Nat × Int), tl_s V (tl_in k c l) = c * V k + tl_s V l
  | [] => rfl
  | (j, d) :: r => by
    unfold tl_in
    split
    · rfl
    · split
      · rename_i _ h
        subst h
        show (c + d) * V k + tl_s V r = c * V k + (d * V k + tl_s V r)
        rw [Int.add_mul]
        omega
      · show d * V j + tl_s V (tl_in k c r) = c * V k + (d * V j + tl_s V r)
        rw [tl_in_s V k c r]
        omega
def tl_nl : List (Nat × Int) → List (Nat × Int)
  | [] => []
  | (k, c) :: r => tl_in k c (tl_nl r)
theorem tl_nl_s (V : Nat → Int) : ∀ l : List (Nat × Int), tl_s V (tl_nl l) = tl_s V l
  | [] => rfl
  | (k, c) :: r => by
    show tl_s V (tl_in k c (tl_nl r)) = c * V k + tl_s V r
    rw [tl_in_s, tl_nl_s V r]
def tl_z : List (Nat × Int) → Bool
  | [] => true
  | (_, c) :: r => (c == 0) && tl_z r
theorem tl_z_s (V : Nat → Int) : ∀ {l : List (Nat × Int)}, tl_z l = true → tl_s V l = 0
  | [], _ => rfl
  | (k, c) :: r, h => by
    have h2 := (Bool.and_eq_true _ _).mp (show ((c == 0) && tl_z r) = true from h)
    show c * V k + tl_s V r = 0
    rw [eq_of_beq h2.1, tl_z_s V h2.2, Int.zero_mul]
    rfl
/-- so many times so many facts -/
def tl_cb (fs : List tl_F) : List (Nat × Nat) → tl_F
  | [] => ([], 0)
  | (i, m) :: r => (match fs[i]? with
    | some f => tl_app (tl_sc (m : Int) f) (tl_cb fs r)
    | none => tl_cb fs r)
theorem tl_cb_s {V : Nat → Int} {fs : List tl_F} (h : ∀ f ∈ fs, 0 ≤ tl_v V f) : ∀ ce : List (Nat × Nat), 0 ≤ tl_v V (tl_cb fs ce)
  | [] => Int.le_refl 0
  | (i, m) :: r => by
    have ih := tl_cb_s h r
    unfold tl_cb
    split
    · rename_i f hf
      have h1 := h f (List.mem_of_getElem? hf)
      have h2 : 0 ≤ (m : Int) * tl_v V f := Int.mul_nonneg (Int.natCast_nonneg m) h1
      rw [tl_app_s, tl_sc_s]
      omega
    · exact ih
/-- D e is what the facts make, less at most D - 1 -/
def tl_ck (fs : List tl_F) (e : tl_F) (D : Nat) (ce : List (Nat × Nat)) : Bool :=
  let g := tl_app (tl_cb fs ce) (tl_sc (-(D : Int)) e)
  tl_z (tl_nl g.1) && (decide (g.2 < (D : Int)) && decide (0 < D))
theorem tl_ck_s {V : Nat → Int} {fs : List tl_F} (h : ∀ f ∈ fs, 0 ≤ tl_v V f) {e : tl_F} {D : Nat} {ce : List (Nat × Nat)} (hk : tl_ck fs e D ce = true) : 0 ≤ tl_v V e := by
  unfold tl_ck at hk
  simp only [Bool.and_eq_true, decide_eq_true_eq] at hk
  obtain ⟨h1, h2, h3⟩ := hk
  have h4 := tl_cb_s h ce
  have h5 : tl_v V (tl_app (tl_cb fs ce) (tl_sc (-(D : Int)) e)) = tl_v V (tl_cb fs ce) + -(D : Int) * tl_v V e := by
    rw [tl_app_s, tl_sc_s]
  have h6 : tl_s V (tl_app (tl_cb fs ce) (tl_sc (-(D : Int)) e)).1 = 0 := by
    rw [← tl_nl_s, tl_z_s V h1]
  unfold tl_v at h5
  rw [h6] at h5
  have h7 : (D : Int) * tl_v V e = tl_v V (tl_cb fs ce) - (tl_app (tl_cb fs ce) (tl_sc (-(D : Int)) e)).2 := by
    have e1 : -(D : Int) * tl_v V e = -((D : Int) * tl_v V e) := Int.neg_mul _ _
    unfold tl_v at e1 ⊢
    rw [e1] at h5
    omega
  have h8 : -(D : Int) < (D : Int) * tl_v V e := by
    rw [h7]
    omega
  by_cases h9 : 0 ≤ tl_v V e
  · exact h9
  · exfalso
    have h10 : (D : Int) * tl_v V e ≤ (D : Int) * (-1) := Int.mul_le_mul_of_nonneg_left (by omega) (by omega)
    omega
/-- facts that can't be together -/
def tl_no (fs : List tl_F) (ce : List (Nat × Nat)) : Bool :=
  let g := tl_cb fs ce
  tl_z (tl_nl g.1) && decide (g.2 < 0)
theorem tl_no_s {V : Nat → Int} {fs : List tl_F} {ce : List (Nat × Nat)} (hk : tl_no fs ce = true) (h : ∀ f ∈ fs, 0 ≤ tl_v V f) : False := by
  unfold tl_no at hk
  simp only [Bool.and_eq_true, decide_eq_true_eq] at hk
  obtain ⟨h1, h2⟩ := hk
  have h4 := tl_cb_s h ce
  have h6 : tl_s V (tl_cb fs ce).1 = 0 := by
    rw [← tl_nl_s, tl_z_s V h1]
  unfold tl_v at h4
  rw [h6] at h4
  omega
theorem tl_test : tl_ck [([(0, 1)], 0), ([(1, 1), (0, -1)], -1), ([(1, -1)], 800)] ([(0, -1)], 799) 1 [(1, 1), (2, 1)] = true := by decide +kernel
