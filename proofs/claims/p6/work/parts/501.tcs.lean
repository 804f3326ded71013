/-! TC: names below a bound, substitution, equality of forms -/
def tl_lt (n : Nat) (f : tl_F) : Bool := f.1.all (fun q => decide (q.1 < n))
theorem tl_s_lt {V V' : Nat → Int} {n : Nat} (h : ∀ k, k < n → V k = V' k) : ∀ {l : List (Nat × Int)}, l.all (fun q => decide (q.1 < n)) = true → tl_s V l = tl_s V' l
  | [], _ => rfl
  | (k, c) :: r, hl => by
    have h2 := (Bool.and_eq_true _ _).mp (show (decide (k < n) && r.all (fun q => decide (q.1 < n))) = true from hl)
    show c * V k + tl_s V r = c * V' k + tl_s V' r
    rw [h k (of_decide_eq_true h2.1), tl_s_lt h h2.2]
theorem tl_v_lt {V V' : Nat → Int} {n : Nat} (h : ∀ k, k < n → V k = V' k) {f : tl_F} (hf : tl_lt n f = true) : tl_v V f = tl_v V' f := by
  unfold tl_v
  rw [tl_s_lt h hf]
/-- a name's form -/
def tl_nm (k : Nat) : tl_F := ([(k, 1)], 0)
theorem tl_nm_s (V : Nat → Int) (k : Nat) : tl_v V (tl_nm k) = V k := by
  show 1 * V k + 0 + 0 = V k
  omega
def tl_c (c : Int) : tl_F := ([], c)
theorem tl_c_s (V : Nat → Int) (c : Int) : tl_v V (tl_c c) = c := by
  show 0 + c = c
  omega
def tl_sub (a b : tl_F) : tl_F := tl_app a (tl_sc (-1) b)
theorem tl_sub_s (V : Nat → Int) (a b : tl_F) : tl_v V (tl_sub a b) = tl_v V a - tl_v V b := by
  unfold tl_sub
  rw [tl_app_s, tl_sc_s]
  omega
def tl_neg (a : tl_F) : tl_F := tl_sc (-1) a
theorem tl_neg_s (V : Nat → Int) (a : tl_F) : tl_v V (tl_neg a) = - tl_v V a := by
  unfold tl_neg
  rw [tl_sc_s]
  omega
def tl_ad (a : tl_F) (c : Int) : tl_F := (a.1, a.2 + c)
theorem tl_ad_s (V : Nat → Int) (a : tl_F) (c : Int) : tl_v V (tl_ad a c) = tl_v V a + c := by
  unfold tl_ad tl_v
  dsimp only
  omega
def tl_nf (a : tl_F) : tl_F := ((tl_nl a.1).filter (fun q => !(q.2 == 0)), a.2)
theorem tl_s_fi (V : Nat → Int) : ∀ l : List (Nat × Int), tl_s V (l.filter (fun q => !(q.2 == 0))) = tl_s V l
  | [] => rfl
  | (k, c) :: r => by
    rw [List.filter_cons]
    split
    · show c * V k + tl_s V (r.filter _) = c * V k + tl_s V r
      rw [tl_s_fi V r]
    · rename_i h
      have hc : c = 0 := by
        by_cases e : c = 0
        · exact e
        · exact absurd (by simp [e]) h
      subst hc
      show tl_s V (r.filter _) = 0 * V k + tl_s V r
      rw [tl_s_fi V r, Int.zero_mul, Int.zero_add]
theorem tl_nf_s (V : Nat → Int) (a : tl_F) : tl_v V (tl_nf a) = tl_v V a := by
  unfold tl_nf tl_v
  dsimp only
  rw [tl_s_fi, tl_nl_s]
/-- forms that are one -/
def tl_eq (a b : tl_F) : Bool := decide (a = b) || (let g := tl_sub a b; tl_z (tl_nl g.1) && decide (g.2 = 0))
theorem tl_eq_s {V : Nat → Int} {a b : tl_F} (h : tl_eq a b = true) : tl_v V a = tl_v V b := by
  unfold tl_eq at h
  rcases (Bool.or_eq_true _ _).mp h with h | h
  · rw [of_decide_eq_true h]
  · simp only [Bool.and_eq_true, decide_eq_true_eq] at h
    have h1 : tl_v V (tl_sub a b) = 0 := by
      unfold tl_v
      rw [← tl_nl_s, tl_z_s V h.1, h.2]
      rfl
    rw [tl_sub_s] at h1
    omega
/-- names from a bound on stand for forms -/
def tl_at (n0 : Nat) (sg : List tl_F) (k : Nat) : tl_F := if k < n0 then tl_nm k else (match sg[k - n0]? with
  | some f => f
  | none => tl_nm k)
def tl_V (V : Nat → Int) (n0 : Nat) (sg : List tl_F) : Nat → Int := fun k => tl_v V (tl_at n0 sg k)
def tl_sb1 (n0 : Nat) (sg : List tl_F) : List (Nat × Int) → tl_F
  | [] => ([], 0)
  | (k, c) :: r => tl_app (tl_sc c (tl_at n0 sg k)) (tl_sb1 n0 sg r)
def tl_sb (n0 : Nat) (sg : List tl_F) (f : tl_F) : tl_F := tl_nf (tl_ad (tl_sb1 n0 sg f.1) f.2)
theorem tl_sb1_s (V : Nat → Int) (n0 : Nat) (sg : List tl_F) : ∀ l : List (Nat × Int), tl_v V (tl_sb1 n0 sg l) = tl_s (tl_V V n0 sg) l
  | [] => rfl
  | (k, c) :: r => by
    show tl_v V (tl_app (tl_sc c (tl_at n0 sg k)) (tl_sb1 n0 sg r)) = c * tl_v V (tl_at n0 sg k) + tl_s (tl_V V n0 sg) r
    rw [tl_app_s, tl_sc_s, tl_sb1_s V n0 sg r]
theorem tl_sb_s (V : Nat → Int) (n0 : Nat) (sg : List tl_F) (f : tl_F) : tl_v V (tl_sb n0 sg f) = tl_v (tl_V V n0 sg) f := by
  unfold tl_sb
  rw [tl_nf_s, tl_ad_s, tl_sb1_s]
  rfl
theorem tl_V_lt (V : Nat → Int) {n0 : Nat} (sg : List tl_F) {k : Nat} (h : k < n0) : tl_V V n0 sg k = V k := by
  unfold tl_V tl_at
  rw [if_pos h, tl_nm_s]
/-- a certificate: (D, so many times facts) -/
abbrev tl_C : Type := Nat × List (Nat × Nat)
def tl_pr (fs : List tl_F) (e : tl_F) (c : tl_C) : Bool := tl_ck fs e c.1 c.2
theorem tl_pr_s {V : Nat → Int} {fs : List tl_F} (h : ∀ f ∈ fs, 0 ≤ tl_v V f) {e : tl_F} {c : tl_C} (hk : tl_pr fs e c = true) : 0 ≤ tl_v V e := tl_ck_s h hk
/-- as many facts as certificates -/
def tl_prs (fs : List tl_F) : List tl_F → List tl_C → Bool
  | [], _ => true
  | e :: es, c :: cs => tl_pr fs e c && tl_prs fs es cs
  | _ :: _, [] => false
theorem tl_prs_s {V : Nat → Int} {fs : List tl_F} (h : ∀ f ∈ fs, 0 ≤ tl_v V f) : ∀ {es : List tl_F} {cs : List tl_C}, tl_prs fs es cs = true → ∀ e ∈ es, 0 ≤ tl_v V e
  | [], _, _, e, he => by cases he
  | e1 :: es, [], hk, _, _ => by cases hk
  | e1 :: es, c :: cs, hk, e, he => by
    have h2 := (Bool.and_eq_true _ _).mp (show (tl_pr fs e1 c && tl_prs fs es cs) = true from hk)
    rcases List.mem_cons.mp he with rfl | he
    · exact tl_pr_s h h2.1
    · exact tl_prs_s h h2.2 e he
