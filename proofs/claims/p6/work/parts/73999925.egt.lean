/-! rows by eights: facts and names' forms found sooner -/
def tb_mk {α : Type} : List α → List (List α)
  | a :: b :: c :: d :: e :: f :: g :: h :: r => [a, b, c, d, e, f, g, h] :: tb_mk r
  | r => [r]
def tb_get {α : Type} (B : List (List α)) (i : Nat) : Option α := match B[i / 8]? with
  | some l => l[i % 8]?
  | none => none
theorem tb_one {α : Type} {l : List α} (h : l.length ≤ 8) (i : Nat) : tb_get [l] i = l[i]? := by
  unfold tb_get
  by_cases hi : i < 8
  · have h1 : i / 8 = 0 := by omega
    have h2 : i % 8 = i := by omega
    rw [h1, h2]
    rfl
  · have h1 : i / 8 = (i / 8 - 1) + 1 := by omega
    rw [h1]
    show none = l[i]?
    exact (List.getElem?_eq_none (by omega)).symm
theorem tb_s {α : Type} : ∀ (l : List α) (i : Nat), tb_get (tb_mk l) i = l[i]?
  | a :: b :: c :: d :: e :: f :: g :: h :: r, i => by
    by_cases hi : i < 8
    · have h1 : i / 8 = 0 := by omega
      have h2 : i % 8 = i := by omega
      unfold tb_get tb_mk
      rw [h1, h2]
      show [a, b, c, d, e, f, g, h][i]? = ([a, b, c, d, e, f, g, h] ++ r)[i]?
      rw [List.getElem?_append_left (by simpa using hi)]
    · obtain ⟨j, rfl⟩ : ∃ j, i = j + 8 := ⟨i - 8, by omega⟩
      have h1 : (j + 8) / 8 = j / 8 + 1 := by omega
      have h2 : (j + 8) % 8 = j % 8 := by omega
      have ih := tb_s r j
      unfold tb_get at ih ⊢
      unfold tb_mk
      rw [h1, h2]
      exact ih
  | [], i => tb_one (l := []) (by show 0 ≤ 8; omega) i
  | [a], i => tb_one (l := [a]) (by show 1 ≤ 8; omega) i
  | [a, b], i => tb_one (l := [a, b]) (by show 2 ≤ 8; omega) i
  | [a, b, c], i => tb_one (l := [a, b, c]) (by show 3 ≤ 8; omega) i
  | [a, b, c, d], i => tb_one (l := [a, b, c, d]) (by show 4 ≤ 8; omega) i
  | [a, b, c, d, e], i => tb_one (l := [a, b, c, d, e]) (by show 5 ≤ 8; omega) i
  | [a, b, c, d, e, f], i => tb_one (l := [a, b, c, d, e, f]) (by show 6 ≤ 8; omega) i
  | [a, b, c, d, e, f, g], i => tb_one (l := [a, b, c, d, e, f, g]) (by show 7 ≤ 8; omega) i
def tf_cb (B : List (List tl_F)) : List (Nat × Nat) → tl_F
  | [] => ([], 0)
  | (i, m) :: r => (match tb_get B i with
    | some f => tl_app (tl_sc (m : Int) f) (tf_cb B r)
    | none => tf_cb B r)
theorem tf_cb_s {fs : List tl_F} : ∀ ce : List (Nat × Nat), tf_cb (tb_mk fs) ce = tl_cb fs ce
  | [] => rfl
  | (i, m) :: r => by
    unfold tf_cb tl_cb
    rw [tb_s, tf_cb_s r]
    rfl
def tf_ck (B : List (List tl_F)) (e : tl_F) (D : Nat) (ce : List (Nat × Nat)) : Bool :=
  let g := tl_app (tf_cb B ce) (tl_sc (-(D : Int)) e)
  tl_z (tl_nl g.1) && (decide (g.2 < (D : Int)) && decide (0 < D))
def tf_prs (B : List (List tl_F)) : List tl_F → List tl_C → Bool
  | [], _ => true
  | e :: es, c :: cs => tf_ck B e c.1 c.2 && tf_prs B es cs
  | _ :: _, [] => false
theorem tf_prs_s {fs : List tl_F} : ∀ {es : List tl_F} {cs : List tl_C}, tl_prs fs es cs = tf_prs (tb_mk fs) es cs
  | [], _ => by
    unfold tl_prs tf_prs
    rfl
  | _ :: _, [] => by
    unfold tl_prs tf_prs
    rfl
  | e :: es, c :: cs => by
    unfold tl_prs tf_prs
    rw [tf_prs_s]
    unfold tl_pr tl_ck tf_ck
    rw [tf_cb_s]
def tf_at (n0 : Nat) (B : List (List tl_F)) (k : Nat) : tl_F := if k < n0 then tl_nm k else (match tb_get B (k - n0) with
  | some f => f
  | none => tl_nm k)
def tf_sb1 (n0 : Nat) (B : List (List tl_F)) : List (Nat × Int) → tl_F
  | [] => ([], 0)
  | (k, c) :: r => tl_app (tl_sc c (tf_at n0 B k)) (tf_sb1 n0 B r)
def tf_sb (n0 : Nat) (B : List (List tl_F)) (f : tl_F) : tl_F := tl_nf (tl_ad (tf_sb1 n0 B f.1) f.2)
theorem tf_at_s {n0 : Nat} {sg : List tl_F} {k : Nat} : tl_at n0 sg k = tf_at n0 (tb_mk sg) k := by
  unfold tl_at tf_at
  rw [tb_s]
  rfl
theorem tf_sb1_s {n0 : Nat} {sg : List tl_F} : ∀ l : List (Nat × Int), tl_sb1 n0 sg l = tf_sb1 n0 (tb_mk sg) l
  | [] => rfl
  | (k, c) :: r => by
    unfold tl_sb1 tf_sb1
    rw [tf_at_s, tf_sb1_s r]
theorem tf_sb_s {n0 : Nat} {sg : List tl_F} : tl_sb n0 sg = tf_sb n0 (tb_mk sg) := by
  funext f
  unfold tl_sb tf_sb
  rw [tf_sb1_s]
