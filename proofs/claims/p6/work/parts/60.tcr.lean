/-! TC: reading the heap: what is found at a field, an element, a length */ -/
def tc_xk (X : tc_X) (p : Nat × Nat) : tc_X := (X.1, X.2.1 ++ [p], X.2.2)
def tc_xln (X : tc_X) (p : Nat × tl_F) : tc_X := (X.1, X.2.1, X.2.2.1 ++ [p], X.2.2.2)
def tc_xfd (X : tc_X) (p : Nat × Nat × tv_V) : tc_X := (X.1, X.2.1, X.2.2.1, X.2.2.2.1 ++ [p], X.2.2.2.2)
def tc_xel (X : tc_X) (p : Nat × tl_F × tl_F) : tc_X := (X.1, X.2.1, X.2.2.1, X.2.2.2.1, X.2.2.2.2.1 ++ [p], X.2.2.2.2.2)
section TCR
variable {Γ : tg_G} {RO : am_O} {κ : Nat → Option Nat} {M : am_H} {sz : Nat} {V : Nat → Int} {A : Nat → Nat} {X : tc_X}
theorem tc_ap {α : Type} {q : α → Prop} {l : List α} {p : α} (h : ∀ x ∈ l, q x) (hp : q p) : ∀ x ∈ l ++ [p], q x := by
  intro x hx
  rcases List.mem_append.mp hx with hx | hx
  · exact h x hx
  · rcases List.mem_cons.mp hx with rfl | hx
    · exact hp
    · cases hx
theorem tc_xk_s (h : tc_x Γ RO κ M sz V A X) {p : Nat × Nat} (hp : κ (A p.1) = some p.2) : tc_x Γ RO κ M sz V A (tc_xk X p) := by
  obtain ⟨h1, h2, h3⟩ := h
  exact ⟨h1, tc_ap h2 hp, h3⟩
theorem tc_xln_s (h : tc_x Γ RO κ M sz V A X) {p : Nat × tl_F} (hp : tc_xl RO M V A p) : tc_x Γ RO κ M sz V A (tc_xln X p) := by
  obtain ⟨h1, h2, h3, h4⟩ := h
  exact ⟨h1, h2, tc_ap h3 hp, h4⟩
theorem tc_xfd_s (h : tc_x Γ RO κ M sz V A X) {p : Nat × Nat × tv_V} (hp : tc_xf M V A p) : tc_x Γ RO κ M sz V A (tc_xfd X p) := by
  obtain ⟨h1, h2, h3, h4, h5⟩ := h
  exact ⟨h1, h2, h3, tc_ap h4 hp, h5⟩
theorem tc_xel_s (h : tc_x Γ RO κ M sz V A X) {p : Nat × tl_F × tl_F} (hp : tc_xe RO M V A p) : tc_x Γ RO κ M sz V A (tc_xel X p) := by
  obtain ⟨h1, h2, h3, h4, h5, h6⟩ := h
  exact ⟨h1, h2, h3, h4, tc_ap h5 hp, h6⟩
def tc_kd (X : tc_X) (a : Nat) : Option Nat := (X.2.1.find? (fun p => p.1 == a)).map (fun p => p.2)
theorem tc_kd_s (h : tc_x Γ RO κ M sz V A X) {a k : Nat} (g : tc_kd X a = some k) : κ (A a) = some k := by
  obtain ⟨p, h1, h2⟩ := Option.map_eq_some_iff.mp g
  have h3 := List.mem_of_find?_eq_some h1
  have h4 := List.find?_some h1
  have h5 : p.1 = a := by simpa using h4
  rw [← h5, ← h2]
  exact h.2.1 p h3
def tc_fd (X : tc_X) (a j : Nat) : Option tv_V := (X.2.2.2.1.find? (fun p => p.1 == a && p.2.1 == j)).map (fun p => p.2.2)
theorem tc_fd_s (h : tc_x Γ RO κ M sz V A X) {a j : Nat} {t : tv_V} (g : tc_fd X a j = some t) : tc_xf M V A (a, j, t) := by
  obtain ⟨p, h1, rfl⟩ := Option.map_eq_some_iff.mp g
  have h3 := List.mem_of_find?_eq_some h1
  have h40 := List.find?_some h1
  have h4 := tc_and h40
  have h5 : p.1 = a := by simpa using h4.1
  have h6 : p.2.1 = j := by simpa using h4.2
  subst h5
  subst h6
  exact h.2.2.2.1 p h3
def tc_lnf (X : tc_X) (a : Nat) : Option tl_F := (X.2.2.1.find? (fun p => p.1 == a)).map (fun p => p.2)
theorem tc_lnf_s (h : tc_x Γ RO κ M sz V A X) {a : Nat} {f : tl_F} (g : tc_lnf X a = some f) : tc_xl RO M V A (a, f) := by
  obtain ⟨p, h1, rfl⟩ := Option.map_eq_some_iff.mp g
  have h3 := List.mem_of_find?_eq_some h1
  have h5 : p.1 = a := by simpa using List.find?_some h1
  subst h5
  exact h.2.2.1 p h3
def tc_elf (X : tc_X) (a : Nat) (I : tl_F) : Option tl_F := (X.2.2.2.2.1.find? (fun p => p.1 == a && tl_eq p.2.1 I)).map (fun p => p.2.2)
theorem tc_elf_s (h : tc_x Γ RO κ M sz V A X) {a : Nat} {I f : tl_F} (g : tc_elf X a I = some f) : tc_xe RO M V A (a, I, f) := by
  obtain ⟨p, h1, rfl⟩ := Option.map_eq_some_iff.mp g
  have h3 := List.mem_of_find?_eq_some h1
  have h40 := List.find?_some h1
  have h4 := tc_and h40
  have h5 : p.1 = a := by simpa using h4.1
  subst h5
  obtain ⟨t, n, f, j, g1, g2, g3, g4⟩ := h.2.2.2.2.1 p h3
  exact ⟨t, n, f, j, g1, (tl_eq_s h4.2).symm.trans g2, g3, g4⟩
def tc_frs (X : tc_X) (a : Nat) : Option (Nat × List tv_V) := (X.2.2.2.2.2.1.find? (fun p => p.1 == a)).map (fun p => p.2)
theorem tc_frs_s (h : tc_x Γ RO κ M sz V A X) {a : Nat} {o : Nat × List tv_V} (g : tc_frs X a = some o) : tc_xn κ M sz V A (a, o) := by
  obtain ⟨p, h1, rfl⟩ := Option.map_eq_some_iff.mp g
  have h3 := List.mem_of_find?_eq_some h1
  have h5 : p.1 = a := by simpa using List.find?_some h1
  subst h5
  exact h.2.2.2.2.2.1 p h3
theorem tc_st_at {V : Nat → Int} {A : Nat → Nat} : ∀ {S : List tv_V} {st : List Value} {j : Nat} {t : tv_V}, tc_st V A S st → S[j]? = some t → ∃ v, st[j]? = some v ∧ tv_is V A t v
  | [], _, j, t, _, h => by simp at h
  | t :: r, [], j, _, g, _ => by cases g
  | t :: r, v :: s, 0, _, g, h => by
    cases h
    exact ⟨v, rfl, g.1⟩
  | t :: r, v :: s, j + 1, _, g, h => tc_st_at (j := j) g.2 (by simpa using h)
/-- what a value of a type may be: knowledge, value, names more -/
abbrev tc_Y : Type := tc_X × tv_V × Nat × Nat
def tc_alt (X : tc_X) (n m : Nat) (τ : tk_F) : List tc_Y := match τ.1 with
  | 0 => [(tc_xa X (tl_bt (tl_nm n) τ.2.1 τ.2.2.1), tv_i (tl_nm n), 1, 0)]
  | 1 => [(X, tv_j, 0, 0)]
  | 2 => τ.2.2.2.map (fun k => (tc_xk X (m, k), tv_a m, 0, 1))
  | _ => (X, tv_0, 0, 0) :: τ.2.2.2.map (fun k => (tc_xk X (m, k), tv_a m, 0, 1))
theorem tc_alt_f {X : tc_X} {n m : Nat} {τ : tk_F} {y : tc_Y} (hy : y ∈ tc_alt X n m τ) : y.1.2.2.2.2.2.1 = X.2.2.2.2.2.1 := by
  obtain ⟨s, lo, hi, ks⟩ := τ
  match s, hy with
  | 0, hy =>
    rcases List.mem_cons.mp hy with rfl | hy
    · rfl
    · cases hy
  | 1, hy =>
    rcases List.mem_cons.mp hy with rfl | hy
    · rfl
    · cases hy
  | 2, hy =>
    obtain ⟨k, -, rfl⟩ := List.mem_map.mp hy
    rfl
  | s + 3, hy =>
    rcases List.mem_cons.mp hy with rfl | hy
    · rfl
    · obtain ⟨k, -, rfl⟩ := List.mem_map.mp hy
      rfl
def ta_up (A : Nat → Nat) (m a : Nat) : Nat → Nat := fun k => if k = m then a else A k
theorem ta_up_lt {A : Nat → Nat} {m a : Nat} : ∀ k, k < m → A k = ta_up A m a k := by
  intro k hk
  unfold ta_up
  rw [if_neg (by omega)]
theorem ta_up_at {A : Nat → Nat} {m a : Nat} : ta_up A m a m = a := if_pos rfl
theorem tc_alt_a (h : tc_x Γ RO κ M sz V A X) {n m a k : Nat} (hw : tc_wx n m X = true) (ha : κ a = some k) : (∀ q, q < m → A q = ta_up A m a q) ∧ tc_x Γ RO κ M sz V (ta_up A m a) (tc_xk X (m, k)) ∧ tv_is V (ta_up A m a) (tv_a m) (.ref a) :=
  ⟨ta_up_lt, tc_xk_s (tc_x_lt (fun _ _ => rfl) ta_up_lt hw h) (by show κ (ta_up A m a m) = some k; rw [ta_up_at]; exact ha), by show Value.ref a = .ref (ta_up A m a m); rw [ta_up_at]⟩
theorem tc_alt_s (h : tc_x Γ RO κ M sz V A X) {n m : Nat} (hw : tc_wx n m X = true) {τ : tk_F} {v : Value} (g : tk_ok κ τ v) : ∃ y ∈ tc_alt X n m τ, ∃ (V' : Nat → Int) (A' : Nat → Nat), (∀ q, q < n → V q = V' q) ∧ (∀ q, q < m → A q = A' q) ∧ tc_x Γ RO κ M sz V' A' y.1 ∧ tv_is V' A' y.2.1 v := by
  obtain ⟨s, lo, hi, ks⟩ := τ
  match s, g with
  | 0, ⟨x, q, g1, g2⟩ =>
    subst q
    refine ⟨_, List.mem_cons_self, tl_up V n x.toInt, A, tl_up_lt, fun _ _ => rfl, tc_xa_s (tc_x_lt tl_up_lt (fun _ _ => rfl) hw h) (tl_bt_s (by rw [tl_up_nm]; exact g1) (by rw [tl_up_nm]; exact g2)), ⟨x, rfl, (tl_up_nm _ _ _).symm⟩⟩
  | 1, ⟨x, q⟩ =>
    subst q
    exact ⟨_, List.mem_cons_self, V, A, fun _ _ => rfl, fun _ _ => rfl, h, ⟨x, rfl⟩⟩
  | 2, ⟨a, k, q, g1, g2⟩ =>
    subst q
    obtain ⟨q1, q2, q3⟩ := tc_alt_a h hw g1
    exact ⟨_, List.mem_map.mpr ⟨k, g2, rfl⟩, V, _, fun _ _ => rfl, q1, q2, q3⟩
  | 3, .inl q =>
    subst q
    exact ⟨_, List.mem_cons_self, V, A, fun _ _ => rfl, fun _ _ => rfl, h, rfl⟩
  | 3, .inr ⟨a, k, q, g1, g2⟩ =>
    subst q
    obtain ⟨q1, q2, q3⟩ := tc_alt_a h hw g1
    exact ⟨_, List.mem_cons_of_mem _ (List.mem_map.mpr ⟨k, g2, rfl⟩), V, _, fun _ _ => rfl, q1, q2, q3⟩
  | n + 4, g => exact g.elim
theorem tc_vin {x : Int32} {j n : Nat} (h : x.toInt = (j : Int)) (hj : j < n) : vp_in x n ∧ x.toNatClampNeg = j := by
  have e : x.toNatClampNeg = j := by
    show x.toInt.toNat = j
    rw [h]
    rfl
  refine ⟨fun q => ?_, e⟩
  rcases q with q | q
  · have := Int32.lt_iff_toInt_lt.mp q
    have e0 : (0 : Int32).toInt = 0 := rfl
    omega
  · omega
/-- an index that is within: certificates k and k + 1 -/
def tc_ixc (X : tc_X) (h : tc_h) (k : Nat) (a : Nat) (I : tl_F) : Bool := match tc_lnf X a with
  | some f => tl_pr X.1 I (tc_cf h k) && tl_pr X.1 (tl_ad (tl_sub f I) (-1)) (tc_cf h (k + 1))
  | none => false
theorem tk_len_1 {a n n' : Nat} (h1 : tk_len M RO a n) (h2 : tk_len M RO a n') : n = n' := by
  rcases h1 with ⟨t, x, e1, rfl⟩ | ⟨e1, f, e2⟩
  · rcases h2 with ⟨t', x', e3, rfl⟩ | ⟨e3, _⟩
    · rw [e1] at e3
      cases e3
      rfl
    · rw [e1] at e3
      cases e3
  · rcases h2 with ⟨t', x', e3, rfl⟩ | ⟨e3, f', e4⟩
    · rw [e1] at e3
      cases e3
    · rw [e2] at e4
      cases e4
      rfl
theorem tc_ixc_s (h : tc_x Γ RO κ M sz V A X) {hh : tc_h} {k a : Nat} {I : tl_F} (g : tc_ixc X hh k a I = true) {n : Nat} (hn : tk_len M RO (A a) n) : ∃ j : Nat, tl_v V I = (j : Int) ∧ j < n := by
  unfold tc_ixc at g
  split at g
  · rename_i f hf
    obtain ⟨g1, g2⟩ := tc_and g
    have g1 := tl_pr_s h.1 g1
    have g2 := tl_pr_s h.1 g2
    rw [tl_ad_s, tl_sub_s] at g2
    obtain ⟨n', e1, e2⟩ := tc_lnf_s h hf
    have e3 := tk_len_1 hn e1
    subst e3
    have e2 : tl_v V f = (n : Int) := e2
    exact ⟨(tl_v V I).toNat, by omega, by omega⟩
  · cases g
/-- the bounds of an element: by the place's quotient and remainder, given by a hint -/
def tc_ebf (E : List tk_E) (h : tc_h) (I x : tl_F) : List tl_F := match E[(tc_hi h 0).toNat]? with
  | some e => if (tc_hi h 0).toNat < E.length ∧ tl_eq I (tl_ad (tl_sc (E.length : Int) (tc_hf h 0)) ((tc_hi h 0).toNat : Int)) = true then [tl_sub (tl_ad x (-e.1)) (tl_sc e.2.1 (tc_hf h 0)), tl_sub (tl_app (tl_c e.2.2.1) (tl_sc e.2.2.2 (tc_hf h 0))) x] else []
  | none => []
theorem tc_ebf_q {E : List tk_E} {r : Nat} (hr : r < E.length) {J : Int} {j : Nat} (h : (j : Int) = (E.length : Int) * J + (r : Int)) : j % E.length = r ∧ ((j / E.length : Nat) : Int) = J := by
  have h1 : ((j % E.length : Nat) : Int) = (r : Int) := by
    rw [Int.natCast_emod, h, Int.mul_add_emod_self_left]
    exact Int.emod_eq_of_lt (by omega) (by omega)
  have h2 : ((j / E.length : Nat) : Int) = J := by
    rw [Int.natCast_ediv, h, Int.mul_add_ediv_left _ _ (by omega)]
    rw [Int.ediv_eq_zero_of_lt (by omega) (by omega)]
    omega
  exact ⟨by omega, h2⟩
theorem tc_ebf_s {E : List tk_E} {hh : tc_h} {I x : tl_F} {j : Nat} (hI : tl_v V I = (j : Int)) (g : tk_eb E j (tl_v V x)) : ∀ f ∈ tc_ebf E hh I x, 0 ≤ tl_v V f := by
  intro f hf
  unfold tc_ebf at hf
  split at hf
  · rename_i e he
    split at hf
    · rename_i q
      have e1 := tl_eq_s (V := V) q.2
      rw [tl_ad_s, tl_sc_s, hI] at e1
      obtain ⟨e2, e3⟩ := tc_ebf_q q.1 e1
      have g1 := g e (by rw [e2]; exact he)
      rw [e3] at g1
      rcases List.mem_cons.mp hf with rfl | hf
      · rw [tl_sub_s, tl_ad_s, tl_sc_s]
        omega
      · rcases List.mem_cons.mp hf with rfl | hf
        · rw [tl_sub_s, tl_app_s, tl_c_s, tl_sc_s]
          omega
        · cases hf
    · cases hf
  · cases hf
end TCR
