/-! TC: rows whose elements are one number, or not below 0; places that hold not a number; different places; chains of all -/
theorem sg_e0 {V : Nat → Int} (k : Nat) (d : Int) : tl_v V ([(k, 1)], d) = V k + d := by simp [tl_v, tl_s]
theorem sg_e2 {V : Nat → Int} (i j : Nat) (c e d : Int) : tl_v V ([(i, c), (j, e)], d) = c * V i + e * V j + d := by
  simp [tl_v, tl_s]
theorem ql_el_s {RO : am_O} {M : am_H} {a b ty n j i : Nat} {f : Nat → Int32} {x : Int32} (hM : M a = some (.inl (ty, n, .inl f))) (h : b ≠ a ∨ i ≠ j) : ql_el RO (am_set M a (.inl (ty, n, .inl (upd f j x)))) b i = ql_el RO M b i := by
  by_cases q : b = a
  · subst q
    have h : i ≠ j := by
      rcases h with h | h
      · exact absurd rfl h
      · exact h
    unfold ql_el
    rw [am_same, hM]
    show (upd f j x i).toInt = (f i).toInt
    unfold upd
    rw [if_neg h]
  · unfold ql_el
    rw [am_ne q]
theorem ql_el_t {RO : am_O} {M : am_H} {a ty n j : Nat} {f : Nat → Int32} {x : Int32} : ql_el RO (am_set M a (.inl (ty, n, .inl (upd f j x)))) a j = x.toInt := by
  unfold ql_el
  rw [am_same]
  show (upd f j x j).toInt = x.toInt
  unfold upd
  rw [if_pos rfl]
/-- all of a kind: d, or not below 0 -/
def kx_p (S : Nat × Int) (RO : am_O) (κ : Nat → Option Nat) (M : am_H) (as : List Nat) (is : List Int) : Prop := match as, is with
  | [], [] => ∀ a, κ a = some S.1 → ∀ j, ql_el RO M a j = S.2 ∨ 0 ≤ ql_el RO M a j
  | _, _ => False
def kx_a (S : Nat × Int) : ga_S := (kx_p S, [(S.1, 0), (S.1, 1000)])
theorem kx_a_ok (S : Nat × Int) : ga_ok (kx_a S) := by
  intro RO κ κ' M M' as is h1 h2 h3 h4
  unfold kx_a at h2 h3 h4 ⊢
  dsimp only at h2 h3 h4 ⊢
  unfold kx_p at h4 ⊢
  split
  · dsimp only at h4
    intro a ha j
    cases e : κ a with
    | none => exact absurd (List.mem_cons_of_mem _ List.mem_cons_self) (h2 a S.1 ha e)
    | some k =>
      have : k = S.1 := by
        have := h1 a k e
        rw [ha] at this
        exact (Option.some.inj this).symm
      subst this
      rw [ql_el_k (h3 a S.1 e) List.mem_cons_self]
      exact h4 a e j
  · rename_i hn
    split at h4
    · exact hn rfl rfl
    · exact h4
theorem kx_at_s {l : List ga_S} {t : Nat} {S : Nat × Int} (h : l[t]? = some (kx_a S)) {RO : am_O} {κ : Nat → Option Nat} {M : am_H} {V : Nat → Int} {A : Nat → Nat} : tc_xq (tg_of l) RO κ M V A (8 * t, [], []) ↔ (∀ a, κ a = some S.1 → ∀ j, ql_el RO M a j = S.2 ∨ 0 ≤ ql_el RO M a j) := by
  have e : (8 * t, ([] : List Nat), ([] : List tl_F)).1 % 8 = 0 := by
    show 8 * t % 8 = 0
    omega
  have e2 : (8 * t, ([] : List Nat), ([] : List tl_F)).1 / 8 = t := by
    show 8 * t / 8 = t
    omega
  rw [tg_q0 e, e2, tg_of_s h]
  exact Iff.rfl
/-- names: 0 where, 1 what is there -/
def kx_use (t : Nat) (S : Nat × Int) : tc_Lm := ((2, 1), ([([(1, 1)], -S.2 - 1)], [(0, S.1)], [], [], [(0, ql_n 0, ql_n 1)], [], [(8 * t, [], [])]), (2, 1), ([ql_n 1], [], [], [], [], [], []))
theorem kx_use_ok {l : List ga_S} {t : Nat} {S : Nat × Int} {RO : am_O} {T : tk_T} (h : l[t]? = some (kx_a S)) : tc_lmt (tg_of l) RO T (kx_use t S) := by
  intro V A κ M sz hH hz hx
  refine ⟨V, A, fun _ _ => rfl, fun _ _ => rfl, ?_⟩
  obtain ⟨h1, h2, h3, h4, h5, h6, h7, h8⟩ := hx
  have g := (kx_at_s h).mp (h8 _ List.mem_cons_self)
  have f0 := h1 _ List.mem_cons_self
  rw [sg_e0] at f0
  obtain ⟨j, j1, j2⟩ := ql_xe (h5 _ List.mem_cons_self)
  dsimp only at j2
  rw [ql_n_s] at j2
  refine ⟨fun f hf => ?_, fun _ q => (List.not_mem_nil q).elim, fun _ q => (List.not_mem_nil q).elim, fun _ q => (List.not_mem_nil q).elim, fun _ q => (List.not_mem_nil q).elim, fun _ q => (List.not_mem_nil q).elim, trivial, fun _ q => (List.not_mem_nil q).elim⟩
  rcases List.mem_cons.mp hf with rfl | hf
  · rw [ql_n_s]
    rcases g _ (h2 _ List.mem_cons_self) j with q | q <;> rw [j2] at q <;> omega
  · cases hf
/-- behind a store: 0 where, 1 what -/
def kx_put (t : Nat) (S : Nat × Int) (w : Bool) : tc_Lm := ((2, 1), (if w then [ql_n 1] else [([(1, 1)], -S.2), ([(1, -1)], S.2)], [(0, S.1)], [], [], [], [], [(8 * t, [], [])]), (2, 1), ([], [], [], [], [], [], [(8 * t + 1, [0], [ql_n 0, ql_n 1])]))
theorem kx_put_ok {l : List ga_S} {t : Nat} {S : Nat × Int} {w : Bool} {RO : am_O} {T : tk_T} (h : l[t]? = some (kx_a S)) : tc_lmt (tg_of l) RO T (kx_put t S w) := by
  intro V A κ M sz hH hz hx
  refine ⟨V, A, fun _ _ => rfl, fun _ _ => rfl, ?_⟩
  obtain ⟨h1, h2, h3, h4, h5, h6, h7, h8⟩ := hx
  have g := (kx_at_s h).mp (h8 _ List.mem_cons_self)
  have f0 : V 1 = S.2 ∨ 0 ≤ V 1 := by
    cases w
    · have p1 := h1 _ List.mem_cons_self
      have p2 := h1 _ (List.mem_cons_of_mem _ List.mem_cons_self)
      simp [tl_v, tl_s] at p1 p2
      omega
    · have p1 := h1 _ List.mem_cons_self
      rw [ql_n_s] at p1
      exact Or.inr p1
  refine ⟨fun _ q => (List.not_mem_nil q).elim, fun _ q => (List.not_mem_nil q).elim, fun _ q => (List.not_mem_nil q).elim, fun _ q => (List.not_mem_nil q).elim, fun _ q => (List.not_mem_nil q).elim, fun _ q => (List.not_mem_nil q).elim, trivial, fun p hp' => ?_⟩
  rcases List.mem_cons.mp hp' with rfl | hp'
  · unfold tc_xq tg_q
    have e : (8 * t + 1) % 8 = 1 := by omega
    have e2 : (8 * t + 1) / 8 = t := by omega
    dsimp only
    rw [e, e2]
    simp only [List.map_cons, List.map_nil]
    intro ty n f x hM hv
    rw [ql_n_s] at hv
    rw [tg_of_s h]
    unfold kx_a kx_p
    dsimp only
    intro b hb j
    by_cases q : b = A 0 ∧ j = (tl_v V (ql_n 0)).toNat
    · rw [q.1, q.2, ql_el_t, hv]
      exact f0
    · rw [ql_el_s hM (by
        by_cases q1 : b = A 0
        · exact Or.inr (fun q2 => q ⟨q1, q2⟩)
        · exact Or.inl q1)]
      exact g b hb j
  · cases hp'
/-- a stretch does not hold a number: row; from where, how many, which -/
def ni_p (k : Nat) (RO : am_O) (κ : Nat → Option Nat) (M : am_H) (as : List Nat) (is : List Int) : Prop := match as, is with
  | [a], [B, m, c] => κ a = some k ∧ 0 ≤ B ∧ ∀ i : Nat, (i : Int) < m → ql_el RO M a (B.toNat + i) ≠ c
  | _, _ => False
def ni_a (k : Nat) : ga_S := (ni_p k, [(k, 0)])
theorem ni_a_ok (k : Nat) : ga_ok (ni_a k) := by
  intro RO κ κ' M M' as is h1 h2 h3 h4
  unfold ni_a at h2 h3 h4 ⊢
  dsimp only at h2 h3 h4 ⊢
  unfold ni_p at h4 ⊢
  split
  · dsimp only at h4
    refine ⟨h1 _ _ h4.1, h4.2.1, fun i hi => ?_⟩
    rw [ql_el_k (h3 _ _ h4.1) List.mem_cons_self]
    exact h4.2.2 i hi
  · rename_i hn
    split at h4
    · exact hn _ _ _ _ rfl rfl
    · exact h4
theorem ni_at_s {l : List ga_S} {t k : Nat} (h : l[t]? = some (ni_a k)) {RO : am_O} {κ : Nat → Option Nat} {M : am_H} {V : Nat → Int} {A : Nat → Nat} {a : Nat} {B m c : tl_F} : tc_xq (tg_of l) RO κ M V A (8 * t, [a], [B, m, c]) ↔ (κ (A a) = some k ∧ 0 ≤ tl_v V B ∧ ∀ i : Nat, (i : Int) < tl_v V m → ql_el RO M (A a) ((tl_v V B).toNat + i) ≠ tl_v V c) := by
  have e : (8 * t, [a], [B, m, c]).1 % 8 = 0 := by
    show 8 * t % 8 = 0
    omega
  have e2 : (8 * t, [a], [B, m, c]).1 / 8 = t := by
    show 8 * t / 8 = t
    omega
  rw [tg_q0 e, e2, tg_of_s h]
  exact Iff.rfl
def ni_nil (t k : Nat) : tc_Lm := ((3, 1), ([ql_n 0, ([(1, -1)], 0)], [(0, k)], [], [], [], [], []), (3, 1), ([], [], [], [], [], [], [(8 * t, [0], [ql_n 0, ql_n 1, ql_n 2])]))
theorem ni_nil_ok {l : List ga_S} {t k : Nat} {RO : am_O} {T : tk_T} (h : l[t]? = some (ni_a k)) : tc_lmt (tg_of l) RO T (ni_nil t k) := by
  intro V A κ M sz hH hz hx
  refine ⟨V, A, fun _ _ => rfl, fun _ _ => rfl, ?_⟩
  obtain ⟨h1, h2, h3, h4, h5, h6, h7, h8⟩ := hx
  have f0 := h1 _ List.mem_cons_self
  have f1 := h1 _ (List.mem_cons_of_mem _ List.mem_cons_self)
  simp only [tl_v, tl_s] at f1
  refine ⟨fun _ q => (List.not_mem_nil q).elim, fun _ q => (List.not_mem_nil q).elim, fun _ q => (List.not_mem_nil q).elim, fun _ q => (List.not_mem_nil q).elim, fun _ q => (List.not_mem_nil q).elim, fun _ q => (List.not_mem_nil q).elim, trivial, fun p hp => ?_⟩
  rcases List.mem_cons.mp hp with rfl | hp
  · refine (ni_at_s h).mpr ⟨h2 _ List.mem_cons_self, f0, fun i hi => ?_⟩
    rw [ql_n_s] at hi
    omega
  · cases hp
def ni_snoc (t k : Nat) (w : Bool) : tc_Lm := ((4, 1), ([ql_n 1, if w then ([(3, 1), (2, -1)], -1) else ([(2, 1), (3, -1)], -1)], [], [], [], [(0, ([(0, 1), (1, 1)], 0), ql_n 3)], [], [(8 * t, [0], [ql_n 0, ql_n 1, ql_n 2])]), (4, 1), ([], [], [], [], [], [], [(8 * t, [0], [ql_n 0, ([(1, 1)], 1), ql_n 2])]))
theorem ni_snoc_ok {l : List ga_S} {t k : Nat} {w : Bool} {RO : am_O} {T : tk_T} (h : l[t]? = some (ni_a k)) : tc_lmt (tg_of l) RO T (ni_snoc t k w) := by
  intro V A κ M sz hH hz hx
  refine ⟨V, A, fun _ _ => rfl, fun _ _ => rfl, ?_⟩
  obtain ⟨h1, h2, h3, h4, h5, h6, h7, h8⟩ := hx
  obtain ⟨g1, g2, g3⟩ := (ni_at_s h).mp (h8 _ List.mem_cons_self)
  have f0 := h1 _ List.mem_cons_self
  have f1 := h1 _ (List.mem_cons_of_mem _ List.mem_cons_self)
  rw [ql_n_s] at f0 g2
  obtain ⟨j, j1, j2⟩ := ql_xe (h5 _ List.mem_cons_self)
  dsimp only at j1 j2
  rw [ql_n_s] at j2
  rw [sg_e2] at j1
  have hne : V 3 ≠ V 2 := by
    cases w <;> simp [tl_v, tl_s] at f1 <;> omega
  refine ⟨fun _ q => (List.not_mem_nil q).elim, fun _ q => (List.not_mem_nil q).elim, fun _ q => (List.not_mem_nil q).elim, fun _ q => (List.not_mem_nil q).elim, fun _ q => (List.not_mem_nil q).elim, fun _ q => (List.not_mem_nil q).elim, trivial, fun p hp => ?_⟩
  rcases List.mem_cons.mp hp with rfl | hp
  · refine (ni_at_s h).mpr ⟨g1, by rw [ql_n_s]; exact g2, fun i hi => ?_⟩
    rw [sg_e0] at hi
    rw [ql_n_s, ql_n_s]
    by_cases q : (i : Int) = V 1
    · rw [show (V 0).toNat + i = j by omega, j2]
      exact hne
    · have := g3 i (by rw [ql_n_s]; omega)
      rw [ql_n_s, ql_n_s] at this
      exact this
  · cases hp
/-- a store behind it: rows 0, 1; 3 where, 4 what -/
def ni_put (t : Nat) : tc_Lm := ((5, 2), ([([(3, 1), (0, -1), (1, -1)], 0), ([(3, 1), (0, -1)], 0)], [], [], [], [], [], [(8 * t, [0], [ql_n 0, ql_n 1, ql_n 2])]), (5, 2), ([], [], [], [], [], [], [(8 * t + 1, [1, 0], [ql_n 3, ql_n 4, ql_n 0, ql_n 1, ql_n 2])]))
theorem ni_put_ok {l : List ga_S} {t k : Nat} {RO : am_O} {T : tk_T} (h : l[t]? = some (ni_a k)) : tc_lmt (tg_of l) RO T (ni_put t) := by
  intro V A κ M sz hH hz hx
  refine ⟨V, A, fun _ _ => rfl, fun _ _ => rfl, ?_⟩
  obtain ⟨h1, h2, h3, h4, h5, h6, h7, h8⟩ := hx
  obtain ⟨g1, g2, g3⟩ := (ni_at_s h).mp (h8 _ List.mem_cons_self)
  have f0 := h1 _ List.mem_cons_self
  have f1 := h1 _ (List.mem_cons_of_mem _ List.mem_cons_self)
  simp only [tl_v, tl_s] at f0 f1
  rw [ql_n_s] at g2
  refine ⟨fun _ q => (List.not_mem_nil q).elim, fun _ q => (List.not_mem_nil q).elim, fun _ q => (List.not_mem_nil q).elim, fun _ q => (List.not_mem_nil q).elim, fun _ q => (List.not_mem_nil q).elim, fun _ q => (List.not_mem_nil q).elim, trivial, fun p hp' => ?_⟩
  rcases List.mem_cons.mp hp' with rfl | hp'
  · unfold tc_xq tg_q
    have e : (8 * t + 1) % 8 = 1 := by omega
    have e2 : (8 * t + 1) / 8 = t := by omega
    dsimp only
    rw [e, e2]
    simp only [List.map_cons, List.map_nil]
    intro ty n f x hM hv
    rw [tg_of_s h]
    unfold ni_a ni_p
    dsimp only
    rw [ql_n_s, ql_n_s, ql_n_s, ql_n_s]
    refine ⟨g1, g2, fun i hi => ?_⟩
    rw [ql_el_s hM (Or.inr (by omega))]
    have := g3 i (by rw [ql_n_s]; exact hi)
    rw [ql_n_s, ql_n_s] at this
    exact this
  · cases hp'
/-- fewer: names 0 from where, 1 how many, 2 which, 3 how many then -/
def ni_less (t : Nat) : tc_Lm := ((4, 1), ([([(1, 1), (3, -1)], 0)], [], [], [], [], [], [(8 * t, [0], [ql_n 0, ql_n 1, ql_n 2])]), (4, 1), ([], [], [], [], [], [], [(8 * t, [0], [ql_n 0, ql_n 3, ql_n 2])]))
theorem ni_less_ok {l : List ga_S} {t k : Nat} {RO : am_O} {T : tk_T} (h : l[t]? = some (ni_a k)) : tc_lmt (tg_of l) RO T (ni_less t) := by
  intro V A κ M sz hH hz hx
  refine ⟨V, A, fun _ _ => rfl, fun _ _ => rfl, ?_⟩
  obtain ⟨h1, h2, h3, h4, h5, h6, h7, h8⟩ := hx
  obtain ⟨g1, g2, g3⟩ := (ni_at_s h).mp (h8 _ List.mem_cons_self)
  have f0 := h1 _ List.mem_cons_self
  simp only [tl_v, tl_s] at f0
  refine ⟨fun _ q => (List.not_mem_nil q).elim, fun _ q => (List.not_mem_nil q).elim, fun _ q => (List.not_mem_nil q).elim, fun _ q => (List.not_mem_nil q).elim, fun _ q => (List.not_mem_nil q).elim, fun _ q => (List.not_mem_nil q).elim, trivial, fun p hp => ?_⟩
  rcases List.mem_cons.mp hp with rfl | hp
  · refine (ni_at_s h).mpr ⟨g1, g2, fun i hi => g3 i ?_⟩
    rw [ql_n_s] at hi ⊢
    omega
  · cases hp
