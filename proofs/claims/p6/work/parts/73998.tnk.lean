/-! TC: elements of a stretch that are there, of one kind -/
/-- elements of a stretch are there, but one -/
def nk_p (k K : Nat) (RO : am_O) (κ : Nat → Option Nat) (M : am_H) (as : List Nat) (is : List Int) : Prop := match as, is with
  | [b], [L, H, X] => κ b = some k ∧ ∃ (ty n : Nat) (f : Nat → Option Nat), M b = some (am_qa ty n f) ∧ ∀ j : Nat, j < n → L ≤ (j : Int) → (j : Int) < H → (j : Int) ≠ X → ∃ a, f j = some a ∧ κ a = some K
  | _, _ => False
def nk_a (k K : Nat) : ga_S := (nk_p k K, [(k, 0)])
theorem nk_a_ok (k K : Nat) : ga_ok (nk_a k K) := by
  intro RO κ κ' M M' as is h1 h2 h3 h4
  unfold nk_a at h3 h4 ⊢
  dsimp only at h3 h4 ⊢
  unfold nk_p at h4 ⊢
  split
  · dsimp only at h4
    obtain ⟨g1, ty, n, f, g2, g3⟩ := h4
    obtain ⟨x', e1, e2, e3⟩ := (h3 _ _ g1).2.1 ty (n, .inr (.inr (.inr (.inr f)))) g2
    refine ⟨h1 _ _ g1, ty, n, f, ?_, fun j q1 q2 q3 q4 => ?_⟩
    · rw [e1, e3 List.mem_cons_self]
      rfl
    · obtain ⟨a, a1, a2⟩ := g3 j q1 q2 q3 q4
      exact ⟨a, a1, h1 _ _ a2⟩
  · rename_i hn
    split at h4
    · exact (hn _ _ _ _ rfl rfl).elim
    · exact h4
theorem nk_at_s {l : List ga_S} {t k K : Nat} (h : l[t]? = some (nk_a k K)) {RO : am_O} {κ : Nat → Option Nat} {M : am_H} {V : Nat → Int} {A : Nat → Nat} {b : Nat} {L H X : tl_F} : tc_xq (tg_of l) RO κ M V A (8 * t, [b], [L, H, X]) ↔ (κ (A b) = some k ∧ ∃ (ty n : Nat) (f : Nat → Option Nat), M (A b) = some (am_qa ty n f) ∧ ∀ j : Nat, j < n → tl_v V L ≤ (j : Int) → (j : Int) < tl_v V H → (j : Int) ≠ tl_v V X → ∃ a, f j = some a ∧ κ a = some K) := by
  have e : (8 * t, [b], [L, H, X]).1 % 8 = 0 := by
    show 8 * t % 8 = 0
    omega
  have e2 : (8 * t, [b], [L, H, X]).1 / 8 = t := by
    show 8 * t / 8 = t
    omega
  rw [tg_q0 e, e2, tg_of_s h]
  exact Iff.rfl
/-- an element that is there gets a name: names 0 L, 1 H, 2 X, 3 where, 4 how long -/
abbrev nk_at (t : Nat) (b : Nat) : tg_P := (8 * t, [b], [ql_n 0, ql_n 1, ql_n 2])
/-- (names as of nn) -/
def nk_use (t u K : Nat) : tc_Lm := ((5, 1), ([ql_n 3, nn_d 3 0 0, nn_d 1 3 (-1), nn_d 3 2 (-1), nn_d 4 3 (-1)], [], [(0, ql_n 4)], [], [], [], [nk_at t 0]), (5, 2), ([], [(1, K)], [], [], [], [], [(8 * u, [0, 1], [ql_n 3])]))
theorem nk_use_ok {l : List ga_S} {t u k K : Nat} {RO : am_O} {T : tk_T} (h : l[t]? = some (nk_a k K)) (hu : l[u]? = some (re_a k)) : tc_lmt (tg_of l) RO T (nk_use t u K) := by
  intro V A κ M sz hH hsz hx
  obtain ⟨h1, h2, h3, h4, h5, h6, h7, h8⟩ := hx
  obtain ⟨g0, t1, n, f, g1, g2⟩ := (nk_at_s h).mp (h8 _ List.mem_cons_self)
  have f0 := h1 _ List.mem_cons_self
  have f1 := h1 _ (List.mem_cons_of_mem _ List.mem_cons_self)
  have f2 := h1 _ (List.mem_cons_of_mem _ (List.mem_cons_of_mem _ List.mem_cons_self))
  have f3 := h1 _ (List.mem_cons_of_mem _ (List.mem_cons_of_mem _ (List.mem_cons_of_mem _ List.mem_cons_self)))
  have f4 := h1 _ (List.mem_cons_of_mem _ (List.mem_cons_of_mem _ (List.mem_cons_of_mem _ (List.mem_cons_of_mem _ List.mem_cons_self))))
  rw [ql_n_s] at f0 g2
  rw [nn_d_s] at f1 f2 f3 f4
  obtain ⟨n', l1, l2⟩ := h3 _ List.mem_cons_self
  dsimp only at l1 l2
  rw [ql_n_s] at l2
  have hn : n' = n := tk_len_1 l1 (Or.inl ⟨t1, _, g1, rfl⟩)
  subst hn
  have hj : V 3 = ((V 3).toNat : Int) := by omega
  obtain ⟨a, ha, ka⟩ := g2 (V 3).toNat (by omega) (by omega) (by rw [ql_n_s]; omega) (by rw [ql_n_s]; omega)
  have e0 : ta_up A 1 a 0 = A 0 := (ta_up_lt 0 (by omega)).symm
  have e1 : ta_up A 1 a 1 = a := ta_up_at
  refine ⟨V, ta_up A 1 a, fun _ _ => rfl, fun q hq => ta_up_lt q hq, fun _ q => (List.not_mem_nil q).elim, fun p hp => ?_, fun _ q => (List.not_mem_nil q).elim, fun _ q => (List.not_mem_nil q).elim, fun _ q => (List.not_mem_nil q).elim, fun _ q => (List.not_mem_nil q).elim, trivial, fun p hp => ?_⟩
  · rcases List.mem_cons.mp hp with rfl | hp
    · show κ (ta_up A 1 a 1) = some K
      rw [e1]
      exact ka
    · cases hp
  · rcases List.mem_cons.mp hp with rfl | hp
    · refine (re_at_s hu).mpr ?_
      rw [e0, e1, ql_n_s]
      exact ⟨g0, _, _, _, _, g1, hj, by omega, ha⟩
    · cases hp
/-- an empty stretch -/
def nk_nil (t k : Nat) : tc_Lm := ((2, 1), ([nn_d 0 1 0], [(0, k)], [], [], [], [], []), (2, 1), ([], [], [], [], [], [], [(8 * t, [0], [ql_n 0, ql_n 1, nn_m])]))
theorem nk_nil_ok {l : List ga_S} {t k K : Nat} {RO : am_O} {T : tk_T} (h : l[t]? = some (nk_a k K)) {ty : Nat} {fs : List tk_F} {R : List tk_E × Int × Int × List tl_F} (hT : T[k]? = some (3, ty, fs, R)) : tc_lmt (tg_of l) RO T (nk_nil t k) := by
  intro V A κ M sz hH hsz hx
  refine ⟨V, A, fun _ _ => rfl, fun _ _ => rfl, ?_⟩
  obtain ⟨h1, h2, h3, h4, h5, h6, h7, h8⟩ := hx
  have f0 := h1 _ List.mem_cons_self
  rw [nn_d_s] at f0
  have g0 : κ (A 0) = some k := h2 _ List.mem_cons_self
  obtain ⟨-, K', k1, k2⟩ := hH _ _ g0
  rw [hT] at k1
  cases k1
  obtain ⟨E, lo, hi, O⟩ := R
  obtain ⟨n, f, c1, c2, c3⟩ := k2
  refine ⟨fun _ q => (List.not_mem_nil q).elim, fun _ q => (List.not_mem_nil q).elim, fun _ q => (List.not_mem_nil q).elim, fun _ q => (List.not_mem_nil q).elim, fun _ q => (List.not_mem_nil q).elim, fun _ q => (List.not_mem_nil q).elim, trivial, fun p hp => ?_⟩
  rcases List.mem_cons.mp hp with rfl | hp
  · refine (nk_at_s h).mpr ⟨g0, _, _, _, c1, fun j q1 q2 q3 => ?_⟩
    rw [ql_n_s] at q2 q3
    omega
  · cases hp
/-- a smaller stretch: names 0 L, 1 H, 2 X, 3 and 4 the new ends -/
def nk_le (t : Nat) : tc_Lm := ((5, 1), ([nn_d 3 0 0, nn_d 1 4 0], [], [], [], [], [], [nk_at t 0]), (5, 1), ([], [], [], [], [], [], [(8 * t, [0], [ql_n 3, ql_n 4, ql_n 2])]))
theorem nk_le_ok {l : List ga_S} {t k K : Nat} {RO : am_O} {T : tk_T} (h : l[t]? = some (nk_a k K)) : tc_lmt (tg_of l) RO T (nk_le t) := by
  intro V A κ M sz hH hsz hx
  refine ⟨V, A, fun _ _ => rfl, fun _ _ => rfl, ?_⟩
  obtain ⟨h1, h2, h3, h4, h5, h6, h7, h8⟩ := hx
  have f0 := h1 _ List.mem_cons_self
  have f1 := h1 _ (List.mem_cons_of_mem _ List.mem_cons_self)
  rw [nn_d_s] at f0 f1
  obtain ⟨g0, t1, n, f, g1, g2⟩ := (nk_at_s h).mp (h8 _ List.mem_cons_self)
  refine ⟨fun _ q => (List.not_mem_nil q).elim, fun _ q => (List.not_mem_nil q).elim, fun _ q => (List.not_mem_nil q).elim, fun _ q => (List.not_mem_nil q).elim, fun _ q => (List.not_mem_nil q).elim, fun _ q => (List.not_mem_nil q).elim, trivial, fun p hp => ?_⟩
  rcases List.mem_cons.mp hp with rfl | hp
  · refine (nk_at_s h).mpr ⟨g0, _, _, _, g1, fun j q1 q2 q3 q4 => g2 j q1 ?_ ?_ q4⟩
    · rw [ql_n_s] at q2 ⊢
      omega
    · rw [ql_n_s] at q3 ⊢
      omega
  · cases hp
/-- behind a store of an address: 0 any row; 1 what was out is there; 2 one more. names 0 L, 1 H, 2 X, 3 where -/
def nk_put (t v K : Nat) : tc_Lm := ((4, 3), (if v = 0 then [] else if v = 1 then [ql_n 3, nn_d 3 2 0, nn_d 2 3 0] else [ql_n 3, nn_d 3 1 0, nn_d 1 3 0], [(2, K)], [], [], [], [], [nk_at t 0]), (4, 3), ([], [], [], [], [], [], [(8 * t + 4, [if v = 0 then 1 else 0, 2, 0], [ql_n 3, ql_n 0, if v = 2 then ([(1, 1)], 1) else ql_n 1, if v = 1 then nn_m else ql_n 2])]))
theorem nk_put_ok {l : List ga_S} {t k K v : Nat} {RO : am_O} {T : tk_T} (h : l[t]? = some (nk_a k K)) (hv : v < 3) : tc_lmt (tg_of l) RO T (nk_put t v K) := by
  intro V A κ M sz hH hsz hx
  refine ⟨V, A, fun _ _ => rfl, fun _ _ => rfl, ?_⟩
  obtain ⟨h1, h2, h3, h4, h5, h6, h7, h8⟩ := hx
  obtain ⟨g0, t1, n, f, g1, g2⟩ := (nk_at_s h).mp (h8 _ List.mem_cons_self)
  rw [ql_n_s, ql_n_s, ql_n_s] at g2
  have f0 : v = 1 → 0 ≤ V 3 ∧ V 3 = V 2 := by
    intro e
    subst e
    have p1 := h1 _ List.mem_cons_self
    have p2 := h1 _ (List.mem_cons_of_mem _ List.mem_cons_self)
    have p3 := h1 _ (List.mem_cons_of_mem _ (List.mem_cons_of_mem _ List.mem_cons_self))
    rw [ql_n_s] at p1
    rw [nn_d_s] at p2 p3
    omega
  have f1 : v = 2 → 0 ≤ V 3 ∧ V 3 = V 1 := by
    intro e
    subst e
    have p1 := h1 _ List.mem_cons_self
    have p2 := h1 _ (List.mem_cons_of_mem _ List.mem_cons_self)
    have p3 := h1 _ (List.mem_cons_of_mem _ (List.mem_cons_of_mem _ List.mem_cons_self))
    rw [ql_n_s] at p1
    rw [nn_d_s] at p2 p3
    omega
  have e1 : tl_v V (if v = 2 then ([(1, 1)], 1) else ql_n 1) = if v = 2 then V 1 + 1 else V 1 := by
    by_cases e : v = 2
    · rw [if_pos e, if_pos e]
      simp [tl_v, tl_s]
    · rw [if_neg e, if_neg e, ql_n_s]
  have e2 : tl_v V (if v = 1 then nn_m else ql_n 2) = if v = 1 then -1 else V 2 := by
    by_cases e : v = 1
    · rw [if_pos e, if_pos e, nn_m_s]
    · rw [if_neg e, if_neg e, ql_n_s]
  refine ⟨fun _ q => (List.not_mem_nil q).elim, fun _ q => (List.not_mem_nil q).elim, fun _ q => (List.not_mem_nil q).elim, fun _ q => (List.not_mem_nil q).elim, fun _ q => (List.not_mem_nil q).elim, fun _ q => (List.not_mem_nil q).elim, trivial, fun p hp => ?_⟩
  rcases List.mem_cons.mp hp with rfl | hp
  · unfold tc_xq tg_q
    have e : (8 * t + 4) % 8 = 4 := by omega
    have e3 : (8 * t + 4) / 8 = t := by omega
    dsimp only
    rw [e, e3]
    simp only [List.map_cons, List.map_nil]
    intro ty n' f' hM
    rw [tg_of_s h]
    unfold nk_a nk_p
    dsimp only
    rw [e1, e2, ql_n_s, ql_n_s]
    by_cases q : A 0 = A (if v = 0 then 1 else 0)
    · rw [← q] at hM ⊢
      rw [g1] at hM
      have hM := Option.some.inj hM
      unfold am_qa at hM
      cases hM
      refine ⟨g0, _, _, _, am_same, fun j q1 q2 q3 q4 => ?_⟩
      unfold va_up
      by_cases q5 : j = (V 3).toNat
      · exact ⟨A 2, if_pos q5, h2 _ List.mem_cons_self⟩
      · rw [if_neg q5]
        refine g2 j q1 q2 ?_ ?_
        · by_cases e : v = 2
          · have := f1 e
            rw [if_pos e] at q3
            omega
          · rw [if_neg e] at q3
            exact q3
        · by_cases e : v = 1
          · have := f0 e
            omega
          · rw [if_neg e] at q4
            exact q4
    · have hv0 : v = 0 := by
        by_cases e : v = 0
        · exact e
        · rw [if_neg e] at q
          exact absurd rfl q
      refine ⟨g0, t1, n, f, (am_ne q).trans g1, fun j q1 q2 q3 q4 => g2 j q1 q2 ?_ ?_⟩
      · rw [if_neg (by omega)] at q3
        exact q3
      · rw [if_neg (by omega)] at q4
        exact q4
  · cases hp
/-- it is there -/
def nk_nn (t u : Nat) : tc_Lm := ((3, 1), ([], [], [], [], [], [], [nk_at t 0]), (3, 1), ([], [], [], [], [], [], [(8 * u, [0], [ql_n 0, ql_n 1, ql_n 2])]))
theorem nk_nn_ok {l : List ga_S} {t u k K : Nat} {RO : am_O} {T : tk_T} (h : l[t]? = some (nk_a k K)) (hu : l[u]? = some (nn_a k)) : tc_lmt (tg_of l) RO T (nk_nn t u) := by
  intro V A κ M sz hH hsz hx
  refine ⟨V, A, fun _ _ => rfl, fun _ _ => rfl, ?_⟩
  obtain ⟨h1, h2, h3, h4, h5, h6, h7, h8⟩ := hx
  obtain ⟨g0, t1, n, f, g1, g2⟩ := (nk_at_s h).mp (h8 _ List.mem_cons_self)
  refine ⟨fun _ q => (List.not_mem_nil q).elim, fun _ q => (List.not_mem_nil q).elim, fun _ q => (List.not_mem_nil q).elim, fun _ q => (List.not_mem_nil q).elim, fun _ q => (List.not_mem_nil q).elim, fun _ q => (List.not_mem_nil q).elim, trivial, fun p hp => ?_⟩
  rcases List.mem_cons.mp hp with rfl | hp
  · refine (nn_at_s hu).mpr ⟨g0, _, _, _, g1, fun j q1 q2 q3 q4 => ?_⟩
    obtain ⟨a, a1, -⟩ := g2 j q1 q2 q3 q4
    exact ⟨a, a1⟩
  · cases hp
