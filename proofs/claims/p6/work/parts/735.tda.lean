/-! TC: eight rows of different numbers below thirty; twelve chains -/
theorem da_pg : ∀ (n M : Nat) (f : Nat → Int), (∀ i, i < M → 0 ≤ f i ∧ f i < (n : Int)) → (∀ i j, i < j → j < M → f i ≠ f j) → M ≤ n
  | 0, M, f, h1, h2 => by
    cases M with
    | zero => exact Nat.le_refl 0
    | succ M =>
      have := h1 0 (by omega)
      omega
  | n + 1, M, f, h1, h2 => by
    by_cases hx : ∃ i, i < M ∧ f i = (n : Int)
    · obtain ⟨i, hi, hf⟩ := hx
      have := da_pg n (M - 1) (fun j => if j < i then f j else f (j + 1)) (fun j hj => by
        split
        · rename_i q
          have p := h1 j (by omega)
          have p2 := h2 j i q hi
          rw [hf] at p2
          omega
        · rename_i q
          have p := h1 (j + 1) (by omega)
          have p2 := h2 i (j + 1) (by omega) (by omega)
          rw [hf] at p2
          omega) (fun j k hjk hk => by
        split
        · split
          · exact h2 j k hjk (by omega)
          · exact h2 j (k + 1) (by omega) (by omega)
        · rw [if_neg (by omega)]
          exact h2 (j + 1) (k + 1) (by omega) (by omega))
      omega
    · have := da_pg n M f (fun i hi => by
        have p := h1 i hi
        have p2 : f i ≠ (n : Int) := fun e => hx ⟨i, hi, e⟩
        omega) h2
      omega
/-- rows and how many of each: kinds -/
def da_w (RO : am_O) (M : am_H) (a b : Nat) : Prop := ∀ e : Nat, e < 8 → (∀ i : Nat, (i : Int) < ql_el RO M b e → 0 ≤ ql_el RO M a (30 * e + i) ∧ ql_el RO M a (30 * e + i) < 30) ∧ ∀ i j : Nat, i < j → (j : Int) < ql_el RO M b e → ql_el RO M a (30 * e + i) ≠ ql_el RO M a (30 * e + j)
def da_p (S : Nat × Nat) (RO : am_O) (κ : Nat → Option Nat) (M : am_H) (as : List Nat) (is : List Int) : Prop := match as, is with
  | [a, b], [] => κ a = some S.1 ∧ κ b = some S.2 ∧ da_w RO M a b
  | _, _ => False
def da_a (S : Nat × Nat) : ga_S := (da_p S, [(S.1, 0), (S.2, 0)])
theorem da_w_c {RO : am_O} {M M' : am_H} {a b : Nat} (ha : ∀ j, ql_el RO M' a j = ql_el RO M a j) (hb : ∀ j, ql_el RO M' b j = ql_el RO M b j) (h : da_w RO M a b) : da_w RO M' a b := by
  intro e he
  obtain ⟨h1, h2⟩ := h e he
  rw [hb]
  refine ⟨fun i hi => ?_, fun i j q hj => ?_⟩
  · rw [ha]
    exact h1 i hi
  · rw [ha, ha]
    exact h2 i j q hj
theorem da_a_ok (S : Nat × Nat) : ga_ok (da_a S) := by
  intro RO κ κ' M M' as is h1 h2 h3 h4
  unfold da_a at h2 h3 h4 ⊢
  dsimp only at h2 h3 h4 ⊢
  unfold da_p at h4 ⊢
  split
  · dsimp only at h4
    exact ⟨h1 _ _ h4.1, h1 _ _ h4.2.1, da_w_c (fun j => ql_el_k (h3 _ _ h4.1) List.mem_cons_self) (fun j => ql_el_k (h3 _ _ h4.2.1) (List.mem_cons_of_mem _ List.mem_cons_self)) h4.2.2⟩
  · rename_i hn
    split at h4
    · exact hn _ _ rfl rfl
    · exact h4
theorem da_at_s {l : List ga_S} {t : Nat} {S : Nat × Nat} (h : l[t]? = some (da_a S)) {RO : am_O} {κ : Nat → Option Nat} {M : am_H} {V : Nat → Int} {A : Nat → Nat} {a b : Nat} : tc_xq (tg_of l) RO κ M V A (8 * t, [a, b], []) ↔ (κ (A a) = some S.1 ∧ κ (A b) = some S.2 ∧ da_w RO M (A a) (A b)) := by
  have e : (8 * t, [a, b], ([] : List tl_F)).1 % 8 = 0 := by
    show 8 * t % 8 = 0
    omega
  have e2 : (8 * t, [a, b], ([] : List tl_F)).1 / 8 = t := by
    show 8 * t / 8 = t
    omega
  rw [tg_q0 e, e2, tg_of_s h]
  exact Iff.rfl
/-- no more than thirty -/
theorem da_le {RO : am_O} {M : am_H} {a b e : Nat} (h : da_w RO M a b) (he : e < 8) : ql_el RO M b e ≤ 30 := by
  obtain ⟨h1, h2⟩ := h e he
  by_cases q : 0 ≤ ql_el RO M b e
  · have := da_pg 30 (ql_el RO M b e).toNat (fun i => ql_el RO M a (30 * e + i)) (fun i hi => by
      have := h1 i (by omega)
      omega) (fun i j q1 q2 => h2 i j q1 (by omega))
    omega
  · omega
/-- one that is not there: at most 29 are. names: 0 whose, 1 how many, 2 which; rows 0, 1 -/
def da_bd (t tn : Nat) (S : Nat × Nat) : tc_Lm := ((3, 2), ([ql_n 0, ([(0, -1)], 7), ql_n 2, ([(2, -1)], 29)], [], [], [], [(1, ql_n 0, ql_n 1)], [], [(8 * t, [0, 1], []), (8 * tn, [0], [([(0, 30)], 0), ql_n 1, ql_n 2])]), (3, 2), ([([(1, -1)], 29)], [], [], [], [], [], []))
theorem da_bd_ok {l : List ga_S} {t tn : Nat} {S : Nat × Nat} {RO : am_O} {T : tk_T} (h : l[t]? = some (da_a S)) (hn : l[tn]? = some (ni_a S.1)) : tc_lmt (tg_of l) RO T (da_bd t tn S) := by
  intro V A κ M sz hH hz hx
  refine ⟨V, A, fun _ _ => rfl, fun _ _ => rfl, ?_⟩
  obtain ⟨h1, h2, h3, h4, h5, h6, h7, h8⟩ := hx
  obtain ⟨g1, g2, g3⟩ := (da_at_s h).mp (h8 _ List.mem_cons_self)
  obtain ⟨n1, n2, n3⟩ := (ni_at_s hn).mp (h8 _ (List.mem_cons_of_mem _ List.mem_cons_self))
  have f0 := h1 _ List.mem_cons_self
  have f1 := h1 _ (List.mem_cons_of_mem _ List.mem_cons_self)
  have f2 := h1 _ (List.mem_cons_of_mem _ (List.mem_cons_of_mem _ List.mem_cons_self))
  have f3 := h1 _ (List.mem_cons_of_mem _ (List.mem_cons_of_mem _ (List.mem_cons_of_mem _ List.mem_cons_self)))
  rw [ql_n_s] at f0 f2
  simp only [tl_v, tl_s] at f1 f3
  obtain ⟨j, j1, j2⟩ := ql_xe (h5 _ List.mem_cons_self)
  dsimp only at j1 j2
  rw [ql_n_s] at j1 j2
  refine ⟨fun f hf => ?_, fun _ q => (List.not_mem_nil q).elim, fun _ q => (List.not_mem_nil q).elim, fun _ q => (List.not_mem_nil q).elim, fun _ q => (List.not_mem_nil q).elim, fun _ q => (List.not_mem_nil q).elim, trivial, fun _ q => (List.not_mem_nil q).elim⟩
  rcases List.mem_cons.mp hf with rfl | hf
  · rw [show tl_v V ([(1, -1)], 29) = 29 - V 1 by simp [tl_v, tl_s]; omega]
    have hj : j < 8 := by omega
    obtain ⟨w1, w2⟩ := g3 j hj
    rw [j2] at w1 w2
    by_cases q : 0 ≤ V 1
    · have e30 : ∀ i : Nat, (tl_v V ([(0, 30)], 0)).toNat + i = 30 * j + i := fun i => by
        simp [tl_v, tl_s]
        omega
      have := da_pg 30 ((V 1).toNat + 1) (fun i => if i < (V 1).toNat then ql_el RO M (A 0) (30 * j + i) else V 2) (fun i hi => by
        split
        · have := w1 i (by omega)
          omega
        · omega) (fun i k q1 q2 => by
        rw [if_pos (by omega)]
        split
        · exact w2 i k q1 (by omega)
        · have := n3 i (by rw [ql_n_s]; omega)
          rw [ql_n_s, e30] at this
          exact this)
      omega
    · omega
  · cases hf
/-- a store behind the row of one. names: 0 whose, 1 how many, 2 what; rows 0, 1; 2 the row that is written -/
def da_p1 (t : Nat) : tc_Lm := ((3, 3), ([ql_n 0, ([(0, -1)], 7), ql_n 1, ([(1, -1)], 29)], [], [], [], [(1, ql_n 0, ql_n 1)], [], [(8 * t, [0, 1], [])]), (3, 3), ([], [], [], [], [], [], [(8 * t + 1, [0, 0, 1], [([(0, 30), (1, 1)], 0), ql_n 2])]))
theorem da_p1_ok {l : List ga_S} {t : Nat} {S : Nat × Nat} {RO : am_O} {T : tk_T} (h : l[t]? = some (da_a S)) (hS : S.1 ≠ S.2) : tc_lmt (tg_of l) RO T (da_p1 t) := by
  intro V A κ M sz hH hz hx
  refine ⟨V, A, fun _ _ => rfl, fun _ _ => rfl, ?_⟩
  obtain ⟨h1, h2, h3, h4, h5, h6, h7, h8⟩ := hx
  obtain ⟨g1, g2, g3⟩ := (da_at_s h).mp (h8 _ List.mem_cons_self)
  have f0 := h1 _ List.mem_cons_self
  have f1 := h1 _ (List.mem_cons_of_mem _ List.mem_cons_self)
  have f2 := h1 _ (List.mem_cons_of_mem _ (List.mem_cons_of_mem _ List.mem_cons_self))
  have f3 := h1 _ (List.mem_cons_of_mem _ (List.mem_cons_of_mem _ (List.mem_cons_of_mem _ List.mem_cons_self)))
  rw [ql_n_s] at f0 f2
  simp only [tl_v, tl_s] at f1 f3
  obtain ⟨j, j1, j2⟩ := ql_xe (h5 _ List.mem_cons_self)
  dsimp only at j1 j2
  rw [ql_n_s] at j1 j2
  refine ⟨fun _ q => (List.not_mem_nil q).elim, fun _ q => (List.not_mem_nil q).elim, fun _ q => (List.not_mem_nil q).elim, fun _ q => (List.not_mem_nil q).elim, fun _ q => (List.not_mem_nil q).elim, fun _ q => (List.not_mem_nil q).elim, trivial, fun p hp' => ?_⟩
  rcases List.mem_cons.mp hp' with rfl | hp'
  · unfold tc_xq tg_q
    have e : (8 * t + 1) % 8 = 1 := by omega
    have e2 : (8 * t + 1) / 8 = t := by omega
    dsimp only
    rw [e, e2]
    simp only [List.map_cons, List.map_nil]
    intro ty n f x hM hv
    rw [tg_of_s h]
    unfold da_a da_p
    dsimp only
    refine ⟨g1, g2, fun e' he => ?_⟩
    have hab : A 1 ≠ A 0 := fun q => by
      rw [q, g1] at g2
      exact hS (Option.some.inj g2)
    rw [ql_el_s hM (Or.inl hab)]
    obtain ⟨w1, w2⟩ := g3 e' he
    have hle := da_le g3 he
    have hI : (tl_v V ([(0, 30), (1, 1)], 0)).toNat = 30 * j + (V 1).toNat := by
      rw [sg_e2]
      omega
    have hne : ∀ i : Nat, (i : Int) < ql_el RO M (A 1) e' → 30 * e' + i ≠ (tl_v V ([(0, 30), (1, 1)], 0)).toNat := fun i hi q => by
      rw [hI] at q
      have : e' = j := by omega
      subst this
      rw [j2] at hi
      omega
    refine ⟨fun i hi => ?_, fun i k q hk => ?_⟩
    · rw [ql_el_s hM (Or.inr (hne i hi))]
      exact w1 i hi
    · rw [ql_el_s hM (Or.inr (hne i (by omega))), ql_el_s hM (Or.inr (hne k hk))]
      exact w2 i k q hk
  · cases hp'
/-- one more of one: what stands behind is not among them. names: 0 whose, 1 how many, 2 which -/
def da_p2 (t tn : Nat) : tc_Lm := ((3, 2), ([ql_n 0, ([(0, -1)], 7), ql_n 1, ql_n 2, ([(2, -1)], 29)], [], [], [], [(1, ql_n 0, ql_n 1), (0, ([(0, 30), (1, 1)], 0), ql_n 2)], [], [(8 * t, [0, 1], []), (8 * tn, [0], [([(0, 30)], 0), ql_n 1, ql_n 2])]), (3, 2), ([], [], [], [], [], [], [(8 * t + 1, [1, 0, 1], [ql_n 0, ([(1, 1)], 1)])]))
theorem da_p2_ok {l : List ga_S} {t tn : Nat} {S : Nat × Nat} {RO : am_O} {T : tk_T} (h : l[t]? = some (da_a S)) (hn : l[tn]? = some (ni_a S.1)) (hS : S.1 ≠ S.2) : tc_lmt (tg_of l) RO T (da_p2 t tn) := by
  intro V A κ M sz hH hz hx
  refine ⟨V, A, fun _ _ => rfl, fun _ _ => rfl, ?_⟩
  obtain ⟨h1, h2, h3, h4, h5, h6, h7, h8⟩ := hx
  obtain ⟨g1, g2, g3⟩ := (da_at_s h).mp (h8 _ List.mem_cons_self)
  obtain ⟨n1, n2, n3⟩ := (ni_at_s hn).mp (h8 _ (List.mem_cons_of_mem _ List.mem_cons_self))
  have f0 := h1 _ List.mem_cons_self
  have f1 := h1 _ (List.mem_cons_of_mem _ List.mem_cons_self)
  have f2 := h1 _ (List.mem_cons_of_mem _ (List.mem_cons_of_mem _ List.mem_cons_self))
  have f3 := h1 _ (List.mem_cons_of_mem _ (List.mem_cons_of_mem _ (List.mem_cons_of_mem _ List.mem_cons_self)))
  have f4 := h1 _ (List.mem_cons_of_mem _ (List.mem_cons_of_mem _ (List.mem_cons_of_mem _ (List.mem_cons_of_mem _ List.mem_cons_self))))
  rw [ql_n_s] at f0 f2 f3
  simp only [tl_v, tl_s] at f1 f4
  obtain ⟨j, j1, j2⟩ := ql_xe (h5 _ List.mem_cons_self)
  obtain ⟨j', k1, k2⟩ := ql_xe (h5 _ (List.mem_cons_of_mem _ List.mem_cons_self))
  dsimp only at j1 j2 k1 k2
  rw [ql_n_s] at j1 j2 k2
  rw [sg_e2] at k1
  refine ⟨fun _ q => (List.not_mem_nil q).elim, fun _ q => (List.not_mem_nil q).elim, fun _ q => (List.not_mem_nil q).elim, fun _ q => (List.not_mem_nil q).elim, fun _ q => (List.not_mem_nil q).elim, fun _ q => (List.not_mem_nil q).elim, trivial, fun p hp' => ?_⟩
  rcases List.mem_cons.mp hp' with rfl | hp'
  · unfold tc_xq tg_q
    have e : (8 * t + 1) % 8 = 1 := by omega
    have e2 : (8 * t + 1) / 8 = t := by omega
    dsimp only
    rw [e, e2]
    simp only [List.map_cons, List.map_nil]
    intro ty n f x hM hv
    rw [tg_of_s h]
    unfold da_a da_p
    dsimp only
    have hab : A 0 ≠ A 1 := fun q => by
      rw [q, g2] at g1
      exact hS (Option.some.inj g1).symm
    rw [sg_e0] at hv
    rw [ql_n_s, show (V 0).toNat = j by omega] at *
    refine ⟨g1, g2, fun e' he => ?_⟩
    obtain ⟨w1, w2⟩ := g3 e' he
    by_cases q : e' = j
    · subst q
      rw [ql_el_t, hv]
      rw [j2] at w1 w2
      have e30 : ∀ i : Nat, (tl_v V ([(0, 30)], 0)).toNat + i = 30 * e' + i := fun i => by
        simp [tl_v, tl_s]
        omega
      have hj' : j' = 30 * e' + (V 1).toNat := by omega
      refine ⟨fun i hi => ?_, fun i k q1 hk => ?_⟩
      · rw [ql_el_s hM (Or.inl hab)]
        by_cases q2 : (i : Int) = V 1
        · rw [show 30 * e' + i = j' by omega, k2]
          omega
        · exact w1 i (by omega)
      · rw [ql_el_s hM (Or.inl hab), ql_el_s hM (Or.inl hab)]
        by_cases q2 : (k : Int) = V 1
        · rw [show 30 * e' + k = j' by omega, k2]
          have := n3 i (by first | (rw [ql_n_s]; omega) | omega)
          rw [e30] at this
          first | exact this | (rw [ql_n_s] at this; exact this)
        · exact w2 i k q1 (by omega)
    · rw [ql_el_s hM (Or.inr q)]
      refine ⟨fun i hi => ?_, fun i k q1 hk => ?_⟩
      · rw [ql_el_s hM (Or.inl hab)]
        exact w1 i hi
      · rw [ql_el_s hM (Or.inl hab), ql_el_s hM (Or.inl hab)]
        exact w2 i k q1 hk
  · cases hp'
