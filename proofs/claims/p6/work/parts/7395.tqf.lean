/-! TC: a store behind all places of an atom of rows -/
def ql_ff (k : Nat) : List (Nat × Nat × Nat × Int) → List tl_F
  | (k', α, β, _) :: ts => (if k' = k then [([(4, 1), (1, -(α : Int))], (α : Int) - β - 1)] else []) ++ ql_ff k ts
  | [] => []
theorem ql_sum_f {RO : am_O} {κ : Nat → Option Nat} {M : am_H} {a k ty n : Nat} {f : Nat → Int32} {x : Int32} {V : Nat → Int} {s : Nat} (hκ : κ a = some k) (hM : M a = some (.inl (ty, n, .inl f))) (h4 : 0 ≤ V 4) (hs : (s : Int) < V 1) : ∀ {ts : List (Nat × Nat × Nat × Int)} {as : List Nat}, (∀ f ∈ ql_ff k ts, 0 ≤ tl_v V f) → ql_ks κ ts as → ql_sum RO (am_set M a (.inl (ty, n, .inl (upd f (V 4).toNat x)))) ts as s = ql_sum RO M ts as s
  | [], _, _, _ => by simp [ql_sum]
  | t :: ts, [], _, hk => by cases hk
  | (k', α, β, c) :: ts, b :: as, h, hk => by
    unfold ql_sum
    unfold ql_ff at h
    rw [ql_sum_f hκ hM h4 hs (fun f hf => h f (List.mem_append.mpr (Or.inr hf))) hk.2]
    have e : ql_el RO (am_set M a (.inl (ty, n, .inl (upd f (V 4).toNat x)))) b (α * s + β) = ql_el RO M b (α * s + β) := by
      by_cases q : b = a
      · subst q
        have hk1 : κ b = some k' := hk.1
        rw [hκ] at hk1
        have hkk : k' = k := (Option.some.inj hk1).symm
        have g := h ([(4, 1), (1, -(α : Int))], (α : Int) - β - 1) (List.mem_append.mpr (Or.inl (by rw [if_pos hkk]; exact List.mem_cons_self)))
        simp only [tl_v, tl_s] at g
        rw [Int.neg_mul] at g
        have m : (α : Int) * s ≤ α * (V 1 - 1) := Int.mul_le_mul_of_nonneg_left (by omega) (by omega)
        rw [Int.mul_sub, Int.mul_one] at m
        have this : α * s + β ≠ (V 4).toNat := by
          intro e'
          have : ((α * s + β : Nat) : Int) = ((V 4).toNat : Int) := by rw [e']
          push_cast at this
          omega
        unfold ql_el
        rw [am_same, hM]
        show (upd f (V 4).toNat x (α * s + β)).toInt = (f (α * s + β)).toInt
        unfold upd
        rw [if_neg this]
      · unfold ql_el
        rw [am_ne q]
    rw [e]
/-- names: 0 L, 1 H, 2 what is out, 3 any, 4 where, 5 what is stored -/
def ql_far (t : Nat) (S : ql_S) (k : Nat) : tc_Lm := ((6 + S.2.1.length, S.1.length + 1), (ql_n 4 :: ql_ff k S.1, [(S.1.length, k)], [], [], [], [], [ql_at t S (ql_n 2) 6]), (6 + S.2.1.length, S.1.length + 1), ([], [], [], [], [], [], [(8 * t + 1, S.1.length :: ql_ns 0 S.1, ql_n 4 :: ql_n 5 :: ql_n 0 :: ql_n 1 :: ql_n 2 :: ql_es 6 S.2.1)]))
theorem ql_far_ok {l : List ga_S} {t : Nat} {S : ql_S} {k : Nat} {RO : am_O} {T : tk_T} (h : l[t]? = some (ql_a S)) : tc_lmt (tg_of l) RO T (ql_far t S k) := by
  intro V A κ M sz hH hsz hx
  refine ⟨V, A, fun _ _ => rfl, fun _ _ => rfl, ?_⟩
  obtain ⟨h1, h2, h3, h4, h5, h6, h7, h8⟩ := hx
  have g8 := (ql_at_s h).mp (h8 _ List.mem_cons_self)
  have f0 := h1 _ List.mem_cons_self
  rw [ql_n_s] at f0
  have hk : κ (A S.1.length) = some k := h2 _ List.mem_cons_self
  refine ⟨fun _ q => (List.not_mem_nil q).elim, fun _ q => (List.not_mem_nil q).elim, fun _ q => (List.not_mem_nil q).elim, fun _ q => (List.not_mem_nil q).elim, fun _ q => (List.not_mem_nil q).elim, fun _ q => (List.not_mem_nil q).elim, trivial, fun p hp' => ?_⟩
  rcases List.mem_cons.mp hp' with rfl | hp'
  · unfold tc_xq tg_q
    have e : (8 * t + 1) % 8 = 1 := by omega
    have e2 : (8 * t + 1) / 8 = t := by omega
    dsimp only
    rw [e, e2]
    simp only [List.map_cons]
    intro ty n f x hM hv
    rw [tg_of_s h]
    unfold ql_a ql_p
    dsimp only
    rw [ql_n_s, ql_n_s, ql_n_s, ql_n_s]
    refine ⟨g8.1, fun s e1 e2 e3 => ?_⟩
    rw [ql_sum_f hk hM f0 e2 (fun f hf => h1 f (List.mem_cons_of_mem _ hf)) g8.1]
    exact g8.2 s e1 e2 (by rw [ql_n_s]; exact e3)
  · cases hp'
/-- one place told by two forms holds one number: names 0, 1 the place, 2, 3 what it holds -/
def el_eq : tc_Lm := ((4, 1), ([([(0, 1), (1, -1)], 0), ([(1, 1), (0, -1)], 0)], [], [], [], [(0, ql_n 0, ql_n 2), (0, ql_n 1, ql_n 3)], [], []), (4, 1), ([([(2, 1), (3, -1)], 0), ([(3, 1), (2, -1)], 0)], [], [], [], [], [], []))
theorem el_eq_ok {l : List ga_S} {RO : am_O} {T : tk_T} : tc_lmt (tg_of l) RO T el_eq := by
  intro V A κ M sz hH hz hx
  refine ⟨V, A, fun _ _ => rfl, fun _ _ => rfl, ?_⟩
  obtain ⟨h1, h2, h3, h4, h5, h6, h7, h8⟩ := hx
  have f0 := h1 _ List.mem_cons_self
  have f1 := h1 _ (List.mem_cons_of_mem _ List.mem_cons_self)
  simp only [tl_v, tl_s] at f0 f1
  obtain ⟨i, i1, i2⟩ := ql_xe (h5 _ List.mem_cons_self)
  obtain ⟨j, j1, j2⟩ := ql_xe (h5 _ (List.mem_cons_of_mem _ List.mem_cons_self))
  dsimp only at i1 i2 j1 j2
  rw [ql_n_s] at i1 i2 j1 j2
  have e : i = j := by omega
  subst e
  rw [i2] at j2
  refine ⟨fun f hf => ?_, fun _ q => (List.not_mem_nil q).elim, fun _ q => (List.not_mem_nil q).elim, fun _ q => (List.not_mem_nil q).elim, fun _ q => (List.not_mem_nil q).elim, fun _ q => (List.not_mem_nil q).elim, trivial, fun _ q => (List.not_mem_nil q).elim⟩
  rcases List.mem_cons.mp hf with rfl | hf
  · simp only [tl_v, tl_s]
    omega
  · rcases List.mem_cons.mp hf with rfl | hf
    · simp only [tl_v, tl_s]
      omega
    · cases hf
