/-! TC: a store that meets no place of an atom of rows -/
def ql_nz (k : Nat) : List (Nat × Nat × Nat × Int) → List Nat → Bool
  | (k', _, _, _) :: ts, cs => (!(k' == k) || decide (0 < cs.headD 0)) && ql_nz k ts cs.tail
  | [], _ => true
theorem ql_p2_s {α β c : Nat} (hα : 0 < α) (hc : 0 < c) {V : Nat → Int} (h : ∀ f ∈ ql_p1 α β c, 0 ≤ tl_v V f) {s : Nat} (h4 : 0 ≤ V 4) : α * s + β ≠ (V 4).toNat := by
  by_cases hs : (s : Int) = V 3
  · intro e
    have e' : (α : Int) * s + β = V 4 := by
      have : ((α * s + β : Nat) : Int) = ((V 4).toNat : Int) := by rw [e]
      push_cast at this
      omega
    rw [hs] at e'
    have h1 : ∀ d1 d2 : Int, 0 ≤ tl_v V ([(4, 1), (3, -(α : Int))], d1) → 0 ≤ tl_v V ([(4, -1), (3, (α : Int))], d2) → 0 ≤ V 4 - α * V 3 + d1 ∧ 0 ≤ α * V 3 - V 4 + d2 := fun d1 d2 q1 q2 => by
      simp only [tl_v, tl_s] at q1 q2
      rw [Int.neg_mul] at q1
      constructor <;> omega
    unfold ql_p1 at h
    split at h
    · omega
    · obtain ⟨g1, g2⟩ := h1 _ _ (h _ List.mem_cons_self) (h _ (List.mem_cons_of_mem _ List.mem_cons_self))
      omega
    · obtain ⟨g1, g2⟩ := h1 _ _ (h _ List.mem_cons_self) (h _ (List.mem_cons_of_mem _ List.mem_cons_self))
      omega
  · exact ql_p1_s hα h hs h4
theorem ql_sum_m {RO : am_O} {κ : Nat → Option Nat} {M : am_H} {a k ty n : Nat} {f : Nat → Int32} {x : Int32} {V : Nat → Int} {s : Nat} (hκ : κ a = some k) (hM : M a = some (.inl (ty, n, .inl f))) (h4 : 0 ≤ V 4) : ∀ {ts : List (Nat × Nat × Nat × Int)} {as cs : List Nat}, ql_pos k ts = true → ql_nz k ts cs = true → (∀ f ∈ ql_pf k ts cs, 0 ≤ tl_v V f) → ql_ks κ ts as → ql_sum RO (am_set M a (.inl (ty, n, .inl (upd f (V 4).toNat x)))) ts as s = ql_sum RO M ts as s
  | [], _, _, _, _, _, _ => by simp [ql_sum]
  | t :: ts, [], _, _, _, _, hk => by cases hk
  | (k', α, β, c) :: ts, b :: as, cs, hp, hz, h, hk => by
    unfold ql_sum
    unfold ql_pf at h
    obtain ⟨p1, p2⟩ := (Bool.and_eq_true _ _).mp (show ((!(k' == k) || decide (0 < α)) && ql_pos k ts) = true from hp)
    obtain ⟨z1, z2⟩ := (Bool.and_eq_true _ _).mp (show ((!(k' == k) || decide (0 < cs.headD 0)) && ql_nz k ts cs.tail) = true from hz)
    rw [ql_sum_m hκ hM h4 p2 z2 (fun f hf => h f (List.mem_append.mpr (Or.inr hf))) hk.2]
    have e : ql_el RO (am_set M a (.inl (ty, n, .inl (upd f (V 4).toNat x)))) b (α * s + β) = ql_el RO M b (α * s + β) := by
      by_cases q : b = a
      · subst q
        have hk1 : κ b = some k' := hk.1
        rw [hκ] at hk1
        have hkk : k' = k := (Option.some.inj hk1).symm
        rw [hkk, beq_self_eq_true, Bool.not_true, Bool.false_or] at p1 z1
        have := ql_p2_s (of_decide_eq_true p1) (of_decide_eq_true z1) (fun f hf => h f (List.mem_append.mpr (Or.inl (by rw [if_pos hkk]; exact hf)))) (s := s) h4
        unfold ql_el
        rw [am_same, hM]
        show (upd f (V 4).toNat x (α * s + β)).toInt = (f (α * s + β)).toInt
        unfold upd
        rw [if_neg this]
      · unfold ql_el
        rw [am_ne q]
    rw [e]
/-- names: 0 L, 1 H, 2 what is out, 3 the place by which the index is told, 4 where, 5 what is stored -/
def ql_miss (t : Nat) (S : ql_S) (k : Nat) (cs : List Nat) : tc_Lm := ((6 + S.2.1.length, S.1.length + 1), (ql_n 4 :: ql_pf k S.1 cs, [(S.1.length, k)], [], [], [], [], [ql_at t S (ql_n 2) 6]), (6 + S.2.1.length, S.1.length + 1), ([], [], [], [], [], [], [(8 * t + 1, S.1.length :: ql_ns 0 S.1, ql_n 4 :: ql_n 5 :: ql_n 0 :: ql_n 1 :: ql_n 2 :: ql_es 6 S.2.1)]))
theorem ql_miss_ok {l : List ga_S} {t : Nat} {S : ql_S} {k : Nat} {cs : List Nat} {RO : am_O} {T : tk_T} (h : l[t]? = some (ql_a S)) (hp : ql_pos k S.1 = true) (hz : ql_nz k S.1 cs = true) : tc_lmt (tg_of l) RO T (ql_miss t S k cs) := by
  intro V A κ M sz hH hsz hx
  refine ⟨V, A, fun _ _ => rfl, fun _ _ => rfl, ?_⟩
  obtain ⟨h1, h2, h3, h4, h5, h6, h7, h8⟩ := hx
  have g8 := (ql_at_s h).mp (h8 _ List.mem_cons_self)
  have f0 := h1 _ List.mem_cons_self
  rw [ql_n_s] at f0
  have hk : κ (A S.1.length) = some k := h2 _ List.mem_cons_self
  refine ⟨fun _ q => (List.not_mem_nil q).elim, fun _ q => (List.not_mem_nil q).elim, fun _ q => (List.not_mem_nil q).elim, fun _ q => (List.not_mem_nil q).elim, fun _ q => (List.not_mem_nil q).elim, fun _ q => (List.not_mem_nil q).elim, trivial, fun p hp' => ?_⟩
  rcases List.mem_cons.mp hp' with rfl | hp'
  · unfold tc_xq tg_q
    have e : (8 * t + 1) % 8 = 1 := by omega
    have e2 : (8 * t + 1) / 8 = t := by omega
    dsimp only
    rw [e, e2]
    simp only [List.map_cons]
    intro ty n f x hM hv
    rw [tg_of_s h]
    unfold ql_a ql_p
    dsimp only
    rw [ql_n_s, ql_n_s, ql_n_s, ql_n_s]
    refine ⟨g8.1, fun s e1 e2 e3 => ?_⟩
    rw [ql_sum_m hk hM f0 hp hz (fun f hf => h1 f (List.mem_cons_of_mem _ hf)) g8.1]
    exact g8.2 s e1 e2 (by rw [ql_n_s]; exact e3)
  · cases hp'
