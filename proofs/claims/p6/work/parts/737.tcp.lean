/-! TC: what was copied; chains told anew, chains copied -/
/-- the same content elsewhere, both moved -/
theorem cp_sh {S S' : sg_S} (hS : S'.2.2 = S.2.2) {RO : am_O} {M : am_H} {a a' d d' : Nat} {H : Nat} : ∀ {n p q : Nat}, q ≤ H → (∀ j, p ≤ j → j < H → ql_el RO M a' (j + d') = ql_el RO M a (j + d)) → sg_ch S RO M a n (p + d) (q + d) → sg_ch S' RO M a' n (p + d') (q + d')
  | 0, p, q, _, _, h => by
    have : p + d = q + d := h
    show p + d' = q + d'
    omega
  | n + 1, p, q, hq, he, h => by
    obtain ⟨p', ⟨c, c1, c2, c3, c4⟩, h2⟩ := h
    have l1 := sg_ch_le h2
    have lb := sg_mb_1 c
    have ep : p' = (p' - d) + d := by omega
    rw [ep] at h2
    have k := cp_sh hS hq (p := p' - d) (fun j j1 j2 => he j (by omega) j2) h2
    refine ⟨p' - d + d', ⟨c, by rw [hS]; exact c1, fun f hf => ?_, ?_, by omega⟩, k⟩
    · have e : sg_v RO M a' (p + d') f = sg_v RO M a (p + d) f := sg_v_c (fun t ht => by
        have := sg_mb_f hf ht
        rw [show p + d' + t.1 = p + t.1 + d' by omega, show p + d + t.1 = p + t.1 + d by omega]
        exact he _ (by omega) (by omega))
      rw [e]
      exact c2 f hf
    · have e : sg_v RO M a' (p + d') c.2 = sg_v RO M a (p + d) c.2 := sg_v_c (fun t ht => by
        have := sg_mb_s ht
        rw [show p + d' + t.1 = p + t.1 + d' by omega, show p + d + t.1 = p + t.1 + d by omega]
        exact he _ (by omega) (by omega))
      rw [e]
      omega
def cp_p (S : Nat × Nat) (RO : am_O) (κ : Nat → Option Nat) (M : am_H) (as : List Nat) (is : List Int) : Prop := match as, is with
  | [a, b], [P, Q, n] => κ a = some S.1 ∧ κ b = some S.2 ∧ 0 ≤ P ∧ 0 ≤ Q ∧ ∀ i : Nat, (i : Int) < n → ql_el RO M b (Q.toNat + i) = ql_el RO M a (P.toNat + i)
  | _, _ => False
def cp_a (S : Nat × Nat) : ga_S := (cp_p S, [(S.1, 0), (S.2, 0)])
theorem cp_a_ok (S : Nat × Nat) : ga_ok (cp_a S) := by
  intro RO κ κ' M M' as is h1 h2 h3 h4
  unfold cp_a at h2 h3 h4 ⊢
  dsimp only at h2 h3 h4 ⊢
  unfold cp_p at h4 ⊢
  split
  · dsimp only at h4
    refine ⟨h1 _ _ h4.1, h1 _ _ h4.2.1, h4.2.2.1, h4.2.2.2.1, fun i hi => ?_⟩
    rw [ql_el_k (h3 _ _ h4.1) List.mem_cons_self, ql_el_k (h3 _ _ h4.2.1) (List.mem_cons_of_mem _ List.mem_cons_self)]
    exact h4.2.2.2.2 i hi
  · rename_i hn
    split at h4
    · exact hn _ _ _ _ _ rfl rfl
    · exact h4
theorem cp_at_s {l : List ga_S} {t : Nat} {S : Nat × Nat} (h : l[t]? = some (cp_a S)) {RO : am_O} {κ : Nat → Option Nat} {M : am_H} {V : Nat → Int} {A : Nat → Nat} {a b : Nat} {P Q n : tl_F} : tc_xq (tg_of l) RO κ M V A (8 * t, [a, b], [P, Q, n]) ↔ (κ (A a) = some S.1 ∧ κ (A b) = some S.2 ∧ 0 ≤ tl_v V P ∧ 0 ≤ tl_v V Q ∧ ∀ i : Nat, (i : Int) < tl_v V n → ql_el RO M (A b) ((tl_v V Q).toNat + i) = ql_el RO M (A a) ((tl_v V P).toNat + i)) := by
  have e : (8 * t, [a, b], [P, Q, n]).1 % 8 = 0 := by
    show 8 * t % 8 = 0
    omega
  have e2 : (8 * t, [a, b], [P, Q, n]).1 / 8 = t := by
    show 8 * t / 8 = t
    omega
  rw [tg_q0 e, e2, tg_of_s h]
  exact Iff.rfl
def cp_nil (t : Nat) (S : Nat × Nat) : tc_Lm := ((3, 2), ([ql_n 0, ql_n 1, ([(2, -1)], 0)], [(0, S.1), (1, S.2)], [], [], [], [], []), (3, 2), ([], [], [], [], [], [], [(8 * t, [0, 1], [ql_n 0, ql_n 1, ql_n 2])]))
theorem cp_nil_ok {l : List ga_S} {t : Nat} {S : Nat × Nat} {RO : am_O} {T : tk_T} (h : l[t]? = some (cp_a S)) : tc_lmt (tg_of l) RO T (cp_nil t S) := by
  intro V A κ M sz hH hz hx
  refine ⟨V, A, fun _ _ => rfl, fun _ _ => rfl, ?_⟩
  obtain ⟨h1, h2, h3, h4, h5, h6, h7, h8⟩ := hx
  have f0 := h1 _ List.mem_cons_self
  have f1 := h1 _ (List.mem_cons_of_mem _ List.mem_cons_self)
  have f2 := h1 _ (List.mem_cons_of_mem _ (List.mem_cons_of_mem _ List.mem_cons_self))
  simp only [tl_v, tl_s] at f2
  refine ⟨fun _ q => (List.not_mem_nil q).elim, fun _ q => (List.not_mem_nil q).elim, fun _ q => (List.not_mem_nil q).elim, fun _ q => (List.not_mem_nil q).elim, fun _ q => (List.not_mem_nil q).elim, fun _ q => (List.not_mem_nil q).elim, trivial, fun p hp => ?_⟩
  rcases List.mem_cons.mp hp with rfl | hp
  · refine (cp_at_s h).mpr ⟨h2 _ List.mem_cons_self, h2 _ (List.mem_cons_of_mem _ List.mem_cons_self), f0, f1, fun i hi => ?_⟩
    rw [ql_n_s] at hi
    omega
  · cases hp
/-- one more: names 0, 1 from where, 2 how many, 3 what stands there -/
def cp_put (t : Nat) : tc_Lm := ((4, 2), ([ql_n 2], [], [], [], [(0, ([(0, 1), (2, 1)], 0), ql_n 3)], [], [(8 * t, [0, 1], [ql_n 0, ql_n 1, ql_n 2])]), (4, 2), ([], [], [], [], [], [], [(8 * t + 1, [1, 0, 1], [([(1, 1), (2, 1)], 0), ql_n 3, ql_n 0, ql_n 1, ([(2, 1)], 1)])]))
theorem cp_put_ok {l : List ga_S} {t : Nat} {S : Nat × Nat} {RO : am_O} {T : tk_T} (h : l[t]? = some (cp_a S)) (hS : S.1 ≠ S.2) : tc_lmt (tg_of l) RO T (cp_put t) := by
  intro V A κ M sz hH hz hx
  refine ⟨V, A, fun _ _ => rfl, fun _ _ => rfl, ?_⟩
  obtain ⟨h1, h2, h3, h4, h5, h6, h7, h8⟩ := hx
  obtain ⟨g1, g2, g3, g4, g5⟩ := (cp_at_s h).mp (h8 _ List.mem_cons_self)
  have f0 := h1 _ List.mem_cons_self
  rw [ql_n_s] at f0 g3 g4
  obtain ⟨j, j1, j2⟩ := ql_xe (h5 _ List.mem_cons_self)
  dsimp only at j1 j2
  rw [ql_n_s] at j2
  rw [sg_e2] at j1
  refine ⟨fun _ q => (List.not_mem_nil q).elim, fun _ q => (List.not_mem_nil q).elim, fun _ q => (List.not_mem_nil q).elim, fun _ q => (List.not_mem_nil q).elim, fun _ q => (List.not_mem_nil q).elim, fun _ q => (List.not_mem_nil q).elim, trivial, fun p hp' => ?_⟩
  rcases List.mem_cons.mp hp' with rfl | hp'
  · unfold tc_xq tg_q
    have e : (8 * t + 1) % 8 = 1 := by omega
    have e2 : (8 * t + 1) / 8 = t := by omega
    dsimp only
    rw [e, e2]
    simp only [List.map_cons, List.map_nil]
    intro ty n f x hM hv
    rw [tg_of_s h]
    unfold cp_a cp_p
    dsimp only
    rw [ql_n_s] at hv
    rw [ql_n_s, ql_n_s, sg_e2, sg_e0]
    have hab : A 0 ≠ A 1 := fun q => by
      rw [q, g2] at g1
      exact hS (Option.some.inj g1).symm
    refine ⟨g1, g2, g3, g4, fun i hi => ?_⟩
    rw [ql_el_s (b := A 0) hM (Or.inl hab)]
    by_cases q : (i : Int) = V 2
    · rw [show (V 1).toNat + i = (1 * V 1 + 1 * V 2 + 0).toNat by omega, ql_el_t, hv, ← j2]
      congr 1
      omega
    · rw [ql_el_s hM (Or.inr (by omega))]
      have := g5 i (by rw [ql_n_s]; omega)
      rw [ql_n_s, ql_n_s] at this
      exact this
  · cases hp'
/-- names 0 from, 1 to, 2 the count; 3, 4 where the copies begin, 5 how many -/
def cp_sg (t ts ts' : Nat) : tc_Lm := ((6, 2), ([([(0, 1), (3, -1)], 0), ([(3, 1), (5, 1), (1, -1)], 0)], [], [], [], [], [], [(8 * ts, [0], [ql_n 0, ql_n 1, ql_n 2]), (8 * t, [0, 1], [ql_n 3, ql_n 4, ql_n 5])]), (6, 2), ([], [], [], [], [], [], [(8 * ts', [1], [([(0, 1), (3, -1), (4, 1)], 0), ([(1, 1), (3, -1), (4, 1)], 0), ql_n 2])]))
theorem cp_sg_ok {l : List ga_S} {t ts ts' : Nat} {S : Nat × Nat} {G G' : sg_S} {RO : am_O} {T : tk_T} (h : l[t]? = some (cp_a S)) (hs : l[ts]? = some (sg_a G)) (hs' : l[ts']? = some (sg_a G')) (h1' : G'.1 = S.2) (h2' : G'.2 = G.2) : tc_lmt (tg_of l) RO T (cp_sg t ts ts') := by
  intro V A κ M sz hH hz hx
  refine ⟨V, A, fun _ _ => rfl, fun _ _ => rfl, ?_⟩
  obtain ⟨h1, h2, h3, h4, h5, h6, h7, h8⟩ := hx
  obtain ⟨s1, s2, s3, n, s4, s5⟩ := (sg_at_s hs).mp (h8 _ List.mem_cons_self)
  obtain ⟨g1, g2, g3, g4, g5⟩ := (cp_at_s h).mp (h8 _ (List.mem_cons_of_mem _ List.mem_cons_self))
  have f0 := h1 _ List.mem_cons_self
  have f1 := h1 _ (List.mem_cons_of_mem _ List.mem_cons_self)
  simp only [tl_v, tl_s] at f0 f1
  rw [ql_n_s] at s2 s3 s5 g3 g4
  rw [ql_n_s, ql_n_s] at s4
  refine ⟨fun _ q => (List.not_mem_nil q).elim, fun _ q => (List.not_mem_nil q).elim, fun _ q => (List.not_mem_nil q).elim, fun _ q => (List.not_mem_nil q).elim, fun _ q => (List.not_mem_nil q).elim, fun _ q => (List.not_mem_nil q).elim, trivial, fun p hp => ?_⟩
  rcases List.mem_cons.mp hp with rfl | hp
  · have e0 : tl_v V ([(0, 1), (3, -1), (4, 1)], 0) = V 0 - V 3 + V 4 := by
      simp [tl_v, tl_s]
      omega
    have e1 : tl_v V ([(1, 1), (3, -1), (4, 1)], 0) = V 1 - V 3 + V 4 := by
      simp [tl_v, tl_s]
      omega
    have hle := sg_ch_le s4
    refine (sg_at_s hs').mpr ⟨by rw [h1']; exact g2, by rw [e0]; omega, by rw [e1]; omega, n, ?_, ?_⟩
    · rw [e0, e1]
      have k1 : sg_ch G RO M (A 0) n (((V 0).toNat - (V 3).toNat) + (V 3).toNat) (((V 1).toNat - (V 3).toNat) + (V 3).toNat) := by
        rw [show (V 0).toNat - (V 3).toNat + (V 3).toNat = (V 0).toNat by omega, show (V 1).toNat - (V 3).toNat + (V 3).toNat = (V 1).toNat by omega]
        exact s4
      have k2 := cp_sh (H := (V 1).toNat - (V 3).toNat) (RO := RO) (M := M) (a := A 0) (a' := A 1) (d := (V 3).toNat) (d' := (V 4).toNat) (S := G) (S' := G') (by rw [h2']) (Nat.le_refl _) (fun j j1 j2 => by
        have := g5 j (by rw [ql_n_s]; omega)
        rw [ql_n_s, ql_n_s] at this
        rw [Nat.add_comm j, Nat.add_comm j]
        exact this) k1
      rw [show (V 0 - V 3 + V 4).toNat = (V 0).toNat - (V 3).toNat + (V 4).toNat by omega, show (V 1 - V 3 + V 4).toNat = (V 1).toNat - (V 3).toNat + (V 4).toNat by omega]
      exact k2
    · rw [ql_n_s, h2']
      exact s5
  · cases hp
/-- a chain told by other forms: names 0, 1, 2; then 3, 4, 5 -/
def sg_eq (t : Nat) : tc_Lm := ((6, 1), ([([(0, 1), (3, -1)], 0), ([(3, 1), (0, -1)], 0), ([(1, 1), (4, -1)], 0), ([(4, 1), (1, -1)], 0), ([(2, 1), (5, -1)], 0), ([(5, 1), (2, -1)], 0)], [], [], [], [], [], [(8 * t, [0], [ql_n 0, ql_n 1, ql_n 2])]), (6, 1), ([], [], [], [], [], [], [(8 * t, [0], [ql_n 3, ql_n 4, ql_n 5])]))
theorem sg_eq_ok {l : List ga_S} {t : Nat} {S : sg_S} {RO : am_O} {T : tk_T} (h : l[t]? = some (sg_a S)) : tc_lmt (tg_of l) RO T (sg_eq t) := by
  intro V A κ M sz hH hz hx
  refine ⟨V, A, fun _ _ => rfl, fun _ _ => rfl, ?_⟩
  obtain ⟨h1, h2, h3, h4, h5, h6, h7, h8⟩ := hx
  have g := (sg_at_s h).mp (h8 _ List.mem_cons_self)
  have f0 := h1 _ List.mem_cons_self
  have f1 := h1 _ (List.mem_cons_of_mem _ List.mem_cons_self)
  have f2 := h1 _ (List.mem_cons_of_mem _ (List.mem_cons_of_mem _ List.mem_cons_self))
  have f3 := h1 _ (List.mem_cons_of_mem _ (List.mem_cons_of_mem _ (List.mem_cons_of_mem _ List.mem_cons_self)))
  have f4 := h1 _ (List.mem_cons_of_mem _ (List.mem_cons_of_mem _ (List.mem_cons_of_mem _ (List.mem_cons_of_mem _ List.mem_cons_self))))
  have f5 := h1 _ (List.mem_cons_of_mem _ (List.mem_cons_of_mem _ (List.mem_cons_of_mem _ (List.mem_cons_of_mem _ (List.mem_cons_of_mem _ List.mem_cons_self)))))
  simp only [tl_v, tl_s] at f0 f1 f2 f3 f4 f5
  refine ⟨fun _ q => (List.not_mem_nil q).elim, fun _ q => (List.not_mem_nil q).elim, fun _ q => (List.not_mem_nil q).elim, fun _ q => (List.not_mem_nil q).elim, fun _ q => (List.not_mem_nil q).elim, fun _ q => (List.not_mem_nil q).elim, trivial, fun p hp => ?_⟩
  rcases List.mem_cons.mp hp with rfl | hp
  · refine (sg_at_s h).mpr ?_
    rw [ql_n_s, ql_n_s, ql_n_s] at g ⊢
    rw [show V 3 = V 0 by omega, show V 4 = V 1 by omega, show V 5 = V 2 by omega]
    exact g
  · cases hp
/-- how far it is at least: names 0 from, 1 to, 2 the count -/
def sg_mn (S : sg_S) : Nat := match S.2.2 with
  | [] => 0
  | c :: cs => cs.foldr (fun c r => min (sg_mb c) r) (sg_mb c)
theorem sg_mn_le {S : sg_S} {c : sg_C} (h : c ∈ S.2.2) : sg_mn S ≤ sg_mb c := by
  unfold sg_mn
  split
  · rename_i e
    rw [e] at h
    cases h
  · rename_i d cs e
    rw [e] at h
    have k : ∀ l : List sg_C, l.foldr (fun c r => min (sg_mb c) r) (sg_mb d) ≤ sg_mb d ∧ ∀ c ∈ l, l.foldr (fun c r => min (sg_mb c) r) (sg_mb d) ≤ sg_mb c := by
      intro l
      induction l with
      | nil => exact ⟨Nat.le_refl _, fun c h => by cases h⟩
      | cons x l ih =>
        rw [List.foldr_cons]
        refine ⟨by omega, fun c h => ?_⟩
        rcases List.mem_cons.mp h with rfl | h
        · omega
        · have := ih.2 c h
          omega
    rcases List.mem_cons.mp h with rfl | h
    · exact (k cs).1
    · exact (k cs).2 c h
def sg_min (t : Nat) (S : sg_S) (w : Bool) : tc_Lm := ((3, 1), ([if w then ([(2, 1)], -1) else ([(1, 1), (0, -1)], -1)], [], [], [], [], [], [sg_at t (ql_n 0) (ql_n 1) (ql_n 2)]), (3, 1), ([([(1, 1), (0, -1)], -(sg_mn S : Int))], [], [], [], [], [], []))
theorem sg_min_ok {l : List ga_S} {t : Nat} {S : sg_S} {w : Bool} {RO : am_O} {T : tk_T} (h : l[t]? = some (sg_a S)) : tc_lmt (tg_of l) RO T (sg_min t S w) := by
  intro V A κ M sz hH hz hx
  refine ⟨V, A, fun _ _ => rfl, fun _ _ => rfl, ?_⟩
  obtain ⟨h1, h2, h3, h4, h5, h6, h7, h8⟩ := hx
  obtain ⟨g1, g2, g3, n, g4, g5⟩ := (sg_at_s h).mp (h8 _ List.mem_cons_self)
  rw [ql_n_s] at g2 g3 g5
  rw [ql_n_s, ql_n_s] at g4
  have f0 := h1 _ List.mem_cons_self
  have hn : n ≠ 0 := by
    intro e
    subst e
    have g4 : (V 0).toNat = (V 1).toNat := g4
    cases w
    · simp [tl_v, tl_s] at f0
      omega
    · simp [tl_v, tl_s] at f0
      rw [g5] at f0
      simp at f0
  obtain ⟨m, rfl⟩ := Nat.exists_eq_succ_of_ne_zero hn
  obtain ⟨p', ⟨c', c1, c2, c3, c4⟩, g6⟩ := g4
  have hle := sg_ch_le g6
  have hm := sg_mn_le c1
  refine ⟨fun f hf => ?_, fun _ q => (List.not_mem_nil q).elim, fun _ q => (List.not_mem_nil q).elim, fun _ q => (List.not_mem_nil q).elim, fun _ q => (List.not_mem_nil q).elim, fun _ q => (List.not_mem_nil q).elim, trivial, fun _ q => (List.not_mem_nil q).elim⟩
  rcases List.mem_cons.mp hf with rfl | hf
  · simp only [tl_v, tl_s]
    omega
  · cases hf
