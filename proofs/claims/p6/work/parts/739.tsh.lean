/-! TC: chains whose heads lie below a place (what lies behind it may be written); copies within one row -/
def sh_st (S : sg_S) (RO : am_O) (M : am_H) (a R p p' : Nat) : Prop := ∃ c ∈ S.2.2, (∀ f ∈ c.1, 0 ≤ sg_v RO M a p f) ∧ (p' : Int) = p + sg_v RO M a p c.2 ∧ p + sg_mb c ≤ p' ∧ p + sg_mb c ≤ R
def sh_ch (S : sg_S) (RO : am_O) (M : am_H) (a R : Nat) : Nat → Nat → Nat → Prop
  | 0, p, q => p = q
  | n + 1, p, q => ∃ p', sh_st S RO M a R p p' ∧ sh_ch S RO M a R n p' q
theorem sh_ch_sn {S : sg_S} {RO : am_O} {M : am_H} {a R : Nat} : ∀ {n p q r : Nat}, sh_ch S RO M a R n p q → sh_st S RO M a R q r → sh_ch S RO M a R (n + 1) p r
  | 0, p, q, r, h, g => by
    cases h
    exact ⟨r, g, rfl⟩
  | n + 1, p, q, r, h, g => by
    obtain ⟨p', h1, h2⟩ := h
    exact ⟨p', h1, sh_ch_sn h2 g⟩
/-- what is equal below the place -/
theorem sh_ch_c {S : sg_S} {RO : am_O} {M M' : am_H} {a R R' : Nat} (hR : R ≤ R') : ∀ {n p q : Nat}, (∀ j, j < R → ql_el RO M' a j = ql_el RO M a j) → sh_ch S RO M a R n p q → sh_ch S RO M' a R' n p q
  | 0, p, q, _, h => h
  | n + 1, p, q, he, h => by
    obtain ⟨p', ⟨c, c1, c2, c3, c4, c5⟩, h2⟩ := h
    refine ⟨p', ⟨c, c1, fun f hf => ?_, ?_, c4, by omega⟩, sh_ch_c hR he h2⟩
    · have e : sg_v RO M' a p f = sg_v RO M a p f := sg_v_c (fun t ht => by
        have := sg_mb_f hf ht
        exact he _ (by omega))
      rw [e]
      exact c2 f hf
    · have e : sg_v RO M' a p c.2 = sg_v RO M a p c.2 := sg_v_c (fun t ht => by
        have := sg_mb_s ht
        exact he _ (by omega))
      rw [e]
      exact c3
theorem sh_ch_sg {S : sg_S} {RO : am_O} {M : am_H} {a R : Nat} : ∀ {n p q : Nat}, sh_ch S RO M a R n p q → sg_ch S RO M a n p q
  | 0, _, _, h => h
  | n + 1, p, q, h => by
    obtain ⟨p', ⟨c, c1, c2, c3, c4, _⟩, h2⟩ := h
    exact ⟨p', ⟨c, c1, c2, c3, c4⟩, sh_ch_sg h2⟩
theorem sg_ch_sh {S : sg_S} {RO : am_O} {M : am_H} {a : Nat} : ∀ {n p q R : Nat}, q ≤ R → sg_ch S RO M a n p q → sh_ch S RO M a R n p q
  | 0, _, _, _, _, h => h
  | n + 1, p, q, R, hq, h => by
    obtain ⟨p', ⟨c, c1, c2, c3, c4⟩, h2⟩ := h
    have := sg_ch_le h2
    exact ⟨p', ⟨c, c1, c2, c3, c4, by omega⟩, sg_ch_sh hq h2⟩
def sh_p (S : sg_S) (RO : am_O) (κ : Nat → Option Nat) (M : am_H) (as : List Nat) (is : List Int) : Prop := match as, is with
  | [a], [P, Q, K, R] => κ a = some S.1 ∧ 0 ≤ P ∧ 0 ≤ Q ∧ 0 ≤ R ∧ ∃ n : Nat, sh_ch S RO M a R.toNat n P.toNat Q.toNat ∧ K = S.2.1 * n
  | _, _ => False
def sh_a (S : sg_S) : ga_S := (sh_p S, [(S.1, 0)])
theorem sh_a_ok (S : sg_S) : ga_ok (sh_a S) := by
  intro RO κ κ' M M' as is h1 h2 h3 h4
  unfold sh_a at h3 h4 ⊢
  dsimp only at h3 h4 ⊢
  unfold sh_p at h4 ⊢
  split
  · rename_i a P Q K R
    dsimp only at h4
    obtain ⟨g1, g2, g3, g6, n, g4, g5⟩ := h4
    exact ⟨h1 _ _ g1, g2, g3, g6, n, sh_ch_c (Nat.le_refl _) (fun j _ => ql_el_k (h3 _ _ g1) List.mem_cons_self) g4, g5⟩
  · rename_i hn
    split at h4
    · rename_i a P Q K R
      exact hn a P Q K R rfl rfl
    · exact h4
def sh_at (t : Nat) (P Q K R : tl_F) : tg_P := (8 * t, [0], [P, Q, K, R])
theorem sh_at_s {l : List ga_S} {t : Nat} {S : sg_S} (h : l[t]? = some (sh_a S)) {RO : am_O} {κ : Nat → Option Nat} {M : am_H} {V : Nat → Int} {A : Nat → Nat} {a : Nat} {P Q K R : tl_F} : tc_xq (tg_of l) RO κ M V A (8 * t, [a], [P, Q, K, R]) ↔ (κ (A a) = some S.1 ∧ 0 ≤ tl_v V P ∧ 0 ≤ tl_v V Q ∧ 0 ≤ tl_v V R ∧ ∃ n : Nat, sh_ch S RO M (A a) (tl_v V R).toNat n (tl_v V P).toNat (tl_v V Q).toNat ∧ tl_v V K = S.2.1 * n) := by
  have e : (8 * t, [a], [P, Q, K, R]).1 % 8 = 0 := by
    show 8 * t % 8 = 0
    omega
  have e2 : (8 * t, [a], [P, Q, K, R]).1 / 8 = t := by
    show 8 * t / 8 = t
    omega
  rw [tg_q0 e, e2, tg_of_s h]
  unfold sh_a sh_p
  simp only [List.map_cons, List.map_nil]
/-- no step: names 0 where, 1 below what -/
def sh_nil (t : Nat) (S : sg_S) : tc_Lm := ((2, 1), ([ql_n 0, ql_n 1], [(0, S.1)], [], [], [], [], []), (2, 1), ([], [], [], [], [], [], [sh_at t (ql_n 0) (ql_n 0) ([], 0) (ql_n 1)]))
theorem sh_nil_ok {l : List ga_S} {t : Nat} {S : sg_S} {RO : am_O} {T : tk_T} (h : l[t]? = some (sh_a S)) : tc_lmt (tg_of l) RO T (sh_nil t S) := by
  intro V A κ M sz hH hz hx
  refine ⟨V, A, fun _ _ => rfl, fun _ _ => rfl, ?_⟩
  obtain ⟨h1, h2, h3, h4, h5, h6, h7, h8⟩ := hx
  have f0 := h1 _ List.mem_cons_self
  have f1 := h1 _ (List.mem_cons_of_mem _ List.mem_cons_self)
  refine ⟨fun _ q => (List.not_mem_nil q).elim, fun _ q => (List.not_mem_nil q).elim, fun _ q => (List.not_mem_nil q).elim, fun _ q => (List.not_mem_nil q).elim, fun _ q => (List.not_mem_nil q).elim, fun _ q => (List.not_mem_nil q).elim, trivial, fun p hp => ?_⟩
  rcases List.mem_cons.mp hp with rfl | hp
  · exact (sh_at_s h).mpr ⟨h2 _ List.mem_cons_self, f0, f0, f1, 0, rfl, by simp [tl_v, tl_s]⟩
  · cases hp
/-- one more at the end: names 0 from, 1 to, 2 the count, 3 below what, 4 below what then; then what stands behind the end -/
def sh_snoc (t : Nat) (S : sg_S) (c : sg_C) (bs : List Nat) : tc_Lm := ((5 + bs.length, 1), (([(4, 1), (3, -1)], 0) :: ([(4, 1), (1, -1)], -(sg_mb c : Int)) :: ((sg_fm 5 bs c.2).1, (sg_fm 5 bs c.2).2 - sg_mb c) :: c.1.map (sg_fm 5 bs), [], [], [], sg_els 1 5 bs, [], [sh_at t (ql_n 0) (ql_n 1) (ql_n 2) (ql_n 3)]), (5 + bs.length, 1), ([], [], [], [], [], [], [sh_at t (ql_n 0) ((1, 1) :: (sg_fm 5 bs c.2).1, (sg_fm 5 bs c.2).2) ([(2, 1)], S.2.1) (ql_n 4)]))
theorem sh_snoc_ok {l : List ga_S} {t : Nat} {S : sg_S} {c : sg_C} {bs : List Nat} {RO : am_O} {T : tk_T} (h : l[t]? = some (sh_a S)) (hc : c ∈ S.2.2) (hi : (sg_in bs c.2 && c.1.all (sg_in bs)) = true) : tc_lmt (tg_of l) RO T (sh_snoc t S c bs) := by
  intro V A κ M sz hH hz hx
  refine ⟨V, A, fun _ _ => rfl, fun _ _ => rfl, ?_⟩
  obtain ⟨h1, h2, h3, h4, h5, h6, h7, h8⟩ := hx
  obtain ⟨i1, i2⟩ := (Bool.and_eq_true _ _).mp hi
  obtain ⟨g1, g2, g3, g6, n, g4, g5⟩ := (sh_at_s h).mp (h8 _ List.mem_cons_self)
  rw [ql_n_s] at g2 g3 g5 g6
  rw [ql_n_s, ql_n_s, ql_n_s] at g4
  have hq : V 1 = ((V 1).toNat : Int) := by omega
  have hb := sg_els_s hq h5
  have r0 := h1 _ List.mem_cons_self
  have r1 := h1 _ (List.mem_cons_of_mem _ List.mem_cons_self)
  simp only [tl_v, tl_s] at r0 r1
  have f0 : 0 ≤ tl_v V ((sg_fm 5 bs c.2).1, (sg_fm 5 bs c.2).2 - sg_mb c) := h1 _ (List.mem_cons_of_mem _ (List.mem_cons_of_mem _ List.mem_cons_self))
  have e0 : tl_v V (sg_fm 5 bs c.2) = sg_v RO M (A 0) (V 1).toNat c.2 := sg_fm_s hb i1
  have e1 : tl_v V ((sg_fm 5 bs c.2).1, (sg_fm 5 bs c.2).2 - (sg_mb c : Int)) = tl_v V (sg_fm 5 bs c.2) - sg_mb c := by
    unfold tl_v
    dsimp only
    omega
  rw [e1, e0] at f0
  have e2 : tl_v V ((1, 1) :: (sg_fm 5 bs c.2).1, (sg_fm 5 bs c.2).2) = V 1 + sg_v RO M (A 0) (V 1).toNat c.2 := by
    rw [← e0, sg_cons, sg_eta]
    omega
  refine ⟨fun _ q => (List.not_mem_nil q).elim, fun _ q => (List.not_mem_nil q).elim, fun _ q => (List.not_mem_nil q).elim, fun _ q => (List.not_mem_nil q).elim, fun _ q => (List.not_mem_nil q).elim, fun _ q => (List.not_mem_nil q).elim, trivial, fun p hp => ?_⟩
  rcases List.mem_cons.mp hp with rfl | hp
  · refine (sh_at_s h).mpr ⟨g1, by rw [ql_n_s]; exact g2, by rw [e2]; omega, by rw [ql_n_s]; omega, n + 1, ?_, ?_⟩
    · rw [ql_n_s, ql_n_s, e2]
      refine sh_ch_sn (sh_ch_c (by omega) (fun _ _ => rfl) g4) ⟨c, hc, fun f hf => ?_, by omega, by omega, by omega⟩
      rw [← sg_fm_s hb (List.all_eq_true.mp i2 f hf)]
      exact h1 _ (List.mem_cons_of_mem _ (List.mem_cons_of_mem _ (List.mem_cons_of_mem _ (List.mem_map_of_mem hf))))
    · have : tl_v V ([(2, 1)], S.2.1) = V 2 + S.2.1 := by simp [tl_v, tl_s]
      rw [this, g5]
      push_cast
      rw [Int.mul_add, Int.mul_one]
  · cases hp
/-- a store not below the place: rows 0, 1 (1 is written); names 0 from, 1 to, 2 the count, 3 below what, 4 where, 5 what -/
def sh_put (t : Nat) : tc_Lm := ((6, 2), ([([(4, 1), (3, -1)], 0)], [], [], [], [], [], [sh_at t (ql_n 0) (ql_n 1) (ql_n 2) (ql_n 3)]), (6, 2), ([], [], [], [], [], [], [(8 * t + 1, [1, 0], [ql_n 4, ql_n 5, ql_n 0, ql_n 1, ql_n 2, ql_n 3])]))
theorem sh_put_ok {l : List ga_S} {t : Nat} {S : sg_S} {RO : am_O} {T : tk_T} (h : l[t]? = some (sh_a S)) : tc_lmt (tg_of l) RO T (sh_put t) := by
  intro V A κ M sz hH hz hx
  refine ⟨V, A, fun _ _ => rfl, fun _ _ => rfl, ?_⟩
  obtain ⟨h1, h2, h3, h4, h5, h6, h7, h8⟩ := hx
  obtain ⟨g1, g2, g3, g6, m, g4, g5⟩ := (sh_at_s h).mp (h8 _ List.mem_cons_self)
  have f0 := h1 _ List.mem_cons_self
  simp only [tl_v, tl_s] at f0
  rw [ql_n_s] at g2 g3 g5 g6
  rw [ql_n_s, ql_n_s, ql_n_s] at g4
  refine ⟨fun _ q => (List.not_mem_nil q).elim, fun _ q => (List.not_mem_nil q).elim, fun _ q => (List.not_mem_nil q).elim, fun _ q => (List.not_mem_nil q).elim, fun _ q => (List.not_mem_nil q).elim, fun _ q => (List.not_mem_nil q).elim, trivial, fun p hp' => ?_⟩
  rcases List.mem_cons.mp hp' with rfl | hp'
  · unfold tc_xq tg_q
    have e : (8 * t + 1) % 8 = 1 := by omega
    have e2 : (8 * t + 1) / 8 = t := by omega
    dsimp only
    rw [e, e2]
    simp only [List.map_cons, List.map_nil]
    intro ty n f x hM hv
    rw [tg_of_s h]
    unfold sh_a sh_p
    dsimp only
    rw [ql_n_s, ql_n_s, ql_n_s, ql_n_s, ql_n_s]
    refine ⟨g1, g2, g3, g6, m, ?_, g5⟩
    exact sh_ch_c (Nat.le_refl _) (fun j j1 => ql_el_s hM (Or.inr (by omega))) g4
  · cases hp'
/-- its end told by another form: names 0, 1, 2, 3; then 4 -/
def sh_eq (t : Nat) : tc_Lm := ((5, 1), ([([(1, 1), (4, -1)], 0), ([(4, 1), (1, -1)], 0)], [], [], [], [], [], [sh_at t (ql_n 0) (ql_n 1) (ql_n 2) (ql_n 3)]), (5, 1), ([], [], [], [], [], [], [sh_at t (ql_n 0) (ql_n 4) (ql_n 2) (ql_n 3)]))
theorem sh_eq_ok {l : List ga_S} {t : Nat} {S : sg_S} {RO : am_O} {T : tk_T} (h : l[t]? = some (sh_a S)) : tc_lmt (tg_of l) RO T (sh_eq t) := by
  intro V A κ M sz hH hz hx
  refine ⟨V, A, fun _ _ => rfl, fun _ _ => rfl, ?_⟩
  obtain ⟨h1, h2, h3, h4, h5, h6, h7, h8⟩ := hx
  have g := (sh_at_s h).mp (h8 _ List.mem_cons_self)
  have f0 := h1 _ List.mem_cons_self
  have f1 := h1 _ (List.mem_cons_of_mem _ List.mem_cons_self)
  simp only [tl_v, tl_s] at f0 f1
  refine ⟨fun _ q => (List.not_mem_nil q).elim, fun _ q => (List.not_mem_nil q).elim, fun _ q => (List.not_mem_nil q).elim, fun _ q => (List.not_mem_nil q).elim, fun _ q => (List.not_mem_nil q).elim, fun _ q => (List.not_mem_nil q).elim, trivial, fun p hp => ?_⟩
  rcases List.mem_cons.mp hp with rfl | hp
  · refine (sh_at_s h).mpr ?_
    rw [ql_n_s, ql_n_s, ql_n_s, ql_n_s] at g ⊢
    rw [show V 4 = V 1 by omega]
    exact g
  · cases hp
/-- as a chain; out of a chain -/
def sh_sg (t ts : Nat) : tc_Lm := ((4, 1), ([], [], [], [], [], [], [sh_at t (ql_n 0) (ql_n 1) (ql_n 2) (ql_n 3)]), (4, 1), ([], [], [], [], [], [], [sg_at ts (ql_n 0) (ql_n 1) (ql_n 2)]))
theorem sh_sg_ok {l : List ga_S} {t ts : Nat} {S : sg_S} {RO : am_O} {T : tk_T} (h : l[t]? = some (sh_a S)) (hs : l[ts]? = some (sg_a S)) : tc_lmt (tg_of l) RO T (sh_sg t ts) := by
  intro V A κ M sz hH hz hx
  refine ⟨V, A, fun _ _ => rfl, fun _ _ => rfl, ?_⟩
  obtain ⟨h1, h2, h3, h4, h5, h6, h7, h8⟩ := hx
  obtain ⟨g1, g2, g3, g6, m, g4, g5⟩ := (sh_at_s h).mp (h8 _ List.mem_cons_self)
  refine ⟨fun _ q => (List.not_mem_nil q).elim, fun _ q => (List.not_mem_nil q).elim, fun _ q => (List.not_mem_nil q).elim, fun _ q => (List.not_mem_nil q).elim, fun _ q => (List.not_mem_nil q).elim, fun _ q => (List.not_mem_nil q).elim, trivial, fun p hp => ?_⟩
  rcases List.mem_cons.mp hp with rfl | hp
  · exact (sg_at_s hs).mpr ⟨g1, g2, g3, m, sh_ch_sg g4, g5⟩
  · cases hp
def sg_sh (t ts : Nat) : tc_Lm := ((3, 1), ([], [], [], [], [], [], [sg_at ts (ql_n 0) (ql_n 1) (ql_n 2)]), (3, 1), ([], [], [], [], [], [], [sh_at t (ql_n 0) (ql_n 1) (ql_n 2) (ql_n 1)]))
theorem sg_sh_ok {l : List ga_S} {t ts : Nat} {S : sg_S} {RO : am_O} {T : tk_T} (h : l[t]? = some (sh_a S)) (hs : l[ts]? = some (sg_a S)) : tc_lmt (tg_of l) RO T (sg_sh t ts) := by
  intro V A κ M sz hH hz hx
  refine ⟨V, A, fun _ _ => rfl, fun _ _ => rfl, ?_⟩
  obtain ⟨h1, h2, h3, h4, h5, h6, h7, h8⟩ := hx
  obtain ⟨g1, g2, g3, m, g4, g5⟩ := (sg_at_s hs).mp (h8 _ List.mem_cons_self)
  refine ⟨fun _ q => (List.not_mem_nil q).elim, fun _ q => (List.not_mem_nil q).elim, fun _ q => (List.not_mem_nil q).elim, fun _ q => (List.not_mem_nil q).elim, fun _ q => (List.not_mem_nil q).elim, fun _ q => (List.not_mem_nil q).elim, trivial, fun p hp => ?_⟩
  rcases List.mem_cons.mp hp with rfl | hp
  · exact (sh_at_s h).mpr ⟨g1, g2, g3, g3, m, sg_ch_sh (Nat.le_refl _) g4, g5⟩
  · cases hp
/-- no step is left: names 0 from, 1 to, 2 the count, which is 0 -/
def sg_zero (t : Nat) (S : sg_S) : tc_Lm := ((3, 1), ([([(2, -1)], 0)], [], [], [], [], [], [sg_at t (ql_n 0) (ql_n 1) (ql_n 2)]), (3, 1), ([([(0, 1), (1, -1)], 0), ([(1, 1), (0, -1)], 0)], [], [], [], [], [], []))
theorem sg_zero_ok {l : List ga_S} {t : Nat} {S : sg_S} {RO : am_O} {T : tk_T} (h : l[t]? = some (sg_a S)) (hS : S.2.1 = 1) : tc_lmt (tg_of l) RO T (sg_zero t S) := by
  intro V A κ M sz hH hz hx
  refine ⟨V, A, fun _ _ => rfl, fun _ _ => rfl, ?_⟩
  obtain ⟨h1, h2, h3, h4, h5, h6, h7, h8⟩ := hx
  obtain ⟨g1, g2, g3, n, g4, g5⟩ := (sg_at_s h).mp (h8 _ List.mem_cons_self)
  rw [ql_n_s] at g2 g3 g5
  rw [ql_n_s, ql_n_s] at g4
  have f0 := h1 _ List.mem_cons_self
  simp only [tl_v, tl_s] at f0
  rw [hS] at g5
  have hn : n = 0 := by omega
  subst hn
  have g4 : (V 0).toNat = (V 1).toNat := g4
  refine ⟨fun f hf => ?_, fun _ q => (List.not_mem_nil q).elim, fun _ q => (List.not_mem_nil q).elim, fun _ q => (List.not_mem_nil q).elim, fun _ q => (List.not_mem_nil q).elim, fun _ q => (List.not_mem_nil q).elim, trivial, fun _ q => (List.not_mem_nil q).elim⟩
  rcases List.mem_cons.mp hf with rfl | hf
  · simp only [tl_v, tl_s]
    omega
  · rcases List.mem_cons.mp hf with rfl | hf
    · simp only [tl_v, tl_s]
      omega
    · cases hf
/-- a copy within one row, to places ahead (false), behind (true) of what is copied: names 0, 1, 2, 3 as above, 4 how many at most -/
def cp_slf (t : Nat) (w : Bool) : tc_Lm := ((5, 1), ([ql_n 2, ([(4, 1), (2, -1)], -1), if w then ([(1, 1), (0, -1), (4, -1)], 0) else ([(0, 1), (1, -1), (4, -1)], 0)], [], [], [], [(0, ([(0, 1), (2, 1)], 0), ql_n 3)], [], [(8 * t, [0, 0], [ql_n 0, ql_n 1, ql_n 2])]), (5, 1), ([], [], [], [], [], [], [(8 * t + 1, [0, 0, 0], [([(1, 1), (2, 1)], 0), ql_n 3, ql_n 0, ql_n 1, ([(2, 1)], 1)])]))
theorem cp_slf_ok {l : List ga_S} {t : Nat} {w : Bool} {S : Nat × Nat} {RO : am_O} {T : tk_T} (h : l[t]? = some (cp_a S)) : tc_lmt (tg_of l) RO T (cp_slf t w) := by
  intro V A κ M sz hH hz hx
  refine ⟨V, A, fun _ _ => rfl, fun _ _ => rfl, ?_⟩
  obtain ⟨h1, h2, h3, h4, h5, h6, h7, h8⟩ := hx
  obtain ⟨g1, g2, g3, g4, g5⟩ := (cp_at_s h).mp (h8 _ List.mem_cons_self)
  have f0 := h1 _ List.mem_cons_self
  have f1 := h1 _ (List.mem_cons_of_mem _ List.mem_cons_self)
  have f2 := h1 _ (List.mem_cons_of_mem _ (List.mem_cons_of_mem _ List.mem_cons_self))
  have hw : V 0 + V 4 ≤ V 1 ∨ V 1 + V 4 ≤ V 0 := by
    cases w <;> simp [tl_v, tl_s] at f2 <;> omega
  rw [ql_n_s] at f0 g3 g4
  simp only [tl_v, tl_s] at f1
  obtain ⟨j, j1, j2⟩ := ql_xe (h5 _ List.mem_cons_self)
  dsimp only at j1 j2
  rw [ql_n_s] at j2
  rw [sg_e2] at j1
  refine ⟨fun _ q => (List.not_mem_nil q).elim, fun _ q => (List.not_mem_nil q).elim, fun _ q => (List.not_mem_nil q).elim, fun _ q => (List.not_mem_nil q).elim, fun _ q => (List.not_mem_nil q).elim, fun _ q => (List.not_mem_nil q).elim, trivial, fun p hp' => ?_⟩
  rcases List.mem_cons.mp hp' with rfl | hp'
  · unfold tc_xq tg_q
    have e : (8 * t + 1) % 8 = 1 := by omega
    have e2 : (8 * t + 1) / 8 = t := by omega
    dsimp only
    rw [e, e2]
    simp only [List.map_cons, List.map_nil]
    intro ty n f x hM hv
    rw [tg_of_s h]
    unfold cp_a cp_p
    dsimp only
    rw [ql_n_s] at hv
    rw [ql_n_s, ql_n_s, sg_e2, sg_e0]
    refine ⟨g1, g2, g3, g4, fun i hi => ?_⟩
    refine Eq.trans ?_ (ql_el_s (i := (V 0).toNat + i) hM (Or.inr (by omega))).symm
    by_cases q : (i : Int) = V 2
    · rw [show (V 1).toNat + i = (1 * V 1 + 1 * V 2 + 0).toNat by omega, ql_el_t, hv, ← j2]
      congr 1
      omega
    · rw [ql_el_s hM (Or.inr (by omega))]
      have := g5 i (by rw [ql_n_s]; omega)
      rw [ql_n_s, ql_n_s] at this
      exact this
  · cases hp'
