/-! TC: twelve chains, each as long as is told -/
def fa_w (S : sg_S) (RO : am_O) (M : am_H) (a b : Nat) (X : Int) : Prop := ∀ c : Nat, c < 12 → (c : Int) ≠ X → 8 < ql_el RO M b c → ql_el RO M b c ≤ 2500 ∧ ∃ n, sg_ch S RO M a n (2500 * c + 8) (2500 * c + (ql_el RO M b c).toNat)
def fa_p (S : sg_S × Nat) (RO : am_O) (κ : Nat → Option Nat) (M : am_H) (as : List Nat) (is : List Int) : Prop := match as, is with
  | [a, b], [X] => κ a = some S.1.1 ∧ κ b = some S.2 ∧ fa_w S.1 RO M a b X
  | _, _ => False
def fa_a (S : sg_S × Nat) : ga_S := (fa_p S, [(S.1.1, 0), (S.2, 0)])
theorem fa_w_c {S : sg_S} {RO : am_O} {M M' : am_H} {a b : Nat} {X : Int} (ha : ∀ j, ql_el RO M' a j = ql_el RO M a j) (hb : ∀ j, ql_el RO M' b j = ql_el RO M b j) (h : fa_w S RO M a b X) : fa_w S RO M' a b X := by
  intro c hc hx h8
  rw [hb] at h8 ⊢
  obtain ⟨h1, n, h2⟩ := h c hc hx h8
  exact ⟨h1, n, sg_ch_c (S := S) (S' := S) rfl (d := 0) (Nat.le_refl _) (fun j _ _ => ha j) h2⟩
theorem fa_a_ok (S : sg_S × Nat) : ga_ok (fa_a S) := by
  intro RO κ κ' M M' as is h1 h2 h3 h4
  unfold fa_a at h2 h3 h4 ⊢
  dsimp only at h2 h3 h4 ⊢
  unfold fa_p at h4 ⊢
  split
  · dsimp only at h4
    exact ⟨h1 _ _ h4.1, h1 _ _ h4.2.1, fa_w_c (fun j => ql_el_k (h3 _ _ h4.1) List.mem_cons_self) (fun j => ql_el_k (h3 _ _ h4.2.1) (List.mem_cons_of_mem _ List.mem_cons_self)) h4.2.2⟩
  · rename_i hn
    split at h4
    · exact hn _ _ _ rfl rfl
    · exact h4
theorem fa_at_s {l : List ga_S} {t : Nat} {S : sg_S × Nat} (h : l[t]? = some (fa_a S)) {RO : am_O} {κ : Nat → Option Nat} {M : am_H} {V : Nat → Int} {A : Nat → Nat} {a b : Nat} {X : tl_F} : tc_xq (tg_of l) RO κ M V A (8 * t, [a, b], [X]) ↔ (κ (A a) = some S.1.1 ∧ κ (A b) = some S.2 ∧ fa_w S.1 RO M (A a) (A b) (tl_v V X)) := by
  have e : (8 * t, [a, b], [X]).1 % 8 = 0 := by
    show 8 * t % 8 = 0
    omega
  have e2 : (8 * t, [a, b], [X]).1 / 8 = t := by
    show 8 * t / 8 = t
    omega
  rw [tg_q0 e, e2, tg_of_s h]
  exact Iff.rfl
/-- names: 0 what is out, 1 which, 2 how long; rows 0, 1 -/
def fa_use (t ts : Nat) (w : Bool) : tc_Lm := ((3, 2), ([ql_n 1, ([(1, -1)], 11), if w then ([(1, 1), (0, -1)], -1) else ([(0, 1), (1, -1)], -1), ([(2, 1)], -9)], [], [], [], [(1, ql_n 1, ql_n 2)], [], [(8 * t, [0, 1], [ql_n 0])]), (3, 2), ([], [], [], [], [], [], [(8 * ts, [0], [([(1, 2500)], 8), ([(1, 2500), (2, 1)], 0), ([], 0)])]))
theorem fa_use_ok {l : List ga_S} {t ts : Nat} {w : Bool} {S : sg_S × Nat} {RO : am_O} {T : tk_T} (h : l[t]? = some (fa_a S)) (hs : l[ts]? = some (sg_a S.1)) (hw : S.1.2.1 = 0) : tc_lmt (tg_of l) RO T (fa_use t ts w) := by
  intro V A κ M sz hH hz hx
  refine ⟨V, A, fun _ _ => rfl, fun _ _ => rfl, ?_⟩
  obtain ⟨h1, h2, h3, h4, h5, h6, h7, h8⟩ := hx
  obtain ⟨g1, g2, g3⟩ := (fa_at_s h).mp (h8 _ List.mem_cons_self)
  have f0 := h1 _ List.mem_cons_self
  have f1 := h1 _ (List.mem_cons_of_mem _ List.mem_cons_self)
  have f2 := h1 _ (List.mem_cons_of_mem _ (List.mem_cons_of_mem _ List.mem_cons_self))
  have f3 := h1 _ (List.mem_cons_of_mem _ (List.mem_cons_of_mem _ (List.mem_cons_of_mem _ List.mem_cons_self)))
  rw [ql_n_s] at f0 g3
  simp only [tl_v, tl_s] at f1 f3
  have hne : V 1 ≠ V 0 := by
    cases w <;> simp [tl_v, tl_s] at f2 <;> omega
  obtain ⟨j, j1, j2⟩ := ql_xe (h5 _ List.mem_cons_self)
  dsimp only at j1 j2
  rw [ql_n_s] at j1 j2
  obtain ⟨w1, n, w2⟩ := g3 j (by omega) (by omega) (by omega)
  rw [j2] at w1 w2
  refine ⟨fun _ q => (List.not_mem_nil q).elim, fun _ q => (List.not_mem_nil q).elim, fun _ q => (List.not_mem_nil q).elim, fun _ q => (List.not_mem_nil q).elim, fun _ q => (List.not_mem_nil q).elim, fun _ q => (List.not_mem_nil q).elim, trivial, fun p hp => ?_⟩
  rcases List.mem_cons.mp hp with rfl | hp
  · have e1 : tl_v V ([(1, 2500)], 8) = 2500 * V 1 + 8 := by simp [tl_v, tl_s]
    have e2 : tl_v V ([(1, 2500), (2, 1)], 0) = 2500 * V 1 + V 2 := by simp [tl_v, tl_s]
    refine (sg_at_s hs).mpr ⟨g1, by rw [e1]; omega, by rw [e2]; omega, n, ?_, ?_⟩
    · rw [e1, e2, show (2500 * V 1 + 8).toNat = 2500 * j + 8 by omega, show (2500 * V 1 + V 2).toNat = 2500 * j + (V 2).toNat by omega]
      exact w2
    · rw [hw]
      simp [tl_v, tl_s]
  · cases hp
def fa_open (t : Nat) : tc_Lm := ((1, 2), ([], [], [], [], [], [], [(8 * t, [0, 1], [([], -1)])]), (1, 2), ([], [], [], [], [], [], [(8 * t, [0, 1], [ql_n 0])]))
theorem fa_open_ok {l : List ga_S} {t : Nat} {S : sg_S × Nat} {RO : am_O} {T : tk_T} (h : l[t]? = some (fa_a S)) : tc_lmt (tg_of l) RO T (fa_open t) := by
  intro V A κ M sz hH hz hx
  refine ⟨V, A, fun _ _ => rfl, fun _ _ => rfl, ?_⟩
  obtain ⟨h1, h2, h3, h4, h5, h6, h7, h8⟩ := hx
  obtain ⟨g1, g2, g3⟩ := (fa_at_s h).mp (h8 _ List.mem_cons_self)
  refine ⟨fun _ q => (List.not_mem_nil q).elim, fun _ q => (List.not_mem_nil q).elim, fun _ q => (List.not_mem_nil q).elim, fun _ q => (List.not_mem_nil q).elim, fun _ q => (List.not_mem_nil q).elim, fun _ q => (List.not_mem_nil q).elim, trivial, fun p hp => ?_⟩
  rcases List.mem_cons.mp hp with rfl | hp
  · exact (fa_at_s h).mpr ⟨g1, g2, fun c hc _ => g3 c hc (by simp [tl_v, tl_s])⟩
  · cases hp
/-- a byte of what is out: names 0 what is out, 1 where, 2 what; row 2 is written, of the kind of row 0 -/
def fa_p1 (t : Nat) : tc_Lm := ((3, 2), ([([(1, 1), (0, -2500)], 0), ([(0, 2500), (1, -1)], 2499), ql_n 0], [], [], [], [], [], [(8 * t, [0, 1], [ql_n 0])]), (3, 2), ([], [], [], [], [], [], [(8 * t + 1, [0, 0, 1], [ql_n 1, ql_n 2, ql_n 0])]))
theorem fa_p1_ok {l : List ga_S} {t : Nat} {S : sg_S × Nat} {RO : am_O} {T : tk_T} (h : l[t]? = some (fa_a S)) (hS : S.1.1 ≠ S.2) : tc_lmt (tg_of l) RO T (fa_p1 t) := by
  intro V A κ M sz hH hz hx
  refine ⟨V, A, fun _ _ => rfl, fun _ _ => rfl, ?_⟩
  obtain ⟨h1, h2, h3, h4, h5, h6, h7, h8⟩ := hx
  obtain ⟨g1, g2, g3⟩ := (fa_at_s h).mp (h8 _ List.mem_cons_self)
  have f0 := h1 _ List.mem_cons_self
  have f1 := h1 _ (List.mem_cons_of_mem _ List.mem_cons_self)
  have f2 := h1 _ (List.mem_cons_of_mem _ (List.mem_cons_of_mem _ List.mem_cons_self))
  rw [ql_n_s] at f2 g3
  simp only [tl_v, tl_s] at f0 f1
  refine ⟨fun _ q => (List.not_mem_nil q).elim, fun _ q => (List.not_mem_nil q).elim, fun _ q => (List.not_mem_nil q).elim, fun _ q => (List.not_mem_nil q).elim, fun _ q => (List.not_mem_nil q).elim, fun _ q => (List.not_mem_nil q).elim, trivial, fun p hp' => ?_⟩
  rcases List.mem_cons.mp hp' with rfl | hp'
  · unfold tc_xq tg_q
    have e : (8 * t + 1) % 8 = 1 := by omega
    have e2 : (8 * t + 1) / 8 = t := by omega
    dsimp only
    rw [e, e2]
    simp only [List.map_cons, List.map_nil]
    intro ty n f x hM hv
    rw [tg_of_s h]
    unfold fa_a fa_p
    dsimp only
    rw [ql_n_s, ql_n_s]
    refine ⟨g1, g2, fun c hc hx h8' => ?_⟩
    have hab : A 1 ≠ A 0 := fun q => by
      rw [q, g1] at g2
      exact hS (Option.some.inj g2)
    rw [ql_el_s hM (Or.inl hab)] at h8' ⊢
    obtain ⟨w1, m, w2⟩ := g3 c hc hx h8'
    refine ⟨w1, m, sg_ch_c (S := S.1) (S' := S.1) rfl (d := 0) (Nat.le_refl _) (fun j j1 j2 => ?_) w2⟩
    rw [Nat.add_zero]
    have j2 : j < 2500 * c + (ql_el RO M (A 1) c).toNat := j2
    exact ql_el_s hM (Or.inr (by omega))
  · cases hp'
/-- how long what is out is: names 0 what is out, 1 what -/
def fa_p2 (t : Nat) : tc_Lm := ((2, 2), ([ql_n 0], [], [], [], [], [], [(8 * t, [0, 1], [ql_n 0])]), (2, 2), ([], [], [], [], [], [], [(8 * t + 1, [1, 0, 1], [ql_n 0, ql_n 1, ql_n 0])]))
theorem fa_p2_ok {l : List ga_S} {t : Nat} {S : sg_S × Nat} {RO : am_O} {T : tk_T} (h : l[t]? = some (fa_a S)) (hS : S.1.1 ≠ S.2) : tc_lmt (tg_of l) RO T (fa_p2 t) := by
  intro V A κ M sz hH hz hx
  refine ⟨V, A, fun _ _ => rfl, fun _ _ => rfl, ?_⟩
  obtain ⟨h1, h2, h3, h4, h5, h6, h7, h8⟩ := hx
  obtain ⟨g1, g2, g3⟩ := (fa_at_s h).mp (h8 _ List.mem_cons_self)
  have f0 := h1 _ List.mem_cons_self
  rw [ql_n_s] at f0 g3
  refine ⟨fun _ q => (List.not_mem_nil q).elim, fun _ q => (List.not_mem_nil q).elim, fun _ q => (List.not_mem_nil q).elim, fun _ q => (List.not_mem_nil q).elim, fun _ q => (List.not_mem_nil q).elim, fun _ q => (List.not_mem_nil q).elim, trivial, fun p hp' => ?_⟩
  rcases List.mem_cons.mp hp' with rfl | hp'
  · unfold tc_xq tg_q
    have e : (8 * t + 1) % 8 = 1 := by omega
    have e2 : (8 * t + 1) / 8 = t := by omega
    dsimp only
    rw [e, e2]
    simp only [List.map_cons, List.map_nil]
    intro ty n f x hM hv
    rw [tg_of_s h]
    unfold fa_a fa_p
    dsimp only
    rw [ql_n_s]
    refine ⟨g1, g2, fun c hc hx h8' => ?_⟩
    have hab : A 0 ≠ A 1 := fun q => by
      rw [q, g2] at g1
      exact hS (Option.some.inj g1).symm
    rw [ql_el_s hM (Or.inr (by omega))] at h8' ⊢
    obtain ⟨w1, m, w2⟩ := g3 c hc hx h8'
    refine ⟨w1, m, sg_ch_c (S := S.1) (S' := S.1) rfl (d := 0) (Nat.le_refl _) (fun j j1 j2 => ?_) w2⟩
    rw [Nat.add_zero]
    exact ql_el_s hM (Or.inl hab)
  · cases hp'
/-- put back: names 0 what is out, 1 how long -/
def fa_shut (t ts : Nat) (w : Bool) : tc_Lm := ((2, 2), ([([(1, -1)], 2500), if w then ([], 0) else ([(1, -1)], 8)], [], [], [], [(1, ql_n 0, ql_n 1)], [], (8 * t, [0, 1], [ql_n 0]) :: (if w then [(8 * ts, [0], [([(0, 2500)], 8), ([(0, 2500), (1, 1)], 0), ([], 0)])] else [])), (2, 2), ([], [], [], [], [], [], [(8 * t, [0, 1], [([], -1)])]))
theorem fa_shut_ok {l : List ga_S} {t ts : Nat} {w : Bool} {S : sg_S × Nat} {RO : am_O} {T : tk_T} (h : l[t]? = some (fa_a S)) (hs : l[ts]? = some (sg_a S.1)) : tc_lmt (tg_of l) RO T (fa_shut t ts w) := by
  intro V A κ M sz hH hz hx
  refine ⟨V, A, fun _ _ => rfl, fun _ _ => rfl, ?_⟩
  obtain ⟨h1, h2, h3, h4, h5, h6, h7, h8⟩ := hx
  obtain ⟨g1, g2, g3⟩ := (fa_at_s h).mp (h8 _ List.mem_cons_self)
  have f0 := h1 _ List.mem_cons_self
  have f1 := h1 _ (List.mem_cons_of_mem _ List.mem_cons_self)
  rw [ql_n_s] at g3
  simp only [tl_v, tl_s] at f0
  obtain ⟨j, j1, j2⟩ := ql_xe (h5 _ List.mem_cons_self)
  dsimp only at j1 j2
  rw [ql_n_s] at j1 j2
  refine ⟨fun _ q => (List.not_mem_nil q).elim, fun _ q => (List.not_mem_nil q).elim, fun _ q => (List.not_mem_nil q).elim, fun _ q => (List.not_mem_nil q).elim, fun _ q => (List.not_mem_nil q).elim, fun _ q => (List.not_mem_nil q).elim, trivial, fun p hp => ?_⟩
  rcases List.mem_cons.mp hp with rfl | hp
  · refine (fa_at_s h).mpr ⟨g1, g2, fun c hc hx h8' => ?_⟩
    by_cases e : (c : Int) = V 0
    · have ec : c = j := by omega
      subst ec
      rw [j2] at h8' ⊢
      refine ⟨by omega, ?_⟩
      cases w
      · simp [tl_v, tl_s] at f1
        omega
      · have q := h8 _ (List.mem_cons_of_mem _ List.mem_cons_self)
        obtain ⟨q1, q2, q3, n, q4, q5⟩ := (sg_at_s hs).mp q
        refine ⟨n, ?_⟩
        have e1 : tl_v V ([(0, 2500)], 8) = 2500 * V 0 + 8 := by simp [tl_v, tl_s]
        have e2 : tl_v V ([(0, 2500), (1, 1)], 0) = 2500 * V 0 + V 1 := by simp [tl_v, tl_s]
        rw [e1, e2, show (2500 * V 0 + 8).toNat = 2500 * c + 8 by omega, show (2500 * V 0 + V 1).toNat = 2500 * c + (V 1).toNat by omega] at q4
        exact q4
    · exact g3 c hc e h8'
  · cases hp
