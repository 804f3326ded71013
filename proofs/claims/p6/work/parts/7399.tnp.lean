/-! TC: numbers that are good anywhere in a kind's rows; rows of addresses by threes; room by lengths -/
theorem kn_ex_es : ∀ {ds : List Int} {k : Nat}, ql_es k ds = kn_ex k ds.length
  | [], _ => rfl
  | _ :: ds, k => congrArg (ql_n k :: ·) (kn_ex_es (ds := ds) (k := k + 1))
theorem kn_ts3 {RO : am_O} {κ : Nat → Option Nat} {M : am_H} {vs : List Value} : ∀ {l : List kn_T} {xs : List Int}, kn_ts RO κ M vs l xs → xs.length = l.length
  | [], [], _ => rfl
  | [], _ :: _, g => by cases g
  | _ :: _, [], g => by cases g
  | _ :: _, _ :: _, g => congrArg (· + 1) (kn_ts3 g.2)
/-- an int that is good is stored: names 0 where, 1 what, then what is given; c: nothing is out; 1 the row -/
def kn_wg (t : Nat) (S1 : ql_S) (cc : Int) (c : Bool) : tc_Lm := ((2 + S1.2.1.length, 2), ([((1, cc) :: ql_ef 2 S1.2.1, S1.2.2)], [], [], [], [], [], [(8 * t, if c then [] else [0], kn_ex 2 S1.2.1.length)]), (2 + S1.2.1.length, 2), ([], [], [], [], [], [], [(8 * t + 1, 1 :: (if c then [] else [0]), ql_n 0 :: ql_n 1 :: kn_ex 2 S1.2.1.length)]))
theorem kn_wg_ok {l : List ga_S} {t : Nat} {S : kn_S} {S1 : ql_S} {k α β : Nat} {cc : Int} {c : Bool} {RO : am_O} {T : tk_T} (h : l[t]? = some (kn_a S (ql_a S1))) (h1 : S1.1 = [(k, α, β, cc)]) (h3 : S.2.2.length = 3) : tc_lmt (tg_of l) RO T (kn_wg t S1 cc c) := by
  intro V A κ M sz hH hsz hx
  refine ⟨V, A, fun _ _ => rfl, fun _ _ => rfl, ?_⟩
  obtain ⟨x1, x2, x3, x4, x5, x6, x7, x8⟩ := hx
  have g8 := (kn_at_s h).mp (x8 _ List.mem_cons_self)
  have f0 := x1 _ List.mem_cons_self
  have f0 : 0 ≤ (cc * V 1 + tl_s V (ql_ef 2 S1.2.1)) + S1.2.2 := f0
  rw [ql_ef_s, kn_ex_es] at f0
  refine ⟨fun _ q => (List.not_mem_nil q).elim, fun _ q => (List.not_mem_nil q).elim, fun _ q => (List.not_mem_nil q).elim, fun _ q => (List.not_mem_nil q).elim, fun _ q => (List.not_mem_nil q).elim, fun _ q => (List.not_mem_nil q).elim, trivial, fun p hp => ?_⟩
  rcases List.mem_cons.mp hp with rfl | hp
  · unfold tc_xq tg_q
    have e : (8 * t + 1) % 8 = 1 := by omega
    have e2 : (8 * t + 1) / 8 = t := by omega
    dsimp only
    rw [e, e2]
    simp only [List.map_cons, List.map_nil]
    intro ty n f x hM hxv
    rw [ql_n_s] at hxv
    rw [tg_of_s h]
    intro o ho hna
    have hne : ∀ ci vs, M o = some (.inr (ci, vs)) → o ≠ A 1 := by
      intro ci vs e q
      subst q
      rw [hM] at e
      cases e
    obtain ⟨ci, vs, bs, xs, e1, e3, e4, e5⟩ := g8 o ho hna
    refine ⟨ci, vs, bs, xs, (am_ne (hne _ _ e1)).trans e1, e3, kn_ts_k (fun _ _ q => q) (fun b m _ hl => tk_len_arr (x' := (n, .inl (upd f (tl_v V (ql_n 0)).toNat x))) hM rfl b m hl) (fun _ _ _ => rfl) e4, ?_⟩
    have hl := kn_ts3 e4
    rw [h3] at hl
    match xs, hl with
    | [L, H, X], _ =>
      have e5 : ql_p S1 RO κ M bs (L :: H :: X :: (kn_ex 2 S1.2.1.length).map (tl_v V)) := e5
      show ql_p S1 RO κ _ bs (L :: H :: X :: (kn_ex 2 S1.2.1.length).map (tl_v V))
      unfold ql_p at e5 ⊢
      dsimp only at e5 ⊢
      obtain ⟨g1, g2⟩ := e5
      refine ⟨g1, fun s q1 q2 q3 => ?_⟩
      have g3 := g2 s q1 q2 q3
      rw [h1] at g1 g3 ⊢
      match bs, g1, g3 with
      | [b], g1, g3 =>
        unfold ql_sum at g3 ⊢
        by_cases q : b = A 1 ∧ α * s + β = (tl_v V (ql_n 0)).toNat
        · rw [q.1, q.2, ql_el_t, hxv]
          simp only [ql_sum]
          omega
        · rw [ql_el_s hM (by
            by_cases q1 : b = A 1
            · exact Or.inr (fun q2 => q ⟨q1, q2⟩)
            · exact Or.inl q1)]
          simp only [ql_sum] at g3 ⊢
          exact g3
  · cases hp
/-- what is given may be better: names 0 before, 1 now -/
def kn_mono (t : Nat) (d : Int) (c : Bool) : tc_Lm := ((2, 1), ([([(1, d), (0, -d)], 0)], [], [], [], [], [], [(8 * t, if c then [] else [0], [ql_n 0])]), (2, 1), ([], [], [], [], [], [], [(8 * t, if c then [] else [0], [ql_n 1])]))
theorem kn_mono_ok {l : List ga_S} {t : Nat} {S : kn_S} {S1 : ql_S} {d : Int} {c : Bool} {RO : am_O} {T : tk_T} (h : l[t]? = some (kn_a S (ql_a S1))) (h1 : S1.2.1 = [d]) (h3 : S.2.2.length = 3) : tc_lmt (tg_of l) RO T (kn_mono t d c) := by
  intro V A κ M sz hH hsz hx
  refine ⟨V, A, fun _ _ => rfl, fun _ _ => rfl, ?_⟩
  obtain ⟨x1, x2, x3, x4, x5, x6, x7, x8⟩ := hx
  have g8 := (kn_at_s h).mp (x8 _ List.mem_cons_self)
  have f0 := x1 _ List.mem_cons_self
  rw [sg_e2] at f0
  refine ⟨fun _ q => (List.not_mem_nil q).elim, fun _ q => (List.not_mem_nil q).elim, fun _ q => (List.not_mem_nil q).elim, fun _ q => (List.not_mem_nil q).elim, fun _ q => (List.not_mem_nil q).elim, fun _ q => (List.not_mem_nil q).elim, trivial, fun p hp => ?_⟩
  rcases List.mem_cons.mp hp with rfl | hp
  · refine (kn_at_s h).mpr (fun o ho hna => ?_)
    obtain ⟨ci, vs, bs, xs, e1, e3, e4, e5⟩ := g8 o ho hna
    refine ⟨ci, vs, bs, xs, e1, e3, e4, ?_⟩
    have hl := kn_ts3 e4
    rw [h3] at hl
    match xs, hl with
    | [L, H, X], _ =>
      have e5 : ql_p S1 RO κ M bs [L, H, X, tl_v V (ql_n 0)] := e5
      show ql_p S1 RO κ M bs [L, H, X, tl_v V (ql_n 1)]
      unfold ql_p at e5 ⊢
      dsimp only at e5 ⊢
      refine ⟨e5.1, fun s q1 q2 q3 => ?_⟩
      have g3 := e5.2 s q1 q2 q3
      rw [h1, ql_n_s] at g3 ⊢
      simp only [ql_dot] at g3 ⊢
      rw [Int.neg_mul] at f0
      omega
  · cases hp
/-- by threes: names the row of addresses, how many of each three; how many threes -/
def np_p (kp kc : Nat) (RO : am_O) (κ : Nat → Option Nat) (M : am_H) (as : List Nat) (is : List Int) : Prop := match as, is with
  | [p, c], [H] => (κ p = some kp ∧ κ c = some kc) ∧ ∃ (ty n : Nat) (f : Nat → Option Nat), M p = some (am_qa ty n f) ∧ ∀ i : Nat, (i : Int) < H → 1 ≤ ql_el RO M c i ∧ ∀ j : Nat, (j : Int) < ql_el RO M c i → 3 * i + j < n → ∃ a, f (3 * i + j) = some a
  | _, _ => False
def np_a (kp kc : Nat) : ga_S := (np_p kp kc, [(kp, 0), (kc, 0)])
theorem np_a_ok (kp kc : Nat) : ga_ok (np_a kp kc) := by
  intro RO κ κ' M M' as is h1 h2 h3 h4
  unfold np_a at h3 h4 ⊢
  dsimp only at h3 h4 ⊢
  unfold np_p at h4 ⊢
  split
  · dsimp only at h4
    obtain ⟨⟨g0, g1⟩, ty, n, f, g2, g3⟩ := h4
    obtain ⟨x', e1, e2, e3⟩ := (h3 _ _ g0).2.1 ty (n, .inr (.inr (.inr (.inr f)))) g2
    refine ⟨⟨h1 _ _ g0, h1 _ _ g1⟩, ty, n, f, ?_, fun i hi => ?_⟩
    · rw [e1, e3 List.mem_cons_self]
      rfl
    · rw [ql_el_k (h3 _ _ g1) (List.mem_cons_of_mem _ List.mem_cons_self)]
      exact g3 i hi
  · rename_i hn
    split at h4
    · exact (hn _ _ _ rfl rfl).elim
    · exact h4
theorem np_lc (kp kc : Nat) : ga_lc (np_a kp kc) := by
  intro RO κ M bs is a e hb g
  unfold np_a np_p at g ⊢
  dsimp only at g ⊢
  split
  · rename_i p c H
    dsimp only at g
    obtain ⟨g0, ty, n, f, g2, g3⟩ := g
    refine ⟨g0, ty, n, f, (am_ne (hb _ List.mem_cons_self)).trans g2, fun i hi => ?_⟩
    have : ql_el RO (am_set M a e) c i = ql_el RO M c i := by
      unfold ql_el
      rw [am_ne (hb _ (List.mem_cons_of_mem _ List.mem_cons_self))]
    rw [this]
    exact g3 i hi
  · rename_i hn
    split at g
    · exact (hn _ _ _ rfl rfl).elim
    · exact g
theorem np_g4 (kp kc : Nat) : ga_g4 (np_a kp kc) := by
  intro RO κ M bs is a b I ty n f hM g
  unfold np_a np_p at g ⊢
  dsimp only at g ⊢
  split
  · rename_i p c H
    dsimp only at g
    obtain ⟨g0, ty0, n0, f0, g2, g3⟩ := g
    have hel : ∀ i, ql_el RO (am_set M a (am_qa ty n (va_up f I (some b)))) c i = ql_el RO M c i := by
      intro i
      unfold ql_el
      by_cases q : c = a
      · subst q
        rw [am_same, hM]
        rfl
      · rw [am_ne q]
    by_cases q : p = a
    · subst q
      rw [hM] at g2
      have g2 := Option.some.inj g2
      unfold am_qa at g2
      cases g2
      refine ⟨g0, _, _, _, am_same, fun i hi => ?_⟩
      rw [hel]
      refine ⟨(g3 i hi).1, fun j q1 q2 => ?_⟩
      unfold va_up
      by_cases q5 : 3 * i + j = I
      · exact ⟨b, if_pos q5⟩
      · rw [if_neg q5]
        exact (g3 i hi).2 j q1 q2
    · refine ⟨g0, ty0, n0, f0, (am_ne q).trans g2, fun i hi => ?_⟩
      rw [hel]
      exact g3 i hi
  · rename_i hn
    split at g
    · exact (hn _ _ _ rfl rfl).elim
    · exact g
theorem np_at {l : List ga_S} {t kp kc : Nat} (h : l[t]? = some (np_a kp kc)) {RO : am_O} {κ : Nat → Option Nat} {M : am_H} {V : Nat → Int} {A : Nat → Nat} {p c : Nat} {H : tl_F} : tc_xq (tg_of l) RO κ M V A (8 * t, [p, c], [H]) ↔ ((κ (A p) = some kp ∧ κ (A c) = some kc) ∧ ∃ (ty n : Nat) (f : Nat → Option Nat), M (A p) = some (am_qa ty n f) ∧ ∀ i : Nat, (i : Int) < tl_v V H → 1 ≤ ql_el RO M (A c) i ∧ ∀ j : Nat, (j : Int) < ql_el RO M (A c) i → 3 * i + j < n → ∃ a, f (3 * i + j) = some a) := by
  rw [tg_at0 h]
  exact Iff.rfl
/-- one of them gets a name: names 0 how many threes, 1 which, 2 where in it, 3 the row's length, 4 how many it has -/
def np_use (t u K : Nat) : tc_Lm := ((5, 2), ([ql_n 1, nn_d 0 1 (-1), ql_n 2, nn_d 4 2 (-1), ([(3, 1), (1, -3), (2, -1)], -1)], [], [(0, ql_n 3)], [], [(1, ql_n 1, ql_n 4)], [], [(8 * t, [0, 1], [ql_n 0])]), (5, 3), ([], [(2, K)], [], [], [], [], [(8 * u, [0, 2], [([(1, 3), (2, 1)], 0)])]))
theorem np_use_ok {l : List ga_S} {t u k kc K : Nat} {RO : am_O} {T : tk_T} (h : l[t]? = some (np_a k kc)) (hu : l[u]? = some (re_a k)) {ty : Nat} {τ : tk_F} {fs : List tk_F} {R : List tk_E × Int × Int × List tl_F} (hT : T[k]? = some (3, ty, τ :: fs, R)) (hτ : τ.2.2.2 = [K]) : tc_lmt (tg_of l) RO T (np_use t u K) := by
  intro V A κ M sz hH hsz hx
  obtain ⟨h1, h2, h3, h4, h5, h6, h7, h8⟩ := hx
  obtain ⟨⟨g0, g00⟩, t1, n, f, g1, g2⟩ := (np_at h).mp (h8 _ List.mem_cons_self)
  have f0 := h1 _ List.mem_cons_self
  have f1 := h1 _ (List.mem_cons_of_mem _ List.mem_cons_self)
  have f2 := h1 _ (List.mem_cons_of_mem _ (List.mem_cons_of_mem _ List.mem_cons_self))
  have f3 := h1 _ (List.mem_cons_of_mem _ (List.mem_cons_of_mem _ (List.mem_cons_of_mem _ List.mem_cons_self)))
  have f4 := h1 _ (List.mem_cons_of_mem _ (List.mem_cons_of_mem _ (List.mem_cons_of_mem _ (List.mem_cons_of_mem _ List.mem_cons_self))))
  rw [ql_n_s] at f0 f2 g2
  rw [nn_d_s] at f1 f3
  simp only [tl_v, tl_s] at f4
  obtain ⟨n', l1, l2⟩ := h3 _ List.mem_cons_self
  dsimp only at l1 l2
  rw [ql_n_s] at l2
  have hn : n' = n := tk_len_1 l1 (Or.inl ⟨t1, _, g1, rfl⟩)
  subst hn
  obtain ⟨j0, j1, j2⟩ := ql_xe (h5 _ List.mem_cons_self)
  dsimp only at j1 j2
  rw [ql_n_s] at j1 j2
  have hi : V 1 = ((V 1).toNat : Int) := by omega
  have hj : V 2 = ((V 2).toNat : Int) := by omega
  have hij : j0 = (V 1).toNat := by omega
  subst hij
  obtain ⟨a, ha⟩ := (g2 (V 1).toNat (by omega)).2 (V 2).toNat (by rw [j2]; omega) (by omega)
  obtain ⟨-, K', k1, k2⟩ := hH _ _ g0
  rw [hT] at k1
  cases k1
  obtain ⟨E, lo, hi2, O⟩ := R
  obtain ⟨n2, f', c1, c2, c3⟩ := k2
  have c1 : am_qa ty n2 f' = am_qa t1 n' f := by
    rw [g1] at c1
    exact (Option.some.inj c1).symm
  unfold am_qa at c1
  cases c1
  have c4 := c3 τ rfl (3 * (V 1).toNat + (V 2).toNat) (by omega)
  rw [ha] at c4
  obtain ⟨-, k, c5, c6⟩ := c4
  rw [hτ] at c6
  have e0 : ta_up A 2 a 0 = A 0 := (ta_up_lt 0 (by omega)).symm
  have e1 : ta_up A 2 a 2 = a := ta_up_at
  refine ⟨V, ta_up A 2 a, fun _ _ => rfl, fun q hq => ta_up_lt q hq, fun _ q => (List.not_mem_nil q).elim, fun p hp => ?_, fun _ q => (List.not_mem_nil q).elim, fun _ q => (List.not_mem_nil q).elim, fun _ q => (List.not_mem_nil q).elim, fun _ q => (List.not_mem_nil q).elim, trivial, fun p hp => ?_⟩
  · rcases List.mem_cons.mp hp with rfl | hp
    · show κ (ta_up A 2 a 2) = some K
      rw [e1, c5, List.mem_singleton.mp c6]
    · cases hp
  · rcases List.mem_cons.mp hp with rfl | hp
    · refine (re_at_s hu).mpr ?_
      rw [e0, e1]
      refine ⟨g0, _, _, _, _, g1, ?_, by omega, ha⟩
      simp only [tl_v, tl_s]
      omega
    · cases hp
/-- there is one at least: names 0 how many threes, 1 which, 2 how many it has -/
def np_pos (t : Nat) : tc_Lm := ((3, 2), ([ql_n 1, nn_d 0 1 (-1)], [], [], [], [(1, ql_n 1, ql_n 2)], [], [(8 * t, [0, 1], [ql_n 0])]), (3, 2), ([([(2, 1)], -1)], [], [], [], [], [], []))
theorem np_pos_ok {l : List ga_S} {t k kc : Nat} {RO : am_O} {T : tk_T} (h : l[t]? = some (np_a k kc)) : tc_lmt (tg_of l) RO T (np_pos t) := by
  intro V A κ M sz hH hsz hx
  obtain ⟨h1, h2, h3, h4, h5, h6, h7, h8⟩ := hx
  obtain ⟨⟨g0, g00⟩, t1, n, f, g1, g2⟩ := (np_at h).mp (h8 _ List.mem_cons_self)
  have f0 := h1 _ List.mem_cons_self
  have f1 := h1 _ (List.mem_cons_of_mem _ List.mem_cons_self)
  rw [ql_n_s] at f0 g2
  rw [nn_d_s] at f1
  obtain ⟨j0, j1, j2⟩ := ql_xe (h5 _ List.mem_cons_self)
  dsimp only at j1 j2
  rw [ql_n_s] at j1 j2
  refine ⟨V, A, fun _ _ => rfl, fun _ _ => rfl, fun p hp => ?_, fun _ q => (List.not_mem_nil q).elim, fun _ q => (List.not_mem_nil q).elim, fun _ q => (List.not_mem_nil q).elim, fun _ q => (List.not_mem_nil q).elim, fun _ q => (List.not_mem_nil q).elim, trivial, fun _ q => (List.not_mem_nil q).elim⟩
  rcases List.mem_cons.mp hp with rfl | hp
  · have g3 := (g2 j0 (by omega)).1
    rw [j2] at g3
    rw [sg_e0]
    omega
  · cases hp
/-- none yet: name 0 how many threes -/
def np_nil (t kp kc : Nat) : tc_Lm := ((1, 2), ([([(0, -1)], 0)], [(0, kp), (1, kc)], [], [], [], [], []), (1, 2), ([], [], [], [], [], [], [(8 * t, [0, 1], [ql_n 0])]))
theorem np_nil_ok {l : List ga_S} {t k kc : Nat} {RO : am_O} {T : tk_T} (h : l[t]? = some (np_a k kc)) {ty : Nat} {fs : List tk_F} {R : List tk_E × Int × Int × List tl_F} (hT : T[k]? = some (3, ty, fs, R)) : tc_lmt (tg_of l) RO T (np_nil t k kc) := by
  intro V A κ M sz hH hsz hx
  refine ⟨V, A, fun _ _ => rfl, fun _ _ => rfl, ?_⟩
  obtain ⟨h1, h2, h3, h4, h5, h6, h7, h8⟩ := hx
  have f0 := h1 _ List.mem_cons_self
  simp only [tl_v, tl_s] at f0
  have g0 : κ (A 0) = some k := h2 _ List.mem_cons_self
  have g1 : κ (A 1) = some kc := h2 _ (List.mem_cons_of_mem _ List.mem_cons_self)
  obtain ⟨-, K', k1, k2⟩ := hH _ _ g0
  rw [hT] at k1
  cases k1
  obtain ⟨E, lo, hi, O⟩ := R
  obtain ⟨n, f, c1, c2, c3⟩ := k2
  refine ⟨fun _ q => (List.not_mem_nil q).elim, fun _ q => (List.not_mem_nil q).elim, fun _ q => (List.not_mem_nil q).elim, fun _ q => (List.not_mem_nil q).elim, fun _ q => (List.not_mem_nil q).elim, fun _ q => (List.not_mem_nil q).elim, trivial, fun p hp => ?_⟩
  rcases List.mem_cons.mp hp with rfl | hp
  · refine (np_at h).mpr ⟨⟨g0, g1⟩, _, _, _, c1, fun i hi => ?_⟩
    rw [ql_n_s] at hi
    omega
  · cases hp
/-- one three more: names 0 how many threes, 1 and 2 a stretch, 3 how many it has -/
def np_grow (t u : Nat) : tc_Lm := ((4, 2), ([([(0, 3), (1, -1)], 0), ([(2, 1), (0, -3), (3, -1)], 0), ([(3, 1)], -1)], [], [], [], [(1, ql_n 0, ql_n 3)], [], [(8 * t, [0, 1], [ql_n 0]), (8 * u, [0], [ql_n 1, ql_n 2, nn_m])]), (4, 2), ([], [], [], [], [], [], [(8 * t, [0, 1], [([(0, 1)], 1)])]))
theorem np_grow_ok {l : List ga_S} {t u k kc : Nat} {RO : am_O} {T : tk_T} (h : l[t]? = some (np_a k kc)) (hu : l[u]? = some (nn_a k)) : tc_lmt (tg_of l) RO T (np_grow t u) := by
  intro V A κ M sz hH hsz hx
  refine ⟨V, A, fun _ _ => rfl, fun _ _ => rfl, ?_⟩
  obtain ⟨h1, h2, h3, h4, h5, h6, h7, h8⟩ := hx
  obtain ⟨g0, t1, n, f, g1, g2⟩ := (np_at h).mp (h8 _ List.mem_cons_self)
  obtain ⟨-, t2, n2, f2, g3, g4⟩ := (nn_at_s hu).mp (h8 _ (List.mem_cons_of_mem _ List.mem_cons_self))
  have f0 := h1 _ List.mem_cons_self
  have f1 := h1 _ (List.mem_cons_of_mem _ List.mem_cons_self)
  have f3 := h1 _ (List.mem_cons_of_mem _ (List.mem_cons_of_mem _ List.mem_cons_self))
  simp only [tl_v, tl_s] at f0 f1 f3
  rw [ql_n_s] at g2
  rw [ql_n_s, ql_n_s, nn_m_s] at g4
  rw [g1] at g3
  have g3 := Option.some.inj g3
  unfold am_qa at g3
  cases g3
  obtain ⟨j0, j1, j2⟩ := ql_xe (h5 _ List.mem_cons_self)
  dsimp only at j1 j2
  rw [ql_n_s] at j1 j2
  refine ⟨fun _ q => (List.not_mem_nil q).elim, fun _ q => (List.not_mem_nil q).elim, fun _ q => (List.not_mem_nil q).elim, fun _ q => (List.not_mem_nil q).elim, fun _ q => (List.not_mem_nil q).elim, fun _ q => (List.not_mem_nil q).elim, trivial, fun p hp => ?_⟩
  rcases List.mem_cons.mp hp with rfl | hp
  · refine (np_at h).mpr ⟨g0, _, _, _, g1, fun i hi => ?_⟩
    rw [sg_e0] at hi
    by_cases q : (i : Int) < V 0
    · exact g2 i q
    · have hij : i = j0 := by omega
      subst hij
      rw [j2]
      refine ⟨by omega, fun j q1 q2 => g4 (3 * i + j) q2 ?_ ?_ ?_⟩
      · omega
      · omega
      · omega
  · cases hp
/-- an int is stored behind: names 0 how many threes, 1 where, 2 what; 2 the row -/
def np_w1 (t : Nat) : tc_Lm := ((3, 3), ([ql_n 1, nn_d 1 0 0], [], [], [], [], [], [(8 * t, [0, 1], [ql_n 0])]), (3, 3), ([], [], [], [], [], [], [(8 * t + 1, [2, 0, 1], [ql_n 1, ql_n 2, ql_n 0])]))
theorem np_w1_ok {l : List ga_S} {t k kc : Nat} {RO : am_O} {T : tk_T} (h : l[t]? = some (np_a k kc)) : tc_lmt (tg_of l) RO T (np_w1 t) := by
  intro V A κ M sz hH hsz hx
  refine ⟨V, A, fun _ _ => rfl, fun _ _ => rfl, ?_⟩
  obtain ⟨h1, h2, h3, h4, h5, h6, h7, h8⟩ := hx
  obtain ⟨g0, t1, n, f, g1, g2⟩ := (np_at h).mp (h8 _ List.mem_cons_self)
  have f0 := h1 _ List.mem_cons_self
  have f1 := h1 _ (List.mem_cons_of_mem _ List.mem_cons_self)
  rw [ql_n_s] at f0 g2
  rw [nn_d_s] at f1
  refine ⟨fun _ q => (List.not_mem_nil q).elim, fun _ q => (List.not_mem_nil q).elim, fun _ q => (List.not_mem_nil q).elim, fun _ q => (List.not_mem_nil q).elim, fun _ q => (List.not_mem_nil q).elim, fun _ q => (List.not_mem_nil q).elim, trivial, fun p hp => ?_⟩
  rcases List.mem_cons.mp hp with rfl | hp
  · unfold tc_xq tg_q
    have e : (8 * t + 1) % 8 = 1 := by omega
    have e2 : (8 * t + 1) / 8 = t := by omega
    dsimp only
    rw [e, e2]
    simp only [List.map_cons, List.map_nil]
    intro ty n' f' x hM hxv
    rw [tg_of_s h]
    unfold np_a np_p
    dsimp only
    have hne : A 0 ≠ A 2 := by
      intro q
      rw [← q, g1] at hM
      have hM := Option.some.inj hM
      unfold am_qa at hM
      cases hM
    refine ⟨g0, t1, n, f, (am_ne hne).trans g1, fun i hi => ?_⟩
    rw [ql_n_s] at hi
    rw [ql_el_s hM (by
      right
      rw [ql_n_s]
      omega)]
    exact g2 i hi
  · cases hp
