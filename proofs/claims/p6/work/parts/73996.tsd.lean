/-! TC: a kind with one thing; an element that is there; sides: what is pending and the record under way, unless it is over -/
def no_p (K : Nat) (RO : am_O) (κ : Nat → Option Nat) (M : am_H) (as : List Nat) (is : List Int) : Prop := ∀ a, κ a ≠ some K
def no_a (K : Nat) : ga_S := (no_p K, [(K, 1000)])
theorem no_a_ok (K : Nat) : ga_ok (no_a K) := by
  intro RO κ κ' M M' as is h1 h2 h3 h4 a ha
  cases e : κ a with
  | none => exact h2 a K ha e List.mem_cons_self
  | some k =>
    have := h1 a k e
    rw [ha] at this
    cases this
    exact h4 a e
def one_p (K : Nat) (RO : am_O) (κ : Nat → Option Nat) (M : am_H) (as : List Nat) (is : List Int) : Prop := match as with
  | [h] => ∀ a, κ a = some K → a = h
  | _ => False
def one_a (K : Nat) : ga_S := (one_p K, [(K, 1000)])
theorem one_a_ok (K : Nat) : ga_ok (one_a K) := by
  intro RO κ κ' M M' as is h1 h2 h3 h4
  unfold one_a at h2 h4 ⊢
  dsimp only at h2 h4 ⊢
  unfold one_p at h4 ⊢
  split
  · dsimp only at h4
    intro a ha
    cases e : κ a with
    | none => exact absurd List.mem_cons_self (h2 a K ha e)
    | some k =>
      have := h1 a k e
      rw [ha] at this
      cases this
      exact h4 a e
  · rename_i hn
    split at h4
    · exact (hn _ rfl).elim
    · exact h4
/-- the first of a kind is the one -/
def one_new (t u K : Nat) : tc_Lm := ((0, 0), ([], [], [], [], [], [], [(8 * t, [], [])]), (0, 0), ([], [], [], [], [], [], [(8 * u + 7, [], [tl_c (K : Int)])]))
theorem one_new_ok {l : List ga_S} {t u K : Nat} {RO : am_O} {T : tk_T} (h : l[t]? = some (no_a K)) (hu : l[u]? = some (one_a K)) : tc_lmt (tg_of l) RO T (one_new t u K) := by
  intro V A κ M sz hH hsz hx
  refine ⟨V, A, fun _ _ => rfl, fun _ _ => rfl, ?_⟩
  have g8 := (tg_at0 h).mp (hx.2.2.2.2.2.2.2 _ List.mem_cons_self)
  refine ⟨fun _ q => (List.not_mem_nil q).elim, fun _ q => (List.not_mem_nil q).elim, fun _ q => (List.not_mem_nil q).elim, fun _ q => (List.not_mem_nil q).elim, fun _ q => (List.not_mem_nil q).elim, fun _ q => (List.not_mem_nil q).elim, trivial, fun p hp => ?_⟩
  rcases List.mem_cons.mp hp with rfl | hp
  · unfold tc_xq tg_q
    have e : (8 * u + 7) % 8 = 7 := by omega
    have e2 : (8 * u + 7) / 8 = u := by omega
    dsimp only
    rw [e, e2]
    simp only [List.map_cons, List.map_nil]
    rw [tl_c_s, Int.toNat_natCast]
    intro a κ' M' q0 q1 qz q2 q3
    rw [tg_of_s hu]
    show ∀ b, κ' b = some K → b = a
    intro b hb
    cases e : κ b with
    | none => exact q3 b K hb e
    | some k =>
      have := (q2 b k e).1
      rw [hb] at this
      cases this
      exact absurd e (g8 b)
  · cases hp
/-- a field that holds one of the kind holds the one: 0 the one, 1 what is there, 2 the thing -/
def one_fd (t K j : Nat) : tc_Lm := ((0, 3), ([], [(1, K)], [], [(2, j, tv_a 1)], [], [], [(8 * t, [0], [])]), (0, 3), ([], [], [], [(2, j, tv_a 0)], [], [], []))
theorem one_fd_ok {l : List ga_S} {t K j : Nat} {RO : am_O} {T : tk_T} (h : l[t]? = some (one_a K)) : tc_lmt (tg_of l) RO T (one_fd t K j) := by
  intro V A κ M sz hH hsz hx
  refine ⟨V, A, fun _ _ => rfl, fun _ _ => rfl, ?_⟩
  obtain ⟨h1, h2, h3, h4, h5, h6, h7, h8⟩ := hx
  have g8 := (tg_at0 h).mp (h8 _ List.mem_cons_self)
  have g8 : ∀ a, κ a = some K → a = A 0 := g8
  have e := g8 (A 1) (h2 _ List.mem_cons_self)
  obtain ⟨ci, vs, v, m1, m2, m3⟩ := h4 _ List.mem_cons_self
  refine ⟨fun _ q => (List.not_mem_nil q).elim, fun _ q => (List.not_mem_nil q).elim, fun _ q => (List.not_mem_nil q).elim, fun p hp => ?_, fun _ q => (List.not_mem_nil q).elim, fun _ q => (List.not_mem_nil q).elim, trivial, fun _ q => (List.not_mem_nil q).elim⟩
  rcases List.mem_cons.mp hp with rfl | hp
  · refine ⟨ci, vs, v, m1, m2, ?_⟩
    have m3 : v = .ref (A 1) := m3
    show v = .ref (A 0)
    rw [m3, e]
  · cases hp
/-- an element that is there, without its kind: names 0 L, 1 H, 2 X, 3 where, 4 how long -/
def nn_ex (t u : Nat) : tc_Lm := ((5, 1), ([ql_n 3, nn_d 3 0 0, nn_d 1 3 (-1), nn_d 3 2 (-1), nn_d 4 3 (-1)], [], [(0, ql_n 4)], [], [], [], [nn_at t 0]), (5, 2), ([], [], [], [], [], [], [(8 * u, [0, 1], [ql_n 3])]))
theorem nn_ex_ok {l : List ga_S} {t u k : Nat} {RO : am_O} {T : tk_T} (h : l[t]? = some (nn_a k)) (hu : l[u]? = some (re_a k)) : tc_lmt (tg_of l) RO T (nn_ex t u) := by
  intro V A κ M sz hH hsz hx
  obtain ⟨h1, h2, h3, h4, h5, h6, h7, h8⟩ := hx
  obtain ⟨g0, t1, n, f, g1, g2⟩ := (nn_at_s h).mp (h8 _ List.mem_cons_self)
  have f0 := h1 _ List.mem_cons_self
  have f1 := h1 _ (List.mem_cons_of_mem _ List.mem_cons_self)
  have f2 := h1 _ (List.mem_cons_of_mem _ (List.mem_cons_of_mem _ List.mem_cons_self))
  have f3 := h1 _ (List.mem_cons_of_mem _ (List.mem_cons_of_mem _ (List.mem_cons_of_mem _ List.mem_cons_self)))
  have f4 := h1 _ (List.mem_cons_of_mem _ (List.mem_cons_of_mem _ (List.mem_cons_of_mem _ (List.mem_cons_of_mem _ List.mem_cons_self))))
  rw [ql_n_s] at f0 g2
  rw [nn_d_s] at f1 f2 f3 f4
  obtain ⟨n', l1, l2⟩ := h3 _ List.mem_cons_self
  dsimp only at l1 l2
  rw [ql_n_s] at l2
  have hn : n' = n := tk_len_1 l1 (Or.inl ⟨t1, _, g1, rfl⟩)
  subst hn
  have hj : V 3 = ((V 3).toNat : Int) := by omega
  obtain ⟨a, ha⟩ := g2 (V 3).toNat (by omega) (by omega) (by rw [ql_n_s]; omega) (by rw [ql_n_s]; omega)
  have e0 : ta_up A 1 a 0 = A 0 := (ta_up_lt 0 (by omega)).symm
  have e1 : ta_up A 1 a 1 = a := ta_up_at
  refine ⟨V, ta_up A 1 a, fun _ _ => rfl, fun q hq => ta_up_lt q hq, fun _ q => (List.not_mem_nil q).elim, fun _ q => (List.not_mem_nil q).elim, fun _ q => (List.not_mem_nil q).elim, fun _ q => (List.not_mem_nil q).elim, fun _ q => (List.not_mem_nil q).elim, fun _ q => (List.not_mem_nil q).elim, trivial, fun p hp => ?_⟩
  rcases List.mem_cons.mp hp with rfl | hp
  · refine (re_at_s hu).mpr ?_
    rw [e0, e1, ql_n_s]
    exact ⟨g0, _, _, _, _, g1, hj, by omega, ha⟩
  · cases hp
/-- a side's kind; fields of what is told, the record, what is pending; kinds of these and of the record's bytes; of a row: bytes 0, size 1 -/
abbrev sd_S : Type := Nat × (Nat × Nat × Nat) × (Nat × Nat × Nat × Nat)
def sd_f (S : sd_S) (κ : Nat → Option Nat) (M : am_H) (o t r p b : Nat) (zr zp : Int) : Prop := (∃ ci vs, M o = some (.inr (ci, vs)) ∧ vs[S.2.1.1]? = some (.ref t) ∧ vs[S.2.1.2.1]? = some (.ref r) ∧ vs[S.2.1.2.2]? = some (.ref p)) ∧ (κ t = some S.2.2.1 ∧ κ r = some S.2.2.2.1 ∧ κ p = some S.2.2.2.2.1 ∧ κ b = some S.2.2.2.2.2) ∧ (∃ ci vs x, M r = some (.inr (ci, vs)) ∧ vs[0]? = some (.ref b) ∧ vs[1]? = some (.int x) ∧ x.toInt = zr) ∧ ∃ ci vs x, M p = some (.inr (ci, vs)) ∧ vs[1]? = some (.int x) ∧ x.toInt = zp
def sd_P (RO : am_O) (M : am_H) (t b : Nat) (zr zp : Int) : Prop := ql_el RO M t 0 = 2 ∨ (zp ≤ 2502 ∧ zr ≤ 303 ∧ (zr ≤ 2 ∨ 256 * ql_el RO M b 1 + ql_el RO M b 2 ≤ 300))
def sd_p (S : sd_S) (RO : am_O) (κ : Nat → Option Nat) (M : am_H) (as : List Nat) (is : List Int) : Prop := ∀ o, κ o = some S.1 → o ∉ as → ∃ t r p b zr zp, sd_f S κ M o t r p b zr zp ∧ (t ∈ as ∨ r ∈ as ∨ p ∈ as ∨ b ∈ as ∨ sd_P RO M t b zr zp)
def sd_F (S : sd_S) : List (Nat × Nat) := [(S.1, 1000), (S.1, S.2.1.1), (S.1, S.2.1.2.1), (S.1, S.2.1.2.2), (S.2.2.1, 0), (S.2.2.2.1, 0), (S.2.2.2.1, 1), (S.2.2.2.2.1, 1), (S.2.2.2.2.2, 0), (S.2.2.2.2.2, 4000)]
def sd_a (S : sd_S) : ga_S := (sd_p S, sd_F S)
theorem sd_f_k {S : sd_S} {κ κ' : Nat → Option Nat} {M M' : am_H} {o t r p b : Nat} {zr zp : Int} (h1 : ∀ a k, κ a = some k → κ' a = some k) (ho : κ o = some S.1) (h3 : ∀ a k, κ a = some k → tg_kp (sd_F S) k (M a) (M' a)) (g : sd_f S κ M o t r p b zr zp) : sd_f S κ' M' o t r p b zr zp := by
  obtain ⟨⟨ci, vs, a1, a2, a3, a4⟩, ⟨k1, k2, k3, k4⟩, ⟨ci2, vs2, x2, b1, b2, b3, b4⟩, ⟨ci3, vs3, x3, c1, c2, c3⟩⟩ := g
  obtain ⟨ws, d1, d2⟩ := (h3 o _ ho).1 ci vs a1
  obtain ⟨ws2, e1, e2⟩ := (h3 r _ k2).1 ci2 vs2 b1
  obtain ⟨ws3, f1, f2⟩ := (h3 p _ k3).1 ci3 vs3 c1
  refine ⟨⟨ci, ws, d1, ?_, ?_, ?_⟩, ⟨h1 _ _ k1, h1 _ _ k2, h1 _ _ k3, h1 _ _ k4⟩, ⟨ci2, ws2, x2, e1, ?_, ?_, b4⟩, ⟨ci3, ws3, x3, f1, ?_, c3⟩⟩
  · rw [d2 _ (by simp [sd_F])]
    exact a2
  · rw [d2 _ (by simp [sd_F])]
    exact a3
  · rw [d2 _ (by simp [sd_F])]
    exact a4
  · rw [e2 _ (by simp [sd_F])]
    exact b2
  · rw [e2 _ (by simp [sd_F])]
    exact b3
  · rw [f2 _ (by simp [sd_F])]
    exact c2
theorem sd_P_k {S : sd_S} {RO : am_O} {κ : Nat → Option Nat} {M M' : am_H} {o t r p b : Nat} {zr zp : Int} (h3 : ∀ a k, κ a = some k → tg_kp (sd_F S) k (M a) (M' a)) (g : sd_f S κ M o t r p b zr zp) (h : sd_P RO M t b zr zp) : sd_P RO M' t b zr zp := by
  obtain ⟨-, ⟨k1, k2, k3, k4⟩, -, -⟩ := g
  unfold sd_P at h ⊢
  rw [ql_el_k (h3 t _ k1) (by simp [sd_F]), ql_el_k (h3 b _ k4) (by simp [sd_F]), ql_el_k (h3 b _ k4) (by simp [sd_F])]
  exact h
theorem sd_a_ok (S : sd_S) : ga_ok (sd_a S) := by
  intro RO κ κ' M M' as is h1 h2 h3 h4
  intro o ho hn
  have hk : κ o = some S.1 := un_old (F := sd_F S) (by simp [sd_F]) h1 h2 ho
  obtain ⟨t, r, p, b, zr, zp, g1, g2⟩ := h4 o hk hn
  refine ⟨t, r, p, b, zr, zp, sd_f_k h1 hk h3 g1, ?_⟩
  rcases g2 with g2 | g2 | g2 | g2 | g2
  · exact Or.inl g2
  · exact Or.inr (Or.inl g2)
  · exact Or.inr (Or.inr (Or.inl g2))
  · exact Or.inr (Or.inr (Or.inr (Or.inl g2)))
  · exact Or.inr (Or.inr (Or.inr (Or.inr (sd_P_k h3 g1 g2))))
/-- what is known of one side: 0 it, 1 what is told, 2 the record, 3 pending, 4 the record's bytes; names 0 the record's size, 1 pending's -/
def sd_k (S : sd_S) : List (Nat × Nat) := [(0, S.1), (1, S.2.2.1), (2, S.2.2.2.1), (3, S.2.2.2.2.1), (4, S.2.2.2.2.2)]
def sd_l (S : sd_S) : List (Nat × Nat × tv_V) := [(0, S.2.1.1, tv_a 1), (0, S.2.1.2.1, tv_a 2), (0, S.2.1.2.2, tv_a 3), (2, 0, tv_a 4), (2, 1, tv_i (ql_n 0)), (3, 1, tv_i (ql_n 1))]
theorem sd_l_s {S : sd_S} {κ : Nat → Option Nat} {M : am_H} {V : Nat → Int} {A : Nat → Nat} (h1 : ∀ p ∈ sd_k S, κ (A p.1) = some p.2) (h2 : ∀ p ∈ sd_l S, tc_xf M V A p) : sd_f S κ M (A 0) (A 1) (A 2) (A 3) (A 4) (V 0) (V 1) := by
  obtain ⟨c0, v0, w0, a1, a2, a3⟩ := h2 (0, S.2.1.1, tv_a 1) (by simp [sd_l])
  obtain ⟨c1, v1, w1, b1, b2, b3⟩ := h2 (0, S.2.1.2.1, tv_a 2) (by simp [sd_l])
  obtain ⟨c2, v2, w2, d1, d2, d3⟩ := h2 (0, S.2.1.2.2, tv_a 3) (by simp [sd_l])
  obtain ⟨c3, v3, w3, e1, e2, e3⟩ := h2 (2, 0, tv_a 4) (by simp [sd_l])
  obtain ⟨c4, v4, w4, f1, f2, f3⟩ := h2 (2, 1, tv_i (ql_n 0)) (by simp [sd_l])
  obtain ⟨c5, v5, w5, g1, g2, g3⟩ := h2 (3, 1, tv_i (ql_n 1)) (by simp [sd_l])
  dsimp only at a1 a2 b1 b2 d1 d2 e1 e2 f1 f2 g1 g2
  rw [a1] at b1 d1
  cases b1
  cases d1
  rw [e1] at f1
  cases f1
  have a3 : w0 = .ref (A 1) := a3
  have b3 : w1 = .ref (A 2) := b3
  have d3 : w2 = .ref (A 3) := d3
  have e3 : w3 = .ref (A 4) := e3
  obtain ⟨x, x1, x2⟩ := f3
  obtain ⟨y, y1, y2⟩ := g3
  have x2 : x.toInt = tl_v V (ql_n 0) := x2
  have y2 : y.toInt = tl_v V (ql_n 1) := y2
  rw [ql_n_s] at x2 y2
  subst a3
  subst b3
  subst d3
  subst e3
  subst x1
  subst y1
  exact ⟨⟨_, _, a1, a2, b2, d2⟩, ⟨h1 (0 + 1, _) (by simp [sd_k]), h1 (2, _) (by simp [sd_k]), h1 (3, _) (by simp [sd_k]), h1 (4, _) (by simp [sd_k])⟩, ⟨_, _, x, e1, e2, f2, x2⟩, ⟨_, _, y, g1, g2, y2⟩⟩
theorem sd_det {S : sd_S} {κ : Nat → Option Nat} {M : am_H} {o t r p b t' r' p' b' : Nat} {zr zp zr' zp' : Int} (g : sd_f S κ M o t r p b zr zp) (g' : sd_f S κ M o t' r' p' b' zr' zp') : ((t' = t ∧ r' = r) ∧ (p' = p ∧ b' = b)) ∧ (zr' = zr ∧ zp' = zp) := by
  obtain ⟨⟨ci, vs, a1, a2, a3, a4⟩, -, ⟨ci2, vs2, x2, b1, b2, b3, b4⟩, ⟨ci3, vs3, x3, c1, c2, c3⟩⟩ := g
  obtain ⟨⟨cj, ws, d1, d2, d3, d4⟩, -, ⟨cj2, ws2, y2, e1, e2, e3, e4⟩, ⟨cj3, ws3, y3, f1, f2, f3⟩⟩ := g'
  rw [a1] at d1
  cases d1
  rw [a2] at d2
  cases d2
  rw [a3] at d3
  cases d3
  rw [a4] at d4
  cases d4
  rw [b1] at e1
  cases e1
  rw [b2] at e2
  cases e2
  rw [b3] at e3
  cases e3
  rw [c1] at f1
  cases f1
  rw [c2] at f2
  cases f2
  exact ⟨⟨⟨rfl, rfl⟩, rfl, rfl⟩, b4.symm.trans e4 ▸ rfl, c3.symm.trans f3 ▸ rfl⟩
/-- what holds of one that is not over: name 2 what is told of it; w: the record has begun: names 3, 4 its length -/
def sd_use (t : Nat) (S : sd_S) (w : Bool) : tc_Lm := ((if w then 5 else 3, 5), (([(2, -1)], 1) :: (if w then [([(0, 1)], -3)] else []), sd_k S, [], sd_l S, (1, ([], 0), ql_n 2) :: (if w then [(4, ([], 1), ql_n 3), (4, ([], 2), ql_n 4)] else []), [], [(8 * t, [], [])]), (if w then 5 else 3, 5), (([([(1, -1)], 2502), ([(0, -1)], 303)] : List tl_F) ++ (if w then [([(3, -256), (4, -1)], 300)] else []), [], [], [], [], [], []))
theorem sd_use_ok {l : List ga_S} {t : Nat} {S : sd_S} {w : Bool} {RO : am_O} {T : tk_T} (h : l[t]? = some (sd_a S)) : tc_lmt (tg_of l) RO T (sd_use t S w) := by
  intro V A κ M sz hH hsz hx
  refine ⟨V, A, fun _ _ => rfl, fun _ _ => rfl, ?_⟩
  obtain ⟨h1, h2, h3, h4, h5, h6, h7, h8⟩ := hx
  have g8 := (tg_at0 h).mp (h8 _ List.mem_cons_self)
  have gf := sd_l_s h2 h4
  obtain ⟨t', r', p', b', zr', zp', q1, q2⟩ := g8 (A 0) (h2 (0, S.1) (by simp [sd_use, sd_k])) (fun q => (List.not_mem_nil q).elim)
  obtain ⟨⟨⟨rfl, rfl⟩, rfl, rfl⟩, rfl, rfl⟩ := sd_det gf q1
  have q2 : sd_P RO M (A 1) (A 4) (V 0) (V 1) := by
    rcases q2 with q2 | q2 | q2 | q2 | q2
    · exact (List.not_mem_nil q2).elim
    · exact (List.not_mem_nil q2).elim
    · exact (List.not_mem_nil q2).elim
    · exact (List.not_mem_nil q2).elim
    · exact q2
  have f0 := h1 _ List.mem_cons_self
  simp only [tl_v, tl_s] at f0
  obtain ⟨j, j1, j2⟩ := ql_xe (h5 _ List.mem_cons_self)
  dsimp only at j1 j2
  rw [ql_n_s] at j2
  have j1 : (0 : Int) = (j : Int) := by simpa [tl_v, tl_s] using j1
  have j0 : j = 0 := by omega
  subst j0
  have q3 : V 1 ≤ 2502 ∧ V 0 ≤ 303 ∧ (V 0 ≤ 2 ∨ 256 * ql_el RO M (A 4) 1 + ql_el RO M (A 4) 2 ≤ 300) := by
    rcases q2 with q2 | q2
    · rw [j2] at q2
      omega
    · exact q2
  refine ⟨fun f hf => ?_, fun _ q => (List.not_mem_nil q).elim, fun _ q => (List.not_mem_nil q).elim, fun _ q => (List.not_mem_nil q).elim, fun _ q => (List.not_mem_nil q).elim, fun _ q => (List.not_mem_nil q).elim, trivial, fun _ q => (List.not_mem_nil q).elim⟩
  rcases List.mem_append.mp hf with hf | hf
  · rcases List.mem_cons.mp hf with rfl | hf
    · simp only [tl_v, tl_s]
      omega
    · rcases List.mem_cons.mp hf with rfl | hf
      · simp only [tl_v, tl_s]
        omega
      · cases hf
  · cases w with
    | false => cases hf
    | true =>
      rcases List.mem_cons.mp hf with rfl | hf
      · have f1 := h1 _ (List.mem_cons_of_mem _ List.mem_cons_self)
        simp only [tl_v, tl_s] at f1
        obtain ⟨i1, i2, i3⟩ := ql_xe (h5 _ (List.mem_cons_of_mem _ List.mem_cons_self))
        obtain ⟨k1, k2, k3⟩ := ql_xe (h5 _ (List.mem_cons_of_mem _ (List.mem_cons_of_mem _ List.mem_cons_self)))
        dsimp only at i2 i3 k2 k3
        rw [ql_n_s] at i3 k3
        have i2 : (1 : Int) = (i1 : Int) := by simpa [tl_v, tl_s] using i2
        have k2 : (2 : Int) = (k1 : Int) := by simpa [tl_v, tl_s] using k2
        have e1 : i1 = 1 := by omega
        have e2 : k1 = 2 := by omega
        subst e1
        subst e2
        rw [i3, k3] at q3
        simp only [tl_v, tl_s]
        omega
      · cases hf
/-- one is taken out, by any name of it -/
def sd_open (t : Nat) : tc_Lm := ((0, 1), ([], [], [], [], [], [], [(8 * t, [], [])]), (0, 1), ([], [], [], [], [], [], [(8 * t, [0], [])]))
theorem sd_open_ok {l : List ga_S} {t : Nat} {S : sd_S} {RO : am_O} {T : tk_T} (h : l[t]? = some (sd_a S)) : tc_lmt (tg_of l) RO T (sd_open t) := by
  intro V A κ M sz hH hsz hx
  refine ⟨V, A, fun _ _ => rfl, fun _ _ => rfl, ?_⟩
  have g8 := (tg_at0 h).mp (hx.2.2.2.2.2.2.2 _ List.mem_cons_self)
  refine ⟨fun _ q => (List.not_mem_nil q).elim, fun _ q => (List.not_mem_nil q).elim, fun _ q => (List.not_mem_nil q).elim, fun _ q => (List.not_mem_nil q).elim, fun _ q => (List.not_mem_nil q).elim, fun _ q => (List.not_mem_nil q).elim, trivial, fun p hp => ?_⟩
  rcases List.mem_cons.mp hp with rfl | hp
  · refine (tg_at0 h).mpr (fun o ho _ => ?_)
    obtain ⟨t, r, p, b, zr, zp, q1, q2⟩ := g8 o ho (fun q => (List.not_mem_nil q).elim)
    refine ⟨t, r, p, b, zr, zp, q1, ?_⟩
    rcases q2 with q2 | q2 | q2 | q2 | q2
    · exact (List.not_mem_nil q2).elim
    · exact (List.not_mem_nil q2).elim
    · exact (List.not_mem_nil q2).elim
    · exact (List.not_mem_nil q2).elim
    · exact Or.inr (Or.inr (Or.inr (Or.inr q2)))
  · cases hp
/-- kinds are different ones -/
def sd_nk (S : sd_S) : Bool := [S.1, S.2.2.1, S.2.2.2.1, S.2.2.2.2.1, S.2.2.2.2.2].Nodup
/-- out by its own name: out by another name of it (x: 1 told, 2 the record, 3 pending, 4 the record's bytes) -/
def sd_to (t x : Nat) (S : sd_S) : tc_Lm := ((2, 5), ([], sd_k S, [], sd_l S, [], [], [(8 * t, [0], [])]), (2, 5), ([], [], [], [], [], [], [(8 * t, [x], [])]))
theorem sd_to_ok {l : List ga_S} {t x : Nat} {S : sd_S} {RO : am_O} {T : tk_T} (h : l[t]? = some (sd_a S)) (hx0 : x = 1 ∨ x = 2 ∨ x = 3 ∨ x = 4) (hk : sd_nk S = true) : tc_lmt (tg_of l) RO T (sd_to t x S) := by
  intro V A κ M sz hH hsz hx
  refine ⟨V, A, fun _ _ => rfl, fun _ _ => rfl, ?_⟩
  obtain ⟨h1, h2, h3, h4, h5, h6, h7, h8⟩ := hx
  have g8 := (tg_at0 h).mp (h8 _ List.mem_cons_self)
  have gf := sd_l_s h2 h4
  have hk0 : κ (A 0) = some S.1 := h2 (0, S.1) (by simp [sd_to, sd_k])
  unfold sd_nk at hk
  simp only [decide_eq_true_eq, List.nodup_cons, List.mem_cons, not_or, List.not_mem_nil, not_false_eq_true, List.nodup_nil, and_true] at hk
  refine ⟨fun _ q => (List.not_mem_nil q).elim, fun _ q => (List.not_mem_nil q).elim, fun _ q => (List.not_mem_nil q).elim, fun _ q => (List.not_mem_nil q).elim, fun _ q => (List.not_mem_nil q).elim, fun _ q => (List.not_mem_nil q).elim, trivial, fun p hp => ?_⟩
  rcases List.mem_cons.mp hp with rfl | hp
  · refine (tg_at0 h).mpr (fun o ho _ => ?_)
    by_cases e : o = A 0
    · subst e
      refine ⟨_, _, _, _, _, _, gf, ?_⟩
      rcases hx0 with rfl | rfl | rfl | rfl
      · exact Or.inl List.mem_cons_self
      · exact Or.inr (Or.inl List.mem_cons_self)
      · exact Or.inr (Or.inr (Or.inl List.mem_cons_self))
      · exact Or.inr (Or.inr (Or.inr (Or.inl List.mem_cons_self)))
    · obtain ⟨t, r, p, b, zr, zp, q1, q2⟩ := g8 o ho (fun q => e (List.mem_singleton.mp q))
      refine ⟨t, r, p, b, zr, zp, q1, ?_⟩
      obtain ⟨-, ⟨k1, k2, k3, k4⟩, -, -⟩ := q1
      have ne : ∀ {c k : Nat}, κ c = some k → k ≠ S.1 → c ∉ [A 0] := by
        intro c k hc hne q
        rw [List.mem_singleton.mp q, hk0] at hc
        cases hc
        exact hne rfl
      rcases q2 with q2 | q2 | q2 | q2 | q2
      · exact absurd q2 (ne k1 (fun e => by simp [e] at hk))
      · exact absurd q2 (ne k2 (fun e => by simp [e] at hk))
      · exact absurd q2 (ne k3 (fun e => by simp [e] at hk))
      · exact absurd q2 (ne k4 (fun e => by simp [e] at hk))
      · exact Or.inr (Or.inr (Or.inr (Or.inr q2)))
  · cases hp
/-- and back: no other one has it -/
def sd_fro (t x : Nat) (S : sd_S) (u1 u2 u3 u4 : Nat) : tc_Lm := ((0, 5), ([], sd_k S, [], [], [], [], (8 * t, [x], []) :: (if x = 1 then [(8 * u1, [0, 1], [])] else if x = 2 then [(8 * u2, [0, 2], [])] else if x = 3 then [(8 * u3, [0, 3], [])] else [(8 * u2, [0, 2], []), (8 * u4, [2, 4], [])])), (0, 5), ([], [], [], [], [], [], [(8 * t, [0], [])]))
theorem sd_fro_ok {l : List ga_S} {t x : Nat} {S : sd_S} {u1 u2 u3 u4 : Nat} {RO : am_O} {T : tk_T} (h : l[t]? = some (sd_a S)) (h1u : l[u1]? = some (un_a S.1 S.2.1.1)) (h2u : l[u2]? = some (un_a S.1 S.2.1.2.1)) (h3u : l[u3]? = some (un_a S.1 S.2.1.2.2)) (h4u : l[u4]? = some (un_a S.2.2.2.1 0)) (hx0 : x = 1 ∨ x = 2 ∨ x = 3 ∨ x = 4) (hk : sd_nk S = true) : tc_lmt (tg_of l) RO T (sd_fro t x S u1 u2 u3 u4) := by
  intro V A κ M sz hH hsz hx
  refine ⟨V, A, fun _ _ => rfl, fun _ _ => rfl, ?_⟩
  obtain ⟨h1, h2, h3, h4, h5, h6, h7, h8⟩ := hx
  have g8 := (tg_at0 h).mp (h8 _ List.mem_cons_self)
  have c1 : κ (A 1) = some S.2.2.1 := h2 (1, _) (by simp [sd_fro, sd_k])
  have c2 : κ (A 2) = some S.2.2.2.1 := h2 (2, _) (by simp [sd_fro, sd_k])
  have c3 : κ (A 3) = some S.2.2.2.2.1 := h2 (3, _) (by simp [sd_fro, sd_k])
  have c4 : κ (A 4) = some S.2.2.2.2.2 := h2 (4, _) (by simp [sd_fro, sd_k])
  unfold sd_nk at hk
  simp only [decide_eq_true_eq, List.nodup_cons, List.mem_cons, not_or, List.not_mem_nil, not_false_eq_true, List.nodup_nil, and_true] at hk
  have ne : ∀ {c d k k' : Nat}, κ c = some k → κ d = some k' → k ≠ k' → c ∉ [d] := by
    intro c d k k' hc hd hne q
    rw [List.mem_singleton.mp q, hd] at hc
    cases hc
    exact hne rfl
  refine ⟨fun _ q => (List.not_mem_nil q).elim, fun _ q => (List.not_mem_nil q).elim, fun _ q => (List.not_mem_nil q).elim, fun _ q => (List.not_mem_nil q).elim, fun _ q => (List.not_mem_nil q).elim, fun _ q => (List.not_mem_nil q).elim, trivial, fun p hp => ?_⟩
  rcases List.mem_cons.mp hp with rfl | hp
  · refine (tg_at0 h).mpr (fun o ho hna => ?_)
    have hne : o ≠ A 0 := fun e => hna (List.mem_singleton.mpr e)
    have hox : o ∉ [A x] := by
      rcases hx0 with rfl | rfl | rfl | rfl
      · exact ne ho c1 (fun e => by simp [e] at hk)
      · exact ne ho c2 (fun e => by simp [e] at hk)
      · exact ne ho c3 (fun e => by simp [e] at hk)
      · exact ne ho c4 (fun e => by simp [e] at hk)
    obtain ⟨t, r, p, b, zr, zp, q1, q2⟩ := g8 o ho hox
    refine ⟨t, r, p, b, zr, zp, q1, ?_⟩
    obtain ⟨⟨ci, vs, m1, m2, m3, m4⟩, ⟨k1, k2, k3, k4⟩, ⟨ci2, vs2, x2, n1, n2, -, -⟩, -⟩ := q1
    have q2 : t ∈ [A x] ∨ r ∈ [A x] ∨ p ∈ [A x] ∨ b ∈ [A x] ∨ sd_P RO M t b zr zp := q2
    rcases hx0 with rfl | rfl | rfl | rfl
    · have g9 := (tg_at0 h1u).mp (h8 _ (List.mem_cons_of_mem _ List.mem_cons_self))
      have g9 : ∀ o, κ o = some S.1 → o ≠ A 0 → ∀ ci vs, M o = some (.inr (ci, vs)) → vs[S.2.1.1]? ≠ some (.ref (A 1)) := g9
      rcases q2 with q2 | q2 | q2 | q2 | q2
      · rw [List.mem_singleton.mp q2] at m2
        exact absurd m2 (g9 o ho hne ci vs m1)
      · exact absurd q2 (ne k2 c1 (fun e => by simp [e] at hk))
      · exact absurd q2 (ne k3 c1 (fun e => by simp [e] at hk))
      · exact absurd q2 (ne k4 c1 (fun e => by simp [e] at hk))
      · exact Or.inr (Or.inr (Or.inr (Or.inr q2)))
    · have g9 := (tg_at0 h2u).mp (h8 _ (List.mem_cons_of_mem _ List.mem_cons_self))
      have g9 : ∀ o, κ o = some S.1 → o ≠ A 0 → ∀ ci vs, M o = some (.inr (ci, vs)) → vs[S.2.1.2.1]? ≠ some (.ref (A 2)) := g9
      rcases q2 with q2 | q2 | q2 | q2 | q2
      · exact absurd q2 (ne k1 c2 (fun e => by simp [e] at hk))
      · rw [List.mem_singleton.mp q2] at m3
        exact absurd m3 (g9 o ho hne ci vs m1)
      · exact absurd q2 (ne k3 c2 (fun e => by simp [e] at hk))
      · exact absurd q2 (ne k4 c2 (fun e => by simp [e] at hk))
      · exact Or.inr (Or.inr (Or.inr (Or.inr q2)))
    · have g9 := (tg_at0 h3u).mp (h8 _ (List.mem_cons_of_mem _ List.mem_cons_self))
      have g9 : ∀ o, κ o = some S.1 → o ≠ A 0 → ∀ ci vs, M o = some (.inr (ci, vs)) → vs[S.2.1.2.2]? ≠ some (.ref (A 3)) := g9
      rcases q2 with q2 | q2 | q2 | q2 | q2
      · exact absurd q2 (ne k1 c3 (fun e => by simp [e] at hk))
      · exact absurd q2 (ne k2 c3 (fun e => by simp [e] at hk))
      · rw [List.mem_singleton.mp q2] at m4
        exact absurd m4 (g9 o ho hne ci vs m1)
      · exact absurd q2 (ne k4 c3 (fun e => by simp [e] at hk))
      · exact Or.inr (Or.inr (Or.inr (Or.inr q2)))
    · have g9 := (tg_at0 h2u).mp (h8 _ (List.mem_cons_of_mem _ List.mem_cons_self))
      have g9 : ∀ o, κ o = some S.1 → o ≠ A 0 → ∀ ci vs, M o = some (.inr (ci, vs)) → vs[S.2.1.2.1]? ≠ some (.ref (A 2)) := g9
      have g10 := (tg_at0 h4u).mp (h8 _ (List.mem_cons_of_mem _ (List.mem_cons_of_mem _ List.mem_cons_self)))
      have g10 : ∀ o, κ o = some S.2.2.2.1 → o ≠ A 2 → ∀ ci vs, M o = some (.inr (ci, vs)) → vs[0]? ≠ some (.ref (A 4)) := g10
      rcases q2 with q2 | q2 | q2 | q2 | q2
      · exact absurd q2 (ne k1 c4 (fun e => by simp [e] at hk))
      · exact absurd q2 (ne k2 c4 (fun e => by simp [e] at hk))
      · exact absurd q2 (ne k3 c4 (fun e => by simp [e] at hk))
      · have hr : r ≠ A 2 := fun e => by
          rw [e] at m3
          exact g9 o ho hne ci vs m1 m3
        rw [List.mem_singleton.mp q2] at n2
        exact absurd n2 (g10 r k2 hr ci2 vs2 n1)
      · exact Or.inr (Or.inr (Or.inr (Or.inr q2)))
  · cases hp
/-- it is put back: names 0, 1 the sizes, 2 what is told; v: 0 it is over, 1 no record has begun, 2 one has: names 3, 4 its length -/
def sd_shut (t v : Nat) (S : sd_S) : tc_Lm := ((5, 5), (if v = 0 then [([(2, 1)], -2), ([(2, -1)], 2)] else ([(1, -1)], 2502) :: (if v = 1 then [([(0, -1)], 2)] else [([(0, -1)], 303), ([(3, -256), (4, -1)], 300)]), sd_k S, [], sd_l S, if v = 0 then [(1, ([], 0), ql_n 2)] else if v = 1 then [] else [(4, ([], 1), ql_n 3), (4, ([], 2), ql_n 4)], [], [(8 * t, [0], [])]), (5, 5), ([], [], [], [], [], [], [(8 * t, [], [])]))
theorem sd_shut_ok {l : List ga_S} {t v : Nat} {S : sd_S} {RO : am_O} {T : tk_T} (h : l[t]? = some (sd_a S)) (hv : v < 3) (hk : sd_nk S = true) : tc_lmt (tg_of l) RO T (sd_shut t v S) := by
  intro V A κ M sz hH hsz hx
  refine ⟨V, A, fun _ _ => rfl, fun _ _ => rfl, ?_⟩
  obtain ⟨h1, h2, h3, h4, h5, h6, h7, h8⟩ := hx
  have g8 := (tg_at0 h).mp (h8 _ List.mem_cons_self)
  have gf := sd_l_s h2 h4
  have hk0 : κ (A 0) = some S.1 := h2 (0, S.1) (by simp [sd_shut, sd_k])
  unfold sd_nk at hk
  simp only [decide_eq_true_eq, List.nodup_cons, List.mem_cons, not_or, List.not_mem_nil, not_false_eq_true, List.nodup_nil, and_true] at hk
  have hP : sd_P RO M (A 1) (A 4) (V 0) (V 1) := by
    match v, hv, h1, h5 with
    | 0, _, h1, h5 =>
      have f0 := h1 _ List.mem_cons_self
      have f1 := h1 _ (List.mem_cons_of_mem _ List.mem_cons_self)
      simp only [tl_v, tl_s] at f0 f1
      obtain ⟨j, j1, j2⟩ := ql_xe (h5 _ List.mem_cons_self)
      dsimp only at j1 j2
      rw [ql_n_s] at j2
      have j1 : (0 : Int) = (j : Int) := by simpa [tl_v, tl_s] using j1
      have j0 : j = 0 := by omega
      subst j0
      exact Or.inl (by rw [j2]; omega)
    | 1, _, h1, _ =>
      have f0 := h1 _ List.mem_cons_self
      have f1 := h1 _ (List.mem_cons_of_mem _ List.mem_cons_self)
      simp only [tl_v, tl_s] at f0 f1
      exact Or.inr ⟨by omega, by omega, Or.inl (by omega)⟩
    | 2, _, h1, h5 =>
      have f0 := h1 _ List.mem_cons_self
      have f1 := h1 _ (List.mem_cons_of_mem _ List.mem_cons_self)
      have f2 := h1 _ (List.mem_cons_of_mem _ (List.mem_cons_of_mem _ List.mem_cons_self))
      simp only [tl_v, tl_s] at f0 f1 f2
      obtain ⟨i1, i2, i3⟩ := ql_xe (h5 _ List.mem_cons_self)
      obtain ⟨k1, k2, k3⟩ := ql_xe (h5 _ (List.mem_cons_of_mem _ List.mem_cons_self))
      dsimp only at i2 i3 k2 k3
      rw [ql_n_s] at i3 k3
      have i2 : (1 : Int) = (i1 : Int) := by simpa [tl_v, tl_s] using i2
      have k2 : (2 : Int) = (k1 : Int) := by simpa [tl_v, tl_s] using k2
      have e1 : i1 = 1 := by omega
      have e2 : k1 = 2 := by omega
      subst e1
      subst e2
      exact Or.inr ⟨by omega, by omega, Or.inr (by rw [i3, k3]; omega)⟩
  refine ⟨fun _ q => (List.not_mem_nil q).elim, fun _ q => (List.not_mem_nil q).elim, fun _ q => (List.not_mem_nil q).elim, fun _ q => (List.not_mem_nil q).elim, fun _ q => (List.not_mem_nil q).elim, fun _ q => (List.not_mem_nil q).elim, trivial, fun p hp => ?_⟩
  rcases List.mem_cons.mp hp with rfl | hp
  · refine (tg_at0 h).mpr (fun o ho _ => ?_)
    by_cases e : o = A 0
    · subst e
      exact ⟨_, _, _, _, _, _, gf, Or.inr (Or.inr (Or.inr (Or.inr hP)))⟩
    · obtain ⟨t, r, p, b, zr, zp, q1, q2⟩ := g8 o ho (fun q => e (List.mem_singleton.mp q))
      refine ⟨t, r, p, b, zr, zp, q1, ?_⟩
      obtain ⟨-, ⟨k1, k2, k3, k4⟩, -, -⟩ := q1
      have ne : ∀ {c k : Nat}, κ c = some k → k ≠ S.1 → c ∉ [A 0] := by
        intro c k hc hne q
        rw [List.mem_singleton.mp q, hk0] at hc
        cases hc
        exact hne rfl
      rcases q2 with q2 | q2 | q2 | q2 | q2
      · exact absurd q2 (ne k1 (fun e => by simp [e] at hk))
      · exact absurd q2 (ne k2 (fun e => by simp [e] at hk))
      · exact absurd q2 (ne k3 (fun e => by simp [e] at hk))
      · exact absurd q2 (ne k4 (fun e => by simp [e] at hk))
      · exact Or.inr (Or.inr (Or.inr (Or.inr q2)))
  · cases hp
/-- one more, which is out then -/
def sd_new (t K : Nat) : tc_Lm := ((0, 0), ([], [], [], [], [], [], [(8 * t, [], [])]), (0, 0), ([], [], [], [], [], [], [(8 * t + 7, [], [tl_c (K : Int)])]))
theorem sd_new_ok {l : List ga_S} {t : Nat} {S : sd_S} {RO : am_O} {T : tk_T} (h : l[t]? = some (sd_a S)) : tc_lmt (tg_of l) RO T (sd_new t S.1) := by
  intro V A κ M sz hH hsz hx
  refine ⟨V, A, fun _ _ => rfl, fun _ _ => rfl, ?_⟩
  have g8 := (tg_at0 h).mp (hx.2.2.2.2.2.2.2 _ List.mem_cons_self)
  refine ⟨fun _ q => (List.not_mem_nil q).elim, fun _ q => (List.not_mem_nil q).elim, fun _ q => (List.not_mem_nil q).elim, fun _ q => (List.not_mem_nil q).elim, fun _ q => (List.not_mem_nil q).elim, fun _ q => (List.not_mem_nil q).elim, trivial, fun p hp => ?_⟩
  rcases List.mem_cons.mp hp with rfl | hp
  · unfold tc_xq tg_q
    have e : (8 * t + 7) % 8 = 7 := by omega
    have e2 : (8 * t + 7) / 8 = t := by omega
    dsimp only
    rw [e, e2]
    simp only [List.map_cons, List.map_nil]
    rw [tl_c_s, Int.toNat_natCast]
    intro a κ' M' q0 q1 qz q2 q3
    rw [tg_of_s h]
    intro o ho hna
    cases e : κ o with
    | none => exact absurd (List.mem_singleton.mpr (q3 o _ ho e)) hna
    | some k1 =>
      have e3 := (q2 o k1 e).1
      rw [ho] at e3
      cases e3
      obtain ⟨t, r, p, b, zr, zp, g1, g2⟩ := g8 o e (fun q => (List.not_mem_nil q).elim)
      have hkp : ∀ a k, κ a = some k → tg_kp (sd_F S) k (M a) (M' a) := fun b k1 hb => by
        rw [(q2 b k1 hb).2]
        exact tg_kp_refl _ _ _
      refine ⟨t, r, p, b, zr, zp, sd_f_k (fun b k1 hb => (q2 b k1 hb).1) e hkp g1, ?_⟩
      rcases g2 with g2 | g2 | g2 | g2 | g2
      · exact (List.not_mem_nil g2).elim
      · exact (List.not_mem_nil g2).elim
      · exact (List.not_mem_nil g2).elim
      · exact (List.not_mem_nil g2).elim
      · exact Or.inr (Or.inr (Or.inr (Or.inr (sd_P_k hkp g1 g2))))
  · cases hp
