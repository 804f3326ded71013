/-! TC: sides: writes into what is out -/
/-- an int is stored into a row that is out: names 0 where, 1 what -/
def sd_w1 (t : Nat) : tc_Lm := ((2, 1), ([], [], [], [], [], [], [(8 * t, [0], [])]), (2, 1), ([], [], [], [], [], [], [(8 * t + 1, [0, 0], [ql_n 0, ql_n 1])]))
theorem sd_w1_ok {l : List ga_S} {t : Nat} {S : sd_S} {RO : am_O} {T : tk_T} (h : l[t]? = some (sd_a S)) : tc_lmt (tg_of l) RO T (sd_w1 t) := by
  intro V A κ M sz hH hsz hx
  refine ⟨V, A, fun _ _ => rfl, fun _ _ => rfl, ?_⟩
  have g8 := (tg_at0 h).mp (hx.2.2.2.2.2.2.2 _ List.mem_cons_self)
  refine ⟨fun _ q => (List.not_mem_nil q).elim, fun _ q => (List.not_mem_nil q).elim, fun _ q => (List.not_mem_nil q).elim, fun _ q => (List.not_mem_nil q).elim, fun _ q => (List.not_mem_nil q).elim, fun _ q => (List.not_mem_nil q).elim, trivial, fun p hp => ?_⟩
  rcases List.mem_cons.mp hp with rfl | hp
  · unfold tc_xq tg_q
    have e : (8 * t + 1) % 8 = 1 := by omega
    have e2 : (8 * t + 1) / 8 = t := by omega
    dsimp only
    rw [e, e2]
    simp only [List.map_cons, List.map_nil]
    intro ty n f x hM _
    rw [tg_of_s h]
    intro o ho hna
    obtain ⟨t, r, p, b, zr, zp, q1, q2⟩ := g8 o ho hna
    have q2 : t ∈ [A 0] ∨ r ∈ [A 0] ∨ p ∈ [A 0] ∨ b ∈ [A 0] ∨ sd_P RO M t b zr zp := q2
    obtain ⟨⟨ci, vs, m1, m2⟩, k1, ⟨ci2, vs2, x2, n1, n2⟩, ⟨ci3, vs3, x3, p1, p2⟩⟩ := q1
    have nx : ∀ {c ci vs}, M c = some (.inr (ci, vs)) → c ≠ A 0 := by
      intro c ci vs hc e
      rw [e, hM] at hc
      cases hc
    refine ⟨t, r, p, b, zr, zp, ⟨⟨ci, vs, (am_ne (nx m1)).trans m1, m2⟩, k1, ⟨ci2, vs2, x2, (am_ne (nx n1)).trans n1, n2⟩, ⟨ci3, vs3, x3, (am_ne (nx p1)).trans p1, p2⟩⟩, ?_⟩
    by_cases et : t = A 0
    · exact Or.inl (List.mem_singleton.mpr et)
    by_cases eb : b = A 0
    · exact Or.inr (Or.inr (Or.inr (Or.inl (List.mem_singleton.mpr eb))))
    rcases q2 with q2 | q2 | q2 | q2 | q2
    · exact Or.inl q2
    · exact Or.inr (Or.inl q2)
    · exact Or.inr (Or.inr (Or.inl q2))
    · exact Or.inr (Or.inr (Or.inr (Or.inl q2)))
    · refine Or.inr (Or.inr (Or.inr (Or.inr ?_)))
      unfold sd_P at q2 ⊢
      rw [ql_el_s hM (Or.inl et), ql_el_s hM (Or.inl eb), ql_el_s hM (Or.inl eb)]
      exact q2
  · cases hp
/-- the size of a row that is out: name 0 what -/
def sd_w2 (t : Nat) : tc_Lm := ((1, 1), ([], [], [], [], [], [], [(8 * t, [0], [])]), (1, 1), ([], [], [], [], [], [], [(8 * t + 2, [0, 0], [tl_c 1, ql_n 0])]))
theorem sd_w2_ok {l : List ga_S} {t : Nat} {S : sd_S} {RO : am_O} {T : tk_T} (h : l[t]? = some (sd_a S)) : tc_lmt (tg_of l) RO T (sd_w2 t) := by
  intro V A κ M sz hH hsz hx
  refine ⟨V, A, fun _ _ => rfl, fun _ _ => rfl, ?_⟩
  have g8 := (tg_at0 h).mp (hx.2.2.2.2.2.2.2 _ List.mem_cons_self)
  refine ⟨fun _ q => (List.not_mem_nil q).elim, fun _ q => (List.not_mem_nil q).elim, fun _ q => (List.not_mem_nil q).elim, fun _ q => (List.not_mem_nil q).elim, fun _ q => (List.not_mem_nil q).elim, fun _ q => (List.not_mem_nil q).elim, trivial, fun p hp => ?_⟩
  rcases List.mem_cons.mp hp with rfl | hp
  · unfold tc_xq tg_q
    have e : (8 * t + 2) % 8 = 2 := by omega
    have e2 : (8 * t + 2) / 8 = t := by omega
    dsimp only
    rw [e, e2]
    simp only [List.map_cons, List.map_nil]
    intro cx vx x hM _
    rw [tg_of_s h]
    intro o ho hna
    obtain ⟨t, r, p, b, zr, zp, q1, q2⟩ := g8 o ho hna
    have q2 : t ∈ [A 0] ∨ r ∈ [A 0] ∨ p ∈ [A 0] ∨ b ∈ [A 0] ∨ sd_P RO M t b zr zp := q2
    obtain ⟨⟨ci, vs, m1, m2⟩, k1, ⟨ci2, vs2, x2, n1, n2, n3, n4⟩, ⟨ci3, vs3, x3, p1, p2, p3⟩⟩ := q1
    have hox : o ≠ A 0 := fun e => hna (List.mem_singleton.mpr e)
    have h1' : ((tl_v V (tl_c 1)).toNat : Nat) = 1 := by
      rw [tl_c_s]
      rfl
    have hr : ∃ ci vs y, am_set M (A 0) (.inr (cx, vx.set (tl_v V (tl_c 1)).toNat (.int x))) r = some (.inr (ci, vs)) ∧ vs[0]? = some (.ref b) ∧ vs[1]? = some (.int y) := by
      by_cases e : r = A 0
      · subst e
        rw [hM] at n1
        cases n1
        have hl := (List.getElem?_eq_some_iff.mp n3).1
        refine ⟨_, _, x, am_same, ?_, ?_⟩
        · rw [h1', List.getElem?_set_ne (by omega)]
          exact n2
        · rw [h1', List.getElem?_set_self hl]
      · exact ⟨ci2, vs2, x2, (am_ne e).trans n1, n2, n3⟩
    have hp2 : ∃ ci vs y, am_set M (A 0) (.inr (cx, vx.set (tl_v V (tl_c 1)).toNat (.int x))) p = some (.inr (ci, vs)) ∧ vs[1]? = some (.int y) := by
      by_cases e : p = A 0
      · subst e
        rw [hM] at p1
        cases p1
        have hl := (List.getElem?_eq_some_iff.mp p2).1
        refine ⟨_, _, x, am_same, ?_⟩
        rw [h1', List.getElem?_set_self hl]
      · exact ⟨ci3, vs3, x3, (am_ne e).trans p1, p2⟩
    obtain ⟨cr, vr, yr, r1, r2, r3⟩ := hr
    obtain ⟨cp, vp, yp, s1, s2⟩ := hp2
    by_cases er : r = A 0
    · exact ⟨t, r, p, b, _, _, ⟨⟨ci, vs, (am_ne hox).trans m1, m2⟩, k1, ⟨cr, vr, yr, r1, r2, r3, rfl⟩, ⟨cp, vp, yp, s1, s2, rfl⟩⟩, Or.inr (Or.inl (List.mem_singleton.mpr er))⟩
    by_cases ep : p = A 0
    · exact ⟨t, r, p, b, _, _, ⟨⟨ci, vs, (am_ne hox).trans m1, m2⟩, k1, ⟨cr, vr, yr, r1, r2, r3, rfl⟩, ⟨cp, vp, yp, s1, s2, rfl⟩⟩, Or.inr (Or.inr (Or.inl (List.mem_singleton.mpr ep)))⟩
    refine ⟨t, r, p, b, zr, zp, ⟨⟨ci, vs, (am_ne hox).trans m1, m2⟩, k1, ⟨ci2, vs2, x2, (am_ne er).trans n1, n2, n3, n4⟩, ⟨ci3, vs3, x3, (am_ne ep).trans p1, p2, p3⟩⟩, ?_⟩
    rcases q2 with q2 | q2 | q2 | q2 | q2
    · exact Or.inl q2
    · exact Or.inr (Or.inl q2)
    · exact Or.inr (Or.inr (Or.inl q2))
    · exact Or.inr (Or.inr (Or.inr (Or.inl q2)))
    · refine Or.inr (Or.inr (Or.inr (Or.inr ?_)))
      have hel : ∀ c j, ql_el RO (am_set M (A 0) (.inr (cx, vx.set (tl_v V (tl_c 1)).toNat (.int x)))) c j = ql_el RO M c j := by
        intro c j
        unfold ql_el
        by_cases e : c = A 0
        · rw [e, am_same, hM]
        · rw [am_ne e]
      unfold sd_P at q2 ⊢
      rw [hel, hel, hel]
      exact q2
  · cases hp
/-- other bytes for a row that is out -/
def sd_w3 (t k : Nat) : tc_Lm := ((0, 2), ([], [(1, k)], [], [], [], [], [(8 * t, [0], [])]), (0, 2), ([], [], [], [], [], [], [(8 * t + 3, [0, 1, 0], [tl_c 0])]))
theorem sd_w3_ok {l : List ga_S} {t : Nat} {S : sd_S} {RO : am_O} {T : tk_T} (h : l[t]? = some (sd_a S)) : tc_lmt (tg_of l) RO T (sd_w3 t S.2.2.2.2.2) := by
  intro V A κ M sz hH hsz hx
  refine ⟨V, A, fun _ _ => rfl, fun _ _ => rfl, ?_⟩
  have g8 := (tg_at0 h).mp (hx.2.2.2.2.2.2.2 _ List.mem_cons_self)
  have hk1 : κ (A 1) = some S.2.2.2.2.2 := hx.2.1 _ List.mem_cons_self
  refine ⟨fun _ q => (List.not_mem_nil q).elim, fun _ q => (List.not_mem_nil q).elim, fun _ q => (List.not_mem_nil q).elim, fun _ q => (List.not_mem_nil q).elim, fun _ q => (List.not_mem_nil q).elim, fun _ q => (List.not_mem_nil q).elim, trivial, fun p hp => ?_⟩
  rcases List.mem_cons.mp hp with rfl | hp
  · unfold tc_xq tg_q
    have e : (8 * t + 3) % 8 = 3 := by omega
    have e2 : (8 * t + 3) / 8 = t := by omega
    dsimp only
    rw [e, e2]
    simp only [List.map_cons, List.map_nil]
    intro cx vx hM
    rw [tg_of_s h]
    intro o ho hna
    obtain ⟨t, r, p, b, zr, zp, q1, q2⟩ := g8 o ho hna
    have q2 : t ∈ [A 0] ∨ r ∈ [A 0] ∨ p ∈ [A 0] ∨ b ∈ [A 0] ∨ sd_P RO M t b zr zp := q2
    obtain ⟨⟨ci, vs, m1, m2⟩, ⟨k1, k2, k3, k4⟩, ⟨ci2, vs2, x2, n1, n2, n3, n4⟩, ⟨ci3, vs3, x3, p1, p2, p3⟩⟩ := q1
    have hox : o ≠ A 0 := fun e => hna (List.mem_singleton.mpr e)
    have h1' : ((tl_v V (tl_c 0)).toNat : Nat) = 0 := by
      rw [tl_c_s]
      rfl
    have hp2 : ∃ ci vs, am_set M (A 0) (.inr (cx, vx.set (tl_v V (tl_c 0)).toNat (.ref (A 1)))) p = some (.inr (ci, vs)) ∧ vs[1]? = some (.int x3) := by
      by_cases e : p = A 0
      · subst e
        rw [hM] at p1
        cases p1
        refine ⟨_, _, am_same, ?_⟩
        rw [h1', List.getElem?_set_ne (by omega)]
        exact p2
      · exact ⟨ci3, vs3, (am_ne e).trans p1, p2⟩
    obtain ⟨cp, vp, s1, s2⟩ := hp2
    by_cases er : r = A 0
    · have hr : ∃ ci vs, am_set M (A 0) (.inr (cx, vx.set (tl_v V (tl_c 0)).toNat (.ref (A 1)))) r = some (.inr (ci, vs)) ∧ vs[0]? = some (.ref (A 1)) ∧ vs[1]? = some (.int x2) := by
        subst er
        rw [hM] at n1
        cases n1
        have hl := (List.getElem?_eq_some_iff.mp n3).1
        refine ⟨_, _, am_same, ?_, ?_⟩
        · rw [h1', List.getElem?_set_self (by omega)]
        · rw [h1', List.getElem?_set_ne (by omega)]
          exact n3
      obtain ⟨cr, vr, r1, r2, r3⟩ := hr
      exact ⟨t, r, p, A 1, zr, zp, ⟨⟨ci, vs, (am_ne hox).trans m1, m2⟩, ⟨k1, k2, k3, hk1⟩, ⟨cr, vr, x2, r1, r2, r3, n4⟩, ⟨cp, vp, x3, s1, s2, p3⟩⟩, Or.inr (Or.inl (List.mem_singleton.mpr er))⟩
    refine ⟨t, r, p, b, zr, zp, ⟨⟨ci, vs, (am_ne hox).trans m1, m2⟩, ⟨k1, k2, k3, k4⟩, ⟨ci2, vs2, x2, (am_ne er).trans n1, n2, n3, n4⟩, ⟨cp, vp, x3, s1, s2, p3⟩⟩, ?_⟩
    rcases q2 with q2 | q2 | q2 | q2 | q2
    · exact Or.inl q2
    · exact Or.inr (Or.inl q2)
    · exact Or.inr (Or.inr (Or.inl q2))
    · exact Or.inr (Or.inr (Or.inr (Or.inl q2)))
    · refine Or.inr (Or.inr (Or.inr (Or.inr ?_)))
      have hel : ∀ c j, ql_el RO (am_set M (A 0) (.inr (cx, vx.set (tl_v V (tl_c 0)).toNat (.ref (A 1))))) c j = ql_el RO M c j := by
        intro c j
        unfold ql_el
        by_cases e : c = A 0
        · rw [e, am_same, hM]
        · rw [am_ne e]
      unfold sd_P at q2 ⊢
      rw [hel, hel, hel]
      exact q2
  · cases hp
/-- what is out may get another row: 0 the thing, 1 the row -/
def ij_w3 (t j : Nat) : tc_Lm := ((0, 2), ([], [], [], [], [], [], [(8 * t, [0], [])]), (0, 2), ([], [], [], [], [], [], [(8 * t + 3, [0, 1, 0], [tl_c (j : Int)])]))
theorem ij_w3_ok {l : List ga_S} {t K j : Nat} {RO : am_O} {T : tk_T} (h : l[t]? = some (ij_a K j)) : tc_lmt (tg_of l) RO T (ij_w3 t j) := by
  intro V A κ M sz hH hsz hx
  refine ⟨V, A, fun _ _ => rfl, fun _ _ => rfl, ?_⟩
  have g8 := (tg_at0 h).mp (hx.2.2.2.2.2.2.2 _ List.mem_cons_self)
  refine ⟨fun _ q => (List.not_mem_nil q).elim, fun _ q => (List.not_mem_nil q).elim, fun _ q => (List.not_mem_nil q).elim, fun _ q => (List.not_mem_nil q).elim, fun _ q => (List.not_mem_nil q).elim, fun _ q => (List.not_mem_nil q).elim, trivial, fun p hp => ?_⟩
  rcases List.mem_cons.mp hp with rfl | hp
  · unfold tc_xq tg_q
    have e : (8 * t + 3) % 8 = 3 := by omega
    have e2 : (8 * t + 3) / 8 = t := by omega
    dsimp only
    rw [e, e2]
    simp only [List.map_cons, List.map_nil]
    intro cx vx hM
    rw [tg_of_s h]
    intro o1 o2 p1 p2 p3 p4 p5 ci1 vs1 ci2 vs2 b m1 m2 f1
    have n1 : o1 ≠ A 0 := fun e => p3 (List.mem_singleton.mpr e)
    have n2 : o2 ≠ A 0 := fun e => p4 (List.mem_singleton.mpr e)
    rw [am_ne n1] at m1
    rw [am_ne n2] at m2
    exact g8 o1 o2 p1 p2 p3 p4 p5 ci1 vs1 ci2 vs2 b m1 m2 f1
  · cases hp
/-- a row that no thing has is given to one -/
def un_w3 (t j : Nat) : tc_Lm := ((0, 2), ([], [], [], [], [], [], [(8 * t, [1], [])]), (0, 2), ([], [], [], [], [], [], [(8 * t + 3, [0, 1, 0, 1], [tl_c (j : Int)])]))
theorem un_w3_ok {l : List ga_S} {t K j : Nat} {RO : am_O} {T : tk_T} (h : l[t]? = some (un_a K j)) : tc_lmt (tg_of l) RO T (un_w3 t j) := by
  intro V A κ M sz hH hsz hx
  refine ⟨V, A, fun _ _ => rfl, fun _ _ => rfl, ?_⟩
  have g8 := (tg_at0 h).mp (hx.2.2.2.2.2.2.2 _ List.mem_cons_self)
  have g8 : ∀ o, κ o = some K → ∀ ci vs, M o = some (.inr (ci, vs)) → vs[j]? ≠ some (.ref (A 1)) := g8
  refine ⟨fun _ q => (List.not_mem_nil q).elim, fun _ q => (List.not_mem_nil q).elim, fun _ q => (List.not_mem_nil q).elim, fun _ q => (List.not_mem_nil q).elim, fun _ q => (List.not_mem_nil q).elim, fun _ q => (List.not_mem_nil q).elim, trivial, fun p hp => ?_⟩
  rcases List.mem_cons.mp hp with rfl | hp
  · unfold tc_xq tg_q
    have e : (8 * t + 3) % 8 = 3 := by omega
    have e2 : (8 * t + 3) / 8 = t := by omega
    dsimp only
    rw [e, e2]
    simp only [List.map_cons, List.map_nil]
    intro cx vx hM
    rw [tg_of_s h]
    show ∀ o, κ o = some K → o ≠ A 0 → ∀ ci vs, am_set M (A 0) (.inr (cx, vx.set (tl_v V (tl_c (j : Int))).toNat (.ref (A 1)))) o = some (.inr (ci, vs)) → vs[j]? ≠ some (.ref (A 1))
    intro o ho hne ci vs m1
    rw [am_ne hne] at m1
    exact g8 o ho ci vs m1
  · cases hp
/-- what was just stored is there: names 0 where, 1 how long; 0 the row, 1 what -/
def re_put (u k : Nat) : tc_Lm := ((2, 2), ([ql_n 0, nn_d 1 0 (-1)], [(0, k)], [(0, ql_n 1)], [], [], [], []), (2, 2), ([], [], [], [], [], [], [(8 * u + 4, [0, 1, 0, 1], [ql_n 0, ql_n 0])]))
theorem re_put_ok {l : List ga_S} {u k : Nat} {RO : am_O} {T : tk_T} (hu : l[u]? = some (re_a k)) : tc_lmt (tg_of l) RO T (re_put u k) := by
  intro V A κ M sz hH hsz hx
  refine ⟨V, A, fun _ _ => rfl, fun _ _ => rfl, ?_⟩
  obtain ⟨h1, h2, h3, h4, h5, h6, h7, h8⟩ := hx
  have f0 := h1 _ List.mem_cons_self
  have f1 := h1 _ (List.mem_cons_of_mem _ List.mem_cons_self)
  rw [ql_n_s] at f0
  rw [nn_d_s] at f1
  have hk : κ (A 0) = some k := h2 _ List.mem_cons_self
  obtain ⟨m, l1, l2⟩ := h3 _ List.mem_cons_self
  dsimp only at l1 l2
  rw [ql_n_s] at l2
  refine ⟨fun _ q => (List.not_mem_nil q).elim, fun _ q => (List.not_mem_nil q).elim, fun _ q => (List.not_mem_nil q).elim, fun _ q => (List.not_mem_nil q).elim, fun _ q => (List.not_mem_nil q).elim, fun _ q => (List.not_mem_nil q).elim, trivial, fun p hp => ?_⟩
  rcases List.mem_cons.mp hp with rfl | hp
  · unfold tc_xq tg_q
    have e : (8 * u + 4) % 8 = 4 := by omega
    have e2 : (8 * u + 4) / 8 = u := by omega
    dsimp only
    rw [e, e2]
    simp only [List.map_cons, List.map_nil]
    intro ty n f hM
    have hn : m = n := tk_len_1 l1 (Or.inl ⟨ty, _, hM, rfl⟩)
    subst hn
    rw [tg_of_s hu]
    show κ (A 0) = some k ∧ ∃ (ty n : Nat) (f : Nat → Option Nat) (j : Nat), _ ∧ _
    rw [ql_n_s]
    refine ⟨hk, _, _, _, (V 0).toNat, am_same, by omega, by omega, ?_⟩
    unfold va_up
    rw [if_pos rfl]
  · cases hp
