/-! TC: sides: what is told is written, but not whether it is over -/
/-- an int is stored into a row of what is told, not at its beginning; s: names that are out. Names 0 where, 1 what -/
def sd_n1 (t k s : Nat) : tc_Lm := ((2, s + 1), ([([(0, 1)], -1)], [(s, k)], [], [], [], [], [(8 * t, List.range s, [])]), (2, s + 1), ([], [], [], [], [], [], [(8 * t + 1, s :: List.range s, [ql_n 0, ql_n 1])]))
theorem sd_n1_ok {l : List ga_S} {t s : Nat} {S : sd_S} {RO : am_O} {T : tk_T} (h : l[t]? = some (sd_a S)) (hk : sd_nk S = true) : tc_lmt (tg_of l) RO T (sd_n1 t S.2.2.1 s) := by
  intro V A κ M sz hH hsz hx
  refine ⟨V, A, fun _ _ => rfl, fun _ _ => rfl, ?_⟩
  obtain ⟨h1, h2, h3, h4, h5, h6, h7, h8⟩ := hx
  have g8 := (tg_at0 h).mp (h8 _ List.mem_cons_self)
  have c0 : κ (A s) = some S.2.2.1 := h2 (s, _) List.mem_cons_self
  have f0 := h1 _ List.mem_cons_self
  simp only [tl_v, tl_s] at f0
  unfold sd_nk at hk
  simp only [decide_eq_true_eq, List.nodup_cons, List.mem_cons, not_or, List.not_mem_nil, not_false_eq_true, List.nodup_nil, and_true] at hk
  refine ⟨fun _ q => (List.not_mem_nil q).elim, fun _ q => (List.not_mem_nil q).elim, fun _ q => (List.not_mem_nil q).elim, fun _ q => (List.not_mem_nil q).elim, fun _ q => (List.not_mem_nil q).elim, fun _ q => (List.not_mem_nil q).elim, trivial, fun p hp => ?_⟩
  rcases List.mem_cons.mp hp with rfl | hp
  · unfold tc_xq tg_q
    have e : (8 * t + 1) % 8 = 1 := by omega
    have e2 : (8 * t + 1) / 8 = t := by omega
    dsimp only
    rw [e, e2]
    simp only [List.map_cons, List.map_nil]
    intro ty n f x hM _
    rw [tg_of_s h]
    intro o ho hna
    obtain ⟨t, r, p, b, zr, zp, q1, q2⟩ := g8 o ho hna
    obtain ⟨⟨ci, vs, m1, m2⟩, ⟨k1, k2, k3, k4⟩, ⟨ci2, vs2, x2, n1, n2⟩, ⟨ci3, vs3, x3, p1, p2⟩⟩ := q1
    have nx : ∀ {c ci vs}, M c = some (.inr (ci, vs)) → c ≠ A s := by
      intro c ci vs hc e
      rw [e, hM] at hc
      cases hc
    refine ⟨t, r, p, b, zr, zp, ⟨⟨ci, vs, (am_ne (nx m1)).trans m1, m2⟩, ⟨k1, k2, k3, k4⟩, ⟨ci2, vs2, x2, (am_ne (nx n1)).trans n1, n2⟩, ⟨ci3, vs3, x3, (am_ne (nx p1)).trans p1, p2⟩⟩, ?_⟩
    rcases q2 with q2 | q2 | q2 | q2 | q2
    · exact Or.inl q2
    · exact Or.inr (Or.inl q2)
    · exact Or.inr (Or.inr (Or.inl q2))
    · exact Or.inr (Or.inr (Or.inr (Or.inl q2)))
    · refine Or.inr (Or.inr (Or.inr (Or.inr ?_)))
      have hb : b ≠ A s := by
        intro e
        rw [e, c0] at k4
        have e2 := Option.some.inj k4
        simp [e2] at hk
      have h0 : ql_el RO (am_set M (A s) (.inl (ty, n, .inl (upd f (tl_v V (ql_n 0)).toNat x)))) t 0 = ql_el RO M t 0 := by
        refine ql_el_s hM (Or.inr ?_)
        rw [ql_n_s]
        omega
      unfold sd_P at q2 ⊢
      rw [h0, ql_el_s hM (Or.inl hb), ql_el_s hM (Or.inl hb)]
      exact q2
  · cases hp
