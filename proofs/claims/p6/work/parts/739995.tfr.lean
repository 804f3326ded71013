/-! TC: what stays when ints of a row that is named are written; a side told by its record's bytes -/
def ga_fr (g : ga_S) : Prop := ∀ k : Nat, (k, 4000) ∈ g.2 → ∀ (RO : am_O) (κ : Nat → Option Nat) (M : am_H) (as : List Nat) (is : List Int) (a ty n : Nat) (f f' : Nat → Int32), a ∈ as → κ a = some k → M a = some (.inl (ty, n, .inl f)) → g.1 RO κ M as is → g.1 RO κ (am_set M a (.inl (ty, n, .inl f'))) as is
theorem ga_fr_no {g : ga_S} (h : g.2.all (fun q => !(q.2 == 4000)) = true) : ga_fr g := by
  intro k hk
  have := List.all_eq_true.mp h _ hk
  simp at this
theorem tg_of_fr {l : List ga_S} (h : ∀ s ∈ l, ga_fr s) : tg_fr (tg_of l) := by
  intro t k hk RO κ M as is a ty n f f' ha hκ hM g
  unfold tg_of at hk g ⊢
  dsimp only at hk g ⊢
  cases e : l[t]? with
  | none =>
    rw [e] at g
    exact g.elim
  | some s =>
    rw [e] at hk g
    exact h s (List.mem_of_getElem? e) k hk RO κ M as is a ty n f f' ha hκ hM g
theorem sd_a_fr (S : sd_S) : ga_fr (sd_a S) := by
  intro k hk RO κ M as is a ty n f f' ha hκ hM g8
  have g8 : sd_p S RO κ M as is := g8
  show sd_p S RO κ (am_set M a (.inl (ty, n, .inl f'))) as is
  intro o ho hna
  obtain ⟨t, r, p, b, zr, zp, q1, q2⟩ := g8 o ho hna
  obtain ⟨⟨ci, vs, m1, m2⟩, k1, ⟨ci2, vs2, x2, n1, n2⟩, ⟨ci3, vs3, x3, p1, p2⟩⟩ := q1
  have nx : ∀ {c ci vs}, M c = some (.inr (ci, vs)) → c ≠ a := by
    intro c ci vs hc e
    rw [e, hM] at hc
    cases hc
  refine ⟨t, r, p, b, zr, zp, ⟨⟨ci, vs, (am_ne (nx m1)).trans m1, m2⟩, k1, ⟨ci2, vs2, x2, (am_ne (nx n1)).trans n1, n2⟩, ⟨ci3, vs3, x3, (am_ne (nx p1)).trans p1, p2⟩⟩, ?_⟩
  by_cases et : t = a
  · exact Or.inl (by rw [et]; exact ha)
  by_cases eb : b = a
  · exact Or.inr (Or.inr (Or.inr (Or.inl (by rw [eb]; exact ha))))
  rcases q2 with q2 | q2 | q2 | q2 | q2
  · exact Or.inl q2
  · exact Or.inr (Or.inl q2)
  · exact Or.inr (Or.inr (Or.inl q2))
  · exact Or.inr (Or.inr (Or.inr (Or.inl q2)))
  · refine Or.inr (Or.inr (Or.inr (Or.inr ?_)))
    have hel : ∀ c j, c ≠ a → ql_el RO (am_set M a (.inl (ty, n, .inl f'))) c j = ql_el RO M c j := by
      intro c j e
      unfold ql_el
      rw [am_ne e]
    unfold sd_P at q2 ⊢
    rw [hel t 0 et, hel b 1 eb, hel b 2 eb]
    exact q2
/-- kinds of a record and of its bytes -/
def sd_kb (S : sd_S) : List (Nat × Nat) := [(0, S.2.2.2.1), (1, S.2.2.2.2.2)]
/-- out by its record (0): out by that one's bytes (1) -/
def sd_rb (t : Nat) (S : sd_S) : tc_Lm := ((0, 2), ([], sd_kb S, [], [(0, 0, tv_a 1)], [], [], [(8 * t, [0], [])]), (0, 2), ([], [], [], [], [], [], [(8 * t, [1], [])]))
theorem sd_rb_ok {l : List ga_S} {t : Nat} {S : sd_S} {RO : am_O} {T : tk_T} (h : l[t]? = some (sd_a S)) (hk : sd_nk S = true) : tc_lmt (tg_of l) RO T (sd_rb t S) := by
  intro V A κ M sz hH hsz hx
  refine ⟨V, A, fun _ _ => rfl, fun _ _ => rfl, ?_⟩
  obtain ⟨h1, h2, h3, h4, h5, h6, h7, h8⟩ := hx
  have g8 := (tg_at0 h).mp (h8 _ List.mem_cons_self)
  have c0 : κ (A 0) = some S.2.2.2.1 := h2 (0, _) (by simp [sd_rb, sd_kb])
  have c1 : κ (A 1) = some S.2.2.2.2.2 := h2 (1, _) (by simp [sd_rb, sd_kb])
  obtain ⟨cj, ws, v, d1, d2, d3⟩ := h4 _ List.mem_cons_self
  have d3 : v = .ref (A 1) := d3
  subst d3
  unfold sd_nk at hk
  simp only [decide_eq_true_eq, List.nodup_cons, List.mem_cons, not_or, List.not_mem_nil, not_false_eq_true, List.nodup_nil, and_true] at hk
  have ne : ∀ {c d k k' : Nat}, κ c = some k → κ d = some k' → k ≠ k' → c ∉ [d] := by
    intro c d k k' hc hd hne q
    rw [List.mem_singleton.mp q, hd] at hc
    cases hc
    exact hne rfl
  refine ⟨fun _ q => (List.not_mem_nil q).elim, fun _ q => (List.not_mem_nil q).elim, fun _ q => (List.not_mem_nil q).elim, fun _ q => (List.not_mem_nil q).elim, fun _ q => (List.not_mem_nil q).elim, fun _ q => (List.not_mem_nil q).elim, trivial, fun p hp => ?_⟩
  rcases List.mem_cons.mp hp with rfl | hp
  · refine (tg_at0 h).mpr (fun o ho _ => ?_)
    obtain ⟨t, r, p, b, zr, zp, q1, q2⟩ := g8 o ho (ne ho c0 (fun e => by simp [e] at hk))
    refine ⟨t, r, p, b, zr, zp, q1, ?_⟩
    obtain ⟨-, ⟨k1, k2, k3, k4⟩, ⟨ci2, vs2, x2, n1, n2, -, -⟩, -⟩ := q1
    have q2 : t ∈ [A 0] ∨ r ∈ [A 0] ∨ p ∈ [A 0] ∨ b ∈ [A 0] ∨ sd_P RO M t b zr zp := q2
    rcases q2 with q2 | q2 | q2 | q2 | q2
    · exact absurd q2 (ne k1 c0 (fun e => by simp [e] at hk))
    · have e := List.mem_singleton.mp q2
      subst e
      rw [d1] at n1
      cases n1
      dsimp only at d2
      rw [d2] at n2
      cases n2
      exact Or.inr (Or.inr (Or.inr (Or.inl List.mem_cons_self)))
    · exact absurd q2 (ne k3 c0 (fun e => by simp [e] at hk))
    · exact absurd q2 (ne k4 c0 (fun e => by simp [e] at hk))
    · exact Or.inr (Or.inr (Or.inr (Or.inr q2)))
  · cases hp
/-- and back: no other record has these bytes -/
def sd_br (t u : Nat) (S : sd_S) : tc_Lm := ((0, 2), ([], sd_kb S, [], [], [], [], [(8 * t, [1], []), (8 * u, [0, 1], [])]), (0, 2), ([], [], [], [], [], [], [(8 * t, [0], [])]))
theorem sd_br_ok {l : List ga_S} {t u : Nat} {S : sd_S} {RO : am_O} {T : tk_T} (h : l[t]? = some (sd_a S)) (hu : l[u]? = some (un_a S.2.2.2.1 0)) (hk : sd_nk S = true) : tc_lmt (tg_of l) RO T (sd_br t u S) := by
  intro V A κ M sz hH hsz hx
  refine ⟨V, A, fun _ _ => rfl, fun _ _ => rfl, ?_⟩
  obtain ⟨h1, h2, h3, h4, h5, h6, h7, h8⟩ := hx
  have g8 := (tg_at0 h).mp (h8 _ List.mem_cons_self)
  have g9 := (tg_at0 hu).mp (h8 _ (List.mem_cons_of_mem _ List.mem_cons_self))
  have g9 : ∀ o, κ o = some S.2.2.2.1 → o ≠ A 0 → ∀ ci vs, M o = some (.inr (ci, vs)) → vs[0]? ≠ some (.ref (A 1)) := g9
  have c0 : κ (A 0) = some S.2.2.2.1 := h2 (0, _) (by simp [sd_br, sd_kb])
  have c1 : κ (A 1) = some S.2.2.2.2.2 := h2 (1, _) (by simp [sd_br, sd_kb])
  unfold sd_nk at hk
  simp only [decide_eq_true_eq, List.nodup_cons, List.mem_cons, not_or, List.not_mem_nil, not_false_eq_true, List.nodup_nil, and_true] at hk
  have ne : ∀ {c d k k' : Nat}, κ c = some k → κ d = some k' → k ≠ k' → c ∉ [d] := by
    intro c d k k' hc hd hne q
    rw [List.mem_singleton.mp q, hd] at hc
    cases hc
    exact hne rfl
  refine ⟨fun _ q => (List.not_mem_nil q).elim, fun _ q => (List.not_mem_nil q).elim, fun _ q => (List.not_mem_nil q).elim, fun _ q => (List.not_mem_nil q).elim, fun _ q => (List.not_mem_nil q).elim, fun _ q => (List.not_mem_nil q).elim, trivial, fun p hp => ?_⟩
  rcases List.mem_cons.mp hp with rfl | hp
  · refine (tg_at0 h).mpr (fun o ho _ => ?_)
    obtain ⟨t, r, p, b, zr, zp, q1, q2⟩ := g8 o ho (ne ho c1 (fun e => by simp [e] at hk))
    refine ⟨t, r, p, b, zr, zp, q1, ?_⟩
    obtain ⟨-, ⟨k1, k2, k3, k4⟩, ⟨ci2, vs2, x2, n1, n2, -, -⟩, -⟩ := q1
    have q2 : t ∈ [A 1] ∨ r ∈ [A 1] ∨ p ∈ [A 1] ∨ b ∈ [A 1] ∨ sd_P RO M t b zr zp := q2
    rcases q2 with q2 | q2 | q2 | q2 | q2
    · exact absurd q2 (ne k1 c1 (fun e => by simp [e] at hk))
    · exact absurd q2 (ne k2 c1 (fun e => by simp [e] at hk))
    · exact absurd q2 (ne k3 c1 (fun e => by simp [e] at hk))
    · rw [List.mem_singleton.mp q2] at n2
      by_cases e : r = A 0
      · exact Or.inr (Or.inl (List.mem_singleton.mpr e))
      · exact absurd n2 (g9 r k2 e ci2 vs2 n1)
    · exact Or.inr (Or.inr (Or.inr (Or.inr q2)))
  · cases hp
