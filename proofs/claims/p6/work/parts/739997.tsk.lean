/-! TC: sides: a row that is nobody's record's bytes is named beside what is out, and left out again (draft of session 11: not compiled yet; it goes behind 739996, then all behind it is built anew) -/
/-- one name more -/
def sd_wk (t : Nat) : tc_Lm := ((0, 2), ([], [], [], [], [], [], [(8 * t, [0], [])]), (0, 2), ([], [], [], [], [], [], [(8 * t, [0, 1], [])]))
theorem sd_wk_ok {l : List ga_S} {t : Nat} {S : sd_S} {RO : am_O} {T : tk_T} (h : l[t]? = some (sd_a S)) : tc_lmt (tg_of l) RO T (sd_wk t) := by
  intro V A κ M sz hH hsz hx
  refine ⟨V, A, fun _ _ => rfl, fun _ _ => rfl, ?_⟩
  have g8 := (tg_at0 h).mp (hx.2.2.2.2.2.2.2 _ List.mem_cons_self)
  refine ⟨fun _ q => (List.not_mem_nil q).elim, fun _ q => (List.not_mem_nil q).elim, fun _ q => (List.not_mem_nil q).elim, fun _ q => (List.not_mem_nil q).elim, fun _ q => (List.not_mem_nil q).elim, fun _ q => (List.not_mem_nil q).elim, trivial, fun p hp => ?_⟩
  rcases List.mem_cons.mp hp with rfl | hp
  · refine (tg_at0 h).mpr (fun o ho hna => ?_)
    have hna : o ∉ [A 0, A 1] := hna
    obtain ⟨t, r, p, b, zr, zp, q1, q2⟩ := g8 o ho (fun q => hna (by rw [List.mem_singleton.mp q]; exact List.mem_cons_self))
    have q2 : t ∈ [A 0] ∨ r ∈ [A 0] ∨ p ∈ [A 0] ∨ b ∈ [A 0] ∨ sd_P RO M t b zr zp := q2
    have up : ∀ {c : Nat}, c ∈ [A 0] → c ∈ [A 0, A 1] := fun q => by rw [List.mem_singleton.mp q]; exact List.mem_cons_self
    refine ⟨t, r, p, b, zr, zp, q1, ?_⟩
    rcases q2 with q2 | q2 | q2 | q2 | q2
    · exact Or.inl (up q2)
    · exact Or.inr (Or.inl (up q2))
    · exact Or.inr (Or.inr (Or.inl (up q2)))
    · exact Or.inr (Or.inr (Or.inr (Or.inl (up q2))))
    · exact Or.inr (Or.inr (Or.inr (Or.inr q2)))
  · cases hp
/-- a row that no record has as its bytes (1, by un's names [1]) need not be named -/
def sd_un2 (t u k : Nat) : tc_Lm := ((0, 2), ([], [(1, k)], [], [], [], [], [(8 * t, [0, 1], []), (8 * u, [1], [])]), (0, 2), ([], [], [], [], [], [], [(8 * t, [0], [])]))
theorem sd_un2_ok {l : List ga_S} {t u : Nat} {S : sd_S} {RO : am_O} {T : tk_T} (h : l[t]? = some (sd_a S)) (hu : l[u]? = some (un_a S.2.2.2.1 0)) (hk : sd_nk S = true) : tc_lmt (tg_of l) RO T (sd_un2 t u S.2.2.2.2.2) := by
  intro V A κ M sz hH hsz hx
  refine ⟨V, A, fun _ _ => rfl, fun _ _ => rfl, ?_⟩
  obtain ⟨h1, h2, h3, h4, h5, h6, h7, h8⟩ := hx
  have g8 := (tg_at0 h).mp (h8 _ List.mem_cons_self)
  have g9 := (tg_at0 hu).mp (h8 _ (List.mem_cons_of_mem _ List.mem_cons_self))
  have g9 : ∀ o, κ o = some S.2.2.2.1 → ∀ ci vs, M o = some (.inr (ci, vs)) → vs[0]? ≠ some (.ref (A 1)) := g9
  have c1 : κ (A 1) = some S.2.2.2.2.2 := h2 (1, _) List.mem_cons_self
  unfold sd_nk at hk
  simp only [decide_eq_true_eq, List.nodup_cons, List.mem_cons, not_or, List.not_mem_nil, not_false_eq_true, List.nodup_nil, and_true] at hk
  have ne : ∀ {c k : Nat}, κ c = some k → k ≠ S.2.2.2.2.2 → c ∈ [A 0, A 1] → c ∈ [A 0] := by
    intro c k hc hne q
    rcases List.mem_cons.mp q with q | q
    · rw [q]; exact List.mem_cons_self
    · rw [List.mem_singleton.mp q, c1] at hc
      cases hc
      exact (hne rfl).elim
  refine ⟨fun _ q => (List.not_mem_nil q).elim, fun _ q => (List.not_mem_nil q).elim, fun _ q => (List.not_mem_nil q).elim, fun _ q => (List.not_mem_nil q).elim, fun _ q => (List.not_mem_nil q).elim, fun _ q => (List.not_mem_nil q).elim, trivial, fun p hp => ?_⟩
  rcases List.mem_cons.mp hp with rfl | hp
  · refine (tg_at0 h).mpr (fun o ho hna => ?_)
    have hna : o ∉ [A 0] := hna
    obtain ⟨t, r, p, b, zr, zp, q1, q2⟩ := g8 o ho (fun q => hna (ne ho (fun e => by simp [e] at hk) q))
    have q2 : t ∈ [A 0, A 1] ∨ r ∈ [A 0, A 1] ∨ p ∈ [A 0, A 1] ∨ b ∈ [A 0, A 1] ∨ sd_P RO M t b zr zp := q2
    refine ⟨t, r, p, b, zr, zp, q1, ?_⟩
    obtain ⟨-, ⟨k1, k2, k3, k4⟩, ⟨ci2, vs2, x2, n1, n2, -, -⟩, -⟩ := q1
    rcases q2 with q2 | q2 | q2 | q2 | q2
    · exact Or.inl (ne k1 (fun e => by simp [e] at hk) q2)
    · exact Or.inr (Or.inl (ne k2 (fun e => by simp [e] at hk) q2))
    · exact Or.inr (Or.inr (Or.inl (ne k3 (fun e => by simp [e] at hk) q2)))
    · rcases List.mem_cons.mp q2 with q2 | q2
      · exact Or.inr (Or.inr (Or.inr (Or.inl (by rw [q2]; exact List.mem_cons_self))))
      · rw [List.mem_singleton.mp q2] at n2
        -- un with names [1]: no one has it (see un_p in 7398 for the shape of g9)
        exact absurd n2 (g9 r k2 ci2 vs2 n1)
    · exact Or.inr (Or.inr (Or.inr (Or.inr q2)))
  · cases hp
