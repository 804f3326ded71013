/-! TC: how it begins: rows of 0s told together; the first row of a kind; room is not below 0 -/
theorem ql_ks_app {κ : Nat → Option Nat} : ∀ {ts ts' : List (Nat × Nat × Nat × Int)} {as as' : List Nat}, ql_ks κ ts as → ql_ks κ ts' as' → ql_ks κ (ts ++ ts') (as ++ as')
  | [], _, [], _, _, h => h
  | [], _, _ :: _, _, h, _ => by cases h
  | _ :: _, _, [], _, h, _ => by cases h
  | _ :: _, _, _ :: _, _, h, g => ⟨h.1, ql_ks_app h.2 g⟩
theorem ql_sum_app {RO : am_O} {M : am_H} {κ : Nat → Option Nat} {s : Nat} : ∀ {ts ts' : List (Nat × Nat × Nat × Int)} {as as' : List Nat}, ql_ks κ ts as → ql_sum RO M (ts ++ ts') (as ++ as') s = ql_sum RO M ts as s + ql_sum RO M ts' as' s
  | [], _, [], _, _ => by simp [ql_sum]
  | [], _, _ :: _, _, h => by cases h
  | _ :: _, _, [], _, h => by cases h
  | (k, α, β, c) :: ts, ts', a :: as, as', h => by
    have e := ql_sum_app (RO := RO) (M := M) (s := s) (ts := ts) (ts' := ts') (as := as) (as' := as') h.2
    show c * ql_el RO M a (α * s + β) + ql_sum RO M (ts ++ ts') (as ++ as') s = c * ql_el RO M a (α * s + β) + ql_sum RO M ts as s + ql_sum RO M ts' as' s
    rw [e]
    omega
/-- two atoms over one stretch, told together: names 0 L, 1 H; nothing is given -/
def ql_add (t1 t2 t n1 n2 : Nat) : tc_Lm := ((2, n1 + n2), ([], [], [], [], [], [], [(8 * t1, List.range n1, [ql_n 0, ql_n 1, nn_m]), (8 * t2, (List.range n2).map (fun i => n1 + i), [ql_n 0, ql_n 1, nn_m])]), (2, n1 + n2), ([], [], [], [], [], [], [(8 * t, List.range n1 ++ (List.range n2).map (fun i => n1 + i), [ql_n 0, ql_n 1, nn_m])]))
theorem ql_add_ok {l : List ga_S} {t1 t2 t n1 n2 : Nat} {S1 S2 S : ql_S} {RO : am_O} {T : tk_T} (h1 : l[t1]? = some (ql_a S1)) (h2 : l[t2]? = some (ql_a S2)) (h : l[t]? = some (ql_a S)) (e : S = (S1.1 ++ S2.1, [], S1.2.2 + S2.2.2)) (e1 : S1.2.1 = []) (e2 : S2.2.1 = []) : tc_lmt (tg_of l) RO T (ql_add t1 t2 t n1 n2) := by
  intro V A κ M sz hH hsz hx
  refine ⟨V, A, fun _ _ => rfl, fun _ _ => rfl, ?_⟩
  have g1 := (tg_at0 h1).mp (hx.2.2.2.2.2.2.2 _ List.mem_cons_self)
  have g2 := (tg_at0 h2).mp (hx.2.2.2.2.2.2.2 _ (List.mem_cons_of_mem _ List.mem_cons_self))
  refine ⟨fun _ q => (List.not_mem_nil q).elim, fun _ q => (List.not_mem_nil q).elim, fun _ q => (List.not_mem_nil q).elim, fun _ q => (List.not_mem_nil q).elim, fun _ q => (List.not_mem_nil q).elim, fun _ q => (List.not_mem_nil q).elim, trivial, fun p hp => ?_⟩
  rcases List.mem_cons.mp hp with rfl | hp
  · refine (tg_at0 h).mpr ?_
    rw [List.map_append]
    have g1 : ql_p S1 RO κ M ((List.range n1).map A) [tl_v V (ql_n 0), tl_v V (ql_n 1), tl_v V nn_m] := g1
    have g2 : ql_p S2 RO κ M (((List.range n2).map (fun i => n1 + i)).map A) [tl_v V (ql_n 0), tl_v V (ql_n 1), tl_v V nn_m] := g2
    show ql_p S RO κ M ((List.range n1).map A ++ ((List.range n2).map (fun i => n1 + i)).map A) [tl_v V (ql_n 0), tl_v V (ql_n 1), tl_v V nn_m]
    subst e
    unfold ql_p at g1 g2 ⊢
    dsimp only at g1 g2 ⊢
    refine ⟨ql_ks_app g1.1 g2.1, fun s q1 q2 q3 => ?_⟩
    have f1 := g1.2 s q1 q2 q3
    have f2 := g2.2 s q1 q2 q3
    rw [ql_sum_app g1.1]
    rw [e1] at f1
    rw [e2] at f2
    simp only [ql_dot] at f1 f2 ⊢
    omega
  · cases hp
/-- sizes of 0: no chain is said to be there; names of addresses: 0 bytes, 1 sizes -/
def fa_nil (t t0 k : Nat) : tc_Lm := ((0, 2), ([], [(0, k)], [], [], [], [], [(8 * t0, [1], [tl_c 0, tl_c 12, nn_m])]), (0, 2), ([], [], [], [], [], [], [(8 * t, [0, 1], [nn_m])]))
theorem fa_nil_ok {l : List ga_S} {t t0 : Nat} {S : sg_S × Nat} {RO : am_O} {T : tk_T} (h : l[t]? = some (fa_a S)) (h0 : l[t0]? = some (ql_a ([(S.2, 1, 0, -1)], [], 0))) : tc_lmt (tg_of l) RO T (fa_nil t t0 S.1.1) := by
  intro V A κ M sz hH hsz hx
  refine ⟨V, A, fun _ _ => rfl, fun _ _ => rfl, ?_⟩
  have g0 := (tg_at0 h0).mp (hx.2.2.2.2.2.2.2 _ List.mem_cons_self)
  have hk := hx.2.1 _ List.mem_cons_self
  refine ⟨fun _ q => (List.not_mem_nil q).elim, fun _ q => (List.not_mem_nil q).elim, fun _ q => (List.not_mem_nil q).elim, fun _ q => (List.not_mem_nil q).elim, fun _ q => (List.not_mem_nil q).elim, fun _ q => (List.not_mem_nil q).elim, trivial, fun p hp => ?_⟩
  rcases List.mem_cons.mp hp with rfl | hp
  · refine (tg_at0 h).mpr ?_
    have g0 : ql_p ([(S.2, 1, 0, -1)], [], 0) RO κ M [A 1] [tl_v V (tl_c 0), tl_v V (tl_c 12), tl_v V nn_m] := g0
    show fa_p S RO κ M [A 0, A 1] [tl_v V nn_m]
    unfold ql_p at g0
    dsimp only at g0
    refine ⟨hk, g0.1.1, fun c hc hX h8 => ?_⟩
    have f := g0.2 c (by rw [tl_c_s]; omega) (by rw [tl_c_s]; omega) hX
    simp only [ql_sum, ql_dot] at f
    have e : 1 * c + 0 = c := by omega
    rw [e] at f
    omega
  · cases hp
/-- counts of 0: rows of different numbers; names of addresses: 0 rows, 1 counts -/
def da_nil (t t0 k : Nat) : tc_Lm := ((0, 2), ([], [(0, k)], [], [], [], [], [(8 * t0, [1], [tl_c 0, tl_c 8, nn_m])]), (0, 2), ([], [], [], [], [], [], [(8 * t, [0, 1], [])]))
theorem da_nil_ok {l : List ga_S} {t t0 : Nat} {S : Nat × Nat} {RO : am_O} {T : tk_T} (h : l[t]? = some (da_a S)) (h0 : l[t0]? = some (ql_a ([(S.2, 1, 0, -1)], [], 0))) : tc_lmt (tg_of l) RO T (da_nil t t0 S.1) := by
  intro V A κ M sz hH hsz hx
  refine ⟨V, A, fun _ _ => rfl, fun _ _ => rfl, ?_⟩
  have g0 := (tg_at0 h0).mp (hx.2.2.2.2.2.2.2 _ List.mem_cons_self)
  have hk := hx.2.1 _ List.mem_cons_self
  refine ⟨fun _ q => (List.not_mem_nil q).elim, fun _ q => (List.not_mem_nil q).elim, fun _ q => (List.not_mem_nil q).elim, fun _ q => (List.not_mem_nil q).elim, fun _ q => (List.not_mem_nil q).elim, fun _ q => (List.not_mem_nil q).elim, trivial, fun p hp => ?_⟩
  rcases List.mem_cons.mp hp with rfl | hp
  · refine (tg_at0 h).mpr ?_
    have g0 : ql_p ([(S.2, 1, 0, -1)], [], 0) RO κ M [A 1] [tl_v V (tl_c 0), tl_v V (tl_c 8), tl_v V nn_m] := g0
    show da_p S RO κ M [A 0, A 1] []
    unfold ql_p at g0
    dsimp only at g0
    have hz : ∀ e : Nat, e < 8 → ql_el RO M (A 1) e ≤ 0 := fun e he => by
      have f := g0.2 e (by rw [tl_c_s]; omega) (by rw [tl_c_s]; omega) (by
        have : tl_v V nn_m = -1 := tl_c_s V (-1)
        rw [this]
        omega)
      simp only [ql_sum, ql_dot] at f
      have q : 1 * e + 0 = e := by omega
      rw [q] at f
      omega
    refine ⟨hk, g0.1.1, fun e he => ⟨fun i hi => ?_, fun i j q hj => ?_⟩⟩
    · have := hz e he
      omega
    · have := hz e he
      omega
  · cases hp
/-- the one row of a kind, and its ints are not below 0 -/
def ky_p (K : Nat) (RO : am_O) (κ : Nat → Option Nat) (M : am_H) (as : List Nat) (is : List Int) : Prop := match as with
  | [h] => (∀ a, κ a = some K → a = h) ∧ κ h = some K ∧ ∀ j, 0 ≤ ql_el RO M h j
  | _ => False
def ky_a (K : Nat) : ga_S := (ky_p K, [(K, 0), (K, 1000)])
theorem ky_a_ok (K : Nat) : ga_ok (ky_a K) := by
  intro RO κ κ' M M' as is h1 h2 h3 h4
  unfold ky_a at h2 h3 h4 ⊢
  dsimp only at h2 h3 h4 ⊢
  unfold ky_p at h4 ⊢
  split
  · dsimp only at h4
    obtain ⟨g1, g2, g3⟩ := h4
    refine ⟨fun a ha => ?_, h1 _ _ g2, fun j => ?_⟩
    · cases e : κ a with
      | none => exact absurd (List.mem_cons_of_mem _ List.mem_cons_self) (h2 a K ha e)
      | some k =>
        have := h1 a k e
        rw [ha] at this
        cases this
        exact g1 a e
    · rw [ql_el_k (h3 _ _ g2) List.mem_cons_self]
      exact g3 j
  · rename_i hn
    split at h4
    · exact (hn _ rfl).elim
    · exact h4
/-- the first row of a kind -/
def ky_new (t u K : Nat) : tc_Lm := ((0, 0), ([], [], [], [], [], [], [(8 * t, [], [])]), (0, 0), ([], [], [], [], [], [], [(8 * u + 7, [], [tl_c (K : Int)])]))
theorem ky_new_ok {l : List ga_S} {t u K : Nat} {RO : am_O} {T : tk_T} (h : l[t]? = some (no_a K)) (hu : l[u]? = some (ky_a K)) : tc_lmt (tg_of l) RO T (ky_new t u K) := by
  intro V A κ M sz hH hsz hx
  refine ⟨V, A, fun _ _ => rfl, fun _ _ => rfl, ?_⟩
  have g8 := (tg_at0 h).mp (hx.2.2.2.2.2.2.2 _ List.mem_cons_self)
  refine ⟨fun _ q => (List.not_mem_nil q).elim, fun _ q => (List.not_mem_nil q).elim, fun _ q => (List.not_mem_nil q).elim, fun _ q => (List.not_mem_nil q).elim, fun _ q => (List.not_mem_nil q).elim, fun _ q => (List.not_mem_nil q).elim, trivial, fun p hp => ?_⟩
  rcases List.mem_cons.mp hp with rfl | hp
  · unfold tc_xq tg_q
    have e : (8 * u + 7) % 8 = 7 := by omega
    have e2 : (8 * u + 7) / 8 = u := by omega
    dsimp only
    rw [e, e2]
    simp only [List.map_cons, List.map_nil]
    rw [tl_c_s, Int.toNat_natCast]
    intro a κ' M' q0 q1 qz q2 q3
    rw [tg_of_s hu]
    show (∀ b, κ' b = some K → b = a) ∧ κ' a = some K ∧ ∀ j, 0 ≤ ql_el RO M' a j
    refine ⟨fun b hb => ?_, q1, fun j => ?_⟩
    · cases e : κ b with
      | none => exact q3 b K hb e
      | some k =>
        have := (q2 b k e).1
        rw [hb] at this
        cases this
        exact absurd e (g8 b)
    · rw [ql_el_z qz]
      exact Int.le_refl _
  · cases hp
/-- what is so of the one row is so of all of its kind -/
def ky_kx (t u : Nat) : tc_Lm := ((0, 1), ([], [], [], [], [], [], [(8 * t, [0], [])]), (0, 1), ([], [], [], [], [], [], [(8 * u, [], [])]))
theorem ky_kx_ok {l : List ga_S} {t u : Nat} {S : Nat × Int} {RO : am_O} {T : tk_T} (h : l[t]? = some (ky_a S.1)) (hu : l[u]? = some (kx_a S)) : tc_lmt (tg_of l) RO T (ky_kx t u) := by
  intro V A κ M sz hH hsz hx
  refine ⟨V, A, fun _ _ => rfl, fun _ _ => rfl, ?_⟩
  have g8 := (tg_at0 h).mp (hx.2.2.2.2.2.2.2 _ List.mem_cons_self)
  have g8 : ky_p S.1 RO κ M [A 0] [] := g8
  obtain ⟨g1, g2, g3⟩ := g8
  refine ⟨fun _ q => (List.not_mem_nil q).elim, fun _ q => (List.not_mem_nil q).elim, fun _ q => (List.not_mem_nil q).elim, fun _ q => (List.not_mem_nil q).elim, fun _ q => (List.not_mem_nil q).elim, fun _ q => (List.not_mem_nil q).elim, trivial, fun p hp => ?_⟩
  rcases List.mem_cons.mp hp with rfl | hp
  · refine (kx_at_s hu).mpr fun a ha j => ?_
    rw [g1 a ha]
    exact .inr (g3 j)
  · cases hp
