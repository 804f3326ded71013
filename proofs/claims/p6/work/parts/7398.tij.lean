/-! TC: no two things of a kind have one row; a row that no other one has; stores into it -/
/-- no thing of a kind (but one) has this in field j: names [what] or [the one, what] -/
def un_p (K j : Nat) (RO : am_O) (κ : Nat → Option Nat) (M : am_H) (as : List Nat) (is : List Int) : Prop := match as with
  | [b] => ∀ o, κ o = some K → ∀ ci vs, M o = some (.inr (ci, vs)) → vs[j]? ≠ some (.ref b)
  | [o1, b] => ∀ o, κ o = some K → o ≠ o1 → ∀ ci vs, M o = some (.inr (ci, vs)) → vs[j]? ≠ some (.ref b)
  | _ => False
def un_a (K j : Nat) : ga_S := (un_p K j, [(K, j), (K, 1000)])
theorem un_kp {K j k : Nat} {c c' : Option am_E} (h : tg_kp [(K, j), (K, 1000)] K c c') {ci : Nat} {vs' : List Value} (e : c' = some (.inr (ci, vs'))) : ∃ vs, c = some (.inr (ci, vs)) ∧ vs'[j]? = vs[j]? := by
  obtain ⟨h1, h2, h3⟩ := h
  cases hc : c with
  | none =>
    rw [h3 hc] at e
    cases e
  | some d =>
    rcases d with ⟨t, x⟩ | ⟨ci0, vs⟩
    · obtain ⟨x', g1, -⟩ := h2 t x hc
      rw [g1] at e
      cases e
    · obtain ⟨vs2, g1, g2⟩ := h1 ci0 vs hc
      rw [g1] at e
      cases e
      exact ⟨vs, rfl, g2 j List.mem_cons_self⟩
theorem un_old {K : Nat} {κ κ' : Nat → Option Nat} {F : List (Nat × Nat)} (hF : (K, 1000) ∈ F) (h1 : ∀ a k, κ a = some k → κ' a = some k) (h2 : ∀ a k, κ' a = some k → κ a = none → (k, 1000) ∉ F) {o : Nat} (ho : κ' o = some K) : κ o = some K := by
  cases e : κ o with
  | none => exact absurd hF (h2 o K ho e)
  | some k =>
    have := h1 o k e
    rw [ho] at this
    exact this.symm
theorem un_a_ok (K j : Nat) : ga_ok (un_a K j) := by
  intro RO κ κ' M M' as is h1 h2 h3 h4
  unfold un_a at h2 h3 h4 ⊢
  dsimp only at h2 h3 h4 ⊢
  unfold un_p at h4 ⊢
  have hold : ∀ o, κ' o = some K → κ o = some K := fun o ho => un_old (List.mem_cons_of_mem _ List.mem_cons_self) h1 h2 ho
  split
  · dsimp only at h4
    intro o ho ci vs hM
    obtain ⟨vs0, e1, e2⟩ := un_kp (k := 0) (h3 o K (hold o ho)) hM
    rw [e2]
    exact h4 o (hold o ho) ci vs0 e1
  · dsimp only at h4
    intro o ho hne ci vs hM
    obtain ⟨vs0, e1, e2⟩ := un_kp (k := 0) (h3 o K (hold o ho)) hM
    rw [e2]
    exact h4 o (hold o ho) hne ci vs0 e1
  · rename_i n1 n2
    split at h4
    · exact (n1 _ rfl).elim
    · exact (n2 _ _ rfl).elim
    · exact h4
/-- no two of a kind (but one) have one thing in field j -/
def ij_p (K j : Nat) (RO : am_O) (κ : Nat → Option Nat) (M : am_H) (as : List Nat) (is : List Int) : Prop := ∀ o1 o2, κ o1 = some K → κ o2 = some K → o1 ∉ as → o2 ∉ as → o1 ≠ o2 → ∀ ci1 vs1 ci2 vs2 b, M o1 = some (.inr (ci1, vs1)) → M o2 = some (.inr (ci2, vs2)) → vs1[j]? = some (.ref b) → vs2[j]? ≠ some (.ref b)
def ij_a (K j : Nat) : ga_S := (ij_p K j, [(K, j), (K, 1000)])
theorem ij_a_ok (K j : Nat) : ga_ok (ij_a K j) := by
  intro RO κ κ' M M' as is h1 h2 h3 h4
  have hold : ∀ o, κ' o = some K → κ o = some K := fun o ho => un_old (F := (ij_a K j).2) (List.mem_cons_of_mem _ List.mem_cons_self) h1 h2 ho
  intro o1 o2 q1 q2 q3 q4 q5 ci1 vs1 ci2 vs2 b m1 m2 f1
  obtain ⟨ws1, e1, e2⟩ := un_kp (k := 0) (h3 o1 K (hold o1 q1)) m1
  obtain ⟨ws2, e3, e4⟩ := un_kp (k := 0) (h3 o2 K (hold o2 q2)) m2
  rw [e4]
  rw [e2] at f1
  exact h4 o1 o2 (hold o1 q1) (hold o2 q2) q3 q4 q5 ci1 ws1 ci2 ws2 b e1 e3 f1
theorem tg_at0 {l : List ga_S} {t : Nat} {g : ga_S} (h : l[t]? = some g) {RO : am_O} {κ : Nat → Option Nat} {M : am_H} {V : Nat → Int} {A : Nat → Nat} {as : List Nat} {fs : List tl_F} : tc_xq (tg_of l) RO κ M V A (8 * t, as, fs) ↔ g.1 RO κ M (as.map A) (fs.map (tl_v V)) := by
  have e : (8 * t, as, fs).1 % 8 = 0 := by
    show 8 * t % 8 = 0
    omega
  have e2 : (8 * t, as, fs).1 / 8 = t := by
    show 8 * t / 8 = t
    omega
  rw [tg_q0 e, e2, tg_of_s h]
/-- a row that is just being made: no thing has it -/
def un_mk (t k : Nat) : tc_Lm := ((0, 0), ([], [], [], [], [], [], []), (0, 0), ([], [], [], [], [], [], [(8 * t + 7, [], [tl_c (k : Int)])]))
theorem un_mk_ok {l : List ga_S} {t K j k : Nat} {RO : am_O} {T : tk_T} (h : l[t]? = some (un_a K j)) (hk : k ≠ K) {R : Nat × List tk_F × List tk_E × Int × Int × List tl_F} (hT : T[K]? = some (0, R)) : tc_lmt (tg_of l) RO T (un_mk t k) := by
  intro V A κ M sz hH hsz hx
  refine ⟨V, A, fun _ _ => rfl, fun _ _ => rfl, ?_⟩
  refine ⟨fun _ q => (List.not_mem_nil q).elim, fun _ q => (List.not_mem_nil q).elim, fun _ q => (List.not_mem_nil q).elim, fun _ q => (List.not_mem_nil q).elim, fun _ q => (List.not_mem_nil q).elim, fun _ q => (List.not_mem_nil q).elim, trivial, fun p hp => ?_⟩
  rcases List.mem_cons.mp hp with rfl | hp
  · unfold tc_xq tg_q
    have e : (8 * t + 7) % 8 = 7 := by omega
    have e2 : (8 * t + 7) / 8 = t := by omega
    dsimp only
    rw [e, e2]
    simp only [List.map_cons, List.map_nil]
    rw [tl_c_s, Int.toNat_natCast]
    intro a κ' M' q0 q1 qz q2 q3
    rw [tg_of_s h]
    show ∀ o, κ' o = some K → ∀ ci vs, M' o = some (.inr (ci, vs)) → vs[j]? ≠ some (.ref a)
    intro o ho ci vs hM hv
    cases e : κ o with
    | none =>
      have := q3 o K ho e
      subst this
      rw [q1] at ho
      cases ho
      exact hk rfl
    | some k1 =>
      have e3 := q2 o k1 e
      rw [ho] at e3
      obtain ⟨e4, e5⟩ := e3
      cases e4
      rw [e5] at hM
      obtain ⟨-, K', g1, g2⟩ := hH o K e
      rw [hT] at g1
      cases g1
      obtain ⟨ci', fs, E, lo, hi, O⟩ := R
      obtain ⟨ws, g3, g4, -⟩ := g2
      rw [hM] at g3
      cases g3
      have hj : j < vs.length := (List.getElem?_eq_some_iff.mp hv).1
      have hf : j < fs.length := by
        rw [← tk_vs_ln g4]
        exact hj
      obtain ⟨v, v1, v2⟩ := tk_vs_at (τ := fs[j]) g4 (List.getElem?_eq_getElem hf)
      rw [hv] at v1
      cases v1
      obtain ⟨k2, g5, -⟩ := tk_ok_ref v2
      rw [q0] at g5
      cases g5
  · cases hp
/-- another thing of the kind comes, which may have it -/
def un_new (t K : Nat) : tc_Lm := ((0, 1), ([], [], [], [], [], [], [(8 * t, [0], [])]), (0, 1), ([], [], [], [], [], [], [(8 * t + 7, [0], [tl_c (K : Int)])]))
theorem un_new_ok {l : List ga_S} {t K j : Nat} {RO : am_O} {T : tk_T} (h : l[t]? = some (un_a K j)) : tc_lmt (tg_of l) RO T (un_new t K) := by
  intro V A κ M sz hH hsz hx
  refine ⟨V, A, fun _ _ => rfl, fun _ _ => rfl, ?_⟩
  obtain ⟨h1, h2, h3, h4, h5, h6, h7, h8⟩ := hx
  have g8 := (tg_at0 h).mp (h8 _ List.mem_cons_self)
  refine ⟨fun _ q => (List.not_mem_nil q).elim, fun _ q => (List.not_mem_nil q).elim, fun _ q => (List.not_mem_nil q).elim, fun _ q => (List.not_mem_nil q).elim, fun _ q => (List.not_mem_nil q).elim, fun _ q => (List.not_mem_nil q).elim, trivial, fun p hp => ?_⟩
  rcases List.mem_cons.mp hp with rfl | hp
  · unfold tc_xq tg_q
    have e : (8 * t + 7) % 8 = 7 := by omega
    have e2 : (8 * t + 7) / 8 = t := by omega
    dsimp only
    rw [e, e2]
    simp only [List.map_cons, List.map_nil]
    rw [tl_c_s, Int.toNat_natCast]
    intro a κ' M' q0 q1 qz q2 q3
    rw [tg_of_s h]
    show ∀ o, κ' o = some K → o ≠ a → ∀ ci vs, M' o = some (.inr (ci, vs)) → vs[j]? ≠ some (.ref (A 0))
    intro o ho hne ci vs hM
    cases e : κ o with
    | none => exact absurd (q3 o K ho e) hne
    | some k1 =>
      have e3 := q2 o k1 e
      rw [ho] at e3
      obtain ⟨e4, e5⟩ := e3
      cases e4
      rw [e5] at hM
      exact g8 o e ci vs hM
  · cases hp
/-- another thing of the kind comes, which is out then -/
def ij_new (t K : Nat) : tc_Lm := ((0, 0), ([], [], [], [], [], [], [(8 * t, [], [])]), (0, 0), ([], [], [], [], [], [], [(8 * t + 7, [], [tl_c (K : Int)])]))
theorem ij_new_ok {l : List ga_S} {t K j : Nat} {RO : am_O} {T : tk_T} (h : l[t]? = some (ij_a K j)) : tc_lmt (tg_of l) RO T (ij_new t K) := by
  intro V A κ M sz hH hsz hx
  refine ⟨V, A, fun _ _ => rfl, fun _ _ => rfl, ?_⟩
  obtain ⟨h1, h2, h3, h4, h5, h6, h7, h8⟩ := hx
  have g8 := (tg_at0 h).mp (h8 _ List.mem_cons_self)
  refine ⟨fun _ q => (List.not_mem_nil q).elim, fun _ q => (List.not_mem_nil q).elim, fun _ q => (List.not_mem_nil q).elim, fun _ q => (List.not_mem_nil q).elim, fun _ q => (List.not_mem_nil q).elim, fun _ q => (List.not_mem_nil q).elim, trivial, fun p hp => ?_⟩
  rcases List.mem_cons.mp hp with rfl | hp
  · unfold tc_xq tg_q
    have e : (8 * t + 7) % 8 = 7 := by omega
    have e2 : (8 * t + 7) / 8 = t := by omega
    dsimp only
    rw [e, e2]
    simp only [List.map_cons, List.map_nil]
    rw [tl_c_s, Int.toNat_natCast]
    intro a κ' M' q0 q1 qz q2 q3
    rw [tg_of_s h]
    have hold : ∀ o, κ' o = some K → o ∉ [a] → κ o = some K ∧ M' o = M o := by
      intro o ho hn
      cases e : κ o with
      | none => exact absurd (List.mem_singleton.mpr (q3 o K ho e)) hn
      | some k1 =>
        have e3 := q2 o k1 e
        rw [ho] at e3
        exact ⟨e3.1.symm, e3.2⟩
    intro o1 o2 p1 p2 p3 p4 p5 ci1 vs1 ci2 vs2 b m1 m2 f1
    obtain ⟨r1, r2⟩ := hold o1 p1 p3
    obtain ⟨r3, r4⟩ := hold o2 p2 p4
    rw [r2] at m1
    rw [r4] at m2
    exact g8 o1 o2 r1 r3 (fun q => (List.not_mem_nil q).elim) (fun q => (List.not_mem_nil q).elim) p5 ci1 vs1 ci2 vs2 b m1 m2 f1
  · cases hp
/-- one is taken out: no other one has its row -/
def ij_open (t u K j : Nat) : tc_Lm := ((0, 2), ([], [(0, K)], [], [(0, j, tv_a 1)], [], [], [(8 * t, [], [])]), (0, 2), ([], [], [], [], [], [], [(8 * t, [0], []), (8 * u, [0, 1], [])]))
theorem ij_open_ok {l : List ga_S} {t u K j : Nat} {RO : am_O} {T : tk_T} (h : l[t]? = some (ij_a K j)) (hu : l[u]? = some (un_a K j)) : tc_lmt (tg_of l) RO T (ij_open t u K j) := by
  intro V A κ M sz hH hsz hx
  refine ⟨V, A, fun _ _ => rfl, fun _ _ => rfl, ?_⟩
  obtain ⟨h1, h2, h3, h4, h5, h6, h7, h8⟩ := hx
  have g8 := (tg_at0 h).mp (h8 _ List.mem_cons_self)
  have hk : κ (A 0) = some K := h2 _ List.mem_cons_self
  obtain ⟨ci, vs, v, m1, m2, m3⟩ := h4 _ List.mem_cons_self
  have m3 : v = .ref (A 1) := m3
  subst m3
  refine ⟨fun _ q => (List.not_mem_nil q).elim, fun _ q => (List.not_mem_nil q).elim, fun _ q => (List.not_mem_nil q).elim, fun _ q => (List.not_mem_nil q).elim, fun _ q => (List.not_mem_nil q).elim, fun _ q => (List.not_mem_nil q).elim, trivial, fun p hp => ?_⟩
  have nn : ∀ o : Nat, o ∉ ([] : List Nat).map A := fun _ q => (List.not_mem_nil q).elim
  rcases List.mem_cons.mp hp with rfl | hp
  · exact (tg_at0 h).mpr (fun o1 o2 p1 p2 _ _ p5 => g8 o1 o2 p1 p2 (nn o1) (nn o2) p5)
  · rcases List.mem_cons.mp hp with rfl | hp
    · refine (tg_at0 hu).mpr ?_
      show ∀ o, κ o = some K → o ≠ A 0 → ∀ ci vs, M o = some (.inr (ci, vs)) → vs[j]? ≠ some (.ref (A 1))
      intro o ho hne ci2 vs2 hM
      exact g8 (A 0) o hk ho (nn _) (nn _) (fun q => hne q.symm) ci vs ci2 vs2 (A 1) m1 hM m2
    · cases hp
/-- it is put back -/
def ij_shut (t u K j : Nat) : tc_Lm := ((0, 2), ([], [], [], [(0, j, tv_a 1)], [], [], [(8 * t, [0], []), (8 * u, [0, 1], [])]), (0, 2), ([], [], [], [], [], [], [(8 * t, [], [])]))
theorem ij_shut_ok {l : List ga_S} {t u K j : Nat} {RO : am_O} {T : tk_T} (h : l[t]? = some (ij_a K j)) (hu : l[u]? = some (un_a K j)) : tc_lmt (tg_of l) RO T (ij_shut t u K j) := by
  intro V A κ M sz hH hsz hx
  refine ⟨V, A, fun _ _ => rfl, fun _ _ => rfl, ?_⟩
  obtain ⟨h1, h2, h3, h4, h5, h6, h7, h8⟩ := hx
  have g8 := (tg_at0 h).mp (h8 _ List.mem_cons_self)
  have g9 := (tg_at0 hu).mp (h8 _ (List.mem_cons_of_mem _ List.mem_cons_self))
  have g9 : ∀ o, κ o = some K → o ≠ A 0 → ∀ ci vs, M o = some (.inr (ci, vs)) → vs[j]? ≠ some (.ref (A 1)) := g9
  obtain ⟨ci, vs, v, m1, m2, m3⟩ := h4 _ List.mem_cons_self
  have m3 : v = .ref (A 1) := m3
  subst m3
  have hb : ∀ ci' vs' b, M (A 0) = some (.inr (ci', vs')) → vs'[j]? = some (.ref b) → b = A 1 := by
    intro ci' vs' b e1 e2
    have m1 : M (A 0) = some (.inr (ci, vs)) := m1
    rw [m1] at e1
    cases e1
    have m2 : vs[j]? = some (.ref (A 1)) := m2
    rw [m2] at e2
    cases e2
    rfl
  refine ⟨fun _ q => (List.not_mem_nil q).elim, fun _ q => (List.not_mem_nil q).elim, fun _ q => (List.not_mem_nil q).elim, fun _ q => (List.not_mem_nil q).elim, fun _ q => (List.not_mem_nil q).elim, fun _ q => (List.not_mem_nil q).elim, trivial, fun p hp => ?_⟩
  rcases List.mem_cons.mp hp with rfl | hp
  · refine (tg_at0 h).mpr (fun o1 o2 p1 p2 _ _ p5 ci1 vs1 ci2 vs2 b n1 n2 f1 f2 => ?_)
    by_cases q1 : o1 = A 0
    · subst q1
      have := hb _ _ _ n1 f1
      subst this
      exact g9 o2 p2 (fun q => p5 q.symm) ci2 vs2 n2 f2
    · by_cases q2 : o2 = A 0
      · subst q2
        have := hb _ _ _ n2 f2
        subst this
        exact g9 o1 p1 q1 ci1 vs1 n1 f1
      · exact g8 o1 o2 p1 p2 (fun q => q1 (by simpa using q)) (fun q => q2 (by simpa using q)) p5 ci1 vs1 ci2 vs2 b n1 n2 f1 f2
  · cases hp
/-- what looks at its rows alone -/
def ga_lc (g : ga_S) : Prop := ∀ (RO : am_O) (κ : Nat → Option Nat) (M : am_H) (bs : List Nat) (is : List Int) (a : Nat) (e : am_E), (∀ b ∈ bs, b ≠ a) → g.1 RO κ M bs is → g.1 RO κ (am_set M a e) bs is
theorem ql_sum_l {RO : am_O} {M : am_H} {a : Nat} {e : am_E} : ∀ {ts : List (Nat × Nat × Nat × Int)} {as : List Nat} {s : Nat}, (∀ b ∈ as, b ≠ a) → ql_sum RO (am_set M a e) ts as s = ql_sum RO M ts as s
  | [], _, _, _ => by simp [ql_sum]
  | _ :: _, [], _, _ => by simp [ql_sum]
  | (k, α, β, c) :: ts, b :: as, s, h => by
    unfold ql_sum
    rw [ql_sum_l (fun q hq => h q (List.mem_cons_of_mem _ hq))]
    have : ql_el RO (am_set M a e) b (α * s + β) = ql_el RO M b (α * s + β) := by
      unfold ql_el
      rw [am_ne (h b List.mem_cons_self)]
    rw [this]
theorem ql_lc (S : ql_S) : ga_lc (ql_a S) := by
  intro RO κ M bs is a e hb g
  unfold ql_a ql_p at g ⊢
  dsimp only at g ⊢
  split
  · dsimp only at g
    refine ⟨g.1, fun s e1 e2 e3 => ?_⟩
    rw [ql_sum_l hb]
    exact g.2 s e1 e2 e3
  · rename_i hn
    split at g
    · exact (hn _ _ _ _ rfl).elim
    · exact g
theorem nn_lc (k : Nat) : ga_lc (nn_a k) := by
  intro RO κ M bs is a e hb g
  unfold nn_a nn_p at g ⊢
  dsimp only at g ⊢
  split
  · dsimp only at g
    obtain ⟨g1, ty, n, f, g2, g3⟩ := g
    exact ⟨g1, ty, n, f, (am_ne (hb _ List.mem_cons_self)).trans g2, g3⟩
  · rename_i hn
    split at g
    · exact (hn _ _ _ _ rfl rfl).elim
    · exact g
theorem kn_fs_un {κ : Nat → Option Nat} {vs : List Value} {k j a : Nat} (ha : κ a = some k) (hv : vs[j]? ≠ some (.ref a)) : ∀ {l : List (Nat × Nat)} {bs : List Nat}, (∀ p ∈ l, p.2 ≠ k ∨ p.1 = j) → kn_fs κ vs l bs → ∀ b ∈ bs, b ≠ a
  | [], [], _, _, _, hb => by cases hb
  | [], _ :: _, _, g, _, _ => by cases g
  | _ :: _, [], _, g, _, _ => by cases g
  | p :: r, b :: bs, h, g, b', hb => by
    rcases List.mem_cons.mp hb with rfl | hb
    · intro q
      subst q
      rcases h p List.mem_cons_self with h | h
      · apply h
        have := g.2.1
        rw [ha] at this
        exact (Option.some.inj this).symm
      · subst h
        exact hv g.1
    · exact kn_fs_un ha hv (fun q hq => h q (List.mem_cons_of_mem _ hq)) g.2.2 b' hb
theorem kn_put_c {S : kn_S} {g : ga_S} (hlc : ga_lc g) {K j k : Nat} (hK : K = S.1) (hj : ∀ p ∈ S.2.1, p.2 ≠ k ∨ p.1 = j) {RO : am_O} {κ : Nat → Option Nat} {M : am_H} {o a : Nat} {is : List Int} {t : Nat} {x x' : vp_A} (hM : M a = some (.inl (t, x))) (hx : x'.1 = x.1) (ha : κ a = some k) (hu : ∀ ci vs, M o = some (.inr (ci, vs)) → vs[j]? ≠ some (.ref a)) (h : kn_o S g RO κ M o is) : kn_o S g RO κ (am_set M a (.inl (t, x'))) o is := by
  have hne : ∀ ci vs, M o = some (.inr (ci, vs)) → o ≠ a := by
    intro ci vs e q
    subst q
    rw [hM] at e
    cases e
  refine kn_o_m (fun b k1 hb => hb) (fun ci vs q => ⟨vs, (am_ne (hne ci vs q)).trans q, fun _ _ => rfl⟩) (fun b n _ hl => tk_len_arr hM hx b n hl) (fun ci vs bs xs q1 q2 q3 => hlc RO κ M bs xs a _ (kn_fs_un ha (hu ci vs q1) hj q2) q3) h
/-- an int is stored into the row of what is out: names 0 where, 1 what, then what is given; 0 the thing, 1 its row -/
def kn_w1 (t u k e : Nat) : tc_Lm := ((2 + e, 2), ([], [(1, k)], [], [], [], [], [(8 * t, [0], kn_ex 2 e), (8 * u, [0, 1], [])]), (2 + e, 2), ([], [], [], [], [], [], [(8 * t + 1, [1, 0], ql_n 0 :: ql_n 1 :: kn_ex 2 e)]))
theorem kn_w1_ok {l : List ga_S} {t u j k : Nat} {S : kn_S} {g : ga_S} {e : Nat} {RO : am_O} {T : tk_T} (h : l[t]? = some (kn_a S g)) (hu : l[u]? = some (un_a S.1 j)) (hlc : ga_lc g) (hj : ∀ p ∈ S.2.1, p.2 ≠ k ∨ p.1 = j) : tc_lmt (tg_of l) RO T (kn_w1 t u k e) := by
  intro V A κ M sz hH hsz hx
  refine ⟨V, A, fun _ _ => rfl, fun _ _ => rfl, ?_⟩
  obtain ⟨h1, h2, h3, h4, h5, h6, h7, h8⟩ := hx
  have g8 := (kn_at_s h).mp (h8 _ List.mem_cons_self)
  have g9 := (tg_at0 hu).mp (h8 _ (List.mem_cons_of_mem _ List.mem_cons_self))
  have g9 : ∀ o, κ o = some S.1 → o ≠ A 0 → ∀ ci vs, M o = some (.inr (ci, vs)) → vs[j]? ≠ some (.ref (A 1)) := g9
  have hk : κ (A 1) = some k := h2 _ List.mem_cons_self
  refine ⟨fun _ q => (List.not_mem_nil q).elim, fun _ q => (List.not_mem_nil q).elim, fun _ q => (List.not_mem_nil q).elim, fun _ q => (List.not_mem_nil q).elim, fun _ q => (List.not_mem_nil q).elim, fun _ q => (List.not_mem_nil q).elim, trivial, fun p hp => ?_⟩
  rcases List.mem_cons.mp hp with rfl | hp
  · unfold tc_xq tg_q
    have e : (8 * t + 1) % 8 = 1 := by omega
    have e2 : (8 * t + 1) / 8 = t := by omega
    dsimp only
    rw [e, e2]
    simp only [List.map_cons, List.map_nil]
    intro ty n f x hM _
    rw [tg_of_s h]
    intro o ho hna
    exact kn_put_c hlc rfl hj hM rfl hk (g9 o ho (fun q => hna (List.mem_singleton.mpr q))) (g8 o ho hna)
  · cases hp
/-- null is stored into the row of what is out: names 0 where, then what is given -/
def kn_w6 (t u k e : Nat) : tc_Lm := ((1 + e, 2), ([], [(1, k)], [], [], [], [], [(8 * t, [0], kn_ex 1 e), (8 * u, [0, 1], [])]), (1 + e, 2), ([], [], [], [], [], [], [(8 * t + 6, [1, 0], ql_n 0 :: kn_ex 1 e)]))
theorem kn_w6_ok {l : List ga_S} {t u j k : Nat} {S : kn_S} {g : ga_S} {e : Nat} {RO : am_O} {T : tk_T} (h : l[t]? = some (kn_a S g)) (hu : l[u]? = some (un_a S.1 j)) (hlc : ga_lc g) (hj : ∀ p ∈ S.2.1, p.2 ≠ k ∨ p.1 = j) : tc_lmt (tg_of l) RO T (kn_w6 t u k e) := by
  intro V A κ M sz hH hsz hx
  refine ⟨V, A, fun _ _ => rfl, fun _ _ => rfl, ?_⟩
  obtain ⟨h1, h2, h3, h4, h5, h6, h7, h8⟩ := hx
  have g8 := (kn_at_s h).mp (h8 _ List.mem_cons_self)
  have g9 := (tg_at0 hu).mp (h8 _ (List.mem_cons_of_mem _ List.mem_cons_self))
  have g9 : ∀ o, κ o = some S.1 → o ≠ A 0 → ∀ ci vs, M o = some (.inr (ci, vs)) → vs[j]? ≠ some (.ref (A 1)) := g9
  have hk : κ (A 1) = some k := h2 _ List.mem_cons_self
  refine ⟨fun _ q => (List.not_mem_nil q).elim, fun _ q => (List.not_mem_nil q).elim, fun _ q => (List.not_mem_nil q).elim, fun _ q => (List.not_mem_nil q).elim, fun _ q => (List.not_mem_nil q).elim, fun _ q => (List.not_mem_nil q).elim, trivial, fun p hp => ?_⟩
  rcases List.mem_cons.mp hp with rfl | hp
  · unfold tc_xq tg_q
    have e : (8 * t + 6) % 8 = 6 := by omega
    have e2 : (8 * t + 6) / 8 = t := by omega
    dsimp only
    rw [e, e2]
    simp only [List.map_cons, List.map_nil]
    intro ty n f hM
    rw [tg_of_s h]
    intro o ho hna
    exact kn_put_c hlc rfl hj hM rfl hk (g9 o ho (fun q => hna (List.mem_singleton.mpr q))) (g8 o ho hna)
  · cases hp
/-- what stays when an address is stored into any row -/
def ga_g4 (g : ga_S) : Prop := ∀ (RO : am_O) (κ : Nat → Option Nat) (M : am_H) (bs : List Nat) (is : List Int) (a b I ty n : Nat) (f : Nat → Option Nat), M a = some (am_qa ty n f) → g.1 RO κ M bs is → g.1 RO κ (am_set M a (am_qa ty n (va_up f I (some b)))) bs is
theorem nn_g4 (k : Nat) : ga_g4 (nn_a k) := by
  intro RO κ M bs is a b I ty n f hM g
  unfold nn_a nn_p at g ⊢
  dsimp only at g ⊢
  split
  · rename_i b0 L H X
    dsimp only at g
    obtain ⟨g1, ty0, n0, f0, g2, g3⟩ := g
    by_cases q : b0 = a
    · subst q
      rw [hM] at g2
      have g2 := Option.some.inj g2
      unfold am_qa at g2
      cases g2
      refine ⟨g1, _, _, _, am_same, fun j q1 q2 q3 q4 => ?_⟩
      unfold va_up
      by_cases q5 : j = I
      · exact ⟨b, if_pos q5⟩
      · rw [if_neg q5]
        exact g3 j q1 q2 q3 q4
    · exact ⟨g1, ty0, n0, f0, (am_ne q).trans g2, g3⟩
  · rename_i hn
    split at g
    · exact (hn _ _ _ _ rfl rfl).elim
    · exact g
/-- an address is stored into any row: 0 what is out (c: nothing is), 1 the row, 2 what; names 0 where, then what is given -/
def kn_w4 (t e : Nat) (c : Bool) : tc_Lm := ((1 + e, 3), ([], [], [], [], [], [], [(8 * t, if c then [] else [0], kn_ex 1 e)]), (1 + e, 3), ([], [], [], [], [], [], [(8 * t + 4, [1, 2] ++ (if c then [] else [0]), ql_n 0 :: kn_ex 1 e)]))
theorem kn_w4_ok {l : List ga_S} {t : Nat} {S : kn_S} {g : ga_S} {e : Nat} {c : Bool} {RO : am_O} {T : tk_T} (h : l[t]? = some (kn_a S g)) (hg : ga_g4 g) : tc_lmt (tg_of l) RO T (kn_w4 t e c) := by
  intro V A κ M sz hH hsz hx
  refine ⟨V, A, fun _ _ => rfl, fun _ _ => rfl, ?_⟩
  obtain ⟨h1, h2, h3, h4, h5, h6, h7, h8⟩ := hx
  have g8 := (kn_at_s h).mp (h8 _ List.mem_cons_self)
  refine ⟨fun _ q => (List.not_mem_nil q).elim, fun _ q => (List.not_mem_nil q).elim, fun _ q => (List.not_mem_nil q).elim, fun _ q => (List.not_mem_nil q).elim, fun _ q => (List.not_mem_nil q).elim, fun _ q => (List.not_mem_nil q).elim, trivial, fun p hp => ?_⟩
  rcases List.mem_cons.mp hp with rfl | hp
  · unfold tc_xq tg_q
    have e : (8 * t + 4) % 8 = 4 := by omega
    have e2 : (8 * t + 4) / 8 = t := by omega
    dsimp only
    rw [e, e2, List.map_append]
    simp only [List.map_cons, List.map_nil, List.cons_append, List.nil_append]
    intro ty n f hM
    rw [tg_of_s h]
    intro o ho hna
    have hne : ∀ ci vs, M o = some (.inr (ci, vs)) → o ≠ A 1 := by
      intro ci vs e q
      subst q
      rw [hM] at e
      cases e
    have hl2 : ∀ b m, tk_len M RO b m → tk_len (am_set M (A 1) (am_qa ty n (va_up f (tl_v V (ql_n 0)).toNat (some (A 2))))) RO b m := by
      unfold am_qa at hM ⊢
      exact tk_len_arr hM rfl
    exact kn_o_m (fun b k1 hb => hb) (fun ci vs q => ⟨vs, (am_ne (hne ci vs q)).trans q, fun _ _ => rfl⟩) (fun b n _ hl => hl2 b n hl) (fun ci vs bs xs q1 q2 q3 => hg RO κ M bs xs _ _ _ _ _ _ hM q3) (g8 o ho hna)
  · cases hp
