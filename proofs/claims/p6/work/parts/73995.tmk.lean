/-! TC: rows just made; what is given may be better; stores that keep; room by lengths -/
theorem ql_el_z {RO : am_O} {M : am_H} {a j : Nat} (h : tg_z (M a)) : ql_el RO M a j = 0 := by
  obtain ⟨⟨e, h1⟩, h2⟩ := h
  unfold ql_el
  rw [h1]
  rcases e with ⟨t, n, x⟩ | ⟨ci, vs⟩
  · rcases x with f | x
    · exact h2 t n f h1 j
    · rfl
  · rfl
/-- a row that is being made holds 0s: names 0 L, 1 H, then what is given -/
def ql_mk (t k : Nat) (S : ql_S) : tc_Lm := ((2 + S.2.1.length, 0), ([(ql_ef 2 S.2.1, S.2.2)], [], [], [], [], [], []), (2 + S.2.1.length, 0), ([], [], [], [], [], [], [(8 * t + 7, [], tl_c (k : Int) :: ql_n 0 :: ql_n 1 :: nn_m :: ql_es 2 S.2.1)]))
theorem ql_mk_ok {l : List ga_S} {t k α β : Nat} {c : Int} {S : ql_S} {RO : am_O} {T : tk_T} (h : l[t]? = some (ql_a S)) (h1 : S.1 = [(k, α, β, c)]) : tc_lmt (tg_of l) RO T (ql_mk t k S) := by
  intro V A κ M sz hH hsz hx
  refine ⟨V, A, fun _ _ => rfl, fun _ _ => rfl, ?_⟩
  have f0 : 0 ≤ tl_s V (ql_ef 2 S.2.1) + S.2.2 := hx.1 _ List.mem_cons_self
  rw [ql_ef_s] at f0
  refine ⟨fun _ q => (List.not_mem_nil q).elim, fun _ q => (List.not_mem_nil q).elim, fun _ q => (List.not_mem_nil q).elim, fun _ q => (List.not_mem_nil q).elim, fun _ q => (List.not_mem_nil q).elim, fun _ q => (List.not_mem_nil q).elim, trivial, fun p hp => ?_⟩
  rcases List.mem_cons.mp hp with rfl | hp
  · unfold tc_xq tg_q
    have e : (8 * t + 7) % 8 = 7 := by omega
    have e2 : (8 * t + 7) / 8 = t := by omega
    dsimp only
    rw [e, e2]
    simp only [List.map_cons, List.map_nil]
    rw [tl_c_s, Int.toNat_natCast]
    intro a κ' M' q0 q1 qz q2 q3
    rw [tg_of_s h]
    show ql_p S RO κ' M' [a] (tl_v V (ql_n 0) :: tl_v V (ql_n 1) :: tl_v V nn_m :: (ql_es 2 S.2.1).map (tl_v V))
    unfold ql_p
    dsimp only
    rw [h1]
    refine ⟨⟨q1, trivial⟩, fun s e1 e3 e4 => ?_⟩
    simp only [ql_sum]
    rw [ql_el_z qz]
    omega
  · cases hp
/-- what is given may be better: names 0 L, 1 H, 2 X, 3 before, 4 now -/
def ql_mono (t : Nat) (S : ql_S) (d : Int) : tc_Lm := ((5, S.1.length), ([([(4, d), (3, -d)], 0)], [], [], [], [], [], [(8 * t, ql_ns 0 S.1, [ql_n 0, ql_n 1, ql_n 2, ql_n 3])]), (5, S.1.length), ([], [], [], [], [], [], [(8 * t, ql_ns 0 S.1, [ql_n 0, ql_n 1, ql_n 2, ql_n 4])]))
theorem ql_mono_ok {l : List ga_S} {t : Nat} {S : ql_S} {d : Int} {RO : am_O} {T : tk_T} (h : l[t]? = some (ql_a S)) (h1 : S.2.1 = [d]) : tc_lmt (tg_of l) RO T (ql_mono t S d) := by
  intro V A κ M sz hH hsz hx
  refine ⟨V, A, fun _ _ => rfl, fun _ _ => rfl, ?_⟩
  have f0 := hx.1 _ List.mem_cons_self
  rw [sg_e2] at f0
  have g8 := (tg_at0 h).mp (hx.2.2.2.2.2.2.2 _ List.mem_cons_self)
  refine ⟨fun _ q => (List.not_mem_nil q).elim, fun _ q => (List.not_mem_nil q).elim, fun _ q => (List.not_mem_nil q).elim, fun _ q => (List.not_mem_nil q).elim, fun _ q => (List.not_mem_nil q).elim, fun _ q => (List.not_mem_nil q).elim, trivial, fun p hp => ?_⟩
  rcases List.mem_cons.mp hp with rfl | hp
  · refine (tg_at0 h).mpr ?_
    have g8 : ql_p S RO κ M ((ql_ns 0 S.1).map A) [tl_v V (ql_n 0), tl_v V (ql_n 1), tl_v V (ql_n 2), tl_v V (ql_n 3)] := g8
    show ql_p S RO κ M ((ql_ns 0 S.1).map A) [tl_v V (ql_n 0), tl_v V (ql_n 1), tl_v V (ql_n 2), tl_v V (ql_n 4)]
    unfold ql_p at g8 ⊢
    dsimp only at g8 ⊢
    refine ⟨g8.1, fun s e1 e2 e3 => ?_⟩
    have g := g8.2 s e1 e2 e3
    rw [h1, ql_n_s] at g ⊢
    simp only [ql_dot] at g ⊢
    rw [Int.neg_mul] at f0
    omega
  · cases hp
/-- an int is stored into a row that no thing of the kind has: names 0 where, 1 what, then what is given -/
def kn_w1f (t u k e : Nat) : tc_Lm := ((2 + e, 1), ([], [(0, k)], [], [], [], [], [(8 * t, [], kn_ex 2 e), (8 * u, [0], [])]), (2 + e, 1), ([], [], [], [], [], [], [(8 * t + 1, [0], ql_n 0 :: ql_n 1 :: kn_ex 2 e)]))
theorem kn_w1f_ok {l : List ga_S} {t u j k : Nat} {S : kn_S} {g : ga_S} {e : Nat} {RO : am_O} {T : tk_T} (h : l[t]? = some (kn_a S g)) (hu : l[u]? = some (un_a S.1 j)) (hlc : ga_lc g) (hj : ∀ p ∈ S.2.1, p.2 ≠ k ∨ p.1 = j) : tc_lmt (tg_of l) RO T (kn_w1f t u k e) := by
  intro V A κ M sz hH hsz hx
  refine ⟨V, A, fun _ _ => rfl, fun _ _ => rfl, ?_⟩
  obtain ⟨h1, h2, h3, h4, h5, h6, h7, h8⟩ := hx
  have g8 := (kn_at_s h).mp (h8 _ List.mem_cons_self)
  have g9 := (tg_at0 hu).mp (h8 _ (List.mem_cons_of_mem _ List.mem_cons_self))
  have g9 : ∀ o, κ o = some S.1 → ∀ ci vs, M o = some (.inr (ci, vs)) → vs[j]? ≠ some (.ref (A 0)) := g9
  have hk : κ (A 0) = some k := h2 _ List.mem_cons_self
  refine ⟨fun _ q => (List.not_mem_nil q).elim, fun _ q => (List.not_mem_nil q).elim, fun _ q => (List.not_mem_nil q).elim, fun _ q => (List.not_mem_nil q).elim, fun _ q => (List.not_mem_nil q).elim, fun _ q => (List.not_mem_nil q).elim, trivial, fun p hp => ?_⟩
  rcases List.mem_cons.mp hp with rfl | hp
  · unfold tc_xq tg_q
    have e : (8 * t + 1) % 8 = 1 := by omega
    have e2 : (8 * t + 1) / 8 = t := by omega
    dsimp only
    rw [e, e2]
    simp only [List.map_cons, List.map_nil]
    intro ty n f x hM _
    rw [tg_of_s h]
    intro o ho hna
    exact kn_put_c hlc rfl hj hM rfl hk (g9 o ho) (g8 o ho hna)
  · cases hp
def kn_ns : Nat → Nat → List Nat
  | a, n + 1 => a :: kn_ns (a + 1) n
  | _, 0 => []
/-- an address is stored into any row: 0 the row, 1 what; names 0 where, then the atom's -/
def g4_put (t nA nF : Nat) : tc_Lm := ((1 + nF, 2 + nA), ([], [], [], [], [], [], [(8 * t, kn_ns 2 nA, kn_ex 1 nF)]), (1 + nF, 2 + nA), ([], [], [], [], [], [], [(8 * t + 4, 0 :: 1 :: kn_ns 2 nA, ql_n 0 :: kn_ex 1 nF)]))
theorem g4_put_ok {l : List ga_S} {t nA nF : Nat} {g : ga_S} {RO : am_O} {T : tk_T} (h : l[t]? = some g) (hg : ga_g4 g) : tc_lmt (tg_of l) RO T (g4_put t nA nF) := by
  intro V A κ M sz hH hsz hx
  refine ⟨V, A, fun _ _ => rfl, fun _ _ => rfl, ?_⟩
  have g8 := (tg_at0 h).mp (hx.2.2.2.2.2.2.2 _ List.mem_cons_self)
  refine ⟨fun _ q => (List.not_mem_nil q).elim, fun _ q => (List.not_mem_nil q).elim, fun _ q => (List.not_mem_nil q).elim, fun _ q => (List.not_mem_nil q).elim, fun _ q => (List.not_mem_nil q).elim, fun _ q => (List.not_mem_nil q).elim, trivial, fun p hp => ?_⟩
  rcases List.mem_cons.mp hp with rfl | hp
  · unfold tc_xq tg_q
    have e : (8 * t + 4) % 8 = 4 := by omega
    have e2 : (8 * t + 4) / 8 = t := by omega
    dsimp only
    rw [e, e2]
    simp only [List.map_cons]
    intro ty n f hM
    rw [tg_of_s h]
    exact hg RO κ M _ _ _ _ _ _ _ _ hM g8
  · cases hp
/-- room: a row's kind, the field of its bytes, how long they may be at most -/
abbrev rm_S : Type := List (Nat × Nat × Int)
def rm_len (M : am_H) (b : Nat) : Int := match M b with
  | some (.inl (_, x)) => (x.1 : Int)
  | _ => 0
def rm_v (S : rm_S) (κ : Nat → Option Nat) (M : am_H) (a : Nat) : Int := match κ a with
  | none => 0
  | some k => (match S.find? (fun p => p.1 == k) with
    | none => 0
    | some p => (match M a with
      | some (.inr (_, vs)) => (match vs[p.2.1]? with
        | some (.ref b) => (match κ b with
          | some _ => 2 * p.2.2 - 2 * rm_len M b
          | none => 2 * p.2.2)
        | _ => 2 * p.2.2)
      | _ => 2 * p.2.2))
def rm_s (f : Nat → Int) : List Nat → Int
  | a :: l => f a + rm_s f l
  | [] => 0
def rm_p (S : rm_S) (RO : am_O) (κ : Nat → Option Nat) (M : am_H) (as : List Nat) (is : List Int) : Prop := match is with
  | [X] => ∃ L : List Nat, L.Nodup ∧ (∀ a k, κ a = some k → k ∈ S.map (fun p => p.1) → a ∈ L) ∧ rm_s (rm_v S κ M) L ≤ X
  | _ => False
def rm_F (S : rm_S) : List (Nat × Nat) := S.map (fun p => (p.1, p.2.1)) ++ S.map (fun p => (p.1, 1000))
def rm_a (S : rm_S) : ga_S := (rm_p S, rm_F S)
theorem rm_s_le {f g : Nat → Int} : ∀ {l : List Nat}, (∀ a ∈ l, f a ≤ g a) → rm_s f l ≤ rm_s g l
  | [], _ => Int.le_refl _
  | a :: l, h => by
    have h1 := h a List.mem_cons_self
    have h2 := rm_s_le (f := f) (g := g) (l := l) (fun b hb => h b (List.mem_cons_of_mem _ hb))
    show f a + rm_s f l ≤ g a + rm_s g l
    omega
theorem rm_s_1 {f g : Nat → Int} {a : Nat} {d : Int} (ha : f a ≤ g a + d) (hd : 0 ≤ d ∨ True) (h : ∀ b, b ≠ a → f b ≤ g b) : ∀ {l : List Nat}, l.Nodup → a ∈ l → rm_s f l ≤ rm_s g l + d
  | [], _, q => by cases q
  | b :: l, hn, q => by
    obtain ⟨n1, n2⟩ := List.nodup_cons.mp hn
    show f b + rm_s f l ≤ g b + rm_s g l + d
    by_cases e : b = a
    · subst e
      have := rm_s_le (f := f) (g := g) (l := l) (fun c hc => h c (fun e => by
        subst e
        exact n1 hc))
      omega
    · have h1 := h b e
      have h2 : a ∈ l := by
        rcases List.mem_cons.mp q with q | q
        · exact absurd q.symm e
        · exact q
      have := rm_s_1 ha hd h n2 h2
      omega
theorem rm_len_0 {M : am_H} {b : Nat} : 0 ≤ rm_len M b := by
  unfold rm_len
  split <;> omega
theorem rm_find {S : rm_S} {k : Nat} (h : k ∈ S.map (fun p => p.1)) : ∃ p, S.find? (fun p => p.1 == k) = some p ∧ p ∈ S ∧ p.1 = k := by
  cases e : S.find? (fun p => p.1 == k) with
  | none =>
    obtain ⟨p, h1, h2⟩ := List.mem_map.mp h
    have := List.find?_eq_none.mp e p h1
    simp [h2] at this
  | some p => exact ⟨p, rfl, List.mem_of_find?_eq_some e, by simpa using List.find?_some e⟩
theorem rm_v_le {S : rm_S} {κ κ' : Nat → Option Nat} {M M' : am_H} (h1 : ∀ a k, κ a = some k → κ' a = some k) (h2 : ∀ a k, κ' a = some k → κ a = none → k ∉ S.map (fun p => p.1)) (h3 : ∀ a k, κ a = some k → tg_kp (rm_F S) k (M a) (M' a)) (a : Nat) : rm_v S κ' M' a ≤ rm_v S κ M a := by
  cases e : κ a with
  | none =>
    have e1 : rm_v S κ M a = 0 := by
      unfold rm_v
      rw [e]
    rw [e1]
    unfold rm_v
    cases e2 : κ' a with
    | none => exact Int.le_refl _
    | some k =>
      dsimp only
      cases e3 : S.find? (fun p => p.1 == k) with
      | none => exact Int.le_refl _
      | some p =>
        have hp : p.1 = k := by simpa using List.find?_some e3
        exact absurd (List.mem_map.mpr ⟨p, List.mem_of_find?_eq_some e3, hp⟩) (h2 a k e2 e)
  | some k =>
    have e2 := h1 a k e
    unfold rm_v
    rw [e, e2]
    dsimp only
    cases e3 : S.find? (fun p => p.1 == k) with
    | none => exact Int.le_refl _
    | some p =>
      dsimp only
      have hp : p.1 = k := by simpa using List.find?_some e3
      have hm := List.mem_of_find?_eq_some e3
      obtain ⟨g1, g2, g3⟩ := h3 a k e
      have hl : ∀ b, 2 * p.2.2 - 2 * rm_len M' b ≤ 2 * p.2.2 := fun b => by
        have := rm_len_0 (M := M') (b := b)
        omega
      cases e4 : M a with
      | none =>
        rw [g3 e4]
        exact Int.le_refl _
      | some c =>
        rcases c with ⟨t, x⟩ | ⟨ci, vs⟩
        · obtain ⟨x', e5, -⟩ := g2 t x e4
          rw [e5]
          exact Int.le_refl _
        · obtain ⟨vs', e5, e6⟩ := g1 ci vs e4
          rw [e5]
          dsimp only
          rw [e6 p.2.1 (List.mem_append_left _ (List.mem_map.mpr ⟨p, hm, by rw [hp]⟩))]
          cases e7 : vs[p.2.1]? with
          | none => exact Int.le_refl _
          | some v =>
            cases v with
            | ref b =>
              dsimp only
              cases e8 : κ b with
              | none =>
                dsimp only
                cases κ' b with
                | none => exact Int.le_refl _
                | some _ => exact hl b
              | some kb =>
                rw [h1 b kb e8]
                dsimp only
                have : rm_len M' b = rm_len M b := by
                  obtain ⟨q1, q2, q3⟩ := h3 b kb e8
                  unfold rm_len
                  cases e9 : M b with
                  | none => rw [q3 e9]
                  | some c =>
                    rcases c with ⟨t, x⟩ | ⟨ci2, vs2⟩
                    · obtain ⟨x', f1, f2, -⟩ := q2 t x e9
                      rw [f1]
                      show (x'.1 : Int) = x.1
                      rw [f2]
                    · obtain ⟨vs3, f1, -⟩ := q1 ci2 vs2 e9
                      rw [f1]
                rw [this]
                exact Int.le_refl _
            | _ => exact Int.le_refl _
theorem rm_a_ok (S : rm_S) : ga_ok (rm_a S) := by
  intro RO κ κ' M M' as is h1 h2 h3 h4
  unfold rm_a at h2 h3 h4 ⊢
  dsimp only at h2 h3 h4 ⊢
  unfold rm_p at h4 ⊢
  have hk : ∀ a k, κ' a = some k → κ a = none → k ∉ S.map (fun p => p.1) := by
    intro a k q1 q2 q3
    obtain ⟨p, p1, p2⟩ := List.mem_map.mp q3
    exact h2 a k q1 q2 (List.mem_append_right _ (List.mem_map.mpr ⟨p, p1, by rw [p2]⟩))
  split
  · dsimp only at h4
    obtain ⟨L, g1, g2, g3⟩ := h4
    refine ⟨L, g1, fun a k q1 q2 => ?_, Int.le_trans (rm_s_le (fun a _ => rm_v_le h1 hk h3 a)) g3⟩
    cases e : κ a with
    | none => exact absurd q2 (hk a k q1 e)
    | some k' =>
      have := h1 a k' e
      rw [q1] at this
      cases this
      exact g2 a k e q2
  · rename_i hn
    split at h4
    · exact (hn _ rfl).elim
    · exact h4
/-- a longer row in its place: names 0 the room, 1 how long before, 2 how long now; 0 the row's thing, 1 and 2 the rows -/
def rm_put (t K j k1 k2 : Nat) : tc_Lm := ((3, 3), ([], [(0, K), (1, k1), (2, k2)], [(1, ql_n 1), (2, ql_n 2)], [(0, j, tv_a 1)], [], [], [(8 * t, [], [ql_n 0])]), (3, 3), ([], [], [], [], [], [], [(8 * t + 3, [0, 2], [tl_c (j : Int), ([(0, 1), (1, 2), (2, -2)], 0)])]))
theorem rm_lenx {RO : am_O} {M : am_H} {V : Nat → Int} {A : Nat → Nat} {b : Nat} {f : tl_F} {t : Nat} {x : vp_A} (hM : M (A b) = some (.inl (t, x))) (h : tc_xl RO M V A (b, f)) : rm_len M (A b) = tl_v V f := by
  obtain ⟨n, h1, h2⟩ := h
  rw [h2]
  unfold rm_len
  rw [hM]
  rcases h1 with ⟨t', x', e, e2⟩ | ⟨e, _⟩
  · rw [hM] at e
    cases e
    show (x.1 : Int) = n
    rw [e2]
  · rw [hM] at e
    cases e
theorem rm_put_ok {l : List ga_S} {t K j k1 k2 : Nat} {cap : Int} {S : rm_S} {RO : am_O} {T : tk_T} (h : l[t]? = some (rm_a S)) (hS : S.find? (fun p => p.1 == K) = some (K, j, cap)) {t1 : Nat} {fs1 : List tk_F} {R1 : List tk_E × Int × Int × List tl_F} (hT1 : T[k1]? = some (1, t1, fs1, R1)) {t2 : Nat} {fs2 : List tk_F} {R2 : List tk_E × Int × Int × List tl_F} (hT2 : T[k2]? = some (1, t2, fs2, R2)) : tc_lmt (tg_of l) RO T (rm_put t K j k1 k2) := by
  intro V A κ M sz hH hsz hx
  refine ⟨V, A, fun _ _ => rfl, fun _ _ => rfl, ?_⟩
  obtain ⟨h1, h2, h3, h4, h5, h6, h7, h8⟩ := hx
  have g8 := (tg_at0 h).mp (h8 _ List.mem_cons_self)
  have g8 : ∃ L : List Nat, L.Nodup ∧ (∀ a k, κ a = some k → k ∈ S.map (fun p => p.1) → a ∈ L) ∧ rm_s (rm_v S κ M) L ≤ tl_v V (ql_n 0) := g8
  obtain ⟨L, g1, g2, g3⟩ := g8
  rw [ql_n_s] at g3
  have c0 : κ (A 0) = some K := h2 _ List.mem_cons_self
  have c1 : κ (A 1) = some k1 := h2 _ (List.mem_cons_of_mem _ List.mem_cons_self)
  have c2 : κ (A 2) = some k2 := h2 _ (List.mem_cons_of_mem _ (List.mem_cons_of_mem _ List.mem_cons_self))
  have d1 : ∃ n f, M (A 1) = some (.inl (t1, n, .inl f)) := by
    obtain ⟨-, K', q1, q2⟩ := hH _ _ c1
    rw [hT1] at q1
    cases q1
    obtain ⟨E, lo, hi, O⟩ := R1
    obtain ⟨n, f, q3, -⟩ := q2
    exact ⟨n, f, q3⟩
  have d2 : ∃ n f, M (A 2) = some (.inl (t2, n, .inl f)) := by
    obtain ⟨-, K', q1, q2⟩ := hH _ _ c2
    rw [hT2] at q1
    cases q1
    obtain ⟨E, lo, hi, O⟩ := R2
    obtain ⟨n, f, q3, -⟩ := q2
    exact ⟨n, f, q3⟩
  obtain ⟨n1, f1, d1⟩ := d1
  obtain ⟨n2, f2, d2⟩ := d2
  have l1 : rm_len M (A 1) = V 1 := (rm_lenx d1 (h3 _ List.mem_cons_self)).trans ql_n_s
  have l2 : rm_len M (A 2) = V 2 := (rm_lenx d2 (h3 _ (List.mem_cons_of_mem _ List.mem_cons_self))).trans ql_n_s
  obtain ⟨ci, vs, v, m1, m2, m3⟩ := h4 _ List.mem_cons_self
  have m1 : M (A 0) = some (.inr (ci, vs)) := m1
  have m2 : vs[j]? = some v := m2
  have m3 : v = .ref (A 1) := m3
  subst m3
  refine ⟨fun _ q => (List.not_mem_nil q).elim, fun _ q => (List.not_mem_nil q).elim, fun _ q => (List.not_mem_nil q).elim, fun _ q => (List.not_mem_nil q).elim, fun _ q => (List.not_mem_nil q).elim, fun _ q => (List.not_mem_nil q).elim, trivial, fun p hp => ?_⟩
  rcases List.mem_cons.mp hp with rfl | hp
  · unfold tc_xq tg_q
    have e : (8 * t + 3) % 8 = 3 := by omega
    have e2 : (8 * t + 3) / 8 = t := by omega
    dsimp only
    rw [e, e2]
    simp only [List.map_cons, List.map_nil]
    intro ci' vs' hM
    rw [m1] at hM
    cases hM
    rw [tg_of_s h, tl_c_s, Int.toNat_natCast]
    refine ⟨L, g1, g2, ?_⟩
    have hset : ∀ b, b ≠ A 0 → am_set M (A 0) (.inr (ci, vs.set j (.ref (A 2)))) b = M b := fun b hb => am_ne hb
    have hlen : ∀ b, rm_len (am_set M (A 0) (.inr (ci, vs.set j (.ref (A 2))))) b = rm_len M b := by
      intro b
      by_cases q : b = A 0
      · subst q
        unfold rm_len
        rw [am_same, m1]
      · unfold rm_len
        rw [hset b q]
    have hj : j < vs.length := (List.getElem?_eq_some_iff.mp m2).1
    have hv0 : rm_v S κ M (A 0) = 2 * cap - 2 * V 1 := by
      unfold rm_v
      rw [c0]
      dsimp only
      rw [hS]
      dsimp only
      rw [m1]
      dsimp only
      rw [m2]
      dsimp only
      rw [c1]
      dsimp only
      rw [l1]
    have hv1 : rm_v S κ (am_set M (A 0) (.inr (ci, vs.set j (.ref (A 2))))) (A 0) = 2 * cap - 2 * V 2 := by
      unfold rm_v
      rw [c0]
      dsimp only
      rw [hS]
      dsimp only
      rw [am_same]
      dsimp only
      rw [List.getElem?_set_self hj]
      dsimp only
      rw [c2]
      dsimp only
      rw [hlen, l2]
    have hvb : ∀ b, b ≠ A 0 → rm_v S κ (am_set M (A 0) (.inr (ci, vs.set j (.ref (A 2))))) b ≤ rm_v S κ M b := by
      intro b hb
      have : rm_v S κ (am_set M (A 0) (.inr (ci, vs.set j (.ref (A 2))))) b = rm_v S κ M b := by
        unfold rm_v
        rw [hset b hb]
        simp only [hlen]
      rw [this]
      exact Int.le_refl _
    have := rm_s_1 (d := 2 * V 1 - 2 * V 2) (by rw [hv0, hv1]; omega) (Or.inr trivial) hvb g1 (g2 _ _ c0 (List.mem_map.mpr ⟨_, List.mem_of_find?_eq_some hS, rfl⟩))
    simp only [tl_v, tl_s]
    omega
  · cases hp
/-- a thing more of a kind: name 0 the room -/
def rm_new (t K : Nat) (cap : Int) : tc_Lm := ((1, 0), ([], [], [], [], [], [], [(8 * t, [], [ql_n 0])]), (1, 0), ([], [], [], [], [], [], [(8 * t + 7, [], [tl_c (K : Int), ([(0, 1)], 2 * cap)])]))
theorem rm_new_ok {l : List ga_S} {t K j : Nat} {cap : Int} {S : rm_S} {RO : am_O} {T : tk_T} (h : l[t]? = some (rm_a S)) (hS : S.find? (fun p => p.1 == K) = some (K, j, cap)) : tc_lmt (tg_of l) RO T (rm_new t K cap) := by
  intro V A κ M sz hH hsz hx
  refine ⟨V, A, fun _ _ => rfl, fun _ _ => rfl, ?_⟩
  have g8 := (tg_at0 h).mp (hx.2.2.2.2.2.2.2 _ List.mem_cons_self)
  have g8 : ∃ L : List Nat, L.Nodup ∧ (∀ a k, κ a = some k → k ∈ S.map (fun p => p.1) → a ∈ L) ∧ rm_s (rm_v S κ M) L ≤ tl_v V (ql_n 0) := g8
  obtain ⟨L, g1, g2, g3⟩ := g8
  rw [ql_n_s] at g3
  refine ⟨fun _ q => (List.not_mem_nil q).elim, fun _ q => (List.not_mem_nil q).elim, fun _ q => (List.not_mem_nil q).elim, fun _ q => (List.not_mem_nil q).elim, fun _ q => (List.not_mem_nil q).elim, fun _ q => (List.not_mem_nil q).elim, trivial, fun p hp => ?_⟩
  rcases List.mem_cons.mp hp with rfl | hp
  · unfold tc_xq tg_q
    have e : (8 * t + 7) % 8 = 7 := by omega
    have e2 : (8 * t + 7) / 8 = t := by omega
    dsimp only
    rw [e, e2]
    simp only [List.map_cons, List.map_nil]
    rw [tl_c_s, Int.toNat_natCast]
    intro a κ' M' q0 q1 qz q2 q3
    rw [tg_of_s h]
    have hne : ∀ b, b ≠ a → rm_v S κ' M' b ≤ rm_v S κ M b := by
      intro b hb
      cases e : κ b with
      | none =>
        have e1 : κ' b = none := by
          cases e3 : κ' b with
          | none => rfl
          | some k => exact absurd (q3 b k e3 e) hb
        unfold rm_v
        rw [e, e1]
        exact Int.le_refl _
      | some k =>
        obtain ⟨e1, e3⟩ := q2 b k e
        unfold rm_v
        rw [e, e1, e3]
        dsimp only
        cases S.find? (fun p => p.1 == k) with
        | none => exact Int.le_refl _
        | some p =>
          dsimp only
          cases M b with
          | none => exact Int.le_refl _
          | some c =>
            rcases c with ⟨t, x⟩ | ⟨ci, vs⟩
            · exact Int.le_refl _
            · dsimp only
              cases vs[p.2.1]? with
              | none => exact Int.le_refl _
              | some v =>
                cases v with
                | ref d =>
                  dsimp only
                  cases e8 : κ d with
                  | none =>
                    dsimp only
                    cases κ' d with
                    | none => exact Int.le_refl _
                    | some _ =>
                      have := rm_len_0 (M := M') (b := d)
                      dsimp only
                      omega
                  | some kb =>
                    obtain ⟨f1, f2⟩ := q2 d kb e8
                    rw [f1]
                    dsimp only
                    have : rm_len M' d = rm_len M d := by
                      unfold rm_len
                      rw [f2]
                    rw [this]
                    exact Int.le_refl _
                | _ => exact Int.le_refl _
    have ha : rm_v S κ' M' a ≤ 2 * cap := by
      unfold rm_v
      rw [q1]
      dsimp only
      rw [hS]
      dsimp only
      split
      · split
        · split
          · rename_i b _ _ _ _
            have := rm_len_0 (M := M') (b := b)
            omega
          · exact Int.le_refl _
        · exact Int.le_refl _
      · exact Int.le_refl _
    have ha0 : rm_v S κ M a = 0 := by
      unfold rm_v
      rw [q0]
    show ∃ L : List Nat, L.Nodup ∧ (∀ a k, κ' a = some k → k ∈ S.map (fun p => p.1) → a ∈ L) ∧ rm_s (rm_v S κ' M') L ≤ tl_v V ([(0, 1)], 2 * cap)
    rw [sg_e0]
    have hcov : ∀ b k, κ' b = some k → k ∈ S.map (fun p => p.1) → b = a ∨ b ∈ L := by
      intro b k e1 e3
      cases e : κ b with
      | none => exact Or.inl (q3 b k e1 e)
      | some k' =>
        have := (q2 b k' e).1
        rw [e1] at this
        cases this
        exact Or.inr (g2 b k e e3)
    by_cases q : a ∈ L
    · refine ⟨L, g1, fun b k e1 e3 => ?_, ?_⟩
      · rcases hcov b k e1 e3 with rfl | hb
        · exact q
        · exact hb
      · have := rm_s_1 (d := 2 * cap) (by rw [ha0]; omega) (Or.inr trivial) hne g1 q
        omega
    · refine ⟨a :: L, List.nodup_cons.mpr ⟨q, g1⟩, fun b k e1 e3 => ?_, ?_⟩
      · rcases hcov b k e1 e3 with rfl | hb
        · exact List.mem_cons_self
        · exact List.mem_cons_of_mem _ hb
      · have := rm_s_le (l := L) (fun b hb => hne b (fun e => by
          subst e
          exact q hb))
        show rm_v S κ' M' a + rm_s (rm_v S κ' M') L ≤ _
        omega
  · cases hp
/-- names fall away: name 0 the room, 0 any -/
def rm_drop (t : Nat) : tc_Lm := ((2, 1), ([nn_d 1 0 0], [], [], [], [], [], [(8 * t, [0], [ql_n 0])]), (2, 1), ([], [], [], [], [], [], [(8 * t, [], [ql_n 1])]))
/-- room may be told greater -/
def rm_le (t : Nat) : tc_Lm := ((2, 0), ([nn_d 1 0 0], [], [], [], [], [], [(8 * t, [], [ql_n 0])]), (2, 0), ([], [], [], [], [], [], [(8 * t, [], [ql_n 1])]))
theorem rm_p_le {S : rm_S} {RO : am_O} {κ : Nat → Option Nat} {M : am_H} {as as' : List Nat} {X Y : Int} (h : X ≤ Y) (g : rm_p S RO κ M as [X]) : rm_p S RO κ M as' [Y] := by
  have g : ∃ L : List Nat, L.Nodup ∧ (∀ a k, κ a = some k → k ∈ S.map (fun p => p.1) → a ∈ L) ∧ rm_s (rm_v S κ M) L ≤ X := g
  obtain ⟨L, g1, g2, g3⟩ := g
  exact ⟨L, g1, g2, Int.le_trans g3 h⟩
theorem rm_drop_ok {l : List ga_S} {t : Nat} {S : rm_S} {RO : am_O} {T : tk_T} (h : l[t]? = some (rm_a S)) : tc_lmt (tg_of l) RO T (rm_drop t) := by
  intro V A κ M sz hH hsz hx
  refine ⟨V, A, fun _ _ => rfl, fun _ _ => rfl, ?_⟩
  have f0 := hx.1 _ List.mem_cons_self
  rw [nn_d_s] at f0
  have g8 := (tg_at0 h).mp (hx.2.2.2.2.2.2.2 _ List.mem_cons_self)
  refine ⟨fun _ q => (List.not_mem_nil q).elim, fun _ q => (List.not_mem_nil q).elim, fun _ q => (List.not_mem_nil q).elim, fun _ q => (List.not_mem_nil q).elim, fun _ q => (List.not_mem_nil q).elim, fun _ q => (List.not_mem_nil q).elim, trivial, fun p hp => ?_⟩
  rcases List.mem_cons.mp hp with rfl | hp
  · exact (tg_at0 h).mpr (rm_p_le (RO := RO) (as := [A 0]) (as' := []) (by rw [ql_n_s, ql_n_s]; omega) g8)
  · cases hp
theorem rm_le_ok {l : List ga_S} {t : Nat} {S : rm_S} {RO : am_O} {T : tk_T} (h : l[t]? = some (rm_a S)) : tc_lmt (tg_of l) RO T (rm_le t) := by
  intro V A κ M sz hH hsz hx
  refine ⟨V, A, fun _ _ => rfl, fun _ _ => rfl, ?_⟩
  have f0 := hx.1 _ List.mem_cons_self
  rw [nn_d_s] at f0
  have g8 := (tg_at0 h).mp (hx.2.2.2.2.2.2.2 _ List.mem_cons_self)
  refine ⟨fun _ q => (List.not_mem_nil q).elim, fun _ q => (List.not_mem_nil q).elim, fun _ q => (List.not_mem_nil q).elim, fun _ q => (List.not_mem_nil q).elim, fun _ q => (List.not_mem_nil q).elim, fun _ q => (List.not_mem_nil q).elim, trivial, fun p hp => ?_⟩
  rcases List.mem_cons.mp hp with rfl | hp
  · exact (tg_at0 h).mpr (rm_p_le (RO := RO) (as := []) (as' := []) (by rw [ql_n_s, ql_n_s]; omega) g8)
  · cases hp
