/-! TC: atoms: rows' elements in a linear inequality, at every place of a stretch but one -/
abbrev ga_S : Type := (am_O → (Nat → Option Nat) → am_H → List Nat → List Int → Prop) × List (Nat × Nat)
def ga_ok (g : ga_S) : Prop := ∀ (RO : am_O) (κ κ' : Nat → Option Nat) (M M' : am_H) (as : List Nat) (is : List Int), (∀ a k, κ a = some k → κ' a = some k) → (∀ a k, κ' a = some k → κ a = none → (k, 1000) ∉ g.2) → (∀ a k, κ a = some k → tg_kp g.2 k (M a) (M' a)) → g.1 RO κ M as is → g.1 RO κ' M' as is
def tg_of (l : List ga_S) : tg_G := (fun t RO κ M as is => match l[t]? with | some s => s.1 RO κ M as is | none => False, fun t => match l[t]? with | some s => s.2 | none => [])
theorem tg_of_ok {l : List ga_S} (h : ∀ s ∈ l, ga_ok s) : tg_ok (tg_of l) := by
  intro t RO κ κ' M M' as is h1 h2 h3 h4
  unfold tg_of at h2 h3 h4 ⊢
  dsimp only at h2 h3 h4 ⊢
  cases e : l[t]? with
  | none =>
    rw [e] at h4
    exact h4.elim
  | some s =>
    rw [e] at h2 h3 h4
    exact h s (List.mem_of_getElem? e) RO κ κ' M M' as is h1 h2 h3 h4
theorem tg_of_s {l : List ga_S} {t : Nat} {g : ga_S} (h : l[t]? = some g) {RO : am_O} {κ : Nat → Option Nat} {M : am_H} {as : List Nat} {is : List Int} : (tg_of l).1 t RO κ M as is = g.1 RO κ M as is := by
  unfold tg_of
  dsimp only
  rw [h]
/-- terms (kind, step, first, times); times of what is given; and a number -/
abbrev ql_S : Type := List (Nat × Nat × Nat × Int) × List Int × Int
def ql_el (RO : am_O) (M : am_H) (a j : Nat) : Int := match M a with
  | some (.inl (_, _, .inl f)) => (f j).toInt
  | some _ => 0
  | none => (match RO a with | some (_, f) => (f j).toInt | none => 0)
def ql_sum (RO : am_O) (M : am_H) : List (Nat × Nat × Nat × Int) → List Nat → Nat → Int
  | (_, α, β, c) :: ts, a :: as, s => c * ql_el RO M a (α * s + β) + ql_sum RO M ts as s
  | _, _, _ => 0
def ql_ks (κ : Nat → Option Nat) : List (Nat × Nat × Nat × Int) → List Nat → Prop
  | t :: ts, a :: as => κ a = some t.1 ∧ ql_ks κ ts as
  | [], [] => True
  | _, _ => False
def ql_dot : List Int → List Int → Int
  | d :: ds, e :: es => d * e + ql_dot ds es
  | _, _ => 0
def ql_p (S : ql_S) (RO : am_O) (κ : Nat → Option Nat) (M : am_H) (as : List Nat) (is : List Int) : Prop := match is with
  | L :: H :: X :: es => ql_ks κ S.1 as ∧ ∀ s : Nat, L ≤ (s : Int) → (s : Int) < H → (s : Int) ≠ X → 0 ≤ ql_sum RO M S.1 as s + ql_dot S.2.1 es + S.2.2
  | _ => False
def ql_a (S : ql_S) : ga_S := (ql_p S, S.1.map (fun t => (t.1, 0)))
theorem ql_el_k {RO : am_O} {M M' : am_H} {a k j : Nat} {F : List (Nat × Nat)} (h : tg_kp F k (M a) (M' a)) (hF : (k, 0) ∈ F) : ql_el RO M' a j = ql_el RO M a j := by
  obtain ⟨h1, h2, h3⟩ := h
  unfold ql_el
  cases e : M a with
  | none => rw [h3 e]
  | some c =>
    rcases c with ⟨t, x⟩ | ⟨ci, vs⟩
    · obtain ⟨x', g1, g2, g3⟩ := h2 t x e
      rw [g1, g3 hF]
    · obtain ⟨vs', g1, g2⟩ := h1 ci vs e
      rw [g1]
theorem ql_sum_k {RO : am_O} {κ : Nat → Option Nat} {M M' : am_H} {F : List (Nat × Nat)} (h : ∀ a k, κ a = some k → tg_kp F k (M a) (M' a)) : ∀ {ts : List (Nat × Nat × Nat × Int)} {as : List Nat} {s : Nat}, (∀ t ∈ ts, (t.1, 0) ∈ F) → ql_ks κ ts as → ql_sum RO M' ts as s = ql_sum RO M ts as s
  | [], _, s, _, _ => by simp [ql_sum]
  | t :: ts, [], s, _, hk => by cases hk
  | (k, α, β, c) :: ts, a :: as, s, hF, hk => by
    unfold ql_sum
    rw [ql_el_k (h a k hk.1) (hF _ List.mem_cons_self), ql_sum_k h (fun t ht => hF t (List.mem_cons_of_mem _ ht)) hk.2]
theorem ql_ks_k {κ κ' : Nat → Option Nat} (h : ∀ a k, κ a = some k → κ' a = some k) : ∀ {ts : List (Nat × Nat × Nat × Int)} {as : List Nat}, ql_ks κ ts as → ql_ks κ' ts as
  | [], [], _ => trivial
  | [], _ :: _, hk => by cases hk
  | t :: ts, [], hk => by cases hk
  | t :: ts, a :: as, hk => ⟨h _ _ hk.1, ql_ks_k h hk.2⟩
theorem ql_a_ok (S : ql_S) : ga_ok (ql_a S) := by
  intro RO κ κ' M M' as is h1 h2 h3 h4
  unfold ql_a at h3 h4 ⊢
  dsimp only at h3 h4 ⊢
  unfold ql_p at h4 ⊢
  split
  · dsimp only at h4
    obtain ⟨g1, g2⟩ := h4
    refine ⟨ql_ks_k h1 g1, fun s e1 e2 e3 => ?_⟩
    rw [ql_sum_k h3 (fun t ht => List.mem_map_of_mem ht) g1]
    exact g2 s e1 e2 e3
  · rename_i hn
    split at h4
    · rename_i L H X es
      exact hn L H X es rfl
    · exact h4
/-- names -/
abbrev ql_n (k : Nat) : tl_F := ([(k, 1)], 0)
theorem ql_n_s {V : Nat → Int} {k : Nat} : tl_v V (ql_n k) = V k := by simp [tl_v, tl_s, ql_n]
def ql_xf : Nat → List (Nat × Nat × Nat × Int) → List (Nat × Int)
  | k, t :: ts => (k, t.2.2.2) :: ql_xf (k + 1) ts
  | _, [] => []
def ql_ef : Nat → List Int → List (Nat × Int)
  | k, d :: ds => (k, d) :: ql_ef (k + 1) ds
  | _, [] => []
def ql_els : Nat → Nat → List (Nat × Nat × Nat × Int) → List (Nat × tl_F × tl_F)
  | k, a, t :: ts => (a, ([(3, (t.2.1 : Int))], (t.2.2.1 : Int)), ql_n k) :: ql_els (k + 1) (a + 1) ts
  | _, _, [] => []
def ql_ns : Nat → List (Nat × Nat × Nat × Int) → List Nat
  | a, _ :: ts => a :: ql_ns (a + 1) ts
  | _, [] => []
def ql_es : Nat → List Int → List tl_F
  | k, _ :: ds => ql_n k :: ql_es (k + 1) ds
  | _, [] => []
theorem ql_ef_s {V : Nat → Int} : ∀ {ds : List Int} {k : Nat}, tl_s V (ql_ef k ds) = ql_dot ds ((ql_es k ds).map (tl_v V))
  | [], k => by simp [ql_ef, ql_es, ql_dot, tl_s]
  | d :: ds, k => by
    unfold ql_ef ql_es
    rw [List.map_cons]
    unfold tl_s ql_dot
    rw [ql_ef_s, ql_n_s]
theorem ql_xf_s {RO : am_O} {M : am_H} {V : Nat → Int} {A : Nat → Nat} {s : Nat} (hs : V 3 = (s : Int)) : ∀ {ts : List (Nat × Nat × Nat × Int)} {k a : Nat}, (∀ p ∈ ql_els k a ts, tc_xe RO M V A p) → tl_s V (ql_xf k ts) = ql_sum RO M ts ((ql_ns a ts).map A) s
  | [], k, a, _ => by simp [ql_xf, ql_sum, tl_s]
  | (kk, α, β, c) :: ts, k, a, h => by
    unfold ql_xf ql_ns
    rw [List.map_cons]
    unfold tl_s ql_sum
    unfold ql_els at h
    rw [ql_xf_s hs (fun p hp => h p (List.mem_cons_of_mem _ hp))]
    obtain ⟨t, n, f, j, g1, g2, g3, g4⟩ := h _ List.mem_cons_self
    dsimp only at g1 g2 g3 g4 ⊢
    have e : j = α * s + β := by
      have : (j : Int) = (α : Int) * s + β := by
        rw [← g2, ← hs]
        simp [tl_v, tl_s]
      exact_mod_cast this
    have e2 : ql_el RO M (A a) (α * s + β) = V k := by
      rw [ql_n_s] at g4
      rw [← g4, ← e]
      unfold ql_el
      rcases g1 with g1 | ⟨g1, g0⟩
      · rw [g1]
      · rw [g1, g0]
    rw [e2]
/-- the inequality as a form: elements from name k, what is given from name q -/
def ql_form (S : ql_S) (k q : Nat) : tl_F := (ql_xf k S.1 ++ ql_ef q S.2.1, S.2.2)
theorem ql_form_s {RO : am_O} {M : am_H} {V : Nat → Int} {A : Nat → Nat} {s : Nat} {S : ql_S} {k q a : Nat} (hs : V 3 = (s : Int)) (h : ∀ p ∈ ql_els k a S.1, tc_xe RO M V A p) : tl_v V (ql_form S k q) = ql_sum RO M S.1 ((ql_ns a S.1).map A) s + ql_dot S.2.1 ((ql_es q S.2.1).map (tl_v V)) + S.2.2 := by
  unfold ql_form tl_v
  dsimp only
  rw [tl_s_app, ql_xf_s hs h, ql_ef_s]
  rfl
def ql_at (t : Nat) (S : ql_S) (X : tl_F) (q : Nat) : tg_P := (8 * t, ql_ns 0 S.1, ql_n 0 :: ql_n 1 :: X :: ql_es q S.2.1)
theorem ql_at_s {l : List ga_S} {t : Nat} {S : ql_S} (h : l[t]? = some (ql_a S)) {RO : am_O} {κ : Nat → Option Nat} {M : am_H} {V : Nat → Int} {A : Nat → Nat} {X : tl_F} {q : Nat} : tc_xq (tg_of l) RO κ M V A (ql_at t S X q) ↔ (ql_ks κ S.1 ((ql_ns 0 S.1).map A) ∧ ∀ s : Nat, V 0 ≤ (s : Int) → (s : Int) < V 1 → (s : Int) ≠ tl_v V X → 0 ≤ ql_sum RO M S.1 ((ql_ns 0 S.1).map A) s + ql_dot S.2.1 ((ql_es q S.2.1).map (tl_v V)) + S.2.2) := by
  have e : (ql_at t S X q).1 % 8 = 0 := by
    show 8 * t % 8 = 0
    omega
  have e2 : (ql_at t S X q).1 / 8 = t := by
    show 8 * t / 8 = t
    omega
  rw [tg_q0 e, e2, tg_of_s h]
  unfold ql_a ql_at ql_p
  simp only [List.map_cons, ql_n_s]
/-- read at one place: names 0 L, 1 H, 2 X, 3 S, then elements, then what is given -/
def ql_use (t : Nat) (S : ql_S) (w : Bool) : tc_Lm := ((4 + S.1.length + S.2.1.length, S.1.length), ([ql_n 3, ([(3, 1), (0, -1)], 0), ([(1, 1), (3, -1)], -1), if w then ([(2, 1), (3, -1)], -1) else ([(3, 1), (2, -1)], -1)], [], [], [], ql_els 4 0 S.1, [], [ql_at t S (ql_n 2) (4 + S.1.length)]), (4 + S.1.length + S.2.1.length, S.1.length), ([ql_form S 4 (4 + S.1.length)], [], [], [], [], [], []))
theorem ql_use_ok {l : List ga_S} {t : Nat} {S : ql_S} {w : Bool} {RO : am_O} {T : tk_T} (h : l[t]? = some (ql_a S)) : tc_lmt (tg_of l) RO T (ql_use t S w) := by
  intro V A κ M sz hH hz hx
  refine ⟨V, A, fun _ _ => rfl, fun _ _ => rfl, ?_⟩
  obtain ⟨h1, h2, h3, h4, h5, h6, h7, h8⟩ := hx
  have g8 := (ql_at_s h).mp (h8 _ List.mem_cons_self)
  have f0 := h1 _ List.mem_cons_self
  have f1 := h1 _ (List.mem_cons_of_mem _ List.mem_cons_self)
  have f2 := h1 _ (List.mem_cons_of_mem _ (List.mem_cons_of_mem _ List.mem_cons_self))
  have f3 := h1 _ (List.mem_cons_of_mem _ (List.mem_cons_of_mem _ (List.mem_cons_of_mem _ List.mem_cons_self)))
  rw [ql_n_s] at f0
  simp only [tl_v, tl_s] at f1 f2
  have f3' : V 3 ≠ V 2 := by
    cases w <;> simp [tl_v, tl_s] at f3 <;> omega
  have hs : V 3 = ((V 3).toNat : Int) := by omega
  refine ⟨fun f hf => ?_, fun _ q => (List.not_mem_nil q).elim, fun _ q => (List.not_mem_nil q).elim, fun _ q => (List.not_mem_nil q).elim, fun _ q => (List.not_mem_nil q).elim, fun _ q => (List.not_mem_nil q).elim, trivial, fun _ q => (List.not_mem_nil q).elim⟩
  rcases List.mem_cons.mp hf with rfl | hf
  · rw [ql_form_s hs h5]
    exact g8.2 _ (by omega) (by omega) (by rw [ql_n_s]; omega)
  · cases hf
/-- one place is taken out -/
def ql_open (t : Nat) (S : ql_S) : tc_Lm := ((4 + S.2.1.length, S.1.length), ([], [], [], [], [], [], [ql_at t S ([], -1) 4]), (4 + S.2.1.length, S.1.length), ([], [], [], [], [], [], [ql_at t S (ql_n 3) 4]))
theorem ql_open_ok {l : List ga_S} {t : Nat} {S : ql_S} {RO : am_O} {T : tk_T} (h : l[t]? = some (ql_a S)) : tc_lmt (tg_of l) RO T (ql_open t S) := by
  intro V A κ M sz hH hz hx
  refine ⟨V, A, fun _ _ => rfl, fun _ _ => rfl, ?_⟩
  obtain ⟨h1, h2, h3, h4, h5, h6, h7, h8⟩ := hx
  have g8 := (ql_at_s h).mp (h8 _ List.mem_cons_self)
  refine ⟨fun _ q => (List.not_mem_nil q).elim, fun _ q => (List.not_mem_nil q).elim, fun _ q => (List.not_mem_nil q).elim, fun _ q => (List.not_mem_nil q).elim, fun _ q => (List.not_mem_nil q).elim, fun _ q => (List.not_mem_nil q).elim, trivial, fun p hp => ?_⟩
  rcases List.mem_cons.mp hp with rfl | hp
  · exact (ql_at_s h).mpr ⟨g8.1, fun s e1 e2 _ => g8.2 s e1 e2 (by simp [tl_v, tl_s])⟩
  · cases hp
/-- and put back -/
def ql_shut (t : Nat) (S : ql_S) : tc_Lm := ((4 + S.1.length + S.2.1.length, S.1.length), ([ql_n 3, ql_form S 4 (4 + S.1.length)], [], [], [], ql_els 4 0 S.1, [], [ql_at t S (ql_n 3) (4 + S.1.length)]), (4 + S.1.length + S.2.1.length, S.1.length), ([], [], [], [], [], [], [ql_at t S ([], -1) (4 + S.1.length)]))
theorem ql_shut_ok {l : List ga_S} {t : Nat} {S : ql_S} {RO : am_O} {T : tk_T} (h : l[t]? = some (ql_a S)) : tc_lmt (tg_of l) RO T (ql_shut t S) := by
  intro V A κ M sz hH hz hx
  refine ⟨V, A, fun _ _ => rfl, fun _ _ => rfl, ?_⟩
  obtain ⟨h1, h2, h3, h4, h5, h6, h7, h8⟩ := hx
  have g8 := (ql_at_s h).mp (h8 _ List.mem_cons_self)
  have f0 := h1 _ List.mem_cons_self
  have f1 := h1 _ (List.mem_cons_of_mem _ List.mem_cons_self)
  rw [ql_n_s] at f0
  have hs : V 3 = ((V 3).toNat : Int) := by omega
  rw [ql_form_s hs h5] at f1
  refine ⟨fun _ q => (List.not_mem_nil q).elim, fun _ q => (List.not_mem_nil q).elim, fun _ q => (List.not_mem_nil q).elim, fun _ q => (List.not_mem_nil q).elim, fun _ q => (List.not_mem_nil q).elim, fun _ q => (List.not_mem_nil q).elim, trivial, fun p hp => ?_⟩
  rcases List.mem_cons.mp hp with rfl | hp
  · refine (ql_at_s h).mpr ⟨g8.1, fun s e1 e2 _ => ?_⟩
    by_cases e : (s : Int) = V 3
    · have : s = (V 3).toNat := by omega
      rw [this]
      exact f1
    · exact g8.2 s e1 e2 (by rw [ql_n_s]; exact e)
  · cases hp
/-- the stretch grows by the place that is out, or gets smaller: names 4, 5 what it is then -/
def ql_grow (t : Nat) (S : ql_S) : tc_Lm := ((6 + S.2.1.length, S.1.length), ([([(4, 1), (0, -1)], 0), ([(1, 1), (5, -1)], 1), ([(1, 1), (3, -1)], 0), ([(3, 1), (1, -1)], 0)], [], [], [], [], [], [ql_at t S (ql_n 3) 6]), (6 + S.2.1.length, S.1.length), ([], [], [], [], [], [], [(8 * t, ql_ns 0 S.1, ql_n 4 :: ql_n 5 :: ql_n 3 :: ql_es 6 S.2.1)]))
theorem ql_at_s2 {l : List ga_S} {t : Nat} {S : ql_S} (h : l[t]? = some (ql_a S)) {RO : am_O} {κ : Nat → Option Nat} {M : am_H} {V : Nat → Int} {A : Nat → Nat} {L H X : tl_F} {ns : List Nat} {es : List tl_F} : tc_xq (tg_of l) RO κ M V A (8 * t, ns, L :: H :: X :: es) ↔ (ql_ks κ S.1 (ns.map A) ∧ ∀ s : Nat, tl_v V L ≤ (s : Int) → (s : Int) < tl_v V H → (s : Int) ≠ tl_v V X → 0 ≤ ql_sum RO M S.1 (ns.map A) s + ql_dot S.2.1 (es.map (tl_v V)) + S.2.2) := by
  have e : (8 * t, ns, L :: H :: X :: es).1 % 8 = 0 := by
    show 8 * t % 8 = 0
    omega
  have e2 : (8 * t, ns, L :: H :: X :: es).1 / 8 = t := by
    show 8 * t / 8 = t
    omega
  rw [tg_q0 e, e2, tg_of_s h]
  unfold ql_a ql_p
  simp only [List.map_cons]
theorem ql_grow_ok {l : List ga_S} {t : Nat} {S : ql_S} {RO : am_O} {T : tk_T} (h : l[t]? = some (ql_a S)) : tc_lmt (tg_of l) RO T (ql_grow t S) := by
  intro V A κ M sz hH hz hx
  refine ⟨V, A, fun _ _ => rfl, fun _ _ => rfl, ?_⟩
  obtain ⟨h1, h2, h3, h4, h5, h6, h7, h8⟩ := hx
  have g8 := (ql_at_s h).mp (h8 _ List.mem_cons_self)
  have f0 := h1 _ List.mem_cons_self
  have f1 := h1 _ (List.mem_cons_of_mem _ List.mem_cons_self)
  have f2 := h1 _ (List.mem_cons_of_mem _ (List.mem_cons_of_mem _ List.mem_cons_self))
  have f3 := h1 _ (List.mem_cons_of_mem _ (List.mem_cons_of_mem _ (List.mem_cons_of_mem _ List.mem_cons_self)))
  simp only [tl_v, tl_s] at f0 f1 f2 f3
  refine ⟨fun _ q => (List.not_mem_nil q).elim, fun _ q => (List.not_mem_nil q).elim, fun _ q => (List.not_mem_nil q).elim, fun _ q => (List.not_mem_nil q).elim, fun _ q => (List.not_mem_nil q).elim, fun _ q => (List.not_mem_nil q).elim, trivial, fun p hp => ?_⟩
  rcases List.mem_cons.mp hp with rfl | hp
  · refine (ql_at_s2 h).mpr ⟨g8.1, fun s e1 e2 e3 => g8.2 s ?_ ?_ e3⟩
    · rw [ql_n_s] at e1
      omega
    · rw [ql_n_s] at e2 e3
      omega
  · cases hp
def ql_kd : Nat → List (Nat × Nat × Nat × Int) → List (Nat × Nat)
  | a, t :: ts => (a, t.1) :: ql_kd (a + 1) ts
  | _, [] => []
theorem ql_kd_s {κ : Nat → Option Nat} {A : Nat → Nat} : ∀ {ts : List (Nat × Nat × Nat × Int)} {a : Nat}, (∀ p ∈ ql_kd a ts, κ (A p.1) = some p.2) → ql_ks κ ts ((ql_ns a ts).map A)
  | [], a, _ => trivial
  | t :: ts, a, h => by
    unfold ql_ns
    rw [List.map_cons]
    exact ⟨h _ List.mem_cons_self, ql_kd_s (fun p hp => h p (List.mem_cons_of_mem _ hp))⟩
/-- the empty stretch -/
def ql_nil (t : Nat) (S : ql_S) : tc_Lm := ((3 + S.2.1.length, S.1.length), ([([(0, 1), (1, -1)], 0)], ql_kd 0 S.1, [], [], [], [], []), (3 + S.2.1.length, S.1.length), ([], [], [], [], [], [], [ql_at t S (ql_n 2) 3]))
theorem ql_nil_ok {l : List ga_S} {t : Nat} {S : ql_S} {RO : am_O} {T : tk_T} (h : l[t]? = some (ql_a S)) : tc_lmt (tg_of l) RO T (ql_nil t S) := by
  intro V A κ M sz hH hz hx
  refine ⟨V, A, fun _ _ => rfl, fun _ _ => rfl, ?_⟩
  obtain ⟨h1, h2, h3, h4, h5, h6, h7, h8⟩ := hx
  have f0 := h1 _ List.mem_cons_self
  simp only [tl_v, tl_s] at f0
  refine ⟨fun _ q => (List.not_mem_nil q).elim, fun _ q => (List.not_mem_nil q).elim, fun _ q => (List.not_mem_nil q).elim, fun _ q => (List.not_mem_nil q).elim, fun _ q => (List.not_mem_nil q).elim, fun _ q => (List.not_mem_nil q).elim, trivial, fun p hp => ?_⟩
  rcases List.mem_cons.mp hp with rfl | hp
  · refine (ql_at_s h).mpr ⟨ql_kd_s h2, fun s e1 e2 _ => ?_⟩
    omega
  · cases hp
