/-! TC: what holds of all things of a kind: their rows, their numbers -/
/-- an int: (0, c, _) a number, (1, j, _) field j, (2, j, k) the length of what field j holds, of kind k -/
abbrev kn_T : Type := Nat × Int × Nat
/-- kind; rows (field, kind); ints -/
abbrev kn_S : Type := Nat × List (Nat × Nat) × List kn_T
def kn_fs (κ : Nat → Option Nat) (vs : List Value) : List (Nat × Nat) → List Nat → Prop
  | p :: r, b :: bs => vs[p.1]? = some (.ref b) ∧ κ b = some p.2 ∧ kn_fs κ vs r bs
  | [], [] => True
  | _, _ => False
def kn_t1 (RO : am_O) (κ : Nat → Option Nat) (M : am_H) (vs : List Value) (t : kn_T) (x : Int) : Prop := match t.1 with
  | 0 => x = t.2.1
  | 1 => ∃ y : Int32, vs[t.2.1.toNat]? = some (.int y) ∧ x = y.toInt
  | _ => ∃ b n : Nat, vs[t.2.1.toNat]? = some (.ref b) ∧ κ b = some t.2.2 ∧ tk_len M RO b n ∧ x = (n : Int)
def kn_ts (RO : am_O) (κ : Nat → Option Nat) (M : am_H) (vs : List Value) : List kn_T → List Int → Prop
  | t :: r, x :: xs => kn_t1 RO κ M vs t x ∧ kn_ts RO κ M vs r xs
  | [], [] => True
  | _, _ => False
def kn_o (S : kn_S) (g : ga_S) (RO : am_O) (κ : Nat → Option Nat) (M : am_H) (o : Nat) (is : List Int) : Prop := ∃ (ci : Nat) (vs : List Value) (bs : List Nat) (xs : List Int), M o = some (.inr (ci, vs)) ∧ kn_fs κ vs S.2.1 bs ∧ kn_ts RO κ M vs S.2.2 xs ∧ g.1 RO κ M bs (xs ++ is)
def kn_p (S : kn_S) (g : ga_S) (RO : am_O) (κ : Nat → Option Nat) (M : am_H) (as : List Nat) (is : List Int) : Prop := ∀ o, κ o = some S.1 → o ∉ as → kn_o S g RO κ M o is
def kn_F (S : kn_S) (g : ga_S) : List (Nat × Nat) := (S.1, 1000) :: (S.2.1.map (fun p => (S.1, p.1)) ++ (S.2.2.filterMap (fun t => if t.1 = 0 then none else some (S.1, t.2.1.toNat)) ++ g.2))
def kn_a (S : kn_S) (g : ga_S) : ga_S := (kn_p S g, kn_F S g)
theorem tg_kp_le {F F' : List (Nat × Nat)} (hF : ∀ p ∈ F', p ∈ F) {k : Nat} {c c' : Option am_E} (h : tg_kp F k c c') : tg_kp F' k c c' := by
  obtain ⟨h1, h2, h3⟩ := h
  refine ⟨fun ci vs e => ?_, fun t x e => ?_, h3⟩
  · obtain ⟨vs', g1, g2⟩ := h1 ci vs e
    exact ⟨vs', g1, fun j hj => g2 j (hF _ hj)⟩
  · obtain ⟨x', g1, g2, g3⟩ := h2 t x e
    exact ⟨x', g1, g2, fun q => g3 (hF _ q)⟩
theorem tg_kp_len {F : List (Nat × Nat)} {RO : am_O} {M M' : am_H} {k b n : Nat} (h : tg_kp F k (M b) (M' b)) (hl : tk_len M RO b n) : tk_len M' RO b n := by
  obtain ⟨h1, h2, h3⟩ := h
  rcases hl with ⟨t, x, e, e2⟩ | ⟨e, e2⟩
  · obtain ⟨x', g1, g2, -⟩ := h2 t x e
    exact Or.inl ⟨t, x', g1, g2.trans e2⟩
  · exact Or.inr ⟨h3 e, e2⟩
theorem kn_fs_k {κ κ' : Nat → Option Nat} {vs vs' : List Value} (h : ∀ a k, κ a = some k → κ' a = some k) : ∀ {l : List (Nat × Nat)} {bs : List Nat}, (∀ p ∈ l, vs'[p.1]? = vs[p.1]?) → kn_fs κ vs l bs → kn_fs κ' vs' l bs
  | [], [], _, _ => trivial
  | [], _ :: _, _, g => by cases g
  | _ :: _, [], _, g => by cases g
  | p :: r, b :: bs, hv, g => ⟨(hv p List.mem_cons_self).trans g.1, h _ _ g.2.1, kn_fs_k h (fun p hp => hv p (List.mem_cons_of_mem _ hp)) g.2.2⟩
theorem kn_t1_k {RO : am_O} {κ κ' : Nat → Option Nat} {M M' : am_H} {vs vs' : List Value} (h : ∀ a k, κ a = some k → κ' a = some k) (hl : ∀ b n, (∃ k, κ b = some k) → tk_len M RO b n → tk_len M' RO b n) {t : kn_T} {x : Int} (hv : t.1 ≠ 0 → vs'[t.2.1.toNat]? = vs[t.2.1.toNat]?) (g : kn_t1 RO κ M vs t x) : kn_t1 RO κ' M' vs' t x := by
  obtain ⟨s, c, k⟩ := t
  match s, g, hv with
  | 0, g, _ => exact g
  | 1, ⟨y, g1, g2⟩, hv => exact ⟨y, (hv Nat.one_ne_zero).trans g1, g2⟩
  | s + 2, ⟨b, n, g1, g2, g3, g4⟩, hv => exact ⟨b, n, (hv (by simp)).trans g1, h _ _ g2, hl _ _ ⟨_, g2⟩ g3, g4⟩
theorem kn_ts_k {RO : am_O} {κ κ' : Nat → Option Nat} {M M' : am_H} {vs vs' : List Value} (h : ∀ a k, κ a = some k → κ' a = some k) (hl : ∀ b n, (∃ k, κ b = some k) → tk_len M RO b n → tk_len M' RO b n) : ∀ {l : List kn_T} {xs : List Int}, (∀ t ∈ l, t.1 ≠ 0 → vs'[t.2.1.toNat]? = vs[t.2.1.toNat]?) → kn_ts RO κ M vs l xs → kn_ts RO κ' M' vs' l xs
  | [], [], _, _ => trivial
  | [], _ :: _, _, g => by cases g
  | _ :: _, [], _, g => by cases g
  | t :: r, x :: xs, hv, g => ⟨kn_t1_k h hl (hv t List.mem_cons_self) g.1, kn_ts_k h hl (fun p hp => hv p (List.mem_cons_of_mem _ hp)) g.2⟩
theorem kn_o_m {S : kn_S} {g : ga_S} {RO : am_O} {κ κ' : Nat → Option Nat} {M M' : am_H} {o : Nat} {is : List Int} (h1 : ∀ a k, κ a = some k → κ' a = some k) (hv : ∀ ci vs, M o = some (.inr (ci, vs)) → ∃ vs', M' o = some (.inr (ci, vs')) ∧ ∀ j, (S.1, j) ∈ kn_F S g → vs'[j]? = vs[j]?) (hl : ∀ b n, (∃ k, κ b = some k) → tk_len M RO b n → tk_len M' RO b n) (hg : ∀ ci vs bs xs, M o = some (.inr (ci, vs)) → kn_fs κ vs S.2.1 bs → g.1 RO κ M bs xs → g.1 RO κ' M' bs xs) (h : kn_o S g RO κ M o is) : kn_o S g RO κ' M' o is := by
  obtain ⟨ci, vs, bs, xs, e1, e2, e3, e4⟩ := h
  obtain ⟨vs', f1, f2⟩ := hv ci vs e1
  refine ⟨ci, vs', bs, xs, f1, kn_fs_k h1 (fun p hp => f2 _ ?_) e2, kn_ts_k h1 hl (fun t ht hn => f2 _ ?_) e3, hg ci vs bs _ e1 e2 e4⟩
  · exact List.mem_cons_of_mem _ (List.mem_append_left _ (List.mem_map.mpr ⟨p, hp, rfl⟩))
  · exact List.mem_cons_of_mem _ (List.mem_append_right _ (List.mem_append_left _ (List.mem_filterMap.mpr ⟨t, ht, if_neg hn⟩)))
theorem kn_Fg {S : kn_S} {g : ga_S} : ∀ p ∈ g.2, p ∈ kn_F S g := fun p hp => List.mem_cons_of_mem _ (List.mem_append_right _ (List.mem_append_right _ hp))
theorem kn_a_ok {S : kn_S} {g : ga_S} (hg : ga_ok g) : ga_ok (kn_a S g) := by
  intro RO κ κ' M M' as is h1 h2 h3 h4
  intro o ho hn
  cases e : κ o with
  | none => exact absurd List.mem_cons_self (h2 o _ ho e)
  | some k =>
    have : k = S.1 := by
      have := h1 o k e
      rw [ho] at this
      exact (Option.some.inj this).symm
    subst this
    refine kn_o_m h1 (fun ci vs q => (h3 o _ e).1 ci vs q) (fun b n ⟨k, hk⟩ hl => tg_kp_len (h3 b k hk) hl) (fun ci vs bs xs _ _ q => hg RO κ κ' M M' bs xs h1 (fun a k q1 q2 q3 => h2 a k q1 q2 (kn_Fg _ q3)) (fun a k hk => tg_kp_le kn_Fg (h3 a k hk)) q) (h4 o e hn)
theorem kn_at_s {l : List ga_S} {t : Nat} {S : kn_S} {g : ga_S} (h : l[t]? = some (kn_a S g)) {RO : am_O} {κ : Nat → Option Nat} {M : am_H} {V : Nat → Int} {A : Nat → Nat} {as : List Nat} {fs : List tl_F} : tc_xq (tg_of l) RO κ M V A (8 * t, as, fs) ↔ kn_p S g RO κ M (as.map A) (fs.map (tl_v V)) := by
  have e : (8 * t, as, fs).1 % 8 = 0 := by
    show 8 * t % 8 = 0
    omega
  have e2 : (8 * t, as, fs).1 / 8 = t := by
    show 8 * t / 8 = t
    omega
  rw [tg_q0 e, e2, tg_of_s h]
  exact Iff.rfl
/-- names of rows, of ints; what is wanted of them -/
def kn_rn : Nat → List (Nat × Nat) → List Nat
  | a, _ :: r => a :: kn_rn (a + 1) r
  | _, [] => []
def kn_rf : Nat → List (Nat × Nat) → List (Nat × Nat × tv_V)
  | a, p :: r => (0, p.1, tv_a a) :: kn_rf (a + 1) r
  | _, [] => []
def kn_rk : Nat → List (Nat × Nat) → List (Nat × Nat)
  | a, p :: r => (a, p.2) :: kn_rk (a + 1) r
  | _, [] => []
def kn_tf : Nat → Nat → List kn_T → List (Nat × Nat × tv_V)
  | i, a, t :: r => (match t.1 with
    | 0 => []
    | 1 => [(0, t.2.1.toNat, tv_i (ql_n i))]
    | _ => [(0, t.2.1.toNat, tv_a a)]) ++ kn_tf (i + 1) (a + 1) r
  | _, _, [] => []
def kn_tl : Nat → Nat → List kn_T → List (Nat × tl_F)
  | i, a, t :: r => (match t.1 with
    | 0 => []
    | 1 => []
    | _ => [(a, ql_n i)]) ++ kn_tl (i + 1) (a + 1) r
  | _, _, [] => []
def kn_tk : Nat → List kn_T → List (Nat × Nat)
  | a, t :: r => (match t.1 with
    | 0 => []
    | 1 => []
    | _ => [(a, t.2.2)]) ++ kn_tk (a + 1) r
  | _, [] => []
def kn_tx : Nat → List kn_T → List tl_F
  | i, t :: r => (if t.1 = 0 then ([], t.2.1) else ql_n i) :: kn_tx (i + 1) r
  | _, [] => []
def kn_ex : Nat → Nat → List tl_F
  | i, e + 1 => ql_n i :: kn_ex (i + 1) e
  | _, 0 => []
section KN
variable {RO : am_O} {κ : Nat → Option Nat} {M : am_H} {V : Nat → Int} {A : Nat → Nat} {ci : Nat} {vs : List Value}
theorem kn_fd (hM : M (A 0) = some (.inr (ci, vs))) {j : Nat} {t : tv_V} (h : tc_xf M V A (0, j, t)) : ∃ v, vs[j]? = some v ∧ tv_is V A t v := by
  obtain ⟨ci', vs', v, e1, e2, e3⟩ := h
  rw [hM] at e1
  cases e1
  exact ⟨v, e2, e3⟩
theorem kn_rf_s (hM : M (A 0) = some (.inr (ci, vs))) : ∀ {l : List (Nat × Nat)} {a : Nat} {bs : List Nat}, (∀ p ∈ kn_rf a l, tc_xf M V A p) → kn_fs κ vs l bs → bs = (kn_rn a l).map A
  | [], _, [], _, _ => rfl
  | [], _, _ :: _, _, g => by cases g
  | _ :: _, _, [], _, g => by cases g
  | p :: r, a, b :: bs, h, g => by
    obtain ⟨v, e1, e2⟩ := kn_fd hM (h _ List.mem_cons_self)
    have e2 : v = .ref (A a) := e2
    rw [g.1, e2] at e1
    have e1 : b = A a := by
      cases e1
      rfl
    rw [kn_rf_s hM (a := a + 1) (fun q hq => h q (List.mem_cons_of_mem _ hq)) g.2.2, e1]
    rfl
theorem kn_rf_m (hM : M (A 0) = some (.inr (ci, vs))) : ∀ {l : List (Nat × Nat)} {a : Nat}, (∀ p ∈ kn_rf a l, tc_xf M V A p) → (∀ p ∈ kn_rk a l, κ (A p.1) = some p.2) → kn_fs κ vs l ((kn_rn a l).map A)
  | [], _, _, _ => trivial
  | p :: r, a, h, hk => by
    obtain ⟨v, e1, e2⟩ := kn_fd hM (h _ List.mem_cons_self)
    have e2 : v = .ref (A a) := e2
    rw [e2] at e1
    exact ⟨e1, hk _ List.mem_cons_self, kn_rf_m hM (fun q hq => h q (List.mem_cons_of_mem _ hq)) (fun q hq => hk q (List.mem_cons_of_mem _ hq))⟩
theorem kn_tf_s (hM : M (A 0) = some (.inr (ci, vs))) : ∀ {l : List kn_T} {i a : Nat} {xs : List Int}, (∀ p ∈ kn_tf i a l, tc_xf M V A p) → (∀ p ∈ kn_tl i a l, tc_xl RO M V A p) → kn_ts RO κ M vs l xs → xs = (kn_tx i l).map (tl_v V)
  | [], _, _, [], _, _, _ => rfl
  | [], _, _, _ :: _, _, _, g => by cases g
  | _ :: _, _, _, [], _, _, g => by cases g
  | (s, c, k) :: r, i, a, x :: xs, h, hl, g => by
    have e0 := kn_tf_s hM (i := i + 1) (a := a + 1) (fun q hq => h q (List.mem_append_right _ hq)) (fun q hq => hl q (List.mem_append_right _ hq)) g.2
    have e1 : x = tl_v V (if s = 0 then ([], c) else ql_n i) := by
      match s, g.1, h, hl with
      | 0, g1, _, _ =>
        have g1 : x = c := g1
        simp [tl_v, tl_s, g1]
      | 1, ⟨y, g1, g2⟩, h, _ =>
        obtain ⟨v, e1, e2⟩ := kn_fd hM (h (0, c.toNat, tv_i (ql_n i)) (List.mem_append_left _ List.mem_cons_self))
        obtain ⟨z, z1, z2⟩ := e2
        rw [g1, z1] at e1
        cases e1
        rw [if_neg (by decide)]
        exact g2.trans z2
      | s + 2, ⟨b, n, g1, g2, g3, g4⟩, h, hl =>
        obtain ⟨v, e1, e2⟩ := kn_fd hM (h (0, c.toNat, tv_a a) (List.mem_append_left _ List.mem_cons_self))
        have e2 : v = .ref (A a) := e2
        rw [g1, e2] at e1
        have e1 : b = A a := by
          cases e1
          rfl
        obtain ⟨n', l1, l2⟩ := hl (a, ql_n i) (List.mem_append_left _ List.mem_cons_self)
        rw [e1] at g3
        have := tk_len_1 g3 l1
        subst this
        rw [if_neg (by omega)]
        exact g4.trans l2.symm
    rw [e0, e1]
    rfl
theorem kn_tf_m (hM : M (A 0) = some (.inr (ci, vs))) : ∀ {l : List kn_T} {i a : Nat}, (∀ p ∈ kn_tf i a l, tc_xf M V A p) → (∀ p ∈ kn_tl i a l, tc_xl RO M V A p) → (∀ p ∈ kn_tk a l, κ (A p.1) = some p.2) → kn_ts RO κ M vs l ((kn_tx i l).map (tl_v V))
  | [], _, _, _, _, _ => trivial
  | (s, c, k) :: r, i, a, h, hl, hk => by
    refine ⟨?_, kn_tf_m hM (i := i + 1) (a := a + 1) (fun q hq => h q (List.mem_append_right _ hq)) (fun q hq => hl q (List.mem_append_right _ hq)) (fun q hq => hk q (List.mem_append_right _ hq))⟩
    match s, h, hl, hk with
    | 0, _, _, _ =>
      show tl_v V (([], c) : tl_F) = c
      simp [tl_v, tl_s]
    | 1, h, _, _ =>
      obtain ⟨v, e1, z, z1, z2⟩ := kn_fd hM (h (0, c.toNat, tv_i (ql_n i)) (List.mem_append_left _ List.mem_cons_self))
      rw [z1] at e1
      exact ⟨z, e1, z2.symm⟩
    | s + 2, h, hl, hk =>
      obtain ⟨v, e1, e2⟩ := kn_fd hM (h (0, c.toNat, tv_a a) (List.mem_append_left _ List.mem_cons_self))
      have e2 : v = .ref (A a) := e2
      rw [e2] at e1
      obtain ⟨n', l1, l2⟩ := hl (a, ql_n i) (List.mem_append_left _ List.mem_cons_self)
      exact ⟨A a, n', e1, hk (a, k) (List.mem_append_left _ List.mem_cons_self), l1, l2⟩
end KN
/-- names: ints of the thing, then what is given; 0 the thing, its rows, then what lengths are of -/
def kn_use (t u : Nat) (S : kn_S) (e : Nat) : tc_Lm := ((S.2.2.length + e, 1 + S.2.1.length + S.2.2.length), ([], [(0, S.1)], kn_tl 0 (1 + S.2.1.length) S.2.2, kn_rf 1 S.2.1 ++ kn_tf 0 (1 + S.2.1.length) S.2.2, [], [], [(8 * t, [], kn_ex S.2.2.length e)]), (S.2.2.length + e, 1 + S.2.1.length + S.2.2.length), ([], [], [], [], [], [], [(8 * u, kn_rn 1 S.2.1, kn_tx 0 S.2.2 ++ kn_ex S.2.2.length e)]))
theorem kn_use_ok {l : List ga_S} {t u : Nat} {S : kn_S} {g : ga_S} {e : Nat} {RO : am_O} {T : tk_T} (h : l[t]? = some (kn_a S g)) (hu : l[u]? = some g) : tc_lmt (tg_of l) RO T (kn_use t u S e) := by
  intro V A κ M sz hH hsz hx
  refine ⟨V, A, fun _ _ => rfl, fun _ _ => rfl, ?_⟩
  obtain ⟨h1, h2, h3, h4, h5, h6, h7, h8⟩ := hx
  obtain ⟨ci, vs, bs, xs, e1, e2, e3, e4⟩ := (kn_at_s h).mp (h8 _ List.mem_cons_self) (A 0) (h2 _ List.mem_cons_self) (fun q => (List.not_mem_nil q).elim)
  refine ⟨fun _ q => (List.not_mem_nil q).elim, fun _ q => (List.not_mem_nil q).elim, fun _ q => (List.not_mem_nil q).elim, fun _ q => (List.not_mem_nil q).elim, fun _ q => (List.not_mem_nil q).elim, fun _ q => (List.not_mem_nil q).elim, trivial, fun p hp => ?_⟩
  rcases List.mem_cons.mp hp with rfl | hp
  · have q1 := kn_rf_s (a := 1) e1 (fun p hp => h4 p (List.mem_append_left _ hp)) e2
    have q2 := kn_tf_s (i := 0) (a := 1 + S.2.1.length) e1 (fun p hp => h4 p (List.mem_append_right _ hp)) h3 e3
    rw [tg_q0 (by show 8 * u % 8 = 0; omega)]
    dsimp only
    rw [show 8 * u / 8 = u by omega, tg_of_s hu, List.map_append, ← q1, ← q2]
    exact e4
  · cases hp
/-- one is taken out -/
def kn_open (t e : Nat) : tc_Lm := ((e, 1), ([], [], [], [], [], [], [(8 * t, [], kn_ex 0 e)]), (e, 1), ([], [], [], [], [], [], [(8 * t, [0], kn_ex 0 e)]))
theorem kn_open_ok {l : List ga_S} {t : Nat} {S : kn_S} {g : ga_S} {e : Nat} {RO : am_O} {T : tk_T} (h : l[t]? = some (kn_a S g)) : tc_lmt (tg_of l) RO T (kn_open t e) := by
  intro V A κ M sz hH hsz hx
  refine ⟨V, A, fun _ _ => rfl, fun _ _ => rfl, ?_⟩
  obtain ⟨h1, h2, h3, h4, h5, h6, h7, h8⟩ := hx
  have g8 := (kn_at_s h).mp (h8 _ List.mem_cons_self)
  refine ⟨fun _ q => (List.not_mem_nil q).elim, fun _ q => (List.not_mem_nil q).elim, fun _ q => (List.not_mem_nil q).elim, fun _ q => (List.not_mem_nil q).elim, fun _ q => (List.not_mem_nil q).elim, fun _ q => (List.not_mem_nil q).elim, trivial, fun p hp => ?_⟩
  rcases List.mem_cons.mp hp with rfl | hp
  · exact (kn_at_s h).mpr (fun o ho _ => g8 o ho (fun q => (List.not_mem_nil q).elim))
  · cases hp
/-- it is put back -/
def kn_shut (t u : Nat) (S : kn_S) (e : Nat) : tc_Lm := ((S.2.2.length + e, 1 + S.2.1.length + S.2.2.length), ([], (0, S.1) :: (kn_rk 1 S.2.1 ++ kn_tk (1 + S.2.1.length) S.2.2), kn_tl 0 (1 + S.2.1.length) S.2.2, kn_rf 1 S.2.1 ++ kn_tf 0 (1 + S.2.1.length) S.2.2, [], [], [(8 * t, [0], kn_ex S.2.2.length e), (8 * u, kn_rn 1 S.2.1, kn_tx 0 S.2.2 ++ kn_ex S.2.2.length e)]), (S.2.2.length + e, 1 + S.2.1.length + S.2.2.length), ([], [], [], [], [], [], [(8 * t, [], kn_ex S.2.2.length e)]))
theorem kn_shut_ok {l : List ga_S} {t u : Nat} {S : kn_S} {g : ga_S} {e : Nat} {RO : am_O} {T : tk_T} (h : l[t]? = some (kn_a S g)) (hu : l[u]? = some g) {R : Nat × List tk_F × List tk_E × Int × Int × List tl_F} (hT : T[S.1]? = some (0, R)) : tc_lmt (tg_of l) RO T (kn_shut t u S e) := by
  intro V A κ M sz hH hsz hx
  refine ⟨V, A, fun _ _ => rfl, fun _ _ => rfl, ?_⟩
  obtain ⟨h1, h2, h3, h4, h5, h6, h7, h8⟩ := hx
  have g8 := (kn_at_s h).mp (h8 _ List.mem_cons_self)
  have g9 := h8 _ (List.mem_cons_of_mem _ List.mem_cons_self)
  rw [tg_q0 (by show 8 * u % 8 = 0; omega)] at g9
  dsimp only at g9
  rw [show 8 * u / 8 = u by omega, tg_of_s hu, List.map_append] at g9
  have hk0 := h2 _ List.mem_cons_self
  obtain ⟨-, K, k1, k2⟩ := hH _ _ hk0
  rw [hT] at k1
  cases k1
  obtain ⟨ci, fs, E, lo, hi, O⟩ := R
  obtain ⟨vs, m1, -, -⟩ := k2
  refine ⟨fun _ q => (List.not_mem_nil q).elim, fun _ q => (List.not_mem_nil q).elim, fun _ q => (List.not_mem_nil q).elim, fun _ q => (List.not_mem_nil q).elim, fun _ q => (List.not_mem_nil q).elim, fun _ q => (List.not_mem_nil q).elim, trivial, fun p hp => ?_⟩
  rcases List.mem_cons.mp hp with rfl | hp
  · refine (kn_at_s h).mpr (fun o ho _ => ?_)
    by_cases q : o = A 0
    · subst q
      exact ⟨ci, vs, _, _, m1, kn_rf_m (a := 1) m1 (fun p hp => h4 p (List.mem_append_left _ hp)) (fun p hp => h2 p (List.mem_cons_of_mem _ (List.mem_append_left _ hp))), kn_tf_m (i := 0) (a := 1 + S.2.1.length) m1 (fun p hp => h4 p (List.mem_append_right _ hp)) h3 (fun p hp => h2 p (List.mem_cons_of_mem _ (List.mem_append_right _ hp))), g9⟩
    · exact g8 o ho (fun q2 => q (by simpa using q2))
  · cases hp
/-- once another one comes, which is out then -/
def kn_new (t K e : Nat) : tc_Lm := ((e, 0), ([], [], [], [], [], [], [(8 * t, [], kn_ex 0 e)]), (e, 0), ([], [], [], [], [], [], [(8 * t + 7, [], tl_c (K : Int) :: kn_ex 0 e)]))
theorem kn_new_ok {l : List ga_S} {t : Nat} {S : kn_S} {g : ga_S} {e : Nat} {RO : am_O} {T : tk_T} (h : l[t]? = some (kn_a S g)) (hg : ga_ok g) (hn : (S.1, 1000) ∉ g.2) : tc_lmt (tg_of l) RO T (kn_new t S.1 e) := by
  intro V A κ M sz hH hsz hx
  refine ⟨V, A, fun _ _ => rfl, fun _ _ => rfl, ?_⟩
  obtain ⟨h1, h2, h3, h4, h5, h6, h7, h8⟩ := hx
  have g8 := (kn_at_s h).mp (h8 _ List.mem_cons_self)
  refine ⟨fun _ q => (List.not_mem_nil q).elim, fun _ q => (List.not_mem_nil q).elim, fun _ q => (List.not_mem_nil q).elim, fun _ q => (List.not_mem_nil q).elim, fun _ q => (List.not_mem_nil q).elim, fun _ q => (List.not_mem_nil q).elim, trivial, fun p hp => ?_⟩
  rcases List.mem_cons.mp hp with rfl | hp
  · unfold tc_xq tg_q
    have e : (8 * t + 7) % 8 = 7 := by omega
    have e2 : (8 * t + 7) / 8 = t := by omega
    dsimp only
    rw [e, e2]
    simp only [List.map_cons, List.map_nil]
    rw [tl_c_s, Int.toNat_natCast]
    intro a κ' M' q0 q1 qz q2 q3
    rw [tg_of_s h]
    intro o ho hna
    cases e : κ o with
    | none => exact absurd (List.mem_singleton.mpr (q3 o _ ho e)) hna
    | some k =>
      have e3 := q2 o k e
      have : k = S.1 := by
        have := e3.1
        rw [ho] at this
        exact (Option.some.inj this).symm
      subst this
      refine kn_o_m (fun b k1 hb => (q2 b k1 hb).1) (fun ci vs q => ⟨vs, e3.2.trans q, fun _ _ => rfl⟩) (fun b n ⟨k1, hb⟩ hl => ?_) (fun ci vs bs xs _ _ q => hg RO κ κ' M M' bs xs (fun b k1 hb => (q2 b k1 hb).1) (fun b k1 p1 p2 => ?_) (fun b k1 hb => ?_) q) (g8 o e (fun q => (List.not_mem_nil q).elim))
      · unfold tk_len at hl ⊢
        rw [(q2 b k1 hb).2]
        exact hl
      · have := q3 b k1 p1 p2
        subst this
        rw [q1] at p1
        cases p1
        exact hn
      · rw [(q2 b k1 hb).2]
        exact tg_kp_refl _ _ _
  · cases hp
/-- behind a put of an int into what is out: names 0 what, then what is given -/
def kn_w2 (t j e K : Nat) : tc_Lm := ((1 + e, 1), ([], [(0, K)], [], [], [], [], [(8 * t, [0], kn_ex 1 e)]), (1 + e, 1), ([], [], [], [], [], [], [(8 * t + 2, [0, 0], tl_c (j : Int) :: ql_n 0 :: kn_ex 1 e)]))
theorem kn_w2_ok {l : List ga_S} {t j : Nat} {S : kn_S} {g : ga_S} {e : Nat} {RO : am_O} {T : tk_T} (h : l[t]? = some (kn_a S g)) (hg : ga_ok g) (hn : ∀ p ∈ g.2, p.1 ≠ S.1) : tc_lmt (tg_of l) RO T (kn_w2 t j e S.1) := by
  intro V A κ M sz hH hsz hx
  refine ⟨V, A, fun _ _ => rfl, fun _ _ => rfl, ?_⟩
  obtain ⟨h1, h2, h3, h4, h5, h6, h7, h8⟩ := hx
  have g8 := (kn_at_s h).mp (h8 _ List.mem_cons_self)
  have hk := h2 _ List.mem_cons_self
  refine ⟨fun _ q => (List.not_mem_nil q).elim, fun _ q => (List.not_mem_nil q).elim, fun _ q => (List.not_mem_nil q).elim, fun _ q => (List.not_mem_nil q).elim, fun _ q => (List.not_mem_nil q).elim, fun _ q => (List.not_mem_nil q).elim, trivial, fun p hp => ?_⟩
  rcases List.mem_cons.mp hp with rfl | hp
  · unfold tc_xq tg_q
    have e : (8 * t + 2) % 8 = 2 := by omega
    have e2 : (8 * t + 2) / 8 = t := by omega
    dsimp only
    rw [e, e2]
    simp only [List.map_cons, List.map_nil]
    intro ci vs x hM _
    rw [tg_of_s h]
    intro o ho hna
    have hne : o ≠ A 0 := fun q => hna (List.mem_singleton.mpr q)
    refine kn_o_m (fun b k1 hb => hb) (fun ci vs q => ⟨vs, (am_ne hne).trans q, fun _ _ => rfl⟩) (fun b n _ hl => tk_len_obj hM b n hl) (fun ci' vs' bs xs _ _ q => hg RO κ κ M _ bs xs (fun b k1 hb => hb) (fun b k1 p1 p2 => ?_) (fun b k1 hb => ?_) q) (g8 o ho hna)
    · rw [p1] at p2
      cases p2
    · by_cases q2 : b = A 0
      · subst q2
        rw [am_same, hM]
        have hk : κ (A 0) = some S.1 := hk
        rw [hk] at hb
        cases hb
        refine ⟨fun ci2 vs2 q3 => ?_, fun t2 x2 q3 => ?_, fun q3 => ?_⟩
        · cases q3
          exact ⟨_, rfl, fun j2 hj2 => absurd rfl (hn _ hj2)⟩
        · cases q3
        · cases q3
      · rw [am_ne q2]
        exact tg_kp_refl _ _ _
  · cases hp
