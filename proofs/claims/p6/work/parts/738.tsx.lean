/-! TC: chains over stores elsewhere, chains with one ahead, chains that are moved on -/
/-- a store behind it (true), ahead of it (false): rows 0, 1 (1 is written); names 0 from, 1 to, 2 the count, 3 where, 4 what -/
def sg_put (t : Nat) (w : Bool) : tc_Lm := ((5, 2), ([ql_n 3, if w then ([(3, 1), (1, -1)], 0) else ([(0, 1), (3, -1)], -1)], [], [], [], [], [], [sg_at t (ql_n 0) (ql_n 1) (ql_n 2)]), (5, 2), ([], [], [], [], [], [], [(8 * t + 1, [1, 0], [ql_n 3, ql_n 4, ql_n 0, ql_n 1, ql_n 2])]))
theorem sg_put_ok {l : List ga_S} {t : Nat} {S : sg_S} {w : Bool} {RO : am_O} {T : tk_T} (h : l[t]? = some (sg_a S)) : tc_lmt (tg_of l) RO T (sg_put t w) := by
  intro V A κ M sz hH hz hx
  refine ⟨V, A, fun _ _ => rfl, fun _ _ => rfl, ?_⟩
  obtain ⟨h1, h2, h3, h4, h5, h6, h7, h8⟩ := hx
  obtain ⟨g1, g2, g3, m, g4, g5⟩ := (sg_at_s h).mp (h8 _ List.mem_cons_self)
  have f0 := h1 _ List.mem_cons_self
  have f1 := h1 _ (List.mem_cons_of_mem _ List.mem_cons_self)
  rw [ql_n_s] at f0 g2 g3 g5
  rw [ql_n_s, ql_n_s] at g4
  have hw : V 1 ≤ V 3 ∨ V 3 < V 0 := by
    cases w <;> simp [tl_v, tl_s] at f1 <;> omega
  refine ⟨fun _ q => (List.not_mem_nil q).elim, fun _ q => (List.not_mem_nil q).elim, fun _ q => (List.not_mem_nil q).elim, fun _ q => (List.not_mem_nil q).elim, fun _ q => (List.not_mem_nil q).elim, fun _ q => (List.not_mem_nil q).elim, trivial, fun p hp' => ?_⟩
  rcases List.mem_cons.mp hp' with rfl | hp'
  · unfold tc_xq tg_q
    have e : (8 * t + 1) % 8 = 1 := by omega
    have e2 : (8 * t + 1) / 8 = t := by omega
    dsimp only
    rw [e, e2]
    simp only [List.map_cons, List.map_nil]
    intro ty n f x hM hv
    rw [tg_of_s h]
    unfold sg_a sg_p
    dsimp only
    rw [ql_n_s, ql_n_s, ql_n_s, ql_n_s]
    refine ⟨g1, g2, g3, m, ?_, g5⟩
    exact sg_ch_c (S := S) (S' := S) rfl (d := 0) (H := (V 1).toNat) (Nat.le_refl _) (fun j j1 j2 => by
      have j1 : (V 0).toNat ≤ j := j1
      rw [Nat.add_zero]
      exact ql_el_s hM (Or.inr (by omega))) g4
  · cases hp'
/-- one more ahead: names 0 from, 1 to, 2 the count, then what stands at the beginning -/
def sg_cons1 (t : Nat) (S : sg_S) (c : sg_C) (bs : List Nat) : tc_Lm := ((3 + bs.length, 1), (ql_n 0 :: (((sg_fm 3 bs c.2).1, (sg_fm 3 bs c.2).2 - sg_mb c)) :: c.1.map (sg_fm 3 bs), [], [], [], sg_els 0 3 bs, [], [sg_at t ((0, 1) :: (sg_fm 3 bs c.2).1, (sg_fm 3 bs c.2).2) (ql_n 1) (ql_n 2)]), (3 + bs.length, 1), ([], [], [], [], [], [], [sg_at t (ql_n 0) (ql_n 1) ([(2, 1)], S.2.1)]))
theorem sg_cons1_ok {l : List ga_S} {t : Nat} {S : sg_S} {c : sg_C} {bs : List Nat} {RO : am_O} {T : tk_T} (h : l[t]? = some (sg_a S)) (hc : c ∈ S.2.2) (hi : (sg_in bs c.2 && c.1.all (sg_in bs)) = true) : tc_lmt (tg_of l) RO T (sg_cons1 t S c bs) := by
  intro V A κ M sz hH hz hx
  refine ⟨V, A, fun _ _ => rfl, fun _ _ => rfl, ?_⟩
  obtain ⟨h1, h2, h3, h4, h5, h6, h7, h8⟩ := hx
  obtain ⟨i1, i2⟩ := (Bool.and_eq_true _ _).mp hi
  obtain ⟨g1, g2, g3, n, g4, g5⟩ := (sg_at_s h).mp (h8 _ List.mem_cons_self)
  have fp := h1 _ List.mem_cons_self
  rw [ql_n_s] at fp g3 g5
  have hq : V 0 = ((V 0).toNat : Int) := by omega
  have hb := sg_els_s hq h5
  have f0 : 0 ≤ tl_v V ((sg_fm 3 bs c.2).1, (sg_fm 3 bs c.2).2 - sg_mb c) := h1 _ (List.mem_cons_of_mem _ List.mem_cons_self)
  have e0 : tl_v V (sg_fm 3 bs c.2) = sg_v RO M (A 0) (V 0).toNat c.2 := sg_fm_s hb i1
  have e1 : tl_v V ((sg_fm 3 bs c.2).1, (sg_fm 3 bs c.2).2 - (sg_mb c : Int)) = tl_v V (sg_fm 3 bs c.2) - sg_mb c := by
    unfold tl_v
    dsimp only
    omega
  rw [e1, e0] at f0
  have e2 : tl_v V ((0, 1) :: (sg_fm 3 bs c.2).1, (sg_fm 3 bs c.2).2) = V 0 + sg_v RO M (A 0) (V 0).toNat c.2 := by
    rw [← e0, sg_cons, sg_eta]
    omega
  rw [e2] at g2 g4
  rw [ql_n_s] at g4
  refine ⟨fun _ q => (List.not_mem_nil q).elim, fun _ q => (List.not_mem_nil q).elim, fun _ q => (List.not_mem_nil q).elim, fun _ q => (List.not_mem_nil q).elim, fun _ q => (List.not_mem_nil q).elim, fun _ q => (List.not_mem_nil q).elim, trivial, fun p hp => ?_⟩
  rcases List.mem_cons.mp hp with rfl | hp
  · refine (sg_at_s h).mpr ⟨g1, by rw [ql_n_s]; exact fp, by rw [ql_n_s]; exact g3, n + 1, ?_, ?_⟩
    · rw [ql_n_s, ql_n_s]
      refine ⟨_, ⟨c, hc, fun f hf => ?_, ?_, ?_⟩, g4⟩
      · rw [← sg_fm_s hb (List.all_eq_true.mp i2 f hf)]
        exact h1 _ (List.mem_cons_of_mem _ (List.mem_cons_of_mem _ (List.mem_map_of_mem hf)))
      · omega
      · omega
    · have : tl_v V ([(2, 1)], S.2.1) = V 2 + S.2.1 := by simp [tl_v, tl_s]
      rw [this, g5]
      push_cast
      rw [Int.mul_add, Int.mul_one]
  · cases hp
/-- a row from a place on moved by some: what stands there is told by a function -/
def sx_v (φ : Nat → Int) (p : Nat) (f : sg_F) : Int := f.1.foldr (fun t r => t.2 * φ (p + t.1) + r) f.2
def sx_st (S : sg_S) (φ : Nat → Int) (p p' : Nat) : Prop := ∃ c ∈ S.2.2, (∀ f ∈ c.1, 0 ≤ sx_v φ p f) ∧ (p' : Int) = p + sx_v φ p c.2 ∧ p + sg_mb c ≤ p'
def sx_ch (S : sg_S) (φ : Nat → Int) : Nat → Nat → Nat → Prop
  | 0, p, q => p = q
  | n + 1, p, q => ∃ p', sx_st S φ p p' ∧ sx_ch S φ n p' q
theorem sx_v_l {φ ψ : Nat → Int} {p p' : Nat} (d : Int) (l : List (Nat × Int)) (h : ∀ t ∈ l, ψ (p' + t.1) = φ (p + t.1)) : l.foldr (fun t r => t.2 * ψ (p' + t.1) + r) d = l.foldr (fun t r => t.2 * φ (p + t.1) + r) d := by
  induction l with
  | nil => rw [List.foldr_nil, List.foldr_nil]
  | cons t l ih =>
    rw [List.foldr_cons, List.foldr_cons, h t List.mem_cons_self, ih (fun t ht => h t (List.mem_cons_of_mem _ ht))]
theorem sx_v_c {φ ψ : Nat → Int} {p p' : Nat} {f : sg_F} (h : ∀ t ∈ f.1, ψ (p' + t.1) = φ (p + t.1)) : sx_v ψ p' f = sx_v φ p f := sx_v_l f.2 f.1 h
theorem sx_ch_le {S : sg_S} {φ : Nat → Int} : ∀ {n p q : Nat}, sx_ch S φ n p q → p ≤ q
  | 0, p, q, h => Nat.le_of_eq h
  | n + 1, p, q, h => by
    obtain ⟨p', ⟨c, _, _, _, h4⟩, h2⟩ := h
    have := sg_mb_1 c
    have := sx_ch_le h2
    omega
/-- by the same numbers, all moved by d -/
theorem sx_ch_c {S : sg_S} {φ ψ : Nat → Int} {d H : Nat} : ∀ {n p q : Nat}, q ≤ H → (∀ j, p ≤ j → j < H → ψ (j + d) = φ j) → sx_ch S φ n p q → sx_ch S ψ n (p + d) (q + d)
  | 0, p, q, _, _, h => by
    cases h
    rfl
  | n + 1, p, q, hq, he, h => by
    obtain ⟨p', ⟨c, c1, c2, c3, c4⟩, h2⟩ := h
    have l1 := sx_ch_le h2
    have lb := sg_mb_1 c
    refine ⟨p' + d, ⟨c, c1, fun f hf => ?_, ?_, by omega⟩, sx_ch_c hq (fun j j1 j2 => he j (by omega) j2) h2⟩
    · have e : sx_v ψ (p + d) f = sx_v φ p f := sx_v_c (fun t ht => by
        have := sg_mb_f hf ht
        rw [show p + d + t.1 = p + t.1 + d by omega]
        exact he _ (by omega) (by omega))
      rw [e]
      exact c2 f hf
    · have e : sx_v ψ (p + d) c.2 = sx_v φ p c.2 := sx_v_c (fun t ht => by
        have := sg_mb_s ht
        rw [show p + d + t.1 = p + t.1 + d by omega]
        exact he _ (by omega) (by omega))
      rw [e]
      omega
theorem sx_of_sg {S : sg_S} {RO : am_O} {M : am_H} {a : Nat} : ∀ {n p q : Nat}, sg_ch S RO M a n p q ↔ sx_ch S (fun j => ql_el RO M a j) n p q
  | 0, p, q => Iff.rfl
  | n + 1, p, q => by
    constructor
    · intro ⟨p', h1, h2⟩
      exact ⟨p', h1, sx_of_sg.mp h2⟩
    · intro ⟨p', h1, h2⟩
      exact ⟨p', h1, sx_of_sg.mpr h2⟩
/-- below the cut as it stands, from there on moved -/
def sx_f (RO : am_O) (M : am_H) (a C d : Nat) : Nat → Int := fun j => if j < C then ql_el RO M a j else ql_el RO M a (j + d)
def sx_p (S : sg_S) (RO : am_O) (κ : Nat → Option Nat) (M : am_H) (as : List Nat) (is : List Int) : Prop := match as, is with
  | [a], [P, Q, K, C, d] => κ a = some S.1 ∧ 0 ≤ P ∧ 0 ≤ Q ∧ 0 ≤ C ∧ 0 ≤ d ∧ ∃ n : Nat, sx_ch S (sx_f RO M a C.toNat d.toNat) n P.toNat Q.toNat ∧ K = S.2.1 * n
  | _, _ => False
def sx_a (S : sg_S) : ga_S := (sx_p S, [(S.1, 0)])
theorem sx_a_ok (S : sg_S) : ga_ok (sx_a S) := by
  intro RO κ κ' M M' as is h1 h2 h3 h4
  unfold sx_a at h3 h4 ⊢
  dsimp only at h3 h4 ⊢
  unfold sx_p at h4 ⊢
  split
  · rename_i a P Q K C d
    dsimp only at h4
    obtain ⟨g1, g2, g3, g6, g7, n, g4, g5⟩ := h4
    refine ⟨h1 _ _ g1, g2, g3, g6, g7, n, ?_, g5⟩
    have e : sx_f RO M' a C.toNat d.toNat = sx_f RO M a C.toNat d.toNat := by
      funext j
      unfold sx_f
      rw [ql_el_k (h3 _ _ g1) List.mem_cons_self, ql_el_k (h3 _ _ g1) List.mem_cons_self]
    rw [e]
    exact g4
  · rename_i hn
    split at h4
    · exact hn _ _ _ _ _ _ rfl rfl
    · exact h4
theorem sx_at_s {l : List ga_S} {t : Nat} {S : sg_S} (h : l[t]? = some (sx_a S)) {RO : am_O} {κ : Nat → Option Nat} {M : am_H} {V : Nat → Int} {A : Nat → Nat} {a : Nat} {P Q K C d : tl_F} : tc_xq (tg_of l) RO κ M V A (8 * t, [a], [P, Q, K, C, d]) ↔ (κ (A a) = some S.1 ∧ 0 ≤ tl_v V P ∧ 0 ≤ tl_v V Q ∧ 0 ≤ tl_v V C ∧ 0 ≤ tl_v V d ∧ ∃ n : Nat, sx_ch S (sx_f RO M (A a) (tl_v V C).toNat (tl_v V d).toNat) n (tl_v V P).toNat (tl_v V Q).toNat ∧ tl_v V K = S.2.1 * n) := by
  have e : (8 * t, [a], [P, Q, K, C, d]).1 % 8 = 0 := by
    show 8 * t % 8 = 0
    omega
  have e2 : (8 * t, [a], [P, Q, K, C, d]).1 / 8 = t := by
    show 8 * t / 8 = t
    omega
  rw [tg_q0 e, e2, tg_of_s h]
  exact Iff.rfl
/-- the moving begins: names 0 from, 1 to, 2 the count, 3 by how many, 4 the cut, not below to -/
def sx_in (t ts : Nat) : tc_Lm := ((5, 1), ([ql_n 3, ([(4, 1), (1, -1)], 0)], [], [], [], [], [], [sg_at ts (ql_n 0) (ql_n 1) (ql_n 2)]), (5, 1), ([], [], [], [], [], [], [(8 * t, [0], [ql_n 0, ql_n 1, ql_n 2, ql_n 4, ql_n 3])]))
theorem sx_in_ok {l : List ga_S} {t ts : Nat} {S : sg_S} {RO : am_O} {T : tk_T} (h : l[t]? = some (sx_a S)) (hs : l[ts]? = some (sg_a S)) : tc_lmt (tg_of l) RO T (sx_in t ts) := by
  intro V A κ M sz hH hz hx
  refine ⟨V, A, fun _ _ => rfl, fun _ _ => rfl, ?_⟩
  obtain ⟨h1, h2, h3, h4, h5, h6, h7, h8⟩ := hx
  obtain ⟨g1, g2, g3, n, g4, g5⟩ := (sg_at_s hs).mp (h8 _ List.mem_cons_self)
  have f0 := h1 _ List.mem_cons_self
  have f1 := h1 _ (List.mem_cons_of_mem _ List.mem_cons_self)
  rw [ql_n_s] at f0 g2 g3 g5
  rw [ql_n_s, ql_n_s] at g4
  simp only [tl_v, tl_s] at f1
  refine ⟨fun _ q => (List.not_mem_nil q).elim, fun _ q => (List.not_mem_nil q).elim, fun _ q => (List.not_mem_nil q).elim, fun _ q => (List.not_mem_nil q).elim, fun _ q => (List.not_mem_nil q).elim, fun _ q => (List.not_mem_nil q).elim, trivial, fun p hp => ?_⟩
  rcases List.mem_cons.mp hp with rfl | hp
  · refine (sx_at_s h).mpr ?_
    rw [ql_n_s, ql_n_s, ql_n_s, ql_n_s, ql_n_s]
    refine ⟨g1, g2, g3, by omega, f0, n, ?_, g5⟩
    have := sx_ch_c (S := S) (ψ := sx_f RO M (A 0) (V 4).toNat (V 3).toNat) (d := 0) (H := (V 1).toNat) (Nat.le_refl _) (fun j j1 j2 => by
      show sx_f RO M (A 0) (V 4).toNat (V 3).toNat (j + 0) = ql_el RO M (A 0) j
      unfold sx_f
      rw [if_pos (by omega)]
      rfl) (sx_of_sg.mp g4)
    exact this
  · cases hp
/-- one is moved: names 0 .. 2 as ever, 3 by how many, 4 the cut less one, 5 what stands there -/
def sx_put (t : Nat) : tc_Lm := ((6, 1), ([ql_n 4, ([(3, 1)], -1)], [], [], [], [(0, ql_n 4, ql_n 5)], [], [(8 * t, [0], [ql_n 0, ql_n 1, ql_n 2, ([(4, 1)], 1), ql_n 3])]), (6, 1), ([], [], [], [], [], [], [(8 * t + 1, [0, 0], [([(3, 1), (4, 1)], 0), ql_n 5, ql_n 0, ql_n 1, ql_n 2, ql_n 4, ql_n 3])]))
theorem sx_put_ok {l : List ga_S} {t : Nat} {S : sg_S} {RO : am_O} {T : tk_T} (h : l[t]? = some (sx_a S)) : tc_lmt (tg_of l) RO T (sx_put t) := by
  intro V A κ M sz hH hz hx
  refine ⟨V, A, fun _ _ => rfl, fun _ _ => rfl, ?_⟩
  obtain ⟨h1, h2, h3, h4, h5, h6, h7, h8⟩ := hx
  obtain ⟨g1, g2, g3, g6, g7, m, g4, g5⟩ := (sx_at_s h).mp (h8 _ List.mem_cons_self)
  have f0 := h1 _ List.mem_cons_self
  have f1 := h1 _ (List.mem_cons_of_mem _ List.mem_cons_self)
  rw [ql_n_s] at f0 g2 g3 g5
  rw [sg_e0] at f1
  obtain ⟨j0, j1, j2⟩ := ql_xe (h5 _ List.mem_cons_self)
  dsimp only at j1 j2
  rw [ql_n_s] at j1 j2
  rw [ql_n_s, ql_n_s, ql_n_s, sg_e0] at g4
  refine ⟨fun _ q => (List.not_mem_nil q).elim, fun _ q => (List.not_mem_nil q).elim, fun _ q => (List.not_mem_nil q).elim, fun _ q => (List.not_mem_nil q).elim, fun _ q => (List.not_mem_nil q).elim, fun _ q => (List.not_mem_nil q).elim, trivial, fun p hp' => ?_⟩
  rcases List.mem_cons.mp hp' with rfl | hp'
  · unfold tc_xq tg_q
    have e : (8 * t + 1) % 8 = 1 := by omega
    have e2 : (8 * t + 1) / 8 = t := by omega
    dsimp only
    rw [e, e2]
    simp only [List.map_cons, List.map_nil]
    intro ty n f x hM hv
    rw [tg_of_s h]
    unfold sx_a sx_p
    dsimp only
    rw [ql_n_s] at hv
    rw [ql_n_s, ql_n_s, ql_n_s, ql_n_s, ql_n_s, sg_e2]
    refine ⟨g1, g2, g3, f0, by omega, m, ?_, g5⟩
    have e3 : ∀ M', sx_f RO M' (A 0) (V 4).toNat (V 3).toNat = fun j => if j < (V 4).toNat then ql_el RO M' (A 0) j else ql_el RO M' (A 0) (j + (V 3).toNat) := fun _ => rfl
    have key : sx_f RO (am_set M (A 0) (.inl (ty, n, .inl (upd f (1 * V 3 + 1 * V 4 + 0).toNat x)))) (A 0) (V 4).toNat (V 3).toNat = sx_f RO M (A 0) (V 4 + 1).toNat (V 3).toNat := by
      funext j
      unfold sx_f
      by_cases q1 : j < (V 4).toNat
      · rw [if_pos q1, if_pos (by omega)]
        exact ql_el_s hM (Or.inr (by omega))
      · rw [if_neg q1]
        by_cases q2 : j = (V 4).toNat
        · rw [if_pos (by omega), show j + (V 3).toNat = (1 * V 3 + 1 * V 4 + 0).toNat by omega, ql_el_t, hv, ← j2]
          congr 1
          omega
        · rw [if_neg (by omega)]
          exact ql_el_s hM (Or.inr (by omega))
    rw [key]
    exact g4
  · cases hp'
/-- all is moved: the cut is not above from -/
def sx_out (t ts : Nat) : tc_Lm := ((5, 1), ([([(0, 1), (4, -1)], 0)], [], [], [], [], [], [(8 * t, [0], [ql_n 0, ql_n 1, ql_n 2, ql_n 4, ql_n 3])]), (5, 1), ([], [], [], [], [], [], [sg_at ts ([(0, 1), (3, 1)], 0) ([(1, 1), (3, 1)], 0) (ql_n 2)]))
theorem sx_out_ok {l : List ga_S} {t ts : Nat} {S : sg_S} {RO : am_O} {T : tk_T} (h : l[t]? = some (sx_a S)) (hs : l[ts]? = some (sg_a S)) : tc_lmt (tg_of l) RO T (sx_out t ts) := by
  intro V A κ M sz hH hz hx
  refine ⟨V, A, fun _ _ => rfl, fun _ _ => rfl, ?_⟩
  obtain ⟨h1, h2, h3, h4, h5, h6, h7, h8⟩ := hx
  obtain ⟨g1, g2, g3, g6, g7, n, g4, g5⟩ := (sx_at_s h).mp (h8 _ List.mem_cons_self)
  have f0 := h1 _ List.mem_cons_self
  simp only [tl_v, tl_s] at f0
  rw [ql_n_s] at g2 g3 g5 g6 g7
  rw [ql_n_s, ql_n_s, ql_n_s, ql_n_s] at g4
  refine ⟨fun _ q => (List.not_mem_nil q).elim, fun _ q => (List.not_mem_nil q).elim, fun _ q => (List.not_mem_nil q).elim, fun _ q => (List.not_mem_nil q).elim, fun _ q => (List.not_mem_nil q).elim, fun _ q => (List.not_mem_nil q).elim, trivial, fun p hp => ?_⟩
  rcases List.mem_cons.mp hp with rfl | hp
  · refine (sg_at_s hs).mpr ⟨g1, by rw [sg_e2]; omega, by rw [sg_e2]; omega, n, ?_, by rw [ql_n_s]; exact g5⟩
    rw [sg_e2, sg_e2, show (1 * V 0 + 1 * V 3 + 0).toNat = (V 0).toNat + (V 3).toNat by omega, show (1 * V 1 + 1 * V 3 + 0).toNat = (V 1).toNat + (V 3).toNat by omega]
    refine sx_of_sg.mpr (sx_ch_c (H := (V 1).toNat) (Nat.le_refl _) (fun j j1 j2 => ?_) g4)
    unfold sx_f
    rw [if_neg (by omega)]
  · cases hp
