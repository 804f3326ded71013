/-! TC: atoms of rows behind a store -/
def ql_p1 (α β c : Nat) : List tl_F := match c with
  | 0 => [([(4, 1), (3, -(α : Int))], -(β : Int)), ([(4, -1), (3, (α : Int))], (β : Int))]
  | 1 => [([(4, 1), (3, -(α : Int))], -(β : Int) - 1), ([(4, -1), (3, (α : Int))], (α : Int) + β - 1)]
  | _ => [([(4, 1), (3, -(α : Int))], (α : Int) - β - 1), ([(4, -1), (3, (α : Int))], (β : Int) - 1)]
theorem ql_p1_s {α β c : Nat} (hα : 0 < α) {V : Nat → Int} (h : ∀ f ∈ ql_p1 α β c, 0 ≤ tl_v V f) {s : Nat} (hs : (s : Int) ≠ V 3) (h4 : 0 ≤ V 4) : α * s + β ≠ (V 4).toNat := by
  intro e
  have e' : (α : Int) * s + β = V 4 := by
    have : ((α * s + β : Nat) : Int) = ((V 4).toNat : Int) := by rw [e]
    push_cast at this
    omega
  have lo : (s : Int) + 1 ≤ V 3 → (α : Int) * s + α ≤ α * V 3 := fun q => by
    have := Int.mul_le_mul_of_nonneg_left q (Int.natCast_nonneg α)
    rw [Int.mul_add, Int.mul_one] at this
    exact this
  have hi : V 3 + 1 ≤ (s : Int) → (α : Int) * V 3 + α ≤ α * s := fun q => by
    have := Int.mul_le_mul_of_nonneg_left q (Int.natCast_nonneg α)
    rw [Int.mul_add, Int.mul_one] at this
    exact this
  have h1 : ∀ d1 d2 : Int, 0 ≤ tl_v V ([(4, 1), (3, -(α : Int))], d1) → 0 ≤ tl_v V ([(4, -1), (3, (α : Int))], d2) → 0 ≤ V 4 - α * V 3 + d1 ∧ 0 ≤ α * V 3 - V 4 + d2 := fun d1 d2 q1 q2 => by
    simp only [tl_v, tl_s] at q1 q2
    rw [Int.neg_mul] at q1
    constructor <;> omega
  unfold ql_p1 at h
  have hα' : (0 : Int) < α := by omega
  split at h
  · obtain ⟨g1, g2⟩ := h1 _ _ (h _ List.mem_cons_self) (h _ (List.mem_cons_of_mem _ List.mem_cons_self))
    rcases Int.lt_or_gt_of_ne hs with q | q
    · have := lo (by omega)
      omega
    · have := hi (by omega)
      omega
  · obtain ⟨g1, g2⟩ := h1 _ _ (h _ List.mem_cons_self) (h _ (List.mem_cons_of_mem _ List.mem_cons_self))
    rcases Int.lt_or_gt_of_ne hs with q | q
    · have := lo (by omega)
      omega
    · have := hi (by omega)
      omega
  · obtain ⟨g1, g2⟩ := h1 _ _ (h _ List.mem_cons_self) (h _ (List.mem_cons_of_mem _ List.mem_cons_self))
    rcases Int.lt_or_gt_of_ne hs with q | q
    · have := lo (by omega)
      omega
    · have := hi (by omega)
      omega
/-- what must be known of the place: for each term of the kind, by choice, it is the one that is out; behind it; ahead of it -/
def ql_pf (k : Nat) : List (Nat × Nat × Nat × Int) → List Nat → List tl_F
  | (k', α, β, _) :: ts, cs => (if k' = k then ql_p1 α β (cs.headD 0) else []) ++ ql_pf k ts cs.tail
  | [], _ => []
def ql_pos (k : Nat) (ts : List (Nat × Nat × Nat × Int)) : Bool := ts.all (fun t => !(t.1 == k) || decide (0 < t.2.1))
theorem ql_sum_u {RO : am_O} {κ : Nat → Option Nat} {M : am_H} {a k ty n : Nat} {f : Nat → Int32} {x : Int32} {V : Nat → Int} {s : Nat} (hκ : κ a = some k) (hM : M a = some (.inl (ty, n, .inl f))) (hs : (s : Int) ≠ V 3) (h4 : 0 ≤ V 4) : ∀ {ts : List (Nat × Nat × Nat × Int)} {as cs : List Nat}, ql_pos k ts = true → (∀ f ∈ ql_pf k ts cs, 0 ≤ tl_v V f) → ql_ks κ ts as → ql_sum RO (am_set M a (.inl (ty, n, .inl (upd f (V 4).toNat x)))) ts as s = ql_sum RO M ts as s
  | [], _, _, _, _, _ => by simp [ql_sum]
  | t :: ts, [], _, _, _, hk => by cases hk
  | (k', α, β, c) :: ts, b :: as, cs, hp, h, hk => by
    unfold ql_sum
    unfold ql_pf at h
    obtain ⟨p1, p2⟩ := (Bool.and_eq_true _ _).mp (show ((!(k' == k) || decide (0 < α)) && ql_pos k ts) = true from hp)
    rw [ql_sum_u hκ hM hs h4 p2 (fun f hf => h f (List.mem_append.mpr (Or.inr hf))) hk.2]
    have e : ql_el RO (am_set M a (.inl (ty, n, .inl (upd f (V 4).toNat x)))) b (α * s + β) = ql_el RO M b (α * s + β) := by
      by_cases q : b = a
      · subst q
        have hk1 : κ b = some k' := hk.1
        rw [hκ] at hk1
        have hkk : k' = k := (Option.some.inj hk1).symm
        rw [hkk, beq_self_eq_true, Bool.not_true, Bool.false_or] at p1
        have := ql_p1_s (of_decide_eq_true p1) (c := cs.headD 0) (fun f hf => h f (List.mem_append.mpr (Or.inl (by rw [if_pos hkk]; exact hf)))) hs h4
        unfold ql_el
        rw [am_same, hM]
        show (upd f (V 4).toNat x (α * s + β)).toInt = (f (α * s + β)).toInt
        unfold upd
        rw [if_neg this]
      · unfold ql_el
        rw [am_ne q]
    rw [e]
/-- behind a store: names 0 L, 1 H, 3 what is out, 4 where, 5 what is stored; the array is the name behind the rows' -/
def ql_put (t : Nat) (S : ql_S) (k : Nat) (cs : List Nat) : tc_Lm := ((6 + S.2.1.length, S.1.length + 1), (ql_n 4 :: ql_pf k S.1 cs, [(S.1.length, k)], [], [], [], [], [ql_at t S (ql_n 3) 6]), (6 + S.2.1.length, S.1.length + 1), ([], [], [], [], [], [], [(8 * t + 1, S.1.length :: ql_ns 0 S.1, ql_n 4 :: ql_n 5 :: ql_n 0 :: ql_n 1 :: ql_n 3 :: ql_es 6 S.2.1)]))
theorem ql_put_ok {l : List ga_S} {t : Nat} {S : ql_S} {k : Nat} {cs : List Nat} {RO : am_O} {T : tk_T} (h : l[t]? = some (ql_a S)) (hp : ql_pos k S.1 = true) : tc_lmt (tg_of l) RO T (ql_put t S k cs) := by
  intro V A κ M sz hH hz hx
  refine ⟨V, A, fun _ _ => rfl, fun _ _ => rfl, ?_⟩
  obtain ⟨h1, h2, h3, h4, h5, h6, h7, h8⟩ := hx
  have g8 := (ql_at_s h).mp (h8 _ List.mem_cons_self)
  have f0 := h1 _ List.mem_cons_self
  rw [ql_n_s] at f0
  have hk : κ (A S.1.length) = some k := h2 _ List.mem_cons_self
  refine ⟨fun _ q => (List.not_mem_nil q).elim, fun _ q => (List.not_mem_nil q).elim, fun _ q => (List.not_mem_nil q).elim, fun _ q => (List.not_mem_nil q).elim, fun _ q => (List.not_mem_nil q).elim, fun _ q => (List.not_mem_nil q).elim, trivial, fun p hp' => ?_⟩
  rcases List.mem_cons.mp hp' with rfl | hp'
  · unfold tc_xq tg_q
    have e : (8 * t + 1) % 8 = 1 := by omega
    have e2 : (8 * t + 1) / 8 = t := by omega
    dsimp only
    rw [e, e2]
    simp only [List.map_cons]
    intro ty n f x hM hv
    rw [tg_of_s h]
    unfold ql_a ql_p
    dsimp only
    rw [ql_n_s, ql_n_s, ql_n_s, ql_n_s]
    refine ⟨g8.1, fun s e1 e2 e3 => ?_⟩
    rw [ql_sum_u hk hM e3 f0 hp (fun f hf => h1 f (List.mem_cons_of_mem _ hf)) g8.1]
    exact g8.2 s e1 e2 (by rw [ql_n_s]; exact e3)
  · cases hp'
/-- the stretch gets smaller; what is out lies outside it -/
def ql_less (t : Nat) (S : ql_S) (w : Bool) : tc_Lm := ((6 + S.2.1.length, S.1.length), ([([(4, 1), (0, -1)], 0), ([(1, 1), (5, -1)], 0), if w then ([(4, 1), (2, -1)], -1) else ([(2, 1), (5, -1)], 0)], [], [], [], [], [], [ql_at t S (ql_n 2) 6]), (6 + S.2.1.length, S.1.length), ([], [], [], [], [], [], [(8 * t, ql_ns 0 S.1, ql_n 4 :: ql_n 5 :: ([], -1) :: ql_es 6 S.2.1)]))
theorem ql_less_ok {l : List ga_S} {t : Nat} {S : ql_S} {w : Bool} {RO : am_O} {T : tk_T} (h : l[t]? = some (ql_a S)) : tc_lmt (tg_of l) RO T (ql_less t S w) := by
  intro V A κ M sz hH hz hx
  refine ⟨V, A, fun _ _ => rfl, fun _ _ => rfl, ?_⟩
  obtain ⟨h1, h2, h3, h4, h5, h6, h7, h8⟩ := hx
  have g8 := (ql_at_s h).mp (h8 _ List.mem_cons_self)
  have f0 := h1 _ List.mem_cons_self
  have f1 := h1 _ (List.mem_cons_of_mem _ List.mem_cons_self)
  have f2 := h1 _ (List.mem_cons_of_mem _ (List.mem_cons_of_mem _ List.mem_cons_self))
  simp only [tl_v, tl_s] at f0 f1
  have f2' : V 2 < V 4 ∨ V 5 ≤ V 2 := by
    cases w
    · simp [tl_v, tl_s] at f2
      exact Or.inr (by omega)
    · simp [tl_v, tl_s] at f2
      exact Or.inl (by omega)
  refine ⟨fun _ q => (List.not_mem_nil q).elim, fun _ q => (List.not_mem_nil q).elim, fun _ q => (List.not_mem_nil q).elim, fun _ q => (List.not_mem_nil q).elim, fun _ q => (List.not_mem_nil q).elim, fun _ q => (List.not_mem_nil q).elim, trivial, fun p hp => ?_⟩
  rcases List.mem_cons.mp hp with rfl | hp
  · refine (ql_at_s2 h).mpr ⟨g8.1, fun s e1 e2 e3 => g8.2 s ?_ ?_ ?_⟩
    · rw [ql_n_s] at e1
      omega
    · rw [ql_n_s] at e2
      omega
    · rw [ql_n_s] at e1 e2 ⊢
      rcases f2' with q | q <;> omega
  · cases hp
