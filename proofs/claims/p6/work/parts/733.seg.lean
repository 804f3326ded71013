/-! TC: chains of steps in a row -/
theorem ql_xe {RO : am_O} {M : am_H} {V : Nat → Int} {A : Nat → Nat} {p : Nat × tl_F × tl_F} (h : tc_xe RO M V A p) : ∃ j : Nat, tl_v V p.2.1 = (j : Int) ∧ ql_el RO M (A p.1) j = tl_v V p.2.2 := by
  obtain ⟨t, n, f, j, g1, g2, g3, g4⟩ := h
  refine ⟨j, g2, ?_⟩
  rw [← g4]
  unfold ql_el
  rcases g1 with g1 | ⟨g1, g0⟩
  · rw [g1]
  · rw [g1, g0]
/-- a form over what stands behind a place -/
abbrev sg_F : Type := List (Nat × Int) × Int
/-- when, how far -/
abbrev sg_C : Type := List sg_F × sg_F
/-- kind, what a step counts, the sorts of step -/
abbrev sg_S : Type := Nat × Int × List sg_C
def sg_v (RO : am_O) (M : am_H) (a p : Nat) (f : sg_F) : Int := f.1.foldr (fun t r => t.2 * ql_el RO M a (p + t.1) + r) f.2
def sg_mb (c : sg_C) : Nat := (c.2.1 ++ c.1.flatMap (fun f => f.1)).foldr (fun t r => max (t.1 + 1) r) 1
def sg_st (S : sg_S) (RO : am_O) (M : am_H) (a p p' : Nat) : Prop := ∃ c ∈ S.2.2, (∀ f ∈ c.1, 0 ≤ sg_v RO M a p f) ∧ (p' : Int) = p + sg_v RO M a p c.2 ∧ p + sg_mb c ≤ p'
def sg_ch (S : sg_S) (RO : am_O) (M : am_H) (a : Nat) : Nat → Nat → Nat → Prop
  | 0, p, q => p = q
  | n + 1, p, q => ∃ p', sg_st S RO M a p p' ∧ sg_ch S RO M a n p' q
def sg_p (S : sg_S) (RO : am_O) (κ : Nat → Option Nat) (M : am_H) (as : List Nat) (is : List Int) : Prop := match as, is with
  | [a], [P, Q, K] => κ a = some S.1 ∧ 0 ≤ P ∧ 0 ≤ Q ∧ ∃ n : Nat, sg_ch S RO M a n P.toNat Q.toNat ∧ K = S.2.1 * n
  | _, _ => False
def sg_a (S : sg_S) : ga_S := (sg_p S, [(S.1, 0)])
theorem sg_fo_le (l : List (Nat × Int)) : 1 ≤ l.foldr (fun t r => max (t.1 + 1) r) 1 ∧ ∀ t ∈ l, t.1 + 1 ≤ l.foldr (fun t r => max (t.1 + 1) r) 1 := by
  induction l with
  | nil => exact ⟨Nat.le_refl 1, fun t h => by cases h⟩
  | cons s r ih =>
    rw [List.foldr_cons]
    refine ⟨by omega, fun t h => ?_⟩
    rcases List.mem_cons.mp h with rfl | h
    · omega
    · have := ih.2 t h
      omega
theorem sg_mb_1 (c : sg_C) : 1 ≤ sg_mb c := (sg_fo_le _).1
theorem sg_mb_s {c : sg_C} {t : Nat × Int} (h : t ∈ c.2.1) : t.1 + 1 ≤ sg_mb c := (sg_fo_le _).2 t (List.mem_append.mpr (Or.inl h))
theorem sg_mb_f {c : sg_C} {f : sg_F} {t : Nat × Int} (hf : f ∈ c.1) (h : t ∈ f.1) : t.1 + 1 ≤ sg_mb c := (sg_fo_le _).2 t (List.mem_append.mpr (Or.inr (List.mem_flatMap.mpr ⟨f, hf, h⟩)))
theorem sg_v_l {RO : am_O} {M M' : am_H} {a a' p p' : Nat} (d : Int) (l : List (Nat × Int)) (h : ∀ t ∈ l, ql_el RO M' a' (p' + t.1) = ql_el RO M a (p + t.1)) : l.foldr (fun t r => t.2 * ql_el RO M' a' (p' + t.1) + r) d = l.foldr (fun t r => t.2 * ql_el RO M a (p + t.1) + r) d := by
  induction l with
  | nil => rw [List.foldr_nil, List.foldr_nil]
  | cons t l ih =>
    rw [List.foldr_cons, List.foldr_cons, h t List.mem_cons_self, ih (fun t ht => h t (List.mem_cons_of_mem _ ht))]
theorem sg_v_c {RO : am_O} {M M' : am_H} {a a' p p' : Nat} {f : sg_F} (h : ∀ t ∈ f.1, ql_el RO M' a' (p' + t.1) = ql_el RO M a (p + t.1)) : sg_v RO M' a' p' f = sg_v RO M a p f := sg_v_l f.2 f.1 h
theorem sg_cons {V : Nat → Int} (k : Nat) (c : Int) (r : List (Nat × Int)) (d : Int) : tl_v V ((k, c) :: r, d) = c * V k + tl_v V (r, d) := by
  show c * V k + tl_s V r + d = c * V k + (tl_s V r + d)
  omega
theorem sg_eta {V : Nat → Int} (f : tl_F) : tl_v V (f.1, f.2) = tl_v V f := rfl
theorem sg_st_le {S : sg_S} {RO : am_O} {M : am_H} {a p p' : Nat} (h : sg_st S RO M a p p') : p < p' := by
  obtain ⟨c, _, _, _, h4⟩ := h
  have := sg_mb_1 c
  omega
theorem sg_ch_le {S : sg_S} {RO : am_O} {M : am_H} {a : Nat} : ∀ {n p q : Nat}, sg_ch S RO M a n p q → p ≤ q
  | 0, p, q, h => Nat.le_of_eq h
  | n + 1, p, q, h => by
    obtain ⟨p', h1, h2⟩ := h
    have := sg_st_le h1
    have := sg_ch_le h2
    omega
theorem sg_ch_sn {S : sg_S} {RO : am_O} {M : am_H} {a : Nat} : ∀ {n p q r : Nat}, sg_ch S RO M a n p q → sg_st S RO M a q r → sg_ch S RO M a (n + 1) p r
  | 0, p, q, r, h, g => by
    cases h
    exact ⟨r, g, rfl⟩
  | n + 1, p, q, r, h, g => by
    obtain ⟨p', h1, h2⟩ := h
    exact ⟨p', h1, sg_ch_sn h2 g⟩
/-- the same content elsewhere -/
theorem sg_ch_c {S S' : sg_S} (hS : S'.2.2 = S.2.2) {RO : am_O} {M M' : am_H} {a a' d : Nat} {H : Nat} : ∀ {n p q : Nat}, q ≤ H → (∀ j, p ≤ j → j < H → ql_el RO M' a' (j + d) = ql_el RO M a j) → sg_ch S RO M a n p q → sg_ch S' RO M' a' n (p + d) (q + d)
  | 0, p, q, _, _, h => by
    cases h
    rfl
  | n + 1, p, q, hq, he, h => by
    obtain ⟨p', ⟨c, c1, c2, c3, c4⟩, h2⟩ := h
    have l1 := sg_ch_le h2
    have lb := sg_mb_1 c
    refine ⟨p' + d, ⟨c, by rw [hS]; exact c1, fun f hf => ?_, ?_, by omega⟩, sg_ch_c hS hq (fun j j1 j2 => he j (by omega) j2) h2⟩
    · have e : sg_v RO M' a' (p + d) f = sg_v RO M a p f := sg_v_c (fun t ht => by
        have := sg_mb_f hf ht
        rw [show p + d + t.1 = p + t.1 + d by omega]
        exact he _ (by omega) (by omega))
      rw [e]
      exact c2 f hf
    · have e : sg_v RO M' a' (p + d) c.2 = sg_v RO M a p c.2 := sg_v_c (fun t ht => by
        have := sg_mb_s ht
        rw [show p + d + t.1 = p + t.1 + d by omega]
        exact he _ (by omega) (by omega))
      rw [e]
      omega
theorem sg_a_ok (S : sg_S) : ga_ok (sg_a S) := by
  intro RO κ κ' M M' as is h1 h2 h3 h4
  unfold sg_a at h3 h4 ⊢
  dsimp only at h3 h4 ⊢
  unfold sg_p at h4 ⊢
  split
  · rename_i a P Q K
    dsimp only at h4
    obtain ⟨g1, g2, g3, n, g4, g5⟩ := h4
    refine ⟨h1 _ _ g1, g2, g3, n, ?_, g5⟩
    exact sg_ch_c (S := S) (S' := S) rfl (d := 0) (H := Q.toNat) (Nat.le_refl _) (fun j _ _ => ql_el_k (h3 _ _ g1) List.mem_cons_self) g4
  · rename_i hn
    split at h4
    · rename_i a P Q K
      exact hn a P Q K rfl rfl
    · exact h4
def sg_ix (bs : List Nat) (b : Nat) : Nat := bs.findIdx (fun x => x == b)
def sg_fm (k : Nat) (bs : List Nat) (f : sg_F) : tl_F := (f.1.map (fun t => (k + sg_ix bs t.1, t.2)), f.2)
def sg_els (j : Nat) : Nat → List Nat → List (Nat × tl_F × tl_F)
  | k, b :: bs => (0, ([(j, 1)], (b : Int)), ql_n k) :: sg_els j (k + 1) bs
  | _, [] => []
def sg_in (bs : List Nat) (f : sg_F) : Bool := f.1.all (fun t => bs.contains t.1)
theorem sg_els_s {RO : am_O} {M : am_H} {V : Nat → Int} {A : Nat → Nat} {j p : Nat} (hp : V j = (p : Int)) : ∀ {bs : List Nat} {k : Nat}, (∀ e ∈ sg_els j k bs, tc_xe RO M V A e) → ∀ b ∈ bs, V (k + sg_ix bs b) = ql_el RO M (A 0) (p + b)
  | [], k, _, b, hb => by cases hb
  | c :: bs, k, h, b, hb => by
    unfold sg_ix
    rw [List.findIdx_cons]
    by_cases e : c = b
    · subst e
      obtain ⟨i, i1, i2⟩ := ql_xe (h _ List.mem_cons_self)
      dsimp only at i1 i2
      rw [ql_n_s] at i2
      have : i = p + c := by
        simp [tl_v, tl_s] at i1
        omega
      rw [beq_self_eq_true, cond_true, Nat.add_zero, ← i2, this]
    · rw [show (c == b) = false from by simpa using e, cond_false]
      have hb' : b ∈ bs := by
        rcases List.mem_cons.mp hb with q | q
        · exact absurd q.symm e
        · exact q
      have := sg_els_s hp (k := k + 1) (fun x hx => h x (List.mem_cons_of_mem _ hx)) b hb'
      unfold sg_ix at this
      rw [← this]
      congr 1
      omega
theorem sg_fm_l {RO : am_O} {M : am_H} {V : Nat → Int} {a p k : Nat} {bs : List Nat} (h : ∀ b ∈ bs, V (k + sg_ix bs b) = ql_el RO M a (p + b)) (d : Int) (l : List (Nat × Int)) (hi : l.all (fun t => bs.contains t.1) = true) : tl_v V (l.map (fun t => (k + sg_ix bs t.1, t.2)), d) = l.foldr (fun t r => t.2 * ql_el RO M a (p + t.1) + r) d := by
  induction l with
  | nil => simp [tl_v, tl_s]
  | cons t l ih =>
    obtain ⟨i1, i2⟩ := (Bool.and_eq_true _ _).mp (show (bs.contains t.1 && l.all (fun t => bs.contains t.1)) = true from hi)
    rw [List.map_cons, List.foldr_cons, sg_cons, ih i2, h t.1 (by simpa using i1)]
theorem sg_fm_s {RO : am_O} {M : am_H} {V : Nat → Int} {a p k : Nat} {bs : List Nat} (h : ∀ b ∈ bs, V (k + sg_ix bs b) = ql_el RO M a (p + b)) {f : sg_F} (hi : sg_in bs f = true) : tl_v V (sg_fm k bs f) = sg_v RO M a p f := sg_fm_l h f.2 f.1 hi
def sg_at (t : Nat) (P Q K : tl_F) : tg_P := (8 * t, [0], [P, Q, K])
theorem sg_at_s {l : List ga_S} {t : Nat} {S : sg_S} (h : l[t]? = some (sg_a S)) {RO : am_O} {κ : Nat → Option Nat} {M : am_H} {V : Nat → Int} {A : Nat → Nat} {a : Nat} {P Q K : tl_F} : tc_xq (tg_of l) RO κ M V A (8 * t, [a], [P, Q, K]) ↔ (κ (A a) = some S.1 ∧ 0 ≤ tl_v V P ∧ 0 ≤ tl_v V Q ∧ ∃ n : Nat, sg_ch S RO M (A a) n (tl_v V P).toNat (tl_v V Q).toNat ∧ tl_v V K = S.2.1 * n) := by
  have e : (8 * t, [a], [P, Q, K]).1 % 8 = 0 := by
    show 8 * t % 8 = 0
    omega
  have e2 : (8 * t, [a], [P, Q, K]).1 / 8 = t := by
    show 8 * t / 8 = t
    omega
  rw [tg_q0 e, e2, tg_of_s h]
  unfold sg_a sg_p
  simp only [List.map_cons, List.map_nil]
/-- no step -/
def sg_nil (t : Nat) (S : sg_S) : tc_Lm := ((1, 1), ([ql_n 0], [(0, S.1)], [], [], [], [], []), (1, 1), ([], [], [], [], [], [], [sg_at t (ql_n 0) (ql_n 0) ([], 0)]))
theorem sg_nil_ok {l : List ga_S} {t : Nat} {S : sg_S} {RO : am_O} {T : tk_T} (h : l[t]? = some (sg_a S)) : tc_lmt (tg_of l) RO T (sg_nil t S) := by
  intro V A κ M sz hH hz hx
  refine ⟨V, A, fun _ _ => rfl, fun _ _ => rfl, ?_⟩
  obtain ⟨h1, h2, h3, h4, h5, h6, h7, h8⟩ := hx
  have f0 := h1 _ List.mem_cons_self
  refine ⟨fun _ q => (List.not_mem_nil q).elim, fun _ q => (List.not_mem_nil q).elim, fun _ q => (List.not_mem_nil q).elim, fun _ q => (List.not_mem_nil q).elim, fun _ q => (List.not_mem_nil q).elim, fun _ q => (List.not_mem_nil q).elim, trivial, fun p hp => ?_⟩
  rcases List.mem_cons.mp hp with rfl | hp
  · exact (sg_at_s h).mpr ⟨h2 _ List.mem_cons_self, f0, f0, 0, rfl, by simp [tl_v, tl_s]⟩
  · cases hp
/-- one more at the end: names 0 from, 1 to, 2 the count, then what stands behind the end -/
def sg_snoc (t : Nat) (S : sg_S) (c : sg_C) (bs : List Nat) : tc_Lm := ((3 + bs.length, 1), ((((sg_fm 3 bs c.2).1, (sg_fm 3 bs c.2).2 - sg_mb c)) :: c.1.map (sg_fm 3 bs), [], [], [], sg_els 1 3 bs, [], [sg_at t (ql_n 0) (ql_n 1) (ql_n 2)]), (3 + bs.length, 1), ([], [], [], [], [], [], [sg_at t (ql_n 0) ((1, 1) :: (sg_fm 3 bs c.2).1, (sg_fm 3 bs c.2).2) ([(2, 1)], S.2.1)]))
theorem sg_snoc_ok {l : List ga_S} {t : Nat} {S : sg_S} {c : sg_C} {bs : List Nat} {RO : am_O} {T : tk_T} (h : l[t]? = some (sg_a S)) (hc : c ∈ S.2.2) (hi : (sg_in bs c.2 && c.1.all (sg_in bs)) = true) : tc_lmt (tg_of l) RO T (sg_snoc t S c bs) := by
  intro V A κ M sz hH hz hx
  refine ⟨V, A, fun _ _ => rfl, fun _ _ => rfl, ?_⟩
  obtain ⟨h1, h2, h3, h4, h5, h6, h7, h8⟩ := hx
  obtain ⟨i1, i2⟩ := (Bool.and_eq_true _ _).mp hi
  obtain ⟨g1, g2, g3, n, g4, g5⟩ := (sg_at_s h).mp (h8 _ List.mem_cons_self)
  rw [ql_n_s] at g2 g3 g5
  rw [ql_n_s, ql_n_s] at g4
  have hq : V 1 = ((V 1).toNat : Int) := by omega
  have hb := sg_els_s hq h5
  have f0 : 0 ≤ tl_v V ((sg_fm 3 bs c.2).1, (sg_fm 3 bs c.2).2 - sg_mb c) := h1 _ List.mem_cons_self
  have e0 : tl_v V (sg_fm 3 bs c.2) = sg_v RO M (A 0) (V 1).toNat c.2 := sg_fm_s hb i1
  have e1 : tl_v V ((sg_fm 3 bs c.2).1, (sg_fm 3 bs c.2).2 - (sg_mb c : Int)) = tl_v V (sg_fm 3 bs c.2) - sg_mb c := by
    unfold tl_v
    dsimp only
    omega
  rw [e1, e0] at f0
  have e2 : tl_v V ((1, 1) :: (sg_fm 3 bs c.2).1, (sg_fm 3 bs c.2).2) = V 1 + sg_v RO M (A 0) (V 1).toNat c.2 := by
    rw [← e0, sg_cons, sg_eta]
    omega
  refine ⟨fun _ q => (List.not_mem_nil q).elim, fun _ q => (List.not_mem_nil q).elim, fun _ q => (List.not_mem_nil q).elim, fun _ q => (List.not_mem_nil q).elim, fun _ q => (List.not_mem_nil q).elim, fun _ q => (List.not_mem_nil q).elim, trivial, fun p hp => ?_⟩
  rcases List.mem_cons.mp hp with rfl | hp
  · refine (sg_at_s h).mpr ⟨g1, by rw [ql_n_s]; exact g2, by rw [e2]; omega, n + 1, ?_, ?_⟩
    · rw [ql_n_s, e2]
      refine sg_ch_sn g4 ⟨c, hc, fun f hf => ?_, by omega, by omega⟩
      rw [← sg_fm_s hb (List.all_eq_true.mp i2 f hf)]
      exact h1 _ (List.mem_cons_of_mem _ (List.mem_map_of_mem hf))
    · have : tl_v V ([(2, 1)], S.2.1) = V 2 + S.2.1 := by simp [tl_v, tl_s]
      rw [this, g5]
      push_cast
      rw [Int.mul_add, Int.mul_one]
  · cases hp
/-- other sorts can't be: by a fact of theirs -/
def sg_ot (k : Nat) (bs : List Nat) (c : sg_C) : List sg_C → List Nat → List tl_F
  | c' :: cs, ch => (if c' = c then [] else [tl_ad (tl_sc (-1) (sg_fm k bs (c'.1.getD (ch.headD 0) ([], -1)))) (-1)]) ++ sg_ot k bs c cs ch.tail
  | [], _ => []
def sg_oc (bs : List Nat) (c : sg_C) : List sg_C → List Nat → Bool
  | c' :: cs, ch => (decide (c' = c) || (decide (ch.headD 0 < c'.1.length) && sg_in bs (c'.1.getD (ch.headD 0) ([], -1)))) && sg_oc bs c cs ch.tail
  | [], _ => true
theorem sg_ot_s {RO : am_O} {M : am_H} {V : Nat → Int} {a p k : Nat} {bs : List Nat} {c : sg_C} (h : ∀ b ∈ bs, V (k + sg_ix bs b) = ql_el RO M a (p + b)) : ∀ {cs : List sg_C} {ch : List Nat}, sg_oc bs c cs ch = true → (∀ f ∈ sg_ot k bs c cs ch, 0 ≤ tl_v V f) → ∀ c' ∈ cs, (∀ f ∈ c'.1, 0 ≤ sg_v RO M a p f) → c' = c
  | [], ch, _, _, c', hc', _ => by cases hc'
  | d :: cs, ch, ho, hf, c', hc', hv => by
    obtain ⟨o1, o2⟩ := (Bool.and_eq_true _ _).mp (show ((decide (d = c) || (decide (ch.headD 0 < d.1.length) && sg_in bs (d.1.getD (ch.headD 0) ([], -1)))) && sg_oc bs c cs ch.tail) = true from ho)
    unfold sg_ot at hf
    rcases List.mem_cons.mp hc' with rfl | hc'
    · by_cases e : c' = c
      · exact e
      · exfalso
        rw [decide_eq_false e, Bool.false_or] at o1
        obtain ⟨o3, o4⟩ := (Bool.and_eq_true _ _).mp o1
        have o3 := of_decide_eq_true o3
        rw [if_neg e] at hf
        have q := hf _ (List.mem_append.mpr (Or.inl List.mem_cons_self))
        have hm : c'.1.getD (ch.headD 0) ([], -1) ∈ c'.1 := by
          rw [List.getD_eq_getElem?_getD, List.getElem?_eq_getElem o3]
          exact List.getElem_mem o3
        have q2 := hv _ hm
        rw [← sg_fm_s h o4] at q2
        rw [tl_ad_s, tl_sc_s] at q
        omega
    · exact sg_ot_s h o2 (fun f hf' => hf f (List.mem_append.mpr (Or.inr hf'))) c' hc' hv
/-- the first one off: names 0 from, 1 to, 2 the count, then what stands behind the beginning -/
def sg_unc (t : Nat) (S : sg_S) (c : sg_C) (bs ch : List Nat) (w : Bool) : tc_Lm := ((3 + bs.length, 1), ((if w then ([(2, 1)], -1) else ([(1, 1), (0, -1)], -1)) :: sg_ot 3 bs c S.2.2 ch, [], [], [], sg_els 0 3 bs, [], [sg_at t (ql_n 0) (ql_n 1) (ql_n 2)]), (3 + bs.length, 1), ((tl_app (tl_sc (-1) ((0, 1) :: (sg_fm 3 bs c.2).1, (sg_fm 3 bs c.2).2)) (ql_n 1)) :: c.1.map (sg_fm 3 bs), [], [], [], [], [], [sg_at t ((0, 1) :: (sg_fm 3 bs c.2).1, (sg_fm 3 bs c.2).2) (ql_n 1) ([(2, 1)], -S.2.1)]))
theorem sg_unc_ok {l : List ga_S} {t : Nat} {S : sg_S} {c : sg_C} {bs ch : List Nat} {w : Bool} {RO : am_O} {T : tk_T} (h : l[t]? = some (sg_a S)) (hi : (sg_in bs c.2 && c.1.all (sg_in bs)) = true) (ho : sg_oc bs c S.2.2 ch = true) : tc_lmt (tg_of l) RO T (sg_unc t S c bs ch w) := by
  intro V A κ M sz hH hz hx
  refine ⟨V, A, fun _ _ => rfl, fun _ _ => rfl, ?_⟩
  obtain ⟨h1, h2, h3, h4, h5, h6, h7, h8⟩ := hx
  obtain ⟨i1, i2⟩ := (Bool.and_eq_true _ _).mp hi
  obtain ⟨g1, g2, g3, n, g4, g5⟩ := (sg_at_s h).mp (h8 _ List.mem_cons_self)
  rw [ql_n_s] at g2 g3 g5
  rw [ql_n_s, ql_n_s] at g4
  have hq : V 0 = ((V 0).toNat : Int) := by omega
  have hb := sg_els_s hq h5
  have f0 := h1 _ List.mem_cons_self
  have hn : n ≠ 0 := by
    intro e
    subst e
    have g4 : (V 0).toNat = (V 1).toNat := g4
    cases w
    · simp [tl_v, tl_s] at f0
      omega
    · simp [tl_v, tl_s] at f0
      rw [g5] at f0
      simp at f0
  obtain ⟨m, rfl⟩ := Nat.exists_eq_succ_of_ne_zero hn
  obtain ⟨p', ⟨c', c1, c2, c3, c4⟩, g6⟩ := g4
  have hcc : c' = c := sg_ot_s hb ho (fun f hf => h1 f (List.mem_cons_of_mem _ hf)) c' c1 c2
  subst hcc
  have e0 : tl_v V (sg_fm 3 bs c'.2) = sg_v RO M (A 0) (V 0).toNat c'.2 := sg_fm_s hb i1
  have e2 : tl_v V ((0, 1) :: (sg_fm 3 bs c'.2).1, (sg_fm 3 bs c'.2).2) = p' := by
    rw [c3, ← e0, ← hq, sg_cons, sg_eta]
    omega
  have hle := sg_ch_le g6
  refine ⟨fun f hf => ?_, fun _ q => (List.not_mem_nil q).elim, fun _ q => (List.not_mem_nil q).elim, fun _ q => (List.not_mem_nil q).elim, fun _ q => (List.not_mem_nil q).elim, fun _ q => (List.not_mem_nil q).elim, trivial, fun p hp => ?_⟩
  · rcases List.mem_cons.mp hf with rfl | hf
    · rw [tl_app_s, tl_sc_s, e2, ql_n_s]
      omega
    · obtain ⟨f', hf', rfl⟩ := List.mem_map.mp hf
      rw [sg_fm_s hb (List.all_eq_true.mp i2 f' hf')]
      exact c2 f' hf'
  · rcases List.mem_cons.mp hp with rfl | hp
    · refine (sg_at_s h).mpr ⟨g1, by rw [e2]; omega, by rw [ql_n_s]; exact g3, m, ?_, ?_⟩
      · rw [ql_n_s, e2, Int.toNat_natCast]
        exact g6
      · have : tl_v V ([(2, 1)], -S.2.1) = V 2 - S.2.1 := by
          simp [tl_v, tl_s]
          omega
        rw [this, g5]
        push_cast
        rw [Int.mul_add, Int.mul_one]
        omega
    · cases hp
/-- copied: rows 0, 1; names 0 from, 1 to, 2 the count, 3, 4 the stretch in which the two are alike -/
def sg_cpy (t t' q1 q2 : Nat) (d : Nat) : tc_Lm := ((5, 2), ([([(0, 1), (3, -1)], 0), ([(4, 1), (1, -1)], 0)], [], [], [], [], [], [sg_at t (ql_n 0) (ql_n 1) (ql_n 2), (8 * q1, [1, 0], [ql_n 3, ql_n 4, ([], -1)]), (8 * q2, [1, 0], [ql_n 3, ql_n 4, ([], -1)])]), (5, 2), ([], [], [], [], [], [], [(8 * t', [1], [([(0, 1)], (d : Int)), ([(1, 1)], (d : Int)), ql_n 2])]))
theorem sg_cpy_ok {l : List ga_S} {t t' q1 q2 : Nat} {S S' : sg_S} {d : Nat} {RO : am_O} {T : tk_T} (h : l[t]? = some (sg_a S)) (h' : l[t']? = some (sg_a S')) (hS : S'.2 = S.2) (hq1 : l[q1]? = some (ql_a ([(S'.1, 1, d, 1), (S.1, 1, 0, -1)], [], 0))) (hq2 : l[q2]? = some (ql_a ([(S'.1, 1, d, -1), (S.1, 1, 0, 1)], [], 0))) : tc_lmt (tg_of l) RO T (sg_cpy t t' q1 q2 d) := by
  intro V A κ M sz hH hz hx
  refine ⟨V, A, fun _ _ => rfl, fun _ _ => rfl, ?_⟩
  obtain ⟨h1, h2, h3, h4, h5, h6, h7, h8⟩ := hx
  obtain ⟨g1, g2, g3, n, g4, g5⟩ := (sg_at_s h).mp (h8 _ List.mem_cons_self)
  obtain ⟨a1, a2⟩ := (ql_at_s2 hq1).mp (h8 _ (List.mem_cons_of_mem _ List.mem_cons_self))
  obtain ⟨b1, b2⟩ := (ql_at_s2 hq2).mp (h8 _ (List.mem_cons_of_mem _ (List.mem_cons_of_mem _ List.mem_cons_self)))
  have f0 := h1 _ List.mem_cons_self
  have f1 := h1 _ (List.mem_cons_of_mem _ List.mem_cons_self)
  simp only [tl_v, tl_s] at f0 f1
  rw [ql_n_s] at g2 g3 g5
  rw [ql_n_s, ql_n_s] at g4
  refine ⟨fun _ q => (List.not_mem_nil q).elim, fun _ q => (List.not_mem_nil q).elim, fun _ q => (List.not_mem_nil q).elim, fun _ q => (List.not_mem_nil q).elim, fun _ q => (List.not_mem_nil q).elim, fun _ q => (List.not_mem_nil q).elim, trivial, fun p hp => ?_⟩
  rcases List.mem_cons.mp hp with rfl | hp
  · have e0 : tl_v V ([(0, 1)], (d : Int)) = V 0 + d := by simp [tl_v, tl_s]
    have e1 : tl_v V ([(1, 1)], (d : Int)) = V 1 + d := by simp [tl_v, tl_s]
    refine (sg_at_s h').mpr ⟨a1.1, by rw [e0]; omega, by rw [e1]; omega, n, ?_, ?_⟩
    · rw [e0, e1, show (V 0 + d).toNat = (V 0).toNat + d by omega, show (V 1 + d).toNat = (V 1).toNat + d by omega]
      refine sg_ch_c (by rw [hS]) (H := (V 1).toNat) (Nat.le_refl _) (fun j j1 j2 => ?_) g4
      have p1 := a2 j (by rw [ql_n_s]; omega) (by rw [ql_n_s]; omega) (by simp [tl_v, tl_s])
      have p2 := b2 j (by rw [ql_n_s]; omega) (by rw [ql_n_s]; omega) (by simp [tl_v, tl_s])
      simp only [List.map_cons, List.map_nil, ql_sum, ql_dot] at p1 p2
      rw [Nat.one_mul, Nat.add_zero] at p1 p2
      omega
    · rw [ql_n_s, hS]
      exact g5
  · cases hp
