/-! TC: contracts of methods, and calls by them */ -/
/-- method; names; arguments; what must be known; what it writes; its ends -/
abbrev tc_Ct : Type := Nat × (Nat × Nat) × List tv_V × tc_X × tc_W × List tc_Ex
def tc_true (P : am_P) (Γ : tg_G) (RO : am_O) (T : tk_T) (Z : tc_Z) (c : tc_Ct) : Prop := ∀ (E : tc_E) (vs : List Value), tc_zok P Z E.2.2.1 → tk_H T RO E.2.2.1 E.2.2.2.1 E.2.2.2.2.1 → (∀ a, E.2.2.2.2.1 ≤ a → E.2.2.1 a = none) → tc_x Γ RO E.2.2.1 E.2.2.2.1 E.2.2.2.2.1 E.1 E.2.1 c.2.2.2.1 → tc_st E.1 E.2.1 c.2.2.1 vs →
  ∃ k, am_W P RO k c.1 0 (lv_args 0 vs) [] E.2.2.2.1 E.2.2.2.2.1 E.2.2.2.2.2 (tc_Q Γ RO T c.2.2.2.2.1 c.2.1.1 c.2.1.2 (c.2.2.2.1.2.2.2.2.2.1.map (fun p => p.1)) E c.2.2.2.2.2)
def tv_sub (n0 m0 : Nat) (sg : List tl_F) (ag : List Nat) (t : tv_V) : tv_V := (t.1, tl_sb n0 sg t.2.1, if t.1 = 2 then ta_at m0 ag t.2.2 else t.2.2)
def tc_slots (S : List tv_V) : Nat := (S.map (fun t => if tv_k t = 1 then 2 else 1)).sum
def tc_xsub (sg : List tl_F) (ag : List Nat) (Y : tc_X) : tc_X := (Y.1.map (tl_sb 0 sg), Y.2.1.map (fun p => (ta_at 0 ag p.1, p.2)), Y.2.2.1.map (fun p => (ta_at 0 ag p.1, tl_sb 0 sg p.2)), Y.2.2.2.1.map (fun p => (ta_at 0 ag p.1, p.2.1, tv_sub 0 0 sg ag p.2.2)), Y.2.2.2.2.1.map (fun p => (ta_at 0 ag p.1, tl_sb 0 sg p.2.1, tl_sb 0 sg p.2.2)), Y.2.2.2.2.2.1.map (fun p => (ta_at 0 ag p.1, p.2.1, p.2.2.map (tv_sub 0 0 sg ag))), Y.2.2.2.2.2.2.map (fun p => (p.1, p.2.1.map (ta_at 0 ag), p.2.2.map (tl_sb 0 sg))))
/-- atoms that don't look at what is written -/
def tg_kw (fp : Nat → List (Nat × Nat)) (W : tc_W) (p : tg_P) : Bool := (p.1 % 8 == 0) && (fp (p.1 / 8)).all (fun q => !W.contains q)
/-- what stays known over a call that writes W and is given what is being made -/
def tc_xkeep (fp : Nat → List (Nat × Nat)) (X : tc_X) (W : tc_W) (pn : List Nat) : tc_X := (X.1, X.2.1, X.2.2.1.filter (fun p => (tc_kd X p.1).isSome), X.2.2.2.1.filter (fun p => match tc_kd X p.1 with
  | some k => !W.contains (k, p.2.1)
  | none => false), X.2.2.2.2.1.filter (fun p => match tc_kd X p.1 with
  | some k => !W.contains (k, 0)
  | none => false), X.2.2.2.2.2.1.filter (fun p => !pn.contains p.1), X.2.2.2.2.2.2.filter (tg_kw fp W))
def tc_xcat (Y X : tc_X) : tc_X := (X.1 ++ Y.1, Y.2.1 ++ X.2.1, Y.2.2.1 ++ X.2.2.1, Y.2.2.2.1 ++ X.2.2.2.1, Y.2.2.2.2.1 ++ X.2.2.2.2.1, Y.2.2.2.2.2.1 ++ X.2.2.2.2.2.1, Y.2.2.2.2.2.2 ++ X.2.2.2.2.2.2)
section TCC
variable {Γ : tg_G} {RO : am_O} {κ κ' : Nat → Option Nat} {M M' : am_H} {sz sl z' l' : Nat} {V : Nat → Int} {A : Nat → Nat} {X Y : tc_X} {n m : Nat} {sg : List tl_F} {ag : List Nat}
theorem tv_sub_s {t : tv_V} {v : Value} (h : tv_is (tl_V V 0 sg) (ta_A A 0 ag) t v) : tv_is V A (tv_sub 0 0 sg ag t) v := by
  obtain ⟨s, f, a⟩ := t
  match s, h with
  | 0, ⟨x, h1, h2⟩ => exact ⟨x, h1, h2.trans (tl_sb_s V 0 sg f).symm⟩
  | 1, h => exact h
  | 2, h => exact h
  | 3, h => exact h
  | 4, ⟨x, h1, h2⟩ => exact ⟨x, h1, h2.trans (tl_sb_s V 0 sg f).symm⟩
  | 5, ⟨x, h1, h2⟩ =>
    refine ⟨x, h1, ?_⟩
    show tv_sg x (tl_v V (tl_sb 0 sg f))
    rw [tl_sb_s]
    exact h2
  | s + 6, h => exact h.elim
theorem tc_st_sub : ∀ {S : List tv_V} {st : List Value}, tc_st (tl_V V 0 sg) (ta_A A 0 ag) S st → tc_st V A (S.map (tv_sub 0 0 sg ag)) st
  | [], [], _ => trivial
  | [], v :: s, g => by cases g
  | t :: r, [], g => by cases g
  | t :: r, v :: s, g => ⟨tv_sub_s g.1, tc_st_sub g.2⟩
theorem tc_dj_sub {g : List tv_V → List tv_V} : ∀ {l : List (Nat × Nat × List tv_V)}, tc_dj (ta_A A 0 ag) l → tc_dj A (l.map (fun p => (ta_at 0 ag p.1, p.2.1, g p.2.2)))
  | [], _ => trivial
  | x :: r, h => by
    refine ⟨fun q hq => ?_, tc_dj_sub h.2⟩
    obtain ⟨q', q1, rfl⟩ := List.mem_map.mp hq
    exact h.1 q' q1
theorem tc_xsub_s (h : tc_x Γ RO κ M sz (tl_V V 0 sg) (ta_A A 0 ag) Y) : tc_x Γ RO κ M sz V A (tc_xsub sg ag Y) := by
  obtain ⟨h1, h2, h3, h4, h5, h6, h7, h8⟩ := h
  refine ⟨fun f hf => ?_, fun p hp => ?_, fun p hp => ?_, fun p hp => ?_, fun p hp => ?_, fun p hp => ?_, tc_dj_sub h7, fun p hp => ?_⟩
  · obtain ⟨f', q, rfl⟩ := List.mem_map.mp hf
    rw [tl_sb_s]
    exact h1 f' q
  · obtain ⟨p', q, rfl⟩ := List.mem_map.mp hp
    exact h2 p' q
  · obtain ⟨p', q, rfl⟩ := List.mem_map.mp hp
    obtain ⟨k, g1, g2⟩ := h3 p' q
    refine ⟨k, g1, ?_⟩
    show tl_v V (tl_sb 0 sg p'.2) = _
    rw [tl_sb_s]
    exact g2
  · obtain ⟨p', q, rfl⟩ := List.mem_map.mp hp
    obtain ⟨ci, vs, v, g1, g2, g3⟩ := h4 p' q
    exact ⟨ci, vs, v, g1, g2, tv_sub_s g3⟩
  · obtain ⟨p', q, rfl⟩ := List.mem_map.mp hp
    obtain ⟨t, k, f, j, g1, g2, g3, g4⟩ := h5 p' q
    refine ⟨t, k, f, j, g1, ?_, g3, ?_⟩
    · show tl_v V (tl_sb 0 sg p'.2.1) = _
      rw [tl_sb_s]
      exact g2
    · show _ = tl_v V (tl_sb 0 sg p'.2.2)
      rw [tl_sb_s]
      exact g4
  · obtain ⟨p', q, rfl⟩ := List.mem_map.mp hp
    obtain ⟨g0, g1, vs, g2, g3⟩ := h6 p' q
    exact ⟨g0, g1, vs, g2, tc_st_sub g3⟩
  · obtain ⟨p', q, rfl⟩ := List.mem_map.mp hp
    have g := h8 p' q
    unfold tc_xq at g ⊢
    dsimp only
    rw [List.map_map, List.map_map]
    have e : p'.2.2.map (tl_v V ∘ tl_sb 0 sg) = p'.2.2.map (tl_v (tl_V V 0 sg)) := List.map_congr_left (fun f _ => tl_sb_s V 0 sg f)
    rw [e]
    exact g
theorem tc_dj_app {A : Nat → Nat} : ∀ {l r : List (Nat × Nat × List tv_V)}, tc_dj A l → tc_dj A r → (∀ p ∈ l, ∀ q ∈ r, A p.1 ≠ A q.1) → tc_dj A (l ++ r)
  | [], r, _, h, _ => h
  | x :: l, r, h1, h2, h3 => by
    refine ⟨fun q hq => ?_, tc_dj_app h1.2 h2 (fun p hp => h3 p (List.mem_cons_of_mem _ hp))⟩
    rcases List.mem_append.mp hq with hq | hq
    · exact h1.1 q hq
    · exact h3 x List.mem_cons_self q hq
theorem tc_xcat_s (hy : tc_x Γ RO κ M sz V A Y) (hx : tc_x Γ RO κ M sz V A X) (hd : ∀ p ∈ Y.2.2.2.2.2.1, ∀ q ∈ X.2.2.2.2.2.1, A p.1 ≠ A q.1) : tc_x Γ RO κ M sz V A (tc_xcat Y X) := by
  obtain ⟨h1, h2, h3, h4, h5, h6, h7, h8⟩ := hx
  obtain ⟨g1, g2, g3, g4, g5, g6, g7, g8⟩ := hy
  have ap : ∀ {α : Type} {q : α → Prop} {a b : List α}, (∀ x ∈ a, q x) → (∀ x ∈ b, q x) → ∀ x ∈ a ++ b, q x := fun ha hb x hx => (List.mem_append.mp hx).elim (ha x) (hb x)
  exact ⟨ap h1 g1, ap g2 h2, ap g3 h3, ap g4 h4, ap g5 h5, ap g6 h6, tc_dj_app g7 h7 hd, ap g8 h8⟩
theorem tk_fr_w {W W' : tc_W} {k : Nat} {c c' : Option am_E} (hW : ∀ p ∈ W, p ∈ W') (h : tk_fr W k c c') : tk_fr W' k c c' := by
  obtain ⟨h1, h2, h3⟩ := h
  refine ⟨fun ci vs e => ?_, fun t x e => ?_, h3⟩
  · obtain ⟨vs', e1, e2⟩ := h1 ci vs e
    exact ⟨vs', e1, fun j hj => e2 j (fun q => hj (hW _ q))⟩
  · obtain ⟨x', e1, e2, e3⟩ := h2 t x e
    exact ⟨x', e1, e2, fun q => e3 (fun q2 => q (hW _ q2))⟩
theorem tc_dj_fi {A : Nat → Nat} {g : Nat × Nat × List tv_V → Bool} : ∀ {l : List (Nat × Nat × List tv_V)}, tc_dj A l → tc_dj A (l.filter g)
  | [], _ => trivial
  | x :: r, h => by
    rw [List.filter_cons]
    split
    · exact ⟨fun q hq => h.1 q (List.mem_filter.mp hq).1, tc_dj_fi h.2⟩
    · exact tc_dj_fi h.2
theorem tc_xkeep_s (hΓ : tg_ok Γ) (hx : tc_x Γ RO κ M sz V A X) {W : tc_W} {pn : List Nat} {Fa : List Nat} (hκ : ∀ a k, κ a = some k → κ' a = some k) (hnk : ∀ a k, κ' a = some k → κ a = none → (k, 1000) ∈ W) (hfr : ∀ a k, κ a = some k → tk_fr W k (M a) (M' a)) (hns : ∀ a, a < sz → κ a = none → a ∉ Fa → κ' a = none ∧ M' a = M a) (hz : sz ≤ z') (hF : ∀ p ∈ X.2.2.2.2.2.1, p.1 ∉ pn → A p.1 ∉ Fa) : tc_x Γ RO κ' M' z' V A (tc_xkeep Γ.2 X W pn) := by
  have hx0 := hx
  obtain ⟨h1, h2, h3, h4, h5, h6, h7, h8⟩ := hx
  refine ⟨h1, fun p hp => hκ _ _ (h2 p hp), fun p hp => ?_, fun p hp => ?_, fun p hp => ?_, fun p hp => ?_, tc_dj_fi h7, fun p hp => ?_⟩
  · obtain ⟨p1, p2⟩ := List.mem_filter.mp hp
    obtain ⟨k, hk⟩ := Option.isSome_iff_exists.mp p2
    obtain ⟨-, f2, f3⟩ := hfr _ _ (tc_kd_s hx0 hk)
    obtain ⟨N, g1, g2⟩ := h3 p p1
    refine ⟨N, ?_, g2⟩
    rcases g1 with ⟨t, x, e1, e2⟩ | ⟨e1, e2⟩
    · obtain ⟨x', e3, e4, -⟩ := f2 t x e1
      exact Or.inl ⟨t, x', e3, e4.trans e2⟩
    · exact Or.inr ⟨f3 e1, e2⟩
  · obtain ⟨p1, p2⟩ := List.mem_filter.mp hp
    split at p2
    · rename_i k hk
      obtain ⟨f1, -, -⟩ := hfr _ _ (tc_kd_s hx0 hk)
      obtain ⟨ci, vs, v, g1, g2, g3⟩ := h4 p p1
      obtain ⟨vs', e1, e2⟩ := f1 ci vs g1
      exact ⟨ci, vs', v, e1, (e2 _ (by simpa using p2)).trans g2, g3⟩
    · cases p2
  · obtain ⟨p1, p2⟩ := List.mem_filter.mp hp
    split at p2
    · rename_i k hk
      obtain ⟨-, f2, f3⟩ := hfr _ _ (tc_kd_s hx0 hk)
      obtain ⟨t, N, f, j, g1, g2⟩ := h5 p p1
      refine ⟨t, N, f, j, ?_, g2⟩
      rcases g1 with g1 | ⟨g0, g1⟩
      · obtain ⟨x', e3, -, e5⟩ := f2 _ _ g1
        left
        rw [e3, e5 (by simpa using p2)]
      · exact Or.inr ⟨f3 g0, g1⟩
    · cases p2
  · obtain ⟨p1, p2⟩ := List.mem_filter.mp hp
    obtain ⟨g0, g1, vs, g2, g3⟩ := h6 p p1
    obtain ⟨e1, e2⟩ := hns _ g0 g1 (hF p p1 (by simpa using p2))
    exact ⟨by omega, e1, vs, e2.trans g2, g3⟩
  · obtain ⟨p1, p2⟩ := List.mem_filter.mp hp
    obtain ⟨q1, q2⟩ := tc_and p2
    have q1 : p.1 % 8 = 0 := by simpa using q1
    have q3 : ∀ q ∈ Γ.2 (p.1 / 8), q ∉ W := fun q hq => by simpa using tc_al q2 q hq
    have g := h8 p p1
    rw [tg_q0 q1] at g ⊢
    refine hΓ _ RO κ κ' M M' _ _ hκ (fun a k e1 e2 hF => q3 _ hF (hnk a k e1 e2)) (fun a k hk => ?_) g
    obtain ⟨f1, f2, f3⟩ := hfr a k hk
    refine ⟨fun ci vs e => ?_, fun t x e => ?_, f3⟩
    · obtain ⟨vs', e1, e2⟩ := f1 ci vs e
      exact ⟨vs', e1, fun j hj => e2 j (q3 _ hj)⟩
    · obtain ⟨x', e1, e2, e3⟩ := f2 t x e
      exact ⟨x', e1, e2, fun hj => e3 (q3 _ hj)⟩
theorem tc_slots_s : ∀ {S : List tv_V} {vs : List Value}, tc_st V A S vs → (lg_sl vs).length = tc_slots S
  | [], [], _ => rfl
  | [], v :: s, g => by cases g
  | t :: r, [], g => by cases g
  | t :: r, v :: s, g => by
    have ih := tc_slots_s g.2
    have c := tv_cat g.1
    have e : lg_sl (v :: s) = (if v.category = 2 then [.val v, .second] else [.val v]) ++ lg_sl s := rfl
    rw [e, List.length_append, ih]
    unfold tc_slots
    rw [List.map_cons, List.sum_cons]
    congr 1
    by_cases k : tv_k t = 1
    · rw [if_pos k] at c ⊢
      rw [if_pos c]
      rfl
    · rw [if_neg k] at c ⊢
      rw [if_neg (by rw [c]; decide)]
      rfl
theorem tc_cat_s : ∀ {S : List tv_V} {vs : List Value}, tc_st V A S vs → am_cat vs = tc_slots S
  | [], [], _ => rfl
  | [], v :: s, g => by cases g
  | t :: r, [], g => by cases g
  | t :: r, v :: s, g => by
    have ih := tc_cat_s g.2
    have c := tv_cat g.1
    unfold am_cat at ih ⊢
    unfold tc_slots at ih ⊢
    rw [List.map_cons, List.sum_cons, List.map_cons, List.sum_cons, ih, c]
theorem tc_st_app : ∀ {S U : List tv_V} {vs ws : List Value}, tc_st V A S vs → tc_st V A U ws → tc_st V A (S ++ U) (vs ++ ws)
  | [], U, [], ws, _, h => h
  | [], U, v :: s, ws, g, _ => by cases g
  | t :: r, U, [], ws, g, _ => by cases g
  | t :: r, U, v :: s, ws, g, h => ⟨g.1, tc_st_app g.2 h⟩
theorem tc_st_rev : ∀ {S : List tv_V} {vs : List Value}, tc_st V A S vs → tc_st V A S.reverse vs.reverse
  | [], [], _ => trivial
  | [], v :: s, g => by cases g
  | t :: r, [], g => by cases g
  | t :: r, v :: s, g => by
    rw [List.reverse_cons, List.reverse_cons]
    exact tc_st_app (tc_st_rev g.2) ⟨g.1, trivial⟩
theorem tc_st_tk : ∀ {S : List tv_V} {st : List Value} (k : Nat), tc_st V A S st → tc_st V A (S.take k) (st.take k) ∧ tc_st V A (S.drop k) (st.drop k)
  | [], [], k, _ => by
    simp only [List.take_nil, List.drop_nil]
    exact ⟨trivial, trivial⟩
  | [], v :: s, _, g => by cases g
  | t :: r, [], _, g => by cases g
  | t :: r, v :: s, 0, g => ⟨trivial, g⟩
  | t :: r, v :: s, k + 1, g => ⟨⟨g.1, (tc_st_tk k g.2).1⟩, (tc_st_tk k g.2).2⟩
end TCC
/-- the class of an object, also of one that is being made -/
def tc_cls (T : tk_T) (X : tc_X) (b : Nat) : Option Nat := match (tc_kd X b).bind (fun k => T[k]?) with
  | some (0, ci, _) => some ci
  | _ => (tc_frs X b).map (fun o => o.1)
theorem tc_cls_s {Γ : tg_G} {RO : am_O} {κ : Nat → Option Nat} {M : am_H} {sz : Nat} {V : Nat → Int} {A : Nat → Nat} {X : tc_X} {T : tk_T} (hx : tc_x Γ RO κ M sz V A X) (hH : tk_H T RO κ M sz) {b ci : Nat} (h : tc_cls T X b = some ci) : ∃ vs, M (A b) = some (.inr (ci, vs)) := by
  unfold tc_cls at h
  split at h
  · rename_i ci' rest hK
    cases h
    obtain ⟨fs, E, lo, hi, O⟩ := rest
    obtain ⟨vs, m1, -⟩ := tc_kT hx hH hK
    exact ⟨vs, m1⟩
  · obtain ⟨o, ho, e⟩ := Option.map_eq_some_iff.mp h
    obtain ⟨-, -, vs, m1, -⟩ := tc_frs_s hx ho
    rw [e] at m1
    exact ⟨vs, m1⟩
/-- the method that a call comes to, and how many things it takes from the stack; of a virtual one by how many it takes -/
def tc_rs (P : am_P) (T : tk_T) (own : Nat) (i : Instr) (X : tc_X) (S : List tv_V) (nv : Nat) : Option (Nat × Nat) := match i with
  | .invokestatic x => am_cs P own x
  | .invokespecial x => (match am_ci P own x with
    | some (z, n) => (match S[n]? with
      | some (2, _, _) => some (z, n + 1)
      | _ => none)
    | none => none)
  | .invokevirtual x => (match S[nv]? with
    | some (2, _, b) => (match tc_cls T X b with
      | some ci => (match am_cv P own x ci with
        | some (z, n) => if n = nv then some (z, n + 1) else none
        | none => none)
      | none => none)
    | _ => none)
  | _ => none
def tc_wex (n0 m0 : Nat) (e : tc_Ex) : Bool := decide (n0 ≤ e.1.1) && (decide (m0 ≤ e.1.2) && (tc_wx e.1.1 e.1.2 e.2.1 && ((match e.2.2.1 with
  | none => true
  | some t => tv_lt e.1.1 e.1.2 t) && (tl_lt e.1.1 e.2.2.2.1 && tl_lt e.1.1 e.2.2.2.2))))
def tc_isg (n c d : Nat) (sg : List tl_F) : List tl_F := sg ++ (List.range (d - c)).map (fun i => tl_nm (n + i))
def tc_iag (m c d : Nat) (ag : List Nat) : List Nat := ag ++ (List.range (d - c)).map (fun i => m + i)
/-- behind a call: one end of a contract -/
def tc_ce (fp : Nat → List (Nat × Nat)) (cn cm : Nat) (cX : tc_X) (cW : tc_W) (sg : List tl_F) (ag : List Nat) (n m : Nat) (X : tc_X) (pc : Nat) (L : tc_L) (R : List tv_V) (zq lq : tl_F) (e : tc_Ex) : tc_G :=
  let sg2 := tc_isg n cn e.1.1 sg
  let ag2 := tc_iag m cm e.1.2 ag
  ((n + (e.1.1 - cn), m + (e.1.2 - cm)), tc_xcat (tc_xsub sg2 ag2 e.2.1) (tc_xkeep fp X cW (cX.2.2.2.2.2.1.map (fun p => ta_at 0 ag p.1))), pc + 3, L, (match e.2.2.1 with
    | none => R
    | some t => tv_sub 0 0 sg2 ag2 t :: R), tl_nf (tl_app zq (tl_sb 0 sg2 e.2.2.2.1)), tl_nf (tl_app lq (tl_sb 0 sg2 e.2.2.2.2)))
/-- a call by a contract: hint: ints: which contract, then addresses; forms; certificates: 0: how many a virtual call takes; from 8 on facts -/
def tc_ca (P : am_P) (T : tk_T) (fp : Nat → List (Nat × Nat)) (mm : Nat → Option am_Meth) (CT : List tc_Ct) (W : tc_W) (mt : am_Meth) (n0 m0 : Nat) (i : Instr) (len : Nat) (h : tc_h) (G : tc_G) : Option (List tc_G) := match G with
  | ((n, m), X, pc, L, S, zq, lq) => match tc_rs P T mt.2.2.2.2.2.2 i X S (tc_cf h 0).1, CT[(tc_hi h 0).toNat]? with
    | some (z, k), some (cz, (cn, cm), ca, cX, cW, ces) => (match mm z with
      | some mz => if (((len = 3 ∧ cz = z ∧ k ≤ S.length) ∧ (h.2.2.1.length = cn ∧ (tc_hg h).length = cm)) ∧ ((mz.2.2.2.2.1 + 1 ≤ mt.2.2.2.2.1 ∧ 8 + (mz.2.2.1 + 11) + mz.2.2.2.2.2.1 ≤ mt.2.2.2.2.2.1) ∧ tc_slots (S.take k) ≤ mz.2.2.1) ∧ tc_slots (S.drop k) ≤ 8) ∧ (((cW.all W.contains && tc_wf n0 m0 G) && (h.2.2.1.all (tl_lt n) && (tc_hg h).all (fun a => decide (a < m)))) && ((tv_svs 0 0 h.2.2.1 (tc_hg h) (S.take k).reverse ca && tc_mat 0 0 h.2.2.1 (tc_hg h) X (h.2.2.2.drop 8) cX) && ces.all (tc_wex cn cm))) = true then
          some (ces.map (tc_ce fp cn cm cX cW h.2.2.1 (tc_hg h) n m X pc L (S.drop k) zq lq)) else none
      | none => none)
    | _, _ => none
section TCD
variable {RO : am_O} {κ κ' : Nat → Option Nat} {M M' : am_H} {sz sl z' l' : Nat} {V V1 : Nat → Int} {A A1 : Nat → Nat} {X Y : tc_X} {n m cn cm dn dm : Nat} {sg : List tl_F} {ag : List Nat}
/-- names of the caller and, behind them, those that a call made -/
def tc_V2 (V V1 : Nat → Int) (n c : Nat) : Nat → Int := fun k => if k < n then V k else V1 (c + (k - n))
def tc_A2 (A A1 : Nat → Nat) (m c : Nat) : Nat → Nat := fun k => if k < m then A k else A1 (c + (k - m))
theorem tc_V2_lt : ∀ k, k < n → V k = tc_V2 V V1 n cn k := fun k hk => by
  unfold tc_V2
  rw [if_pos hk]
theorem tc_A2_lt : ∀ k, k < m → A k = tc_A2 A A1 m cm k := fun k hk => by
  unfold tc_A2
  rw [if_pos hk]
theorem tc_isg_s (h1 : ∀ k, k < cn → tl_V V 0 sg k = V1 k) (h2 : sg.length = cn) (h3 : sg.all (tl_lt n) = true) : ∀ k, k < dn → V1 k = tl_V (tc_V2 V V1 n cn) 0 (tc_isg n cn dn sg) k := by
  intro k hk
  unfold tl_V tl_at tc_isg
  rw [if_neg (by omega), Nat.sub_zero]
  by_cases hc : k < cn
  · rw [List.getElem?_append_left (by omega)]
    have q := h1 k hc
    unfold tl_V tl_at at q
    rw [if_neg (by omega), Nat.sub_zero] at q
    rw [List.getElem?_eq_getElem (by omega)] at q ⊢
    dsimp only at q ⊢
    rw [← q]
    exact tl_v_lt tc_V2_lt (tc_al h3 _ (List.getElem_mem _))
  · rw [List.getElem?_append_right (by omega), List.getElem?_map, List.getElem?_range (by omega)]
    dsimp only [Option.map]
    rw [tl_nm_s]
    unfold tc_V2
    rw [if_neg (by omega), show cn + (n + (k - sg.length) - n) = k by omega]
theorem tc_iag_s (h1 : ∀ k, k < cm → ta_A A 0 ag k = A1 k) (h2 : ag.length = cm) (h3 : ag.all (fun a => decide (a < m)) = true) : ∀ k, k < dm → A1 k = ta_A (tc_A2 A A1 m cm) 0 (tc_iag m cm dm ag) k := by
  intro k hk
  unfold ta_A ta_at tc_iag
  rw [if_neg (by omega), Nat.sub_zero]
  by_cases hc : k < cm
  · rw [List.getElem?_append_left (by omega)]
    have q := h1 k hc
    unfold ta_A ta_at at q
    rw [if_neg (by omega), Nat.sub_zero] at q
    rw [List.getElem?_eq_getElem (by omega)] at q ⊢
    dsimp only at q ⊢
    rw [← q]
    exact tc_A2_lt _ (of_decide_eq_true (tc_al h3 _ (List.getElem_mem _)))
  · rw [List.getElem?_append_right (by omega), List.getElem?_map, List.getElem?_range (by omega)]
    dsimp only [Option.map]
    unfold tc_A2
    rw [if_neg (by omega), show cm + (m + (k - ag.length) - m) = k by omega]
end TCD
