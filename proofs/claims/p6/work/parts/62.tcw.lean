/-! TC: instructions that write the heap -/
/-- a value is of a type: certificates k, k + 1 -/
def tc_ty (X : tc_X) (h : tc_h) (k : Nat) (τ : tk_F) (t : tv_V) : Bool := match τ.1 with
  | 0 => (t.1 == 0) && (tl_pr X.1 (tl_ad t.2.1 (-τ.2.1)) (tc_cf h k) && tl_pr X.1 (tl_ad (tl_neg t.2.1) τ.2.2.1) (tc_cf h (k + 1)))
  | 1 => tv_k t == 1
  | 2 => (t.1 == 2) && (match tc_kd X t.2.2 with
    | some q => τ.2.2.2.contains q
    | none => false)
  | 3 => (t.1 == 3) || ((t.1 == 2) && (match tc_kd X t.2.2 with
    | some q => τ.2.2.2.contains q
    | none => false))
  | _ => false
/-- the machine's own conditions on a value that is put into a field of a type -/
def tc_nf (X : tc_X) (h : tc_h) (k : Nat) (ty : FieldType) (t : tv_V) : Bool := match tv_k t with
  | 0 => decide (ty = .int) || ((t.1 == 0) && (tl_pr X.1 t.2.1 (tc_cf h k) && (tl_pr X.1 (tl_ad (tl_neg t.2.1) 1) (tc_cf h (k + 1)) && ((decide (narrow ty (.int 0) = .int 0) && fits ty (.int 0)) && (decide (narrow ty (.int 1) = .int 1) && fits ty (.int 1))))))
  | 1 => decide (ty = .long)
  | 2 => (match ty with
    | .object _ => true
    | .array _ => true
    | _ => false)
  | _ => false
section TCW
variable {Γ : tg_G} {RO : am_O} {κ : Nat → Option Nat} {M : am_H} {sz sl : Nat} {V V' : Nat → Int} {A A' : Nat → Nat} {X : tc_X} {T : tk_T}
theorem tc_ty_r (hx : tc_x Γ RO κ M sz V A X) {f : tl_F} {a : Nat} {ks : List Nat} (g : (match tc_kd X a with
    | some q => ks.contains q
    | none => false) = true) : ∃ k, κ (A a) = some k ∧ k ∈ ks := by
  split at g
  · rename_i q hq
    exact ⟨q, tc_kd_s hx hq, by simpa using g⟩
  · cases g
theorem tc_ty_s (hx : tc_x Γ RO κ M sz V A X) {h : tc_h} {k : Nat} {τ : tk_F} {t : tv_V} {v : Value} (g : tc_ty X h k τ t = true) (hv : tv_is V A t v) : tk_ok κ τ v := by
  obtain ⟨s, lo, hi, ks⟩ := τ
  obtain ⟨t1, f, a⟩ := t
  match s, g with
  | 0, g =>
    obtain ⟨g1, g2⟩ := tc_and (show ((t1 == 0) && (tl_pr X.1 (tl_ad f (-lo)) (tc_cf h k) && tl_pr X.1 (tl_ad (tl_neg f) hi) (tc_cf h (k + 1)))) = true from g)
    obtain ⟨g2, g3⟩ := tc_and g2
    have e : t1 = 0 := by simpa using g1
    subst e
    obtain ⟨x, rfl, hx2⟩ := hv
    have g2 := tl_pr_s hx.1 g2
    have g3 := tl_pr_s hx.1 g3
    rw [tl_ad_s] at g2 g3
    rw [tl_neg_s] at g3
    have hx2 : x.toInt = tl_v V f := hx2
    exact ⟨x, rfl, (show lo ≤ x.toInt by omega), (show x.toInt ≤ hi by omega)⟩
  | 1, g =>
    have g1 : tv_k (t1, f, a) = 1 := by
      have g' : (tv_k (t1, f, a) == 1) = true := g
      simpa using g'
    exact tv_k1 hv g1
  | 2, g =>
    obtain ⟨g1, g2⟩ := tc_and g
    have e : t1 = 2 := by simpa using g1
    subst e
    obtain ⟨q, q1, q2⟩ := tc_ty_r (f := f) hx g2
    exact ⟨A a, q, hv, q1, q2⟩
  | 3, g =>
    rcases (Bool.or_eq_true _ _).mp g with g | g
    · have e : t1 = 3 := by simpa using g
      subst e
      exact Or.inl hv
    · obtain ⟨g1, g2⟩ := tc_and g
      have e : t1 = 2 := by simpa using g1
      subst e
      obtain ⟨q, q1, q2⟩ := tc_ty_r (f := f) hx g2
      exact Or.inr ⟨A a, q, hv, q1, q2⟩
  | s + 4, g => cases g
theorem tc_nf_s (hx : tc_x Γ RO κ M sz V A X) {h : tc_h} {k : Nat} {ty : FieldType} {t : tv_V} {v : Value} (g : tc_nf X h k ty t = true) (hv : tv_is V A t v) : narrow ty v = v ∧ fits ty v = true := by
  unfold tc_nf at g
  split at g
  · rename_i hk
    obtain ⟨x, rfl⟩ := tv_k0 hv hk
    rcases (Bool.or_eq_true _ _).mp g with g | g
    · have e := of_decide_eq_true g
      subst e
      exact ⟨rfl, rfl⟩
    · obtain ⟨g1, g⟩ := tc_and g
      obtain ⟨g2, g⟩ := tc_and g
      obtain ⟨g3, g⟩ := tc_and g
      obtain ⟨g4, g5⟩ := tc_and g
      obtain ⟨x', q1, q2⟩ := tc_v0 (by simpa using g1) hv
      cases q1
      have g2 := tl_pr_s hx.1 g2
      have g3 := tl_pr_s hx.1 g3
      rw [tl_ad_s, tl_neg_s] at g3
      have e01 : x = 0 ∨ x = 1 := by
        by_cases q : x.toInt = 0
        · exact Or.inl (Int32.toInt_inj.mp q)
        · exact Or.inr (Int32.toInt_inj.mp (show x.toInt = 1 by omega))
      rcases e01 with rfl | rfl
      · exact ⟨of_decide_eq_true (tc_and g4).1, (tc_and g4).2⟩
      · exact ⟨of_decide_eq_true (tc_and g5).1, (tc_and g5).2⟩
  · rename_i hk
    obtain ⟨x, rfl⟩ := tv_k1 hv hk
    have e := of_decide_eq_true g
    subst e
    exact ⟨rfl, rfl⟩
  · rename_i hk
    rcases tv_k2 hv hk with rfl | ⟨b, rfl⟩
    · cases ty <;> first | (cases g; done) | exact ⟨rfl, rfl⟩
    · cases ty <;> first | (cases g; done) | exact ⟨rfl, rfl⟩
  · cases g
/-- an object's name as it is once t stands at j -/
def tc_onm (X : tc_X) (a j : Nat) (t : tv_V) (q : Nat) : Option tl_F :=
  match (if q / 2 = j then some t else tc_fd X a (q / 2)) with
  | some (s, f, b) => if q % 2 = 0 then (if s = 0 then some f else none) else (if s = 2 then tc_lnf X b else none)
  | none => none
def tc_obf1 (X : tc_X) (a j : Nat) (t : tv_V) : List (Nat × Int) → Option tl_F
  | [] => some ([], 0)
  | (q, c) :: r => match tc_onm X a j t q, tc_obf1 X a j t r with
    | some f, some g => some (tl_app (tl_sc c f) g)
    | _, _ => none
def tc_obs (X : tc_X) (h : tc_h) (a j : Nat) (t : tv_V) : Nat → List tl_F → Bool
  | _, [] => true
  | k, f :: r => (match tc_obf1 X a j t f.1 with
    | some g => tl_pr X.1 (tl_ad g f.2) (tc_cf h k)
    | none => false) && tc_obs X h a j t (k + 1) r
theorem tc_onm_s (hx : tc_x Γ RO κ M sz V A X) {a j ci : Nat} {t : tv_V} {v : Value} {vs : List Value} (hM : M (A a) = some (.inr (ci, vs))) (hj : j < vs.length) (hv : tv_is V A t v) {M' : am_H} (hl : ∀ b n, tk_len M RO b n → tk_len M' RO b n) {W : Nat → Int} (hW : tk_nm M' RO (vs.set j v) W) {q : Nat} {f : tl_F} (g : tc_onm X a j t q = some f) : W q = tl_v V f := by
  unfold tc_onm at g
  split at g
  · rename_i s f' b hq
    have key : ∃ w, (vs.set j v)[q / 2]? = some w ∧ tv_is V A (s, f', b) w := by
      split at hq
      · rename_i e
        cases hq
        exact ⟨v, by rw [e, List.getElem?_set_self hj], hv⟩
      · rename_i e
        obtain ⟨ci', vs', w, q1, q2, q3⟩ := tc_fd_s hx hq
        have q1 : M (A a) = _ := q1
        rw [hM] at q1
        cases q1
        exact ⟨w, by rw [List.getElem?_set_ne (fun q => e q.symm)]; exact q2, q3⟩
    obtain ⟨w, k1, k2⟩ := key
    split at g
    · rename_i e0
      split at g
      · rename_i e1
        subst e1
        cases g
        obtain ⟨x, rfl, hx2⟩ := k2
        have := (hW (q / 2)).1 x k1
        rw [show 2 * (q / 2) = q by omega] at this
        exact this.trans hx2
      · cases g
    · rename_i e0
      split at g
      · rename_i e1
        subst e1
        have k2 : w = .ref (A b) := k2
        subst k2
        obtain ⟨n, n1, n2⟩ := tc_lnf_s hx g
        have := (hW (q / 2)).2 (A b) n k1 (hl _ _ n1)
        rw [show 2 * (q / 2) + 1 = q by omega] at this
        exact this.trans n2.symm
      · cases g
  · cases g
theorem tc_obf1_s (hx : tc_x Γ RO κ M sz V A X) {a j ci : Nat} {t : tv_V} {v : Value} {vs : List Value} (hM : M (A a) = some (.inr (ci, vs))) (hj : j < vs.length) (hv : tv_is V A t v) {M' : am_H} (hl : ∀ b n, tk_len M RO b n → tk_len M' RO b n) {W : Nat → Int} (hW : tk_nm M' RO (vs.set j v) W) : ∀ {l : List (Nat × Int)} {f : tl_F}, tc_obf1 X a j t l = some f → tl_s W l = tl_v V f
  | [], f, g => by
    cases g
    rfl
  | (q, c) :: r, f, g => by
    unfold tc_obf1 at g
    split at g
    · rename_i f1 f2 h1 h2
      cases g
      show c * W q + tl_s W r = _
      rw [tl_app_s, tl_sc_s, tc_onm_s hx hM hj hv hl hW h1, tc_obf1_s hx hM hj hv hl hW h2]
    · cases g
theorem tc_obs_s (hx : tc_x Γ RO κ M sz V A X) {h : tc_h} {a j ci : Nat} {t : tv_V} {v : Value} {vs : List Value} (hM : M (A a) = some (.inr (ci, vs))) (hj : j < vs.length) (hv : tv_is V A t v) {M' : am_H} (hl : ∀ b n, tk_len M RO b n → tk_len M' RO b n) {W : Nat → Int} (hW : tk_nm M' RO (vs.set j v) W) : ∀ {k : Nat} {O : List tl_F}, tc_obs X h a j t k O = true → ∀ f ∈ O, 0 ≤ tl_v W f
  | k, [], _, f, hf => by cases hf
  | k, f1 :: r, g, f, hf => by
    obtain ⟨g1, g2⟩ := tc_and (show ((match tc_obf1 X a j t f1.1 with
      | some g => tl_pr X.1 (tl_ad g f1.2) (tc_cf h k)
      | none => false) && tc_obs X h a j t (k + 1) r) = true from g)
    rcases List.mem_cons.mp hf with rfl | hf
    · split at g1
      · rename_i g' hg
        have e := tc_obf1_s hx hM hj hv hl hW hg
        have g1 := tl_pr_s hx.1 g1
        rw [tl_ad_s, ← e] at g1
        exact g1
      · cases g1
    · exact tc_obs_s hx hM hj hv hl hW g2 f hf
theorem tk_fr_t {W : tc_W} {k : Nat} {a b c : Option am_E} (h1 : tk_fr W k a b) (h2 : tk_fr W k b c) : tk_fr W k a c := by
  refine ⟨fun ci vs e => ?_, fun t x e => ?_, fun e => h2.2.2 (h1.2.2 e)⟩
  · obtain ⟨vs1, e1, e2⟩ := h1.1 ci vs e
    obtain ⟨vs2, e3, e4⟩ := h2.1 ci vs1 e1
    exact ⟨vs2, e3, fun j hj => (e4 j hj).trans (e2 j hj)⟩
  · obtain ⟨x1, e1, e2, e5⟩ := h1.2.1 t x e
    obtain ⟨x2, e3, e4, e6⟩ := h2.2.1 t x1 e1
    exact ⟨x2, e3, e4.trans e2, fun q => (e6 q).trans (e5 q)⟩
theorem tc_rel_set {W : tc_W} {n0 m0 : Nat} {F : List Nat} {E : tc_E} (hr : tc_rel W n0 m0 F E V A κ M sz sl) {a k : Nat} {e : am_E} (hκ : κ a = some k) (hfr : tk_fr W k (M a) (some e)) : tc_rel W n0 m0 F E V A κ (am_set M a e) sz sl := by
  obtain ⟨h1, h2, h3, h4, h5, h6, h7⟩ := hr
  refine ⟨h1, h2, h3, fun b k1 hb => ?_, fun b hb hn hF => ?_, h6, h7⟩
  · by_cases q : b = a
    · subst q
      have e1 := h3 b k1 hb
      rw [hκ] at e1
      cases e1
      rw [am_same]
      exact tk_fr_t (h4 b k hb) hfr
    · rw [am_ne q]
      exact h4 b k1 hb
  · obtain ⟨q1, q2⟩ := h5 b hb hn hF
    have q : b ≠ a := fun q => by
      subst q
      rw [hκ] at q1
      cases q1
    exact ⟨q1, (am_ne q).trans q2⟩
theorem tc_rel_setf {W : tc_W} {n0 m0 : Nat} {F : List Nat} {E : tc_E} (hr : tc_rel W n0 m0 F E V A κ M sz sl) {a : Nat} {e : am_E} (hκ : κ a = none) (ho : a ∈ F.map E.2.1 ∨ E.2.2.2.2.1 ≤ a) : tc_rel W n0 m0 F E V A κ (am_set M a e) sz sl := by
  obtain ⟨h1, h2, h3, h4, h5, h6, h7⟩ := hr
  refine ⟨h1, h2, h3, fun b k1 hb => ?_, fun b hb hn hF => ?_, h6, h7⟩
  · have e1 := h3 b k1 hb
    have q : b ≠ a := fun q => by
      subst q
      rw [hκ] at e1
      cases e1
    rw [am_ne q]
    exact h4 b k1 hb
  · obtain ⟨q1, q2⟩ := h5 b hb hn hF
    have q : b ≠ a := fun q => by
      subst q
      rcases ho with ho | ho
      · exact hF ho
      · omega
    exact ⟨q1, (am_ne q).trans q2⟩
/-- fields that stay known when field j of a cell of kind k is written -/
def tc_kp (X : tc_X) (k j : Nat) (p : Nat × Nat × tv_V) : Bool := !(p.2.1 == j) || (match tc_kd X p.1 with
  | some q => !(q == k)
  | none => false)
/-- atoms behind the put of t at field j of a -/
def tc_cvf (X : tc_X) (a j : Nat) (t : tv_V) : List tg_P := match t.1 with
  | 0 => tg_cv 2 [a] [tl_c (j : Int), t.2.1] X.2.2.2.2.2.2
  | 2 => tg_cv 3 [a, t.2.2] [tl_c (j : Int)] X.2.2.2.2.2.2
  | 3 => tg_cv 5 [a] [tl_c (j : Int)] X.2.2.2.2.2.2
  | _ => []
def tc_xpf (fp : Nat → List (Nat × Nat)) (X : tc_X) (a k j : Nat) (t : tv_V) : tc_X := (X.1, X.2.1, X.2.2.1, (a, j, t) :: X.2.2.2.1.filter (tc_kp X k j), X.2.2.2.2.1, X.2.2.2.2.2.1, tc_cvf X a j t ++ X.2.2.2.2.2.2.filter (tg_ke fp k j))
theorem tc_cvf_s (hx : tc_x Γ RO κ M sz V A X) {a j ci : Nat} {t : tv_V} {v : Value} {vs : List Value} (hM : M (A a) = some (.inr (ci, vs))) (hv : tv_is V A t v) : ∀ q ∈ tc_cvf X a j t, tc_xq Γ RO κ (am_set M (A a) (.inr (ci, vs.set j v))) V A q := by
  have h8 := hx.2.2.2.2.2.2.2
  obtain ⟨s, f, b⟩ := t
  intro q hq
  match s, hv, hq with
  | 0, ⟨x, hx1, hx2⟩, hq =>
    subst hx1
    exact tg_cv_2 h8 hM hx2 q hq
  | 2, hv, hq =>
    rw [show v = .ref (A b) from hv]
    exact tg_cv_3 h8 hM q hq
  | 3, hv, hq =>
    rw [show v = .null from hv]
    exact tg_cv_5 h8 hM q hq
  | 1, _, hq => cases hq
  | 4, _, hq => cases hq
  | 5, _, hq => cases hq
  | s + 6, _, hq => cases hq
theorem tc_xpf_s (hΓ : tg_ok Γ) (hx : tc_x Γ RO κ M sz V A X) {a k j ci : Nat} {t : tv_V} {v : Value} {vs : List Value} (hκ : κ (A a) = some k) (hM : M (A a) = some (.inr (ci, vs))) (hj : j < vs.length) (hv : tv_is V A t v) : tc_x Γ RO κ (am_set M (A a) (.inr (ci, vs.set j v))) sz V A (tc_xpf Γ.2 X a k j t) := by
  have hx0 := hx
  obtain ⟨h1, h2, h3, h4, h5, h6, h7, h8⟩ := hx
  refine ⟨h1, h2, fun p hp => ?_, fun p hp => ?_, fun p hp => ?_, fun p hp => ?_, h7, fun p hp => (List.mem_append.mp hp).elim (tc_cvf_s hx0 hM hv p) (fun hp => tg_set_s hΓ hκ (fun F hF => by rw [hM]; exact tg_kp_o hF) (List.mem_filter.mp hp).2 (h8 p (List.mem_filter.mp hp).1))⟩
  · obtain ⟨n, g1, g2⟩ := h3 p hp
    exact ⟨n, tk_len_obj hM _ _ g1, g2⟩
  · rcases List.mem_cons.mp hp with rfl | hp
    · exact ⟨ci, vs.set j v, v, am_same, List.getElem?_set_self hj, hv⟩
    · obtain ⟨p1, p2⟩ := List.mem_filter.mp hp
      obtain ⟨ci', vs', w, g1, g2, g3⟩ := h4 p p1
      by_cases q : A p.1 = A a
      · rw [q, hM] at g1
        cases g1
        have q2 : p.2.1 ≠ j := by
          intro q3
          rcases (Bool.or_eq_true _ _).mp p2 with p2 | p2
          · rw [q3] at p2
            simp at p2
          · split at p2
            · rename_i k' hk
              have e := tc_kd_s hx0 hk
              rw [q, hκ] at e
              cases e
              simp at p2
            · cases p2
        exact ⟨ci, vs.set j v, w, by rw [q]; exact am_same, by rw [List.getElem?_set_ne (fun e => q2 e.symm)]; exact g2, g3⟩
      · exact ⟨ci', vs', w, (am_ne q).trans g1, g2, g3⟩
  · obtain ⟨t1, n, f, i, g1, g2, g3, g4⟩ := h5 p hp
    have q : A p.1 ≠ A a := fun q => by
      rw [q, hM] at g1
      rcases g1 with g1 | ⟨g1, _⟩ <;> cases g1
    exact ⟨t1, n, f, i, by rw [am_ne q]; exact g1, g2, g3, g4⟩
  · obtain ⟨g0, g1, vs', g2, g3⟩ := h6 p hp
    have q : A p.1 ≠ A a := fun q => by
      rw [q, hκ] at g1
      cases g1
    exact ⟨g0, g1, vs', (am_ne q).trans g2, g3⟩
/-- a field of what is being made -/
def tc_xpn (X : tc_X) (a ci : Nat) (vals : List tv_V) : tc_X := (X.1, X.2.1, X.2.2.1, X.2.2.2.1.filter (fun p => (tc_kd X p.1).isSome), X.2.2.2.2.1, X.2.2.2.2.2.1.map (fun p => if p.1 == a then (a, ci, vals) else p), X.2.2.2.2.2.2.filter (fun p => p.1 % 8 == 0))
theorem tc_st_set {V : Nat → Int} {A : Nat → Nat} : ∀ {S : List tv_V} {st : List Value} {j : Nat} {t : tv_V} {v : Value}, tc_st V A S st → tv_is V A t v → tc_st V A (S.set j t) (st.set j v)
  | [], [], j, _, _, _, _ => by
    show tc_st V A [] []
    trivial
  | [], v :: s, _, _, _, g, _ => by cases g
  | t :: r, [], _, _, _, g, _ => by cases g
  | t :: r, v :: s, 0, _, _, g, q => ⟨q, g.2⟩
  | t :: r, v :: s, j + 1, _, _, g, q => ⟨g.1, tc_st_set (j := j) g.2 q⟩
theorem tc_st_ln {V : Nat → Int} {A : Nat → Nat} : ∀ {S : List tv_V} {st : List Value}, tc_st V A S st → st.length = S.length
  | [], [], _ => rfl
  | [], v :: s, g => by cases g
  | t :: r, [], g => by cases g
  | t :: r, v :: s, g => congrArg (· + 1) (tc_st_ln g.2)
theorem tc_dj_ne {A : Nat → Nat} : ∀ {l : List (Nat × Nat × List tv_V)}, tc_dj A l → ∀ p ∈ l, ∀ q ∈ l, p.1 ≠ q.1 → A p.1 ≠ A q.1
  | [], _, p, hp, _, _, _ => by cases hp
  | x :: r, h, p, hp, q, hq, hne => by
    rcases List.mem_cons.mp hp with e1 | hp2
    · rcases List.mem_cons.mp hq with e2 | hq2
      · exact absurd (by rw [e1, e2]) hne
      · rw [e1]
        exact h.1 q hq2
    · rcases List.mem_cons.mp hq with e2 | hq2
      · rw [e2]
        exact fun e => h.1 p hp2 e.symm
      · exact tc_dj_ne h.2 p hp2 q hq2 hne
theorem tc_dj_map {A : Nat → Nat} {g : Nat × Nat × List tv_V → Nat × Nat × List tv_V} (hg : ∀ p, (g p).1 = p.1) : ∀ {l : List (Nat × Nat × List tv_V)}, tc_dj A l → tc_dj A (l.map g)
  | [], _ => trivial
  | x :: r, h => by
    refine ⟨fun q hq => ?_, tc_dj_map hg h.2⟩
    obtain ⟨q', q1, rfl⟩ := List.mem_map.mp hq
    rw [hg, hg]
    exact h.1 q' q1
theorem tc_xpn_s (hΓ : tg_ok Γ) (hx : tc_x Γ RO κ M sz V A X) {a j ci : Nat} {vals : List tv_V} {t : tv_V} {v : Value} {vs : List Value} (hf : tc_frs X a = some (ci, vals)) (hM : M (A a) = some (.inr (ci, vs))) (hst : tc_st V A vals vs) (hv : tv_is V A t v) : tc_x Γ RO κ (am_set M (A a) (.inr (ci, vs.set j v))) sz V A (tc_xpn X a ci (vals.set j t)) := by
  have hx0 := hx
  have hfr := tc_frs_s hx hf
  obtain ⟨h1, h2, h3, h4, h5, h6, h7, h8⟩ := hx
  obtain ⟨f0, f1, -⟩ := hfr
  have f1 : κ (A a) = none := f1
  refine ⟨h1, h2, fun p hp => ?_, fun p hp => ?_, fun p hp => ?_, fun p hp => ?_, tc_dj_map (fun p => ?_) h7, fun p hp => tg_setn_s hΓ f1 (List.mem_filter.mp hp).2 (h8 p (List.mem_filter.mp hp).1)⟩
  · obtain ⟨n, g1, g2⟩ := h3 p hp
    exact ⟨n, tk_len_obj hM _ _ g1, g2⟩
  · obtain ⟨p1, p2⟩ := List.mem_filter.mp hp
    obtain ⟨ci', vs', w, g1, g2, g3⟩ := h4 p p1
    obtain ⟨k, hk⟩ := Option.isSome_iff_exists.mp p2
    have q : A p.1 ≠ A a := fun q => by
      have e := tc_kd_s hx0 hk
      rw [q, f1] at e
      cases e
    exact ⟨ci', vs', w, (am_ne q).trans g1, g2, g3⟩
  · obtain ⟨t1, n, f, i, g1, g2, g3, g4⟩ := h5 p hp
    have q : A p.1 ≠ A a := fun q => by
      rw [q, hM] at g1
      rcases g1 with g1 | ⟨g1, _⟩ <;> cases g1
    exact ⟨t1, n, f, i, by rw [am_ne q]; exact g1, g2, g3, g4⟩
  · obtain ⟨p', p1, rfl⟩ := List.mem_map.mp hp
    by_cases e : p'.1 = a
    · rw [if_pos (by simp [e])]
      exact ⟨f0, f1, vs.set j v, am_same, tc_st_set hst hv⟩
    · rw [if_neg (by simp [e])]
      obtain ⟨g0, g1, vs', g2, g3⟩ := h6 p' p1
      have q : A p'.1 ≠ A a := by
        obtain ⟨pa, pa1, pa2⟩ := Option.map_eq_some_iff.mp hf
        have m1 := List.mem_of_find?_eq_some pa1
        have m2 : pa.1 = a := by simpa using List.find?_some pa1
        rw [← m2]
        exact tc_dj_ne h7 p' p1 pa m1 (by rw [m2]; exact e)
      exact ⟨g0, g1, vs', (am_ne q).trans g2, g3⟩
  · by_cases e : p.1 = a
    · rw [if_pos (by simp [e])]
      exact e.symm
    · rw [if_neg (by simp [e])]
/-- elements that stay known when an array of kind k is written -/
def tc_ke (X : tc_X) (k : Nat) (p : Nat × tl_F × tl_F) : Bool := match tc_kd X p.1 with
  | some q => !(q == k)
  | none => false
def tc_xpe (fp : Nat → List (Nat × Nat)) (X : tc_X) (k : Nat) (es : List (Nat × tl_F × tl_F)) (qs : List tg_P) : tc_X := (X.1, X.2.1, X.2.2.1, X.2.2.2.1, es ++ X.2.2.2.2.1.filter (tc_ke X k), X.2.2.2.2.2.1, qs ++ X.2.2.2.2.2.2.filter (tg_ke fp k 0))
theorem tc_xpe_s (hΓ : tg_ok Γ) (hx : tc_x Γ RO κ M sz V A X) {a k t : Nat} {x x' : vp_A} {es : List (Nat × tl_F × tl_F)} {qs : List tg_P} (hκ : κ (A a) = some k) (hM : M (A a) = some (.inl (t, x))) (hn : x'.1 = x.1) (hes : ∀ p ∈ es, tc_xe RO (am_set M (A a) (.inl (t, x'))) V A p) (hqs : ∀ q ∈ qs, tc_xq Γ RO κ (am_set M (A a) (.inl (t, x'))) V A q) : tc_x Γ RO κ (am_set M (A a) (.inl (t, x'))) sz V A (tc_xpe Γ.2 X k es qs) := by
  have hx0 := hx
  obtain ⟨h1, h2, h3, h4, h5, h6, h7, h8⟩ := hx
  refine ⟨h1, h2, fun p hp => ?_, fun p hp => ?_, fun p hp => ?_, fun p hp => ?_, h7, fun p hp => (List.mem_append.mp hp).elim (hqs p) (fun hp => tg_set_s hΓ hκ (fun F hF => by rw [hM]; exact tg_kp_a hF hn) (List.mem_filter.mp hp).2 (h8 p (List.mem_filter.mp hp).1))⟩
  · obtain ⟨n, g1, g2⟩ := h3 p hp
    exact ⟨n, tk_len_arr hM hn _ _ g1, g2⟩
  · obtain ⟨ci', vs', w, g1, g2, g3⟩ := h4 p hp
    have q : A p.1 ≠ A a := fun q => by
      rw [q, hM] at g1
      cases g1
    exact ⟨ci', vs', w, (am_ne q).trans g1, g2, g3⟩
  · rcases List.mem_append.mp hp with hp | hp
    · exact hes p hp
    · obtain ⟨p1, p2⟩ := List.mem_filter.mp hp
      obtain ⟨t1, n, f, i, g1, g2, g3, g4⟩ := h5 p p1
      have q : A p.1 ≠ A a := fun q => by
        unfold tc_ke at p2
        split at p2
        · rename_i k' hk
          have e := tc_kd_s hx0 hk
          rw [q, hκ] at e
          cases e
          simp at p2
        · cases p2
      exact ⟨t1, n, f, i, by rw [am_ne q]; exact g1, g2, g3, g4⟩
  · obtain ⟨g0, g1, vs', g2, g3⟩ := h6 p hp
    have q : A p.1 ≠ A a := fun q => by
      rw [q, hκ] at g1
      cases g1
    exact ⟨g0, g1, vs', (am_ne q).trans g2, g3⟩
/-- an element's bounds hold of a value: certificates k, k + 1 -/
def tc_ebk (X : tc_X) (E : List tk_E) (h : tc_h) (k : Nat) (I v : tl_F) : Bool := E.isEmpty || (match E[(tc_hi h 0).toNat]? with
  | some e => decide ((tc_hi h 0).toNat < E.length) && (tl_eq I (tl_ad (tl_sc (E.length : Int) (tc_hf h 0)) ((tc_hi h 0).toNat : Int)) && (tl_pr X.1 (tl_sub (tl_ad v (-e.1)) (tl_sc e.2.1 (tc_hf h 0))) (tc_cf h k) && tl_pr X.1 (tl_sub (tl_app (tl_c e.2.2.1) (tl_sc e.2.2.2 (tc_hf h 0))) v) (tc_cf h (k + 1))))
  | none => false)
theorem tc_ebk_s (hx : tc_x Γ RO κ M sz V A X) {E : List tk_E} {h : tc_h} {k : Nat} {I v : tl_F} (g : tc_ebk X E h k I v = true) {j : Nat} (hj : tl_v V I = (j : Int)) : tk_eb E j (tl_v V v) := by
  intro e he
  rcases (Bool.or_eq_true _ _).mp g with g | g
  · have : E = [] := by simpa using g
    rw [this] at he
    simp at he
  · split at g
    · rename_i e' he'
      obtain ⟨g1, g⟩ := tc_and g
      obtain ⟨g2, g⟩ := tc_and g
      obtain ⟨g3, g4⟩ := tc_and g
      have g1 := of_decide_eq_true g1
      have e1 := tl_eq_s (V := V) g2
      rw [tl_ad_s, tl_sc_s, hj] at e1
      obtain ⟨e2, e3⟩ := tc_ebf_q g1 e1
      rw [e2, he'] at he
      cases he
      have g3 := tl_pr_s hx.1 g3
      have g4 := tl_pr_s hx.1 g4
      rw [tl_sub_s, tl_ad_s, tl_sc_s] at g3
      rw [tl_sub_s, tl_app_s, tl_c_s, tl_sc_s] at g4
      rw [e3]
      omega
    · cases g
end TCW
