/-! TC: what is known at a place, configurations, what they mean -/
/-- facts; kinds of addresses; lengths; fields; elements of ints; objects that are being made (class, fields); atoms -/
abbrev tc_X : Type := List tl_F × List (Nat × Nat) × List (Nat × tl_F) × List (Nat × Nat × tv_V) × List (Nat × tl_F × tl_F) × List (Nat × Nat × List tv_V) × List tg_P
def tc_xe (RO : am_O) (M : am_H) (V : Nat → Int) (A : Nat → Nat) (p : Nat × tl_F × tl_F) : Prop := ∃ (t n : Nat) (f : Nat → Int32) (j : Nat), (M (A p.1) = some (.inl (t, n, .inl f)) ∨ (M (A p.1) = none ∧ RO (A p.1) = some (n, f))) ∧ tl_v V p.2.1 = (j : Int) ∧ j < n ∧ (f j).toInt = tl_v V p.2.2
def tc_xf (M : am_H) (V : Nat → Int) (A : Nat → Nat) (p : Nat × Nat × tv_V) : Prop := ∃ ci vs v, M (A p.1) = some (.inr (ci, vs)) ∧ vs[p.2.1]? = some v ∧ tv_is V A p.2.2 v
def tc_xl (RO : am_O) (M : am_H) (V : Nat → Int) (A : Nat → Nat) (p : Nat × tl_F) : Prop := ∃ n : Nat, tk_len M RO (A p.1) n ∧ tl_v V p.2 = (n : Int)
def tc_xn (κ : Nat → Option Nat) (M : am_H) (sz : Nat) (V : Nat → Int) (A : Nat → Nat) (p : Nat × Nat × List tv_V) : Prop := A p.1 < sz ∧ κ (A p.1) = none ∧ ∃ vs, M (A p.1) = some (.inr (p.2.1, vs)) ∧ tc_st V A p.2.2 vs
def tc_dj (A : Nat → Nat) : List (Nat × Nat × List tv_V) → Prop
  | [] => True
  | p :: r => (∀ q ∈ r, A p.1 ≠ A q.1) ∧ tc_dj A r
def tc_x (Γ : tg_G) (RO : am_O) (κ : Nat → Option Nat) (M : am_H) (sz : Nat) (V : Nat → Int) (A : Nat → Nat) (X : tc_X) : Prop :=
  (∀ f ∈ X.1, 0 ≤ tl_v V f) ∧ (∀ p ∈ X.2.1, κ (A p.1) = some p.2) ∧ (∀ p ∈ X.2.2.1, tc_xl RO M V A p) ∧ (∀ p ∈ X.2.2.2.1, tc_xf M V A p) ∧ (∀ p ∈ X.2.2.2.2.1, tc_xe RO M V A p) ∧ (∀ p ∈ X.2.2.2.2.2.1, tc_xn κ M sz V A p) ∧ tc_dj A X.2.2.2.2.2.1 ∧ ∀ p ∈ X.2.2.2.2.2.2, tc_xq Γ RO κ M V A p
/-- counters of names; what is known; place, locals, stack; room: cells and elements more than at the entry -/
abbrev tc_G : Type := (Nat × Nat) × tc_X × Nat × tc_L × List tv_V × tl_F × tl_F
def tc_wx (n m : Nat) (X : tc_X) : Bool := X.1.all (tl_lt n) && (X.2.1.all (fun p => decide (p.1 < m)) && (X.2.2.1.all (fun p => decide (p.1 < m) && tl_lt n p.2) && (X.2.2.2.1.all (fun p => decide (p.1 < m) && tv_lt n m p.2.2) && (X.2.2.2.2.1.all (fun p => decide (p.1 < m) && (tl_lt n p.2.1 && tl_lt n p.2.2)) && (X.2.2.2.2.2.1.all (fun p => decide (p.1 < m) && p.2.2.all (tv_lt n m)) && X.2.2.2.2.2.2.all (tg_lt n m))))))
def tc_wf (n0 m0 : Nat) (G : tc_G) : Bool := decide (n0 ≤ G.1.1) && (decide (m0 ≤ G.1.2) && (tc_wx G.1.1 G.1.2 G.2.1 && (G.2.2.2.1.all (fun p => tv_lt G.1.1 G.1.2 p.2) && (G.2.2.2.2.1.all (tv_lt G.1.1 G.1.2) && (tl_lt G.1.1 G.2.2.2.2.2.1 && tl_lt G.1.1 G.2.2.2.2.2.2)))))
theorem tc_al {α : Type} {p : α → Bool} {l : List α} (h : l.all p = true) : ∀ x ∈ l, p x = true := List.all_eq_true.mp h
theorem tc_and {a b : Bool} (h : (a && b) = true) : a = true ∧ b = true := (Bool.and_eq_true _ _).mp h
theorem tc_x_lt {Γ : tg_G} {RO : am_O} {κ : Nat → Option Nat} {M : am_H} {sz : Nat} {V V' : Nat → Int} {A A' : Nat → Nat} {n m : Nat} (hV : ∀ k, k < n → V k = V' k) (hA : ∀ k, k < m → A k = A' k) {X : tc_X} (hw : tc_wx n m X = true) (h : tc_x Γ RO κ M sz V A X) : tc_x Γ RO κ M sz V' A' X := by
  obtain ⟨w1, w⟩ := tc_and hw
  obtain ⟨w2, w⟩ := tc_and w
  obtain ⟨w3, w⟩ := tc_and w
  obtain ⟨w4, w⟩ := tc_and w
  obtain ⟨w5, w⟩ := tc_and w
  obtain ⟨w6, w7⟩ := tc_and w
  obtain ⟨h1, h2, h3, h4, h5, h6, h7, h8⟩ := h
  refine ⟨fun f hf => ?_, fun p hp => ?_, fun p hp => ?_, fun p hp => ?_, fun p hp => ?_, fun p hp => ?_, ?_, fun p hp => tg_lt_s hV hA (tc_al w7 p hp) (h8 p hp)⟩
  · rw [← tl_v_lt hV (tc_al w1 f hf)]
    exact h1 f hf
  · rw [← hA _ (of_decide_eq_true (tc_al w2 p hp))]
    exact h2 p hp
  · obtain ⟨q1, q2⟩ := tc_and (tc_al w3 p hp)
    obtain ⟨k, g1, g2⟩ := h3 p hp
    exact ⟨k, by rw [← hA _ (of_decide_eq_true q1)]; exact g1, by rw [← tl_v_lt hV q2]; exact g2⟩
  · obtain ⟨q1, q2⟩ := tc_and (tc_al w4 p hp)
    obtain ⟨ci, vs, v, g1, g2, g3⟩ := h4 p hp
    exact ⟨ci, vs, v, by rw [← hA _ (of_decide_eq_true q1)]; exact g1, g2, tv_lt_s hV hA q2 g3⟩
  · obtain ⟨q1, q2⟩ := tc_and (tc_al w5 p hp)
    obtain ⟨q2, q3⟩ := tc_and q2
    obtain ⟨t, k, f, j, g1, g2, g3, g4⟩ := h5 p hp
    refine ⟨t, k, f, j, by rw [← hA _ (of_decide_eq_true q1)]; exact g1, by rw [← tl_v_lt hV q2]; exact g2, g3, by rw [← tl_v_lt hV q3]; exact g4⟩
  · obtain ⟨q1, q2⟩ := tc_and (tc_al w6 p hp)
    obtain ⟨g0, g1, vs, g2, g3⟩ := h6 p hp
    have e := hA _ (of_decide_eq_true q1)
    exact ⟨by rw [← e]; exact g0, by rw [← e]; exact g1, vs, by rw [← e]; exact g2, tc_st_lt hV hA q2 g3⟩
  · have e : ∀ l : List (Nat × Nat × List tv_V), l.all (fun p => decide (p.1 < m) && p.2.2.all (tv_lt n m)) = true → tc_dj A l → tc_dj A' l := by
      intro l
      induction l with
      | nil => exact fun _ _ => trivial
      | cons p r ih =>
        intro hl hd
        obtain ⟨q1, q2⟩ := tc_and (show ((decide (p.1 < m) && p.2.2.all (tv_lt n m)) && r.all (fun p => decide (p.1 < m) && p.2.2.all (tv_lt n m))) = true from hl)
        refine ⟨fun q hq => ?_, ih q2 hd.2⟩
        rw [← hA _ (of_decide_eq_true (tc_and q1).1), ← hA _ (of_decide_eq_true (tc_and (tc_al q2 q hq)).1)]
        exact hd.1 q hq
    exact e _ w6 h7
/-- what a method may write: (kind, field), of arrays (kind, 0) -/
abbrev tc_W : Type := List (Nat × Nat)
/-- what stays of a cell that was there -/
def tk_fr (W : tc_W) (k : Nat) (c c' : Option am_E) : Prop := (∀ ci vs, c = some (.inr (ci, vs)) → ∃ vs', c' = some (.inr (ci, vs')) ∧ ∀ j, (k, j) ∉ W → vs'[j]? = vs[j]?) ∧ (∀ t x, c = some (.inl (t, x)) → ∃ x' : vp_A, c' = some (.inl (t, x')) ∧ x'.1 = x.1 ∧ ((k, 0) ∉ W → x' = x)) ∧ (c = none → c' = none)
theorem tk_fr_refl (W : tc_W) (k : Nat) (c : Option am_E) : tk_fr W k c c := ⟨fun ci vs h => ⟨vs, h, fun _ _ => rfl⟩, fun t x h => ⟨x, h, rfl, fun _ => rfl⟩, fun h => h⟩
/-- what a run keeps of its entry -/
abbrev tc_E : Type := (Nat → Int) × (Nat → Nat) × (Nat → Option Nat) × am_H × Nat × Nat
def tc_rel (W : tc_W) (n0 m0 : Nat) (F : List Nat) (E : tc_E) (V : Nat → Int) (A : Nat → Nat) (κ : Nat → Option Nat) (M : am_H) (sz sl : Nat) : Prop :=
  (∀ k, k < n0 → E.1 k = V k) ∧ (∀ k, k < m0 → E.2.1 k = A k) ∧ (∀ a k, E.2.2.1 a = some k → κ a = some k) ∧ (∀ a k, E.2.2.1 a = some k → tk_fr W k (E.2.2.2.1 a) (M a)) ∧ (∀ a, a < E.2.2.2.2.1 → E.2.2.1 a = none → a ∉ F.map E.2.1 → κ a = none ∧ M a = E.2.2.2.1 a) ∧ E.2.2.2.2.1 ≤ sz ∧ E.2.2.2.2.2 ≤ sl ∧ ∀ a k, κ a = some k → E.2.2.1 a = none → (k, 1000) ∈ W
/-- room; what is being made is the run's own -/
def tc_rm (F : List Nat) (E : tc_E) (V : Nat → Int) (A : Nat → Nat) (zq lq : tl_F) (fr : List (Nat × Nat × List tv_V)) (sz sl : Nat) : Prop :=
  (sz : Int) ≤ (E.2.2.2.2.1 : Int) + tl_v V zq ∧ (sl : Int) ≤ (E.2.2.2.2.2 : Int) + tl_v V lq ∧ ∀ p ∈ fr, A p.1 ∈ F.map E.2.1 ∨ E.2.2.2.2.1 ≤ A p.1
theorem tc_rm_lt {F : List Nat} {E : tc_E} {V V' : Nat → Int} {A A' : Nat → Nat} {n m : Nat} (hV : ∀ k, k < n → V k = V' k) (hA : ∀ k, k < m → A k = A' k) {zq lq : tl_F} {fr : List (Nat × Nat × List tv_V)} {sz sl : Nat} (h1 : tl_lt n zq = true) (h2 : tl_lt n lq = true) (h3 : fr.all (fun p => decide (p.1 < m) && p.2.2.all (tv_lt n m)) = true) (h : tc_rm F E V A zq lq fr sz sl) : tc_rm F E V' A' zq lq fr sz sl := by
  obtain ⟨g1, g2, g3⟩ := h
  refine ⟨by rw [← tl_v_lt hV h1]; exact g1, by rw [← tl_v_lt hV h2]; exact g2, fun p hp => ?_⟩
  rw [← hA _ (of_decide_eq_true (tc_and (tc_al h3 p hp)).1)]
  exact g3 p hp
theorem tc_wx6 {n m : Nat} {X : tc_X} (h : tc_wx n m X = true) : X.2.2.2.2.2.1.all (fun p => decide (p.1 < m) && p.2.2.all (tv_lt n m)) = true := by
  obtain ⟨w1, w⟩ := tc_and h
  obtain ⟨w2, w⟩ := tc_and w
  obtain ⟨w3, w⟩ := tc_and w
  obtain ⟨w4, w⟩ := tc_and w
  obtain ⟨w5, w⟩ := tc_and w
  exact (tc_and w).1
/-- from here all is well -/
abbrev tc_D : Type := am_P × am_O × (tk_T × tg_G) × Nat × tc_W × Nat × Nat × List Nat × tc_E × am_Q
def tc_Ok (D : tc_D) (G : tc_G) : Prop := ∀ (V : Nat → Int) (A : Nat → Nat) (κ : Nat → Option Nat) (M : am_H) (sz sl : Nat) (lv : am_L) (st : List Value),
  tc_rel D.2.2.2.2.1 D.2.2.2.2.2.1 D.2.2.2.2.2.2.1 D.2.2.2.2.2.2.2.1 D.2.2.2.2.2.2.2.2.1 V A κ M sz sl → tk_H D.2.2.1.1 D.2.1 κ M sz → (∀ a, sz ≤ a → κ a = none) → tc_x D.2.2.1.2 D.2.1 κ M sz V A G.2.1 → tc_lv V A G.2.2.2.1 lv → tc_st V A G.2.2.2.2.1 st →
  tc_rm D.2.2.2.2.2.2.2.1 D.2.2.2.2.2.2.2.2.1 V A G.2.2.2.2.2.1 G.2.2.2.2.2.2 G.2.1.2.2.2.2.2.1 sz sl →
  ∃ k, am_W D.1 D.2.1 k D.2.2.2.1 G.2.2.1 lv st M sz sl D.2.2.2.2.2.2.2.2.2
theorem tc_rel_V {W : tc_W} {n0 m0 n : Nat} {F : List Nat} {E : tc_E} {V V' : Nat → Int} {A : Nat → Nat} {κ : Nat → Option Nat} {M : am_H} {sz sl : Nat} (h : tc_rel W n0 m0 F E V A κ M sz sl) (hn : n0 ≤ n) (hV : ∀ k, k < n → V k = V' k) : tc_rel W n0 m0 F E V' A κ M sz sl := by
  obtain ⟨h1, h2, h3, h4, h5, h6, h7⟩ := h
  exact ⟨fun k hk => (h1 k hk).trans (hV k (by omega)), h2, h3, h4, h5, h6, h7⟩
theorem tc_rel_A {W : tc_W} {n0 m0 m : Nat} {F : List Nat} {E : tc_E} {V : Nat → Int} {A A' : Nat → Nat} {κ : Nat → Option Nat} {M : am_H} {sz sl : Nat} (h : tc_rel W n0 m0 F E V A κ M sz sl) (hn : m0 ≤ m) (hA : ∀ k, k < m → A k = A' k) : tc_rel W n0 m0 F E V A' κ M sz sl := by
  obtain ⟨h1, h2, h3, h4, h5, h6, h7⟩ := h
  exact ⟨h1, fun k hk => (h2 k hk).trans (hA k (by omega)), h3, h4, h5, h6, h7⟩
def tc_xa (X : tc_X) (es : List tl_F) : tc_X := (X.1 ++ es, X.2)
theorem tc_xa_s {Γ : tg_G} {RO : am_O} {κ : Nat → Option Nat} {M : am_H} {sz : Nat} {V : Nat → Int} {A : Nat → Nat} {X : tc_X} {es : List tl_F} (h : tc_x Γ RO κ M sz V A X) (he : ∀ f ∈ es, 0 ≤ tl_v V f) : tc_x Γ RO κ M sz V A (tc_xa X es) := by
  obtain ⟨h1, h2⟩ := h
  refine ⟨fun f hf => ?_, h2⟩
  rcases List.mem_append.mp hf with hf | hf
  · exact h1 f hf
  · exact he f hf
/-- the instructions that leave the heap alone -/
def tc_on1 (cst : Nat → Option Value) (nl : Nat) (n0 m0 : Nat) (i : Instr) (len : Nat) (h : tc_h) (G : tc_G) : Option (List tc_G) := match G with
  | ((n, m), X, pc, L, S, zq, lq) => match tc_push cst i L with
    | some (l0, v) => if l0 = len then some [((n, m), X, pc + len, L, v :: S, zq, lq)] else none
    | none => match tc_op i X.1 h n S with
      | some (S', es, d) => if len = 1 ∧ d ≤ 1 ∧ tc_wf n0 m0 G = true then some [((n + d, m), tc_xa X es, pc + 1, L, S', zq, lq)] else none
      | none => match tc_sto i X.1 h n L S with
        | some (l0, k, L', S', es, d) => if (k ≤ nl ∧ (len = l0 ∨ (l0 = 3 ∧ len = 6))) ∧ d ≤ 1 ∧ tc_wf n0 m0 G = true then some [((n + d, m), tc_xa X es, pc + len, L', S', zq, lq)] else none
        | none => (tc_br i len pc X.1 h S).map (fun bs => bs.map (fun b => ((n, m), tc_xa X b.2.2, b.1, L, b.2.1, zq, lq)))
set_option maxHeartbeats 2000000 in
theorem tc_on1_s {D : tc_D} {mt : am_Meth} {i : Instr} {len : Nat} {h : tc_h} {G : tc_G} {Gs : List tc_G} (hm : am_meth D.1 D.2.2.2.1 = some mt) (hd : decode mt.2.1 G.2.2.1 = .ok (i, len)) (g : tc_on1 (am_cst D.1 mt.2.2.2.2.2.2) mt.2.2.1 D.2.2.2.2.2.1 D.2.2.2.2.2.2.1 i len h G = some Gs) (hG : ∀ G' ∈ Gs, tc_Ok D G') : tc_Ok D G := by
  obtain ⟨⟨n, m⟩, X, pc, L, S, zq, lq⟩ := G
  intro V A κ M sz sl lv st hr hH hz hx hl hs hq
  unfold tc_on1 at g
  dsimp only at g
  split at g
  · rename_i _ l0 v hp
    split at g
    · rename_i e
      subst e
      cases g
      obtain ⟨w, e1, e2⟩ := tc_push_s hl hp
      refine am_stepR hm hd (Or.inl ⟨w, e1, ?_⟩)
      exact hG _ List.mem_cons_self V A κ M sz sl lv (w :: st) hr hH hz hx hl ⟨e2, hs⟩ hq
    · cases g
  split at g
  · rename_i _ S' es d hp
    split at g
    · rename_i e
      obtain ⟨rfl, -, hw⟩ := e
      cases g
      obtain ⟨w0, w⟩ := tc_and hw
      obtain ⟨w1, w⟩ := tc_and w
      obtain ⟨w2, w⟩ := tc_and w
      obtain ⟨w3, w⟩ := tc_and w
      obtain ⟨w4, w⟩ := tc_and w
      obtain ⟨w5, w6⟩ := tc_and w
      obtain ⟨V', st', e1, e2, e3, e4, e5⟩ := tc_op_s hx.1 w4 hs hp
      refine am_stepR hm hd (Or.inr (Or.inl ⟨rfl, st', e2, e3, ?_⟩))
      refine hG _ List.mem_cons_self V' A κ M sz sl lv st' (tc_rel_V hr (of_decide_eq_true w0) e1) hH hz (tc_xa_s (tc_x_lt e1 (fun _ _ => rfl) w2 hx) e5) (tc_lv_lt e1 (fun _ _ => rfl) w3 hl) e4 (tc_rm_lt (m := m) (fr := X.2.2.2.2.2.1) e1 (fun _ _ => rfl) w5 w6 (tc_wx6 (n := n) (X := X) w2) hq)
    · cases g
  split at g
  · rename_i _ l0 k L' S' es d hp
    split at g
    · rename_i e
      obtain ⟨e, -, hw⟩ := e
      cases g
      obtain ⟨w0, w⟩ := tc_and hw
      obtain ⟨w1, w⟩ := tc_and w
      obtain ⟨w2, w⟩ := tc_and w
      obtain ⟨w3, w⟩ := tc_and w
      obtain ⟨w4, w⟩ := tc_and w
      obtain ⟨w5, w6⟩ := tc_and w
      obtain ⟨V', lv', st', e1, e2, e3, e4, e5⟩ := tc_sto_s hx.1 w3 w4 hl hs hp
      refine am_stepR hm hd (Or.inr (Or.inr (Or.inl ⟨l0, k, lv', st', e2, e.1, e.2, ?_⟩)))
      refine hG _ List.mem_cons_self V' A κ M sz sl lv' st' (tc_rel_V hr (of_decide_eq_true w0) e1) hH hz (tc_xa_s (tc_x_lt e1 (fun _ _ => rfl) w2 hx) e5) e3 e4 (tc_rm_lt (m := m) (fr := X.2.2.2.2.2.1) e1 (fun _ _ => rfl) w5 w6 (tc_wx6 (n := n) (X := X) w2) hq)
    · cases g
  · obtain ⟨bs, hp, rfl⟩ := Option.map_eq_some_iff.mp g
    refine am_stepR hm hd (Or.inr (Or.inr (Or.inr (Or.inl (tc_br_s hx.1 hs hp (fun b hb hes st' hst' => ?_))))))
    exact hG _ (List.mem_map.mpr ⟨b, hb, rfl⟩) V A κ M sz sl lv st' hr hH hz (tc_xa_s hx hes) hl hst' hq
