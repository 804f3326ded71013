/-! TC: an int on the stack told by another form -/
def tc_rl (X : List tl_F) (f : tl_F) (h : tc_h) : Nat → List tv_V → Option (List tv_V)
  | 0, t :: r => if t.1 = 0 then if (tl_pr X (tl_app f (tl_neg t.2.1)) (tc_cf h 0) && tl_pr X (tl_app t.2.1 (tl_neg f)) (tc_cf h 1)) = true then some ((0, f, 0) :: r) else none else none
  | d + 1, t :: r => (tc_rl X f h d r).map (fun r => t :: r)
  | _, _ => none
theorem tc_rl_s {V : Nat → Int} {A : Nat → Nat} {X : List tl_F} {f : tl_F} {h : tc_h} (hX : ∀ e ∈ X, 0 ≤ tl_v V e) : ∀ {d : Nat} {S S' : List tv_V} {st : List Value}, tc_rl X f h d S = some S' → tc_st V A S st → tc_st V A S' st
  | 0, [], S', st, g, _ => by cases g
  | d + 1, [], S', st, g, _ => by cases g
  | 0, t :: r, S', [], g, hs => hs.elim
  | 0, t :: r, S', v :: st, g, hs => by
    unfold tc_rl at g
    split at g
    · rename_i e0
      split at g
      · rename_i e
        cases g
        obtain ⟨e1, e2⟩ := tc_and e
        have p1 := tl_pr_s hX e1
        have p2 := tl_pr_s hX e2
        rw [tl_app_s, tl_neg_s] at p1 p2
        obtain ⟨hv, hs2⟩ := hs
        unfold tv_is at hv
        rw [e0] at hv
        obtain ⟨y, y1, y2⟩ := hv
        exact ⟨⟨y, y1, by rw [y2]; show tl_v V t.2.1 = tl_v V f; omega⟩, hs2⟩
      · cases g
    · cases g
  | d + 1, t :: r, S', [], g, hs => hs.elim
  | d + 1, t :: r, S', v :: st, g, hs => by
    obtain ⟨r', h1, h2⟩ := Option.map_eq_some_iff.mp (show (tc_rl X f h d r).map (fun r => t :: r) = some S' from g)
    cases h2
    exact ⟨hs.1, tc_rl_s hX h1 hs.2⟩
/-- hint: ints: how deep; forms: the form; certificates: not below, not above -/
def tc_rtl (h : tc_h) (G : tc_G) : Option (List tc_G) := match G with
  | (nm, X, pc, L, S, q) => (tc_rl X.1 (tc_hf h 0) h (tc_hi h 0).toNat S).map (fun S' => [(nm, X, pc, L, S', q)])
theorem tc_rtl_s {D : tc_D} {h : tc_h} {G : tc_G} {Gs : List tc_G} (g : tc_rtl h G = some Gs) (hG : ∀ G' ∈ Gs, tc_Ok D G') : tc_Ok D G := by
  obtain ⟨nm, X, pc, L, S, zq, lq⟩ := G
  intro V A κ M sz sl lv st hr hH hz hx hl hs hq
  obtain ⟨S', h1, h2⟩ := Option.map_eq_some_iff.mp (show (tc_rl X.1 (tc_hf h 0) h (tc_hi h 0).toNat S).map (fun S' => [(nm, X, pc, L, S', (zq, lq))]) = some Gs from g)
  cases h2
  exact hG _ List.mem_cons_self V A κ M sz sl lv st hr hH hz hx hl (tc_rl_s hx.1 h1 hs) hq
/-- a local told by another form. hint: ints: which; forms: the form; certificates: not below, not above -/
def tc_rll (h : tc_h) (G : tc_G) : Option (List tc_G) := match G with
  | (nm, X, pc, L, q) => match tc_ld (tc_hi h 0).toNat L with
    | some t => if t.1 = 0 then if (tl_pr X.1 (tl_app (tc_hf h 0) (tl_neg t.2.1)) (tc_cf h 0) && tl_pr X.1 (tl_app t.2.1 (tl_neg (tc_hf h 0))) (tc_cf h 1)) = true then some [(nm, X, pc, ((tc_hi h 0).toNat, (0, tc_hf h 0, 0)) :: L, q)] else none else none
    | none => none
theorem tc_rll_s {D : tc_D} {h : tc_h} {G : tc_G} {Gs : List tc_G} (g : tc_rll h G = some Gs) (hG : ∀ G' ∈ Gs, tc_Ok D G') : tc_Ok D G := by
  obtain ⟨nm, X, pc, L, S, zq, lq⟩ := G
  intro V A κ M sz sl lv st hr hH hz hx hl hs hq
  unfold tc_rll at g
  dsimp only at g
  split at g
  · rename_i t ht
    split at g
    · rename_i e0
      split at g
      · rename_i e
        cases g
        obtain ⟨e1, e2⟩ := tc_and e
        have p1 := tl_pr_s hx.1 e1
        have p2 := tl_pr_s hx.1 e2
        rw [tl_app_s, tl_neg_s] at p1 p2
        refine hG _ List.mem_cons_self V A κ M sz sl lv st hr hH hz hx (fun p hp => ?_) hs hq
        rcases List.mem_cons.mp hp with rfl | hp
        · obtain ⟨v, v1, v2⟩ := hl _ (tc_ld_m ht)
          refine ⟨v, v1, ?_⟩
          unfold tv_is at v2
          dsimp only at v2
          rw [e0] at v2
          obtain ⟨y, y1, y2⟩ := v2
          exact ⟨y, y1, by rw [y2]; show tl_v V t.2.1 = tl_v V (tc_hf h 0); omega⟩
        · exact hl p hp
      · cases g
    · cases g
  · cases g
