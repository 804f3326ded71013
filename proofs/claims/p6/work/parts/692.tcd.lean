/-! TC: what was made gets its kind -/
/-- field types, by certificates from k on, two a field -/
def tc_tys (X : tc_X) (h : tc_h) : Nat → List tk_F → List tv_V → Bool
  | _, [], [] => true
  | k, τ :: r, t :: s => tc_ty X h k τ t && tc_tys X h (k + 2) r s
  | _, _, _ => false
/-- a made object's name by its values -/
def tc_anm (X : tc_X) (vals : List tv_V) (q : Nat) : Option tl_F := match vals[q / 2]? with
  | some (s, f, b) => if q % 2 = 0 then (if s = 0 then some f else none) else (if s = 2 then tc_lnf X b else none)
  | none => none
def tc_anf (X : tc_X) (vals : List tv_V) : List (Nat × Int) → Option tl_F
  | [] => some ([], 0)
  | (q, c) :: r => match tc_anm X vals q, tc_anf X vals r with
    | some f, some g => some (tl_app (tl_sc c f) g)
    | _, _ => none
def tc_ans (X : tc_X) (h : tc_h) (vals : List tv_V) : Nat → List tl_F → Bool
  | _, [] => true
  | k, f :: r => (match tc_anf X vals f.1 with
    | some g => tl_pr X.1 (tl_ad g f.2) (tc_cf h k)
    | none => false) && tc_ans X h vals (k + 1) r
/-- hint: ints: name, kind; certificates: O's from 0 on, then types' -/
def tc_ad (T : tk_T) (fp : Nat → List (Nat × Nat)) (W : tc_W) (h : tc_h) (G : tc_G) : Option (List tc_G) := match G with
  | ((n, m), X, pc, L, S, zq, lq) => match tc_frs X (tc_hi h 0).toNat, T[(tc_hi h 1).toNat]? with
    | some (ci, vals), some (0, ci', fs, _, _, _, O) => if ci' = ci ∧ (W.contains ((tc_hi h 1).toNat, 1000) && (tc_ans X h vals 0 O && tc_tys X h O.length fs vals)) = true then
        some [((n, m), (X.1, X.2.1 ++ [((tc_hi h 0).toNat, (tc_hi h 1).toNat)], X.2.2.1, X.2.2.2.1 ++ (List.range vals.length).filterMap (fun j => (vals[j]?).map (fun t => ((tc_hi h 0).toNat, j, t))), X.2.2.2.2.1, X.2.2.2.2.2.1.filter (fun p => !(p.1 == (tc_hi h 0).toNat)), X.2.2.2.2.2.2.filter (tg_ke fp (tc_hi h 1).toNat 1000) ++ tg_cv7 (tc_hi h 0).toNat (tc_hi h 1).toNat X.2.2.2.2.2.2), pc, L, S, zq, lq)] else none
    | _, _ => none
section TCDD
variable {Γ : tg_G} {RO : am_O} {κ κ' : Nat → Option Nat} {M M' : am_H} {sz sl sz' : Nat} {V : Nat → Int} {A : Nat → Nat} {X : tc_X} {T : tk_T}
theorem tc_tys_s (hx : tc_x Γ RO κ M sz V A X) {h : tc_h} : ∀ {k : Nat} {fs : List tk_F} {vals : List tv_V} {vs : List Value}, tc_tys X h k fs vals = true → tc_st V A vals vs → tk_vs κ fs vs
  | _, [], [], [], _, _ => trivial
  | _, [], [], v :: s, _, g => by cases g
  | _, [], t :: r, _, h, _ => by cases h
  | _, τ :: r, [], _, h, _ => by cases h
  | _, τ :: r, t :: s, [], _, g => by cases g
  | k, τ :: r, t :: s, v :: w, hh, g => by
    obtain ⟨h1, h2⟩ := tc_and (show (tc_ty X h k τ t && tc_tys X h (k + 2) r s) = true from hh)
    exact ⟨tc_ty_s hx h1 g.1, tc_tys_s hx h2 g.2⟩
theorem tc_anm_s (hx : tc_x Γ RO κ M sz V A X) {vals : List tv_V} {vs : List Value} (hst : tc_st V A vals vs) {W : Nat → Int} (hW : tk_nm M RO vs W) {q : Nat} {f : tl_F} (g : tc_anm X vals q = some f) : W q = tl_v V f := by
  unfold tc_anm at g
  split at g
  · rename_i s f' b hb
    obtain ⟨v, v1, v2⟩ := tc_st_at hst hb
    split at g
    · rename_i hq
      split at g
      · rename_i hs
        cases g
        subst hs
        obtain ⟨x, rfl, hx2⟩ := v2
        have e := (hW (q / 2)).1 x v1
        rw [show 2 * (q / 2) = q by omega] at e
        exact e.trans hx2
      · cases g
    · rename_i hq
      split at g
      · rename_i hs
        subst hs
        have v2 : v = .ref (A b) := v2
        subst v2
        obtain ⟨n, n1, n2⟩ := tc_lnf_s hx g
        have e := (hW (q / 2)).2 _ n v1 n1
        rw [show 2 * (q / 2) + 1 = q by omega] at e
        exact e.trans n2.symm
      · cases g
  · cases g
theorem tc_anf_s (hx : tc_x Γ RO κ M sz V A X) {vals : List tv_V} {vs : List Value} (hst : tc_st V A vals vs) {W : Nat → Int} (hW : tk_nm M RO vs W) : ∀ {l : List (Nat × Int)} {f : tl_F}, tc_anf X vals l = some f → tl_s W l = tl_v V f
  | [], f, h => by
    cases h
    rfl
  | (q, c) :: r, f, h => by
    unfold tc_anf at h
    split at h
    · rename_i f1 g1 h1 h2
      cases h
      show c * W q + tl_s W r = _
      rw [tl_app_s, tl_sc_s, tc_anm_s hx hst hW h1, tc_anf_s hx hst hW h2]
    · cases h
theorem tc_ans_s (hx : tc_x Γ RO κ M sz V A X) {h : tc_h} {vals : List tv_V} {vs : List Value} (hst : tc_st V A vals vs) {W : Nat → Int} (hW : tk_nm M RO vs W) : ∀ {k : Nat} {O : List tl_F}, tc_ans X h vals k O = true → ∀ f ∈ O, 0 ≤ tl_v W f
  | _, [], _, f, hf => by cases hf
  | k, f1 :: r, hh, f, hf => by
    obtain ⟨h1, h2⟩ := tc_and (show ((match tc_anf X vals f1.1 with
      | some g => tl_pr X.1 (tl_ad g f1.2) (tc_cf h k)
      | none => false) && tc_ans X h vals (k + 1) r) = true from hh)
    rcases List.mem_cons.mp hf with rfl | hf
    · split at h1
      · rename_i g hg
        have q := tl_pr_s hx.1 h1
        rw [tl_ad_s] at q
        unfold tl_v at q ⊢
        rw [tc_anf_s hx hst hW hg]
        exact q
      · cases h1
    · exact tc_ans_s hx hst hW h2 f hf
theorem tc_ad_s {D : tc_D} {h : tc_h} {G : tc_G} {Gs : List tc_G} (hΓ : tg_ok D.2.2.1.2) (g : tc_ad D.2.2.1.1 D.2.2.1.2.2 D.2.2.2.2.1 h G = some Gs) (hG : ∀ G' ∈ Gs, tc_Ok D G') : tc_Ok D G := by
  obtain ⟨⟨n, m⟩, X, pc, L, S, zq, lq⟩ := G
  intro V A κ M sz sl lv st hr hH hz hx hl hs hq
  unfold tc_ad at g
  dsimp only at g
  split at g
  · rename_i ci vals ci' fs E lo hi O hf hT
    split at g
    · rename_i hc
      cases g
      obtain ⟨rfl, hc⟩ := hc
      obtain ⟨hW, hc⟩ := tc_and hc
      obtain ⟨hO, hty⟩ := tc_and hc
      have hW : ((tc_hi h 1).toNat, 1000) ∈ D.2.2.2.2.1 := by simpa using hW
      have hfm := tc_frs_m hf
      obtain ⟨f0, f1, vs, f2, f3⟩ := tc_frs_s hx hf
      have f0 : A (tc_hi h 0).toNat < sz := f0
      have f1 : κ (A (tc_hi h 0).toNat) = none := f1
      have f2 : M (A (tc_hi h 0).toNat) = some (.inr (ci', vs)) := f2
      have hup : ∀ a k, κ a = some k → tk_up κ (A (tc_hi h 0).toNat) (tc_hi h 1).toNat a = some k := by
        intro a k hk
        have : a ≠ A (tc_hi h 0).toNat := fun q => by
          subst q
          rw [f1] at hk
          cases hk
        show (if a = A (tc_hi h 0).toNat then _ else _) = _
        rw [if_neg this]
        exact hk
      have hne : ∀ a k, tk_up κ (A (tc_hi h 0).toNat) (tc_hi h 1).toNat a = some k → (a = A (tc_hi h 0).toNat ∧ k = (tc_hi h 1).toNat) ∨ (a ≠ A (tc_hi h 0).toNat ∧ κ a = some k) := by
        intro a k hk
        have hk : (if a = A (tc_hi h 0).toNat then some (tc_hi h 1).toNat else κ a) = some k := hk
        by_cases q : a = A (tc_hi h 0).toNat
        · rw [if_pos q] at hk
          cases hk
          exact Or.inl ⟨q, rfl⟩
        · rw [if_neg q] at hk
          exact Or.inr ⟨q, hk⟩
      have hH2 : tk_H D.2.2.1.1 D.2.1 (tk_up κ (A (tc_hi h 0).toNat) (tc_hi h 1).toNat) M sz := by
        intro a k hk
        rcases hne a k hk with ⟨rfl, rfl⟩ | ⟨-, hk⟩
        · exact ⟨f0, _, hT, vs, f2, tk_vs_x hup (tc_tys_s hx hty f3), fun W hW => tc_ans_s hx f3 hW hO⟩
        · obtain ⟨h1, K, h2, h3⟩ := hH a k hk
          exact ⟨h1, K, h2, tk_cell_m hup rfl (fun b n _ hn => hn) (fun ci fs E lo hi O _ f _ vs V g1 g2 => g2) h3⟩
      obtain ⟨h1, h2, h3, h4, h5, h6, h7, h8⟩ := hx
      refine hG _ List.mem_cons_self V A (tk_up κ (A (tc_hi h 0).toNat) (tc_hi h 1).toNat) M sz sl lv st ?_ hH2 (fun a ha => ?_) ⟨h1, tc_ap (fun p hp => hup _ _ (h2 p hp)) tk_up_at, h3, fun p hp => ?_, h5, fun p hp => ?_, tc_dj_fi h7, fun p hp => ?_⟩ hl hs ?_
      · obtain ⟨r1, r2, r3, r4, r5, r6, r7, r8⟩ := hr
        refine ⟨r1, r2, fun a k hk => hup _ _ (r3 a k hk), r4, fun a ha hn hF => ?_, r6, r7, fun a k hk hn => ?_⟩
        · obtain ⟨e1, e2⟩ := r5 a ha hn hF
          refine ⟨?_, e2⟩
          have : a ≠ A (tc_hi h 0).toNat := by
            intro q
            subst q
            rcases hq.2.2 _ hfm with q | q
            · exact hF q
            · have q : D.2.2.2.2.2.2.2.2.1.2.2.2.2.1 ≤ A (tc_hi h 0).toNat := q
              omega
          show (if a = A (tc_hi h 0).toNat then _ else _) = _
          rw [if_neg this]
          exact e1
        · rcases hne a k hk with ⟨rfl, rfl⟩ | ⟨-, hk⟩
          · exact hW
          · exact r8 a k hk hn
      · show (if a = A (tc_hi h 0).toNat then _ else _) = _
        rw [if_neg (by omega)]
        exact hz a ha
      · rcases List.mem_append.mp hp with hp | hp
        · exact h4 p hp
        · obtain ⟨j, -, hj⟩ := List.mem_filterMap.mp hp
          obtain ⟨t, ht, rfl⟩ := Option.map_eq_some_iff.mp hj
          obtain ⟨v, v1, v2⟩ := tc_st_at f3 ht
          exact ⟨ci', vs, v, f2, v1, v2⟩
      · obtain ⟨p1, p2⟩ := List.mem_filter.mp hp
        obtain ⟨g0, g1, vs', g2, g3⟩ := h6 p p1
        have hn : p.1 ≠ (tc_hi h 0).toNat := by simpa using p2
        have : A p.1 ≠ A (tc_hi h 0).toNat := tc_dj_ne h7 p p1 _ hfm hn
        refine ⟨g0, ?_, vs', g2, g3⟩
        show (if A p.1 = A (tc_hi h 0).toNat then _ else _) = _
        rw [if_neg this]
        exact g1
      · rcases List.mem_append.mp hp with hp | hp
        · obtain ⟨p1, p2⟩ := List.mem_filter.mp hp
          obtain ⟨q1, q2⟩ := tc_and p2
          have q1 : p.1 % 8 = 0 := by simpa using q1
          have q2 : ((tc_hi h 1).toNat, 1000) ∉ D.2.2.1.2.2 (p.1 / 8) := by simpa using q2
          have g := h8 p p1
          rw [tg_q0 q1] at g ⊢
          refine hΓ _ _ κ _ M M _ _ hup (fun a k e1 e2 => ?_) (fun a k hk => tg_kp_refl _ _ _) g
          rcases hne a k e1 with ⟨rfl, rfl⟩ | ⟨-, hk⟩
          · exact q2
          · rw [hk] at e2
            cases e2
        · exact tg_cv_7 (a := A (tc_hi h 0).toNat) h8 (fun _ _ => rfl) rfl f1 tk_up_at (by rw [f2]; exact ⟨⟨_, rfl⟩, fun ty n f q j => by cases q⟩) (fun b k1 hb => ⟨hup _ _ hb, rfl⟩) (fun b k1 q1 q2 => by
            rcases hne b k1 q1 with ⟨rfl, -⟩ | ⟨-, q3⟩
            · rfl
            · rw [q2] at q3
              cases q3) p hp
      · obtain ⟨q1, q2, q3⟩ := hq
        exact ⟨q1, q2, fun p hp => q3 p (List.mem_filter.mp hp).1⟩
    · cases g
  · cases g
end TCDD
