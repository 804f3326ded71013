/-! TC: what can be known without a step: a fact that follows, a field's value, a length, an object's forms -/
def tc_cu (h : tc_h) (G : tc_G) : Option (List tc_G) := if tl_pr G.2.1.1 (tc_hf h 0) (tc_cf h 0) then some [(G.1, tc_xa G.2.1 [tc_hf h 0], G.2.2)] else none
theorem tc_cu_s {D : tc_D} {h : tc_h} {G : tc_G} {Gs : List tc_G} (g : tc_cu h G = some Gs) (hG : ∀ G' ∈ Gs, tc_Ok D G') : tc_Ok D G := by
  intro V A κ M sz sl lv st hr hH hz hx hl hs hq
  unfold tc_cu at g
  split at g
  · rename_i e
    cases g
    have e2 := tl_pr_s hx.1 e
    refine hG _ List.mem_cons_self V A κ M sz sl lv st hr hH hz (tc_xa_s hx (fun f hf => ?_)) hl hs hq
    rcases List.mem_cons.mp hf with rfl | hf
    · exact e2
    · cases hf
  · cases g
/-- hint: ints: an object's name, a field -/
def tc_gf (T : tk_T) (n0 m0 : Nat) (h : tc_h) (G : tc_G) : Option (List tc_G) := match G with
  | ((n, m), X, pc, L, S, zq, lq) => match (tc_kd X (tc_hi h 0).toNat).bind (fun k => T[k]?) with
    | some (0, _, fs, _) => (match fs[(tc_hi h 1).toNat]? with
      | some τ => if tc_wf n0 m0 G && decide ((tc_hi h 0).toNat < m) then some ((tc_alt X n m τ).map (fun y => ((n + y.2.2.1, m + y.2.2.2), tc_xfd y.1 ((tc_hi h 0).toNat, (tc_hi h 1).toNat, y.2.1), pc, L, S, zq, lq))) else none
      | none => none)
    | _ => none
theorem tc_gf_s {D : tc_D} {h : tc_h} {G : tc_G} {Gs : List tc_G} (g : tc_gf D.2.2.1.1 D.2.2.2.2.2.1 D.2.2.2.2.2.2.1 h G = some Gs) (hG : ∀ G' ∈ Gs, tc_Ok D G') : tc_Ok D G := by
  obtain ⟨⟨n, m⟩, X, pc, L, S, zq, lq⟩ := G
  intro V A κ M sz sl lv st hr hH hz hx hl hs hq
  unfold tc_gf at g
  dsimp only at g
  split at g
  · rename_i ci fs rest hK
    split at g
    · rename_i τ hτ
      split at g
      · rename_i hc
        cases g
        obtain ⟨hwf, hm⟩ := tc_and hc
        have hm : (tc_hi h 0).toNat < m := of_decide_eq_true hm
        obtain ⟨E, lo, hi, O⟩ := rest
        obtain ⟨vs, q1, q2, -⟩ := tc_kT hx hH hK
        obtain ⟨v, v1, v2⟩ := tk_vs_at q2 hτ
        obtain ⟨hwx, -⟩ := tc_wfx hwf
        obtain ⟨y, hy, V', A', k1, k2, k3, k4⟩ := tc_alt_s hx hwx v2
        obtain ⟨p1, p2, p3, p4, -⟩ := tc_sh hwf k1 k2 hr hl hs hq
        have e1 : A' (tc_hi h 0).toNat = A (tc_hi h 0).toNat := (k2 _ hm).symm
        refine hG _ (List.mem_map.mpr ⟨y, hy, rfl⟩) V' A' κ M sz sl lv st p1 hH hz (tc_xfd_s k3 ⟨ci, vs, v, ?_, v1, k4⟩) p2 p3 (by have e := tc_alt_f hy; show tc_rm _ _ _ _ _ _ y.1.2.2.2.2.2.1 _ _; rw [e]; exact p4)
        show M (A' (tc_hi h 0).toNat) = _
        rw [e1]
        exact q1
      · cases g
    · cases g
  · cases g
/-- hint: int: a row's name -/
def tc_gn (P : am_P) (T : tk_T) (n0 m0 : Nat) (h : tc_h) (G : tc_G) : Option (List tc_G) := match G with
  | ((n, m), X, pc, L, S, zq, lq) => match (tc_kd X (tc_hi h 0).toNat).bind (fun k => T[k]?) with
    | some (s, t, fs, E, lo, hi, O) => if (1 ≤ s ∧ s ≤ 4) ∧ (tc_wf n0 m0 G && decide ((tc_hi h 0).toNat < m)) = true then some [((n + 1, m), tc_xln (tc_xa X (tl_bt (tl_nm n) lo hi)) ((tc_hi h 0).toNat, tl_nm n), pc, L, S, zq, lq)] else none
    | none => none
theorem tk_cell_ln {κ : Nat → Option Nat} {RO : am_O} {M : am_H} {a s t : Nat} {fs : List tk_F} {E : List tk_E} {lo hi : Int} {O : List tl_F} (h : tk_cell κ RO M a (s, t, fs, E, lo, hi, O)) (h1 : 1 ≤ s) (h4 : s ≤ 4) : ∃ n : Nat, tk_len M RO a n ∧ lo ≤ (n : Int) ∧ (n : Int) ≤ hi := by
  match s, h, h1, h4 with
  | 1, ⟨n, f, g1, g2, _⟩, _, _ => exact ⟨n, Or.inl ⟨_, _, g1, rfl⟩, g2⟩
  | 2, ⟨n, f, g1, g2⟩, _, _ => exact ⟨n, Or.inl ⟨_, _, g1, rfl⟩, g2⟩
  | 3, ⟨n, f, g1, g2, _⟩, _, _ => exact ⟨n, Or.inl ⟨_, _, g1, rfl⟩, g2⟩
  | 4, ⟨g0, n, f, g1, g2, _⟩, _, _ => exact ⟨n, Or.inr ⟨g0, f, g1⟩, g2⟩
theorem tc_gn_s {D : tc_D} {h : tc_h} {G : tc_G} {Gs : List tc_G} (g : tc_gn D.1 D.2.2.1.1 D.2.2.2.2.2.1 D.2.2.2.2.2.2.1 h G = some Gs) (hG : ∀ G' ∈ Gs, tc_Ok D G') : tc_Ok D G := by
  obtain ⟨⟨n, m⟩, X, pc, L, S, zq, lq⟩ := G
  intro V A κ M sz sl lv st hr hH hz hx hl hs hq
  unfold tc_gn at g
  dsimp only at g
  split at g
  · rename_i s t fs E lo hi O hK
    split at g
    · rename_i hc
      cases g
      obtain ⟨⟨h1, h4⟩, hc⟩ := hc
      obtain ⟨hwf, hm⟩ := tc_and hc
      obtain ⟨N, n1, n2, n3⟩ := tk_cell_ln (tc_kT hx hH hK) h1 h4
      obtain ⟨hwx, -⟩ := tc_wfx hwf
      have k1 : ∀ k, k < n → V k = tl_up V n (N : Int) k := tl_up_lt
      obtain ⟨p1, p2, p3, p4, -⟩ := tc_sh hwf k1 (A' := A) (fun _ _ => rfl) hr hl hs hq
      refine hG _ List.mem_cons_self (tl_up V n (N : Int)) A κ M sz sl lv st p1 hH hz (tc_xln_s (tc_xa_s (tc_x_lt k1 (fun _ _ => rfl) hwx hx) (tl_bt_s (by rw [tl_up_nm]; exact n2) (by rw [tl_up_nm]; exact n3))) ⟨N, n1, tl_up_nm V n _⟩) p2 p3 p4
    · cases g
  · cases g
/-- an object's form by what is known -/
def tc_unm (X : tc_X) (a q : Nat) : Option tl_F := match tc_fd X a (q / 2) with
  | some (s, f, b) => if q % 2 = 0 then (if s = 0 then some f else none) else (if s = 2 then tc_lnf X b else none)
  | none => none
def tc_unf (X : tc_X) (a : Nat) : List (Nat × Int) → Option tl_F
  | [] => some ([], 0)
  | (q, c) :: r => match tc_unm X a q, tc_unf X a r with
    | some f, some g => some (tl_app (tl_sc c f) g)
    | _, _ => none
def tc_uol (X : tc_X) (a : Nat) (O : List tl_F) : List tl_F := O.filterMap (fun f => (tc_unf X a f.1).map (fun g => tl_nf (tl_ad g f.2)))
/-- hint: int: an object's name -/
def tc_uo (T : tk_T) (h : tc_h) (G : tc_G) : Option (List tc_G) := match G with
  | (nm, X, r) => match (tc_kd X (tc_hi h 0).toNat).bind (fun k => T[k]?) with
    | some (0, _, _, _, _, _, O) => some [(nm, tc_xa X (tc_uol X (tc_hi h 0).toNat O), r)]
    | _ => none
theorem tc_uo_s {D : tc_D} {h : tc_h} {G : tc_G} {Gs : List tc_G} (g : tc_uo D.2.2.1.1 h G = some Gs) (hG : ∀ G' ∈ Gs, tc_Ok D G') : tc_Ok D G := by
  obtain ⟨nm, X, pc, L, S, zq, lq⟩ := G
  intro V A κ M sz sl lv st hr hH hz hx hl hs hq
  unfold tc_uo at g
  dsimp only at g
  split at g
  · rename_i ci fs E lo hi O hK
    cases g
    obtain ⟨vs, q1, q2, q3⟩ := tc_kT hx hH hK
    have hW : ∃ W : Nat → Int, tk_nm M D.2.1 vs W := by
      have hf : ∀ i : Nat, ∃ z : Int, ∀ x : Int32, vs[i]? = some (.int x) → z = x.toInt := by
        intro i
        cases hv : vs[i]? with
        | none => exact ⟨0, fun x e => by cases e⟩
        | some v =>
          cases v with
          | int x => exact ⟨x.toInt, fun y e => by cases e; rfl⟩
          | _ => exact ⟨0, fun x e => by cases e⟩
      have hg : ∀ i : Nat, ∃ z : Int, ∀ (a n : Nat), vs[i]? = some (.ref a) → tk_len M D.2.1 a n → z = (n : Int) := by
        intro i
        cases hv : vs[i]? with
        | none => exact ⟨0, fun x n e => by cases e⟩
        | some v =>
          cases v with
          | ref x =>
            by_cases hn : ∃ n, tk_len M D.2.1 x n
            · obtain ⟨n, hn⟩ := hn
              exact ⟨n, fun a n' e h' => by
                cases e
                rw [tk_len_1 hn h']⟩
            · exact ⟨0, fun a n' e h' => by
                cases e
                exact absurd ⟨n', h'⟩ hn⟩
          | _ => exact ⟨0, fun x n e => by cases e⟩
      refine ⟨fun q => if q % 2 = 0 then (hf (q / 2)).choose else (hg (q / 2)).choose, fun i => ⟨fun x e => ?_, fun a n e hn => ?_⟩⟩
      · show (if 2 * i % 2 = 0 then _ else _) = _
        rw [if_pos (by omega)]
        have := (hf (2 * i / 2)).choose_spec x (by rw [show 2 * i / 2 = i by omega]; exact e)
        exact this
      · show (if (2 * i + 1) % 2 = 0 then _ else _) = _
        rw [if_neg (by omega)]
        exact (hg ((2 * i + 1) / 2)).choose_spec a n (by rw [show (2 * i + 1) / 2 = i by omega]; exact e) hn
    obtain ⟨W, hW⟩ := hW
    have hnm : ∀ q f, tc_unm X (tc_hi h 0).toNat q = some f → W q = tl_v V f := by
      intro q f hq2
      unfold tc_unm at hq2
      split at hq2
      · rename_i s f' b hb
        obtain ⟨ci', vs', v, u1, u2, u3⟩ := tc_fd_s hx hb
        have u1 : M (A (tc_hi h 0).toNat) = some (.inr (ci', vs')) := u1
        rw [q1] at u1
        cases u1
        split at hq2
        · split at hq2
          · rename_i hs0
            cases hq2
            subst hs0
            obtain ⟨x, rfl, hx2⟩ := u3
            have e := (hW (q / 2)).1 x u2
            rw [show 2 * (q / 2) = q by omega] at e
            exact e.trans hx2
          · cases hq2
        · split at hq2
          · rename_i hs0
            subst hs0
            have u3 : v = .ref (A b) := u3
            subst u3
            obtain ⟨n, n1, n2⟩ := tc_lnf_s hx hq2
            have e := (hW (q / 2)).2 _ n u2 n1
            rw [show 2 * (q / 2) + 1 = q by omega] at e
            exact e.trans n2.symm
          · cases hq2
      · cases hq2
    have hnf : ∀ (l : List (Nat × Int)) (f : tl_F), tc_unf X (tc_hi h 0).toNat l = some f → tl_s W l = tl_v V f := by
      intro l
      induction l with
      | nil =>
        intro f e
        cases e
        rfl
      | cons p r ih =>
        intro f e
        obtain ⟨q, c⟩ := p
        unfold tc_unf at e
        split at e
        · rename_i f1 g1 h1 h2
          cases e
          show c * W q + tl_s W r = _
          rw [tl_app_s, tl_sc_s, hnm _ _ h1, ih _ h2]
        · cases e
    refine hG _ List.mem_cons_self V A κ M sz sl lv st hr hH hz (tc_xa_s hx (fun f hf => ?_)) hl hs hq
    obtain ⟨f0, hf0, he⟩ := List.mem_filterMap.mp hf
    obtain ⟨g1, hg1, rfl⟩ := Option.map_eq_some_iff.mp he
    have q4 := q3 W hW f0 hf0
    unfold tl_v at q4
    rw [hnf _ _ hg1] at q4
    rw [tl_nf_s, tl_ad_s]
    exact q4
  · cases g
