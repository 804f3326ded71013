/-! TC: a step that writes -/
def tc_wk (T : tk_T) (X : tc_X) (a : Nat) : Option (Nat × tk_K) := match tc_kd X a with
  | some k => (T[k]?).map (fun K => (k, K))
  | none => none
/-- a truth's form, by certificates 2, 3 -/
def tc_bs (X : tc_X) (h : tc_h) (t : tv_V) : Bool := (t.1 == 0) && (tl_pr X.1 t.2.1 (tc_cf h 2) && tl_pr X.1 (tl_ad (tl_neg t.2.1) 1) (tc_cf h 3))
/-- elements that are known of the same row at other places -/
def tc_eo (X : tc_X) (a : Nat) (I : tl_F) : List (Nat × tl_F × tl_F) := X.2.2.2.2.1.filter (fun p => (p.1 == a) && (match tl_kc (tl_sub p.2.1 I) with
  | some c => !(c == 0)
  | none => false))
def tc_bse (X : tc_X) (h : tc_h) (a : Nat) (I : tl_F) (t : tv_V) : List (Nat × tl_F × tl_F) := if tc_bs X h t then (a, I, t.2.1) :: tc_eo X a I else tc_eo X a I
def tc_bsq (X : tc_X) (h : tc_h) (a : Nat) (I : tl_F) (t : tv_V) : List tg_P := if tc_bs X h t then tg_cv 1 [a] [I, t.2.1] X.2.2.2.2.2.2 else []
def tc_wr (P : am_P) (T : tk_T) (fp : Nat → List (Nat × Nat)) (W : tc_W) (own : Nat) (ini : Bool) (i : Instr) (len : Nat) (h : tc_h) (G : tc_G) : Option (List tc_G) := match G with
  | ((n, m), X, pc, L, S, zq, lq) => match i with
    | .putfield x => (match S with
      | t :: (2, _, a) :: r => if len = 3 then (match tc_frs X a with
        | some (ci, vals) => (match am_fld P own x ci with
          | some j => if (am_pk P own x ci = 1 ∨ am_pk P own x ci = 2 ∧ ini = true) ∧ j < vals.length ∧ tc_nf X h 0 (am_tyf P ci j) t = true then some [((n, m), tc_xpn X a ci (vals.set j t), pc + 3, L, r, zq, lq)] else none
          | none => none)
        | none => (match tc_wk T X a with
          | some (k, (0, ci, fs, _, _, _, O)) => (match am_fld P own x ci with
            | some j => (match fs[j]? with
              | some τ => if ((am_pk P own x ci = 1 ∨ am_pk P own x ci = 2 ∧ ini = true) ∧ W.contains (k, j) = true) ∧ (tc_nf X h 0 (am_tyf P ci j) t && (tc_ty X h 2 τ t && tc_obs X h a j t 4 O)) = true then some [((n, m), tc_xpf fp X a k j t, pc + 3, L, r, zq, lq)] else none
              | none => none)
            | none => none)
          | _ => none)) else none
      | _ => none)
    | .iastore => (match S with
      | (0, v, _) :: (0, I, _) :: (2, _, a) :: r => if len = 1 ∧ tc_ixc X h 0 a I = true then (match tc_wk T X a with
        | some (k, (1, 0, _, E, _)) => if W.contains (k, 0) = true ∧ tc_ebk X E h 2 I v = true then some [((n, m), tc_xpe fp X k ((a, I, v) :: tc_eo X a I) (tg_cv 1 [a] [I, v] X.2.2.2.2.2.2), pc + 1, L, r, zq, lq)] else none
        | _ => none) else none
      | _ => none)
    | .bastore => (match S with
      | t :: (0, I, _) :: (2, _, a) :: r => if (len = 1 ∧ tv_k t = 0) ∧ tc_ixc X h 0 a I = true then (match tc_wk T X a with
        | some (k, (1, 2, _, E, _)) => if W.contains (k, 0) = true ∧ (E = [] ∨ E = [(0, 0, 1, 0)]) then some [((n, m), tc_xpe fp X k (tc_bse X h a I t) (tc_bsq X h a I t), pc + 1, L, r, zq, lq)] else none
        | _ => none) else none
      | _ => none)
    | .lastore => (match S with
      | t :: (0, I, _) :: (2, _, a) :: r => if (len = 1 ∧ tv_k t = 1) ∧ tc_ixc X h 0 a I = true then (match tc_wk T X a with
        | some (k, (2, 1, _, _, _)) => if W.contains (k, 0) = true then some [((n, m), tc_xpe fp X k [] [], pc + 1, L, r, zq, lq)] else none
        | _ => none) else none
      | _ => none)
    | .aastore => (match S with
      | (2, _, b) :: (0, I, _) :: (2, _, a) :: r => if len = 1 ∧ tc_ixc X h 0 a I = true then (match tc_wk T X a, tc_wk T X b with
        | some (k, (3, t, fs, _)), some (kb, (sb, cb, _)) => if (W.contains (k, 0) = true ∧ (fs.all (fun τ => (τ.1 == 2 || τ.1 == 3) && τ.2.2.2.contains kb)) = true) ∧ ((sb = 0 ∧ am_asg P t cb = true) ∨ ((1 ≤ sb ∧ sb ≤ 3) ∧ am_asA P t cb = true)) then some [((n, m), tc_xpe fp X k [] (tg_cv 4 [a, b] [I] X.2.2.2.2.2.2), pc + 1, L, r, zq, lq)] else none
        | _, _ => none) else none
      | (3, _, _) :: (0, I, _) :: (2, _, a) :: r => if len = 1 ∧ tc_ixc X h 0 a I = true then (match tc_wk T X a with
        | some (k, (3, t, fs, _)) => (match (am_kd P)[t]? with
          | some (.object _) => if W.contains (k, 0) = true ∧ (fs.all (fun τ => τ.1 == 3)) = true then some [((n, m), tc_xpe fp X k [] (tg_cv 6 [a] [I] X.2.2.2.2.2.2), pc + 1, L, r, zq, lq)] else none
          | _ => none)
        | _ => none) else none
      | _ => none)
    | _ => none
section TCV
variable {Γ : tg_G} {RO : am_O} {κ : Nat → Option Nat} {M : am_H} {sz sl : Nat} {V V' : Nat → Int} {A A' : Nat → Nat} {X : tc_X} {T : tk_T} {W : tc_W}
theorem tc_wk_s (hx : tc_x Γ RO κ M sz V A X) (hH : tk_H T RO κ M sz) {a k : Nat} {K : tk_K} (g : tc_wk T X a = some (k, K)) : κ (A a) = some k ∧ T[k]? = some K ∧ tk_cell κ RO M (A a) K := by
  unfold tc_wk at g
  split at g
  · rename_i k' hk
    obtain ⟨K', h1, h2⟩ := Option.map_eq_some_iff.mp g
    cases h2
    have e := tc_kd_s hx hk
    obtain ⟨-, K2, h3, h4⟩ := hH _ _ e
    rw [h1] at h3
    cases h3
    exact ⟨e, h1, h4⟩
  · cases g
theorem tc_eo_s (hx : tc_x Γ RO κ M sz V A X) {a t N j : Nat} {I : tl_F} {f : Nat → Int32} {x : Int32} (hM : M (A a) = some (.inl (t, N, .inl f))) (hI : tl_v V I = (j : Int)) : ∀ p ∈ tc_eo X a I, tc_xe RO (am_set M (A a) (.inl (t, N, .inl (upd f j x)))) V A p := by
  intro p hp
  obtain ⟨p1, p2⟩ := List.mem_filter.mp hp
  obtain ⟨p2, p3⟩ := tc_and p2
  have p2 : p.1 = a := by simpa using p2
  obtain ⟨t1, n1, f1, i, g1, g2, g3, g4⟩ := hx.2.2.2.2.1 p p1
  rw [p2] at g1
  split at p3
  · rename_i c hc
    have hc := tl_kc_s (V := V) hc
    rw [tl_sub_s, hI, g2] at hc
    have hc0 : c ≠ 0 := by simpa using p3
    rcases g1 with g1 | ⟨g1, -⟩
    · rw [hM] at g1
      cases g1
      refine ⟨_, _, _, i, Or.inl (by rw [p2]; exact am_same), g2, g3, ?_⟩
      have : i ≠ j := by omega
      simpa [upd, this] using g4
    · rw [hM] at g1
      cases g1
  · cases p3
theorem tc_bs_s (hx : tc_x Γ RO κ M sz V A X) {h : tc_h} {t : tv_V} {x : Int32} (g : tc_bs X h t = true) (hv : tv_is V A t (.int x)) : (vp_nar .boolean x).toInt = tl_v V t.2.1 := by
  obtain ⟨g1, g2⟩ := tc_and g
  obtain ⟨g2, g3⟩ := tc_and g2
  obtain ⟨s, f, b⟩ := t
  have e : s = 0 := by simpa using g1
  subst e
  obtain ⟨y, hy, e2⟩ := hv
  cases hy
  have e2 : x.toInt = tl_v V f := e2
  have g2 := tl_pr_s hx.1 g2
  have g3 := tl_pr_s hx.1 g3
  rw [tl_ad_s, tl_neg_s] at g3
  have g2 : 0 ≤ tl_v V f := g2
  have g3 : 0 ≤ -tl_v V f + 1 := g3
  show (vp_nar .boolean x).toInt = tl_v V f
  rw [← e2] at g2 g3 ⊢
  have q : x.toInt = 0 ∨ x.toInt = 1 := by omega
  rcases q with q | q
  · have : x = 0 := Int32.toInt_inj.mp (by rw [q]; rfl)
    subst this
    rfl
  · have : x = 1 := Int32.toInt_inj.mp (by rw [q]; rfl)
    subst this
    rfl
theorem tk_fr_o {k j ci : Nat} {vs : List Value} {v : Value} (h : (k, j) ∈ W) : tk_fr W k (some (.inr (ci, vs))) (some (.inr (ci, vs.set j v))) := by
  refine ⟨fun ci' vs' e => ?_, fun t x e => ?_, fun e => ?_⟩
  · cases e
    refine ⟨_, rfl, fun i hi => ?_⟩
    have : i ≠ j := fun e => hi (by rw [e]; exact h)
    rw [List.getElem?_set_ne (fun e => this e.symm)]
  · cases e
  · cases e
theorem tk_fr_a {k t : Nat} {x x' : vp_A} (h : (k, 0) ∈ W) (hn : x'.1 = x.1) : tk_fr W k (some (.inl (t, x))) (some (.inl (t, x'))) := by
  refine ⟨fun ci' vs' e => ?_, fun t x e => ?_, fun e => ?_⟩
  · cases e
  · cases e
    exact ⟨x', rfl, hn, fun q => absurd h q⟩
  · cases e
theorem tk_H_arr (hH : tk_H T RO κ M sz) {a k t : Nat} {K : tk_K} {x x' : vp_A} (hκ : κ a = some k) (hT : T[k]? = some K) (hM : M a = some (.inl (t, x))) (hn : x'.1 = x.1) (hc : tk_cell κ RO (am_set M a (.inl (t, x'))) a K) : tk_H T RO κ (am_set M a (.inl (t, x'))) sz := by
  refine tk_H_set hH (fun b n hb _ => tk_len_arr hM hn b n hb) (fun k' K' h1 h2 => ?_)
  rw [hκ] at h1
  cases h1
  rw [hT] at h2
  cases h2
  exact hc
set_option maxHeartbeats 4000000 in
theorem tc_wr_s {D : tc_D} {mt : am_Meth} {i : Instr} {len : Nat} {h : tc_h} {G : tc_G} {Gs : List tc_G} (hΓ : tg_ok D.2.2.1.2) (hm : am_meth D.1 D.2.2.2.1 = some mt) (hd : decode mt.2.1 G.2.2.1 = .ok (i, len)) (g : tc_wr D.1 D.2.2.1.1 D.2.2.1.2.2 D.2.2.2.2.1 mt.2.2.2.2.2.2 (mt.1.name == "<init>") i len h G = some Gs) (hG : ∀ G' ∈ Gs, tc_Ok D G') : tc_Ok D G := by
  obtain ⟨⟨n, m⟩, X, pc, L, S, zq, lq⟩ := G
  intro V A κ M sz sl lv st hr hH hz hx hl hs hq
  cases i with
  | putfield x =>
    unfold tc_wr at g
    dsimp only at g
    split at g
    · rename_i t f0 a r
      split at g
      · rename_i hlen
        obtain ⟨v, s, rfl, ev, e2⟩ := tc_st1 hs
        obtain ⟨v2, s, rfl, e1, e3⟩ := tc_st1 e2
        have e1 : v2 = .ref (A a) := e1
        subst e1
        split at g
        · rename_i ci vals hfr
          split at g
          · rename_i j hj
            split at g
            · rename_i hc
              cases g
              obtain ⟨hpk, hjl, hnf⟩ := hc
              obtain ⟨f0, f1, vs, q1, q2⟩ := tc_frs_s hx hfr
              have q1 : M (A a) = some (.inr (ci, vs)) := q1
              have f1 : κ (A a) = none := f1
              obtain ⟨n1, n2⟩ := tc_nf_s hx hnf ev
              have hown : A a ∈ D.2.2.2.2.2.2.2.1.map D.2.2.2.2.2.2.2.2.1.2.1 ∨ D.2.2.2.2.2.2.2.2.1.2.2.2.2.1 ≤ A a := by
                obtain ⟨pa, pa1, pa2⟩ := Option.map_eq_some_iff.mp hfr
                have m1 := List.mem_of_find?_eq_some pa1
                have m2 : pa.1 = a := by simpa using List.find?_some pa1
                rw [← m2]
                exact hq.2.2 pa m1
              refine am_stepR hm hd (Or.inr (Or.inr (Or.inr (Or.inr (Or.inl ⟨hlen, v, A a, s, ci, vs, j, rfl, q1, hj, hpk, by rw [tc_st_ln q2]; exact hjl, n1, n2, ?_⟩)))))
              refine hG _ List.mem_cons_self V A κ _ sz sl lv s (tc_rel_setf hr f1 hown) ?_ hz (tc_xpn_s hΓ hx hfr q1 q2 ev) hl e3 ?_
              · refine tk_H_set hH (fun b n hb _ => tk_len_obj q1 b n hb) (fun k K h1 _ => ?_)
                rw [f1] at h1
                cases h1
              · refine ⟨hq.1, hq.2.1, fun p hp => ?_⟩
                obtain ⟨p', p1, rfl⟩ := List.mem_map.mp hp
                by_cases e : p'.1 = a
                · rw [if_pos (by simp [e])]
                  exact hown
                · rw [if_neg (by simp [e])]
                  exact hq.2.2 p' p1
            · cases g
          · cases g
        · split at g
          · rename_i k ci fs _ _ _ O hk
            split at g
            · rename_i j hj
              split at g
              · rename_i τ hτ
                split at g
                · rename_i hc
                  cases g
                  obtain ⟨⟨hpk, hW⟩, hb⟩ := hc
                  obtain ⟨hnf, hb⟩ := tc_and hb
                  obtain ⟨hty, hob⟩ := tc_and hb
                  obtain ⟨hκ, hT, vs, q1, q2, q3⟩ := tc_wk_s hx hH hk
                  obtain ⟨n1, n2⟩ := tc_nf_s hx hnf ev
                  have hok := tc_ty_s hx hty ev
                  have hjl : j < vs.length := by
                    obtain ⟨w, w1, -⟩ := tk_vs_at q2 hτ
                    exact (List.getElem?_eq_some_iff.mp w1).1
                  have hW : (k, j) ∈ D.2.2.2.2.1 := by simpa using hW
                  refine am_stepR hm hd (Or.inr (Or.inr (Or.inr (Or.inr (Or.inl ⟨hlen, v, A a, s, ci, vs, j, rfl, q1, hj, hpk, hjl, n1, n2, ?_⟩)))))
                  refine hG _ List.mem_cons_self V A κ _ sz sl lv s (tc_rel_set hr hκ (by rw [q1]; exact tk_fr_o hW)) ?_ hz (tc_xpf_s hΓ hx hκ q1 hjl ev) hl e3 hq
                  refine tk_H_set hH (fun b n hb _ => tk_len_obj q1 b n hb) (fun k' K' h1 h2 => ?_)
                  rw [hκ] at h1
                  cases h1
                  rw [hT] at h2
                  cases h2
                  exact ⟨vs.set j v, am_same, tk_vs_set q2 hτ hok, fun W hW f hf => tc_obs_s hx q1 hjl ev (tk_len_obj q1) hW hob f hf⟩
                · cases g
              · cases g
            · cases g
          · cases g
      · cases g
    · cases g
  | iastore =>
    unfold tc_wr at g
    dsimp only at g
    split at g
    · rename_i v k0 I k1 f0 a r
      split at g
      · rename_i hlen
        obtain ⟨w, s, rfl, ⟨x, rfl, hxv⟩, e2⟩ := tc_st1 hs
        obtain ⟨w, s, rfl, ⟨jx, rfl, hjx⟩, e3⟩ := tc_st1 e2
        obtain ⟨w, s, rfl, e1, e4⟩ := tc_st1 e3
        have e1 : w = .ref (A a) := e1
        subst e1
        split at g
        · rename_i k fs E rest hk
          split at g
          · rename_i hc
            cases g
            obtain ⟨lo, hi, O⟩ := rest
            obtain ⟨hκ, hT, N, f, c1, c2, c3⟩ := tc_wk_s hx hH hk
            have hW : (k, 0) ∈ D.2.2.2.2.1 := by simpa using hc.1
            have hlenA : tk_len M D.2.1 (A a) N := Or.inl ⟨0, (N, .inl f), c1, rfl⟩
            obtain ⟨j, j1, j2⟩ := tc_ixc_s hx hlen.2 hlenA
            have hjx : jx.toInt = tl_v V I := hjx
            have hxv : x.toInt = tl_v V v := hxv
            obtain ⟨b1, b2⟩ := tc_vin (hjx.trans j1) j2
            refine am_stepR hm hd (Or.inr (Or.inr (Or.inr (Or.inr (Or.inl ⟨hlen.1, x, jx, A a, s, N, f, rfl, c1, b1, ?_⟩)))))
            rw [b2]
            refine hG _ List.mem_cons_self V A κ _ sz sl lv s (tc_rel_set hr hκ (by rw [c1]; exact tk_fr_a hW rfl)) ?_ hz (tc_xpe_s hΓ hx hκ c1 rfl (fun p hp => ?_) (tg_cv_1 hx.2.2.2.2.2.2.2 c1 j1 hxv)) hl e4 hq
            · refine tk_H_arr hH hκ hT c1 rfl ⟨N, _, am_same, c2, fun i hi => ?_⟩
              by_cases e : i = j
              · subst e
                have q := tc_ebk_s hx hc.2 j1
                rw [← hxv] at q
                simpa [upd] using q
              · have q := c3 i hi
                simpa [upd, e] using q
            · rcases List.mem_cons.mp hp with rfl | hp
              · exact ⟨0, N, _, j, Or.inl am_same, j1, j2, by simpa [upd] using hxv⟩
              · exact tc_eo_s hx c1 j1 p hp
          · cases g
        · cases g
      · cases g
    · cases g
  | bastore =>
    unfold tc_wr at g
    dsimp only at g
    split at g
    · rename_i t I k1 f0 a r
      split at g
      · rename_i hlen
        obtain ⟨w, s, rfl, ev, e2⟩ := tc_st1 hs
        obtain ⟨x, rfl⟩ := tv_k0 ev hlen.1.2
        obtain ⟨w, s, rfl, ⟨jx, rfl, hjx⟩, e3⟩ := tc_st1 e2
        obtain ⟨w, s, rfl, e1, e4⟩ := tc_st1 e3
        have e1 : w = .ref (A a) := e1
        subst e1
        split at g
        · rename_i k fs E rest hk
          split at g
          · rename_i hc
            cases g
            obtain ⟨lo, hi, O⟩ := rest
            obtain ⟨hκ, hT, N, f, c1, c2, c3⟩ := tc_wk_s hx hH hk
            have hW : (k, 0) ∈ D.2.2.2.2.1 := by simpa using hc.1
            have hlenA : tk_len M D.2.1 (A a) N := Or.inl ⟨2, (N, .inl f), c1, rfl⟩
            obtain ⟨j, j1, j2⟩ := tc_ixc_s hx hlen.2 hlenA
            have hjx : jx.toInt = tl_v V I := hjx
            obtain ⟨b1, b2⟩ := tc_vin (hjx.trans j1) j2
            refine am_stepR hm hd (Or.inr (Or.inr (Or.inr (Or.inr (Or.inl ⟨hlen.1.1, x, jx, A a, s, N, f, rfl, c1, b1, ?_⟩)))))
            rw [b2]
            refine hG _ List.mem_cons_self V A κ _ sz sl lv s (tc_rel_set hr hκ (by rw [c1]; exact tk_fr_a hW rfl)) ?_ hz (tc_xpe_s hΓ hx hκ c1 rfl (fun p hp => by
                unfold tc_bse at hp
                split at hp
                · rename_i hb
                  rcases List.mem_cons.mp hp with rfl | hp
                  · exact ⟨2, N, _, j, Or.inl am_same, j1, j2, by simpa [upd] using tc_bs_s hx hb ev⟩
                  · exact tc_eo_s hx c1 j1 p hp
                · exact tc_eo_s hx c1 j1 p hp) (fun q hq => by
                unfold tc_bsq at hq
                split at hq
                · rename_i hb
                  exact tg_cv_1 hx.2.2.2.2.2.2.2 c1 j1 (tc_bs_s hx hb ev) q hq
                · cases hq)) hl e4 hq
            refine tk_H_arr hH hκ hT c1 rfl ⟨N, _, am_same, c2, fun i hi => ?_⟩
            by_cases e : i = j
            · subst e
              have q0 := to_and (x := x) (y := 1) (by decide)
              have q1 : (1 : Int32).toInt = 1 := rfl
              have q2 : vp_nar .boolean x = x &&& 1 := rfl
              have q3 : tk_eb E i (x &&& 1).toInt := by
                intro e he
                rcases hc.2 with hE | hE
                · rw [hE] at he
                  simp at he
                · rw [hE] at he
                  have he2 : ([(0, 0, 1, 0)] : List tk_E)[i % 1]? = some e := he
                  rw [Nat.mod_one] at he2
                  cases he2
                  simp only [Int.zero_mul, Int.add_zero]
                  omega
              rw [← q2] at q3
              simpa [upd] using q3
            · have q := c3 i hi
              simpa [upd, e] using q
          · cases g
        · cases g
      · cases g
    · cases g
  | lastore =>
    unfold tc_wr at g
    dsimp only at g
    split at g
    · rename_i t I k1 f0 a r
      split at g
      · rename_i hlen
        obtain ⟨w, s, rfl, ev, e2⟩ := tc_st1 hs
        obtain ⟨x, rfl⟩ := tv_k1 ev hlen.1.2
        obtain ⟨w, s, rfl, ⟨jx, rfl, hjx⟩, e3⟩ := tc_st1 e2
        obtain ⟨w, s, rfl, e1, e4⟩ := tc_st1 e3
        have e1 : w = .ref (A a) := e1
        subst e1
        split at g
        · rename_i k fs E rest hk
          split at g
          · rename_i hc
            cases g
            obtain ⟨lo, hi, O⟩ := rest
            obtain ⟨hκ, hT, N, f, c1, c2⟩ := tc_wk_s hx hH hk
            have hW : (k, 0) ∈ D.2.2.2.2.1 := by simpa using hc
            have hlenA : tk_len M D.2.1 (A a) N := Or.inl ⟨1, (N, .inr (.inl f)), c1, rfl⟩
            obtain ⟨j, j1, j2⟩ := tc_ixc_s hx hlen.2 hlenA
            have hjx : jx.toInt = tl_v V I := hjx
            obtain ⟨b1, b2⟩ := tc_vin (hjx.trans j1) j2
            refine am_stepR hm hd (Or.inr (Or.inr (Or.inr (Or.inr (Or.inl ⟨hlen.1.1, x, jx, A a, s, N, f, rfl, c1, b1, ?_⟩)))))
            refine hG _ List.mem_cons_self V A κ _ sz sl lv s (tc_rel_set hr hκ (by rw [c1]; exact tk_fr_a hW rfl)) ?_ hz (tc_xpe_s hΓ hx hκ c1 rfl (fun p hp => by cases hp) (fun q hq => by cases hq)) hl e4 hq
            exact tk_H_arr hH hκ hT c1 rfl ⟨N, _, am_same, c2⟩
          · cases g
        · cases g
      · cases g
    · cases g
  | aastore =>
    unfold tc_wr at g
    dsimp only at g
    split at g
    · rename_i fb b I k1 f0 a r
      split at g
      · rename_i hlen
        obtain ⟨w, s, rfl, e0, e2⟩ := tc_st1 hs
        have e0 : w = .ref (A b) := e0
        subst e0
        obtain ⟨w, s, rfl, ⟨jx, rfl, hjx⟩, e3⟩ := tc_st1 e2
        obtain ⟨w, s, rfl, e1, e4⟩ := tc_st1 e3
        have e1 : w = .ref (A a) := e1
        subst e1
        split at g
        · rename_i k t fs rest kb sb cb restb hk hkb
          split at g
          · rename_i hc
            cases g
            obtain ⟨E, lo, hi, O⟩ := rest
            obtain ⟨hκ, hT, N, f, c1, c2, c3⟩ := tc_wk_s hx hH hk
            obtain ⟨hκb, -, hcb⟩ := tc_wk_s hx hH hkb
            have hW : (k, 0) ∈ D.2.2.2.2.1 := by simpa using hc.1.1
            have hlenA : tk_len M D.2.1 (A a) N := Or.inl ⟨t, _, c1, rfl⟩
            obtain ⟨j, j1, j2⟩ := tc_ixc_s hx hlen.2 hlenA
            have hjx : jx.toInt = tl_v V I := hjx
            obtain ⟨b1, b2⟩ := tc_vin (hjx.trans j1) j2
            have hK : ∃ k, am_W D.1 D.2.1 k D.2.2.2.1 (pc + 1) lv s (am_set M (A a) (am_qa t N (va_up f j (some (A b))))) sz sl D.2.2.2.2.2.2.2.2.2 := by
              refine hG _ List.mem_cons_self V A κ _ sz sl lv s (tc_rel_set hr hκ (by rw [c1]; exact tk_fr_a hW rfl)) ?_ hz (tc_xpe_s hΓ hx hκ c1 rfl (fun p hp => by cases hp) (tg_cv_4 hx.2.2.2.2.2.2.2 c1 j1)) hl e4 hq
              refine tk_H_arr hH hκ hT c1 rfl ⟨N, _, am_same, c2, fun τ hτ i hi => ?_⟩
              by_cases e : i = j
              · subst e
                have q := tc_al hc.1.2 τ (List.mem_of_getElem? hτ)
                obtain ⟨q1, q2⟩ := tc_and q
                have q1 : τ.1 = 2 ∨ τ.1 = 3 := by simpa using q1
                have : va_up f i (some (A b)) i = some (A b) := by simp [va_up]
                rw [this]
                exact ⟨q1, kb, hκb, by simpa using q2⟩
              · have q := c3 τ hτ i hi
                have : va_up f j (some (A b)) i = f i := by simp [va_up, e]
                rw [this]
                exact q
            rcases hc.2 with ⟨rfl, has⟩ | ⟨hsb, has⟩
            · obtain ⟨fsb, Eb, lob, hib, Ob⟩ := restb
              obtain ⟨vsb, d1, -⟩ := hcb
              refine am_stepR hm hd (Or.inr (Or.inr (Or.inr (Or.inr (Or.inl ⟨hlen.1, Or.inl ⟨A b, jx, A a, s, N, t, f, cb, vsb, rfl, c1, d1, has, b1, ?_⟩⟩)))))
              rw [b2]
              exact hK
            · obtain ⟨fsb, Eb, lob, hib, Ob⟩ := restb
              have key : ∃ x, M (A b) = some (.inl (cb, x)) := by
                match sb, hcb, hsb with
                | 0, _, q => omega
                | 1, ⟨N, f, d1, _⟩, _ => exact ⟨_, d1⟩
                | 2, ⟨N, f, d1, _⟩, _ => exact ⟨_, d1⟩
                | 3, ⟨N, f, d1, _⟩, _ => exact ⟨_, d1⟩
                | q + 4, _, q2 => omega
              obtain ⟨xb, d1⟩ := key
              refine am_stepR hm hd (Or.inr (Or.inr (Or.inr (Or.inr (Or.inl ⟨hlen.1, Or.inr (Or.inl ⟨A b, jx, A a, s, N, t, f, cb, xb, rfl, c1, d1, has, b1, ?_⟩)⟩)))))
              rw [b2]
              exact hK
          · cases g
        · cases g
      · cases g
    · rename_i fb b I k1 f0 a r
      split at g
      · rename_i hlen
        obtain ⟨w, s, rfl, e0, e2⟩ := tc_st1 hs
        have e0 : w = .null := e0
        subst e0
        obtain ⟨w, s, rfl, ⟨jx, rfl, hjx⟩, e3⟩ := tc_st1 e2
        obtain ⟨w, s, rfl, e1, e4⟩ := tc_st1 e3
        have e1 : w = .ref (A a) := e1
        subst e1
        split at g
        · rename_i k t fs rest hk
          split at g
          · rename_i Ecl hEcl
            split at g
            · rename_i hc
              cases g
              obtain ⟨E, lo, hi, O⟩ := rest
              obtain ⟨hκ, hT, N, f, c1, c2, c3⟩ := tc_wk_s hx hH hk
              have hW : (k, 0) ∈ D.2.2.2.2.1 := by simpa using hc.1
              have hlenA : tk_len M D.2.1 (A a) N := Or.inl ⟨t, _, c1, rfl⟩
              obtain ⟨j, j1, j2⟩ := tc_ixc_s hx hlen.2 hlenA
              have hjx : jx.toInt = tl_v V I := hjx
              obtain ⟨b1, b2⟩ := tc_vin (hjx.trans j1) j2
              refine am_stepR hm hd (Or.inr (Or.inr (Or.inr (Or.inr (Or.inl ⟨hlen.1, Or.inr (Or.inr ⟨jx, A a, s, N, t, f, Ecl, rfl, c1, hEcl, b1, ?_⟩)⟩)))))
              rw [b2]
              refine hG _ List.mem_cons_self V A κ _ sz sl lv s (tc_rel_set hr hκ (by rw [c1]; exact tk_fr_a hW rfl)) ?_ hz (tc_xpe_s hΓ hx hκ c1 rfl (fun p hp => by cases hp) (tg_cv_6 hx.2.2.2.2.2.2.2 c1 j1)) hl e4 hq
              refine tk_H_arr hH hκ hT c1 rfl ⟨N, _, am_same, c2, fun τ hτ i hi => ?_⟩
              by_cases e : i = j
              · subst e
                have q := tc_al hc.2 τ (List.mem_of_getElem? hτ)
                have : va_up f i none i = none := by simp [va_up]
                rw [this]
                show τ.1 = 3
                simpa using q
              · have q := c3 τ hτ i hi
                have : va_up f j none i = f i := by simp [va_up, e]
                rw [this]
                exact q
            · cases g
          · cases g
        · cases g
      · cases g
    · cases g
  | _ => cases g
end TCV
