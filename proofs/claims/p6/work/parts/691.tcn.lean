/-! TC: natives; what was made gets its kind -/
theorem tc_nfw : nativeFrameWords "java/lang/System" "arraycopy" 5 + 11 ≤ 26 := by decide +kernel
/-- elements' bounds that hold wherever they stand -/
def tc_eu (E E' : List tk_E) : Bool := E'.isEmpty || (match E' with
  | [e'] => (match E with
    | [e] => decide (e = e' ∧ e.2.1 = 0 ∧ e.2.2.2 = 0)
    | _ => false)
  | _ => false)
theorem tc_eu_s {E E' : List tk_E} (h : tc_eu E E' = true) {j : Nat} {x : Int} (g : tk_eb E j x) (i : Nat) : tk_eb E' i x := by
  intro e he
  rcases (Bool.or_eq_true _ _).mp h with h0 | h0
  · have : E' = [] := by simpa using h0
    rw [this] at he
    simp at he
  · clear h
    split at h0
    · rename_i e1
      split at h0
      · rename_i e2
        obtain ⟨h1, h2, h3⟩ := of_decide_eq_true h0
        have q : e1 = e := by
          have he2 : ([e1] : List tk_E)[i % 1]? = some e := he
          rw [Nat.mod_one] at he2
          cases he2
          rfl
        subst q
        have q2 := g e2 (by
          show ([e2] : List tk_E)[j % 1]? = _
          rw [Nat.mod_one]
          rfl)
        rw [h1] at q2 h2 h3
        rw [h2, h3] at q2 ⊢
        simp only [Int.zero_mul] at q2 ⊢
        exact q2
      · cases h0
    · cases h0
/-- what stays of a row's kind when ints of a row that an atom names are written -/
def tg_fr (Γ : tg_G) : Prop := ∀ (t k : Nat), (k, 4000) ∈ Γ.2 t → ∀ (RO : am_O) (κ : Nat → Option Nat) (M : am_H) (as : List Nat) (is : List Int) (a ty n : Nat) (f f' : Nat → Int32), a ∈ as → κ a = some k → M a = some (.inl (ty, n, .inl f)) → Γ.1 t RO κ M as is → Γ.1 t RO κ (am_set M a (.inl (ty, n, .inl f'))) as is
def tg_fl (fp : Nat → List (Nat × Nat)) (k a : Nat) (l : List tg_P) : List tg_P := l.filter (fun p => (p.1 % 8 == 0) && (p.2.1.contains a && (fp (p.1 / 8)).contains (k, 4000)))
theorem tg_fl_s {Γ : tg_G} {RO : am_O} {κ : Nat → Option Nat} {M : am_H} {V : Nat → Int} {A : Nat → Nat} (hf : tg_fr Γ) {a k ty n : Nat} {f f' : Nat → Int32} (hκ : κ (A a) = some k) (hM : M (A a) = some (.inl (ty, n, .inl f))) {l : List tg_P} (hl : ∀ p ∈ l, tc_xq Γ RO κ M V A p) : ∀ q ∈ tg_fl Γ.2 k a l, tc_xq Γ RO κ (am_set M (A a) (.inl (ty, n, .inl f'))) V A q := by
  intro q hq
  obtain ⟨h1, h2⟩ := List.mem_filter.mp hq
  obtain ⟨e1, e2⟩ := tc_and h2
  obtain ⟨e2, e3⟩ := tc_and e2
  have e1 : q.1 % 8 = 0 := by simpa using e1
  have e2 : a ∈ q.2.1 := by simpa using e2
  have e3 : (k, 4000) ∈ Γ.2 (q.1 / 8) := by simpa using e3
  have g := hl q h1
  rw [tg_q0 e1] at g ⊢
  exact hf _ _ e3 RO κ M _ _ (A a) ty n f f' (List.mem_map.mpr ⟨a, e2, rfl⟩) hκ hM g
/-- hint: certificates 0 .. 4 of a copy; of Math: 0, 1 the ways that can't be -/
def tc_na (P : am_P) (T : tk_T) (fp : Nat → List (Nat × Nat)) (W : tc_W) (mt : am_Meth) (i : Instr) (len : Nat) (h : tc_h) (G : tc_G) : Option (List tc_G) := match G with
  | ((n, m), X, pc, L, S, zq, lq) => match i with
    | .checkcast x => (match S with
      | (2, _, a) :: _ => (match tc_wk T X a with
        | some (_, (1, 0, _)) => if len = 3 ∧ am_nt P mt.2.2.2.2.2.2 x = 4 then some [((n, m), X, pc + 3, L, S, zq, lq)] else none
        | _ => none)
      | _ => none)
    | .invokespecial x => (match S with
      | (2, _, _) :: r => if (len = 3 ∧ am_nt P mt.2.2.2.2.2.2 x = 2) ∧ (1 ≤ mt.2.2.2.2.1 ∧ tc_slots r + 12 ≤ mt.2.2.2.2.2.1) then some [((n, m), X, pc + 3, L, r, zq, lq)] else none
      | _ => none)
    | .invokestatic x => if am_nt P mt.2.2.2.2.2.2 x = 1 then (match S with
      | (0, k, _) :: (0, dp, _) :: (2, _, a) :: (0, sp, _) :: (2, _, a0) :: r => (match tc_wk T X a0, tc_wk T X a, tc_lnf X a0, tc_lnf X a with
        | some (_, (1, 0, _, E0, _)), some (ka, (1, 0, _, E, _)), some f0, some f1 => if ((len = 3 ∧ (1 ≤ mt.2.2.2.2.1 ∧ tc_slots r + 26 ≤ mt.2.2.2.2.2.1)) ∧ (W.contains (ka, 0) = true ∧ tc_eu E0 E = true)) ∧ ((tl_pr X.1 k (tc_cf h 0) && (tl_pr X.1 dp (tc_cf h 1) && tl_pr X.1 sp (tc_cf h 2))) && (tl_pr X.1 (tl_sub f0 (tl_app sp k)) (tc_cf h 3) && tl_pr X.1 (tl_sub f1 (tl_app dp k)) (tc_cf h 4))) = true then
            some [((n, m), tc_xpe fp X ka [] (tg_fl fp ka a X.2.2.2.2.2.2), pc + 3, L, r, zq, lq)] else none
        | _, _, _, _ => none)
      | _ => none) else if am_nt P mt.2.2.2.2.2.2 x = 10 then (match S with
      | (0, b, y) :: (0, a, z) :: r => if len = 3 ∧ (1 ≤ mt.2.2.2.2.1 ∧ tc_slots r + 15 ≤ mt.2.2.2.2.2.1) then some ((tc_w1 X.1 h 0 (pc + 3) ((0, b, y) :: r) [tl_ad (tl_sub b a) (-1)] ++ tc_w1 X.1 h 1 (pc + 3) ((0, a, z) :: r) [tl_sub a b]).map (fun w => ((n, m), tc_xa X w.2.2, w.1, L, w.2.1, zq, lq))) else none
      | _ => none) else if am_nt P mt.2.2.2.2.2.2 x = 11 then (match S with
      | (0, b, y) :: (0, a, z) :: r => if len = 3 ∧ (1 ≤ mt.2.2.2.2.1 ∧ tc_slots r + 15 ≤ mt.2.2.2.2.2.1) then some ((tc_w1 X.1 h 0 (pc + 3) ((0, b, y) :: r) [tl_ad (tl_sub a b) (-1)] ++ tc_w1 X.1 h 1 (pc + 3) ((0, a, z) :: r) [tl_sub b a]).map (fun w => ((n, m), tc_xa X w.2.2, w.1, L, w.2.1, zq, lq))) else none
      | _ => none) else if am_nt P mt.2.2.2.2.2.2 x = 12 then (match S with
      | t :: u :: r => if (tv_k t = 1 ∧ tv_k u = 1) ∧ (len = 3 ∧ (1 ≤ mt.2.2.2.2.1 ∧ tc_slots r + 15 ≤ mt.2.2.2.2.2.1)) then some [((n, m), X, pc + 3, L, tv_j :: r, zq, lq)] else none
      | _ => none) else if am_nt P mt.2.2.2.2.2.2 x = 13 then (match S with
      | t :: r => if tv_k t = 1 ∧ (len = 3 ∧ (1 ≤ mt.2.2.2.2.1 ∧ tc_slots r + 15 ≤ mt.2.2.2.2.2.1)) then some [((n, m), X, pc + 3, L, tv_j :: r, zq, lq)] else none
      | _ => none) else none
    | _ => none
theorem tc_wk2 {Γ : tg_G} {RO : am_O} {κ : Nat → Option Nat} {M : am_H} {sz : Nat} {V : Nat → Int} {A : Nat → Nat} {X : tc_X} {T : tk_T} (hx : tc_x Γ RO κ M sz V A X) (hH : tk_H T RO κ M sz) {a k : Nat} {K : tk_K} (g : tc_wk T X a = some (k, K)) : κ (A a) = some k ∧ T[k]? = some K ∧ tk_cell κ RO M (A a) K := tc_wk_s hx hH g
theorem tc_lnN {Γ : tg_G} {RO : am_O} {κ : Nat → Option Nat} {M : am_H} {sz : Nat} {V : Nat → Int} {A : Nat → Nat} {X : tc_X} (hx : tc_x Γ RO κ M sz V A X) {a N t : Nat} {x : vp_A} {f : tl_F} (g : tc_lnf X a = some f) (hM : M (A a) = some (.inl (t, x))) (hN : x.1 = N) : tl_v V f = (N : Int) := by
  obtain ⟨N', q1, q2⟩ := tc_lnf_s hx g
  have := tk_len_1 q1 (Or.inl ⟨t, x, hM, hN⟩)
  rw [← this]
  exact q2
theorem tc_mth_ok {D : tc_D} {mt : am_Meth} {x len j pc : Nat} {vs r : List Value} {v : Value} {lv : am_L} {M : am_H} {sz sl : Nat} (hm : am_meth D.1 D.2.2.2.1 = some mt) (hd : decode mt.2.1 pc = .ok (.invokestatic x, len)) (hnt : am_nt D.1 mt.2.2.2.2.2.2 x = 10 + j) (hv : am_mth j vs = some v) (h1 : len = 3) (h2 : 1 ≤ mt.2.2.2.2.1) (h3 : am_cat r + 15 ≤ mt.2.2.2.2.2.1) (hK : ∃ k, am_W D.1 D.2.1 k D.2.2.2.1 (pc + 3) lv (v :: r) M sz sl D.2.2.2.2.2.2.2.2.2) : ∃ k, am_W D.1 D.2.1 k D.2.2.2.1 pc lv (vs ++ r) M sz sl D.2.2.2.2.2.2.2.2.2 := am_stepR hm hd (Or.inr (Or.inr (Or.inr (Or.inr (Or.inr (Or.inr (Or.inr ⟨h1, Or.inr ⟨j, vs, r, v, hnt, rfl, hv, h2, h3, hK⟩⟩)))))))
set_option maxHeartbeats 1000000 in
theorem tc_na_s {D : tc_D} {mt : am_Meth} {i : Instr} {len : Nat} {h : tc_h} {G : tc_G} {Gs : List tc_G} (hΓ : tg_ok D.2.2.1.2) (hfr0 : tg_fr D.2.2.1.2) (hm : am_meth D.1 D.2.2.2.1 = some mt) (hd : decode mt.2.1 G.2.2.1 = .ok (i, len)) (g : tc_na D.1 D.2.2.1.1 D.2.2.1.2.2 D.2.2.2.2.1 mt i len h G = some Gs) (hG : ∀ G' ∈ Gs, tc_Ok D G') : tc_Ok D G := by
  obtain ⟨⟨n, m⟩, X, pc, L, S, zq, lq⟩ := G
  intro V A κ M sz sl lv st hr hH hz hx hl hs hq
  unfold tc_na at g
  cases i with
  | checkcast x =>
    dsimp only at g
    split at g
    · rename_i f0 a r
      split at g
      · rename_i k rest hk
        split at g
        · rename_i hc
          cases g
          obtain ⟨v, s, rfl, e1, e2⟩ := tc_st1 hs
          have e1 : v = .ref (A a) := e1
          subst e1
          obtain ⟨fs, E, lo, hi, O⟩ := rest
          obtain ⟨-, -, N, f, c1, -⟩ := tc_wk2 hx hH hk
          exact am_stepR hm hd (Or.inr (Or.inr (Or.inr (Or.inr (Or.inl ⟨hc.1, hc.2, A a, s, _, rfl, c1, hG _ List.mem_cons_self V A κ M sz sl lv _ hr hH hz hx hl ⟨rfl, e2⟩ hq⟩)))))
        · cases g
      · cases g
    · cases g
  | invokespecial x =>
    dsimp only at g
    split at g
    · rename_i f0 a r
      split at g
      · rename_i hc
        cases g
        obtain ⟨v, s, rfl, e1, e2⟩ := tc_st1 hs
        have e1 : v = .ref (A a) := e1
        subst e1
        refine am_stepR hm hd (Or.inr (Or.inr (Or.inr (Or.inr (Or.inr (Or.inr (Or.inr ⟨hc.1.1, hc.1.2, A a, s, rfl, hc.2.1, ?_, hG _ List.mem_cons_self V A κ M sz sl lv _ hr hH hz hx hl e2 hq⟩)))))))
        rw [tc_cat_s e2]
        exact hc.2.2
      · cases g
    · cases g
  | invokestatic x =>
    dsimp only at g
    split at g
    · rename_i hnt
      split at g
      · rename_i k x1 dp x2 x3 a sp x4 x5 a0 r
        split at g
        · rename_i k0 fs0 E0 r0 ka fs E r1 f0 f1 hk0 hka hf0 hf1
          split at g
          · rename_i hc
            cases g
            obtain ⟨⟨⟨hlen, hfr, hsl⟩, hW, hE⟩, hb⟩ := hc
            obtain ⟨hb1, hb2⟩ := tc_and hb
            obtain ⟨p0, hb1⟩ := tc_and hb1
            obtain ⟨p1, p2⟩ := tc_and hb1
            obtain ⟨p3, p4⟩ := tc_and hb2
            obtain ⟨v, s, rfl, ⟨xk, rfl, hxk⟩, e2⟩ := tc_st1 hs
            obtain ⟨v, s, rfl, ⟨xd, rfl, hxd⟩, e3⟩ := tc_st1 e2
            obtain ⟨v, s, rfl, e1, e4⟩ := tc_st1 e3
            have e1 : v = .ref (A a) := e1
            subst e1
            obtain ⟨v, s, rfl, ⟨xs, rfl, hxs⟩, e5⟩ := tc_st1 e4
            obtain ⟨v, s, rfl, e6, e7⟩ := tc_st1 e5
            have e6 : v = .ref (A a0) := e6
            subst e6
            obtain ⟨lo0, hi0, O0⟩ := r0
            obtain ⟨lo1, hi1, O1⟩ := r1
            obtain ⟨-, -, N0, g0, c1, c2, c3⟩ := tc_wk2 hx hH hk0
            obtain ⟨hκ, hT, N1, g1, d1, d2, d3⟩ := tc_wk2 hx hH hka
            have n0 := tc_lnN hx hf0 c1 rfl
            have n1 := tc_lnN hx hf1 d1 rfl
            have p0 := tl_pr_s hx.1 p0
            have p1 := tl_pr_s hx.1 p1
            have p2 := tl_pr_s hx.1 p2
            have p3 := tl_pr_s hx.1 p3
            have p4 := tl_pr_s hx.1 p4
            rw [tl_sub_s, tl_app_s] at p3 p4
            have hxk : xk.toInt = tl_v V k := hxk
            have hxd : xd.toInt = tl_v V dp := hxd
            have hxs : xs.toInt = tl_v V sp := hxs
            obtain ⟨u1, u2⟩ := tc_clamp hxk p0
            obtain ⟨u3, u4⟩ := tc_clamp hxd p1
            obtain ⟨u5, u6⟩ := tc_clamp hxs p2
            have hW : (ka, 0) ∈ D.2.2.2.2.1 := by simpa using hW
            have hN0 : (N0 : Int) = tl_v V f0 := n0.symm
            have hN1 : (N1 : Int) = tl_v V f1 := n1.symm
            refine am_stepR hm hd (Or.inr (Or.inr (Or.inr (Or.inr (Or.inr (Or.inr (Or.inr ⟨hlen, Or.inl ⟨hnt, xk, xd, A a, xs, A a0, s, N0, N1, g0, g1, rfl, c1, d1, u6, u4, u2, by omega, by omega, hfr, ?_, ?_⟩⟩)))))))
            · rw [tc_cat_s e7]
              have := tc_nfw
              omega
            · refine hG _ List.mem_cons_self V A κ _ sz sl lv s (tc_rel_set hr hκ (by rw [d1]; exact tk_fr_a hW rfl)) (tk_H_arr hH hκ hT d1 rfl ⟨N1, _, am_same, d2, fun i hi => ?_⟩) hz (tc_xpe_s hΓ hx hκ d1 rfl (fun p hp => by cases hp) (tg_fl_s hfr0 hκ d1 hx.2.2.2.2.2.2.2)) hl e7 hq
              unfold va_cpy
              split
              · exact tc_eu_s hE (c3 _ (by omega)) i
              · exact d3 i hi
          · cases g
        · cases g
      · cases g
    · split at g
      · rename_i hnt
        split at g
        · rename_i b y a z r
          split at g
          · rename_i hc
            cases g
            obtain ⟨v, s, rfl, ⟨xb, rfl, hxb⟩, e2⟩ := tc_st1 hs
            obtain ⟨v, s, rfl, ⟨xa, rfl, hxa⟩, e3⟩ := tc_st1 e2
            have hxb : xb.toInt = tl_v V b := hxb
            have hxa : xa.toInt = tl_v V a := hxa
            have hgo : ∀ w ∈ tc_w1 X.1 h 0 (pc + 3) ((0, b, y) :: r) [tl_ad (tl_sub b a) (-1)] ++ tc_w1 X.1 h 1 (pc + 3) ((0, a, z) :: r) [tl_sub a b], (∀ f ∈ w.2.2, 0 ≤ tl_v V f) → ∀ st', tc_st V A w.2.1 st' → ∃ k, am_W D.1 D.2.1 k D.2.2.2.1 w.1 lv st' M sz sl D.2.2.2.2.2.2.2.2.2 := fun w hw hf st' hst => hG _ (List.mem_map.mpr ⟨w, hw, rfl⟩) V A κ M sz sl lv st' hr hH hz (tc_xa_s hx hf) hl hst hq
            refine tc_mth_ok (j := 0) (vs := [.int xb, .int xa]) (r := s) (v := .int (if xa < xb then xb else xa)) hm hd hnt rfl hc.1 hc.2.1 (by rw [tc_cat_s e3]; exact hc.2.2) ?_
            by_cases q : xa < xb
            · rw [if_pos q]
              have q2 := Int32.lt_iff_toInt_lt.mp q
              refine tc_w1_s (V := V) (A := A) hx.1 (fun f hf => ?_) (K := fun t st' => ∃ k, am_W D.1 D.2.1 k D.2.2.2.1 t lv st' M sz sl D.2.2.2.2.2.2.2.2.2) (fun w hw hf st' hst => hgo w (List.mem_append_left _ hw) hf st' hst) ⟨⟨xb, rfl, hxb⟩, e3⟩
              rcases List.mem_cons.mp hf with rfl | hf
              · rw [tl_ad_s, tl_sub_s]
                omega
              · cases hf
            · rw [if_neg q]
              have q2 : ¬ xa.toInt < xb.toInt := fun z => q (Int32.lt_iff_toInt_lt.mpr z)
              refine tc_w1_s (V := V) (A := A) hx.1 (fun f hf => ?_) (K := fun t st' => ∃ k, am_W D.1 D.2.1 k D.2.2.2.1 t lv st' M sz sl D.2.2.2.2.2.2.2.2.2) (fun w hw hf st' hst => hgo w (List.mem_append_right _ hw) hf st' hst) ⟨⟨xa, rfl, hxa⟩, e3⟩
              rcases List.mem_cons.mp hf with rfl | hf
              · rw [tl_sub_s]
                omega
              · cases hf
          · cases g
        · cases g
      · split at g
        · rename_i hnt
          split at g
          · rename_i b y a z r
            split at g
            · rename_i hc
              cases g
              obtain ⟨v, s, rfl, ⟨xb, rfl, hxb⟩, e2⟩ := tc_st1 hs
              obtain ⟨v, s, rfl, ⟨xa, rfl, hxa⟩, e3⟩ := tc_st1 e2
              have hxb : xb.toInt = tl_v V b := hxb
              have hxa : xa.toInt = tl_v V a := hxa
              have hgo : ∀ w ∈ tc_w1 X.1 h 0 (pc + 3) ((0, b, y) :: r) [tl_ad (tl_sub a b) (-1)] ++ tc_w1 X.1 h 1 (pc + 3) ((0, a, z) :: r) [tl_sub b a], (∀ f ∈ w.2.2, 0 ≤ tl_v V f) → ∀ st', tc_st V A w.2.1 st' → ∃ k, am_W D.1 D.2.1 k D.2.2.2.1 w.1 lv st' M sz sl D.2.2.2.2.2.2.2.2.2 := fun w hw hf st' hst => hG _ (List.mem_map.mpr ⟨w, hw, rfl⟩) V A κ M sz sl lv st' hr hH hz (tc_xa_s hx hf) hl hst hq
              refine tc_mth_ok (j := 1) (vs := [.int xb, .int xa]) (r := s) (v := .int (if xb < xa then xb else xa)) hm hd hnt rfl hc.1 hc.2.1 (by rw [tc_cat_s e3]; exact hc.2.2) ?_
              by_cases q : xb < xa
              · rw [if_pos q]
                have q2 := Int32.lt_iff_toInt_lt.mp q
                refine tc_w1_s (V := V) (A := A) hx.1 (fun f hf => ?_) (K := fun t st' => ∃ k, am_W D.1 D.2.1 k D.2.2.2.1 t lv st' M sz sl D.2.2.2.2.2.2.2.2.2) (fun w hw hf st' hst => hgo w (List.mem_append_left _ hw) hf st' hst) ⟨⟨xb, rfl, hxb⟩, e3⟩
                rcases List.mem_cons.mp hf with rfl | hf
                · rw [tl_ad_s, tl_sub_s]
                  omega
                · cases hf
              · rw [if_neg q]
                have q2 : ¬ xb.toInt < xa.toInt := fun z => q (Int32.lt_iff_toInt_lt.mpr z)
                refine tc_w1_s (V := V) (A := A) hx.1 (fun f hf => ?_) (K := fun t st' => ∃ k, am_W D.1 D.2.1 k D.2.2.2.1 t lv st' M sz sl D.2.2.2.2.2.2.2.2.2) (fun w hw hf st' hst => hgo w (List.mem_append_right _ hw) hf st' hst) ⟨⟨xa, rfl, hxa⟩, e3⟩
                rcases List.mem_cons.mp hf with rfl | hf
                · rw [tl_sub_s]
                  omega
                · cases hf
            · cases g
          · cases g
        · split at g
          · rename_i hnt
            split at g
            · rename_i t u r
              split at g
              · rename_i hc
                cases g
                obtain ⟨v, s, rfl, e1, e2⟩ := tc_st1 hs
                obtain ⟨xb, rfl⟩ := tv_k1 e1 hc.1.1
                obtain ⟨v, s, rfl, e3, e4⟩ := tc_st1 e2
                obtain ⟨xa, rfl⟩ := tv_k1 e3 hc.1.2
                exact tc_mth_ok (j := 2) (vs := [.long xb, .long xa]) (r := s) hm hd hnt rfl hc.2.1 hc.2.2.1 (by rw [tc_cat_s e4]; exact hc.2.2.2) (hG _ List.mem_cons_self V A κ M sz sl lv _ hr hH hz hx hl ⟨⟨_, rfl⟩, e4⟩ hq)
              · cases g
            · cases g
          · split at g
            · rename_i hnt
              split at g
              · rename_i t r
                split at g
                · rename_i hc
                  cases g
                  obtain ⟨v, s, rfl, e1, e2⟩ := tc_st1 hs
                  obtain ⟨xb, rfl⟩ := tv_k1 e1 hc.1
                  exact tc_mth_ok (j := 3) (vs := [.long xb]) (r := s) hm hd hnt rfl hc.2.1 hc.2.2.1 (by rw [tc_cat_s e2]; exact hc.2.2.2) (hG _ List.mem_cons_self V A κ M sz sl lv _ hr hH hz hx hl ⟨⟨_, rfl⟩, e2⟩ hq)
                · cases g
              · cases g
            · cases g
  | _ => cases g
