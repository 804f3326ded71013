/-! TC: making is right -/
section TCBB
variable {Γ : tg_G} {RO : am_O} {κ κ' : Nat → Option Nat} {M M' : am_H} {sz sl sz' : Nat} {V : Nat → Int} {A : Nat → Nat} {X : tc_X} {T : tk_T}
theorem tc_sz_s (hx : tc_x Γ RO κ M sz V A X) {h : tc_h} {f : tl_F} {lo hi : Int} (g : tc_sz X h f lo hi = true) : (0 ≤ tl_v V f ∧ tl_v V f ≤ 67108864) ∧ (lo ≤ tl_v V f ∧ tl_v V f ≤ hi) := by
  obtain ⟨g1, g2⟩ := tc_and g
  obtain ⟨g1, g3⟩ := tc_and g1
  obtain ⟨g2, g4⟩ := tc_and g2
  have g1 := tl_pr_s hx.1 g1
  have g2 := tl_pr_s hx.1 g2
  have g3 := tl_pr_s hx.1 g3
  have g4 := tl_pr_s hx.1 g4
  rw [tl_ad_s, tl_neg_s] at g3 g4
  rw [tl_ad_s] at g2
  omega
theorem tc_cv7_s (hH : tk_H T RO κ M sz) (hz : ∀ a, sz ≤ a → κ a = none) (hx : tc_x Γ RO κ M sz V A X) {n m : Nat} (hw : tc_wx n m X = true) {k : Nat} {e : am_E} (he : tg_z (some e)) : ∀ q ∈ tg_cv7 m k X.2.2.2.2.2.2, tc_xq Γ RO (tk_up κ sz k) (am_set M sz e) V (ta_up A m sz) q := by
  obtain ⟨v1, v⟩ := tc_and hw
  obtain ⟨v2, v⟩ := tc_and v
  obtain ⟨v3, v⟩ := tc_and v
  obtain ⟨v4, v⟩ := tc_and v
  obtain ⟨v5, v⟩ := tc_and v
  obtain ⟨v6, v7⟩ := tc_and v
  refine tg_cv_7 (a := sz) hx.2.2.2.2.2.2.2 (fun p hp => List.map_congr_left (fun a ha => (ta_up_lt a ?_).symm)) ta_up_at (hz sz (Nat.le_refl _)) tk_up_at (by rw [am_same]; exact he) (fun b k1 hb => ?_) (fun b k1 h1 h2 => ?_)
  · exact of_decide_eq_true (tc_al (tc_and (tc_al v7 p hp)).1 a ha)
  · obtain ⟨g1, g2⟩ := tk_up_lt (κ := κ) (M := M) (sz := sz) (k := k) (e := e) b (hH b k1 hb).1
    exact ⟨g1.trans hb, g2⟩
  · by_cases q : b = sz
    · exact q
    · have h1 : (if b = sz then some k else κ b) = some k1 := h1
      rw [if_neg q, h2] at h1
      cases h1
end TCBB
/-- a row of a kind, made, and its name -/
theorem tc_mk_row {Q : List tg_P} {D : tc_D} {n m pc pc' : Nat} {X : tc_X} {L : tc_L} {S r : List tv_V} {zq lq zq' lq' f : tl_F} {k : Nat} {Wk : tc_W} (hΓ : tg_ok D.2.2.1.2) (hwf : tc_wf D.2.2.2.2.2.1 D.2.2.2.2.2.2.1 ((n, m), X, pc, L, S, zq, lq) = true) (hf : tl_lt n f = true) (hrl : r.all (tv_lt n m) = true) (hWk : ∀ p ∈ Wk, p ∈ D.2.2.2.2.1)
    (hG : tc_Ok D ((n, m + 1), tc_xat (tc_xln (tc_xk (tc_xkeep D.2.2.1.2.2 X Wk []) (m, k)) (m, f)) Q, pc', L, tv_a m :: r, zq', lq'))
    {V : Nat → Int} {A : Nat → Nat} {κ κ' : Nat → Option Nat} {M M' : am_H} {sz sl sz' sl' : Nat} {lv : am_L} {st : List Value}
    (hr : tc_rel D.2.2.2.2.1 D.2.2.2.2.2.1 D.2.2.2.2.2.2.1 D.2.2.2.2.2.2.2.1 D.2.2.2.2.2.2.2.2.1 V A κ M sz sl) (hH : tk_H D.2.2.1.1 D.2.1 κ M sz) (hz : ∀ a, sz ≤ a → κ a = none) (hx : tc_x D.2.2.1.2 D.2.1 κ M sz V A X) (hl : tc_lv V A L lv) (hs : tc_st V A r st) (hq : tc_rm D.2.2.2.2.2.2.2.1 D.2.2.2.2.2.2.2.2.1 V A zq lq X.2.2.2.2.2.1 sz sl)
    (h1 : ∀ a, a < sz → κ' a = κ a ∧ M' a = M a) (hle : sz ≤ sz') (hsl : sl ≤ sl') (h2 : ∀ a k, sz ≤ a → κ' a = some k → (k, 1000) ∈ Wk ∧ a < sz' ∧ ∃ K, D.2.2.1.1[k]? = some K ∧ tk_cell κ' D.2.1 M' a K) (hk : κ' sz = some k) (hlen : ∃ N : Nat, tk_len M' D.2.1 sz N ∧ tl_v V f = (N : Int)) (hzq : ((sz' : Int) - sz) + tl_v V zq ≤ tl_v V zq') (hlq : ((sl' : Int) - sl) + tl_v V lq ≤ tl_v V lq') (hzl : tl_lt n zq' = true ∧ tl_lt n lq' = true) (hQ : ∀ p ∈ Q, tc_xq D.2.2.1.2 D.2.1 κ' M' V (ta_up A m sz) p) :
    ∃ k, am_W D.1 D.2.1 k D.2.2.2.1 pc' lv (.ref sz :: st) M' sz' sl' D.2.2.2.2.2.2.2.2.2 := by
  obtain ⟨w0, w⟩ := tc_and hwf
  obtain ⟨w1, w⟩ := tc_and w
  obtain ⟨w2, w⟩ := tc_and w
  obtain ⟨w3, w⟩ := tc_and w
  obtain ⟨w4, w⟩ := tc_and w
  have w2 : tc_wx n m X = true := w2
  obtain ⟨e1, e2, e3⟩ := tc_ext_s hΓ hH hz hx h1 hle h2
  have hA : ∀ q, q < m → A q = ta_up A m sz q := ta_up_lt
  have hwk : tc_wx n m (tc_xkeep D.2.2.1.2.2 X Wk []) = true := by
    obtain ⟨v1, v⟩ := tc_and w2
    obtain ⟨v2, v⟩ := tc_and v
    obtain ⟨v3, v⟩ := tc_and v
    obtain ⟨v4, v⟩ := tc_and v
    obtain ⟨v5, v⟩ := tc_and v
    obtain ⟨v6, v7⟩ := tc_and v
    have fi : ∀ {α : Type} {p q : α → Bool} {l : List α}, l.all p = true → (l.filter q).all p = true := fun h => List.all_eq_true.mpr (fun x hx => tc_al h x (List.mem_filter.mp hx).1)
    exact (Bool.and_eq_true _ _).mpr ⟨v1, (Bool.and_eq_true _ _).mpr ⟨v2, (Bool.and_eq_true _ _).mpr ⟨fi v3, (Bool.and_eq_true _ _).mpr ⟨fi v4, (Bool.and_eq_true _ _).mpr ⟨fi v5, (Bool.and_eq_true _ _).mpr ⟨fi v6, fi v7⟩⟩⟩⟩⟩⟩
  have e4 := tc_x_lt (V' := V) (fun _ _ => rfl) hA hwk e3
  have e5 : ta_up A m sz m = sz := ta_up_at
  have e6 := tc_xln_s (tc_xk_s e4 (p := (m, k)) (by rw [e5]; exact hk)) (p := (m, f)) (by
    obtain ⟨N, g1, g2⟩ := hlen
    exact ⟨N, by rw [e5]; exact g1, g2⟩)
  have hr2 := tc_ext_rel hr hH h1 hle hsl (fun a k q1 q2 => hWk _ (h2 a k q1 q2).1)
  obtain ⟨q1, q2, q3⟩ := hq
  refine hG V (ta_up A m sz) κ' M' sz' sl' lv (.ref sz :: st) (tc_rel_A hr2 (of_decide_eq_true w1) hA) e1 e2 (tc_xat_s e6 hQ) (tc_lv_lt (fun _ _ => rfl) hA w3 hl) ⟨show _ = Value.ref (ta_up A m sz m) by rw [e5], tc_st_lt (fun _ _ => rfl) hA hrl hs⟩ ⟨?_, ?_, fun p hp => ?_⟩
  · show (sz' : Int) ≤ _ + tl_v V zq'
    omega
  · show (sl' : Int) ≤ _ + tl_v V lq'
    omega
  · have hp2 : p ∈ X.2.2.2.2.2.1 := (List.mem_filter.mp (show p ∈ X.2.2.2.2.2.1.filter _ from hp)).1
    have e7 := tc_wx6 (n := n) (X := X) w2
    rw [← hA _ (of_decide_eq_true (tc_and (tc_al e7 p hp2)).1)]
    exact q3 p hp2
set_option maxHeartbeats 1000000 in
theorem tc_mk_s {D : tc_D} {mt : am_Meth} {i : Instr} {len : Nat} {h : tc_h} {G : tc_G} {Gs : List tc_G} (hΓ : tg_ok D.2.2.1.2) (hm : am_meth D.1 D.2.2.2.1 = some mt) (hd : decode mt.2.1 G.2.2.1 = .ok (i, len)) (g : tc_mk D.1 D.2.2.1.1 D.2.2.1.2.2 D.2.2.2.2.1 mt.2.2.2.2.2.2 D.2.2.2.2.2.1 D.2.2.2.2.2.2.1 i len h G = some Gs) (hG : ∀ G' ∈ Gs, tc_Ok D G') : tc_Ok D G := by
  obtain ⟨⟨n, m⟩, X, pc, L, S, zq, lq⟩ := G
  intro V A κ M sz sl lv st hr hH hz hx hl hs hq
  unfold tc_mk at g
  dsimp only at g
  split at g
  · rename_i hwf
    obtain ⟨w0, wa⟩ := tc_and hwf
    obtain ⟨w1, wb⟩ := tc_and wa
    clear wa
    obtain ⟨w2, wc⟩ := tc_and wb
    clear wb
    obtain ⟨w3, wd⟩ := tc_and wc
    clear wc
    obtain ⟨w4, we⟩ := tc_and wd
    clear wd
    obtain ⟨w5, w6⟩ := tc_and we
    clear we
    replace w4 : S.all (tv_lt n m) = true := w4
    replace w5 : tl_lt n zq = true := w5
    replace w6 : tl_lt n lq = true := w6
    replace w2 : tc_wx n m X = true := w2
    cases i with
    | new x =>
      dsimp only at g
      split at g
      · rename_i hlen
        split at g
        · rename_i ci hci
          split at g
          · rename_i vals hvals
            cases g
            obtain ⟨e1, e2, e3⟩ := tc_ext_s (κ' := κ) (Wk := []) hΓ hH hz hx (am_set_lt (e := .inr (ci, am_df D.1 ci))) (Nat.le_succ sz) (fun a k q1 q2 => by
              rw [hz a q1] at q2
              cases q2)
            have hA : ∀ q, q < m → A q = ta_up A m sz q := ta_up_lt
            have e5 : ta_up A m sz m = sz := ta_up_at
            have hr2 := tc_ext_rel (sl' := sl + (am_df D.1 ci).length) hr hH (am_set_lt (e := .inr (ci, am_df D.1 ci))) (Nat.le_succ sz) (Nat.le_add_right _ _) (fun a k q1 q2 => by
              rw [hz a q1] at q2
              cases q2)
            have hwk : tc_wx n m (tc_xkeep D.2.2.1.2.2 X [] []) = true := by
              obtain ⟨v1, v⟩ := tc_and w2
              obtain ⟨v2, v⟩ := tc_and v
              obtain ⟨v3, v⟩ := tc_and v
              obtain ⟨v4, v⟩ := tc_and v
              obtain ⟨v5, v⟩ := tc_and v
              obtain ⟨v6, v7⟩ := tc_and v
              have fi : ∀ {α : Type} {p q : α → Bool} {l : List α}, l.all p = true → (l.filter q).all p = true := fun h => List.all_eq_true.mpr (fun x hx => tc_al h x (List.mem_filter.mp hx).1)
              exact (Bool.and_eq_true _ _).mpr ⟨v1, (Bool.and_eq_true _ _).mpr ⟨v2, (Bool.and_eq_true _ _).mpr ⟨fi v3, (Bool.and_eq_true _ _).mpr ⟨fi v4, (Bool.and_eq_true _ _).mpr ⟨fi v5, (Bool.and_eq_true _ _).mpr ⟨fi v6, fi v7⟩⟩⟩⟩⟩⟩
            have e4 := tc_x_lt (V' := V) (fun _ _ => rfl) hA hwk e3
            have hln := tc_st_ln (tc_dfv_s (V := V) (A := A) hvals)
            have hfr : ∀ p ∈ (tc_xkeep D.2.2.1.2.2 X [] []).2.2.2.2.2.1, ta_up A m sz p.1 < sz := by
              intro p hp
              have hp2 : p ∈ X.2.2.2.2.2.1 := (List.mem_filter.mp (show p ∈ X.2.2.2.2.2.1.filter _ from hp)).1
              have e7 := tc_wx6 (n := n) (X := X) w2
              rw [← hA _ (of_decide_eq_true (tc_and (tc_al e7 p hp2)).1)]
              exact (hx.2.2.2.2.2.1 p hp2).1
            obtain ⟨y1, y2, y3, y4, y5, y6, y7, y8⟩ := e4
            obtain ⟨q1, q2, q3⟩ := hq
            refine am_stepR hm hd (Or.inr (Or.inr (Or.inr (Or.inr (Or.inl ⟨hlen, ci, hci, ?_⟩)))))
            refine hG _ List.mem_cons_self V (ta_up A m sz) κ _ (sz + 1) _ lv (.ref sz :: st) (tc_rel_A hr2 (of_decide_eq_true w1) hA) e1 e2 ⟨y1, y2, y3, y4, y5, fun p hp => ?_, ⟨fun q hq2 => ?_, y7⟩, y8⟩ (tc_lv_lt (fun _ _ => rfl) hA w3 hl) ⟨show _ = Value.ref (ta_up A m sz m) by rw [e5], tc_st_lt (fun _ _ => rfl) hA w4 hs⟩ ⟨?_, ?_, fun p hp => ?_⟩
            · rcases List.mem_cons.mp hp with rfl | hp
              · exact ⟨by rw [e5]; exact Nat.lt_succ_self sz, by rw [e5]; exact hz sz (Nat.le_refl sz), _, by rw [e5]; exact am_same, tc_dfv_s hvals⟩
              · exact y6 p hp
            · show ta_up A m sz m ≠ _
              rw [e5]
              have := hfr q hq2
              omega
            · show ((sz + 1 : Nat) : Int) ≤ _ + tl_v V (tl_ad zq 1)
              rw [tl_ad_s]
              have q1 : (sz : Int) ≤ (D.2.2.2.2.2.2.2.2.1.2.2.2.2.1 : Int) + tl_v V zq := q1
              omega
            · show ((sl + (am_df D.1 ci).length : Nat) : Int) ≤ _ + tl_v V (tl_ad lq (vals.length : Int))
              rw [tl_ad_s]
              have q2 : (sl : Int) ≤ (D.2.2.2.2.2.2.2.2.1.2.2.2.2.2 : Int) + tl_v V lq := q2
              omega
            · rcases List.mem_cons.mp hp with rfl | hp
              · right
                show _ ≤ ta_up A m sz m
                rw [e5]
                exact hr.2.2.2.2.2.1
              · have hp2 : p ∈ X.2.2.2.2.2.1 := (List.mem_filter.mp (show p ∈ X.2.2.2.2.2.1.filter _ from hp)).1
                have e7 := tc_wx6 (n := n) (X := X) w2
                rw [← hA _ (of_decide_eq_true (tc_and (tc_al e7 p hp2)).1)]
                exact q3 p hp2
          · cases g
        · cases g
      · cases g
    | newarray ty =>
      dsimp only at g
      split at g
      · rename_i f x0 r
        split at g
        · rename_i s t s' t' fs E lo hi O hty hT
          split at g
          · rename_i hc
            cases g
            obtain ⟨⟨⟨hlen, hs1⟩, ht1⟩, hc⟩ := hc
            obtain ⟨hW, hc⟩ := tc_and hc
            obtain ⟨hsz, hE⟩ := tc_and hc
            subst hs1
            subst ht1
            obtain ⟨⟨b1, b2⟩, b3, b4⟩ := tc_sz_s hx hsz
            obtain ⟨v, s0, rfl, ⟨x, rfl, hxf⟩, e2⟩ := tc_st1 hs
            have hxf : x.toInt = tl_v V f := hxf
            obtain ⟨c1, c2⟩ := tc_clamp hxf b1
            have hW : ((tc_hi h 0).toNat, 1000) ∈ D.2.2.2.2.1 := by simpa using hW
            have key : ∃ a0 : vp_A, am_new ty x.toNatClampNeg = some (t', a0) ∧ a0.1 = x.toNatClampNeg ∧ tg_z (some (.inl (t', a0))) ∧ ∀ κ' : Nat → Option Nat, tk_cell κ' D.2.1 (am_set M sz (.inl (t', a0))) sz (s', t', fs, E, lo, hi, O) := by
              cases ty with
              | int =>
                cases hty
                exact ⟨_, rfl, rfl, ⟨⟨_, rfl⟩, fun ty n f q j => by
                  cases q
                  rfl⟩, fun κ' => ⟨_, _, am_same, by omega, fun j hj => tc_e0_s hE j⟩⟩
              | long =>
                cases hty
                exact ⟨_, rfl, rfl, ⟨⟨_, rfl⟩, fun ty n f q j => by cases q⟩, fun κ' => ⟨_, _, am_same, by omega⟩⟩
              | boolean =>
                cases hty
                exact ⟨_, rfl, rfl, ⟨⟨_, rfl⟩, fun ty n f q j => by
                  cases q
                  rfl⟩, fun κ' => ⟨_, _, am_same, by omega, fun j hj => tc_e0_s hE j⟩⟩
              | _ => cases hty
            obtain ⟨a0, d1, d2, d4, d3⟩ := key
            refine am_stepR hm hd (Or.inr (Or.inr (Or.inr (Or.inr (Or.inl ⟨hlen, x, s0, t', a0, rfl, c2, by omega, d1, ?_⟩)))))
            have hf0 := tc_alr w4
            have hf : tl_lt n f = true := (tc_and hf0.1).1
            refine tc_mk_row (Wk := [((tc_hi h 0).toNat, 1000)]) hΓ hwf hf hf0.2 (fun p hp => by
              rcases List.mem_cons.mp hp with rfl | hp
              · exact hW
              · cases hp) (hG _ List.mem_cons_self) hr hH hz hx hl e2 hq (tk_up_lt (k := (tc_hi h 0).toNat)) (Nat.le_succ sz) (Nat.le_add_right _ _) (fun a k q1 q2 => ?_) tk_up_at ⟨x.toNatClampNeg, Or.inl ⟨_, a0, am_same, d2⟩, c1.symm⟩ ?_ ?_ ⟨?_, ?_⟩ (tc_cv7_s hH hz hx w2 d4)
            · obtain ⟨rfl, rfl⟩ := tk_up_ge hz a k q1 q2
              exact ⟨List.mem_cons_self, Nat.lt_succ_self _, _, hT, d3 _⟩
            · rw [tl_ad_s]
              omega
            · rw [tl_app_s]
              omega
            · exact w5
            · show (lq.1 ++ f.1).all _ = true
              rw [List.all_append]
              exact (Bool.and_eq_true _ _).mpr ⟨w6, hf⟩
          · cases g
        · cases g
      · cases g
    | anewarray x =>
      dsimp only at g
      split at g
      · rename_i f x0 r
        split at g
        · rename_i t s' t' fs E lo hi O hty hT
          split at g
          · rename_i hc
            cases g
            obtain ⟨⟨⟨hlen, hs1⟩, ht1⟩, hc⟩ := hc
            obtain ⟨hW, hc⟩ := tc_and hc
            obtain ⟨hsz, hE⟩ := tc_and hc
            subst hs1
            subst ht1
            obtain ⟨⟨b1, b2⟩, b3, b4⟩ := tc_sz_s hx hsz
            obtain ⟨v, s0, rfl, ⟨x1, rfl, hxf⟩, e2⟩ := tc_st1 hs
            have hxf : x1.toInt = tl_v V f := hxf
            obtain ⟨c1, c2⟩ := tc_clamp hxf b1
            have hW : ((tc_hi h 0).toNat, 1000) ∈ D.2.2.2.2.1 := by simpa using hW
            refine am_stepR hm hd (Or.inr (Or.inr (Or.inr (Or.inr (Or.inl ⟨hlen, x1, s0, t', rfl, c2, by omega, hty, ?_⟩)))))
            have hf0 := tc_alr w4
            have hf : tl_lt n f = true := (tc_and hf0.1).1
            refine tc_mk_row (Wk := [((tc_hi h 0).toNat, 1000)]) hΓ hwf hf hf0.2 (fun p hp => by
              rcases List.mem_cons.mp hp with rfl | hp
              · exact hW
              · cases hp) (hG _ List.mem_cons_self) hr hH hz hx hl e2 hq (tk_up_lt (k := (tc_hi h 0).toNat)) (Nat.le_succ sz) (Nat.le_add_right _ _) (fun a k q1 q2 => ?_) tk_up_at ⟨x1.toNatClampNeg, Or.inl ⟨_, _, am_same, rfl⟩, c1.symm⟩ ?_ ?_ ⟨?_, ?_⟩ (tc_cv7_s hH hz hx w2 ⟨⟨_, rfl⟩, fun ty n f q j => by cases q⟩)
            · obtain ⟨rfl, rfl⟩ := tk_up_ge hz a k q1 q2
              refine ⟨List.mem_cons_self, Nat.lt_succ_self _, _, hT, _, _, am_same, by omega, fun τ hτ j hj => ?_⟩
              have q := tc_al hE τ (List.mem_of_getElem? hτ)
              show τ.1 = 3
              simpa using q
            · rw [tl_ad_s]
              omega
            · rw [tl_app_s]
              omega
            · exact w5
            · show (lq.1 ++ f.1).all _ = true
              rw [List.all_append]
              exact (Bool.and_eq_true _ _).mpr ⟨w6, hf⟩
          · cases g
        · cases g
      · cases g
    | multianewarray x d =>
      dsimp only at g
      split at g
      · rename_i fk x0 fn x1 r
        split at g
        · rename_i K N s1 t1 fs E1 lo1 hi1 O1 s2 t2 fs2 E2 lo2 hi2 O2 hK hN hT1 hT2
          split at g
          · rename_i hc
            cases g
            obtain ⟨⟨⟨⟨hlen, hd2⟩, hs1, hs2⟩, hnt, ht2⟩, ⟨⟨⟨hK0, hK1⟩, hN0, hN1⟩, ⟨hl1, hh1⟩, hl2, hh2⟩, hc⟩ := hc
            obtain ⟨hc1, hfs⟩ := tc_and hc
            obtain ⟨hW1, hW2⟩ := tc_and hc1
            have hW1 : ((tc_hi h 0).toNat, 1000) ∈ D.2.2.2.2.1 := by simpa using hW1
            have hW2 : ((tc_hi h 1).toNat, 1000) ∈ D.2.2.2.2.1 := by simpa using hW2
            subst hs1
            subst hs2
            subst ht2
            obtain ⟨v, s0, rfl, ⟨xk, rfl, hxk⟩, e2⟩ := tc_st1 hs
            obtain ⟨v, s0, rfl, ⟨xn, rfl, hxn⟩, e3⟩ := tc_st1 e2
            have hxk : xk.toInt = K := hxk.trans (tl_kc_s hK)
            have hxn : xn.toInt = N := hxn.trans (tl_kc_s hN)
            obtain ⟨c1, c2⟩ := tc_clamp hxk hK0
            obtain ⟨c3, c4⟩ := tc_clamp hxn hN0
            refine am_stepR hm hd (Or.inr (Or.inr (Or.inr (Or.inr (Or.inl ⟨hlen, hd2, xk, xn, s0, t1, rfl, hnt, c4, c2, by omega, by omega, ?_⟩)))))
            have hf0 := tc_alr w4
            have hf1 := tc_alr hf0.2
            refine tc_mk_row (κ' := fun q => if q = sz then some (tc_hi h 0).toNat else if sz < q ∧ q < sz + 1 + xn.toNatClampNeg then some (tc_hi h 1).toNat else κ q) (sz' := sz + 1 + xn.toNatClampNeg) (Wk := [((tc_hi h 0).toNat, 1000), ((tc_hi h 1).toNat, 1000)]) hΓ hwf rfl hf1.2 (fun p hp => by
              rcases List.mem_cons.mp hp with rfl | hp
              · exact hW1
              rcases List.mem_cons.mp hp with rfl | hp
              · exact hW2
              · cases hp) (hG _ List.mem_cons_self) hr hH hz hx hl e3 hq (fun a ha => ⟨?_, ?_⟩) (by omega) (by omega) (fun a k q1 q2 => ?_) (if_pos rfl) ⟨xn.toNatClampNeg, Or.inl ⟨t1, (xn.toNatClampNeg, .inr (.inr (.inr (.inr (fun i => if i < xn.toNatClampNeg then some (sz + 1 + i) else none))))), ?_, rfl⟩, (tl_c_s V N).trans c3.symm⟩ ?_ ?_ ⟨?_, ?_⟩ (fun p hp => by cases hp)
            · show (if a = sz then _ else if sz < a ∧ _ then _ else κ a) = κ a
              rw [if_neg (by omega), if_neg (by omega)]
            · unfold am_mna
              rw [if_neg (by omega), if_neg (by omega)]
            · have q2 : (if a = sz then some (tc_hi h 0).toNat else if sz < a ∧ a < sz + 1 + xn.toNatClampNeg then some (tc_hi h 1).toNat else κ a) = some k := q2
              by_cases q : a = sz
              · subst q
                rw [if_pos rfl] at q2
                cases q2
                refine ⟨List.mem_cons_self, by omega, _, hT1, xn.toNatClampNeg, (fun i => if i < xn.toNatClampNeg then some (a + 1 + i) else none), ?_, by omega, fun τ hτ j hj => ?_⟩
                · unfold am_mna
                  rw [if_pos rfl]
                · have q := tc_al hfs τ (List.mem_of_getElem? hτ)
                  obtain ⟨u1, u2⟩ := tc_and q
                  show tk_el _ τ (if j < xn.toNatClampNeg then some (a + 1 + j) else none)
                  rw [if_pos hj]
                  refine ⟨by simpa using u1, (tc_hi h 1).toNat, ?_, by simpa using u2⟩
                  show (if a + 1 + j = a then _ else if a < a + 1 + j ∧ a + 1 + j < a + 1 + xn.toNatClampNeg then _ else _) = _
                  rw [if_neg (by omega), if_pos (by omega)]
              · rw [if_neg q] at q2
                by_cases q3 : sz < a ∧ a < sz + 1 + xn.toNatClampNeg
                · rw [if_pos q3] at q2
                  cases q2
                  refine ⟨List.mem_cons_of_mem _ List.mem_cons_self, q3.2, _, hT2, xk.toNatClampNeg, fun _ => 0, ?_, by omega⟩
                  unfold am_mna
                  rw [if_neg q, if_pos q3]
                · rw [if_neg q3, hz a q1] at q2
                  cases q2
            · unfold am_mna
              rw [if_pos rfl]
              rfl
            · rw [tl_ad_s]
              omega
            · rw [tl_ad_s]
              have : ((sl + xn.toNatClampNeg + xn.toNatClampNeg * xk.toNatClampNeg : Nat) : Int) = sl + N + N * K := by
                rw [Int.natCast_add, Int.natCast_add, Int.natCast_mul, c1, c3]
              omega
            · exact w5
            · exact w6
          · cases g
        · cases g
      · cases g
    | _ => cases g
  · cases g
