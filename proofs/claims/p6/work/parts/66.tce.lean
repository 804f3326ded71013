/-! TC: calls by contracts are right -/
theorem tc_V_lt0 {V V' : Nat → Int} {n : Nat} (hV : ∀ k, k < n → V k = V' k) {sg : List tl_F} (h : sg.all (tl_lt n) = true) : ∀ k, k < sg.length → tl_V V 0 sg k = tl_V V' 0 sg k := by
  intro k hk
  unfold tl_V tl_at
  rw [if_neg (by omega), Nat.sub_zero, List.getElem?_eq_getElem hk]
  exact tl_v_lt hV (tc_al h _ (List.getElem_mem _))
theorem tc_rm_fr {Γ : tg_G} {RO : am_O} {κ : Nat → Option Nat} {M : am_H} {sz : Nat} {V : Nat → Int} {A : Nat → Nat} {X Y : tc_X} {n0 m0 : Nat} {sg : List tl_F} {ag : List Nat} {cs : List tl_C} (hx : tc_x Γ RO κ M sz V A X) (g : tc_mat n0 m0 sg ag X cs Y = true) : ∀ q ∈ Y.2.2.2.2.2.1, ∃ o, (ta_at m0 ag q.1, o) ∈ X.2.2.2.2.2.1 := by
  intro q hq
  obtain ⟨-, w⟩ := tc_and g
  obtain ⟨-, w⟩ := tc_and w
  obtain ⟨-, w⟩ := tc_and w
  obtain ⟨-, w⟩ := tc_and w
  obtain ⟨-, w⟩ := tc_and w
  have k := tc_al (tc_and w).1 q hq
  unfold tc_frm at k
  split at k
  · rename_i ci vals hf
    exact ⟨_, tc_frs_m hf⟩
  · cases k
set_option maxHeartbeats 1000000 in
theorem tc_ce_s {D : tc_D} {cn cm : Nat} {cX : tc_X} {cW : tc_W} {sg : List tl_F} {ag : List Nat} {n m pc : Nat} {X : tc_X} {L : tc_L} {S R : List tv_V} {zq lq : tl_F} {e : tc_Ex} {cs : List tl_C} (hΓ : tg_ok D.2.2.1.2)
    (hW : ∀ p ∈ cW, p ∈ D.2.2.2.2.1) (hwf : tc_wf D.2.2.2.2.2.1 D.2.2.2.2.2.2.1 ((n, m), X, pc, L, S, zq, lq) = true) (hR : R.all (tv_lt n m) = true) (hsg : sg.all (tl_lt n) = true) (hag : ag.all (fun a => decide (a < m)) = true) (hcn : sg.length = cn) (hcm : ag.length = cm) (hwe : tc_wex cn cm e = true) (hmt : tc_mat 0 0 sg ag X cs cX = true) (hG : tc_Ok D (tc_ce D.2.2.1.2.2 cn cm cX cW sg ag n m X pc L R zq lq e))
    {V : Nat → Int} {A : Nat → Nat} {κ : Nat → Option Nat} {M : am_H} {sz sl : Nat} {lv : am_L} {r : List Value}
    (hr : tc_rel D.2.2.2.2.1 D.2.2.2.2.2.1 D.2.2.2.2.2.2.1 D.2.2.2.2.2.2.2.1 D.2.2.2.2.2.2.2.2.1 V A κ M sz sl) (hx : tc_x D.2.2.1.2 D.2.1 κ M sz V A X) (hl : tc_lv V A L lv) (hs : tc_st V A R r) (hq : tc_rm D.2.2.2.2.2.2.2.1 D.2.2.2.2.2.2.2.2.1 V A zq lq X.2.2.2.2.2.1 sz sl)
    {v : Option Value} {V1 : Nat → Int} {A1 : Nat → Nat} {κ1 : Nat → Option Nat} {M1 : am_H} {z1 l1 : Nat}
    (k1 : tc_rel cW cn cm (cX.2.2.2.2.2.1.map (fun p => p.1)) (tl_V V 0 sg, ta_A A 0 ag, κ, M, sz, sl) V1 A1 κ1 M1 z1 l1) (k2 : tk_H D.2.2.1.1 D.2.1 κ1 M1 z1) (k3 : ∀ a, z1 ≤ a → κ1 a = none) (k4 : tc_x D.2.2.1.2 D.2.1 κ1 M1 z1 V1 A1 e.2.1) (k5 : match e.2.2.1 with
      | none => v = none
      | some t => ∃ w, v = some w ∧ tv_is V1 A1 t w) (k6 : tc_rm (cX.2.2.2.2.2.1.map (fun p => p.1)) (tl_V V 0 sg, ta_A A 0 ag, κ, M, sz, sl) V1 A1 e.2.2.2.1 e.2.2.2.2 e.2.1.2.2.2.2.2.1 z1 l1) :
    ∃ k, am_W D.1 D.2.1 k D.2.2.2.1 (pc + 3) lv (v.toList ++ r) M1 z1 l1 D.2.2.2.2.2.2.2.2.2 := by
  obtain ⟨w0, w⟩ := tc_and hwf
  obtain ⟨w1, w⟩ := tc_and w
  obtain ⟨w2, w⟩ := tc_and w
  obtain ⟨w3, w⟩ := tc_and w
  obtain ⟨w4, w⟩ := tc_and w
  obtain ⟨w5, w6⟩ := tc_and w
  obtain ⟨u0, u⟩ := tc_and hwe
  obtain ⟨u1, u⟩ := tc_and u
  obtain ⟨u2, u⟩ := tc_and u
  obtain ⟨u3, u⟩ := tc_and u
  obtain ⟨u4, u5⟩ := tc_and u
  have w0 : D.2.2.2.2.2.1 ≤ n := of_decide_eq_true w0
  have w1 : D.2.2.2.2.2.2.1 ≤ m := of_decide_eq_true w1
  have w5 : tl_lt n zq = true := w5
  have w6 : tl_lt n lq = true := w6
  obtain ⟨c1, c2, c3, c4, c5, c6, c7, c8⟩ := k1
  have hV2 : ∀ k, k < n → V k = tc_V2 V V1 n cn k := tc_V2_lt
  have hA2 : ∀ k, k < m → A k = tc_A2 A A1 m cm k := tc_A2_lt
  have hV1 : ∀ k, k < e.1.1 → V1 k = tl_V (tc_V2 V V1 n cn) 0 (tc_isg n cn e.1.1 sg) k := tc_isg_s c1 hcn hsg
  have hA1 : ∀ k, k < e.1.2 → A1 k = ta_A (tc_A2 A A1 m cm) 0 (tc_iag m cm e.1.2 ag) k := tc_iag_s c2 hcm hag
  obtain ⟨r1, r2, r3, r4, r5, r6, r7, r8⟩ := hr
  obtain ⟨q1, q2, q3⟩ := hq
  have hFa : ∀ a, a ∈ (cX.2.2.2.2.2.1.map (fun p => p.1)).map (ta_A A 0 ag) → ∃ b o, (b, o) ∈ X.2.2.2.2.2.1 ∧ b ∈ cX.2.2.2.2.2.1.map (fun p => ta_at 0 ag p.1) ∧ a = A b := by
    intro a ha
    obtain ⟨b, hb, rfl⟩ := List.mem_map.mp ha
    obtain ⟨p, hp, rfl⟩ := List.mem_map.mp hb
    obtain ⟨o, ho⟩ := tc_rm_fr hx hmt p hp
    exact ⟨_, o, ho, List.mem_map.mpr ⟨p, hp, rfl⟩, rfl⟩
  have hF : ∀ p ∈ X.2.2.2.2.2.1, p.1 ∉ cX.2.2.2.2.2.1.map (fun p => ta_at 0 ag p.1) → tc_A2 A A1 m cm p.1 ∉ (cX.2.2.2.2.2.1.map (fun p => p.1)).map (ta_A A 0 ag) := by
    intro p hp hn ha
    obtain ⟨b, o, b1, b2, b3⟩ := hFa _ ha
    have e1 := tc_wx6 (n := n) (X := X) w2
    rw [← hA2 _ (of_decide_eq_true (tc_and (tc_al e1 p hp)).1)] at b3
    by_cases e2 : p.1 = b
    · exact hn (e2 ▸ b2)
    · exact tc_dj_ne hx.2.2.2.2.2.2.1 p hp (b, o) b1 e2 b3
  have hx2 := tc_xkeep_s (W := cW) (pn := cX.2.2.2.2.2.1.map (fun p => ta_at 0 ag p.1)) hΓ (tc_x_lt hV2 hA2 w2 hx) c3 c8 c4 c5 c6 hF
  have hy2 : tc_x D.2.2.1.2 D.2.1 κ1 M1 z1 (tc_V2 V V1 n cn) (tc_A2 A A1 m cm) (tc_xsub (tc_isg n cn e.1.1 sg) (tc_iag m cm e.1.2 ag) e.2.1) := tc_xsub_s (tc_x_lt hV1 hA1 u2 k4)
  have hyf : ∀ p ∈ (tc_xsub (tc_isg n cn e.1.1 sg) (tc_iag m cm e.1.2 ag) e.2.1).2.2.2.2.2.1, tc_A2 A A1 m cm p.1 ∈ (cX.2.2.2.2.2.1.map (fun p => p.1)).map (ta_A A 0 ag) ∨ sz ≤ tc_A2 A A1 m cm p.1 := by
    intro p hp
    obtain ⟨p', hp', rfl⟩ := List.mem_map.mp hp
    have e1 := k6.2.2 p' hp'
    have e2 := tc_wx6 (n := e.1.1) (X := e.2.1) u2
    rw [hA1 _ (of_decide_eq_true (tc_and (tc_al e2 p' hp')).1)] at e1
    exact e1
  have hd : ∀ p ∈ (tc_xsub (tc_isg n cn e.1.1 sg) (tc_iag m cm e.1.2 ag) e.2.1).2.2.2.2.2.1, ∀ q ∈ (tc_xkeep D.2.2.1.2.2 X cW (cX.2.2.2.2.2.1.map (fun p => ta_at 0 ag p.1))).2.2.2.2.2.1, tc_A2 A A1 m cm p.1 ≠ tc_A2 A A1 m cm q.1 := by
    intro p hp q hq2 e1
    obtain ⟨g1, g2⟩ := List.mem_filter.mp hq2
    have g3 := hF q g1 (by simpa using g2)
    have g4 := tc_wx6 (n := n) (X := X) w2
    have g5 := hA2 _ (of_decide_eq_true (tc_and (tc_al g4 q g1)).1)
    have g6 := (hx.2.2.2.2.2.1 q g1).1
    rcases hyf p hp with h1 | h1
    · exact g3 (e1 ▸ h1)
    · rw [e1, ← g5] at h1
      omega
  have hX := tc_xcat_s hy2 hx2 hd
  have hrel : tc_rel D.2.2.2.2.1 D.2.2.2.2.2.1 D.2.2.2.2.2.2.1 D.2.2.2.2.2.2.2.1 D.2.2.2.2.2.2.2.2.1 (tc_V2 V V1 n cn) (tc_A2 A A1 m cm) κ1 M1 z1 l1 := by
    refine ⟨fun k hk => (r1 k hk).trans (hV2 k (by omega)), fun k hk => (r2 k hk).trans (hA2 k (by omega)), fun a k hk => c3 a k (r3 a k hk), fun a k hk => tk_fr_t (r4 a k hk) (tk_fr_w hW (c4 a k (r3 a k hk))), fun a ha hn hFn => ?_, Nat.le_trans r6 c6, Nat.le_trans r7 c7, fun a k hk hn => ?_⟩
    · obtain ⟨e1, e2⟩ := r5 a ha hn hFn
      have e3 : a ∉ (cX.2.2.2.2.2.1.map (fun p => p.1)).map (ta_A A 0 ag) := by
        intro e4
        obtain ⟨b, o, b1, -, b3⟩ := hFa _ e4
        rcases q3 _ b1 with e5 | e5
        · exact hFn (b3 ▸ e5)
        · have e5 : D.2.2.2.2.2.2.2.2.1.2.2.2.2.1 ≤ A b := e5
          rw [b3] at ha
          omega
      obtain ⟨e4, e5⟩ := c5 a (Nat.lt_of_lt_of_le ha r6) e1 e3
      exact ⟨e4, e5.trans e2⟩
    · cases hk2 : κ a with
      | none => exact hW _ (c8 a k hk hk2)
      | some k' =>
        have e1 := c3 a k' hk2
        rw [hk] at e1
        cases e1
        exact r8 a k hk2 hn
  have eW : ∀ f : tl_F, tl_lt e.1.1 f = true → tl_v (tc_V2 V V1 n cn) (tl_sb 0 (tc_isg n cn e.1.1 sg) f) = tl_v V1 f := fun f hf => by
    rw [tl_sb_s]
    exact (tl_v_lt hV1 hf).symm
  have hrm : tc_rm D.2.2.2.2.2.2.2.1 D.2.2.2.2.2.2.2.2.1 (tc_V2 V V1 n cn) (tc_A2 A A1 m cm) (tl_nf (tl_app zq (tl_sb 0 (tc_isg n cn e.1.1 sg) e.2.2.2.1))) (tl_nf (tl_app lq (tl_sb 0 (tc_isg n cn e.1.1 sg) e.2.2.2.2))) (tc_xcat (tc_xsub (tc_isg n cn e.1.1 sg) (tc_iag m cm e.1.2 ag) e.2.1) (tc_xkeep D.2.2.1.2.2 X cW (cX.2.2.2.2.2.1.map (fun p => ta_at 0 ag p.1)))).2.2.2.2.2.1 z1 l1 := by
    obtain ⟨s1, s2, s3⟩ := k6
    refine ⟨?_, ?_, fun p hp => ?_⟩
    · rw [tl_nf_s, tl_app_s, eW _ u4, ← tl_v_lt hV2 w5]
      have s1 : (z1 : Int) ≤ (sz : Int) + tl_v V1 e.2.2.2.1 := s1
      omega
    · rw [tl_nf_s, tl_app_s, eW _ u5, ← tl_v_lt hV2 w6]
      have s2 : (l1 : Int) ≤ (sl : Int) + tl_v V1 e.2.2.2.2 := s2
      omega
    · rcases List.mem_append.mp hp with hp | hp
      · rcases hyf p hp with h1 | h1
        · obtain ⟨b, o, b1, -, b3⟩ := hFa _ h1
          rw [b3]
          exact q3 _ b1
        · exact Or.inr (Nat.le_trans r6 h1)
      · obtain ⟨g1, -⟩ := List.mem_filter.mp hp
        have g4 := tc_wx6 (n := n) (X := X) w2
        rw [← hA2 _ (of_decide_eq_true (tc_and (tc_al g4 p g1)).1)]
        exact q3 p g1
  refine hG _ _ κ1 M1 z1 l1 lv (v.toList ++ r) hrel k2 k3 hX (tc_lv_lt hV2 hA2 w3 hl) ?_ hrm
  have hs2 := tc_st_lt hV2 hA2 hR hs
  show tc_st _ _ (match e.2.2.1 with
    | none => R
    | some t => tv_sub 0 0 (tc_isg n cn e.1.1 sg) (tc_iag m cm e.1.2 ag) t :: R) (v.toList ++ r)
  cases hret : e.2.2.1 with
  | none =>
    rw [hret] at k5
    have k5 : v = none := k5
    subst k5
    exact hs2
  | some t =>
    rw [hret] at k5 u3
    obtain ⟨w, k5, k7⟩ := k5
    subst k5
    exact ⟨tv_sub_s (tv_lt_s hV1 hA1 u3 k7), hs2⟩
theorem tc_st_tr {V : Nat → Int} {A : Nat → Nat} {S : List tv_V} {st : List Value} (h : tc_st V A S st) (k : Nat) : tc_st V A (S.take k).reverse (st.take k).reverse ∧ tc_st V A (S.drop k) (st.drop k) := ⟨tc_st_rev (tc_st_tk k h).1, (tc_st_tk k h).2⟩
theorem tc_all_tk {p : tv_V → Bool} {S : List tv_V} (h : S.all p = true) (k : Nat) : (S.drop k).all p = true := List.all_eq_true.mpr (fun x hx => tc_al h x (List.mem_of_mem_drop hx))
/-- the call that the machine makes -/
theorem tc_rs_s {P : am_P} {T : tk_T} {Γ : tg_G} {RO : am_O} {κ : Nat → Option Nat} {M : am_H} {sz : Nat} {V : Nat → Int} {A : Nat → Nat} {X : tc_X} (hH : tk_H T RO κ M sz) (hx : tc_x Γ RO κ M sz V A X) {own : Nat} {i : Instr} {S : List tv_V} {st : List Value} {nv z k : Nat} (hs : tc_st V A S st) (h : tc_rs P T own i X S nv = some (z, k)) (hk : k ≤ S.length) : am_call P M own i st z (st.take k).reverse (st.drop k) := by
  have hln := tc_st_ln hs
  cases i with
  | invokestatic x =>
    exact ⟨k, h, by rw [List.reverse_reverse, List.take_append_drop], by rw [List.length_reverse, List.length_take]; omega⟩
  | invokespecial x =>
    unfold tc_rs at h
    dsimp only at h
    split at h
    · rename_i z' n hc
      split at h
      · rename_i f b hb
        cases h
        obtain ⟨v, hv1, hv2⟩ := tc_st_at hs hb
        have hv2 : v = .ref (A b) := hv2
        subst hv2
        have e : st.take (n + 1) = st.take n ++ [.ref (A b)] := by
          rw [List.take_succ, hv1]
          rfl
        have hl2 : n < st.length := (List.getElem?_eq_some_iff.mp hv1).1
        refine ⟨n, A b, (st.take n).reverse, hc, by rw [e, List.reverse_append]; rfl, ?_, by rw [List.length_reverse, List.length_take]; omega⟩
        rw [List.reverse_reverse]
        have := List.take_append_drop (n + 1) st
        rw [e, List.append_assoc] at this
        exact this.symm
      · cases h
    · cases h
  | invokevirtual x =>
    unfold tc_rs at h
    dsimp only at h
    split at h
    · rename_i f b hb
      split at h
      · rename_i ci hK
        split at h
        · rename_i z' n hc
          split at h
          · rename_i e0
            cases h
            subst e0
            obtain ⟨v, hv1, hv2⟩ := tc_st_at hs hb
            have hv2 : v = .ref (A b) := hv2
            subst hv2
            obtain ⟨vs, m1⟩ := tc_cls_s hx hH hK
            have e : st.take (n + 1) = st.take n ++ [.ref (A b)] := by
              rw [List.take_succ, hv1]
              rfl
            have hl2 : n < st.length := (List.getElem?_eq_some_iff.mp hv1).1
            refine ⟨n, A b, (st.take n).reverse, ci, vs, m1, hc, by rw [e, List.reverse_append]; rfl, ?_, by rw [List.length_reverse, List.length_take]; omega⟩
            rw [List.reverse_reverse]
            have := List.take_append_drop (n + 1) st
            rw [e, List.append_assoc] at this
            exact this.symm
          · cases h
        · cases h
      · cases h
    · cases h
  | _ => cases h
theorem tc_ca_s {D : tc_D} {Z : tc_Z} {mm : Nat → Option am_Meth} {CT : List tc_Ct} {mt : am_Meth} {i : Instr} {len : Nat} {h : tc_h} {G : tc_G} {Gs : List tc_G} (hΓ : tg_ok D.2.2.1.2) (hZ : tc_zok D.1 Z D.2.2.2.2.2.2.2.2.1.2.2.1) (hmm : ∀ z mz, mm z = some mz → am_meth D.1 z = some mz) (hC : ∀ c ∈ CT, tc_true D.1 D.2.2.1.2 D.2.1 D.2.2.1.1 Z c) (hm : am_meth D.1 D.2.2.2.1 = some mt) (hd : decode mt.2.1 G.2.2.1 = .ok (i, len)) (g : tc_ca D.1 D.2.2.1.1 D.2.2.1.2.2 mm CT D.2.2.2.2.1 mt D.2.2.2.2.2.1 D.2.2.2.2.2.2.1 i len h G = some Gs) (hG : ∀ G' ∈ Gs, tc_Ok D G') : tc_Ok D G := by
  obtain ⟨⟨n, m⟩, X, pc, L, S, zq, lq⟩ := G
  intro V A κ M sz sl lv st hr hH hz hx hl hs hq
  unfold tc_ca at g
  dsimp only at g
  split at g
  · rename_i z k cz cn cm ca cX cW ces hrs hct
    split at g
    · rename_i mz hmz
      split at g
      · rename_i hc
        cases g
        obtain ⟨⟨⟨⟨hlen, hcz, hk⟩, hcn, hcm⟩, ⟨hroom, hsl⟩, hdr⟩, hb⟩ := hc
        obtain ⟨hb1, hb2⟩ := tc_and hb
        obtain ⟨hb3, hb4⟩ := tc_and hb1
        obtain ⟨hW, hwf⟩ := tc_and hb3
        obtain ⟨hsg, hag⟩ := tc_and hb4
        obtain ⟨hb5, hwe⟩ := tc_and hb2
        obtain ⟨hsv, hmt⟩ := tc_and hb5
        have hW : ∀ p ∈ cW, p ∈ D.2.2.2.2.1 := fun p hp => by simpa using tc_al hW p hp
        obtain ⟨-, w⟩ := tc_and hwf
        obtain ⟨-, w⟩ := tc_and w
        obtain ⟨-, w⟩ := tc_and w
        obtain ⟨-, w⟩ := tc_and w
        obtain ⟨w4, -⟩ := tc_and w
        obtain ⟨h1, h2⟩ := tc_st_tr hs k
        obtain ⟨kk, hrun⟩ := hC _ (List.mem_of_getElem? hct) (tl_V V 0 h.2.2.1, ta_A A 0 (tc_hg h), κ, M, sz, sl) (st.take k).reverse (fun own x a ha => by
          obtain ⟨q, q1, q2⟩ := hZ own x a ha
          exact ⟨q, q1, hr.2.2.1 a q q2⟩) hH hz (tc_mat_s hx hmt) (tv_svs_s hsv h1)
        have hcall := tc_rs_s hH hx hs hrs hk
        subst hcz
        refine am_stepR hm hd (Or.inr (Or.inr (Or.inr (Or.inr (Or.inr (Or.inr (Or.inl ⟨hlen, cz, (st.take k).reverse, st.drop k, mz, hcall, hmm _ _ hmz, hroom, ?_, ?_, kk, ?_⟩)))))))
        · have e1 := tc_slots_s h1
          have e2 : tc_slots (S.take k).reverse = tc_slots (S.take k) := by
            unfold tc_slots
            rw [List.map_reverse, List.sum_reverse]
          rw [e1, e2]
          exact hsl
        · have e1 := tc_cat_s h2
          rw [e1]
          exact hdr
        · refine am_mono _ _ _ _ _ _ _ _ _ _ ?_ hrun
          intro v M1 z1 l1 hv
          obtain ⟨e, he, V1, A1, κ1, k1, k2, k3, k4, k5, k6⟩ := hv
          exact tc_ce_s hΓ hW hwf (tc_all_tk w4 k) hsg hag hcn hcm (tc_al hwe e he) hmt (hG _ (List.mem_map.mpr ⟨e, he, rfl⟩)) hr hx hl h2 hq k1 k2 k3 k4 k5 k6
      · cases g
    · cases g
  · cases g
