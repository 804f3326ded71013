/-! TC: lemmas, ways that can't be, cases -/
/-- a lemma: names; what must be known; names behind it; what is known then -/
abbrev tc_Lm : Type := (Nat × Nat) × tc_X × (Nat × Nat) × tc_X
def tc_lmt (Γ : tg_G) (RO : am_O) (T : tk_T) (c : tc_Lm) : Prop := ∀ (V : Nat → Int) (A : Nat → Nat) (κ : Nat → Option Nat) (M : am_H) (sz : Nat), tk_H T RO κ M sz → (∀ a, sz ≤ a → κ a = none) → tc_x Γ RO κ M sz V A c.2.1 → ∃ (V' : Nat → Int) (A' : Nat → Nat), (∀ k, k < c.1.1 → V k = V' k) ∧ (∀ k, k < c.1.2 → A k = A' k) ∧ tc_x Γ RO κ M sz V' A' c.2.2.2
/-- by a lemma: hint as for a call -/
def tc_le (LT : List tc_Lm) (n0 m0 : Nat) (h : tc_h) (G : tc_G) : Option (List tc_G) := match G with
  | ((n, m), X, pc, L, S, zq, lq) => match LT[(tc_hi h 0).toNat]? with
    | some ((cn, cm), cX, (dn, dm), cY) => if ((h.2.2.1.length = cn ∧ (tc_hg h).length = cm) ∧ (cn ≤ dn ∧ cm ≤ dm)) ∧ ((tc_wf n0 m0 G && (h.2.2.1.all (tl_lt n) && (tc_hg h).all (fun a => decide (a < m)))) && (tc_mat 0 0 h.2.2.1 (tc_hg h) X (h.2.2.2.drop 8) cX && (tc_wx dn dm cY && cY.2.2.2.2.2.1.isEmpty))) = true then
        some [((n + (dn - cn), m + (dm - cm)), tc_xcat (tc_xsub (tc_isg n cn dn h.2.2.1) (tc_iag m cm dm (tc_hg h)) cY) X, pc, L, S, zq, lq)] else none
    | none => none
theorem tc_le_s {D : tc_D} {LT : List tc_Lm} {h : tc_h} {G : tc_G} {Gs : List tc_G} (hL : ∀ c ∈ LT, tc_lmt D.2.2.1.2 D.2.1 D.2.2.1.1 c) (g : tc_le LT D.2.2.2.2.2.1 D.2.2.2.2.2.2.1 h G = some Gs) (hG : ∀ G' ∈ Gs, tc_Ok D G') : tc_Ok D G := by
  obtain ⟨⟨n, m⟩, X, pc, L, S, zq, lq⟩ := G
  intro V A κ M sz sl lv st hr hH hz hx hl hs hq
  unfold tc_le at g
  dsimp only at g
  split at g
  · rename_i cn cm cX dn dm cY hc
    split at g
    · rename_i hb
      cases g
      obtain ⟨⟨⟨hcn, hcm⟩, hd1, hd2⟩, hb⟩ := hb
      obtain ⟨hb1, hb2⟩ := tc_and hb
      obtain ⟨hwf, hb3⟩ := tc_and hb1
      obtain ⟨hsg, hag⟩ := tc_and hb3
      obtain ⟨hmt, hb4⟩ := tc_and hb2
      obtain ⟨hwx, hem⟩ := tc_and hb4
      obtain ⟨w0, w⟩ := tc_and hwf
      obtain ⟨w1, w⟩ := tc_and w
      obtain ⟨w2, w⟩ := tc_and w
      obtain ⟨w3, w⟩ := tc_and w
      obtain ⟨w4, w⟩ := tc_and w
      obtain ⟨w5, w6⟩ := tc_and w
      have w5 : tl_lt n zq = true := w5
      have w6 : tl_lt n lq = true := w6
      obtain ⟨V1, A1, c1, c2, c3⟩ := hL _ (List.mem_of_getElem? hc) _ _ κ M sz hH hz (tc_mat_s hx hmt)
      have hV2 : ∀ k, k < n → V k = tc_V2 V V1 n cn k := tc_V2_lt
      have hA2 : ∀ k, k < m → A k = tc_A2 A A1 m cm k := tc_A2_lt
      have hV1 : ∀ k, k < dn → V1 k = tl_V (tc_V2 V V1 n cn) 0 (tc_isg n cn dn h.2.2.1) k := tc_isg_s c1 hcn hsg
      have hA1 : ∀ k, k < dm → A1 k = ta_A (tc_A2 A A1 m cm) 0 (tc_iag m cm dm (tc_hg h)) k := tc_iag_s c2 hcm hag
      have hy2 : tc_x D.2.2.1.2 D.2.1 κ M sz (tc_V2 V V1 n cn) (tc_A2 A A1 m cm) (tc_xsub (tc_isg n cn dn h.2.2.1) (tc_iag m cm dm (tc_hg h)) cY) := tc_xsub_s (tc_x_lt hV1 hA1 hwx c3)
      have hx2 := tc_x_lt hV2 hA2 w2 hx
      have he : cY.2.2.2.2.2.1 = [] := by simpa using hem
      have he2 : (tc_xsub (tc_isg n cn dn h.2.2.1) (tc_iag m cm dm (tc_hg h)) cY).2.2.2.2.2.1 = [] := by
        show cY.2.2.2.2.2.1.map _ = []
        rw [he]
        rfl
      have hX := tc_xcat_s hy2 hx2 (fun p hp => by
        rw [he2] at hp
        cases hp)
      refine hG _ List.mem_cons_self _ _ κ M sz sl lv st (tc_rel_A (tc_rel_V hr (of_decide_eq_true w0) hV2) (of_decide_eq_true w1) hA2) hH hz hX (tc_lv_lt hV2 hA2 w3 hl) (tc_st_lt hV2 hA2 w4 hs) ?_
      have e : (tc_xcat (tc_xsub (tc_isg n cn dn h.2.2.1) (tc_iag m cm dm (tc_hg h)) cY) X).2.2.2.2.2.1 = X.2.2.2.2.2.1 := by
        show _ ++ X.2.2.2.2.2.1 = _
        rw [he2]
        rfl
      have q := tc_rm_lt (m := m) (fr := X.2.2.2.2.2.1) hV2 hA2 w5 w6 (tc_wx6 (n := n) (X := X) w2) hq
      show tc_rm _ _ _ _ _ _ (tc_xcat (tc_xsub (tc_isg n cn dn h.2.2.1) (tc_iag m cm dm (tc_hg h)) cY) X).2.2.2.2.2.1 sz sl
      rw [e]
      exact q
    · cases g
  · cases g
/-- facts that can't be together -/
theorem tc_no_s {D : tc_D} {h : tc_h} {G : tc_G} (g : tl_no G.2.1.1 (tc_cf h 0).2 = true) : tc_Ok D G := by
  intro V A κ M sz sl lv st hr hH hz hx hl hs hq
  exact (tl_no_s g hx.1).elim
/-- a form below 0, or not -/
def tc_sp (h : tc_h) (G : tc_G) : List tc_G := [(G.1, tc_xa G.2.1 [tc_hf h 0], G.2.2), (G.1, tc_xa G.2.1 [tl_ad (tl_neg (tc_hf h 0)) (-1)], G.2.2)]
theorem tc_sp_s {D : tc_D} {h : tc_h} {G : tc_G} (hG : ∀ G' ∈ tc_sp h G, tc_Ok D G') : tc_Ok D G := by
  intro V A κ M sz sl lv st hr hH hz hx hl hs hq
  by_cases e : 0 ≤ tl_v V (tc_hf h 0)
  · refine hG _ List.mem_cons_self V A κ M sz sl lv st hr hH hz (tc_xa_s hx (fun f hf => ?_)) hl hs hq
    rcases List.mem_cons.mp hf with rfl | hf
    · exact e
    · cases hf
  · refine hG _ (List.mem_cons_of_mem _ List.mem_cons_self) V A κ M sz sl lv st hr hH hz (tc_xa_s hx (fun f hf => ?_)) hl hs hq
    rcases List.mem_cons.mp hf with rfl | hf
    · rw [tl_ad_s, tl_neg_s]
      omega
    · cases hf
/-- what is known, less some facts (those of the places told stay) -/
def tc_fo (h : tc_h) (G : tc_G) : tc_G := (G.1, (h.2.1.filterMap (fun i => G.2.1.1[i.toNat]?), G.2.1.2), G.2.2)
theorem tc_fo_s {D : tc_D} {h : tc_h} {G : tc_G} (hG : tc_Ok D (tc_fo h G)) : tc_Ok D G := by
  intro V A κ M sz sl lv st hr hH hz hx hl hs hq
  refine hG V A κ M sz sl lv st hr hH hz ⟨fun f hf => ?_, hx.2⟩ hl hs hq
  obtain ⟨i, -, hi⟩ := List.mem_filterMap.mp hf
  exact hx.1 f (List.mem_of_getElem? hi)
