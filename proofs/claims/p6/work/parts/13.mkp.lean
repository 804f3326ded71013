/-! AM: a program out of checked lists */ -/
abbrev am_cE : Type := (Nat × List am_Pos) × (am_Pos × am_Pos) × List Value
def am_mkP (on : Nat → String) (kd : List FieldType) (LM : List am_mE) (LF : List (List am_fE)) (tyf : Nat → Nat → FieldType) (LK : List (List (Nat × (Value × am_Pos)))) (LW : List (List (Nat × (Nat × am_Pos)))) (LC : List am_cE) (LA : List (List (Nat × (Nat × am_Pos × am_Pos)))) (LZ : List (List (Nat × (Nat × am_Pos)))) (sa : Nat → Nat) (LS : List (List am_tE)) (LI : List (List am_sE)) (LV : List (List am_vE)) (LN : List (List (Nat × (Nat × List am_Pos)))) (LG : List ((Nat × Nat) × am_Pos)) (LB : List (Nat × Nat)) : am_P :=
  (fun y => (LM[y]?).map (fun q => q.1),
   fun o x ci => (am_lk3 LF o x ci).map (fun q => q.1),
   tyf,
   fun o x ci => ((am_lk3 LF o x ci).map (fun q => q.2.1)).getD 0,
   fun o x => (am_lk2 LK o x).map (fun q => q.1),
   fun o x => (am_lk2 LW o x).map (fun q => q.1),
   fun ci => ((LC[ci]?).map (fun q => q.2.2)).getD [],
   fun o x => (am_lk2 LA o x).map (fun q => q.1),
   fun o x => (am_lk2 LZ o x).map (fun q => sa q.1),
   fun o x => (am_lk2 LS o x).map (fun q => (q.1, q.2.1)),
   fun o x => (am_lk2 LI o x).map (fun q => (q.1, q.2.1)),
   fun o x ci => (am_lk3 LV o x ci).map (fun q => (q.1, q.2.1)),
   fun o x => ((am_lk2 LN o x).map (fun q => q.1)).getD 0,
   fun t ci => LG.any (fun q => q.1.1 == t && q.1.2 == ci),
   fun t t2 => LB.any (fun q => q.1 == t && q.2 == t2),
   kd, on)
def am_zs (zn : List (String × String × String)) (sa : Nat → Nat) : List (String × String × String × Nat) := zn.zipIdx.map (fun q => (q.1.1, q.1.2.1, q.1.2.2, sa q.2))
theorem am_lkOk_s {on : Nat → String} {tb : List (List Cond)} {o x : Nat} {y : MethodName} {host : Option String} {p : am_Pos} (h : am_lkOk on tb o x y host p = true) : am_lk (am_Ts tb) (am_Nw tb) (on o) x y := by
  unfold am_lkOk at h
  cases host with
  | none => exact Or.inl (am_in_s h)
  | some hh => exact Or.inr ⟨hh, am_inN_s h⟩
theorem am_arOk_s {y : MethodName} {n : Nat} (h : am_arOk y n = true) : am_ar y n := by
  unfold am_ar
  exact of_decide_eq_true h
set_option maxHeartbeats 1000000 in
theorem am_G_of {on : Nat → String} {cl : List vw_C} {kd : List FieldType} {tb : List (List Cond)} {LM : List am_mE} {LF : List (List am_fE)} {tyf : Nat → Nat → FieldType} {LK : List (List (Nat × (Value × am_Pos)))} {LW : List (List (Nat × (Nat × am_Pos)))} {LC : List am_cE} {LA : List (List (Nat × (Nat × am_Pos × am_Pos)))} {LZ : List (List (Nat × (Nat × am_Pos)))} {LS : List (List am_tE)} {LI : List (List am_sE)} {LV : List (List am_vE)} {LN : List (List (Nat × (Nat × List am_Pos)))} {LG : List ((Nat × Nat) × am_Pos)} {LB : List (Nat × Nat)} {zn : List (String × String × String)}
    (cM : LM.all (am_okM on tb) = true) (cO : am_cdE tb LM) (cF : am_all LF (am_okF on cl tb) = true) (cK : am_all LK (am_okK on tb) = true) (cW : am_all LW (am_okW on cl tb) = true) (cC : LC.all (am_okC cl tb tyf) = true) (cN : LC.map (fun q => q.1.1) = List.range cl.length) (cA : am_all LA (am_okA on kd tb) = true) (cZ : am_all LZ (am_okZ on tb zn) = true) (cS : am_all LS (am_okS on tb LM) = true) (cI : am_all LI (am_okI on tb LM) = true) (cV : am_all LV (am_okV on cl tb LM) = true) (cT : am_all LN (am_okN on kd tb) = true) (cG : LG.all (am_okG cl kd tb) = true)
    (nm : ∀ (ci : Nat) (C : String) (T : u_T) (N : Nat), cl[ci]? = some (C, T, N) → ∀ a, a < N → ∀ b, b < N → a ≠ b → (T a).2.1 ≠ (T b).2.1) (k0 : kd[0]? = some .int) (k1 : kd[1]? = some .long) (k2 : kd[2]? = some .boolean) (a0 : Cond.arrayClass .int ∈ am_Ts tb) (a1 : Cond.arrayClass .long ∈ am_Ts tb) (a2 : Cond.arrayClass .boolean ∈ am_Ts tb) (sa : Nat → Nat) :
    am_G (am_mkP on kd LM LF tyf LK LW LC LA LZ sa LS LI LV LN LG LB) cl (am_Ts tb) (am_Nw tb) (am_zs zn sa) := by
  have hC : ∀ ci C T N, cl[ci]? = some (C, T, N) → ∃ q ∈ LC, q.1.1 = ci ∧ LC[ci]? = some q ∧ am_okC cl tb tyf q = true := by
    intro ci C T N h
    have hlt : ci < cl.length := (List.getElem?_eq_some_iff.mp h).1
    have h1 : (LC.map (fun q => q.1.1))[ci]? = some ci := by rw [cN, List.getElem?_range hlt]
    rw [List.getElem?_map] at h1
    obtain ⟨q, h2, h3⟩ := Option.map_eq_some_iff.mp h1
    have hm := List.mem_of_getElem? h2
    exact ⟨q, hm, h3, h2, List.all_eq_true.mp cC q hm⟩
  have hCk : ∀ ci C T N, cl[ci]? = some (C, T, N) → (∀ w ∈ u_ws C T N, w ∈ am_Ts tb) ∧ (∀ k, k < N → parseFieldDescriptor (T k).2.2.1 = some (tyf ci k)) ∧ Cond.instantiable C N ∈ am_Ts tb ∧ Cond.initialized C ∈ am_Ts tb ∧ ∃ q, LC[ci]? = some q ∧ q.2.2.length = N ∧ ∀ j, j < N → defaultValue (tyf ci j) = vp_V q.2.2 j := by
    intro ci C T N h
    obtain ⟨q, -, h1, h2, h3⟩ := hC ci C T N h
    unfold am_okC at h3
    rw [h1, h] at h3
    simp only [Bool.and_eq_true, List.all_eq_true, List.mem_range, decide_eq_true_eq] at h3
    obtain ⟨⟨⟨⟨⟨b1, b2⟩, b3⟩, b4⟩, b5⟩, b6⟩ := h3
    refine ⟨fun w hw => ?_, b2, am_in_s b3, am_in_s b4, q, h2, b5, fun j hj => ?_⟩
    · obtain ⟨k, hk, rfl⟩ := List.mem_map.mp hw
      have b7 := b1 k (List.mem_range.mp hk)
      split at b7
      · cases b7
      · exact am_in_s b7
    · have b7 := b6 j hj
      split at b7
      · cases b7
      · rename_i v hv
        have b8 : defaultValue (tyf ci j) = v := by simpa using b7
        rw [b8]
        unfold vp_V
        rw [List.getD_eq_getElem?_getD, hv]
        rfl
  have hF : ∀ o x ci q, am_lk3 LF o x ci = some q → ∃ C T N, cl[ci]? = some (C, T, N) ∧ am_okF on cl tb o ((x, ci), q) = true := by
    intro o x ci q h
    have h1 := am_lk3_s cF h
    have h2 := h1
    unfold am_okF at h2
    cases hc : cl[ci]? with
    | none => rw [hc] at h2; cases h2
    | some r => exact ⟨r.1, r.2.1, r.2.2, rfl, h1⟩
  refine ⟨?_, ?_, ?_, ?_, ?_, ?_, ?_, ?_, ?_, ?_, ?_, ?_, ?_, ?_, ?_, ⟨k0, k1, k2⟩, ⟨a0, a1, a2⟩, fun w hw => (List.mem_filter.mp hw).2, fun w hw => (List.mem_filter.mp hw).2⟩
  · intro y mt h
    obtain ⟨q, h1, rfl⟩ := Option.map_eq_some_iff.mp (show (LM[y]?).map (fun q => q.1) = some mt from h)
    have h2 := List.all_eq_true.mp cM q (List.mem_of_getElem? h1)
    unfold am_okM at h2
    simp only [Bool.and_eq_true, decide_eq_true_eq] at h2
    exact ⟨h2.1.1.1, h2.1.1.2, am_cdE_s cO (List.mem_of_getElem? h1), am_in_s h2.1.2, h2.2⟩
  · intro o x ci k h
    obtain ⟨q, h1, rfl⟩ := Option.map_eq_some_iff.mp (show (am_lk3 LF o x ci).map (fun q => q.1) = some k from h)
    obtain ⟨C, T, N, hc, h2⟩ := hF o x ci q h1
    obtain ⟨k, pk, ref, host, lp, sp⟩ := q
    unfold am_okF at h2
    rw [show (((x, ci), (k, pk, ref, host, lp, sp)) : am_fE).1.2 = ci from rfl, hc] at h2
    dsimp only at h2
    simp only [Bool.and_eq_true, decide_eq_true_eq, Bool.or_eq_true] at h2
    refine ⟨C, T, N, ref, hc, h2.1.1.1.1, (hCk ci C T N hc).1, h2.1.1.1.2.imp id am_in_s, ?_⟩
    have h3 := h2.1.1.2
    cases host with
    | none => exact Or.inl (am_in_s h3)
    | some hh => exact Or.inr ⟨hh, am_inN_s h3⟩
  · intro ci C T N h
    obtain ⟨b1, b2, b3, b4, -⟩ := hCk ci C T N h
    exact ⟨b1, b2, nm ci C T N h, b3, b4⟩
  · intro o x ci k h C T N hc
    obtain ⟨q, h1, rfl⟩ := Option.map_eq_some_iff.mp (show (am_lk3 LF o x ci).map (fun q => q.1) = some k from h)
    obtain ⟨C', T', N', hc', h2⟩ := hF o x ci q h1
    rw [hc] at hc'
    cases hc'
    have hpk : am_pk (am_mkP on kd LM LF tyf LK LW LC LA LZ sa LS LI LV LN LG LB) o x ci = q.2.1 := by
      show ((am_lk3 LF o x ci).map (fun q => q.2.1)).getD 0 = q.2.1
      rw [h1]
      rfl
    rw [hpk]
    obtain ⟨k, pk, ref, host, lp, sp⟩ := q
    unfold am_okF at h2
    rw [show (((x, ci), (k, pk, ref, host, lp, sp)) : am_fE).1.2 = ci from rfl, hc] at h2
    dsimp only at h2 ⊢
    simp only [Bool.and_eq_true, decide_eq_true_eq, Bool.or_eq_true, Bool.not_eq_true'] at h2
    refine ⟨fun hp => h2.1.2.elim (fun z => absurd hp z) id, fun hp => ?_⟩
    obtain ⟨⟨b1, b2⟩, b3⟩ := h2.2.elim (fun z => absurd hp z) id
    refine ⟨b1, ?_⟩
    have h3 := h2.1.1.2
    cases host with
    | none =>
      subst b2
      exact am_in_s h3
    | some hh => cases b3
  · intro o k v h
    obtain ⟨q, h1, rfl⟩ := Option.map_eq_some_iff.mp (show (am_lk2 LK o k).map (fun q => q.1) = some v from h)
    have h2 := am_lk2_s cK h1
    unfold am_okK at h2
    dsimp only at h2
    split at h2
    · rename_i z hz
      exact Or.inl ⟨z, hz, am_in_s h2⟩
    · rename_i z hz
      exact Or.inr ⟨z, hz, am_in_s h2⟩
    · cases h2
  · intro o x ci h
    obtain ⟨q, h1, rfl⟩ := Option.map_eq_some_iff.mp (show (am_lk2 LW o x).map (fun q => q.1) = some ci from h)
    have h2 := am_lk2_s cW h1
    unfold am_okW at h2
    dsimp only at h2
    split at h2
    · cases h2
    · rename_i C T N hc
      exact ⟨C, T, N, hc, am_in_s h2⟩
  · intro ci C T N h
    obtain ⟨-, -, -, -, q, b1, b2, b3⟩ := hCk ci C T N h
    have hd : am_df (am_mkP on kd LM LF tyf LK LW LC LA LZ sa LS LI LV LN LG LB) ci = q.2.2 := by
      show ((LC[ci]?).map (fun q => q.2.2)).getD [] = q.2.2
      rw [b1]
      rfl
    rw [hd]
    exact ⟨b2, b3⟩
  · intro o x t h
    obtain ⟨q, h1, rfl⟩ := Option.map_eq_some_iff.mp (show (am_lk2 LA o x).map (fun q => q.1) = some t from h)
    have h2 := am_lk2_s cA h1
    unfold am_okA at h2
    dsimp only at h2
    split at h2
    · rename_i C hc
      simp only [Bool.and_eq_true] at h2
      exact Or.inl ⟨C, hc, am_inN_s h2.1, am_in_s h2.2⟩
    · rename_i ty hc
      simp only [Bool.and_eq_true] at h2
      exact Or.inr ⟨ty, hc, am_inN_s h2.1, am_in_s h2.2⟩
    · cases h2
  · intro o x a h
    obtain ⟨q, h1, rfl⟩ := Option.map_eq_some_iff.mp (show (am_lk2 LZ o x).map (fun q => sa q.1) = some a from h)
    have h2 := am_lk2_s cZ h1
    unfold am_okZ at h2
    dsimp only at h2
    split at h2
    · cases h2
    · rename_i C n d hc
      refine ⟨C, n, d, ?_, am_in_s h2⟩
      refine List.mem_map.mpr ⟨((C, n, d), q.1), ?_, rfl⟩
      refine List.mem_of_getElem? (i := q.1) ?_
      rw [List.getElem?_zipIdx, hc]
      simp
  · intro o x z n mz h hz
    obtain ⟨q, h1, h3⟩ := Option.map_eq_some_iff.mp (show (am_lk2 LS o x).map (fun q => (q.1, q.2.1)) = some (z, n) from h)
    cases h3
    obtain ⟨m, h4, rfl⟩ := Option.map_eq_some_iff.mp (show (LM[q.1]?).map (fun q => q.1) = some mz from hz)
    have h2 := am_lk2_s cS h1
    unfold am_okS at h2
    dsimp only at h2
    rw [h4] at h2
    simp only [Bool.and_eq_true] at h2
    refine ⟨am_in_s h2.1.1, am_arOk_s h2.1.2, ?_⟩
    rcases Bool.or_eq_true _ _ ▸ h2.2 with h5 | h5
    · exact Or.inl (am_lkOk_s h5)
    · split at h5
      · cases h5
      · rename_i C hC
        simp only [Bool.and_eq_true] at h5
        exact Or.inr ⟨C, am_in_s h5.1, am_in_s h5.2⟩
  · intro o x z n mz h hz
    obtain ⟨q, h1, h3⟩ := Option.map_eq_some_iff.mp (show (am_lk2 LI o x).map (fun q => (q.1, q.2.1)) = some (z, n) from h)
    cases h3
    obtain ⟨m, h4, rfl⟩ := Option.map_eq_some_iff.mp (show (LM[q.1]?).map (fun q => q.1) = some mz from hz)
    have h2 := am_lk2_s cI h1
    unfold am_okI at h2
    dsimp only at h2
    rw [h4] at h2
    simp only [Bool.and_eq_true, decide_eq_true_eq, Option.isNone_iff_eq_none] at h2
    exact ⟨h2.1.1.1.1, h2.1.1.1.2, am_in_s h2.1.1.2, am_arOk_s h2.1.2, am_lkOk_s h2.2⟩
  · intro o x ci z n mz h hz
    obtain ⟨q, h1, h3⟩ := Option.map_eq_some_iff.mp (show (am_lk3 LV o x ci).map (fun q => (q.1, q.2.1)) = some (z, n) from h)
    obtain ⟨z', n', ip, sp, lp, form, xn, owner, mp, dp, cp⟩ := q
    cases h3
    obtain ⟨m, h4, rfl⟩ := Option.map_eq_some_iff.mp (show (LM[z']?).map (fun q => q.1) = some mz from hz)
    have h2 := am_lk3_s cV h1
    unfold am_okV at h2
    dsimp only at h2
    split at h2
    · rename_i C T N m' hc hm
      rw [h4] at hm
      cases hm
      rw [Bool.and_eq_true] at h2
      refine ⟨C, T, N, hc, am_in_s h2.1, ?_⟩
      have h5 := h2.2
      cases form with
      | some host =>
        simp only [Bool.and_eq_true] at h5
        exact Or.inl ⟨am_arOk_s h5.1.1, am_lkOk_s h5.1.2, am_in_s h5.2⟩
      | none =>
        simp only [Bool.and_eq_true, Bool.or_eq_true, decide_eq_true_eq] at h5
        obtain ⟨⟨⟨⟨⟨b1, b2⟩, b3⟩, b4⟩, b5⟩, b6⟩ := h5
        refine Or.inr ⟨xn, owner, am_arOk_s b1, b2, am_in_s b3, am_in_s b4, am_in_s b5, ?_⟩
        rcases b6 with b6 | ⟨b6, b7⟩
        · exact Or.inl (am_inN_s b6)
        · refine Or.inr ⟨am_in_s b6, ?_⟩
          split at b7
          · rename_i y' b m r hcp
            simp only [Bool.and_eq_true, decide_eq_true_eq] at b7
            rw [← b7.1]
            exact ⟨b, m, r, am_in_s b7.2⟩
          · cases b7
    · cases h2
  · intro o x
    have hn : ∀ c, c ≠ 0 → am_nt (am_mkP on kd LM LF tyf LK LW LC LA LZ sa LS LI LV LN LG LB) o x = c → ∃ q, am_okN on kd tb o (x, (c, q)) = true := by
      intro c hc h
      have h' : ((am_lk2 LN o x).map (fun q => q.1)).getD 0 = c := h
      cases hl : am_lk2 LN o x with
      | none => rw [hl] at h'; exact absurd h'.symm hc
      | some q =>
        rw [hl] at h'
        have h2 := am_lk2_s cT hl
        obtain ⟨c', ps⟩ := q
        have h3 : c' = c := h'
        subst h3
        exact ⟨ps, h2⟩
    refine ⟨fun h => ?_, fun h => ?_, fun h => ?_, fun h => ?_, fun t h => ?_⟩
    · obtain ⟨q, h2⟩ := hn 1 (by decide) h
      unfold am_okN at h2
      dsimp only at h2
      split at h2 <;> first | (rename_i he; cases he; done) | skip
      all_goals first | (simp only [Bool.and_eq_true] at h2; exact ⟨am_in_s h2.1.1.1, am_in_s h2.1.1.2, am_in_s h2.1.2, am_in_s h2.2⟩) | (cases h2; done) | (exfalso; simp_all; done)
    · obtain ⟨q, h2⟩ := hn 2 (by decide) h
      unfold am_okN at h2
      dsimp only at h2
      split at h2 <;> first | (rename_i he; cases he; done) | skip
      all_goals first | (simp only [Bool.and_eq_true] at h2; exact ⟨am_in_s h2.1.1, am_in_s h2.1.2, am_in_s h2.2⟩) | (cases h2; done) | (exfalso; simp_all; done)
    · obtain ⟨q, h2⟩ := hn 3 (by decide) h
      unfold am_okN at h2
      dsimp only at h2
      split at h2 <;> first | (rename_i he; cases he; done) | skip
      all_goals first | (simp only [Bool.and_eq_true] at h2; exact ⟨am_in_s h2.1.1.1.1.1, am_in_s h2.1.1.1.1.2, am_in_s h2.1.1.1.2, am_in_s h2.1.1.2, am_in_s h2.1.2, am_inN_s h2.2⟩) | (cases h2; done) | (exfalso; simp_all; done)
    · obtain ⟨q, h2⟩ := hn 4 (by decide) h
      unfold am_okN at h2
      dsimp only at h2
      split at h2 <;> first | (rename_i he; cases he; done) | skip
      all_goals first | exact am_in_s h2 | (cases h2; done) | (exfalso; simp_all; done)
    · obtain ⟨q, h2⟩ := hn (100 + t) (by omega) h
      unfold am_okN at h2
      dsimp only at h2
      split at h2
      · rename_i he; injection he with h5 h6; omega
      · rename_i he; injection he with h5 h6; omega
      · rename_i he; injection he with h5 h6; omega
      · rename_i he; injection he with h5 h6; omega
      · rename_i he; injection he with h5 h6; omega
      · rename_i he; injection he with h5 h6; omega
      · rename_i he; injection he with h5 h6; omega
      · rename_i he; injection he with h5 h6; omega
      · rename_i he
        injection he with h5 h6
        have h7 : t = 3 := by omega
        subst h7
        simp only [Bool.and_eq_true, decide_eq_true_eq] at h2
        exact ⟨h2.1.1, am_inN_s h2.1.2, am_in_s h2.2⟩
      · cases h2
  · intro o x j h
    have hq : ∃ q, am_okN on kd tb o (x, (10 + j, q)) = true := by
      have h' : ((am_lk2 LN o x).map (fun q => q.1)).getD 0 = 10 + j := h
      cases hl : am_lk2 LN o x with
      | none =>
        rw [hl] at h'
        have h3 : 0 = 10 + j := h'
        omega
      | some q =>
        rw [hl] at h'
        have h2 := am_lk2_s cT hl
        obtain ⟨c', ps⟩ := q
        have h3 : c' = 10 + j := h'
        subst h3
        exact ⟨ps, h2⟩
    obtain ⟨q, h2⟩ := hq
    match j, h2 with
    | 0, h2 =>
      unfold am_okN at h2
      dsimp only at h2
      split at h2 <;> first | (rename_i he; cases he; done) | skip
      all_goals first | (simp only [Bool.and_eq_true] at h2; exact ⟨am_in_s h2.1.1.1, am_in_s h2.1.1.2, am_in_s h2.1.2, am_in_s h2.2⟩) | (cases h2; done) | (exfalso; simp_all; done)
    | 1, h2 =>
      unfold am_okN at h2
      dsimp only at h2
      split at h2 <;> first | (rename_i he; cases he; done) | skip
      all_goals first | (simp only [Bool.and_eq_true] at h2; exact ⟨am_in_s h2.1.1.1, am_in_s h2.1.1.2, am_in_s h2.1.2, am_in_s h2.2⟩) | (cases h2; done) | (exfalso; simp_all; done)
    | 2, h2 =>
      unfold am_okN at h2
      dsimp only at h2
      split at h2 <;> first | (rename_i he; cases he; done) | skip
      all_goals first | (simp only [Bool.and_eq_true] at h2; exact ⟨am_in_s h2.1.1.1, am_in_s h2.1.1.2, am_in_s h2.1.2, am_in_s h2.2⟩) | (cases h2; done) | (exfalso; simp_all; done)
    | 3, h2 =>
      unfold am_okN at h2
      dsimp only at h2
      split at h2 <;> first | (rename_i he; cases he; done) | skip
      all_goals first | (simp only [Bool.and_eq_true] at h2; exact ⟨am_in_s h2.1.1.1, am_in_s h2.1.1.2, am_in_s h2.1.2, am_in_s h2.2⟩) | (cases h2; done) | (exfalso; simp_all; done)
    | _ + 4, _ => trivial
  · intro t ci h
    have h' : LG.any (fun q => q.1.1 == t && q.1.2 == ci) = true := h
    obtain ⟨q, h1, h2⟩ := List.any_eq_true.mp h'
    simp only [Bool.and_eq_true, beq_iff_eq] at h2
    have h3 := List.all_eq_true.mp cG q h1
    unfold am_okG at h3
    rw [h2.1, h2.2] at h3
    split at h3
    · rename_i E C T N hk hc
      simp only [Bool.or_eq_true, decide_eq_true_eq] at h3
      exact ⟨E, _, hk, hc, h3.imp id am_inN_s⟩
    · cases h3
