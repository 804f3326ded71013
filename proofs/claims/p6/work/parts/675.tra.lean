/-! TC: an address read by what an atom tells of it -/
/-- atoms that tell of an element of a row of addresses -/
def tg_re (Γ : tg_G) : Prop := ∀ (t k : Nat), (k, 3000) ∈ Γ.2 t → ∀ (RO : am_O) (κ : Nat → Option Nat) (M : am_H) (b a : Nat) (i : Int), Γ.1 t RO κ M [b, a] [i] → ∃ (ty n : Nat) (f : Nat → Option Nat) (j : Nat), M b = some (am_qa ty n f) ∧ i = (j : Int) ∧ j < n ∧ f j = some a
def tc_rq (t b : Nat) (I : tl_F) : List tg_P → Option Nat
  | [] => none
  | (u, [b', a], [J]) :: l => if (u == 8 * t && (b' == b && tl_eq J I)) = true then some a else tc_rq t b I l
  | _ :: l => tc_rq t b I l
theorem tc_rq_s {t b : Nat} {I : tl_F} {a : Nat} : ∀ {l : List tg_P}, tc_rq t b I l = some a → ∃ J, (8 * t, [b, a], [J]) ∈ l ∧ tl_eq J I = true
  | [], h => by cases h
  | p :: l, h => by
    unfold tc_rq at h
    split at h
    · rename_i h1
      cases h1
    · rename_i u b' a' J l' h1
      cases h1
      split at h
      · rename_i e
        cases h
        obtain ⟨e1, e2⟩ := tc_and e
        obtain ⟨e2, e3⟩ := tc_and e2
        have e1 : u = 8 * t := by simpa using e1
        have e2 : b' = b := by simpa using e2
        subst e1
        subst e2
        exact ⟨J, List.mem_cons_self, e3⟩
      · obtain ⟨J', g1, g2⟩ := tc_rq_s h
        exact ⟨J', List.mem_cons_of_mem _ g1, g2⟩
    · rename_i h1
      cases h1
      obtain ⟨J', g1, g2⟩ := tc_rq_s h
      exact ⟨J', List.mem_cons_of_mem _ g1, g2⟩
/-- hint: ints: the atom's tag -/
def tc_ra (P : am_P) (T : tk_T) (fp : Nat → List (Nat × Nat)) (i : Instr) (len : Nat) (h : tc_h) (G : tc_G) : Option (List tc_G) := match G with
  | (nm, X, pc, L, S, q) => (match i with
    | .aaload => (match S with
      | (0, I, _) :: (2, _, b) :: r => (match tc_rq (tc_hi h 0).toNat b I X.2.2.2.2.2.2, (tc_kd X b).bind (fun k => T[k]?) with
        | some a, some (s, t, _) => (match (am_kd P)[t]? with
          | some ty => if (len = 1 ∧ s = 3) ∧ (ty.isReference && (fp (tc_hi h 0).toNat).any (fun q => q.2 == 3000)) = true then some [(nm, X, pc + 1, L, tv_a a :: r, q)] else none
          | none => none)
        | _, _ => none)
      | _ => none)
    | _ => none)
theorem tc_ra_s {D : tc_D} {mt : am_Meth} {i : Instr} {len : Nat} {h : tc_h} {G : tc_G} {Gs : List tc_G} (hre : tg_re D.2.2.1.2) (hm : am_meth D.1 D.2.2.2.1 = some mt) (hd : decode mt.2.1 G.2.2.1 = .ok (i, len)) (g : tc_ra D.1 D.2.2.1.1 D.2.2.1.2.2 i len h G = some Gs) (hG : ∀ G' ∈ Gs, tc_Ok D G') : tc_Ok D G := by
  obtain ⟨nm, X, pc, L, S, zq, lq⟩ := G
  intro V A κ M sz sl lv st hr hH hz hx hl hs hq
  unfold tc_ra at g
  cases i with
  | aaload =>
    dsimp only at g
    split at g
    · rename_i I k0 f0 b r
      split at g
      · rename_i a s t rest hq1 hk
        split at g
        · rename_i ty hty
          split at g
          · rename_i hc
            cases g
            obtain ⟨⟨rfl, rfl⟩, hc⟩ := hc
            obtain ⟨hc1, hc2⟩ := tc_and hc
            obtain ⟨q, q1, q2⟩ := List.any_eq_true.mp hc2
            have q2 : q.2 = 3000 := by simpa using q2
            obtain ⟨J, a1, a2⟩ := tc_rq_s hq1
            have a3 := hx.2.2.2.2.2.2.2 _ a1
            rw [tg_q0 (by show 8 * (tc_hi h 0).toNat % 8 = 0; omega)] at a3
            have e8 : 8 * (tc_hi h 0).toNat / 8 = (tc_hi h 0).toNat := by omega
            have a3 : D.2.2.1.2.1 (8 * (tc_hi h 0).toNat / 8) D.2.1 κ M [A b, A a] [tl_v V J] := a3
            rw [e8] at a3
            obtain ⟨ty', n', f', j, b1, b2, b3, b4⟩ := hre _ q.1 (by rw [← q2]; exact q1) _ _ _ _ _ _ a3
            have hcell := tc_kT hx hH hk
            obtain ⟨fs, E, lo, hi, O⟩ := rest
            obtain ⟨N, f, c1, c2, c3⟩ := hcell
            rw [c1] at b1
            have b1 := Option.some.inj b1
            unfold am_qa at b1
            cases b1
            obtain ⟨v, s, rfl, ⟨jx, rfl, hjx⟩, e4⟩ := tc_st1 hs
            obtain ⟨v, s, rfl, e5, e6⟩ := tc_st1 e4
            have e5 : v = .ref (A b) := e5
            subst e5
            have hjx : jx.toInt = tl_v V I := hjx
            obtain ⟨v1, v2⟩ := tc_vin (n := n') (j := j) (by rw [hjx, ← tl_eq_s (V := V) a2]; exact b2) (by omega)
            refine am_stepR hm hd (Or.inr (Or.inr (Or.inr (Or.inr (Or.inl ⟨rfl, jx, A b, s, _, _, _, ty, rfl, c1, hty, hc1, v1, ?_⟩)))))
            rw [v2, b4]
            exact hG _ List.mem_cons_self V A κ M sz sl lv (.ref (A a) :: s) hr hH hz hx hl ⟨rfl, e6⟩ hq
          · cases g
        · cases g
      · cases g
    · cases g
  | _ => cases g
/-- the same, but what is read gets a name of its own, with its kind. hint: ints: the atom's tag -/
def tc_rb (P : am_P) (T : tk_T) (fp : Nat → List (Nat × Nat)) (n0 m0 : Nat) (i : Instr) (len : Nat) (h : tc_h) (G : tc_G) : Option (List tc_G) := match G with
  | ((n, m), X, pc, L, S, zq, lq) => (match i with
    | .aaload => (match S with
      | (0, I, _) :: (2, _, b) :: r => (match tc_rq (tc_hi h 0).toNat b I X.2.2.2.2.2.2, (tc_kd X b).bind (fun k => T[k]?) with
        | some _, some (s, t, fs, _) => (match (am_kd P)[t]?, fs[0]? with
          | some ty, some τ => if ((len = 1 ∧ s = 3) ∧ tc_wf n0 m0 ((n, m), X, pc, L, (0, I, 0) :: (2, ([], 0), b) :: r, zq, lq) = true) ∧ (ty.isReference && (fp (tc_hi h 0).toNat).any (fun q => q.2 == 3000)) = true then some ((tc_alt X n m (2, τ.2)).map (fun y => ((n + y.2.2.1, m + y.2.2.2), y.1, pc + 1, L, y.2.1 :: r, zq, lq))) else none
          | _, _ => none)
        | _, _ => none)
      | _ => none)
    | _ => none)
theorem tc_rb_s {D : tc_D} {mt : am_Meth} {i : Instr} {len : Nat} {h : tc_h} {G : tc_G} {Gs : List tc_G} (hre : tg_re D.2.2.1.2) (hm : am_meth D.1 D.2.2.2.1 = some mt) (hd : decode mt.2.1 G.2.2.1 = .ok (i, len)) (g : tc_rb D.1 D.2.2.1.1 D.2.2.1.2.2 D.2.2.2.2.2.1 D.2.2.2.2.2.2.1 i len h G = some Gs) (hG : ∀ G' ∈ Gs, tc_Ok D G') : tc_Ok D G := by
  obtain ⟨⟨n, m⟩, X, pc, L, S, zq, lq⟩ := G
  intro V A κ M sz sl lv st hr hH hz hx hl hs hq
  unfold tc_rb at g
  cases i with
  | aaload =>
    dsimp only at g
    split at g
    · rename_i I k0 f0 b r
      split at g
      · rename_i a0 s t fs rest hq1 hk
        split at g
        · rename_i ty τ hty hτ
          split at g
          · rename_i hc
            cases g
            obtain ⟨⟨⟨rfl, rfl⟩, hw⟩, hc⟩ := hc
            obtain ⟨hc1, hc2⟩ := tc_and hc
            obtain ⟨q, q1, q2⟩ := List.any_eq_true.mp hc2
            have q2 : q.2 = 3000 := by simpa using q2
            obtain ⟨J, a1, a2⟩ := tc_rq_s hq1
            have a3 := hx.2.2.2.2.2.2.2 _ a1
            rw [tg_q0 (by show 8 * (tc_hi h 0).toNat % 8 = 0; omega)] at a3
            have e8 : 8 * (tc_hi h 0).toNat / 8 = (tc_hi h 0).toNat := by omega
            have a3 : D.2.2.1.2.1 (8 * (tc_hi h 0).toNat / 8) D.2.1 κ M [A b, A a0] [tl_v V J] := a3
            rw [e8] at a3
            obtain ⟨ty', n', f', j, b1, b2, b3, b4⟩ := hre _ q.1 (by rw [← q2]; exact q1) _ _ _ _ _ _ a3
            have hcell := tc_kT hx hH hk
            obtain ⟨E, lo, hi, O⟩ := rest
            obtain ⟨N, f, c1, c2, c3⟩ := hcell
            rw [c1] at b1
            have b1 := Option.some.inj b1
            unfold am_qa at b1
            cases b1
            obtain ⟨v, s, rfl, ⟨jx, rfl, hjx⟩, e4⟩ := tc_st1 hs
            obtain ⟨v, s, rfl, e5, e6⟩ := tc_st1 e4
            have e5 : v = .ref (A b) := e5
            subst e5
            have hjx : jx.toInt = tl_v V I := hjx
            obtain ⟨v1, v2⟩ := tc_vin (n := n') (j := j) (by rw [hjx, ← tl_eq_s (V := V) a2]; exact b2) (by omega)
            have q4 : tk_ok κ (2, τ.2) (.ref (A a0)) := by
              have c4 := c3 τ hτ j b3
              rw [b4] at c4
              obtain ⟨-, k, c6, c7⟩ := c4
              exact ⟨A a0, k, rfl, c6, c7⟩
            obtain ⟨w1, w2⟩ := tc_wfx hw
            obtain ⟨y, hy, V', A', k1, k2, k3, k4⟩ := tc_alt_s (n := n) hx w1 q4
            obtain ⟨p1, p2, p3, p4, -, -⟩ := tc_sh hw k1 k2 hr hl (st := .int jx :: .ref (A b) :: s) ⟨⟨jx, rfl, hjx⟩, rfl, e6⟩ hq
            refine am_stepR hm hd (Or.inr (Or.inr (Or.inr (Or.inr (Or.inl ⟨rfl, jx, A b, s, _, _, _, ty, rfl, c1, hty, hc1, v1, ?_⟩)))))
            rw [v2, b4]
            exact hG _ (List.mem_map.mpr ⟨y, hy, rfl⟩) V' A' κ M sz sl lv (_ :: s) p1 hH hz k3 p2 ⟨k4, p3.2.2⟩ (by have e := tc_alt_f hy; show tc_rm _ _ _ _ _ _ y.1.2.2.2.2.2.1 _ _; rw [e]; exact p4)
          · cases g
        · cases g
      · cases g
    · cases g
  | _ => cases g
