/-! TC: instructions that read the heap -/
/-- the static arrays' kinds -/
abbrev tc_Z : Type := Nat → Nat → Option Nat
def tc_zok (P : am_P) (Z : tc_Z) (κ : Nat → Option Nat) : Prop := ∀ own x a, am_sa0 P own x = some a → ∃ k, Z own x = some k ∧ κ a = some k
def tc_rd (P : am_P) (T : tk_T) (Z : tc_Z) (own n0 m0 : Nat) (i : Instr) (len : Nat) (h : tc_h) (G : tc_G) : Option (List tc_G) := match G with
  | ((n, m), X, pc, L, S, zq, lq) => match i with
    | .getfield x => (match S with
      | (2, _, a) :: r => if len = 3 then (match tc_frs X a with
        | some (ci, vals) => (match am_fld P own x ci with
          | some j => (vals[j]?).map (fun t => [((n, m), X, pc + 3, L, t :: r, zq, lq)])
          | none => none)
        | none => (match (tc_kd X a).bind (fun k => T[k]?) with
          | some (0, ci, fs, _) => (match am_fld P own x ci with
            | some j => (match tc_fd X a j with
              | some t => some [((n, m), X, pc + 3, L, t :: r, zq, lq)]
              | none => (match fs[j]? with
                | some τ => if tc_wf n0 m0 G then some ((tc_alt X n m τ).map (fun y => ((n + y.2.2.1, m + y.2.2.2), tc_xfd y.1 (a, j, y.2.1), pc + 3, L, y.2.1 :: r, zq, lq))) else none
                | none => none))
            | none => none)
          | _ => none)) else none
      | _ => none)
    | .getstatic x => if len = 3 ∧ tc_wf n0 m0 G = true then (match am_sa0 P own x, Z own x with
      | some _, some k => some [((n, m + 1), tc_xk X (m, k), pc + 3, L, tv_a m :: S, zq, lq)]
      | _, _ => none) else none
    | .arraylength => (match S with
      | (2, _, a) :: r => if len = 1 then (match (tc_kd X a).bind (fun k => T[k]?) with
        | some (s, t, _, _, lo, hi, _) => if (1 ≤ s ∧ s ≤ 4) ∧ (s = 4 ∨ t < (am_kd P).length) ∧ hi ≤ 2147483647 then (match tc_lnf X a with
          | some f => some [((n, m), X, pc + 1, L, tv_i f :: r, zq, lq)]
          | none => if tc_wf n0 m0 G then some [((n + 1, m), tc_xln (tc_xa X (tl_bt (tl_nm n) lo hi)) (a, tl_nm n), pc + 1, L, tv_i (tl_nm n) :: r, zq, lq)] else none) else none
        | none => none) else none
      | _ => none)
    | .iaload => (match S with
      | (0, I, _) :: (2, _, a) :: r => if len = 1 ∧ tc_ixc X h 0 a I = true then (match (tc_kd X a).bind (fun k => T[k]?) with
        | some (s, t, _, E, _) => if s = 4 ∨ (s = 1 ∧ t = 0) then (match tc_elf X a I with
          | some f => some [((n, m), X, pc + 1, L, tv_i f :: r, zq, lq)]
          | none => if tc_wf n0 m0 G then some [((n + 1, m), tc_xel (tc_xa X (tl_bt (tl_nm n) (-2147483648) 2147483647 ++ tc_ebf E h I (tl_nm n))) (a, I, tl_nm n), pc + 1, L, tv_i (tl_nm n) :: r, zq, lq)] else none) else none
        | none => none) else none
      | _ => none)
    | .baload => (match S with
      | (0, I, _) :: (2, _, a) :: r => if len = 1 ∧ tc_ixc X h 0 a I = true then (match (tc_kd X a).bind (fun k => T[k]?) with
        | some (s, t, _, E, _) => if s = 1 ∧ t = 2 then (match tc_elf X a I with
          | some f => some [((n, m), X, pc + 1, L, tv_i f :: r, zq, lq)]
          | none => if tc_wf n0 m0 G then some [((n + 1, m), tc_xel (tc_xa X (tl_bt (tl_nm n) (-2147483648) 2147483647 ++ tc_ebf E h I (tl_nm n))) (a, I, tl_nm n), pc + 1, L, tv_i (tl_nm n) :: r, zq, lq)] else none) else none
        | none => none) else none
      | _ => none)
    | .laload => (match S with
      | (0, I, _) :: (2, _, a) :: r => if len = 1 ∧ tc_ixc X h 0 a I = true then (match (tc_kd X a).bind (fun k => T[k]?) with
        | some (s, t, _) => if s = 2 ∧ t = 1 then some [((n, m), X, pc + 1, L, tv_j :: r, zq, lq)] else none
        | none => none) else none
      | _ => none)
    | .aaload => (match S with
      | (0, I, _) :: (2, _, a) :: r => if len = 1 ∧ tc_ixc X h 0 a I = true then (match (tc_kd X a).bind (fun k => T[k]?) with
        | some (s, t, fs, _) => (match (am_kd P)[t]?, fs[0]? with
          | some ty, some τ => if s = 3 ∧ ty.isReference = true ∧ tc_wf n0 m0 G = true ∧ 2 ≤ τ.1 ∧ τ.1 ≤ 3 then some ((tc_alt X n m τ).map (fun y => ((n + y.2.2.1, m + y.2.2.2), y.1, pc + 1, L, y.2.1 :: r, zq, lq))) else none
          | _, _ => none)
        | none => none) else none
      | _ => none)
    | _ => none
section TCS
variable {Γ : tg_G} {RO : am_O} {κ : Nat → Option Nat} {M : am_H} {sz sl : Nat} {V V' : Nat → Int} {A A' : Nat → Nat} {X : tc_X} {T : tk_T}
theorem tc_kT (h : tc_x Γ RO κ M sz V A X) (hH : tk_H T RO κ M sz) {a : Nat} {K : tk_K} (g : (tc_kd X a).bind (fun k => T[k]?) = some K) : tk_cell κ RO M (A a) K := by
  obtain ⟨k, h1, h2⟩ := Option.bind_eq_some_iff.mp g
  obtain ⟨-, K', h3, h4⟩ := hH _ _ (tc_kd_s h h1)
  rw [h2] at h3
  cases h3
  exact h4
theorem tc_sh {W : tc_W} {n0 m0 n m pc : Nat} {F : List Nat} {E : tc_E} {L : tc_L} {S : List tv_V} {zq lq : tl_F} {lv : am_L} {st : List Value} (hw : tc_wf n0 m0 ((n, m), X, pc, L, S, zq, lq) = true) (hV : ∀ k, k < n → V k = V' k) (hA : ∀ k, k < m → A k = A' k)
    (hr : tc_rel W n0 m0 F E V A κ M sz sl) (hl : tc_lv V A L lv) (hs : tc_st V A S st) (hq : tc_rm F E V A zq lq X.2.2.2.2.2.1 sz sl) :
    tc_rel W n0 m0 F E V' A' κ M sz sl ∧ tc_lv V' A' L lv ∧ tc_st V' A' S st ∧ tc_rm F E V' A' zq lq X.2.2.2.2.2.1 sz sl ∧ tc_wx n m X = true ∧ S.all (tv_lt n m) = true := by
  obtain ⟨w0, w⟩ := tc_and hw
  obtain ⟨w1, w⟩ := tc_and w
  obtain ⟨w2, w⟩ := tc_and w
  obtain ⟨w3, w⟩ := tc_and w
  obtain ⟨w4, w⟩ := tc_and w
  obtain ⟨w5, w6⟩ := tc_and w
  refine ⟨tc_rel_A (tc_rel_V hr (of_decide_eq_true w0) hV) (of_decide_eq_true w1) hA, tc_lv_lt hV hA w3 hl, tc_st_lt hV hA w4 hs, tc_rm_lt hV hA w5 w6 (tc_wx6 w2) hq, w2, w4⟩
theorem tc_wfx {n0 m0 n m pc : Nat} {L : tc_L} {S : List tv_V} {zq lq : tl_F} (hw : tc_wf n0 m0 ((n, m), X, pc, L, S, zq, lq) = true) : tc_wx n m X = true ∧ S.all (tv_lt n m) = true := by
  obtain ⟨w0, w⟩ := tc_and hw
  obtain ⟨w1, w⟩ := tc_and w
  obtain ⟨w2, w⟩ := tc_and w
  obtain ⟨w3, w⟩ := tc_and w
  obtain ⟨w4, w⟩ := tc_and w
  exact ⟨w2, w4⟩
theorem tc_alm {n m a : Nat} {f : tl_F} {r : List tv_V} (h : (((2, f, a) : tv_V) :: r).all (tv_lt n m) = true) : a < m ∧ r.all (tv_lt n m) = true := by
  obtain ⟨h1, h2⟩ := tc_and (show (tv_lt n m (2, f, a) && r.all (tv_lt n m)) = true from h)
  have h3 := (tc_and h1).2
  exact ⟨by simpa using h3, h2⟩
theorem tc_alr {n m : Nat} {t : tv_V} {r : List tv_V} (h : (t :: r).all (tv_lt n m) = true) : tv_lt n m t = true ∧ r.all (tv_lt n m) = true := tc_and (show (tv_lt n m t && r.all (tv_lt n m)) = true from h)
/-- an element of ints that is found -/
theorem tc_rd_el (h : tc_x Γ RO κ M sz V A X) {n m a t N : Nat} {f : Nat → Int32} {I : tl_F} {E : List tk_E} {hh : tc_h} {j : Nat} (hw : tc_wx n m X = true) (ham : a < m) (hI : tl_lt n I = true) (hM : M (A a) = some (.inl (t, N, .inl f)) ∨ (M (A a) = none ∧ RO (A a) = some (N, f))) (hIj : tl_v V I = (j : Int)) (hj : j < N) (hE : tk_eb E j (f j).toInt) :
    ∃ V' : Nat → Int, (∀ k, k < n → V k = V' k) ∧ tc_x Γ RO κ M sz V' A (tc_xel (tc_xa X (tl_bt (tl_nm n) (-2147483648) 2147483647 ++ tc_ebf E hh I (tl_nm n))) (a, I, tl_nm n)) ∧ tv_is V' A (tv_i (tl_nm n)) (.int (f j)) := by
  have hI' : tl_v (tl_up V n (f j).toInt) I = (j : Int) := (tl_up_v hI).trans hIj
  refine ⟨tl_up V n (f j).toInt, tl_up_lt, tc_xel_s (tc_xa_s (tc_x_lt tl_up_lt (fun _ _ => rfl) hw h) (fun e he => ?_)) ⟨t, N, f, j, hM, hI', hj, (tl_up_nm _ _ _).symm⟩, ⟨f j, rfl, (tl_up_nm _ _ _).symm⟩⟩
  rcases List.mem_append.mp he with he | he
  · exact tl_bt_s (by rw [tl_up_nm]; exact to_lo _) (by rw [tl_up_nm]; exact to_hi _) e he
  · exact tc_ebf_s hI' (by rw [tl_up_nm]; exact hE) e he
set_option maxHeartbeats 4000000 in
theorem tc_rd_s {D : tc_D} {Z : tc_Z} {mt : am_Meth} {i : Instr} {len : Nat} {h : tc_h} {G : tc_G} {Gs : List tc_G} (hZ : tc_zok D.1 Z D.2.2.2.2.2.2.2.2.1.2.2.1) (hm : am_meth D.1 D.2.2.2.1 = some mt) (hd : decode mt.2.1 G.2.2.1 = .ok (i, len)) (g : tc_rd D.1 D.2.2.1.1 Z mt.2.2.2.2.2.2 D.2.2.2.2.2.1 D.2.2.2.2.2.2.1 i len h G = some Gs) (hG : ∀ G' ∈ Gs, tc_Ok D G') : tc_Ok D G := by
  obtain ⟨⟨n, m⟩, X, pc, L, S, zq, lq⟩ := G
  intro V A κ M sz sl lv st hr hH hz hx hl hs hq
  have hgo : ∀ {P : am_K → Prop}, (∀ K, P K → True) → True := fun _ => trivial
  cases i with
  | getfield x =>
    unfold tc_rd at g
    dsimp only at g
    split at g
    · rename_i f0 a r
      split at g
      · rename_i hlen
        obtain ⟨v, s, rfl, e1, e2⟩ := tc_st1 hs
        have e1 : v = .ref (A a) := e1
        subst e1
        split at g
        · rename_i ci vals hfr
          split at g
          · rename_i j hj
            obtain ⟨t, ht, rfl⟩ := Option.map_eq_some_iff.mp g
            obtain ⟨-, -, vs, q1, q2⟩ := tc_frs_s hx hfr
            obtain ⟨w, q3, q4⟩ := tc_st_at q2 ht
            refine am_stepR hm hd (Or.inr (Or.inr (Or.inr (Or.inr (Or.inl ⟨hlen, A a, s, ci, vs, j, w, rfl, q1, hj, q3, ?_⟩)))))
            exact hG _ List.mem_cons_self V A κ M sz sl lv (w :: s) hr hH hz hx hl ⟨q4, e2⟩ hq
          · cases g
        · split at g
          · rename_i ci fs _ hk
            split at g
            · rename_i j hj
              obtain ⟨vs, q1, q2, -⟩ := tc_kT hx hH hk
              split at g
              · rename_i t ht
                cases g
                obtain ⟨ci', vs', w, q3, q4, q5⟩ := tc_fd_s hx ht
                have q3 : M (A a) = some (.inr (ci', vs')) := q3
                rw [q1] at q3
                cases q3
                refine am_stepR hm hd (Or.inr (Or.inr (Or.inr (Or.inr (Or.inl ⟨hlen, A a, s, ci, vs, j, w, rfl, q1, hj, q4, ?_⟩)))))
                exact hG _ List.mem_cons_self V A κ M sz sl lv (w :: s) hr hH hz hx hl ⟨q5, e2⟩ hq
              · split at g
                · rename_i τ hτ
                  split at g
                  · rename_i hw
                    cases g
                    obtain ⟨w, q3, q4⟩ := tk_vs_at q2 hτ
                    obtain ⟨w1, w2⟩ := tc_wfx hw
                    obtain ⟨ham, w3⟩ := tc_alm w2
                    obtain ⟨y, hy, V', A', k1, k2, k3, k4⟩ := tc_alt_s (n := n) hx w1 q4
                    obtain ⟨p1, p2, p3, p4, -, -⟩ := tc_sh hw k1 k2 hr hl hs hq
                    refine am_stepR hm hd (Or.inr (Or.inr (Or.inr (Or.inr (Or.inl ⟨hlen, A a, s, ci, vs, j, w, rfl, q1, hj, q3, ?_⟩)))))
                    refine hG _ (List.mem_map.mpr ⟨y, hy, rfl⟩) V' A' κ M sz sl lv (w :: s) p1 hH hz (tc_xfd_s k3 ⟨ci, vs, w, ?_, q3, k4⟩) p2 ⟨k4, p3.2⟩ (by have e := tc_alt_f hy; show tc_rm _ _ _ _ _ _ y.1.2.2.2.2.2.1 _ _; rw [e]; exact p4)
                    show M (A' a) = _
                    rw [← k2 a ham]
                    exact q1
                  · cases g
                · cases g
            · cases g
          · cases g
      · cases g
    · cases g
  | getstatic x =>
    unfold tc_rd at g
    dsimp only at g
    split at g
    · rename_i hlen
      split at g
      · rename_i b k hb hk
        cases g
        obtain ⟨w1, -⟩ := tc_wfx hlen.2
        obtain ⟨k', z1, z2⟩ := hZ _ _ _ hb
        rw [hk] at z1
        cases z1
        have z3 := hr.2.2.1 _ _ z2
        obtain ⟨k1, k2, k3⟩ := tc_alt_a (n := n) hx w1 z3
        obtain ⟨p1, p2, p3, p4, -, -⟩ := tc_sh hlen.2 (fun _ _ => rfl) k1 hr hl hs hq
        refine am_stepR hm hd (Or.inr (Or.inr (Or.inr (Or.inr (Or.inl ⟨hlen.1, b, hb, ?_⟩)))))
        exact hG _ List.mem_cons_self V _ κ M sz sl lv (Value.ref b :: st) p1 hH hz k2 p2 ⟨k3, p3⟩ p4
      · cases g
    · cases g
  | arraylength =>
    unfold tc_rd at g
    dsimp only at g
    split at g
    · rename_i f0 a r
      split at g
      · rename_i hlen
        obtain ⟨v, s, rfl, e1, e2⟩ := tc_st1 hs
        have e1 : v = .ref (A a) := e1
        subst e1
        split at g
        · rename_i s0 t fs E lo hi O hk
          split at g
          · rename_i hc
            obtain ⟨hs4, hkd, hhi⟩ := hc
            have hcell := tc_kT hx hH hk
            have key : ∃ (t' : Nat) (x : vp_A), ((M (A a) = some (.inl (t', x)) ∧ t' < (am_kd D.1).length) ∨ (M (A a) = none ∧ ∃ f, D.2.1 (A a) = some (x.1, f))) ∧ lo ≤ (x.1 : Int) ∧ (x.1 : Int) ≤ hi := by
              match s0, hcell, hkd, hs4 with
              | 0, _, _, q => omega
              | 1, ⟨N, f, c1, c2, _⟩, q, _ => exact ⟨t, _, Or.inl ⟨c1, by omega⟩, c2⟩
              | 2, ⟨N, f, c1, c2⟩, q, _ => exact ⟨t, _, Or.inl ⟨c1, by omega⟩, c2⟩
              | 3, ⟨N, f, c1, c2, _⟩, q, _ => exact ⟨t, _, Or.inl ⟨c1, by omega⟩, c2⟩
              | 4, ⟨c0, N, f, c1, c2, _⟩, _, _ => exact ⟨0, (N, .inl f), Or.inr ⟨c0, f, c1⟩, c2⟩
              | q + 5, c, _, _ => exact c.elim
            obtain ⟨t', x, c1, c2, c3⟩ := key
            have hlenA : tk_len M D.2.1 (A a) x.1 := by
              rcases c1 with ⟨c1, _⟩ | ⟨c0, f, c1⟩
              · exact Or.inl ⟨t', x, c1, rfl⟩
              · exact Or.inr ⟨c0, f, c1⟩
            have hx1 : (Int32.ofNat x.1).toInt = (x.1 : Int) := by
              have e : (Int32.ofNat x.1).toInt = (BitVec.ofNat 32 x.1).toInt := rfl
              have h1 : (BitVec.ofNat 32 x.1).toNat = x.1 := by
                rw [BitVec.toNat_ofNat]
                exact Nat.mod_eq_of_lt (by omega)
              rw [e, to_nm (by omega), h1]
            split at g
            · rename_i f hf
              cases g
              obtain ⟨N', d1, d2⟩ := tc_lnf_s hx hf
              have d3 := tk_len_1 hlenA d1
              refine am_stepR hm hd (Or.inr (Or.inr (Or.inr (Or.inr (Or.inl ⟨hlen, A a, s, t', x, rfl, c1, ?_⟩)))))
              refine hG _ List.mem_cons_self V A κ M sz sl lv (_ :: s) hr hH hz hx hl ⟨⟨_, rfl, ?_⟩, e2⟩ hq
              rw [hx1, d3]
              exact d2.symm
            · split at g
              · rename_i hw
                cases g
                obtain ⟨w1, w2⟩ := tc_wfx hw
                obtain ⟨p1, p2, p3, p4, -, -⟩ := tc_sh (V' := tl_up V n (x.1 : Int)) hw tl_up_lt (fun _ _ => rfl) hr hl hs hq
                refine am_stepR hm hd (Or.inr (Or.inr (Or.inr (Or.inr (Or.inl ⟨hlen, A a, s, t', x, rfl, c1, ?_⟩)))))
                refine hG _ List.mem_cons_self (tl_up V n (x.1 : Int)) A κ M sz sl lv (_ :: s) p1 hH hz (tc_xln_s (tc_xa_s (tc_x_lt tl_up_lt (fun _ _ => rfl) w1 hx) (tl_bt_s (by rw [tl_up_nm]; exact c2) (by rw [tl_up_nm]; exact c3))) ⟨x.1, hlenA, tl_up_nm _ _ _⟩) p2 ⟨⟨_, rfl, ?_⟩, p3.2⟩ p4
                rw [hx1]
                exact (tl_up_nm _ _ _).symm
              · cases g
          · cases g
        · cases g
      · cases g
    · cases g
  | iaload =>
    unfold tc_rd at g
    dsimp only at g
    split at g
    · rename_i I k0 f0 a r
      split at g
      · rename_i hlen
        obtain ⟨v, s, rfl, ⟨jx, rfl, hjx⟩, e2⟩ := tc_st1 hs
        obtain ⟨v, s, rfl, e1, e3⟩ := tc_st1 e2
        have e1 : v = .ref (A a) := e1
        subst e1
        split at g
        · rename_i s0 t fs E rest hk
          split at g
          · rename_i hc
            have hcell := tc_kT hx hH hk
            have key : ∃ (N : Nat) (f : Nat → Int32), (M (A a) = some (.inl (0, N, .inl f)) ∨ (M (A a) = none ∧ D.2.1 (A a) = some (N, f))) ∧ ∀ j, j < N → tk_eb E j (f j).toInt := by
              obtain ⟨lo, hi, O⟩ := rest
              rcases hc with hc | ⟨hc, hc2⟩
              · subst hc
                obtain ⟨c0, N, f, c1, c2, c3⟩ := hcell
                exact ⟨N, f, Or.inr ⟨c0, c1⟩, c3⟩
              · subst hc
                subst hc2
                obtain ⟨N, f, c1, c2, c3⟩ := hcell
                exact ⟨N, f, Or.inl c1, c3⟩
            obtain ⟨N, f, c1, c3⟩ := key
            have hlenA : tk_len M D.2.1 (A a) N := by
              rcases c1 with c1 | ⟨c0, c1⟩
              · exact Or.inl ⟨0, (N, .inl f), c1, rfl⟩
              · exact Or.inr ⟨c0, f, c1⟩
            obtain ⟨j, j1, j2⟩ := tc_ixc_s hx hlen.2 hlenA
            have hjx : jx.toInt = tl_v V I := hjx
            obtain ⟨b1, b2⟩ := tc_vin (hjx.trans j1) j2
            have hstep : ∀ K : am_K, K (pc + 1) (Value.int (f j) :: s) M sz sl → am_hp D.1 D.2.1 mt.2.2.2.2.2.2 (mt.1.name == "<init>") .iaload len pc (Value.int jx :: Value.ref (A a) :: s) M sz sl K := fun K q => ⟨hlen.1, jx, A a, s, N, f, rfl, c1, b1, by rw [b2]; exact q⟩
            split at g
            · rename_i fe hfe
              cases g
              obtain ⟨t1, N1, f1, j3, d1, d2, d3, d4⟩ := tc_elf_s hx hfe
              have d2 : tl_v V I = (j3 : Int) := d2
              have ej : j3 = j := by omega
              have ef : f1 j = f j := by
                rcases c1 with c1 | ⟨c0, c1⟩
                · rcases d1 with d1 | ⟨d0, d1⟩
                  · have d1 : M (A a) = _ := d1
                    rw [c1] at d1
                    cases d1
                    rfl
                  · have d0 : M (A a) = none := d0
                    rw [c1] at d0
                    cases d0
                · rcases d1 with d1 | ⟨d0, d1⟩
                  · have d1 : M (A a) = _ := d1
                    rw [c0] at d1
                    cases d1
                  · have d1 : D.2.1 (A a) = _ := d1
                    rw [c1] at d1
                    cases d1
                    rfl
              subst ej
              refine am_stepR hm hd (Or.inr (Or.inr (Or.inr (Or.inr (Or.inl (hstep _ ?_))))))
              exact hG _ List.mem_cons_self V A κ M sz sl lv (_ :: s) hr hH hz hx hl ⟨⟨_, rfl, by rw [← ef]; exact d4⟩, e3⟩ hq
            · split at g
              · rename_i hw
                cases g
                obtain ⟨w1, w2⟩ := tc_wfx hw
                obtain ⟨wI, w3⟩ := tc_alr w2
                obtain ⟨ham, w4⟩ := tc_alm w3
                obtain ⟨V', k1, k2, k3⟩ := tc_rd_el (E := E) (hh := h) hx w1 ham (tc_and wI).1 c1 j1 j2 (c3 j j2)
                obtain ⟨p1, p2, p3, p4, -, -⟩ := tc_sh hw k1 (fun _ _ => rfl) hr hl hs hq
                refine am_stepR hm hd (Or.inr (Or.inr (Or.inr (Or.inr (Or.inl (hstep _ ?_))))))
                exact hG _ List.mem_cons_self V' A κ M sz sl lv (_ :: s) p1 hH hz k2 p2 ⟨k3, p3.2.2⟩ p4
              · cases g
          · cases g
        · cases g
      · cases g
    · cases g
  | baload =>
    unfold tc_rd at g
    dsimp only at g
    split at g
    · rename_i I k0 f0 a r
      split at g
      · rename_i hlen
        obtain ⟨v, s, rfl, ⟨jx, rfl, hjx⟩, e2⟩ := tc_st1 hs
        obtain ⟨v, s, rfl, e1, e3⟩ := tc_st1 e2
        have e1 : v = .ref (A a) := e1
        subst e1
        split at g
        · rename_i s0 t fs E rest hk
          split at g
          · rename_i hc
            have hcell := tc_kT hx hH hk
            obtain ⟨lo, hi, O⟩ := rest
            obtain ⟨rfl, rfl⟩ := hc
            obtain ⟨N, f, c1, c2, c3⟩ := hcell
            have hlenA : tk_len M D.2.1 (A a) N := Or.inl ⟨2, (N, .inl f), c1, rfl⟩
            obtain ⟨j, j1, j2⟩ := tc_ixc_s hx hlen.2 hlenA
            have hjx : jx.toInt = tl_v V I := hjx
            obtain ⟨b1, b2⟩ := tc_vin (hjx.trans j1) j2
            have hstep : ∀ K : am_K, K (pc + 1) (Value.int (f j) :: s) M sz sl → am_hp D.1 D.2.1 mt.2.2.2.2.2.2 (mt.1.name == "<init>") .baload len pc (Value.int jx :: Value.ref (A a) :: s) M sz sl K := fun K q => ⟨hlen.1, jx, A a, s, N, f, rfl, c1, b1, by rw [b2]; exact q⟩
            split at g
            · rename_i fe hfe
              cases g
              obtain ⟨t1, N1, f1, j3, d1, d2, d3, d4⟩ := tc_elf_s hx hfe
              have d2 : tl_v V I = (j3 : Int) := d2
              have ej : j3 = j := by omega
              have ef : f1 j = f j := by
                rcases d1 with d1 | ⟨d0, d1⟩
                · have d1 : M (A a) = _ := d1
                  rw [c1] at d1
                  cases d1
                  rfl
                · have d0 : M (A a) = none := d0
                  rw [c1] at d0
                  cases d0
              subst ej
              refine am_stepR hm hd (Or.inr (Or.inr (Or.inr (Or.inr (Or.inl (hstep _ ?_))))))
              exact hG _ List.mem_cons_self V A κ M sz sl lv (_ :: s) hr hH hz hx hl ⟨⟨_, rfl, by rw [← ef]; exact d4⟩, e3⟩ hq
            · split at g
              · rename_i hw
                cases g
                obtain ⟨w1, w2⟩ := tc_wfx hw
                obtain ⟨wI, w3⟩ := tc_alr w2
                obtain ⟨ham, w4⟩ := tc_alm w3
                obtain ⟨V', k1, k2, k3⟩ := tc_rd_el (E := E) (hh := h) hx w1 ham (tc_and wI).1 (Or.inl c1) j1 j2 (c3 j j2)
                obtain ⟨p1, p2, p3, p4, -, -⟩ := tc_sh hw k1 (fun _ _ => rfl) hr hl hs hq
                refine am_stepR hm hd (Or.inr (Or.inr (Or.inr (Or.inr (Or.inl (hstep _ ?_))))))
                exact hG _ List.mem_cons_self V' A κ M sz sl lv (_ :: s) p1 hH hz k2 p2 ⟨k3, p3.2.2⟩ p4
              · cases g
          · cases g
        · cases g
      · cases g
    · cases g
  | laload =>
    unfold tc_rd at g
    dsimp only at g
    split at g
    · rename_i I k0 f0 a r
      split at g
      · rename_i hlen
        obtain ⟨v, s, rfl, ⟨jx, rfl, hjx⟩, e2⟩ := tc_st1 hs
        obtain ⟨v, s, rfl, e1, e3⟩ := tc_st1 e2
        have e1 : v = .ref (A a) := e1
        subst e1
        split at g
        · rename_i s0 t rest hk
          split at g
          · rename_i hc
            have hcell := tc_kT hx hH hk
            obtain ⟨fs, E, lo, hi, O⟩ := rest
            obtain ⟨rfl, rfl⟩ := hc
            cases g
            obtain ⟨N, f, c1, c2⟩ := hcell
            have hlenA : tk_len M D.2.1 (A a) N := Or.inl ⟨1, (N, .inr (.inl f)), c1, rfl⟩
            obtain ⟨j, j1, j2⟩ := tc_ixc_s hx hlen.2 hlenA
            have hjx : jx.toInt = tl_v V I := hjx
            obtain ⟨b1, b2⟩ := tc_vin (hjx.trans j1) j2
            refine am_stepR hm hd (Or.inr (Or.inr (Or.inr (Or.inr (Or.inl ⟨hlen.1, jx, A a, s, N, f, rfl, c1, b1, ?_⟩)))))
            exact hG _ List.mem_cons_self V A κ M sz sl lv (_ :: s) hr hH hz hx hl ⟨⟨_, rfl⟩, e3⟩ hq
          · cases g
        · cases g
      · cases g
    · cases g
  | aaload =>
    unfold tc_rd at g
    dsimp only at g
    split at g
    · rename_i I k0 f0 a r
      split at g
      · rename_i hlen
        obtain ⟨v, s, rfl, ⟨jx, rfl, hjx⟩, e2⟩ := tc_st1 hs
        obtain ⟨v, s, rfl, e1, e3⟩ := tc_st1 e2
        have e1 : v = .ref (A a) := e1
        subst e1
        split at g
        · rename_i s0 t fs rest hk
          split at g
          · rename_i ty τ hty hτ
            split at g
            · rename_i hc
              have hcell := tc_kT hx hH hk
              obtain ⟨E, lo, hi, O⟩ := rest
              obtain ⟨rfl, hc2, hw, hc3, hc4⟩ := hc
              cases g
              obtain ⟨N, f, c1, c2, c3⟩ := hcell
              have hlenA : tk_len M D.2.1 (A a) N := Or.inl ⟨t, _, c1, rfl⟩
              obtain ⟨j, j1, j2⟩ := tc_ixc_s hx hlen.2 hlenA
              have hjx : jx.toInt = tl_v V I := hjx
              obtain ⟨b1, b2⟩ := tc_vin (hjx.trans j1) j2
              have q4 : tk_ok κ τ (va_rf (f j)) := by
                have c4 := c3 τ hτ j j2
                obtain ⟨s1, lo1, hi1, ks⟩ := τ
                cases hfj : f j with
                | none =>
                  rw [hfj] at c4
                  have c4 : s1 = 3 := c4
                  subst c4
                  exact Or.inl rfl
                | some b =>
                  rw [hfj] at c4
                  obtain ⟨c5, k, c6, c7⟩ := c4
                  rcases c5 with c5 | c5
                  · have c5 : s1 = 2 := c5
                    subst c5
                    exact ⟨b, k, rfl, c6, c7⟩
                  · have c5 : s1 = 3 := c5
                    subst c5
                    exact Or.inr ⟨b, k, rfl, c6, c7⟩
              obtain ⟨w1, w2⟩ := tc_wfx hw
              obtain ⟨y, hy, V', A', k1, k2, k3, k4⟩ := tc_alt_s (n := n) hx w1 q4
              obtain ⟨p1, p2, p3, p4, -, -⟩ := tc_sh hw k1 k2 hr hl hs hq
              refine am_stepR hm hd (Or.inr (Or.inr (Or.inr (Or.inr (Or.inl ⟨hlen.1, jx, A a, s, N, t, f, ty, rfl, c1, hty, hc2, b1, ?_⟩)))))
              rw [b2]
              exact hG _ (List.mem_map.mpr ⟨y, hy, rfl⟩) V' A' κ M sz sl lv (_ :: s) p1 hH hz k3 p2 ⟨k4, p3.2.2⟩ (by have e := tc_alt_f hy; show tc_rm _ _ _ _ _ _ y.1.2.2.2.2.2.1 _ _; rw [e]; exact p4)
            · cases g
          · cases g
        · cases g
      · cases g
    · cases g
  | _ => cases g
end TCS
