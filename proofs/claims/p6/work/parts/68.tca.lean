/-! TC: what is made -/
def tc_dfv : List Value → Option (List tv_V)
  | [] => some []
  | v :: r => (match v, tc_dfv r with
    | .int x, some s => some (tv_i (tl_c x.toInt) :: s)
    | .long x, some s => some (tv_l (tl_c x.toInt) :: s)
    | .null, some s => some (tv_0 :: s)
    | _, _ => none)
theorem tc_dfv_s {V : Nat → Int} {A : Nat → Nat} : ∀ {l : List Value} {s : List tv_V}, tc_dfv l = some s → tc_st V A s l
  | [], s, h => by
    cases h
    trivial
  | v :: r, s, h => by
    unfold tc_dfv at h
    split at h
    · rename_i x s' hs
      cases h
      exact ⟨tv_ci x, tc_dfv_s hs⟩
    · rename_i x s' hs
      cases h
      exact ⟨tv_cl x, tc_dfv_s hs⟩
    · rename_i s' hs
      cases h
      exact ⟨rfl, tc_dfv_s hs⟩
    · cases h
theorem tc_dfv_lt {n m : Nat} : ∀ {l : List Value} {s : List tv_V}, tc_dfv l = some s → s.all (tv_lt n m) = true
  | [], s, h => by
    cases h
    rfl
  | v :: r, s, h => by
    unfold tc_dfv at h
    split at h
    · rename_i x s' hs
      cases h
      exact (Bool.and_eq_true _ _).mpr ⟨rfl, tc_dfv_lt hs⟩
    · rename_i x s' hs
      cases h
      exact (Bool.and_eq_true _ _).mpr ⟨rfl, tc_dfv_lt hs⟩
    · rename_i s' hs
      cases h
      exact (Bool.and_eq_true _ _).mpr ⟨rfl, tc_dfv_lt hs⟩
    · cases h
/-- 0s within an element's bounds -/
def tc_e0 (E : List tk_E) : Bool := E.all (fun e => decide (e.1 ≤ 0) && (decide (e.2.1 ≤ 0) && (decide (0 ≤ e.2.2.1) && decide (0 ≤ e.2.2.2))))
theorem tc_e0_s {E : List tk_E} (h : tc_e0 E = true) (j : Nat) : tk_eb E j 0 := by
  intro e he
  obtain ⟨h1, h⟩ := tc_and (tc_al h e (List.mem_of_getElem? he))
  obtain ⟨h2, h⟩ := tc_and h
  obtain ⟨h3, h4⟩ := tc_and h
  have h1 : e.1 ≤ 0 := of_decide_eq_true h1
  have h2 : e.2.1 ≤ 0 := of_decide_eq_true h2
  have h3 : 0 ≤ e.2.2.1 := of_decide_eq_true h3
  have h4 : 0 ≤ e.2.2.2 := of_decide_eq_true h4
  have h5 : (0 : Int) ≤ ((j / E.length : Nat) : Int) := Int.natCast_nonneg _
  have h6 : e.2.1 * ((j / E.length : Nat) : Int) ≤ 0 := Int.mul_nonpos_of_nonpos_of_nonneg h2 h5
  have h7 : 0 ≤ e.2.2.2 * ((j / E.length : Nat) : Int) := Int.mul_nonneg h4 h5
  omega
def tc_nty (ty : ArrayType) : Option (Nat × Nat) := match ty with
  | .int => some (1, 0)
  | .long => some (2, 1)
  | .boolean => some (1, 2)
  | _ => none
/-- a fresh object's name, with its fields -/
def tc_xnf (X : tc_X) (m ci : Nat) (vals : List tv_V) : tc_X := (X.1, X.2.1, X.2.2.1, X.2.2.2.1, X.2.2.2.2.1, (m, ci, vals) :: X.2.2.2.2.2.1, X.2.2.2.2.2.2)
/-- a size: not below 0, not too large, within a kind's bounds -/
def tc_sz (X : tc_X) (h : tc_h) (f : tl_F) (lo hi : Int) : Bool := (tl_pr X.1 f (tc_cf h 0) && tl_pr X.1 (tl_ad (tl_neg f) 67108864) (tc_cf h 1)) && (tl_pr X.1 (tl_ad f (-lo)) (tc_cf h 2) && tl_pr X.1 (tl_ad (tl_neg f) hi) (tc_cf h 3))
/-- atoms more -/
def tc_xat (X : tc_X) (Q : List tg_P) : tc_X := (X.1, X.2.1, X.2.2.1, X.2.2.2.1, X.2.2.2.2.1, X.2.2.2.2.2.1, X.2.2.2.2.2.2 ++ Q)
theorem tc_xat_s {Γ : tg_G} {RO : am_O} {κ : Nat → Option Nat} {M : am_H} {sz : Nat} {V : Nat → Int} {A : Nat → Nat} {X : tc_X} {Q : List tg_P} (h : tc_x Γ RO κ M sz V A X) (hQ : ∀ p ∈ Q, tc_xq Γ RO κ M V A p) : tc_x Γ RO κ M sz V A (tc_xat X Q) := by
  obtain ⟨h1, h2, h3, h4, h5, h6, h7, h8⟩ := h
  refine ⟨h1, h2, h3, h4, h5, h6, h7, fun p hp => ?_⟩
  rcases List.mem_append.mp hp with hp | hp
  · exact h8 p hp
  · exact hQ p hp
/-- hint: ints: kind (of many: the rows', then the rows' elements' kind) -/
def tc_mk (P : am_P) (T : tk_T) (fp : Nat → List (Nat × Nat)) (W : tc_W) (own n0 m0 : Nat) (i : Instr) (len : Nat) (h : tc_h) (G : tc_G) : Option (List tc_G) := match G with
  | ((n, m), X, pc, L, S, zq, lq) => if tc_wf n0 m0 G then (match i with
    | .new x => if len = 3 then (match am_nw P own x with
      | some ci => (match tc_dfv (am_df P ci) with
        | some vals => some [((n, m + 1), tc_xnf (tc_xkeep fp X [] []) m ci vals, pc + 3, L, tv_a m :: S, tl_ad zq 1, tl_ad lq (vals.length : Int))]
        | none => none)
      | none => none) else none
    | .newarray ty => (match S with
      | (0, f, _) :: r => (match tc_nty ty, T[(tc_hi h 0).toNat]? with
        | some (s, t), some (s', t', _, E, lo, hi, _) => if ((len = 2 ∧ s' = s) ∧ t' = t) ∧ (W.contains ((tc_hi h 0).toNat, 1000) && (tc_sz X h f lo hi && tc_e0 E)) = true then
            some [((n, m + 1), tc_xat (tc_xln (tc_xk (tc_xkeep fp X [((tc_hi h 0).toNat, 1000)] []) (m, (tc_hi h 0).toNat)) (m, f)) (tg_cv7 m (tc_hi h 0).toNat X.2.2.2.2.2.2), pc + 2, L, tv_a m :: r, tl_ad zq 1, tl_app lq f)] else none
        | _, _ => none)
      | _ => none)
    | .anewarray x => (match S with
      | (0, f, _) :: r => (match am_an P own x, T[(tc_hi h 0).toNat]? with
        | some t, some (s', t', fs, _, lo, hi, _) => if ((len = 3 ∧ s' = 3) ∧ t' = t) ∧ (W.contains ((tc_hi h 0).toNat, 1000) && (tc_sz X h f lo hi && fs.all (fun τ => τ.1 == 3))) = true then
            some [((n, m + 1), tc_xat (tc_xln (tc_xk (tc_xkeep fp X [((tc_hi h 0).toNat, 1000)] []) (m, (tc_hi h 0).toNat)) (m, f)) (tg_cv7 m (tc_hi h 0).toNat X.2.2.2.2.2.2), pc + 3, L, tv_a m :: r, tl_ad zq 1, tl_app lq f)] else none
        | _, _ => none)
      | _ => none)
    | .multianewarray x d => (match S with
      | (0, fk, _) :: (0, fn, _) :: r => (match tl_kc fk, tl_kc fn, T[(tc_hi h 0).toNat]?, T[(tc_hi h 1).toNat]? with
        | some K, some N, some (s1, t1, fs, _, lo1, hi1, _), some (s2, t2, _, _, lo2, hi2, _) => if (((len = 4 ∧ d = 2) ∧ (s1 = 3 ∧ s2 = 2)) ∧ (am_nt P own x = 100 + t1 ∧ t2 = 1)) ∧ (((0 ≤ K ∧ K ≤ 67108864) ∧ (0 ≤ N ∧ N ≤ 67108864)) ∧ ((lo1 ≤ N ∧ N ≤ hi1) ∧ (lo2 ≤ K ∧ K ≤ hi2))) ∧ ((W.contains ((tc_hi h 0).toNat, 1000) && W.contains ((tc_hi h 1).toNat, 1000)) && fs.all (fun τ => (τ.1 == 2 || τ.1 == 3) && τ.2.2.2.contains (tc_hi h 1).toNat)) = true then
            some [((n, m + 1), tc_xat (tc_xln (tc_xk (tc_xkeep fp X [((tc_hi h 0).toNat, 1000), ((tc_hi h 1).toNat, 1000)] []) (m, (tc_hi h 0).toNat)) (m, tl_c N)) [], pc + 4, L, tv_a m :: r, tl_ad zq (1 + N), tl_ad lq (N + N * K))] else none
        | _, _, _, _ => none)
      | _ => none)
    | _ => none) else none
section TCA
variable {Γ : tg_G} {RO : am_O} {κ κ' : Nat → Option Nat} {M M' : am_H} {sz sl sz' : Nat} {V : Nat → Int} {A : Nat → Nat} {X : tc_X} {T : tk_T}
theorem tk_H_ext (h : tk_H T RO κ M sz) (hz : ∀ a, sz ≤ a → κ a = none) (h1 : ∀ a, a < sz → κ' a = κ a ∧ M' a = M a) (hle : sz ≤ sz') (h2 : ∀ a k, sz ≤ a → κ' a = some k → a < sz' ∧ ∃ K, T[k]? = some K ∧ tk_cell κ' RO M' a K) : tk_H T RO κ' M' sz' := by
  have hlt : ∀ a k, κ a = some k → a < sz := fun a k hk => (h a k hk).1
  have hx : ∀ a k1, κ a = some k1 → κ' a = some k1 := fun a k hk => (h1 a (hlt a k hk)).1.trans hk
  have hl : ∀ b n, tk_len M RO b n → (∃ k, κ b = some k) → tk_len M' RO b n := by
    intro b n hb ⟨k1, hb1⟩
    have e := (h1 b (hlt b k1 hb1)).2
    unfold tk_len at hb ⊢
    rw [e]
    exact hb
  intro b k hb
  by_cases q : b < sz
  · have hb' : κ b = some k := (h1 b q).1.symm.trans hb
    obtain ⟨g1, K1, g2, g3⟩ := h b k hb'
    exact ⟨by omega, K1, g2, tk_cell_m hx (h1 b q).2 (fun c n hc hn => hl c n hn hc) (fun ci fs E lo hi O _ f _ vs V g1 g2 => tk_nm_m hl g1 g2) g3⟩
  · exact h2 b k (by omega) hb
theorem tc_ext_s (hΓ : tg_ok Γ) (hH : tk_H T RO κ M sz) (hz : ∀ a, sz ≤ a → κ a = none) (hx : tc_x Γ RO κ M sz V A X) {Wk : tc_W} (h1 : ∀ a, a < sz → κ' a = κ a ∧ M' a = M a) (hle : sz ≤ sz') (h2 : ∀ a k, sz ≤ a → κ' a = some k → (k, 1000) ∈ Wk ∧ a < sz' ∧ ∃ K, T[k]? = some K ∧ tk_cell κ' RO M' a K) : tk_H T RO κ' M' sz' ∧ (∀ a, sz' ≤ a → κ' a = none) ∧ tc_x Γ RO κ' M' sz' V A (tc_xkeep Γ.2 X Wk []) := by
  have hlt : ∀ a k, κ a = some k → a < sz := fun a k hk => (hH a k hk).1
  refine ⟨tk_H_ext hH hz h1 hle (fun a k q1 q2 => (h2 a k q1 q2).2), fun a ha => ?_, tc_xkeep_s (Fa := []) hΓ hx (fun a k hk => (h1 a (hlt a k hk)).1.trans hk) (fun a k q1 q2 => ?_) (fun a k hk => ?_) (fun a ha hn _ => ?_) hle (fun _ _ _ q => by cases q)⟩
  · cases hk : κ' a with
    | none => rfl
    | some k =>
      have := (h2 a k (by omega) hk).2.1
      omega
  · by_cases q : a < sz
    · rw [(h1 a q).1, q2] at q1
      cases q1
    · exact (h2 a k (by omega) q1).1
  · rw [(h1 a (hlt a k hk)).2]
    exact tk_fr_refl _ _ _
  · exact ⟨(h1 a ha).1.trans hn, (h1 a ha).2⟩
theorem tc_ext_rel {W : tc_W} {n0 m0 sl' : Nat} {F : List Nat} {E : tc_E} (hr : tc_rel W n0 m0 F E V A κ M sz sl) (hH : tk_H T RO κ M sz) (h1 : ∀ a, a < sz → κ' a = κ a ∧ M' a = M a) (hle : sz ≤ sz') (hl : sl ≤ sl') (h2 : ∀ a k, sz ≤ a → κ' a = some k → (k, 1000) ∈ W) : tc_rel W n0 m0 F E V A κ' M' sz' sl' := by
  obtain ⟨r1, r2, r3, r4, r5, r6, r7, r8⟩ := hr
  have hlt : ∀ a k, κ a = some k → a < sz := fun a k hk => (hH a k hk).1
  refine ⟨r1, r2, fun a k hk => (h1 a (hlt a k (r3 a k hk))).1.trans (r3 a k hk), fun a k hk => ?_, fun a ha hn hF => ?_, by omega, by omega, fun a k hk hn => ?_⟩
  · rw [(h1 a (hlt a k (r3 a k hk))).2]
    exact r4 a k hk
  · obtain ⟨e1, e2⟩ := r5 a ha hn hF
    obtain ⟨e3, e4⟩ := h1 a (by omega)
    exact ⟨e3.trans e1, e4.trans e2⟩
  · by_cases q : a < sz
    · rw [(h1 a q).1] at hk
      exact r8 a k hk hn
    · exact h2 a k (by omega) hk
/-- one cell at the heap's end -/
theorem am_set_lt {e : am_E} : ∀ a, a < sz → κ a = κ a ∧ am_set M sz e a = M a := fun a ha => ⟨rfl, am_ne (by omega)⟩
def tk_up (κ : Nat → Option Nat) (a k : Nat) : Nat → Option Nat := fun q => if q = a then some k else κ q
theorem tk_up_at {a k : Nat} : tk_up κ a k a = some k := if_pos rfl
theorem tk_up_lt {k : Nat} {e : am_E} : ∀ a, a < sz → tk_up κ sz k a = κ a ∧ am_set M sz e a = M a := fun a ha => ⟨if_neg (by omega), am_ne (by omega)⟩
theorem tk_up_ge (hz : ∀ a, sz ≤ a → κ a = none) {k : Nat} : ∀ a k1, sz ≤ a → tk_up κ sz k a = some k1 → a = sz ∧ k1 = k := by
  intro a k1 ha h
  unfold tk_up at h
  split at h
  · rename_i e
    cases h
    exact ⟨e, rfl⟩
  · rw [hz a ha] at h
    cases h
theorem tc_clamp {x : Int32} {f : Int} (h : x.toInt = f) (h0 : 0 ≤ f) : (x.toNatClampNeg : Int) = f ∧ ¬ x < 0 := by
  have e : x.toNatClampNeg = x.toInt.toNat := rfl
  refine ⟨by rw [e]; omega, fun q => ?_⟩
  have : x.toInt < (0 : Int32).toInt := Int32.lt_iff_toInt_lt.mp q
  have e0 : (0 : Int32).toInt = 0 := rfl
  omega
end TCA
