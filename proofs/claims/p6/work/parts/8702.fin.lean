/-! the law's run out of its contract (a draft) -/
theorem fin_run {P : am_P} {Γ : tg_G} {RO : am_O} {T : tk_T} {Z : tc_Z} {c : tc_Ct} {κ : Nat → Option Nat} {sz b : Nat} (h : tc_true P Γ RO T Z c) (hy : c.1 = 561) (hz : tc_zok P Z κ) (hH : tk_H T RO κ (fun _ => none) sz) (hs : ∀ a, sz ≤ a → κ a = none) (hx : tc_x Γ RO κ (fun _ => none) sz (fun _ => 0) (fun _ => b) c.2.2.2.1) (ha : c.2.2.1 = [(2, ([], 0), 0)]) (he : ∀ e ∈ c.2.2.2.2.2, e.2.2.1 = some (0, ([], 1), 0) ∧ (∃ k1, tl_pr e.2.1.1 (tl_sub (tl_c 600000) e.2.2.2.1) k1 = true) ∧ ∃ k2, tl_pr e.2.1.1 (tl_sub (tl_c 7302250) e.2.2.2.2) k2 = true) : ∃ k M' sz' sl', am_W P RO k 561 0 [(0, .ref b)] [] (fun _ => none) sz 0 (am_eq (some (.int 1)) M' sz' sl') ∧ sz' ≤ sz + 600000 ∧ sl' ≤ 7302250 := by
  obtain ⟨k, hk⟩ := h ((fun _ => 0), (fun _ => b), κ, (fun _ => none), sz, 0) [.ref b] hz hH hs hx (by
    rw [ha]
    exact ⟨rfl, trivial⟩)
  rw [hy] at hk
  obtain ⟨v, M', z', l', h1, ⟨e, hm, V, A, κ', hr, hH', hs', hx', hv, hroom⟩, h3, h4⟩ := am_det k 561 0 _ _ _ _ _ _ hk
  obtain ⟨q1, ⟨k1, q2⟩, ⟨k2, q3⟩⟩ := he e hm
  rw [q1] at hv
  obtain ⟨w, hw, hi⟩ := hv
  obtain ⟨x, hx1, hx2⟩ : ∃ x : Int32, w = .int x ∧ x.toInt = tl_v V ([], 1) := hi
  have f1 := tl_pr_s hx'.1 q2
  have f2 := tl_pr_s hx'.1 q3
  rw [tl_sub_s, tl_c_s] at f1 f2
  have e0 : tl_v V ([], 1) = 1 := tl_c_s V 1
  rw [e0] at hx2
  have e1 : x = 1 := Int32.toInt_inj.mp (hx2.trans (by decide))
  subst e1
  subst hx1
  subst hw
  obtain ⟨r1, r2, -⟩ := hroom
  have r1 : (z' : Int) ≤ (sz : Int) + tl_v V e.2.2.2.1 := r1
  have r2 : (l' : Int) ≤ ((0 : Nat) : Int) + tl_v V e.2.2.2.2 := r2
  exact ⟨k, M', z', l', h1, by omega, by omega⟩
theorem fin_aRun {c : tc_Ct} {at_ : List tg_P} (h : ∀ (sa : Nat → Nat) (RO : am_O), tc_true (aP sa) tp_G RO tp_T tp_Z c) (hy : c.1 = 561) (hX : c.2.2.2.1 = ([], [(0, 247)], [], [], [], [], at_)) (hq : ∀ (RO : am_O) (κ : Nat → Option Nat) (b : Nat), (∀ a k, κ a = some k → k = 247 ∨ k = 244 ∨ k = 245 ∨ k = 246) → ∀ p ∈ at_, tc_xq tp_G RO κ (fun _ => none) (fun _ => 0) (fun _ => b) p) (ha : c.2.2.1 = [(2, ([], 0), 0)]) (he : ∀ e ∈ c.2.2.2.2.2, e.2.2.1 = some (0, ([], 1), 0) ∧ (∃ k1, tl_pr e.2.1.1 (tl_sub (tl_c 600000) e.2.2.2.1) k1 = true) ∧ ∃ k2, tl_pr e.2.1.1 (tl_sub (tl_c 7302250) e.2.2.2.2) k2 = true) : aRun2 := by
  intro b L sz xs sa RO hL hb n0 n1 n2 gb h0 g0 h1 g1 h2 g2
  obtain ⟨m10, m20, m21⟩ := fin_ne g0 g1 g2
  refine fin_run (h sa RO) hy (fin_zok n0 n1 n2 m10 m20 m21) (fin_HP hL hb gb h0 g0 h1 g1 h2 g2) (fin_out hb h0 h1 h2) ?_ ha he
  rw [hX]
  refine ⟨fun _ q => (List.not_mem_nil q).elim, fun p hp => ?_, fun _ q => (List.not_mem_nil q).elim, fun _ q => (List.not_mem_nil q).elim, fun _ q => (List.not_mem_nil q).elim, fun _ q => (List.not_mem_nil q).elim, trivial, fun p hp => hq RO _ b (fun a k hk => ?_) p hp⟩
  · rcases List.mem_cons.mp hp with rfl | hp
    · exact fin_k_b
    · cases hp
  · rcases fin_k_c hk with ⟨-, e⟩ | ⟨-, e⟩ | ⟨-, e⟩ | ⟨-, e⟩
    · exact .inl e
    · exact .inr (.inl e)
    · exact .inr (.inr (.inl e))
    · exact .inr (.inr (.inr e))
