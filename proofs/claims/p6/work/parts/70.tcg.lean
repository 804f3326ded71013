/-! TC: places, measures, jumps -/
/-- a place, and its measure -/
abbrev tc_Pl : Type := tc_G × List tl_F
def tc_lt : List Nat → List Nat → Prop
  | a :: r, b :: s => (a < b ∧ r.length = s.length) ∨ (a ≤ b ∧ tc_lt r s)
  | _, _ => False
theorem tc_lt_ln : ∀ {l k : List Nat}, tc_lt l k → l.length = k.length
  | [], _, h => by cases h
  | a :: r, [], h => by cases h
  | a :: r, b :: s, h => by
    rcases h with ⟨_, h⟩ | ⟨_, h⟩
    · exact congrArg (· + 1) h
    · exact congrArg (· + 1) (tc_lt_ln h)
theorem tc_acc : ∀ (n : Nat) (l : List Nat), l.length = n → Acc tc_lt l
  | 0, [], _ => ⟨_, fun y h => by
    cases y with
    | nil => cases h
    | cons a r => cases h⟩
  | 0, a :: r, h => by cases h
  | n + 1, [], h => by cases h
  | n + 1, b :: s, h => by
    have key : ∀ (b : Nat) (s : List Nat), s.length = n → Acc tc_lt (b :: s) := by
      intro b
      induction b using Nat.strongRecOn with
      | ind b ihb =>
        intro s hs
        have hacc := tc_acc n s hs
        induction hacc with
        | intro s _ ihs =>
          refine ⟨_, fun y hy => ?_⟩
          cases y with
          | nil => cases hy
          | cons a r =>
            rcases hy with ⟨h1, h2⟩ | ⟨h1, h2⟩
            · exact ihb a h1 r (h2.trans hs)
            · have h3 := tc_lt_ln h2
              by_cases q : a < b
              · exact ihb a q r (h3.trans hs)
              · have : a = b := by omega
                subst this
                exact ihs r h2 (h3.trans hs)
    exact key b s (by simpa using h)
/-- the measure falls: two certificates for each of its forms -/
def tc_lex (fs : List tl_F) (n0 : Nat) (sg : List tl_F) : List tl_C → List tl_F → List tl_F → Bool
  | c :: d :: cs, a :: r, b :: s => ((tl_pr fs (tl_sub b (tl_ad (tl_sb n0 sg a) 1)) c && tl_pr fs (tl_ad b (-1)) d) && decide (r.length = s.length)) || (tl_pr fs (tl_sub b (tl_sb n0 sg a)) c && tc_lex fs n0 sg cs r s)
  | _, _, _ => false
def tc_ms (V : Nat → Int) (μ : List tl_F) : List Nat := μ.map (fun f => (tl_v V f).toNat)
theorem tc_lex_s {V : Nat → Int} {fs : List tl_F} (hf : ∀ f ∈ fs, 0 ≤ tl_v V f) {n0 : Nat} {sg : List tl_F} : ∀ {cs : List tl_C} {a b : List tl_F}, tc_lex fs n0 sg cs a b = true → tc_lt (tc_ms (tl_V V n0 sg) a) (tc_ms V b)
  | [], _, _, h => by cases h
  | [c], [], _, h => by cases h
  | [c], _ :: _, _, h => by cases h
  | c :: d :: cs, [], _, h => by cases h
  | c :: d :: cs, a :: r, [], h => by cases h
  | c :: d :: cs, a :: r, b :: s, h => by
    have e : tl_v V (tl_sb n0 sg a) = tl_v (tl_V V n0 sg) a := tl_sb_s V n0 sg a
    show ((tl_v (tl_V V n0 sg) a).toNat < (tl_v V b).toNat ∧ (tc_ms _ r).length = (tc_ms _ s).length) ∨ ((tl_v (tl_V V n0 sg) a).toNat ≤ (tl_v V b).toNat ∧ tc_lt (tc_ms _ r) (tc_ms _ s))
    rcases (Bool.or_eq_true _ _).mp h with h | h
    · obtain ⟨h, h3⟩ := tc_and h
      obtain ⟨h1, h2⟩ := tc_and h
      have h1 := tl_pr_s hf h1
      have h2 := tl_pr_s hf h2
      rw [tl_sub_s, tl_ad_s, e] at h1
      rw [tl_ad_s] at h2
      left
      refine ⟨by omega, ?_⟩
      unfold tc_ms
      rw [List.length_map, List.length_map]
      exact of_decide_eq_true h3
    · obtain ⟨h1, h2⟩ := tc_and h
      have h1 := tl_pr_s hf h1
      rw [tl_sub_s, e] at h1
      exact Or.inr ⟨by omega, tc_lex_s hf h2⟩
/-- a jump to a place: hint: ints: which, then addresses; forms; certificates: 0, 1 room, two for each form of the measure, then facts' -/
def tc_jp (n0 m0 : Nat) (PL : List tc_Pl) (μ : Option (List tl_F)) (h : tc_h) (G : tc_G) : Bool := match G with
  | (_, X, pc, L, S, zq, lq) => match PL[(tc_hi h 0).toNat]? with
    | some ((_, Y, pc', L', S', ze, le), μ') => decide (pc' = pc) && (tc_mat n0 m0 h.2.2.1 (tc_hg h) X (h.2.2.2.drop (2 + 2 * μ'.length)) Y && (tc_lsv n0 m0 h.2.2.1 (tc_hg h) L L' && (tv_svs n0 m0 h.2.2.1 (tc_hg h) S S' && (tl_pr X.1 (tl_sub (tl_sb n0 h.2.2.1 ze) zq) (tc_cf h 0) && (tl_pr X.1 (tl_sub (tl_sb n0 h.2.2.1 le) lq) (tc_cf h 1) && (match μ with
      | some m => tc_lex X.1 n0 h.2.2.1 (h.2.2.2.drop 2) μ' m
      | none => true))))))
    | none => false
/-- at a place all is well, from a heap of its sort -/
def tc_Pk (P : am_P) (Γ : tg_G) (RO : am_O) (T : tk_T) (y : Nat) (W : tc_W) (n0 m0 : Nat) (F : List Nat) (E : tc_E) (Q : am_Q) (p : tc_Pl) (B : (Nat → Int) → Prop) : Prop := ∀ (V : Nat → Int) (A : Nat → Nat) (κ : Nat → Option Nat) (M : am_H) (sz sl : Nat) (lv : am_L) (st : List Value),
  tc_rel W n0 m0 F E V A κ M sz sl → tk_H T RO κ M sz → (∀ a, sz ≤ a → κ a = none) → tc_x Γ RO κ M sz V A p.1.2.1 → tc_lv V A p.1.2.2.2.1 lv → tc_st V A p.1.2.2.2.2.1 st → tc_rm F E V A p.1.2.2.2.2.2.1 p.1.2.2.2.2.2.2 p.1.2.1.2.2.2.2.2.1 sz sl → B V →
  ∃ k, am_W P RO k y p.1.2.2.1 lv st M sz sl Q
section TCG
variable {P : am_P} {Γ : tg_G} {RO : am_O} {T : tk_T} {y : Nat} {W : tc_W} {n0 m0 nr mr : Nat} {F : List Nat} {E : tc_E} {V0 : Nat → Int} {A0 : Nat → Nat} {Q : am_Q}
theorem tc_rm_sb (hn : n0 ≤ nr) (hmr : m0 ≤ mr) (hV : ∀ k, k < n0 → E.1 k = V0 k) (hA : ∀ k, k < m0 → E.2.1 k = A0 k) (hF : ∀ a ∈ F, a < m0) {κ : Nat → Option Nat} {M : am_H} {sz sl : Nat} {V : Nat → Int} {A : Nat → Nat} {X Y : tc_X} {sg : List tl_F} {ag : List Nat} {cs : List tl_C} {zq lq ze le : tl_F} (hx : tc_x Γ RO κ M sz V A X) (g : tc_mat n0 m0 sg ag X cs Y = true) (g2 : 0 ≤ tl_v V (tl_sub (tl_sb n0 sg ze) zq)) (g3 : 0 ≤ tl_v V (tl_sub (tl_sb n0 sg le) lq)) (hq : tc_rm F (V0, A0, E.2.2) V A zq lq X.2.2.2.2.2.1 sz sl) : tc_rm F E (tl_V V n0 sg) (ta_A A m0 ag) ze le Y.2.2.2.2.2.1 sz sl := by
  rw [tl_sub_s, tl_sb_s] at g2 g3
  obtain ⟨q1, q2, q3⟩ := hq
  refine ⟨?_, ?_, fun p hp => ?_⟩
  · have q1 : (sz : Int) ≤ (E.2.2.2.2.1 : Int) + tl_v V zq := q1
    omega
  · have q2 : (sl : Int) ≤ (E.2.2.2.2.2 : Int) + tl_v V lq := q2
    omega
  · obtain ⟨o, ho⟩ := tc_rm_fr hx g p hp
    have e : F.map A0 = F.map E.2.1 := List.map_congr_left (fun a ha => (hA a (hF a ha)).symm)
    rcases q3 _ ho with q4 | q4
    · left
      rw [← e]
      exact q4
    · exact Or.inr q4
theorem tc_jp_s (hn : n0 ≤ nr) (hmr : m0 ≤ mr) (hV : ∀ k, k < n0 → E.1 k = V0 k) (hA : ∀ k, k < m0 → E.2.1 k = A0 k) (hF : ∀ a ∈ F, a < m0) {PL : List tc_Pl} {μ : Option (List tl_F)} (hμ : ∀ m, μ = some m → m.all (tl_lt nr) = true) (IH : ∀ p ∈ PL, tc_Pk P Γ RO T y W n0 m0 F E Q p (fun V => ∀ m, μ = some m → tc_lt (tc_ms V p.2) (tc_ms V0 m))) {h : tc_h} {G : tc_G} (g : tc_jp n0 m0 PL μ h G = true) : tc_Ok (P, RO, (T, Γ), y, W, nr, mr, F, (V0, A0, E.2.2), Q) G := by
  obtain ⟨⟨n, m⟩, X, pc, L, S, zq, lq⟩ := G
  intro V A κ M sz sl lv st hr hH hz hx hl hs hq
  unfold tc_jp at g
  dsimp only at g
  split at g
  · rename_i cc Y pc' L' S' ze le μ' hp
    obtain ⟨g0, ga⟩ := tc_and g
    obtain ⟨g1, gb⟩ := tc_and ga
    clear ga
    obtain ⟨g2, gc⟩ := tc_and gb
    clear gb
    obtain ⟨g3, gd⟩ := tc_and gc
    clear gc
    obtain ⟨g4, ge⟩ := tc_and gd
    clear gd
    obtain ⟨g5, g6⟩ := tc_and ge
    clear ge
    have g0 : pc' = pc := of_decide_eq_true g0
    subst g0
    have g4 := tl_pr_s hx.1 g4
    have g5 := tl_pr_s hx.1 g5
    refine IH _ (List.mem_of_getElem? hp) (tl_V V n0 h.2.2.1) (ta_A A m0 (tc_hg h)) κ M sz sl lv st (tc_rel_sb hn hmr hV hA hF hr h.2.2.1 (tc_hg h)) hH hz (tc_mat_s hx g1) (tc_lsv_s g2 hl) (tv_svs_s g3 hs) (tc_rm_sb hn hmr hV hA hF hx g1 g4 g5 hq) (fun m1 hm1 => ?_)
    subst hm1
    have q := tc_lex_s (V := V) hx.1 g6
    have e : tc_ms V m1 = tc_ms V0 m1 := by
      unfold tc_ms
      refine List.map_congr_left (fun f hf => ?_)
      have e1 : tl_v V0 f = tl_v V f := tl_v_lt (fun k hk => hr.1 k hk) (tc_al (hμ m1 rfl) f hf)
      rw [e1]
    rw [← e]
    exact q
  · cases g
end TCG
