/-! TC: a whole method, by hints -/
abbrev tc_It : Type := Nat × tc_h
/-- what a run is held against: program, kinds, what atoms look at, statics, methods, contracts, lemmas, what may be written, the method, its instructions; names of the contract; ends; places -/
abbrev tc_Ev : Type := am_P × tk_T × (Nat → List (Nat × Nat)) × tc_Z × (Nat → Option am_Meth) × List tc_Ct × List tc_Lm × tc_W × am_Meth × (Nat → Option (Instr × Nat)) × (Nat × Nat) × List tc_Ex × List tc_Pl
def tc_h0 : tc_h := (0, [], [], [(1, []), (1, []), (1, []), (1, [])])
def tc_st1s (f : tc_G → Option (List tc_G)) : Nat → tc_G → Option tc_G
  | 0, G => some G
  | k + 1, G => (match f G with
    | some [G'] => tc_st1s f k G'
    | _ => none)
/-- an instruction by its sort -/
def tc_ic (e : tc_Ev) (nr mr : Nat) (k : Nat) (h : tc_h) (G : tc_G) : Option (List tc_G) := match e with
  | (P, T, fp, Z, mm, CT, LT, W, mt, ins, nm, es, PL) => (match ins G.2.2.1 with
    | some (i, len) => (match k with
      | 1 => tc_on1 (am_cst P mt.2.2.2.2.2.2) mt.2.2.1 nr mr i len h G
      | 2 => tc_rd P T Z mt.2.2.2.2.2.2 nr mr i len h G
      | 3 => tc_wr P T fp W mt.2.2.2.2.2.2 (mt.1.name == "<init>") i len h G
      | 4 => tc_mk P T fp W mt.2.2.2.2.2.2 nr mr i len h G
      | 5 => tc_na P T fp W mt i len h G
      | 6 => tc_ca P T fp mm CT W mt nr mr i len h G
      | 7 => if tc_re mt nm.1 nm.2 es i len h G then some [] else none
      | 21 => tc_ra P T fp i len h G
      | 22 => tc_rb P T fp nr mr i len h G
      | _ => none)
    | none => none)
def tc_act (e : tc_Ev) (nr mr : Nat) (μ : Option (List tl_F)) (it : tc_It) (G : tc_G) : Option (List tc_G) := match e with
  | (P, T, fp, Z, mm, CT, LT, W, mt, ins, nm, es, PL) => match it.1 with
    | 0 => (tc_st1s (tc_ic (P, T, fp, Z, mm, CT, LT, W, mt, ins, nm, es, PL) nr mr 1 tc_h0) (tc_hi it.2 0).toNat G).map (fun G => [G])
    | 8 => if tc_jp nm.1 nm.2 PL μ it.2 G then some [] else none
    | 9 => tc_le LT nr mr it.2 G
    | 10 => tc_ad T fp W it.2 G
    | 11 => if tl_no G.2.1.1 (tc_cf it.2 0).2 then some [] else none
    | 12 => some (tc_sp it.2 G)
    | 13 => some [tc_fo it.2 G]
    | 14 => tc_cu it.2 G
    | 15 => tc_gf T nr mr it.2 G
    | 16 => tc_uo T it.2 G
    | 17 => tc_gn P T nr mr it.2 G
    | 18 => tc_ge T nr mr it.2 G
    | 19 => tc_rtl it.2 G
    | 20 => tc_rll it.2 G
    | k => tc_ic (P, T, fp, Z, mm, CT, LT, W, mt, ins, nm, es, PL) nr mr k it.2 G
def tc_go (e : tc_Ev) (nr mr : Nat) (μ : Option (List tl_F)) : List tc_It → List tc_G → Bool
  | [], Gs => Gs.isEmpty
  | _ :: _, [] => false
  | it :: r, G :: Gs => (match tc_act e nr mr μ it G with
    | some Gs' => tc_go e nr mr μ r (Gs' ++ Gs)
    | none => false)
def tc_args : Nat → List tv_V → tc_L
  | _, [] => []
  | k, t :: r => (k, t) :: tc_args (if tv_k t = 1 then k + 2 else k + 1) r
theorem tc_args_m : ∀ {V : Nat → Int} {A : Nat → Nat} {k : Nat} {S : List tv_V} {vs : List Value}, tc_st V A S vs → ∀ p ∈ tc_args k S, k ≤ p.1 ∧ ∃ v, am_ld p.1 (lv_args k vs) = some v ∧ tv_is V A p.2 v
  | _, _, _, [], [], _, p, hp => by cases hp
  | _, _, _, [], v :: s, g, _, _ => by cases g
  | _, _, _, t :: r, [], g, _, _ => by cases g
  | V, A, k, t :: r, v :: s, g, p, hp => by
    have e : lv_args k (v :: s) = (k, v) :: lv_args (if v.category = 2 then k + 2 else k + 1) s := rfl
    rcases List.mem_cons.mp hp with rfl | hp
    · refine ⟨Nat.le_refl _, v, ?_, g.1⟩
      rw [e]
      simp [am_ld]
    · have c : (if v.category = 2 then k + 2 else k + 1) = if tv_k t = 1 then k + 2 else k + 1 := by
        rw [tv_cat g.1]
        by_cases q : tv_k t = 1
        · rw [if_pos q, if_pos q, if_pos rfl]
        · rw [if_neg q, if_neg q, if_neg (by decide)]
      rw [← c] at hp
      obtain ⟨h1, w, h2, h3⟩ := tc_args_m g.2 p hp
      have h4 : k < p.1 := by
        by_cases q : v.category = 2
        · rw [if_pos q] at h1
          omega
        · rw [if_neg q] at h1
          omega
      refine ⟨by omega, w, ?_, h3⟩
      rw [e]
      unfold am_ld at h2 ⊢
      rw [List.find?_cons_of_neg (by simp; omega)]
      exact h2
theorem tc_st1s_s {D : tc_D} {f : tc_G → Option (List tc_G)} (hf : ∀ G Gs, f G = some Gs → (∀ G' ∈ Gs, tc_Ok D G') → tc_Ok D G) : ∀ {k : Nat} {G G' : tc_G}, tc_st1s f k G = some G' → tc_Ok D G' → tc_Ok D G
  | 0, G, G', h, g => by
    cases h
    exact g
  | k + 1, G, G', h, g => by
    unfold tc_st1s at h
    split at h
    · rename_i G1 h1
      refine hf G _ h1 (fun G2 h2 => ?_)
      rcases List.mem_cons.mp h2 with rfl | h2
      · exact tc_st1s_s hf h g
      · cases h2
    · cases h
section TCH
variable {P : am_P} {Γ : tg_G} {RO : am_O} {T : tk_T} {Z : tc_Z} {mm : Nat → Option am_Meth} {CT : List tc_Ct} {LT : List tc_Lm} {y : Nat} {W : tc_W} {mt : am_Meth} {ins : Nat → Option (Instr × Nat)} {n0 m0 nr mr : Nat} {es : List tc_Ex} {PL : List tc_Pl} {F : List Nat} {E : tc_E} {V0 : Nat → Int} {A0 : Nat → Nat}
/-- what a run rests on -/
def tc_bs0 (P : am_P) (Γ : tg_G) (RO : am_O) (T : tk_T) (Z : tc_Z) (mm : Nat → Option am_Meth) (CT : List tc_Ct) (LT : List tc_Lm) : Prop := tg_ok Γ ∧ (∀ z mz, mm z = some mz → am_meth P z = some mz) ∧ (∀ c ∈ CT, tc_true P Γ RO T Z c) ∧ (∀ c ∈ LT, tc_lmt Γ RO T c) ∧ (tg_re Γ ∧ tg_fr Γ)
theorem tc_ic_s (hB : tc_bs0 P Γ RO T Z mm CT LT) (hm : am_meth P y = some mt) (hins : ∀ pc i len, ins pc = some (i, len) → decode mt.2.1 pc = .ok (i, len)) (hZ : tc_zok P Z E.2.2.1) (hn : n0 ≤ nr) (hmr : m0 ≤ mr) (hV : ∀ k, k < n0 → E.1 k = V0 k) (hA : ∀ k, k < m0 → E.2.1 k = A0 k) (hF : ∀ a ∈ F, a < m0) {k : Nat} {h : tc_h} {G : tc_G} {Gs : List tc_G} (g : tc_ic (P, T, Γ.2, Z, mm, CT, LT, W, mt, ins, (n0, m0), es, PL) nr mr k h G = some Gs) (hG : ∀ G' ∈ Gs, tc_Ok (P, RO, (T, Γ), y, W, nr, mr, F, (V0, A0, E.2.2), tc_Q Γ RO T W n0 m0 F E es) G') : tc_Ok (P, RO, (T, Γ), y, W, nr, mr, F, (V0, A0, E.2.2), tc_Q Γ RO T W n0 m0 F E es) G := by
  obtain ⟨hΓ, hmm, hC, hL, hre0, hfr0⟩ := hB
  unfold tc_ic at g
  dsimp only at g
  split at g
  · rename_i i len hi
    have hd := hins _ _ _ hi
    split at g
    · exact tc_on1_s hm hd g hG
    · exact tc_rd_s hZ hm hd g hG
    · exact tc_wr_s hΓ hm hd g hG
    · exact tc_mk_s hΓ hm hd g hG
    · exact tc_na_s hΓ hfr0 hm hd g hG
    · exact tc_ca_s hΓ hZ hmm hC hm hd g hG
    · split at g
      · rename_i hre
        exact tc_re_s hn hmr hV hA hF hm hd hre
      · cases g
    · exact tc_ra_s hre0 hm hd g hG
    · exact tc_rb_s hre0 hm hd g hG
    · cases g
  · cases g
theorem tc_act_s (hB : tc_bs0 P Γ RO T Z mm CT LT) (hm : am_meth P y = some mt) (hins : ∀ pc i len, ins pc = some (i, len) → decode mt.2.1 pc = .ok (i, len)) (hZ : tc_zok P Z E.2.2.1) (hn : n0 ≤ nr) (hmr : m0 ≤ mr) (hV : ∀ k, k < n0 → E.1 k = V0 k) (hA : ∀ k, k < m0 → E.2.1 k = A0 k) (hF : ∀ a ∈ F, a < m0) {μ : Option (List tl_F)} (hμ : ∀ m, μ = some m → m.all (tl_lt nr) = true) (IH : ∀ p ∈ PL, tc_Pk P Γ RO T y W n0 m0 F E (tc_Q Γ RO T W n0 m0 F E es) p (fun V => ∀ m, μ = some m → tc_lt (tc_ms V p.2) (tc_ms V0 m))) {it : tc_It} {G : tc_G} {Gs : List tc_G} (g : tc_act (P, T, Γ.2, Z, mm, CT, LT, W, mt, ins, (n0, m0), es, PL) nr mr μ it G = some Gs) (hG : ∀ G' ∈ Gs, tc_Ok (P, RO, (T, Γ), y, W, nr, mr, F, (V0, A0, E.2.2), tc_Q Γ RO T W n0 m0 F E es) G') : tc_Ok (P, RO, (T, Γ), y, W, nr, mr, F, (V0, A0, E.2.2), tc_Q Γ RO T W n0 m0 F E es) G := by
  unfold tc_act at g
  dsimp only at g
  split at g
  · obtain ⟨G', h1, h2⟩ := Option.map_eq_some_iff.mp g
    cases h2
    exact tc_st1s_s (fun G Gs q1 q2 => tc_ic_s hB hm hins hZ hn hmr hV hA hF q1 q2) h1 (hG _ List.mem_cons_self)
  · split at g
    · rename_i hj
      exact tc_jp_s hn hmr hV hA hF hμ IH hj
    · cases g
  · exact tc_le_s hB.2.2.2.1 g hG
  · exact tc_ad_s hB.1 g hG
  · split at g
    · rename_i hno
      exact tc_no_s hno
    · cases g
  · cases g
    exact tc_sp_s hG
  · cases g
    exact tc_fo_s (hG _ List.mem_cons_self)
  · exact tc_cu_s g hG
  · exact tc_gf_s g hG
  · exact tc_uo_s g hG
  · exact tc_gn_s g hG
  · exact tc_ge_s g hG
  · exact tc_rtl_s g hG
  · exact tc_rll_s g hG
  · exact tc_ic_s hB hm hins hZ hn hmr hV hA hF g hG
theorem tc_go_s (hB : tc_bs0 P Γ RO T Z mm CT LT) (hm : am_meth P y = some mt) (hins : ∀ pc i len, ins pc = some (i, len) → decode mt.2.1 pc = .ok (i, len)) (hZ : tc_zok P Z E.2.2.1) (hn : n0 ≤ nr) (hmr : m0 ≤ mr) (hV : ∀ k, k < n0 → E.1 k = V0 k) (hA : ∀ k, k < m0 → E.2.1 k = A0 k) (hF : ∀ a ∈ F, a < m0) {μ : Option (List tl_F)} (hμ : ∀ m, μ = some m → m.all (tl_lt nr) = true) (IH : ∀ p ∈ PL, tc_Pk P Γ RO T y W n0 m0 F E (tc_Q Γ RO T W n0 m0 F E es) p (fun V => ∀ m, μ = some m → tc_lt (tc_ms V p.2) (tc_ms V0 m))) : ∀ {hs : List tc_It} {Gs : List tc_G}, tc_go (P, T, Γ.2, Z, mm, CT, LT, W, mt, ins, (n0, m0), es, PL) nr mr μ hs Gs = true → ∀ G ∈ Gs, tc_Ok (P, RO, (T, Γ), y, W, nr, mr, F, (V0, A0, E.2.2), tc_Q Γ RO T W n0 m0 F E es) G
  | [], Gs, h, G, hG => by
    have : Gs = [] := by simpa [tc_go] using h
    rw [this] at hG
    cases hG
  | _ :: _, [], h, _, _ => by cases h
  | it :: r, G0 :: Gs, h, G, hG => by
    unfold tc_go at h
    split at h
    · rename_i Gs' ha
      have ih := tc_go_s hB hm hins hZ hn hmr hV hA hF hμ IH h
      rcases List.mem_cons.mp hG with rfl | hG
      · exact tc_act_s hB hm hins hZ hn hmr hV hA hF hμ IH ha (fun G' h' => ih G' (List.mem_append_left _ h'))
      · exact ih G (List.mem_append_right _ hG)
    · cases h
/-- a place's run stands -/
def tc_plk (e : tc_Ev) (p : tc_Pl) (hs : List tc_It) : Bool := decide (e.2.2.2.2.2.2.2.2.2.2.1.1 ≤ p.1.1.1) && (decide (e.2.2.2.2.2.2.2.2.2.2.1.2 ≤ p.1.1.2) && (p.2.all (tl_lt p.1.1.1) && tc_go e p.1.1.1 p.1.1.2 (some p.2) hs [p.1]))
theorem tc_pls_s (hB : tc_bs0 P Γ RO T Z mm CT LT) (hm : am_meth P y = some mt) (hins : ∀ pc i len, ins pc = some (i, len) → decode mt.2.1 pc = .ok (i, len)) (hZ : tc_zok P Z E.2.2.1) (hF : ∀ a ∈ F, a < m0) (hP : ∀ p ∈ PL, ∃ hs, tc_plk (P, T, Γ.2, Z, mm, CT, LT, W, mt, ins, (n0, m0), es, PL) p hs = true) (N : List Nat) : ∀ p ∈ PL, tc_Pk P Γ RO T y W n0 m0 F E (tc_Q Γ RO T W n0 m0 F E es) p (fun V => tc_ms V p.2 = N) := by
  have hacc := tc_acc _ N rfl
  induction hacc with
  | intro N _ ih =>
    intro p hp V A κ M sz sl lv st hr hH hz hx hl hs hq hN
    obtain ⟨hints, hk⟩ := hP p hp
    obtain ⟨k1, hk⟩ := tc_and hk
    obtain ⟨k2, hk⟩ := tc_and hk
    obtain ⟨k3, hk⟩ := tc_and hk
    have k1 : n0 ≤ p.1.1.1 := of_decide_eq_true k1
    have k2 : m0 ≤ p.1.1.2 := of_decide_eq_true k2
    obtain ⟨r1, r2, r3, r4, r5, r6, r7, r8⟩ := hr
    have hok := tc_go_s (E := E) (V0 := V) (A0 := A) hB hm hins hZ k1 k2 r1 r2 hF (μ := some p.2) (fun m e => by
      cases e
      exact k3) (fun p' hp' V' A' κ' M' sz' sl' lv' st' q1 q2 q3 q4 q5 q6 q7 q8 => by
      have q9 := q8 p.2 rfl
      have hN : tc_ms V p.2 = N := hN
      rw [hN] at q9
      exact ih _ q9 p' hp' V' A' κ' M' sz' sl' lv' st' q1 q2 q3 q4 q5 q6 q7 rfl) hk p.1 List.mem_cons_self
    have e : F.map A = F.map E.2.1 := List.map_congr_left (fun a ha => (r2 a (hF a ha)).symm)
    refine hok V A κ M sz sl lv st ⟨fun _ _ => rfl, fun _ _ => rfl, r3, r4, fun a ha hn hFa => r5 a ha hn (by rw [← e]; exact hFa), r6, r7, r8⟩ hH hz hx hl hs ?_
    obtain ⟨q1, q2, q3⟩ := hq
    refine ⟨q1, q2, fun q hq => ?_⟩
    show A q.1 ∈ F.map A ∨ _
    rw [e]
    exact q3 q hq
end TCH
/-- a contract is true when its method's runs stand -/
theorem tc_main {P : am_P} {Γ : tg_G} {RO : am_O} {T : tk_T} {Z : tc_Z} {mm : Nat → Option am_Meth} {CT : List tc_Ct} {LT : List tc_Lm} {mt : am_Meth} {ins : Nat → Option (Instr × Nat)} {PL : List tc_Pl} {c : tc_Ct} {hs : List tc_It} (hB : tc_bs0 P Γ RO T Z mm CT LT) (hm : am_meth P c.1 = some mt) (hins : ∀ pc i len, ins pc = some (i, len) → decode mt.2.1 pc = .ok (i, len)) (hF : c.2.2.2.1.2.2.2.2.2.1.all (fun p => decide (p.1 < c.2.1.2)) = true) (hP : ∀ p ∈ PL, ∃ hs, tc_plk (P, T, Γ.2, Z, mm, CT, LT, c.2.2.2.2.1, mt, ins, c.2.1, c.2.2.2.2.2, PL) p hs = true)
    (hR : tc_go (P, T, Γ.2, Z, mm, CT, LT, c.2.2.2.2.1, mt, ins, c.2.1, c.2.2.2.2.2, PL) c.2.1.1 c.2.1.2 none hs [(c.2.1, c.2.2.2.1, 0, tc_args 0 c.2.2.1, [], ([], 0), ([], 0))] = true) : tc_true P Γ RO T Z c := by
  obtain ⟨y, ⟨n0, m0⟩, ca, cX, W, es⟩ := c
  intro E vs hZ hH hz hx hs
  dsimp only at hx hs hm hF hP hR
  have hF : ∀ a ∈ cX.2.2.2.2.2.1.map (fun p => p.1), a < m0 := by
    intro a ha
    obtain ⟨p, hp, rfl⟩ := List.mem_map.mp ha
    exact of_decide_eq_true (tc_al hF p hp)
  have hpl := fun N => tc_pls_s (E := E) (F := cX.2.2.2.2.2.1.map (fun p => p.1)) hB hm hins hZ hF hP N
  have hok := tc_go_s (E := E) (V0 := E.1) (A0 := E.2.1) (F := cX.2.2.2.2.2.1.map (fun p => p.1)) hB hm hins hZ (Nat.le_refl n0) (Nat.le_refl m0) (fun _ _ => rfl) (fun _ _ => rfl) hF (μ := none) (fun m e => by cases e) (fun p' hp' V' A' κ' M' sz' sl' lv' st' q1 q2 q3 q4 q5 q6 q7 _ => hpl _ p' hp' V' A' κ' M' sz' sl' lv' st' q1 q2 q3 q4 q5 q6 q7 rfl) hR _ List.mem_cons_self
  refine hok E.1 E.2.1 E.2.2.1 E.2.2.2.1 E.2.2.2.2.1 E.2.2.2.2.2 (lv_args 0 vs) [] ⟨fun _ _ => rfl, fun _ _ => rfl, fun _ _ q => q, fun a k _ => tk_fr_refl _ _ _, fun a _ hn _ => ⟨hn, rfl⟩, Nat.le_refl _, Nat.le_refl _, fun a k h1 h2 => by rw [h1] at h2; cases h2⟩ hH hz hx (fun p hp => (tc_args_m hs p hp).2) trivial ⟨?_, ?_, fun p hp => Or.inl ?_⟩
  · show (E.2.2.2.2.1 : Int) ≤ E.2.2.2.2.1 + 0
    omega
  · show (E.2.2.2.2.2 : Int) ≤ E.2.2.2.2.2 + 0
    omega
  · exact List.mem_map.mpr ⟨p.1, List.mem_map.mpr ⟨p, hp, rfl⟩, rfl⟩
