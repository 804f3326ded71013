/-! TC: one place's knowledge follows from another's, names replaced; ends -/
def ta_at (m0 : Nat) (ag : List Nat) (k : Nat) : Nat := if k < m0 then k else (match ag[k - m0]? with
  | some a => a
  | none => k)
def ta_A (A : Nat → Nat) (m0 : Nat) (ag : List Nat) : Nat → Nat := fun k => A (ta_at m0 ag k)
theorem ta_A_lt (A : Nat → Nat) {m0 : Nat} (ag : List Nat) {k : Nat} (h : k < m0) : ta_A A m0 ag k = A k := by
  unfold ta_A ta_at
  rw [if_pos h]
/-- t, which is had, serves as u, names replaced -/
def tv_sv (n0 m0 : Nat) (sg : List tl_F) (ag : List Nat) (t u : tv_V) : Bool := match u.1 with
  | 0 => (t.1 == 0) && tl_eq t.2.1 (tl_sb n0 sg u.2.1)
  | 1 => tv_k t == 1
  | 2 => (t.1 == 2) && (t.2.2 == ta_at m0 ag u.2.2)
  | 3 => t.1 == 3
  | 4 => (t.1 == 4) && tl_eq t.2.1 (tl_sb n0 sg u.2.1)
  | 5 => (t.1 == 5) && tl_eq t.2.1 (tl_sb n0 sg u.2.1)
  | _ => false
section TCM
variable {Γ : tg_G} {RO : am_O} {κ : Nat → Option Nat} {M : am_H} {sz sl : Nat} {V : Nat → Int} {A : Nat → Nat} {X : tc_X} {n0 m0 : Nat} {sg : List tl_F} {ag : List Nat}
theorem tv_sv_s {t u : tv_V} {v : Value} (h : tv_sv n0 m0 sg ag t u = true) (hv : tv_is V A t v) : tv_is (tl_V V n0 sg) (ta_A A m0 ag) u v := by
  obtain ⟨s, f, a⟩ := u
  obtain ⟨t1, g, b⟩ := t
  match s, h with
  | 0, h =>
    obtain ⟨h1, h2⟩ := tc_and h
    have e : t1 = 0 := by simpa using h1
    subst e
    obtain ⟨x, x1, x2⟩ := hv
    refine ⟨x, x1, ?_⟩
    rw [← tl_sb_s]
    exact x2.trans (tl_eq_s h2)
  | 1, h => exact tv_k1 hv (by have h' : (tv_k (t1, g, b) == 1) = true := h; simpa using h')
  | 2, h =>
    obtain ⟨h1, h2⟩ := tc_and h
    have e : t1 = 2 := by simpa using h1
    subst e
    have e2 : b = ta_at m0 ag a := by simpa using h2
    show v = .ref (A (ta_at m0 ag a))
    rw [← e2]
    exact hv
  | 3, h =>
    have e : t1 = 3 := by
      have h' : (t1 == 3) = true := h
      simpa using h'
    subst e
    exact hv
  | 4, h =>
    obtain ⟨h1, h2⟩ := tc_and h
    have e : t1 = 4 := by simpa using h1
    subst e
    obtain ⟨x, x1, x2⟩ := hv
    refine ⟨x, x1, ?_⟩
    rw [← tl_sb_s]
    exact x2.trans (tl_eq_s h2)
  | 5, h =>
    obtain ⟨h1, h2⟩ := tc_and h
    have e : t1 = 5 := by simpa using h1
    subst e
    obtain ⟨x, x1, x2⟩ := hv
    refine ⟨x, x1, ?_⟩
    rw [← tl_sb_s, ← tl_eq_s h2]
    exact x2
  | s + 6, h => cases h
def tv_svs (n0 m0 : Nat) (sg : List tl_F) (ag : List Nat) : List tv_V → List tv_V → Bool
  | [], [] => true
  | t :: r, u :: s => tv_sv n0 m0 sg ag t u && tv_svs n0 m0 sg ag r s
  | _, _ => false
theorem tv_svs_s : ∀ {S U : List tv_V} {st : List Value}, tv_svs n0 m0 sg ag S U = true → tc_st V A S st → tc_st (tl_V V n0 sg) (ta_A A m0 ag) U st
  | [], [], [], _, _ => trivial
  | [], [], v :: s, _, g => by cases g
  | [], u :: s, _, h, _ => by cases h
  | t :: r, [], _, h, _ => by cases h
  | t :: r, u :: s, [], _, g => by cases g
  | t :: r, u :: s, v :: q, h, g => by
    obtain ⟨h1, h2⟩ := tc_and (show (tv_sv n0 m0 sg ag t u && tv_svs n0 m0 sg ag r s) = true from h)
    exact ⟨tv_sv_s h1 g.1, tv_svs_s h2 g.2⟩
def tc_osv (n0 m0 : Nat) (sg : List tl_F) (ag : List Nat) (o : Option tv_V) (u : tv_V) : Bool := match o with
  | some t => tv_sv n0 m0 sg ag t u
  | none => false
def tc_lsv (n0 m0 : Nat) (sg : List tl_F) (ag : List Nat) (L U : tc_L) : Bool := U.all (fun p => tc_osv n0 m0 sg ag (tc_ld p.1 L) p.2)
theorem tc_lsv_s {L U : tc_L} {lv : am_L} (h : tc_lsv n0 m0 sg ag L U = true) (hl : tc_lv V A L lv) : tc_lv (tl_V V n0 sg) (ta_A A m0 ag) U lv := by
  intro p hp
  have h1 := tc_al h p hp
  unfold tc_osv at h1
  split at h1
  · rename_i t ht
    obtain ⟨v, g1, g2⟩ := tc_ld_s hl ht
    exact ⟨v, g1, tv_sv_s h1 g2⟩
  · cases h1
def tc_oeq (n0 : Nat) (sg : List tl_F) (o : Option tl_F) (f : tl_F) : Bool := match o with
  | some g => tl_eq g (tl_sb n0 sg f)
  | none => false
theorem tc_oeq_s {o : Option tl_F} {f : tl_F} (h : tc_oeq n0 sg o f = true) : ∃ g, o = some g ∧ tl_v V g = tl_v (tl_V V n0 sg) f := by
  unfold tc_oeq at h
  split at h
  · rename_i g
    exact ⟨g, rfl, by rw [← tl_sb_s]; exact tl_eq_s h⟩
  · cases h
def tc_nd : List Nat → Bool
  | [] => true
  | a :: r => !r.contains a && tc_nd r
/-- forms that are one, names replaced -/
def tg_fe (n0 : Nat) (sg : List tl_F) : List tl_F → List tl_F → Bool
  | [], [] => true
  | g :: r, f :: s => tl_eq g (tl_sb n0 sg f) && tg_fe n0 sg r s
  | _, _ => false
def tg_mt (n0 m0 : Nat) (sg : List tl_F) (ag : List Nat) (l : List tg_P) (p : tg_P) : Bool := l.any (fun q => (q.1 == p.1) && ((q.2.1 == p.2.1.map (ta_at m0 ag)) && tg_fe n0 sg q.2.2 p.2.2))
theorem tg_fe_s : ∀ {l k : List tl_F}, tg_fe n0 sg l k = true → l.map (tl_v V) = k.map (tl_v (tl_V V n0 sg))
  | [], [], _ => rfl
  | g :: r, [], h => by cases h
  | [], f :: s, h => by cases h
  | g :: r, f :: s, h => by
    obtain ⟨h1, h2⟩ := tc_and (show (tl_eq g (tl_sb n0 sg f) && tg_fe n0 sg r s) = true from h)
    rw [List.map_cons, List.map_cons, tg_fe_s h2, tl_eq_s (V := V) h1, tl_sb_s]
theorem tg_mt_s {Γ : tg_G} {l : List tg_P} {p : tg_P} (h : tg_mt n0 m0 sg ag l p = true) (hl : ∀ q ∈ l, tc_xq Γ RO κ M V A q) : tc_xq Γ RO κ M (tl_V V n0 sg) (ta_A A m0 ag) p := by
  obtain ⟨q, hq, h⟩ := List.any_eq_true.mp h
  obtain ⟨h1, h⟩ := tc_and h
  obtain ⟨h2, h3⟩ := tc_and h
  have h1 : q.1 = p.1 := by simpa using h1
  have h2 : q.2.1 = p.2.1.map (ta_at m0 ag) := by simpa using h2
  have g := hl q hq
  unfold tc_xq at g ⊢
  rw [h1, h2, tg_fe_s (V := V) h3, List.map_map] at g
  exact g
def tc_frm (n0 m0 : Nat) (sg : List tl_F) (ag : List Nat) (X : tc_X) (p : Nat × Nat × List tv_V) : Bool := match tc_frs X (ta_at m0 ag p.1) with
  | some (ci, vals) => (ci == p.2.1) && tv_svs n0 m0 sg ag vals p.2.2
  | none => false
/-- X says all that Y says, names replaced; certificates from the 8th on -/
def tc_mat (n0 m0 : Nat) (sg : List tl_F) (ag : List Nat) (X : tc_X) (cs : List tl_C) (Y : tc_X) : Bool :=
  tl_prs X.1 (Y.1.map (tl_sb n0 sg)) cs &&
  (Y.2.1.all (fun p => tc_kd X (ta_at m0 ag p.1) == some p.2) &&
  (Y.2.2.1.all (fun p => tc_oeq n0 sg (tc_lnf X (ta_at m0 ag p.1)) p.2) &&
  (Y.2.2.2.1.all (fun p => tc_osv n0 m0 sg ag (tc_fd X (ta_at m0 ag p.1) p.2.1) p.2.2) &&
  (Y.2.2.2.2.1.all (fun p => tc_oeq n0 sg (tc_elf X (ta_at m0 ag p.1) (tl_sb n0 sg p.2.1)) p.2.2) &&
  (Y.2.2.2.2.2.1.all (tc_frm n0 m0 sg ag X) && (tc_nd (Y.2.2.2.2.2.1.map (fun p => ta_at m0 ag p.1)) && Y.2.2.2.2.2.2.all (tg_mt n0 m0 sg ag X.2.2.2.2.2.2)))))))
theorem tc_frs_m {a : Nat} {o : Nat × List tv_V} (h : tc_frs X a = some o) : (a, o) ∈ X.2.2.2.2.2.1 := by
  obtain ⟨p, h1, rfl⟩ := Option.map_eq_some_iff.mp h
  have h3 := List.mem_of_find?_eq_some h1
  have h5 : p.1 = a := by simpa using List.find?_some h1
  subst h5
  exact h3
theorem tc_nd_dj (hx : tc_dj A X.2.2.2.2.2.1) : ∀ {l : List (Nat × Nat × List tv_V)}, l.all (tc_frm n0 m0 sg ag X) = true → tc_nd (l.map (fun p => ta_at m0 ag p.1)) = true → tc_dj (ta_A A m0 ag) l
  | [], _, _ => trivial
  | p :: r, h, g => by
    obtain ⟨h1, h2⟩ := tc_and (show (tc_frm n0 m0 sg ag X p && r.all (tc_frm n0 m0 sg ag X)) = true from h)
    obtain ⟨g1, g2⟩ := tc_and (show (!(r.map (fun p => ta_at m0 ag p.1)).contains (ta_at m0 ag p.1) && tc_nd (r.map (fun p => ta_at m0 ag p.1))) = true from g)
    refine ⟨fun q hq => ?_, tc_nd_dj hx h2 g2⟩
    have k1 : ∀ x, tc_frm n0 m0 sg ag X x = true → ∃ o, (ta_at m0 ag x.1, o) ∈ X.2.2.2.2.2.1 := by
      intro x hx2
      unfold tc_frm at hx2
      split at hx2
      · rename_i ci vals hf
        exact ⟨_, tc_frs_m hf⟩
      · cases hx2
    obtain ⟨o1, q1⟩ := k1 p h1
    obtain ⟨o2, q2⟩ := k1 q (tc_al h2 q hq)
    refine tc_dj_ne hx _ q1 _ q2 (fun e => ?_)
    have e : ta_at m0 ag p.1 = ta_at m0 ag q.1 := e
    have : (r.map (fun p => ta_at m0 ag p.1)).contains (ta_at m0 ag p.1) = true := by
      rw [e]
      simpa using ⟨q.1, ⟨q.2.1, q.2.2, hq⟩, rfl⟩
    rw [this] at g1
    cases g1
theorem tc_mat_s (hx : tc_x Γ RO κ M sz V A X) {cs : List tl_C} {Y : tc_X} (h : tc_mat n0 m0 sg ag X cs Y = true) : tc_x Γ RO κ M sz (tl_V V n0 sg) (ta_A A m0 ag) Y := by
  obtain ⟨h1, h⟩ := tc_and h
  obtain ⟨h2, h⟩ := tc_and h
  obtain ⟨h3, h⟩ := tc_and h
  obtain ⟨h4, h⟩ := tc_and h
  obtain ⟨h5, h⟩ := tc_and h
  obtain ⟨h6, h⟩ := tc_and h
  obtain ⟨h7, h8⟩ := tc_and h
  refine ⟨fun f hf => ?_, fun p hp => ?_, fun p hp => ?_, fun p hp => ?_, fun p hp => ?_, fun p hp => ?_, tc_nd_dj hx.2.2.2.2.2.2.1 h6 h7, fun p hp => tg_mt_s (tc_al h8 p hp) hx.2.2.2.2.2.2.2⟩
  · rw [← tl_sb_s]
    exact tl_prs_s hx.1 h1 _ (List.mem_map.mpr ⟨f, hf, rfl⟩)
  · have q := tc_al h2 p hp
    exact tc_kd_s hx (by simpa using q)
  · obtain ⟨g, g1, g2⟩ := tc_oeq_s (V := V) (tc_al h3 p hp)
    obtain ⟨n, q1, q2⟩ := tc_lnf_s hx g1
    exact ⟨n, q1, g2.symm.trans q2⟩
  · have q := tc_al h4 p hp
    unfold tc_osv at q
    split at q
    · rename_i t ht
      obtain ⟨ci, vs, v, q1, q2, q3⟩ := tc_fd_s hx ht
      exact ⟨ci, vs, v, q1, q2, tv_sv_s q q3⟩
    · cases q
  · obtain ⟨g, g1, g2⟩ := tc_oeq_s (V := V) (tc_al h5 p hp)
    obtain ⟨t, n, f, j, q1, q2, q3, q4⟩ := tc_elf_s hx g1
    have q2 : tl_v V (tl_sb n0 sg p.2.1) = (j : Int) := q2
    exact ⟨t, n, f, j, q1, by rw [← tl_sb_s]; exact q2, q3, q4.trans g2⟩
  · have q := tc_al h6 p hp
    unfold tc_frm at q
    split at q
    · rename_i ci vals hf
      obtain ⟨q1, q2⟩ := tc_and q
      obtain ⟨f0, f1, vs, f2, f3⟩ := tc_frs_s hx hf
      have e : ci = p.2.1 := by simpa using q1
      exact ⟨f0, f1, vs, by rw [← e]; exact f2, tv_svs_s q2 f3⟩
    · cases q
end TCM
/-- an end: counters, what is known, the answer, room -/
abbrev tc_Ex : Type := (Nat × Nat) × tc_X × Option tv_V × tl_F × tl_F
def tc_Q (Γ : tg_G) (RO : am_O) (T : tk_T) (W : tc_W) (n0 m0 : Nat) (F : List Nat) (E : tc_E) (es : List tc_Ex) : am_Q := fun v M z l => ∃ e ∈ es, ∃ (V : Nat → Int) (A : Nat → Nat) (κ : Nat → Option Nat), tc_rel W n0 m0 F E V A κ M z l ∧ tk_H T RO κ M z ∧ (∀ a, z ≤ a → κ a = none) ∧ tc_x Γ RO κ M z V A e.2.1 ∧ (match e.2.2.1 with
  | none => v = none
  | some t => ∃ w, v = some w ∧ tv_is V A t w) ∧ tc_rm F E V A e.2.2.2.1 e.2.2.2.2 e.2.1.2.2.2.2.2.1 z l
/-- hint: ints: which end, then addresses; forms; certificates 0, 1: room, from 8 on facts -/
def tc_hg (h : tc_h) : List Nat := (h.2.1.drop 1).map Int.toNat
def tc_re (mt : am_Meth) (n0 m0 : Nat) (es : List tc_Ex) (i : Instr) (len : Nat) (h : tc_h) (G : tc_G) : Bool := match G with
  | (_, X, _, _, S, zq, lq) => match es[(tc_hi h 0).toNat]? with
    | some (_, Y, o, ze, le) => (tc_mat n0 m0 h.2.2.1 (tc_hg h) X (h.2.2.2.drop 8) Y && (tl_pr X.1 (tl_sub (tl_sb n0 h.2.2.1 ze) zq) (tc_cf h 0) && tl_pr X.1 (tl_sub (tl_sb n0 h.2.2.1 le) lq) (tc_cf h 1))) && (decide (len = 1) && (match i with
      | .return_ => decide (S.length = 0) && (decide (mt.2.2.2.1 = none) && o.isNone)
      | .ireturn => (match S, mt.2.2.2.1, o with
        | [t], some ty, some u => (decide (tv_k t = 0) && tv_sv n0 m0 h.2.2.1 (tc_hg h) t u) && tc_nf X h 2 ty t
        | _, _, _ => false)
      | .lreturn => (match S, mt.2.2.2.1, o with
        | [t], some .long, some u => decide (tv_k t = 1) && tv_sv n0 m0 h.2.2.1 (tc_hg h) t u
        | _, _, _ => false)
      | .areturn => (match S, mt.2.2.2.1, o with
        | [t], some (.object _), some u => decide (tv_k t = 2) && tv_sv n0 m0 h.2.2.1 (tc_hg h) t u
        | [t], some (.array _), some u => decide (tv_k t = 2) && tv_sv n0 m0 h.2.2.1 (tc_hg h) t u
        | _, _, _ => false)
      | _ => false))
    | none => false
theorem tc_rel_sb {W : tc_W} {n0 m0 nr mr : Nat} {F : List Nat} {E : tc_E} {V V0 : Nat → Int} {A A0 : Nat → Nat} {κ : Nat → Option Nat} {M : am_H} {sz sl : Nat} (hn : n0 ≤ nr) (hm : m0 ≤ mr) (hV : ∀ k, k < n0 → E.1 k = V0 k) (hA : ∀ k, k < m0 → E.2.1 k = A0 k) (hF : ∀ a ∈ F, a < m0) (h : tc_rel W nr mr F (V0, A0, E.2.2) V A κ M sz sl) (sg : List tl_F) (ag : List Nat) : tc_rel W n0 m0 F E (tl_V V n0 sg) (ta_A A m0 ag) κ M sz sl := by
  obtain ⟨h1, h2, h3, h4, h5, h6, h7⟩ := h
  have e : F.map A0 = F.map E.2.1 := List.map_congr_left (fun a ha => (hA a (hF a ha)).symm)
  refine ⟨fun k hk => ?_, fun k hk => ?_, h3, h4, fun a ha hn hFa => h5 a ha hn (by show a ∉ F.map A0; rw [e]; exact hFa), h6, h7⟩
  · rw [tl_V_lt V sg hk]
    exact (hV k hk).trans (h1 k (by omega))
  · rw [ta_A_lt A ag hk]
    exact (hA k hk).trans (h2 k (by omega))
theorem tc_re_s {P : am_P} {Γ : tg_G} {RO : am_O} {T : tk_T} {y : Nat} {W : tc_W} {n0 m0 nr mr : Nat} {F : List Nat} {E : tc_E} {V0 : Nat → Int} {A0 : Nat → Nat} {es : List tc_Ex} (hn : n0 ≤ nr) (hmr : m0 ≤ mr) (hV : ∀ k, k < n0 → E.1 k = V0 k) (hA : ∀ k, k < m0 → E.2.1 k = A0 k) (hF : ∀ a ∈ F, a < m0)
    {mt : am_Meth} {i : Instr} {len : Nat} {h : tc_h} {G : tc_G} (hm : am_meth P y = some mt) (hd : decode mt.2.1 G.2.2.1 = .ok (i, len)) (g : tc_re mt n0 m0 es i len h G = true) : tc_Ok (P, RO, (T, Γ), y, W, nr, mr, F, (V0, A0, E.2.2), tc_Q Γ RO T W n0 m0 F E es) G := by
  obtain ⟨⟨n, m⟩, X, pc, L, S, zq, lq⟩ := G
  intro V A κ M sz sl lv st hr hH hz hx hl hs hq
  unfold tc_re at g
  dsimp only at g
  split at g
  · rename_i ce Y o ze le hes
    obtain ⟨g0, gb⟩ := tc_and g
    clear g
    obtain ⟨g1, ga⟩ := tc_and g0
    clear g0
    obtain ⟨g2, g3⟩ := tc_and ga
    clear ga
    obtain ⟨g4, g⟩ := tc_and gb
    clear gb
    replace g4 := of_decide_eq_true g4
    replace g2 := tl_pr_s hx.1 g2
    replace g3 := tl_pr_s hx.1 g3
    rw [tl_sub_s, tl_sb_s] at g2 g3
    have hx' := tc_mat_s hx g1
    have hr' := tc_rel_sb hn hmr hV hA hF hr h.2.2.1 (tc_hg h)
    have hq' : tc_rm F E (tl_V V n0 h.2.2.1) (ta_A A m0 (tc_hg h)) ze le Y.2.2.2.2.2.1 sz sl := by
      obtain ⟨q1, q2, q3⟩ := hq
      refine ⟨?_, ?_, fun p hp => ?_⟩
      · have q1 : (sz : Int) ≤ (E.2.2.2.2.1 : Int) + tl_v V zq := q1
        omega
      · have q2 : (sl : Int) ≤ (E.2.2.2.2.2 : Int) + tl_v V lq := q2
        omega
      · obtain ⟨-, -, -, -, -, w6⟩ := tc_and g1 |>.2 |> fun w => (⟨trivial, trivial, trivial, trivial, trivial, w⟩ : True ∧ True ∧ True ∧ True ∧ True ∧ _)
        obtain ⟨w2, w⟩ := tc_and w6
        obtain ⟨w3, w⟩ := tc_and w
        obtain ⟨w4, w⟩ := tc_and w
        obtain ⟨w5, w⟩ := tc_and w
        have q := tc_al (tc_and w).1 p hp
        unfold tc_frm at q
        split at q
        · rename_i ci vals hf
          have q4 := q3 _ (tc_frs_m hf)
          have e : F.map A0 = F.map E.2.1 := List.map_congr_left (fun a ha => (hA a (hF a ha)).symm)
          rcases q4 with q4 | q4
          · left
            rw [← e]
            exact q4
          · exact Or.inr q4
        · cases q
    have hfin : ∀ v, (match o with
        | none => v = none
        | some t => ∃ w, v = some w ∧ tv_is (tl_V V n0 h.2.2.1) (ta_A A m0 (tc_hg h)) t w) → tc_Q Γ RO T W n0 m0 F E es v M sz sl := fun v hv => ⟨_, List.mem_of_getElem? hes, _, _, κ, hr', hH, hz, hx', hv, hq'⟩
    refine am_stepR hm hd (Or.inr (Or.inr (Or.inr (Or.inr (Or.inr (Or.inl ?_))))))
    cases i with
    | return_ =>
      dsimp only at g
      obtain ⟨k1, g⟩ := tc_and g
      obtain ⟨k2, k3⟩ := tc_and g
      have k1 := of_decide_eq_true k1
      have e : S = [] := List.eq_nil_of_length_eq_zero k1
      subst e
      have hst : st = [] := by
        cases st with
        | nil => rfl
        | cons v s => cases hs
      refine ⟨g4, hst, of_decide_eq_true k2, hfin none ?_⟩
      cases o with
      | none => rfl
      | some u => cases k3
    | ireturn =>
      dsimp only at g
      split at g
      · rename_i t ty u hty
        obtain ⟨k1, k2⟩ := tc_and g
        obtain ⟨k0, k1⟩ := tc_and k1
        obtain ⟨v, s, rfl, e1, e2⟩ := tc_st1 hs
        obtain ⟨x, rfl⟩ := tv_k0 e1 (of_decide_eq_true k0)
        have hs0 : s = [] := by
          cases s with
          | nil => rfl
          | cons v s => cases e2
        subst hs0
        exact ⟨g4, x, ty, rfl, hty, (tc_nf_s hx k2 e1).1, hfin _ ⟨_, rfl, tv_sv_s k1 e1⟩⟩
      · cases g
    | lreturn =>
      dsimp only at g
      split at g
      · rename_i t u hty
        obtain ⟨k0, k1⟩ := tc_and g
        obtain ⟨v, s, rfl, e1, e2⟩ := tc_st1 hs
        obtain ⟨x, rfl⟩ := tv_k1 e1 (of_decide_eq_true k0)
        have hs0 : s = [] := by
          cases s with
          | nil => rfl
          | cons v s => cases e2
        subst hs0
        exact ⟨g4, x, rfl, hty, hfin _ ⟨_, rfl, tv_sv_s k1 e1⟩⟩
      · cases g
    | areturn =>
      dsimp only at g
      split at g
      · rename_i t nm u hty
        obtain ⟨k0, k1⟩ := tc_and g
        obtain ⟨v, s, rfl, e1, e2⟩ := tc_st1 hs
        have hs0 : s = [] := by
          cases s with
          | nil => rfl
          | cons v s => cases e2
        subst hs0
        exact ⟨g4, v, _, rfl, hty, Or.inl ⟨_, rfl⟩, tv_k2 e1 (of_decide_eq_true k0), hfin _ ⟨_, rfl, tv_sv_s k1 e1⟩⟩
      · rename_i t nm u hty
        obtain ⟨k0, k1⟩ := tc_and g
        obtain ⟨v, s, rfl, e1, e2⟩ := tc_st1 hs
        have hs0 : s = [] := by
          cases s with
          | nil => rfl
          | cons v s => cases e2
        subst hs0
        exact ⟨g4, v, _, rfl, hty, Or.inr ⟨_, rfl⟩, tv_k2 e1 (of_decide_eq_true k0), hfin _ ⟨_, rfl, tv_sv_s k1 e1⟩⟩
      · cases g
    | _ => cases g
  · cases g
