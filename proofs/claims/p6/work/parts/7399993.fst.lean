/-! the checker's costly tests done once for a method, or by a mask of bits; texts as numbers -/
def tw_x (k j : Nat) : Nat := Nat.add (Nat.mul k 64) (Nat.mod j 64)
def tw_m : tc_W → Nat
  | [] => 0
  | p :: r => 2 ^ tw_x p.1 p.2 ||| tw_m r
def tw_b (m x : Nat) : Bool := Nat.beq (Nat.mod (Nat.shiftRight m x) 2) 1
theorem tw_b_t {m x : Nat} : tw_b m x = m.testBit x := by
  rw [Nat.testBit_eq_decide_div_mod_eq]
  show Nat.beq ((m >>> x) % 2) 1 = decide (m / 2 ^ x % 2 = 1)
  rw [Nat.shiftRight_eq_div_pow]
  cases h : Nat.beq (m / 2 ^ x % 2) 1 with
  | true => exact (decide_eq_true (Nat.eq_of_beq_eq_true h)).symm
  | false => exact (decide_eq_false (Nat.ne_of_beq_eq_false h)).symm
theorem tw_m_s {k j : Nat} : ∀ {W : tc_W}, (k, j) ∈ W → tw_b (tw_m W) (tw_x k j) = true
  | [], h => by cases h
  | p :: r, h => by
    rw [tw_b_t]
    show (2 ^ tw_x p.1 p.2 ||| tw_m r).testBit (tw_x k j) = true
    rw [Nat.testBit_or]
    rcases List.mem_cons.mp h with e | h
    · subst e
      show ((2 ^ tw_x k j).testBit (tw_x k j) || _) = true
      rw [Nat.testBit_two_pow_self]
      rfl
    · have q := tw_m_s h
      rw [tw_b_t] at q
      rw [q]
      exact Bool.or_true _
def tw_h (W : tc_W) (k j : Nat) : Bool := tw_b (tw_m W) (tw_x k j) && W.contains (k, j)
theorem tw_h_f : (fun (W : tc_W) (k j : Nat) => W.contains (k, j)) = tw_h := by
  funext W k j
  unfold tw_h
  cases e : W.contains (k, j) with
  | false => exact (Bool.and_false _).symm
  | true =>
    have q : (k, j) ∈ W := by simpa using e
    rw [tw_m_s q]
    rfl
def tf_keepG (hk : tc_W → Nat → Nat → Bool) (fp : Nat → List (Nat × Nat)) (X : tc_X) (W : tc_W) (pn : List Nat) : tc_X := (X.1, X.2.1, X.2.2.1.filter (fun p => (tc_kd X p.1).isSome), X.2.2.2.1.filter (fun p => match tc_kd X p.1 with
  | some k => !hk W k p.2.1
  | none => false), X.2.2.2.2.1.filter (fun p => match tc_kd X p.1 with
  | some k => !hk W k 0
  | none => false), X.2.2.2.2.2.1.filter (fun p => !pn.contains p.1), X.2.2.2.2.2.2.filter (fun p => (p.1 % 8 == 0) && (fp (p.1 / 8)).all (fun q => !hk W q.1 q.2)))
theorem tf_keepG_o : tf_keepG (fun (W : tc_W) (k j : Nat) => W.contains (k, j)) = tc_xkeep := rfl
def tf_keep : (Nat → List (Nat × Nat)) → tc_X → tc_W → List Nat → tc_X := tf_keepG tw_h
theorem tf_keep_eq : tc_xkeep = tf_keep := by
  unfold tf_keep
  rw [← tw_h_f]
  rfl
/-- rows in order: the second's are among the first's -/
def tw_mg : tc_W → tc_W → Bool
  | [], c => c.isEmpty
  | q :: w, c => match c with
    | [] => true
    | p :: r => cond (Nat.beq p.1 q.1 && Nat.beq p.2 q.2) (tw_mg w r) (tw_mg w (p :: r))
theorem tw_mg_s : ∀ {W c : tc_W}, tw_mg W c = true → ∀ p ∈ c, p ∈ W
  | [], [], _, p, hp => by cases hp
  | [], p :: c, h, _, _ => by cases h
  | q :: w, [], _, p, hp => by cases hp
  | q :: w, p :: c, h, x, hx => by
    have h : cond (Nat.beq p.1 q.1 && Nat.beq p.2 q.2) (tw_mg w c) (tw_mg w (p :: c)) = true := h
    cases e : (Nat.beq p.1 q.1 && Nat.beq p.2 q.2) with
    | true =>
      rw [e] at h
      have h : tw_mg w c = true := h
      obtain ⟨e1, e2⟩ := tc_and e
      have e3 : p = q := Prod.ext (Nat.eq_of_beq_eq_true e1) (Nat.eq_of_beq_eq_true e2)
      rcases List.mem_cons.mp hx with rfl | hx
      · rw [e3]
        exact List.mem_cons_self
      · exact List.mem_cons_of_mem _ (tw_mg_s h x hx)
    | false =>
      rw [e] at h
      have h : tw_mg w (p :: c) = true := h
      exact List.mem_cons_of_mem _ (tw_mg_s h x hx)
def tf_mat (n0 m0 : Nat) (sg : List tl_F) (ag : List Nat) (X : tc_X) (cs : List tl_C) (Y : tc_X) : Bool :=
  tf_prs (tb_mk X.1) (Y.1.map (tf_sb n0 (tb_mk sg))) cs &&
  (Y.2.1.all (fun p => tc_kd X (ta_at m0 ag p.1) == some p.2) &&
  (Y.2.2.1.all (fun p => tc_oeq n0 sg (tc_lnf X (ta_at m0 ag p.1)) p.2) &&
  (Y.2.2.2.1.all (fun p => tc_osv n0 m0 sg ag (tc_fd X (ta_at m0 ag p.1) p.2.1) p.2.2) &&
  (Y.2.2.2.2.1.all (fun p => tc_oeq n0 sg (tc_elf X (ta_at m0 ag p.1) (tl_sb n0 sg p.2.1)) p.2.2) &&
  (Y.2.2.2.2.2.1.all (tc_frm n0 m0 sg ag X) && (tc_nd (Y.2.2.2.2.2.1.map (fun p => ta_at m0 ag p.1)) && Y.2.2.2.2.2.2.all (tg_mt n0 m0 sg ag X.2.2.2.2.2.2)))))))
theorem tf_mat_f : tc_mat = tf_mat := by
  funext n0 m0 sg ag X cs Y
  unfold tc_mat tf_mat
  rw [tf_prs_s, tf_sb_s]
def tf_jpG (mat : Nat → Nat → List tl_F → List Nat → tc_X → List tl_C → tc_X → Bool) (n0 m0 : Nat) (PL : List tc_Pl) (μ : Option (List tl_F)) (h : tc_h) (G : tc_G) : Bool := match G with
  | (_, X, pc, L, S, zq, lq) => match PL[(tc_hi h 0).toNat]? with
    | some ((_, Y, pc', L', S', ze, le), μ') => decide (pc' = pc) && (mat n0 m0 h.2.2.1 (tc_hg h) X (h.2.2.2.drop (2 + 2 * μ'.length)) Y && (tc_lsv n0 m0 h.2.2.1 (tc_hg h) L L' && (tv_svs n0 m0 h.2.2.1 (tc_hg h) S S' && (tl_pr X.1 (tl_sub (tl_sb n0 h.2.2.1 ze) zq) (tc_cf h 0) && (tl_pr X.1 (tl_sub (tl_sb n0 h.2.2.1 le) lq) (tc_cf h 1) && (match μ with
      | some m => tc_lex X.1 n0 h.2.2.1 (h.2.2.2.drop 2) μ' m
      | none => true))))))
    | none => false
theorem tf_jpG_o {n0 m0 : Nat} {PL : List tc_Pl} {μ : Option (List tl_F)} {h : tc_h} {G : tc_G} : tc_jp n0 m0 PL μ h G = tf_jpG tc_mat n0 m0 PL μ h G := rfl
def tf_jp : Nat → Nat → List tc_Pl → Option (List tl_F) → tc_h → tc_G → Bool := tf_jpG tf_mat
theorem tf_jp_s {n0 m0 : Nat} {PL : List tc_Pl} {μ : Option (List tl_F)} {h : tc_h} {G : tc_G} : tc_jp n0 m0 PL μ h G = tf_jp n0 m0 PL μ h G := by
  rw [tf_jpG_o, tf_mat_f]
  rfl
def tf_ceG (keep : (Nat → List (Nat × Nat)) → tc_X → tc_W → List Nat → tc_X) (fp : Nat → List (Nat × Nat)) (cn cm : Nat) (cX : tc_X) (cW : tc_W) (sg : List tl_F) (ag : List Nat) (n m : Nat) (X : tc_X) (pc : Nat) (L : tc_L) (R : List tv_V) (zq lq : tl_F) (e : tc_Ex) : tc_G :=
  let sg2 := tc_isg n cn e.1.1 sg
  let ag2 := tc_iag m cm e.1.2 ag
  ((n + (e.1.1 - cn), m + (e.1.2 - cm)), tc_xcat (tc_xsub sg2 ag2 e.2.1) (keep fp X cW (cX.2.2.2.2.2.1.map (fun p => ta_at 0 ag p.1))), pc + 3, L, (match e.2.2.1 with
    | none => R
    | some t => tv_sub 0 0 sg2 ag2 t :: R), tl_nf (tl_app zq (tl_sb 0 sg2 e.2.2.2.1)), tl_nf (tl_app lq (tl_sb 0 sg2 e.2.2.2.2)))
def tf_caG (fS : tc_W → Bool) (fE : Nat → Nat → List tc_Ex → Bool) (mat : Nat → Nat → List tl_F → List Nat → tc_X → List tl_C → tc_X → Bool) (keep : (Nat → List (Nat × Nat)) → tc_X → tc_W → List Nat → tc_X) (P : am_P) (T : tk_T) (fp : Nat → List (Nat × Nat)) (mm : Nat → Option am_Meth) (CT : List tc_Ct) (mt : am_Meth) (n0 m0 : Nat) (i : Instr) (len : Nat) (h : tc_h) (G : tc_G) : Option (List tc_G) := match G with
  | ((n, m), X, pc, L, S, zq, lq) => match tc_rs P T mt.2.2.2.2.2.2 i X S (tc_cf h 0).1, CT[(tc_hi h 0).toNat]? with
    | some (z, k), some (cz, (cn, cm), ca, cX, cW, ces) => (match mm z with
      | some mz => if (((len = 3 ∧ cz = z ∧ k ≤ S.length) ∧ (h.2.2.1.length = cn ∧ (tc_hg h).length = cm)) ∧ ((mz.2.2.2.2.1 + 1 ≤ mt.2.2.2.2.1 ∧ 8 + (mz.2.2.1 + 11) + mz.2.2.2.2.2.1 ≤ mt.2.2.2.2.2.1) ∧ tc_slots (S.take k) ≤ mz.2.2.1) ∧ tc_slots (S.drop k) ≤ 8) ∧ (((fS cW && tc_wf n0 m0 G) && (h.2.2.1.all (tl_lt n) && (tc_hg h).all (fun a => decide (a < m)))) && ((tv_svs 0 0 h.2.2.1 (tc_hg h) (S.take k).reverse ca && mat 0 0 h.2.2.1 (tc_hg h) X (h.2.2.2.drop 8) cX) && fE cn cm ces)) = true then
          some (ces.map (tf_ceG keep fp cn cm cX cW h.2.2.1 (tc_hg h) n m X pc L (S.drop k) zq lq)) else none
      | none => none)
    | _, _ => none
theorem tf_caG_o {P : am_P} {T : tk_T} {fp : Nat → List (Nat × Nat)} {mm : Nat → Option am_Meth} {CT : List tc_Ct} {W : tc_W} {mt : am_Meth} {n0 m0 : Nat} {i : Instr} {len : Nat} {h : tc_h} {G : tc_G} : tc_ca P T fp mm CT W mt n0 m0 i len h G = tf_caG (fun c => c.all W.contains) (fun cn cm ces => ces.all (tc_wex cn cm)) tc_mat tc_xkeep P T fp mm CT mt n0 m0 i len h G := rfl
theorem tf_caG_c {fS gS : tc_W → Bool} {fE gE : Nat → Nat → List tc_Ex → Bool} {mat : Nat → Nat → List tl_F → List Nat → tc_X → List tl_C → tc_X → Bool} {keep : (Nat → List (Nat × Nat)) → tc_X → tc_W → List Nat → tc_X} {P : am_P} {T : tk_T} {fp : Nat → List (Nat × Nat)} {mm : Nat → Option am_Meth} {CT : List tc_Ct} {mt : am_Meth} {n0 m0 : Nat} {i : Instr} {len : Nat} {h : tc_h} {G : tc_G} (hc : ∀ c ∈ CT, fS c.2.2.2.2.1 = gS c.2.2.2.2.1 ∧ fE c.2.1.1 c.2.1.2 c.2.2.2.2.2 = gE c.2.1.1 c.2.1.2 c.2.2.2.2.2) : tf_caG fS fE mat keep P T fp mm CT mt n0 m0 i len h G = tf_caG gS gE mat keep P T fp mm CT mt n0 m0 i len h G := by
  obtain ⟨⟨n, m⟩, X, pc, L, S, zq, lq⟩ := G
  unfold tf_caG
  dsimp only
  cases e1 : tc_rs P T mt.2.2.2.2.2.2 i X S (tc_cf h 0).1 with
  | none => rfl
  | some zk =>
    cases e2 : CT[(tc_hi h 0).toNat]? with
    | none => rfl
    | some c =>
      obtain ⟨z, k⟩ := zk
      obtain ⟨cz, ⟨cn, cm⟩, ca, cX, cW, ces⟩ := c
      obtain ⟨q1, q2⟩ := hc _ (List.mem_of_getElem? e2)
      have q1 : fS cW = gS cW := q1
      have q2 : fE cn cm ces = gE cn cm ces := q2
      dsimp only
      rw [q1, q2]
def tf_ca (P : am_P) (T : tk_T) (fp : Nat → List (Nat × Nat)) (mm : Nat → Option am_Meth) (CT : List tc_Ct) (_ : tc_W) (mt : am_Meth) (n0 m0 : Nat) (i : Instr) (len : Nat) (h : tc_h) (G : tc_G) : Option (List tc_G) := tf_caG (fun _ => true) (fun _ _ _ => true) tf_mat tf_keep P T fp mm CT mt n0 m0 i len h G
theorem tf_ca_s {P : am_P} {T : tk_T} {fp : Nat → List (Nat × Nat)} {mm : Nat → Option am_Meth} {CT : List tc_Ct} {W : tc_W} {mt : am_Meth} {n0 m0 : Nat} {i : Instr} {len : Nat} {h : tc_h} {G : tc_G} (hc : ∀ c ∈ CT, c.2.2.2.2.1.all W.contains = true ∧ c.2.2.2.2.2.all (tc_wex c.2.1.1 c.2.1.2) = true) : tc_ca P T fp mm CT W mt n0 m0 i len h G = tf_ca P T fp mm CT W mt n0 m0 i len h G := by
  rw [tf_caG_o]
  unfold tf_ca
  rw [tf_keep_eq, tf_mat_f]
  exact tf_caG_c (fun c h => ⟨(hc c h).1, (hc c h).2⟩)
def tf_ic (e : tc_Ev) (nr mr : Nat) (k : Nat) (h : tc_h) (G : tc_G) : Option (List tc_G) := match e with
  | (P, T, fp, Z, mm, CT, LT, W, mt, ins, nm, es, PL) => (match k with
    | 6 => (match ins G.2.2.1 with
      | some (i, len) => tf_ca P T fp mm CT W mt nr mr i len h G
      | none => none)
    | _ => tc_ic (P, T, fp, Z, mm, CT, LT, W, mt, ins, nm, es, PL) nr mr k h G)
theorem tf_ic_s {P : am_P} {T : tk_T} {fp : Nat → List (Nat × Nat)} {Z : tc_Z} {mm : Nat → Option am_Meth} {CT : List tc_Ct} {LT : List tc_Lm} {W : tc_W} {mt : am_Meth} {ins : Nat → Option (Instr × Nat)} {nm : Nat × Nat} {es : List tc_Ex} {PL : List tc_Pl} {nr mr k : Nat} {h : tc_h} {G : tc_G} (hc : ∀ c ∈ CT, c.2.2.2.2.1.all W.contains = true ∧ c.2.2.2.2.2.all (tc_wex c.2.1.1 c.2.1.2) = true) : tc_ic (P, T, fp, Z, mm, CT, LT, W, mt, ins, nm, es, PL) nr mr k h G = tf_ic (P, T, fp, Z, mm, CT, LT, W, mt, ins, nm, es, PL) nr mr k h G := by
  unfold tf_ic
  dsimp only
  split
  · unfold tc_ic
    dsimp only
    cases e : ins G.2.2.1 with
    | none => rfl
    | some q =>
      obtain ⟨i, len⟩ := q
      exact tf_ca_s hc
  · rfl
def tf_act (e : tc_Ev) (nr mr : Nat) (μ : Option (List tl_F)) (it : tc_It) (G : tc_G) : Option (List tc_G) := match it.1 with
  | 6 => tf_ic e nr mr 6 it.2 G
  | 8 => (match e with
    | (_, _, _, _, _, _, _, _, _, _, nm, _, PL) => if tf_jp nm.1 nm.2 PL μ it.2 G then some [] else none)
  | _ => tc_act e nr mr μ it G
theorem tf_act_s {P : am_P} {T : tk_T} {fp : Nat → List (Nat × Nat)} {Z : tc_Z} {mm : Nat → Option am_Meth} {CT : List tc_Ct} {LT : List tc_Lm} {W : tc_W} {mt : am_Meth} {ins : Nat → Option (Instr × Nat)} {nm : Nat × Nat} {es : List tc_Ex} {PL : List tc_Pl} {nr mr : Nat} {μ : Option (List tl_F)} {it : tc_It} {G : tc_G} (hc : ∀ c ∈ CT, c.2.2.2.2.1.all W.contains = true ∧ c.2.2.2.2.2.all (tc_wex c.2.1.1 c.2.1.2) = true) : tc_act (P, T, fp, Z, mm, CT, LT, W, mt, ins, nm, es, PL) nr mr μ it G = tf_act (P, T, fp, Z, mm, CT, LT, W, mt, ins, nm, es, PL) nr mr μ it G := by
  obtain ⟨k, h⟩ := it
  unfold tf_act
  dsimp only
  split
  · exact (show tc_act (P, T, fp, Z, mm, CT, LT, W, mt, ins, nm, es, PL) nr mr μ (6, h) G = tc_ic (P, T, fp, Z, mm, CT, LT, W, mt, ins, nm, es, PL) nr mr 6 h G from rfl).trans (tf_ic_s hc)
  · show (if tc_jp nm.1 nm.2 PL μ h G then some [] else none) = (if tf_jp nm.1 nm.2 PL μ h G then some [] else none)
    rw [tf_jp_s]
  · rfl
def tf_go (e : tc_Ev) (nr mr : Nat) (μ : Option (List tl_F)) : List tc_It → List tc_G → Bool
  | [], Gs => Gs.isEmpty
  | _ :: _, [] => false
  | it :: r, G :: Gs => (match tf_act e nr mr μ it G with
    | some Gs' => tf_go e nr mr μ r (Gs' ++ Gs)
    | none => false)
theorem tf_go_s {P : am_P} {T : tk_T} {fp : Nat → List (Nat × Nat)} {Z : tc_Z} {mm : Nat → Option am_Meth} {CT : List tc_Ct} {LT : List tc_Lm} {W : tc_W} {mt : am_Meth} {ins : Nat → Option (Instr × Nat)} {nm : Nat × Nat} {es : List tc_Ex} {PL : List tc_Pl} {nr mr : Nat} {μ : Option (List tl_F)} (hc : ∀ c ∈ CT, c.2.2.2.2.1.all W.contains = true ∧ c.2.2.2.2.2.all (tc_wex c.2.1.1 c.2.1.2) = true) : ∀ {hs : List tc_It} {Gs : List tc_G}, tc_go (P, T, fp, Z, mm, CT, LT, W, mt, ins, nm, es, PL) nr mr μ hs Gs = tf_go (P, T, fp, Z, mm, CT, LT, W, mt, ins, nm, es, PL) nr mr μ hs Gs
  | [], Gs => by
    unfold tc_go tf_go
    rfl
  | _ :: _, [] => by
    unfold tc_go tf_go
    rfl
  | it :: r, G :: Gs => by
    unfold tc_go tf_go
    rw [← tf_act_s hc]
    cases tc_act (P, T, fp, Z, mm, CT, LT, W, mt, ins, nm, es, PL) nr mr μ it G with
    | none => rfl
    | some Gs' => exact tf_go_s hc
/-- what is asked of the contracts that a method calls, by theirs -/
theorem tf_hc {W : tc_W} {CT : List tc_Ct} (h1 : CT.all (fun c => tw_mg W c.2.2.2.2.1) = true) (h2 : ∀ c ∈ CT, c.2.2.2.2.2.all (tc_wex c.2.1.1 c.2.1.2) = true) : ∀ c ∈ CT, c.2.2.2.2.1.all W.contains = true ∧ c.2.2.2.2.2.all (tc_wex c.2.1.1 c.2.1.2) = true := by
  intro c hc
  refine ⟨List.all_eq_true.mpr (fun p hp => ?_), h2 c hc⟩
  have q : p ∈ W := tw_mg_s (List.all_eq_true.mp h1 c hc) p hp
  simpa using q
def tf_plk (e : tc_Ev) (p : tc_Pl) (hs : List tc_It) : Bool := decide (e.2.2.2.2.2.2.2.2.2.2.1.1 ≤ p.1.1.1) && (decide (e.2.2.2.2.2.2.2.2.2.2.1.2 ≤ p.1.1.2) && (p.2.all (tl_lt p.1.1.1) && tf_go e p.1.1.1 p.1.1.2 (some p.2) hs [p.1]))
theorem tf_plk_s {P : am_P} {T : tk_T} {fp : Nat → List (Nat × Nat)} {Z : tc_Z} {mm : Nat → Option am_Meth} {CT : List tc_Ct} {LT : List tc_Lm} {W : tc_W} {mt : am_Meth} {ins : Nat → Option (Instr × Nat)} {nm : Nat × Nat} {es : List tc_Ex} {PL : List tc_Pl} {p : tc_Pl} {hs : List tc_It} (hc : ∀ c ∈ CT, c.2.2.2.2.1.all W.contains = true ∧ c.2.2.2.2.2.all (tc_wex c.2.1.1 c.2.1.2) = true) : tc_plk (P, T, fp, Z, mm, CT, LT, W, mt, ins, nm, es, PL) p hs = tf_plk (P, T, fp, Z, mm, CT, LT, W, mt, ins, nm, es, PL) p hs := by
  unfold tc_plk tf_plk
  rw [tf_go_s hc]
noncomputable def de_n (N : Nat) : Nat × Nat := Nat.rec (motive := fun _ => Nat × Nat) (Prod.mk 0 0) (fun m _ => Bool.rec (motive := fun _ => Nat × Nat) (Prod.mk (Nat.land (Nat.succ m) 255) (Nat.shiftRight (Nat.succ m) 8)) (Prod.mk (Nat.land (Nat.shiftRight (Nat.succ m) 8) 18446744073709551615) (Nat.shiftRight (Nat.succ m) 72)) (Nat.beq (Nat.land (Nat.succ m) 255) 255)) N
noncomputable def de_i (N : Nat) : Int × Nat := Prod.rec (motive := fun _ => Int × Nat) (fun z M => Prod.mk (Bool.rec (motive := fun _ => Int) (Int.negSucc (Nat.shiftRight z 1)) (Int.ofNat (Nat.shiftRight z 1)) (Nat.beq (Nat.land z 1) 0)) M) (de_n N)
noncomputable def de_l {α : Type} (f : Nat → α × Nat) (c : Nat) : Nat → List α × Nat := Nat.rec (motive := fun _ => Nat → List α × Nat) (fun N => Prod.mk List.nil N) (fun _ ih N => Prod.rec (motive := fun _ => List α × Nat) (fun x M => Prod.rec (motive := fun _ => List α × Nat) (fun r K => Prod.mk (List.cons x r) K) (ih M)) (f N)) c
noncomputable def de_L {α : Type} (f : Nat → α × Nat) (N : Nat) : List α × Nat := Prod.rec (motive := fun _ => List α × Nat) (fun c M => de_l f c M) (de_n N)
noncomputable def de_p {α β : Type} (f : Nat → α × Nat) (g : Nat → β × Nat) (N : Nat) : (α × β) × Nat := Prod.rec (motive := fun _ => (α × β) × Nat) (fun x M => Prod.rec (motive := fun _ => (α × β) × Nat) (fun y K => Prod.mk (Prod.mk x y) K) (g M)) (f N)
noncomputable def de_F : Nat → tl_F × Nat := de_p (de_L (de_p de_n de_i)) de_i
noncomputable def de_C : Nat → tl_C × Nat := de_p de_n (de_L (de_p de_n de_n))
noncomputable def de_V : Nat → tv_V × Nat := de_p de_n (de_p de_F de_n)
noncomputable def de_It : Nat → tc_It × Nat := de_p de_n (de_p de_n (de_p (de_L de_i) (de_p (de_L de_F) (de_L de_C))))
noncomputable def de_X : Nat → tc_X × Nat := de_p (de_L de_F) (de_p (de_L (de_p de_n de_n)) (de_p (de_L (de_p de_n de_F)) (de_p (de_L (de_p de_n (de_p de_n de_V))) (de_p (de_L (de_p de_n (de_p de_F de_F))) (de_p (de_L (de_p de_n (de_p de_n (de_L de_V)))) (de_L (de_p de_n (de_p (de_L de_n) (de_L de_F)))))))))
noncomputable def de_G : Nat → tc_G × Nat := de_p (de_p de_n de_n) (de_p de_X (de_p de_n (de_p (de_L (de_p de_n de_V)) (de_p (de_L de_V) (de_p de_F de_F)))))
noncomputable def de_P : Nat → tc_Pl × Nat := de_p de_G (de_L de_F)
noncomputable def de_it (N : Nat) : tc_It := Prod.rec (motive := fun _ => tc_It) (fun x _ => x) (de_It N)
noncomputable def de_pl (N : Nat) : tc_Pl := Prod.rec (motive := fun _ => tc_Pl) (fun x _ => x) (de_P N)
theorem de_m {A z : Nat} {m mz : am_Meth} {f : Option am_Meth} (h : (if z = A then some m else f) = some mz) : (z = A ∧ m = mz) ∨ f = some mz := by
  by_cases e : z = A
  · rw [if_pos e] at h
    exact .inl ⟨e, Option.some.inj h⟩
  · rw [if_neg e] at h
    exact .inr h
