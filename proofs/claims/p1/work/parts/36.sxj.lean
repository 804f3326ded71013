/-! SX: tests, jumps -/
def sx_el (t : Term) : Option (Term × Term) := match t with
  | .elem x y => some (x, y)
  | _ => none
theorem sx_el_s {t x y : Term} (h : sx_el t = some (x, y)) : t = .elem x y := by
  unfold sx_el at h
  split at h
  · injection h with h
    cases h
    rfl
  · cases h
def sx_nm (k : Nat) (a b : Term) : Nat × Term × Term := match sx_el a with
  | some (x, y) => if b = .int 0 then (k, x, y) else (k, a, b)
  | none => (match sx_el b with
    | some (x, y) => if a = .int 0 then (if k = 0 then (0, y, x) else (k, x, y)) else (k, a, b)
    | none => (k, a, b))
theorem sx_ic_lt (x y : Int32) : (sx_ic x y < 0) ↔ x < y := by
  unfold sx_ic
  have h0 : ¬ ((1 : Int32) < 0) := by decide
  have h1 : ¬ ((0 : Int32) < 0) := by decide
  have h2 : (-1 : Int32) < 0 := by decide
  split
  · rename_i h
    rw [Int32.lt_iff_toInt_lt] at h
    refine ⟨fun e => absurd e h0, fun e => ?_⟩
    rw [Int32.lt_iff_toInt_lt] at e
    omega
  · rename_i h
    split
    · rename_i h3
      subst h3
      exact ⟨fun e => absurd e h1, fun e => absurd e h⟩
    · rename_i h3
      refine ⟨fun _ => ?_, fun _ => h2⟩
      rw [Int32.lt_iff_toInt_lt] at h ⊢
      have : x.toInt ≠ y.toInt := fun e => h3 (Int32.toInt_inj.mp e)
      omega
theorem sx_ic_gt (x y : Int32) : (0 < sx_ic x y) ↔ y < x := by
  unfold sx_ic
  have h0 : (0 : Int32) < 1 := by decide
  have h1 : ¬ ((0 : Int32) < 0) := by decide
  have h2 : ¬ ((0 : Int32) < -1) := by decide
  split
  · rename_i h
    exact ⟨fun _ => h, fun _ => h0⟩
  · rename_i h
    split
    · exact ⟨fun e => absurd e h1, fun e => absurd e h⟩
    · exact ⟨fun e => absurd e h2, fun e => absurd e h⟩
theorem sx_ic_eq (x y : Int32) : (sx_ic x y = 0) ↔ x = y := by
  unfold sx_ic
  have h0 : ¬ ((1 : Int32) = 0) := by decide
  have h2 : ¬ ((-1 : Int32) = 0) := by decide
  split
  · rename_i h
    refine ⟨fun e => absurd e h0, fun e => ?_⟩
    subst e
    rw [Int32.lt_iff_toInt_lt] at h
    omega
  · split
    · rename_i h
      exact ⟨fun _ => h, fun _ => rfl⟩
    · rename_i h
      exact ⟨fun e => absurd e h2, fun e => absurd e h⟩
theorem sx_nm_s (E : sx_E) (k : Nat) (a b : Term) : sx_hq E (sx_nm k a b).1 (sx_nm k a b).2.1 (sx_nm k a b).2.2 = sx_hq E k a b := by
  unfold sx_nm
  split
  · rename_i x y hx
    split
    · rename_i hb
      have e := sx_el_s hx
      subst e
      subst hb
      unfold sx_hq
      dsimp only
      have e1 : (sx_d E (.elem x y)).1 = sx_ic (sx_d E x).1 (sx_d E y).1 := rfl
      have e2 : (sx_d E (.int 0)).1 = 0 := rfl
      rw [e1, e2]
      split
      · exact decide_eq_decide.mpr (sx_ic_lt _ _).symm
      · exact decide_eq_decide.mpr (sx_ic_eq _ _).symm
    · rfl
  · split
    · rename_i x y hx
      split
      · rename_i ha
        have e := sx_el_s hx
        subst e
        subst ha
        have e1 : (sx_d E (.elem x y)).1 = sx_ic (sx_d E x).1 (sx_d E y).1 := rfl
        have e2 : (sx_d E (.int 0)).1 = 0 := rfl
        split
        · rename_i hk
          subst hk
          unfold sx_hq
          dsimp only
          rw [e1, e2, if_pos rfl, if_pos rfl]
          exact decide_eq_decide.mpr (sx_ic_gt _ _).symm
        · rename_i hk
          unfold sx_hq
          dsimp only
          rw [e1, e2, if_neg hk, if_neg hk]
          refine decide_eq_decide.mpr ⟨fun e => ((sx_ic_eq _ _).mpr e).symm, fun e => (sx_ic_eq _ _).mp e.symm⟩
      · rfl
    · rfl
/-- what is known of a test -/
def sx_ts0 (cs : List sx_Q) (k : Nat) (a b : Term) : Option Bool :=
  let ra := sx_rg0 cs a
  let rb := sx_rg0 cs b
  if k = 0 then (if ra.2 < rb.1 then some true else if rb.2 ≤ ra.1 then some false else (cs.find? (fun q => decide (q.2 = (k, a, b)))).map (fun q => q.1))
  else (if ra.2 < rb.1 ∨ rb.2 < ra.1 then some false else if (ra.1 = ra.2 ∧ rb.1 = rb.2 ∧ ra.1 = rb.1) ∨ a = b then some true else (cs.find? (fun q => decide (q.2 = (k, a, b)))).map (fun q => q.1))
theorem sx_fd {E : sx_E} {cs : List sx_Q} (hc : ∀ q ∈ cs, sx_h E q) {k : Nat} {a b : Term} {r : Bool} (h : (cs.find? (fun q => decide (q.2 = (k, a, b)))).map (fun q => q.1) = some r) : sx_hq E k a b = r := by
  obtain ⟨q, h1, rfl⟩ := Option.map_eq_some_iff.mp h
  have h20 := List.find?_some h1
  have h2 : q.2 = (k, a, b) := of_decide_eq_true h20
  have h3 := hc q (List.mem_of_find?_eq_some h1)
  unfold sx_h at h3
  rw [h2] at h3
  exact h3
theorem sx_ts0_s {E : sx_E} {cs : List sx_Q} (hc : ∀ q ∈ cs, sx_h E q) {k : Nat} {a b : Term} {r : Bool} (h : sx_ts0 cs k a b = some r) : sx_hq E k a b = r := by
  unfold sx_ts0 at h
  obtain ⟨a1, a2⟩ := sx_rg0_s hc a
  obtain ⟨b1, b2⟩ := sx_rg0_s hc b
  dsimp only at h
  split at h
  · rename_i hk
    split at h
    · rename_i h1
      injection h with h
      subst h
      unfold sx_hq
      rw [if_pos hk]
      apply decide_eq_true
      rw [Int32.lt_iff_toInt_lt]
      omega
    · split at h
      · rename_i h1
        injection h with h
        subst h
        unfold sx_hq
        rw [if_pos hk]
        apply decide_eq_false
        rw [Int32.lt_iff_toInt_lt]
        omega
      · exact sx_fd hc h
  · rename_i hk
    split at h
    · rename_i h1
      injection h with h
      subst h
      unfold sx_hq
      rw [if_neg hk]
      apply decide_eq_false
      intro e
      have e2 : (sx_d E a).1.toInt = (sx_d E b).1.toInt := by rw [e]
      omega
    · split at h
      · rename_i h1
        injection h with h
        subst h
        unfold sx_hq
        rw [if_neg hk]
        apply decide_eq_true
        rcases h1 with h1 | h1
        · exact Int32.toInt_inj.mp (by omega)
        · rw [h1]
      · exact sx_fd hc h
def sx_ts (cs : List sx_Q) (k : Nat) (a b : Term) : Option Bool := match sx_c a, sx_c b with
  | some x, some y => some (if k = 0 then decide (x < y) else decide (x = y))
  | _, _ => sx_ts0 cs (sx_nm k a b).1 (sx_nm k a b).2.1 (sx_nm k a b).2.2
theorem sx_ts_s {E : sx_E} {cs : List sx_Q} (hc : ∀ q ∈ cs, sx_h E q) {k : Nat} {a b : Term} {r : Bool} (h : sx_ts cs k a b = some r) : sx_hq E k a b = r := by
  unfold sx_ts at h
  split at h
  · rename_i x y hx hy
    injection h with h
    subst h
    rw [sx_c_s hx, sx_c_s hy]
    rfl
  · rw [← sx_nm_s]
    exact sx_ts0_s hc h
/-- the int that a term is known to be -/
def sx_cv (cs : List sx_Q) (t : Term) : Option Int32 := match sx_c t with
  | some x => some x
  | none => if sx_k t = 0 then (if (sx_rg0 cs t).1 = (sx_rg0 cs t).2 then some (Int32.ofInt (sx_rg0 cs t).1) else none) else none
theorem sx_cv_s {E : sx_E} {cs : List sx_Q} (hc : ∀ q ∈ cs, sx_h E q) : sx_cvOk E (sx_cv cs) := by
  intro t z h
  unfold sx_cv at h
  split at h
  · rename_i x hx
    injection h with h
    subst h
    rw [sx_c_s hx]
    exact ⟨rfl, rfl⟩
  · split at h
    · rename_i hk
      split at h
      · rename_i he
        injection h with h
        refine ⟨hk, ?_⟩
        obtain ⟨a1, a2⟩ := sx_rg0_s hc t
        have e : (sx_d E t).1.toInt = (sx_rg0 cs t).1 := by omega
        rw [← h, ← e, Int32.ofInt_toInt]
      · cases h
    · cases h
def sx_tg (pc : Nat) (off : Int) : Option Nat := if 0 ≤ (pc : Int) + off then some ((pc : Int) + off).toNat else none
theorem sx_tg_s {pc t : Nat} {off : Int} (h : sx_tg pc off = some t) {K : Nat → Prop} (hK : K t) : am_tg pc off K := by
  unfold sx_tg at h
  split at h
  · injection h with h
    exact ⟨t, by omega, hK⟩
  · cases h
def sx_cc (c : Jvm.ClassFile.Cond) (a b : Term) : sx_Q := match c with
  | .eq => (true, 1, a, b)
  | .ne => (false, 1, a, b)
  | .lt => (true, 0, a, b)
  | .ge => (false, 0, a, b)
  | .gt => (true, 0, b, a)
  | .le => (false, 0, b, a)
theorem sx_cc_s (E : sx_E) (c : Jvm.ClassFile.Cond) (a b : Term) : am_c2 c (sx_d E a).1 (sx_d E b).1 ↔ sx_hq E (sx_cc c a b).2.1 (sx_cc c a b).2.2.1 (sx_cc c a b).2.2.2 = (sx_cc c a b).1 := by
  cases c with
  | eq => exact ⟨fun h => decide_eq_true (p := (sx_d E a).1 = (sx_d E b).1) h, fun h => of_decide_eq_true (p := (sx_d E a).1 = (sx_d E b).1) h⟩
  | ne => exact ⟨fun h => decide_eq_false h, fun h => of_decide_eq_false h⟩
  | lt => exact ⟨fun h => decide_eq_true (p := (sx_d E a).1 < (sx_d E b).1) h, fun h => of_decide_eq_true (p := (sx_d E a).1 < (sx_d E b).1) h⟩
  | ge => exact ⟨fun h => decide_eq_false (Int32.not_lt.mpr h), fun h => Int32.not_lt.mp (of_decide_eq_false h)⟩
  | gt => exact ⟨fun h => decide_eq_true (p := (sx_d E b).1 < (sx_d E a).1) h, fun h => of_decide_eq_true (p := (sx_d E b).1 < (sx_d E a).1) h⟩
  | le => exact ⟨fun h => decide_eq_false (Int32.not_lt.mpr h), fun h => Int32.not_lt.mp (of_decide_eq_false h)⟩
theorem sx_c02 (c : Jvm.ClassFile.Cond) (x : Int32) : am_c0 c x ↔ am_c2 c x 0 := by
  cases c <;> exact Iff.rfl
/-- where a test leads: there, or what is to be asked -/
abbrev sx_J : Type := (Nat × List Term) ⊕ (Nat × Term × Term)
def sx_if (cs : List sx_Q) (c : Jvm.ClassFile.Cond) (a b : Term) (t e : Nat) (r : List Term) : sx_J :=
  match sx_ts cs (sx_cc c a b).2.1 (sx_cc c a b).2.2.1 (sx_cc c a b).2.2.2 with
  | some tr => if tr = (sx_cc c a b).1 then .inl (t, r) else .inl (e, r)
  | none => .inr (sx_nm (sx_cc c a b).2.1 (sx_cc c a b).2.2.1 (sx_cc c a b).2.2.2)
theorem sx_if_s {E : sx_E} {cs : List sx_Q} (hc : ∀ q ∈ cs, sx_h E q) {c : Jvm.ClassFile.Cond} {a b : Term} {t e : Nat} {r : List Term} {pc' : Nat} {st' : List Term} (h : sx_if cs c a b t e r = .inl (pc', st')) :
    st' = r ∧ ((am_c2 c (sx_d E a).1 (sx_d E b).1 ∧ pc' = t) ∨ (¬ am_c2 c (sx_d E a).1 (sx_d E b).1 ∧ pc' = e)) := by
  unfold sx_if at h
  split at h
  · rename_i tr htr
    have h1 := sx_ts_s hc htr
    split at h
    · rename_i h2
      injection h with h
      cases h
      exact ⟨rfl, Or.inl ⟨(sx_cc_s E c a b).mpr (h1.trans h2), rfl⟩⟩
    · rename_i h2
      injection h with h
      cases h
      exact ⟨rfl, Or.inr ⟨fun h3 => h2 (h1.symm.trans ((sx_cc_s E c a b).mp h3)), rfl⟩⟩
  · cases h
def sx_jp (cs : List sx_Q) (i : Instr) (len pc : Nat) (st : List Term) : Option sx_J := match i with
  | .goto off => if len = 3 then (sx_tg pc off).map (fun t => .inl (t, st)) else none
  | .ifCond c off => if len = 3 then (match st with
    | a :: r => if sx_k a = 0 then (sx_tg pc off).map (fun t => sx_if cs c a (.int 0) t (pc + 3) r) else none
    | _ => none) else none
  | .if_icmp c off => if len = 3 then (match st with
    | b :: a :: r => if sx_k a = 0 ∧ sx_k b = 0 then (sx_tg pc off).map (fun t => sx_if cs c a b t (pc + 3) r) else none
    | _ => none) else none
  | .ifnull off => if len = 3 then (match st with
    | a :: r => if sx_k a = 2 then some (.inl (pc + 3, r)) else if sx_k a = 3 then (sx_tg pc off).map (fun t => .inl (t, r)) else none
    | _ => none) else none
  | .ifnonnull off => if len = 3 then (match st with
    | a :: r => if sx_k a = 3 then some (.inl (pc + 3, r)) else if sx_k a = 2 then (sx_tg pc off).map (fun t => .inl (t, r)) else none
    | _ => none) else none
  | .tableswitch d lo hi offs => (match st with
    | a :: r => if sx_k a = 0 then (if (sx_rg0 cs a).2 < lo ∨ hi < (sx_rg0 cs a).1 then (sx_tg pc d).map (fun t => .inl (t, r)) else (match sx_cv cs a with
      | some z => if z.toInt < lo ∨ hi < z.toInt then (sx_tg pc d).map (fun t => .inl (t, r)) else (match offs[(z.toInt - lo).toNat]? with
        | some off => (sx_tg pc off).map (fun t => .inl (t, r))
        | none => none)
      | none => some (.inr (1, a, .int (Int32.ofInt (sx_rg0 cs a).1))))) else none
    | _ => none)
  | .lookupswitch d ps => (match st with
    | a :: r => (match sx_cv cs a with
      | some z => if (ps.toList.zip (ps.toList.drop 1)).all (fun (a, next) => a.1 < next.1) = true then (sx_tg pc (Op.lookupswitch.offset ps.toList d z.toInt)).map (fun t => .inl (t, r)) else none
      | none => if sx_k a = 0 then some (.inr (1, a, .int (Int32.ofInt (sx_rg0 cs a).1))) else none)
    | _ => none)
  | _ => none
theorem sx_jp_s {E : sx_E} {cs : List sx_Q} (hc : ∀ q ∈ cs, sx_h E q) {i : Instr} {len pc pc' : Nat} {st st' : List Term} (h : sx_jp cs i len pc st = some (.inl (pc', st'))) (K : Nat → List Value → Prop) (hK : K pc' (st'.map (sx_v E))) : am_br i len pc (st.map (sx_v E)) K := by
  cases i with
  | goto off =>
    unfold sx_jp at h
    dsimp only at h
    split at h
    · rename_i hl
      obtain ⟨t, h1, h2⟩ := Option.map_eq_some_iff.mp h
      cases h2
      exact ⟨hl, sx_tg_s h1 hK⟩
    · cases h
  | ifCond c off =>
    unfold sx_jp at h
    dsimp only at h
    repeat' split at h
    all_goals first | (cases h; done) | skip
    rename_i hl _ a r hk
    obtain ⟨t, h1, h2⟩ := Option.map_eq_some_iff.mp h
    obtain ⟨rfl, h3⟩ := sx_if_s (E := E) hc h2
    refine ⟨hl, (sx_d E a).1, _, by rw [List.map_cons, sx_v0 hk], sx_tg_s h1 ⟨fun h4 => ?_, fun h4 => ?_⟩⟩
    · rcases h3 with ⟨_, rfl⟩ | ⟨h5, _⟩
      · exact hK
      · exact absurd ((sx_c02 c _).mp h4) h5
    · rcases h3 with ⟨h5, _⟩ | ⟨_, rfl⟩
      · exact absurd ((sx_c02 c _).mpr h5) h4
      · exact hK
  | if_icmp c off =>
    unfold sx_jp at h
    dsimp only at h
    repeat' split at h
    all_goals first | (cases h; done) | skip
    rename_i hl _ b a r hk
    obtain ⟨t, h1, h2⟩ := Option.map_eq_some_iff.mp h
    obtain ⟨rfl, h3⟩ := sx_if_s (E := E) hc h2
    refine ⟨hl, (sx_d E b).1, (sx_d E a).1, _, by rw [List.map_cons, List.map_cons, sx_v0 hk.1, sx_v0 hk.2], sx_tg_s h1 ⟨fun h4 => ?_, fun h4 => ?_⟩⟩
    · rcases h3 with ⟨_, rfl⟩ | ⟨h5, _⟩
      · exact hK
      · exact absurd h4 h5
    · rcases h3 with ⟨h5, _⟩ | ⟨_, rfl⟩
      · exact absurd h5 h4
      · exact hK
  | ifnull off =>
    unfold sx_jp at h
    dsimp only at h
    repeat' split at h
    all_goals first | (cases h; done) | skip
    · rename_i hl _ a r hk
      cases h
      exact ⟨hl, Or.inl ⟨_, _, by rw [List.map_cons, sx_v2 hk], hK⟩⟩
    · rename_i hl _ a r _ hk
      obtain ⟨t, h1, h2⟩ := Option.map_eq_some_iff.mp h
      cases h2
      exact ⟨hl, Or.inr ⟨_, by rw [List.map_cons, sx_v3 hk], sx_tg_s h1 hK⟩⟩
  | ifnonnull off =>
    unfold sx_jp at h
    dsimp only at h
    repeat' split at h
    all_goals first | (cases h; done) | skip
    · rename_i hl _ a r hk
      cases h
      exact ⟨hl, Or.inr ⟨_, by rw [List.map_cons, sx_v3 hk], hK⟩⟩
    · rename_i hl _ a r _ hk
      obtain ⟨t, h1, h2⟩ := Option.map_eq_some_iff.mp h
      cases h2
      exact ⟨hl, Or.inl ⟨_, _, by rw [List.map_cons, sx_v2 hk], sx_tg_s h1 hK⟩⟩
  | tableswitch d lo hi offs =>
    unfold sx_jp at h
    dsimp only at h
    repeat' split at h
    all_goals first | (cases h; done) | skip
    · rename_i _ a r hk hr
      obtain ⟨t, h1, h2⟩ := Option.map_eq_some_iff.mp h
      cases h2
      obtain ⟨a1, a2⟩ := sx_rg0_s hc a
      exact ⟨(sx_d E a).1, _, by rw [List.map_cons, sx_v0 hk], fun _ => sx_tg_s h1 hK, fun g1 g2 => by omega⟩
    · rename_i _ a r hk hr _ z hz ho
      obtain ⟨t, h1, h2⟩ := Option.map_eq_some_iff.mp h
      cases h2
      have e := (sx_cv_s hc a z hz).2
      exact ⟨(sx_d E a).1, _, by rw [List.map_cons, sx_v0 hk], fun _ => sx_tg_s h1 hK, fun g1 g2 => by rw [e] at g1 g2; omega⟩
    · rename_i _ a r hk hr _ z hz ho _ off hoff
      obtain ⟨t, h1, h2⟩ := Option.map_eq_some_iff.mp h
      cases h2
      have e := (sx_cv_s hc a z hz).2
      exact ⟨(sx_d E a).1, _, by rw [List.map_cons, sx_v0 hk], fun g => by rw [e] at g; exact absurd g ho, fun _ _ => ⟨off, by rw [e]; exact hoff, sx_tg_s h1 hK⟩⟩
  | lookupswitch d ps =>
    unfold sx_jp at h
    dsimp only at h
    repeat' split at h
    all_goals first | (cases h; done) | skip
    rename_i _ a r _ z hz hs
    obtain ⟨t, h1, h2⟩ := Option.map_eq_some_iff.mp h
    cases h2
    obtain ⟨hk, e⟩ := sx_cv_s hc a z hz
    exact ⟨z, _, by rw [List.map_cons, sx_v0 hk, e], hs, sx_tg_s h1 hK⟩
  | _ => cases h
