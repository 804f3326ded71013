/-! TC: values by forms and names; what instructions push -/
/-- 0 an int by a form, 1 a long, 2 an address by its name, 3 null, 4 a long by a form, 5 an int that tells a form's sign -/
abbrev tv_V : Type := Nat × tl_F × Nat
def tv_sg (x : Int32) (f : Int) : Prop := (x = 1 ∧ 0 < f) ∨ (x = 0 ∧ f = 0) ∨ (x = -1 ∧ f < 0)
def tv_is (V : Nat → Int) (A : Nat → Nat) (t : tv_V) (v : Value) : Prop := match t.1 with
  | 0 => ∃ x : Int32, v = .int x ∧ x.toInt = tl_v V t.2.1
  | 1 => ∃ x : Int64, v = .long x
  | 2 => v = .ref (A t.2.2)
  | 3 => v = .null
  | 4 => ∃ x : Int64, v = .long x ∧ x.toInt = tl_v V t.2.1
  | 5 => ∃ x : Int32, v = .int x ∧ tv_sg x (tl_v V t.2.1)
  | _ => False
def tv_i (f : tl_F) : tv_V := (0, f, 0)
def tv_j : tv_V := (1, ([], 0), 0)
def tv_a (a : Nat) : tv_V := (2, ([], 0), a)
def tv_0 : tv_V := (3, ([], 0), 0)
def tv_l (f : tl_F) : tv_V := (4, f, 0)
def tv_s (f : tl_F) : tv_V := (5, f, 0)
/-- a value's kind: 0 an int, 1 a long, 2 an address or null -/
def tv_k (t : tv_V) : Nat := match t.1 with
  | 0 => 0
  | 1 => 1
  | 2 => 2
  | 3 => 2
  | 4 => 1
  | 5 => 0
  | _ => 9
theorem tv_k0 {V : Nat → Int} {A : Nat → Nat} {t : tv_V} {v : Value} (h : tv_is V A t v) (k : tv_k t = 0) : ∃ x : Int32, v = .int x := by
  obtain ⟨g, f, a⟩ := t
  match g, h, k with
  | 0, h, _ => exact ⟨h.choose, h.choose_spec.1⟩
  | 5, h, _ => exact ⟨h.choose, h.choose_spec.1⟩
  | n + 6, h, _ => exact h.elim
theorem tv_k1 {V : Nat → Int} {A : Nat → Nat} {t : tv_V} {v : Value} (h : tv_is V A t v) (k : tv_k t = 1) : ∃ x : Int64, v = .long x := by
  obtain ⟨g, f, a⟩ := t
  match g, h, k with
  | 1, h, _ => exact h
  | 4, h, _ => exact ⟨h.choose, h.choose_spec.1⟩
  | n + 6, h, _ => exact h.elim
theorem tv_k2 {V : Nat → Int} {A : Nat → Nat} {t : tv_V} {v : Value} (h : tv_is V A t v) (k : tv_k t = 2) : v = .null ∨ ∃ a : Nat, v = .ref a := by
  obtain ⟨g, f, a⟩ := t
  match g, h, k with
  | 2, h, _ => exact Or.inr ⟨_, h⟩
  | 3, h, _ => exact Or.inl h
  | 4, _, k => exact absurd (show (1 : Nat) = 2 from k) (by decide)
  | 5, _, k => exact absurd (show (0 : Nat) = 2 from k) (by decide)
  | n + 6, h, _ => exact h.elim
theorem tv_cat {V : Nat → Int} {A : Nat → Nat} {t : tv_V} {v : Value} (h : tv_is V A t v) : v.category = if tv_k t = 1 then 2 else 1 := by
  obtain ⟨g, f, a⟩ := t
  match g, h with
  | 0, ⟨x, h, _⟩ => subst h; rfl
  | 1, ⟨x, h⟩ => subst h; rfl
  | 2, h => rw [show v = .ref (A a) from h]; rfl
  | 3, h => rw [show v = .null from h]; rfl
  | 4, ⟨x, h, _⟩ => subst h; rfl
  | 5, ⟨x, h, _⟩ => subst h; rfl
abbrev tc_L : Type := List (Nat × tv_V)
def tc_lv (V : Nat → Int) (A : Nat → Nat) (L : tc_L) (lv : am_L) : Prop := ∀ p ∈ L, ∃ v, am_ld p.1 lv = some v ∧ tv_is V A p.2 v
def tc_st (V : Nat → Int) (A : Nat → Nat) : List tv_V → List Value → Prop
  | [], [] => True
  | t :: r, v :: s => tv_is V A t v ∧ tc_st V A r s
  | _, _ => False
def tc_ld (k : Nat) (L : tc_L) : Option tv_V := match L with
  | [] => none
  | p :: r => if p.1 == k then some p.2 else tc_ld k r
theorem tc_ld_m {k : Nat} {t : tv_V} : ∀ {L : tc_L}, tc_ld k L = some t → (k, t) ∈ L
  | [], h => by cases h
  | p :: r, h => by
    unfold tc_ld at h
    split at h
    · rename_i e
      cases h
      have e2 : p.1 = k := by simpa using e
      rw [← e2]
      exact List.mem_cons_self
    · exact List.mem_cons_of_mem _ (tc_ld_m h)
theorem tc_ld_s {V : Nat → Int} {A : Nat → Nat} {k : Nat} {t : tv_V} {L : tc_L} {lv : am_L} (hl : tc_lv V A L lv) (h : tc_ld k L = some t) : ∃ v, am_ld k lv = some v ∧ tv_is V A t v := hl _ (tc_ld_m h)
def tc_ldk (g : Nat) (o : Option tv_V) : Option tv_V := match o with
  | some t => if tv_k t = g then some t else none
  | none => none
theorem tc_ldk_s {g : Nat} {o : Option tv_V} {t : tv_V} (h : tc_ldk g o = some t) : o = some t ∧ tv_k t = g := by
  unfold tc_ldk at h
  split at h
  · split at h
    · rename_i e
      cases h
      exact ⟨rfl, e⟩
    · cases h
  · cases h
/-- an int or long constant -/
def tc_cs (o : Option Value) : Option tv_V := match o with
  | some (.int x) => some (tv_i (tl_c x.toInt))
  | some (.long x) => some (tv_l (tl_c x.toInt))
  | _ => none
def tc_push (cst : Nat → Option Value) (i : Instr) (L : tc_L) : Option (Nat × tv_V) := match i with
  | .iconst n => some (1, tv_i (tl_c (Int32.ofInt n).toInt))
  | .bipush n => some (2, tv_i (tl_c (Int8.ofInt n).toInt32.toInt))
  | .sipush n => some (3, tv_i (tl_c (Int16.ofInt n).toInt32.toInt))
  | .lconst n => some (1, tv_l (tl_c (Int64.ofNat (n : Nat)).toInt))
  | .aconst_null => some (1, tv_0)
  | .iload_n k => (tc_ldk 0 (tc_ld k L)).map (fun v => (1, v))
  | .iload k => (tc_ldk 0 (tc_ld k L)).map (fun v => (2, v))
  | .lload_n k => (tc_ldk 1 (tc_ld k L)).map (fun v => (1, v))
  | .lload k => (tc_ldk 1 (tc_ld k L)).map (fun v => (2, v))
  | .aload_n k => (tc_ldk 2 (tc_ld k L)).map (fun v => (1, v))
  | .aload k => (tc_ldk 2 (tc_ld k L)).map (fun v => (2, v))
  | .ldc k => (tc_ldk 0 (tc_cs (cst k))).map (fun v => (2, v))
  | .ldc_w k => (tc_ldk 0 (tc_cs (cst k))).map (fun v => (3, v))
  | .ldc2_w k => (tc_ldk 1 (tc_cs (cst k))).map (fun v => (3, v))
  | _ => none
section TCX
variable {V : Nat → Int} {A : Nat → Nat}
theorem tv_ci (x : Int32) : tv_is V A (tv_i (tl_c x.toInt)) (.int x) := ⟨x, rfl, (tl_c_s V _).symm⟩
theorem tv_cl (x : Int64) : tv_is V A (tv_l (tl_c x.toInt)) (.long x) := ⟨x, rfl, (tl_c_s V _).symm⟩
theorem tc_cs_s {o : Option Value} {t : tv_V} (h : tc_cs o = some t) : ∃ v, o = some v ∧ tv_is V A t v := by
  unfold tc_cs at h
  split at h
  · cases h
    exact ⟨_, rfl, tv_ci _⟩
  · cases h
    exact ⟨_, rfl, tv_cl _⟩
  · cases h
theorem tc_li {o : Option Value} {v : Value} {t : tv_V} (ho : o = some v) (hv : tv_is V A t v) (k : tv_k t = 0) : am_li o = some v := by
  obtain ⟨x, rfl⟩ := tv_k0 hv k
  rw [ho]
  rfl
theorem tc_ll {o : Option Value} {v : Value} {t : tv_V} (ho : o = some v) (hv : tv_is V A t v) (k : tv_k t = 1) : am_ll o = some v := by
  obtain ⟨x, rfl⟩ := tv_k1 hv k
  rw [ho]
  rfl
theorem tc_la {o : Option Value} {v : Value} {t : tv_V} (ho : o = some v) (hv : tv_is V A t v) (k : tv_k t = 2) : am_la o = some v := by
  rcases tv_k2 hv k with rfl | ⟨x, rfl⟩
  · rw [ho]
    rfl
  · rw [ho]
    rfl
theorem tc_push_s {cst : Nat → Option Value} {i : Instr} {L : tc_L} {lv : am_L} {len : Nat} {t : tv_V} (hl : tc_lv V A L lv) (h : tc_push cst i L = some (len, t)) : ∃ v, am_push cst i lv = some (len, v) ∧ tv_is V A t v := by
  cases i with
  | iconst n => cases h; exact ⟨_, rfl, tv_ci _⟩
  | bipush n => cases h; exact ⟨_, rfl, tv_ci _⟩
  | sipush n => cases h; exact ⟨_, rfl, tv_ci _⟩
  | lconst n => cases h; exact ⟨_, rfl, tv_cl _⟩
  | aconst_null => cases h; exact ⟨_, rfl, rfl⟩
  | iload_n q =>
    obtain ⟨w, h1, h2⟩ := am_mp h
    obtain ⟨h3, h4⟩ := tc_ldk_s h1
    cases h2
    obtain ⟨v, h5, h6⟩ := tc_ld_s hl h3
    exact ⟨v, congrArg (fun o => o.map (fun v => (1, v))) (tc_li h5 h6 h4), h6⟩
  | iload q =>
    obtain ⟨w, h1, h2⟩ := am_mp h
    obtain ⟨h3, h4⟩ := tc_ldk_s h1
    cases h2
    obtain ⟨v, h5, h6⟩ := tc_ld_s hl h3
    exact ⟨v, congrArg (fun o => o.map (fun v => (2, v))) (tc_li h5 h6 h4), h6⟩
  | lload_n q =>
    obtain ⟨w, h1, h2⟩ := am_mp h
    obtain ⟨h3, h4⟩ := tc_ldk_s h1
    cases h2
    obtain ⟨v, h5, h6⟩ := tc_ld_s hl h3
    exact ⟨v, congrArg (fun o => o.map (fun v => (1, v))) (tc_ll h5 h6 h4), h6⟩
  | lload q =>
    obtain ⟨w, h1, h2⟩ := am_mp h
    obtain ⟨h3, h4⟩ := tc_ldk_s h1
    cases h2
    obtain ⟨v, h5, h6⟩ := tc_ld_s hl h3
    exact ⟨v, congrArg (fun o => o.map (fun v => (2, v))) (tc_ll h5 h6 h4), h6⟩
  | aload_n q =>
    obtain ⟨w, h1, h2⟩ := am_mp h
    obtain ⟨h3, h4⟩ := tc_ldk_s h1
    cases h2
    obtain ⟨v, h5, h6⟩ := tc_ld_s hl h3
    exact ⟨v, congrArg (fun o => o.map (fun v => (1, v))) (tc_la h5 h6 h4), h6⟩
  | aload q =>
    obtain ⟨w, h1, h2⟩ := am_mp h
    obtain ⟨h3, h4⟩ := tc_ldk_s h1
    cases h2
    obtain ⟨v, h5, h6⟩ := tc_ld_s hl h3
    exact ⟨v, congrArg (fun o => o.map (fun v => (2, v))) (tc_la h5 h6 h4), h6⟩
  | ldc q =>
    obtain ⟨w, h1, h2⟩ := am_mp h
    obtain ⟨h3, h4⟩ := tc_ldk_s h1
    cases h2
    obtain ⟨v, h5, h6⟩ := tc_cs_s (V := V) (A := A) h3
    exact ⟨v, congrArg (fun o => o.map (fun v => (2, v))) (tc_li h5 h6 h4), h6⟩
  | ldc_w q =>
    obtain ⟨w, h1, h2⟩ := am_mp h
    obtain ⟨h3, h4⟩ := tc_ldk_s h1
    cases h2
    obtain ⟨v, h5, h6⟩ := tc_cs_s (V := V) (A := A) h3
    exact ⟨v, congrArg (fun o => o.map (fun v => (3, v))) (tc_li h5 h6 h4), h6⟩
  | ldc2_w q =>
    obtain ⟨w, h1, h2⟩ := am_mp h
    obtain ⟨h3, h4⟩ := tc_ldk_s h1
    cases h2
    obtain ⟨v, h5, h6⟩ := tc_cs_s (V := V) (A := A) h3
    exact ⟨v, congrArg (fun o => o.map (fun v => (3, v))) (tc_ll h5 h6 h4), h6⟩
  | _ => cases h
end TCX
