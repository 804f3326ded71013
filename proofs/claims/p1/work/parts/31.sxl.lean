/-! SX: locals -/
abbrev sx_L : Type := List (Nat × Term)
def sx_lv (E : sx_E) (lv : sx_L) : am_L := lv.map (fun q => (q.1, sx_v E q.2))
def sx_ld (i : Nat) (lv : sx_L) : Option Term := (lv.find? (fun q => q.1 == i)).map (fun q => q.2)
theorem sx_ld_s {E : sx_E} (i : Nat) (lv : sx_L) : am_ld i (sx_lv E lv) = (sx_ld i lv).map (sx_v E) := by
  unfold am_ld sx_lv sx_ld
  rw [List.find?_map]
  have e : ((fun q : Nat × Value => q.1 == i) ∘ fun q : Nat × Term => (q.1, sx_v E q.2)) = fun q => q.1 == i := rfl
  rw [e]
  cases List.find? (fun q : Nat × Term => q.1 == i) lv <;> rfl
def sx_li (o : Option Term) : Option Term := match o with
  | some t => if sx_k t = 0 then some t else none
  | none => none
def sx_ll (o : Option Term) : Option Term := match o with
  | some t => if sx_k t = 1 then some t else none
  | none => none
def sx_la (o : Option Term) : Option Term := match o with
  | some t => if sx_k t = 2 ∨ sx_k t = 3 then some t else none
  | none => none
theorem sx_li_s {E : sx_E} {o : Option Term} {t : Term} (h : sx_li o = some t) : am_li (o.map (sx_v E)) = some (sx_v E t) := by
  unfold sx_li at h
  split at h
  · split at h
    · rename_i hk
      injection h with h
      subst h
      rw [Option.map_some, sx_v0 hk]
      rfl
    · cases h
  · cases h
theorem sx_ll_s {E : sx_E} {o : Option Term} {t : Term} (h : sx_ll o = some t) : am_ll (o.map (sx_v E)) = some (sx_v E t) := by
  unfold sx_ll at h
  split at h
  · split at h
    · rename_i hk
      injection h with h
      subst h
      rw [Option.map_some, sx_v1 hk]
      rfl
    · cases h
  · cases h
theorem sx_la_s {E : sx_E} {o : Option Term} {t : Term} (h : sx_la o = some t) : am_la (o.map (sx_v E)) = some (sx_v E t) := by
  unfold sx_la at h
  split at h
  · split at h
    · rename_i hk
      injection h with h
      subst h
      rw [Option.map_some]
      rcases hk with hk | hk
      · rw [sx_v2 hk]
        rfl
      · rw [sx_v3 hk]
        rfl
    · cases h
  · cases h
def sx_ci (o : Option Value) : Option Term := match o with
  | some (.int x) => some (.int x)
  | _ => none
def sx_cj (o : Option Value) : Option Term := match o with
  | some (.long x) => some (.long x)
  | _ => none
theorem sx_ci_s {E : sx_E} {o : Option Value} {t : Term} (h : sx_ci o = some t) : am_li o = some (sx_v E t) := by
  unfold sx_ci at h
  split at h
  · injection h with h
    subst h
    rfl
  · cases h
theorem sx_cj_s {E : sx_E} {o : Option Value} {t : Term} (h : sx_cj o = some t) : am_ll o = some (sx_v E t) := by
  unfold sx_cj at h
  split at h
  · injection h with h
    subst h
    rfl
  · cases h
def sx_push (cst : Nat → Option Value) (i : Instr) (lv : sx_L) : Option (Nat × Term) := match i with
  | .iconst n => some (1, .int (Int32.ofInt n))
  | .bipush n => some (2, .int (Int8.ofInt n).toInt32)
  | .sipush n => some (3, .int (Int16.ofInt n).toInt32)
  | .lconst n => some (1, .long (Int64.ofNat (n : Nat)))
  | .aconst_null => some (1, .null)
  | .iload_n k => (sx_li (sx_ld k lv)).map (fun v => (1, v))
  | .iload k => (sx_li (sx_ld k lv)).map (fun v => (2, v))
  | .lload_n k => (sx_ll (sx_ld k lv)).map (fun v => (1, v))
  | .lload k => (sx_ll (sx_ld k lv)).map (fun v => (2, v))
  | .aload_n k => (sx_la (sx_ld k lv)).map (fun v => (1, v))
  | .aload k => (sx_la (sx_ld k lv)).map (fun v => (2, v))
  | .ldc k => (sx_ci (cst k)).map (fun v => (2, v))
  | .ldc_w k => (sx_ci (cst k)).map (fun v => (3, v))
  | .ldc2_w k => (sx_cj (cst k)).map (fun v => (3, v))
  | _ => none
theorem sx_push_s {E : sx_E} {cst : Nat → Option Value} {i : Instr} {lv : sx_L} {n : Nat} {t : Term} (h : sx_push cst i lv = some (n, t)) : am_push cst i (sx_lv E lv) = some (n, sx_v E t) := by
  have k1 : ∀ (m j : Nat), (sx_li (sx_ld j lv)).map (fun v => (m, v)) = some (n, t) → (am_li (am_ld j (sx_lv E lv))).map (fun v => (m, v)) = some (n, sx_v E t) := by
    intro m j h
    obtain ⟨v, h1, h2⟩ := Option.map_eq_some_iff.mp h
    cases h2
    rw [sx_ld_s, sx_li_s h1]
    rfl
  have k2 : ∀ (m j : Nat), (sx_ll (sx_ld j lv)).map (fun v => (m, v)) = some (n, t) → (am_ll (am_ld j (sx_lv E lv))).map (fun v => (m, v)) = some (n, sx_v E t) := by
    intro m j h
    obtain ⟨v, h1, h2⟩ := Option.map_eq_some_iff.mp h
    cases h2
    rw [sx_ld_s, sx_ll_s h1]
    rfl
  have k3 : ∀ (m j : Nat), (sx_la (sx_ld j lv)).map (fun v => (m, v)) = some (n, t) → (am_la (am_ld j (sx_lv E lv))).map (fun v => (m, v)) = some (n, sx_v E t) := by
    intro m j h
    obtain ⟨v, h1, h2⟩ := Option.map_eq_some_iff.mp h
    cases h2
    rw [sx_ld_s, sx_la_s h1]
    rfl
  have k4 : ∀ (m j : Nat), (sx_ci (cst j)).map (fun v => (m, v)) = some (n, t) → (am_li (cst j)).map (fun v => (m, v)) = some (n, sx_v E t) := by
    intro m j h
    obtain ⟨v, h1, h2⟩ := Option.map_eq_some_iff.mp h
    cases h2
    rw [sx_ci_s (E := E) h1]
    rfl
  have k5 : ∀ (m j : Nat), (sx_cj (cst j)).map (fun v => (m, v)) = some (n, t) → (am_ll (cst j)).map (fun v => (m, v)) = some (n, sx_v E t) := by
    intro m j h
    obtain ⟨v, h1, h2⟩ := Option.map_eq_some_iff.mp h
    cases h2
    rw [sx_cj_s (E := E) h1]
    rfl
  cases i with
  | iconst j => cases h; rfl
  | bipush j => cases h; rfl
  | sipush j => cases h; rfl
  | lconst j => cases h; rfl
  | aconst_null => cases h; rfl
  | iload_n j => exact k1 1 j h
  | iload j => exact k1 2 j h
  | lload_n j => exact k2 1 j h
  | lload j => exact k2 2 j h
  | aload_n j => exact k3 1 j h
  | aload j => exact k3 2 j h
  | ldc j => exact k4 2 j h
  | ldc_w j => exact k4 3 j h
  | ldc2_w j => exact k5 3 j h
  | _ => cases h
def sx_st1 (i : Nat) (v : Term) (lv : sx_L) : sx_L := (i, v) :: lv.filter (fun q => !(q.1 == i) && !(q.1 + 1 == i && sx_k q.2 == 1))
def sx_st2 (i : Nat) (v : Term) (lv : sx_L) : sx_L := (i, v) :: lv.filter (fun q => !(q.1 == i) && (!(q.1 == i + 1) && !(q.1 + 1 == i && sx_k q.2 == 1)))
theorem sx_c2 {E : sx_E} (t : Term) : ((sx_v E t).category == 2) = (sx_k t == 1) := by
  rw [sx_cat]
  split
  · rename_i h
    rw [h]
    rfl
  · rename_i h
    have : (sx_k t == 1) = false := by simpa using h
    rw [this]
    rfl
theorem sx_st1_s {E : sx_E} (i : Nat) (v : Term) (lv : sx_L) : sx_lv E (sx_st1 i v lv) = am_st1 i (sx_v E v) (sx_lv E lv) := by
  unfold sx_st1 am_st1 sx_lv
  rw [List.map_cons, List.filter_map]
  have e : ((fun q : Nat × Value => !(q.1 == i) && !(q.1 + 1 == i && q.2.category == 2)) ∘ fun q : Nat × Term => (q.1, sx_v E q.2)) = fun q => !(q.1 == i) && !(q.1 + 1 == i && sx_k q.2 == 1) := by
    funext q
    simp only [Function.comp, sx_c2]
  rw [e]
theorem sx_st2_s {E : sx_E} (i : Nat) (v : Term) (lv : sx_L) : sx_lv E (sx_st2 i v lv) = am_st2 i (sx_v E v) (sx_lv E lv) := by
  unfold sx_st2 am_st2 sx_lv
  rw [List.map_cons, List.filter_map]
  have e : ((fun q : Nat × Value => !(q.1 == i) && (!(q.1 == i + 1) && !(q.1 + 1 == i && q.2.category == 2))) ∘ fun q : Nat × Term => (q.1, sx_v E q.2)) = fun q => !(q.1 == i) && (!(q.1 == i + 1) && !(q.1 + 1 == i && sx_k q.2 == 1)) := by
    funext q
    simp only [Function.comp, sx_c2]
  rw [e]
def sx_si (i : Nat) (lv : sx_L) (st : List Term) : Option (sx_L × List Term) := match st with
  | v :: r => if sx_k v = 0 then some (sx_st1 i v lv, r) else none
  | _ => none
def sx_sj (i : Nat) (lv : sx_L) (st : List Term) : Option (sx_L × List Term) := match st with
  | v :: r => if sx_k v = 1 then some (sx_st2 i v lv, r) else none
  | _ => none
def sx_sa (i : Nat) (lv : sx_L) (st : List Term) : Option (sx_L × List Term) := match st with
  | v :: r => if sx_k v = 2 ∨ sx_k v = 3 then some (sx_st1 i v lv, r) else none
  | _ => none
def sx_inc (i : Nat) (n : Int) (lv : sx_L) (st : List Term) : Option (sx_L × List Term) := match sx_ld i lv with
  | some v => if sx_k v = 0 then some (sx_st1 i (match sx_c v with
    | some x => .int (x + Int32.ofInt n)
    | none => sx_add v (.int (Int32.ofInt n))) lv, st) else none
  | none => none
abbrev sx_O : Type := sx_L × List Term
def sx_o (E : sx_E) (o : sx_O) : am_L × List Value := (sx_lv E o.1, o.2.map (sx_v E))
theorem sx_si_s {E : sx_E} {i : Nat} {lv : sx_L} {st : List Term} {o : sx_O} (h : sx_si i lv st = some o) : am_si i (sx_lv E lv) (st.map (sx_v E)) = some (sx_o E o) := by
  unfold sx_si at h
  split at h
  · split at h
    · rename_i v r hk
      injection h with h
      subst h
      rw [List.map_cons, sx_v0 hk]
      unfold sx_o
      rw [sx_st1_s, sx_v0 hk]
      rfl
    · cases h
  · cases h
theorem sx_sj_s {E : sx_E} {i : Nat} {lv : sx_L} {st : List Term} {o : sx_O} (h : sx_sj i lv st = some o) : am_sj i (sx_lv E lv) (st.map (sx_v E)) = some (sx_o E o) := by
  unfold sx_sj at h
  split at h
  · split at h
    · rename_i v r hk
      injection h with h
      subst h
      rw [List.map_cons, sx_v1 hk]
      unfold sx_o
      rw [sx_st2_s, sx_v1 hk]
      rfl
    · cases h
  · cases h
theorem sx_sa_s {E : sx_E} {i : Nat} {lv : sx_L} {st : List Term} {o : sx_O} (h : sx_sa i lv st = some o) : am_sa i (sx_lv E lv) (st.map (sx_v E)) = some (sx_o E o) := by
  unfold sx_sa at h
  split at h
  · split at h
    · rename_i v r hk
      injection h with h
      subst h
      rcases hk with hk | hk
      · rw [List.map_cons, sx_v2 hk]
        unfold sx_o
        rw [sx_st1_s, sx_v2 hk]
        rfl
      · rw [List.map_cons, sx_v3 hk]
        unfold sx_o
        rw [sx_st1_s, sx_v3 hk]
        rfl
    · cases h
  · cases h
theorem sx_inc_s {E : sx_E} {i : Nat} {n : Int} {lv : sx_L} {st : List Term} {o : sx_O} (h : sx_inc i n lv st = some o) : am_inc i n (sx_lv E lv) (st.map (sx_v E)) = some (sx_o E o) := by
  unfold sx_inc at h
  split at h
  · split at h
    · rename_i v hl hk
      injection h with h
      subst h
      unfold am_inc
      rw [sx_ld_s, hl, Option.map_some, sx_v0 hk]
      unfold sx_o
      rw [sx_st1_s]
      dsimp only
      congr 3
      split
      · rename_i x hx
        rw [sx_c_s hx]
        rfl
      · obtain ⟨h1, h2⟩ := sx_add_s (E := E) v (.int (Int32.ofInt n)) hk rfl
        rw [sx_v0 h1, h2]
        rfl
    · cases h
  · cases h
def sx_sto (i : Instr) (lv : sx_L) (st : List Term) : Option (Nat × Nat × sx_O) := match i with
  | .istore_n k => (sx_si k lv st).map (fun o => (1, (k : Nat) + 1, o))
  | .istore k => (sx_si k lv st).map (fun o => (2, k + 1, o))
  | .lstore_n k => (sx_sj k lv st).map (fun o => (1, (k : Nat) + 2, o))
  | .lstore k => (sx_sj k lv st).map (fun o => (2, k + 2, o))
  | .astore_n k => (sx_sa k lv st).map (fun o => (1, (k : Nat) + 1, o))
  | .astore k => (sx_sa k lv st).map (fun o => (2, k + 1, o))
  | .iinc k n => (sx_inc k n lv st).map (fun o => (3, k + 1, o))
  | _ => none
theorem sx_sto_s {E : sx_E} {i : Instr} {lv : sx_L} {st : List Term} {l0 n : Nat} {o : sx_O} (h : sx_sto i lv st = some (l0, n, o)) : am_sto i (sx_lv E lv) (st.map (sx_v E)) = some (l0, n, sx_o E o) := by
  have key : ∀ {f : Option sx_O} {g : Option (am_L × List Value)} (a b : Nat), (∀ o, f = some o → g = some (sx_o E o)) → f.map (fun o => (a, b, o)) = some (l0, n, o) → g.map (fun o => (a, b, o)) = some (l0, n, sx_o E o) := by
    intro f g a b h1 h2
    obtain ⟨o', h3, h4⟩ := Option.map_eq_some_iff.mp h2
    cases h4
    rw [h1 _ h3]
    rfl
  cases i with
  | istore_n k => exact key _ _ (fun o h => sx_si_s h) h
  | istore k => exact key _ _ (fun o h => sx_si_s h) h
  | lstore_n k => exact key _ _ (fun o h => sx_sj_s h) h
  | lstore k => exact key _ _ (fun o h => sx_sj_s h) h
  | astore_n k => exact key _ _ (fun o h => sx_sa_s h) h
  | astore k => exact key _ _ (fun o h => sx_sa_s h) h
  | iinc k n => exact key _ _ (fun o h => sx_inc_s h) h
  | _ => cases h
