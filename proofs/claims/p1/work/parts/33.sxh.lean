/-! SX: instructions on memory -/
def sx_ix (t : Term) : Option Nat := match t with
  | .index k => some k
  | _ => none
theorem sx_ix_s {t : Term} {k : Nat} (h : sx_ix t = some k) : t = .index k := by
  unfold sx_ix at h
  split at h
  · injection h with h
    rw [h]
  · cases h
def sx_ar (t : Term) : Option Nat := match t with
  | .arg k => some k
  | _ => none
theorem sx_ar_s {t : Term} {k : Nat} (h : sx_ar t = some k) : t = .arg k := by
  unfold sx_ar at h
  split at h
  · injection h with h
    rw [h]
  · cases h
/-- an object at an address -/
def sx_ob (n : Nat) (Ms : sx_M) (t : Term) : Option (Nat × Nat × List Term) := match sx_ix t with
  | none => none
  | some k => match sx_at n Ms k with
    | some (.inr (ci, fs)) => some (k, ci, fs)
    | _ => none
theorem sx_ob_s {E : sx_E} {Ms : sx_M} {t : Term} {k ci : Nat} {fs : List Term} (h : sx_ob Ms.length Ms t = some (k, ci, fs)) : t = .index k ∧ sx_at Ms.length Ms k = some (.inr (ci, fs)) ∧ sx_mem E Ms (E.1 + k) = some (.inr (ci, fs.map (sx_v E))) := by
  unfold sx_ob at h
  split at h
  · cases h
  · rename_i k2 hk
    split at h
    · rename_i ci2 fs2 ha
      injection h with h
      cases h
      exact ⟨sx_ix_s hk, ha, sx_at_s ha⟩
    · cases h
/-- an array at an address -/
def sx_ay (n : Nat) (Ms : sx_M) (t : Term) : Option (Nat × Nat × Nat × sx_W) := match sx_ix t with
  | none => none
  | some k => match sx_at n Ms k with
    | some (.inl (ty, m, w)) => some (k, ty, m, w)
    | _ => none
theorem sx_ay_s {E : sx_E} {Ms : sx_M} {t : Term} {k ty m : Nat} {w : sx_W} (h : sx_ay Ms.length Ms t = some (k, ty, m, w)) : t = .index k ∧ sx_at Ms.length Ms k = some (.inl (ty, m, w)) ∧ sx_mem E Ms (E.1 + k) = some (sx_cell E (.inl (ty, m, w))) := by
  unfold sx_ay at h
  split at h
  · cases h
  · rename_i k2 hk
    split at h
    · rename_i ty2 m2 w2 ha
      injection h with h
      cases h
      exact ⟨sx_ix_s hk, ha, sx_at_s ha⟩
    · cases h
/-- may a value stand in a field of this type -/
def sx_nf (ty : FieldType) (t : Term) : Bool := match sx_k t with
  | 0 => decide (ty = .int) || (match sx_c t with
    | some x => decide (narrow ty (.int x) = .int x) && fits ty (.int x)
    | none => false)
  | 1 => decide (ty = .long)
  | _ => (match ty with
    | .object _ => true
    | .array _ => true
    | _ => false)
theorem sx_nf_s {E : sx_E} {ty : FieldType} {t : Term} (h : sx_nf ty t = true) : narrow ty (sx_v E t) = sx_v E t ∧ fits ty (sx_v E t) = true := by
  unfold sx_nf at h
  rcases sx_k4 t with hk | hk | hk | hk
  · rw [hk] at h
    replace h : (decide (ty = .int) || (match sx_c t with
      | some x => decide (narrow ty (.int x) = .int x) && fits ty (.int x)
      | none => false)) = true := h
    rw [Bool.or_eq_true, decide_eq_true_iff] at h
    rcases h with h | h
    · subst h
      rw [sx_v0 hk]
      exact ⟨rfl, rfl⟩
    · split at h
      · rename_i x hx
        rw [sx_c_s hx]
        rw [Bool.and_eq_true, decide_eq_true_iff] at h
        exact h
      · cases h
  · rw [hk] at h
    replace h : decide (ty = .long) = true := h
    rw [decide_eq_true_iff] at h
    subst h
    rw [sx_v1 hk]
    exact ⟨rfl, rfl⟩
  · rw [hk] at h
    rw [sx_v2 hk]
    cases ty <;> first | (cases h; done) | exact ⟨rfl, rfl⟩
  · rw [hk] at h
    rw [sx_v3 hk]
    cases ty <;> first | (cases h; done) | exact ⟨rfl, rfl⟩
def sx_tv (v : Value) : Option Term := match v with
  | .int x => some (.int x)
  | .long x => some (.long x)
  | .null => some .null
  | _ => none
def sx_tvs (vs : List Value) : Option (List Term) := vs.mapM sx_tv
theorem sx_tv_s {E : sx_E} {v : Value} {t : Term} (h : sx_tv v = some t) : sx_v E t = v := by
  unfold sx_tv at h
  split at h <;> first | (cases h; done) | (injection h with h; subst h; rfl)
theorem sx_tvs_s {E : sx_E} : ∀ {vs : List Value} {ts : List Term}, sx_tvs vs = some ts → ts.map (sx_v E) = vs
  | [], ts, h => by
    unfold sx_tvs at h
    rw [List.mapM_nil] at h
    cases h
    rfl
  | v :: vs, ts, h => by
    unfold sx_tvs at h
    rw [List.mapM_cons] at h
    obtain ⟨t, h1, h2⟩ := Option.bind_eq_some_iff.mp h
    obtain ⟨r, h3, h4⟩ := Option.bind_eq_some_iff.mp h2
    cases h4
    rw [List.map_cons, sx_tv_s h1, sx_tvs_s (vs := vs) h3]
/-- an index that is known, in range -/
def sx_in (cv : Term → Option Int32) (t : Term) (n : Nat) : Option Nat := match cv t with
  | some z => if z < 0 then none else if z.toNatClampNeg < n then some z.toNatClampNeg else none
  | none => none
def sx_cvOk (E : sx_E) (cv : Term → Option Int32) : Prop := ∀ t z, cv t = some z → sx_k t = 0 ∧ (sx_d E t).1 = z
theorem sx_in_s {E : sx_E} {cv : Term → Option Int32} (hcv : sx_cvOk E cv) {t : Term} {n j : Nat} (h : sx_in cv t n = some j) : ∃ z : Int32, sx_v E t = .int z ∧ vp_in z n ∧ z.toNatClampNeg = j ∧ j < n := by
  unfold sx_in at h
  split at h
  · rename_i z hz
    obtain ⟨h1, h2⟩ := hcv t z hz
    split at h
    · cases h
    · rename_i h3
      split at h
      · rename_i h4
        injection h with h
        refine ⟨z, by rw [sx_v0 h1, h2], fun h5 => ?_, h, by omega⟩
        rcases h5 with h5 | h5
        · exact h3 h5
        · omega
      · cases h
  · cases h
/-- a size that is known -/
def sx_sz (cv : Term → Option Int32) (t : Term) (b : Nat) : Option Nat := match cv t with
  | some z => if z < 0 then none else if z.toNatClampNeg * b ≤ 536870912 then some z.toNatClampNeg else none
  | none => none
theorem sx_sz_s {E : sx_E} {cv : Term → Option Int32} (hcv : sx_cvOk E cv) {t : Term} {b j : Nat} (h : sx_sz cv t b = some j) : ∃ z : Int32, sx_v E t = .int z ∧ ¬ z < 0 ∧ z.toNatClampNeg = j ∧ j * b ≤ 536870912 := by
  unfold sx_sz at h
  split at h
  · rename_i z hz
    obtain ⟨h1, h2⟩ := hcv t z hz
    split at h
    · cases h
    · rename_i h3
      split at h
      · rename_i h4
        injection h with h
        exact ⟨z, by rw [sx_v0 h1, h2], h3, h, by rw [← h]; exact h4⟩
      · cases h
  · cases h
abbrev sx_R : Type := Nat → Option (Nat × (Nat → Term))
/-- the program with the static arrays' addresses -/
def sx_P (P : am_P) (sa : Nat → Nat) : am_P := (P.1, P.2.1, P.2.2.1, P.2.2.2.1, P.2.2.2.2.1, P.2.2.2.2.2.1, P.2.2.2.2.2.2.1, P.2.2.2.2.2.2.2.1, (fun o x => (am_sa0 P o x).map sa), P.2.2.2.2.2.2.2.2.2)
def sx_ok (E : sx_E) (rt : sx_R) (RO : am_O) (sa : Nat → Nat) : Prop := (∀ k n g, rt k = some (n, g) → E.2.1 k < E.1 ∧ ∃ f, RO (E.2.1 k) = some (n, f) ∧ ∀ j, j < n → f j = (sx_d E (g j)).1) ∧ ∀ a, E.2.1 (a + 1) = sa a
/-- new long[N][K] -/
def sx_mna (n t N K : Nat) (Ms : sx_M) : sx_M := List.replicate N (.inl (1, K, [])) ++ (.inl (t, N, (List.range N).map (fun i => (i, .index (n + 1 + i)))) :: Ms)
def sx_hp (P : am_P) (rt : sx_R) (cv : Term → Option Int32) (own : Nat) (ini : Bool) (i : Instr) (len pc : Nat) (st : List Term) (Ms : sx_M) (n sl : Nat) : Option (Nat × List Term × sx_M × Nat × Nat) := match i with
  | .getfield x => if len = 3 then (match st with
    | t :: r => (match sx_ob n Ms t with
      | some (_, ci, fs) => (match am_fld P own x ci with
        | some j => (match fs[j]? with
          | some v => some (pc + 3, v :: r, Ms, n, sl)
          | none => none)
        | none => none)
      | none => none)
    | _ => none) else none
  | .putfield x => if len = 3 then (match st with
    | v :: t :: r => (match sx_ob n Ms t with
      | some (k, ci, fs) => (match am_fld P own x ci with
        | some j => if (am_pk P own x ci = 1 ∨ am_pk P own x ci = 2 ∧ ini = true) ∧ j < fs.length ∧ sx_nf (am_tyf P ci j) v = true then some (pc + 3, r, sx_up n Ms k (.inr (ci, fs.set j v)), n, sl) else none
        | none => none)
      | none => none)
    | _ => none) else none
  | .getstatic x => if len = 3 then (match am_sa0 P own x with
    | some a => some (pc + 3, .arg (a + 1) :: st, Ms, n, sl)
    | none => none) else none
  | .new x => if len = 3 then (match am_nw P own x with
    | some ci => (match sx_tvs (am_df P ci) with
      | some ts => some (pc + 3, .index n :: st, .inr (ci, ts) :: Ms, n + 1, sl + (am_df P ci).length)
      | none => none)
    | none => none) else none
  | .newarray ty => if len = 2 then (match st with
    | t :: r => (match sx_sz cv t 8 with
      | some m => (match ty with
        | .int => some (pc + 2, .index n :: r, .inl (0, m, []) :: Ms, n + 1, sl + m)
        | .long => some (pc + 2, .index n :: r, .inl (1, m, []) :: Ms, n + 1, sl + m)
        | .boolean => some (pc + 2, .index n :: r, .inl (2, m, []) :: Ms, n + 1, sl + m)
        | _ => none)
      | none => none)
    | _ => none) else none
  | .anewarray x => if len = 3 then (match st with
    | t :: r => (match sx_sz cv t 4, am_an P own x with
      | some m, some ty => if 3 ≤ ty then some (pc + 3, .index n :: r, .inl (ty, m, []) :: Ms, n + 1, sl + m) else none
      | _, _ => none)
    | _ => none) else none
  | .arraylength => if len = 1 then (match st with
    | t :: r => (match sx_ay n Ms t with
      | some (_, ty, m, _) => if ty < (am_kd P).length then some (pc + 1, .int (Int32.ofNat m) :: r, Ms, n, sl) else none
      | none => (match sx_ar t with
        | some k => (match rt k with
          | some (m, _) => some (pc + 1, .int (Int32.ofNat m) :: r, Ms, n, sl)
          | none => none)
        | none => none))
    | _ => none) else none
  | .iaload => if len = 1 then (match st with
    | j :: t :: r => (match sx_ay n Ms t with
      | some (_, ty, m, w) => (match sx_in cv j m with
        | some z => if ty = 0 ∧ sx_k (sx_gt w z (.int 0)) = 0 then some (pc + 1, sx_gt w z (.int 0) :: r, Ms, n, sl) else none
        | none => none)
      | none => (match sx_ar t with
        | some k => (match rt k with
          | some (m, g) => (match sx_in cv j m with
            | some z => if sx_k (g z) = 0 then some (pc + 1, g z :: r, Ms, n, sl) else none
            | none => none)
          | none => none)
        | none => none))
    | _ => none) else none
  | .baload => if len = 1 then (match st with
    | j :: t :: r => (match sx_ay n Ms t with
      | some (_, ty, m, w) => (match sx_in cv j m with
        | some z => if ty = 2 ∧ sx_k (sx_gt w z (.int 0)) = 0 then some (pc + 1, sx_gt w z (.int 0) :: r, Ms, n, sl) else none
        | none => none)
      | none => none)
    | _ => none) else none
  | .laload => if len = 1 then (match st with
    | j :: t :: r => (match sx_ay n Ms t with
      | some (_, ty, m, w) => (match sx_in cv j m with
        | some z => if ty = 1 ∧ sx_k (sx_gt w z (.long 0)) = 1 then some (pc + 1, sx_gt w z (.long 0) :: r, Ms, n, sl) else none
        | none => none)
      | none => none)
    | _ => none) else none
  | .aaload => if len = 1 then (match st with
    | j :: t :: r => (match sx_ay n Ms t with
      | some (_, ty, m, w) => (match sx_in cv j m, (am_kd P)[ty]? with
        | some z, some fty => if 3 ≤ ty ∧ fty.isReference = true ∧ (sx_k (sx_gt w z .null) = 2 ∨ sx_k (sx_gt w z .null) = 3) then some (pc + 1, sx_gt w z .null :: r, Ms, n, sl) else none
        | _, _ => none)
      | none => none)
    | _ => none) else none
  | .iastore => if len = 1 then (match st with
    | v :: j :: t :: r => (match sx_ay n Ms t with
      | some (k, ty, m, w) => (match sx_in cv j m with
        | some z => if ty = 0 ∧ sx_k v = 0 then some (pc + 1, r, sx_up n Ms k (.inl (0, m, sx_pt w z v)), n, sl) else none
        | none => none)
      | none => none)
    | _ => none) else none
  | .bastore => if len = 1 then (match st with
    | v :: j :: t :: r => (match sx_ay n Ms t with
      | some (k, ty, m, w) => (match sx_in cv j m, cv v with
        | some z, some x => if ty = 2 then some (pc + 1, r, sx_up n Ms k (.inl (2, m, sx_pt w z (.int (vp_nar .boolean x)))), n, sl) else none
        | _, _ => none)
      | none => none)
    | _ => none) else none
  | .lastore => if len = 1 then (match st with
    | v :: j :: t :: r => (match sx_ay n Ms t with
      | some (k, ty, m, w) => (match sx_in cv j m with
        | some z => if ty = 1 ∧ sx_k v = 1 then some (pc + 1, r, sx_up n Ms k (.inl (1, m, sx_pt w z v)), n, sl) else none
        | none => none)
      | none => none)
    | _ => none) else none
  | .aastore => if len = 1 then (match st with
    | v :: j :: t :: r => (match sx_ay n Ms t with
      | some (k, ty, m, w) => (match sx_in cv j m with
        | some z => if 3 ≤ ty then (match sx_ob n Ms v with
            | some (_, ci, _) => if am_asg P ty ci = true then some (pc + 1, r, sx_up n Ms k (.inl (ty, m, sx_pt w z v)), n, sl) else none
            | none => (match sx_ay n Ms v with
              | some (_, t2, _, _) => if am_asA P ty t2 = true then some (pc + 1, r, sx_up n Ms k (.inl (ty, m, sx_pt w z v)), n, sl) else none
              | none => none)) else none
        | none => none)
      | none => none)
    | _ => none) else none
  | .multianewarray x d => if len = 4 ∧ d = 2 then (match st with
    | a :: b :: r => (match sx_sz cv a 8, sx_sz cv b 4 with
      | some K, some N => if 103 ≤ am_nt P own x then some (pc + 4, .index n :: r, sx_mna n (am_nt P own x - 100) N K Ms, n + 1 + N, sl + N + N * K) else none
      | _, _ => none)
    | _ => none) else none
  | .checkcast x => if len = 3 ∧ am_nt P own x = 4 then (match st with
    | t :: r => (match sx_ay n Ms t with
      | some (_, ty, _, _) => if ty = 0 then some (pc + 3, t :: r, Ms, n, sl) else none
      | none => none)
    | _ => none) else none
  | _ => none
/-- arrays' bounds for a row of new longs -/
theorem sx_mna_len {n t N K : Nat} {Ms : sx_M} : (sx_mna n t N K Ms).length = Ms.length + 1 + N := by
  unfold sx_mna
  rw [List.length_append, List.length_replicate, List.length_cons]
  omega
theorem sx_rg (E : sx_E) (n N j : Nat) : sx_rf E (sx_gt ((List.range N).map (fun i => (i, Term.index (n + 1 + i)))) j .null) = if j < N then some (E.1 + n + 1 + j) else none := by
  have h1 : ((List.range N).map (fun i => (i, Term.index (n + 1 + i)))).find? (fun q => q.1 == j) = if j < N then some (j, Term.index (n + 1 + j)) else none := by
    rw [List.find?_map]
    have e : ((fun q : Nat × Term => q.1 == j) ∘ fun i => (i, Term.index (n + 1 + i))) = fun i => i == j := rfl
    rw [e]
    split
    · rename_i h
      have h2 : (List.range N).find? (fun i => i == j) = some j := by
        rw [List.find?_range_eq_some]
        refine ⟨by simp, by simpa using h, fun q hq => ?_⟩
        have : q ≠ j := by omega
        simpa using this
      rw [h2]
      rfl
    · rename_i h
      have h2 : (List.range N).find? (fun i => i == j) = none := by
        rw [List.find?_eq_none]
        intro q hq
        have hq2 := List.mem_range.mp hq
        have : q ≠ j := by omega
        simpa using this
      rw [h2]
      rfl
  unfold sx_gt
  rw [h1]
  split
  · rename_i q hq
    split at hq
    · cases hq
      rename_i hj
      rw [if_pos hj]
      show some (E.1 + (n + 1 + j)) = _
      congr 1
      omega
    · cases hq
  · rename_i hq
    split at hq
    · cases hq
    · rename_i hj
      rw [if_neg hj]
      rfl
theorem sx_mna_s {E : sx_E} {t N K : Nat} {Ms : sx_M} (ht : 3 ≤ t) : sx_mem E (sx_mna Ms.length t N K Ms) = am_mna t (sx_mem E Ms) (E.1 + Ms.length) N K := by
  funext q
  unfold am_mna
  have hr : (sx_mna Ms.length t N K Ms).reverse = Ms.reverse ++ (.inl (t, N, (List.range N).map (fun i => (i, .index (Ms.length + 1 + i)))) :: List.replicate N (.inl (1, K, []))) := by
    unfold sx_mna
    rw [List.reverse_append, List.reverse_cons, List.reverse_replicate, List.append_assoc]
    rfl
  by_cases h1 : q < E.1
  · rw [sx_out h1, if_neg (by omega), if_neg (by omega), sx_out h1]
  · unfold sx_mem
    rw [if_neg h1, if_neg h1, hr]
    by_cases h2 : q - E.1 < Ms.length
    · rw [if_neg (by omega), if_neg (by omega), List.getElem?_append_left (by rw [List.length_reverse]; exact h2)]
    · rw [List.getElem?_append_right (by rw [List.length_reverse]; omega), List.length_reverse]
      by_cases h3 : q = E.1 + Ms.length
      · rw [if_pos h3, h3, show E.1 + Ms.length - E.1 - Ms.length = 0 by omega, List.getElem?_cons_zero, Option.map_some, sx_cell_r ht]
        congr 2
        funext j
        exact sx_rg E Ms.length N j
      · rw [if_neg h3]
        obtain ⟨d, hd⟩ : ∃ d, q - E.1 - Ms.length = d + 1 := ⟨q - E.1 - Ms.length - 1, by omega⟩
        rw [hd, List.getElem?_cons_succ, List.getElem?_replicate]
        by_cases h4 : d < N
        · rw [if_pos h4, if_pos (by omega)]
          rfl
        · rw [if_neg h4, if_neg (by omega), List.getElem?_eq_none (by rw [List.length_reverse]; omega)]
