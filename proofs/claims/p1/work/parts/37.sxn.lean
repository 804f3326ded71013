/-! SX: calls, natives, ends -/
def sx_ct (r : List Term) : Nat := (r.map (fun t => if sx_k t = 1 then 2 else 1)).sum
theorem sx_ct_s {E : sx_E} (r : List Term) : am_cat (r.map (sx_v E)) = sx_ct r := by
  unfold am_cat sx_ct
  rw [List.map_map]
  congr 1
  apply List.map_congr_left
  intro t _
  exact sx_cat t
theorem sx_sl_s {E : sx_E} (r : List Term) : (lg_sl (r.map (sx_v E))).length = sx_ct r := by
  unfold lg_sl sx_ct
  induction r with
  | nil => rfl
  | cons t r ih =>
    rw [List.map_cons, List.flatMap_cons, List.length_append, ih, List.map_cons, List.sum_cons, sx_cat]
    congr 1
    split
    · rfl
    · rfl
def sx_args : Nat → List Term → sx_L
  | _, [] => []
  | i, v :: vs => (i, v) :: sx_args (if sx_k v = 1 then i + 2 else i + 1) vs
theorem sx_args_s {E : sx_E} : ∀ (i : Nat) (vs : List Term), lv_args i (vs.map (sx_v E)) = sx_lv E (sx_args i vs)
  | _, [] => rfl
  | i, v :: vs => by
    rw [List.map_cons]
    unfold lv_args sx_args
    rw [sx_args_s, sx_cat]
    have e : (if (if sx_k v = 1 then 2 else 1) = 2 then i + 2 else i + 1) = (if sx_k v = 1 then i + 2 else i + 1) := by
      split <;> rfl
    rw [e]
    rfl
/-- a call: method, arguments (the receiver first), the rest -/
def sx_ca (P : am_P) (own : Nat) (i : Instr) (st : List Term) (Ms : sx_M) (n : Nat) : Option (Nat × List Term × List Term) := match i with
  | .invokestatic x => (match am_cs P own x with
    | some (z, m) => if m ≤ st.length then some (z, (st.take m).reverse, st.drop m) else none
    | none => none)
  | .invokespecial x => (match am_ci P own x with
    | some (z, m) => (match st.drop m with
      | t :: r => if sx_k t = 2 ∧ m ≤ st.length then some (z, t :: (st.take m).reverse, r) else none
      | _ => none)
    | none => none)
  | .invokevirtual x => (List.range 12).findSome? (fun m => match st.drop m with
    | t :: r => (match sx_ob n Ms t with
      | some (_, ci, _) => (match am_cv P own x ci with
        | some (z, m') => if m' = m then some (z, t :: (st.take m).reverse, r) else none
        | none => none)
      | none => none)
    | _ => none)
  | _ => none
theorem sx_tk {E : sx_E} (st : List Term) (m : Nat) (x : List Value) (r : List Term) (h : (st.drop m).map (sx_v E) = x ++ r.map (sx_v E)) : st.map (sx_v E) = ((st.take m).reverse.map (sx_v E)).reverse ++ (x ++ r.map (sx_v E)) := by
  rw [← h, List.map_reverse, List.reverse_reverse, ← List.map_append, List.take_append_drop]
theorem sx_ca_s {P : am_P} {sa : Nat → Nat} {E : sx_E} {own : Nat} {i : Instr} {st : List Term} {Ms : sx_M} {z : Nat} {vs r : List Term} (h : sx_ca P own i st Ms Ms.length = some (z, vs, r)) :
    am_call (sx_P P sa) (sx_mem E Ms) own i (st.map (sx_v E)) z (vs.map (sx_v E)) (r.map (sx_v E)) := by
  cases i with
  | invokestatic x =>
    unfold sx_ca at h
    dsimp only at h
    repeat' split at h
    all_goals first | (cases h; done) | skip
    rename_i _ z2 m hz hm
    cases h
    refine ⟨m, hz, ?_, ?_⟩
    · exact sx_tk st m [] _ rfl
    · rw [List.length_map, List.length_reverse, List.length_take]
      omega
  | invokespecial x =>
    unfold sx_ca at h
    dsimp only at h
    repeat' split at h
    all_goals first | (cases h; done) | skip
    rename_i _ z2 m hz _ t r2 hd hk
    cases h
    refine ⟨m, sx_a E t, ((st.take m).reverse).map (sx_v E), hz, by rw [List.map_cons, sx_v2 hk.1], ?_, ?_⟩
    · exact sx_tk st m [_] _ (by rw [hd, List.map_cons, sx_v2 hk.1]; rfl)
    · rw [List.length_map, List.length_reverse, List.length_take]
      omega
  | invokevirtual x =>
    unfold sx_ca at h
    dsimp only at h
    obtain ⟨m, hm, h⟩ := List.exists_of_findSome?_eq_some h
    repeat' split at h
    all_goals first | (cases h; done) | skip
    rename_i _ t r2 hd _ k ci fs hob _ z2 m2 hz he
    cases h
    subst he
    obtain ⟨rfl, h1, h2⟩ := sx_ob_s (E := E) hob
    have hlen : m2 < st.length := by
      have : (st.drop m2).length = (Term.index k :: r).length := by rw [hd]
      rw [List.length_drop, List.length_cons] at this
      omega
    refine ⟨m2, E.1 + k, ((st.take m2).reverse).map (sx_v E), ci, fs.map (sx_v E), h2, hz, rfl, ?_, ?_⟩
    · exact sx_tk st m2 [_] _ (by rw [hd, List.map_cons]; rfl)
    · rw [List.length_map, List.length_reverse, List.length_take]
      omega
  | _ => cases h
/-- the copied part of an array -/
def sx_cp (w0 w1 : sx_W) (sp dp : Nat) : Nat → sx_W
  | 0 => w1
  | k + 1 => sx_pt (sx_cp w0 w1 sp dp k) (dp + k) (sx_gt w0 (sp + k) (.int 0))
theorem sx_cp_s {E : sx_E} (w0 w1 : sx_W) (sp dp : Nat) : ∀ n : Nat, (fun j => (sx_d E (sx_gt (sx_cp w0 w1 sp dp n) j (.int 0))).1) = va_cpy (fun j => (sx_d E (sx_gt w0 j (.int 0))).1) (fun j => (sx_d E (sx_gt w1 j (.int 0))).1) sp dp n
  | 0 => by
    funext j
    unfold va_cpy
    rw [if_neg (by omega)]
    rfl
  | n + 1 => by
    have ih := sx_cp_s (E := E) w0 w1 sp dp n
    unfold sx_cp
    rw [sx_w_i, ih]
    funext j
    unfold upd va_cpy
    by_cases h : j = dp + n
    · rw [if_pos h, if_pos (by omega), h, show dp + n - dp = n by omega]
    · rw [if_neg h]
      by_cases h2 : dp ≤ j ∧ j < dp + n
      · rw [if_pos h2, if_pos (by omega)]
      · rw [if_neg h2, if_neg (by omega)]
def sx_nn (cs : List sx_Q) (t : Term) : Option Nat := match sx_cv cs t with
  | some z => if z < 0 then none else some z.toNatClampNeg
  | none => none
theorem sx_nn_s {E : sx_E} {cs : List sx_Q} (hc : ∀ q ∈ cs, sx_h E q) {t : Term} {m : Nat} (h : sx_nn cs t = some m) : ∃ z : Int32, sx_v E t = .int z ∧ ¬ z < 0 ∧ z.toNatClampNeg = m := by
  unfold sx_nn at h
  split at h
  · rename_i z hz
    obtain ⟨h1, h2⟩ := sx_cv_s hc t z hz
    split at h
    · cases h
    · rename_i h3
      injection h with h
      exact ⟨z, by rw [sx_v0 h1, h2], h3, h⟩
  · cases h
def sx_lmin (u w : Int64) : Int64 := if w < u then w else u
def sx_labs (u : Int64) : Int64 := if 0 < u then u else -u
def sx_isr (ty : FieldType) : Bool := match ty with
  | .object _ => true
  | .array _ => true
  | _ => false
abbrev sx_S : Type := Nat × List Term × sx_M × Nat × Nat
def sx_nt (P : am_P) (cs : List sx_Q) (mt : am_Meth) (i : Instr) (len pc : Nat) (st : List Term) (Ms : sx_M) (n sl : Nat) : Option (sx_S ⊕ (Nat × Term × Term)) := match i with
  | .invokespecial x => if len = 3 ∧ am_nt P mt.2.2.2.2.2.2 x = 2 then (match st with
    | t :: r => if sx_k t = 2 ∧ 1 ≤ mt.2.2.2.2.1 ∧ sx_ct r + 12 ≤ mt.2.2.2.2.2.1 then some (.inl (pc + 3, r, Ms, n, sl)) else none
    | _ => none) else none
  | .invokevirtual x => if len = 3 ∧ am_nt P mt.2.2.2.2.2.2 x = 3 then (match st with
    | t :: r => (match sx_ay n Ms t with
      | some (_, ty, m, w) => if ty = 0 ∧ 1 ≤ mt.2.2.2.2.1 ∧ sx_ct r + 14 ≤ mt.2.2.2.2.2.1 then some (.inl (pc + 3, .index n :: r, .inl (0, m, w) :: Ms, n + 1, sl + m)) else none
      | none => none)
    | _ => none) else none
  | .invokestatic x => if len = 3 then (if am_nt P mt.2.2.2.2.2.2 x = 1 then (match st with
      | a :: b :: t1 :: c :: t0 :: r => (match sx_nn cs a, sx_nn cs b, sx_nn cs c with
        | some m, some dp, some sp => (match sx_ay n Ms t0, sx_ay n Ms t1 with
          | some (_, ty0, n0, w0), some (k1, ty1, n1, w1) => if ty0 = 0 ∧ ty1 = 0 ∧ sp + m ≤ n0 ∧ dp + m ≤ n1 ∧ 1 ≤ mt.2.2.2.2.1 ∧ sx_ct r + (nativeFrameWords "java/lang/System" "arraycopy" 5 + 11) ≤ mt.2.2.2.2.2.1 then some (.inl (pc + 3, r, sx_up n Ms k1 (.inl (0, n1, sx_cp w0 w1 sp dp m)), n, sl)) else none
          | _, _ => none)
        | _, _, _ => none)
      | _ => none)
    else if am_nt P mt.2.2.2.2.2.2 x = 10 then (match st with
      | b :: a :: r => if sx_k a = 0 ∧ sx_k b = 0 ∧ 1 ≤ mt.2.2.2.2.1 ∧ sx_ct r + 15 ≤ mt.2.2.2.2.2.1 then (match sx_ts cs 0 a b with
        | some true => some (.inl (pc + 3, b :: r, Ms, n, sl))
        | some false => some (.inl (pc + 3, a :: r, Ms, n, sl))
        | none => some (.inr (sx_nm 0 a b))) else none
      | _ => none)
    else if am_nt P mt.2.2.2.2.2.2 x = 11 then (match st with
      | b :: a :: r => if sx_k a = 0 ∧ sx_k b = 0 ∧ 1 ≤ mt.2.2.2.2.1 ∧ sx_ct r + 15 ≤ mt.2.2.2.2.2.1 then (match sx_ts cs 0 b a with
        | some true => some (.inl (pc + 3, b :: r, Ms, n, sl))
        | some false => some (.inl (pc + 3, a :: r, Ms, n, sl))
        | none => some (.inr (sx_nm 0 b a))) else none
      | _ => none)
    else if am_nt P mt.2.2.2.2.2.2 x = 12 then (match st with
      | b :: a :: r => (match sx_cl a, sx_cl b with
        | some u, some w => if 1 ≤ mt.2.2.2.2.1 ∧ sx_ct r + 15 ≤ mt.2.2.2.2.2.1 then some (.inl (pc + 3, .long (sx_lmin u w) :: r, Ms, n, sl)) else none
        | _, _ => none)
      | _ => none)
    else if am_nt P mt.2.2.2.2.2.2 x = 13 then (match st with
      | a :: r => (match sx_cl a with
        | some u => if 1 ≤ mt.2.2.2.2.1 ∧ sx_ct r + 15 ≤ mt.2.2.2.2.2.1 then some (.inl (pc + 3, .long (sx_labs u) :: r, Ms, n, sl)) else none
        | _ => none)
      | _ => none)
    else none) else none
  | _ => none
theorem sx_nt_s {P : am_P} {sa : Nat → Nat} {E : sx_E} {RO : am_O} {cs : List sx_Q} (hc : ∀ q ∈ cs, sx_h E q) {mt : am_Meth} {i : Instr} {len pc pc' n' sl sl' : Nat} {st st' : List Term} {Ms M' : sx_M} (h : sx_nt P cs mt i len pc st Ms Ms.length sl = some (.inl (pc', st', M', n', sl'))) :
    M'.length = n' ∧ ∀ K : am_K, K pc' (st'.map (sx_v E)) (sx_mem E M') (E.1 + n') sl' → am_nat (sx_P P sa) RO mt i len pc (st.map (sx_v E)) (sx_mem E Ms) (E.1 + Ms.length) sl K := by
  cases i with
  | invokespecial x =>
    unfold sx_nt at h
    dsimp only at h
    repeat' split at h
    all_goals first | (cases h; done) | skip
    rename_i hl _ t r hk
    cases h
    refine ⟨rfl, fun K hK => ⟨hl.1, hl.2, sx_a E t, _, by rw [List.map_cons, sx_v2 hk.1], hk.2.1, ?_, hK⟩⟩
    rw [sx_ct_s]
    exact hk.2.2
  | invokevirtual x =>
    unfold sx_nt at h
    dsimp only at h
    repeat' split at h
    all_goals first | (cases h; done) | skip
    rename_i hl _ t r _ k ty m w hy hk
    cases h
    obtain ⟨rfl, h1, h2⟩ := sx_ay_s (E := E) hy
    obtain ⟨rfl, hk1, hk2⟩ := hk
    rw [sx_cell_i (Or.inl rfl)] at h2
    refine ⟨rfl, fun K hK => ⟨hl.1, hl.2, E.1 + k, _, m, _, rfl, h2, hk1, ?_, ?_⟩⟩
    · rw [sx_ct_s]
      exact hk2
    · rw [sx_new_s, sx_cell_i (Or.inl rfl)] at hK
      exact hK
  | invokestatic x =>
    unfold sx_nt at h
    dsimp only at h
    repeat' split at h
    all_goals first | (cases h; done) | skip
    · rename_i hl hn _ a b t1 c t0 r _ _ _ m dp sp ha hb hcc _ _ k0 ty0 n0 w0 k1 ty1 n1 w1 hy0 hy1 hk
      cases h
      obtain ⟨rfl, h1, h2⟩ := sx_ay_s (E := E) hy0
      obtain ⟨rfl, h3, h4⟩ := sx_ay_s (E := E) hy1
      obtain ⟨rfl, rfl, hk1, hk2, hk3, hk4⟩ := hk
      obtain ⟨za, a1, a2, a3⟩ := sx_nn_s (E := E) hc ha
      obtain ⟨zb, b1, b2, b3⟩ := sx_nn_s (E := E) hc hb
      obtain ⟨zc, c1, c2, c3⟩ := sx_nn_s (E := E) hc hcc
      subst a3
      subst b3
      subst c3
      rw [sx_cell_i (Or.inl rfl)] at h2 h4
      refine ⟨sx_up_len, fun K hK => ⟨hl, Or.inl ⟨hn, za, zb, E.1 + k1, zc, E.1 + k0, _, n0, n1, _, _, by rw [List.map_cons, List.map_cons, List.map_cons, List.map_cons, List.map_cons, a1, b1, c1]; rfl, h2, h4, c2, b2, a2, hk1, hk2, hk3, ?_, ?_⟩⟩⟩
      · rw [sx_ct_s]
        exact hk4
      · rw [sx_up_s h3, sx_cell_i (Or.inl rfl), sx_cp_s] at hK
        exact hK
    · rename_i hl hn0 hn _ b a r hk _ ht
      cases h
      have e : (sx_d E a).1 < (sx_d E b).1 := of_decide_eq_true (sx_ts_s (E := E) hc ht)
      refine ⟨rfl, fun K hK => ⟨hl, Or.inr ⟨0, [sx_v E b, sx_v E a], _, sx_v E b, hn, rfl, ?_, hk.2.2.1, by rw [sx_ct_s]; exact hk.2.2.2, hK⟩⟩⟩
      rw [sx_v0 hk.1, sx_v0 hk.2.1]
      show some (Value.int (if _ then _ else _)) = _
      rw [if_pos e]
    · rename_i hl hn0 hn _ b a r hk _ ht
      cases h
      have e : ¬ (sx_d E a).1 < (sx_d E b).1 := of_decide_eq_false (sx_ts_s (E := E) hc ht)
      refine ⟨rfl, fun K hK => ⟨hl, Or.inr ⟨0, [sx_v E b, sx_v E a], _, sx_v E a, hn, rfl, ?_, hk.2.2.1, by rw [sx_ct_s]; exact hk.2.2.2, hK⟩⟩⟩
      rw [sx_v0 hk.1, sx_v0 hk.2.1]
      show some (Value.int (if _ then _ else _)) = _
      rw [if_neg e]
    · rename_i hl hn0 hn1 hn _ b a r hk _ ht
      cases h
      have e : (sx_d E b).1 < (sx_d E a).1 := of_decide_eq_true (sx_ts_s (E := E) hc ht)
      refine ⟨rfl, fun K hK => ⟨hl, Or.inr ⟨1, [sx_v E b, sx_v E a], _, sx_v E b, hn, rfl, ?_, hk.2.2.1, by rw [sx_ct_s]; exact hk.2.2.2, hK⟩⟩⟩
      rw [sx_v0 hk.1, sx_v0 hk.2.1]
      show some (Value.int (if _ then _ else _)) = _
      rw [if_pos e]
    · rename_i hl hn0 hn1 hn _ b a r hk _ ht
      cases h
      have e : ¬ (sx_d E b).1 < (sx_d E a).1 := of_decide_eq_false (sx_ts_s (E := E) hc ht)
      refine ⟨rfl, fun K hK => ⟨hl, Or.inr ⟨1, [sx_v E b, sx_v E a], _, sx_v E a, hn, rfl, ?_, hk.2.2.1, by rw [sx_ct_s]; exact hk.2.2.2, hK⟩⟩⟩
      rw [sx_v0 hk.1, sx_v0 hk.2.1]
      show some (Value.int (if _ then _ else _)) = _
      rw [if_neg e]
    · rename_i hl hn0 hn1 hn2 hn _ b a r _ _ u w hu hw hk
      cases h
      rw [sx_cl_s hu, sx_cl_s hw]
      exact ⟨rfl, fun K hK => ⟨hl, Or.inr ⟨2, [.long w, .long u], _, _, hn, rfl, rfl, hk.1, by rw [sx_ct_s]; exact hk.2, hK⟩⟩⟩
    · rename_i hl hn0 hn1 hn2 hn3 hn _ a r _ u hu hk
      cases h
      rw [sx_cl_s hu]
      exact ⟨rfl, fun K hK => ⟨hl, Or.inr ⟨3, [.long u], _, _, hn, rfl, rfl, hk.1, by rw [sx_ct_s]; exact hk.2, hK⟩⟩⟩
  | _ => cases h
/-- an end: what is told -/
def sx_rt (cs : List sx_Q) (mt : am_Meth) (i : Instr) (len : Nat) (st : List Term) : Option (Option Term) := match i with
  | .return_ => if len = 1 ∧ st = [] ∧ mt.2.2.2.1 = none then some none else none
  | .ireturn => if len = 1 then (match st with
    | [t] => (match mt.2.2.2.1 with
      | some ty => if sx_k t = 0 then (if ty = .int then some (some t) else (match sx_cv cs t with
        | some z => if narrow ty (.int z) = .int z then some (some (.int z)) else none
        | none => none)) else none
      | none => none)
    | _ => none) else none
  | .lreturn => if len = 1 then (match st with
    | [t] => if sx_k t = 1 ∧ mt.2.2.2.1 = some .long then some (some t) else none
    | _ => none) else none
  | .areturn => if len = 1 then (match st with
    | [t] => (match mt.2.2.2.1 with
      | some ty => if (sx_k t = 2 ∨ sx_k t = 3) ∧ sx_isr ty = true then some (some t) else none
      | none => none)
    | _ => none) else none
  | _ => none
theorem sx_rt_s {E : sx_E} {cs : List sx_Q} (hc : ∀ q ∈ cs, sx_h E q) {mt : am_Meth} {i : Instr} {len : Nat} {st : List Term} {o : Option Term} (h : sx_rt cs mt i len st = some o) (Q : Option Value → Prop) (hQ : Q (o.map (sx_v E))) : am_ret mt i len (st.map (sx_v E)) Q := by
  cases i with
  | return_ =>
    unfold sx_rt at h
    dsimp only at h
    split at h
    · rename_i hl
      cases h
      exact ⟨hl.1, by rw [hl.2.1]; rfl, hl.2.2, hQ⟩
    · cases h
  | ireturn =>
    unfold sx_rt at h
    dsimp only at h
    repeat' split at h
    all_goals first | (cases h; done) | skip
    · rename_i hl _ t _ ty hty hk he
      cases h
      subst he
      refine ⟨hl, (sx_d E t).1, .int, by rw [List.map_cons, sx_v0 hk]; rfl, hty, rfl, ?_⟩
      rw [Option.map_some, sx_v0 hk] at hQ
      exact hQ
    · rename_i hl _ t _ ty hty hk he _ z hz hn
      cases h
      refine ⟨hl, z, ty, by rw [List.map_cons, sx_v0 hk, (sx_cv_s hc t z hz).2]; rfl, hty, hn, hQ⟩
  | lreturn =>
    unfold sx_rt at h
    dsimp only at h
    repeat' split at h
    all_goals first | (cases h; done) | skip
    rename_i hl _ t hk
    cases h
    refine ⟨hl, (sx_d E t).2, by rw [List.map_cons, sx_v1 hk.1]; rfl, hk.2, ?_⟩
    rw [Option.map_some, sx_v1 hk.1] at hQ
    exact hQ
  | areturn =>
    unfold sx_rt at h
    dsimp only at h
    repeat' split at h
    all_goals first | (cases h; done) | skip
    rename_i hl _ t _ ty hty hk
    cases h
    refine ⟨hl, sx_v E t, ty, rfl, hty, ?_, ?_, hQ⟩
    · obtain ⟨-, h2⟩ := hk
      unfold sx_isr at h2
      cases ty <;> first | (cases h2; done) | exact Or.inl ⟨_, rfl⟩ | exact Or.inr ⟨_, rfl⟩
    · rcases hk.1 with h1 | h1
      · exact Or.inr ⟨_, sx_v2 h1⟩
      · exact Or.inl (sx_v3 h1)
  | _ => cases h
