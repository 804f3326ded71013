section
/-! MEMORY: a world as a map from addresses to cells (over the kit's va_P, va_D), and the kit's rows over it. DRAFT, never compiled yet (no statement stood when it was written). -/
abbrev mM : Type := Nat → Option va_E
def mk_set (M : mM) (a : Nat) (e : va_E) : mM := fun q => if q = a then some e else M q
def mk_rel (M : mM) (ws : va_W) : Prop := ∀ (a : Nat) (e : va_E), M a = some e ↔ ∃ k : Nat, ws[k]? = some (a, e)
def mk_W (D : va_G) (cl : List vw_C) (A : Nat → Prop) (M : mM) (H : Heap) : Prop := ∃ ws : va_W, mk_rel M ws ∧ va_P D cl ws H ∧ va_D A ws
def mk_A (M : mM) (sz : Nat) : Nat → Prop := fun q => M q ≠ none ∨ sz ≤ q
theorem mk_same {M : mM} {a : Nat} {e : va_E} : mk_set M a e a = some e := by simp [mk_set]
theorem mk_ne {M : mM} {a b : Nat} {e : va_E} (h : b ≠ a) : mk_set M a e b = M b := by simp [mk_set, h]
theorem mk_rel_set {M : mM} {ws : va_W} {A : Nat → Prop} {a p : Nat} {e0 e : va_E} (h : mk_rel M ws) (hD : va_D A ws) (hp : ws[p]? = some (a, e0)) : mk_rel (mk_set M a e) (ws.set p (a, e)) := by
  have hl := (List.getElem?_eq_some_iff.mp hp).1
  intro b x
  by_cases hb : b = a
  · subst hb
    rw [mk_same]
    constructor
    · intro hx
      cases hx
      exact ⟨p, List.getElem?_set_self hl⟩
    · rintro ⟨k, hk⟩
      by_cases hkp : k = p
      · subst hkp
        rw [List.getElem?_set_self hl] at hk
        cases hk
        rfl
      · rw [List.getElem?_set_ne (Ne.symm hkp)] at hk
        exact absurd (hD.1 k p _ _ hk hp rfl) hkp
  · rw [mk_ne hb, h b x]
    constructor
    · rintro ⟨k, hk⟩
      have hkp : k ≠ p := fun z => by
        subst z
        rw [hp] at hk
        cases hk
        exact hb rfl
      exact ⟨k, by rw [List.getElem?_set_ne (Ne.symm hkp)]; exact hk⟩
    · rintro ⟨k, hk⟩
      by_cases hkp : k = p
      · subst hkp
        rw [List.getElem?_set_self hl] at hk
        cases hk
        exact absurd rfl hb
      · rw [List.getElem?_set_ne (Ne.symm hkp)] at hk
        exact ⟨k, hk⟩
theorem mk_rel_push {M : mM} {ws : va_W} {A : Nat → Prop} {q : Nat} {e : va_E} (h : mk_rel M ws) (hD : va_D A (ws ++ [(q, e)])) : mk_rel (mk_set M q e) (ws ++ [(q, e)]) ∧ M q = none := by
  have hlast : (ws ++ [(q, e)])[ws.length]? = some (q, e) := by simp
  have hno : ∀ (k : Nat) (x : va_E), ws[k]? ≠ some (q, x) := by
    intro k x hk
    have hkl := (List.getElem?_eq_some_iff.mp hk).1
    have h1 : (ws ++ [(q, e)])[k]? = some (q, x) := by rw [List.getElem?_append_left hkl]; exact hk
    have h2 := hD.1 k ws.length _ _ h1 hlast rfl
    omega
  have hn : M q = none := by
    cases hq : M q with
    | none => rfl
    | some x =>
      obtain ⟨k, hk⟩ := (h q x).mp hq
      exact absurd hk (hno k x)
  refine ⟨?_, hn⟩
  intro b x
  by_cases hb : b = q
  · subst hb
    rw [mk_same]
    constructor
    · intro hx
      cases hx
      exact ⟨_, hlast⟩
    · rintro ⟨k, hk⟩
      by_cases hkl : k < ws.length
      · rw [List.getElem?_append_left hkl] at hk
        exact absurd hk (hno k x)
      · rw [List.getElem?_append_right (by omega)] at hk
        have hz : k - ws.length < 1 := (List.getElem?_eq_some_iff.mp hk).1
        rw [show k - ws.length = 0 by omega] at hk
        cases hk
        rfl
  · rw [mk_ne hb, h b x]
    constructor
    · rintro ⟨k, hk⟩
      have hkl := (List.getElem?_eq_some_iff.mp hk).1
      exact ⟨k, by rw [List.getElem?_append_left hkl]; exact hk⟩
    · rintro ⟨k, hk⟩
      by_cases hkl : k < ws.length
      · rw [List.getElem?_append_left hkl] at hk
        exact ⟨k, hk⟩
      · rw [List.getElem?_append_right (by omega)] at hk
        have hz : k - ws.length < 1 := (List.getElem?_eq_some_iff.mp hk).1
        rw [show k - ws.length = 0 by omega] at hk
        cases hk
        exact absurd rfl hb
/-- the world's cells are in A, and lie below the heap's end -/
theorem mk_W.dom {D : va_G} {cl : List vw_C} {A : Nat → Prop} {M : mM} {H : Heap} (h : mk_W D cl A M H) {a : Nat} (ha : M a ≠ none) : A a ∧ a < H.size := by
  obtain ⟨ws, hr, hP, hD⟩ := h
  cases hM : M a with
  | none => exact absurd hM ha
  | some e =>
    obtain ⟨k, hk⟩ := (hr a e).mp hM
    exact ⟨hD.2 k _ hk, (hP k _ hk).lt⟩
theorem mk_W.weaken {D : va_G} {cl : List vw_C} {A B : Nat → Prop} {M : mM} {H : Heap} (h : mk_W D cl A M H) (hAB : ∀ a, M a ≠ none → A a → B a) : mk_W D cl B M H := by
  obtain ⟨ws, hr, hP, hD⟩ := h
  exact ⟨ws, hr, hP, hD.weaken (fun k q hk hA => hAB q.1 (by rw [(hr q.1 q.2).mpr ⟨k, hk⟩]; exact fun z => by cases z) hA)⟩
theorem mk_W.kept {D : va_G} {cl : List vw_C} {A : Nat → Prop} {M : mM} {H H1 : Heap} (h : mk_W D cl A M H) (hq : ∀ a, M a ≠ none → H1[a]? = H[a]?) : mk_W D cl A M H1 := by
  obtain ⟨ws, hr, hP, hD⟩ := h
  exact ⟨ws, hr, hP.kept (fun k q hk => hq q.1 (by rw [(hr q.1 q.2).mpr ⟨k, hk⟩]; exact fun z => by cases z)), hD⟩
theorem mk_W.self {D : va_G} {cl : List vw_C} {A : Nat → Prop} {M : mM} {H : Heap} {sz : Nat} (h : mk_W D cl A M H) : mk_W D cl (mk_A M sz) M H := h.weaken (fun _ ha _ => Or.inl ha)
theorem mk_W.any {D : va_G} {cl : List vw_C} {A : Nat → Prop} {M : mM} {H : Heap} (h : mk_W D cl A M H) : mk_W D cl (fun _ => True) M H := h.weaken (fun _ _ _ => trivial)
/-- nothing is there -/
theorem mk_W.nil {D : va_G} {cl : List vw_C} {A : Nat → Prop} {H : Heap} : mk_W D cl A (fun _ => none) H := ⟨[], fun a e => by simp, fun k q h => by simp at h, fun i j p q h => by simp at h, fun k q h => by simp at h⟩
/-- the start of a method's world: its memory, at a heap of a size -/
def mk_B (D : va_G) (cl : List vw_C) (tys : List (ClassId × FieldType)) (M : mM) (sz : Nat) : State → Prop := fun U => U.heap.size = sz ∧ mk_W D cl (fun _ => True) M U.heap ∧ va_K D cl tys U
/-- the world behind it -/
def mk_E (D : va_G) (cl : List vw_C) (tys : List (ClassId × FieldType)) (M : mM) (sz : Nat) : mM → State → Prop := fun M' t => mk_W D cl (mk_A M sz) M' t.heap ∧ va_K D cl tys t
abbrev mk_Qi (D : va_G) (cl : List vw_C) (tys : List (ClassId × FieldType)) (M : mM) (sz : Nat) (post : Int32 → mM → Prop) : Array Value → State → Outcome → State → Prop := va_Qi post (mk_E D cl tys M sz) (mk_A M sz)
abbrev mk_Ql (D : va_G) (cl : List vw_C) (tys : List (ClassId × FieldType)) (M : mM) (sz : Nat) (post : Int64 → mM → Prop) : Array Value → State → Outcome → State → Prop := va_Ql post (mk_E D cl tys M sz) (mk_A M sz)
abbrev mk_Qv (D : va_G) (cl : List vw_C) (tys : List (ClassId × FieldType)) (M : mM) (sz : Nat) (post : mM → Prop) : Array Value → State → Outcome → State → Prop := va_Qv post (mk_E D cl tys M sz) (mk_A M sz)
abbrev mk_Qr (D : va_G) (cl : List vw_C) (tys : List (ClassId × FieldType)) (M : mM) (sz : Nat) (post : Nat → mM → Prop) : Array Value → State → Outcome → State → Prop := va_Qr (fun u : Nat × mM => post u.1 u.2) (fun u a t => a = u.1 ∧ mk_E D cl tys M sz u.2 t) (mk_A M sz)
/-- a callee's cells are the caller's -/
theorem mk_in {D : va_G} {cl : List vw_C} {A0 : Nat → Prop} {M : mM} {H0 H : Heap} {locs : List Loc} (hW : mk_W D cl A0 M H) (hS : va_S A0 H0 H locs) (hA : ∀ q, H0.size ≤ q → A0 q) : ∀ q, mk_A M H.size q → A0 q := by
  intro q h
  rcases h with h | h
  · exact (hW.dom h).1
  · exact hA q (Nat.le_trans hS.1 h)
theorem mk_back {D : va_G} {cl : List vw_C} {A0 : Nat → Prop} {M M' : mM} {H0 H H1 : Heap} {locs : List Loc} (hW : mk_W D cl A0 M H) (hS : va_S A0 H0 H locs) (hA : ∀ q, H0.size ≤ q → A0 q) (h1 : mk_W D cl (mk_A M H.size) M' H1) : mk_W D cl A0 M' H1 := h1.weaken (fun q _ hq => mk_in hW hS hA q hq)
theorem mk_pre {D : va_G} {cl : List vw_C} {tys : List (ClassId × FieldType)} {A : Nat → Prop} {M : mM} {H : Heap} {s : State} (hW : mk_W D cl A M H) (hK : va_K D cl tys s) (As : List Value) : PreS s H (va_Pc As (mk_B D cl tys M H.size)) As :=
  ⟨fun a U g mk q => by obtain ⟨q0, q1, qP, qK⟩ := q; exact ⟨q0, q1, qP, va_K.moved (u := U) (U := U.calling g mk a) (Vm.Alike.refl U.vm) qK⟩, fun U hU hWm => ⟨rfl, by rw [hU], by rw [hU]; exact hW.any, va_K.moved hWm.alike hK⟩⟩
theorem mk_preV {D : va_G} {cl : List vw_C} {tys : List (ClassId × FieldType)} {A : Nat → Prop} {M : mM} {H : Heap} {s : State} {a ci : Nat} {q : vw_C} {fs : List Value} (hW : mk_W D cl A M H) (hK : va_K D cl tys s) (he : M a = some (.inr (ci, fs))) (hc : cl[ci]? = some q) (As : List Value) : PreV s H q.1 a (va_Pc (.ref a :: As) (mk_B D cl tys M H.size)) As := by
  obtain ⟨ws, hr, hP, hD⟩ := id hW
  obtain ⟨k, hk⟩ := (hr a _).mp he
  exact ⟨(mk_pre hW hK (.ref a :: As)).1, va_recv hK hP hc hk, (mk_pre hW hK (.ref a :: As)).2⟩
end
section
/-! AM: an abstract machine: frames as kit rows have them (pc, listed locals, stack), memory as a map; one instruction at a time. Nothing here speaks of the class. -/
abbrev am_E : Type := (Nat × vp_A) ⊕ (Nat × List Value)
abbrev am_H : Type := Nat → Option am_E
abbrev am_L : Type := List (Nat × Value)
def am_set (M : am_H) (a : Nat) (e : am_E) : am_H := fun q => if q = a then some e else M q
theorem am_same {M : am_H} {a : Nat} {e : am_E} : am_set M a e a = some e := by simp [am_set]
theorem am_ne {M : am_H} {a b : Nat} {e : am_E} (h : b ≠ a) : am_set M a e b = M b := by simp [am_set, h]
def am_ld (i : Nat) (lv : am_L) : Option Value := (lv.find? (fun q => q.1 == i)).map (fun q => q.2)
theorem am_ld_spec {i : Nat} {lv : am_L} {v : Value} (h : am_ld i lv = some v) : ∃ k : Nat, lv[k]? = some (i, v) := by
  unfold am_ld at h
  obtain ⟨q, hq, rfl⟩ := Option.map_eq_some_iff.mp h
  have h1 := List.find?_some hq
  have h2 := List.mem_of_find?_eq_some hq
  obtain ⟨k, hk⟩ := List.getElem?_of_mem h2
  exact ⟨k, by rw [hk, ← show q.1 = i by simpa using h1]⟩
theorem am_ld_at {ls : Array Slot} {nL i : Nat} {lv : am_L} {v : Value} (hl : lv_has ls nL lv) (h : am_ld i lv = some v) : ls[i]? = some (.val v) := by
  obtain ⟨k, hk⟩ := am_ld_spec h
  exact lv_at hl k hk
/-- what an instruction pushes that takes nothing from the stack -/
def am_li (v : Option Value) : Option Value := match v with
  | some (.int x) => some (.int x)
  | _ => none
def am_ll (v : Option Value) : Option Value := match v with
  | some (.long x) => some (.long x)
  | _ => none
def am_la (v : Option Value) : Option Value := match v with
  | some (.ref x) => some (.ref x)
  | some .null => some .null
  | _ => none
theorem am_li_s {o : Option Value} {v : Value} (h : am_li o = some v) : ∃ x : Int32, o = some (.int x) ∧ v = .int x := by
  unfold am_li at h
  split at h
  · exact ⟨_, rfl, by cases h; rfl⟩
  · cases h
theorem am_ll_s {o : Option Value} {v : Value} (h : am_ll o = some v) : ∃ x : Int64, o = some (.long x) ∧ v = .long x := by
  unfold am_ll at h
  split at h
  · exact ⟨_, rfl, by cases h; rfl⟩
  · cases h
theorem am_la_s {o : Option Value} {v : Value} (h : am_la o = some v) : (∃ x : Nat, o = some (.ref x) ∧ v = .ref x) ∨ (o = some .null ∧ v = .null) := by
  unfold am_la at h
  split at h
  · exact Or.inl ⟨_, rfl, by cases h; rfl⟩
  · exact Or.inr ⟨rfl, by cases h; rfl⟩
  · cases h
def am_push (cst : Nat → Option Value) (i : Instr) (lv : am_L) : Option (Nat × Value) := match i with
  | .iconst n => some (1, .int (Int32.ofInt n))
  | .bipush n => some (2, .int (Int8.ofInt n).toInt32)
  | .sipush n => some (3, .int (Int16.ofInt n).toInt32)
  | .lconst n => some (1, .long (Int64.ofNat (n : Nat)))
  | .aconst_null => some (1, .null)
  | .iload_n k => (am_li (am_ld k lv)).map (fun v => (1, v))
  | .iload k => (am_li (am_ld k lv)).map (fun v => (2, v))
  | .lload_n k => (am_ll (am_ld k lv)).map (fun v => (1, v))
  | .lload k => (am_ll (am_ld k lv)).map (fun v => (2, v))
  | .aload_n k => (am_la (am_ld k lv)).map (fun v => (1, v))
  | .aload k => (am_la (am_ld k lv)).map (fun v => (2, v))
  | .ldc k => (am_li (cst k)).map (fun v => (2, v))
  | .ldc_w k => (am_li (cst k)).map (fun v => (3, v))
  | .ldc2_w k => (am_ll (cst k)).map (fun v => (3, v))
  | _ => none
/-- what an instruction makes of the stack alone (all of length 1) -/
def am_ii (f : Int32 → Int32 → Value) (st : List Value) : Option (List Value) := match st with
  | .int y :: .int x :: r => some (f x y :: r)
  | _ => none
def am_jj (f : Int64 → Int64 → Value) (st : List Value) : Option (List Value) := match st with
  | .long y :: .long x :: r => some (f x y :: r)
  | _ => none
def am_ij (f : Int64 → Int32 → Value) (st : List Value) : Option (List Value) := match st with
  | .int y :: .long x :: r => some (f x y :: r)
  | _ => none
def am_i1 (f : Int32 → Value) (st : List Value) : Option (List Value) := match st with
  | .int x :: r => some (f x :: r)
  | _ => none
def am_j1 (f : Int64 → Value) (st : List Value) : Option (List Value) := match st with
  | .long x :: r => some (f x :: r)
  | _ => none
theorem am_ii_s {f : Int32 → Int32 → Value} {st st' : List Value} (h : am_ii f st = some st') : ∃ y x r, st = .int y :: .int x :: r ∧ st' = f x y :: r := by
  unfold am_ii at h
  split at h
  · exact ⟨_, _, _, rfl, by cases h; rfl⟩
  · cases h
theorem am_jj_s {f : Int64 → Int64 → Value} {st st' : List Value} (h : am_jj f st = some st') : ∃ y x r, st = .long y :: .long x :: r ∧ st' = f x y :: r := by
  unfold am_jj at h
  split at h
  · exact ⟨_, _, _, rfl, by cases h; rfl⟩
  · cases h
theorem am_ij_s {f : Int64 → Int32 → Value} {st st' : List Value} (h : am_ij f st = some st') : ∃ y x r, st = .int y :: .long x :: r ∧ st' = f x y :: r := by
  unfold am_ij at h
  split at h
  · exact ⟨_, _, _, rfl, by cases h; rfl⟩
  · cases h
theorem am_i1_s {f : Int32 → Value} {st st' : List Value} (h : am_i1 f st = some st') : ∃ x r, st = .int x :: r ∧ st' = f x :: r := by
  unfold am_i1 at h
  split at h
  · exact ⟨_, _, rfl, by cases h; rfl⟩
  · cases h
theorem am_j1_s {f : Int64 → Value} {st st' : List Value} (h : am_j1 f st = some st') : ∃ x r, st = .long x :: r ∧ st' = f x :: r := by
  unfold am_j1 at h
  split at h
  · exact ⟨_, _, rfl, by cases h; rfl⟩
  · cases h
def am_nz (i : Instr) (st : List Value) : Prop := match i with
  | .idiv | .irem => ∃ y r, st = Value.int y :: r ∧ ¬ y = 0
  | .lrem | .ldiv => ∃ y r, st = Value.long y :: r ∧ ¬ y = 0
  | _ => True
def am_dup (st : List Value) : Option (List Value) := match st with
  | v :: r => if v.category = 1 then some (v :: v :: r) else none
  | _ => none
def am_pop (st : List Value) : Option (List Value) := match st with
  | v :: r => if v.category = 1 then some r else none
  | _ => none
def am_dup2 (st : List Value) : Option (List Value) := match st with
  | v :: r => if v.category = 2 then some (v :: v :: r) else match r with
    | w :: r2 => if v.category = 1 ∧ w.category = 1 then some (v :: w :: v :: w :: r2) else none
    | _ => none
  | _ => none
def am_op (i : Instr) (st : List Value) : Option (List Value) := match i with
  | .iadd => am_ii (fun x y => .int (x + y)) st
  | .isub => am_ii (fun x y => .int (x - y)) st
  | .imul => am_ii (fun x y => .int (x * y)) st
  | .iand => am_ii (fun x y => .int (x &&& y)) st
  | .ior => am_ii (fun x y => .int (x ||| y)) st
  | .ixor => am_ii (fun x y => .int (x ^^^ y)) st
  | .idiv => am_ii (fun x y => .int (x / y)) st
  | .irem => am_ii (fun x y => .int (x - x / y * y)) st
  | .ishl => am_ii (fun x y => .int (x <<< (y &&& 31))) st
  | .ishr => am_ii (fun x y => .int (x >>> (y &&& 31))) st
  | .iushr => am_ii (fun x y => .int (x.toUInt32 >>> (y.toUInt32 &&& Int32.toUInt32 31)).toInt32) st
  | .ineg => am_i1 (fun x => .int (-x)) st
  | .i2l => am_i1 (fun x => .long x.toInt64) st
  | .l2i => am_j1 (fun x => .int x.toInt32) st
  | .lneg => am_j1 (fun x => .long (-x)) st
  | .ladd => am_jj (fun x y => .long (x + y)) st
  | .lsub => am_jj (fun x y => .long (x - y)) st
  | .lmul => am_jj (fun x y => .long (x * y)) st
  | .land => am_jj (fun x y => .long (x &&& y)) st
  | .lor => am_jj (fun x y => .long (x ||| y)) st
  | .lxor => am_jj (fun x y => .long (x ^^^ y)) st
  | .lrem => am_jj (fun x y => .long (x - x / y * y)) st
  | .lcmp => am_jj (fun x y => .int (lg_cmp x y)) st
  | .lshl => am_ij (fun x y => .long (x <<< (y.toInt64 &&& 63))) st
  | .lshr => am_ij (fun x y => .long (x >>> (y.toInt64 &&& 63))) st
  | .lushr => am_ij (fun x y => .long (x.toUInt64 >>> (y.toInt64.toUInt64 &&& Int64.toUInt64 63)).toInt64) st
  | .dup => am_dup st
  | .pop => am_pop st
  | .dup2 => am_dup2 st
  | _ => none
/-- what an instruction makes of locals (and takes from the stack); of length len, in a frame of nL locals -/
def am_st1 (i : Nat) (v : Value) (lv : am_L) : am_L := (i, v) :: lv.filter (fun q => !(q.1 == i) && !(q.1 + 1 == i && q.2.category == 2))
def am_st2 (i : Nat) (v : Value) (lv : am_L) : am_L := (i, v) :: lv.filter (fun q => !(q.1 == i) && (!(q.1 == i + 1) && !(q.1 + 1 == i && q.2.category == 2)))
def am_si (i : Nat) (lv : am_L) (st : List Value) : Option (am_L × List Value) := match st with
  | .int x :: r => some (am_st1 i (.int x) lv, r)
  | _ => none
def am_sj (i : Nat) (lv : am_L) (st : List Value) : Option (am_L × List Value) := match st with
  | .long x :: r => some (am_st2 i (.long x) lv, r)
  | _ => none
def am_sa (i : Nat) (lv : am_L) (st : List Value) : Option (am_L × List Value) := match st with
  | .ref x :: r => some (am_st1 i (.ref x) lv, r)
  | .null :: r => some (am_st1 i .null lv, r)
  | _ => none
theorem am_si_s {i : Nat} {lv : am_L} {st : List Value} {o : am_L × List Value} (h : am_si i lv st = some o) : ∃ x r, st = .int x :: r ∧ o = (am_st1 i (.int x) lv, r) := by
  unfold am_si at h
  split at h
  · exact ⟨_, _, rfl, by cases h; rfl⟩
  · cases h
theorem am_sj_s {i : Nat} {lv : am_L} {st : List Value} {o : am_L × List Value} (h : am_sj i lv st = some o) : ∃ x r, st = .long x :: r ∧ o = (am_st2 i (.long x) lv, r) := by
  unfold am_sj at h
  split at h
  · exact ⟨_, _, rfl, by cases h; rfl⟩
  · cases h
theorem am_sa_s {i : Nat} {lv : am_L} {st : List Value} {o : am_L × List Value} (h : am_sa i lv st = some o) : (∃ x r, st = .ref x :: r ∧ o = (am_st1 i (.ref x) lv, r)) ∨ ∃ r, st = .null :: r ∧ o = (am_st1 i .null lv, r) := by
  unfold am_sa at h
  split at h
  · exact Or.inl ⟨_, _, rfl, by cases h; rfl⟩
  · exact Or.inr ⟨_, rfl, by cases h; rfl⟩
  · cases h
def am_inc (i : Nat) (n : Int) (lv : am_L) (st : List Value) : Option (am_L × List Value) := match am_ld i lv with
  | some (.int x) => some (am_st1 i (.int (x + Int32.ofInt n)) lv, st)
  | _ => none
def am_sto (i : Instr) (lv : am_L) (st : List Value) : Option (Nat × Nat × am_L × List Value) := match i with
  | .istore_n k => (am_si k lv st).map (fun o => (1, (k : Nat) + 1, o))
  | .istore k => (am_si k lv st).map (fun o => (2, k + 1, o))
  | .lstore_n k => (am_sj k lv st).map (fun o => (1, (k : Nat) + 2, o))
  | .lstore k => (am_sj k lv st).map (fun o => (2, k + 2, o))
  | .astore_n k => (am_sa k lv st).map (fun o => (1, (k : Nat) + 1, o))
  | .astore k => (am_sa k lv st).map (fun o => (2, k + 1, o))
  | .iinc k n => (am_inc k n lv st).map (fun o => (3, k + 1, o))
  | _ => none
/-- branches -/
def am_tg (pc : Nat) (off : Int) (K : Nat → Prop) : Prop := ∃ t : Nat, (pc : Int) + off = (t : Int) ∧ K t
def am_c0 (c : Jvm.ClassFile.Cond) (x : Int32) : Prop := match c with
  | .eq => x = 0
  | .ne => ¬ x = 0
  | .lt => x < 0
  | .ge => 0 ≤ x
  | .gt => 0 < x
  | .le => x ≤ 0
def am_c2 (c : Jvm.ClassFile.Cond) (x y : Int32) : Prop := match c with
  | .eq => x = y
  | .ne => ¬ x = y
  | .lt => x < y
  | .ge => y ≤ x
  | .gt => y < x
  | .le => x ≤ y
def am_br (i : Instr) (len pc : Nat) (st : List Value) (K : Nat → List Value → Prop) : Prop := match i with
  | .goto off => len = 3 ∧ am_tg pc off (fun t => K t st)
  | .ifCond c off => len = 3 ∧ ∃ x r, st = Value.int x :: r ∧ am_tg pc off (fun t => (am_c0 c x → K t r) ∧ (¬ am_c0 c x → K (pc + 3) r))
  | .if_icmp c off => len = 3 ∧ ∃ y x r, st = Value.int y :: Value.int x :: r ∧ am_tg pc off (fun t => (am_c2 c x y → K t r) ∧ (¬ am_c2 c x y → K (pc + 3) r))
  | .ifnull off => len = 3 ∧ ((∃ x r, st = Value.ref x :: r ∧ K (pc + 3) r) ∨ ∃ r, st = Value.null :: r ∧ am_tg pc off (fun t => K t r))
  | .ifnonnull off => len = 3 ∧ ((∃ x r, st = Value.ref x :: r ∧ am_tg pc off (fun t => K t r)) ∨ ∃ r, st = Value.null :: r ∧ K (pc + 3) r)
  | .tableswitch dflt lo hi offs => ∃ x r, st = Value.int x :: r ∧ ((x.toInt < lo ∨ hi < x.toInt) → am_tg pc dflt (fun t => K t r)) ∧ (¬ x.toInt < lo → ¬ hi < x.toInt → ∃ off, offs[(x.toInt - lo).toNat]? = some off ∧ am_tg pc off (fun t => K t r))
  | .lookupswitch dflt ps => ∃ x r, st = Value.int x :: r ∧ (ps.toList.zip (ps.toList.drop 1)).all (fun (a, next) => a.1 < next.1) = true ∧ am_tg pc (Op.lookupswitch.offset ps.toList dflt x.toInt) (fun t => K t r)
  | _ => False
end
section
/-! AM's single instructions are the machine's: push, stack, locals, branches -/
section AMW
variable {p : Program} {l : Launch} {e : Env} {R : Room} {s : State} {m : MethodId} {args : Array Value} {below : List Frame} {meth : Method} {c : Code} {H : Heap} {locs : List Loc} {cells slots : Nat} {Q : State → Prop}
variable {cc : ByteArray} {pc : Nat} {ls : Array Slot}
def am_cstOk (own : String) (cst : Nat → Option Value) (args : Array Value) (s : State) : Prop := ∀ (k : Nat) (v : Value), cst k = some v → (∃ x : Int32, v = .int x ∧ (Jvm.Cond.constant own k x).before args s = true) ∨ (∃ x : Int64, v = .long x ∧ (Jvm.Cond.constantLong own k x).before args s = true)
theorem am_mp {α β : Type} {o : Option α} {f : α → β} {y : β} (h : o.map f = some y) : ∃ x, o = some x ∧ f x = y := Option.map_eq_some_iff.mp h
theorem am_push_W (hx : p.tables.exec = Jvm.exec) (hb : c.code = cc) {cst : Nat → Option Value} {own : String} (hown : s.vm.findClass own = some m.cls) (hcst : am_cstOk own cst args s) {i : Instr} {lv : am_L} {len nL : Nat} {v : Value} (h : am_push cst i lv = some (len, v)) (hd : decode cc pc = .ok (i, len)) (hl : lv_has ls nL lv) {st : List Value}
    (k : W p l e R s m args below meth c H locs cells slots Q (F0 m (pc + len) ls (v :: st))) : W p l e R s m args below meth c H locs cells slots Q (F0 m pc ls st) := by
  cases i with
  | iconst n => cases h; exact lv_iconst hx hb hd rfl k
  | bipush n => cases h; exact lv_bipush hx hb hd rfl k
  | sipush n => cases h; exact lv_sipush hx hb hd rfl k
  | lconst n => cases h; exact lv_lconst hx hb hd rfl k
  | aconst_null => cases h; exact lv_null hx hb hd k
  | iload_n q =>
    obtain ⟨w, h1, h2⟩ := am_mp h
    obtain ⟨x, h3, rfl⟩ := am_li_s h1
    cases h2
    exact lv_iload_n hx hb hd rfl (am_ld_at hl h3) k
  | iload q =>
    obtain ⟨w, h1, h2⟩ := am_mp h
    obtain ⟨x, h3, rfl⟩ := am_li_s h1
    cases h2
    exact lv_iload hx hb hd (am_ld_at hl h3) k
  | lload_n q =>
    obtain ⟨w, h1, h2⟩ := am_mp h
    obtain ⟨x, h3, rfl⟩ := am_ll_s h1
    cases h2
    exact lv_lload_n hx hb hd rfl (am_ld_at hl h3) k
  | lload q =>
    obtain ⟨w, h1, h2⟩ := am_mp h
    obtain ⟨x, h3, rfl⟩ := am_ll_s h1
    cases h2
    exact lv_lload hx hb hd (am_ld_at hl h3) k
  | aload_n q =>
    obtain ⟨w, h1, h2⟩ := am_mp h
    cases h2
    rcases am_la_s h1 with ⟨x, h3, rfl⟩ | ⟨h3, rfl⟩
    · exact lv_aload_n hx hb hd rfl (am_ld_at hl h3) k
    · exact lv_aload_nN hx hb hd rfl (am_ld_at hl h3) k
  | aload q =>
    obtain ⟨w, h1, h2⟩ := am_mp h
    cases h2
    rcases am_la_s h1 with ⟨x, h3, rfl⟩ | ⟨h3, rfl⟩
    · exact lv_aload hx hb hd (am_ld_at hl h3) k
    · exact lv_aloadN hx hb hd (am_ld_at hl h3) k
  | ldc q =>
    obtain ⟨w, h1, h2⟩ := am_mp h
    obtain ⟨x, h3, rfl⟩ := am_li_s h1
    cases h2
    rcases hcst q _ h3 with ⟨y, h4, h5⟩ | ⟨y, h4, h5⟩
    · cases h4
      exact lv_ldc hx hb hown h5 hd k
    · cases h4
  | ldc_w q =>
    obtain ⟨w, h1, h2⟩ := am_mp h
    obtain ⟨x, h3, rfl⟩ := am_li_s h1
    cases h2
    rcases hcst q _ h3 with ⟨y, h4, h5⟩ | ⟨y, h4, h5⟩
    · cases h4
      exact lv_ldcw hx hb hown h5 hd k
    · cases h4
  | ldc2_w q =>
    obtain ⟨w, h1, h2⟩ := am_mp h
    obtain ⟨x, h3, rfl⟩ := am_ll_s h1
    cases h2
    rcases hcst q _ h3 with ⟨y, h4, h5⟩ | ⟨y, h4, h5⟩
    · cases h4
    · cases h4
      exact lv_ldc2 hx hb hown h5 hd k
  | _ => cases h
theorem am_op_W (hx : p.tables.exec = Jvm.exec) (hb : c.code = cc) {i : Instr} {st st' : List Value} (h : am_op i st = some st') (hz : am_nz i st) (hd : decode cc pc = .ok (i, 1))
    (k : W p l e R s m args below meth c H locs cells slots Q (F0 m (pc + 1) ls st')) : W p l e R s m args below meth c H locs cells slots Q (F0 m pc ls st) := by
  cases i with
  | iadd => obtain ⟨y, x, r, rfl, rfl⟩ := am_ii_s h; exact lv_iadd hx hb hd k
  | isub => obtain ⟨y, x, r, rfl, rfl⟩ := am_ii_s h; exact lv_isub hx hb hd k
  | imul => obtain ⟨y, x, r, rfl, rfl⟩ := am_ii_s h; exact lv_imul hx hb hd k
  | iand => obtain ⟨y, x, r, rfl, rfl⟩ := am_ii_s h; exact lv_iand hx hb hd k
  | ior => obtain ⟨y, x, r, rfl, rfl⟩ := am_ii_s h; exact lv_ior hx hb hd k
  | ixor => obtain ⟨y, x, r, rfl, rfl⟩ := am_ii_s h; exact lv_ixor hx hb hd k
  | ishl => obtain ⟨y, x, r, rfl, rfl⟩ := am_ii_s h; exact lv_ishl hx hb hd k
  | ishr => obtain ⟨y, x, r, rfl, rfl⟩ := am_ii_s h; exact lv_ishr hx hb hd k
  | iushr => obtain ⟨y, x, r, rfl, rfl⟩ := am_ii_s h; exact lv_iushr hx hb hd rfl k
  | idiv =>
    obtain ⟨y, x, r, rfl, rfl⟩ := am_ii_s h
    obtain ⟨y2, r2, h1, h2⟩ := hz
    cases h1
    exact lv_idiv hx hb hd h2 k
  | irem =>
    obtain ⟨y, x, r, rfl, rfl⟩ := am_ii_s h
    obtain ⟨y2, r2, h1, h2⟩ := hz
    cases h1
    exact lv_irem hx hb hd h2 k
  | ineg => obtain ⟨x, r, rfl, rfl⟩ := am_i1_s h; exact lv_ineg hx hb hd k
  | i2l => obtain ⟨x, r, rfl, rfl⟩ := am_i1_s h; exact lv_i2l hx hb hd rfl k
  | l2i => obtain ⟨x, r, rfl, rfl⟩ := am_j1_s h; exact lv_l2i hx hb hd rfl k
  | lneg => obtain ⟨x, r, rfl, rfl⟩ := am_j1_s h; exact lv_lneg hx hb hd k
  | ladd => obtain ⟨y, x, r, rfl, rfl⟩ := am_jj_s h; exact lv_ladd hx hb hd k
  | lsub => obtain ⟨y, x, r, rfl, rfl⟩ := am_jj_s h; exact lv_lsub hx hb hd k
  | lmul => obtain ⟨y, x, r, rfl, rfl⟩ := am_jj_s h; exact lv_lmul hx hb hd k
  | land => obtain ⟨y, x, r, rfl, rfl⟩ := am_jj_s h; exact lv_land hx hb hd k
  | lor => obtain ⟨y, x, r, rfl, rfl⟩ := am_jj_s h; exact lv_lor hx hb hd k
  | lxor => obtain ⟨y, x, r, rfl, rfl⟩ := am_jj_s h; exact lv_lxor hx hb hd k
  | lrem =>
    obtain ⟨y, x, r, rfl, rfl⟩ := am_jj_s h
    obtain ⟨y2, r2, h1, h2⟩ := hz
    cases h1
    exact lv_lrem hx hb hd h2 k
  | lcmp => obtain ⟨y, x, r, rfl, rfl⟩ := am_jj_s h; exact W.lcmp hx hb hd k
  | lshl => obtain ⟨y, x, r, rfl, rfl⟩ := am_ij_s h; exact lv_lshl hx hb hd rfl k
  | lshr => obtain ⟨y, x, r, rfl, rfl⟩ := am_ij_s h; exact lv_lshr hx hb hd rfl k
  | lushr => obtain ⟨y, x, r, rfl, rfl⟩ := am_ij_s h; exact lv_lushr hx hb hd rfl k
  | dup =>
    cases st with
    | nil => cases h
    | cons v r =>
      simp only [am_op, am_dup] at h
      split at h
      · cases h
        exact lv_dup hx hb hd (by assumption) k
      · cases h
  | pop =>
    cases st with
    | nil => cases h
    | cons v r =>
      simp only [am_op, am_pop] at h
      split at h
      · cases h
        exact lv_pop hx hb hd (by assumption) k
      · cases h
  | dup2 =>
    cases st with
    | nil => cases h
    | cons v r =>
      simp only [am_op, am_dup2] at h
      split at h
      · cases h
        exact lv_dup2_2 hx hb hd (by assumption) k
      · cases r with
        | nil => cases h
        | cons w r2 =>
          dsimp only at h
          split at h
          · rename_i hc
            cases h
            exact lv_dup2_11 hx hb hd hc.1 hc.2 k
          · cases h
  | _ => cases h
theorem am_sto_W (hx : p.tables.exec = Jvm.exec) (hb : c.code = cc) {i : Instr} {lv lv' : am_L} {st st' : List Value} {len n nL : Nat} (h : am_sto i lv st = some (len, n, lv', st')) (hn : n ≤ nL) {len' : Nat} (hlen : len' = len ∨ (len = 3 ∧ len' = 6)) (hd : decode cc pc = .ok (i, len')) (hl : lv_has ls nL lv)
    (k : ∀ ls' : Array Slot, lv_has ls' nL lv' → W p l e R s m args below meth c H locs cells slots Q (F0 m (pc + len') ls' st')) : W p l e R s m args below meth c H locs cells slots Q (F0 m pc ls st) := by
  cases i with
  | istore_n q =>
    obtain ⟨o, h1, h2⟩ := am_mp h
    obtain ⟨x, r, rfl, rfl⟩ := am_si_s h1
    cases h2
    rcases hlen with rfl | ⟨hh, -⟩
    · exact lv_istore_n hx hb hd rfl hl (by omega) rfl k
    · cases hh
  | istore q =>
    obtain ⟨o, h1, h2⟩ := am_mp h
    obtain ⟨x, r, rfl, rfl⟩ := am_si_s h1
    cases h2
    rcases hlen with rfl | ⟨hh, -⟩
    · exact lv_istore hx hb hd hl (by omega) rfl k
    · cases hh
  | lstore_n q =>
    obtain ⟨o, h1, h2⟩ := am_mp h
    obtain ⟨x, r, rfl, rfl⟩ := am_sj_s h1
    cases h2
    rcases hlen with rfl | ⟨hh, -⟩
    · exact lv_lstore_n hx hb hd rfl hl (by omega) rfl k
    · cases hh
  | lstore q =>
    obtain ⟨o, h1, h2⟩ := am_mp h
    obtain ⟨x, r, rfl, rfl⟩ := am_sj_s h1
    cases h2
    rcases hlen with rfl | ⟨hh, -⟩
    · exact lv_lstore hx hb hd hl (by omega) rfl k
    · cases hh
  | astore_n q =>
    obtain ⟨o, h1, h2⟩ := am_mp h
    rcases am_sa_s h1 with ⟨x, r, rfl, rfl⟩ | ⟨r, rfl, rfl⟩
    · cases h2
      rcases hlen with rfl | ⟨hh, -⟩
      · exact lv_astore_n hx hb hd rfl hl (by omega) rfl k
      · cases hh
    · cases h2
      rcases hlen with rfl | ⟨hh, -⟩
      · exact lv_astore_nN hx hb hd rfl hl (by omega) rfl k
      · cases hh
  | astore q =>
    obtain ⟨o, h1, h2⟩ := am_mp h
    rcases am_sa_s h1 with ⟨x, r, rfl, rfl⟩ | ⟨r, rfl, rfl⟩
    · cases h2
      rcases hlen with rfl | ⟨hh, -⟩
      · exact lv_astore hx hb hd hl (by omega) rfl k
      · cases hh
    · cases h2
      rcases hlen with rfl | ⟨hh, -⟩
      · exact lv_astoreN hx hb hd hl (by omega) rfl k
      · cases hh
  | iinc q z =>
    obtain ⟨o, h1, h2⟩ := am_mp h
    unfold am_inc at h1
    split at h1
    · rename_i x hx1
      cases h1
      cases h2
      obtain ⟨kk, hk⟩ := am_ld_spec hx1
      rcases hlen with rfl | ⟨-, rfl⟩
      · exact lv_iinc hx hb hd hl hk rfl (by omega) rfl k
      · exact lv_iincW hx hb hd hl hk rfl (by omega) rfl k
    · cases h1
  | _ => cases h
theorem am_br_W (hx : p.tables.exec = Jvm.exec) (hb : c.code = cc) {i : Instr} {st : List Value} {len : Nat} {K : Nat → List Value → Prop} (h : am_br i len pc st K) (hd : decode cc pc = .ok (i, len))
    (k : ∀ t r, K t r → W p l e R s m args below meth c H locs cells slots Q (F0 m t ls r)) : W p l e R s m args below meth c H locs cells slots Q (F0 m pc ls st) := by
  cases i with
  | goto off =>
    obtain ⟨rfl, t, ht, h1⟩ := h
    exact lv_goto hx hb hd ht (k _ _ h1)
  | ifCond cd off =>
    obtain ⟨rfl, x, r, rfl, t, ht, h1, h2⟩ := h
    cases cd with
    | eq => exact lv_if_eq hx hb hd ht (fun q => k _ _ (h1 q)) (fun q => k _ _ (h2 q))
    | ne => exact lv_if_ne hx hb hd ht (fun q => k _ _ (h1 q)) (fun q => k _ _ (h2 (fun z => z q)))
    | lt => exact lv_if_lt hx hb hd ht (fun q => k _ _ (h1 q)) (fun q => k _ _ (h2 q))
    | ge => exact lv_if_ge hx hb hd ht (fun q => k _ _ (h1 q)) (fun q => k _ _ (h2 q))
    | gt => exact lv_if_gt hx hb hd ht (fun q => k _ _ (h1 q)) (fun q => k _ _ (h2 q))
    | le => exact lv_if_le hx hb hd ht (fun q => k _ _ (h1 q)) (fun q => k _ _ (h2 q))
  | if_icmp cd off =>
    obtain ⟨rfl, y, x, r, rfl, t, ht, h1, h2⟩ := h
    cases cd with
    | eq => exact lv_icmp_eq hx hb hd ht (fun q => k _ _ (h1 q)) (fun q => k _ _ (h2 q))
    | ne => exact lv_icmp_ne hx hb hd ht (fun q => k _ _ (h1 q)) (fun q => k _ _ (h2 (fun z => z q)))
    | lt => exact lv_icmp_lt hx hb hd ht (fun q => k _ _ (h1 q)) (fun q => k _ _ (h2 q))
    | ge => exact lv_icmp_ge hx hb hd ht (fun q => k _ _ (h1 q)) (fun q => k _ _ (h2 q))
    | gt => exact lv_icmp_gt hx hb hd ht (fun q => k _ _ (h1 q)) (fun q => k _ _ (h2 q))
    | le => exact lv_icmp_le hx hb hd ht (fun q => k _ _ (h1 q)) (fun q => k _ _ (h2 q))
  | ifnull off =>
    obtain ⟨rfl, ⟨x, r, rfl, h1⟩ | ⟨r, rfl, t, ht, h1⟩⟩ := h
    · exact lv_ifnull hx hb hd (k _ _ h1)
    · exact lv_ifnullN hx hb hd ht (k _ _ h1)
  | ifnonnull off =>
    obtain ⟨rfl, ⟨x, r, rfl, t, ht, h1⟩ | ⟨r, rfl, h1⟩⟩ := h
    · exact lv_ifnonnull hx hb hd ht (k _ _ h1)
    · exact lv_ifnonnullN hx hb hd (k _ _ h1)
  | tableswitch dflt lo hi offs =>
    obtain ⟨x, r, rfl, h1, h2⟩ := h
    by_cases hq : x.toInt < lo ∨ hi < x.toInt
    · obtain ⟨t, ht, h3⟩ := h1 hq
      exact lv_tableOut hx hb hd hq ht (k _ _ h3)
    · obtain ⟨off, ho, t, ht, h3⟩ := h2 (fun z => hq (Or.inl z)) (fun z => hq (Or.inr z))
      exact lv_tableIn hx hb hd (fun z => hq (Or.inl z)) (fun z => hq (Or.inr z)) ho ht (k _ _ h3)
  | lookupswitch dflt ps =>
    obtain ⟨x, r, rfl, hs, t, ht, h3⟩ := h
    exact lv_lookup hx hb hd hs rfl ht (k _ _ h3)
  | _ => exact False.elim h
end AMW
end
