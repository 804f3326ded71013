/-! MEMORY: a world as a map from addresses to cells (over the kit's va_P, va_D), and the kit's rows over it. DRAFT, never compiled yet (no statement stood when it was written). -/
abbrev mM : Type := Nat → Option va_E
def mk_set (M : mM) (a : Nat) (e : va_E) : mM := fun q => if q = a then some e else M q
def mk_rel (M : mM) (ws : va_W) : Prop := ∀ (a : Nat) (e : va_E), M a = some e ↔ ∃ k : Nat, ws[k]? = some (a, e)
def mk_W (D : va_G) (cl : List vw_C) (A : Nat → Prop) (M : mM) (H : Heap) : Prop := ∃ ws : va_W, mk_rel M ws ∧ va_P D cl ws H ∧ va_D A ws
def mk_A (M : mM) (sz : Nat) : Nat → Prop := fun q => M q ≠ none ∨ sz ≤ q
theorem mk_same {M : mM} {a : Nat} {e : va_E} : mk_set M a e a = some e := by simp [mk_set]
theorem mk_ne {M : mM} {a b : Nat} {e : va_E} (h : b ≠ a) : mk_set M a e b = M b := by simp [mk_set, h]
theorem mk_rel_set {M : mM} {ws : va_W} {A : Nat → Prop} {a p : Nat} {e0 e : va_E} (h : mk_rel M ws) (hD : va_D A ws) (hp : ws[p]? = some (a, e0)) : mk_rel (mk_set M a e) (ws.set p (a, e)) := by
  have hl := (List.getElem?_eq_some_iff.mp hp).1
  intro b x
  by_cases hb : b = a
  · subst hb
    rw [mk_same]
    constructor
    · intro hx
      cases hx
      exact ⟨p, List.getElem?_set_self hl⟩
    · rintro ⟨k, hk⟩
      by_cases hkp : k = p
      · subst hkp
        rw [List.getElem?_set_self hl] at hk
        cases hk
        rfl
      · rw [List.getElem?_set_ne (Ne.symm hkp)] at hk
        exact absurd (hD.1 k p _ _ hk hp rfl) hkp
  · rw [mk_ne hb, h b x]
    constructor
    · rintro ⟨k, hk⟩
      have hkp : k ≠ p := fun z => by
        subst z
        rw [hp] at hk
        cases hk
        exact hb rfl
      exact ⟨k, by rw [List.getElem?_set_ne (Ne.symm hkp)]; exact hk⟩
    · rintro ⟨k, hk⟩
      by_cases hkp : k = p
      · subst hkp
        rw [List.getElem?_set_self hl] at hk
        cases hk
        exact absurd rfl hb
      · rw [List.getElem?_set_ne (Ne.symm hkp)] at hk
        exact ⟨k, hk⟩
theorem mk_rel_push {M : mM} {ws : va_W} {A : Nat → Prop} {q : Nat} {e : va_E} (h : mk_rel M ws) (hD : va_D A (ws ++ [(q, e)])) : mk_rel (mk_set M q e) (ws ++ [(q, e)]) ∧ M q = none := by
  have hlast : (ws ++ [(q, e)])[ws.length]? = some (q, e) := by simp
  have hno : ∀ (k : Nat) (x : va_E), ws[k]? ≠ some (q, x) := by
    intro k x hk
    have hkl := (List.getElem?_eq_some_iff.mp hk).1
    have h1 : (ws ++ [(q, e)])[k]? = some (q, x) := by rw [List.getElem?_append_left hkl]; exact hk
    have h2 := hD.1 k ws.length _ _ h1 hlast rfl
    omega
  have hn : M q = none := by
    cases hq : M q with
    | none => rfl
    | some x =>
      obtain ⟨k, hk⟩ := (h q x).mp hq
      exact absurd hk (hno k x)
  refine ⟨?_, hn⟩
  intro b x
  by_cases hb : b = q
  · subst hb
    rw [mk_same]
    constructor
    · intro hx
      cases hx
      exact ⟨_, hlast⟩
    · rintro ⟨k, hk⟩
      by_cases hkl : k < ws.length
      · rw [List.getElem?_append_left hkl] at hk
        exact absurd hk (hno k x)
      · rw [List.getElem?_append_right (by omega)] at hk
        have hz : k - ws.length < 1 := (List.getElem?_eq_some_iff.mp hk).1
        rw [show k - ws.length = 0 by omega] at hk
        cases hk
        rfl
  · rw [mk_ne hb, h b x]
    constructor
    · rintro ⟨k, hk⟩
      have hkl := (List.getElem?_eq_some_iff.mp hk).1
      exact ⟨k, by rw [List.getElem?_append_left hkl]; exact hk⟩
    · rintro ⟨k, hk⟩
      by_cases hkl : k < ws.length
      · rw [List.getElem?_append_left hkl] at hk
        exact ⟨k, hk⟩
      · rw [List.getElem?_append_right (by omega)] at hk
        have hz : k - ws.length < 1 := (List.getElem?_eq_some_iff.mp hk).1
        rw [show k - ws.length = 0 by omega] at hk
        cases hk
        exact absurd rfl hb
/-- the world's cells are in A, and lie below the heap's end -/
theorem mk_W.dom {D : va_G} {cl : List vw_C} {A : Nat → Prop} {M : mM} {H : Heap} (h : mk_W D cl A M H) {a : Nat} (ha : M a ≠ none) : A a ∧ a < H.size := by
  obtain ⟨ws, hr, hP, hD⟩ := h
  cases hM : M a with
  | none => exact absurd hM ha
  | some e =>
    obtain ⟨k, hk⟩ := (hr a e).mp hM
    exact ⟨hD.2 k _ hk, (hP k _ hk).lt⟩
theorem mk_W.weaken {D : va_G} {cl : List vw_C} {A B : Nat → Prop} {M : mM} {H : Heap} (h : mk_W D cl A M H) (hAB : ∀ a, M a ≠ none → A a → B a) : mk_W D cl B M H := by
  obtain ⟨ws, hr, hP, hD⟩ := h
  exact ⟨ws, hr, hP, hD.weaken (fun k q hk hA => hAB q.1 (by rw [(hr q.1 q.2).mpr ⟨k, hk⟩]; exact fun z => by cases z) hA)⟩
theorem mk_W.kept {D : va_G} {cl : List vw_C} {A : Nat → Prop} {M : mM} {H H1 : Heap} (h : mk_W D cl A M H) (hq : ∀ a, M a ≠ none → H1[a]? = H[a]?) : mk_W D cl A M H1 := by
  obtain ⟨ws, hr, hP, hD⟩ := h
  exact ⟨ws, hr, hP.kept (fun k q hk => hq q.1 (by rw [(hr q.1 q.2).mpr ⟨k, hk⟩]; exact fun z => by cases z)), hD⟩
theorem mk_W.self {D : va_G} {cl : List vw_C} {A : Nat → Prop} {M : mM} {H : Heap} {sz : Nat} (h : mk_W D cl A M H) : mk_W D cl (mk_A M sz) M H := h.weaken (fun _ ha _ => Or.inl ha)
theorem mk_W.any {D : va_G} {cl : List vw_C} {A : Nat → Prop} {M : mM} {H : Heap} (h : mk_W D cl A M H) : mk_W D cl (fun _ => True) M H := h.weaken (fun _ _ _ => trivial)
/-- nothing is there -/
theorem mk_W.nil {D : va_G} {cl : List vw_C} {A : Nat → Prop} {H : Heap} : mk_W D cl A (fun _ => none) H := ⟨[], fun a e => by simp, fun k q h => by simp at h, fun i j p q h => by simp at h, fun k q h => by simp at h⟩
/-- the start of a method's world: its memory, at a heap of a size -/
def mk_B (D : va_G) (cl : List vw_C) (tys : List (ClassId × FieldType)) (M : mM) (sz : Nat) : State → Prop := fun U => U.heap.size = sz ∧ mk_W D cl (fun _ => True) M U.heap ∧ va_K D cl tys U
/-- the world behind it -/
def mk_E (D : va_G) (cl : List vw_C) (tys : List (ClassId × FieldType)) (M : mM) (sz : Nat) : mM → State → Prop := fun M' t => mk_W D cl (mk_A M sz) M' t.heap ∧ va_K D cl tys t
abbrev mk_Qi (D : va_G) (cl : List vw_C) (tys : List (ClassId × FieldType)) (M : mM) (sz : Nat) (post : Int32 → mM → Prop) : Array Value → State → Outcome → State → Prop := va_Qi post (mk_E D cl tys M sz) (mk_A M sz)
abbrev mk_Ql (D : va_G) (cl : List vw_C) (tys : List (ClassId × FieldType)) (M : mM) (sz : Nat) (post : Int64 → mM → Prop) : Array Value → State → Outcome → State → Prop := va_Ql post (mk_E D cl tys M sz) (mk_A M sz)
abbrev mk_Qv (D : va_G) (cl : List vw_C) (tys : List (ClassId × FieldType)) (M : mM) (sz : Nat) (post : mM → Prop) : Array Value → State → Outcome → State → Prop := va_Qv post (mk_E D cl tys M sz) (mk_A M sz)
abbrev mk_Qr (D : va_G) (cl : List vw_C) (tys : List (ClassId × FieldType)) (M : mM) (sz : Nat) (post : Nat → mM → Prop) : Array Value → State → Outcome → State → Prop := va_Qr (fun u : Nat × mM => post u.1 u.2) (fun u a t => a = u.1 ∧ mk_E D cl tys M sz u.2 t) (mk_A M sz)
/-- a callee's cells are the caller's -/
theorem mk_in {D : va_G} {cl : List vw_C} {A0 : Nat → Prop} {M : mM} {H0 H : Heap} {locs : List Loc} (hW : mk_W D cl A0 M H) (hS : va_S A0 H0 H locs) (hA : ∀ q, H0.size ≤ q → A0 q) : ∀ q, mk_A M H.size q → A0 q := by
  intro q h
  rcases h with h | h
  · exact (hW.dom h).1
  · exact hA q (Nat.le_trans hS.1 h)
theorem mk_back {D : va_G} {cl : List vw_C} {A0 : Nat → Prop} {M M' : mM} {H0 H H1 : Heap} {locs : List Loc} (hW : mk_W D cl A0 M H) (hS : va_S A0 H0 H locs) (hA : ∀ q, H0.size ≤ q → A0 q) (h1 : mk_W D cl (mk_A M H.size) M' H1) : mk_W D cl A0 M' H1 := h1.weaken (fun q _ hq => mk_in hW hS hA q hq)
theorem mk_pre {D : va_G} {cl : List vw_C} {tys : List (ClassId × FieldType)} {A : Nat → Prop} {M : mM} {H : Heap} {s : State} (hW : mk_W D cl A M H) (hK : va_K D cl tys s) (As : List Value) : PreS s H (va_Pc As (mk_B D cl tys M H.size)) As :=
  ⟨fun a U g mk q => by obtain ⟨q0, q1, qP, qK⟩ := q; exact ⟨q0, q1, qP, va_K.moved (u := U) (U := U.calling g mk a) (Vm.Alike.refl U.vm) qK⟩, fun U hU hWm => ⟨rfl, by rw [hU], by rw [hU]; exact hW.any, va_K.moved hWm.alike hK⟩⟩
theorem mk_preV {D : va_G} {cl : List vw_C} {tys : List (ClassId × FieldType)} {A : Nat → Prop} {M : mM} {H : Heap} {s : State} {a ci : Nat} {q : vw_C} {fs : List Value} (hW : mk_W D cl A M H) (hK : va_K D cl tys s) (he : M a = some (.inr (ci, fs))) (hc : cl[ci]? = some q) (As : List Value) : PreV s H q.1 a (va_Pc (.ref a :: As) (mk_B D cl tys M H.size)) As := by
  obtain ⟨ws, hr, hP, hD⟩ := id hW
  obtain ⟨k, hk⟩ := (hr a _).mp he
  exact ⟨(mk_pre hW hK (.ref a :: As)).1, va_recv hK hP hc hk, (mk_pre hW hK (.ref a :: As)).2⟩
