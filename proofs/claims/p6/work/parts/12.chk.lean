/-! AM: tables as lists, checked by the kernel against the words; am_G out of the checks */ -/
abbrev am_Pos : Type := Nat × Nat
def am_at (tb : List (List Cond)) (q : am_Pos) : Option Cond := (tb[q.1]?).bind (fun l => l[q.2]?)
def am_Ts (tb : List (List Cond)) : List Cond := tb.flatten.filter goodWord
def am_Nw (tb : List (List Cond)) : List Cond := tb.flatten.filter am_nwF
theorem am_at_mem {tb : List (List Cond)} {q : am_Pos} {w : Cond} (h : am_at tb q = some w) : w ∈ tb.flatten := by
  unfold am_at at h
  obtain ⟨l, h1, h2⟩ := Option.bind_eq_some_iff.mp h
  exact List.mem_flatten.mpr ⟨l, List.mem_of_getElem? h1, List.mem_of_getElem? h2⟩
def am_in (tb : List (List Cond)) (q : am_Pos) (w : Cond) : Bool := decide (am_at tb q = some w) && goodWord w
def am_inN (tb : List (List Cond)) (q : am_Pos) (w : Cond) : Bool := decide (am_at tb q = some w) && am_nwF w
theorem am_in_s {tb : List (List Cond)} {q : am_Pos} {w : Cond} (h : am_in tb q w = true) : w ∈ am_Ts tb := by
  unfold am_in at h
  rw [Bool.and_eq_true, decide_eq_true_iff] at h
  exact List.mem_filter.mpr ⟨am_at_mem h.1, h.2⟩
theorem am_inN_s {tb : List (List Cond)} {q : am_Pos} {w : Cond} (h : am_inN tb q w = true) : w ∈ am_Nw tb := by
  unfold am_inN at h
  rw [Bool.and_eq_true, decide_eq_true_iff] at h
  exact List.mem_filter.mpr ⟨am_at_mem h.1, h.2⟩
def am_lk2 {α : Type} (L : List (List (Nat × α))) (o x : Nat) : Option α := (((L[o]?).getD []).find? (fun q => q.1 == x)).map (fun q => q.2)
def am_lk3 {α : Type} (L : List (List ((Nat × Nat) × α))) (o x ci : Nat) : Option α := (((L[o]?).getD []).find? (fun q => q.1.1 == x && q.1.2 == ci)).map (fun q => q.2)
def am_all {α : Type} (L : List (List α)) (ok : Nat → α → Bool) : Bool := L.zipIdx.all (fun q => q.1.all (ok q.2))
theorem am_all_s {α : Type} {L : List (List α)} {ok : Nat → α → Bool} (h : am_all L ok = true) {o : Nat} {l : List α} (ho : L[o]? = some l) {q : α} (hq : q ∈ l) : ok o q = true := by
  have h1 := List.all_eq_true.mp h (l, o) (by
    refine List.mem_of_getElem? (i := o) ?_
    rw [List.getElem?_zipIdx, ho]
    simp)
  exact List.all_eq_true.mp h1 q hq
theorem am_lk2_s {α : Type} {L : List (List (Nat × α))} {ok : Nat → Nat × α → Bool} (h : am_all L ok = true) {o x : Nat} {a : α} (hl : am_lk2 L o x = some a) : ok o (x, a) = true := by
  unfold am_lk2 at hl
  obtain ⟨q, h1, rfl⟩ := Option.map_eq_some_iff.mp hl
  have h2 := List.find?_some h1
  have h3 := List.mem_of_find?_eq_some h1
  cases ho : L[o]? with
  | none => rw [ho] at h3; simp at h3
  | some l =>
    rw [ho] at h3
    have h4 := am_all_s h ho h3
    have h5 : q.1 = x := by simpa using h2
    rw [← h5]
    exact h4
theorem am_lk3_s {α : Type} {L : List (List ((Nat × Nat) × α))} {ok : Nat → (Nat × Nat) × α → Bool} (h : am_all L ok = true) {o x ci : Nat} {a : α} (hl : am_lk3 L o x ci = some a) : ok o ((x, ci), a) = true := by
  unfold am_lk3 at hl
  obtain ⟨q, h1, rfl⟩ := Option.map_eq_some_iff.mp hl
  have h2 := List.find?_some h1
  have h3 := List.mem_of_find?_eq_some h1
  cases ho : L[o]? with
  | none => rw [ho] at h3; simp at h3
  | some l =>
    rw [ho] at h3
    have h4 := am_all_s h ho h3
    have h5 : q.1.1 = x ∧ q.1.2 = ci := by simpa using h2
    rw [← h5.1, ← h5.2]
    exact h4
theorem am_all_of {α : Type} {L : List (List α)} {ok : Nat → α → Bool} (h : ∀ (o : Nat) (l : List α), L[o]? = some l → l.all (ok o) = true) : am_all L ok = true := by
  unfold am_all
  rw [List.all_eq_true]
  intro q hq
  obtain ⟨i, hi⟩ := List.getElem?_of_mem hq
  rw [List.getElem?_zipIdx] at hi
  obtain ⟨l, h1, h2⟩ := Option.map_eq_some_iff.mp hi
  rw [← h2]
  have h3 := h i l h1
  simpa using h3
theorem am_app {α : Type} {a b : List α} {p : α → Bool} (ha : a.all p = true) (hb : b.all p = true) : (a ++ b).all p = true := by
  rw [List.all_append, ha, hb]
  rfl
/-- the lists: slot, may be put, the name that links, host, its words' places -/
abbrev am_fE : Type := (Nat × Nat) × (Nat × Nat × String × Option String × am_Pos × am_Pos)
abbrev am_mE : Type := am_Meth × am_Pos × am_Pos
abbrev am_sE : Type := Nat × (Nat × Nat × am_Pos × Option String × am_Pos)
abbrev am_tE : Type := Nat × (Nat × Nat × am_Pos × Option String × am_Pos × am_Pos)
abbrev am_vE : Type := (Nat × Nat) × (Nat × Nat × am_Pos × am_Pos × am_Pos × Option (Option String) × MethodName × String × am_Pos × am_Pos × am_Pos)
section CHK
variable (on : Nat → String) (cl : List vw_C) (kd : List FieldType) (tb : List (List Cond)) (LM : List am_mE) (zn : List (String × String × String))
def am_lkOk (o x : Nat) (y : MethodName) (host : Option String) (p : am_Pos) : Bool := match host with
  | none => am_in tb p (.methodLink (on o) x y)
  | some h => am_inN tb p (.methodLinkNest (on o) x y h)
def am_arOk (y : MethodName) (n : Nat) : Bool := decide ((parseMethodDescriptor y.desc).map (fun d => d.parameters.length) = some n)
def am_okM (q : am_mE) : Bool := plainName q.1.1.cls && decide (on q.1.2.2.2.2.2.2 = q.1.1.cls) && am_in tb q.2.2 (.initialized q.1.1.cls) && decide (q.1.1.cls ≠ "java/lang/invoke/MethodHandle" ∧ q.1.1.cls ≠ "java/lang/invoke/VarHandle")
def am_okF (o : Nat) (q : am_fE) : Bool := match cl[q.1.2]? with
  | none => false
  | some (_, T, N) => match q with
    | ((x, _), k, pk, ref, host, lp, sp) => decide (k < N) && (decide (ref = (T k).1) || am_in tb sp (.sameField ref (T k).1 (T k).2.1 (T k).2.2.1)) &&
      (match host with
        | none => am_in tb lp (.fieldLink (on o) x ref (T k).2.1 (T k).2.2.1)
        | some h => am_inN tb lp (.fieldLinkNest (on o) x ref (T k).2.1 (T k).2.2.1 h)) &&
      (decide (pk ≠ 1) || !(T k).2.2.2) && (decide (pk ≠ 2) || (decide ((T k).1 = on o) && decide (ref = (T k).1) && host.isNone))
def am_okK (o : Nat) (q : Nat × (Value × am_Pos)) : Bool := match q.2.1 with
  | .int z => am_in tb q.2.2 (.constant (on o) q.1 z)
  | .long z => am_in tb q.2.2 (.constantLong (on o) q.1 z)
  | _ => false
def am_okW (o : Nat) (q : Nat × (Nat × am_Pos)) : Bool := match cl[q.2.1]? with
  | none => false
  | some (C, _, _) => am_in tb q.2.2 (.classLink (on o) q.1 C)
def am_okA (o : Nat) (q : Nat × (Nat × am_Pos × am_Pos)) : Bool := match kd[q.2.1]? with
  | some (.object C) => am_inN tb q.2.2.2 (.arrayOver (.object C)) && am_in tb q.2.2.1 (.classLink (on o) q.1 C)
  | some (.array ty) => am_inN tb q.2.2.2 (.arrayOver (.array ty)) && am_in tb q.2.2.1 (.classLink (on o) q.1 (FieldType.array ty).toString)
  | _ => false
def am_okZ (o : Nat) (q : Nat × (Nat × am_Pos)) : Bool := match zn[q.2.1]? with
  | none => false
  | some (C, n, d) => am_in tb q.2.2 (.fieldLink (on o) q.1 C n d)
def am_okS (o : Nat) (q : am_tE) : Bool := match LM[q.2.1]? with
  | none => false
  | some mz => am_in tb q.2.2.2.1 (.static mz.1.1) && am_arOk mz.1.1 q.2.2.1 && (am_lkOk on tb o q.1 mz.1.1 q.2.2.2.2.1 q.2.2.2.2.2.1 || (match q.2.2.2.2.1 with
      | none => false
      | some C => am_in tb q.2.2.2.2.2.1 (.methodLink (on o) q.1 ⟨C, mz.1.1.name, mz.1.1.desc⟩) && am_in tb q.2.2.2.2.2.2 (.sameMethod C mz.1.1.cls mz.1.1.name mz.1.1.desc)))
def am_okI (o : Nat) (q : am_sE) : Bool := match LM[q.2.1]? with
  | none => false
  | some mz => decide (mz.1.1.name = "<init>") && mz.1.2.2.2.1.isNone && am_in tb q.2.2.2.1 (.instanceMethod mz.1.1) && am_arOk mz.1.1 q.2.2.1 && am_lkOk on tb o q.1 mz.1.1 q.2.2.2.2.1 q.2.2.2.2.2
def am_okV (o : Nat) (q : am_vE) : Bool := match q with
  | ((x, ci), z, n, ip, sp, lp, form, xn, owner, mp, dp, cp) => match cl[ci]?, LM[z]? with
    | some (C, _, _), some mz => am_in tb ip (.instanceMethod mz.1.1) && (match form with
      | some host => am_arOk mz.1.1 n && am_lkOk on tb o x mz.1.1 host lp && am_in tb sp (.selects C mz.1.1 mz.1.1)
      | none => am_arOk xn n && decide (owner ≠ "java/lang/invoke/MethodHandle" ∧ owner ≠ "java/lang/invoke/VarHandle") && am_in tb lp (.methodLink (on o) x xn) && am_in tb mp (.sameMethod xn.cls owner xn.name xn.desc) && am_in tb sp (.selects C xn mz.1.1) &&
          (am_inN tb dp (.declares ⟨owner, xn.name, xn.desc⟩) || (am_in tb dp (.instanceMethod ⟨owner, xn.name, xn.desc⟩) && (match am_at tb cp with
            | some (.code y' b m r) => decide (y' = ⟨owner, xn.name, xn.desc⟩) && am_in tb cp (.code y' b m r)
            | _ => false))))
    | _, _ => false
def am_okN (o : Nat) (q : Nat × (Nat × List am_Pos)) : Bool := match q.2 with
  | (1, [a, b, c, d]) => am_in tb a (.methodLink (on o) q.1 arraycopyName) && am_in tb b (.native arraycopyName) && am_in tb c (.static arraycopyName) && am_in tb d (.initialized "java/lang/System")
  | (2, [a, b, c]) => am_in tb a (.methodLink (on o) q.1 Lib.objectInit) && am_in tb b (.instanceMethod Lib.objectInit) && am_in tb c (.code Lib.objectInit ⟨#[0xb1]⟩ 1 none)
  | (3, [a, b, c, d, e, f]) => am_in tb a (.methodLink (on o) q.1 ⟨"[I", "clone", "()Ljava/lang/Object;"⟩) && am_in tb b (.sameMethod "[I" "java/lang/Object" "clone" "()Ljava/lang/Object;") && am_in tb c (.native ⟨"java/lang/Object", "clone", "()Ljava/lang/Object;"⟩) && am_in tb d (.instanceMethod ⟨"java/lang/Object", "clone", "()Ljava/lang/Object;"⟩) &&
      am_in tb e (.selects "[I" ⟨"[I", "clone", "()Ljava/lang/Object;"⟩ ⟨"java/lang/Object", "clone", "()Ljava/lang/Object;"⟩) && am_inN tb f (.castable "[I" "java/lang/Cloneable")
  | (4, [a]) => am_in tb a (.classLink (on o) q.1 "[I")
  | (10, [a, b, c, d]) => am_in tb a (.methodLink (on o) q.1 Lib.Math.max.name) && am_in tb b (.static Lib.Math.max.name) && am_in tb c (.initialized "java/lang/Math") && am_in tb d (.code Lib.Math.max.name Lib.Math.max.code 2 (some .int))
  | (11, [a, b, c, d]) => am_in tb a (.methodLink (on o) q.1 Lib.Math.min.name) && am_in tb b (.static Lib.Math.min.name) && am_in tb c (.initialized "java/lang/Math") && am_in tb d (.code Lib.Math.min.name Lib.Math.min.code 2 (some .int))
  | (12, [a, b, c, d]) => am_in tb a (.methodLink (on o) q.1 Lib.MathLoose.min_long.x) && am_in tb b (.static Lib.MathLoose.min_long.x) && am_in tb c (.initialized "java/lang/Math") && am_in tb d (.code Lib.MathLoose.min_long.x Lib.MathLoose.min_long.code 4 (some .long))
  | (13, [a, b, c, d]) => am_in tb a (.methodLink (on o) q.1 Lib.MathLoose.abs_long.x) && am_in tb b (.static Lib.MathLoose.abs_long.x) && am_in tb c (.initialized "java/lang/Math") && am_in tb d (.code Lib.MathLoose.abs_long.x Lib.MathLoose.abs_long.code 2 (some .long))
  | (103, [a, b]) => decide (kd[3]? = some (.array .long)) && am_inN tb a (.arrayOver (.array .long)) && am_in tb b (.classLink (on o) q.1 ("[" ++ (FieldType.array .long).toString))
  | _ => false
def am_okG (q : (Nat × Nat) × am_Pos) : Bool := match kd[q.1.1]?, cl[q.1.2]? with
  | some (.object E), some (C, _, _) => decide (C = E) || am_inN tb q.2 (.castable C E)
  | _, _ => false
/-- a class's words and field types -/
def am_okC (tyf : Nat → Nat → FieldType) (q : (Nat × List am_Pos) × (am_Pos × am_Pos) × List Value) : Bool := match cl[q.1.1]? with
  | none => false
  | some (C, T, N) => ((List.range N).all fun k => match q.1.2[k]? with
      | none => false
      | some p => am_in tb p (u_lay C T k)) && ((List.range N).all fun k => decide (parseFieldDescriptor (T k).2.2.1 = some (tyf q.1.1 k))) && am_in tb q.2.1.1 (.instantiable C N) && am_in tb q.2.1.2 (.initialized C) && decide (q.2.2.length = N) && ((List.range N).all fun k => match q.2.2[k]? with
      | none => false
      | some v => decide (defaultValue (tyf q.1.1 k) = v))
end CHK
/-- the code words -/
def am_cdE (tb : List (List Cond)) (L : List am_mE) : Prop := L.map (fun q => am_at tb q.2.1) = L.map (fun q => some (Cond.code q.1.1 q.1.2.1 q.1.2.2.1 q.1.2.2.2.1))
theorem am_cdE_app {tb : List (List Cond)} {a b : List am_mE} (ha : am_cdE tb a) (hb : am_cdE tb b) : am_cdE tb (a ++ b) := by
  unfold am_cdE at *
  rw [List.map_append, List.map_append, ha, hb]
theorem am_cdE_s {tb : List (List Cond)} {L : List am_mE} (h : am_cdE tb L) {q : am_mE} (hq : q ∈ L) : Cond.code q.1.1 q.1.2.1 q.1.2.2.1 q.1.2.2.2.1 ∈ am_Ts tb := by
  obtain ⟨i, hi⟩ := List.getElem?_of_mem hq
  have h1 := congrArg (fun l => l[i]?) h
  simp only [List.getElem?_map, hi, Option.map_some] at h1
  injection h1 with h1
  exact List.mem_filter.mpr ⟨am_at_mem h1, rfl⟩
