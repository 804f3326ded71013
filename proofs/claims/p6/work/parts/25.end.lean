/-! AM: the world at the entry of a law, and the end of a law -/
section AME
/-- the record of an array kind: found under its name, and that of its part -/
def am_kc (U : State) (ty : FieldType) (c : ClassId) : Prop := U.vm.findClass ("[" ++ ty.toString) = some c ∧ ∃ (k : Class) (comp : ClassId), U.vm.classes[c]? = some k ∧ k.kind = .array comp ty ∧ (∀ n, ty = .object n → U.vm.findClass n = some comp) ∧ ∀ t, ty = .array t → U.vm.findClass (FieldType.array t).toString = some comp
theorem am_kc_arr {U : State} {ty : FieldType} {c : ClassId} (h : am_kc U ty c) : ArrOfT U c ty := by
  obtain ⟨-, k, comp, h1, h2, -⟩ := h
  exact fun n z => ⟨fun k h => (by cases h), k, h1, comp, h2⟩
theorem am_kc_RA {U : State} {ty : FieldType} {c : ClassId} (h : am_kc U ty c) : va_RA U c ty := by
  obtain ⟨h0, k, comp, h1, h2, h3, h4⟩ := h
  cases ty with
  | object n => exact ⟨k, comp, h1, h2, h3 n rfl, h0⟩
  | _ => exact h0
theorem am_kc_AA {U : State} {t : FieldType} {c c2 : ClassId} (h : am_kc U (.array t) c) (h2 : am_kc U t c2) : am_AA U c c2 (.array t) := by
  obtain ⟨-, k, comp, b1, b2, -, b4⟩ := h
  obtain ⟨d0, k2, comp2, d1, d2, -, -⟩ := h2
  have e : comp = c2 := Option.some.inj ((b4 t rfl).symm.trans (show U.vm.findClass (FieldType.array t).toString = some c2 from d0))
  subst e
  exact ⟨k, k2, comp2, t, b1, b2, d1, d2⟩
theorem am_kc_cls {args : Array Value} {U : State} {ty : FieldType} (h : (Cond.arrayClass ty).before args U = true) (ho : ∀ n, ty ≠ .object n) (ha : ∀ t, ty ≠ .array t) : ∃ c, am_kc U ty c := by
  obtain ⟨c, k, comp, h1, h2, h3⟩ := Cond.arrayClass_spec h
  exact ⟨c, h1, k, comp, h2, h3, fun n e => absurd e (ho n), fun t e => absurd e (ha t)⟩
theorem am_kc_obj {args : Array Value} {U : State} {n : String} (h : (Cond.arrayOver (.object n)).before args U = true) : ∃ c, am_kc U (.object n) c := by
  obtain ⟨comp, c, k, h1, -, h2, h3, h4⟩ := Cond.arrayOver_spec h
  exact ⟨c, h4, k, comp, h2, h3, fun m e => (by cases e; exact h1), fun t e => (by cases e)⟩
theorem am_kc_arr2 {args : Array Value} {U : State} {t : FieldType} (h : (Cond.arrayOver (.array t)).before args U = true) : ∃ c, am_kc U (.array t) c := by
  obtain ⟨comp, c, k, h1, -, h2, h3, h4⟩ := arrayOverA_spec h
  exact ⟨c, h4, k, comp, h2, h3, fun m e => (by cases e), fun t e => (by cases e; exact h1)⟩
theorem am_nw0 {w : Cond} (hw : am_nwF w = true) {args : Array Value} {U : State} (h : w.before args U = true) : va_Nw w U := by
  unfold va_Nw
  cases w <;> first | (cases hw; done) | exact h
/-- the words give the world -/
theorem am_wo {P : am_P} {cl : List vw_C} {RO : am_O} {Ts Nw : List Cond} {zs : List (String × String × String × Nat)} (G : am_G P cl Ts Nw zs) {args : Array Value} {s : State} (hts : ∀ w ∈ Ts, w.before args s = true) (hnw : ∀ w ∈ Nw, w.before args s = true)
    (hkd : ∀ (t : Nat) (ty : FieldType), (am_kd P)[t]? = some ty → (Cond.arrayClass ty ∈ Ts ∧ (∀ n, ty ≠ .object n) ∧ ∀ t, ty ≠ .array t) ∨ (Cond.arrayOver ty ∈ Nw ∧ ((∃ n, ty = .object n) ∨ ∃ t, ty = .array t)))
    (has : ∀ t t2, am_asA P t t2 = true → ∃ ty, (am_kd P)[t]? = some (.array ty) ∧ (am_kd P)[t2]? = some ty)
    (hz : ∀ z ∈ zs, va_Z z.1 z.2.1 z.2.2.1 (.ref z.2.2.2) (fun q => s.heap.size ≤ q) s s.heap) (hro : ∀ (a n : Nat) (f : Nat → Int32), RO a = some (n, f) → va_T .int a n (fun j => .int (f j)) (fun q => s.heap.size ≤ q) s s.heap) :
    ∃ (D : va_G) (ca : Nat → ClassId), am_Wo P D cl (fun q => s.heap.size ≤ q) ca RO Nw zs s s.heap := by
  have h1 : ∀ t : Nat, ∃ c, ∀ ty, (am_kd P)[t]? = some ty → am_kc s ty c := by
    intro t
    cases he : (am_kd P)[t]? with
    | none => exact ⟨0, fun ty h => by cases h⟩
    | some ty =>
      have h2 : ∃ c, am_kc s ty c := by
        rcases hkd t ty he with ⟨a, b, c⟩ | ⟨a, ⟨n, rfl⟩ | ⟨t, rfl⟩⟩
        · exact am_kc_cls (hts _ a) b c
        · exact am_kc_obj (hnw _ a)
        · exact am_kc_arr2 (hnw _ a)
      obtain ⟨c, h⟩ := h2
      exact ⟨c, fun ty' e => by cases e; exact h⟩
  have h2 : ∀ c : Nat, ∃ (cC : ClassId) (iS : Nat → Nat), ∀ q : vw_C, cl[c]? = some q → u_Kn s q.1 q.2.1 q.2.2 cC iS := by
    intro c
    cases he : cl[c]? with
    | none => exact ⟨0, fun _ => 0, fun q h => by cases h⟩
    | some q =>
      obtain ⟨C, T, N⟩ := q
      have h3 := G.2.2.1 c C T N he
      obtain ⟨cC, iS, h⟩ := u_known hts h3.1 (hts _ h3.2.2.2.1)
      exact ⟨cC, iS, fun q' e => by cases e; exact h⟩
  refine ⟨(fun c => Classical.choose (h2 c), fun c => Classical.choose (Classical.choose_spec (h2 c))), fun t => Classical.choose (h1 t), ⟨fun c q hq => Classical.choose_spec (Classical.choose_spec (h2 c)) q hq, fun k q hq => ?_⟩, fun w hw => am_nw0 (G.2.2.2.2.2.2.2.2.2.2.2.2.2.2.2.2.2.2 w hw) (hnw w hw), hz, hro, fun t t2 h => ?_, fun q h => h⟩
  · unfold am_tys at hq
    rw [List.getElem?_map, List.getElem?_zipIdx] at hq
    cases he : (am_kd P)[k]? with
    | none => rw [he] at hq; cases hq
    | some ty =>
      rw [he] at hq
      have hq2 := Option.some.inj hq
      rw [← hq2]
      have h4 := Classical.choose_spec (h1 k) ty he
      simp only [Nat.zero_add]
      exact ⟨am_kc_arr h4, am_kc_RA h4⟩
  · obtain ⟨ty, b1, b2⟩ := has t t2 h
    exact ⟨ty, am_kc_AA (Classical.choose_spec (h1 t) _ b1) (Classical.choose_spec (h1 t2) _ b2)⟩
/-- the end of the walk -/
theorem am_fin {D : va_G} {cl : List vw_C} {ca : Nat → ClassId} {below : List Frame} {args : Array Value} {s t : State} {M' : am_H} {sz' mc ms mc' ms' : Nat} (h : MQ below (am_Qc D cl (fun q => s.heap.size ≤ q) ca (some (.int 1)) M' sz') args s mc ms (fun q => s.heap.size ≤ q) t) (h1 : mc ≤ mc') (h2 : ms ≤ ms') :
    ∃ o, t.status = .running ∧ Ended t below o ∧ o = .returned (some (.int 1)) ∧ Framed s o t [] mc' ms' := by
  obtain ⟨o, a, b, hq, L, ⟨-, hW, hs⟩, hL⟩ := h
  obtain ⟨rfl, -⟩ := hq
  exact ⟨_, a, b, rfl, ⟨_, rfl⟩, hW, hs.weaken (fun x hx hlt => absurd (hL x hx) (Nat.not_le.mpr hlt)) h1 h2⟩
end AME
