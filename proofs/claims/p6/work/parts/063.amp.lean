/-! AM: a hidden method of a kind of object that is not made itself, called on an object of a kind below it -/
theorem am_sel_priv {C : String} {y x2 y2 : MethodName} {s : State} {args : Array Value} (h2 : (Cond.selects C x2 y2).before args s = true) (hc : y2.cls = y.cls) (hy : y.cls ≠ "java/lang/invoke/MethodHandle" ∧ y.cls ≠ "java/lang/invoke/VarHandle")
    (hpriv : (Cond.privateMethod y).before args s = true) (hinst : (Cond.instanceMethod y).before args s = true) : (Cond.selects C y y).before args s = true := by
  obtain ⟨c, r, m2, hfc, -, hm2, -, k, hk, hni⟩ := Cond.selects_spec h2
  obtain ⟨mk, methM, hnamed, hmethM, -, -⟩ := Cond.instanceMethod_spec hinst
  have hfound : s.methodFound? y.cls y.name y.desc = some mk := State.methodFound?_of_named hnamed hy
  have hcls : mk.cls = m2.cls := by
    have h3 := findClass_of_methodNamed hm2
    have h4 := findClass_of_methodNamed hnamed
    rw [hc] at h3
    exact Option.some.inj (h4.symm.trans h3)
  have hsel : selectMethod {} s.vm c mk = .method mk := selectMethod_private hmethM (Cond.privateMethod_at hpriv mk methM hnamed hmethM)
  simp only [Cond.before, Cond.holds, Cond.value, hfc, hfound, hnamed, hsel, hcls, hk]
  simp; exact hni
/-- kind, method, a word that another method of its class is selected by -/
abbrev am_xE : Type := String × MethodName × MethodName × MethodName
def am_xW (q : am_xE) : Cond := .selects q.1 q.2.1 q.2.1
def am_xOk (Ts : List Cond) (q : am_xE) : Prop := Cond.selects q.1 q.2.2.1 q.2.2.2 ∈ Ts ∧ q.2.2.2.cls = q.2.1.cls ∧ (q.2.1.cls ≠ "java/lang/invoke/MethodHandle" ∧ q.2.1.cls ≠ "java/lang/invoke/VarHandle") ∧ Cond.privateMethod q.2.1 ∈ Ts ∧ Cond.instanceMethod q.2.1 ∈ Ts
theorem am_x_hts {Ts : List Cond} {X : List am_xE} (hX : ∀ q ∈ X, am_xOk Ts q) {args : Array Value} {s : State} (hts : ∀ w ∈ Ts, w.before args s = true) : ∀ w ∈ X.map am_xW, w.before args s = true := by
  intro w hw
  obtain ⟨q, hq, rfl⟩ := List.mem_map.mp hw
  obtain ⟨h1, h2, h3, h4, h5⟩ := hX q hq
  exact am_sel_priv (hts _ h1) h2 h3 (hts _ h4) (hts _ h5)
