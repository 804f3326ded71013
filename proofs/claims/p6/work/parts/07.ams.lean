/-! AM's runs are the machine's: the world that a method finds, what the tables must say, the simulation */ -/
/-- words that are carried by the state, not by a method's list -/
def am_nwF (w : Cond) : Bool := match w with
  | .fieldLinkNest _ _ _ _ _ _ => true
  | .methodLinkNest _ _ _ _ => true
  | .declares _ => true
  | .castable _ _ => true
  | .arrayOver (.object _) => true
  | .arrayOver (.array _) => true
  | _ => false
theorem am_over_warm {t : FieldType} {s U : State} (hvm : s.vm.Alike U.vm) (h : va_Nw (.arrayOver (.array t)) s) : va_Nw (.arrayOver (.array t)) U := by
  obtain ⟨comp, c, k, h1, h2, h3, h4, h5⟩ := arrayOverA_spec h
  obtain ⟨k', hk', he⟩ := hvm.2.2 _ _ h3
  have hi : (U.vm.classes.findIdx? fun (x : Class) => match x.kind with | .array component _ => component == comp | _ => false) = some c := by
    rw [hvm.findIdx?_eq _ (fun _ => rfl)]
    exact h2
  have hkind : k'.kind = .array comp (.array t) := by rw [he]; exact h4
  have f1 : U.vm.findClass (FieldType.array t).toString = some comp := by rw [hvm.findClass]; exact h1
  have f2 : U.vm.findClass ("[" ++ (FieldType.array t).toString) = some c := by rw [hvm.findClass]; exact h5
  unfold va_Nw Cond.before Cond.holds
  simp only [Cond.value]
  rw [f1, Option.bind_some]
  refine (congrArg (fun o : Option Nat => (o.bind (fun c => (U.vm.classes[c]?).map fun (k : Class) => match k.kind with | .array _ ty => decide (ty = FieldType.array t) && decide (U.vm.findClass ("[" ++ (FieldType.array t).toString) = some c) | _ => false) == some true)) hi).trans ?_
  simp [hk', hkind, f2]
theorem am_nw_same {w : Cond} (h : am_nwF w = true) {u U : State} (hv : u.vm = U.vm) (hz : va_Nw w u) : va_Nw w U := by
  cases w with
  | fieldLinkNest a b c d e f => exact va_Nw.same rfl hv hz
  | methodLinkNest a b c d => exact va_Nw.same rfl hv hz
  | declares x => exact va_Nw.same rfl hv hz
  | castable a b => exact va_Nw.same rfl hv hz
  | arrayOver t =>
    cases t with
    | object C => exact va_AO.moved (hv ▸ Vm.Alike.refl _) hz
    | array t => exact am_over_warm (hv ▸ Vm.Alike.refl _) hz
    | _ => cases h
  | _ => cases h
theorem am_nw_warm {w : Cond} (h : am_nwF w = true) {s U : State} (hW : s.WarmedH U.vm) (hz : va_Nw w s) : va_Nw w U := by
  cases w with
  | fieldLinkNest a b c d e f => exact va_Nw.warmF hW hz
  | methodLinkNest a b c d => exact va_Nw.warmM hW hz
  | declares x => exact va_Nw.warmD hW hz
  | castable a b => exact va_Nw.warmC hW hz
  | arrayOver t =>
    cases t with
    | object C => exact va_AO.moved hW.alike hz
    | array t => exact am_over_warm hW.alike hz
    | _ => cases h
  | _ => cases h
section AMS
variable (P : am_P) (D : va_G) (cl : List vw_C) (A : Nat → Prop) (ca : Nat → ClassId) (RO : am_O) (Ts Nw : List Cond) (zs : List (String × String × String × Nat))
/-- the world's constant part -/
def am_Wo (U : State) (H : Heap) : Prop := va_K D cl (am_tys (am_kd P) ca) U ∧ (∀ w ∈ Nw, va_Nw w U) ∧ (∀ z ∈ zs, va_Z z.1 z.2.1 z.2.2.1 (.ref z.2.2.2) A U H) ∧ (∀ (a n : Nat) (f : Nat → Int32), RO a = some (n, f) → va_T .int a n (fun j => .int (f j)) A U H) ∧ (∀ t t2, am_asA P t t2 = true → ∃ ty, am_AA U (ca t) (ca t2) (.array ty)) ∧ ∀ q, H.size ≤ q → A q
def am_B (M : am_H) (sz : Nat) : State → Prop := fun U => U.heap.size = sz ∧ am_R D cl A ca M U.heap ∧ am_Wo P D cl A ca RO Nw zs U U.heap
def am_Qc (v : Option Value) (M : am_H) (sz : Nat) : Array Value → State → Outcome → State → Prop := fun _ st o t => o = .returned v ∧ t.heap.size = sz ∧ am_R D cl A ca M t.heap ∧ va_F A st t
def am_lk (own : String) (x : Nat) (y : MethodName) : Prop := Cond.methodLink own x y ∈ Ts ∨ ∃ host, Cond.methodLinkNest own x y host ∈ Nw
def am_ar (y : MethodName) (n : Nat) : Prop := (parseMethodDescriptor y.desc).map (fun d => d.parameters.length) = some n
/-- what the tables must say of the program -/
def am_G : Prop :=
  (∀ y mt, am_meth P y = some mt → plainName mt.1.cls = true ∧ am_on P mt.2.2.2.2.2.2 = mt.1.cls ∧ Cond.code mt.1 mt.2.1 mt.2.2.1 mt.2.2.2.1 ∈ Ts ∧ Cond.initialized mt.1.cls ∈ Ts ∧ (mt.1.cls ≠ "java/lang/invoke/MethodHandle" ∧ mt.1.cls ≠ "java/lang/invoke/VarHandle")) ∧
  (∀ o x ci k, am_fld P o x ci = some k → am_fOk Ts Nw cl (am_on P o) x ci k) ∧
  am_cOk Ts cl (am_tyf P) ∧
  (∀ o x ci k, am_fld P o x ci = some k → ∀ C T N, cl[ci]? = some (C, T, N) → (am_pk P o x ci = 1 → (T k).2.2.2 = false) ∧ (am_pk P o x ci = 2 → (T k).1 = am_on P o ∧ Cond.fieldLink (am_on P o) x (T k).1 (T k).2.1 (T k).2.2.1 ∈ Ts)) ∧
  (∀ o k v, am_cst P o k = some v → (∃ x : Int32, v = .int x ∧ Jvm.Cond.constant (am_on P o) k x ∈ Ts) ∨ ∃ x : Int64, v = .long x ∧ Jvm.Cond.constantLong (am_on P o) k x ∈ Ts) ∧
  (∀ o x ci, am_nw P o x = some ci → ∃ C T N, cl[ci]? = some (C, T, N) ∧ Cond.classLink (am_on P o) x C ∈ Ts) ∧
  (∀ ci C T N, cl[ci]? = some (C, T, N) → (am_df P ci).length = N ∧ ∀ j, j < N → defaultValue (am_tyf P ci j) = vp_V (am_df P ci) j) ∧
  (∀ o x t, am_an P o x = some t → (∃ C, (am_kd P)[t]? = some (.object C) ∧ Cond.arrayOver (.object C) ∈ Nw ∧ Cond.classLink (am_on P o) x C ∈ Ts) ∨ ∃ ty, (am_kd P)[t]? = some (.array ty) ∧ Cond.arrayOver (.array ty) ∈ Nw ∧ Cond.classLink (am_on P o) x (FieldType.array ty).toString ∈ Ts) ∧
  (∀ o x a, am_sa0 P o x = some a → am_stOk Ts zs (am_on P o) x a) ∧
  (∀ o x z n mz, am_cs P o x = some (z, n) → am_meth P z = some mz → Cond.static mz.1 ∈ Ts ∧ am_ar mz.1 n ∧ (am_lk Ts Nw (am_on P o) x mz.1 ∨ ∃ C, Cond.methodLink (am_on P o) x ⟨C, mz.1.name, mz.1.desc⟩ ∈ Ts ∧ Cond.sameMethod C mz.1.cls mz.1.name mz.1.desc ∈ Ts)) ∧
  (∀ o x z n mz, am_ci P o x = some (z, n) → am_meth P z = some mz → mz.1.name = "<init>" ∧ mz.2.2.2.1 = none ∧ Cond.instanceMethod mz.1 ∈ Ts ∧ am_ar mz.1 n ∧ am_lk Ts Nw (am_on P o) x mz.1) ∧
  (∀ o x ci z n mz, am_cv P o x ci = some (z, n) → am_meth P z = some mz → ∃ C T N, cl[ci]? = some (C, T, N) ∧ Cond.instanceMethod mz.1 ∈ Ts ∧
    ((am_ar mz.1 n ∧ am_lk Ts Nw (am_on P o) x mz.1 ∧ Cond.selects C mz.1 mz.1 ∈ Ts) ∨
     ∃ (xn : MethodName) (owner : String), am_ar xn n ∧ (owner ≠ "java/lang/invoke/MethodHandle" ∧ owner ≠ "java/lang/invoke/VarHandle") ∧ Cond.methodLink (am_on P o) x xn ∈ Ts ∧ Cond.sameMethod xn.cls owner xn.name xn.desc ∈ Ts ∧ Cond.selects C xn mz.1 ∈ Ts ∧ (Cond.declares ⟨owner, xn.name, xn.desc⟩ ∈ Nw ∨ (Cond.instanceMethod ⟨owner, xn.name, xn.desc⟩ ∈ Ts ∧ ∃ b m0 r0, Cond.code ⟨owner, xn.name, xn.desc⟩ b m0 r0 ∈ Ts)))) ∧
  (∀ o x, (am_nt P o x = 1 → am_acOk Ts (am_on P o) x) ∧ (am_nt P o x = 2 → Cond.methodLink (am_on P o) x Lib.objectInit ∈ Ts ∧ Cond.instanceMethod Lib.objectInit ∈ Ts ∧ Cond.code Lib.objectInit ⟨#[0xb1]⟩ 1 none ∈ Ts) ∧ (am_nt P o x = 3 → am_clOk Ts Nw (am_on P o) x) ∧ (am_nt P o x = 4 → Cond.classLink (am_on P o) x "[I" ∈ Ts) ∧ ∀ t, am_nt P o x = 100 + t → (am_kd P)[t]? = some (.array .long) ∧ Cond.arrayOver (.array .long) ∈ Nw ∧ Cond.classLink (am_on P o) x ("[" ++ (FieldType.array .long).toString) ∈ Ts) ∧
  (∀ o x j, am_nt P o x = 10 + j → am_mOk Ts (am_on P o) x j) ∧
  (∀ t ci, am_asg P t ci = true → ∃ E r, (am_kd P)[t]? = some (.object E) ∧ cl[ci]? = some r ∧ (r.1 = E ∨ Cond.castable r.1 E ∈ Nw)) ∧
  ((am_kd P)[0]? = some .int ∧ (am_kd P)[1]? = some .long ∧ (am_kd P)[2]? = some .boolean) ∧
  (Cond.arrayClass .int ∈ Ts ∧ Cond.arrayClass .long ∈ Ts ∧ Cond.arrayClass .boolean ∈ Ts) ∧
  (∀ w ∈ Ts, goodWord w = true) ∧ ∀ w ∈ Nw, am_nwF w = true
variable {P D cl A ca RO Ts Nw zs}
theorem am_Wo_warm (hf : ∀ w ∈ Nw, am_nwF w = true) {s U : State} {H H1 : Heap} (h : am_Wo P D cl A ca RO Nw zs s H) (hW : s.WarmedH U.vm) (hz : H.size ≤ H1.size) (hq : ∀ a : Nat, a < H.size → ¬ A a → H1[a]? = H[a]?) : am_Wo P D cl A ca RO Nw zs U H1 := by
  obtain ⟨h1, h2, h3, h4, h5, h6⟩ := h
  refine ⟨va_K.moved hW.alike h1, fun w hw => am_nw_warm (hf w hw) hW (h2 w hw), fun z hz => (va_Z.moved hW.alike (h3 z hz)).kept hq, fun a n f he => (va_T.moved hW.alike (h4 a n f he)).kept hq, fun t t2 ht => ?_, fun q hq => h6 q (Nat.le_trans hz hq)⟩
  · obtain ⟨ty, kA, kB, x, tb, k1, k2, k3, k4⟩ := h5 t t2 ht
    obtain ⟨kA', hA', eA⟩ := hW.alike.2.2 _ _ k1
    obtain ⟨kB', hB', eB⟩ := hW.alike.2.2 _ _ k3
    exact ⟨ty, kA', kB', x, tb, hA', by rw [eA]; exact k2, hB', by rw [eB]; exact k4⟩
theorem am_blind (hf : ∀ w ∈ Nw, am_nwF w = true) (vs : List Value) (M : am_H) (sz : Nat) : FrameBlind (va_Pc vs (am_B P D cl A ca RO Nw zs M sz)) := by
  intro a U g mk h
  obtain ⟨e1, e2, e3, h1, h2, h3, h4, h5, h6⟩ := h
  exact ⟨e1, e2, e3, va_K.moved (u := U) (U := U.calling g mk a) (Vm.Alike.refl U.vm) h1, fun w hw => am_nw_same (hf w hw) (u := U) (U := U.calling g mk a) rfl (h2 w hw), fun z hz => va_Z.moved (u := U) (U := U.calling g mk a) (Vm.Alike.refl U.vm) (h3 z hz), fun b n f hb => va_T.moved (u := U) (U := U.calling g mk a) (Vm.Alike.refl U.vm) (h4 b n f hb), h5, h6⟩
section AMSW
variable {p : Program} {l : Launch} {e : Env} {R : Room} {s : State} {m : MethodId} {args : Array Value} {below : List Frame} {meth : Method} {c : Code} {H : Heap} {locs : List Loc} {cells slots : Nat} {Q : State → Prop}
variable {pc : Nat} {ls : Array Slot} {rest st0 : List Value} {a : Array Value} {mc ms : Nat} {v : Option Value} {M1 : am_H} {z1 : Nat}
theorem am_call_W (hr : va_Run p l e R s m args below meth c H locs cells slots mc ms (F0 m pc ls st0) rest (am_Qc D cl A ca v M1 z1 a) A) (hS : va_S A s.heap H locs)
    (kk : ∀ (H1 : Heap) (locs1 : List Loc), H1.size = z1 → am_R D cl A ca M1 H1 → va_S A s.heap H1 locs1 → W p l e R s m args below meth c H1 locs1 (cells + mc) (slots + ms) Q (F0 m (pc + 3) ls (v.toList ++ rest))) : W p l e R s m args below meth c H locs cells slots Q (F0 m pc ls st0) := by
  intro T hT X
  obtain ⟨w, st₀, t, T', L, h0, X', hL, e1, e2, ⟨hv, hz1, hR1, hz, hk⟩, st⟩ := hr T hT X
  cases hv
  rw [h0] at hz hk
  obtain ⟨t2, a1, b1⟩ := kk T'.heap (locs ++ L) (by rw [e1]; exact hz1) (by rw [e1]; exact hR1)
    ⟨Nat.le_trans hS.1 (by rw [e1]; exact hz), fun q h1 h2 => by rw [e1, hk q (Nat.lt_of_lt_of_le h1 hS.1) h2]; exact hS.2.1 q h1 h2, fun q hq => by
      rcases List.mem_append.mp hq with h | h
      · exact hS.2.2 q h
      · exact hL q h⟩ T' rfl X'
  exact ⟨t2, st t2 a1, b1⟩
end AMSW
end AMS
