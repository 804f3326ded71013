/-! AM: System.arraycopy of ints, clone and checkcast of an int array, getstatic of a static array */ -/
section AMN
variable {p : Program} {l : Launch} {e : Env} {R : Room} {s : State} {m : MethodId} {args : Array Value} {below : List Frame} {meth : Method} {c : Code} {H : Heap} {locs : List Loc} {cells slots : Nat} {Q : State → Prop}
variable {cc : ByteArray} {pc : Nat} {ls : Array Slot} {rest : List Value} {D : va_G} {cl : List vw_C} {A : Nat → Prop} {a : Nat} {H0 : Heap} {ca : Nat → ClassId} {kd : List FieldType} {M : am_H} {Ts Nw : List Cond}
/-- the words of arraycopy -/
def am_acOk (Ts : List Cond) (own : String) (index : Nat) : Prop := Cond.methodLink own index arraycopyName ∈ Ts ∧ Cond.native arraycopyName ∈ Ts ∧ Cond.static arraycopyName ∈ Ts ∧ Cond.initialized "java/lang/System" ∈ Ts
theorem am_nn {z : Int32} (hz : ¬ z < 0) : z.toInt = (z.toNatClampNeg : Int) := by
  have hz0 : (0 : Int) ≤ z.toInt := by
    have := Int32.not_lt.mp hz
    simpa using Int32.le_iff_toInt_le.mp this
  show z.toInt = ((z.toInt.toNat : Nat) : Int)
  omega
theorem am_copy_W (hx : p.tables.exec = Jvm.exec) (hb : c.code = cc) (hml : c.maxLocals = ls.size) (hts : ∀ w ∈ Ts, w.before args s = true) {own : String} (hown : s.vm.findClass own = some m.cls) (hK : va_K D cl (am_tys kd ca) s) {index t n0 n1 a0 : Nat} (hac : am_acOk Ts own index) (ht : kd[t]? = some .int) {f g : Nat → Int32} (he0 : va_at D cl (a0, .inl (ca t, n0, .inl f)) H) (he1 : va_at D cl (a, .inl (ca t, n1, .inl g)) H)
    {sp dp n : Int32} (h1 : ¬ sp < 0) (h2 : ¬ dp < 0) (h3 : ¬ n < 0) (h4 : sp.toNatClampNeg + n.toNatClampNeg ≤ n0) (h5 : dp.toNatClampNeg + n.toNatClampNeg ≤ n1) (hfr : 1 ≤ R.frames) (hlo : (rest.map fun v => v.category).sum + (nativeFrameWords "java/lang/System" "arraycopy" 5 + 11) ≤ R.locals) (hd : decode cc pc = .ok (.invokestatic index, 3))
    (kk : ∀ (H1 : Heap) (L : List Loc), va_at D cl (a, .inl (ca t, n1, .inl (va_cpy f g sp.toNatClampNeg dp.toNatClampNeg n.toNatClampNeg))) H1 → H1.size = H.size → (∀ q : Nat, q ≠ a → H1[q]? = H[q]?) → (∀ q ∈ L, q.base = a) → W p l e R s m args below meth c H1 (locs ++ L) cells slots Q (F0 m (pc + 3) ls rest)) : W p l e R s m args below meth c H locs cells slots Q (F0 m pc ls (.int n :: .int dp :: .ref a :: .int sp :: .ref a0 :: rest)) := by
  obtain ⟨w1, w2, w3, w4⟩ := hac
  intro T hT X
  have hc0 : H[a0]? = some (vp_cell (ca t) (n0, .inl f)) := he0
  have hc1 : H[a]? = some (vp_cell (ca t) (n1, .inl g)) := he1
  obtain ⟨-, k0, hk0, cm0, hkk0⟩ := (hK.2 t _ (am_tys_at ht)).1 n0 (fun j => .int (f j))
  obtain ⟨-, k1, hk1, cm1, hkk1⟩ := (hK.2 t _ (am_tys_at ht)).1 n1 (fun j => .int (g j))
  obtain ⟨vm', X', step⟩ := X.arraycopy hx hown (hts _ w1) (hts _ w2) (hts _ w3) (hts _ w4) (src := a0) (dst := a) (cs := vp_cell (ca t) (n0, .inl f)) (cd := vp_cell (ca t) (n1, .inl g)) (srcPos := sp) (destPos := dp) (n := n) (by rw [hT]; exact hc0) (by rw [hT]; exact hc1)
    (fun _ h => by cases h) (fun _ h => by cases h) (fun h => by cases h) (fun h => by cases h) hk0 hk1 hkk0 hkk1 (by simp [refKind]) h1 h2 h3
    (by rw [am_nn h1, am_nn h3]; show ¬ _ > ((arrV (ca t) n0 (fun j => .int (f j))).slots.size : Int); rw [arrV_size]; omega)
    (by rw [am_nn h2, am_nn h3]; show ¬ _ > ((arrV (ca t) n1 (fun j => .int (g j))).slots.size : Int); rw [arrV_size]; omega)
    (fun vm₁ _ i hi => by
      have e : (vp_cell (ca t) (n0, .inl f)).slots.getD (sp.toNatClampNeg + i) .null = .int (f (sp.toNatClampNeg + i)) := by
        show (arrV (ca t) n0 (fun j => .int (f j))).slots.getD _ _ = _
        rw [Array.getD_eq_getD_getElem?, arrV_read _ _ (by omega)]
        rfl
      refine ⟨?_, ?_⟩
      · rw [e]
        rfl
      · rw [e]
        exact trivial)
    (g := F0 m pc ls (.int n :: .int dp :: .ref a :: .int sp :: .ref a0 :: rest)) rfl (by rw [hml]) (rest := rest) rfl (by rw [hb]; exact hd) hfr (by show 2 * 0 + _ + _ ≤ _; omega)
  have e1 : copied (vp_cell (ca t) (n0, .inl f)) (vp_cell (ca t) (n1, .inl g)) sp dp n = vp_cell (ca t) (n1, .inl (va_cpy f g sp.toNatClampNeg dp.toNatClampNeg n.toNatClampNeg)) := va_copied (fun z => .int z) (ca t) (ca t) f g h4
  rw [e1] at X' step
  have hl : a < H.size := (Array.getElem?_eq_some_iff.mp hc1).1
  obtain ⟨t', a1, b1⟩ := kk (H.setIfInBounds a (vp_cell (ca t) (n1, .inl (va_cpy f g sp.toNatClampNeg dp.toNatClampNeg n.toNatClampNeg)))) _ (show (H.setIfInBounds a _)[a]? = some _ by simp [Array.getElem?_setIfInBounds, hl]) (by simp) (fun q hq => by simp [Array.getElem?_setIfInBounds, Ne.symm hq]) (fun q hq => by
    obtain ⟨z, -, hz⟩ := List.mem_map.mp hq
    rw [← hz]) _ (by rw [← hT]; rfl) X'
  exact ⟨t', step t' a1, b1⟩
/-- the words of an int array's clone -/
def am_clOk (Ts Nw : List Cond) (own : String) (index : Nat) : Prop := Cond.methodLink own index ⟨"[I", "clone", "()Ljava/lang/Object;"⟩ ∈ Ts ∧ Cond.sameMethod "[I" "java/lang/Object" "clone" "()Ljava/lang/Object;" ∈ Ts ∧ Cond.native ⟨"java/lang/Object", "clone", "()Ljava/lang/Object;"⟩ ∈ Ts ∧ Cond.instanceMethod ⟨"java/lang/Object", "clone", "()Ljava/lang/Object;"⟩ ∈ Ts ∧
  Cond.selects "[I" ⟨"[I", "clone", "()Ljava/lang/Object;"⟩ ⟨"java/lang/Object", "clone", "()Ljava/lang/Object;"⟩ ∈ Ts ∧ Cond.castable "[I" "java/lang/Cloneable" ∈ Nw
theorem am_nmI {t : Nat} (hK : va_K D cl (am_tys kd ca) s) (ht : kd[t]? = some .int) : s.vm.findClass "[I" = some (ca t) := by
  have hr := (hK.2 t _ (am_tys_at ht)).2
  unfold va_RA at hr
  exact (show ("[" ++ FieldType.int.toString) = "[I" from by decide +kernel) ▸ hr
theorem am_clone_W (hx : p.tables.exec = Jvm.exec) (hb : c.code = cc) (hml : c.maxLocals = ls.size) (hts : ∀ w ∈ Ts, w.before args s = true) (hnw : ∀ w ∈ Nw, va_Nw w s) {own : String} (hown : s.vm.findClass own = some m.cls) (hK : va_K D cl (am_tys kd ca) s) {index t n0 : Nat} (hac : am_clOk Ts Nw own index) (ht : kd[t]? = some .int) {f : Nat → Int32} (he0 : va_at D cl (a, .inl (ca t, n0, .inl f)) H)
    (hfr : 1 ≤ R.frames) (hlo : (rest.map fun v => v.category).sum + 14 ≤ R.locals) (hcells : cells + 1 ≤ R.cells) (hslots : slots + n0 ≤ R.slots) (hd : decode cc pc = .ok (.invokevirtual index, 3))
    (kk : ∀ (H1 : Heap), va_at D cl (H.size, .inl (ca t, n0, .inl f)) H1 → H1.size = H.size + 1 → (∀ q : Nat, q < H.size → H1[q]? = H[q]?) → W p l e R s m args below meth c H1 locs (cells + 1) (slots + n0) Q (F0 m (pc + 3) ls (.ref H.size :: rest))) : W p l e R s m args below meth c H locs cells slots Q (F0 m pc ls (.ref a :: rest)) := by
  obtain ⟨w1, w2, w3, w4, w5, w6⟩ := hac
  have hnm := am_nmI hK ht
  have hsz : (vp_cell (ca t) (n0, .inl f)).slots.size = n0 := arrV_size _ _ _
  obtain ⟨c0, t0', f1, f2, f3⟩ := Cond.castable_spec (va_Nw.use (A := args) rfl (hnw _ w6))
  cases hnm.symm.trans f1
  intro T hT X
  have hcellT : T.heap[a]? = some (vp_cell (ca t) (n0, .inl f)) := by rw [hT]; exact he0
  obtain ⟨-, kA, hkA, comp, hkind⟩ := State.isArrayOf_alike X.warmed.alike ((hK.2 t _ (am_tys_at ht)).1 0 (fun _ => .null))
  obtain ⟨-, kS, hkS, compS, hkindS⟩ := (hK.2 t _ (am_tys_at ht)).1 0 (fun _ => .null)
  obtain ⟨vm', X', st⟩ := X.cloneArray hx hown (hts _ w1) (hts _ w2) (hts _ w3) (hts _ w4) (hts _ w5) (a := a) (cell := vp_cell (ca t) (n0, .inl f)) hcellT (fun k h => by cases h) (fun h => by cases h) hnm f2 f3
    (fun i v hv => by
      have hk' : T.vm.classes[ca t]? = some kA := hkA
      have hfit : fits .int v = true := by
        have h9 : (arrV (ca t) n0 (fun j => Value.int (f j))).slots[i]? = some v := hv
        by_cases hi : i < n0
        · rw [arrV_read _ _ hi] at h9
          cases h9
          rfl
        · have h8 := (Array.getElem?_eq_some_iff.mp h9).1
          rw [arrV_size] at h8
          exact absurd h8 hi
      show T.fitsSlot (ca t) .none i v = true
      simpa [State.fitsSlot, State.slotType?, hk', hkind] using hfit)
    (g := F0 m pc ls (.ref a :: rest)) rfl (by rw [hml]) rfl (by rw [hb]; exact hd) hfr (by show 2 * 0 + _ + 14 ≤ _; omega) hcells (by rw [hsz]; exact hslots) (hloader := Vm.clonesLoader_of_array hkS hkindS)
  rw [hsz] at X'
  generalize hH1 : H.push (vp_cell (ca t) (n0, .inl f)) = H1
  have z1 : H1.size = H.size + 1 := by rw [← hH1, Array.size_push]
  have e1 : H1[H.size]? = some (vp_cell (ca t) (n0, .inl f)) := by rw [← hH1, Array.getElem?_push_size]
  have o1 : ∀ q : Nat, q < H.size → H1[q]? = H[q]? := fun q hq => by rw [← hH1, Array.getElem?_push, if_neg (Nat.ne_of_lt hq)]
  obtain ⟨t', b1, b2⟩ := kk H1 e1 z1 o1 _ (by rw [← hH1, ← hT]; rfl) X'
  refine ⟨t', st t' ?_, b2⟩
  have e9 : T.heap.size = H.size := by rw [hT]
  rw [e9]
  exact b1
theorem am_castA_W (hx : p.tables.exec = Jvm.exec) (hb : c.code = cc) (hts : ∀ w ∈ Ts, w.before args s = true) {own : String} (hown : s.vm.findClass own = some m.cls) (hK : va_K D cl (am_tys kd ca) s) {index t : Nat} {x : vp_A} (hw : Cond.classLink own index "[I" ∈ Ts) (ht : kd[t]? = some .int) (he : va_at D cl (a, .inl (ca t, x)) H) (hd : decode cc pc = .ok (.checkcast index, 3))
    (kk : W p l e R s m args below meth c H locs cells slots Q (F0 m (pc + 3) ls (.ref a :: rest))) : W p l e R s m args below meth c H locs cells slots Q (F0 m pc ls (.ref a :: rest)) :=
  va_castA hx hb hown (hts _ hw) (am_one he) 0 rfl (am_nmI hK ht) hd kk
/-- the words of a static array -/
def am_stOk (Ts : List Cond) (zs : List (String × String × String × Nat)) (own : String) (index : Nat) (v : Nat) : Prop := ∃ C n d : String, (C, n, d, v) ∈ zs ∧ Cond.fieldLink own index C n d ∈ Ts
theorem am_gets_W (hx : p.tables.exec = Jvm.exec) (hb : c.code = cc) (hts : ∀ w ∈ Ts, w.before args s = true) {own : String} (hown : s.vm.findClass own = some m.cls) {zs : List (String × String × String × Nat)} (hZ : ∀ z ∈ zs, va_Z z.1 z.2.1 z.2.2.1 (.ref z.2.2.2) A s s.heap) (hS : va_S A s.heap H locs) {index v : Nat} (hst : am_stOk Ts zs own index v) (hd : decode cc pc = .ok (.getstatic index, 3))
    (kk : W p l e R s m args below meth c H locs cells slots Q (F0 m (pc + 3) ls (.ref v :: rest))) : W p l e R s m args below meth c H locs cells slots Q (F0 m pc ls rest) := by
  obtain ⟨C, n, d, h1, h2⟩ := hst
  exact va_gets hx hb (hZ _ h1) hS hown (hts _ h2) (fun x h => h) hd kk
/-- Math: 0 the greater of two ints, 1 the lesser, 2 the lesser of two longs, 3 a long's size -/
def am_mth : Nat → List Value → Option Value
  | 0, [.int y, .int x] => some (.int (if x < y then y else x))
  | 1, [.int y, .int x] => some (.int (if y < x then y else x))
  | 2, [.long y, .long x] => some (.long (if y < x then y else x))
  | 3, [.long x] => some (.long (if 0 < x then x else -x))
  | _, _ => none
def am_mOk (Ts : List Cond) (own : String) (index : Nat) : Nat → Prop
  | 0 => Cond.methodLink own index Lib.Math.max.name ∈ Ts ∧ Cond.static Lib.Math.max.name ∈ Ts ∧ Cond.initialized "java/lang/Math" ∈ Ts ∧ Cond.code Lib.Math.max.name Lib.Math.max.code 2 (some .int) ∈ Ts
  | 1 => Cond.methodLink own index Lib.Math.min.name ∈ Ts ∧ Cond.static Lib.Math.min.name ∈ Ts ∧ Cond.initialized "java/lang/Math" ∈ Ts ∧ Cond.code Lib.Math.min.name Lib.Math.min.code 2 (some .int) ∈ Ts
  | 2 => Cond.methodLink own index Lib.MathLoose.min_long.x ∈ Ts ∧ Cond.static Lib.MathLoose.min_long.x ∈ Ts ∧ Cond.initialized "java/lang/Math" ∈ Ts ∧ Cond.code Lib.MathLoose.min_long.x Lib.MathLoose.min_long.code 4 (some .long) ∈ Ts
  | 3 => Cond.methodLink own index Lib.MathLoose.abs_long.x ∈ Ts ∧ Cond.static Lib.MathLoose.abs_long.x ∈ Ts ∧ Cond.initialized "java/lang/Math" ∈ Ts ∧ Cond.code Lib.MathLoose.abs_long.x Lib.MathLoose.abs_long.code 2 (some .long) ∈ Ts
  | _ => True
theorem am_mth_W (hx : p.tables.exec = Jvm.exec) (hb : c.code = cc) (hml : c.maxLocals = ls.size) (hts : ∀ w ∈ Ts, w.before args s = true) {own : String} (hown : s.vm.findClass own = some m.cls) {index j : Nat} (hac : am_mOk Ts own index j) {vs : List Value} {v : Value} (hv : am_mth j vs = some v) (hfr : 1 ≤ R.frames) (hlo : (rest.map fun v => v.category).sum + 15 ≤ R.locals) (hc : cells ≤ R.cells) (hs : slots ≤ R.slots) (hd : decode cc pc = .ok (.invokestatic index, 3))
    (kk : W p l e R s m args below meth c H locs cells slots Q (F0 m (pc + 3) ls (v :: rest))) : W p l e R s m args below meth c H locs cells slots Q (F0 m pc ls (vs ++ rest)) := by
  unfold am_mth at hv
  split at hv
  · obtain ⟨w1, w2, w3, w4⟩ := hac
    injection hv with hv
    subst hv
    exact va_mmax (rest := rest) hx hb hml hown (hts _ w1) (hts _ w2) (hts _ w3) (hts _ w4) hfr (by omega) hc hs hd kk
  · obtain ⟨w1, w2, w3, w4⟩ := hac
    injection hv with hv
    subst hv
    exact va_mmin (rest := rest) hx hb hml hown (hts _ w1) (hts _ w2) (hts _ w3) (hts _ w4) hfr (by omega) hc hs hd kk
  · obtain ⟨w1, w2, w3, w4⟩ := hac
    injection hv with hv
    subst hv
    exact va_mmin_long (rest := rest) hx hb hml hown (hts _ w1) (hts _ w2) (hts _ w3) (hts _ w4) hfr (by omega) hc hs hd kk
  · obtain ⟨w1, w2, w3, w4⟩ := hac
    injection hv with hv
    subst hv
    exact va_mabs_long (rest := rest) hx hb hml hown (hts _ w1) (hts _ w2) (hts _ w3) (hts _ w4) hfr (by omega) hc hs hd kk
  · cases hv
end AMN
