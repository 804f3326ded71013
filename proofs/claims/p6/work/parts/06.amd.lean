/-! AM: the program's tables, a step, runs */ -/
/-- name, code, locals, answer's type, room: frames, words of locals; its class's number -/
abbrev am_Meth : Type := MethodName × ByteArray × Nat × Option FieldType × Nat × Nat × Nat
abbrev am_P : Type := (Nat → Option am_Meth) × (Nat → Nat → Nat → Option Nat) × (Nat → Nat → FieldType) × (Nat → Nat → Nat → Nat) × (Nat → Nat → Option Value) × (Nat → Nat → Option Nat) × (Nat → List Value) × (Nat → Nat → Option Nat) × (Nat → Nat → Option Nat) ×
  (Nat → Nat → Option (Nat × Nat)) × (Nat → Nat → Option (Nat × Nat)) × (Nat → Nat → Nat → Option (Nat × Nat)) × (Nat → Nat → Nat) × (Nat → Nat → Bool) × (Nat → Nat → Bool) × List FieldType × (Nat → String)
def am_meth (P : am_P) : Nat → Option am_Meth := P.1
def am_fld (P : am_P) : Nat → Nat → Nat → Option Nat := P.2.1
def am_tyf (P : am_P) : Nat → Nat → FieldType := P.2.2.1
/-- 1: may be put; 2: in a constructor alone -/
def am_pk (P : am_P) : Nat → Nat → Nat → Nat := P.2.2.2.1
def am_cst (P : am_P) : Nat → Nat → Option Value := P.2.2.2.2.1
def am_nw (P : am_P) : Nat → Nat → Option Nat := P.2.2.2.2.2.1
def am_df (P : am_P) : Nat → List Value := P.2.2.2.2.2.2.1
def am_an (P : am_P) : Nat → Nat → Option Nat := P.2.2.2.2.2.2.2.1
def am_sa0 (P : am_P) : Nat → Nat → Option Nat := P.2.2.2.2.2.2.2.2.1
def am_cs (P : am_P) : Nat → Nat → Option (Nat × Nat) := P.2.2.2.2.2.2.2.2.2.1
def am_ci (P : am_P) : Nat → Nat → Option (Nat × Nat) := P.2.2.2.2.2.2.2.2.2.2.1
def am_cv (P : am_P) : Nat → Nat → Nat → Option (Nat × Nat) := P.2.2.2.2.2.2.2.2.2.2.2.1
/-- 1 arraycopy, 2 Object's constructor, 3 an int array's clone, 4 the cast to int[], 5 new long[..][..] -/
def am_nt (P : am_P) : Nat → Nat → Nat := P.2.2.2.2.2.2.2.2.2.2.2.2.1
def am_asg (P : am_P) : Nat → Nat → Bool := P.2.2.2.2.2.2.2.2.2.2.2.2.2.1
def am_asA (P : am_P) : Nat → Nat → Bool := P.2.2.2.2.2.2.2.2.2.2.2.2.2.2.1
def am_kd (P : am_P) : List FieldType := P.2.2.2.2.2.2.2.2.2.2.2.2.2.2.2.1
/-- a class's name -/
def am_on (P : am_P) : Nat → String := P.2.2.2.2.2.2.2.2.2.2.2.2.2.2.2.2
/-- static arrays of ints and the law's script: read, never written -/
abbrev am_O : Type := Nat → Option (Nat × (Nat → Int32))
def am_new (at' : ArrayType) (n : Nat) : Option (Nat × vp_A) := match at' with
  | .int => some (0, n, .inl (fun _ => 0))
  | .long => some (1, n, .inr (.inl (fun _ => 0)))
  | .boolean => some (2, n, .inl (fun _ => 0))
  | _ => none
abbrev am_K : Type := Nat → List Value → am_H → Nat → Nat → Prop
def am_qa (t n : Nat) (f : Nat → Option Nat) : am_E := .inl (t, n, .inr (.inr (.inr (.inr f))))
/-- new long[N][K] at sz -/
def am_mna (t : Nat) (M : am_H) (sz N K : Nat) : am_H := fun q => if q = sz then some (am_qa t N (fun i => if i < N then some (sz + 1 + i) else none)) else if sz < q ∧ q < sz + 1 + N then some (.inl (1, K, .inr (.inl (fun _ => 0)))) else M q
def am_hp (P : am_P) (RO : am_O) (own : Nat) (ini : Bool) (i : Instr) (len pc : Nat) (st : List Value) (M : am_H) (sz sl : Nat) (K : am_K) : Prop := match i with
  | .getfield x => len = 3 ∧ ∃ a r ci fs k v, st = Value.ref a :: r ∧ M a = some (.inr (ci, fs)) ∧ am_fld P own x ci = some k ∧ fs[k]? = some v ∧ K (pc + 3) (v :: r) M sz sl
  | .putfield x => len = 3 ∧ ∃ v a r ci fs k, st = v :: Value.ref a :: r ∧ M a = some (.inr (ci, fs)) ∧ am_fld P own x ci = some k ∧ (am_pk P own x ci = 1 ∨ am_pk P own x ci = 2 ∧ ini = true) ∧ k < fs.length ∧ narrow (am_tyf P ci k) v = v ∧ fits (am_tyf P ci k) v = true ∧ K (pc + 3) r (am_set M a (.inr (ci, fs.set k v))) sz sl
  | .getstatic x => len = 3 ∧ ∃ a, am_sa0 P own x = some a ∧ K (pc + 3) (Value.ref a :: st) M sz sl
  | .new x => len = 3 ∧ ∃ ci, am_nw P own x = some ci ∧ K (pc + 3) (Value.ref sz :: st) (am_set M sz (.inr (ci, am_df P ci))) (sz + 1) (sl + (am_df P ci).length)
  | .newarray ty => len = 2 ∧ ∃ n r t x, st = Value.int n :: r ∧ ¬ n < 0 ∧ n.toNatClampNeg * 8 ≤ 536870912 ∧ am_new ty n.toNatClampNeg = some (t, x) ∧ K (pc + 2) (Value.ref sz :: r) (am_set M sz (.inl (t, x))) (sz + 1) (sl + n.toNatClampNeg)
  | .anewarray x => len = 3 ∧ ∃ n r t, st = Value.int n :: r ∧ ¬ n < 0 ∧ n.toNatClampNeg * 4 ≤ 536870912 ∧ am_an P own x = some t ∧ K (pc + 3) (Value.ref sz :: r) (am_set M sz (am_qa t n.toNatClampNeg (fun _ => none))) (sz + 1) (sl + n.toNatClampNeg)
  | .arraylength => len = 1 ∧ ∃ a r t x, st = Value.ref a :: r ∧ ((M a = some (.inl (t, x)) ∧ t < (am_kd P).length) ∨ (M a = none ∧ ∃ f, RO a = some (x.1, f))) ∧ K (pc + 1) (Value.int (Int32.ofNat x.1) :: r) M sz sl
  | .iaload => len = 1 ∧ ∃ j a r n f, st = Value.int j :: Value.ref a :: r ∧ (M a = some (.inl (0, n, .inl f)) ∨ (M a = none ∧ RO a = some (n, f))) ∧ vp_in j n ∧ K (pc + 1) (Value.int (f j.toNatClampNeg) :: r) M sz sl
  | .baload => len = 1 ∧ ∃ j a r n f, st = Value.int j :: Value.ref a :: r ∧ M a = some (.inl (2, n, .inl f)) ∧ vp_in j n ∧ K (pc + 1) (Value.int (f j.toNatClampNeg) :: r) M sz sl
  | .laload => len = 1 ∧ ∃ j a r n f, st = Value.int j :: Value.ref a :: r ∧ M a = some (.inl (1, n, .inr (.inl f))) ∧ vp_in j n ∧ K (pc + 1) (Value.long (f j.toNatClampNeg) :: r) M sz sl
  | .aaload => len = 1 ∧ ∃ j a r n t f ty, st = Value.int j :: Value.ref a :: r ∧ M a = some (am_qa t n f) ∧ (am_kd P)[t]? = some ty ∧ ty.isReference = true ∧ vp_in j n ∧ K (pc + 1) (va_rf (f j.toNatClampNeg) :: r) M sz sl
  | .iastore => len = 1 ∧ ∃ x j a r n f, st = Value.int x :: Value.int j :: Value.ref a :: r ∧ M a = some (.inl (0, n, .inl f)) ∧ vp_in j n ∧ K (pc + 1) r (am_set M a (.inl (0, n, .inl (upd f j.toNatClampNeg x)))) sz sl
  | .bastore => len = 1 ∧ ∃ x j a r n f, st = Value.int x :: Value.int j :: Value.ref a :: r ∧ M a = some (.inl (2, n, .inl f)) ∧ vp_in j n ∧ K (pc + 1) r (am_set M a (.inl (2, n, .inl (upd f j.toNatClampNeg (vp_nar .boolean x))))) sz sl
  | .lastore => len = 1 ∧ ∃ x j a r n f, st = Value.long x :: Value.int j :: Value.ref a :: r ∧ M a = some (.inl (1, n, .inr (.inl f))) ∧ vp_in j n ∧ K (pc + 1) r (am_set M a (.inl (1, n, .inr (.inl (vp_updL f j.toNatClampNeg x))))) sz sl
  | .aastore => len = 1 ∧ ((∃ v j a r n t f ci vs, st = Value.ref v :: Value.int j :: Value.ref a :: r ∧ M a = some (am_qa t n f) ∧ M v = some (.inr (ci, vs)) ∧ am_asg P t ci = true ∧ vp_in j n ∧ K (pc + 1) r (am_set M a (am_qa t n (va_up f j.toNatClampNeg (some v)))) sz sl) ∨
      (∃ v j a r n t f t2 x, st = Value.ref v :: Value.int j :: Value.ref a :: r ∧ M a = some (am_qa t n f) ∧ M v = some (.inl (t2, x)) ∧ am_asA P t t2 = true ∧ vp_in j n ∧ K (pc + 1) r (am_set M a (am_qa t n (va_up f j.toNatClampNeg (some v)))) sz sl) ∨
      (∃ j a r n t f E, st = Value.null :: Value.int j :: Value.ref a :: r ∧ M a = some (am_qa t n f) ∧ (am_kd P)[t]? = some (.object E) ∧ vp_in j n ∧ K (pc + 1) r (am_set M a (am_qa t n (va_up f j.toNatClampNeg none))) sz sl))
  | .multianewarray x d => len = 4 ∧ d = 2 ∧ ∃ kn n r t, st = Value.int kn :: Value.int n :: r ∧ am_nt P own x = 100 + t ∧ ¬ n < 0 ∧ ¬ kn < 0 ∧ n.toNatClampNeg * 4 ≤ 536870912 ∧ kn.toNatClampNeg * 8 ≤ 536870912 ∧ K (pc + 4) (Value.ref sz :: r) (am_mna t M sz n.toNatClampNeg kn.toNatClampNeg) (sz + 1 + n.toNatClampNeg) (sl + n.toNatClampNeg + n.toNatClampNeg * kn.toNatClampNeg)
  | .checkcast x => len = 3 ∧ am_nt P own x = 4 ∧ ∃ a r y, st = Value.ref a :: r ∧ M a = some (.inl (0, y)) ∧ K (pc + 3) st M sz sl
  | _ => False
def am_cat (r : List Value) : Nat := (r.map fun v => v.category).sum
def am_nat (P : am_P) (RO : am_O) (mt : am_Meth) (i : Instr) (len pc : Nat) (st : List Value) (M : am_H) (sz sl : Nat) (K : am_K) : Prop := match i with
  | .invokespecial x => len = 3 ∧ am_nt P mt.2.2.2.2.2.2 x = 2 ∧ ∃ a r, st = Value.ref a :: r ∧ 1 ≤ mt.2.2.2.2.1 ∧ am_cat r + 12 ≤ mt.2.2.2.2.2.1 ∧ K (pc + 3) r M sz sl
  | .invokestatic x => len = 3 ∧ ((am_nt P mt.2.2.2.2.2.2 x = 1 ∧ ∃ n dp a sp a0 r n0 n1 f g, st = Value.int n :: Value.int dp :: Value.ref a :: Value.int sp :: Value.ref a0 :: r ∧ M a0 = some (.inl (0, n0, .inl f)) ∧ M a = some (.inl (0, n1, .inl g)) ∧ ¬ sp < 0 ∧ ¬ dp < 0 ∧ ¬ n < 0 ∧ sp.toNatClampNeg + n.toNatClampNeg ≤ n0 ∧ dp.toNatClampNeg + n.toNatClampNeg ≤ n1 ∧
      1 ≤ mt.2.2.2.2.1 ∧ am_cat r + (nativeFrameWords "java/lang/System" "arraycopy" 5 + 11) ≤ mt.2.2.2.2.2.1 ∧ K (pc + 3) r (am_set M a (.inl (0, n1, .inl (va_cpy f g sp.toNatClampNeg dp.toNatClampNeg n.toNatClampNeg)))) sz sl) ∨
      ∃ j vs r v, am_nt P mt.2.2.2.2.2.2 x = 10 + j ∧ st = vs ++ r ∧ am_mth j vs = some v ∧ 1 ≤ mt.2.2.2.2.1 ∧ am_cat r + 15 ≤ mt.2.2.2.2.2.1 ∧ K (pc + 3) (v :: r) M sz sl)
  | .invokevirtual x => len = 3 ∧ am_nt P mt.2.2.2.2.2.2 x = 3 ∧ ∃ a r n f, st = Value.ref a :: r ∧ M a = some (.inl (0, n, .inl f)) ∧ 1 ≤ mt.2.2.2.2.1 ∧ am_cat r + 14 ≤ mt.2.2.2.2.2.1 ∧ K (pc + 3) (Value.ref sz :: r) (am_set M sz (.inl (0, n, .inl f))) (sz + 1) (sl + n)
  | _ => False
def am_ret (mt : am_Meth) (i : Instr) (len : Nat) (st : List Value) (Q : Option Value → Prop) : Prop := match i with
  | .return_ => len = 1 ∧ st = [] ∧ mt.2.2.2.1 = none ∧ Q none
  | .ireturn => len = 1 ∧ ∃ v ty, st = [Value.int v] ∧ mt.2.2.2.1 = some ty ∧ narrow ty (.int v) = .int v ∧ Q (some (.int v))
  | .lreturn => len = 1 ∧ ∃ v, st = [Value.long v] ∧ mt.2.2.2.1 = some .long ∧ Q (some (.long v))
  | .areturn => len = 1 ∧ ∃ v ty, st = [v] ∧ mt.2.2.2.1 = some ty ∧ ((∃ n, ty = .object n) ∨ ∃ t, ty = .array t) ∧ (v = .null ∨ ∃ a, v = .ref a) ∧ Q (some v)
  | _ => False
/-- a call: which method, with which arguments (the receiver first), what stays on the stack -/
def am_call (P : am_P) (M : am_H) (own : Nat) (i : Instr) (st : List Value) (z : Nat) (vs r : List Value) : Prop := match i with
  | .invokestatic x => ∃ n, am_cs P own x = some (z, n) ∧ st = vs.reverse ++ r ∧ vs.length = n
  | .invokespecial x => ∃ n b As, am_ci P own x = some (z, n) ∧ vs = Value.ref b :: As ∧ st = As.reverse ++ Value.ref b :: r ∧ As.length = n
  | .invokevirtual x => ∃ n b As ci fs, M b = some (.inr (ci, fs)) ∧ am_cv P own x ci = some (z, n) ∧ vs = Value.ref b :: As ∧ st = As.reverse ++ Value.ref b :: r ∧ As.length = n
  | _ => False
abbrev am_Q : Type := Option Value → am_H → Nat → Nat → Prop
abbrev am_F : Type := Nat → am_L → List Value → am_H → Nat → Nat → Prop
abbrev am_C : Type := Nat → List Value → am_H → Nat → Nat → am_Q → Prop
def am_room (mt mz : am_Meth) : Prop := mz.2.2.2.2.1 + 1 ≤ mt.2.2.2.2.1 ∧ 8 + (mz.2.2.1 + 11) + mz.2.2.2.2.2.1 ≤ mt.2.2.2.2.2.1
def am_step (P : am_P) (RO : am_O) (mt : am_Meth) (i : Instr) (len pc : Nat) (lv : am_L) (st : List Value) (M : am_H) (sz sl : Nat) (K : am_F) (C : am_C) (Q : am_Q) : Prop :=
  (∃ v, am_push (am_cst P mt.2.2.2.2.2.2) i lv = some (len, v) ∧ K (pc + len) lv (v :: st) M sz sl) ∨
  (len = 1 ∧ ∃ st', am_op i st = some st' ∧ am_nz i st ∧ K (pc + 1) lv st' M sz sl) ∨
  (∃ l0 n lv' st', am_sto i lv st = some (l0, n, lv', st') ∧ n ≤ mt.2.2.1 ∧ (len = l0 ∨ (l0 = 3 ∧ len = 6)) ∧ K (pc + len) lv' st' M sz sl) ∨
  am_br i len pc st (fun t r => K t lv r M sz sl) ∨
  am_hp P RO mt.2.2.2.2.2.2 (mt.1.name == "<init>") i len pc st M sz sl (fun t r M' z' l' => K t lv r M' z' l') ∨
  am_ret mt i len st (fun v => Q v M sz sl) ∨
  (len = 3 ∧ ∃ z vs r mz, am_call P M mt.2.2.2.2.2.2 i st z vs r ∧ am_meth P z = some mz ∧ am_room mt mz ∧ (lg_sl vs).length ≤ mz.2.2.1 ∧ am_cat r ≤ 8 ∧ C z vs M sz sl (fun v M' z' l' => K (pc + 3) lv (v.toList ++ r) M' z' l')) ∨
  am_nat P RO mt i len pc st M sz sl (fun t r M' z' l' => K t lv r M' z' l')
def am_W (P : am_P) (RO : am_O) : Nat → Nat → Nat → am_L → List Value → am_H → Nat → Nat → am_Q → Prop
  | 0, _, _, _, _, _, _, _, _ => False
  | k + 1, y, pc, lv, st, M, sz, sl, Q => ∃ mt, am_meth P y = some mt ∧ ∃ i len, decode mt.2.1 pc = .ok (i, len) ∧
      am_step P RO mt i len pc lv st M sz sl (fun pc' lv' st' M' z' l' => am_W P RO k y pc' lv' st' M' z' l' Q) (fun z vs M' z' l' Q' => am_W P RO k z 0 (lv_args 0 vs) [] M' z' l' Q') Q
theorem am_br_c {i : Instr} {len pc : Nat} {st : List Value} {K : Nat → List Value → Prop} (h : am_br i len pc st K) : ∃ t r, K t r ∧ ∀ K' : Nat → List Value → Prop, K' t r → am_br i len pc st K' := by
  cases i with
  | goto off =>
    obtain ⟨h0, t, ht, h1⟩ := h
    exact ⟨t, st, h1, fun K' k => ⟨h0, t, ht, k⟩⟩
  | ifCond cd off =>
    obtain ⟨h0, x, r, hs, t, ht, h1, h2⟩ := h
    by_cases q : am_c0 cd x
    · exact ⟨t, r, h1 q, fun K' k => ⟨h0, x, r, hs, t, ht, fun _ => k, fun n => absurd q n⟩⟩
    · exact ⟨pc + 3, r, h2 q, fun K' k => ⟨h0, x, r, hs, t, ht, fun n => absurd n q, fun _ => k⟩⟩
  | if_icmp cd off =>
    obtain ⟨h0, y, x, r, hs, t, ht, h1, h2⟩ := h
    by_cases q : am_c2 cd x y
    · exact ⟨t, r, h1 q, fun K' k => ⟨h0, y, x, r, hs, t, ht, fun _ => k, fun n => absurd q n⟩⟩
    · exact ⟨pc + 3, r, h2 q, fun K' k => ⟨h0, y, x, r, hs, t, ht, fun n => absurd n q, fun _ => k⟩⟩
  | ifnull off =>
    obtain ⟨h0, ⟨x, r, hs, h1⟩ | ⟨r, hs, t, ht, h1⟩⟩ := h
    · exact ⟨pc + 3, r, h1, fun K' k => ⟨h0, Or.inl ⟨x, r, hs, k⟩⟩⟩
    · exact ⟨t, r, h1, fun K' k => ⟨h0, Or.inr ⟨r, hs, t, ht, k⟩⟩⟩
  | ifnonnull off =>
    obtain ⟨h0, ⟨x, r, hs, t, ht, h1⟩ | ⟨r, hs, h1⟩⟩ := h
    · exact ⟨t, r, h1, fun K' k => ⟨h0, Or.inl ⟨x, r, hs, t, ht, k⟩⟩⟩
    · exact ⟨pc + 3, r, h1, fun K' k => ⟨h0, Or.inr ⟨r, hs, k⟩⟩⟩
  | tableswitch dflt lo hi offs =>
    obtain ⟨x, r, hs, h1, h2⟩ := h
    by_cases hq : x.toInt < lo ∨ hi < x.toInt
    · obtain ⟨t, ht, h3⟩ := h1 hq
      exact ⟨t, r, h3, fun K' k => ⟨x, r, hs, fun _ => ⟨t, ht, k⟩, fun n1 n2 => absurd hq (fun z => z.elim n1 n2)⟩⟩
    · obtain ⟨off, ho, t, ht, h3⟩ := h2 (fun z => hq (Or.inl z)) (fun z => hq (Or.inr z))
      exact ⟨t, r, h3, fun K' k => ⟨x, r, hs, fun n => absurd n hq, fun _ _ => ⟨off, ho, t, ht, k⟩⟩⟩
  | lookupswitch dflt ps =>
    obtain ⟨x, r, hs, h1, t, ht, h3⟩ := h
    exact ⟨t, r, h3, fun K' k => ⟨x, r, hs, h1, t, ht, k⟩⟩
  | _ => exact False.elim h
theorem am_hp_c {P : am_P} {RO : am_O} {own : Nat} {ini : Bool} {i : Instr} {len pc : Nat} {st : List Value} {M : am_H} {sz sl : Nat} {K : am_K} (h : am_hp P RO own ini i len pc st M sz sl K) :
    ∃ t r M' z' l', K t r M' z' l' ∧ sz ≤ z' ∧ sl ≤ l' ∧ ∀ K' : am_K, K' t r M' z' l' → am_hp P RO own ini i len pc st M sz sl K' := by
  cases i with
  | getfield x =>
    obtain ⟨h0, a, r, ci, fs, k, v, h1, h2, h3, h4, h5⟩ := h
    exact ⟨_, _, _, _, _, h5, Nat.le_refl _, Nat.le_refl _, fun K' q => ⟨h0, a, r, ci, fs, k, v, h1, h2, h3, h4, q⟩⟩
  | putfield x =>
    obtain ⟨h0, v, a, r, ci, fs, k, h1, h2, h3, h4, h5, h6, h7, h8⟩ := h
    exact ⟨_, _, _, _, _, h8, Nat.le_refl _, Nat.le_refl _, fun K' q => ⟨h0, v, a, r, ci, fs, k, h1, h2, h3, h4, h5, h6, h7, q⟩⟩
  | getstatic x =>
    obtain ⟨h0, a, h1, h2⟩ := h
    exact ⟨_, _, _, _, _, h2, Nat.le_refl _, Nat.le_refl _, fun K' q => ⟨h0, a, h1, q⟩⟩
  | new x =>
    obtain ⟨h0, ci, h1, h2⟩ := h
    exact ⟨_, _, _, _, _, h2, Nat.le_succ _, Nat.le_add_right _ _, fun K' q => ⟨h0, ci, h1, q⟩⟩
  | newarray ty =>
    obtain ⟨h0, n, r, t, x, h1, h2, h3, h4, h5⟩ := h
    exact ⟨_, _, _, _, _, h5, Nat.le_succ _, Nat.le_add_right _ _, fun K' q => ⟨h0, n, r, t, x, h1, h2, h3, h4, q⟩⟩
  | anewarray x =>
    obtain ⟨h0, n, r, t, h1, h2, h3, h4, h5⟩ := h
    exact ⟨_, _, _, _, _, h5, Nat.le_succ _, Nat.le_add_right _ _, fun K' q => ⟨h0, n, r, t, h1, h2, h3, h4, q⟩⟩
  | arraylength =>
    obtain ⟨h0, a, r, t, x, h1, h2, h3⟩ := h
    exact ⟨_, _, _, _, _, h3, Nat.le_refl _, Nat.le_refl _, fun K' q => ⟨h0, a, r, t, x, h1, h2, q⟩⟩
  | multianewarray x d =>
    obtain ⟨h0, hd, kn, n, r, t, h1, h2, h3, h4, h5, h6, h7⟩ := h
    exact ⟨_, _, _, _, _, h7, by omega, by omega, fun K' q => ⟨h0, hd, kn, n, r, t, h1, h2, h3, h4, h5, h6, q⟩⟩
  | iaload =>
    obtain ⟨h0, j, a, r, n, f, h1, h2, h3, h4⟩ := h
    exact ⟨_, _, _, _, _, h4, Nat.le_refl _, Nat.le_refl _, fun K' q => ⟨h0, j, a, r, n, f, h1, h2, h3, q⟩⟩
  | baload =>
    obtain ⟨h0, j, a, r, n, f, h1, h2, h3, h4⟩ := h
    exact ⟨_, _, _, _, _, h4, Nat.le_refl _, Nat.le_refl _, fun K' q => ⟨h0, j, a, r, n, f, h1, h2, h3, q⟩⟩
  | laload =>
    obtain ⟨h0, j, a, r, n, f, h1, h2, h3, h4⟩ := h
    exact ⟨_, _, _, _, _, h4, Nat.le_refl _, Nat.le_refl _, fun K' q => ⟨h0, j, a, r, n, f, h1, h2, h3, q⟩⟩
  | aaload =>
    obtain ⟨h0, j, a, r, n, t, f, ty, h1, h2, h3, h4, h5, h6⟩ := h
    exact ⟨_, _, _, _, _, h6, Nat.le_refl _, Nat.le_refl _, fun K' q => ⟨h0, j, a, r, n, t, f, ty, h1, h2, h3, h4, h5, q⟩⟩
  | iastore =>
    obtain ⟨h0, x, j, a, r, n, f, h1, h2, h3, h4⟩ := h
    exact ⟨_, _, _, _, _, h4, Nat.le_refl _, Nat.le_refl _, fun K' q => ⟨h0, x, j, a, r, n, f, h1, h2, h3, q⟩⟩
  | bastore =>
    obtain ⟨h0, x, j, a, r, n, f, h1, h2, h3, h4⟩ := h
    exact ⟨_, _, _, _, _, h4, Nat.le_refl _, Nat.le_refl _, fun K' q => ⟨h0, x, j, a, r, n, f, h1, h2, h3, q⟩⟩
  | lastore =>
    obtain ⟨h0, x, j, a, r, n, f, h1, h2, h3, h4⟩ := h
    exact ⟨_, _, _, _, _, h4, Nat.le_refl _, Nat.le_refl _, fun K' q => ⟨h0, x, j, a, r, n, f, h1, h2, h3, q⟩⟩
  | aastore =>
    obtain ⟨h0, ⟨v, j, a, r, n, t, f, ci, vs, h1, h2, h3, h4, h5, h6⟩ | ⟨v, j, a, r, n, t, f, t2, x, h1, h2, h3, h4, h5, h6⟩ | ⟨j, a, r, n, t, f, E, h1, h2, h3, h4, h5⟩⟩ := h
    · exact ⟨_, _, _, _, _, h6, Nat.le_refl _, Nat.le_refl _, fun K' q => ⟨h0, Or.inl ⟨v, j, a, r, n, t, f, ci, vs, h1, h2, h3, h4, h5, q⟩⟩⟩
    · exact ⟨_, _, _, _, _, h6, Nat.le_refl _, Nat.le_refl _, fun K' q => ⟨h0, Or.inr (Or.inl ⟨v, j, a, r, n, t, f, t2, x, h1, h2, h3, h4, h5, q⟩)⟩⟩
    · exact ⟨_, _, _, _, _, h5, Nat.le_refl _, Nat.le_refl _, fun K' q => ⟨h0, Or.inr (Or.inr ⟨j, a, r, n, t, f, E, h1, h2, h3, h4, q⟩)⟩⟩
  | checkcast x =>
    obtain ⟨h0, hn, a, r, y, h1, h2, h3⟩ := h
    exact ⟨_, _, _, _, _, h3, Nat.le_refl _, Nat.le_refl _, fun K' q => ⟨h0, hn, a, r, y, h1, h2, q⟩⟩
  | _ => exact False.elim h
theorem am_nat_c {P : am_P} {RO : am_O} {mt : am_Meth} {i : Instr} {len pc : Nat} {st : List Value} {M : am_H} {sz sl : Nat} {K : am_K} (h : am_nat P RO mt i len pc st M sz sl K) :
    ∃ t r M' z' l', K t r M' z' l' ∧ sz ≤ z' ∧ sl ≤ l' ∧ ∀ K' : am_K, K' t r M' z' l' → am_nat P RO mt i len pc st M sz sl K' := by
  cases i with
  | invokespecial x =>
    obtain ⟨h0, hn, a, r, h1, h2, h3, h4⟩ := h
    exact ⟨_, _, _, _, _, h4, Nat.le_refl _, Nat.le_refl _, fun K' q => ⟨h0, hn, a, r, h1, h2, h3, q⟩⟩
  | invokestatic x =>
    obtain ⟨h0, ⟨hn, n, dp, a, sp, a0, r, n0, n1, f, g, h1, h2, h3, h4, h5, h6, h7, h8, h9, h10, h11⟩ | ⟨j, vs, r, v, h1, h2, h3, h4, h5, h6⟩⟩ := h
    · exact ⟨_, _, _, _, _, h11, Nat.le_refl _, Nat.le_refl _, fun K' q => ⟨h0, Or.inl ⟨hn, n, dp, a, sp, a0, r, n0, n1, f, g, h1, h2, h3, h4, h5, h6, h7, h8, h9, h10, q⟩⟩⟩
    · exact ⟨_, _, _, _, _, h6, Nat.le_refl _, Nat.le_refl _, fun K' q => ⟨h0, Or.inr ⟨j, vs, r, v, h1, h2, h3, h4, h5, q⟩⟩⟩
  | invokevirtual x =>
    obtain ⟨h0, hn, a, r, n, f, h1, h2, h3, h4, h5⟩ := h
    exact ⟨_, _, _, _, _, h5, Nat.le_succ _, Nat.le_add_right _ _, fun K' q => ⟨h0, hn, a, r, n, f, h1, h2, h3, h4, q⟩⟩
  | _ => exact False.elim h
theorem am_ret_c {mt : am_Meth} {i : Instr} {len : Nat} {st : List Value} {Q : Option Value → Prop} (h : am_ret mt i len st Q) : ∃ v, Q v ∧ ∀ Q' : Option Value → Prop, Q' v → am_ret mt i len st Q' := by
  cases i with
  | return_ =>
    obtain ⟨h0, h1, h2, h3⟩ := h
    exact ⟨_, h3, fun Q' q => ⟨h0, h1, h2, q⟩⟩
  | ireturn =>
    obtain ⟨h0, v, ty, h1, h2, h3, h4⟩ := h
    exact ⟨_, h4, fun Q' q => ⟨h0, v, ty, h1, h2, h3, q⟩⟩
  | lreturn =>
    obtain ⟨h0, v, h1, h2, h3⟩ := h
    exact ⟨_, h3, fun Q' q => ⟨h0, v, h1, h2, q⟩⟩
  | areturn =>
    obtain ⟨h0, v, ty, h1, h2, h3, h4, h5⟩ := h
    exact ⟨_, h5, fun Q' q => ⟨h0, v, ty, h1, h2, h3, h4, q⟩⟩
  | _ => exact False.elim h
/-- what a step comes to: the same frame's next, a call, or the end -/
theorem am_step_c {P : am_P} {RO : am_O} {mt : am_Meth} {i : Instr} {len pc : Nat} {lv : am_L} {st : List Value} {M : am_H} {sz sl : Nat} {K : am_F} {C : am_C} {Q : am_Q} (h : am_step P RO mt i len pc lv st M sz sl K C Q) :
    (∃ pc' lv' st' M' z' l', K pc' lv' st' M' z' l' ∧ sz ≤ z' ∧ sl ≤ l' ∧ ∀ (K' : am_F) (C' : am_C) (Q' : am_Q), K' pc' lv' st' M' z' l' → am_step P RO mt i len pc lv st M sz sl K' C' Q') ∨
    (∃ z vs r, C z vs M sz sl (fun v M' z' l' => K (pc + 3) lv (v.toList ++ r) M' z' l') ∧ ∀ (K' : am_F) (C' : am_C) (Q' : am_Q), C' z vs M sz sl (fun v M' z' l' => K' (pc + 3) lv (v.toList ++ r) M' z' l') → am_step P RO mt i len pc lv st M sz sl K' C' Q') ∨
    (∃ v, Q v M sz sl ∧ ∀ (K' : am_F) (C' : am_C) (Q' : am_Q), Q' v M sz sl → am_step P RO mt i len pc lv st M sz sl K' C' Q') := by
  rcases h with ⟨v, h1, h2⟩ | ⟨h0, st', h1, h2, h3⟩ | ⟨l0, n, lv', st', h1, h2, h3, h4⟩ | h | h | h | ⟨h0, z, vs, r, mz, h1, h2, h3, h4, h5, h6⟩ | h
  · exact Or.inl ⟨_, _, _, _, _, _, h2, Nat.le_refl _, Nat.le_refl _, fun K' C' Q' q => Or.inl ⟨v, h1, q⟩⟩
  · exact Or.inl ⟨_, _, _, _, _, _, h3, Nat.le_refl _, Nat.le_refl _, fun K' C' Q' q => Or.inr (Or.inl ⟨h0, st', h1, h2, q⟩)⟩
  · exact Or.inl ⟨_, _, _, _, _, _, h4, Nat.le_refl _, Nat.le_refl _, fun K' C' Q' q => Or.inr (Or.inr (Or.inl ⟨l0, n, lv', st', h1, h2, h3, q⟩))⟩
  · obtain ⟨t, r, h1, h2⟩ := am_br_c h
    exact Or.inl ⟨_, _, _, _, _, _, h1, Nat.le_refl _, Nat.le_refl _, fun K' C' Q' q => Or.inr (Or.inr (Or.inr (Or.inl (h2 _ q))))⟩
  · obtain ⟨t, r, M', z', l', h1, h2, h3, h4⟩ := am_hp_c h
    exact Or.inl ⟨_, _, _, _, _, _, h1, h2, h3, fun K' C' Q' q => Or.inr (Or.inr (Or.inr (Or.inr (Or.inl (h4 _ q)))))⟩
  · obtain ⟨v, h1, h2⟩ := am_ret_c h
    exact Or.inr (Or.inr ⟨v, h1, fun K' C' Q' q => Or.inr (Or.inr (Or.inr (Or.inr (Or.inr (Or.inl (h2 _ q))))))⟩)
  · exact Or.inr (Or.inl ⟨z, vs, r, h6, fun K' C' Q' q => Or.inr (Or.inr (Or.inr (Or.inr (Or.inr (Or.inr (Or.inl ⟨h0, z, vs, r, mz, h1, h2, h3, h4, h5, q⟩))))))⟩)
  · obtain ⟨t, r, M', z', l', h1, h2, h3, h4⟩ := am_nat_c h
    exact Or.inl ⟨_, _, _, _, _, _, h1, h2, h3, fun K' C' Q' q => Or.inr (Or.inr (Or.inr (Or.inr (Or.inr (Or.inr (Or.inr (h4 _ q)))))))⟩
theorem am_mono {P : am_P} {RO : am_O} : ∀ (k y pc : Nat) (lv : am_L) (st : List Value) (M : am_H) (sz sl : Nat) (Q Q' : am_Q), (∀ v M' z' l', Q v M' z' l' → Q' v M' z' l') → am_W P RO k y pc lv st M sz sl Q → am_W P RO k y pc lv st M sz sl Q'
  | 0, _, _, _, _, _, _, _, _, _, _, h => h
  | k + 1, y, pc, lv, st, M, sz, sl, Q, Q', hq, h => by
    obtain ⟨mt, h1, i, len, h2, h3⟩ := h
    refine ⟨mt, h1, i, len, h2, ?_⟩
    rcases am_step_c h3 with ⟨pc', lv', st', M', z', l', a1, -, -, a2⟩ | ⟨z, vs, r, a1, a2⟩ | ⟨v, a1, a2⟩
    · exact a2 _ _ _ (am_mono k _ _ _ _ _ _ _ _ _ hq a1)
    · exact a2 _ _ _ (am_mono k _ _ _ _ _ _ _ _ _ (fun v M' z' l' q => am_mono k _ _ _ _ _ _ _ _ _ hq q) a1)
    · exact a2 _ _ _ (hq _ _ _ _ a1)
def am_eq (v : Option Value) (M : am_H) (z l : Nat) : am_Q := fun v1 M1 z1 l1 => v1 = v ∧ M1 = M ∧ z1 = z ∧ l1 = l
/-- a run has one end -/
theorem am_det {P : am_P} {RO : am_O} : ∀ (k y pc : Nat) (lv : am_L) (st : List Value) (M : am_H) (sz sl : Nat) (Q : am_Q), am_W P RO k y pc lv st M sz sl Q → ∃ v M' z' l', am_W P RO k y pc lv st M sz sl (am_eq v M' z' l') ∧ Q v M' z' l' ∧ sz ≤ z' ∧ sl ≤ l'
  | 0, _, _, _, _, _, _, _, _, h => False.elim h
  | k + 1, y, pc, lv, st, M, sz, sl, Q, h => by
    obtain ⟨mt, h1, i, len, h2, h3⟩ := h
    rcases am_step_c h3 with ⟨pc', lv', st', M', z', l', a1, a3, a4, a2⟩ | ⟨z, vs, r, a1, a2⟩ | ⟨v, a1, a2⟩
    · obtain ⟨v, M1, z1, l1, b1, b2, b3, b4⟩ := am_det k _ _ _ _ _ _ _ _ a1
      exact ⟨v, M1, z1, l1, ⟨mt, h1, i, len, h2, a2 _ _ _ b1⟩, b2, Nat.le_trans a3 b3, Nat.le_trans a4 b4⟩
    · obtain ⟨v, M1, z1, l1, b1, b2, b3, b4⟩ := am_det k _ _ _ _ _ _ _ _ a1
      obtain ⟨w, M2, z2, l2, c1, c2, c3, c4⟩ := am_det k _ _ _ _ _ _ _ _ b2
      refine ⟨w, M2, z2, l2, ⟨mt, h1, i, len, h2, a2 _ _ _ (am_mono k _ _ _ _ _ _ _ _ _ (fun v' M' z' l' q => ?_) b1)⟩, c2, Nat.le_trans b3 c3, Nat.le_trans b4 c4⟩
      obtain ⟨rfl, rfl, rfl, rfl⟩ := q
      exact c1
    · exact ⟨v, M, sz, sl, ⟨mt, h1, i, len, h2, a2 _ _ _ ⟨rfl, rfl, rfl, rfl⟩⟩, a1, Nat.le_refl _, Nat.le_refl _⟩
theorem am_more {P : am_P} {RO : am_O} : ∀ (k y pc : Nat) (lv : am_L) (st : List Value) (M : am_H) (sz sl : Nat) (Q : am_Q), am_W P RO k y pc lv st M sz sl Q → am_W P RO (k + 1) y pc lv st M sz sl Q
  | 0, _, _, _, _, _, _, _, _, h => False.elim h
  | k + 1, y, pc, lv, st, M, sz, sl, Q, h => by
    obtain ⟨mt, h1, i, len, h2, h3⟩ := h
    refine ⟨mt, h1, i, len, h2, ?_⟩
    rcases am_step_c h3 with ⟨pc', lv', st', M', z', l', a1, -, -, a2⟩ | ⟨z, vs, r, a1, a2⟩ | ⟨v, a1, a2⟩
    · exact a2 _ _ _ (am_more k _ _ _ _ _ _ _ _ a1)
    · exact a2 _ _ _ (am_more k _ _ _ _ _ _ _ _ (am_mono k _ _ _ _ _ _ _ _ _ (fun v M' z' l' q => am_more k _ _ _ _ _ _ _ _ q) a1))
    · exact a2 _ _ _ a1
theorem am_le {P : am_P} {RO : am_O} {k k' y pc : Nat} {lv : am_L} {st : List Value} {M : am_H} {sz sl : Nat} {Q : am_Q} (hk : k ≤ k') (h : am_W P RO k y pc lv st M sz sl Q) : am_W P RO k' y pc lv st M sz sl Q := by
  induction hk with
  | refl => exact h
  | step _ ih => exact am_more _ _ _ _ _ _ _ _ _ ih
