/-! SZ: names with meanings; terms compared by their bits -/
/-- b to the e (its low 31 bits), modulo m -/
def pwF (b e m : Int32) : Int32 := Int32.ofNat (b.toNatClampNeg ^ (e.toBitVec.toNat % 2147483648) % m.toNatClampNeg)
/-- 0: a term; else a power of three terms -/
abbrev sz_D : Type := Nat × Term × Term × Term
def sz_val (E : sx_E) (d : sz_D) : Int32 := if d.1 = 0 then (sx_d E d.2.1).1 else pwF (sx_d E d.2.1).1 (sx_d E d.2.2.1).1 (sx_d E d.2.2.2).1
def sz_ok (E : sx_E) (D : Nat → Option sz_D) : Prop := ∀ k d, D k = some d → E.2.2 k = sz_val E d
def sz_nm (b : Nat) : Term → Bool
  | .string _ k => decide (k < b)
  | .add a c => sz_nm b a && sz_nm b c
  | .sub a c => sz_nm b a && sz_nm b c
  | .mul a c => sz_nm b a && sz_nm b c
  | .div a c => sz_nm b a && sz_nm b c
  | .rem a c => sz_nm b a && sz_nm b c
  | .elem a c => sz_nm b a && sz_nm b c
  | .op2 _ a c => sz_nm b a && sz_nm b c
  | .op1 _ a => sz_nm b a
  | _ => true
theorem sz_nm_s {E E' : sx_E} {b : Nat} (h : ∀ j, j < b → E.2.2 j = E'.2.2 j) (t : Term) : sz_nm b t = true → sx_d E t = sx_d E' t := by
  induction t with
  | string s k =>
    intro g
    have g2 : k < b := of_decide_eq_true g
    show (E.2.2 k, (0 : Int64)) = (E'.2.2 k, 0)
    rw [h k g2]
  | add a c ha hc =>
    intro g
    have g2 := (Bool.and_eq_true _ _).mp g
    show ((sx_d E a).1 + (sx_d E c).1, (0 : Int64)) = ((sx_d E' a).1 + (sx_d E' c).1, 0)
    rw [ha g2.1, hc g2.2]
  | sub a c ha hc =>
    intro g
    have g2 := (Bool.and_eq_true _ _).mp g
    show ((sx_d E a).1 - (sx_d E c).1, (0 : Int64)) = ((sx_d E' a).1 - (sx_d E' c).1, 0)
    rw [ha g2.1, hc g2.2]
  | mul a c ha hc =>
    intro g
    have g2 := (Bool.and_eq_true _ _).mp g
    show ((sx_d E a).1 * (sx_d E c).1, (0 : Int64)) = ((sx_d E' a).1 * (sx_d E' c).1, 0)
    rw [ha g2.1, hc g2.2]
  | div a c ha hc =>
    intro g
    have g2 := (Bool.and_eq_true _ _).mp g
    show ((sx_d E a).1 / (sx_d E c).1, (0 : Int64)) = ((sx_d E' a).1 / (sx_d E' c).1, 0)
    rw [ha g2.1, hc g2.2]
  | rem a c ha hc =>
    intro g
    have g2 := (Bool.and_eq_true _ _).mp g
    show ((sx_d E a).1 - (sx_d E a).1 / (sx_d E c).1 * (sx_d E c).1, (0 : Int64)) = ((sx_d E' a).1 - (sx_d E' a).1 / (sx_d E' c).1 * (sx_d E' c).1, 0)
    rw [ha g2.1, hc g2.2]
  | elem a c ha hc =>
    intro g
    have g2 := (Bool.and_eq_true _ _).mp g
    show (sx_ic (sx_d E a).1 (sx_d E c).1, (0 : Int64)) = (sx_ic (sx_d E' a).1 (sx_d E' c).1, 0)
    rw [ha g2.1, hc g2.2]
  | op2 o a c ha hc =>
    intro g
    have g2 := (Bool.and_eq_true _ _).mp g
    show sx_o2 o (sx_d E a) (sx_d E c) = sx_o2 o (sx_d E' a) (sx_d E' c)
    rw [ha g2.1, hc g2.2]
  | op1 o a ha =>
    intro g
    show sx_o1 o (sx_d E a) = sx_o1 o (sx_d E' a)
    rw [ha g]
  | _ =>
    intro _
    rfl
/-- the ints, each name given its meaning in turn -/
def sz_xs (E : sx_E) (D : Nat → Option sz_D) : Nat → Nat → Int32
  | 0 => E.2.2
  | n + 1 => fun j => if j = n then (match D n with
      | some d => sz_val (E.1, E.2.1, sz_xs E D n) d
      | none => sz_xs E D n j) else sz_xs E D n j
theorem sz_xs_st {E : sx_E} {D : Nat → Option sz_D} {j k : Nat} (hj : j < k) : ∀ n, k ≤ n → sz_xs E D n j = sz_xs E D k j
  | 0, h => by omega
  | n + 1, h => by
    by_cases e : k = n + 1
    · rw [e]
    · have ih := sz_xs_st (E := E) (D := D) hj n (by omega)
      rw [← ih]
      show (if j = n then _ else sz_xs E D n j) = _
      rw [if_neg (by omega)]
theorem sz_xs_0 {E : sx_E} {D : Nat → Option sz_D} {j : Nat} (hj : D j = none) : ∀ n, sz_xs E D n j = E.2.2 j
  | 0 => rfl
  | n + 1 => by
    have ih := sz_xs_0 (E := E) (D := D) hj n
    show (if j = n then (match D n with
      | some d => sz_val (E.1, E.2.1, sz_xs E D n) d
      | none => sz_xs E D n j) else sz_xs E D n j) = _
    by_cases e : j = n
    · rw [if_pos e, ← e, hj]
      rw [← e] at ih
      exact ih
    · rw [if_neg e]
      exact ih
def sz_wf (D : Nat → Option sz_D) (N : Nat) : Bool := (List.range N).all (fun k => match D k with
  | some d => sz_nm k d.2.1 && (sz_nm k d.2.2.1 && sz_nm k d.2.2.2)
  | none => true)
theorem sz_ex (E : sx_E) {D : Nat → Option sz_D} {N : Nat} (h : sz_wf D N = true) (hN : ∀ k, N ≤ k → D k = none) : sz_ok (E.1, E.2.1, sz_xs E D N) D := by
  intro k d hd
  have hk : k < N := by
    by_cases hk : k < N
    · exact hk
    · rw [hN k (by omega)] at hd
      cases hd
  have h1 := List.all_eq_true.mp h k (List.mem_range.mpr hk)
  rw [hd] at h1
  have h2 := (Bool.and_eq_true _ _).mp h1
  have h3 := (Bool.and_eq_true _ _).mp h2.2
  have ag : ∀ j, j < k → (E.1, E.2.1, sz_xs E D N).2.2 j = (E.1, E.2.1, sz_xs E D k).2.2 j := fun j hj => sz_xs_st hj N (by omega)
  show sz_xs E D N k = _
  rw [sz_xs_st (show k < k + 1 by omega) N (by omega)]
  show (if k = k then (match D k with
      | some d => sz_val (E.1, E.2.1, sz_xs E D k) d
      | none => sz_xs E D k k) else sz_xs E D k k) = _
  rw [if_pos rfl, hd]
  show sz_val (E.1, E.2.1, sz_xs E D k) d = sz_val (E.1, E.2.1, sz_xs E D N) d
  unfold sz_val
  rw [sz_nm_s ag _ h2.1, sz_nm_s ag _ h3.1, sz_nm_s ag _ h3.2]
/-- definitions in rows of 32, from the name 8 on -/
def sz_at (l : List (List sz_D)) (k : Nat) : Option sz_D := if k < 8 then none else (match l[(k - 8) / 32]? with
  | some r => r[(k - 8) % 32]?
  | none => none)
theorem sz_at_n {l : List (List sz_D)} {k : Nat} (h : 8 + 32 * l.length ≤ k) : sz_at l k = none := by
  unfold sz_at
  rw [if_neg (by omega), List.getElem?_eq_none (by omega)]
theorem sz_at_8 {l : List (List sz_D)} {k : Nat} (h : k < 8) : sz_at l k = none := by
  unfold sz_at
  rw [if_pos h]
/-! bits: a constant and the bits of names, all xored -/
abbrev sz_B : Type := Bool × List (Nat × Nat)
def sz_bf (E : sx_E) (l : List (Nat × Nat)) : Bool := l.foldr (fun q acc => (E.2.2 q.1).toBitVec.getLsbD q.2 ^^ acc) false
def sz_bx (E : sx_E) (f : sz_B) : Bool := f.1 ^^ sz_bf E f.2
theorem sz_bf_app (E : sx_E) : ∀ a b : List (Nat × Nat), sz_bf E (a ++ b) = (sz_bf E a ^^ sz_bf E b)
  | [], b => by
    show sz_bf E b = (false ^^ sz_bf E b)
    rw [Bool.false_xor]
  | q :: a, b => by
    show ((E.2.2 q.1).toBitVec.getLsbD q.2 ^^ sz_bf E (a ++ b)) = (((E.2.2 q.1).toBitVec.getLsbD q.2 ^^ sz_bf E a) ^^ sz_bf E b)
    rw [sz_bf_app E a b, Bool.xor_assoc]
def sz_xr (a b : sz_B) : sz_B := (a.1 ^^ b.1, a.2 ++ b.2)
theorem sz_xr_s (E : sx_E) (a b : sz_B) : sz_bx E (sz_xr a b) = (sz_bx E a ^^ sz_bx E b) := by
  unfold sz_bx sz_xr
  dsimp only
  rw [sz_bf_app]
  cases a.1 <;> cases b.1 <;> cases sz_bf E a.2 <;> cases sz_bf E b.2 <;> rfl
def sz_an (x y : Option sz_B) : Option sz_B := match y with
  | some (false, []) => some (false, [])
  | some (true, []) => x
  | _ => (match x with
    | some (false, []) => some (false, [])
    | some (true, []) => y
    | _ => none)
def sz_or (x y : Option sz_B) : Option sz_B := match y with
  | some (true, []) => some (true, [])
  | some (false, []) => x
  | _ => (match x with
    | some (true, []) => some (true, [])
    | some (false, []) => y
    | _ => none)
def sz_xo (x y : Option sz_B) : Option sz_B := match x with
  | some f => (match y with
    | some g => some (sz_xr f g)
    | none => none)
  | none => none
theorem sz_an_s {E : sx_E} {x y : Option sz_B} {p q : Bool} {f : sz_B} (hx : ∀ f, x = some f → p = sz_bx E f) (hy : ∀ f, y = some f → q = sz_bx E f) (h : sz_an x y = some f) : (p && q) = sz_bx E f := by
  unfold sz_an at h
  split at h
  · cases h
    rw [hy _ rfl]
    cases p <;> rfl
  · rw [hx _ h, hy _ rfl]
    show (sz_bx E f && true) = _
    rw [Bool.and_true]
  · split at h
    · cases h
      rw [hx _ rfl]
      rfl
    · rw [hx _ rfl, hy _ h]
      rfl
    · cases h
theorem sz_or_s {E : sx_E} {x y : Option sz_B} {p q : Bool} {f : sz_B} (hx : ∀ f, x = some f → p = sz_bx E f) (hy : ∀ f, y = some f → q = sz_bx E f) (h : sz_or x y = some f) : (p || q) = sz_bx E f := by
  unfold sz_or at h
  split at h
  · cases h
    rw [hy _ rfl]
    cases p <;> rfl
  · rw [hx _ h, hy _ rfl]
    show (sz_bx E f || false) = _
    rw [Bool.or_false]
  · split at h
    · cases h
      rw [hx _ rfl]
      rfl
    · rw [hx _ rfl, hy _ h]
      rfl
    · cases h
theorem sz_xo_s {E : sx_E} {x y : Option sz_B} {p q : Bool} {f : sz_B} (hx : ∀ f, x = some f → p = sz_bx E f) (hy : ∀ f, y = some f → q = sz_bx E f) (h : sz_xo x y = some f) : (p ^^ q) = sz_bx E f := by
  unfold sz_xo at h
  split at h
  · split at h
    · cases h
      rw [hx _ rfl, hy _ rfl, sz_xr_s]
    · cases h
  · cases h
/-- a shift's distance -/
def sz_sh (n : Nat) (t : Term) : Option Nat := match t with
  | .int s => if s.toBitVec.toNat < n then (if sx_ie s (Int32.ofNat s.toBitVec.toNat) then some s.toBitVec.toNat else none) else none
  | _ => none
theorem sz_sh_s {n k : Nat} {t : Term} (h : sz_sh n t = some k) : t = .int (Int32.ofNat k) ∧ k < n := by
  unfold sz_sh at h
  split at h
  · rename_i s
    split at h
    · rename_i h1
      split at h
      · rename_i h2
        injection h with h
        subst h
        have h3 := sx_ie_s h2
        exact ⟨congrArg Term.int h3, h1⟩
      · cases h
    · cases h
  · cases h
theorem sz_shl (x : Int32) {n : Nat} (h : n < 32) : (x <<< (Int32.ofNat n &&& 31)).toBitVec = x.toBitVec <<< n := by
  have e : ∀ n, n < 32 → ((Int32.ofNat n &&& 31).toBitVec.smod 32).toNat = n := by decide +kernel
  show x.toBitVec <<< ((Int32.ofNat n &&& 31).toBitVec.smod 32) = _
  rw [BitVec.shiftLeft_eq', e n h]
theorem sz_shr (x : Int32) {n : Nat} (h : n < 32) : ((x.toUInt32 >>> ((Int32.ofNat n).toUInt32 &&& Int32.toUInt32 31)).toInt32).toBitVec = x.toBitVec >>> n := by
  have e : ∀ n, n < 32 → (((Int32.ofNat n).toUInt32 &&& Int32.toUInt32 31) % 32).toBitVec.toNat = n := by decide +kernel
  show x.toBitVec >>> (((Int32.ofNat n).toUInt32 &&& Int32.toUInt32 31) % 32).toBitVec = _
  rw [BitVec.ushiftRight_eq', e n h]
theorem sz_lsl (x : Int64) {n : Nat} (h : n < 64) : (x <<< ((Int32.ofNat n).toInt64 &&& 63)).toBitVec = x.toBitVec <<< n := by
  have e : ∀ n, n < 64 → (((Int32.ofNat n).toInt64 &&& 63).toBitVec.smod 64).toNat = n := by decide +kernel
  show x.toBitVec <<< (((Int32.ofNat n).toInt64 &&& 63).toBitVec.smod 64) = _
  rw [BitVec.shiftLeft_eq', e n h]
theorem sz_lsr (x : Int64) {n : Nat} (h : n < 64) : ((x.toUInt64 >>> ((Int32.ofNat n).toInt64.toUInt64 &&& Int64.toUInt64 63)).toInt64).toBitVec = x.toBitVec >>> n := by
  have e : ∀ n, n < 64 → (((Int32.ofNat n).toInt64.toUInt64 &&& Int64.toUInt64 63) % 64).toBitVec.toNat = n := by decide +kernel
  show x.toBitVec >>> (((Int32.ofNat n).toInt64.toUInt64 &&& Int64.toUInt64 63) % 64).toBitVec = _
  rw [BitVec.ushiftRight_eq', e n h]
/-- bit j of a term -/
def sz_b : Term → Nat → Option sz_B
  | .int v, j => some (v.toBitVec.getLsbD j, [])
  | .long v, j => some (v.toBitVec.getLsbD j, [])
  | .string _ k, j => some (false, [(k, j)])
  | .op2 o a b, j => (match o with
    | .iand => if sx_k a = 0 ∧ sx_k b = 0 then sz_an (sz_b a j) (sz_b b j) else none
    | .ior => if sx_k a = 0 ∧ sx_k b = 0 then sz_or (sz_b a j) (sz_b b j) else none
    | .ixor => if sx_k a = 0 ∧ sx_k b = 0 then sz_xo (sz_b a j) (sz_b b j) else none
    | .land => if sx_k a = 1 ∧ sx_k b = 1 then sz_an (sz_b a j) (sz_b b j) else none
    | .lor => if sx_k a = 1 ∧ sx_k b = 1 then sz_or (sz_b a j) (sz_b b j) else none
    | .lxor => if sx_k a = 1 ∧ sx_k b = 1 then sz_xo (sz_b a j) (sz_b b j) else none
    | .ishl => if sx_k a = 0 then (match sz_sh 32 b with
      | some n => if j < n then some (false, []) else sz_b a (j - n)
      | none => none) else none
    | .iushr => if sx_k a = 0 then (match sz_sh 32 b with
      | some n => if n + j < 32 then sz_b a (n + j) else some (false, [])
      | none => none) else none
    | .lshl => if sx_k a = 1 then (match sz_sh 64 b with
      | some n => if j < n then some (false, []) else sz_b a (j - n)
      | none => none) else none
    | .lushr => if sx_k a = 1 then (match sz_sh 64 b with
      | some n => if n + j < 64 then sz_b a (n + j) else some (false, [])
      | none => none) else none
    | _ => none)
  | .op1 o a, j => (match o with
    | .i2l => if sx_k a = 0 then sz_b a (if j < 32 then j else 31) else none
    | .l2i => if sx_k a = 1 then sz_b a j else none
    | _ => none)
  | _, _ => none
def sz_bt (E : sx_E) (t : Term) (j : Nat) : Bool := if sx_k t = 1 then (sx_d E t).2.toBitVec.getLsbD j else (sx_d E t).1.toBitVec.getLsbD j
def sz_w (t : Term) : Nat := if sx_k t = 1 then 64 else 32
theorem sz_bt0 {E : sx_E} {t : Term} {j : Nat} (h : sx_k t = 0) : sz_bt E t j = (sx_d E t).1.toBitVec.getLsbD j := by
  unfold sz_bt
  rw [if_neg (by rw [h]; decide)]
theorem sz_bt1 {E : sx_E} {t : Term} {j : Nat} (h : sx_k t = 1) : sz_bt E t j = (sx_d E t).2.toBitVec.getLsbD j := by
  unfold sz_bt
  rw [if_pos h]
theorem sz_w0 {t : Term} (h : sx_k t = 0) : sz_w t = 32 := by
  unfold sz_w
  rw [if_neg (by rw [h]; decide)]
theorem sz_w1 {t : Term} (h : sx_k t = 1) : sz_w t = 64 := by
  unfold sz_w
  rw [if_pos h]
theorem sz_b_s (E : sx_E) (t : Term) : ∀ (j : Nat) (f : sz_B), j < sz_w t → sz_b t j = some f → sz_bt E t j = sz_bx E f := by
  induction t with
  | int v =>
    intro j f _ h
    cases h
    show v.toBitVec.getLsbD j = (v.toBitVec.getLsbD j ^^ false)
    rw [Bool.xor_false]
  | long v =>
    intro j f _ h
    cases h
    show v.toBitVec.getLsbD j = (v.toBitVec.getLsbD j ^^ false)
    rw [Bool.xor_false]
  | string s k =>
    intro j f _ h
    cases h
    show (E.2.2 k).toBitVec.getLsbD j = (false ^^ ((E.2.2 k).toBitVec.getLsbD j ^^ false))
    rw [Bool.xor_false, Bool.false_xor]
  | op2 o a b iha ihb =>
    intro j f hj h
    cases o with
    | iand =>
      replace h : (if sx_k a = 0 ∧ sx_k b = 0 then sz_an (sz_b a j) (sz_b b j) else none) = some f := h
      replace hj : j < 32 := hj
      split at h
      · rename_i hk
        have e : sz_bt E (.op2 .iand a b) j = (sz_bt E a j && sz_bt E b j) := by
          rw [sz_bt0 hk.1, sz_bt0 hk.2]
          show ((sx_d E a).1 &&& (sx_d E b).1).toBitVec.getLsbD j = _
          rw [Int32.toBitVec_and, BitVec.getLsbD_and]
        rw [e]
        exact sz_an_s (fun f hf => iha j f (by rw [sz_w0 hk.1]; exact hj) hf) (fun f hf => ihb j f (by rw [sz_w0 hk.2]; exact hj) hf) h
      · cases h
    | ior =>
      replace h : (if sx_k a = 0 ∧ sx_k b = 0 then sz_or (sz_b a j) (sz_b b j) else none) = some f := h
      replace hj : j < 32 := hj
      split at h
      · rename_i hk
        have e : sz_bt E (.op2 .ior a b) j = (sz_bt E a j || sz_bt E b j) := by
          rw [sz_bt0 hk.1, sz_bt0 hk.2]
          show ((sx_d E a).1 ||| (sx_d E b).1).toBitVec.getLsbD j = _
          rw [Int32.toBitVec_or, BitVec.getLsbD_or]
        rw [e]
        exact sz_or_s (fun f hf => iha j f (by rw [sz_w0 hk.1]; exact hj) hf) (fun f hf => ihb j f (by rw [sz_w0 hk.2]; exact hj) hf) h
      · cases h
    | ixor =>
      replace h : (if sx_k a = 0 ∧ sx_k b = 0 then sz_xo (sz_b a j) (sz_b b j) else none) = some f := h
      replace hj : j < 32 := hj
      split at h
      · rename_i hk
        have e : sz_bt E (.op2 .ixor a b) j = (sz_bt E a j ^^ sz_bt E b j) := by
          rw [sz_bt0 hk.1, sz_bt0 hk.2]
          show ((sx_d E a).1 ^^^ (sx_d E b).1).toBitVec.getLsbD j = _
          rw [Int32.toBitVec_xor, BitVec.getLsbD_xor]
        rw [e]
        exact sz_xo_s (fun f hf => iha j f (by rw [sz_w0 hk.1]; exact hj) hf) (fun f hf => ihb j f (by rw [sz_w0 hk.2]; exact hj) hf) h
      · cases h
    | land =>
      replace h : (if sx_k a = 1 ∧ sx_k b = 1 then sz_an (sz_b a j) (sz_b b j) else none) = some f := h
      replace hj : j < 64 := hj
      split at h
      · rename_i hk
        have e : sz_bt E (.op2 .land a b) j = (sz_bt E a j && sz_bt E b j) := by
          rw [sz_bt1 hk.1, sz_bt1 hk.2]
          show ((sx_d E a).2 &&& (sx_d E b).2).toBitVec.getLsbD j = _
          rw [Int64.toBitVec_and, BitVec.getLsbD_and]
        rw [e]
        exact sz_an_s (fun f hf => iha j f (by rw [sz_w1 hk.1]; exact hj) hf) (fun f hf => ihb j f (by rw [sz_w1 hk.2]; exact hj) hf) h
      · cases h
    | lor =>
      replace h : (if sx_k a = 1 ∧ sx_k b = 1 then sz_or (sz_b a j) (sz_b b j) else none) = some f := h
      replace hj : j < 64 := hj
      split at h
      · rename_i hk
        have e : sz_bt E (.op2 .lor a b) j = (sz_bt E a j || sz_bt E b j) := by
          rw [sz_bt1 hk.1, sz_bt1 hk.2]
          show ((sx_d E a).2 ||| (sx_d E b).2).toBitVec.getLsbD j = _
          rw [Int64.toBitVec_or, BitVec.getLsbD_or]
        rw [e]
        exact sz_or_s (fun f hf => iha j f (by rw [sz_w1 hk.1]; exact hj) hf) (fun f hf => ihb j f (by rw [sz_w1 hk.2]; exact hj) hf) h
      · cases h
    | lxor =>
      replace h : (if sx_k a = 1 ∧ sx_k b = 1 then sz_xo (sz_b a j) (sz_b b j) else none) = some f := h
      replace hj : j < 64 := hj
      split at h
      · rename_i hk
        have e : sz_bt E (.op2 .lxor a b) j = (sz_bt E a j ^^ sz_bt E b j) := by
          rw [sz_bt1 hk.1, sz_bt1 hk.2]
          show ((sx_d E a).2 ^^^ (sx_d E b).2).toBitVec.getLsbD j = _
          rw [Int64.toBitVec_xor, BitVec.getLsbD_xor]
        rw [e]
        exact sz_xo_s (fun f hf => iha j f (by rw [sz_w1 hk.1]; exact hj) hf) (fun f hf => ihb j f (by rw [sz_w1 hk.2]; exact hj) hf) h
      · cases h
    | ishl =>
      replace h : (if sx_k a = 0 then (match sz_sh 32 b with
        | some n => if j < n then some (false, []) else sz_b a (j - n)
        | none => none) else none) = some f := h
      replace hj : j < 32 := hj
      split at h
      · rename_i hk
        split at h
        · rename_i n hn
          obtain ⟨rfl, h1⟩ := sz_sh_s hn
          have e : sz_bt E (.op2 .ishl a (.int (Int32.ofNat n))) j = (decide (j < 32) && !decide (j < n) && (sx_d E a).1.toBitVec.getLsbD (j - n)) := by
            show ((sx_d E a).1 <<< (Int32.ofNat n &&& 31)).toBitVec.getLsbD j = _
            rw [sz_shl _ h1, BitVec.getLsbD_shiftLeft]
          rw [e]
          split at h
          · rename_i h2
            cases h
            rw [decide_eq_true h2, Bool.not_true, Bool.and_false, Bool.false_and]
            rfl
          · rename_i h2
            rw [decide_eq_true hj, decide_eq_false h2, Bool.not_false, Bool.and_true, Bool.true_and, ← sz_bt0 hk]
            exact iha _ f (by rw [sz_w0 hk]; omega) h
        · cases h
      · cases h
    | iushr =>
      replace h : (if sx_k a = 0 then (match sz_sh 32 b with
        | some n => if n + j < 32 then sz_b a (n + j) else some (false, [])
        | none => none) else none) = some f := h
      replace hj : j < 32 := hj
      split at h
      · rename_i hk
        split at h
        · rename_i n hn
          obtain ⟨rfl, h1⟩ := sz_sh_s hn
          have e : sz_bt E (.op2 .iushr a (.int (Int32.ofNat n))) j = (sx_d E a).1.toBitVec.getLsbD (n + j) := by
            show ((sx_d E a).1.toUInt32 >>> ((Int32.ofNat n).toUInt32 &&& Int32.toUInt32 31)).toInt32.toBitVec.getLsbD j = _
            rw [sz_shr _ h1, BitVec.getLsbD_ushiftRight]
          rw [e]
          split at h
          · rename_i h2
            rw [← sz_bt0 hk]
            exact iha _ f (by rw [sz_w0 hk]; exact h2) h
          · rename_i h2
            cases h
            rw [BitVec.getLsbD_of_ge _ _ (by omega)]
            rfl
        · cases h
      · cases h
    | lshl =>
      replace h : (if sx_k a = 1 then (match sz_sh 64 b with
        | some n => if j < n then some (false, []) else sz_b a (j - n)
        | none => none) else none) = some f := h
      replace hj : j < 64 := hj
      split at h
      · rename_i hk
        split at h
        · rename_i n hn
          obtain ⟨rfl, h1⟩ := sz_sh_s hn
          have e : sz_bt E (.op2 .lshl a (.int (Int32.ofNat n))) j = (decide (j < 64) && !decide (j < n) && (sx_d E a).2.toBitVec.getLsbD (j - n)) := by
            show ((sx_d E a).2 <<< ((Int32.ofNat n).toInt64 &&& 63)).toBitVec.getLsbD j = _
            rw [sz_lsl _ h1, BitVec.getLsbD_shiftLeft]
          rw [e]
          split at h
          · rename_i h2
            cases h
            rw [decide_eq_true h2, Bool.not_true, Bool.and_false, Bool.false_and]
            rfl
          · rename_i h2
            rw [decide_eq_true hj, decide_eq_false h2, Bool.not_false, Bool.and_true, Bool.true_and, ← sz_bt1 hk]
            exact iha _ f (by rw [sz_w1 hk]; omega) h
        · cases h
      · cases h
    | lushr =>
      replace h : (if sx_k a = 1 then (match sz_sh 64 b with
        | some n => if n + j < 64 then sz_b a (n + j) else some (false, [])
        | none => none) else none) = some f := h
      replace hj : j < 64 := hj
      split at h
      · rename_i hk
        split at h
        · rename_i n hn
          obtain ⟨rfl, h1⟩ := sz_sh_s hn
          have e : sz_bt E (.op2 .lushr a (.int (Int32.ofNat n))) j = (sx_d E a).2.toBitVec.getLsbD (n + j) := by
            show ((sx_d E a).2.toUInt64 >>> ((Int32.ofNat n).toInt64.toUInt64 &&& Int64.toUInt64 63)).toInt64.toBitVec.getLsbD j = _
            rw [sz_lsr _ h1, BitVec.getLsbD_ushiftRight]
          rw [e]
          split at h
          · rename_i h2
            rw [← sz_bt1 hk]
            exact iha _ f (by rw [sz_w1 hk]; exact h2) h
          · rename_i h2
            cases h
            rw [BitVec.getLsbD_of_ge _ _ (by omega)]
            rfl
        · cases h
      · cases h
    | _ => cases h
  | op1 o a iha =>
    intro j f hj h
    cases o with
    | i2l =>
      replace h : (if sx_k a = 0 then sz_b a (if j < 32 then j else 31) else none) = some f := h
      replace hj : j < 64 := hj
      split at h
      · rename_i hk
        have e : sz_bt E (.op1 .i2l a) j = (sx_d E a).1.toBitVec.getLsbD (if j < 32 then j else 31) := by
          show ((sx_d E a).1.toBitVec.signExtend 64).getLsbD j = _
          rw [BitVec.getLsbD_signExtend, decide_eq_true hj, Bool.true_and]
          split
          · rfl
          · rw [BitVec.msb_eq_getLsbD_last]
        rw [e, ← sz_bt0 hk]
        exact iha _ f (by rw [sz_w0 hk]; split <;> omega) h
      · cases h
    | l2i =>
      replace h : (if sx_k a = 1 then sz_b a j else none) = some f := h
      replace hj : j < 32 := hj
      split at h
      · rename_i hk
        have e : sz_bt E (.op1 .l2i a) j = (sx_d E a).2.toBitVec.getLsbD j := by
          show ((sx_d E a).2.toBitVec.signExtend 32).getLsbD j = _
          rw [BitVec.getLsbD_signExtend, decide_eq_true hj, Bool.true_and, if_pos (by omega)]
        rw [e, ← sz_bt1 hk]
        exact iha _ f (by rw [sz_w1 hk]; omega) h
      · cases h
    | _ => cases h
  | _ =>
    intro j f _ h
    cases h
def sz_ll : List (Nat × Nat) → List (Nat × Nat) → Bool
  | [], [] => true
  | (a, b) :: r, (c, d) :: s => (a == c) && ((b == d) && sz_ll r s)
  | _, _ => false
theorem sz_ll_s : ∀ {a b : List (Nat × Nat)}, sz_ll a b = true → a = b
  | [], [], _ => rfl
  | (a, b) :: r, (c, d) :: s, h => by
    unfold sz_ll at h
    simp only [Bool.and_eq_true] at h
    rw [eq_of_beq h.1, eq_of_beq h.2.1, sz_ll_s h.2.2]
  | [], _ :: _, h => by
    unfold sz_ll at h
    cases h
  | _ :: _, [], h => by
    unfold sz_ll at h
    cases h
def sz_e1 (x y : Option sz_B) : Bool := match x with
  | some f => (match y with
    | some g => (f.1 == g.1) && sz_ll f.2 g.2
    | none => false)
  | none => false
/-- two ints of the same bits -/
def sz_eq (t u : Term) : Bool := (sx_k t == 0) && ((sx_k u == 0) && (List.range 32).all (fun j => sz_e1 (sz_b t j) (sz_b u j)))
theorem sz_eq_s {E : sx_E} {t u : Term} (h : sz_eq t u = true) : sx_k t = 0 ∧ sx_k u = 0 ∧ (sx_d E t).1 = (sx_d E u).1 := by
  unfold sz_eq at h
  simp only [Bool.and_eq_true] at h
  obtain ⟨h1, h2, h3⟩ := h
  have k1 : sx_k t = 0 := eq_of_beq h1
  have k2 : sx_k u = 0 := eq_of_beq h2
  refine ⟨k1, k2, Int32.toBitVec_inj.mp (BitVec.eq_of_getLsbD_eq (fun j hj => ?_))⟩
  have h4 := List.all_eq_true.mp h3 j (List.mem_range.mpr hj)
  unfold sz_e1 at h4
  split at h4
  · rename_i f hf
    split at h4
    · rename_i g hg
      rw [Bool.and_eq_true] at h4
      have e1 := sz_b_s E t j f (by rw [sz_w0 k1]; exact hj) hf
      have e2 := sz_b_s E u j g (by rw [sz_w0 k2]; exact hj) hg
      rw [sz_bt0 k1] at e1
      rw [sz_bt0 k2] at e2
      rw [e1, e2]
      unfold sz_bx
      rw [eq_of_beq h4.1, sz_ll_s h4.2]
    · cases h4
  · cases h4
/-- two terms of the same form -/
def sz_te : Term → Term → Bool
  | .int x, .int y => sx_ie x y
  | .long x, .long y => sx_je x y
  | .string _ k, .string _ l => k == l
  | .add a b, .add c d => sz_te a c && sz_te b d
  | .sub a b, .sub c d => sz_te a c && sz_te b d
  | .mul a b, .mul c d => sz_te a c && sz_te b d
  | .div a b, .div c d => sz_te a c && sz_te b d
  | .rem a b, .rem c d => sz_te a c && sz_te b d
  | .elem a b, .elem c d => sz_te a c && sz_te b d
  | .op2 o a b, .op2 p c d => decide (o = p) && (sz_te a c && sz_te b d)
  | .op1 o a, .op1 p c => decide (o = p) && sz_te a c
  | _, _ => false
theorem sz_te_s (E : sx_E) (t : Term) : ∀ u, sz_te t u = true → sx_k t = sx_k u ∧ sx_d E t = sx_d E u := by
  induction t with
  | int x =>
    intro u h
    cases u with
    | int y =>
      have h2 : sx_ie x y = true := h
      rw [sx_ie_s h2]
      exact ⟨rfl, rfl⟩
    | _ => cases h
  | long x =>
    intro u h
    cases u with
    | long y =>
      have h2 : sx_je x y = true := h
      rw [sx_je_s h2]
      exact ⟨rfl, rfl⟩
    | _ => cases h
  | string s k =>
    intro u h
    cases u with
    | string s2 l =>
      have h2 : (k == l) = true := h
      rw [eq_of_beq h2]
      exact ⟨rfl, rfl⟩
    | _ => cases h
  | add a b iha ihb =>
    intro u h
    cases u with
    | add c d =>
      have g := (Bool.and_eq_true _ _).mp (show (sz_te a c && sz_te b d) = true from h)
      refine ⟨rfl, ?_⟩
      show ((sx_d E a).1 + (sx_d E b).1, (0 : Int64)) = ((sx_d E c).1 + (sx_d E d).1, 0)
      rw [(iha _ g.1).2, (ihb _ g.2).2]
    | _ => cases h
  | sub a b iha ihb =>
    intro u h
    cases u with
    | sub c d =>
      have g := (Bool.and_eq_true _ _).mp (show (sz_te a c && sz_te b d) = true from h)
      refine ⟨rfl, ?_⟩
      show ((sx_d E a).1 - (sx_d E b).1, (0 : Int64)) = ((sx_d E c).1 - (sx_d E d).1, 0)
      rw [(iha _ g.1).2, (ihb _ g.2).2]
    | _ => cases h
  | mul a b iha ihb =>
    intro u h
    cases u with
    | mul c d =>
      have g := (Bool.and_eq_true _ _).mp (show (sz_te a c && sz_te b d) = true from h)
      refine ⟨rfl, ?_⟩
      show ((sx_d E a).1 * (sx_d E b).1, (0 : Int64)) = ((sx_d E c).1 * (sx_d E d).1, 0)
      rw [(iha _ g.1).2, (ihb _ g.2).2]
    | _ => cases h
  | div a b iha ihb =>
    intro u h
    cases u with
    | div c d =>
      have g := (Bool.and_eq_true _ _).mp (show (sz_te a c && sz_te b d) = true from h)
      refine ⟨rfl, ?_⟩
      show ((sx_d E a).1 / (sx_d E b).1, (0 : Int64)) = ((sx_d E c).1 / (sx_d E d).1, 0)
      rw [(iha _ g.1).2, (ihb _ g.2).2]
    | _ => cases h
  | rem a b iha ihb =>
    intro u h
    cases u with
    | rem c d =>
      have g := (Bool.and_eq_true _ _).mp (show (sz_te a c && sz_te b d) = true from h)
      refine ⟨rfl, ?_⟩
      show ((sx_d E a).1 - (sx_d E a).1 / (sx_d E b).1 * (sx_d E b).1, (0 : Int64)) = ((sx_d E c).1 - (sx_d E c).1 / (sx_d E d).1 * (sx_d E d).1, 0)
      rw [(iha _ g.1).2, (ihb _ g.2).2]
    | _ => cases h
  | elem a b iha ihb =>
    intro u h
    cases u with
    | elem c d =>
      have g := (Bool.and_eq_true _ _).mp (show (sz_te a c && sz_te b d) = true from h)
      refine ⟨rfl, ?_⟩
      show (sx_ic (sx_d E a).1 (sx_d E b).1, (0 : Int64)) = (sx_ic (sx_d E c).1 (sx_d E d).1, 0)
      rw [(iha _ g.1).2, (ihb _ g.2).2]
    | _ => cases h
  | op2 o a b iha ihb =>
    intro u h
    cases u with
    | op2 p c d =>
      have g := (Bool.and_eq_true _ _).mp (show (decide (o = p) && (sz_te a c && sz_te b d)) = true from h)
      have g2 := (Bool.and_eq_true _ _).mp g.2
      have e : o = p := of_decide_eq_true g.1
      subst e
      refine ⟨rfl, ?_⟩
      show sx_o2 o (sx_d E a) (sx_d E b) = sx_o2 o (sx_d E c) (sx_d E d)
      rw [(iha _ g2.1).2, (ihb _ g2.2).2]
    | _ => cases h
  | op1 o a iha =>
    intro u h
    cases u with
    | op1 p c =>
      have g := (Bool.and_eq_true _ _).mp (show (decide (o = p) && sz_te a c) = true from h)
      have e : o = p := of_decide_eq_true g.1
      subst e
      refine ⟨rfl, ?_⟩
      show sx_o1 o (sx_d E a) = sx_o1 o (sx_d E c)
      rw [(iha _ g.2).2]
    | _ => cases h
  | _ =>
    intro u h
    cases u <;> cases h
