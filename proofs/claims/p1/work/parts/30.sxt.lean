/-! SX: a symbolic runner over AM: values are terms; ints and longs of terms -/
abbrev sx_E : Type := Nat × (Nat → Nat) × (Nat → Int32)
def sx_ic (x y : Int32) : Int32 := if y < x then 1 else if x = y then 0 else -1
def sx_o2 (o : Binary) (x y : Int32 × Int64) : Int32 × Int64 := match o with
  | .iand => (x.1 &&& y.1, 0)
  | .ior => (x.1 ||| y.1, 0)
  | .ixor => (x.1 ^^^ y.1, 0)
  | .ishl => (x.1 <<< (y.1 &&& 31), 0)
  | .ishr => (x.1 >>> (y.1 &&& 31), 0)
  | .iushr => ((x.1.toUInt32 >>> (y.1.toUInt32 &&& Int32.toUInt32 31)).toInt32, 0)
  | .ladd => (0, x.2 + y.2)
  | .lsub => (0, x.2 - y.2)
  | .lmul => (0, x.2 * y.2)
  | .land => (0, x.2 &&& y.2)
  | .lor => (0, x.2 ||| y.2)
  | .lxor => (0, x.2 ^^^ y.2)
  | .lrem => (0, x.2 - x.2 / y.2 * y.2)
  | .lshl => (0, x.2 <<< (y.1.toInt64 &&& 63))
  | .lshr => (0, x.2 >>> (y.1.toInt64 &&& 63))
  | .lushr => (0, (x.2.toUInt64 >>> (y.1.toInt64.toUInt64 &&& Int64.toUInt64 63)).toInt64)
  | .lcmp => (lg_cmp x.2 y.2, 0)
  | _ => (0, 0)
def sx_o1 (o : Unary) (x : Int32 × Int64) : Int32 × Int64 := match o with
  | .ineg => (-x.1, 0)
  | .i2l => (0, x.1.toInt64)
  | .l2i => (x.2.toInt32, 0)
  | .lneg => (0, -x.2)
  | _ => (0, 0)
/-- a script's int k is written .string "" k; the compared ints a, b: .elem a b -/
def sx_d (E : sx_E) : Term → Int32 × Int64
  | .int v => (v, 0)
  | .long v => (0, v)
  | .string _ k => (E.2.2 k, 0)
  | .add a b => ((sx_d E a).1 + (sx_d E b).1, 0)
  | .sub a b => ((sx_d E a).1 - (sx_d E b).1, 0)
  | .mul a b => ((sx_d E a).1 * (sx_d E b).1, 0)
  | .div a b => ((sx_d E a).1 / (sx_d E b).1, 0)
  | .rem a b => ((sx_d E a).1 - (sx_d E a).1 / (sx_d E b).1 * (sx_d E b).1, 0)
  | .elem a b => (sx_ic (sx_d E a).1 (sx_d E b).1, 0)
  | .op2 o a b => sx_o2 o (sx_d E a) (sx_d E b)
  | .op1 o a => sx_o1 o (sx_d E a)
  | _ => (0, 0)
/-- 0 an int, 1 a long, 2 an address, 3 null -/
def sx_k (t : Term) : Nat := match t with
  | .long _ => 1
  | .op2 o _ _ => (match o with
    | .ladd | .lsub | .lmul | .land | .lor | .lxor | .lrem | .lshl | .lshr | .lushr => 1
    | _ => 0)
  | .op1 o _ => (match o with
    | .i2l | .lneg => 1
    | _ => 0)
  | .index _ => 2
  | .arg _ => 2
  | .null => 3
  | _ => 0
def sx_a (E : sx_E) (t : Term) : Nat := match t with
  | .index k => E.1 + k
  | .arg k => E.2.1 k
  | _ => 0
def sx_v (E : sx_E) (t : Term) : Value := match sx_k t with
  | 0 => .int (sx_d E t).1
  | 1 => .long (sx_d E t).2
  | 2 => .ref (sx_a E t)
  | _ => .null
theorem sx_v0 {E : sx_E} {t : Term} (h : sx_k t = 0) : sx_v E t = .int (sx_d E t).1 := by
  unfold sx_v
  rw [h]
  rfl
theorem sx_v1 {E : sx_E} {t : Term} (h : sx_k t = 1) : sx_v E t = .long (sx_d E t).2 := by
  unfold sx_v
  rw [h]
  rfl
theorem sx_v2 {E : sx_E} {t : Term} (h : sx_k t = 2) : sx_v E t = .ref (sx_a E t) := by
  unfold sx_v
  rw [h]
  rfl
theorem sx_v3 {E : sx_E} {t : Term} (h : sx_k t = 3) : sx_v E t = .null := by
  unfold sx_v
  rw [h]
  rfl
theorem sx_k4 (t : Term) : sx_k t = 0 ∨ sx_k t = 1 ∨ sx_k t = 2 ∨ sx_k t = 3 := by
  unfold sx_k
  split <;> first | (split <;> simp; done) | simp
def sx_c (t : Term) : Option Int32 := match t with
  | .int x => some x
  | _ => none
theorem sx_c_s {t : Term} {x : Int32} (h : sx_c t = some x) : t = .int x := by
  unfold sx_c at h
  split at h
  · injection h with h
    rw [h]
  · cases h
def sx_cl (t : Term) : Option Int64 := match t with
  | .long x => some x
  | _ => none
theorem sx_cl_s {t : Term} {x : Int64} (h : sx_cl t = some x) : t = .long x := by
  unfold sx_cl at h
  split at h
  · injection h with h
    rw [h]
  · cases h
/-- of two ints an int -/
def sx_ii (g : Int32 → Int32 → Int32) (nd : Term → Term → Term) (st : List Term) : Option (List Term) := match st with
  | b :: a :: r => if sx_k a = 0 ∧ sx_k b = 0 then some ((match sx_c a, sx_c b with
      | some x, some y => .int (g x y)
      | _, _ => nd a b) :: r) else none
  | _ => none
theorem sx_ii_s {E : sx_E} {g : Int32 → Int32 → Int32} {nd : Term → Term → Term} {st st' : List Term} (hn : ∀ a b, sx_k a = 0 → sx_k b = 0 → sx_k (nd a b) = 0 ∧ (sx_d E (nd a b)).1 = g (sx_d E a).1 (sx_d E b).1) (h : sx_ii g nd st = some st') :
    am_ii (fun x y => .int (g x y)) (st.map (sx_v E)) = some (st'.map (sx_v E)) := by
  unfold sx_ii at h
  split at h
  · rename_i b a r
    split at h
    · rename_i hk
      injection h with h
      subst h
      simp only [List.map_cons, sx_v0 hk.1, sx_v0 hk.2]
      unfold am_ii
      simp only [Option.some.injEq, List.cons.injEq, and_true]
      split
      · rename_i x y h1 h2
        rw [sx_c_s h1, sx_c_s h2]
        rfl
      · rw [sx_v0 (hn a b hk.1 hk.2).1, (hn a b hk.1 hk.2).2]
    · cases h
  · cases h
/-- of two longs a long -/
def sx_jj (g : Int64 → Int64 → Int64) (nd : Term → Term → Term) (st : List Term) : Option (List Term) := match st with
  | b :: a :: r => if sx_k a = 1 ∧ sx_k b = 1 then some ((match sx_cl a, sx_cl b with
      | some x, some y => .long (g x y)
      | _, _ => nd a b) :: r) else none
  | _ => none
theorem sx_jj_s {E : sx_E} {g : Int64 → Int64 → Int64} {nd : Term → Term → Term} {st st' : List Term} (hn : ∀ a b, sx_k a = 1 → sx_k b = 1 → sx_k (nd a b) = 1 ∧ (sx_d E (nd a b)).2 = g (sx_d E a).2 (sx_d E b).2) (h : sx_jj g nd st = some st') :
    am_jj (fun x y => .long (g x y)) (st.map (sx_v E)) = some (st'.map (sx_v E)) := by
  unfold sx_jj at h
  split at h
  · rename_i b a r
    split at h
    · rename_i hk
      injection h with h
      subst h
      simp only [List.map_cons, sx_v1 hk.1, sx_v1 hk.2]
      unfold am_jj
      simp only [Option.some.injEq, List.cons.injEq, and_true]
      split
      · rename_i x y h1 h2
        rw [sx_cl_s h1, sx_cl_s h2]
        rfl
      · rw [sx_v1 (hn a b hk.1 hk.2).1, (hn a b hk.1 hk.2).2]
    · cases h
  · cases h
/-- of a long and an int a long -/
def sx_ij (g : Int64 → Int32 → Int64) (nd : Term → Term → Term) (st : List Term) : Option (List Term) := match st with
  | b :: a :: r => if sx_k a = 1 ∧ sx_k b = 0 then some ((match sx_cl a, sx_c b with
      | some x, some y => .long (g x y)
      | _, _ => nd a b) :: r) else none
  | _ => none
theorem sx_ij_s {E : sx_E} {g : Int64 → Int32 → Int64} {nd : Term → Term → Term} {st st' : List Term} (hn : ∀ a b, sx_k a = 1 → sx_k b = 0 → sx_k (nd a b) = 1 ∧ (sx_d E (nd a b)).2 = g (sx_d E a).2 (sx_d E b).1) (h : sx_ij g nd st = some st') :
    am_ij (fun x y => .long (g x y)) (st.map (sx_v E)) = some (st'.map (sx_v E)) := by
  unfold sx_ij at h
  split at h
  · rename_i b a r
    split at h
    · rename_i hk
      injection h with h
      subst h
      simp only [List.map_cons, sx_v1 hk.1, sx_v0 hk.2]
      unfold am_ij
      simp only [Option.some.injEq, List.cons.injEq, and_true]
      split
      · rename_i x y h1 h2
        rw [sx_cl_s h1, sx_c_s h2]
        rfl
      · rw [sx_v1 (hn a b hk.1 hk.2).1, (hn a b hk.1 hk.2).2]
    · cases h
  · cases h
/-- of two longs an int -/
def sx_ji (g : Int64 → Int64 → Int32) (nd : Term → Term → Term) (st : List Term) : Option (List Term) := match st with
  | b :: a :: r => if sx_k a = 1 ∧ sx_k b = 1 then some ((match sx_cl a, sx_cl b with
      | some x, some y => .int (g x y)
      | _, _ => nd a b) :: r) else none
  | _ => none
theorem sx_ji_s {E : sx_E} {g : Int64 → Int64 → Int32} {nd : Term → Term → Term} {st st' : List Term} (hn : ∀ a b, sx_k a = 1 → sx_k b = 1 → sx_k (nd a b) = 0 ∧ (sx_d E (nd a b)).1 = g (sx_d E a).2 (sx_d E b).2) (h : sx_ji g nd st = some st') :
    am_jj (fun x y => .int (g x y)) (st.map (sx_v E)) = some (st'.map (sx_v E)) := by
  unfold sx_ji at h
  split at h
  · rename_i b a r
    split at h
    · rename_i hk
      injection h with h
      subst h
      simp only [List.map_cons, sx_v1 hk.1, sx_v1 hk.2]
      unfold am_jj
      simp only [Option.some.injEq, List.cons.injEq, and_true]
      split
      · rename_i x y h1 h2
        rw [sx_cl_s h1, sx_cl_s h2]
        rfl
      · rw [sx_v0 (hn a b hk.1 hk.2).1, (hn a b hk.1 hk.2).2]
    · cases h
  · cases h
def sx_add (a b : Term) : Term := if a = .int 0 then b else if b = .int 0 then a else .add a b
theorem sx_add_s {E : sx_E} (a b : Term) (ha : sx_k a = 0) (hb : sx_k b = 0) : sx_k (sx_add a b) = 0 ∧ (sx_d E (sx_add a b)).1 = (sx_d E a).1 + (sx_d E b).1 := by
  unfold sx_add
  split
  · rename_i h
    subst h
    exact ⟨hb, by simp [sx_d]⟩
  · split
    · rename_i h
      subst h
      exact ⟨ha, by simp [sx_d]⟩
    · exact ⟨rfl, rfl⟩
/-- a long that is an int's -/
def sx_ai (t : Term) : Option Term := match t with
  | .long v => if v.toInt32.toInt64 = v then some (.int v.toInt32) else none
  | .op1 o a => (match o with
    | .i2l => some a
    | _ => none)
  | _ => none
theorem sx_ai_s {E : sx_E} {t a : Term} (h : sx_ai t = some a) : (sx_d E t).2 = (sx_d E a).1.toInt64 := by
  unfold sx_ai at h
  split at h
  · split at h
    · rename_i he
      injection h with h
      subst h
      exact he.symm
    · cases h
  · split at h
    · injection h with h
      subst h
      rfl
    · cases h
  · cases h
theorem sx_ic_s (x y : Int32) : lg_cmp x.toInt64 y.toInt64 = sx_ic x y := by
  unfold lg_cmp sx_ic
  have e1 : (y.toInt64 < x.toInt64) = (y < x) := by
    rw [Int64.lt_iff_toInt_lt, Int32.lt_iff_toInt_lt, Int32.toInt_toInt64, Int32.toInt_toInt64]
  have e2 : (x.toInt64 = y.toInt64) = (x = y) := by
    rw [← Int64.toInt_inj, ← Int32.toInt_inj, Int32.toInt_toInt64, Int32.toInt_toInt64]
  simp only [gt_iff_lt, e1, e2]
def sx_cmp (a b : Term) : Term := match sx_ai a, sx_ai b with
  | some x, some y => .elem x y
  | _, _ => .op2 .lcmp a b
theorem sx_cmp_s {E : sx_E} (a b : Term) : sx_k (sx_cmp a b) = 0 ∧ (sx_d E (sx_cmp a b)).1 = lg_cmp (sx_d E a).2 (sx_d E b).2 := by
  unfold sx_cmp
  split
  · rename_i x y h1 h2
    rw [sx_ai_s h1, sx_ai_s h2, sx_ic_s]
    exact ⟨rfl, rfl⟩
  · exact ⟨rfl, rfl⟩
/-- what an instruction makes of the stack alone -/
def sx_nd2 (o : Binary) (a b : Term) : Term := .op2 o a b
def sx_i1 (g : Int32 → Int32) (nd : Term → Term) (st : List Term) : Option (List Term) := match st with
  | a :: r => if sx_k a = 0 then some ((match sx_c a with
      | some x => .int (g x)
      | _ => nd a) :: r) else none
  | _ => none
def sx_i1l (g : Int32 → Int64) (nd : Term → Term) (st : List Term) : Option (List Term) := match st with
  | a :: r => if sx_k a = 0 then some ((match sx_c a with
      | some x => .long (g x)
      | _ => nd a) :: r) else none
  | _ => none
def sx_j1 (g : Int64 → Int64) (nd : Term → Term) (st : List Term) : Option (List Term) := match st with
  | a :: r => if sx_k a = 1 then some ((match sx_cl a with
      | some x => .long (g x)
      | _ => nd a) :: r) else none
  | _ => none
def sx_j1i (g : Int64 → Int32) (nd : Term → Term) (st : List Term) : Option (List Term) := match st with
  | a :: r => if sx_k a = 1 then some ((match sx_cl a with
      | some x => .int (g x)
      | _ => nd a) :: r) else none
  | _ => none
theorem sx_i1_s {E : sx_E} {g : Int32 → Int32} {nd : Term → Term} {st st' : List Term} (hn : ∀ a, sx_k (nd a) = 0 ∧ (sx_d E (nd a)).1 = g (sx_d E a).1) (h : sx_i1 g nd st = some st') : am_i1 (fun x => .int (g x)) (st.map (sx_v E)) = some (st'.map (sx_v E)) := by
  unfold sx_i1 at h
  split at h
  · split at h
    · rename_i a r hk
      injection h with h
      subst h
      simp only [List.map_cons, sx_v0 hk]
      unfold am_i1
      simp only [Option.some.injEq, List.cons.injEq, and_true]
      split
      · rename_i x h1
        rw [sx_c_s h1]
        rfl
      · rw [sx_v0 (hn a).1, (hn a).2]
    · cases h
  · cases h
theorem sx_i1l_s {E : sx_E} {g : Int32 → Int64} {nd : Term → Term} {st st' : List Term} (hn : ∀ a, sx_k (nd a) = 1 ∧ (sx_d E (nd a)).2 = g (sx_d E a).1) (h : sx_i1l g nd st = some st') : am_i1 (fun x => .long (g x)) (st.map (sx_v E)) = some (st'.map (sx_v E)) := by
  unfold sx_i1l at h
  split at h
  · split at h
    · rename_i a r hk
      injection h with h
      subst h
      simp only [List.map_cons, sx_v0 hk]
      unfold am_i1
      simp only [Option.some.injEq, List.cons.injEq, and_true]
      split
      · rename_i x h1
        rw [sx_c_s h1]
        rfl
      · rw [sx_v1 (hn a).1, (hn a).2]
    · cases h
  · cases h
theorem sx_j1_s {E : sx_E} {g : Int64 → Int64} {nd : Term → Term} {st st' : List Term} (hn : ∀ a, sx_k (nd a) = 1 ∧ (sx_d E (nd a)).2 = g (sx_d E a).2) (h : sx_j1 g nd st = some st') : am_j1 (fun x => .long (g x)) (st.map (sx_v E)) = some (st'.map (sx_v E)) := by
  unfold sx_j1 at h
  split at h
  · split at h
    · rename_i a r hk
      injection h with h
      subst h
      simp only [List.map_cons, sx_v1 hk]
      unfold am_j1
      simp only [Option.some.injEq, List.cons.injEq, and_true]
      split
      · rename_i x h1
        rw [sx_cl_s h1]
        rfl
      · rw [sx_v1 (hn a).1, (hn a).2]
    · cases h
  · cases h
theorem sx_j1i_s {E : sx_E} {g : Int64 → Int32} {nd : Term → Term} {st st' : List Term} (hn : ∀ a, sx_k (nd a) = 0 ∧ (sx_d E (nd a)).1 = g (sx_d E a).2) (h : sx_j1i g nd st = some st') : am_j1 (fun x => .int (g x)) (st.map (sx_v E)) = some (st'.map (sx_v E)) := by
  unfold sx_j1i at h
  split at h
  · split at h
    · rename_i a r hk
      injection h with h
      subst h
      simp only [List.map_cons, sx_v1 hk]
      unfold am_j1
      simp only [Option.some.injEq, List.cons.injEq, and_true]
      split
      · rename_i x h1
        rw [sx_cl_s h1]
        rfl
      · rw [sx_v0 (hn a).1, (hn a).2]
    · cases h
  · cases h
/-- a divisor that is a constant, not 0 -/
def sx_dv (st : List Term) : Bool := match st with
  | b :: _ => (match b with
    | .int y => !(y == 0)
    | .long y => !(y == 0)
    | _ => false)
  | _ => false
def sx_op (i : Instr) (st : List Term) : Option (List Term) := match i with
  | .iadd => sx_ii (fun x y => x + y) sx_add st
  | .isub => sx_ii (fun x y => x - y) .sub st
  | .imul => sx_ii (fun x y => x * y) .mul st
  | .iand => sx_ii (fun x y => x &&& y) (.op2 .iand) st
  | .ior => sx_ii (fun x y => x ||| y) (.op2 .ior) st
  | .ixor => sx_ii (fun x y => x ^^^ y) (.op2 .ixor) st
  | .idiv => if sx_dv st then sx_ii (fun x y => x / y) .div st else none
  | .irem => if sx_dv st then sx_ii (fun x y => x - x / y * y) .rem st else none
  | .ishl => sx_ii (fun x y => x <<< (y &&& 31)) (.op2 .ishl) st
  | .ishr => sx_ii (fun x y => x >>> (y &&& 31)) (.op2 .ishr) st
  | .iushr => sx_ii (fun x y => (x.toUInt32 >>> (y.toUInt32 &&& Int32.toUInt32 31)).toInt32) (.op2 .iushr) st
  | .ineg => sx_i1 (fun x => -x) (.op1 .ineg) st
  | .i2l => sx_i1l (fun x => x.toInt64) (.op1 .i2l) st
  | .l2i => sx_j1i (fun x => x.toInt32) (.op1 .l2i) st
  | .lneg => sx_j1 (fun x => -x) (.op1 .lneg) st
  | .ladd => sx_jj (fun x y => x + y) (.op2 .ladd) st
  | .lsub => sx_jj (fun x y => x - y) (.op2 .lsub) st
  | .lmul => sx_jj (fun x y => x * y) (.op2 .lmul) st
  | .land => sx_jj (fun x y => x &&& y) (.op2 .land) st
  | .lor => sx_jj (fun x y => x ||| y) (.op2 .lor) st
  | .lxor => sx_jj (fun x y => x ^^^ y) (.op2 .lxor) st
  | .lrem => if sx_dv st then sx_jj (fun x y => x - x / y * y) (.op2 .lrem) st else none
  | .lcmp => sx_ji lg_cmp sx_cmp st
  | .lshl => sx_ij (fun x y => x <<< (y.toInt64 &&& 63)) (.op2 .lshl) st
  | .lshr => sx_ij (fun x y => x >>> (y.toInt64 &&& 63)) (.op2 .lshr) st
  | .lushr => sx_ij (fun x y => (x.toUInt64 >>> (y.toInt64.toUInt64 &&& Int64.toUInt64 63)).toInt64) (.op2 .lushr) st
  | .dup => (match st with
    | v :: r => if sx_k v = 1 then none else some (v :: v :: r)
    | _ => none)
  | .pop => (match st with
    | v :: r => if sx_k v = 1 then none else some r
    | _ => none)
  | .dup2 => (match st with
    | v :: r => if sx_k v = 1 then some (v :: v :: r) else (match r with
      | w :: r2 => if sx_k w = 1 then none else some (v :: w :: v :: w :: r2)
      | _ => none)
    | _ => none)
  | _ => none
theorem sx_cat {E : sx_E} (t : Term) : (sx_v E t).category = if sx_k t = 1 then 2 else 1 := by
  rcases sx_k4 t with h | h | h | h
  · rw [sx_v0 h, h]; rfl
  · rw [sx_v1 h, h]; rfl
  · rw [sx_v2 h, h]; rfl
  · rw [sx_v3 h, h]; rfl
theorem sx_dv_i {E : sx_E} {st : List Term} (h : sx_dv st = true) : (∃ y r, st.map (sx_v E) = Value.int y :: r ∧ ¬ y = 0) ∨ ∃ y r, st.map (sx_v E) = Value.long y :: r ∧ ¬ y = 0 := by
  unfold sx_dv at h
  split at h
  · split at h
    · rename_i y
      exact Or.inl ⟨y, _, rfl, by simpa using h⟩
    · rename_i y
      exact Or.inr ⟨y, _, rfl, by simpa using h⟩
    · cases h
  · cases h
theorem sx_op_s {E : sx_E} {i : Instr} {st st' : List Term} (h : sx_op i st = some st') : am_op i (st.map (sx_v E)) = some (st'.map (sx_v E)) ∧ am_nz i (st.map (sx_v E)) := by
  have hdi : ∀ {g : Int32 → Int32 → Int32} {nd : Term → Term → Term}, (if sx_dv st then sx_ii g nd st else none) = some st' → sx_ii g nd st = some st' ∧ ∃ y r, st.map (sx_v E) = Value.int y :: r ∧ ¬ y = 0 := by
    intro g nd h
    split at h
    · rename_i hd
      refine ⟨h, ?_⟩
      rcases sx_dv_i (E := E) hd with ⟨y, r, h1, h2⟩ | ⟨y, r, h1, h2⟩
      · exact ⟨y, r, h1, h2⟩
      · exfalso
        unfold sx_ii at h
        split at h
        · split at h
          · rename_i b a r2 hk
            simp only [List.map_cons, sx_v0 hk.2] at h1
            cases h1
          · cases h
        · cases h
    · cases h
  have hdj : ∀ {g : Int64 → Int64 → Int64} {nd : Term → Term → Term}, (if sx_dv st then sx_jj g nd st else none) = some st' → sx_jj g nd st = some st' ∧ ∃ y r, st.map (sx_v E) = Value.long y :: r ∧ ¬ y = 0 := by
    intro g nd h
    split at h
    · rename_i hd
      refine ⟨h, ?_⟩
      rcases sx_dv_i (E := E) hd with ⟨y, r, h1, h2⟩ | ⟨y, r, h1, h2⟩
      · exfalso
        unfold sx_jj at h
        split at h
        · split at h
          · rename_i b a r2 hk
            simp only [List.map_cons, sx_v1 hk.2] at h1
            cases h1
          · cases h
        · cases h
      · exact ⟨y, r, h1, h2⟩
    · cases h
  cases i with
  | iadd => exact ⟨sx_ii_s (fun a b ha hb => sx_add_s a b ha hb) h, trivial⟩
  | isub => exact ⟨sx_ii_s (fun a b ha hb => ⟨rfl, rfl⟩) h, trivial⟩
  | imul => exact ⟨sx_ii_s (fun a b ha hb => ⟨rfl, rfl⟩) h, trivial⟩
  | iand => exact ⟨sx_ii_s (fun a b ha hb => ⟨rfl, rfl⟩) h, trivial⟩
  | ior => exact ⟨sx_ii_s (fun a b ha hb => ⟨rfl, rfl⟩) h, trivial⟩
  | ixor => exact ⟨sx_ii_s (fun a b ha hb => ⟨rfl, rfl⟩) h, trivial⟩
  | ishl => exact ⟨sx_ii_s (fun a b ha hb => ⟨rfl, rfl⟩) h, trivial⟩
  | ishr => exact ⟨sx_ii_s (fun a b ha hb => ⟨rfl, rfl⟩) h, trivial⟩
  | iushr => exact ⟨sx_ii_s (fun a b ha hb => ⟨rfl, rfl⟩) h, trivial⟩
  | idiv =>
    obtain ⟨h1, h2⟩ := hdi h
    exact ⟨sx_ii_s (fun a b ha hb => ⟨rfl, rfl⟩) h1, h2⟩
  | irem =>
    obtain ⟨h1, h2⟩ := hdi h
    exact ⟨sx_ii_s (fun a b ha hb => ⟨rfl, rfl⟩) h1, h2⟩
  | lrem =>
    obtain ⟨h1, h2⟩ := hdj h
    exact ⟨sx_jj_s (fun a b ha hb => ⟨rfl, rfl⟩) h1, h2⟩
  | ineg => exact ⟨sx_i1_s (fun a => ⟨rfl, rfl⟩) h, trivial⟩
  | i2l => exact ⟨sx_i1l_s (fun a => ⟨rfl, rfl⟩) h, trivial⟩
  | l2i => exact ⟨sx_j1i_s (fun a => ⟨rfl, rfl⟩) h, trivial⟩
  | lneg => exact ⟨sx_j1_s (fun a => ⟨rfl, rfl⟩) h, trivial⟩
  | ladd => exact ⟨sx_jj_s (fun a b ha hb => ⟨rfl, rfl⟩) h, trivial⟩
  | lsub => exact ⟨sx_jj_s (fun a b ha hb => ⟨rfl, rfl⟩) h, trivial⟩
  | lmul => exact ⟨sx_jj_s (fun a b ha hb => ⟨rfl, rfl⟩) h, trivial⟩
  | land => exact ⟨sx_jj_s (fun a b ha hb => ⟨rfl, rfl⟩) h, trivial⟩
  | lor => exact ⟨sx_jj_s (fun a b ha hb => ⟨rfl, rfl⟩) h, trivial⟩
  | lxor => exact ⟨sx_jj_s (fun a b ha hb => ⟨rfl, rfl⟩) h, trivial⟩
  | lcmp => exact ⟨sx_ji_s (fun a b ha hb => sx_cmp_s a b) h, trivial⟩
  | lshl => exact ⟨sx_ij_s (fun a b ha hb => ⟨rfl, rfl⟩) h, trivial⟩
  | lshr => exact ⟨sx_ij_s (fun a b ha hb => ⟨rfl, rfl⟩) h, trivial⟩
  | lushr => exact ⟨sx_ij_s (fun a b ha hb => ⟨rfl, rfl⟩) h, trivial⟩
  | dup =>
    refine ⟨?_, trivial⟩
    unfold sx_op at h
    cases st with
    | nil => cases h
    | cons v r =>
      dsimp only at h
      split at h
      · cases h
      · rename_i hk
        injection h with h
        subst h
        show am_dup (sx_v E v :: r.map (sx_v E)) = _
        unfold am_dup
        simp only [sx_cat, if_neg hk, List.map_cons, if_true]
  | pop =>
    refine ⟨?_, trivial⟩
    unfold sx_op at h
    cases st with
    | nil => cases h
    | cons v r =>
      dsimp only at h
      split at h
      · cases h
      · rename_i hk
        injection h with h
        subst h
        show am_pop (sx_v E v :: r.map (sx_v E)) = _
        unfold am_pop
        simp only [sx_cat, if_neg hk, if_true]
  | dup2 =>
    refine ⟨?_, trivial⟩
    unfold sx_op at h
    cases st with
    | nil => cases h
    | cons v r =>
      dsimp only at h
      split at h
      · rename_i hk
        injection h with h
        subst h
        show am_dup2 (sx_v E v :: r.map (sx_v E)) = _
        unfold am_dup2
        simp only [sx_cat, if_pos hk, List.map_cons, if_true]
      · rename_i hk
        cases r with
        | nil => cases h
        | cons w r2 =>
          dsimp only at h
          split at h
          · cases h
          · rename_i hw
            injection h with h
            subst h
            show am_dup2 (sx_v E v :: sx_v E w :: r2.map (sx_v E)) = _
            unfold am_dup2
            simp only [sx_cat, if_neg hk, if_neg hw, List.map_cons]
            simp
  | _ => cases h
