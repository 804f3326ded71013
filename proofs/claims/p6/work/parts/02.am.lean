/-! AM: an abstract machine: frames as kit rows have them (pc, listed locals, stack), memory as a map; one instruction at a time. Nothing here speaks of the class. -/
abbrev am_E : Type := (Nat × vp_A) ⊕ (Nat × List Value)
abbrev am_H : Type := Nat → Option am_E
abbrev am_L : Type := List (Nat × Value)
def am_set (M : am_H) (a : Nat) (e : am_E) : am_H := fun q => if q = a then some e else M q
theorem am_same {M : am_H} {a : Nat} {e : am_E} : am_set M a e a = some e := by simp [am_set]
theorem am_ne {M : am_H} {a b : Nat} {e : am_E} (h : b ≠ a) : am_set M a e b = M b := by simp [am_set, h]
def am_ld (i : Nat) (lv : am_L) : Option Value := (lv.find? (fun q => q.1 == i)).map (fun q => q.2)
theorem am_ld_spec {i : Nat} {lv : am_L} {v : Value} (h : am_ld i lv = some v) : ∃ k : Nat, lv[k]? = some (i, v) := by
  unfold am_ld at h
  obtain ⟨q, hq, rfl⟩ := Option.map_eq_some_iff.mp h
  have h1 := List.find?_some hq
  have h2 := List.mem_of_find?_eq_some hq
  obtain ⟨k, hk⟩ := List.getElem?_of_mem h2
  exact ⟨k, by rw [hk, ← show q.1 = i by simpa using h1]⟩
theorem am_ld_at {ls : Array Slot} {nL i : Nat} {lv : am_L} {v : Value} (hl : lv_has ls nL lv) (h : am_ld i lv = some v) : ls[i]? = some (.val v) := by
  obtain ⟨k, hk⟩ := am_ld_spec h
  exact lv_at hl k hk
/-- what an instruction pushes that takes nothing from the stack -/
def am_li (v : Option Value) : Option Value := match v with
  | some (.int x) => some (.int x)
  | _ => none
def am_ll (v : Option Value) : Option Value := match v with
  | some (.long x) => some (.long x)
  | _ => none
def am_la (v : Option Value) : Option Value := match v with
  | some (.ref x) => some (.ref x)
  | some .null => some .null
  | _ => none
theorem am_li_s {o : Option Value} {v : Value} (h : am_li o = some v) : ∃ x : Int32, o = some (.int x) ∧ v = .int x := by
  unfold am_li at h
  split at h
  · exact ⟨_, rfl, by cases h; rfl⟩
  · cases h
theorem am_ll_s {o : Option Value} {v : Value} (h : am_ll o = some v) : ∃ x : Int64, o = some (.long x) ∧ v = .long x := by
  unfold am_ll at h
  split at h
  · exact ⟨_, rfl, by cases h; rfl⟩
  · cases h
theorem am_la_s {o : Option Value} {v : Value} (h : am_la o = some v) : (∃ x : Nat, o = some (.ref x) ∧ v = .ref x) ∨ (o = some .null ∧ v = .null) := by
  unfold am_la at h
  split at h
  · exact Or.inl ⟨_, rfl, by cases h; rfl⟩
  · exact Or.inr ⟨rfl, by cases h; rfl⟩
  · cases h
def am_push (cst : Nat → Option Value) (i : Instr) (lv : am_L) : Option (Nat × Value) := match i with
  | .iconst n => some (1, .int (Int32.ofInt n))
  | .bipush n => some (2, .int (Int8.ofInt n).toInt32)
  | .sipush n => some (3, .int (Int16.ofInt n).toInt32)
  | .lconst n => some (1, .long (Int64.ofNat (n : Nat)))
  | .aconst_null => some (1, .null)
  | .iload_n k => (am_li (am_ld k lv)).map (fun v => (1, v))
  | .iload k => (am_li (am_ld k lv)).map (fun v => (2, v))
  | .lload_n k => (am_ll (am_ld k lv)).map (fun v => (1, v))
  | .lload k => (am_ll (am_ld k lv)).map (fun v => (2, v))
  | .aload_n k => (am_la (am_ld k lv)).map (fun v => (1, v))
  | .aload k => (am_la (am_ld k lv)).map (fun v => (2, v))
  | .ldc k => (am_li (cst k)).map (fun v => (2, v))
  | .ldc_w k => (am_li (cst k)).map (fun v => (3, v))
  | .ldc2_w k => (am_ll (cst k)).map (fun v => (3, v))
  | _ => none
/-- what an instruction makes of the stack alone (all of length 1) -/
def am_ii (f : Int32 → Int32 → Value) (st : List Value) : Option (List Value) := match st with
  | .int y :: .int x :: r => some (f x y :: r)
  | _ => none
def am_jj (f : Int64 → Int64 → Value) (st : List Value) : Option (List Value) := match st with
  | .long y :: .long x :: r => some (f x y :: r)
  | _ => none
def am_ij (f : Int64 → Int32 → Value) (st : List Value) : Option (List Value) := match st with
  | .int y :: .long x :: r => some (f x y :: r)
  | _ => none
def am_i1 (f : Int32 → Value) (st : List Value) : Option (List Value) := match st with
  | .int x :: r => some (f x :: r)
  | _ => none
def am_j1 (f : Int64 → Value) (st : List Value) : Option (List Value) := match st with
  | .long x :: r => some (f x :: r)
  | _ => none
theorem am_ii_s {f : Int32 → Int32 → Value} {st st' : List Value} (h : am_ii f st = some st') : ∃ y x r, st = .int y :: .int x :: r ∧ st' = f x y :: r := by
  unfold am_ii at h
  split at h
  · exact ⟨_, _, _, rfl, by cases h; rfl⟩
  · cases h
theorem am_jj_s {f : Int64 → Int64 → Value} {st st' : List Value} (h : am_jj f st = some st') : ∃ y x r, st = .long y :: .long x :: r ∧ st' = f x y :: r := by
  unfold am_jj at h
  split at h
  · exact ⟨_, _, _, rfl, by cases h; rfl⟩
  · cases h
theorem am_ij_s {f : Int64 → Int32 → Value} {st st' : List Value} (h : am_ij f st = some st') : ∃ y x r, st = .int y :: .long x :: r ∧ st' = f x y :: r := by
  unfold am_ij at h
  split at h
  · exact ⟨_, _, _, rfl, by cases h; rfl⟩
  · cases h
theorem am_i1_s {f : Int32 → Value} {st st' : List Value} (h : am_i1 f st = some st') : ∃ x r, st = .int x :: r ∧ st' = f x :: r := by
  unfold am_i1 at h
  split at h
  · exact ⟨_, _, rfl, by cases h; rfl⟩
  · cases h
theorem am_j1_s {f : Int64 → Value} {st st' : List Value} (h : am_j1 f st = some st') : ∃ x r, st = .long x :: r ∧ st' = f x :: r := by
  unfold am_j1 at h
  split at h
  · exact ⟨_, _, rfl, by cases h; rfl⟩
  · cases h
def am_nz (i : Instr) (st : List Value) : Prop := match i with
  | .idiv | .irem => ∃ y r, st = Value.int y :: r ∧ ¬ y = 0
  | .lrem | .ldiv => ∃ y r, st = Value.long y :: r ∧ ¬ y = 0
  | _ => True
def am_dup (st : List Value) : Option (List Value) := match st with
  | v :: r => if v.category = 1 then some (v :: v :: r) else none
  | _ => none
def am_pop (st : List Value) : Option (List Value) := match st with
  | v :: r => if v.category = 1 then some r else none
  | _ => none
def am_pop2 (st : List Value) : Option (List Value) := match st with
  | v :: r => if v.category = 2 then some r else none
  | _ => none
def am_dup2 (st : List Value) : Option (List Value) := match st with
  | v :: r => if v.category = 2 then some (v :: v :: r) else match r with
    | w :: r2 => if v.category = 1 ∧ w.category = 1 then some (v :: w :: v :: w :: r2) else none
    | _ => none
  | _ => none
def am_op (i : Instr) (st : List Value) : Option (List Value) := match i with
  | .iadd => am_ii (fun x y => .int (x + y)) st
  | .isub => am_ii (fun x y => .int (x - y)) st
  | .imul => am_ii (fun x y => .int (x * y)) st
  | .iand => am_ii (fun x y => .int (x &&& y)) st
  | .ior => am_ii (fun x y => .int (x ||| y)) st
  | .ixor => am_ii (fun x y => .int (x ^^^ y)) st
  | .idiv => am_ii (fun x y => .int (x / y)) st
  | .irem => am_ii (fun x y => .int (x - x / y * y)) st
  | .ishl => am_ii (fun x y => .int (x <<< (y &&& 31))) st
  | .ishr => am_ii (fun x y => .int (x >>> (y &&& 31))) st
  | .iushr => am_ii (fun x y => .int (x.toUInt32 >>> (y.toUInt32 &&& Int32.toUInt32 31)).toInt32) st
  | .ineg => am_i1 (fun x => .int (-x)) st
  | .i2l => am_i1 (fun x => .long x.toInt64) st
  | .l2i => am_j1 (fun x => .int x.toInt32) st
  | .lneg => am_j1 (fun x => .long (-x)) st
  | .ladd => am_jj (fun x y => .long (x + y)) st
  | .lsub => am_jj (fun x y => .long (x - y)) st
  | .lmul => am_jj (fun x y => .long (x * y)) st
  | .land => am_jj (fun x y => .long (x &&& y)) st
  | .lor => am_jj (fun x y => .long (x ||| y)) st
  | .lxor => am_jj (fun x y => .long (x ^^^ y)) st
  | .lrem => am_jj (fun x y => .long (x - x / y * y)) st
  | .lcmp => am_jj (fun x y => .int (lg_cmp x y)) st
  | .lshl => am_ij (fun x y => .long (x <<< (y.toInt64 &&& 63))) st
  | .lshr => am_ij (fun x y => .long (x >>> (y.toInt64 &&& 63))) st
  | .lushr => am_ij (fun x y => .long (x.toUInt64 >>> (y.toInt64.toUInt64 &&& Int64.toUInt64 63)).toInt64) st
  | .dup => am_dup st
  | .pop => am_pop st
  | .dup2 => am_dup2 st
  | .pop2 => am_pop2 st
  | _ => none
/-- what an instruction makes of locals (and takes from the stack); of length len, in a frame of nL locals -/
def am_st1 (i : Nat) (v : Value) (lv : am_L) : am_L := (i, v) :: lv.filter (fun q => !(q.1 == i) && !(q.1 + 1 == i && q.2.category == 2))
def am_st2 (i : Nat) (v : Value) (lv : am_L) : am_L := (i, v) :: lv.filter (fun q => !(q.1 == i) && (!(q.1 == i + 1) && !(q.1 + 1 == i && q.2.category == 2)))
def am_si (i : Nat) (lv : am_L) (st : List Value) : Option (am_L × List Value) := match st with
  | .int x :: r => some (am_st1 i (.int x) lv, r)
  | _ => none
def am_sj (i : Nat) (lv : am_L) (st : List Value) : Option (am_L × List Value) := match st with
  | .long x :: r => some (am_st2 i (.long x) lv, r)
  | _ => none
def am_sa (i : Nat) (lv : am_L) (st : List Value) : Option (am_L × List Value) := match st with
  | .ref x :: r => some (am_st1 i (.ref x) lv, r)
  | .null :: r => some (am_st1 i .null lv, r)
  | _ => none
theorem am_si_s {i : Nat} {lv : am_L} {st : List Value} {o : am_L × List Value} (h : am_si i lv st = some o) : ∃ x r, st = .int x :: r ∧ o = (am_st1 i (.int x) lv, r) := by
  unfold am_si at h
  split at h
  · exact ⟨_, _, rfl, by cases h; rfl⟩
  · cases h
theorem am_sj_s {i : Nat} {lv : am_L} {st : List Value} {o : am_L × List Value} (h : am_sj i lv st = some o) : ∃ x r, st = .long x :: r ∧ o = (am_st2 i (.long x) lv, r) := by
  unfold am_sj at h
  split at h
  · exact ⟨_, _, rfl, by cases h; rfl⟩
  · cases h
theorem am_sa_s {i : Nat} {lv : am_L} {st : List Value} {o : am_L × List Value} (h : am_sa i lv st = some o) : (∃ x r, st = .ref x :: r ∧ o = (am_st1 i (.ref x) lv, r)) ∨ ∃ r, st = .null :: r ∧ o = (am_st1 i .null lv, r) := by
  unfold am_sa at h
  split at h
  · exact Or.inl ⟨_, _, rfl, by cases h; rfl⟩
  · exact Or.inr ⟨_, rfl, by cases h; rfl⟩
  · cases h
def am_inc (i : Nat) (n : Int) (lv : am_L) (st : List Value) : Option (am_L × List Value) := match am_ld i lv with
  | some (.int x) => some (am_st1 i (.int (x + Int32.ofInt n)) lv, st)
  | _ => none
def am_sto (i : Instr) (lv : am_L) (st : List Value) : Option (Nat × Nat × am_L × List Value) := match i with
  | .istore_n k => (am_si k lv st).map (fun o => (1, (k : Nat) + 1, o))
  | .istore k => (am_si k lv st).map (fun o => (2, k + 1, o))
  | .lstore_n k => (am_sj k lv st).map (fun o => (1, (k : Nat) + 2, o))
  | .lstore k => (am_sj k lv st).map (fun o => (2, k + 2, o))
  | .astore_n k => (am_sa k lv st).map (fun o => (1, (k : Nat) + 1, o))
  | .astore k => (am_sa k lv st).map (fun o => (2, k + 1, o))
  | .iinc k n => (am_inc k n lv st).map (fun o => (3, k + 1, o))
  | _ => none
/-- branches -/
def am_tg (pc : Nat) (off : Int) (K : Nat → Prop) : Prop := ∃ t : Nat, (pc : Int) + off = (t : Int) ∧ K t
def am_c0 (c : Jvm.ClassFile.Cond) (x : Int32) : Prop := match c with
  | .eq => x = 0
  | .ne => ¬ x = 0
  | .lt => x < 0
  | .ge => 0 ≤ x
  | .gt => 0 < x
  | .le => x ≤ 0
def am_c2 (c : Jvm.ClassFile.Cond) (x y : Int32) : Prop := match c with
  | .eq => x = y
  | .ne => ¬ x = y
  | .lt => x < y
  | .ge => y ≤ x
  | .gt => y < x
  | .le => x ≤ y
def am_br (i : Instr) (len pc : Nat) (st : List Value) (K : Nat → List Value → Prop) : Prop := match i with
  | .goto off => len = 3 ∧ am_tg pc off (fun t => K t st)
  | .ifCond c off => len = 3 ∧ ∃ x r, st = Value.int x :: r ∧ am_tg pc off (fun t => (am_c0 c x → K t r) ∧ (¬ am_c0 c x → K (pc + 3) r))
  | .if_icmp c off => len = 3 ∧ ∃ y x r, st = Value.int y :: Value.int x :: r ∧ am_tg pc off (fun t => (am_c2 c x y → K t r) ∧ (¬ am_c2 c x y → K (pc + 3) r))
  | .ifnull off => len = 3 ∧ ((∃ x r, st = Value.ref x :: r ∧ K (pc + 3) r) ∨ ∃ r, st = Value.null :: r ∧ am_tg pc off (fun t => K t r))
  | .ifnonnull off => len = 3 ∧ ((∃ x r, st = Value.ref x :: r ∧ am_tg pc off (fun t => K t r)) ∨ ∃ r, st = Value.null :: r ∧ K (pc + 3) r)
  | .tableswitch dflt lo hi offs => ∃ x r, st = Value.int x :: r ∧ ((x.toInt < lo ∨ hi < x.toInt) → am_tg pc dflt (fun t => K t r)) ∧ (¬ x.toInt < lo → ¬ hi < x.toInt → ∃ off, offs[(x.toInt - lo).toNat]? = some off ∧ am_tg pc off (fun t => K t r))
  | .lookupswitch dflt ps => ∃ x r, st = Value.int x :: r ∧ (ps.toList.zip (ps.toList.drop 1)).all (fun (a, next) => a.1 < next.1) = true ∧ am_tg pc (Op.lookupswitch.offset ps.toList dflt x.toInt) (fun t => K t r)
  | _ => False
