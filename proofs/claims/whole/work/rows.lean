section
/-! AM: an abstract machine: frames as kit rows have them (pc, listed locals, stack), memory as a map; one instruction at a time. Nothing here speaks of the class. -/
abbrev am_E : Type := (Nat × vp_A) ⊕ (Nat × List Value)
abbrev am_H : Type := Nat → Option am_E
abbrev am_L : Type := List (Nat × Value)
def am_set (M : am_H) (a : Nat) (e : am_E) : am_H := fun q => if q = a then some e else M q
theorem am_same {M : am_H} {a : Nat} {e : am_E} : am_set M a e a = some e := by simp [am_set]
theorem am_ne {M : am_H} {a b : Nat} {e : am_E} (h : b ≠ a) : am_set M a e b = M b := by simp [am_set, h]
def am_ld (i : Nat) (lv : am_L) : Option Value := (lv.find? (fun q => q.1 == i)).map (fun q => q.2)
theorem am_ld_spec {i : Nat} {lv : am_L} {v : Value} (h : am_ld i lv = some v) : ∃ k : Nat, lv[k]? = some (i, v) := by
  unfold am_ld at h
  obtain ⟨q, hq, rfl⟩ := Option.map_eq_some_iff.mp h
  have h1 := List.find?_some hq
  have h2 := List.mem_of_find?_eq_some hq
  obtain ⟨k, hk⟩ := List.getElem?_of_mem h2
  exact ⟨k, by rw [hk, ← show q.1 = i by simpa using h1]⟩
theorem am_ld_at {ls : Array Slot} {nL i : Nat} {lv : am_L} {v : Value} (hl : lv_has ls nL lv) (h : am_ld i lv = some v) : ls[i]? = some (.val v) := by
  obtain ⟨k, hk⟩ := am_ld_spec h
  exact lv_at hl k hk
/-- what an instruction pushes that takes nothing from the stack -/
def am_li (v : Option Value) : Option Value := match v with
  | some (.int x) => some (.int x)
  | _ => none
def am_ll (v : Option Value) : Option Value := match v with
  | some (.long x) => some (.long x)
  | _ => none
def am_la (v : Option Value) : Option Value := match v with
  | some (.ref x) => some (.ref x)
  | some .null => some .null
  | _ => none
theorem am_li_s {o : Option Value} {v : Value} (h : am_li o = some v) : ∃ x : Int32, o = some (.int x) ∧ v = .int x := by
  unfold am_li at h
  split at h
  · exact ⟨_, rfl, by cases h; rfl⟩
  · cases h
theorem am_ll_s {o : Option Value} {v : Value} (h : am_ll o = some v) : ∃ x : Int64, o = some (.long x) ∧ v = .long x := by
  unfold am_ll at h
  split at h
  · exact ⟨_, rfl, by cases h; rfl⟩
  · cases h
theorem am_la_s {o : Option Value} {v : Value} (h : am_la o = some v) : (∃ x : Nat, o = some (.ref x) ∧ v = .ref x) ∨ (o = some .null ∧ v = .null) := by
  unfold am_la at h
  split at h
  · exact Or.inl ⟨_, rfl, by cases h; rfl⟩
  · exact Or.inr ⟨rfl, by cases h; rfl⟩
  · cases h
def am_push (cst : Nat → Option Value) (i : Instr) (lv : am_L) : Option (Nat × Value) := match i with
  | .iconst n => some (1, .int (Int32.ofInt n))
  | .bipush n => some (2, .int (Int8.ofInt n).toInt32)
  | .sipush n => some (3, .int (Int16.ofInt n).toInt32)
  | .lconst n => some (1, .long (Int64.ofNat (n : Nat)))
  | .aconst_null => some (1, .null)
  | .iload_n k => (am_li (am_ld k lv)).map (fun v => (1, v))
  | .iload k => (am_li (am_ld k lv)).map (fun v => (2, v))
  | .lload_n k => (am_ll (am_ld k lv)).map (fun v => (1, v))
  | .lload k => (am_ll (am_ld k lv)).map (fun v => (2, v))
  | .aload_n k => (am_la (am_ld k lv)).map (fun v => (1, v))
  | .aload k => (am_la (am_ld k lv)).map (fun v => (2, v))
  | .ldc k => (am_li (cst k)).map (fun v => (2, v))
  | .ldc_w k => (am_li (cst k)).map (fun v => (3, v))
  | .ldc2_w k => (am_ll (cst k)).map (fun v => (3, v))
  | _ => none
/-- what an instruction makes of the stack alone (all of length 1) -/
def am_ii (f : Int32 → Int32 → Value) (st : List Value) : Option (List Value) := match st with
  | .int y :: .int x :: r => some (f x y :: r)
  | _ => none
def am_jj (f : Int64 → Int64 → Value) (st : List Value) : Option (List Value) := match st with
  | .long y :: .long x :: r => some (f x y :: r)
  | _ => none
def am_ij (f : Int64 → Int32 → Value) (st : List Value) : Option (List Value) := match st with
  | .int y :: .long x :: r => some (f x y :: r)
  | _ => none
def am_i1 (f : Int32 → Value) (st : List Value) : Option (List Value) := match st with
  | .int x :: r => some (f x :: r)
  | _ => none
def am_j1 (f : Int64 → Value) (st : List Value) : Option (List Value) := match st with
  | .long x :: r => some (f x :: r)
  | _ => none
theorem am_ii_s {f : Int32 → Int32 → Value} {st st' : List Value} (h : am_ii f st = some st') : ∃ y x r, st = .int y :: .int x :: r ∧ st' = f x y :: r := by
  unfold am_ii at h
  split at h
  · exact ⟨_, _, _, rfl, by cases h; rfl⟩
  · cases h
theorem am_jj_s {f : Int64 → Int64 → Value} {st st' : List Value} (h : am_jj f st = some st') : ∃ y x r, st = .long y :: .long x :: r ∧ st' = f x y :: r := by
  unfold am_jj at h
  split at h
  · exact ⟨_, _, _, rfl, by cases h; rfl⟩
  · cases h
theorem am_ij_s {f : Int64 → Int32 → Value} {st st' : List Value} (h : am_ij f st = some st') : ∃ y x r, st = .int y :: .long x :: r ∧ st' = f x y :: r := by
  unfold am_ij at h
  split at h
  · exact ⟨_, _, _, rfl, by cases h; rfl⟩
  · cases h
theorem am_i1_s {f : Int32 → Value} {st st' : List Value} (h : am_i1 f st = some st') : ∃ x r, st = .int x :: r ∧ st' = f x :: r := by
  unfold am_i1 at h
  split at h
  · exact ⟨_, _, rfl, by cases h; rfl⟩
  · cases h
theorem am_j1_s {f : Int64 → Value} {st st' : List Value} (h : am_j1 f st = some st') : ∃ x r, st = .long x :: r ∧ st' = f x :: r := by
  unfold am_j1 at h
  split at h
  · exact ⟨_, _, rfl, by cases h; rfl⟩
  · cases h
def am_nz (i : Instr) (st : List Value) : Prop := match i with
  | .idiv | .irem => ∃ y r, st = Value.int y :: r ∧ ¬ y = 0
  | .lrem | .ldiv => ∃ y r, st = Value.long y :: r ∧ ¬ y = 0
  | _ => True
def am_dup (st : List Value) : Option (List Value) := match st with
  | v :: r => if v.category = 1 then some (v :: v :: r) else none
  | _ => none
def am_pop (st : List Value) : Option (List Value) := match st with
  | v :: r => if v.category = 1 then some r else none
  | _ => none
def am_dup2 (st : List Value) : Option (List Value) := match st with
  | v :: r => if v.category = 2 then some (v :: v :: r) else match r with
    | w :: r2 => if v.category = 1 ∧ w.category = 1 then some (v :: w :: v :: w :: r2) else none
    | _ => none
  | _ => none
def am_op (i : Instr) (st : List Value) : Option (List Value) := match i with
  | .iadd => am_ii (fun x y => .int (x + y)) st
  | .isub => am_ii (fun x y => .int (x - y)) st
  | .imul => am_ii (fun x y => .int (x * y)) st
  | .iand => am_ii (fun x y => .int (x &&& y)) st
  | .ior => am_ii (fun x y => .int (x ||| y)) st
  | .ixor => am_ii (fun x y => .int (x ^^^ y)) st
  | .idiv => am_ii (fun x y => .int (x / y)) st
  | .irem => am_ii (fun x y => .int (x - x / y * y)) st
  | .ishl => am_ii (fun x y => .int (x <<< (y &&& 31))) st
  | .ishr => am_ii (fun x y => .int (x >>> (y &&& 31))) st
  | .iushr => am_ii (fun x y => .int (x.toUInt32 >>> (y.toUInt32 &&& Int32.toUInt32 31)).toInt32) st
  | .ineg => am_i1 (fun x => .int (-x)) st
  | .i2l => am_i1 (fun x => .long x.toInt64) st
  | .l2i => am_j1 (fun x => .int x.toInt32) st
  | .lneg => am_j1 (fun x => .long (-x)) st
  | .ladd => am_jj (fun x y => .long (x + y)) st
  | .lsub => am_jj (fun x y => .long (x - y)) st
  | .lmul => am_jj (fun x y => .long (x * y)) st
  | .land => am_jj (fun x y => .long (x &&& y)) st
  | .lor => am_jj (fun x y => .long (x ||| y)) st
  | .lxor => am_jj (fun x y => .long (x ^^^ y)) st
  | .lrem => am_jj (fun x y => .long (x - x / y * y)) st
  | .lcmp => am_jj (fun x y => .int (lg_cmp x y)) st
  | .lshl => am_ij (fun x y => .long (x <<< (y.toInt64 &&& 63))) st
  | .lshr => am_ij (fun x y => .long (x >>> (y.toInt64 &&& 63))) st
  | .lushr => am_ij (fun x y => .long (x.toUInt64 >>> (y.toInt64.toUInt64 &&& Int64.toUInt64 63)).toInt64) st
  | .dup => am_dup st
  | .pop => am_pop st
  | .dup2 => am_dup2 st
  | _ => none
/-- what an instruction makes of locals (and takes from the stack); of length len, in a frame of nL locals -/
def am_st1 (i : Nat) (v : Value) (lv : am_L) : am_L := (i, v) :: lv.filter (fun q => !(q.1 == i) && !(q.1 + 1 == i && q.2.category == 2))
def am_st2 (i : Nat) (v : Value) (lv : am_L) : am_L := (i, v) :: lv.filter (fun q => !(q.1 == i) && (!(q.1 == i + 1) && !(q.1 + 1 == i && q.2.category == 2)))
def am_si (i : Nat) (lv : am_L) (st : List Value) : Option (am_L × List Value) := match st with
  | .int x :: r => some (am_st1 i (.int x) lv, r)
  | _ => none
def am_sj (i : Nat) (lv : am_L) (st : List Value) : Option (am_L × List Value) := match st with
  | .long x :: r => some (am_st2 i (.long x) lv, r)
  | _ => none
def am_sa (i : Nat) (lv : am_L) (st : List Value) : Option (am_L × List Value) := match st with
  | .ref x :: r => some (am_st1 i (.ref x) lv, r)
  | .null :: r => some (am_st1 i .null lv, r)
  | _ => none
theorem am_si_s {i : Nat} {lv : am_L} {st : List Value} {o : am_L × List Value} (h : am_si i lv st = some o) : ∃ x r, st = .int x :: r ∧ o = (am_st1 i (.int x) lv, r) := by
  unfold am_si at h
  split at h
  · exact ⟨_, _, rfl, by cases h; rfl⟩
  · cases h
theorem am_sj_s {i : Nat} {lv : am_L} {st : List Value} {o : am_L × List Value} (h : am_sj i lv st = some o) : ∃ x r, st = .long x :: r ∧ o = (am_st2 i (.long x) lv, r) := by
  unfold am_sj at h
  split at h
  · exact ⟨_, _, rfl, by cases h; rfl⟩
  · cases h
theorem am_sa_s {i : Nat} {lv : am_L} {st : List Value} {o : am_L × List Value} (h : am_sa i lv st = some o) : (∃ x r, st = .ref x :: r ∧ o = (am_st1 i (.ref x) lv, r)) ∨ ∃ r, st = .null :: r ∧ o = (am_st1 i .null lv, r) := by
  unfold am_sa at h
  split at h
  · exact Or.inl ⟨_, _, rfl, by cases h; rfl⟩
  · exact Or.inr ⟨_, rfl, by cases h; rfl⟩
  · cases h
def am_inc (i : Nat) (n : Int) (lv : am_L) (st : List Value) : Option (am_L × List Value) := match am_ld i lv with
  | some (.int x) => some (am_st1 i (.int (x + Int32.ofInt n)) lv, st)
  | _ => none
def am_sto (i : Instr) (lv : am_L) (st : List Value) : Option (Nat × Nat × am_L × List Value) := match i with
  | .istore_n k => (am_si k lv st).map (fun o => (1, (k : Nat) + 1, o))
  | .istore k => (am_si k lv st).map (fun o => (2, k + 1, o))
  | .lstore_n k => (am_sj k lv st).map (fun o => (1, (k : Nat) + 2, o))
  | .lstore k => (am_sj k lv st).map (fun o => (2, k + 2, o))
  | .astore_n k => (am_sa k lv st).map (fun o => (1, (k : Nat) + 1, o))
  | .astore k => (am_sa k lv st).map (fun o => (2, k + 1, o))
  | .iinc k n => (am_inc k n lv st).map (fun o => (3, k + 1, o))
  | _ => none
/-- branches -/
def am_tg (pc : Nat) (off : Int) (K : Nat → Prop) : Prop := ∃ t : Nat, (pc : Int) + off = (t : Int) ∧ K t
def am_c0 (c : Jvm.ClassFile.Cond) (x : Int32) : Prop := match c with
  | .eq => x = 0
  | .ne => ¬ x = 0
  | .lt => x < 0
  | .ge => 0 ≤ x
  | .gt => 0 < x
  | .le => x ≤ 0
def am_c2 (c : Jvm.ClassFile.Cond) (x y : Int32) : Prop := match c with
  | .eq => x = y
  | .ne => ¬ x = y
  | .lt => x < y
  | .ge => y ≤ x
  | .gt => y < x
  | .le => x ≤ y
def am_br (i : Instr) (len pc : Nat) (st : List Value) (K : Nat → List Value → Prop) : Prop := match i with
  | .goto off => len = 3 ∧ am_tg pc off (fun t => K t st)
  | .ifCond c off => len = 3 ∧ ∃ x r, st = Value.int x :: r ∧ am_tg pc off (fun t => (am_c0 c x → K t r) ∧ (¬ am_c0 c x → K (pc + 3) r))
  | .if_icmp c off => len = 3 ∧ ∃ y x r, st = Value.int y :: Value.int x :: r ∧ am_tg pc off (fun t => (am_c2 c x y → K t r) ∧ (¬ am_c2 c x y → K (pc + 3) r))
  | .ifnull off => len = 3 ∧ ((∃ x r, st = Value.ref x :: r ∧ K (pc + 3) r) ∨ ∃ r, st = Value.null :: r ∧ am_tg pc off (fun t => K t r))
  | .ifnonnull off => len = 3 ∧ ((∃ x r, st = Value.ref x :: r ∧ am_tg pc off (fun t => K t r)) ∨ ∃ r, st = Value.null :: r ∧ K (pc + 3) r)
  | .tableswitch dflt lo hi offs => ∃ x r, st = Value.int x :: r ∧ ((x.toInt < lo ∨ hi < x.toInt) → am_tg pc dflt (fun t => K t r)) ∧ (¬ x.toInt < lo → ¬ hi < x.toInt → ∃ off, offs[(x.toInt - lo).toNat]? = some off ∧ am_tg pc off (fun t => K t r))
  | .lookupswitch dflt ps => ∃ x r, st = Value.int x :: r ∧ (ps.toList.zip (ps.toList.drop 1)).all (fun (a, next) => a.1 < next.1) = true ∧ am_tg pc (Op.lookupswitch.offset ps.toList dflt x.toInt) (fun t => K t r)
  | _ => False
end
section
/-! AM's single instructions are the machine's: push, stack, locals, branches -/
section AMW
variable {p : Program} {l : Launch} {e : Env} {R : Room} {s : State} {m : MethodId} {args : Array Value} {below : List Frame} {meth : Method} {c : Code} {H : Heap} {locs : List Loc} {cells slots : Nat} {Q : State → Prop}
variable {cc : ByteArray} {pc : Nat} {ls : Array Slot}
def am_cstOk (own : String) (cst : Nat → Option Value) (args : Array Value) (s : State) : Prop := ∀ (k : Nat) (v : Value), cst k = some v → (∃ x : Int32, v = .int x ∧ (Jvm.Cond.constant own k x).before args s = true) ∨ (∃ x : Int64, v = .long x ∧ (Jvm.Cond.constantLong own k x).before args s = true)
theorem am_mp {α β : Type} {o : Option α} {f : α → β} {y : β} (h : o.map f = some y) : ∃ x, o = some x ∧ f x = y := Option.map_eq_some_iff.mp h
theorem am_push_W (hx : p.tables.exec = Jvm.exec) (hb : c.code = cc) {cst : Nat → Option Value} {own : String} (hown : s.vm.findClass own = some m.cls) (hcst : am_cstOk own cst args s) {i : Instr} {lv : am_L} {len nL : Nat} {v : Value} (h : am_push cst i lv = some (len, v)) (hd : decode cc pc = .ok (i, len)) (hl : lv_has ls nL lv) {st : List Value}
    (k : W p l e R s m args below meth c H locs cells slots Q (F0 m (pc + len) ls (v :: st))) : W p l e R s m args below meth c H locs cells slots Q (F0 m pc ls st) := by
  cases i with
  | iconst n => cases h; exact lv_iconst hx hb hd rfl k
  | bipush n => cases h; exact lv_bipush hx hb hd rfl k
  | sipush n => cases h; exact lv_sipush hx hb hd rfl k
  | lconst n => cases h; exact lv_lconst hx hb hd rfl k
  | aconst_null => cases h; exact lv_null hx hb hd k
  | iload_n q =>
    obtain ⟨w, h1, h2⟩ := am_mp h
    obtain ⟨x, h3, rfl⟩ := am_li_s h1
    cases h2
    exact lv_iload_n hx hb hd rfl (am_ld_at hl h3) k
  | iload q =>
    obtain ⟨w, h1, h2⟩ := am_mp h
    obtain ⟨x, h3, rfl⟩ := am_li_s h1
    cases h2
    exact lv_iload hx hb hd (am_ld_at hl h3) k
  | lload_n q =>
    obtain ⟨w, h1, h2⟩ := am_mp h
    obtain ⟨x, h3, rfl⟩ := am_ll_s h1
    cases h2
    exact lv_lload_n hx hb hd rfl (am_ld_at hl h3) k
  | lload q =>
    obtain ⟨w, h1, h2⟩ := am_mp h
    obtain ⟨x, h3, rfl⟩ := am_ll_s h1
    cases h2
    exact lv_lload hx hb hd (am_ld_at hl h3) k
  | aload_n q =>
    obtain ⟨w, h1, h2⟩ := am_mp h
    cases h2
    rcases am_la_s h1 with ⟨x, h3, rfl⟩ | ⟨h3, rfl⟩
    · exact lv_aload_n hx hb hd rfl (am_ld_at hl h3) k
    · exact lv_aload_nN hx hb hd rfl (am_ld_at hl h3) k
  | aload q =>
    obtain ⟨w, h1, h2⟩ := am_mp h
    cases h2
    rcases am_la_s h1 with ⟨x, h3, rfl⟩ | ⟨h3, rfl⟩
    · exact lv_aload hx hb hd (am_ld_at hl h3) k
    · exact lv_aloadN hx hb hd (am_ld_at hl h3) k
  | ldc q =>
    obtain ⟨w, h1, h2⟩ := am_mp h
    obtain ⟨x, h3, rfl⟩ := am_li_s h1
    cases h2
    rcases hcst q _ h3 with ⟨y, h4, h5⟩ | ⟨y, h4, h5⟩
    · cases h4
      exact lv_ldc hx hb hown h5 hd k
    · cases h4
  | ldc_w q =>
    obtain ⟨w, h1, h2⟩ := am_mp h
    obtain ⟨x, h3, rfl⟩ := am_li_s h1
    cases h2
    rcases hcst q _ h3 with ⟨y, h4, h5⟩ | ⟨y, h4, h5⟩
    · cases h4
      exact lv_ldcw hx hb hown h5 hd k
    · cases h4
  | ldc2_w q =>
    obtain ⟨w, h1, h2⟩ := am_mp h
    obtain ⟨x, h3, rfl⟩ := am_ll_s h1
    cases h2
    rcases hcst q _ h3 with ⟨y, h4, h5⟩ | ⟨y, h4, h5⟩
    · cases h4
    · cases h4
      exact lv_ldc2 hx hb hown h5 hd k
  | _ => cases h
theorem am_op_W (hx : p.tables.exec = Jvm.exec) (hb : c.code = cc) {i : Instr} {st st' : List Value} (h : am_op i st = some st') (hz : am_nz i st) (hd : decode cc pc = .ok (i, 1))
    (k : W p l e R s m args below meth c H locs cells slots Q (F0 m (pc + 1) ls st')) : W p l e R s m args below meth c H locs cells slots Q (F0 m pc ls st) := by
  cases i with
  | iadd => obtain ⟨y, x, r, rfl, rfl⟩ := am_ii_s h; exact lv_iadd hx hb hd k
  | isub => obtain ⟨y, x, r, rfl, rfl⟩ := am_ii_s h; exact lv_isub hx hb hd k
  | imul => obtain ⟨y, x, r, rfl, rfl⟩ := am_ii_s h; exact lv_imul hx hb hd k
  | iand => obtain ⟨y, x, r, rfl, rfl⟩ := am_ii_s h; exact lv_iand hx hb hd k
  | ior => obtain ⟨y, x, r, rfl, rfl⟩ := am_ii_s h; exact lv_ior hx hb hd k
  | ixor => obtain ⟨y, x, r, rfl, rfl⟩ := am_ii_s h; exact lv_ixor hx hb hd k
  | ishl => obtain ⟨y, x, r, rfl, rfl⟩ := am_ii_s h; exact lv_ishl hx hb hd k
  | ishr => obtain ⟨y, x, r, rfl, rfl⟩ := am_ii_s h; exact lv_ishr hx hb hd k
  | iushr => obtain ⟨y, x, r, rfl, rfl⟩ := am_ii_s h; exact lv_iushr hx hb hd rfl k
  | idiv =>
    obtain ⟨y, x, r, rfl, rfl⟩ := am_ii_s h
    obtain ⟨y2, r2, h1, h2⟩ := hz
    cases h1
    exact lv_idiv hx hb hd h2 k
  | irem =>
    obtain ⟨y, x, r, rfl, rfl⟩ := am_ii_s h
    obtain ⟨y2, r2, h1, h2⟩ := hz
    cases h1
    exact lv_irem hx hb hd h2 k
  | ineg => obtain ⟨x, r, rfl, rfl⟩ := am_i1_s h; exact lv_ineg hx hb hd k
  | i2l => obtain ⟨x, r, rfl, rfl⟩ := am_i1_s h; exact lv_i2l hx hb hd rfl k
  | l2i => obtain ⟨x, r, rfl, rfl⟩ := am_j1_s h; exact lv_l2i hx hb hd rfl k
  | lneg => obtain ⟨x, r, rfl, rfl⟩ := am_j1_s h; exact lv_lneg hx hb hd k
  | ladd => obtain ⟨y, x, r, rfl, rfl⟩ := am_jj_s h; exact lv_ladd hx hb hd k
  | lsub => obtain ⟨y, x, r, rfl, rfl⟩ := am_jj_s h; exact lv_lsub hx hb hd k
  | lmul => obtain ⟨y, x, r, rfl, rfl⟩ := am_jj_s h; exact lv_lmul hx hb hd k
  | land => obtain ⟨y, x, r, rfl, rfl⟩ := am_jj_s h; exact lv_land hx hb hd k
  | lor => obtain ⟨y, x, r, rfl, rfl⟩ := am_jj_s h; exact lv_lor hx hb hd k
  | lxor => obtain ⟨y, x, r, rfl, rfl⟩ := am_jj_s h; exact lv_lxor hx hb hd k
  | lrem =>
    obtain ⟨y, x, r, rfl, rfl⟩ := am_jj_s h
    obtain ⟨y2, r2, h1, h2⟩ := hz
    cases h1
    exact lv_lrem hx hb hd h2 k
  | lcmp => obtain ⟨y, x, r, rfl, rfl⟩ := am_jj_s h; exact W.lcmp hx hb hd k
  | lshl => obtain ⟨y, x, r, rfl, rfl⟩ := am_ij_s h; exact lv_lshl hx hb hd rfl k
  | lshr => obtain ⟨y, x, r, rfl, rfl⟩ := am_ij_s h; exact lv_lshr hx hb hd rfl k
  | lushr => obtain ⟨y, x, r, rfl, rfl⟩ := am_ij_s h; exact lv_lushr hx hb hd rfl k
  | dup =>
    cases st with
    | nil => cases h
    | cons v r =>
      simp only [am_op, am_dup] at h
      split at h
      · cases h
        exact lv_dup hx hb hd (by assumption) k
      · cases h
  | pop =>
    cases st with
    | nil => cases h
    | cons v r =>
      simp only [am_op, am_pop] at h
      split at h
      · cases h
        exact lv_pop hx hb hd (by assumption) k
      · cases h
  | dup2 =>
    cases st with
    | nil => cases h
    | cons v r =>
      simp only [am_op, am_dup2] at h
      split at h
      · cases h
        exact lv_dup2_2 hx hb hd (by assumption) k
      · cases r with
        | nil => cases h
        | cons w r2 =>
          dsimp only at h
          split at h
          · rename_i hc
            cases h
            exact lv_dup2_11 hx hb hd hc.1 hc.2 k
          · cases h
  | _ => cases h
theorem am_sto_W (hx : p.tables.exec = Jvm.exec) (hb : c.code = cc) {i : Instr} {lv lv' : am_L} {st st' : List Value} {len n nL : Nat} (h : am_sto i lv st = some (len, n, lv', st')) (hn : n ≤ nL) {len' : Nat} (hlen : len' = len ∨ (len = 3 ∧ len' = 6)) (hd : decode cc pc = .ok (i, len')) (hl : lv_has ls nL lv)
    (k : ∀ ls' : Array Slot, lv_has ls' nL lv' → W p l e R s m args below meth c H locs cells slots Q (F0 m (pc + len') ls' st')) : W p l e R s m args below meth c H locs cells slots Q (F0 m pc ls st) := by
  cases i with
  | istore_n q =>
    obtain ⟨o, h1, h2⟩ := am_mp h
    obtain ⟨x, r, rfl, rfl⟩ := am_si_s h1
    cases h2
    rcases hlen with rfl | ⟨hh, -⟩
    · exact lv_istore_n hx hb hd rfl hl (by omega) rfl k
    · cases hh
  | istore q =>
    obtain ⟨o, h1, h2⟩ := am_mp h
    obtain ⟨x, r, rfl, rfl⟩ := am_si_s h1
    cases h2
    rcases hlen with rfl | ⟨hh, -⟩
    · exact lv_istore hx hb hd hl (by omega) rfl k
    · cases hh
  | lstore_n q =>
    obtain ⟨o, h1, h2⟩ := am_mp h
    obtain ⟨x, r, rfl, rfl⟩ := am_sj_s h1
    cases h2
    rcases hlen with rfl | ⟨hh, -⟩
    · exact lv_lstore_n hx hb hd rfl hl (by omega) rfl k
    · cases hh
  | lstore q =>
    obtain ⟨o, h1, h2⟩ := am_mp h
    obtain ⟨x, r, rfl, rfl⟩ := am_sj_s h1
    cases h2
    rcases hlen with rfl | ⟨hh, -⟩
    · exact lv_lstore hx hb hd hl (by omega) rfl k
    · cases hh
  | astore_n q =>
    obtain ⟨o, h1, h2⟩ := am_mp h
    rcases am_sa_s h1 with ⟨x, r, rfl, rfl⟩ | ⟨r, rfl, rfl⟩
    · cases h2
      rcases hlen with rfl | ⟨hh, -⟩
      · exact lv_astore_n hx hb hd rfl hl (by omega) rfl k
      · cases hh
    · cases h2
      rcases hlen with rfl | ⟨hh, -⟩
      · exact lv_astore_nN hx hb hd rfl hl (by omega) rfl k
      · cases hh
  | astore q =>
    obtain ⟨o, h1, h2⟩ := am_mp h
    rcases am_sa_s h1 with ⟨x, r, rfl, rfl⟩ | ⟨r, rfl, rfl⟩
    · cases h2
      rcases hlen with rfl | ⟨hh, -⟩
      · exact lv_astore hx hb hd hl (by omega) rfl k
      · cases hh
    · cases h2
      rcases hlen with rfl | ⟨hh, -⟩
      · exact lv_astoreN hx hb hd hl (by omega) rfl k
      · cases hh
  | iinc q z =>
    obtain ⟨o, h1, h2⟩ := am_mp h
    unfold am_inc at h1
    split at h1
    · rename_i x hx1
      cases h1
      cases h2
      obtain ⟨kk, hk⟩ := am_ld_spec hx1
      rcases hlen with rfl | ⟨-, rfl⟩
      · exact lv_iinc hx hb hd hl hk rfl (by omega) rfl k
      · exact lv_iincW hx hb hd hl hk rfl (by omega) rfl k
    · cases h1
  | _ => cases h
theorem am_br_W (hx : p.tables.exec = Jvm.exec) (hb : c.code = cc) {i : Instr} {st : List Value} {len : Nat} {K : Nat → List Value → Prop} (h : am_br i len pc st K) (hd : decode cc pc = .ok (i, len))
    (k : ∀ t r, K t r → W p l e R s m args below meth c H locs cells slots Q (F0 m t ls r)) : W p l e R s m args below meth c H locs cells slots Q (F0 m pc ls st) := by
  cases i with
  | goto off =>
    obtain ⟨rfl, t, ht, h1⟩ := h
    exact lv_goto hx hb hd ht (k _ _ h1)
  | ifCond cd off =>
    obtain ⟨rfl, x, r, rfl, t, ht, h1, h2⟩ := h
    cases cd with
    | eq => exact lv_if_eq hx hb hd ht (fun q => k _ _ (h1 q)) (fun q => k _ _ (h2 q))
    | ne => exact lv_if_ne hx hb hd ht (fun q => k _ _ (h1 q)) (fun q => k _ _ (h2 (fun z => z q)))
    | lt => exact lv_if_lt hx hb hd ht (fun q => k _ _ (h1 q)) (fun q => k _ _ (h2 q))
    | ge => exact lv_if_ge hx hb hd ht (fun q => k _ _ (h1 q)) (fun q => k _ _ (h2 q))
    | gt => exact lv_if_gt hx hb hd ht (fun q => k _ _ (h1 q)) (fun q => k _ _ (h2 q))
    | le => exact lv_if_le hx hb hd ht (fun q => k _ _ (h1 q)) (fun q => k _ _ (h2 q))
  | if_icmp cd off =>
    obtain ⟨rfl, y, x, r, rfl, t, ht, h1, h2⟩ := h
    cases cd with
    | eq => exact lv_icmp_eq hx hb hd ht (fun q => k _ _ (h1 q)) (fun q => k _ _ (h2 q))
    | ne => exact lv_icmp_ne hx hb hd ht (fun q => k _ _ (h1 q)) (fun q => k _ _ (h2 (fun z => z q)))
    | lt => exact lv_icmp_lt hx hb hd ht (fun q => k _ _ (h1 q)) (fun q => k _ _ (h2 q))
    | ge => exact lv_icmp_ge hx hb hd ht (fun q => k _ _ (h1 q)) (fun q => k _ _ (h2 q))
    | gt => exact lv_icmp_gt hx hb hd ht (fun q => k _ _ (h1 q)) (fun q => k _ _ (h2 q))
    | le => exact lv_icmp_le hx hb hd ht (fun q => k _ _ (h1 q)) (fun q => k _ _ (h2 q))
  | ifnull off =>
    obtain ⟨rfl, ⟨x, r, rfl, h1⟩ | ⟨r, rfl, t, ht, h1⟩⟩ := h
    · exact lv_ifnull hx hb hd (k _ _ h1)
    · exact lv_ifnullN hx hb hd ht (k _ _ h1)
  | ifnonnull off =>
    obtain ⟨rfl, ⟨x, r, rfl, t, ht, h1⟩ | ⟨r, rfl, h1⟩⟩ := h
    · exact lv_ifnonnull hx hb hd ht (k _ _ h1)
    · exact lv_ifnonnullN hx hb hd (k _ _ h1)
  | tableswitch dflt lo hi offs =>
    obtain ⟨x, r, rfl, h1, h2⟩ := h
    by_cases hq : x.toInt < lo ∨ hi < x.toInt
    · obtain ⟨t, ht, h3⟩ := h1 hq
      exact lv_tableOut hx hb hd hq ht (k _ _ h3)
    · obtain ⟨off, ho, t, ht, h3⟩ := h2 (fun z => hq (Or.inl z)) (fun z => hq (Or.inr z))
      exact lv_tableIn hx hb hd (fun z => hq (Or.inl z)) (fun z => hq (Or.inr z)) ho ht (k _ _ h3)
  | lookupswitch dflt ps =>
    obtain ⟨x, r, rfl, hs, t, ht, h3⟩ := h
    exact lv_lookup hx hb hd hs rfl ht (k _ _ h3)
  | _ => exact False.elim h
end AMW
end
section
/-! AM's memory over the machine's heap: am_R; the heap's instructions, a row each -/
def am_enc1 (ca : Nat → ClassId) (e : am_E) : va_E := match e with
  | .inl (t, x) => .inl (ca t, x)
  | .inr o => .inr o
def am_R (D : va_G) (cl : List vw_C) (A : Nat → Prop) (ca : Nat → ClassId) (M : am_H) (H : Heap) : Prop := ∀ (a : Nat) (e : am_E), M a = some e → va_at D cl (a, am_enc1 ca e) H ∧ A a
def am_tys (kd : List FieldType) (ca : Nat → ClassId) : List (ClassId × FieldType) := kd.zipIdx.map (fun q => (ca q.2, q.1))
theorem am_tys_at {kd : List FieldType} {ca : Nat → ClassId} {t : Nat} {ty : FieldType} (h : kd[t]? = some ty) : (am_tys kd ca)[t]? = some (ca t, ty) := by
  unfold am_tys
  rw [List.getElem?_map, List.getElem?_zipIdx, h]
  simp
theorem am_one {D : va_G} {cl : List vw_C} {q : Nat × va_E} {H : Heap} (h : va_at D cl q H) : va_P D cl [q] H := by
  intro k x hx
  have hz : k < 1 := (List.getElem?_eq_some_iff.mp hx).1
  rw [show k = 0 by omega] at hx
  cases hx
  exact h
theorem am_R.lt {D : va_G} {cl : List vw_C} {A : Nat → Prop} {ca : Nat → ClassId} {M : am_H} {H : Heap} (h : am_R D cl A ca M H) {a : Nat} {e : am_E} (ha : M a = some e) : a < H.size := (h a e ha).1.lt
theorem am_R.set {D : va_G} {cl : List vw_C} {A : Nat → Prop} {ca : Nat → ClassId} {M : am_H} {H H1 : Heap} (h : am_R D cl A ca M H) {a : Nat} {e : am_E} (hA : A a) (he : va_at D cl (a, am_enc1 ca e) H1) (oq : ∀ q : Nat, q ≠ a → H1[q]? = H[q]?) : am_R D cl A ca (am_set M a e) H1 := by
  intro b x hx
  by_cases hb : b = a
  · subst hb
    rw [am_same] at hx
    cases hx
    exact ⟨he, hA⟩
  · rw [am_ne hb] at hx
    exact ⟨(h b x hx).1.kept (oq b hb), (h b x hx).2⟩
theorem am_R.push {D : va_G} {cl : List vw_C} {A : Nat → Prop} {ca : Nat → ClassId} {M : am_H} {H H1 : Heap} (h : am_R D cl A ca M H) {e : am_E} (hA : A H.size) (he : va_at D cl (H.size, am_enc1 ca e) H1) (oq : ∀ q : Nat, q < H.size → H1[q]? = H[q]?) : am_R D cl A ca (am_set M H.size e) H1 := by
  intro b x hx
  by_cases hb : b = H.size
  · subst hb
    rw [am_same] at hx
    cases hx
    exact ⟨he, hA⟩
  · rw [am_ne hb] at hx
    exact ⟨(h b x hx).1.kept (oq b (h.lt hx)), (h b x hx).2⟩
theorem am_S_put {A : Nat → Prop} {H0 H H1 : Heap} {locs : List Loc} {a k : Nat} (h : va_S A H0 H locs) (z : H1.size = H.size) (oq : ∀ q : Nat, q ≠ a → H1[q]? = H[q]?) (ha : A a) : va_S A H0 H1 (locs ++ [⟨a, k⟩]) := h.put z oq ha
theorem am_S_push {A : Nat → Prop} {H0 H H1 : Heap} {locs : List Loc} (h : va_S A H0 H locs) (z : H.size ≤ H1.size) (oq : ∀ q : Nat, q < H.size → H1[q]? = H[q]?) : va_S A H0 H1 locs := ⟨Nat.le_trans h.1 z, fun x h1 h2 => (oq x (Nat.lt_of_lt_of_le h1 h.1)).trans (h.2.1 x h1 h2), h.2.2⟩
/-- what links a field of a class, seen from a method's class -/
def am_fOk (Ts Nw : List Cond) (cl : List vw_C) (own : String) (index ci k : Nat) : Prop := ∃ (C : String) (T : u_T) (N : Nat) (ref : String), cl[ci]? = some (C, T, N) ∧ k < N ∧ (∀ w ∈ u_ws C T N, w ∈ Ts) ∧ (ref = (T k).1 ∨ Cond.sameField ref (T k).1 (T k).2.1 (T k).2.2.1 ∈ Ts) ∧ (Cond.fieldLink own index ref (T k).2.1 (T k).2.2.1 ∈ Ts ∨ ∃ host, Cond.fieldLinkNest own index ref (T k).2.1 (T k).2.2.1 host ∈ Nw)
/-- a class's fields: their types, their names apart -/
def am_cOk (Ts : List Cond) (cl : List vw_C) (tyf : Nat → Nat → FieldType) : Prop := ∀ (ci : Nat) (C : String) (T : u_T) (N : Nat), cl[ci]? = some (C, T, N) → (∀ w ∈ u_ws C T N, w ∈ Ts) ∧ (∀ k, k < N → parseFieldDescriptor (T k).2.2.1 = some (tyf ci k)) ∧ (∀ a, a < N → ∀ b, b < N → a ≠ b → (T a).2.1 ≠ (T b).2.1) ∧ Cond.instantiable C N ∈ Ts ∧ Cond.initialized C ∈ Ts
section AMR
variable {p : Program} {l : Launch} {e : Env} {R : Room} {s : State} {m : MethodId} {args : Array Value} {below : List Frame} {meth : Method} {c : Code} {H : Heap} {locs : List Loc} {cells slots : Nat} {Q : State → Prop}
variable {cc : ByteArray} {pc : Nat} {ls : Array Slot} {rest : List Value} {D : va_G} {cl : List vw_C} {A : Nat → Prop} {a : Nat} {H0 : Heap} {ca : Nat → ClassId} {kd : List FieldType} {M : am_H} {Ts Nw : List Cond}
theorem am_getf_W (hx : p.tables.exec = Jvm.exec) (hb : c.code = cc) (hts : ∀ w ∈ Ts, w.before args s = true) (hnw : ∀ w ∈ Nw, va_Nw w s) {own : String} (hown : s.vm.findClass own = some m.cls) (hK : va_K D cl (am_tys kd ca) s) {ci k index : Nat} {fs : List Value} {v : Value} (he : va_at D cl (a, .inr (ci, fs)) H) (hf : am_fOk Ts Nw cl own index ci k) (hv : fs[k]? = some v) (hd : decode cc pc = .ok (.getfield index, 3))
    (kk : W p l e R s m args below meth c H locs cells slots Q (F0 m (pc + 3) ls (v :: rest))) : W p l e R s m args below meth c H locs cells slots Q (F0 m pc ls (.ref a :: rest)) := by
  obtain ⟨C, T, N, ref, hc, hk, hin, href, hlink⟩ := hf
  have hsame : ∀ x, s.fieldFound? (T k).1 (T k).2.1 (T k).2.2.1 = some x → s.fieldFound? ref (T k).2.1 (T k).2.2.1 = some x := by
    rcases href with rfl | h
    · exact fun x h => h
    · exact fun x ho => u_same (hts _ h) x ho
  rcases hlink with h | ⟨host, h⟩
  · exact va_get hx hb hts hin hown hK (am_one he) 0 rfl hc k hk (hts _ h) hsame hv hd kk
  · exact va_getN hx hb hts hin hown hK (am_one he) 0 rfl hc k hk (va_Nw.use rfl (hnw _ h)) hsame hv hd kk
theorem am_putf_W (hx : p.tables.exec = Jvm.exec) (hb : c.code = cc) (hts : ∀ w ∈ Ts, w.before args s = true) (hnw : ∀ w ∈ Nw, va_Nw w s) {own : String} (hown : s.vm.findClass own = some m.cls) (hK : va_K D cl (am_tys kd ca) s) {tyf : Nat → Nat → FieldType} (hcok : am_cOk Ts cl tyf) {ci k index : Nat} {fs : List Value} {v : Value} (he : va_at D cl (a, .inr (ci, fs)) H) (hf : am_fOk Ts Nw cl own index ci k) (hl : k < fs.length) (hn : narrow (tyf ci k) v = v) (hfit : fits (tyf ci k) v = true)
    (hfin : ∀ C T N, cl[ci]? = some (C, T, N) → (T k).2.2.2 = false ∨ (meth.name = "<init>" ∧ (T k).1 = own ∧ ∃ ref, (ref = (T k).1) ∧ Cond.fieldLink own index ref (T k).2.1 (T k).2.2.1 ∈ Ts)) (hd : decode cc pc = .ok (.putfield index, 3))
    (kk : ∀ (H1 : Heap) (j : Nat), va_at D cl (a, .inr (ci, fs.set k v)) H1 → H1.size = H.size → (∀ q : Nat, q ≠ a → H1[q]? = H[q]?) → W p l e R s m args below meth c H1 (locs ++ [⟨a, j⟩]) cells slots Q (F0 m (pc + 3) ls rest)) : W p l e R s m args below meth c H locs cells slots Q (F0 m pc ls (v :: .ref a :: rest)) := by
  obtain ⟨C, T, N, ref, hc, hk, hin, href, hlink⟩ := hf
  obtain ⟨-, hty, hnm, -, -⟩ := hcok ci C T N hc
  have hsame : ∀ x, s.fieldFound? (T k).1 (T k).2.1 (T k).2.2.1 = some x → s.fieldFound? ref (T k).2.1 (T k).2.2.1 = some x := by
    rcases href with rfl | h
    · exact fun x h => h
    · exact fun x ho => u_same (hts _ h) x ho
  have hap := va_apart (own := own) hts hin (tyf ci) hty hnm hK hc
  obtain ⟨r, h1, cell, q1, q2, q3, q4⟩ := he
  have hr : r = (C, T, N) := Option.some.inj (h1.symm.trans hc)
  subst hr
  obtain ⟨hS, hfc, kC, hkC, hkind⟩ := hK.1 ci _ hc
  obtain ⟨cf, kf, fi, f, hi, hsl⟩ := hS k hk
  have hst := (u_facts hfc hkC (u_lays hts hin hk) hi).1
  have hlay := hts _ (hin _ (u_in_lay hk))
  unfold u_lay at hlay
  rcases hfin C T N hc with hF | ⟨hin2, hdecl, ref2, hr2, hlink2⟩
  · rw [if_neg (by rw [hF]; decide)] at hlay
    have h6 := u_store hfc hkC hkind hlay hi (hty k hk) hn hfit
    rcases hlink with h | ⟨host, h⟩
    · refine W.putK hx hb (f := f) ⟨hown, hts _ h, ⟨_, _, _, hsame _ hi⟩, hst⟩ (by rw [q2]; exact h6) q1 q3 (by rw [hsl]; exact k2_hasslot (q4 k hk)) rfl rfl hd fun H' e1 e2 e3 => ?_
      rw [hsl] at e1 ⊢
      exact kk H' _ ⟨_, hc, t_OB.to (V := updV (vp_V fs) k v) ⟨_, e1, q2, q3, t_set q4 hap hk v⟩ (fun j _ => vp_updV_set hl v j)⟩ e2 e3
    · refine va_WputK hx hb (f := f) hown (va_Nw.use rfl (hnw _ h)) (hsame _ hi) hst (by rw [q2]; exact h6) q1 q3 (by rw [hsl]; exact k2_hasslot (q4 k hk)) rfl rfl hd fun H' e1 e2 e3 => ?_
      rw [hsl] at e1 ⊢
      exact kk H' _ ⟨_, hc, t_OB.to (V := updV (vp_V fs) k v) ⟨_, e1, q2, q3, t_set q4 hap hk v⟩ (fun j _ => vp_updV_set hl v j)⟩ e2 e3
  · by_cases hF : (T k).2.2.2 = true
    · rw [if_pos hF] at hlay
      subst hr2
      have hcf : m.cls = cf := by
        obtain ⟨_, _, c', _, _, _, -, -, hf', -, -, -, hown2, -⟩ := Cond.laysFinal_spec hlay
        have e1 : c' = cf := by have := hi.symm.trans hf'; simp at this; exact this.1.symm
        rw [hdecl] at hown2
        rw [← e1]; exact Option.some.inj (hown.symm.trans hown2)
      have h6 := u_fits hfc hkC hkind (Or.inr hlay) hi (hty k hk) hn hfit
      refine W.putFinK hx hb hown (hts _ hlink2) hi hst hcf hin2 (by rw [q2]; exact h6) q1 q3 (by rw [hsl]; exact k2_hasslot (q4 k hk)) rfl rfl hd fun H' e1 e2 e3 => ?_
      rw [hsl] at e1 ⊢
      exact kk H' _ ⟨_, hc, t_OB.to (V := updV (vp_V fs) k v) ⟨_, e1, q2, q3, t_set q4 hap hk v⟩ (fun j _ => vp_updV_set hl v j)⟩ e2 e3
    · rw [if_neg hF] at hlay
      subst hr2
      have h6 := u_store hfc hkC hkind hlay hi (hty k hk) hn hfit
      refine W.putK hx hb (f := f) ⟨hown, hts _ hlink2, ⟨_, _, _, hi⟩, hst⟩ (by rw [q2]; exact h6) q1 q3 (by rw [hsl]; exact k2_hasslot (q4 k hk)) rfl rfl hd fun H' e1 e2 e3 => ?_
      rw [hsl] at e1 ⊢
      exact kk H' _ ⟨_, hc, t_OB.to (V := updV (vp_V fs) k v) ⟨_, e1, q2, q3, t_set q4 hap hk v⟩ (fun j _ => vp_updV_set hl v j)⟩ e2 e3
theorem am_iast_W (hx : p.tables.exec = Jvm.exec) (hb : c.code = cc) (hK : va_K D cl (am_tys kd ca) s) {t n : Nat} {f : Nat → Int32} (ht : kd[t]? = some .int) (he : va_at D cl (a, .inl (ca t, n, .inl f)) H) {i x : Int32} (hin : vp_in i n) (hd : decode cc pc = .ok (.iastore, 1))
    (kk : ∀ (H1 : Heap) (j : Nat), va_at D cl (a, .inl (ca t, n, .inl (upd f i.toNatClampNeg x))) H1 → H1.size = H.size → (∀ q : Nat, q ≠ a → H1[q]? = H[q]?) → W p l e R s m args below meth c H1 (locs ++ [⟨a, j⟩]) cells slots Q (F0 m (pc + 1) ls rest)) : W p l e R s m args below meth c H locs cells slots Q (F0 m pc ls (.int x :: .int i :: .ref a :: rest)) := by
  refine W.iast hx hb he ((hK.2 t _ (am_tys_at ht)).1 n (fun j => .int (f j))) (fun q => by cases q) (by show ¬ (i < 0 ∨ (arrV _ _ _).slots.size ≤ _); rw [arrV_size]; exact hin) rfl rfl hd fun H1 e1 z oq => kk H1 _ ?_ z oq
  show H1[a]? = some (vp_cell _ _)
  rw [e1]
  rw [vp_cell_i, vp_cell_i, arrV_store]
  congr 2
  funext q
  by_cases hq : q = i.toNatClampNeg
  · subst hq
    simp [updV, upd]
  · simp [updV, upd, hq]
theorem am_zast_W (hx : p.tables.exec = Jvm.exec) (hb : c.code = cc) (hK : va_K D cl (am_tys kd ca) s) {t n : Nat} {f : Nat → Int32} (ht : kd[t]? = some .boolean) (he : va_at D cl (a, .inl (ca t, n, .inl f)) H) {i x : Int32} (hin : vp_in i n) (hd : decode cc pc = .ok (.bastore, 1))
    (kk : ∀ (H1 : Heap) (j : Nat), va_at D cl (a, .inl (ca t, n, .inl (upd f i.toNatClampNeg (vp_nar .boolean x)))) H1 → H1.size = H.size → (∀ q : Nat, q ≠ a → H1[q]? = H[q]?) → W p l e R s m args below meth c H1 (locs ++ [⟨a, j⟩]) cells slots Q (F0 m (pc + 1) ls rest)) : W p l e R s m args below meth c H locs cells slots Q (F0 m pc ls (.int x :: .int i :: .ref a :: rest)) := by
  refine W.zast hx hb he ((hK.2 t _ (am_tys_at ht)).1 n (fun j => .int (f j))) (fun q => by cases q) (by show ¬ (i < 0 ∨ (arrV _ _ _).slots.size ≤ _); rw [arrV_size]; exact hin) rfl rfl hd fun H1 e1 z oq => kk H1 _ ?_ z oq
  show H1[a]? = some (vp_cell _ _)
  rw [e1]
  rw [vp_cell_i, vp_cell_i, arrV_store]
  congr 2
  funext q
  by_cases hq : q = i.toNatClampNeg
  · subst hq
    simp [updV, upd, vp_nar]
    try rfl
  · simp [updV, upd, hq]
theorem am_last_W (hx : p.tables.exec = Jvm.exec) (hb : c.code = cc) (hK : va_K D cl (am_tys kd ca) s) {t n : Nat} {f : Nat → Int64} (ht : kd[t]? = some .long) (he : va_at D cl (a, .inl (ca t, n, .inr (.inl f))) H) {i : Int32} {x : Int64} (hin : vp_in i n) (hd : decode cc pc = .ok (.lastore, 1))
    (kk : ∀ (H1 : Heap) (j : Nat), va_at D cl (a, .inl (ca t, n, .inr (.inl (vp_updL f i.toNatClampNeg x)))) H1 → H1.size = H.size → (∀ q : Nat, q ≠ a → H1[q]? = H[q]?) → W p l e R s m args below meth c H1 (locs ++ [⟨a, j⟩]) cells slots Q (F0 m (pc + 1) ls rest)) : W p l e R s m args below meth c H locs cells slots Q (F0 m pc ls (.long x :: .int i :: .ref a :: rest)) := by
  refine W.last hx hb he ((hK.2 t _ (am_tys_at ht)).1 n (fun j => .long (f j))) (fun q => by cases q) (by show ¬ (i < 0 ∨ (arrV _ _ _).slots.size ≤ _); rw [arrV_size]; exact hin) rfl rfl hd fun H1 e1 z oq => kk H1 _ ?_ z oq
  show H1[a]? = some (vp_cell _ _)
  rw [e1]
  rw [vp_cell_l, vp_cell_l, arrV_store]
  congr 2
  funext q
  by_cases hq : q = i.toNatClampNeg
  · subst hq
    simp [updV, vp_updL]
  · simp [updV, vp_updL, hq]
theorem am_q_set {cA : ClassId} {n : Nat} {f : Nat → Option Nat} {i : Int32} {o : Option Nat} {H1 : Heap} (e1 : H1[a]? = some ((vp_cell cA (n, .inr (.inr (.inr (.inr f))))).setSlot i.toNatClampNeg (va_rf o))) : va_at D cl (a, .inl (cA, n, .inr (.inr (.inr (.inr (va_up f i.toNatClampNeg o)))))) H1 := by
  show H1[a]? = some (vp_cell _ _)
  rw [e1]
  rw [vp_cell_q, vp_cell_q, arrV_store]
  congr 2
  funext q
  by_cases hq : q = i.toNatClampNeg
  · subst hq
    simp [updV, va_up]
  · simp [updV, va_up, hq]
/-- aastore of an object, of a class that may stand there -/
theorem am_aastO_W (hx : p.tables.exec = Jvm.exec) (hb : c.code = cc) (hnw : ∀ w ∈ Nw, va_Nw w s) (hK : va_K D cl (am_tys kd ca) s) {t n v ci : Nat} {vs : List Value} {E : String} {r : vw_C} {f : Nat → Option Nat} (ht : kd[t]? = some (.object E)) (hc : cl[ci]? = some r) (hE : r.1 = E ∨ Cond.castable r.1 E ∈ Nw) (he : va_at D cl (a, .inl (ca t, n, .inr (.inr (.inr (.inr f))))) H) (hv : va_at D cl (v, .inr (ci, vs)) H) {i : Int32} (hin : vp_in i n) (hd : decode cc pc = .ok (.aastore, 1))
    (kk : ∀ (H1 : Heap) (j : Nat), va_at D cl (a, .inl (ca t, n, .inr (.inr (.inr (.inr (va_up f i.toNatClampNeg (some v))))))) H1 → H1.size = H.size → (∀ q : Nat, q ≠ a → H1[q]? = H[q]?) → W p l e R s m args below meth c H1 (locs ++ [⟨a, j⟩]) cells slots Q (F0 m (pc + 1) ls rest)) : W p l e R s m args below meth c H locs cells slots Q (F0 m pc ls (.ref v :: .int i :: .ref a :: rest)) := by
  have hlt : i.toNatClampNeg < n := Nat.not_le.mp fun q => hin (Or.inr q)
  have h0 : ¬ i < 0 := fun q => hin (Or.inl q)
  obtain ⟨r', hr', cellV, g1, g2, g3, -⟩ := hv
  have hcls := (hK.1 ci r hc).2
  obtain ⟨kA, comp, k1, k2, k3, -⟩ := (hK.2 t _ (am_tys_at ht)).2
  obtain ⟨kE, hkE, -⟩ := Vm.findClass_spec k3
  obtain ⟨kC, hkC, -⟩ := hcls.2
  have hass : s.vm.assignable (D.1 ci) comp = true := by
    rcases hE with h | h
    · subst h
      have hcomp : comp = D.1 ci := Option.some.inj (k3.symm.trans hcls.1)
      rw [hcomp]
      exact va_assign hcls
    · obtain ⟨c0, t1, f1, f2, f3⟩ := Cond.castable_spec (va_Nw.use (A := args) rfl (hnw _ h))
      cases hcls.1.symm.trans f1
      cases k3.symm.trans f2
      exact f3
  refine W.aast hx hb he (fun q h => by cases h) (fun h => by cases h) k1 k2 rfl hkE ⟨h0, by show _ < (arrV _ _ _).slots.size; rw [arrV_size]; exact hlt⟩ g1 (fun q h => by rw [g3] at h; cases h) (by rw [g2]; exact hkC) (by rw [g2]; exact hass) rfl rfl hd fun H1 e1 z oq => kk H1 _ (am_q_set e1) z oq
theorem am_aastN_W (hx : p.tables.exec = Jvm.exec) (hb : c.code = cc) (hK : va_K D cl (am_tys kd ca) s) {t n : Nat} {E : String} {f : Nat → Option Nat} (ht : kd[t]? = some (.object E)) (he : va_at D cl (a, .inl (ca t, n, .inr (.inr (.inr (.inr f))))) H) {i : Int32} (hin : vp_in i n) (hd : decode cc pc = .ok (.aastore, 1))
    (kk : ∀ (H1 : Heap) (j : Nat), va_at D cl (a, .inl (ca t, n, .inr (.inr (.inr (.inr (va_up f i.toNatClampNeg none)))))) H1 → H1.size = H.size → (∀ q : Nat, q ≠ a → H1[q]? = H[q]?) → W p l e R s m args below meth c H1 (locs ++ [⟨a, j⟩]) cells slots Q (F0 m (pc + 1) ls rest)) : W p l e R s m args below meth c H locs cells slots Q (F0 m pc ls (.null :: .int i :: .ref a :: rest)) := by
  refine va_WaastN (C := E) hx hb he ((hK.2 t _ (am_tys_at ht)).1 n (fun j => va_rf (f j))) (fun h => by cases h) (by show ¬ (i < 0 ∨ (arrV _ _ _).slots.size ≤ _); rw [arrV_size]; exact hin) rfl rfl hd fun H1 e1 z oq => kk H1 _ (am_q_set (o := none) e1) z oq
/-- an array's class is that of the component of a class of arrays of arrays -/
def am_AA (U : State) (cA cB : ClassId) (ty : FieldType) : Prop := ∃ (kA kB : Class) (x : ClassId) (tb : FieldType), U.vm.classes[cA]? = some kA ∧ kA.kind = .array cB ty ∧ U.vm.classes[cB]? = some kB ∧ kB.kind = .array x tb
theorem am_aastA_W (hx : p.tables.exec = Jvm.exec) (hb : c.code = cc) (hK : va_K D cl (am_tys kd ca) s) {t t2 n v : Nat} {x : vp_A} {ty : FieldType} {f : Nat → Option Nat} (hAA : am_AA s (ca t) (ca t2) (.array ty)) (he : va_at D cl (a, .inl (ca t, n, .inr (.inr (.inr (.inr f))))) H) (hv : va_at D cl (v, .inl (ca t2, x)) H) {i : Int32} (hin : vp_in i n) (hd : decode cc pc = .ok (.aastore, 1))
    (kk : ∀ (H1 : Heap) (j : Nat), va_at D cl (a, .inl (ca t, n, .inr (.inr (.inr (.inr (va_up f i.toNatClampNeg (some v))))))) H1 → H1.size = H.size → (∀ q : Nat, q ≠ a → H1[q]? = H[q]?) → W p l e R s m args below meth c H1 (locs ++ [⟨a, j⟩]) cells slots Q (F0 m (pc + 1) ls rest)) : W p l e R s m args below meth c H locs cells slots Q (F0 m pc ls (.ref v :: .int i :: .ref a :: rest)) := by
  have hlt : i.toNatClampNeg < n := Nat.not_le.mp fun q => hin (Or.inr q)
  have h0 : ¬ i < 0 := fun q => hin (Or.inl q)
  obtain ⟨kA, kB, xx, tb, k1, k2, k3, k4⟩ := hAA
  have hvm0 : (vp_cell (ca t2) x).vm = .none := by obtain ⟨n, f | f | f | f | f⟩ := x <;> rfl
  have hcl0 : (vp_cell (ca t2) x).cls = ca t2 := by obtain ⟨n, f | f | f | f | f⟩ := x <;> rfl
  have hass : s.vm.assignable (ca t2) (ca t2) = true := by
    show s.vm.assignableAux (255 + 1) _ _ = true
    unfold Vm.assignableAux
    simp only [beq_self_eq_true, Bool.true_or]
  refine W.aast hx hb he (fun q h => by cases h) (fun h => by cases h) k1 k2 rfl k3 ⟨h0, by show _ < (arrV _ _ _).slots.size; rw [arrV_size]; exact hlt⟩ hv (fun q h => by rw [hvm0] at h; cases h) (by rw [hcl0]; exact k3) (by rw [hcl0]; exact hass) rfl rfl hd fun H1 e1 z oq => kk H1 _ (am_q_set e1) z oq
theorem am_aald_W (hx : p.tables.exec = Jvm.exec) (hb : c.code = cc) (hK : va_K D cl (am_tys kd ca) s) {t n : Nat} {ty : FieldType} {f : Nat → Option Nat} (ht : kd[t]? = some ty) (hr : ty.isReference = true) (he : va_at D cl (a, .inl (ca t, n, .inr (.inr (.inr (.inr f))))) H) {i : Int32} (hin : vp_in i n) (hd : decode cc pc = .ok (.aaload, 1))
    (kk : W p l e R s m args below meth c H locs cells slots Q (F0 m (pc + 1) ls (va_rf (f i.toNatClampNeg) :: rest))) : W p l e R s m args below meth c H locs cells slots Q (F0 m pc ls (.int i :: .ref a :: rest)) := by
  have hlt : i.toNatClampNeg < n := Nat.not_le.mp fun q => hin (Or.inr q)
  exact W.aald (v := va_rf (f i.toNatClampNeg)) (ty := ty) hx hb he ((hK.2 t _ (am_tys_at ht)).1 n (fun j => va_rf (f j))) hr (fun q => by cases q) (by show ¬ (i < 0 ∨ (arrV _ _ _).slots.size ≤ _); rw [arrV_size]; exact hin) (by show (arrV _ _ _).slots[_]? = _; rw [arrV_read _ _ hlt]) rfl rfl hd kk
/-- new T[n] of numbers -/
theorem am_newa_W (hx : p.tables.exec = Jvm.exec) (hb : c.code = cc) (hts : ∀ w ∈ Ts, w.before args s = true) (hK : va_K D cl (am_tys kd ca) s) {atype : ArrayType} (harr : Cond.arrayClass (newarray.typeOf atype) ∈ Ts) {t N : Nat} {a0 : vp_A} (ht : kd[t]? = some (newarray.typeOf atype)) (hpr : ∀ C, newarray.typeOf atype ≠ .object C) (ha : ∀ cA : ClassId, vp_cell cA a0 = arrV cA N (fun _ => defaultValue (newarray.typeOf atype))) {n : Int32} (hn : ¬ n < 0) (hN : n.toNatClampNeg = N) (hby : N * componentBytes (newarray.typeOf atype) ≤ 536870912) (hc : cells + 1 ≤ R.cells) (hs : slots + N ≤ R.slots) (hd : decode cc pc = .ok (.newarray atype, 2))
    (kk : ∀ (H1 : Heap), va_at D cl (H.size, .inl (ca t, a0)) H1 → H1.size = H.size + 1 → (∀ q : Nat, q < H.size → H1[q]? = H[q]?) → W p l e R s m args below meth c H1 locs (cells + 1) (slots + N) Q (F0 m (pc + 2) ls (.ref H.size :: rest))) : W p l e R s m args below meth c H locs cells slots Q (F0 m pc ls (.int n :: rest)) := by
  refine va_newaK hx hb (hts _ harr) rfl hd rfl hn hN hby hc hs rfl fun H1 cA e1 z1 o1 hAr hNm => kk H1 ?_ z1 o1
  have hr := (hK.2 t _ (am_tys_at ht)).2
  have e2 : cA = ca t := by
    unfold va_RA at hr
    cases atype <;> exact Option.some.inj (hNm.symm.trans hr)
  show H1[H.size]? = some (vp_cell _ _)
  rw [ha, ← e2]
  exact e1
/-- new C -/
theorem am_new_W (hx : p.tables.exec = Jvm.exec) (hb : c.code = cc) (hts : ∀ w ∈ Ts, w.before args s = true) {own : String} (hown : s.vm.findClass own = some m.cls) (hK : va_K D cl (am_tys kd ca) s) {tyf : Nat → Nat → FieldType} (hcok : am_cOk Ts cl tyf) {ci index N : Nat} {C : String} {T : u_T} (hci : cl[ci]? = some (C, T, N)) (hlink : Cond.classLink own index C ∈ Ts) {fs : List Value} (hfs : ∀ j, j < N → defaultValue (tyf ci j) = vp_V fs j) (hc : cells + 1 ≤ R.cells) (hs : slots + N ≤ R.slots) (hd : decode cc pc = .ok (.new index, 3))
    (kk : ∀ (H1 : Heap), va_at D cl (H.size, .inr (ci, fs)) H1 → H1.size = H.size + 1 → (∀ q : Nat, q < H.size → H1[q]? = H[q]?) → W p l e R s m args below meth c H1 locs (cells + 1) (slots + N) Q (F0 m (pc + 3) ls (.ref H.size :: rest))) : W p l e R s m args below meth c H locs cells slots Q (F0 m pc ls rest) := by
  obtain ⟨hin, hty, hnm, hinst, hini⟩ := hcok ci C T N hci
  have hKn := hK.1 ci _ hci
  refine W.newcK hx hb hown (hts _ hlink) (hts _ hinst) (hts _ hini) rfl hd hc hs hKn.2.1 rfl fun H1 kC hkC e1 z1 o1 => kk H1 ?_ z1 o1
  exact ⟨_, hci, (u_born (tyf ci) hts hin hKn hkC e1 hty).to hfs⟩
/-- new C[n], new T[n][] -/
theorem am_anew_W (hx : p.tables.exec = Jvm.exec) (hb : c.code = cc) (hts : ∀ w ∈ Ts, w.before args s = true) {own : String} (hown : s.vm.findClass own = some m.cls) (hnw : ∀ w ∈ Nw, va_Nw w s) (hK : va_K D cl (am_tys kd ca) s) {t N index : Nat} {C : String} (ht : kd[t]? = some (.object C)) (hover : Cond.arrayOver (.object C) ∈ Nw) (hlink : Cond.classLink own index C ∈ Ts) {n : Int32} (hn : ¬ n < 0) (hN : n.toNatClampNeg = N) (hby : N * 4 ≤ 536870912) (hc : cells + 1 ≤ R.cells) (hs : slots + N ≤ R.slots) (hd : decode cc pc = .ok (.anewarray index, 3))
    (kk : ∀ (H1 : Heap), va_at D cl (H.size, .inl (ca t, N, .inr (.inr (.inr (.inr (fun _ => none)))))) H1 → H1.size = H.size + 1 → (∀ q : Nat, q < H.size → H1[q]? = H[q]?) → W p l e R s m args below meth c H1 locs (cells + 1) (slots + N) Q (F0 m (pc + 3) ls (.ref H.size :: rest))) : W p l e R s m args below meth c H locs cells slots Q (F0 m pc ls (.int n :: rest)) := by
  subst hN
  refine W.anew hx hb hown (hts _ hlink) (va_AO.use (hnw _ hover)) rfl hd rfl hn hby hc hs fun cA kA comp f1 f2 f3 f4 => ?_
  have hr := (hK.2 t _ (am_tys_at ht)).2
  have e2 : cA = ca t := by
    obtain ⟨kB, cB, b1, b2, b3, b4⟩ := hr
    exact Option.some.inj (f1.symm.trans b4)
  subst e2
  generalize hH1 : H.push ({ cls := ca t, slots := Array.replicate n.toNatClampNeg .null, vm := .none } : Cell) = H1
  have z1 : H1.size = H.size + 1 := by rw [← hH1, Array.size_push]
  have e1 : H1[H.size]? = some (arrV (ca t) n.toNatClampNeg (fun _ => .null)) := by rw [← hH1, Array.getElem?_push_size, ← arrV_new]
  have o1 : ∀ q : Nat, q < H.size → H1[q]? = H[q]? := fun q hq => by rw [← hH1, Array.getElem?_push, if_neg (Nat.ne_of_lt hq)]
  exact kk H1 e1 z1 o1
theorem am_anewA_W (hx : p.tables.exec = Jvm.exec) (hb : c.code = cc) (hts : ∀ w ∈ Ts, w.before args s = true) {own : String} (hown : s.vm.findClass own = some m.cls) (hnw : ∀ w ∈ Nw, va_Nw w s) (hK : va_K D cl (am_tys kd ca) s) {t N index : Nat} {ty : FieldType} (ht : kd[t]? = some (.array ty)) (hover : Cond.arrayOver (.array ty) ∈ Nw) (hlink : Cond.classLink own index (FieldType.array ty).toString ∈ Ts) {n : Int32} (hn : ¬ n < 0) (hN : n.toNatClampNeg = N) (hby : N * 4 ≤ 536870912) (hc : cells + 1 ≤ R.cells) (hs : slots + N ≤ R.slots) (hd : decode cc pc = .ok (.anewarray index, 3))
    (kk : ∀ (H1 : Heap), va_at D cl (H.size, .inl (ca t, N, .inr (.inr (.inr (.inr (fun _ => none)))))) H1 → H1.size = H.size + 1 → (∀ q : Nat, q < H.size → H1[q]? = H[q]?) → W p l e R s m args below meth c H1 locs (cells + 1) (slots + N) Q (F0 m (pc + 3) ls (.ref H.size :: rest))) : W p l e R s m args below meth c H locs cells slots Q (F0 m pc ls (.int n :: rest)) := by
  subst hN
  refine W.anewA hx hb hown (hts _ hlink) (hnw _ hover) rfl hd rfl hn hby hc hs fun cA kA comp f1 f2 f3 f4 => ?_
  have hr := (hK.2 t _ (am_tys_at ht)).2
  have e2 : cA = ca t := Option.some.inj (f1.symm.trans hr)
  subst e2
  generalize hH1 : H.push ({ cls := ca t, slots := Array.replicate n.toNatClampNeg .null, vm := .none } : Cell) = H1
  have z1 : H1.size = H.size + 1 := by rw [← hH1, Array.size_push]
  have e1 : H1[H.size]? = some (arrV (ca t) n.toNatClampNeg (fun _ => .null)) := by rw [← hH1, Array.getElem?_push_size, ← arrV_new]
  have o1 : ∀ q : Nat, q < H.size → H1[q]? = H[q]? := fun q hq => by rw [← hH1, Array.getElem?_push, if_neg (Nat.ne_of_lt hq)]
  exact kk H1 e1 z1 o1
end AMR
end
section
/-! AM: System.arraycopy of ints, clone and checkcast of an int array, getstatic of a static array */ -/
section AMN
variable {p : Program} {l : Launch} {e : Env} {R : Room} {s : State} {m : MethodId} {args : Array Value} {below : List Frame} {meth : Method} {c : Code} {H : Heap} {locs : List Loc} {cells slots : Nat} {Q : State → Prop}
variable {cc : ByteArray} {pc : Nat} {ls : Array Slot} {rest : List Value} {D : va_G} {cl : List vw_C} {A : Nat → Prop} {a : Nat} {H0 : Heap} {ca : Nat → ClassId} {kd : List FieldType} {M : am_H} {Ts Nw : List Cond}
/-- the words of arraycopy -/
def am_acOk (Ts : List Cond) (own : String) (index : Nat) : Prop := Cond.methodLink own index arraycopyName ∈ Ts ∧ Cond.native arraycopyName ∈ Ts ∧ Cond.static arraycopyName ∈ Ts ∧ Cond.initialized "java/lang/System" ∈ Ts
theorem am_nn {z : Int32} (hz : ¬ z < 0) : z.toInt = (z.toNatClampNeg : Int) := by
  have hz0 : (0 : Int) ≤ z.toInt := by
    have := Int32.not_lt.mp hz
    simpa using Int32.le_iff_toInt_le.mp this
  show z.toInt = ((z.toInt.toNat : Nat) : Int)
  omega
theorem am_copy_W (hx : p.tables.exec = Jvm.exec) (hb : c.code = cc) (hml : c.maxLocals = ls.size) (hts : ∀ w ∈ Ts, w.before args s = true) {own : String} (hown : s.vm.findClass own = some m.cls) (hK : va_K D cl (am_tys kd ca) s) {index t n0 n1 a0 : Nat} (hac : am_acOk Ts own index) (ht : kd[t]? = some .int) {f g : Nat → Int32} (he0 : va_at D cl (a0, .inl (ca t, n0, .inl f)) H) (he1 : va_at D cl (a, .inl (ca t, n1, .inl g)) H)
    {sp dp n : Int32} (h1 : ¬ sp < 0) (h2 : ¬ dp < 0) (h3 : ¬ n < 0) (h4 : sp.toNatClampNeg + n.toNatClampNeg ≤ n0) (h5 : dp.toNatClampNeg + n.toNatClampNeg ≤ n1) (hfr : 1 ≤ R.frames) (hlo : (rest.map fun v => v.category).sum + (nativeFrameWords "java/lang/System" "arraycopy" 5 + 11) ≤ R.locals) (hd : decode cc pc = .ok (.invokestatic index, 3))
    (kk : ∀ (H1 : Heap) (L : List Loc), va_at D cl (a, .inl (ca t, n1, .inl (va_cpy f g sp.toNatClampNeg dp.toNatClampNeg n.toNatClampNeg))) H1 → H1.size = H.size → (∀ q : Nat, q ≠ a → H1[q]? = H[q]?) → (∀ q ∈ L, q.base = a) → W p l e R s m args below meth c H1 (locs ++ L) cells slots Q (F0 m (pc + 3) ls rest)) : W p l e R s m args below meth c H locs cells slots Q (F0 m pc ls (.int n :: .int dp :: .ref a :: .int sp :: .ref a0 :: rest)) := by
  obtain ⟨w1, w2, w3, w4⟩ := hac
  intro T hT X
  have hc0 : H[a0]? = some (vp_cell (ca t) (n0, .inl f)) := he0
  have hc1 : H[a]? = some (vp_cell (ca t) (n1, .inl g)) := he1
  obtain ⟨-, k0, hk0, cm0, hkk0⟩ := (hK.2 t _ (am_tys_at ht)).1 n0 (fun j => .int (f j))
  obtain ⟨-, k1, hk1, cm1, hkk1⟩ := (hK.2 t _ (am_tys_at ht)).1 n1 (fun j => .int (g j))
  obtain ⟨vm', X', step⟩ := X.arraycopy hx hown (hts _ w1) (hts _ w2) (hts _ w3) (hts _ w4) (src := a0) (dst := a) (cs := vp_cell (ca t) (n0, .inl f)) (cd := vp_cell (ca t) (n1, .inl g)) (srcPos := sp) (destPos := dp) (n := n) (by rw [hT]; exact hc0) (by rw [hT]; exact hc1)
    (fun _ h => by cases h) (fun _ h => by cases h) (fun h => by cases h) (fun h => by cases h) hk0 hk1 hkk0 hkk1 (by simp [refKind]) h1 h2 h3
    (by rw [am_nn h1, am_nn h3]; show ¬ _ > ((arrV (ca t) n0 (fun j => .int (f j))).slots.size : Int); rw [arrV_size]; omega)
    (by rw [am_nn h2, am_nn h3]; show ¬ _ > ((arrV (ca t) n1 (fun j => .int (g j))).slots.size : Int); rw [arrV_size]; omega)
    (fun vm₁ _ i hi => by
      have e : (vp_cell (ca t) (n0, .inl f)).slots.getD (sp.toNatClampNeg + i) .null = .int (f (sp.toNatClampNeg + i)) := by
        show (arrV (ca t) n0 (fun j => .int (f j))).slots.getD _ _ = _
        rw [Array.getD_eq_getD_getElem?, arrV_read _ _ (by omega)]
        rfl
      refine ⟨?_, ?_⟩
      · rw [e]
        rfl
      · rw [e]
        exact trivial)
    (g := F0 m pc ls (.int n :: .int dp :: .ref a :: .int sp :: .ref a0 :: rest)) rfl (by rw [hml]) (rest := rest) rfl (by rw [hb]; exact hd) hfr (by show 2 * 0 + _ + _ ≤ _; omega)
  have e1 : copied (vp_cell (ca t) (n0, .inl f)) (vp_cell (ca t) (n1, .inl g)) sp dp n = vp_cell (ca t) (n1, .inl (va_cpy f g sp.toNatClampNeg dp.toNatClampNeg n.toNatClampNeg)) := va_copied (fun z => .int z) (ca t) (ca t) f g h4
  rw [e1] at X' step
  have hl : a < H.size := (Array.getElem?_eq_some_iff.mp hc1).1
  obtain ⟨t', a1, b1⟩ := kk (H.setIfInBounds a (vp_cell (ca t) (n1, .inl (va_cpy f g sp.toNatClampNeg dp.toNatClampNeg n.toNatClampNeg)))) _ (show (H.setIfInBounds a _)[a]? = some _ by simp [Array.getElem?_setIfInBounds, hl]) (by simp) (fun q hq => by simp [Array.getElem?_setIfInBounds, Ne.symm hq]) (fun q hq => by
    obtain ⟨z, -, hz⟩ := List.mem_map.mp hq
    rw [← hz]) _ (by rw [← hT]; rfl) X'
  exact ⟨t', step t' a1, b1⟩
/-- the words of an int array's clone -/
def am_clOk (Ts Nw : List Cond) (own : String) (index : Nat) : Prop := Cond.methodLink own index ⟨"[I", "clone", "()Ljava/lang/Object;"⟩ ∈ Ts ∧ Cond.sameMethod "[I" "java/lang/Object" "clone" "()Ljava/lang/Object;" ∈ Ts ∧ Cond.native ⟨"java/lang/Object", "clone", "()Ljava/lang/Object;"⟩ ∈ Ts ∧ Cond.instanceMethod ⟨"java/lang/Object", "clone", "()Ljava/lang/Object;"⟩ ∈ Ts ∧
  Cond.selects "[I" ⟨"[I", "clone", "()Ljava/lang/Object;"⟩ ⟨"java/lang/Object", "clone", "()Ljava/lang/Object;"⟩ ∈ Ts ∧ Cond.castable "[I" "java/lang/Cloneable" ∈ Nw
theorem am_nmI {t : Nat} (hK : va_K D cl (am_tys kd ca) s) (ht : kd[t]? = some .int) : s.vm.findClass "[I" = some (ca t) := by
  have hr := (hK.2 t _ (am_tys_at ht)).2
  unfold va_RA at hr
  exact (show ("[" ++ FieldType.int.toString) = "[I" from by decide +kernel) ▸ hr
theorem am_clone_W (hx : p.tables.exec = Jvm.exec) (hb : c.code = cc) (hml : c.maxLocals = ls.size) (hts : ∀ w ∈ Ts, w.before args s = true) (hnw : ∀ w ∈ Nw, va_Nw w s) {own : String} (hown : s.vm.findClass own = some m.cls) (hK : va_K D cl (am_tys kd ca) s) {index t n0 : Nat} (hac : am_clOk Ts Nw own index) (ht : kd[t]? = some .int) {f : Nat → Int32} (he0 : va_at D cl (a, .inl (ca t, n0, .inl f)) H)
    (hfr : 1 ≤ R.frames) (hlo : (rest.map fun v => v.category).sum + 14 ≤ R.locals) (hcells : cells + 1 ≤ R.cells) (hslots : slots + n0 ≤ R.slots) (hd : decode cc pc = .ok (.invokevirtual index, 3))
    (kk : ∀ (H1 : Heap), va_at D cl (H.size, .inl (ca t, n0, .inl f)) H1 → H1.size = H.size + 1 → (∀ q : Nat, q < H.size → H1[q]? = H[q]?) → W p l e R s m args below meth c H1 locs (cells + 1) (slots + n0) Q (F0 m (pc + 3) ls (.ref H.size :: rest))) : W p l e R s m args below meth c H locs cells slots Q (F0 m pc ls (.ref a :: rest)) := by
  obtain ⟨w1, w2, w3, w4, w5, w6⟩ := hac
  have hnm := am_nmI hK ht
  have hsz : (vp_cell (ca t) (n0, .inl f)).slots.size = n0 := arrV_size _ _ _
  obtain ⟨c0, t0', f1, f2, f3⟩ := Cond.castable_spec (va_Nw.use (A := args) rfl (hnw _ w6))
  cases hnm.symm.trans f1
  intro T hT X
  have hcellT : T.heap[a]? = some (vp_cell (ca t) (n0, .inl f)) := by rw [hT]; exact he0
  obtain ⟨-, kA, hkA, comp, hkind⟩ := State.isArrayOf_alike X.warmed.alike ((hK.2 t _ (am_tys_at ht)).1 0 (fun _ => .null))
  obtain ⟨-, kS, hkS, compS, hkindS⟩ := (hK.2 t _ (am_tys_at ht)).1 0 (fun _ => .null)
  obtain ⟨vm', X', st⟩ := X.cloneArray hx hown (hts _ w1) (hts _ w2) (hts _ w3) (hts _ w4) (hts _ w5) (a := a) (cell := vp_cell (ca t) (n0, .inl f)) hcellT (fun k h => by cases h) (fun h => by cases h) hnm f2 f3
    (fun i v hv => by
      have hk' : T.vm.classes[ca t]? = some kA := hkA
      have hfit : fits .int v = true := by
        have h9 : (arrV (ca t) n0 (fun j => Value.int (f j))).slots[i]? = some v := hv
        by_cases hi : i < n0
        · rw [arrV_read _ _ hi] at h9
          cases h9
          rfl
        · have h8 := (Array.getElem?_eq_some_iff.mp h9).1
          rw [arrV_size] at h8
          exact absurd h8 hi
      show T.fitsSlot (ca t) .none i v = true
      simpa [State.fitsSlot, State.slotType?, hk', hkind] using hfit)
    (g := F0 m pc ls (.ref a :: rest)) rfl (by rw [hml]) rfl (by rw [hb]; exact hd) hfr (by show 2 * 0 + _ + 14 ≤ _; omega) hcells (by rw [hsz]; exact hslots) (hloader := Vm.clonesLoader_of_array hkS hkindS)
  rw [hsz] at X'
  generalize hH1 : H.push (vp_cell (ca t) (n0, .inl f)) = H1
  have z1 : H1.size = H.size + 1 := by rw [← hH1, Array.size_push]
  have e1 : H1[H.size]? = some (vp_cell (ca t) (n0, .inl f)) := by rw [← hH1, Array.getElem?_push_size]
  have o1 : ∀ q : Nat, q < H.size → H1[q]? = H[q]? := fun q hq => by rw [← hH1, Array.getElem?_push, if_neg (Nat.ne_of_lt hq)]
  obtain ⟨t', b1, b2⟩ := kk H1 e1 z1 o1 _ (by rw [← hH1, ← hT]; rfl) X'
  refine ⟨t', st t' ?_, b2⟩
  have e9 : T.heap.size = H.size := by rw [hT]
  rw [e9]
  exact b1
theorem am_castA_W (hx : p.tables.exec = Jvm.exec) (hb : c.code = cc) (hts : ∀ w ∈ Ts, w.before args s = true) {own : String} (hown : s.vm.findClass own = some m.cls) (hK : va_K D cl (am_tys kd ca) s) {index t : Nat} {x : vp_A} (hw : Cond.classLink own index "[I" ∈ Ts) (ht : kd[t]? = some .int) (he : va_at D cl (a, .inl (ca t, x)) H) (hd : decode cc pc = .ok (.checkcast index, 3))
    (kk : W p l e R s m args below meth c H locs cells slots Q (F0 m (pc + 3) ls (.ref a :: rest))) : W p l e R s m args below meth c H locs cells slots Q (F0 m pc ls (.ref a :: rest)) :=
  va_castA hx hb hown (hts _ hw) (am_one he) 0 rfl (am_nmI hK ht) hd kk
/-- the words of a static array -/
def am_stOk (Ts : List Cond) (zs : List (String × String × String × Nat)) (own : String) (index : Nat) (v : Nat) : Prop := ∃ C n d : String, (C, n, d, v) ∈ zs ∧ Cond.fieldLink own index C n d ∈ Ts
theorem am_gets_W (hx : p.tables.exec = Jvm.exec) (hb : c.code = cc) (hts : ∀ w ∈ Ts, w.before args s = true) {own : String} (hown : s.vm.findClass own = some m.cls) {zs : List (String × String × String × Nat)} (hZ : ∀ z ∈ zs, va_Z z.1 z.2.1 z.2.2.1 (.ref z.2.2.2) A s s.heap) (hS : va_S A s.heap H locs) {index v : Nat} (hst : am_stOk Ts zs own index v) (hd : decode cc pc = .ok (.getstatic index, 3))
    (kk : W p l e R s m args below meth c H locs cells slots Q (F0 m (pc + 3) ls (.ref v :: rest))) : W p l e R s m args below meth c H locs cells slots Q (F0 m pc ls rest) := by
  obtain ⟨C, n, d, h1, h2⟩ := hst
  exact va_gets hx hb (hZ _ h1) hS hown (hts _ h2) (fun x h => h) hd kk
/-- Math: 0 the greater of two ints, 1 the lesser, 2 the lesser of two longs, 3 a long's size -/
def am_mth : Nat → List Value → Option Value
  | 0, [.int y, .int x] => some (.int (if x < y then y else x))
  | 1, [.int y, .int x] => some (.int (if y < x then y else x))
  | 2, [.long y, .long x] => some (.long (if y < x then y else x))
  | 3, [.long x] => some (.long (if 0 < x then x else -x))
  | _, _ => none
def am_mOk (Ts : List Cond) (own : String) (index : Nat) : Nat → Prop
  | 0 => Cond.methodLink own index Lib.Math.max.name ∈ Ts ∧ Cond.static Lib.Math.max.name ∈ Ts ∧ Cond.initialized "java/lang/Math" ∈ Ts ∧ Cond.code Lib.Math.max.name Lib.Math.max.code 2 (some .int) ∈ Ts
  | 1 => Cond.methodLink own index Lib.Math.min.name ∈ Ts ∧ Cond.static Lib.Math.min.name ∈ Ts ∧ Cond.initialized "java/lang/Math" ∈ Ts ∧ Cond.code Lib.Math.min.name Lib.Math.min.code 2 (some .int) ∈ Ts
  | 2 => Cond.methodLink own index Lib.MathLoose.min_long.x ∈ Ts ∧ Cond.static Lib.MathLoose.min_long.x ∈ Ts ∧ Cond.initialized "java/lang/Math" ∈ Ts ∧ Cond.code Lib.MathLoose.min_long.x Lib.MathLoose.min_long.code 4 (some .long) ∈ Ts
  | 3 => Cond.methodLink own index Lib.MathLoose.abs_long.x ∈ Ts ∧ Cond.static Lib.MathLoose.abs_long.x ∈ Ts ∧ Cond.initialized "java/lang/Math" ∈ Ts ∧ Cond.code Lib.MathLoose.abs_long.x Lib.MathLoose.abs_long.code 2 (some .long) ∈ Ts
  | _ => True
theorem am_mth_W (hx : p.tables.exec = Jvm.exec) (hb : c.code = cc) (hml : c.maxLocals = ls.size) (hts : ∀ w ∈ Ts, w.before args s = true) {own : String} (hown : s.vm.findClass own = some m.cls) {index j : Nat} (hac : am_mOk Ts own index j) {vs : List Value} {v : Value} (hv : am_mth j vs = some v) (hfr : 1 ≤ R.frames) (hlo : (rest.map fun v => v.category).sum + 15 ≤ R.locals) (hc : cells ≤ R.cells) (hs : slots ≤ R.slots) (hd : decode cc pc = .ok (.invokestatic index, 3))
    (kk : W p l e R s m args below meth c H locs cells slots Q (F0 m (pc + 3) ls (v :: rest))) : W p l e R s m args below meth c H locs cells slots Q (F0 m pc ls (vs ++ rest)) := by
  unfold am_mth at hv
  split at hv
  · obtain ⟨w1, w2, w3, w4⟩ := hac
    injection hv with hv
    subst hv
    exact va_mmax (rest := rest) hx hb hml hown (hts _ w1) (hts _ w2) (hts _ w3) (hts _ w4) hfr (by omega) hc hs hd kk
  · obtain ⟨w1, w2, w3, w4⟩ := hac
    injection hv with hv
    subst hv
    exact va_mmin (rest := rest) hx hb hml hown (hts _ w1) (hts _ w2) (hts _ w3) (hts _ w4) hfr (by omega) hc hs hd kk
  · obtain ⟨w1, w2, w3, w4⟩ := hac
    injection hv with hv
    subst hv
    exact va_mmin_long (rest := rest) hx hb hml hown (hts _ w1) (hts _ w2) (hts _ w3) (hts _ w4) hfr (by omega) hc hs hd kk
  · obtain ⟨w1, w2, w3, w4⟩ := hac
    injection hv with hv
    subst hv
    exact va_mabs_long (rest := rest) hx hb hml hown (hts _ w1) (hts _ w2) (hts _ w3) (hts _ w4) hfr (by omega) hc hs hd kk
  · cases hv
end AMN
end
section
/-! AM: the program's tables, a step, runs */ -/
/-- name, code, locals, answer's type, room: frames, words of locals; its class's number -/
abbrev am_Meth : Type := MethodName × ByteArray × Nat × Option FieldType × Nat × Nat × Nat
abbrev am_P : Type := (Nat → Option am_Meth) × (Nat → Nat → Nat → Option Nat) × (Nat → Nat → FieldType) × (Nat → Nat → Nat → Nat) × (Nat → Nat → Option Value) × (Nat → Nat → Option Nat) × (Nat → List Value) × (Nat → Nat → Option Nat) × (Nat → Nat → Option Nat) ×
  (Nat → Nat → Option (Nat × Nat)) × (Nat → Nat → Option (Nat × Nat)) × (Nat → Nat → Nat → Option (Nat × Nat)) × (Nat → Nat → Nat) × (Nat → Nat → Bool) × (Nat → Nat → Bool) × List FieldType × (Nat → String)
def am_meth (P : am_P) : Nat → Option am_Meth := P.1
def am_fld (P : am_P) : Nat → Nat → Nat → Option Nat := P.2.1
def am_tyf (P : am_P) : Nat → Nat → FieldType := P.2.2.1
/-- 1: may be put; 2: in a constructor alone -/
def am_pk (P : am_P) : Nat → Nat → Nat → Nat := P.2.2.2.1
def am_cst (P : am_P) : Nat → Nat → Option Value := P.2.2.2.2.1
def am_nw (P : am_P) : Nat → Nat → Option Nat := P.2.2.2.2.2.1
def am_df (P : am_P) : Nat → List Value := P.2.2.2.2.2.2.1
def am_an (P : am_P) : Nat → Nat → Option Nat := P.2.2.2.2.2.2.2.1
def am_sa0 (P : am_P) : Nat → Nat → Option Nat := P.2.2.2.2.2.2.2.2.1
def am_cs (P : am_P) : Nat → Nat → Option (Nat × Nat) := P.2.2.2.2.2.2.2.2.2.1
def am_ci (P : am_P) : Nat → Nat → Option (Nat × Nat) := P.2.2.2.2.2.2.2.2.2.2.1
def am_cv (P : am_P) : Nat → Nat → Nat → Option (Nat × Nat) := P.2.2.2.2.2.2.2.2.2.2.2.1
/-- 1 arraycopy, 2 Object's constructor, 3 an int array's clone, 4 the cast to int[], 5 new long[..][..] -/
def am_nt (P : am_P) : Nat → Nat → Nat := P.2.2.2.2.2.2.2.2.2.2.2.2.1
def am_asg (P : am_P) : Nat → Nat → Bool := P.2.2.2.2.2.2.2.2.2.2.2.2.2.1
def am_asA (P : am_P) : Nat → Nat → Bool := P.2.2.2.2.2.2.2.2.2.2.2.2.2.2.1
def am_kd (P : am_P) : List FieldType := P.2.2.2.2.2.2.2.2.2.2.2.2.2.2.2.1
/-- a class's name -/
def am_on (P : am_P) : Nat → String := P.2.2.2.2.2.2.2.2.2.2.2.2.2.2.2.2
/-- static arrays of ints and the law's script: read, never written -/
abbrev am_O : Type := Nat → Option (Nat × (Nat → Int32))
def am_new (at' : ArrayType) (n : Nat) : Option (Nat × vp_A) := match at' with
  | .int => some (0, n, .inl (fun _ => 0))
  | .long => some (1, n, .inr (.inl (fun _ => 0)))
  | .boolean => some (2, n, .inl (fun _ => 0))
  | _ => none
abbrev am_K : Type := Nat → List Value → am_H → Nat → Nat → Prop
def am_qa (t n : Nat) (f : Nat → Option Nat) : am_E := .inl (t, n, .inr (.inr (.inr (.inr f))))
/-- new long[N][K] at sz -/
def am_mna (t : Nat) (M : am_H) (sz N K : Nat) : am_H := fun q => if q = sz then some (am_qa t N (fun i => if i < N then some (sz + 1 + i) else none)) else if sz < q ∧ q < sz + 1 + N then some (.inl (1, K, .inr (.inl (fun _ => 0)))) else M q
def am_hp (P : am_P) (RO : am_O) (own : Nat) (ini : Bool) (i : Instr) (len pc : Nat) (st : List Value) (M : am_H) (sz sl : Nat) (K : am_K) : Prop := match i with
  | .getfield x => len = 3 ∧ ∃ a r ci fs k v, st = Value.ref a :: r ∧ M a = some (.inr (ci, fs)) ∧ am_fld P own x ci = some k ∧ fs[k]? = some v ∧ K (pc + 3) (v :: r) M sz sl
  | .putfield x => len = 3 ∧ ∃ v a r ci fs k, st = v :: Value.ref a :: r ∧ M a = some (.inr (ci, fs)) ∧ am_fld P own x ci = some k ∧ (am_pk P own x ci = 1 ∨ am_pk P own x ci = 2 ∧ ini = true) ∧ k < fs.length ∧ narrow (am_tyf P ci k) v = v ∧ fits (am_tyf P ci k) v = true ∧ K (pc + 3) r (am_set M a (.inr (ci, fs.set k v))) sz sl
  | .getstatic x => len = 3 ∧ ∃ a, am_sa0 P own x = some a ∧ K (pc + 3) (Value.ref a :: st) M sz sl
  | .new x => len = 3 ∧ ∃ ci, am_nw P own x = some ci ∧ K (pc + 3) (Value.ref sz :: st) (am_set M sz (.inr (ci, am_df P ci))) (sz + 1) (sl + (am_df P ci).length)
  | .newarray ty => len = 2 ∧ ∃ n r t x, st = Value.int n :: r ∧ ¬ n < 0 ∧ n.toNatClampNeg * 8 ≤ 536870912 ∧ am_new ty n.toNatClampNeg = some (t, x) ∧ K (pc + 2) (Value.ref sz :: r) (am_set M sz (.inl (t, x))) (sz + 1) (sl + n.toNatClampNeg)
  | .anewarray x => len = 3 ∧ ∃ n r t, st = Value.int n :: r ∧ ¬ n < 0 ∧ n.toNatClampNeg * 4 ≤ 536870912 ∧ am_an P own x = some t ∧ K (pc + 3) (Value.ref sz :: r) (am_set M sz (am_qa t n.toNatClampNeg (fun _ => none))) (sz + 1) (sl + n.toNatClampNeg)
  | .arraylength => len = 1 ∧ ∃ a r t x, st = Value.ref a :: r ∧ ((M a = some (.inl (t, x)) ∧ t < (am_kd P).length) ∨ (M a = none ∧ ∃ f, RO a = some (x.1, f))) ∧ K (pc + 1) (Value.int (Int32.ofNat x.1) :: r) M sz sl
  | .iaload => len = 1 ∧ ∃ j a r n f, st = Value.int j :: Value.ref a :: r ∧ (M a = some (.inl (0, n, .inl f)) ∨ (M a = none ∧ RO a = some (n, f))) ∧ vp_in j n ∧ K (pc + 1) (Value.int (f j.toNatClampNeg) :: r) M sz sl
  | .baload => len = 1 ∧ ∃ j a r n f, st = Value.int j :: Value.ref a :: r ∧ M a = some (.inl (2, n, .inl f)) ∧ vp_in j n ∧ K (pc + 1) (Value.int (f j.toNatClampNeg) :: r) M sz sl
  | .laload => len = 1 ∧ ∃ j a r n f, st = Value.int j :: Value.ref a :: r ∧ M a = some (.inl (1, n, .inr (.inl f))) ∧ vp_in j n ∧ K (pc + 1) (Value.long (f j.toNatClampNeg) :: r) M sz sl
  | .aaload => len = 1 ∧ ∃ j a r n t f ty, st = Value.int j :: Value.ref a :: r ∧ M a = some (am_qa t n f) ∧ (am_kd P)[t]? = some ty ∧ ty.isReference = true ∧ vp_in j n ∧ K (pc + 1) (va_rf (f j.toNatClampNeg) :: r) M sz sl
  | .iastore => len = 1 ∧ ∃ x j a r n f, st = Value.int x :: Value.int j :: Value.ref a :: r ∧ M a = some (.inl (0, n, .inl f)) ∧ vp_in j n ∧ K (pc + 1) r (am_set M a (.inl (0, n, .inl (upd f j.toNatClampNeg x)))) sz sl
  | .bastore => len = 1 ∧ ∃ x j a r n f, st = Value.int x :: Value.int j :: Value.ref a :: r ∧ M a = some (.inl (2, n, .inl f)) ∧ vp_in j n ∧ K (pc + 1) r (am_set M a (.inl (2, n, .inl (upd f j.toNatClampNeg (vp_nar .boolean x))))) sz sl
  | .lastore => len = 1 ∧ ∃ x j a r n f, st = Value.long x :: Value.int j :: Value.ref a :: r ∧ M a = some (.inl (1, n, .inr (.inl f))) ∧ vp_in j n ∧ K (pc + 1) r (am_set M a (.inl (1, n, .inr (.inl (vp_updL f j.toNatClampNeg x))))) sz sl
  | .aastore => len = 1 ∧ ((∃ v j a r n t f ci vs, st = Value.ref v :: Value.int j :: Value.ref a :: r ∧ M a = some (am_qa t n f) ∧ M v = some (.inr (ci, vs)) ∧ am_asg P t ci = true ∧ vp_in j n ∧ K (pc + 1) r (am_set M a (am_qa t n (va_up f j.toNatClampNeg (some v)))) sz sl) ∨
      (∃ v j a r n t f t2 x, st = Value.ref v :: Value.int j :: Value.ref a :: r ∧ M a = some (am_qa t n f) ∧ M v = some (.inl (t2, x)) ∧ am_asA P t t2 = true ∧ vp_in j n ∧ K (pc + 1) r (am_set M a (am_qa t n (va_up f j.toNatClampNeg (some v)))) sz sl) ∨
      (∃ j a r n t f E, st = Value.null :: Value.int j :: Value.ref a :: r ∧ M a = some (am_qa t n f) ∧ (am_kd P)[t]? = some (.object E) ∧ vp_in j n ∧ K (pc + 1) r (am_set M a (am_qa t n (va_up f j.toNatClampNeg none))) sz sl))
  | .multianewarray x d => len = 4 ∧ d = 2 ∧ ∃ kn n r t, st = Value.int kn :: Value.int n :: r ∧ am_nt P own x = 100 + t ∧ ¬ n < 0 ∧ ¬ kn < 0 ∧ n.toNatClampNeg * 4 ≤ 536870912 ∧ kn.toNatClampNeg * 8 ≤ 536870912 ∧ K (pc + 4) (Value.ref sz :: r) (am_mna t M sz n.toNatClampNeg kn.toNatClampNeg) (sz + 1 + n.toNatClampNeg) (sl + n.toNatClampNeg + n.toNatClampNeg * kn.toNatClampNeg)
  | .checkcast x => len = 3 ∧ am_nt P own x = 4 ∧ ∃ a r y, st = Value.ref a :: r ∧ M a = some (.inl (0, y)) ∧ K (pc + 3) st M sz sl
  | _ => False
def am_cat (r : List Value) : Nat := (r.map fun v => v.category).sum
def am_nat (P : am_P) (RO : am_O) (mt : am_Meth) (i : Instr) (len pc : Nat) (st : List Value) (M : am_H) (sz sl : Nat) (K : am_K) : Prop := match i with
  | .invokespecial x => len = 3 ∧ am_nt P mt.2.2.2.2.2.2 x = 2 ∧ ∃ a r, st = Value.ref a :: r ∧ 1 ≤ mt.2.2.2.2.1 ∧ am_cat r + 12 ≤ mt.2.2.2.2.2.1 ∧ K (pc + 3) r M sz sl
  | .invokestatic x => len = 3 ∧ ((am_nt P mt.2.2.2.2.2.2 x = 1 ∧ ∃ n dp a sp a0 r n0 n1 f g, st = Value.int n :: Value.int dp :: Value.ref a :: Value.int sp :: Value.ref a0 :: r ∧ M a0 = some (.inl (0, n0, .inl f)) ∧ M a = some (.inl (0, n1, .inl g)) ∧ ¬ sp < 0 ∧ ¬ dp < 0 ∧ ¬ n < 0 ∧ sp.toNatClampNeg + n.toNatClampNeg ≤ n0 ∧ dp.toNatClampNeg + n.toNatClampNeg ≤ n1 ∧
      1 ≤ mt.2.2.2.2.1 ∧ am_cat r + (nativeFrameWords "java/lang/System" "arraycopy" 5 + 11) ≤ mt.2.2.2.2.2.1 ∧ K (pc + 3) r (am_set M a (.inl (0, n1, .inl (va_cpy f g sp.toNatClampNeg dp.toNatClampNeg n.toNatClampNeg)))) sz sl) ∨
      ∃ j vs r v, am_nt P mt.2.2.2.2.2.2 x = 10 + j ∧ st = vs ++ r ∧ am_mth j vs = some v ∧ 1 ≤ mt.2.2.2.2.1 ∧ am_cat r + 15 ≤ mt.2.2.2.2.2.1 ∧ K (pc + 3) (v :: r) M sz sl)
  | .invokevirtual x => len = 3 ∧ am_nt P mt.2.2.2.2.2.2 x = 3 ∧ ∃ a r n f, st = Value.ref a :: r ∧ M a = some (.inl (0, n, .inl f)) ∧ 1 ≤ mt.2.2.2.2.1 ∧ am_cat r + 14 ≤ mt.2.2.2.2.2.1 ∧ K (pc + 3) (Value.ref sz :: r) (am_set M sz (.inl (0, n, .inl f))) (sz + 1) (sl + n)
  | _ => False
def am_ret (mt : am_Meth) (i : Instr) (len : Nat) (st : List Value) (Q : Option Value → Prop) : Prop := match i with
  | .return_ => len = 1 ∧ st = [] ∧ mt.2.2.2.1 = none ∧ Q none
  | .ireturn => len = 1 ∧ ∃ v ty, st = [Value.int v] ∧ mt.2.2.2.1 = some ty ∧ narrow ty (.int v) = .int v ∧ Q (some (.int v))
  | .lreturn => len = 1 ∧ ∃ v, st = [Value.long v] ∧ mt.2.2.2.1 = some .long ∧ Q (some (.long v))
  | .areturn => len = 1 ∧ ∃ v ty, st = [v] ∧ mt.2.2.2.1 = some ty ∧ ((∃ n, ty = .object n) ∨ ∃ t, ty = .array t) ∧ (v = .null ∨ ∃ a, v = .ref a) ∧ Q (some v)
  | _ => False
/-- a call: which method, with which arguments (the receiver first), what stays on the stack -/
def am_call (P : am_P) (M : am_H) (own : Nat) (i : Instr) (st : List Value) (z : Nat) (vs r : List Value) : Prop := match i with
  | .invokestatic x => ∃ n, am_cs P own x = some (z, n) ∧ st = vs.reverse ++ r ∧ vs.length = n
  | .invokespecial x => ∃ n b As, am_ci P own x = some (z, n) ∧ vs = Value.ref b :: As ∧ st = As.reverse ++ Value.ref b :: r ∧ As.length = n
  | .invokevirtual x => ∃ n b As ci fs, M b = some (.inr (ci, fs)) ∧ am_cv P own x ci = some (z, n) ∧ vs = Value.ref b :: As ∧ st = As.reverse ++ Value.ref b :: r ∧ As.length = n
  | _ => False
abbrev am_Q : Type := Option Value → am_H → Nat → Nat → Prop
abbrev am_F : Type := Nat → am_L → List Value → am_H → Nat → Nat → Prop
abbrev am_C : Type := Nat → List Value → am_H → Nat → Nat → am_Q → Prop
def am_room (mt mz : am_Meth) : Prop := mz.2.2.2.2.1 + 1 ≤ mt.2.2.2.2.1 ∧ 8 + (mz.2.2.1 + 11) + mz.2.2.2.2.2.1 ≤ mt.2.2.2.2.2.1
def am_step (P : am_P) (RO : am_O) (mt : am_Meth) (i : Instr) (len pc : Nat) (lv : am_L) (st : List Value) (M : am_H) (sz sl : Nat) (K : am_F) (C : am_C) (Q : am_Q) : Prop :=
  (∃ v, am_push (am_cst P mt.2.2.2.2.2.2) i lv = some (len, v) ∧ K (pc + len) lv (v :: st) M sz sl) ∨
  (len = 1 ∧ ∃ st', am_op i st = some st' ∧ am_nz i st ∧ K (pc + 1) lv st' M sz sl) ∨
  (∃ l0 n lv' st', am_sto i lv st = some (l0, n, lv', st') ∧ n ≤ mt.2.2.1 ∧ (len = l0 ∨ (l0 = 3 ∧ len = 6)) ∧ K (pc + len) lv' st' M sz sl) ∨
  am_br i len pc st (fun t r => K t lv r M sz sl) ∨
  am_hp P RO mt.2.2.2.2.2.2 (mt.1.name == "<init>") i len pc st M sz sl (fun t r M' z' l' => K t lv r M' z' l') ∨
  am_ret mt i len st (fun v => Q v M sz sl) ∨
  (len = 3 ∧ ∃ z vs r mz, am_call P M mt.2.2.2.2.2.2 i st z vs r ∧ am_meth P z = some mz ∧ am_room mt mz ∧ (lg_sl vs).length ≤ mz.2.2.1 ∧ am_cat r ≤ 8 ∧ C z vs M sz sl (fun v M' z' l' => K (pc + 3) lv (v.toList ++ r) M' z' l')) ∨
  am_nat P RO mt i len pc st M sz sl (fun t r M' z' l' => K t lv r M' z' l')
def am_W (P : am_P) (RO : am_O) : Nat → Nat → Nat → am_L → List Value → am_H → Nat → Nat → am_Q → Prop
  | 0, _, _, _, _, _, _, _, _ => False
  | k + 1, y, pc, lv, st, M, sz, sl, Q => ∃ mt, am_meth P y = some mt ∧ ∃ i len, decode mt.2.1 pc = .ok (i, len) ∧
      am_step P RO mt i len pc lv st M sz sl (fun pc' lv' st' M' z' l' => am_W P RO k y pc' lv' st' M' z' l' Q) (fun z vs M' z' l' Q' => am_W P RO k z 0 (lv_args 0 vs) [] M' z' l' Q') Q
theorem am_br_c {i : Instr} {len pc : Nat} {st : List Value} {K : Nat → List Value → Prop} (h : am_br i len pc st K) : ∃ t r, K t r ∧ ∀ K' : Nat → List Value → Prop, K' t r → am_br i len pc st K' := by
  cases i with
  | goto off =>
    obtain ⟨h0, t, ht, h1⟩ := h
    exact ⟨t, st, h1, fun K' k => ⟨h0, t, ht, k⟩⟩
  | ifCond cd off =>
    obtain ⟨h0, x, r, hs, t, ht, h1, h2⟩ := h
    by_cases q : am_c0 cd x
    · exact ⟨t, r, h1 q, fun K' k => ⟨h0, x, r, hs, t, ht, fun _ => k, fun n => absurd q n⟩⟩
    · exact ⟨pc + 3, r, h2 q, fun K' k => ⟨h0, x, r, hs, t, ht, fun n => absurd n q, fun _ => k⟩⟩
  | if_icmp cd off =>
    obtain ⟨h0, y, x, r, hs, t, ht, h1, h2⟩ := h
    by_cases q : am_c2 cd x y
    · exact ⟨t, r, h1 q, fun K' k => ⟨h0, y, x, r, hs, t, ht, fun _ => k, fun n => absurd q n⟩⟩
    · exact ⟨pc + 3, r, h2 q, fun K' k => ⟨h0, y, x, r, hs, t, ht, fun n => absurd n q, fun _ => k⟩⟩
  | ifnull off =>
    obtain ⟨h0, ⟨x, r, hs, h1⟩ | ⟨r, hs, t, ht, h1⟩⟩ := h
    · exact ⟨pc + 3, r, h1, fun K' k => ⟨h0, Or.inl ⟨x, r, hs, k⟩⟩⟩
    · exact ⟨t, r, h1, fun K' k => ⟨h0, Or.inr ⟨r, hs, t, ht, k⟩⟩⟩
  | ifnonnull off =>
    obtain ⟨h0, ⟨x, r, hs, t, ht, h1⟩ | ⟨r, hs, h1⟩⟩ := h
    · exact ⟨t, r, h1, fun K' k => ⟨h0, Or.inl ⟨x, r, hs, t, ht, k⟩⟩⟩
    · exact ⟨pc + 3, r, h1, fun K' k => ⟨h0, Or.inr ⟨r, hs, k⟩⟩⟩
  | tableswitch dflt lo hi offs =>
    obtain ⟨x, r, hs, h1, h2⟩ := h
    by_cases hq : x.toInt < lo ∨ hi < x.toInt
    · obtain ⟨t, ht, h3⟩ := h1 hq
      exact ⟨t, r, h3, fun K' k => ⟨x, r, hs, fun _ => ⟨t, ht, k⟩, fun n1 n2 => absurd hq (fun z => z.elim n1 n2)⟩⟩
    · obtain ⟨off, ho, t, ht, h3⟩ := h2 (fun z => hq (Or.inl z)) (fun z => hq (Or.inr z))
      exact ⟨t, r, h3, fun K' k => ⟨x, r, hs, fun n => absurd n hq, fun _ _ => ⟨off, ho, t, ht, k⟩⟩⟩
  | lookupswitch dflt ps =>
    obtain ⟨x, r, hs, h1, t, ht, h3⟩ := h
    exact ⟨t, r, h3, fun K' k => ⟨x, r, hs, h1, t, ht, k⟩⟩
  | _ => exact False.elim h
theorem am_hp_c {P : am_P} {RO : am_O} {own : Nat} {ini : Bool} {i : Instr} {len pc : Nat} {st : List Value} {M : am_H} {sz sl : Nat} {K : am_K} (h : am_hp P RO own ini i len pc st M sz sl K) :
    ∃ t r M' z' l', K t r M' z' l' ∧ sz ≤ z' ∧ sl ≤ l' ∧ ∀ K' : am_K, K' t r M' z' l' → am_hp P RO own ini i len pc st M sz sl K' := by
  cases i with
  | getfield x =>
    obtain ⟨h0, a, r, ci, fs, k, v, h1, h2, h3, h4, h5⟩ := h
    exact ⟨_, _, _, _, _, h5, Nat.le_refl _, Nat.le_refl _, fun K' q => ⟨h0, a, r, ci, fs, k, v, h1, h2, h3, h4, q⟩⟩
  | putfield x =>
    obtain ⟨h0, v, a, r, ci, fs, k, h1, h2, h3, h4, h5, h6, h7, h8⟩ := h
    exact ⟨_, _, _, _, _, h8, Nat.le_refl _, Nat.le_refl _, fun K' q => ⟨h0, v, a, r, ci, fs, k, h1, h2, h3, h4, h5, h6, h7, q⟩⟩
  | getstatic x =>
    obtain ⟨h0, a, h1, h2⟩ := h
    exact ⟨_, _, _, _, _, h2, Nat.le_refl _, Nat.le_refl _, fun K' q => ⟨h0, a, h1, q⟩⟩
  | new x =>
    obtain ⟨h0, ci, h1, h2⟩ := h
    exact ⟨_, _, _, _, _, h2, Nat.le_succ _, Nat.le_add_right _ _, fun K' q => ⟨h0, ci, h1, q⟩⟩
  | newarray ty =>
    obtain ⟨h0, n, r, t, x, h1, h2, h3, h4, h5⟩ := h
    exact ⟨_, _, _, _, _, h5, Nat.le_succ _, Nat.le_add_right _ _, fun K' q => ⟨h0, n, r, t, x, h1, h2, h3, h4, q⟩⟩
  | anewarray x =>
    obtain ⟨h0, n, r, t, h1, h2, h3, h4, h5⟩ := h
    exact ⟨_, _, _, _, _, h5, Nat.le_succ _, Nat.le_add_right _ _, fun K' q => ⟨h0, n, r, t, h1, h2, h3, h4, q⟩⟩
  | arraylength =>
    obtain ⟨h0, a, r, t, x, h1, h2, h3⟩ := h
    exact ⟨_, _, _, _, _, h3, Nat.le_refl _, Nat.le_refl _, fun K' q => ⟨h0, a, r, t, x, h1, h2, q⟩⟩
  | multianewarray x d =>
    obtain ⟨h0, hd, kn, n, r, t, h1, h2, h3, h4, h5, h6, h7⟩ := h
    exact ⟨_, _, _, _, _, h7, by omega, by omega, fun K' q => ⟨h0, hd, kn, n, r, t, h1, h2, h3, h4, h5, h6, q⟩⟩
  | iaload =>
    obtain ⟨h0, j, a, r, n, f, h1, h2, h3, h4⟩ := h
    exact ⟨_, _, _, _, _, h4, Nat.le_refl _, Nat.le_refl _, fun K' q => ⟨h0, j, a, r, n, f, h1, h2, h3, q⟩⟩
  | baload =>
    obtain ⟨h0, j, a, r, n, f, h1, h2, h3, h4⟩ := h
    exact ⟨_, _, _, _, _, h4, Nat.le_refl _, Nat.le_refl _, fun K' q => ⟨h0, j, a, r, n, f, h1, h2, h3, q⟩⟩
  | laload =>
    obtain ⟨h0, j, a, r, n, f, h1, h2, h3, h4⟩ := h
    exact ⟨_, _, _, _, _, h4, Nat.le_refl _, Nat.le_refl _, fun K' q => ⟨h0, j, a, r, n, f, h1, h2, h3, q⟩⟩
  | aaload =>
    obtain ⟨h0, j, a, r, n, t, f, ty, h1, h2, h3, h4, h5, h6⟩ := h
    exact ⟨_, _, _, _, _, h6, Nat.le_refl _, Nat.le_refl _, fun K' q => ⟨h0, j, a, r, n, t, f, ty, h1, h2, h3, h4, h5, q⟩⟩
  | iastore =>
    obtain ⟨h0, x, j, a, r, n, f, h1, h2, h3, h4⟩ := h
    exact ⟨_, _, _, _, _, h4, Nat.le_refl _, Nat.le_refl _, fun K' q => ⟨h0, x, j, a, r, n, f, h1, h2, h3, q⟩⟩
  | bastore =>
    obtain ⟨h0, x, j, a, r, n, f, h1, h2, h3, h4⟩ := h
    exact ⟨_, _, _, _, _, h4, Nat.le_refl _, Nat.le_refl _, fun K' q => ⟨h0, x, j, a, r, n, f, h1, h2, h3, q⟩⟩
  | lastore =>
    obtain ⟨h0, x, j, a, r, n, f, h1, h2, h3, h4⟩ := h
    exact ⟨_, _, _, _, _, h4, Nat.le_refl _, Nat.le_refl _, fun K' q => ⟨h0, x, j, a, r, n, f, h1, h2, h3, q⟩⟩
  | aastore =>
    obtain ⟨h0, ⟨v, j, a, r, n, t, f, ci, vs, h1, h2, h3, h4, h5, h6⟩ | ⟨v, j, a, r, n, t, f, t2, x, h1, h2, h3, h4, h5, h6⟩ | ⟨j, a, r, n, t, f, E, h1, h2, h3, h4, h5⟩⟩ := h
    · exact ⟨_, _, _, _, _, h6, Nat.le_refl _, Nat.le_refl _, fun K' q => ⟨h0, Or.inl ⟨v, j, a, r, n, t, f, ci, vs, h1, h2, h3, h4, h5, q⟩⟩⟩
    · exact ⟨_, _, _, _, _, h6, Nat.le_refl _, Nat.le_refl _, fun K' q => ⟨h0, Or.inr (Or.inl ⟨v, j, a, r, n, t, f, t2, x, h1, h2, h3, h4, h5, q⟩)⟩⟩
    · exact ⟨_, _, _, _, _, h5, Nat.le_refl _, Nat.le_refl _, fun K' q => ⟨h0, Or.inr (Or.inr ⟨j, a, r, n, t, f, E, h1, h2, h3, h4, q⟩)⟩⟩
  | checkcast x =>
    obtain ⟨h0, hn, a, r, y, h1, h2, h3⟩ := h
    exact ⟨_, _, _, _, _, h3, Nat.le_refl _, Nat.le_refl _, fun K' q => ⟨h0, hn, a, r, y, h1, h2, q⟩⟩
  | _ => exact False.elim h
theorem am_nat_c {P : am_P} {RO : am_O} {mt : am_Meth} {i : Instr} {len pc : Nat} {st : List Value} {M : am_H} {sz sl : Nat} {K : am_K} (h : am_nat P RO mt i len pc st M sz sl K) :
    ∃ t r M' z' l', K t r M' z' l' ∧ sz ≤ z' ∧ sl ≤ l' ∧ ∀ K' : am_K, K' t r M' z' l' → am_nat P RO mt i len pc st M sz sl K' := by
  cases i with
  | invokespecial x =>
    obtain ⟨h0, hn, a, r, h1, h2, h3, h4⟩ := h
    exact ⟨_, _, _, _, _, h4, Nat.le_refl _, Nat.le_refl _, fun K' q => ⟨h0, hn, a, r, h1, h2, h3, q⟩⟩
  | invokestatic x =>
    obtain ⟨h0, ⟨hn, n, dp, a, sp, a0, r, n0, n1, f, g, h1, h2, h3, h4, h5, h6, h7, h8, h9, h10, h11⟩ | ⟨j, vs, r, v, h1, h2, h3, h4, h5, h6⟩⟩ := h
    · exact ⟨_, _, _, _, _, h11, Nat.le_refl _, Nat.le_refl _, fun K' q => ⟨h0, Or.inl ⟨hn, n, dp, a, sp, a0, r, n0, n1, f, g, h1, h2, h3, h4, h5, h6, h7, h8, h9, h10, q⟩⟩⟩
    · exact ⟨_, _, _, _, _, h6, Nat.le_refl _, Nat.le_refl _, fun K' q => ⟨h0, Or.inr ⟨j, vs, r, v, h1, h2, h3, h4, h5, q⟩⟩⟩
  | invokevirtual x =>
    obtain ⟨h0, hn, a, r, n, f, h1, h2, h3, h4, h5⟩ := h
    exact ⟨_, _, _, _, _, h5, Nat.le_succ _, Nat.le_add_right _ _, fun K' q => ⟨h0, hn, a, r, n, f, h1, h2, h3, h4, q⟩⟩
  | _ => exact False.elim h
theorem am_ret_c {mt : am_Meth} {i : Instr} {len : Nat} {st : List Value} {Q : Option Value → Prop} (h : am_ret mt i len st Q) : ∃ v, Q v ∧ ∀ Q' : Option Value → Prop, Q' v → am_ret mt i len st Q' := by
  cases i with
  | return_ =>
    obtain ⟨h0, h1, h2, h3⟩ := h
    exact ⟨_, h3, fun Q' q => ⟨h0, h1, h2, q⟩⟩
  | ireturn =>
    obtain ⟨h0, v, ty, h1, h2, h3, h4⟩ := h
    exact ⟨_, h4, fun Q' q => ⟨h0, v, ty, h1, h2, h3, q⟩⟩
  | lreturn =>
    obtain ⟨h0, v, h1, h2, h3⟩ := h
    exact ⟨_, h3, fun Q' q => ⟨h0, v, h1, h2, q⟩⟩
  | areturn =>
    obtain ⟨h0, v, ty, h1, h2, h3, h4, h5⟩ := h
    exact ⟨_, h5, fun Q' q => ⟨h0, v, ty, h1, h2, h3, h4, q⟩⟩
  | _ => exact False.elim h
/-- what a step comes to: the same frame's next, a call, or the end -/
theorem am_step_c {P : am_P} {RO : am_O} {mt : am_Meth} {i : Instr} {len pc : Nat} {lv : am_L} {st : List Value} {M : am_H} {sz sl : Nat} {K : am_F} {C : am_C} {Q : am_Q} (h : am_step P RO mt i len pc lv st M sz sl K C Q) :
    (∃ pc' lv' st' M' z' l', K pc' lv' st' M' z' l' ∧ sz ≤ z' ∧ sl ≤ l' ∧ ∀ (K' : am_F) (C' : am_C) (Q' : am_Q), K' pc' lv' st' M' z' l' → am_step P RO mt i len pc lv st M sz sl K' C' Q') ∨
    (∃ z vs r, C z vs M sz sl (fun v M' z' l' => K (pc + 3) lv (v.toList ++ r) M' z' l') ∧ ∀ (K' : am_F) (C' : am_C) (Q' : am_Q), C' z vs M sz sl (fun v M' z' l' => K' (pc + 3) lv (v.toList ++ r) M' z' l') → am_step P RO mt i len pc lv st M sz sl K' C' Q') ∨
    (∃ v, Q v M sz sl ∧ ∀ (K' : am_F) (C' : am_C) (Q' : am_Q), Q' v M sz sl → am_step P RO mt i len pc lv st M sz sl K' C' Q') := by
  rcases h with ⟨v, h1, h2⟩ | ⟨h0, st', h1, h2, h3⟩ | ⟨l0, n, lv', st', h1, h2, h3, h4⟩ | h | h | h | ⟨h0, z, vs, r, mz, h1, h2, h3, h4, h5, h6⟩ | h
  · exact Or.inl ⟨_, _, _, _, _, _, h2, Nat.le_refl _, Nat.le_refl _, fun K' C' Q' q => Or.inl ⟨v, h1, q⟩⟩
  · exact Or.inl ⟨_, _, _, _, _, _, h3, Nat.le_refl _, Nat.le_refl _, fun K' C' Q' q => Or.inr (Or.inl ⟨h0, st', h1, h2, q⟩)⟩
  · exact Or.inl ⟨_, _, _, _, _, _, h4, Nat.le_refl _, Nat.le_refl _, fun K' C' Q' q => Or.inr (Or.inr (Or.inl ⟨l0, n, lv', st', h1, h2, h3, q⟩))⟩
  · obtain ⟨t, r, h1, h2⟩ := am_br_c h
    exact Or.inl ⟨_, _, _, _, _, _, h1, Nat.le_refl _, Nat.le_refl _, fun K' C' Q' q => Or.inr (Or.inr (Or.inr (Or.inl (h2 _ q))))⟩
  · obtain ⟨t, r, M', z', l', h1, h2, h3, h4⟩ := am_hp_c h
    exact Or.inl ⟨_, _, _, _, _, _, h1, h2, h3, fun K' C' Q' q => Or.inr (Or.inr (Or.inr (Or.inr (Or.inl (h4 _ q)))))⟩
  · obtain ⟨v, h1, h2⟩ := am_ret_c h
    exact Or.inr (Or.inr ⟨v, h1, fun K' C' Q' q => Or.inr (Or.inr (Or.inr (Or.inr (Or.inr (Or.inl (h2 _ q))))))⟩)
  · exact Or.inr (Or.inl ⟨z, vs, r, h6, fun K' C' Q' q => Or.inr (Or.inr (Or.inr (Or.inr (Or.inr (Or.inr (Or.inl ⟨h0, z, vs, r, mz, h1, h2, h3, h4, h5, q⟩))))))⟩)
  · obtain ⟨t, r, M', z', l', h1, h2, h3, h4⟩ := am_nat_c h
    exact Or.inl ⟨_, _, _, _, _, _, h1, h2, h3, fun K' C' Q' q => Or.inr (Or.inr (Or.inr (Or.inr (Or.inr (Or.inr (Or.inr (h4 _ q)))))))⟩
theorem am_mono {P : am_P} {RO : am_O} : ∀ (k y pc : Nat) (lv : am_L) (st : List Value) (M : am_H) (sz sl : Nat) (Q Q' : am_Q), (∀ v M' z' l', Q v M' z' l' → Q' v M' z' l') → am_W P RO k y pc lv st M sz sl Q → am_W P RO k y pc lv st M sz sl Q'
  | 0, _, _, _, _, _, _, _, _, _, _, h => h
  | k + 1, y, pc, lv, st, M, sz, sl, Q, Q', hq, h => by
    obtain ⟨mt, h1, i, len, h2, h3⟩ := h
    refine ⟨mt, h1, i, len, h2, ?_⟩
    rcases am_step_c h3 with ⟨pc', lv', st', M', z', l', a1, -, -, a2⟩ | ⟨z, vs, r, a1, a2⟩ | ⟨v, a1, a2⟩
    · exact a2 _ _ _ (am_mono k _ _ _ _ _ _ _ _ _ hq a1)
    · exact a2 _ _ _ (am_mono k _ _ _ _ _ _ _ _ _ (fun v M' z' l' q => am_mono k _ _ _ _ _ _ _ _ _ hq q) a1)
    · exact a2 _ _ _ (hq _ _ _ _ a1)
def am_eq (v : Option Value) (M : am_H) (z l : Nat) : am_Q := fun v1 M1 z1 l1 => v1 = v ∧ M1 = M ∧ z1 = z ∧ l1 = l
/-- a run has one end -/
theorem am_det {P : am_P} {RO : am_O} : ∀ (k y pc : Nat) (lv : am_L) (st : List Value) (M : am_H) (sz sl : Nat) (Q : am_Q), am_W P RO k y pc lv st M sz sl Q → ∃ v M' z' l', am_W P RO k y pc lv st M sz sl (am_eq v M' z' l') ∧ Q v M' z' l' ∧ sz ≤ z' ∧ sl ≤ l'
  | 0, _, _, _, _, _, _, _, _, h => False.elim h
  | k + 1, y, pc, lv, st, M, sz, sl, Q, h => by
    obtain ⟨mt, h1, i, len, h2, h3⟩ := h
    rcases am_step_c h3 with ⟨pc', lv', st', M', z', l', a1, a3, a4, a2⟩ | ⟨z, vs, r, a1, a2⟩ | ⟨v, a1, a2⟩
    · obtain ⟨v, M1, z1, l1, b1, b2, b3, b4⟩ := am_det k _ _ _ _ _ _ _ _ a1
      exact ⟨v, M1, z1, l1, ⟨mt, h1, i, len, h2, a2 _ _ _ b1⟩, b2, Nat.le_trans a3 b3, Nat.le_trans a4 b4⟩
    · obtain ⟨v, M1, z1, l1, b1, b2, b3, b4⟩ := am_det k _ _ _ _ _ _ _ _ a1
      obtain ⟨w, M2, z2, l2, c1, c2, c3, c4⟩ := am_det k _ _ _ _ _ _ _ _ b2
      refine ⟨w, M2, z2, l2, ⟨mt, h1, i, len, h2, a2 _ _ _ (am_mono k _ _ _ _ _ _ _ _ _ (fun v' M' z' l' q => ?_) b1)⟩, c2, Nat.le_trans b3 c3, Nat.le_trans b4 c4⟩
      obtain ⟨rfl, rfl, rfl, rfl⟩ := q
      exact c1
    · exact ⟨v, M, sz, sl, ⟨mt, h1, i, len, h2, a2 _ _ _ ⟨rfl, rfl, rfl, rfl⟩⟩, a1, Nat.le_refl _, Nat.le_refl _⟩
theorem am_more {P : am_P} {RO : am_O} : ∀ (k y pc : Nat) (lv : am_L) (st : List Value) (M : am_H) (sz sl : Nat) (Q : am_Q), am_W P RO k y pc lv st M sz sl Q → am_W P RO (k + 1) y pc lv st M sz sl Q
  | 0, _, _, _, _, _, _, _, _, h => False.elim h
  | k + 1, y, pc, lv, st, M, sz, sl, Q, h => by
    obtain ⟨mt, h1, i, len, h2, h3⟩ := h
    refine ⟨mt, h1, i, len, h2, ?_⟩
    rcases am_step_c h3 with ⟨pc', lv', st', M', z', l', a1, -, -, a2⟩ | ⟨z, vs, r, a1, a2⟩ | ⟨v, a1, a2⟩
    · exact a2 _ _ _ (am_more k _ _ _ _ _ _ _ _ a1)
    · exact a2 _ _ _ (am_more k _ _ _ _ _ _ _ _ (am_mono k _ _ _ _ _ _ _ _ _ (fun v M' z' l' q => am_more k _ _ _ _ _ _ _ _ q) a1))
    · exact a2 _ _ _ a1
theorem am_le {P : am_P} {RO : am_O} {k k' y pc : Nat} {lv : am_L} {st : List Value} {M : am_H} {sz sl : Nat} {Q : am_Q} (hk : k ≤ k') (h : am_W P RO k y pc lv st M sz sl Q) : am_W P RO k' y pc lv st M sz sl Q := by
  induction hk with
  | refl => exact h
  | step _ ih => exact am_more _ _ _ _ _ _ _ _ _ ih
end
section
/-! AM: new long[..][..] (over the library's law of two dimensions) -/
theorem am_outer (c : ClassId) (N h0 : Nat) : ∀ i : Nat, Jvm.Free.Multi.outerC c N h0 i = arrV c N (fun j => va_rf (if j < i then some (h0 + 1 + j) else none))
  | 0 => by
    show ({ cls := c, slots := Array.replicate N .null, vm := .none } : Cell) = _
    rw [arrV_new]
    refine congrArg (arrV c N) (funext fun j => ?_)
    simp [va_rf]
  | i + 1 => by
    show (Jvm.Free.Multi.outerC c N h0 i).setSlot i (.ref (h0 + 1 + i)) = _
    rw [am_outer c N h0 i, arrV_store]
    refine congrArg (arrV c N) (funext fun j => ?_)
    by_cases e : j = i
    · subst e
      simp [updV, va_rf]
    · by_cases h : j < i
      · simp [updV, e, h, Nat.lt_succ_of_lt h]
      · simp [updV, e, h, show ¬ j < i + 1 by omega]
theorem am_R.mna {D : va_G} {cl : List vw_C} {A : Nat → Prop} {ca : Nat → ClassId} {M : am_H} {H H1 : Heap} (h : am_R D cl A ca M H) {t sz N K : Nat} (hsz : H.size = sz) (hA : ∀ q, sz ≤ q → A q) (e1 : va_at D cl (sz, .inl (ca t, N, .inr (.inr (.inr (.inr (fun i => if i < N then some (sz + 1 + i) else none)))))) H1) (e2 : ∀ j, j < N → va_at D cl (sz + 1 + j, .inl (ca 1, K, .inr (.inl (fun _ => 0)))) H1) (oq : ∀ q : Nat, q < sz → H1[q]? = H[q]?) : am_R D cl A ca (am_mna t M sz N K) H1 := by
  intro b x hx
  unfold am_mna at hx
  by_cases h1 : b = sz
  · rw [if_pos h1] at hx
    cases hx
    subst h1
    exact ⟨e1, hA _ (Nat.le_refl _)⟩
  · rw [if_neg h1] at hx
    by_cases h2 : sz < b ∧ b < sz + 1 + N
    · rw [if_pos h2] at hx
      cases hx
      have h3 := e2 (b - sz - 1) (by omega)
      rw [show sz + 1 + (b - sz - 1) = b by omega] at h3
      exact ⟨h3, hA _ (by omega)⟩
    · rw [if_neg h2] at hx
      have h3 := h.lt hx
      exact ⟨(h b x hx).1.kept (oq b (by omega)), (h b x hx).2⟩
section AMM
variable {p : Program} {l : Launch} {e : Env} {R : Room} {s : State} {m : MethodId} {args : Array Value} {below : List Frame} {meth : Method} {c : Code} {H : Heap} {locs : List Loc} {cells slots : Nat} {Q : State → Prop}
variable {cc : ByteArray} {pc : Nat} {ls : Array Slot} {rest : List Value} {D : va_G} {cl : List vw_C} {A : Nat → Prop} {a : Nat} {H0 : Heap} {ca : Nat → ClassId} {kd : List FieldType} {M : am_H} {Ts Nw : List Cond}
theorem am_mna_W (hx : p.tables.exec = Jvm.exec) (hb : c.code = cc) (hts : ∀ w ∈ Ts, w.before args s = true) (hnw : ∀ w ∈ Nw, va_Nw w s) {own : String} (hown : s.vm.findClass own = some m.cls) (hK : va_K D cl (am_tys kd ca) s) {index t N K : Nat} (ht : kd[t]? = some (.array .long)) (h1 : kd[1]? = some .long) (hover : Cond.arrayOver (.array .long) ∈ Nw) (harr : Cond.arrayClass .long ∈ Ts) (hlink : Cond.classLink own index ("[" ++ (FieldType.array .long).toString) ∈ Ts) {n k : Int32} (hn : ¬ n < 0) (hk : ¬ k < 0) (hN : n.toNatClampNeg = N) (hKn : k.toNatClampNeg = K) (hb1 : N * 4 ≤ 536870912) (hb2 : K * 8 ≤ 536870912) (hc : cells + (1 + N) ≤ R.cells) (hs : slots + (N + N * K) ≤ R.slots) (hd : decode cc pc = .ok (.multianewarray index 2, 4))
    (kk : ∀ (H1 : Heap), va_at D cl (H.size, .inl (ca t, N, .inr (.inr (.inr (.inr (fun i => if i < N then some (H.size + 1 + i) else none)))))) H1 → (∀ j, j < N → va_at D cl (H.size + 1 + j, .inl (ca 1, K, .inr (.inl (fun _ => 0)))) H1) → H1.size = H.size + 1 + N → (∀ q : Nat, q < H.size → H1[q]? = H[q]?) → W p l e R s m args below meth c H1 locs (cells + 1 + N) (slots + N + N * K) Q (F0 m (pc + 4) ls (.ref H.size :: rest))) : W p l e R s m args below meth c H locs cells slots Q (F0 m pc ls (.int k :: .int n :: rest)) := by
  subst hN
  subst hKn
  intro T hT Xs
  obtain ⟨vm₁, cA, comp, -, fA, fC, hO, -, X', step⟩ := Xs.multianewarray2F hx hown (hts _ hlink) (hnw _ hover) (hts _ harr) (g := F0 m pc ls (.int k :: .int n :: rest)) rfl (by rw [hb]; exact hd) rfl hn hk hb1 hb2 (by omega) rfl rfl hc hs
  have r1 : s.vm.findClass "[[J" = some (ca t) := (show ("[" ++ (FieldType.array .long).toString) = "[[J" from by decide +kernel) ▸ (hK.2 t _ (am_tys_at ht)).2
  have r2 : s.vm.findClass "[J" = some (ca 1) := (show ("[" ++ FieldType.long.toString) = "[J" from by decide +kernel) ▸ (hK.2 1 _ (am_tys_at h1)).2
  have ea : cA = ca t := by
    rw [show ("[" ++ (FieldType.array .long).toString) = "[[J" from by decide +kernel] at fA
    exact Option.some.inj (fA.symm.trans r1)
  have ec : comp = ca 1 := by
    rw [show (FieldType.array .long).toString = "[J" from by decide +kernel] at fC
    exact Option.some.inj (fC.symm.trans r2)
  subst ea
  subst ec
  generalize hF : Jvm.Free.Multi.fill (T.setVm vm₁) (ca t) (ca 1) n.toNatClampNeg k.toNatClampNeg (defaultValue .long) n.toNatClampNeg = F at X' step
  have hTh : (T.setVm vm₁).heap = H := hT
  obtain ⟨f1, f2, -, -⟩ := Jvm.Free.Multi.fill_facts (T.setVm vm₁) (ca t) (ca 1) n.toNatClampNeg k.toNatClampNeg (defaultValue .long) n.toNatClampNeg
  rw [hF, hTh] at f1 f2
  have hold : ∀ x : Nat, x < H.size → F.heap[x]? = H[x]? := fun x hx => by
    have := Jvm.Free.Multi.fill_old (T.setVm vm₁) (ca t) (ca 1) n.toNatClampNeg k.toNatClampNeg (defaultValue .long) (a := x) (by rw [hTh]; exact hx) n.toNatClampNeg
    rw [hF, hTh] at this
    exact this
  have hrow : ∀ j : Nat, j < n.toNatClampNeg → F.heap[H.size + 1 + j]? = some (vp_cell (ca 1) (k.toNatClampNeg, .inr (.inl (fun _ => 0)))) := fun j hj => by
    have := Jvm.Free.Multi.fill_inner (T.setVm vm₁) (ca t) (ca 1) n.toNatClampNeg k.toNatClampNeg (defaultValue .long) n.toNatClampNeg j hj
    rw [hF, hTh] at this
    refine this.trans ?_
    show some ({ cls := ca 1, slots := Array.replicate k.toNatClampNeg (defaultValue .long), vm := .none } : Cell) = some (arrV (ca 1) k.toNatClampNeg (fun _ => .long 0))
    rw [arrV_new]
    rfl
  have hout : F.heap[H.size]? = some (vp_cell (ca t) (n.toNatClampNeg, .inr (.inr (.inr (.inr (fun i => if i < n.toNatClampNeg then some (H.size + 1 + i) else none)))))) := by
    rw [f2, am_outer, vp_cell_q]
  obtain ⟨t', a1, b1⟩ := kk F.heap hout hrow (by rw [f1]) hold F rfl X'
  refine ⟨t', step t' ?_, b1⟩
  have e9 : T.heap.size = H.size := by rw [hT]
  rw [e9]
  exact a1
end AMM
end
section
/-! AM: a static method named by a subclass of its class */ -/
section AMX
variable {p : Program} {l : Launch} {e : Env} {R : Room} {s : State} {m : MethodId} {args : Array Value} {below : List Frame} {meth : Method} {c : Code} {H : Heap} {locs : List Loc} {cells slots : Nat}
theorem am_runSU {y : MethodName} {bytes cc : ByteArray} {maxL nL mc ms n index : Nat} {ret : Option FieldType} {ws : List Cond} {rm : Room} {Pc : Array Value → State → Prop} {Qc : Array Value → State → Outcome → State → Prop} {free : Addr → Prop} {Ts : List Cond} {own C : String} {As rest : List Value} {g : JFrame}
    (S : CallFix p m c cc nL s args Ts own) (hM : Met l y ws rm Pc Qc mc ms free)
    (cw : (rm.cells = mc ∧ rm.slots = ms ∧ rm.frames + 1 ≤ R.frames ∧ 8 + (maxL + 11) + rm.locals ≤ R.locals ∧ (∀ w ∈ ws, ∀ (a' : Array Value) (U : State), s.WarmedH U.vm → w.before a' U = true) ∧ Cond.code y bytes maxL ret ∈ ws) ∧ (Cond.code y bytes maxL ret).before args s = true ∧ (Cond.initialized y.cls).before args s = true ∧ (y.cls ≠ "java/lang/invoke/MethodHandle" ∧ y.cls ≠ "java/lang/invoke/VarHandle") ∧ (∀ sig, parseMethodDescriptor y.desc = some sig → n = sig.parameters.length))
    (hl : (Cond.methodLink own index ⟨C, y.name, y.desc⟩).before args s = true) (hsm : (Cond.sameMethod C y.cls y.name y.desc).before args s = true) (hstt : (Cond.static y).before args s = true) (hp : PreS s H Pc As)
    (hg : g.method = m) (hn : As.length = n) (hsize : g.locals.size = nL) (hstack : g.stack = As.reverse ++ rest) (hW : 2 * g.monitorRoom + (rest.map fun v => v.category).sum ≤ 8) (hdg : decode cc g.pc = .ok (.invokestatic index, 3)) (hf : cells + mc ≤ R.cells ∧ slots + ms ≤ R.slots) :
    va_Run p l e R s m args below meth c H locs cells slots mc ms g rest (Qc As.toArray) (free) := by
  obtain ⟨⟨hrc, hrs, hfr, hlo, hws, hcw⟩, hcode, hini, hy, hlen⟩ := cw
  have hK : Back l R p e below s args y 3 8 (PreOf R mc ms Pc) (PostOf Qc mc ms free) := back_of (bytes := bytes) (maxL := maxL) (ret := ret) hM hp.1 hrc hrs hfr hlo hws hcw (fun a' U hW => word_at hW (Or.inl (by first | rfl | simp [Cond.onTables, Cond.keeps, Cond.steady])) hini)
  obtain ⟨hx, hb, hml, ho, -⟩ := S
  intro T hT X
  obtain ⟨mk, hnamed⟩ := Cond.code_named hcode
  obtain ⟨methM, cM, hmethM, -, -, -, -, -, -, hsigM⟩ := Cond.code_spec hnamed hcode
  have hstatic : methM.isStatic = true := Cond.static_spec hnamed hmethM hstt
  obtain ⟨kP, hkP, -⟩ := className_of_methodNamed hnamed
  have hinitP : kP.init = .initialized := Cond.initialized_spec (findClass_of_methodNamed hnamed) hkP hini
  obtain ⟨vm₁, X₁, hstep₁⟩ := X.invokestaticUp hx (x := ⟨C, y.name, y.desc⟩) (owner := y.cls) ho hl hsm hy (hn := hnamed) hmethM hstatic hkP hinitP (g := g) hg (argsL := As) (rest := rest) (hn.trans (hlen _ hsigM)) hstack (by rw [hb]; exact hdg)
  obtain ⟨v, B, X', hpost, hsteps⟩ := hK m meth c ⟨T.setVm vm₁, locs, cells, slots⟩ { g with stack := rest } (.invokestatic index) mk As.toArray X₁ hg (hsize.trans hml.symm) (by rw [hb]; exact hdg) hW (X₁.named hnamed) ⟨hf.1, hf.2, hp.2 (T.setVm vm₁) hT X₁.warmed⟩
  obtain ⟨U', l2, c2, s2⟩ := B
  obtain ⟨g', mk', t, L, e1, e2, hq, h1, hL, h2, h3⟩ := hpost
  dsimp only [Pt.U, Pt.locs, Pt.cells, Pt.slots] at X' e1 e2 h1 h2 h3 hsteps
  subst h1; subst h2; subst h3
  exact ⟨v, (T.setVm vm₁).calling g' mk' As.toArray, t, U', L, hT, X', hL, e1, e2, hq, fun target h => hstep₁ _ fun acts => by rw [doInvoke_state]; exact hsteps.trans h⟩
end AMX
end
section
/-! AM: a hidden method of a kind of object that is not made itself, called on an object of a kind below it -/
theorem am_sel_priv {C : String} {y x2 y2 : MethodName} {s : State} {args : Array Value} (h2 : (Cond.selects C x2 y2).before args s = true) (hc : y2.cls = y.cls) (hy : y.cls ≠ "java/lang/invoke/MethodHandle" ∧ y.cls ≠ "java/lang/invoke/VarHandle")
    (hpriv : (Cond.privateMethod y).before args s = true) (hinst : (Cond.instanceMethod y).before args s = true) : (Cond.selects C y y).before args s = true := by
  obtain ⟨c, r, m2, hfc, -, hm2, -, k, hk, hni⟩ := Cond.selects_spec h2
  obtain ⟨mk, methM, hnamed, hmethM, -, -⟩ := Cond.instanceMethod_spec hinst
  have hfound : s.methodFound? y.cls y.name y.desc = some mk := State.methodFound?_of_named hnamed hy
  have hcls : mk.cls = m2.cls := by
    have h3 := findClass_of_methodNamed hm2
    have h4 := findClass_of_methodNamed hnamed
    rw [hc] at h3
    exact Option.some.inj (h4.symm.trans h3)
  have hsel : selectMethod {} s.vm c mk = .method mk := selectMethod_private hmethM (Cond.privateMethod_at hpriv mk methM hnamed hmethM)
  simp only [Cond.before, Cond.holds, Cond.value, hfc, hfound, hnamed, hsel, hcls, hk]
  simp; exact hni
/-- kind, method, a word that another method of its class is selected by -/
abbrev am_xE : Type := String × MethodName × MethodName × MethodName
def am_xW (q : am_xE) : Cond := .selects q.1 q.2.1 q.2.1
def am_xOk (Ts : List Cond) (q : am_xE) : Prop := Cond.selects q.1 q.2.2.1 q.2.2.2 ∈ Ts ∧ q.2.2.2.cls = q.2.1.cls ∧ (q.2.1.cls ≠ "java/lang/invoke/MethodHandle" ∧ q.2.1.cls ≠ "java/lang/invoke/VarHandle") ∧ Cond.privateMethod q.2.1 ∈ Ts ∧ Cond.instanceMethod q.2.1 ∈ Ts
theorem am_x_hts {Ts : List Cond} {X : List am_xE} (hX : ∀ q ∈ X, am_xOk Ts q) {args : Array Value} {s : State} (hts : ∀ w ∈ Ts, w.before args s = true) : ∀ w ∈ X.map am_xW, w.before args s = true := by
  intro w hw
  obtain ⟨q, hq, rfl⟩ := List.mem_map.mp hw
  obtain ⟨h1, h2, h3, h4, h5⟩ := hX q hq
  exact am_sel_priv (hts _ h1) h2 h3 (hts _ h4) (hts _ h5)
end
section
/-! AM's runs are the machine's: the world that a method finds, what the tables must say, the simulation */ -/
/-- words that are carried by the state, not by a method's list -/
def am_nwF (w : Cond) : Bool := match w with
  | .fieldLinkNest _ _ _ _ _ _ => true
  | .methodLinkNest _ _ _ _ => true
  | .declares _ => true
  | .castable _ _ => true
  | .arrayOver (.object _) => true
  | .arrayOver (.array _) => true
  | _ => false
theorem am_over_warm {t : FieldType} {s U : State} (hvm : s.vm.Alike U.vm) (h : va_Nw (.arrayOver (.array t)) s) : va_Nw (.arrayOver (.array t)) U := by
  obtain ⟨comp, c, k, h1, h2, h3, h4, h5⟩ := arrayOverA_spec h
  obtain ⟨k', hk', he⟩ := hvm.2.2 _ _ h3
  have hi : (U.vm.classes.findIdx? fun (x : Class) => match x.kind with | .array component _ => component == comp | _ => false) = some c := by
    rw [hvm.findIdx?_eq _ (fun _ => rfl)]
    exact h2
  have hkind : k'.kind = .array comp (.array t) := by rw [he]; exact h4
  have f1 : U.vm.findClass (FieldType.array t).toString = some comp := by rw [hvm.findClass]; exact h1
  have f2 : U.vm.findClass ("[" ++ (FieldType.array t).toString) = some c := by rw [hvm.findClass]; exact h5
  unfold va_Nw Cond.before Cond.holds
  simp only [Cond.value]
  rw [f1, Option.bind_some]
  refine (congrArg (fun o : Option Nat => (o.bind (fun c => (U.vm.classes[c]?).map fun (k : Class) => match k.kind with | .array _ ty => decide (ty = FieldType.array t) && decide (U.vm.findClass ("[" ++ (FieldType.array t).toString) = some c) | _ => false) == some true)) hi).trans ?_
  simp [hk', hkind, f2]
theorem am_nw_same {w : Cond} (h : am_nwF w = true) {u U : State} (hv : u.vm = U.vm) (hz : va_Nw w u) : va_Nw w U := by
  cases w with
  | fieldLinkNest a b c d e f => exact va_Nw.same rfl hv hz
  | methodLinkNest a b c d => exact va_Nw.same rfl hv hz
  | declares x => exact va_Nw.same rfl hv hz
  | castable a b => exact va_Nw.same rfl hv hz
  | arrayOver t =>
    cases t with
    | object C => exact va_AO.moved (hv ▸ Vm.Alike.refl _) hz
    | array t => exact am_over_warm (hv ▸ Vm.Alike.refl _) hz
    | _ => cases h
  | _ => cases h
theorem am_nw_warm {w : Cond} (h : am_nwF w = true) {s U : State} (hW : s.WarmedH U.vm) (hz : va_Nw w s) : va_Nw w U := by
  cases w with
  | fieldLinkNest a b c d e f => exact va_Nw.warmF hW hz
  | methodLinkNest a b c d => exact va_Nw.warmM hW hz
  | declares x => exact va_Nw.warmD hW hz
  | castable a b => exact va_Nw.warmC hW hz
  | arrayOver t =>
    cases t with
    | object C => exact va_AO.moved hW.alike hz
    | array t => exact am_over_warm hW.alike hz
    | _ => cases h
  | _ => cases h
section AMS
variable (P : am_P) (D : va_G) (cl : List vw_C) (A : Nat → Prop) (ca : Nat → ClassId) (RO : am_O) (Ts Nw : List Cond) (zs : List (String × String × String × Nat))
/-- the world's constant part -/
def am_Wo (U : State) (H : Heap) : Prop := va_K D cl (am_tys (am_kd P) ca) U ∧ (∀ w ∈ Nw, va_Nw w U) ∧ (∀ z ∈ zs, va_Z z.1 z.2.1 z.2.2.1 (.ref z.2.2.2) A U H) ∧ (∀ (a n : Nat) (f : Nat → Int32), RO a = some (n, f) → va_T .int a n (fun j => .int (f j)) A U H) ∧ (∀ t t2, am_asA P t t2 = true → ∃ ty, am_AA U (ca t) (ca t2) (.array ty)) ∧ ∀ q, H.size ≤ q → A q
def am_B (M : am_H) (sz : Nat) : State → Prop := fun U => U.heap.size = sz ∧ am_R D cl A ca M U.heap ∧ am_Wo P D cl A ca RO Nw zs U U.heap
def am_Qc (v : Option Value) (M : am_H) (sz : Nat) : Array Value → State → Outcome → State → Prop := fun _ st o t => o = .returned v ∧ t.heap.size = sz ∧ am_R D cl A ca M t.heap ∧ va_F A st t
def am_lk (own : String) (x : Nat) (y : MethodName) : Prop := Cond.methodLink own x y ∈ Ts ∨ ∃ host, Cond.methodLinkNest own x y host ∈ Nw
def am_ar (y : MethodName) (n : Nat) : Prop := (parseMethodDescriptor y.desc).map (fun d => d.parameters.length) = some n
/-- what the tables must say of the program -/
def am_G : Prop :=
  (∀ y mt, am_meth P y = some mt → plainName mt.1.cls = true ∧ am_on P mt.2.2.2.2.2.2 = mt.1.cls ∧ Cond.code mt.1 mt.2.1 mt.2.2.1 mt.2.2.2.1 ∈ Ts ∧ Cond.initialized mt.1.cls ∈ Ts ∧ (mt.1.cls ≠ "java/lang/invoke/MethodHandle" ∧ mt.1.cls ≠ "java/lang/invoke/VarHandle")) ∧
  (∀ o x ci k, am_fld P o x ci = some k → am_fOk Ts Nw cl (am_on P o) x ci k) ∧
  am_cOk Ts cl (am_tyf P) ∧
  (∀ o x ci k, am_fld P o x ci = some k → ∀ C T N, cl[ci]? = some (C, T, N) → (am_pk P o x ci = 1 → (T k).2.2.2 = false) ∧ (am_pk P o x ci = 2 → (T k).1 = am_on P o ∧ Cond.fieldLink (am_on P o) x (T k).1 (T k).2.1 (T k).2.2.1 ∈ Ts)) ∧
  (∀ o k v, am_cst P o k = some v → (∃ x : Int32, v = .int x ∧ Jvm.Cond.constant (am_on P o) k x ∈ Ts) ∨ ∃ x : Int64, v = .long x ∧ Jvm.Cond.constantLong (am_on P o) k x ∈ Ts) ∧
  (∀ o x ci, am_nw P o x = some ci → ∃ C T N, cl[ci]? = some (C, T, N) ∧ Cond.classLink (am_on P o) x C ∈ Ts) ∧
  (∀ ci C T N, cl[ci]? = some (C, T, N) → (am_df P ci).length = N ∧ ∀ j, j < N → defaultValue (am_tyf P ci j) = vp_V (am_df P ci) j) ∧
  (∀ o x t, am_an P o x = some t → (∃ C, (am_kd P)[t]? = some (.object C) ∧ Cond.arrayOver (.object C) ∈ Nw ∧ Cond.classLink (am_on P o) x C ∈ Ts) ∨ ∃ ty, (am_kd P)[t]? = some (.array ty) ∧ Cond.arrayOver (.array ty) ∈ Nw ∧ Cond.classLink (am_on P o) x (FieldType.array ty).toString ∈ Ts) ∧
  (∀ o x a, am_sa0 P o x = some a → am_stOk Ts zs (am_on P o) x a) ∧
  (∀ o x z n mz, am_cs P o x = some (z, n) → am_meth P z = some mz → Cond.static mz.1 ∈ Ts ∧ am_ar mz.1 n ∧ (am_lk Ts Nw (am_on P o) x mz.1 ∨ ∃ C, Cond.methodLink (am_on P o) x ⟨C, mz.1.name, mz.1.desc⟩ ∈ Ts ∧ Cond.sameMethod C mz.1.cls mz.1.name mz.1.desc ∈ Ts)) ∧
  (∀ o x z n mz, am_ci P o x = some (z, n) → am_meth P z = some mz → mz.1.name = "<init>" ∧ mz.2.2.2.1 = none ∧ Cond.instanceMethod mz.1 ∈ Ts ∧ am_ar mz.1 n ∧ am_lk Ts Nw (am_on P o) x mz.1) ∧
  (∀ o x ci z n mz, am_cv P o x ci = some (z, n) → am_meth P z = some mz → ∃ C T N, cl[ci]? = some (C, T, N) ∧ Cond.instanceMethod mz.1 ∈ Ts ∧
    ((am_ar mz.1 n ∧ am_lk Ts Nw (am_on P o) x mz.1 ∧ Cond.selects C mz.1 mz.1 ∈ Ts) ∨
     ∃ (xn : MethodName) (owner : String), am_ar xn n ∧ (owner ≠ "java/lang/invoke/MethodHandle" ∧ owner ≠ "java/lang/invoke/VarHandle") ∧ Cond.methodLink (am_on P o) x xn ∈ Ts ∧ Cond.sameMethod xn.cls owner xn.name xn.desc ∈ Ts ∧ Cond.selects C xn mz.1 ∈ Ts ∧ (Cond.declares ⟨owner, xn.name, xn.desc⟩ ∈ Nw ∨ (Cond.instanceMethod ⟨owner, xn.name, xn.desc⟩ ∈ Ts ∧ ∃ b m0 r0, Cond.code ⟨owner, xn.name, xn.desc⟩ b m0 r0 ∈ Ts)))) ∧
  (∀ o x, (am_nt P o x = 1 → am_acOk Ts (am_on P o) x) ∧ (am_nt P o x = 2 → Cond.methodLink (am_on P o) x Lib.objectInit ∈ Ts ∧ Cond.instanceMethod Lib.objectInit ∈ Ts ∧ Cond.code Lib.objectInit ⟨#[0xb1]⟩ 1 none ∈ Ts) ∧ (am_nt P o x = 3 → am_clOk Ts Nw (am_on P o) x) ∧ (am_nt P o x = 4 → Cond.classLink (am_on P o) x "[I" ∈ Ts) ∧ ∀ t, am_nt P o x = 100 + t → (am_kd P)[t]? = some (.array .long) ∧ Cond.arrayOver (.array .long) ∈ Nw ∧ Cond.classLink (am_on P o) x ("[" ++ (FieldType.array .long).toString) ∈ Ts) ∧
  (∀ o x j, am_nt P o x = 10 + j → am_mOk Ts (am_on P o) x j) ∧
  (∀ t ci, am_asg P t ci = true → ∃ E r, (am_kd P)[t]? = some (.object E) ∧ cl[ci]? = some r ∧ (r.1 = E ∨ Cond.castable r.1 E ∈ Nw)) ∧
  ((am_kd P)[0]? = some .int ∧ (am_kd P)[1]? = some .long ∧ (am_kd P)[2]? = some .boolean) ∧
  (Cond.arrayClass .int ∈ Ts ∧ Cond.arrayClass .long ∈ Ts ∧ Cond.arrayClass .boolean ∈ Ts) ∧
  (∀ w ∈ Ts, goodWord w = true) ∧ ∀ w ∈ Nw, am_nwF w = true
variable {P D cl A ca RO Ts Nw zs}
theorem am_Wo_warm (hf : ∀ w ∈ Nw, am_nwF w = true) {s U : State} {H H1 : Heap} (h : am_Wo P D cl A ca RO Nw zs s H) (hW : s.WarmedH U.vm) (hz : H.size ≤ H1.size) (hq : ∀ a : Nat, a < H.size → ¬ A a → H1[a]? = H[a]?) : am_Wo P D cl A ca RO Nw zs U H1 := by
  obtain ⟨h1, h2, h3, h4, h5, h6⟩ := h
  refine ⟨va_K.moved hW.alike h1, fun w hw => am_nw_warm (hf w hw) hW (h2 w hw), fun z hz => (va_Z.moved hW.alike (h3 z hz)).kept hq, fun a n f he => (va_T.moved hW.alike (h4 a n f he)).kept hq, fun t t2 ht => ?_, fun q hq => h6 q (Nat.le_trans hz hq)⟩
  · obtain ⟨ty, kA, kB, x, tb, k1, k2, k3, k4⟩ := h5 t t2 ht
    obtain ⟨kA', hA', eA⟩ := hW.alike.2.2 _ _ k1
    obtain ⟨kB', hB', eB⟩ := hW.alike.2.2 _ _ k3
    exact ⟨ty, kA', kB', x, tb, hA', by rw [eA]; exact k2, hB', by rw [eB]; exact k4⟩
theorem am_blind (hf : ∀ w ∈ Nw, am_nwF w = true) (vs : List Value) (M : am_H) (sz : Nat) : FrameBlind (va_Pc vs (am_B P D cl A ca RO Nw zs M sz)) := by
  intro a U g mk h
  obtain ⟨e1, e2, e3, h1, h2, h3, h4, h5, h6⟩ := h
  exact ⟨e1, e2, e3, va_K.moved (u := U) (U := U.calling g mk a) (Vm.Alike.refl U.vm) h1, fun w hw => am_nw_same (hf w hw) (u := U) (U := U.calling g mk a) rfl (h2 w hw), fun z hz => va_Z.moved (u := U) (U := U.calling g mk a) (Vm.Alike.refl U.vm) (h3 z hz), fun b n f hb => va_T.moved (u := U) (U := U.calling g mk a) (Vm.Alike.refl U.vm) (h4 b n f hb), h5, h6⟩
section AMSW
variable {p : Program} {l : Launch} {e : Env} {R : Room} {s : State} {m : MethodId} {args : Array Value} {below : List Frame} {meth : Method} {c : Code} {H : Heap} {locs : List Loc} {cells slots : Nat} {Q : State → Prop}
variable {pc : Nat} {ls : Array Slot} {rest st0 : List Value} {a : Array Value} {mc ms : Nat} {v : Option Value} {M1 : am_H} {z1 : Nat}
theorem am_call_W (hr : va_Run p l e R s m args below meth c H locs cells slots mc ms (F0 m pc ls st0) rest (am_Qc D cl A ca v M1 z1 a) A) (hS : va_S A s.heap H locs)
    (kk : ∀ (H1 : Heap) (locs1 : List Loc), H1.size = z1 → am_R D cl A ca M1 H1 → va_S A s.heap H1 locs1 → W p l e R s m args below meth c H1 locs1 (cells + mc) (slots + ms) Q (F0 m (pc + 3) ls (v.toList ++ rest))) : W p l e R s m args below meth c H locs cells slots Q (F0 m pc ls st0) := by
  intro T hT X
  obtain ⟨w, st₀, t, T', L, h0, X', hL, e1, e2, ⟨hv, hz1, hR1, hz, hk⟩, st⟩ := hr T hT X
  cases hv
  rw [h0] at hz hk
  obtain ⟨t2, a1, b1⟩ := kk T'.heap (locs ++ L) (by rw [e1]; exact hz1) (by rw [e1]; exact hR1)
    ⟨Nat.le_trans hS.1 (by rw [e1]; exact hz), fun q h1 h2 => by rw [e1, hk q (Nat.lt_of_lt_of_le h1 hS.1) h2]; exact hS.2.1 q h1 h2, fun q hq => by
      rcases List.mem_append.mp hq with h | h
      · exact hS.2.2 q h
      · exact hL q h⟩ T' rfl X'
  exact ⟨t2, st t2 a1, b1⟩
end AMSW
end AMS
end
section
/-! AM's runs are the machine's: the simulation */ -/
section AMT
variable {P : am_P} {D : va_G} {cl : List vw_C} {A : Nat → Prop} {ca : Nat → ClassId} {RO : am_O} {Ts Nw : List Cond} {zs : List (String × String × String × Nat)}
/-- what holds in a method's frame from its entry on -/
def am_Cx (P : am_P) (D : va_G) (cl : List vw_C) (A : Nat → Prop) (ca : Nat → ClassId) (RO : am_O) (Ts Nw : List Cond) (zs : List (String × String × String × Nat)) (mt : am_Meth) (p : Program) (s : State) (m : MethodId) (args : Array Value) (meth : Method) (c : Code) : Prop :=
  p.tables.exec = Jvm.exec ∧ c.code = mt.2.1 ∧ c.maxLocals = mt.2.2.1 ∧ s.vm.findClass mt.1.cls = some m.cls ∧ (∀ w ∈ Ts, w.before args s = true) ∧ meth.name = mt.1.name ∧ meth.sig.returnType = mt.2.2.2.1 ∧ meth.locks = false ∧ am_Wo P D cl A ca RO Nw zs s s.heap
def am_S (P : am_P) (D : va_G) (cl : List vw_C) (A : Nat → Prop) (ca : Nat → ClassId) (RO : am_O) (Ts Nw : List Cond) (zs : List (String × String × String × Nat)) (l : Launch) (k : Nat) : Prop :=
  ∀ (y pc : Nat) (lv : am_L) (st : List Value) (M : am_H) (sz sl : Nat) (v : Option Value) (M' : am_H) (sz' sl' : Nat), am_W P RO k y pc lv st M sz sl (am_eq v M' sz' sl') →
    ∀ (mt : am_Meth), am_meth P y = some mt → ∀ (p : Program) (e : Env) (R : Room) (s : State) (m : MethodId) (args : Array Value) (below : List Frame) (meth : Method) (c : Code) (H : Heap) (locs : List Loc) (ls : Array Slot) (cells slots mc ms : Nat),
      am_Cx P D cl A ca RO Ts Nw zs mt p s m args meth c → am_R D cl A ca M H → H.size = sz → va_S A s.heap H locs → lv_has ls mt.2.2.1 lv → cells + (sz' - sz) = mc → slots + (sl' - sl) = ms → mc ≤ R.cells → ms ≤ R.slots → mt.2.2.2.2.1 ≤ R.frames → mt.2.2.2.2.2.1 ≤ R.locals →
      W p l e R s m args below meth c H locs cells slots (MQ below (am_Qc D cl A ca v M' sz') args s mc ms A) (F0 m pc ls st)
theorem am_end {k y pc : Nat} {lv : am_L} {st : List Value} {M : am_H} {sz sl : Nat} {v : Option Value} {M' : am_H} {sz' sl' : Nat} (h : am_W P RO k y pc lv st M sz sl (am_eq v M' sz' sl')) : sz ≤ sz' ∧ sl ≤ sl' := by
  obtain ⟨v1, M1, z1, l1, -, h2, h3, h4⟩ := am_det _ _ _ _ _ _ _ _ _ h
  obtain ⟨-, -, rfl, rfl⟩ := h2
  exact ⟨h3, h4⟩
/-- the room of a method for a run -/
def am_rm (mt : am_Meth) (mc ms : Nat) : Room := { frames := mt.2.2.2.2.1, cells := mc, slots := ms, locals := mt.2.2.2.2.2.1 }
theorem am_met (G : am_G P cl Ts Nw zs) {l : Launch} {k : Nat} (hS : am_S P D cl A ca RO Ts Nw zs l k) {z : Nat} {mz : am_Meth} (hz : am_meth P z = some mz) {vs : List Value} (hlen : (lg_sl vs).length ≤ mz.2.2.1) {M : am_H} {sz sl : Nat} {v : Option Value} {M' : am_H} {sz' sl' : Nat} (h : am_W P RO k z 0 (lv_args 0 vs) [] M sz sl (am_eq v M' sz' sl')) :
    Met l mz.1 (Cond.code mz.1 mz.2.1 mz.2.2.1 mz.2.2.2.1 :: Ts) (am_rm mz (sz' - sz) (sl' - sl)) (va_Pc vs (am_B P D cl A ca RO Nw zs M sz)) (am_Qc D cl A ca v M' sz') (sz' - sz) (sl' - sl) A := by
  have hp := (G.1 z mz hz).1
  refine Met.ofW (cc := mz.2.1) (maxL := mz.2.2.1) (ret := mz.2.2.2.1) hp rfl ?_
  intro p e s m args below meth c s₁ B hml hv
  obtain ⟨rfl, hsz, hR, hWo⟩ := hv
  have hts := atoms_spec B.pre
  have hl := lv_entry vs hlen
  rw [lg_entry_eq]
  exact hS z 0 _ [] M sz sl v M' sz' sl' h mz hz p e _ s m _ below meth c s.heap [] _ 0 0 _ _ ⟨B.exec, B.bytes, hml, findClass_of_methodNamed B.named, fun w hw => hts w (List.mem_cons_of_mem _ hw), (name_of_methodNamed B.named B.method).1, B.returns, B.notSynchronized, hWo⟩ hR hsz va_S.rf hl (Nat.zero_add _) (Nat.zero_add _) (Nat.le_refl _) (Nat.le_refl _) (Nat.le_refl _) (Nat.le_refl _)
theorem am_good (G : am_G P cl Ts Nw zs) {z : Nat} {mz : am_Meth} (hz : am_meth P z = some mz) : GoodIn Ts (Cond.code mz.1 mz.2.1 mz.2.2.1 mz.2.2.2.1 :: Ts) := by
  obtain ⟨gM, -, -, -, -, -, -, -, -, -, -, -, -, -, -, -, -, gT, -⟩ := G
  intro w hw
  have hm : w ∈ Ts := (List.mem_cons.mp hw).elim (fun e => e ▸ (gM z mz hz).2.2.1) id
  exact ⟨hm, good_of_word (gT w hm)⟩
end AMT
end
section
/-! AM's runs are the machine's: calls, and the induction */ -/
section AMU
variable {P : am_P} {D : va_G} {cl : List vw_C} {A : Nat → Prop} {ca : Nat → ClassId} {RO : am_O} {Ts Nw : List Cond} {zs : List (String × String × String × Nat)}
theorem am_lv_len : ∀ {vs : List Value} {k : Nat}, (lv_args k vs).length = vs.length := by
  intro vs
  induction vs with
  | nil => intro k; rfl
  | cons a r ih => intro k; simp [lv_args, ih]
theorem am_pre (G : am_G P cl Ts Nw zs) {s : State} {H : Heap} {locs : List Loc} {M : am_H} (hWo : am_Wo P D cl A ca RO Nw zs s s.heap) (hR : am_R D cl A ca M H) (hS : va_S A s.heap H locs) (As : List Value) : PreS s H (va_Pc As (am_B P D cl A ca RO Nw zs M H.size)) As := by
  obtain ⟨-, -, -, -, -, -, -, -, -, -, -, -, -, -, -, -, -, -, gN⟩ := G
  refine ⟨am_blind gN As M H.size, fun U hU hW => ⟨rfl, by rw [hU], by rw [hU]; exact hR, ?_⟩⟩
  rw [hU]
  exact am_Wo_warm gN hWo hW hS.1 hS.2.1
theorem am_run (G : am_G P cl Ts Nw zs) {l : Launch} {k : Nat} (hSk : am_S P D cl A ca RO Ts Nw zs l k) {mt : am_Meth} {p : Program} {e : Env} {R : Room} {s : State} {m : MethodId} {args : Array Value} {below : List Frame} {meth : Method} {c : Code} {H : Heap} {locs : List Loc} {ls : Array Slot} {cells slots : Nat} {pc : Nat} {st : List Value} {M : am_H} {sl : Nat}
    (hC : am_Cx P D cl A ca RO Ts Nw zs mt p s m args meth c) (hR : am_R D cl A ca M H) (hS : va_S A s.heap H locs) (hsz : ls.size = mt.2.2.1) {i : Instr} (hd : decode mt.2.1 pc = .ok (i, 3)) {z : Nat} {vs r : List Value} {mz : am_Meth} (hy : am_on P mt.2.2.2.2.2.2 = mt.1.cls) (hcall : am_call P M mt.2.2.2.2.2.2 i st z vs r) (hz : am_meth P z = some mz) (hroom : am_room mt mz) (hlen : (lg_sl vs).length ≤ mz.2.2.1) (hcat : am_cat r ≤ 8) (hfr : mt.2.2.2.2.1 ≤ R.frames) (hlo : mt.2.2.2.2.2.1 ≤ R.locals)
    {v : Option Value} {M' : am_H} {sz' sl' : Nat} (h : am_W P RO k z 0 (lv_args 0 vs) [] M H.size sl (am_eq v M' sz' sl')) (hc1 : cells + (sz' - H.size) ≤ R.cells) (hc2 : slots + (sl' - sl) ≤ R.slots) :
    va_Run p l e R s m args below meth c H locs cells slots (sz' - H.size) (sl' - sl) (F0 m pc ls st) r (am_Qc D cl A ca v M' sz' vs.toArray) A := by
  have hM := am_met G hSk hz hlen h
  have hg := am_good G hz
  obtain ⟨hx, hb, hml, hown, hts, hnm, hret, hlocks, hWo⟩ := hC
  rw [← hy] at hown
  have S : CallFix p m c mt.2.1 ls.size s args Ts (am_on P mt.2.2.2.2.2.2) := ⟨hx, hb, hml.trans hsz.symm, hown, hts⟩
  have hnw := hWo.2.1
  have hRoom : (am_rm mz (sz' - H.size) (sl' - sl)).frames + 1 ≤ R.frames ∧ 8 + (mz.2.2.1 + 11) + (am_rm mz (sz' - H.size) (sl' - sl)).locals ≤ R.locals := ⟨Nat.le_trans hroom.1 hfr, Nat.le_trans hroom.2 hlo⟩
  obtain ⟨gM, -, -, -, -, -, -, -, -, gcs, gci, gcv, -⟩ := id G
  obtain ⟨-, -, -, hini, hmh⟩ := gM z mz hz
  have hW : 2 * (F0 m pc ls st).monitorRoom + (r.map fun v => v.category).sum ≤ 8 := lv_room hcat
  cases i with
  | invokestatic x =>
    obtain ⟨n, h1, rfl, hn⟩ := hcall
    obtain ⟨w1, w2, w3⟩ := gcs _ _ _ _ _ h1 hz
    rcases w3 with (w3 | ⟨host, w3⟩) | ⟨C, w3, w4⟩
    · exact va_runS S hM ⟨callB_of n hts hg rfl rfl rfl (hts _ hini) (hts _ w3) ⟨hmh.1, hmh.2, w2⟩ hRoom, hts _ w1⟩ (am_pre G hWo hR hS vs) rfl hn rfl rfl hW hd ⟨hc1, hc2⟩
    · exact va_runSN S hM ⟨va_cnB n hts hg rfl rfl rfl (hnw _ w3) (hts _ hini) ⟨hmh.1, hmh.2, w2⟩ hRoom, hts _ w1, trivial⟩ (am_pre G hWo hR hS vs) rfl hn rfl rfl hW hd ⟨hc1, hc2⟩
    · refine am_runSU S hM ⟨⟨rfl, rfl, hRoom.1, hRoom.2, pay_in hts hg, List.mem_cons_self⟩, hts _ (gM z mz hz).2.2.1, hts _ hini, hmh, fun sig hsig => ?_⟩ (hts _ w3) (hts _ w4) (hts _ w1) (am_pre G hWo hR hS vs) rfl hn rfl rfl hW hd ⟨hc1, hc2⟩
      have h2 := w2
      unfold am_ar at h2
      rw [hsig] at h2
      exact (Option.some.inj h2).symm
  | invokespecial x =>
    obtain ⟨n, b, As, h1, rfl, rfl, hn⟩ := hcall
    obtain ⟨w0, w5, w1, w2, w3⟩ := gci _ _ _ _ _ h1 hz
    obtain ⟨nm, bytes, maxL, ret, fr, lo, oz⟩ := mz
    dsimp only at w5
    subst w5
    rcases w3 with w3 | ⟨host, w3⟩
    · exact va_runI S hM ⟨callB_of n hts hg rfl rfl rfl (hts _ hini) (hts _ w3) ⟨hmh.1, hmh.2, w2⟩ hRoom, w0, hts _ w1⟩ (am_pre G hWo hR hS _) rfl hn rfl rfl hW hd ⟨hc1, hc2⟩
    · exact va_runIN S hM ⟨va_cnB n hts hg rfl rfl rfl (hnw _ w3) (hts _ hini) ⟨hmh.1, hmh.2, w2⟩ hRoom, w0, hts _ w1⟩ (am_pre G hWo hR hS _) rfl hn rfl rfl hW hd ⟨hc1, hc2⟩
  | invokevirtual x =>
    obtain ⟨n, b, As, ci, fs, hb0, h1, rfl, rfl, hn⟩ := hcall
    obtain ⟨C, T, N, hci, w1, w⟩ := gcv _ _ _ _ _ _ h1 hz
    have hpre := am_pre G hWo hR hS (Value.ref b :: As)
    have hV : PreV s H C b (va_Pc (Value.ref b :: As) (am_B P D cl A ca RO Nw zs M H.size)) As := ⟨hpre.1, va_recv hWo.1 (am_one (hR b _ hb0).1) hci (q0 := 0) rfl, hpre.2⟩
    rcases w with ⟨w2, w3, w4⟩ | ⟨xn, owner, w2, w3, w4, w5, w6, w7⟩
    · rcases w3 with w3 | ⟨host, w3⟩
      · exact va_runV S hM ⟨callB_of n hts hg rfl rfl rfl (hts _ hini) (hts _ w3) ⟨hmh.1, hmh.2, w2⟩ hRoom, hts _ w1, hts _ w4⟩ hV rfl hn rfl rfl hW hd ⟨hc1, hc2⟩
      · exact va_runVN S hM ⟨va_cnB n hts hg rfl rfl rfl (hnw _ w3) (hts _ hini) ⟨hmh.1, hmh.2, w2⟩ hRoom, hts _ w1, hts _ w4⟩ hV rfl hn rfl rfl hW hd ⟨hc1, hc2⟩
    · have hdecl : va_Decl s ⟨owner, xn.name, xn.desc⟩ := by
        rcases w7 with w7 | ⟨w7, b7, m7, r7, w8⟩
        · exact va_Decl.abs (hnw _ w7)
        · exact va_Decl.of (hts _ w7) (hts _ w8)
      have hU : va_CU R s args (am_on P mt.2.2.2.2.2.2) C owner x xn mz.1 mz.2.1 mz.2.2.1 mz.2.2.2.1 (Cond.code mz.1 mz.2.1 mz.2.2.1 mz.2.2.2.1 :: Ts) (am_rm mz (sz' - H.size) (sl' - sl)) (sz' - H.size) (sl' - sl) n := by
        refine ⟨⟨rfl, rfl, hRoom.1, hRoom.2, pay_in hts hg, List.mem_cons_self⟩, hts _ (gM z mz hz).2.2.1, hts _ hini, w3, fun sig hsig => ?_, hts _ w4, hts _ w5, hdecl, hts _ w6, hts _ w1⟩
        have h2 := w2
        unfold am_ar at h2
        rw [hsig] at h2
        exact (Option.some.inj h2).symm
      exact va_runU S hM hU hV rfl hn rfl rfl hW hd ⟨hc1, hc2⟩
  | _ => exact False.elim hcall
end AMU
end
section
/-! AM's runs are the machine's: the induction */ -/
section AMV
variable {P : am_P} {D : va_G} {cl : List vw_C} {A : Nat → Prop} {ca : Nat → ClassId} {RO : am_O} {Ts Nw : List Cond} {zs : List (String × String × String × Nat)}
set_option maxHeartbeats 4000000 in
theorem am_sim (G : am_G P cl Ts Nw zs) (l : Launch) : ∀ k, am_S P D cl A ca RO Ts Nw zs l k
  | 0 => fun y pc lv st M sz sl v M' sz' sl' h => False.elim h
  | k + 1 => by
    have hSk := am_sim G l k
    intro y pc lv st M sz sl v M' sz' sl' h mt hm p e R s m args below meth c H locs ls cells slots mc ms hC hR hsz hS hl hmc hms hmcR hmsR hfr hlo
    have hend := am_end h
    obtain ⟨mt', hm', i, len, hd, h⟩ := h
    cases hm.symm.trans hm'
    obtain ⟨hx, hb, hml, hown, hts, hnm, hret, hlocks, hWo⟩ := id hC
    have hK := hWo.1
    have hnw := hWo.2.1
    have hA := hWo.2.2.2.2.2
    obtain ⟨gM, gF, gC, gP, gK, gW, gD, gA, gZ, gcs, gci, gcv, gN, gMth, gS, ⟨k0, k1, k2⟩, ⟨a0, a1, a2⟩, gT, gNw⟩ := id G
    have hy := (gM y mt hm).2.1
    rw [← hy] at hown
    -- the same frame's next
    have go : ∀ (pc' : Nat) (lv' : am_L) (st' : List Value) (M1 : am_H) (z1 l1 : Nat) (H1 : Heap) (locs1 : List Loc) (ls1 : Array Slot) (cells1 slots1 : Nat), am_W P RO k y pc' lv' st' M1 z1 l1 (am_eq v M' sz' sl') → am_R D cl A ca M1 H1 → H1.size = z1 → va_S A s.heap H1 locs1 → lv_has ls1 mt.2.2.1 lv' → cells1 + (sz' - z1) = mc → slots1 + (sl' - l1) = ms →
        W p l e R s m args below meth c H1 locs1 cells1 slots1 (MQ below (am_Qc D cl A ca v M' sz') args s mc ms A) (F0 m pc' ls1 st') := fun pc' lv' st' M1 z1 l1 H1 locs1 ls1 cells1 slots1 h1 h2 h3 h4 h5 h6 h7 =>
      hSk y pc' lv' st' M1 z1 l1 v M' sz' sl' h1 mt hm p e R s m args below meth c H1 locs1 ls1 cells1 slots1 mc ms hC h2 h3 h4 h5 h6 h7 hmcR hmsR hfr hlo
    have put : ∀ (pc' : Nat) (st' : List Value) (a : Nat) (x : am_E) (H1 : Heap) (j : Nat), am_W P RO k y pc' lv st' (am_set M a x) sz sl (am_eq v M' sz' sl') → A a → va_at D cl (a, am_enc1 ca x) H1 → H1.size = H.size → (∀ q : Nat, q ≠ a → H1[q]? = H[q]?) →
        W p l e R s m args below meth c H1 (locs ++ [⟨a, j⟩]) cells slots (MQ below (am_Qc D cl A ca v M' sz') args s mc ms A) (F0 m pc' ls st') := fun pc' st' a x H1 j h1 h2 h3 h4 h5 =>
      go pc' lv st' _ sz sl H1 _ ls cells slots h1 (hR.set h2 h3 h5) (h4.trans hsz) (am_S_put hS h4 h5 h2) hl hmc hms
    have born : ∀ (pc' : Nat) (st' : List Value) (x : am_E) (n : Nat) (H1 : Heap), am_W P RO k y pc' lv st' (am_set M sz x) (sz + 1) (sl + n) (am_eq v M' sz' sl') → va_at D cl (H.size, am_enc1 ca x) H1 → H1.size = H.size + 1 → (∀ q : Nat, q < H.size → H1[q]? = H[q]?) →
        W p l e R s m args below meth c H1 locs (cells + 1) (slots + n) (MQ below (am_Qc D cl A ca v M' sz') args s mc ms A) (F0 m pc' ls st') := fun pc' st' x n H1 h1 h2 h3 h4 => by
      have h9 := am_end h1
      refine go pc' lv st' _ (sz + 1) (sl + n) H1 _ ls (cells + 1) (slots + n) h1 ?_ (by omega) (am_S_push hS (by omega) h4) hl (by omega) (by omega)
      rw [← hsz]
      exact hR.push (hA _ hS.1) h2 h4
    rcases h with ⟨w, h1, h2⟩ | ⟨rfl, st', h1, h2, h3⟩ | ⟨l0, n, lv', st', h1, h2, h3, h4⟩ | h | h | h | ⟨rfl, z, vs, r, mz, h1, h2, h3, h4, h5, h6⟩ | h
    · refine am_push_W hx hb hown (own := am_on P mt.2.2.2.2.2.2) (fun q w hq => ?_) h1 hd hl (go _ _ _ _ _ _ _ _ _ _ _ h2 hR hsz hS hl hmc hms)
      rcases gK _ _ _ hq with ⟨x, e1, e2⟩ | ⟨x, e1, e2⟩
      · exact Or.inl ⟨x, e1, hts _ e2⟩
      · exact Or.inr ⟨x, e1, hts _ e2⟩
    · exact am_op_W hx hb h1 h2 hd (go _ _ _ _ _ _ _ _ _ _ _ h3 hR hsz hS hl hmc hms)
    · refine am_sto_W hx hb h1 h2 (len' := len) ?_ hd hl (fun ls' hl' => go _ _ _ _ _ _ _ _ _ _ _ h4 hR hsz hS hl' hmc hms)
      rcases h3 with h3 | h3
      · exact Or.inl h3
      · exact Or.inr h3
    · exact am_br_W hx hb h hd (fun t r hk => go _ _ _ _ _ _ _ _ _ _ _ hk hR hsz hS hl hmc hms)
    · cases i with
      | getfield x =>
        obtain ⟨rfl, a, r, ci, fs, kk, w, rfl, h2, h3, h4, h5⟩ := h
        exact am_getf_W hx hb hts hnw hown hK (hR a _ h2).1 (gF _ _ _ _ h3) h4 hd (go _ _ _ _ _ _ _ _ _ _ _ h5 hR hsz hS hl hmc hms)
      | putfield x =>
        obtain ⟨rfl, w, a, r, ci, fs, kk, rfl, h2, h3, h4, h5, h6, h7, h8⟩ := h
        refine am_putf_W hx hb hts hnw hown hK gC (hR a _ h2).1 (gF _ _ _ _ h3) h5 h6 h7 (fun C T N hci => ?_) hd (fun H1 j e1 e2 e3 => put _ _ a _ H1 j h8 (hR a _ h2).2 e1 e2 e3)
        obtain ⟨g1, g2⟩ := gP _ _ _ _ h3 C T N hci
        rcases h4 with h4 | ⟨h4, h9⟩
        · exact Or.inl (g1 h4)
        · obtain ⟨g3, g4⟩ := g2 h4
          exact Or.inr ⟨hnm.trans (by simpa using h9), g3, _, rfl, g4⟩
      | getstatic x =>
        obtain ⟨rfl, a, h1, h2⟩ := h
        exact am_gets_W hx hb hts hown hWo.2.2.1 hS (gZ _ _ _ h1) hd (go _ _ _ _ _ _ _ _ _ _ _ h2 hR hsz hS hl hmc hms)
      | new x =>
        obtain ⟨rfl, ci, h1, h2⟩ := h
        obtain ⟨C, T, N, hci, hw⟩ := gW _ _ _ h1
        obtain ⟨d1, d2⟩ := gD _ _ _ _ hci
        have h9 := am_end h2
        rw [d1] at h2 h9
        rw [← hsz] at h2
        refine am_new_W hx hb hts hown hK gC hci hw d2 (by omega) (by omega) hd (fun H1 e1 e2 e3 => ?_)
        rw [hsz] at h2
        rw [hsz]
        exact born _ _ _ _ H1 h2 e1 e2 e3
      | newarray ty =>
        obtain ⟨rfl, n, r, t, x, rfl, h2, h3, h4, h5⟩ := h
        have h9 := am_end h5
        have fin : ∀ (t0 : Nat) (x0 : vp_A), some (t0, x0) = some (t, x) → (am_kd P)[t0]? = some (newarray.typeOf ty) → Cond.arrayClass (newarray.typeOf ty) ∈ Ts → (∀ C, newarray.typeOf ty ≠ .object C) → (∀ cA : ClassId, vp_cell cA x0 = arrV cA n.toNatClampNeg (fun _ => defaultValue (newarray.typeOf ty))) → n.toNatClampNeg * componentBytes (newarray.typeOf ty) ≤ 536870912 → W p l e R s m args below meth c H locs cells slots (MQ below (am_Qc D cl A ca v M' sz') args s mc ms A) (F0 m pc ls (Value.int n :: r)) := by
          intro t0 x0 e0 b1 b2 b3 b4 b5
          cases e0
          refine am_newa_W hx hb hts hK b2 b1 b3 b4 h2 rfl b5 (by omega) (by omega) hd (fun H1 e1 e2 e3 => ?_)
          rw [hsz]
          exact born _ _ _ _ H1 h5 e1 e2 e3
        cases ty with
        | int => exact fin _ _ h4 k0 a0 (fun C q => by cases q) (fun cA => rfl) (by show _ * 4 ≤ _; omega)
        | long => exact fin _ _ h4 k1 a1 (fun C q => by cases q) (fun cA => rfl) (by show _ * 8 ≤ _; omega)
        | boolean => exact fin _ _ h4 k2 a2 (fun C q => by cases q) (fun cA => rfl) (by show _ * 1 ≤ _; omega)
        | _ => cases h4
      | anewarray x =>
        obtain ⟨rfl, n, r, t, rfl, h2, h3, h4, h5⟩ := h
        have h9 := am_end h5
        rcases gA _ _ _ h4 with ⟨C, b1, b2, b3⟩ | ⟨ty, b1, b2, b3⟩
        · refine am_anew_W hx hb hts hown hnw hK b1 b2 b3 h2 rfl h3 (by omega) (by omega) hd (fun H1 e1 e2 e3 => ?_)
          rw [hsz]
          exact born _ _ _ _ H1 h5 e1 e2 e3
        · refine am_anewA_W hx hb hts hown hnw hK b1 b2 b3 h2 rfl h3 (by omega) (by omega) hd (fun H1 e1 e2 e3 => ?_)
          rw [hsz]
          exact born _ _ _ _ H1 h5 e1 e2 e3
      | arraylength =>
        obtain ⟨rfl, a, r, t, x, rfl, ⟨h2, h3⟩ | ⟨h2, f, h3⟩, h4⟩ := h
        · exact va_alen hx hb hK (am_one ((hR a _ h2).1)) 0 t rfl (am_tys_at (List.getElem?_eq_getElem h3)) rfl hd (go _ _ _ _ _ _ _ _ _ _ _ h4 hR hsz hS hl hmc hms)
        · exact va_tlen hx hb (hWo.2.2.2.1 _ _ _ h3) hS rfl hd (go _ _ _ _ _ _ _ _ _ _ _ h4 hR hsz hS hl hmc hms)
      | iaload =>
        obtain ⟨rfl, j, a, r, n, f, rfl, h2 | ⟨h2, h5⟩, h3, h4⟩ := h
        · exact va_iald hx hb hK (am_one ((hR a _ h2).1)) 0 0 rfl (am_tys_at k0) h3 hd (go _ _ _ _ _ _ _ _ _ _ _ h4 hR hsz hS hl hmc hms)
        · exact va_ti hx hb (hWo.2.2.2.1 _ _ _ h5) hS h3 rfl hd (go _ _ _ _ _ _ _ _ _ _ _ h4 hR hsz hS hl hmc hms)
      | baload =>
        obtain ⟨rfl, j, a, r, n, f, rfl, h2, h3, h4⟩ := h
        exact va_zald hx hb hK (am_one ((hR a _ h2).1)) 0 2 rfl (am_tys_at k2) h3 hd (go _ _ _ _ _ _ _ _ _ _ _ h4 hR hsz hS hl hmc hms)
      | laload =>
        obtain ⟨rfl, j, a, r, n, f, rfl, h2, h3, h4⟩ := h
        exact va_lald hx hb hK (am_one ((hR a _ h2).1)) 0 1 rfl (am_tys_at k1) h3 hd (go _ _ _ _ _ _ _ _ _ _ _ h4 hR hsz hS hl hmc hms)
      | aaload =>
        obtain ⟨rfl, j, a, r, n, t, f, ty, rfl, h2, h3, h4, h5, h6⟩ := h
        exact am_aald_W hx hb hK h3 h4 ((hR a _ h2).1) h5 hd (go _ _ _ _ _ _ _ _ _ _ _ h6 hR hsz hS hl hmc hms)
      | iastore =>
        obtain ⟨rfl, x, j, a, r, n, f, rfl, h2, h3, h4⟩ := h
        exact am_iast_W hx hb hK k0 (hR a _ h2).1 h3 hd (fun H1 j' e1 e2 e3 => put _ _ a _ H1 j' h4 (hR a _ h2).2 e1 e2 e3)
      | bastore =>
        obtain ⟨rfl, x, j, a, r, n, f, rfl, h2, h3, h4⟩ := h
        exact am_zast_W hx hb hK k2 (hR a _ h2).1 h3 hd (fun H1 j' e1 e2 e3 => put _ _ a _ H1 j' h4 (hR a _ h2).2 e1 e2 e3)
      | lastore =>
        obtain ⟨rfl, x, j, a, r, n, f, rfl, h2, h3, h4⟩ := h
        exact am_last_W hx hb hK k1 (hR a _ h2).1 h3 hd (fun H1 j' e1 e2 e3 => put _ _ a _ H1 j' h4 (hR a _ h2).2 e1 e2 e3)
      | aastore =>
        obtain ⟨rfl, ⟨w, j, a, r, n, t, f, ci, vs, rfl, h2, h3, h4, h5, h6⟩ | ⟨w, j, a, r, n, t, f, t2, x, rfl, h2, h3, h4, h5, h6⟩ | ⟨j, a, r, n, t, f, E, rfl, h2, h3, h4, h5⟩⟩ := h
        · obtain ⟨E, r0, g1, g2, g3⟩ := gS _ _ h4
          exact am_aastO_W hx hb hnw hK g1 g2 g3 (hR a _ h2).1 (hR w _ h3).1 h5 hd (fun H1 j' e1 e2 e3 => put _ _ a _ H1 j' h6 (hR a _ h2).2 e1 e2 e3)
        · obtain ⟨ty, g1⟩ := hWo.2.2.2.2.1 _ _ h4
          exact am_aastA_W hx hb hK g1 (hR a _ h2).1 (hR w _ h3).1 h5 hd (fun H1 j' e1 e2 e3 => put _ _ a _ H1 j' h6 (hR a _ h2).2 e1 e2 e3)
        · exact am_aastN_W hx hb hK h3 (hR a _ h2).1 h4 hd (fun H1 j' e1 e2 e3 => put _ _ a _ H1 j' h5 (hR a _ h2).2 e1 e2 e3)
      | multianewarray x d =>
        obtain ⟨rfl, rfl, kn, n, r, t, rfl, h2, h3, h4, h5, h6, h7⟩ := h
        obtain ⟨g1, g2, g3⟩ := (gN _ _).2.2.2.2 t h2
        have h9 := am_end h7
        refine am_mna_W hx hb hts hnw hown hK g1 k1 g2 a1 g3 h3 h4 rfl rfl h5 h6 (by omega) (by omega) hd (fun H1 e1 e2 e3 e4 => ?_)
        rw [hsz] at e1 e2 e3 e4 ⊢
        exact go _ _ _ _ _ _ _ _ _ _ _ h7 (hR.mna hsz (fun q hq => hA q (by have := hS.1; omega)) e1 e2 e4) (by omega) (am_S_push hS (by omega) (by rw [hsz]; exact e4)) hl (by omega) (by omega)
      | checkcast x =>
        obtain ⟨rfl, hn, a, r, yy, rfl, h2, h3⟩ := h
        exact am_castA_W hx hb hts hown hK ((gN _ _).2.2.2.1 hn) k0 ((hR a _ h2).1) hd (go _ _ _ _ _ _ _ _ _ _ _ h3 hR hsz hS hl hmc hms)
      | _ => exact False.elim h
    · have hdone : ∀ w, am_eq v M' sz' sl' w M sz sl → (v = w ∧ mc = cells ∧ ms = slots ∧ ∀ (t : State), t.heap = H → am_Qc D cl A ca v M' sz' args s (.returned w) t) := by
        rintro w ⟨rfl, rfl, rfl, rfl⟩
        refine ⟨rfl, by omega, by omega, fun t ht => ⟨rfl, by rw [ht]; exact hsz, by rw [ht]; exact hR, hS.F ht⟩⟩
      cases i with
      | return_ =>
        obtain ⟨rfl, rfl, h2, h3⟩ := h
        obtain ⟨rfl, rfl, rfl, hq⟩ := hdone _ h3
        exact W.vret hx hb (hret.trans h2) (fun t ht _ => hq t ht) hS.2.2 hd hlocks
      | ireturn =>
        obtain ⟨rfl, w, ty, rfl, h2, h3, h4⟩ := h
        obtain ⟨rfl, rfl, rfl, hq⟩ := hdone _ h4
        exact W.zret hx hb (hret.trans h2) h3 (fun t ht _ => hq t ht) hS.2.2 hd hlocks
      | lreturn =>
        obtain ⟨rfl, w, rfl, h2, h3⟩ := h
        obtain ⟨rfl, rfl, rfl, hq⟩ := hdone _ h3
        exact W.lret hx hb (hret.trans h2) (fun t ht _ => hq t ht) hS.2.2 hd hlocks
      | areturn =>
        obtain ⟨rfl, w, ty, rfl, h2, h3, h4, h5⟩ := h
        obtain ⟨rfl, rfl, rfl, hq⟩ := hdone _ h5
        exact W.aret hx hb (hret.trans h2) h3 h4 (fun t ht _ => hq t ht) hS.2.2 hd hlocks
      | _ => exact False.elim h
    · obtain ⟨w, M1, z1, l1, b1, b2, b3, b4⟩ := am_det _ _ _ _ _ _ _ _ _ h6
      have b5 := am_end b2
      subst hsz
      refine am_call_W (am_run G hSk hC hR hS hl.1 hd hy h1 h2 h3 h4 h5 hfr hlo b1 (by omega) (by omega)) hS (fun H1 locs1 e1 e2 e3 => ?_)
      exact go _ _ _ _ _ _ _ _ _ _ _ b2 e2 e1 e3 hl (by omega) (by omega)
    · cases i with
      | invokespecial x =>
        obtain ⟨rfl, hn, a, r, rfl, h2, h3, h4⟩ := h
        obtain ⟨w1, w2, w3⟩ := (gN _ _).2.1 hn
        exact W.objInit hx hb hown (hts _ w1) (hts _ w2) (hts _ w3) rfl (hl.1.trans hml.symm) rfl hd (by omega) (by show 2 * 0 + am_cat r + 12 ≤ _; omega) (go _ _ _ _ _ _ _ _ _ _ _ h4 hR hsz hS hl hmc hms)
      | invokestatic x =>
        obtain ⟨rfl, ⟨hn, n, dp, a, sp, b0, r, n0, n1, f, g, rfl, h2, h3, h4, h5, h6, h7, h8, h9, h10, h11⟩ | ⟨j, vs, r, v1, hn, rfl, h2, h3, h4, h5⟩⟩ := h
        · refine am_copy_W hx hb (hml.trans hl.1.symm) hts hown hK ((gN _ _).1 hn) k0 (hR b0 _ h2).1 (hR a _ h3).1 h4 h5 h6 h7 h8 (by omega) (by show am_cat r + _ ≤ _; omega) hd (fun H1 L e1 e2 e3 e4 => ?_)
          have hAa := (hR a _ h3).2
          exact go _ lv _ _ sz sl H1 _ ls cells slots h11 (hR.set hAa e1 e3) (e2.trans hsz) ⟨by rw [e2]; exact hS.1, fun q g1 g2 => (e3 q (fun z => g2 (z ▸ hAa))).trans (hS.2.1 q g1 g2), fun q hq => by
            rcases List.mem_append.mp hq with g1 | g1
            · exact hS.2.2 q g1
            · rw [e4 q g1]
              exact hAa⟩ hl hmc hms
        · exact am_mth_W hx hb (hml.trans hl.1.symm) hts hown (gMth _ _ _ hn) h2 (by omega) (by show am_cat r + 15 ≤ _; omega) (by omega) (by omega) hd (go _ _ _ _ _ _ _ _ _ _ _ h5 hR hsz hS hl hmc hms)
      | invokevirtual x =>
        obtain ⟨rfl, hn, a, r, n, f, rfl, h2, h3, h4, h5⟩ := h
        have h9 := am_end h5
        refine am_clone_W hx hb (hml.trans hl.1.symm) hts hnw hown hK ((gN _ _).2.2.1 hn) k0 ((hR a _ h2).1) (by omega) (by show am_cat r + 14 ≤ _; omega) (by omega) (by omega) hd (fun H1 e1 e2 e3 => ?_)
        rw [hsz]
        exact born _ _ _ _ H1 h5 e1 e2 e3
      | _ => exact False.elim h
end AMV
end
section
/-! AM: tables as lists, checked by the kernel against the words; am_G out of the checks */ -/
abbrev am_Pos : Type := Nat × Nat
def am_at (tb : List (List Cond)) (q : am_Pos) : Option Cond := (tb[q.1]?).bind (fun l => l[q.2]?)
def am_Ts (tb : List (List Cond)) : List Cond := tb.flatten.filter goodWord
def am_Nw (tb : List (List Cond)) : List Cond := tb.flatten.filter am_nwF
theorem am_at_mem {tb : List (List Cond)} {q : am_Pos} {w : Cond} (h : am_at tb q = some w) : w ∈ tb.flatten := by
  unfold am_at at h
  obtain ⟨l, h1, h2⟩ := Option.bind_eq_some_iff.mp h
  exact List.mem_flatten.mpr ⟨l, List.mem_of_getElem? h1, List.mem_of_getElem? h2⟩
def am_in (tb : List (List Cond)) (q : am_Pos) (w : Cond) : Bool := decide (am_at tb q = some w) && goodWord w
def am_inN (tb : List (List Cond)) (q : am_Pos) (w : Cond) : Bool := decide (am_at tb q = some w) && am_nwF w
theorem am_in_s {tb : List (List Cond)} {q : am_Pos} {w : Cond} (h : am_in tb q w = true) : w ∈ am_Ts tb := by
  unfold am_in at h
  rw [Bool.and_eq_true, decide_eq_true_iff] at h
  exact List.mem_filter.mpr ⟨am_at_mem h.1, h.2⟩
theorem am_inN_s {tb : List (List Cond)} {q : am_Pos} {w : Cond} (h : am_inN tb q w = true) : w ∈ am_Nw tb := by
  unfold am_inN at h
  rw [Bool.and_eq_true, decide_eq_true_iff] at h
  exact List.mem_filter.mpr ⟨am_at_mem h.1, h.2⟩
def am_lk2 {α : Type} (L : List (List (Nat × α))) (o x : Nat) : Option α := (((L[o]?).getD []).find? (fun q => q.1 == x)).map (fun q => q.2)
def am_lk3 {α : Type} (L : List (List ((Nat × Nat) × α))) (o x ci : Nat) : Option α := (((L[o]?).getD []).find? (fun q => q.1.1 == x && q.1.2 == ci)).map (fun q => q.2)
def am_all {α : Type} (L : List (List α)) (ok : Nat → α → Bool) : Bool := L.zipIdx.all (fun q => q.1.all (ok q.2))
theorem am_all_s {α : Type} {L : List (List α)} {ok : Nat → α → Bool} (h : am_all L ok = true) {o : Nat} {l : List α} (ho : L[o]? = some l) {q : α} (hq : q ∈ l) : ok o q = true := by
  have h1 := List.all_eq_true.mp h (l, o) (by
    refine List.mem_of_getElem? (i := o) ?_
    rw [List.getElem?_zipIdx, ho]
    simp)
  exact List.all_eq_true.mp h1 q hq
theorem am_lk2_s {α : Type} {L : List (List (Nat × α))} {ok : Nat → Nat × α → Bool} (h : am_all L ok = true) {o x : Nat} {a : α} (hl : am_lk2 L o x = some a) : ok o (x, a) = true := by
  unfold am_lk2 at hl
  obtain ⟨q, h1, rfl⟩ := Option.map_eq_some_iff.mp hl
  have h2 := List.find?_some h1
  have h3 := List.mem_of_find?_eq_some h1
  cases ho : L[o]? with
  | none => rw [ho] at h3; simp at h3
  | some l =>
    rw [ho] at h3
    have h4 := am_all_s h ho h3
    have h5 : q.1 = x := by simpa using h2
    rw [← h5]
    exact h4
theorem am_lk3_s {α : Type} {L : List (List ((Nat × Nat) × α))} {ok : Nat → (Nat × Nat) × α → Bool} (h : am_all L ok = true) {o x ci : Nat} {a : α} (hl : am_lk3 L o x ci = some a) : ok o ((x, ci), a) = true := by
  unfold am_lk3 at hl
  obtain ⟨q, h1, rfl⟩ := Option.map_eq_some_iff.mp hl
  have h2 := List.find?_some h1
  have h3 := List.mem_of_find?_eq_some h1
  cases ho : L[o]? with
  | none => rw [ho] at h3; simp at h3
  | some l =>
    rw [ho] at h3
    have h4 := am_all_s h ho h3
    have h5 : q.1.1 = x ∧ q.1.2 = ci := by simpa using h2
    rw [← h5.1, ← h5.2]
    exact h4
theorem am_all_of {α : Type} {L : List (List α)} {ok : Nat → α → Bool} (h : ∀ (o : Nat) (l : List α), L[o]? = some l → l.all (ok o) = true) : am_all L ok = true := by
  unfold am_all
  rw [List.all_eq_true]
  intro q hq
  obtain ⟨i, hi⟩ := List.getElem?_of_mem hq
  rw [List.getElem?_zipIdx] at hi
  obtain ⟨l, h1, h2⟩ := Option.map_eq_some_iff.mp hi
  rw [← h2]
  have h3 := h i l h1
  simpa using h3
theorem am_app {α : Type} {a b : List α} {p : α → Bool} (ha : a.all p = true) (hb : b.all p = true) : (a ++ b).all p = true := by
  rw [List.all_append, ha, hb]
  rfl
/-- the lists: slot, may be put, the name that links, host, its words' places -/
abbrev am_fE : Type := (Nat × Nat) × (Nat × Nat × String × Option String × am_Pos × am_Pos)
abbrev am_mE : Type := am_Meth × am_Pos × am_Pos
abbrev am_sE : Type := Nat × (Nat × Nat × am_Pos × Option String × am_Pos)
abbrev am_tE : Type := Nat × (Nat × Nat × am_Pos × Option String × am_Pos × am_Pos)
abbrev am_vE : Type := (Nat × Nat) × (Nat × Nat × am_Pos × am_Pos × am_Pos × Option (Option String) × MethodName × String × am_Pos × am_Pos × am_Pos)
section CHK
variable (on : Nat → String) (cl : List vw_C) (kd : List FieldType) (tb : List (List Cond)) (LM : List am_mE) (zn : List (String × String × String))
def am_lkOk (o x : Nat) (y : MethodName) (host : Option String) (p : am_Pos) : Bool := match host with
  | none => am_in tb p (.methodLink (on o) x y)
  | some h => am_inN tb p (.methodLinkNest (on o) x y h)
def am_arOk (y : MethodName) (n : Nat) : Bool := decide ((parseMethodDescriptor y.desc).map (fun d => d.parameters.length) = some n)
def am_okM (q : am_mE) : Bool := plainName q.1.1.cls && decide (on q.1.2.2.2.2.2.2 = q.1.1.cls) && am_in tb q.2.2 (.initialized q.1.1.cls) && decide (q.1.1.cls ≠ "java/lang/invoke/MethodHandle" ∧ q.1.1.cls ≠ "java/lang/invoke/VarHandle")
def am_okF (o : Nat) (q : am_fE) : Bool := match cl[q.1.2]? with
  | none => false
  | some (_, T, N) => match q with
    | ((x, _), k, pk, ref, host, lp, sp) => decide (k < N) && (decide (ref = (T k).1) || am_in tb sp (.sameField ref (T k).1 (T k).2.1 (T k).2.2.1)) &&
      (match host with
        | none => am_in tb lp (.fieldLink (on o) x ref (T k).2.1 (T k).2.2.1)
        | some h => am_inN tb lp (.fieldLinkNest (on o) x ref (T k).2.1 (T k).2.2.1 h)) &&
      (decide (pk ≠ 1) || !(T k).2.2.2) && (decide (pk ≠ 2) || (decide ((T k).1 = on o) && decide (ref = (T k).1) && host.isNone))
def am_okK (o : Nat) (q : Nat × (Value × am_Pos)) : Bool := match q.2.1 with
  | .int z => am_in tb q.2.2 (.constant (on o) q.1 z)
  | .long z => am_in tb q.2.2 (.constantLong (on o) q.1 z)
  | _ => false
def am_okW (o : Nat) (q : Nat × (Nat × am_Pos)) : Bool := match cl[q.2.1]? with
  | none => false
  | some (C, _, _) => am_in tb q.2.2 (.classLink (on o) q.1 C)
def am_okA (o : Nat) (q : Nat × (Nat × am_Pos × am_Pos)) : Bool := match kd[q.2.1]? with
  | some (.object C) => am_inN tb q.2.2.2 (.arrayOver (.object C)) && am_in tb q.2.2.1 (.classLink (on o) q.1 C)
  | some (.array ty) => am_inN tb q.2.2.2 (.arrayOver (.array ty)) && am_in tb q.2.2.1 (.classLink (on o) q.1 (FieldType.array ty).toString)
  | _ => false
def am_okZ (o : Nat) (q : Nat × (Nat × am_Pos)) : Bool := match zn[q.2.1]? with
  | none => false
  | some (C, n, d) => am_in tb q.2.2 (.fieldLink (on o) q.1 C n d)
def am_okS (o : Nat) (q : am_tE) : Bool := match LM[q.2.1]? with
  | none => false
  | some mz => am_in tb q.2.2.2.1 (.static mz.1.1) && am_arOk mz.1.1 q.2.2.1 && (am_lkOk on tb o q.1 mz.1.1 q.2.2.2.2.1 q.2.2.2.2.2.1 || (match q.2.2.2.2.1 with
      | none => false
      | some C => am_in tb q.2.2.2.2.2.1 (.methodLink (on o) q.1 ⟨C, mz.1.1.name, mz.1.1.desc⟩) && am_in tb q.2.2.2.2.2.2 (.sameMethod C mz.1.1.cls mz.1.1.name mz.1.1.desc)))
def am_okI (o : Nat) (q : am_sE) : Bool := match LM[q.2.1]? with
  | none => false
  | some mz => decide (mz.1.1.name = "<init>") && mz.1.2.2.2.1.isNone && am_in tb q.2.2.2.1 (.instanceMethod mz.1.1) && am_arOk mz.1.1 q.2.2.1 && am_lkOk on tb o q.1 mz.1.1 q.2.2.2.2.1 q.2.2.2.2.2
def am_okV (o : Nat) (q : am_vE) : Bool := match q with
  | ((x, ci), z, n, ip, sp, lp, form, xn, owner, mp, dp, cp) => match cl[ci]?, LM[z]? with
    | some (C, _, _), some mz => am_in tb ip (.instanceMethod mz.1.1) && (match form with
      | some host => am_arOk mz.1.1 n && am_lkOk on tb o x mz.1.1 host lp && am_in tb sp (.selects C mz.1.1 mz.1.1)
      | none => am_arOk xn n && decide (owner ≠ "java/lang/invoke/MethodHandle" ∧ owner ≠ "java/lang/invoke/VarHandle") && am_in tb lp (.methodLink (on o) x xn) && am_in tb mp (.sameMethod xn.cls owner xn.name xn.desc) && am_in tb sp (.selects C xn mz.1.1) &&
          (am_inN tb dp (.declares ⟨owner, xn.name, xn.desc⟩) || (am_in tb dp (.instanceMethod ⟨owner, xn.name, xn.desc⟩) && (match am_at tb cp with
            | some (.code y' b m r) => decide (y' = ⟨owner, xn.name, xn.desc⟩) && am_in tb cp (.code y' b m r)
            | _ => false))))
    | _, _ => false
def am_okN (o : Nat) (q : Nat × (Nat × List am_Pos)) : Bool := match q.2 with
  | (1, [a, b, c, d]) => am_in tb a (.methodLink (on o) q.1 arraycopyName) && am_in tb b (.native arraycopyName) && am_in tb c (.static arraycopyName) && am_in tb d (.initialized "java/lang/System")
  | (2, [a, b, c]) => am_in tb a (.methodLink (on o) q.1 Lib.objectInit) && am_in tb b (.instanceMethod Lib.objectInit) && am_in tb c (.code Lib.objectInit ⟨#[0xb1]⟩ 1 none)
  | (3, [a, b, c, d, e, f]) => am_in tb a (.methodLink (on o) q.1 ⟨"[I", "clone", "()Ljava/lang/Object;"⟩) && am_in tb b (.sameMethod "[I" "java/lang/Object" "clone" "()Ljava/lang/Object;") && am_in tb c (.native ⟨"java/lang/Object", "clone", "()Ljava/lang/Object;"⟩) && am_in tb d (.instanceMethod ⟨"java/lang/Object", "clone", "()Ljava/lang/Object;"⟩) &&
      am_in tb e (.selects "[I" ⟨"[I", "clone", "()Ljava/lang/Object;"⟩ ⟨"java/lang/Object", "clone", "()Ljava/lang/Object;"⟩) && am_inN tb f (.castable "[I" "java/lang/Cloneable")
  | (4, [a]) => am_in tb a (.classLink (on o) q.1 "[I")
  | (10, [a, b, c, d]) => am_in tb a (.methodLink (on o) q.1 Lib.Math.max.name) && am_in tb b (.static Lib.Math.max.name) && am_in tb c (.initialized "java/lang/Math") && am_in tb d (.code Lib.Math.max.name Lib.Math.max.code 2 (some .int))
  | (11, [a, b, c, d]) => am_in tb a (.methodLink (on o) q.1 Lib.Math.min.name) && am_in tb b (.static Lib.Math.min.name) && am_in tb c (.initialized "java/lang/Math") && am_in tb d (.code Lib.Math.min.name Lib.Math.min.code 2 (some .int))
  | (12, [a, b, c, d]) => am_in tb a (.methodLink (on o) q.1 Lib.MathLoose.min_long.x) && am_in tb b (.static Lib.MathLoose.min_long.x) && am_in tb c (.initialized "java/lang/Math") && am_in tb d (.code Lib.MathLoose.min_long.x Lib.MathLoose.min_long.code 4 (some .long))
  | (13, [a, b, c, d]) => am_in tb a (.methodLink (on o) q.1 Lib.MathLoose.abs_long.x) && am_in tb b (.static Lib.MathLoose.abs_long.x) && am_in tb c (.initialized "java/lang/Math") && am_in tb d (.code Lib.MathLoose.abs_long.x Lib.MathLoose.abs_long.code 2 (some .long))
  | (103, [a, b]) => decide (kd[3]? = some (.array .long)) && am_inN tb a (.arrayOver (.array .long)) && am_in tb b (.classLink (on o) q.1 ("[" ++ (FieldType.array .long).toString))
  | _ => false
def am_okG (q : (Nat × Nat) × am_Pos) : Bool := match kd[q.1.1]?, cl[q.1.2]? with
  | some (.object E), some (C, _, _) => decide (C = E) || am_inN tb q.2 (.castable C E)
  | _, _ => false
/-- a class's words and field types -/
def am_okC (tyf : Nat → Nat → FieldType) (q : (Nat × List am_Pos) × (am_Pos × am_Pos) × List Value) : Bool := match cl[q.1.1]? with
  | none => false
  | some (C, T, N) => ((List.range N).all fun k => match q.1.2[k]? with
      | none => false
      | some p => am_in tb p (u_lay C T k)) && ((List.range N).all fun k => decide (parseFieldDescriptor (T k).2.2.1 = some (tyf q.1.1 k))) && am_in tb q.2.1.1 (.instantiable C N) && am_in tb q.2.1.2 (.initialized C) && decide (q.2.2.length = N) && ((List.range N).all fun k => match q.2.2[k]? with
      | none => false
      | some v => decide (defaultValue (tyf q.1.1 k) = v))
end CHK
/-- the code words -/
def am_cdE (tb : List (List Cond)) (L : List am_mE) : Prop := L.map (fun q => am_at tb q.2.1) = L.map (fun q => some (Cond.code q.1.1 q.1.2.1 q.1.2.2.1 q.1.2.2.2.1))
theorem am_cdE_app {tb : List (List Cond)} {a b : List am_mE} (ha : am_cdE tb a) (hb : am_cdE tb b) : am_cdE tb (a ++ b) := by
  unfold am_cdE at *
  rw [List.map_append, List.map_append, ha, hb]
theorem am_cdE_s {tb : List (List Cond)} {L : List am_mE} (h : am_cdE tb L) {q : am_mE} (hq : q ∈ L) : Cond.code q.1.1 q.1.2.1 q.1.2.2.1 q.1.2.2.2.1 ∈ am_Ts tb := by
  obtain ⟨i, hi⟩ := List.getElem?_of_mem hq
  have h1 := congrArg (fun l => l[i]?) h
  simp only [List.getElem?_map, hi, Option.map_some] at h1
  injection h1 with h1
  exact List.mem_filter.mpr ⟨am_at_mem h1, rfl⟩
end
section
/-! AM: a program out of checked lists */ -/
abbrev am_cE : Type := (Nat × List am_Pos) × (am_Pos × am_Pos) × List Value
def am_mkP (on : Nat → String) (kd : List FieldType) (LM : List am_mE) (LF : List (List am_fE)) (tyf : Nat → Nat → FieldType) (LK : List (List (Nat × (Value × am_Pos)))) (LW : List (List (Nat × (Nat × am_Pos)))) (LC : List am_cE) (LA : List (List (Nat × (Nat × am_Pos × am_Pos)))) (LZ : List (List (Nat × (Nat × am_Pos)))) (sa : Nat → Nat) (LS : List (List am_tE)) (LI : List (List am_sE)) (LV : List (List am_vE)) (LN : List (List (Nat × (Nat × List am_Pos)))) (LG : List ((Nat × Nat) × am_Pos)) (LB : List (Nat × Nat)) : am_P :=
  (fun y => (LM[y]?).map (fun q => q.1),
   fun o x ci => (am_lk3 LF o x ci).map (fun q => q.1),
   tyf,
   fun o x ci => ((am_lk3 LF o x ci).map (fun q => q.2.1)).getD 0,
   fun o x => (am_lk2 LK o x).map (fun q => q.1),
   fun o x => (am_lk2 LW o x).map (fun q => q.1),
   fun ci => ((LC[ci]?).map (fun q => q.2.2)).getD [],
   fun o x => (am_lk2 LA o x).map (fun q => q.1),
   fun o x => (am_lk2 LZ o x).map (fun q => sa q.1),
   fun o x => (am_lk2 LS o x).map (fun q => (q.1, q.2.1)),
   fun o x => (am_lk2 LI o x).map (fun q => (q.1, q.2.1)),
   fun o x ci => (am_lk3 LV o x ci).map (fun q => (q.1, q.2.1)),
   fun o x => ((am_lk2 LN o x).map (fun q => q.1)).getD 0,
   fun t ci => LG.any (fun q => q.1.1 == t && q.1.2 == ci),
   fun t t2 => LB.any (fun q => q.1 == t && q.2 == t2),
   kd, on)
def am_zs (zn : List (String × String × String)) (sa : Nat → Nat) : List (String × String × String × Nat) := zn.zipIdx.map (fun q => (q.1.1, q.1.2.1, q.1.2.2, sa q.2))
theorem am_lkOk_s {on : Nat → String} {tb : List (List Cond)} {o x : Nat} {y : MethodName} {host : Option String} {p : am_Pos} (h : am_lkOk on tb o x y host p = true) : am_lk (am_Ts tb) (am_Nw tb) (on o) x y := by
  unfold am_lkOk at h
  cases host with
  | none => exact Or.inl (am_in_s h)
  | some hh => exact Or.inr ⟨hh, am_inN_s h⟩
theorem am_arOk_s {y : MethodName} {n : Nat} (h : am_arOk y n = true) : am_ar y n := by
  unfold am_ar
  exact of_decide_eq_true h
set_option maxHeartbeats 1000000 in
theorem am_G_of {on : Nat → String} {cl : List vw_C} {kd : List FieldType} {tb : List (List Cond)} {LM : List am_mE} {LF : List (List am_fE)} {tyf : Nat → Nat → FieldType} {LK : List (List (Nat × (Value × am_Pos)))} {LW : List (List (Nat × (Nat × am_Pos)))} {LC : List am_cE} {LA : List (List (Nat × (Nat × am_Pos × am_Pos)))} {LZ : List (List (Nat × (Nat × am_Pos)))} {LS : List (List am_tE)} {LI : List (List am_sE)} {LV : List (List am_vE)} {LN : List (List (Nat × (Nat × List am_Pos)))} {LG : List ((Nat × Nat) × am_Pos)} {LB : List (Nat × Nat)} {zn : List (String × String × String)}
    (cM : LM.all (am_okM on tb) = true) (cO : am_cdE tb LM) (cF : am_all LF (am_okF on cl tb) = true) (cK : am_all LK (am_okK on tb) = true) (cW : am_all LW (am_okW on cl tb) = true) (cC : LC.all (am_okC cl tb tyf) = true) (cN : LC.map (fun q => q.1.1) = List.range cl.length) (cA : am_all LA (am_okA on kd tb) = true) (cZ : am_all LZ (am_okZ on tb zn) = true) (cS : am_all LS (am_okS on tb LM) = true) (cI : am_all LI (am_okI on tb LM) = true) (cV : am_all LV (am_okV on cl tb LM) = true) (cT : am_all LN (am_okN on kd tb) = true) (cG : LG.all (am_okG cl kd tb) = true)
    (nm : ∀ (ci : Nat) (C : String) (T : u_T) (N : Nat), cl[ci]? = some (C, T, N) → ∀ a, a < N → ∀ b, b < N → a ≠ b → (T a).2.1 ≠ (T b).2.1) (k0 : kd[0]? = some .int) (k1 : kd[1]? = some .long) (k2 : kd[2]? = some .boolean) (a0 : Cond.arrayClass .int ∈ am_Ts tb) (a1 : Cond.arrayClass .long ∈ am_Ts tb) (a2 : Cond.arrayClass .boolean ∈ am_Ts tb) (sa : Nat → Nat) :
    am_G (am_mkP on kd LM LF tyf LK LW LC LA LZ sa LS LI LV LN LG LB) cl (am_Ts tb) (am_Nw tb) (am_zs zn sa) := by
  have hC : ∀ ci C T N, cl[ci]? = some (C, T, N) → ∃ q ∈ LC, q.1.1 = ci ∧ LC[ci]? = some q ∧ am_okC cl tb tyf q = true := by
    intro ci C T N h
    have hlt : ci < cl.length := (List.getElem?_eq_some_iff.mp h).1
    have h1 : (LC.map (fun q => q.1.1))[ci]? = some ci := by rw [cN, List.getElem?_range hlt]
    rw [List.getElem?_map] at h1
    obtain ⟨q, h2, h3⟩ := Option.map_eq_some_iff.mp h1
    have hm := List.mem_of_getElem? h2
    exact ⟨q, hm, h3, h2, List.all_eq_true.mp cC q hm⟩
  have hCk : ∀ ci C T N, cl[ci]? = some (C, T, N) → (∀ w ∈ u_ws C T N, w ∈ am_Ts tb) ∧ (∀ k, k < N → parseFieldDescriptor (T k).2.2.1 = some (tyf ci k)) ∧ Cond.instantiable C N ∈ am_Ts tb ∧ Cond.initialized C ∈ am_Ts tb ∧ ∃ q, LC[ci]? = some q ∧ q.2.2.length = N ∧ ∀ j, j < N → defaultValue (tyf ci j) = vp_V q.2.2 j := by
    intro ci C T N h
    obtain ⟨q, -, h1, h2, h3⟩ := hC ci C T N h
    unfold am_okC at h3
    rw [h1, h] at h3
    simp only [Bool.and_eq_true, List.all_eq_true, List.mem_range, decide_eq_true_eq] at h3
    obtain ⟨⟨⟨⟨⟨b1, b2⟩, b3⟩, b4⟩, b5⟩, b6⟩ := h3
    refine ⟨fun w hw => ?_, b2, am_in_s b3, am_in_s b4, q, h2, b5, fun j hj => ?_⟩
    · obtain ⟨k, hk, rfl⟩ := List.mem_map.mp hw
      have b7 := b1 k (List.mem_range.mp hk)
      split at b7
      · cases b7
      · exact am_in_s b7
    · have b7 := b6 j hj
      split at b7
      · cases b7
      · rename_i v hv
        have b8 : defaultValue (tyf ci j) = v := by simpa using b7
        rw [b8]
        unfold vp_V
        rw [List.getD_eq_getElem?_getD, hv]
        rfl
  have hF : ∀ o x ci q, am_lk3 LF o x ci = some q → ∃ C T N, cl[ci]? = some (C, T, N) ∧ am_okF on cl tb o ((x, ci), q) = true := by
    intro o x ci q h
    have h1 := am_lk3_s cF h
    have h2 := h1
    unfold am_okF at h2
    cases hc : cl[ci]? with
    | none => rw [hc] at h2; cases h2
    | some r => exact ⟨r.1, r.2.1, r.2.2, rfl, h1⟩
  refine ⟨?_, ?_, ?_, ?_, ?_, ?_, ?_, ?_, ?_, ?_, ?_, ?_, ?_, ?_, ?_, ⟨k0, k1, k2⟩, ⟨a0, a1, a2⟩, fun w hw => (List.mem_filter.mp hw).2, fun w hw => (List.mem_filter.mp hw).2⟩
  · intro y mt h
    obtain ⟨q, h1, rfl⟩ := Option.map_eq_some_iff.mp (show (LM[y]?).map (fun q => q.1) = some mt from h)
    have h2 := List.all_eq_true.mp cM q (List.mem_of_getElem? h1)
    unfold am_okM at h2
    simp only [Bool.and_eq_true, decide_eq_true_eq] at h2
    exact ⟨h2.1.1.1, h2.1.1.2, am_cdE_s cO (List.mem_of_getElem? h1), am_in_s h2.1.2, h2.2⟩
  · intro o x ci k h
    obtain ⟨q, h1, rfl⟩ := Option.map_eq_some_iff.mp (show (am_lk3 LF o x ci).map (fun q => q.1) = some k from h)
    obtain ⟨C, T, N, hc, h2⟩ := hF o x ci q h1
    obtain ⟨k, pk, ref, host, lp, sp⟩ := q
    unfold am_okF at h2
    rw [show (((x, ci), (k, pk, ref, host, lp, sp)) : am_fE).1.2 = ci from rfl, hc] at h2
    dsimp only at h2
    simp only [Bool.and_eq_true, decide_eq_true_eq, Bool.or_eq_true] at h2
    refine ⟨C, T, N, ref, hc, h2.1.1.1.1, (hCk ci C T N hc).1, h2.1.1.1.2.imp id am_in_s, ?_⟩
    have h3 := h2.1.1.2
    cases host with
    | none => exact Or.inl (am_in_s h3)
    | some hh => exact Or.inr ⟨hh, am_inN_s h3⟩
  · intro ci C T N h
    obtain ⟨b1, b2, b3, b4, -⟩ := hCk ci C T N h
    exact ⟨b1, b2, nm ci C T N h, b3, b4⟩
  · intro o x ci k h C T N hc
    obtain ⟨q, h1, rfl⟩ := Option.map_eq_some_iff.mp (show (am_lk3 LF o x ci).map (fun q => q.1) = some k from h)
    obtain ⟨C', T', N', hc', h2⟩ := hF o x ci q h1
    rw [hc] at hc'
    cases hc'
    have hpk : am_pk (am_mkP on kd LM LF tyf LK LW LC LA LZ sa LS LI LV LN LG LB) o x ci = q.2.1 := by
      show ((am_lk3 LF o x ci).map (fun q => q.2.1)).getD 0 = q.2.1
      rw [h1]
      rfl
    rw [hpk]
    obtain ⟨k, pk, ref, host, lp, sp⟩ := q
    unfold am_okF at h2
    rw [show (((x, ci), (k, pk, ref, host, lp, sp)) : am_fE).1.2 = ci from rfl, hc] at h2
    dsimp only at h2 ⊢
    simp only [Bool.and_eq_true, decide_eq_true_eq, Bool.or_eq_true, Bool.not_eq_true'] at h2
    refine ⟨fun hp => h2.1.2.elim (fun z => absurd hp z) id, fun hp => ?_⟩
    obtain ⟨⟨b1, b2⟩, b3⟩ := h2.2.elim (fun z => absurd hp z) id
    refine ⟨b1, ?_⟩
    have h3 := h2.1.1.2
    cases host with
    | none =>
      subst b2
      exact am_in_s h3
    | some hh => cases b3
  · intro o k v h
    obtain ⟨q, h1, rfl⟩ := Option.map_eq_some_iff.mp (show (am_lk2 LK o k).map (fun q => q.1) = some v from h)
    have h2 := am_lk2_s cK h1
    unfold am_okK at h2
    dsimp only at h2
    split at h2
    · rename_i z hz
      exact Or.inl ⟨z, hz, am_in_s h2⟩
    · rename_i z hz
      exact Or.inr ⟨z, hz, am_in_s h2⟩
    · cases h2
  · intro o x ci h
    obtain ⟨q, h1, rfl⟩ := Option.map_eq_some_iff.mp (show (am_lk2 LW o x).map (fun q => q.1) = some ci from h)
    have h2 := am_lk2_s cW h1
    unfold am_okW at h2
    dsimp only at h2
    split at h2
    · cases h2
    · rename_i C T N hc
      exact ⟨C, T, N, hc, am_in_s h2⟩
  · intro ci C T N h
    obtain ⟨-, -, -, -, q, b1, b2, b3⟩ := hCk ci C T N h
    have hd : am_df (am_mkP on kd LM LF tyf LK LW LC LA LZ sa LS LI LV LN LG LB) ci = q.2.2 := by
      show ((LC[ci]?).map (fun q => q.2.2)).getD [] = q.2.2
      rw [b1]
      rfl
    rw [hd]
    exact ⟨b2, b3⟩
  · intro o x t h
    obtain ⟨q, h1, rfl⟩ := Option.map_eq_some_iff.mp (show (am_lk2 LA o x).map (fun q => q.1) = some t from h)
    have h2 := am_lk2_s cA h1
    unfold am_okA at h2
    dsimp only at h2
    split at h2
    · rename_i C hc
      simp only [Bool.and_eq_true] at h2
      exact Or.inl ⟨C, hc, am_inN_s h2.1, am_in_s h2.2⟩
    · rename_i ty hc
      simp only [Bool.and_eq_true] at h2
      exact Or.inr ⟨ty, hc, am_inN_s h2.1, am_in_s h2.2⟩
    · cases h2
  · intro o x a h
    obtain ⟨q, h1, rfl⟩ := Option.map_eq_some_iff.mp (show (am_lk2 LZ o x).map (fun q => sa q.1) = some a from h)
    have h2 := am_lk2_s cZ h1
    unfold am_okZ at h2
    dsimp only at h2
    split at h2
    · cases h2
    · rename_i C n d hc
      refine ⟨C, n, d, ?_, am_in_s h2⟩
      refine List.mem_map.mpr ⟨((C, n, d), q.1), ?_, rfl⟩
      refine List.mem_of_getElem? (i := q.1) ?_
      rw [List.getElem?_zipIdx, hc]
      simp
  · intro o x z n mz h hz
    obtain ⟨q, h1, h3⟩ := Option.map_eq_some_iff.mp (show (am_lk2 LS o x).map (fun q => (q.1, q.2.1)) = some (z, n) from h)
    cases h3
    obtain ⟨m, h4, rfl⟩ := Option.map_eq_some_iff.mp (show (LM[q.1]?).map (fun q => q.1) = some mz from hz)
    have h2 := am_lk2_s cS h1
    unfold am_okS at h2
    dsimp only at h2
    rw [h4] at h2
    simp only [Bool.and_eq_true] at h2
    refine ⟨am_in_s h2.1.1, am_arOk_s h2.1.2, ?_⟩
    rcases Bool.or_eq_true _ _ ▸ h2.2 with h5 | h5
    · exact Or.inl (am_lkOk_s h5)
    · split at h5
      · cases h5
      · rename_i C hC
        simp only [Bool.and_eq_true] at h5
        exact Or.inr ⟨C, am_in_s h5.1, am_in_s h5.2⟩
  · intro o x z n mz h hz
    obtain ⟨q, h1, h3⟩ := Option.map_eq_some_iff.mp (show (am_lk2 LI o x).map (fun q => (q.1, q.2.1)) = some (z, n) from h)
    cases h3
    obtain ⟨m, h4, rfl⟩ := Option.map_eq_some_iff.mp (show (LM[q.1]?).map (fun q => q.1) = some mz from hz)
    have h2 := am_lk2_s cI h1
    unfold am_okI at h2
    dsimp only at h2
    rw [h4] at h2
    simp only [Bool.and_eq_true, decide_eq_true_eq, Option.isNone_iff_eq_none] at h2
    exact ⟨h2.1.1.1.1, h2.1.1.1.2, am_in_s h2.1.1.2, am_arOk_s h2.1.2, am_lkOk_s h2.2⟩
  · intro o x ci z n mz h hz
    obtain ⟨q, h1, h3⟩ := Option.map_eq_some_iff.mp (show (am_lk3 LV o x ci).map (fun q => (q.1, q.2.1)) = some (z, n) from h)
    obtain ⟨z', n', ip, sp, lp, form, xn, owner, mp, dp, cp⟩ := q
    cases h3
    obtain ⟨m, h4, rfl⟩ := Option.map_eq_some_iff.mp (show (LM[z']?).map (fun q => q.1) = some mz from hz)
    have h2 := am_lk3_s cV h1
    unfold am_okV at h2
    dsimp only at h2
    split at h2
    · rename_i C T N m' hc hm
      rw [h4] at hm
      cases hm
      rw [Bool.and_eq_true] at h2
      refine ⟨C, T, N, hc, am_in_s h2.1, ?_⟩
      have h5 := h2.2
      cases form with
      | some host =>
        simp only [Bool.and_eq_true] at h5
        exact Or.inl ⟨am_arOk_s h5.1.1, am_lkOk_s h5.1.2, am_in_s h5.2⟩
      | none =>
        simp only [Bool.and_eq_true, Bool.or_eq_true, decide_eq_true_eq] at h5
        obtain ⟨⟨⟨⟨⟨b1, b2⟩, b3⟩, b4⟩, b5⟩, b6⟩ := h5
        refine Or.inr ⟨xn, owner, am_arOk_s b1, b2, am_in_s b3, am_in_s b4, am_in_s b5, ?_⟩
        rcases b6 with b6 | ⟨b6, b7⟩
        · exact Or.inl (am_inN_s b6)
        · refine Or.inr ⟨am_in_s b6, ?_⟩
          split at b7
          · rename_i y' b m r hcp
            simp only [Bool.and_eq_true, decide_eq_true_eq] at b7
            rw [← b7.1]
            exact ⟨b, m, r, am_in_s b7.2⟩
          · cases b7
    · cases h2
  · intro o x
    have hn : ∀ c, c ≠ 0 → am_nt (am_mkP on kd LM LF tyf LK LW LC LA LZ sa LS LI LV LN LG LB) o x = c → ∃ q, am_okN on kd tb o (x, (c, q)) = true := by
      intro c hc h
      have h' : ((am_lk2 LN o x).map (fun q => q.1)).getD 0 = c := h
      cases hl : am_lk2 LN o x with
      | none => rw [hl] at h'; exact absurd h'.symm hc
      | some q =>
        rw [hl] at h'
        have h2 := am_lk2_s cT hl
        obtain ⟨c', ps⟩ := q
        have h3 : c' = c := h'
        subst h3
        exact ⟨ps, h2⟩
    refine ⟨fun h => ?_, fun h => ?_, fun h => ?_, fun h => ?_, fun t h => ?_⟩
    · obtain ⟨q, h2⟩ := hn 1 (by decide) h
      unfold am_okN at h2
      dsimp only at h2
      split at h2 <;> first | (rename_i he; cases he; done) | skip
      all_goals first | (simp only [Bool.and_eq_true] at h2; exact ⟨am_in_s h2.1.1.1, am_in_s h2.1.1.2, am_in_s h2.1.2, am_in_s h2.2⟩) | (cases h2; done) | (exfalso; simp_all; done)
    · obtain ⟨q, h2⟩ := hn 2 (by decide) h
      unfold am_okN at h2
      dsimp only at h2
      split at h2 <;> first | (rename_i he; cases he; done) | skip
      all_goals first | (simp only [Bool.and_eq_true] at h2; exact ⟨am_in_s h2.1.1, am_in_s h2.1.2, am_in_s h2.2⟩) | (cases h2; done) | (exfalso; simp_all; done)
    · obtain ⟨q, h2⟩ := hn 3 (by decide) h
      unfold am_okN at h2
      dsimp only at h2
      split at h2 <;> first | (rename_i he; cases he; done) | skip
      all_goals first | (simp only [Bool.and_eq_true] at h2; exact ⟨am_in_s h2.1.1.1.1.1, am_in_s h2.1.1.1.1.2, am_in_s h2.1.1.1.2, am_in_s h2.1.1.2, am_in_s h2.1.2, am_inN_s h2.2⟩) | (cases h2; done) | (exfalso; simp_all; done)
    · obtain ⟨q, h2⟩ := hn 4 (by decide) h
      unfold am_okN at h2
      dsimp only at h2
      split at h2 <;> first | (rename_i he; cases he; done) | skip
      all_goals first | exact am_in_s h2 | (cases h2; done) | (exfalso; simp_all; done)
    · obtain ⟨q, h2⟩ := hn (100 + t) (by omega) h
      unfold am_okN at h2
      dsimp only at h2
      split at h2
      · rename_i he; injection he with h5 h6; omega
      · rename_i he; injection he with h5 h6; omega
      · rename_i he; injection he with h5 h6; omega
      · rename_i he; injection he with h5 h6; omega
      · rename_i he; injection he with h5 h6; omega
      · rename_i he; injection he with h5 h6; omega
      · rename_i he; injection he with h5 h6; omega
      · rename_i he; injection he with h5 h6; omega
      · rename_i he
        injection he with h5 h6
        have h7 : t = 3 := by omega
        subst h7
        simp only [Bool.and_eq_true, decide_eq_true_eq] at h2
        exact ⟨h2.1.1, am_inN_s h2.1.2, am_in_s h2.2⟩
      · cases h2
  · intro o x j h
    have hq : ∃ q, am_okN on kd tb o (x, (10 + j, q)) = true := by
      have h' : ((am_lk2 LN o x).map (fun q => q.1)).getD 0 = 10 + j := h
      cases hl : am_lk2 LN o x with
      | none =>
        rw [hl] at h'
        have h3 : 0 = 10 + j := h'
        omega
      | some q =>
        rw [hl] at h'
        have h2 := am_lk2_s cT hl
        obtain ⟨c', ps⟩ := q
        have h3 : c' = 10 + j := h'
        subst h3
        exact ⟨ps, h2⟩
    obtain ⟨q, h2⟩ := hq
    match j, h2 with
    | 0, h2 =>
      unfold am_okN at h2
      dsimp only at h2
      split at h2 <;> first | (rename_i he; cases he; done) | skip
      all_goals first | (simp only [Bool.and_eq_true] at h2; exact ⟨am_in_s h2.1.1.1, am_in_s h2.1.1.2, am_in_s h2.1.2, am_in_s h2.2⟩) | (cases h2; done) | (exfalso; simp_all; done)
    | 1, h2 =>
      unfold am_okN at h2
      dsimp only at h2
      split at h2 <;> first | (rename_i he; cases he; done) | skip
      all_goals first | (simp only [Bool.and_eq_true] at h2; exact ⟨am_in_s h2.1.1.1, am_in_s h2.1.1.2, am_in_s h2.1.2, am_in_s h2.2⟩) | (cases h2; done) | (exfalso; simp_all; done)
    | 2, h2 =>
      unfold am_okN at h2
      dsimp only at h2
      split at h2 <;> first | (rename_i he; cases he; done) | skip
      all_goals first | (simp only [Bool.and_eq_true] at h2; exact ⟨am_in_s h2.1.1.1, am_in_s h2.1.1.2, am_in_s h2.1.2, am_in_s h2.2⟩) | (cases h2; done) | (exfalso; simp_all; done)
    | 3, h2 =>
      unfold am_okN at h2
      dsimp only at h2
      split at h2 <;> first | (rename_i he; cases he; done) | skip
      all_goals first | (simp only [Bool.and_eq_true] at h2; exact ⟨am_in_s h2.1.1.1, am_in_s h2.1.1.2, am_in_s h2.1.2, am_in_s h2.2⟩) | (cases h2; done) | (exfalso; simp_all; done)
    | _ + 4, _ => trivial
  · intro t ci h
    have h' : LG.any (fun q => q.1.1 == t && q.1.2 == ci) = true := h
    obtain ⟨q, h1, h2⟩ := List.any_eq_true.mp h'
    simp only [Bool.and_eq_true, beq_iff_eq] at h2
    have h3 := List.all_eq_true.mp cG q h1
    unfold am_okG at h3
    rw [h2.1, h2.2] at h3
    split at h3
    · rename_i E C T N hk hc
      simp only [Bool.or_eq_true, decide_eq_true_eq] at h3
      exact ⟨E, _, hk, hc, h3.imp id am_inN_s⟩
    · cases h3
end
