section
/-! AM: an abstract machine: frames as kit rows have them (pc, listed locals, stack), memory as a map; one instruction at a time. Nothing here speaks of the class. -/
abbrev am_E : Type := (Nat × vp_A) ⊕ (Nat × List Value)
abbrev am_H : Type := Nat → Option am_E
abbrev am_L : Type := List (Nat × Value)
def am_set (M : am_H) (a : Nat) (e : am_E) : am_H := fun q => if q = a then some e else M q
theorem am_same {M : am_H} {a : Nat} {e : am_E} : am_set M a e a = some e := by simp [am_set]
theorem am_ne {M : am_H} {a b : Nat} {e : am_E} (h : b ≠ a) : am_set M a e b = M b := by simp [am_set, h]
def am_ld (i : Nat) (lv : am_L) : Option Value := (lv.find? (fun q => q.1 == i)).map (fun q => q.2)
theorem am_ld_spec {i : Nat} {lv : am_L} {v : Value} (h : am_ld i lv = some v) : ∃ k : Nat, lv[k]? = some (i, v) := by
  unfold am_ld at h
  obtain ⟨q, hq, rfl⟩ := Option.map_eq_some_iff.mp h
  have h1 := List.find?_some hq
  have h2 := List.mem_of_find?_eq_some hq
  obtain ⟨k, hk⟩ := List.getElem?_of_mem h2
  exact ⟨k, by rw [hk, ← show q.1 = i by simpa using h1]⟩
theorem am_ld_at {ls : Array Slot} {nL i : Nat} {lv : am_L} {v : Value} (hl : lv_has ls nL lv) (h : am_ld i lv = some v) : ls[i]? = some (.val v) := by
  obtain ⟨k, hk⟩ := am_ld_spec h
  exact lv_at hl k hk
/-- what an instruction pushes that takes nothing from the stack -/
def am_li (v : Option Value) : Option Value := match v with
  | some (.int x) => some (.int x)
  | _ => none
def am_ll (v : Option Value) : Option Value := match v with
  | some (.long x) => some (.long x)
  | _ => none
def am_la (v : Option Value) : Option Value := match v with
  | some (.ref x) => some (.ref x)
  | some .null => some .null
  | _ => none
theorem am_li_s {o : Option Value} {v : Value} (h : am_li o = some v) : ∃ x : Int32, o = some (.int x) ∧ v = .int x := by
  unfold am_li at h
  split at h
  · exact ⟨_, rfl, by cases h; rfl⟩
  · cases h
theorem am_ll_s {o : Option Value} {v : Value} (h : am_ll o = some v) : ∃ x : Int64, o = some (.long x) ∧ v = .long x := by
  unfold am_ll at h
  split at h
  · exact ⟨_, rfl, by cases h; rfl⟩
  · cases h
theorem am_la_s {o : Option Value} {v : Value} (h : am_la o = some v) : (∃ x : Nat, o = some (.ref x) ∧ v = .ref x) ∨ (o = some .null ∧ v = .null) := by
  unfold am_la at h
  split at h
  · exact Or.inl ⟨_, rfl, by cases h; rfl⟩
  · exact Or.inr ⟨rfl, by cases h; rfl⟩
  · cases h
def am_push (cst : Nat → Option Value) (i : Instr) (lv : am_L) : Option (Nat × Value) := match i with
  | .iconst n => some (1, .int (Int32.ofInt n))
  | .bipush n => some (2, .int (Int8.ofInt n).toInt32)
  | .sipush n => some (3, .int (Int16.ofInt n).toInt32)
  | .lconst n => some (1, .long (Int64.ofNat (n : Nat)))
  | .aconst_null => some (1, .null)
  | .iload_n k => (am_li (am_ld k lv)).map (fun v => (1, v))
  | .iload k => (am_li (am_ld k lv)).map (fun v => (2, v))
  | .lload_n k => (am_ll (am_ld k lv)).map (fun v => (1, v))
  | .lload k => (am_ll (am_ld k lv)).map (fun v => (2, v))
  | .aload_n k => (am_la (am_ld k lv)).map (fun v => (1, v))
  | .aload k => (am_la (am_ld k lv)).map (fun v => (2, v))
  | .ldc k => (am_li (cst k)).map (fun v => (2, v))
  | .ldc_w k => (am_li (cst k)).map (fun v => (3, v))
  | .ldc2_w k => (am_ll (cst k)).map (fun v => (3, v))
  | _ => none
/-- what an instruction makes of the stack alone (all of length 1) -/
def am_ii (f : Int32 → Int32 → Value) (st : List Value) : Option (List Value) := match st with
  | .int y :: .int x :: r => some (f x y :: r)
  | _ => none
def am_jj (f : Int64 → Int64 → Value) (st : List Value) : Option (List Value) := match st with
  | .long y :: .long x :: r => some (f x y :: r)
  | _ => none
def am_ij (f : Int64 → Int32 → Value) (st : List Value) : Option (List Value) := match st with
  | .int y :: .long x :: r => some (f x y :: r)
  | _ => none
def am_i1 (f : Int32 → Value) (st : List Value) : Option (List Value) := match st with
  | .int x :: r => some (f x :: r)
  | _ => none
def am_j1 (f : Int64 → Value) (st : List Value) : Option (List Value) := match st with
  | .long x :: r => some (f x :: r)
  | _ => none
theorem am_ii_s {f : Int32 → Int32 → Value} {st st' : List Value} (h : am_ii f st = some st') : ∃ y x r, st = .int y :: .int x :: r ∧ st' = f x y :: r := by
  unfold am_ii at h
  split at h
  · exact ⟨_, _, _, rfl, by cases h; rfl⟩
  · cases h
theorem am_jj_s {f : Int64 → Int64 → Value} {st st' : List Value} (h : am_jj f st = some st') : ∃ y x r, st = .long y :: .long x :: r ∧ st' = f x y :: r := by
  unfold am_jj at h
  split at h
  · exact ⟨_, _, _, rfl, by cases h; rfl⟩
  · cases h
theorem am_ij_s {f : Int64 → Int32 → Value} {st st' : List Value} (h : am_ij f st = some st') : ∃ y x r, st = .int y :: .long x :: r ∧ st' = f x y :: r := by
  unfold am_ij at h
  split at h
  · exact ⟨_, _, _, rfl, by cases h; rfl⟩
  · cases h
theorem am_i1_s {f : Int32 → Value} {st st' : List Value} (h : am_i1 f st = some st') : ∃ x r, st = .int x :: r ∧ st' = f x :: r := by
  unfold am_i1 at h
  split at h
  · exact ⟨_, _, rfl, by cases h; rfl⟩
  · cases h
theorem am_j1_s {f : Int64 → Value} {st st' : List Value} (h : am_j1 f st = some st') : ∃ x r, st = .long x :: r ∧ st' = f x :: r := by
  unfold am_j1 at h
  split at h
  · exact ⟨_, _, rfl, by cases h; rfl⟩
  · cases h
def am_nz (i : Instr) (st : List Value) : Prop := match i with
  | .idiv | .irem => ∃ y r, st = Value.int y :: r ∧ ¬ y = 0
  | .lrem | .ldiv => ∃ y r, st = Value.long y :: r ∧ ¬ y = 0
  | _ => True
def am_dup (st : List Value) : Option (List Value) := match st with
  | v :: r => if v.category = 1 then some (v :: v :: r) else none
  | _ => none
def am_pop (st : List Value) : Option (List Value) := match st with
  | v :: r => if v.category = 1 then some r else none
  | _ => none
def am_dup2 (st : List Value) : Option (List Value) := match st with
  | v :: r => if v.category = 2 then some (v :: v :: r) else match r with
    | w :: r2 => if v.category = 1 ∧ w.category = 1 then some (v :: w :: v :: w :: r2) else none
    | _ => none
  | _ => none
def am_op (i : Instr) (st : List Value) : Option (List Value) := match i with
  | .iadd => am_ii (fun x y => .int (x + y)) st
  | .isub => am_ii (fun x y => .int (x - y)) st
  | .imul => am_ii (fun x y => .int (x * y)) st
  | .iand => am_ii (fun x y => .int (x &&& y)) st
  | .ior => am_ii (fun x y => .int (x ||| y)) st
  | .ixor => am_ii (fun x y => .int (x ^^^ y)) st
  | .idiv => am_ii (fun x y => .int (x / y)) st
  | .irem => am_ii (fun x y => .int (x - x / y * y)) st
  | .ishl => am_ii (fun x y => .int (x <<< (y &&& 31))) st
  | .ishr => am_ii (fun x y => .int (x >>> (y &&& 31))) st
  | .iushr => am_ii (fun x y => .int (x.toUInt32 >>> (y.toUInt32 &&& Int32.toUInt32 31)).toInt32) st
  | .ineg => am_i1 (fun x => .int (-x)) st
  | .i2l => am_i1 (fun x => .long x.toInt64) st
  | .l2i => am_j1 (fun x => .int x.toInt32) st
  | .lneg => am_j1 (fun x => .long (-x)) st
  | .ladd => am_jj (fun x y => .long (x + y)) st
  | .lsub => am_jj (fun x y => .long (x - y)) st
  | .lmul => am_jj (fun x y => .long (x * y)) st
  | .land => am_jj (fun x y => .long (x &&& y)) st
  | .lor => am_jj (fun x y => .long (x ||| y)) st
  | .lxor => am_jj (fun x y => .long (x ^^^ y)) st
  | .lrem => am_jj (fun x y => .long (x - x / y * y)) st
  | .lcmp => am_jj (fun x y => .int (lg_cmp x y)) st
  | .lshl => am_ij (fun x y => .long (x <<< (y.toInt64 &&& 63))) st
  | .lshr => am_ij (fun x y => .long (x >>> (y.toInt64 &&& 63))) st
  | .lushr => am_ij (fun x y => .long (x.toUInt64 >>> (y.toInt64.toUInt64 &&& Int64.toUInt64 63)).toInt64) st
  | .dup => am_dup st
  | .pop => am_pop st
  | .dup2 => am_dup2 st
  | _ => none
/-- what an instruction makes of locals (and takes from the stack); of length len, in a frame of nL locals -/
def am_st1 (i : Nat) (v : Value) (lv : am_L) : am_L := (i, v) :: lv.filter (fun q => !(q.1 == i) && !(q.1 + 1 == i && q.2.category == 2))
def am_st2 (i : Nat) (v : Value) (lv : am_L) : am_L := (i, v) :: lv.filter (fun q => !(q.1 == i) && (!(q.1 == i + 1) && !(q.1 + 1 == i && q.2.category == 2)))
def am_si (i : Nat) (lv : am_L) (st : List Value) : Option (am_L × List Value) := match st with
  | .int x :: r => some (am_st1 i (.int x) lv, r)
  | _ => none
def am_sj (i : Nat) (lv : am_L) (st : List Value) : Option (am_L × List Value) := match st with
  | .long x :: r => some (am_st2 i (.long x) lv, r)
  | _ => none
def am_sa (i : Nat) (lv : am_L) (st : List Value) : Option (am_L × List Value) := match st with
  | .ref x :: r => some (am_st1 i (.ref x) lv, r)
  | .null :: r => some (am_st1 i .null lv, r)
  | _ => none
theorem am_si_s {i : Nat} {lv : am_L} {st : List Value} {o : am_L × List Value} (h : am_si i lv st = some o) : ∃ x r, st = .int x :: r ∧ o = (am_st1 i (.int x) lv, r) := by
  unfold am_si at h
  split at h
  · exact ⟨_, _, rfl, by cases h; rfl⟩
  · cases h
theorem am_sj_s {i : Nat} {lv : am_L} {st : List Value} {o : am_L × List Value} (h : am_sj i lv st = some o) : ∃ x r, st = .long x :: r ∧ o = (am_st2 i (.long x) lv, r) := by
  unfold am_sj at h
  split at h
  · exact ⟨_, _, rfl, by cases h; rfl⟩
  · cases h
theorem am_sa_s {i : Nat} {lv : am_L} {st : List Value} {o : am_L × List Value} (h : am_sa i lv st = some o) : (∃ x r, st = .ref x :: r ∧ o = (am_st1 i (.ref x) lv, r)) ∨ ∃ r, st = .null :: r ∧ o = (am_st1 i .null lv, r) := by
  unfold am_sa at h
  split at h
  · exact Or.inl ⟨_, _, rfl, by cases h; rfl⟩
  · exact Or.inr ⟨_, rfl, by cases h; rfl⟩
  · cases h
def am_inc (i : Nat) (n : Int) (lv : am_L) (st : List Value) : Option (am_L × List Value) := match am_ld i lv with
  | some (.int x) => some (am_st1 i (.int (x + Int32.ofInt n)) lv, st)
  | _ => none
def am_sto (i : Instr) (lv : am_L) (st : List Value) : Option (Nat × Nat × am_L × List Value) := match i with
  | .istore_n k => (am_si k lv st).map (fun o => (1, (k : Nat) + 1, o))
  | .istore k => (am_si k lv st).map (fun o => (2, k + 1, o))
  | .lstore_n k => (am_sj k lv st).map (fun o => (1, (k : Nat) + 2, o))
  | .lstore k => (am_sj k lv st).map (fun o => (2, k + 2, o))
  | .astore_n k => (am_sa k lv st).map (fun o => (1, (k : Nat) + 1, o))
  | .astore k => (am_sa k lv st).map (fun o => (2, k + 1, o))
  | .iinc k n => (am_inc k n lv st).map (fun o => (3, k + 1, o))
  | _ => none
/-- branches -/
def am_tg (pc : Nat) (off : Int) (K : Nat → Prop) : Prop := ∃ t : Nat, (pc : Int) + off = (t : Int) ∧ K t
def am_c0 (c : Jvm.ClassFile.Cond) (x : Int32) : Prop := match c with
  | .eq => x = 0
  | .ne => ¬ x = 0
  | .lt => x < 0
  | .ge => 0 ≤ x
  | .gt => 0 < x
  | .le => x ≤ 0
def am_c2 (c : Jvm.ClassFile.Cond) (x y : Int32) : Prop := match c with
  | .eq => x = y
  | .ne => ¬ x = y
  | .lt => x < y
  | .ge => y ≤ x
  | .gt => y < x
  | .le => x ≤ y
def am_br (i : Instr) (len pc : Nat) (st : List Value) (K : Nat → List Value → Prop) : Prop := match i with
  | .goto off => len = 3 ∧ am_tg pc off (fun t => K t st)
  | .ifCond c off => len = 3 ∧ ∃ x r, st = Value.int x :: r ∧ am_tg pc off (fun t => (am_c0 c x → K t r) ∧ (¬ am_c0 c x → K (pc + 3) r))
  | .if_icmp c off => len = 3 ∧ ∃ y x r, st = Value.int y :: Value.int x :: r ∧ am_tg pc off (fun t => (am_c2 c x y → K t r) ∧ (¬ am_c2 c x y → K (pc + 3) r))
  | .ifnull off => len = 3 ∧ ((∃ x r, st = Value.ref x :: r ∧ K (pc + 3) r) ∨ ∃ r, st = Value.null :: r ∧ am_tg pc off (fun t => K t r))
  | .ifnonnull off => len = 3 ∧ ((∃ x r, st = Value.ref x :: r ∧ am_tg pc off (fun t => K t r)) ∨ ∃ r, st = Value.null :: r ∧ K (pc + 3) r)
  | .tableswitch dflt lo hi offs => ∃ x r, st = Value.int x :: r ∧ ((x.toInt < lo ∨ hi < x.toInt) → am_tg pc dflt (fun t => K t r)) ∧ (¬ x.toInt < lo → ¬ hi < x.toInt → ∃ off, offs[(x.toInt - lo).toNat]? = some off ∧ am_tg pc off (fun t => K t r))
  | .lookupswitch dflt ps => ∃ x r, st = Value.int x :: r ∧ (ps.toList.zip (ps.toList.drop 1)).all (fun (a, next) => a.1 < next.1) = true ∧ am_tg pc (Op.lookupswitch.offset ps.toList dflt x.toInt) (fun t => K t r)
  | _ => False
end
section
/-! AM's single instructions are the machine's: push, stack, locals, branches -/
section AMW
variable {p : Program} {l : Launch} {e : Env} {R : Room} {s : State} {m : MethodId} {args : Array Value} {below : List Frame} {meth : Method} {c : Code} {H : Heap} {locs : List Loc} {cells slots : Nat} {Q : State → Prop}
variable {cc : ByteArray} {pc : Nat} {ls : Array Slot}
def am_cstOk (own : String) (cst : Nat → Option Value) (args : Array Value) (s : State) : Prop := ∀ (k : Nat) (v : Value), cst k = some v → (∃ x : Int32, v = .int x ∧ (Jvm.Cond.constant own k x).before args s = true) ∨ (∃ x : Int64, v = .long x ∧ (Jvm.Cond.constantLong own k x).before args s = true)
theorem am_mp {α β : Type} {o : Option α} {f : α → β} {y : β} (h : o.map f = some y) : ∃ x, o = some x ∧ f x = y := Option.map_eq_some_iff.mp h
theorem am_push_W (hx : p.tables.exec = Jvm.exec) (hb : c.code = cc) {cst : Nat → Option Value} {own : String} (hown : s.vm.findClass own = some m.cls) (hcst : am_cstOk own cst args s) {i : Instr} {lv : am_L} {len nL : Nat} {v : Value} (h : am_push cst i lv = some (len, v)) (hd : decode cc pc = .ok (i, len)) (hl : lv_has ls nL lv) {st : List Value}
    (k : W p l e R s m args below meth c H locs cells slots Q (F0 m (pc + len) ls (v :: st))) : W p l e R s m args below meth c H locs cells slots Q (F0 m pc ls st) := by
  cases i with
  | iconst n => cases h; exact lv_iconst hx hb hd rfl k
  | bipush n => cases h; exact lv_bipush hx hb hd rfl k
  | sipush n => cases h; exact lv_sipush hx hb hd rfl k
  | lconst n => cases h; exact lv_lconst hx hb hd rfl k
  | aconst_null => cases h; exact lv_null hx hb hd k
  | iload_n q =>
    obtain ⟨w, h1, h2⟩ := am_mp h
    obtain ⟨x, h3, rfl⟩ := am_li_s h1
    cases h2
    exact lv_iload_n hx hb hd rfl (am_ld_at hl h3) k
  | iload q =>
    obtain ⟨w, h1, h2⟩ := am_mp h
    obtain ⟨x, h3, rfl⟩ := am_li_s h1
    cases h2
    exact lv_iload hx hb hd (am_ld_at hl h3) k
  | lload_n q =>
    obtain ⟨w, h1, h2⟩ := am_mp h
    obtain ⟨x, h3, rfl⟩ := am_ll_s h1
    cases h2
    exact lv_lload_n hx hb hd rfl (am_ld_at hl h3) k
  | lload q =>
    obtain ⟨w, h1, h2⟩ := am_mp h
    obtain ⟨x, h3, rfl⟩ := am_ll_s h1
    cases h2
    exact lv_lload hx hb hd (am_ld_at hl h3) k
  | aload_n q =>
    obtain ⟨w, h1, h2⟩ := am_mp h
    cases h2
    rcases am_la_s h1 with ⟨x, h3, rfl⟩ | ⟨h3, rfl⟩
    · exact lv_aload_n hx hb hd rfl (am_ld_at hl h3) k
    · exact lv_aload_nN hx hb hd rfl (am_ld_at hl h3) k
  | aload q =>
    obtain ⟨w, h1, h2⟩ := am_mp h
    cases h2
    rcases am_la_s h1 with ⟨x, h3, rfl⟩ | ⟨h3, rfl⟩
    · exact lv_aload hx hb hd (am_ld_at hl h3) k
    · exact lv_aloadN hx hb hd (am_ld_at hl h3) k
  | ldc q =>
    obtain ⟨w, h1, h2⟩ := am_mp h
    obtain ⟨x, h3, rfl⟩ := am_li_s h1
    cases h2
    rcases hcst q _ h3 with ⟨y, h4, h5⟩ | ⟨y, h4, h5⟩
    · cases h4
      exact lv_ldc hx hb hown h5 hd k
    · cases h4
  | ldc_w q =>
    obtain ⟨w, h1, h2⟩ := am_mp h
    obtain ⟨x, h3, rfl⟩ := am_li_s h1
    cases h2
    rcases hcst q _ h3 with ⟨y, h4, h5⟩ | ⟨y, h4, h5⟩
    · cases h4
      exact lv_ldcw hx hb hown h5 hd k
    · cases h4
  | ldc2_w q =>
    obtain ⟨w, h1, h2⟩ := am_mp h
    obtain ⟨x, h3, rfl⟩ := am_ll_s h1
    cases h2
    rcases hcst q _ h3 with ⟨y, h4, h5⟩ | ⟨y, h4, h5⟩
    · cases h4
    · cases h4
      exact lv_ldc2 hx hb hown h5 hd k
  | _ => cases h
theorem am_op_W (hx : p.tables.exec = Jvm.exec) (hb : c.code = cc) {i : Instr} {st st' : List Value} (h : am_op i st = some st') (hz : am_nz i st) (hd : decode cc pc = .ok (i, 1))
    (k : W p l e R s m args below meth c H locs cells slots Q (F0 m (pc + 1) ls st')) : W p l e R s m args below meth c H locs cells slots Q (F0 m pc ls st) := by
  cases i with
  | iadd => obtain ⟨y, x, r, rfl, rfl⟩ := am_ii_s h; exact lv_iadd hx hb hd k
  | isub => obtain ⟨y, x, r, rfl, rfl⟩ := am_ii_s h; exact lv_isub hx hb hd k
  | imul => obtain ⟨y, x, r, rfl, rfl⟩ := am_ii_s h; exact lv_imul hx hb hd k
  | iand => obtain ⟨y, x, r, rfl, rfl⟩ := am_ii_s h; exact lv_iand hx hb hd k
  | ior => obtain ⟨y, x, r, rfl, rfl⟩ := am_ii_s h; exact lv_ior hx hb hd k
  | ixor => obtain ⟨y, x, r, rfl, rfl⟩ := am_ii_s h; exact lv_ixor hx hb hd k
  | ishl => obtain ⟨y, x, r, rfl, rfl⟩ := am_ii_s h; exact lv_ishl hx hb hd k
  | ishr => obtain ⟨y, x, r, rfl, rfl⟩ := am_ii_s h; exact lv_ishr hx hb hd k
  | iushr => obtain ⟨y, x, r, rfl, rfl⟩ := am_ii_s h; exact lv_iushr hx hb hd rfl k
  | idiv =>
    obtain ⟨y, x, r, rfl, rfl⟩ := am_ii_s h
    obtain ⟨y2, r2, h1, h2⟩ := hz
    cases h1
    exact lv_idiv hx hb hd h2 k
  | irem =>
    obtain ⟨y, x, r, rfl, rfl⟩ := am_ii_s h
    obtain ⟨y2, r2, h1, h2⟩ := hz
    cases h1
    exact lv_irem hx hb hd h2 k
  | ineg => obtain ⟨x, r, rfl, rfl⟩ := am_i1_s h; exact lv_ineg hx hb hd k
  | i2l => obtain ⟨x, r, rfl, rfl⟩ := am_i1_s h; exact lv_i2l hx hb hd rfl k
  | l2i => obtain ⟨x, r, rfl, rfl⟩ := am_j1_s h; exact lv_l2i hx hb hd rfl k
  | lneg => obtain ⟨x, r, rfl, rfl⟩ := am_j1_s h; exact lv_lneg hx hb hd k
  | ladd => obtain ⟨y, x, r, rfl, rfl⟩ := am_jj_s h; exact lv_ladd hx hb hd k
  | lsub => obtain ⟨y, x, r, rfl, rfl⟩ := am_jj_s h; exact lv_lsub hx hb hd k
  | lmul => obtain ⟨y, x, r, rfl, rfl⟩ := am_jj_s h; exact lv_lmul hx hb hd k
  | land => obtain ⟨y, x, r, rfl, rfl⟩ := am_jj_s h; exact lv_land hx hb hd k
  | lor => obtain ⟨y, x, r, rfl, rfl⟩ := am_jj_s h; exact lv_lor hx hb hd k
  | lxor => obtain ⟨y, x, r, rfl, rfl⟩ := am_jj_s h; exact lv_lxor hx hb hd k
  | lrem =>
    obtain ⟨y, x, r, rfl, rfl⟩ := am_jj_s h
    obtain ⟨y2, r2, h1, h2⟩ := hz
    cases h1
    exact lv_lrem hx hb hd h2 k
  | lcmp => obtain ⟨y, x, r, rfl, rfl⟩ := am_jj_s h; exact W.lcmp hx hb hd k
  | lshl => obtain ⟨y, x, r, rfl, rfl⟩ := am_ij_s h; exact lv_lshl hx hb hd rfl k
  | lshr => obtain ⟨y, x, r, rfl, rfl⟩ := am_ij_s h; exact lv_lshr hx hb hd rfl k
  | lushr => obtain ⟨y, x, r, rfl, rfl⟩ := am_ij_s h; exact lv_lushr hx hb hd rfl k
  | dup =>
    cases st with
    | nil => cases h
    | cons v r =>
      simp only [am_op, am_dup] at h
      split at h
      · cases h
        exact lv_dup hx hb hd (by assumption) k
      · cases h
  | pop =>
    cases st with
    | nil => cases h
    | cons v r =>
      simp only [am_op, am_pop] at h
      split at h
      · cases h
        exact lv_pop hx hb hd (by assumption) k
      · cases h
  | dup2 =>
    cases st with
    | nil => cases h
    | cons v r =>
      simp only [am_op, am_dup2] at h
      split at h
      · cases h
        exact lv_dup2_2 hx hb hd (by assumption) k
      · cases r with
        | nil => cases h
        | cons w r2 =>
          dsimp only at h
          split at h
          · rename_i hc
            cases h
            exact lv_dup2_11 hx hb hd hc.1 hc.2 k
          · cases h
  | _ => cases h
theorem am_sto_W (hx : p.tables.exec = Jvm.exec) (hb : c.code = cc) {i : Instr} {lv lv' : am_L} {st st' : List Value} {len n nL : Nat} (h : am_sto i lv st = some (len, n, lv', st')) (hn : n ≤ nL) {len' : Nat} (hlen : len' = len ∨ (len = 3 ∧ len' = 6)) (hd : decode cc pc = .ok (i, len')) (hl : lv_has ls nL lv)
    (k : ∀ ls' : Array Slot, lv_has ls' nL lv' → W p l e R s m args below meth c H locs cells slots Q (F0 m (pc + len') ls' st')) : W p l e R s m args below meth c H locs cells slots Q (F0 m pc ls st) := by
  cases i with
  | istore_n q =>
    obtain ⟨o, h1, h2⟩ := am_mp h
    obtain ⟨x, r, rfl, rfl⟩ := am_si_s h1
    cases h2
    rcases hlen with rfl | ⟨hh, -⟩
    · exact lv_istore_n hx hb hd rfl hl (by omega) rfl k
    · cases hh
  | istore q =>
    obtain ⟨o, h1, h2⟩ := am_mp h
    obtain ⟨x, r, rfl, rfl⟩ := am_si_s h1
    cases h2
    rcases hlen with rfl | ⟨hh, -⟩
    · exact lv_istore hx hb hd hl (by omega) rfl k
    · cases hh
  | lstore_n q =>
    obtain ⟨o, h1, h2⟩ := am_mp h
    obtain ⟨x, r, rfl, rfl⟩ := am_sj_s h1
    cases h2
    rcases hlen with rfl | ⟨hh, -⟩
    · exact lv_lstore_n hx hb hd rfl hl (by omega) rfl k
    · cases hh
  | lstore q =>
    obtain ⟨o, h1, h2⟩ := am_mp h
    obtain ⟨x, r, rfl, rfl⟩ := am_sj_s h1
    cases h2
    rcases hlen with rfl | ⟨hh, -⟩
    · exact lv_lstore hx hb hd hl (by omega) rfl k
    · cases hh
  | astore_n q =>
    obtain ⟨o, h1, h2⟩ := am_mp h
    rcases am_sa_s h1 with ⟨x, r, rfl, rfl⟩ | ⟨r, rfl, rfl⟩
    · cases h2
      rcases hlen with rfl | ⟨hh, -⟩
      · exact lv_astore_n hx hb hd rfl hl (by omega) rfl k
      · cases hh
    · cases h2
      rcases hlen with rfl | ⟨hh, -⟩
      · exact lv_astore_nN hx hb hd rfl hl (by omega) rfl k
      · cases hh
  | astore q =>
    obtain ⟨o, h1, h2⟩ := am_mp h
    rcases am_sa_s h1 with ⟨x, r, rfl, rfl⟩ | ⟨r, rfl, rfl⟩
    · cases h2
      rcases hlen with rfl | ⟨hh, -⟩
      · exact lv_astore hx hb hd hl (by omega) rfl k
      · cases hh
    · cases h2
      rcases hlen with rfl | ⟨hh, -⟩
      · exact lv_astoreN hx hb hd hl (by omega) rfl k
      · cases hh
  | iinc q z =>
    obtain ⟨o, h1, h2⟩ := am_mp h
    unfold am_inc at h1
    split at h1
    · rename_i x hx1
      cases h1
      cases h2
      obtain ⟨kk, hk⟩ := am_ld_spec hx1
      rcases hlen with rfl | ⟨-, rfl⟩
      · exact lv_iinc hx hb hd hl hk rfl (by omega) rfl k
      · exact lv_iincW hx hb hd hl hk rfl (by omega) rfl k
    · cases h1
  | _ => cases h
theorem am_br_W (hx : p.tables.exec = Jvm.exec) (hb : c.code = cc) {i : Instr} {st : List Value} {len : Nat} {K : Nat → List Value → Prop} (h : am_br i len pc st K) (hd : decode cc pc = .ok (i, len))
    (k : ∀ t r, K t r → W p l e R s m args below meth c H locs cells slots Q (F0 m t ls r)) : W p l e R s m args below meth c H locs cells slots Q (F0 m pc ls st) := by
  cases i with
  | goto off =>
    obtain ⟨rfl, t, ht, h1⟩ := h
    exact lv_goto hx hb hd ht (k _ _ h1)
  | ifCond cd off =>
    obtain ⟨rfl, x, r, rfl, t, ht, h1, h2⟩ := h
    cases cd with
    | eq => exact lv_if_eq hx hb hd ht (fun q => k _ _ (h1 q)) (fun q => k _ _ (h2 q))
    | ne => exact lv_if_ne hx hb hd ht (fun q => k _ _ (h1 q)) (fun q => k _ _ (h2 (fun z => z q)))
    | lt => exact lv_if_lt hx hb hd ht (fun q => k _ _ (h1 q)) (fun q => k _ _ (h2 q))
    | ge => exact lv_if_ge hx hb hd ht (fun q => k _ _ (h1 q)) (fun q => k _ _ (h2 q))
    | gt => exact lv_if_gt hx hb hd ht (fun q => k _ _ (h1 q)) (fun q => k _ _ (h2 q))
    | le => exact lv_if_le hx hb hd ht (fun q => k _ _ (h1 q)) (fun q => k _ _ (h2 q))
  | if_icmp cd off =>
    obtain ⟨rfl, y, x, r, rfl, t, ht, h1, h2⟩ := h
    cases cd with
    | eq => exact lv_icmp_eq hx hb hd ht (fun q => k _ _ (h1 q)) (fun q => k _ _ (h2 q))
    | ne => exact lv_icmp_ne hx hb hd ht (fun q => k _ _ (h1 q)) (fun q => k _ _ (h2 (fun z => z q)))
    | lt => exact lv_icmp_lt hx hb hd ht (fun q => k _ _ (h1 q)) (fun q => k _ _ (h2 q))
    | ge => exact lv_icmp_ge hx hb hd ht (fun q => k _ _ (h1 q)) (fun q => k _ _ (h2 q))
    | gt => exact lv_icmp_gt hx hb hd ht (fun q => k _ _ (h1 q)) (fun q => k _ _ (h2 q))
    | le => exact lv_icmp_le hx hb hd ht (fun q => k _ _ (h1 q)) (fun q => k _ _ (h2 q))
  | ifnull off =>
    obtain ⟨rfl, ⟨x, r, rfl, h1⟩ | ⟨r, rfl, t, ht, h1⟩⟩ := h
    · exact lv_ifnull hx hb hd (k _ _ h1)
    · exact lv_ifnullN hx hb hd ht (k _ _ h1)
  | ifnonnull off =>
    obtain ⟨rfl, ⟨x, r, rfl, t, ht, h1⟩ | ⟨r, rfl, h1⟩⟩ := h
    · exact lv_ifnonnull hx hb hd ht (k _ _ h1)
    · exact lv_ifnonnullN hx hb hd (k _ _ h1)
  | tableswitch dflt lo hi offs =>
    obtain ⟨x, r, rfl, h1, h2⟩ := h
    by_cases hq : x.toInt < lo ∨ hi < x.toInt
    · obtain ⟨t, ht, h3⟩ := h1 hq
      exact lv_tableOut hx hb hd hq ht (k _ _ h3)
    · obtain ⟨off, ho, t, ht, h3⟩ := h2 (fun z => hq (Or.inl z)) (fun z => hq (Or.inr z))
      exact lv_tableIn hx hb hd (fun z => hq (Or.inl z)) (fun z => hq (Or.inr z)) ho ht (k _ _ h3)
  | lookupswitch dflt ps =>
    obtain ⟨x, r, rfl, hs, t, ht, h3⟩ := h
    exact lv_lookup hx hb hd hs rfl ht (k _ _ h3)
  | _ => exact False.elim h
end AMW
end
section
/-! AM's memory over the machine's heap: am_R; the heap's instructions, a row each -/
def am_enc1 (ca : Nat → ClassId) (e : am_E) : va_E := match e with
  | .inl (t, x) => .inl (ca t, x)
  | .inr o => .inr o
def am_R (D : va_G) (cl : List vw_C) (A : Nat → Prop) (ca : Nat → ClassId) (M : am_H) (H : Heap) : Prop := ∀ (a : Nat) (e : am_E), M a = some e → va_at D cl (a, am_enc1 ca e) H ∧ A a
def am_tys (kd : List FieldType) (ca : Nat → ClassId) : List (ClassId × FieldType) := kd.zipIdx.map (fun q => (ca q.2, q.1))
theorem am_tys_at {kd : List FieldType} {ca : Nat → ClassId} {t : Nat} {ty : FieldType} (h : kd[t]? = some ty) : (am_tys kd ca)[t]? = some (ca t, ty) := by
  unfold am_tys
  rw [List.getElem?_map, List.getElem?_zipIdx, h]
  simp
theorem am_one {D : va_G} {cl : List vw_C} {q : Nat × va_E} {H : Heap} (h : va_at D cl q H) : va_P D cl [q] H := by
  intro k x hx
  have hz : k < 1 := (List.getElem?_eq_some_iff.mp hx).1
  rw [show k = 0 by omega] at hx
  cases hx
  exact h
theorem am_R.lt {D : va_G} {cl : List vw_C} {A : Nat → Prop} {ca : Nat → ClassId} {M : am_H} {H : Heap} (h : am_R D cl A ca M H) {a : Nat} {e : am_E} (ha : M a = some e) : a < H.size := (h a e ha).1.lt
theorem am_R.set {D : va_G} {cl : List vw_C} {A : Nat → Prop} {ca : Nat → ClassId} {M : am_H} {H H1 : Heap} (h : am_R D cl A ca M H) {a : Nat} {e : am_E} (hA : A a) (he : va_at D cl (a, am_enc1 ca e) H1) (oq : ∀ q : Nat, q ≠ a → H1[q]? = H[q]?) : am_R D cl A ca (am_set M a e) H1 := by
  intro b x hx
  by_cases hb : b = a
  · subst hb
    rw [am_same] at hx
    cases hx
    exact ⟨he, hA⟩
  · rw [am_ne hb] at hx
    exact ⟨(h b x hx).1.kept (oq b hb), (h b x hx).2⟩
theorem am_R.push {D : va_G} {cl : List vw_C} {A : Nat → Prop} {ca : Nat → ClassId} {M : am_H} {H H1 : Heap} (h : am_R D cl A ca M H) {e : am_E} (hA : A H.size) (he : va_at D cl (H.size, am_enc1 ca e) H1) (oq : ∀ q : Nat, q < H.size → H1[q]? = H[q]?) : am_R D cl A ca (am_set M H.size e) H1 := by
  intro b x hx
  by_cases hb : b = H.size
  · subst hb
    rw [am_same] at hx
    cases hx
    exact ⟨he, hA⟩
  · rw [am_ne hb] at hx
    exact ⟨(h b x hx).1.kept (oq b (h.lt hx)), (h b x hx).2⟩
theorem am_S_put {A : Nat → Prop} {H0 H H1 : Heap} {locs : List Loc} {a k : Nat} (h : va_S A H0 H locs) (z : H1.size = H.size) (oq : ∀ q : Nat, q ≠ a → H1[q]? = H[q]?) (ha : A a) : va_S A H0 H1 (locs ++ [⟨a, k⟩]) := h.put z oq ha
theorem am_S_push {A : Nat → Prop} {H0 H H1 : Heap} {locs : List Loc} (h : va_S A H0 H locs) (z : H.size ≤ H1.size) (oq : ∀ q : Nat, q < H.size → H1[q]? = H[q]?) : va_S A H0 H1 locs := ⟨Nat.le_trans h.1 z, fun x h1 h2 => (oq x (Nat.lt_of_lt_of_le h1 h.1)).trans (h.2.1 x h1 h2), h.2.2⟩
/-- what links a field of a class, seen from a method's class -/
def am_fOk (Ts Nw : List Cond) (cl : List vw_C) (own : String) (index ci k : Nat) : Prop := ∃ (C : String) (T : u_T) (N : Nat) (ref : String), cl[ci]? = some (C, T, N) ∧ k < N ∧ (∀ w ∈ u_ws C T N, w ∈ Ts) ∧ (ref = (T k).1 ∨ Cond.sameField ref (T k).1 (T k).2.1 (T k).2.2.1 ∈ Ts) ∧ (Cond.fieldLink own index ref (T k).2.1 (T k).2.2.1 ∈ Ts ∨ ∃ host, Cond.fieldLinkNest own index ref (T k).2.1 (T k).2.2.1 host ∈ Nw)
/-- a class's fields: their types, their names apart -/
def am_cOk (Ts : List Cond) (cl : List vw_C) (tyf : Nat → Nat → FieldType) : Prop := ∀ (ci : Nat) (C : String) (T : u_T) (N : Nat), cl[ci]? = some (C, T, N) → (∀ w ∈ u_ws C T N, w ∈ Ts) ∧ (∀ k, k < N → parseFieldDescriptor (T k).2.2.1 = some (tyf ci k)) ∧ (∀ a, a < N → ∀ b, b < N → a ≠ b → (T a).2.1 ≠ (T b).2.1) ∧ Cond.instantiable C N ∈ Ts ∧ Cond.initialized C ∈ Ts
section AMR
variable {p : Program} {l : Launch} {e : Env} {R : Room} {s : State} {m : MethodId} {args : Array Value} {below : List Frame} {meth : Method} {c : Code} {H : Heap} {locs : List Loc} {cells slots : Nat} {Q : State → Prop}
variable {cc : ByteArray} {pc : Nat} {ls : Array Slot} {rest : List Value} {D : va_G} {cl : List vw_C} {A : Nat → Prop} {a : Nat} {H0 : Heap} {ca : Nat → ClassId} {kd : List FieldType} {M : am_H} {Ts Nw : List Cond}
theorem am_getf_W (hx : p.tables.exec = Jvm.exec) (hb : c.code = cc) (hts : ∀ w ∈ Ts, w.before args s = true) (hnw : ∀ w ∈ Nw, va_Nw w s) {own : String} (hown : s.vm.findClass own = some m.cls) (hK : va_K D cl (am_tys kd ca) s) {ci k index : Nat} {fs : List Value} {v : Value} (he : va_at D cl (a, .inr (ci, fs)) H) (hf : am_fOk Ts Nw cl own index ci k) (hv : fs[k]? = some v) (hd : decode cc pc = .ok (.getfield index, 3))
    (kk : W p l e R s m args below meth c H locs cells slots Q (F0 m (pc + 3) ls (v :: rest))) : W p l e R s m args below meth c H locs cells slots Q (F0 m pc ls (.ref a :: rest)) := by
  obtain ⟨C, T, N, ref, hc, hk, hin, href, hlink⟩ := hf
  have hsame : ∀ x, s.fieldFound? (T k).1 (T k).2.1 (T k).2.2.1 = some x → s.fieldFound? ref (T k).2.1 (T k).2.2.1 = some x := by
    rcases href with rfl | h
    · exact fun x h => h
    · exact fun x ho => u_same (hts _ h) x ho
  rcases hlink with h | ⟨host, h⟩
  · exact va_get hx hb hts hin hown hK (am_one he) 0 rfl hc k hk (hts _ h) hsame hv hd kk
  · exact va_getN hx hb hts hin hown hK (am_one he) 0 rfl hc k hk (va_Nw.use rfl (hnw _ h)) hsame hv hd kk
theorem am_putf_W (hx : p.tables.exec = Jvm.exec) (hb : c.code = cc) (hts : ∀ w ∈ Ts, w.before args s = true) (hnw : ∀ w ∈ Nw, va_Nw w s) {own : String} (hown : s.vm.findClass own = some m.cls) (hK : va_K D cl (am_tys kd ca) s) {tyf : Nat → Nat → FieldType} (hcok : am_cOk Ts cl tyf) {ci k index : Nat} {fs : List Value} {v : Value} (he : va_at D cl (a, .inr (ci, fs)) H) (hf : am_fOk Ts Nw cl own index ci k) (hl : k < fs.length) (hn : narrow (tyf ci k) v = v) (hfit : fits (tyf ci k) v = true)
    (hfin : ∀ C T N, cl[ci]? = some (C, T, N) → (T k).2.2.2 = false ∨ (meth.name = "<init>" ∧ (T k).1 = own ∧ ∃ ref, (ref = (T k).1) ∧ Cond.fieldLink own index ref (T k).2.1 (T k).2.2.1 ∈ Ts)) (hd : decode cc pc = .ok (.putfield index, 3))
    (kk : ∀ (H1 : Heap) (j : Nat), va_at D cl (a, .inr (ci, fs.set k v)) H1 → H1.size = H.size → (∀ q : Nat, q ≠ a → H1[q]? = H[q]?) → W p l e R s m args below meth c H1 (locs ++ [⟨a, j⟩]) cells slots Q (F0 m (pc + 3) ls rest)) : W p l e R s m args below meth c H locs cells slots Q (F0 m pc ls (v :: .ref a :: rest)) := by
  obtain ⟨C, T, N, ref, hc, hk, hin, href, hlink⟩ := hf
  obtain ⟨-, hty, hnm, -, -⟩ := hcok ci C T N hc
  have hsame : ∀ x, s.fieldFound? (T k).1 (T k).2.1 (T k).2.2.1 = some x → s.fieldFound? ref (T k).2.1 (T k).2.2.1 = some x := by
    rcases href with rfl | h
    · exact fun x h => h
    · exact fun x ho => u_same (hts _ h) x ho
  have hap := va_apart (own := own) hts hin (tyf ci) hty hnm hK hc
  obtain ⟨r, h1, cell, q1, q2, q3, q4⟩ := he
  have hr : r = (C, T, N) := Option.some.inj (h1.symm.trans hc)
  subst hr
  obtain ⟨hS, hfc, kC, hkC, hkind⟩ := hK.1 ci _ hc
  obtain ⟨cf, kf, fi, f, hi, hsl⟩ := hS k hk
  have hst := (u_facts hfc hkC (u_lays hts hin hk) hi).1
  have hlay := hts _ (hin _ (u_in_lay hk))
  unfold u_lay at hlay
  rcases hfin C T N hc with hF | ⟨hin2, hdecl, ref2, hr2, hlink2⟩
  · rw [if_neg (by rw [hF]; decide)] at hlay
    have h6 := u_store hfc hkC hkind hlay hi (hty k hk) hn hfit
    rcases hlink with h | ⟨host, h⟩
    · refine W.putK hx hb (f := f) ⟨hown, hts _ h, ⟨_, _, _, hsame _ hi⟩, hst⟩ (by rw [q2]; exact h6) q1 q3 (by rw [hsl]; exact k2_hasslot (q4 k hk)) rfl rfl hd fun H' e1 e2 e3 => ?_
      rw [hsl] at e1 ⊢
      exact kk H' _ ⟨_, hc, t_OB.to (V := updV (vp_V fs) k v) ⟨_, e1, q2, q3, t_set q4 hap hk v⟩ (fun j _ => vp_updV_set hl v j)⟩ e2 e3
    · refine va_WputK hx hb (f := f) hown (va_Nw.use rfl (hnw _ h)) (hsame _ hi) hst (by rw [q2]; exact h6) q1 q3 (by rw [hsl]; exact k2_hasslot (q4 k hk)) rfl rfl hd fun H' e1 e2 e3 => ?_
      rw [hsl] at e1 ⊢
      exact kk H' _ ⟨_, hc, t_OB.to (V := updV (vp_V fs) k v) ⟨_, e1, q2, q3, t_set q4 hap hk v⟩ (fun j _ => vp_updV_set hl v j)⟩ e2 e3
  · by_cases hF : (T k).2.2.2 = true
    · rw [if_pos hF] at hlay
      subst hr2
      have hcf : m.cls = cf := by
        obtain ⟨_, _, c', _, _, _, -, -, hf', -, -, -, hown2, -⟩ := Cond.laysFinal_spec hlay
        have e1 : c' = cf := by have := hi.symm.trans hf'; simp at this; exact this.1.symm
        rw [hdecl] at hown2
        rw [← e1]; exact Option.some.inj (hown.symm.trans hown2)
      have h6 := u_fits hfc hkC hkind (Or.inr hlay) hi (hty k hk) hn hfit
      refine W.putFinK hx hb hown (hts _ hlink2) hi hst hcf hin2 (by rw [q2]; exact h6) q1 q3 (by rw [hsl]; exact k2_hasslot (q4 k hk)) rfl rfl hd fun H' e1 e2 e3 => ?_
      rw [hsl] at e1 ⊢
      exact kk H' _ ⟨_, hc, t_OB.to (V := updV (vp_V fs) k v) ⟨_, e1, q2, q3, t_set q4 hap hk v⟩ (fun j _ => vp_updV_set hl v j)⟩ e2 e3
    · rw [if_neg hF] at hlay
      subst hr2
      have h6 := u_store hfc hkC hkind hlay hi (hty k hk) hn hfit
      refine W.putK hx hb (f := f) ⟨hown, hts _ hlink2, ⟨_, _, _, hi⟩, hst⟩ (by rw [q2]; exact h6) q1 q3 (by rw [hsl]; exact k2_hasslot (q4 k hk)) rfl rfl hd fun H' e1 e2 e3 => ?_
      rw [hsl] at e1 ⊢
      exact kk H' _ ⟨_, hc, t_OB.to (V := updV (vp_V fs) k v) ⟨_, e1, q2, q3, t_set q4 hap hk v⟩ (fun j _ => vp_updV_set hl v j)⟩ e2 e3
theorem am_iast_W (hx : p.tables.exec = Jvm.exec) (hb : c.code = cc) (hK : va_K D cl (am_tys kd ca) s) {t n : Nat} {f : Nat → Int32} (ht : kd[t]? = some .int) (he : va_at D cl (a, .inl (ca t, n, .inl f)) H) {i x : Int32} (hin : vp_in i n) (hd : decode cc pc = .ok (.iastore, 1))
    (kk : ∀ (H1 : Heap) (j : Nat), va_at D cl (a, .inl (ca t, n, .inl (upd f i.toNatClampNeg x))) H1 → H1.size = H.size → (∀ q : Nat, q ≠ a → H1[q]? = H[q]?) → W p l e R s m args below meth c H1 (locs ++ [⟨a, j⟩]) cells slots Q (F0 m (pc + 1) ls rest)) : W p l e R s m args below meth c H locs cells slots Q (F0 m pc ls (.int x :: .int i :: .ref a :: rest)) := by
  refine W.iast hx hb he ((hK.2 t _ (am_tys_at ht)).1 n (fun j => .int (f j))) (fun q => by cases q) (by show ¬ (i < 0 ∨ (arrV _ _ _).slots.size ≤ _); rw [arrV_size]; exact hin) rfl rfl hd fun H1 e1 z oq => kk H1 _ ?_ z oq
  show H1[a]? = some (vp_cell _ _)
  rw [e1]
  rw [vp_cell_i, vp_cell_i, arrV_store]
  congr 2
  funext q
  by_cases hq : q = i.toNatClampNeg
  · subst hq
    simp [updV, upd]
  · simp [updV, upd, hq]
theorem am_zast_W (hx : p.tables.exec = Jvm.exec) (hb : c.code = cc) (hK : va_K D cl (am_tys kd ca) s) {t n : Nat} {f : Nat → Int32} (ht : kd[t]? = some .boolean) (he : va_at D cl (a, .inl (ca t, n, .inl f)) H) {i x : Int32} (hin : vp_in i n) (hd : decode cc pc = .ok (.bastore, 1))
    (kk : ∀ (H1 : Heap) (j : Nat), va_at D cl (a, .inl (ca t, n, .inl (upd f i.toNatClampNeg (vp_nar .boolean x)))) H1 → H1.size = H.size → (∀ q : Nat, q ≠ a → H1[q]? = H[q]?) → W p l e R s m args below meth c H1 (locs ++ [⟨a, j⟩]) cells slots Q (F0 m (pc + 1) ls rest)) : W p l e R s m args below meth c H locs cells slots Q (F0 m pc ls (.int x :: .int i :: .ref a :: rest)) := by
  refine W.zast hx hb he ((hK.2 t _ (am_tys_at ht)).1 n (fun j => .int (f j))) (fun q => by cases q) (by show ¬ (i < 0 ∨ (arrV _ _ _).slots.size ≤ _); rw [arrV_size]; exact hin) rfl rfl hd fun H1 e1 z oq => kk H1 _ ?_ z oq
  show H1[a]? = some (vp_cell _ _)
  rw [e1]
  rw [vp_cell_i, vp_cell_i, arrV_store]
  congr 2
  funext q
  by_cases hq : q = i.toNatClampNeg
  · subst hq
    simp [updV, upd, vp_nar]
    try rfl
  · simp [updV, upd, hq]
theorem am_last_W (hx : p.tables.exec = Jvm.exec) (hb : c.code = cc) (hK : va_K D cl (am_tys kd ca) s) {t n : Nat} {f : Nat → Int64} (ht : kd[t]? = some .long) (he : va_at D cl (a, .inl (ca t, n, .inr (.inl f))) H) {i : Int32} {x : Int64} (hin : vp_in i n) (hd : decode cc pc = .ok (.lastore, 1))
    (kk : ∀ (H1 : Heap) (j : Nat), va_at D cl (a, .inl (ca t, n, .inr (.inl (vp_updL f i.toNatClampNeg x)))) H1 → H1.size = H.size → (∀ q : Nat, q ≠ a → H1[q]? = H[q]?) → W p l e R s m args below meth c H1 (locs ++ [⟨a, j⟩]) cells slots Q (F0 m (pc + 1) ls rest)) : W p l e R s m args below meth c H locs cells slots Q (F0 m pc ls (.long x :: .int i :: .ref a :: rest)) := by
  refine W.last hx hb he ((hK.2 t _ (am_tys_at ht)).1 n (fun j => .long (f j))) (fun q => by cases q) (by show ¬ (i < 0 ∨ (arrV _ _ _).slots.size ≤ _); rw [arrV_size]; exact hin) rfl rfl hd fun H1 e1 z oq => kk H1 _ ?_ z oq
  show H1[a]? = some (vp_cell _ _)
  rw [e1]
  rw [vp_cell_l, vp_cell_l, arrV_store]
  congr 2
  funext q
  by_cases hq : q = i.toNatClampNeg
  · subst hq
    simp [updV, vp_updL]
  · simp [updV, vp_updL, hq]
theorem am_q_set {cA : ClassId} {n : Nat} {f : Nat → Option Nat} {i : Int32} {o : Option Nat} {H1 : Heap} (e1 : H1[a]? = some ((vp_cell cA (n, .inr (.inr (.inr (.inr f))))).setSlot i.toNatClampNeg (va_rf o))) : va_at D cl (a, .inl (cA, n, .inr (.inr (.inr (.inr (va_up f i.toNatClampNeg o)))))) H1 := by
  show H1[a]? = some (vp_cell _ _)
  rw [e1]
  rw [vp_cell_q, vp_cell_q, arrV_store]
  congr 2
  funext q
  by_cases hq : q = i.toNatClampNeg
  · subst hq
    simp [updV, va_up]
  · simp [updV, va_up, hq]
/-- aastore of an object, of a class that may stand there -/
theorem am_aastO_W (hx : p.tables.exec = Jvm.exec) (hb : c.code = cc) (hnw : ∀ w ∈ Nw, va_Nw w s) (hK : va_K D cl (am_tys kd ca) s) {t n v ci : Nat} {vs : List Value} {E : String} {r : vw_C} {f : Nat → Option Nat} (ht : kd[t]? = some (.object E)) (hc : cl[ci]? = some r) (hE : r.1 = E ∨ Cond.castable r.1 E ∈ Nw) (he : va_at D cl (a, .inl (ca t, n, .inr (.inr (.inr (.inr f))))) H) (hv : va_at D cl (v, .inr (ci, vs)) H) {i : Int32} (hin : vp_in i n) (hd : decode cc pc = .ok (.aastore, 1))
    (kk : ∀ (H1 : Heap) (j : Nat), va_at D cl (a, .inl (ca t, n, .inr (.inr (.inr (.inr (va_up f i.toNatClampNeg (some v))))))) H1 → H1.size = H.size → (∀ q : Nat, q ≠ a → H1[q]? = H[q]?) → W p l e R s m args below meth c H1 (locs ++ [⟨a, j⟩]) cells slots Q (F0 m (pc + 1) ls rest)) : W p l e R s m args below meth c H locs cells slots Q (F0 m pc ls (.ref v :: .int i :: .ref a :: rest)) := by
  have hlt : i.toNatClampNeg < n := Nat.not_le.mp fun q => hin (Or.inr q)
  have h0 : ¬ i < 0 := fun q => hin (Or.inl q)
  obtain ⟨r', hr', cellV, g1, g2, g3, -⟩ := hv
  have hcls := (hK.1 ci r hc).2
  obtain ⟨kA, comp, k1, k2, k3, -⟩ := (hK.2 t _ (am_tys_at ht)).2
  obtain ⟨kE, hkE, -⟩ := Vm.findClass_spec k3
  obtain ⟨kC, hkC, -⟩ := hcls.2
  have hass : s.vm.assignable (D.1 ci) comp = true := by
    rcases hE with h | h
    · subst h
      have hcomp : comp = D.1 ci := Option.some.inj (k3.symm.trans hcls.1)
      rw [hcomp]
      exact va_assign hcls
    · obtain ⟨c0, t1, f1, f2, f3⟩ := Cond.castable_spec (va_Nw.use (A := args) rfl (hnw _ h))
      cases hcls.1.symm.trans f1
      cases k3.symm.trans f2
      exact f3
  refine W.aast hx hb he (fun q h => by cases h) (fun h => by cases h) k1 k2 rfl hkE ⟨h0, by show _ < (arrV _ _ _).slots.size; rw [arrV_size]; exact hlt⟩ g1 (fun q h => by rw [g3] at h; cases h) (by rw [g2]; exact hkC) (by rw [g2]; exact hass) rfl rfl hd fun H1 e1 z oq => kk H1 _ (am_q_set e1) z oq
theorem am_aastN_W (hx : p.tables.exec = Jvm.exec) (hb : c.code = cc) (hK : va_K D cl (am_tys kd ca) s) {t n : Nat} {E : String} {f : Nat → Option Nat} (ht : kd[t]? = some (.object E)) (he : va_at D cl (a, .inl (ca t, n, .inr (.inr (.inr (.inr f))))) H) {i : Int32} (hin : vp_in i n) (hd : decode cc pc = .ok (.aastore, 1))
    (kk : ∀ (H1 : Heap) (j : Nat), va_at D cl (a, .inl (ca t, n, .inr (.inr (.inr (.inr (va_up f i.toNatClampNeg none)))))) H1 → H1.size = H.size → (∀ q : Nat, q ≠ a → H1[q]? = H[q]?) → W p l e R s m args below meth c H1 (locs ++ [⟨a, j⟩]) cells slots Q (F0 m (pc + 1) ls rest)) : W p l e R s m args below meth c H locs cells slots Q (F0 m pc ls (.null :: .int i :: .ref a :: rest)) := by
  refine va_WaastN (C := E) hx hb he ((hK.2 t _ (am_tys_at ht)).1 n (fun j => va_rf (f j))) (fun h => by cases h) (by show ¬ (i < 0 ∨ (arrV _ _ _).slots.size ≤ _); rw [arrV_size]; exact hin) rfl rfl hd fun H1 e1 z oq => kk H1 _ (am_q_set (o := none) e1) z oq
/-- an array's class is that of the component of a class of arrays of arrays -/
def am_AA (U : State) (cA cB : ClassId) (ty : FieldType) : Prop := ∃ (kA kB : Class) (x : ClassId) (tb : FieldType), U.vm.classes[cA]? = some kA ∧ kA.kind = .array cB ty ∧ U.vm.classes[cB]? = some kB ∧ kB.kind = .array x tb
theorem am_aastA_W (hx : p.tables.exec = Jvm.exec) (hb : c.code = cc) (hK : va_K D cl (am_tys kd ca) s) {t t2 n v : Nat} {x : vp_A} {ty : FieldType} {f : Nat → Option Nat} (hAA : am_AA s (ca t) (ca t2) (.array ty)) (he : va_at D cl (a, .inl (ca t, n, .inr (.inr (.inr (.inr f))))) H) (hv : va_at D cl (v, .inl (ca t2, x)) H) {i : Int32} (hin : vp_in i n) (hd : decode cc pc = .ok (.aastore, 1))
    (kk : ∀ (H1 : Heap) (j : Nat), va_at D cl (a, .inl (ca t, n, .inr (.inr (.inr (.inr (va_up f i.toNatClampNeg (some v))))))) H1 → H1.size = H.size → (∀ q : Nat, q ≠ a → H1[q]? = H[q]?) → W p l e R s m args below meth c H1 (locs ++ [⟨a, j⟩]) cells slots Q (F0 m (pc + 1) ls rest)) : W p l e R s m args below meth c H locs cells slots Q (F0 m pc ls (.ref v :: .int i :: .ref a :: rest)) := by
  have hlt : i.toNatClampNeg < n := Nat.not_le.mp fun q => hin (Or.inr q)
  have h0 : ¬ i < 0 := fun q => hin (Or.inl q)
  obtain ⟨kA, kB, xx, tb, k1, k2, k3, k4⟩ := hAA
  have hvm0 : (vp_cell (ca t2) x).vm = .none := by obtain ⟨n, f | f | f | f | f⟩ := x <;> rfl
  have hcl0 : (vp_cell (ca t2) x).cls = ca t2 := by obtain ⟨n, f | f | f | f | f⟩ := x <;> rfl
  have hass : s.vm.assignable (ca t2) (ca t2) = true := by
    show s.vm.assignableAux (255 + 1) _ _ = true
    unfold Vm.assignableAux
    simp only [beq_self_eq_true, Bool.true_or]
  refine W.aast hx hb he (fun q h => by cases h) (fun h => by cases h) k1 k2 rfl k3 ⟨h0, by show _ < (arrV _ _ _).slots.size; rw [arrV_size]; exact hlt⟩ hv (fun q h => by rw [hvm0] at h; cases h) (by rw [hcl0]; exact k3) (by rw [hcl0]; exact hass) rfl rfl hd fun H1 e1 z oq => kk H1 _ (am_q_set e1) z oq
theorem am_aald_W (hx : p.tables.exec = Jvm.exec) (hb : c.code = cc) (hK : va_K D cl (am_tys kd ca) s) {t n : Nat} {ty : FieldType} {f : Nat → Option Nat} (ht : kd[t]? = some ty) (hr : ty.isReference = true) (he : va_at D cl (a, .inl (ca t, n, .inr (.inr (.inr (.inr f))))) H) {i : Int32} (hin : vp_in i n) (hd : decode cc pc = .ok (.aaload, 1))
    (kk : W p l e R s m args below meth c H locs cells slots Q (F0 m (pc + 1) ls (va_rf (f i.toNatClampNeg) :: rest))) : W p l e R s m args below meth c H locs cells slots Q (F0 m pc ls (.int i :: .ref a :: rest)) := by
  have hlt : i.toNatClampNeg < n := Nat.not_le.mp fun q => hin (Or.inr q)
  exact W.aald (v := va_rf (f i.toNatClampNeg)) (ty := ty) hx hb he ((hK.2 t _ (am_tys_at ht)).1 n (fun j => va_rf (f j))) hr (fun q => by cases q) (by show ¬ (i < 0 ∨ (arrV _ _ _).slots.size ≤ _); rw [arrV_size]; exact hin) (by show (arrV _ _ _).slots[_]? = _; rw [arrV_read _ _ hlt]) rfl rfl hd kk
/-- new T[n] of numbers -/
theorem am_newa_W (hx : p.tables.exec = Jvm.exec) (hb : c.code = cc) (hts : ∀ w ∈ Ts, w.before args s = true) (hK : va_K D cl (am_tys kd ca) s) {atype : ArrayType} (harr : Cond.arrayClass (newarray.typeOf atype) ∈ Ts) {t N : Nat} {a0 : vp_A} (ht : kd[t]? = some (newarray.typeOf atype)) (hpr : ∀ C, newarray.typeOf atype ≠ .object C) (ha : ∀ cA : ClassId, vp_cell cA a0 = arrV cA N (fun _ => defaultValue (newarray.typeOf atype))) {n : Int32} (hn : ¬ n < 0) (hN : n.toNatClampNeg = N) (hby : N * componentBytes (newarray.typeOf atype) ≤ 536870912) (hc : cells + 1 ≤ R.cells) (hs : slots + N ≤ R.slots) (hd : decode cc pc = .ok (.newarray atype, 2))
    (kk : ∀ (H1 : Heap), va_at D cl (H.size, .inl (ca t, a0)) H1 → H1.size = H.size + 1 → (∀ q : Nat, q < H.size → H1[q]? = H[q]?) → W p l e R s m args below meth c H1 locs (cells + 1) (slots + N) Q (F0 m (pc + 2) ls (.ref H.size :: rest))) : W p l e R s m args below meth c H locs cells slots Q (F0 m pc ls (.int n :: rest)) := by
  refine va_newaK hx hb (hts _ harr) rfl hd rfl hn hN hby hc hs rfl fun H1 cA e1 z1 o1 hAr hNm => kk H1 ?_ z1 o1
  have hr := (hK.2 t _ (am_tys_at ht)).2
  have e2 : cA = ca t := by
    unfold va_RA at hr
    cases atype <;> exact Option.some.inj (hNm.symm.trans hr)
  show H1[H.size]? = some (vp_cell _ _)
  rw [ha, ← e2]
  exact e1
/-- new C -/
theorem am_new_W (hx : p.tables.exec = Jvm.exec) (hb : c.code = cc) (hts : ∀ w ∈ Ts, w.before args s = true) {own : String} (hown : s.vm.findClass own = some m.cls) (hK : va_K D cl (am_tys kd ca) s) {tyf : Nat → Nat → FieldType} (hcok : am_cOk Ts cl tyf) {ci index N : Nat} {C : String} {T : u_T} (hci : cl[ci]? = some (C, T, N)) (hlink : Cond.classLink own index C ∈ Ts) {fs : List Value} (hfs : ∀ j, j < N → defaultValue (tyf ci j) = vp_V fs j) (hc : cells + 1 ≤ R.cells) (hs : slots + N ≤ R.slots) (hd : decode cc pc = .ok (.new index, 3))
    (kk : ∀ (H1 : Heap), va_at D cl (H.size, .inr (ci, fs)) H1 → H1.size = H.size + 1 → (∀ q : Nat, q < H.size → H1[q]? = H[q]?) → W p l e R s m args below meth c H1 locs (cells + 1) (slots + N) Q (F0 m (pc + 3) ls (.ref H.size :: rest))) : W p l e R s m args below meth c H locs cells slots Q (F0 m pc ls rest) := by
  obtain ⟨hin, hty, hnm, hinst, hini⟩ := hcok ci C T N hci
  have hKn := hK.1 ci _ hci
  refine W.newcK hx hb hown (hts _ hlink) (hts _ hinst) (hts _ hini) rfl hd hc hs hKn.2.1 rfl fun H1 kC hkC e1 z1 o1 => kk H1 ?_ z1 o1
  exact ⟨_, hci, (u_born (tyf ci) hts hin hKn hkC e1 hty).to hfs⟩
/-- new C[n], new T[n][] -/
theorem am_anew_W (hx : p.tables.exec = Jvm.exec) (hb : c.code = cc) (hts : ∀ w ∈ Ts, w.before args s = true) {own : String} (hown : s.vm.findClass own = some m.cls) (hnw : ∀ w ∈ Nw, va_Nw w s) (hK : va_K D cl (am_tys kd ca) s) {t N index : Nat} {C : String} (ht : kd[t]? = some (.object C)) (hover : Cond.arrayOver (.object C) ∈ Nw) (hlink : Cond.classLink own index C ∈ Ts) {n : Int32} (hn : ¬ n < 0) (hN : n.toNatClampNeg = N) (hby : N * 4 ≤ 536870912) (hc : cells + 1 ≤ R.cells) (hs : slots + N ≤ R.slots) (hd : decode cc pc = .ok (.anewarray index, 3))
    (kk : ∀ (H1 : Heap), va_at D cl (H.size, .inl (ca t, N, .inr (.inr (.inr (.inr (fun _ => none)))))) H1 → H1.size = H.size + 1 → (∀ q : Nat, q < H.size → H1[q]? = H[q]?) → W p l e R s m args below meth c H1 locs (cells + 1) (slots + N) Q (F0 m (pc + 3) ls (.ref H.size :: rest))) : W p l e R s m args below meth c H locs cells slots Q (F0 m pc ls (.int n :: rest)) := by
  subst hN
  refine W.anew hx hb hown (hts _ hlink) (va_AO.use (hnw _ hover)) rfl hd rfl hn hby hc hs fun cA kA comp f1 f2 f3 f4 => ?_
  have hr := (hK.2 t _ (am_tys_at ht)).2
  have e2 : cA = ca t := by
    obtain ⟨kB, cB, b1, b2, b3, b4⟩ := hr
    exact Option.some.inj (f1.symm.trans b4)
  subst e2
  generalize hH1 : H.push ({ cls := ca t, slots := Array.replicate n.toNatClampNeg .null, vm := .none } : Cell) = H1
  have z1 : H1.size = H.size + 1 := by rw [← hH1, Array.size_push]
  have e1 : H1[H.size]? = some (arrV (ca t) n.toNatClampNeg (fun _ => .null)) := by rw [← hH1, Array.getElem?_push_size, ← arrV_new]
  have o1 : ∀ q : Nat, q < H.size → H1[q]? = H[q]? := fun q hq => by rw [← hH1, Array.getElem?_push, if_neg (Nat.ne_of_lt hq)]
  exact kk H1 e1 z1 o1
theorem am_anewA_W (hx : p.tables.exec = Jvm.exec) (hb : c.code = cc) (hts : ∀ w ∈ Ts, w.before args s = true) {own : String} (hown : s.vm.findClass own = some m.cls) (hnw : ∀ w ∈ Nw, va_Nw w s) (hK : va_K D cl (am_tys kd ca) s) {t N index : Nat} {ty : FieldType} (ht : kd[t]? = some (.array ty)) (hover : Cond.arrayOver (.array ty) ∈ Nw) (hlink : Cond.classLink own index (FieldType.array ty).toString ∈ Ts) {n : Int32} (hn : ¬ n < 0) (hN : n.toNatClampNeg = N) (hby : N * 4 ≤ 536870912) (hc : cells + 1 ≤ R.cells) (hs : slots + N ≤ R.slots) (hd : decode cc pc = .ok (.anewarray index, 3))
    (kk : ∀ (H1 : Heap), va_at D cl (H.size, .inl (ca t, N, .inr (.inr (.inr (.inr (fun _ => none)))))) H1 → H1.size = H.size + 1 → (∀ q : Nat, q < H.size → H1[q]? = H[q]?) → W p l e R s m args below meth c H1 locs (cells + 1) (slots + N) Q (F0 m (pc + 3) ls (.ref H.size :: rest))) : W p l e R s m args below meth c H locs cells slots Q (F0 m pc ls (.int n :: rest)) := by
  subst hN
  refine W.anewA hx hb hown (hts _ hlink) (hnw _ hover) rfl hd rfl hn hby hc hs fun cA kA comp f1 f2 f3 f4 => ?_
  have hr := (hK.2 t _ (am_tys_at ht)).2
  have e2 : cA = ca t := Option.some.inj (f1.symm.trans hr)
  subst e2
  generalize hH1 : H.push ({ cls := ca t, slots := Array.replicate n.toNatClampNeg .null, vm := .none } : Cell) = H1
  have z1 : H1.size = H.size + 1 := by rw [← hH1, Array.size_push]
  have e1 : H1[H.size]? = some (arrV (ca t) n.toNatClampNeg (fun _ => .null)) := by rw [← hH1, Array.getElem?_push_size, ← arrV_new]
  have o1 : ∀ q : Nat, q < H.size → H1[q]? = H[q]? := fun q hq => by rw [← hH1, Array.getElem?_push, if_neg (Nat.ne_of_lt hq)]
  exact kk H1 e1 z1 o1
end AMR
end
section
/-! AM: System.arraycopy of ints, clone and checkcast of an int array, getstatic of a static array */ -/
section AMN
variable {p : Program} {l : Launch} {e : Env} {R : Room} {s : State} {m : MethodId} {args : Array Value} {below : List Frame} {meth : Method} {c : Code} {H : Heap} {locs : List Loc} {cells slots : Nat} {Q : State → Prop}
variable {cc : ByteArray} {pc : Nat} {ls : Array Slot} {rest : List Value} {D : va_G} {cl : List vw_C} {A : Nat → Prop} {a : Nat} {H0 : Heap} {ca : Nat → ClassId} {kd : List FieldType} {M : am_H} {Ts Nw : List Cond}
/-- the words of arraycopy -/
def am_acOk (Ts : List Cond) (own : String) (index : Nat) : Prop := Cond.methodLink own index arraycopyName ∈ Ts ∧ Cond.native arraycopyName ∈ Ts ∧ Cond.static arraycopyName ∈ Ts ∧ Cond.initialized "java/lang/System" ∈ Ts
theorem am_nn {z : Int32} (hz : ¬ z < 0) : z.toInt = (z.toNatClampNeg : Int) := by
  have hz0 : (0 : Int) ≤ z.toInt := by
    have := Int32.not_lt.mp hz
    simpa using Int32.le_iff_toInt_le.mp this
  show z.toInt = ((z.toInt.toNat : Nat) : Int)
  omega
theorem am_copy_W (hx : p.tables.exec = Jvm.exec) (hb : c.code = cc) (hml : c.maxLocals = ls.size) (hts : ∀ w ∈ Ts, w.before args s = true) {own : String} (hown : s.vm.findClass own = some m.cls) (hK : va_K D cl (am_tys kd ca) s) {index t n0 n1 a0 : Nat} (hac : am_acOk Ts own index) (ht : kd[t]? = some .int) {f g : Nat → Int32} (he0 : va_at D cl (a0, .inl (ca t, n0, .inl f)) H) (he1 : va_at D cl (a, .inl (ca t, n1, .inl g)) H)
    {sp dp n : Int32} (h1 : ¬ sp < 0) (h2 : ¬ dp < 0) (h3 : ¬ n < 0) (h4 : sp.toNatClampNeg + n.toNatClampNeg ≤ n0) (h5 : dp.toNatClampNeg + n.toNatClampNeg ≤ n1) (hfr : 1 ≤ R.frames) (hlo : (rest.map fun v => v.category).sum + (nativeFrameWords "java/lang/System" "arraycopy" 5 + 11) ≤ R.locals) (hd : decode cc pc = .ok (.invokestatic index, 3))
    (kk : ∀ (H1 : Heap) (L : List Loc), va_at D cl (a, .inl (ca t, n1, .inl (va_cpy f g sp.toNatClampNeg dp.toNatClampNeg n.toNatClampNeg))) H1 → H1.size = H.size → (∀ q : Nat, q ≠ a → H1[q]? = H[q]?) → (∀ q ∈ L, q.base = a) → W p l e R s m args below meth c H1 (locs ++ L) cells slots Q (F0 m (pc + 3) ls rest)) : W p l e R s m args below meth c H locs cells slots Q (F0 m pc ls (.int n :: .int dp :: .ref a :: .int sp :: .ref a0 :: rest)) := by
  obtain ⟨w1, w2, w3, w4⟩ := hac
  intro T hT X
  have hc0 : H[a0]? = some (vp_cell (ca t) (n0, .inl f)) := he0
  have hc1 : H[a]? = some (vp_cell (ca t) (n1, .inl g)) := he1
  obtain ⟨-, k0, hk0, cm0, hkk0⟩ := (hK.2 t _ (am_tys_at ht)).1 n0 (fun j => .int (f j))
  obtain ⟨-, k1, hk1, cm1, hkk1⟩ := (hK.2 t _ (am_tys_at ht)).1 n1 (fun j => .int (g j))
  obtain ⟨vm', X', step⟩ := X.arraycopy hx hown (hts _ w1) (hts _ w2) (hts _ w3) (hts _ w4) (src := a0) (dst := a) (cs := vp_cell (ca t) (n0, .inl f)) (cd := vp_cell (ca t) (n1, .inl g)) (srcPos := sp) (destPos := dp) (n := n) (by rw [hT]; exact hc0) (by rw [hT]; exact hc1)
    (fun _ h => by cases h) (fun _ h => by cases h) (fun h => by cases h) (fun h => by cases h) hk0 hk1 hkk0 hkk1 (by simp [refKind]) h1 h2 h3
    (by rw [am_nn h1, am_nn h3]; show ¬ _ > ((arrV (ca t) n0 (fun j => .int (f j))).slots.size : Int); rw [arrV_size]; omega)
    (by rw [am_nn h2, am_nn h3]; show ¬ _ > ((arrV (ca t) n1 (fun j => .int (g j))).slots.size : Int); rw [arrV_size]; omega)
    (fun vm₁ _ i hi => by
      have e : (vp_cell (ca t) (n0, .inl f)).slots.getD (sp.toNatClampNeg + i) .null = .int (f (sp.toNatClampNeg + i)) := by
        show (arrV (ca t) n0 (fun j => .int (f j))).slots.getD _ _ = _
        rw [Array.getD_eq_getD_getElem?, arrV_read _ _ (by omega)]
        rfl
      refine ⟨?_, ?_⟩
      · rw [e]
        rfl
      · rw [e]
        exact trivial)
    (g := F0 m pc ls (.int n :: .int dp :: .ref a :: .int sp :: .ref a0 :: rest)) rfl (by rw [hml]) (rest := rest) rfl (by rw [hb]; exact hd) hfr (by show 2 * 0 + _ + _ ≤ _; omega)
  have e1 : copied (vp_cell (ca t) (n0, .inl f)) (vp_cell (ca t) (n1, .inl g)) sp dp n = vp_cell (ca t) (n1, .inl (va_cpy f g sp.toNatClampNeg dp.toNatClampNeg n.toNatClampNeg)) := va_copied (fun z => .int z) (ca t) (ca t) f g h4
  rw [e1] at X' step
  have hl : a < H.size := (Array.getElem?_eq_some_iff.mp hc1).1
  obtain ⟨t', a1, b1⟩ := kk (H.setIfInBounds a (vp_cell (ca t) (n1, .inl (va_cpy f g sp.toNatClampNeg dp.toNatClampNeg n.toNatClampNeg)))) _ (show (H.setIfInBounds a _)[a]? = some _ by simp [Array.getElem?_setIfInBounds, hl]) (by simp) (fun q hq => by simp [Array.getElem?_setIfInBounds, Ne.symm hq]) (fun q hq => by
    obtain ⟨z, -, hz⟩ := List.mem_map.mp hq
    rw [← hz]) _ (by rw [← hT]; rfl) X'
  exact ⟨t', step t' a1, b1⟩
/-- the words of an int array's clone -/
def am_clOk (Ts Nw : List Cond) (own : String) (index : Nat) : Prop := Cond.methodLink own index ⟨"[I", "clone", "()Ljava/lang/Object;"⟩ ∈ Ts ∧ Cond.sameMethod "[I" "java/lang/Object" "clone" "()Ljava/lang/Object;" ∈ Ts ∧ Cond.native ⟨"java/lang/Object", "clone", "()Ljava/lang/Object;"⟩ ∈ Ts ∧ Cond.instanceMethod ⟨"java/lang/Object", "clone", "()Ljava/lang/Object;"⟩ ∈ Ts ∧
  Cond.selects "[I" ⟨"[I", "clone", "()Ljava/lang/Object;"⟩ ⟨"java/lang/Object", "clone", "()Ljava/lang/Object;"⟩ ∈ Ts ∧ Cond.castable "[I" "java/lang/Cloneable" ∈ Nw
theorem am_nmI {t : Nat} (hK : va_K D cl (am_tys kd ca) s) (ht : kd[t]? = some .int) : s.vm.findClass "[I" = some (ca t) := by
  have hr := (hK.2 t _ (am_tys_at ht)).2
  unfold va_RA at hr
  exact (show ("[" ++ FieldType.int.toString) = "[I" from by decide +kernel) ▸ hr
theorem am_clone_W (hx : p.tables.exec = Jvm.exec) (hb : c.code = cc) (hml : c.maxLocals = ls.size) (hts : ∀ w ∈ Ts, w.before args s = true) (hnw : ∀ w ∈ Nw, va_Nw w s) {own : String} (hown : s.vm.findClass own = some m.cls) (hK : va_K D cl (am_tys kd ca) s) {index t n0 : Nat} (hac : am_clOk Ts Nw own index) (ht : kd[t]? = some .int) {f : Nat → Int32} (he0 : va_at D cl (a, .inl (ca t, n0, .inl f)) H)
    (hfr : 1 ≤ R.frames) (hlo : (rest.map fun v => v.category).sum + 14 ≤ R.locals) (hcells : cells + 1 ≤ R.cells) (hslots : slots + n0 ≤ R.slots) (hd : decode cc pc = .ok (.invokevirtual index, 3))
    (kk : ∀ (H1 : Heap), va_at D cl (H.size, .inl (ca t, n0, .inl f)) H1 → H1.size = H.size + 1 → (∀ q : Nat, q < H.size → H1[q]? = H[q]?) → W p l e R s m args below meth c H1 locs (cells + 1) (slots + n0) Q (F0 m (pc + 3) ls (.ref H.size :: rest))) : W p l e R s m args below meth c H locs cells slots Q (F0 m pc ls (.ref a :: rest)) := by
  obtain ⟨w1, w2, w3, w4, w5, w6⟩ := hac
  have hnm := am_nmI hK ht
  have hsz : (vp_cell (ca t) (n0, .inl f)).slots.size = n0 := arrV_size _ _ _
  obtain ⟨c0, t0', f1, f2, f3⟩ := Cond.castable_spec (va_Nw.use (A := args) rfl (hnw _ w6))
  cases hnm.symm.trans f1
  intro T hT X
  have hcellT : T.heap[a]? = some (vp_cell (ca t) (n0, .inl f)) := by rw [hT]; exact he0
  obtain ⟨-, kA, hkA, comp, hkind⟩ := State.isArrayOf_alike X.warmed.alike ((hK.2 t _ (am_tys_at ht)).1 0 (fun _ => .null))
  obtain ⟨-, kS, hkS, compS, hkindS⟩ := (hK.2 t _ (am_tys_at ht)).1 0 (fun _ => .null)
  obtain ⟨vm', X', st⟩ := X.cloneArray hx hown (hts _ w1) (hts _ w2) (hts _ w3) (hts _ w4) (hts _ w5) (a := a) (cell := vp_cell (ca t) (n0, .inl f)) hcellT (fun k h => by cases h) (fun h => by cases h) hnm f2 f3
    (fun i v hv => by
      have hk' : T.vm.classes[ca t]? = some kA := hkA
      have hfit : fits .int v = true := by
        have h9 : (arrV (ca t) n0 (fun j => Value.int (f j))).slots[i]? = some v := hv
        by_cases hi : i < n0
        · rw [arrV_read _ _ hi] at h9
          cases h9
          rfl
        · have h8 := (Array.getElem?_eq_some_iff.mp h9).1
          rw [arrV_size] at h8
          exact absurd h8 hi
      show T.fitsSlot (ca t) .none i v = true
      simpa [State.fitsSlot, State.slotType?, hk', hkind] using hfit)
    (g := F0 m pc ls (.ref a :: rest)) rfl (by rw [hml]) rfl (by rw [hb]; exact hd) hfr (by show 2 * 0 + _ + 14 ≤ _; omega) hcells (by rw [hsz]; exact hslots) (hloader := Vm.clonesLoader_of_array hkS hkindS)
  rw [hsz] at X'
  generalize hH1 : H.push (vp_cell (ca t) (n0, .inl f)) = H1
  have z1 : H1.size = H.size + 1 := by rw [← hH1, Array.size_push]
  have e1 : H1[H.size]? = some (vp_cell (ca t) (n0, .inl f)) := by rw [← hH1, Array.getElem?_push_size]
  have o1 : ∀ q : Nat, q < H.size → H1[q]? = H[q]? := fun q hq => by rw [← hH1, Array.getElem?_push, if_neg (Nat.ne_of_lt hq)]
  obtain ⟨t', b1, b2⟩ := kk H1 e1 z1 o1 _ (by rw [← hH1, ← hT]; rfl) X'
  refine ⟨t', st t' ?_, b2⟩
  have e9 : T.heap.size = H.size := by rw [hT]
  rw [e9]
  exact b1
theorem am_castA_W (hx : p.tables.exec = Jvm.exec) (hb : c.code = cc) (hts : ∀ w ∈ Ts, w.before args s = true) {own : String} (hown : s.vm.findClass own = some m.cls) (hK : va_K D cl (am_tys kd ca) s) {index t : Nat} {x : vp_A} (hw : Cond.classLink own index "[I" ∈ Ts) (ht : kd[t]? = some .int) (he : va_at D cl (a, .inl (ca t, x)) H) (hd : decode cc pc = .ok (.checkcast index, 3))
    (kk : W p l e R s m args below meth c H locs cells slots Q (F0 m (pc + 3) ls (.ref a :: rest))) : W p l e R s m args below meth c H locs cells slots Q (F0 m pc ls (.ref a :: rest)) :=
  va_castA hx hb hown (hts _ hw) (am_one he) 0 rfl (am_nmI hK ht) hd kk
/-- the words of a static array -/
def am_stOk (Ts : List Cond) (zs : List (String × String × String × Nat)) (own : String) (index : Nat) (v : Nat) : Prop := ∃ C n d : String, (C, n, d, v) ∈ zs ∧ Cond.fieldLink own index C n d ∈ Ts
theorem am_gets_W (hx : p.tables.exec = Jvm.exec) (hb : c.code = cc) (hts : ∀ w ∈ Ts, w.before args s = true) {own : String} (hown : s.vm.findClass own = some m.cls) {zs : List (String × String × String × Nat)} (hZ : ∀ z ∈ zs, va_Z z.1 z.2.1 z.2.2.1 (.ref z.2.2.2) A s s.heap) (hS : va_S A s.heap H locs) {index v : Nat} (hst : am_stOk Ts zs own index v) (hd : decode cc pc = .ok (.getstatic index, 3))
    (kk : W p l e R s m args below meth c H locs cells slots Q (F0 m (pc + 3) ls (.ref v :: rest))) : W p l e R s m args below meth c H locs cells slots Q (F0 m pc ls rest) := by
  obtain ⟨C, n, d, h1, h2⟩ := hst
  exact va_gets hx hb (hZ _ h1) hS hown (hts _ h2) (fun x h => h) hd kk
/-- Math: 0 the greater of two ints, 1 the lesser, 2 the lesser of two longs, 3 a long's size -/
def am_mth : Nat → List Value → Option Value
  | 0, [.int y, .int x] => some (.int (if x < y then y else x))
  | 1, [.int y, .int x] => some (.int (if y < x then y else x))
  | 2, [.long y, .long x] => some (.long (if y < x then y else x))
  | 3, [.long x] => some (.long (if 0 < x then x else -x))
  | _, _ => none
def am_mOk (Ts : List Cond) (own : String) (index : Nat) : Nat → Prop
  | 0 => Cond.methodLink own index Lib.Math.max.name ∈ Ts ∧ Cond.static Lib.Math.max.name ∈ Ts ∧ Cond.initialized "java/lang/Math" ∈ Ts ∧ Cond.code Lib.Math.max.name Lib.Math.max.code 2 (some .int) ∈ Ts
  | 1 => Cond.methodLink own index Lib.Math.min.name ∈ Ts ∧ Cond.static Lib.Math.min.name ∈ Ts ∧ Cond.initialized "java/lang/Math" ∈ Ts ∧ Cond.code Lib.Math.min.name Lib.Math.min.code 2 (some .int) ∈ Ts
  | 2 => Cond.methodLink own index Lib.MathLoose.min_long.x ∈ Ts ∧ Cond.static Lib.MathLoose.min_long.x ∈ Ts ∧ Cond.initialized "java/lang/Math" ∈ Ts ∧ Cond.code Lib.MathLoose.min_long.x Lib.MathLoose.min_long.code 4 (some .long) ∈ Ts
  | 3 => Cond.methodLink own index Lib.MathLoose.abs_long.x ∈ Ts ∧ Cond.static Lib.MathLoose.abs_long.x ∈ Ts ∧ Cond.initialized "java/lang/Math" ∈ Ts ∧ Cond.code Lib.MathLoose.abs_long.x Lib.MathLoose.abs_long.code 2 (some .long) ∈ Ts
  | _ => True
theorem am_mth_W (hx : p.tables.exec = Jvm.exec) (hb : c.code = cc) (hml : c.maxLocals = ls.size) (hts : ∀ w ∈ Ts, w.before args s = true) {own : String} (hown : s.vm.findClass own = some m.cls) {index j : Nat} (hac : am_mOk Ts own index j) {vs : List Value} {v : Value} (hv : am_mth j vs = some v) (hfr : 1 ≤ R.frames) (hlo : (rest.map fun v => v.category).sum + 15 ≤ R.locals) (hc : cells ≤ R.cells) (hs : slots ≤ R.slots) (hd : decode cc pc = .ok (.invokestatic index, 3))
    (kk : W p l e R s m args below meth c H locs cells slots Q (F0 m (pc + 3) ls (v :: rest))) : W p l e R s m args below meth c H locs cells slots Q (F0 m pc ls (vs ++ rest)) := by
  unfold am_mth at hv
  split at hv
  · obtain ⟨w1, w2, w3, w4⟩ := hac
    injection hv with hv
    subst hv
    exact va_mmax (rest := rest) hx hb hml hown (hts _ w1) (hts _ w2) (hts _ w3) (hts _ w4) hfr (by omega) hc hs hd kk
  · obtain ⟨w1, w2, w3, w4⟩ := hac
    injection hv with hv
    subst hv
    exact va_mmin (rest := rest) hx hb hml hown (hts _ w1) (hts _ w2) (hts _ w3) (hts _ w4) hfr (by omega) hc hs hd kk
  · obtain ⟨w1, w2, w3, w4⟩ := hac
    injection hv with hv
    subst hv
    exact va_mmin_long (rest := rest) hx hb hml hown (hts _ w1) (hts _ w2) (hts _ w3) (hts _ w4) hfr (by omega) hc hs hd kk
  · obtain ⟨w1, w2, w3, w4⟩ := hac
    injection hv with hv
    subst hv
    exact va_mabs_long (rest := rest) hx hb hml hown (hts _ w1) (hts _ w2) (hts _ w3) (hts _ w4) hfr (by omega) hc hs hd kk
  · cases hv
end AMN
end
section
/-! AM: the program's tables, a step, runs */ -/
/-- name, code, locals, answer's type, room: frames, words of locals; its class's number -/
abbrev am_Meth : Type := MethodName × ByteArray × Nat × Option FieldType × Nat × Nat × Nat
abbrev am_P : Type := (Nat → Option am_Meth) × (Nat → Nat → Nat → Option Nat) × (Nat → Nat → FieldType) × (Nat → Nat → Nat → Nat) × (Nat → Nat → Option Value) × (Nat → Nat → Option Nat) × (Nat → List Value) × (Nat → Nat → Option Nat) × (Nat → Nat → Option Nat) ×
  (Nat → Nat → Option (Nat × Nat)) × (Nat → Nat → Option (Nat × Nat)) × (Nat → Nat → Nat → Option (Nat × Nat)) × (Nat → Nat → Nat) × (Nat → Nat → Bool) × (Nat → Nat → Bool) × List FieldType × (Nat → String)
def am_meth (P : am_P) : Nat → Option am_Meth := P.1
def am_fld (P : am_P) : Nat → Nat → Nat → Option Nat := P.2.1
def am_tyf (P : am_P) : Nat → Nat → FieldType := P.2.2.1
/-- 1: may be put; 2: in a constructor alone -/
def am_pk (P : am_P) : Nat → Nat → Nat → Nat := P.2.2.2.1
def am_cst (P : am_P) : Nat → Nat → Option Value := P.2.2.2.2.1
def am_nw (P : am_P) : Nat → Nat → Option Nat := P.2.2.2.2.2.1
def am_df (P : am_P) : Nat → List Value := P.2.2.2.2.2.2.1
def am_an (P : am_P) : Nat → Nat → Option Nat := P.2.2.2.2.2.2.2.1
def am_sa0 (P : am_P) : Nat → Nat → Option Nat := P.2.2.2.2.2.2.2.2.1
def am_cs (P : am_P) : Nat → Nat → Option (Nat × Nat) := P.2.2.2.2.2.2.2.2.2.1
def am_ci (P : am_P) : Nat → Nat → Option (Nat × Nat) := P.2.2.2.2.2.2.2.2.2.2.1
def am_cv (P : am_P) : Nat → Nat → Nat → Option (Nat × Nat) := P.2.2.2.2.2.2.2.2.2.2.2.1
/-- 1 arraycopy, 2 Object's constructor, 3 an int array's clone, 4 the cast to int[], 5 new long[..][..] -/
def am_nt (P : am_P) : Nat → Nat → Nat := P.2.2.2.2.2.2.2.2.2.2.2.2.1
def am_asg (P : am_P) : Nat → Nat → Bool := P.2.2.2.2.2.2.2.2.2.2.2.2.2.1
def am_asA (P : am_P) : Nat → Nat → Bool := P.2.2.2.2.2.2.2.2.2.2.2.2.2.2.1
def am_kd (P : am_P) : List FieldType := P.2.2.2.2.2.2.2.2.2.2.2.2.2.2.2.1
/-- a class's name -/
def am_on (P : am_P) : Nat → String := P.2.2.2.2.2.2.2.2.2.2.2.2.2.2.2.2
/-- static arrays of ints and the law's script: read, never written -/
abbrev am_O : Type := Nat → Option (Nat × (Nat → Int32))
def am_new (at' : ArrayType) (n : Nat) : Option (Nat × vp_A) := match at' with
  | .int => some (0, n, .inl (fun _ => 0))
  | .long => some (1, n, .inr (.inl (fun _ => 0)))
  | .boolean => some (2, n, .inl (fun _ => 0))
  | _ => none
abbrev am_K : Type := Nat → List Value → am_H → Nat → Nat → Prop
def am_qa (t n : Nat) (f : Nat → Option Nat) : am_E := .inl (t, n, .inr (.inr (.inr (.inr f))))
/-- new long[N][K] at sz -/
def am_mna (t : Nat) (M : am_H) (sz N K : Nat) : am_H := fun q => if q = sz then some (am_qa t N (fun i => if i < N then some (sz + 1 + i) else none)) else if sz < q ∧ q < sz + 1 + N then some (.inl (1, K, .inr (.inl (fun _ => 0)))) else M q
def am_hp (P : am_P) (RO : am_O) (own : Nat) (ini : Bool) (i : Instr) (len pc : Nat) (st : List Value) (M : am_H) (sz sl : Nat) (K : am_K) : Prop := match i with
  | .getfield x => len = 3 ∧ ∃ a r ci fs k v, st = Value.ref a :: r ∧ M a = some (.inr (ci, fs)) ∧ am_fld P own x ci = some k ∧ fs[k]? = some v ∧ K (pc + 3) (v :: r) M sz sl
  | .putfield x => len = 3 ∧ ∃ v a r ci fs k, st = v :: Value.ref a :: r ∧ M a = some (.inr (ci, fs)) ∧ am_fld P own x ci = some k ∧ (am_pk P own x ci = 1 ∨ am_pk P own x ci = 2 ∧ ini = true) ∧ k < fs.length ∧ narrow (am_tyf P ci k) v = v ∧ fits (am_tyf P ci k) v = true ∧ K (pc + 3) r (am_set M a (.inr (ci, fs.set k v))) sz sl
  | .getstatic x => len = 3 ∧ ∃ a, am_sa0 P own x = some a ∧ K (pc + 3) (Value.ref a :: st) M sz sl
  | .new x => len = 3 ∧ ∃ ci, am_nw P own x = some ci ∧ K (pc + 3) (Value.ref sz :: st) (am_set M sz (.inr (ci, am_df P ci))) (sz + 1) (sl + (am_df P ci).length)
  | .newarray ty => len = 2 ∧ ∃ n r t x, st = Value.int n :: r ∧ ¬ n < 0 ∧ n.toNatClampNeg * 8 ≤ 536870912 ∧ am_new ty n.toNatClampNeg = some (t, x) ∧ K (pc + 2) (Value.ref sz :: r) (am_set M sz (.inl (t, x))) (sz + 1) (sl + n.toNatClampNeg)
  | .anewarray x => len = 3 ∧ ∃ n r t, st = Value.int n :: r ∧ ¬ n < 0 ∧ n.toNatClampNeg * 4 ≤ 536870912 ∧ am_an P own x = some t ∧ K (pc + 3) (Value.ref sz :: r) (am_set M sz (am_qa t n.toNatClampNeg (fun _ => none))) (sz + 1) (sl + n.toNatClampNeg)
  | .arraylength => len = 1 ∧ ∃ a r t x, st = Value.ref a :: r ∧ ((M a = some (.inl (t, x)) ∧ t < (am_kd P).length) ∨ (M a = none ∧ ∃ f, RO a = some (x.1, f))) ∧ K (pc + 1) (Value.int (Int32.ofNat x.1) :: r) M sz sl
  | .iaload => len = 1 ∧ ∃ j a r n f, st = Value.int j :: Value.ref a :: r ∧ (M a = some (.inl (0, n, .inl f)) ∨ (M a = none ∧ RO a = some (n, f))) ∧ vp_in j n ∧ K (pc + 1) (Value.int (f j.toNatClampNeg) :: r) M sz sl
  | .baload => len = 1 ∧ ∃ j a r n f, st = Value.int j :: Value.ref a :: r ∧ M a = some (.inl (2, n, .inl f)) ∧ vp_in j n ∧ K (pc + 1) (Value.int (f j.toNatClampNeg) :: r) M sz sl
  | .laload => len = 1 ∧ ∃ j a r n f, st = Value.int j :: Value.ref a :: r ∧ M a = some (.inl (1, n, .inr (.inl f))) ∧ vp_in j n ∧ K (pc + 1) (Value.long (f j.toNatClampNeg) :: r) M sz sl
  | .aaload => len = 1 ∧ ∃ j a r n t f ty, st = Value.int j :: Value.ref a :: r ∧ M a = some (am_qa t n f) ∧ (am_kd P)[t]? = some ty ∧ ty.isReference = true ∧ vp_in j n ∧ K (pc + 1) (va_rf (f j.toNatClampNeg) :: r) M sz sl
  | .iastore => len = 1 ∧ ∃ x j a r n f, st = Value.int x :: Value.int j :: Value.ref a :: r ∧ M a = some (.inl (0, n, .inl f)) ∧ vp_in j n ∧ K (pc + 1) r (am_set M a (.inl (0, n, .inl (upd f j.toNatClampNeg x)))) sz sl
  | .bastore => len = 1 ∧ ∃ x j a r n f, st = Value.int x :: Value.int j :: Value.ref a :: r ∧ M a = some (.inl (2, n, .inl f)) ∧ vp_in j n ∧ K (pc + 1) r (am_set M a (.inl (2, n, .inl (upd f j.toNatClampNeg (vp_nar .boolean x))))) sz sl
  | .lastore => len = 1 ∧ ∃ x j a r n f, st = Value.long x :: Value.int j :: Value.ref a :: r ∧ M a = some (.inl (1, n, .inr (.inl f))) ∧ vp_in j n ∧ K (pc + 1) r (am_set M a (.inl (1, n, .inr (.inl (vp_updL f j.toNatClampNeg x))))) sz sl
  | .aastore => len = 1 ∧ ((∃ v j a r n t f ci vs, st = Value.ref v :: Value.int j :: Value.ref a :: r ∧ M a = some (am_qa t n f) ∧ M v = some (.inr (ci, vs)) ∧ am_asg P t ci = true ∧ vp_in j n ∧ K (pc + 1) r (am_set M a (am_qa t n (va_up f j.toNatClampNeg (some v)))) sz sl) ∨
      (∃ v j a r n t f t2 x, st = Value.ref v :: Value.int j :: Value.ref a :: r ∧ M a = some (am_qa t n f) ∧ M v = some (.inl (t2, x)) ∧ am_asA P t t2 = true ∧ vp_in j n ∧ K (pc + 1) r (am_set M a (am_qa t n (va_up f j.toNatClampNeg (some v)))) sz sl) ∨
      (∃ j a r n t f E, st = Value.null :: Value.int j :: Value.ref a :: r ∧ M a = some (am_qa t n f) ∧ (am_kd P)[t]? = some (.object E) ∧ vp_in j n ∧ K (pc + 1) r (am_set M a (am_qa t n (va_up f j.toNatClampNeg none))) sz sl))
  | .multianewarray x d => len = 4 ∧ d = 2 ∧ ∃ kn n r t, st = Value.int kn :: Value.int n :: r ∧ am_nt P own x = 100 + t ∧ ¬ n < 0 ∧ ¬ kn < 0 ∧ n.toNatClampNeg * 4 ≤ 536870912 ∧ kn.toNatClampNeg * 8 ≤ 536870912 ∧ K (pc + 4) (Value.ref sz :: r) (am_mna t M sz n.toNatClampNeg kn.toNatClampNeg) (sz + 1 + n.toNatClampNeg) (sl + n.toNatClampNeg + n.toNatClampNeg * kn.toNatClampNeg)
  | .checkcast x => len = 3 ∧ am_nt P own x = 4 ∧ ∃ a r y, st = Value.ref a :: r ∧ M a = some (.inl (0, y)) ∧ K (pc + 3) st M sz sl
  | _ => False
def am_cat (r : List Value) : Nat := (r.map fun v => v.category).sum
def am_nat (P : am_P) (RO : am_O) (mt : am_Meth) (i : Instr) (len pc : Nat) (st : List Value) (M : am_H) (sz sl : Nat) (K : am_K) : Prop := match i with
  | .invokespecial x => len = 3 ∧ am_nt P mt.2.2.2.2.2.2 x = 2 ∧ ∃ a r, st = Value.ref a :: r ∧ 1 ≤ mt.2.2.2.2.1 ∧ am_cat r + 12 ≤ mt.2.2.2.2.2.1 ∧ K (pc + 3) r M sz sl
  | .invokestatic x => len = 3 ∧ ((am_nt P mt.2.2.2.2.2.2 x = 1 ∧ ∃ n dp a sp a0 r n0 n1 f g, st = Value.int n :: Value.int dp :: Value.ref a :: Value.int sp :: Value.ref a0 :: r ∧ M a0 = some (.inl (0, n0, .inl f)) ∧ M a = some (.inl (0, n1, .inl g)) ∧ ¬ sp < 0 ∧ ¬ dp < 0 ∧ ¬ n < 0 ∧ sp.toNatClampNeg + n.toNatClampNeg ≤ n0 ∧ dp.toNatClampNeg + n.toNatClampNeg ≤ n1 ∧
      1 ≤ mt.2.2.2.2.1 ∧ am_cat r + (nativeFrameWords "java/lang/System" "arraycopy" 5 + 11) ≤ mt.2.2.2.2.2.1 ∧ K (pc + 3) r (am_set M a (.inl (0, n1, .inl (va_cpy f g sp.toNatClampNeg dp.toNatClampNeg n.toNatClampNeg)))) sz sl) ∨
      ∃ j vs r v, am_nt P mt.2.2.2.2.2.2 x = 10 + j ∧ st = vs ++ r ∧ am_mth j vs = some v ∧ 1 ≤ mt.2.2.2.2.1 ∧ am_cat r + 15 ≤ mt.2.2.2.2.2.1 ∧ K (pc + 3) (v :: r) M sz sl)
  | .invokevirtual x => len = 3 ∧ am_nt P mt.2.2.2.2.2.2 x = 3 ∧ ∃ a r n f, st = Value.ref a :: r ∧ M a = some (.inl (0, n, .inl f)) ∧ 1 ≤ mt.2.2.2.2.1 ∧ am_cat r + 14 ≤ mt.2.2.2.2.2.1 ∧ K (pc + 3) (Value.ref sz :: r) (am_set M sz (.inl (0, n, .inl f))) (sz + 1) (sl + n)
  | _ => False
def am_ret (mt : am_Meth) (i : Instr) (len : Nat) (st : List Value) (Q : Option Value → Prop) : Prop := match i with
  | .return_ => len = 1 ∧ st = [] ∧ mt.2.2.2.1 = none ∧ Q none
  | .ireturn => len = 1 ∧ ∃ v ty, st = [Value.int v] ∧ mt.2.2.2.1 = some ty ∧ narrow ty (.int v) = .int v ∧ Q (some (.int v))
  | .lreturn => len = 1 ∧ ∃ v, st = [Value.long v] ∧ mt.2.2.2.1 = some .long ∧ Q (some (.long v))
  | .areturn => len = 1 ∧ ∃ v ty, st = [v] ∧ mt.2.2.2.1 = some ty ∧ ((∃ n, ty = .object n) ∨ ∃ t, ty = .array t) ∧ (v = .null ∨ ∃ a, v = .ref a) ∧ Q (some v)
  | _ => False
/-- a call: which method, with which arguments (the receiver first), what stays on the stack -/
def am_call (P : am_P) (M : am_H) (own : Nat) (i : Instr) (st : List Value) (z : Nat) (vs r : List Value) : Prop := match i with
  | .invokestatic x => ∃ n, am_cs P own x = some (z, n) ∧ st = vs.reverse ++ r ∧ vs.length = n
  | .invokespecial x => ∃ n b As, am_ci P own x = some (z, n) ∧ vs = Value.ref b :: As ∧ st = As.reverse ++ Value.ref b :: r ∧ As.length = n
  | .invokevirtual x => ∃ n b As ci fs, M b = some (.inr (ci, fs)) ∧ am_cv P own x ci = some (z, n) ∧ vs = Value.ref b :: As ∧ st = As.reverse ++ Value.ref b :: r ∧ As.length = n
  | _ => False
abbrev am_Q : Type := Option Value → am_H → Nat → Nat → Prop
abbrev am_F : Type := Nat → am_L → List Value → am_H → Nat → Nat → Prop
abbrev am_C : Type := Nat → List Value → am_H → Nat → Nat → am_Q → Prop
def am_room (mt mz : am_Meth) : Prop := mz.2.2.2.2.1 + 1 ≤ mt.2.2.2.2.1 ∧ 8 + (mz.2.2.1 + 11) + mz.2.2.2.2.2.1 ≤ mt.2.2.2.2.2.1
def am_step (P : am_P) (RO : am_O) (mt : am_Meth) (i : Instr) (len pc : Nat) (lv : am_L) (st : List Value) (M : am_H) (sz sl : Nat) (K : am_F) (C : am_C) (Q : am_Q) : Prop :=
  (∃ v, am_push (am_cst P mt.2.2.2.2.2.2) i lv = some (len, v) ∧ K (pc + len) lv (v :: st) M sz sl) ∨
  (len = 1 ∧ ∃ st', am_op i st = some st' ∧ am_nz i st ∧ K (pc + 1) lv st' M sz sl) ∨
  (∃ l0 n lv' st', am_sto i lv st = some (l0, n, lv', st') ∧ n ≤ mt.2.2.1 ∧ (len = l0 ∨ (l0 = 3 ∧ len = 6)) ∧ K (pc + len) lv' st' M sz sl) ∨
  am_br i len pc st (fun t r => K t lv r M sz sl) ∨
  am_hp P RO mt.2.2.2.2.2.2 (mt.1.name == "<init>") i len pc st M sz sl (fun t r M' z' l' => K t lv r M' z' l') ∨
  am_ret mt i len st (fun v => Q v M sz sl) ∨
  (len = 3 ∧ ∃ z vs r mz, am_call P M mt.2.2.2.2.2.2 i st z vs r ∧ am_meth P z = some mz ∧ am_room mt mz ∧ (lg_sl vs).length ≤ mz.2.2.1 ∧ am_cat r ≤ 8 ∧ C z vs M sz sl (fun v M' z' l' => K (pc + 3) lv (v.toList ++ r) M' z' l')) ∨
  am_nat P RO mt i len pc st M sz sl (fun t r M' z' l' => K t lv r M' z' l')
def am_W (P : am_P) (RO : am_O) : Nat → Nat → Nat → am_L → List Value → am_H → Nat → Nat → am_Q → Prop
  | 0, _, _, _, _, _, _, _, _ => False
  | k + 1, y, pc, lv, st, M, sz, sl, Q => ∃ mt, am_meth P y = some mt ∧ ∃ i len, decode mt.2.1 pc = .ok (i, len) ∧
      am_step P RO mt i len pc lv st M sz sl (fun pc' lv' st' M' z' l' => am_W P RO k y pc' lv' st' M' z' l' Q) (fun z vs M' z' l' Q' => am_W P RO k z 0 (lv_args 0 vs) [] M' z' l' Q') Q
theorem am_br_c {i : Instr} {len pc : Nat} {st : List Value} {K : Nat → List Value → Prop} (h : am_br i len pc st K) : ∃ t r, K t r ∧ ∀ K' : Nat → List Value → Prop, K' t r → am_br i len pc st K' := by
  cases i with
  | goto off =>
    obtain ⟨h0, t, ht, h1⟩ := h
    exact ⟨t, st, h1, fun K' k => ⟨h0, t, ht, k⟩⟩
  | ifCond cd off =>
    obtain ⟨h0, x, r, hs, t, ht, h1, h2⟩ := h
    by_cases q : am_c0 cd x
    · exact ⟨t, r, h1 q, fun K' k => ⟨h0, x, r, hs, t, ht, fun _ => k, fun n => absurd q n⟩⟩
    · exact ⟨pc + 3, r, h2 q, fun K' k => ⟨h0, x, r, hs, t, ht, fun n => absurd n q, fun _ => k⟩⟩
  | if_icmp cd off =>
    obtain ⟨h0, y, x, r, hs, t, ht, h1, h2⟩ := h
    by_cases q : am_c2 cd x y
    · exact ⟨t, r, h1 q, fun K' k => ⟨h0, y, x, r, hs, t, ht, fun _ => k, fun n => absurd q n⟩⟩
    · exact ⟨pc + 3, r, h2 q, fun K' k => ⟨h0, y, x, r, hs, t, ht, fun n => absurd n q, fun _ => k⟩⟩
  | ifnull off =>
    obtain ⟨h0, ⟨x, r, hs, h1⟩ | ⟨r, hs, t, ht, h1⟩⟩ := h
    · exact ⟨pc + 3, r, h1, fun K' k => ⟨h0, Or.inl ⟨x, r, hs, k⟩⟩⟩
    · exact ⟨t, r, h1, fun K' k => ⟨h0, Or.inr ⟨r, hs, t, ht, k⟩⟩⟩
  | ifnonnull off =>
    obtain ⟨h0, ⟨x, r, hs, t, ht, h1⟩ | ⟨r, hs, h1⟩⟩ := h
    · exact ⟨t, r, h1, fun K' k => ⟨h0, Or.inl ⟨x, r, hs, t, ht, k⟩⟩⟩
    · exact ⟨pc + 3, r, h1, fun K' k => ⟨h0, Or.inr ⟨r, hs, k⟩⟩⟩
  | tableswitch dflt lo hi offs =>
    obtain ⟨x, r, hs, h1, h2⟩ := h
    by_cases hq : x.toInt < lo ∨ hi < x.toInt
    · obtain ⟨t, ht, h3⟩ := h1 hq
      exact ⟨t, r, h3, fun K' k => ⟨x, r, hs, fun _ => ⟨t, ht, k⟩, fun n1 n2 => absurd hq (fun z => z.elim n1 n2)⟩⟩
    · obtain ⟨off, ho, t, ht, h3⟩ := h2 (fun z => hq (Or.inl z)) (fun z => hq (Or.inr z))
      exact ⟨t, r, h3, fun K' k => ⟨x, r, hs, fun n => absurd n hq, fun _ _ => ⟨off, ho, t, ht, k⟩⟩⟩
  | lookupswitch dflt ps =>
    obtain ⟨x, r, hs, h1, t, ht, h3⟩ := h
    exact ⟨t, r, h3, fun K' k => ⟨x, r, hs, h1, t, ht, k⟩⟩
  | _ => exact False.elim h
theorem am_hp_c {P : am_P} {RO : am_O} {own : Nat} {ini : Bool} {i : Instr} {len pc : Nat} {st : List Value} {M : am_H} {sz sl : Nat} {K : am_K} (h : am_hp P RO own ini i len pc st M sz sl K) :
    ∃ t r M' z' l', K t r M' z' l' ∧ sz ≤ z' ∧ sl ≤ l' ∧ ∀ K' : am_K, K' t r M' z' l' → am_hp P RO own ini i len pc st M sz sl K' := by
  cases i with
  | getfield x =>
    obtain ⟨h0, a, r, ci, fs, k, v, h1, h2, h3, h4, h5⟩ := h
    exact ⟨_, _, _, _, _, h5, Nat.le_refl _, Nat.le_refl _, fun K' q => ⟨h0, a, r, ci, fs, k, v, h1, h2, h3, h4, q⟩⟩
  | putfield x =>
    obtain ⟨h0, v, a, r, ci, fs, k, h1, h2, h3, h4, h5, h6, h7, h8⟩ := h
    exact ⟨_, _, _, _, _, h8, Nat.le_refl _, Nat.le_refl _, fun K' q => ⟨h0, v, a, r, ci, fs, k, h1, h2, h3, h4, h5, h6, h7, q⟩⟩
  | getstatic x =>
    obtain ⟨h0, a, h1, h2⟩ := h
    exact ⟨_, _, _, _, _, h2, Nat.le_refl _, Nat.le_refl _, fun K' q => ⟨h0, a, h1, q⟩⟩
  | new x =>
    obtain ⟨h0, ci, h1, h2⟩ := h
    exact ⟨_, _, _, _, _, h2, Nat.le_succ _, Nat.le_add_right _ _, fun K' q => ⟨h0, ci, h1, q⟩⟩
  | newarray ty =>
    obtain ⟨h0, n, r, t, x, h1, h2, h3, h4, h5⟩ := h
    exact ⟨_, _, _, _, _, h5, Nat.le_succ _, Nat.le_add_right _ _, fun K' q => ⟨h0, n, r, t, x, h1, h2, h3, h4, q⟩⟩
  | anewarray x =>
    obtain ⟨h0, n, r, t, h1, h2, h3, h4, h5⟩ := h
    exact ⟨_, _, _, _, _, h5, Nat.le_succ _, Nat.le_add_right _ _, fun K' q => ⟨h0, n, r, t, h1, h2, h3, h4, q⟩⟩
  | arraylength =>
    obtain ⟨h0, a, r, t, x, h1, h2, h3⟩ := h
    exact ⟨_, _, _, _, _, h3, Nat.le_refl _, Nat.le_refl _, fun K' q => ⟨h0, a, r, t, x, h1, h2, q⟩⟩
  | multianewarray x d =>
    obtain ⟨h0, hd, kn, n, r, t, h1, h2, h3, h4, h5, h6, h7⟩ := h
    exact ⟨_, _, _, _, _, h7, by omega, by omega, fun K' q => ⟨h0, hd, kn, n, r, t, h1, h2, h3, h4, h5, h6, q⟩⟩
  | iaload =>
    obtain ⟨h0, j, a, r, n, f, h1, h2, h3, h4⟩ := h
    exact ⟨_, _, _, _, _, h4, Nat.le_refl _, Nat.le_refl _, fun K' q => ⟨h0, j, a, r, n, f, h1, h2, h3, q⟩⟩
  | baload =>
    obtain ⟨h0, j, a, r, n, f, h1, h2, h3, h4⟩ := h
    exact ⟨_, _, _, _, _, h4, Nat.le_refl _, Nat.le_refl _, fun K' q => ⟨h0, j, a, r, n, f, h1, h2, h3, q⟩⟩
  | laload =>
    obtain ⟨h0, j, a, r, n, f, h1, h2, h3, h4⟩ := h
    exact ⟨_, _, _, _, _, h4, Nat.le_refl _, Nat.le_refl _, fun K' q => ⟨h0, j, a, r, n, f, h1, h2, h3, q⟩⟩
  | aaload =>
    obtain ⟨h0, j, a, r, n, t, f, ty, h1, h2, h3, h4, h5, h6⟩ := h
    exact ⟨_, _, _, _, _, h6, Nat.le_refl _, Nat.le_refl _, fun K' q => ⟨h0, j, a, r, n, t, f, ty, h1, h2, h3, h4, h5, q⟩⟩
  | iastore =>
    obtain ⟨h0, x, j, a, r, n, f, h1, h2, h3, h4⟩ := h
    exact ⟨_, _, _, _, _, h4, Nat.le_refl _, Nat.le_refl _, fun K' q => ⟨h0, x, j, a, r, n, f, h1, h2, h3, q⟩⟩
  | bastore =>
    obtain ⟨h0, x, j, a, r, n, f, h1, h2, h3, h4⟩ := h
    exact ⟨_, _, _, _, _, h4, Nat.le_refl _, Nat.le_refl _, fun K' q => ⟨h0, x, j, a, r, n, f, h1, h2, h3, q⟩⟩
  | lastore =>
    obtain ⟨h0, x, j, a, r, n, f, h1, h2, h3, h4⟩ := h
    exact ⟨_, _, _, _, _, h4, Nat.le_refl _, Nat.le_refl _, fun K' q => ⟨h0, x, j, a, r, n, f, h1, h2, h3, q⟩⟩
  | aastore =>
    obtain ⟨h0, ⟨v, j, a, r, n, t, f, ci, vs, h1, h2, h3, h4, h5, h6⟩ | ⟨v, j, a, r, n, t, f, t2, x, h1, h2, h3, h4, h5, h6⟩ | ⟨j, a, r, n, t, f, E, h1, h2, h3, h4, h5⟩⟩ := h
    · exact ⟨_, _, _, _, _, h6, Nat.le_refl _, Nat.le_refl _, fun K' q => ⟨h0, Or.inl ⟨v, j, a, r, n, t, f, ci, vs, h1, h2, h3, h4, h5, q⟩⟩⟩
    · exact ⟨_, _, _, _, _, h6, Nat.le_refl _, Nat.le_refl _, fun K' q => ⟨h0, Or.inr (Or.inl ⟨v, j, a, r, n, t, f, t2, x, h1, h2, h3, h4, h5, q⟩)⟩⟩
    · exact ⟨_, _, _, _, _, h5, Nat.le_refl _, Nat.le_refl _, fun K' q => ⟨h0, Or.inr (Or.inr ⟨j, a, r, n, t, f, E, h1, h2, h3, h4, q⟩)⟩⟩
  | checkcast x =>
    obtain ⟨h0, hn, a, r, y, h1, h2, h3⟩ := h
    exact ⟨_, _, _, _, _, h3, Nat.le_refl _, Nat.le_refl _, fun K' q => ⟨h0, hn, a, r, y, h1, h2, q⟩⟩
  | _ => exact False.elim h
theorem am_nat_c {P : am_P} {RO : am_O} {mt : am_Meth} {i : Instr} {len pc : Nat} {st : List Value} {M : am_H} {sz sl : Nat} {K : am_K} (h : am_nat P RO mt i len pc st M sz sl K) :
    ∃ t r M' z' l', K t r M' z' l' ∧ sz ≤ z' ∧ sl ≤ l' ∧ ∀ K' : am_K, K' t r M' z' l' → am_nat P RO mt i len pc st M sz sl K' := by
  cases i with
  | invokespecial x =>
    obtain ⟨h0, hn, a, r, h1, h2, h3, h4⟩ := h
    exact ⟨_, _, _, _, _, h4, Nat.le_refl _, Nat.le_refl _, fun K' q => ⟨h0, hn, a, r, h1, h2, h3, q⟩⟩
  | invokestatic x =>
    obtain ⟨h0, ⟨hn, n, dp, a, sp, a0, r, n0, n1, f, g, h1, h2, h3, h4, h5, h6, h7, h8, h9, h10, h11⟩ | ⟨j, vs, r, v, h1, h2, h3, h4, h5, h6⟩⟩ := h
    · exact ⟨_, _, _, _, _, h11, Nat.le_refl _, Nat.le_refl _, fun K' q => ⟨h0, Or.inl ⟨hn, n, dp, a, sp, a0, r, n0, n1, f, g, h1, h2, h3, h4, h5, h6, h7, h8, h9, h10, q⟩⟩⟩
    · exact ⟨_, _, _, _, _, h6, Nat.le_refl _, Nat.le_refl _, fun K' q => ⟨h0, Or.inr ⟨j, vs, r, v, h1, h2, h3, h4, h5, q⟩⟩⟩
  | invokevirtual x =>
    obtain ⟨h0, hn, a, r, n, f, h1, h2, h3, h4, h5⟩ := h
    exact ⟨_, _, _, _, _, h5, Nat.le_succ _, Nat.le_add_right _ _, fun K' q => ⟨h0, hn, a, r, n, f, h1, h2, h3, h4, q⟩⟩
  | _ => exact False.elim h
theorem am_ret_c {mt : am_Meth} {i : Instr} {len : Nat} {st : List Value} {Q : Option Value → Prop} (h : am_ret mt i len st Q) : ∃ v, Q v ∧ ∀ Q' : Option Value → Prop, Q' v → am_ret mt i len st Q' := by
  cases i with
  | return_ =>
    obtain ⟨h0, h1, h2, h3⟩ := h
    exact ⟨_, h3, fun Q' q => ⟨h0, h1, h2, q⟩⟩
  | ireturn =>
    obtain ⟨h0, v, ty, h1, h2, h3, h4⟩ := h
    exact ⟨_, h4, fun Q' q => ⟨h0, v, ty, h1, h2, h3, q⟩⟩
  | lreturn =>
    obtain ⟨h0, v, h1, h2, h3⟩ := h
    exact ⟨_, h3, fun Q' q => ⟨h0, v, h1, h2, q⟩⟩
  | areturn =>
    obtain ⟨h0, v, ty, h1, h2, h3, h4, h5⟩ := h
    exact ⟨_, h5, fun Q' q => ⟨h0, v, ty, h1, h2, h3, h4, q⟩⟩
  | _ => exact False.elim h
/-- what a step comes to: the same frame's next, a call, or the end -/
theorem am_step_c {P : am_P} {RO : am_O} {mt : am_Meth} {i : Instr} {len pc : Nat} {lv : am_L} {st : List Value} {M : am_H} {sz sl : Nat} {K : am_F} {C : am_C} {Q : am_Q} (h : am_step P RO mt i len pc lv st M sz sl K C Q) :
    (∃ pc' lv' st' M' z' l', K pc' lv' st' M' z' l' ∧ sz ≤ z' ∧ sl ≤ l' ∧ ∀ (K' : am_F) (C' : am_C) (Q' : am_Q), K' pc' lv' st' M' z' l' → am_step P RO mt i len pc lv st M sz sl K' C' Q') ∨
    (∃ z vs r, C z vs M sz sl (fun v M' z' l' => K (pc + 3) lv (v.toList ++ r) M' z' l') ∧ ∀ (K' : am_F) (C' : am_C) (Q' : am_Q), C' z vs M sz sl (fun v M' z' l' => K' (pc + 3) lv (v.toList ++ r) M' z' l') → am_step P RO mt i len pc lv st M sz sl K' C' Q') ∨
    (∃ v, Q v M sz sl ∧ ∀ (K' : am_F) (C' : am_C) (Q' : am_Q), Q' v M sz sl → am_step P RO mt i len pc lv st M sz sl K' C' Q') := by
  rcases h with ⟨v, h1, h2⟩ | ⟨h0, st', h1, h2, h3⟩ | ⟨l0, n, lv', st', h1, h2, h3, h4⟩ | h | h | h | ⟨h0, z, vs, r, mz, h1, h2, h3, h4, h5, h6⟩ | h
  · exact Or.inl ⟨_, _, _, _, _, _, h2, Nat.le_refl _, Nat.le_refl _, fun K' C' Q' q => Or.inl ⟨v, h1, q⟩⟩
  · exact Or.inl ⟨_, _, _, _, _, _, h3, Nat.le_refl _, Nat.le_refl _, fun K' C' Q' q => Or.inr (Or.inl ⟨h0, st', h1, h2, q⟩)⟩
  · exact Or.inl ⟨_, _, _, _, _, _, h4, Nat.le_refl _, Nat.le_refl _, fun K' C' Q' q => Or.inr (Or.inr (Or.inl ⟨l0, n, lv', st', h1, h2, h3, q⟩))⟩
  · obtain ⟨t, r, h1, h2⟩ := am_br_c h
    exact Or.inl ⟨_, _, _, _, _, _, h1, Nat.le_refl _, Nat.le_refl _, fun K' C' Q' q => Or.inr (Or.inr (Or.inr (Or.inl (h2 _ q))))⟩
  · obtain ⟨t, r, M', z', l', h1, h2, h3, h4⟩ := am_hp_c h
    exact Or.inl ⟨_, _, _, _, _, _, h1, h2, h3, fun K' C' Q' q => Or.inr (Or.inr (Or.inr (Or.inr (Or.inl (h4 _ q)))))⟩
  · obtain ⟨v, h1, h2⟩ := am_ret_c h
    exact Or.inr (Or.inr ⟨v, h1, fun K' C' Q' q => Or.inr (Or.inr (Or.inr (Or.inr (Or.inr (Or.inl (h2 _ q))))))⟩)
  · exact Or.inr (Or.inl ⟨z, vs, r, h6, fun K' C' Q' q => Or.inr (Or.inr (Or.inr (Or.inr (Or.inr (Or.inr (Or.inl ⟨h0, z, vs, r, mz, h1, h2, h3, h4, h5, q⟩))))))⟩)
  · obtain ⟨t, r, M', z', l', h1, h2, h3, h4⟩ := am_nat_c h
    exact Or.inl ⟨_, _, _, _, _, _, h1, h2, h3, fun K' C' Q' q => Or.inr (Or.inr (Or.inr (Or.inr (Or.inr (Or.inr (Or.inr (h4 _ q)))))))⟩
theorem am_mono {P : am_P} {RO : am_O} : ∀ (k y pc : Nat) (lv : am_L) (st : List Value) (M : am_H) (sz sl : Nat) (Q Q' : am_Q), (∀ v M' z' l', Q v M' z' l' → Q' v M' z' l') → am_W P RO k y pc lv st M sz sl Q → am_W P RO k y pc lv st M sz sl Q'
  | 0, _, _, _, _, _, _, _, _, _, _, h => h
  | k + 1, y, pc, lv, st, M, sz, sl, Q, Q', hq, h => by
    obtain ⟨mt, h1, i, len, h2, h3⟩ := h
    refine ⟨mt, h1, i, len, h2, ?_⟩
    rcases am_step_c h3 with ⟨pc', lv', st', M', z', l', a1, -, -, a2⟩ | ⟨z, vs, r, a1, a2⟩ | ⟨v, a1, a2⟩
    · exact a2 _ _ _ (am_mono k _ _ _ _ _ _ _ _ _ hq a1)
    · exact a2 _ _ _ (am_mono k _ _ _ _ _ _ _ _ _ (fun v M' z' l' q => am_mono k _ _ _ _ _ _ _ _ _ hq q) a1)
    · exact a2 _ _ _ (hq _ _ _ _ a1)
def am_eq (v : Option Value) (M : am_H) (z l : Nat) : am_Q := fun v1 M1 z1 l1 => v1 = v ∧ M1 = M ∧ z1 = z ∧ l1 = l
/-- a run has one end -/
theorem am_det {P : am_P} {RO : am_O} : ∀ (k y pc : Nat) (lv : am_L) (st : List Value) (M : am_H) (sz sl : Nat) (Q : am_Q), am_W P RO k y pc lv st M sz sl Q → ∃ v M' z' l', am_W P RO k y pc lv st M sz sl (am_eq v M' z' l') ∧ Q v M' z' l' ∧ sz ≤ z' ∧ sl ≤ l'
  | 0, _, _, _, _, _, _, _, _, h => False.elim h
  | k + 1, y, pc, lv, st, M, sz, sl, Q, h => by
    obtain ⟨mt, h1, i, len, h2, h3⟩ := h
    rcases am_step_c h3 with ⟨pc', lv', st', M', z', l', a1, a3, a4, a2⟩ | ⟨z, vs, r, a1, a2⟩ | ⟨v, a1, a2⟩
    · obtain ⟨v, M1, z1, l1, b1, b2, b3, b4⟩ := am_det k _ _ _ _ _ _ _ _ a1
      exact ⟨v, M1, z1, l1, ⟨mt, h1, i, len, h2, a2 _ _ _ b1⟩, b2, Nat.le_trans a3 b3, Nat.le_trans a4 b4⟩
    · obtain ⟨v, M1, z1, l1, b1, b2, b3, b4⟩ := am_det k _ _ _ _ _ _ _ _ a1
      obtain ⟨w, M2, z2, l2, c1, c2, c3, c4⟩ := am_det k _ _ _ _ _ _ _ _ b2
      refine ⟨w, M2, z2, l2, ⟨mt, h1, i, len, h2, a2 _ _ _ (am_mono k _ _ _ _ _ _ _ _ _ (fun v' M' z' l' q => ?_) b1)⟩, c2, Nat.le_trans b3 c3, Nat.le_trans b4 c4⟩
      obtain ⟨rfl, rfl, rfl, rfl⟩ := q
      exact c1
    · exact ⟨v, M, sz, sl, ⟨mt, h1, i, len, h2, a2 _ _ _ ⟨rfl, rfl, rfl, rfl⟩⟩, a1, Nat.le_refl _, Nat.le_refl _⟩
theorem am_more {P : am_P} {RO : am_O} : ∀ (k y pc : Nat) (lv : am_L) (st : List Value) (M : am_H) (sz sl : Nat) (Q : am_Q), am_W P RO k y pc lv st M sz sl Q → am_W P RO (k + 1) y pc lv st M sz sl Q
  | 0, _, _, _, _, _, _, _, _, h => False.elim h
  | k + 1, y, pc, lv, st, M, sz, sl, Q, h => by
    obtain ⟨mt, h1, i, len, h2, h3⟩ := h
    refine ⟨mt, h1, i, len, h2, ?_⟩
    rcases am_step_c h3 with ⟨pc', lv', st', M', z', l', a1, -, -, a2⟩ | ⟨z, vs, r, a1, a2⟩ | ⟨v, a1, a2⟩
    · exact a2 _ _ _ (am_more k _ _ _ _ _ _ _ _ a1)
    · exact a2 _ _ _ (am_more k _ _ _ _ _ _ _ _ (am_mono k _ _ _ _ _ _ _ _ _ (fun v M' z' l' q => am_more k _ _ _ _ _ _ _ _ q) a1))
    · exact a2 _ _ _ a1
theorem am_le {P : am_P} {RO : am_O} {k k' y pc : Nat} {lv : am_L} {st : List Value} {M : am_H} {sz sl : Nat} {Q : am_Q} (hk : k ≤ k') (h : am_W P RO k y pc lv st M sz sl Q) : am_W P RO k' y pc lv st M sz sl Q := by
  induction hk with
  | refl => exact h
  | step _ ih => exact am_more _ _ _ _ _ _ _ _ _ ih
end
section
/-! AM: new long[..][..] (over the library's law of two dimensions) -/
theorem am_outer (c : ClassId) (N h0 : Nat) : ∀ i : Nat, Jvm.Free.Multi.outerC c N h0 i = arrV c N (fun j => va_rf (if j < i then some (h0 + 1 + j) else none))
  | 0 => by
    show ({ cls := c, slots := Array.replicate N .null, vm := .none } : Cell) = _
    rw [arrV_new]
    refine congrArg (arrV c N) (funext fun j => ?_)
    simp [va_rf]
  | i + 1 => by
    show (Jvm.Free.Multi.outerC c N h0 i).setSlot i (.ref (h0 + 1 + i)) = _
    rw [am_outer c N h0 i, arrV_store]
    refine congrArg (arrV c N) (funext fun j => ?_)
    by_cases e : j = i
    · subst e
      simp [updV, va_rf]
    · by_cases h : j < i
      · simp [updV, e, h, Nat.lt_succ_of_lt h]
      · simp [updV, e, h, show ¬ j < i + 1 by omega]
theorem am_R.mna {D : va_G} {cl : List vw_C} {A : Nat → Prop} {ca : Nat → ClassId} {M : am_H} {H H1 : Heap} (h : am_R D cl A ca M H) {t sz N K : Nat} (hsz : H.size = sz) (hA : ∀ q, sz ≤ q → A q) (e1 : va_at D cl (sz, .inl (ca t, N, .inr (.inr (.inr (.inr (fun i => if i < N then some (sz + 1 + i) else none)))))) H1) (e2 : ∀ j, j < N → va_at D cl (sz + 1 + j, .inl (ca 1, K, .inr (.inl (fun _ => 0)))) H1) (oq : ∀ q : Nat, q < sz → H1[q]? = H[q]?) : am_R D cl A ca (am_mna t M sz N K) H1 := by
  intro b x hx
  unfold am_mna at hx
  by_cases h1 : b = sz
  · rw [if_pos h1] at hx
    cases hx
    subst h1
    exact ⟨e1, hA _ (Nat.le_refl _)⟩
  · rw [if_neg h1] at hx
    by_cases h2 : sz < b ∧ b < sz + 1 + N
    · rw [if_pos h2] at hx
      cases hx
      have h3 := e2 (b - sz - 1) (by omega)
      rw [show sz + 1 + (b - sz - 1) = b by omega] at h3
      exact ⟨h3, hA _ (by omega)⟩
    · rw [if_neg h2] at hx
      have h3 := h.lt hx
      exact ⟨(h b x hx).1.kept (oq b (by omega)), (h b x hx).2⟩
section AMM
variable {p : Program} {l : Launch} {e : Env} {R : Room} {s : State} {m : MethodId} {args : Array Value} {below : List Frame} {meth : Method} {c : Code} {H : Heap} {locs : List Loc} {cells slots : Nat} {Q : State → Prop}
variable {cc : ByteArray} {pc : Nat} {ls : Array Slot} {rest : List Value} {D : va_G} {cl : List vw_C} {A : Nat → Prop} {a : Nat} {H0 : Heap} {ca : Nat → ClassId} {kd : List FieldType} {M : am_H} {Ts Nw : List Cond}
theorem am_mna_W (hx : p.tables.exec = Jvm.exec) (hb : c.code = cc) (hts : ∀ w ∈ Ts, w.before args s = true) (hnw : ∀ w ∈ Nw, va_Nw w s) {own : String} (hown : s.vm.findClass own = some m.cls) (hK : va_K D cl (am_tys kd ca) s) {index t N K : Nat} (ht : kd[t]? = some (.array .long)) (h1 : kd[1]? = some .long) (hover : Cond.arrayOver (.array .long) ∈ Nw) (harr : Cond.arrayClass .long ∈ Ts) (hlink : Cond.classLink own index ("[" ++ (FieldType.array .long).toString) ∈ Ts) {n k : Int32} (hn : ¬ n < 0) (hk : ¬ k < 0) (hN : n.toNatClampNeg = N) (hKn : k.toNatClampNeg = K) (hb1 : N * 4 ≤ 536870912) (hb2 : K * 8 ≤ 536870912) (hc : cells + (1 + N) ≤ R.cells) (hs : slots + (N + N * K) ≤ R.slots) (hd : decode cc pc = .ok (.multianewarray index 2, 4))
    (kk : ∀ (H1 : Heap), va_at D cl (H.size, .inl (ca t, N, .inr (.inr (.inr (.inr (fun i => if i < N then some (H.size + 1 + i) else none)))))) H1 → (∀ j, j < N → va_at D cl (H.size + 1 + j, .inl (ca 1, K, .inr (.inl (fun _ => 0)))) H1) → H1.size = H.size + 1 + N → (∀ q : Nat, q < H.size → H1[q]? = H[q]?) → W p l e R s m args below meth c H1 locs (cells + 1 + N) (slots + N + N * K) Q (F0 m (pc + 4) ls (.ref H.size :: rest))) : W p l e R s m args below meth c H locs cells slots Q (F0 m pc ls (.int k :: .int n :: rest)) := by
  subst hN
  subst hKn
  intro T hT Xs
  obtain ⟨vm₁, cA, comp, -, fA, fC, hO, -, X', step⟩ := Xs.multianewarray2F hx hown (hts _ hlink) (hnw _ hover) (hts _ harr) (g := F0 m pc ls (.int k :: .int n :: rest)) rfl (by rw [hb]; exact hd) rfl hn hk hb1 hb2 (by omega) rfl rfl hc hs
  have r1 : s.vm.findClass "[[J" = some (ca t) := (show ("[" ++ (FieldType.array .long).toString) = "[[J" from by decide +kernel) ▸ (hK.2 t _ (am_tys_at ht)).2
  have r2 : s.vm.findClass "[J" = some (ca 1) := (show ("[" ++ FieldType.long.toString) = "[J" from by decide +kernel) ▸ (hK.2 1 _ (am_tys_at h1)).2
  have ea : cA = ca t := by
    rw [show ("[" ++ (FieldType.array .long).toString) = "[[J" from by decide +kernel] at fA
    exact Option.some.inj (fA.symm.trans r1)
  have ec : comp = ca 1 := by
    rw [show (FieldType.array .long).toString = "[J" from by decide +kernel] at fC
    exact Option.some.inj (fC.symm.trans r2)
  subst ea
  subst ec
  generalize hF : Jvm.Free.Multi.fill (T.setVm vm₁) (ca t) (ca 1) n.toNatClampNeg k.toNatClampNeg (defaultValue .long) n.toNatClampNeg = F at X' step
  have hTh : (T.setVm vm₁).heap = H := hT
  obtain ⟨f1, f2, -, -⟩ := Jvm.Free.Multi.fill_facts (T.setVm vm₁) (ca t) (ca 1) n.toNatClampNeg k.toNatClampNeg (defaultValue .long) n.toNatClampNeg
  rw [hF, hTh] at f1 f2
  have hold : ∀ x : Nat, x < H.size → F.heap[x]? = H[x]? := fun x hx => by
    have := Jvm.Free.Multi.fill_old (T.setVm vm₁) (ca t) (ca 1) n.toNatClampNeg k.toNatClampNeg (defaultValue .long) (a := x) (by rw [hTh]; exact hx) n.toNatClampNeg
    rw [hF, hTh] at this
    exact this
  have hrow : ∀ j : Nat, j < n.toNatClampNeg → F.heap[H.size + 1 + j]? = some (vp_cell (ca 1) (k.toNatClampNeg, .inr (.inl (fun _ => 0)))) := fun j hj => by
    have := Jvm.Free.Multi.fill_inner (T.setVm vm₁) (ca t) (ca 1) n.toNatClampNeg k.toNatClampNeg (defaultValue .long) n.toNatClampNeg j hj
    rw [hF, hTh] at this
    refine this.trans ?_
    show some ({ cls := ca 1, slots := Array.replicate k.toNatClampNeg (defaultValue .long), vm := .none } : Cell) = some (arrV (ca 1) k.toNatClampNeg (fun _ => .long 0))
    rw [arrV_new]
    rfl
  have hout : F.heap[H.size]? = some (vp_cell (ca t) (n.toNatClampNeg, .inr (.inr (.inr (.inr (fun i => if i < n.toNatClampNeg then some (H.size + 1 + i) else none)))))) := by
    rw [f2, am_outer, vp_cell_q]
  obtain ⟨t', a1, b1⟩ := kk F.heap hout hrow (by rw [f1]) hold F rfl X'
  refine ⟨t', step t' ?_, b1⟩
  have e9 : T.heap.size = H.size := by rw [hT]
  rw [e9]
  exact a1
end AMM
end
section
/-! AM: a static method named by a subclass of its class */ -/
section AMX
variable {p : Program} {l : Launch} {e : Env} {R : Room} {s : State} {m : MethodId} {args : Array Value} {below : List Frame} {meth : Method} {c : Code} {H : Heap} {locs : List Loc} {cells slots : Nat}
theorem am_runSU {y : MethodName} {bytes cc : ByteArray} {maxL nL mc ms n index : Nat} {ret : Option FieldType} {ws : List Cond} {rm : Room} {Pc : Array Value → State → Prop} {Qc : Array Value → State → Outcome → State → Prop} {free : Addr → Prop} {Ts : List Cond} {own C : String} {As rest : List Value} {g : JFrame}
    (S : CallFix p m c cc nL s args Ts own) (hM : Met l y ws rm Pc Qc mc ms free)
    (cw : (rm.cells = mc ∧ rm.slots = ms ∧ rm.frames + 1 ≤ R.frames ∧ 8 + (maxL + 11) + rm.locals ≤ R.locals ∧ (∀ w ∈ ws, ∀ (a' : Array Value) (U : State), s.WarmedH U.vm → w.before a' U = true) ∧ Cond.code y bytes maxL ret ∈ ws) ∧ (Cond.code y bytes maxL ret).before args s = true ∧ (Cond.initialized y.cls).before args s = true ∧ (y.cls ≠ "java/lang/invoke/MethodHandle" ∧ y.cls ≠ "java/lang/invoke/VarHandle") ∧ (∀ sig, parseMethodDescriptor y.desc = some sig → n = sig.parameters.length))
    (hl : (Cond.methodLink own index ⟨C, y.name, y.desc⟩).before args s = true) (hsm : (Cond.sameMethod C y.cls y.name y.desc).before args s = true) (hstt : (Cond.static y).before args s = true) (hp : PreS s H Pc As)
    (hg : g.method = m) (hn : As.length = n) (hsize : g.locals.size = nL) (hstack : g.stack = As.reverse ++ rest) (hW : 2 * g.monitorRoom + (rest.map fun v => v.category).sum ≤ 8) (hdg : decode cc g.pc = .ok (.invokestatic index, 3)) (hf : cells + mc ≤ R.cells ∧ slots + ms ≤ R.slots) :
    va_Run p l e R s m args below meth c H locs cells slots mc ms g rest (Qc As.toArray) (free) := by
  obtain ⟨⟨hrc, hrs, hfr, hlo, hws, hcw⟩, hcode, hini, hy, hlen⟩ := cw
  have hK : Back l R p e below s args y 3 8 (PreOf R mc ms Pc) (PostOf Qc mc ms free) := back_of (bytes := bytes) (maxL := maxL) (ret := ret) hM hp.1 hrc hrs hfr hlo hws hcw (fun a' U hW => word_at hW (Or.inl (by first | rfl | simp [Cond.onTables, Cond.keeps, Cond.steady])) hini)
  obtain ⟨hx, hb, hml, ho, -⟩ := S
  intro T hT X
  obtain ⟨mk, hnamed⟩ := Cond.code_named hcode
  obtain ⟨methM, cM, hmethM, -, -, -, -, -, -, hsigM⟩ := Cond.code_spec hnamed hcode
  have hstatic : methM.isStatic = true := Cond.static_spec hnamed hmethM hstt
  obtain ⟨kP, hkP, -⟩ := className_of_methodNamed hnamed
  have hinitP : kP.init = .initialized := Cond.initialized_spec (findClass_of_methodNamed hnamed) hkP hini
  obtain ⟨vm₁, X₁, hstep₁⟩ := X.invokestaticUp hx (x := ⟨C, y.name, y.desc⟩) (owner := y.cls) ho hl hsm hy (hn := hnamed) hmethM hstatic hkP hinitP (g := g) hg (argsL := As) (rest := rest) (hn.trans (hlen _ hsigM)) hstack (by rw [hb]; exact hdg)
  obtain ⟨v, B, X', hpost, hsteps⟩ := hK m meth c ⟨T.setVm vm₁, locs, cells, slots⟩ { g with stack := rest } (.invokestatic index) mk As.toArray X₁ hg (hsize.trans hml.symm) (by rw [hb]; exact hdg) hW (X₁.named hnamed) ⟨hf.1, hf.2, hp.2 (T.setVm vm₁) hT X₁.warmed⟩
  obtain ⟨U', l2, c2, s2⟩ := B
  obtain ⟨g', mk', t, L, e1, e2, hq, h1, hL, h2, h3⟩ := hpost
  dsimp only [Pt.U, Pt.locs, Pt.cells, Pt.slots] at X' e1 e2 h1 h2 h3 hsteps
  subst h1; subst h2; subst h3
  exact ⟨v, (T.setVm vm₁).calling g' mk' As.toArray, t, U', L, hT, X', hL, e1, e2, hq, fun target h => hstep₁ _ fun acts => by rw [doInvoke_state]; exact hsteps.trans h⟩
end AMX
end
section
/-! AM: a hidden method of a kind of object that is not made itself, called on an object of a kind below it -/
theorem am_sel_priv {C : String} {y x2 y2 : MethodName} {s : State} {args : Array Value} (h2 : (Cond.selects C x2 y2).before args s = true) (hc : y2.cls = y.cls) (hy : y.cls ≠ "java/lang/invoke/MethodHandle" ∧ y.cls ≠ "java/lang/invoke/VarHandle")
    (hpriv : (Cond.privateMethod y).before args s = true) (hinst : (Cond.instanceMethod y).before args s = true) : (Cond.selects C y y).before args s = true := by
  obtain ⟨c, r, m2, hfc, -, hm2, -, k, hk, hni⟩ := Cond.selects_spec h2
  obtain ⟨mk, methM, hnamed, hmethM, -, -⟩ := Cond.instanceMethod_spec hinst
  have hfound : s.methodFound? y.cls y.name y.desc = some mk := State.methodFound?_of_named hnamed hy
  have hcls : mk.cls = m2.cls := by
    have h3 := findClass_of_methodNamed hm2
    have h4 := findClass_of_methodNamed hnamed
    rw [hc] at h3
    exact Option.some.inj (h4.symm.trans h3)
  have hsel : selectMethod {} s.vm c mk = .method mk := selectMethod_private hmethM (Cond.privateMethod_at hpriv mk methM hnamed hmethM)
  simp only [Cond.before, Cond.holds, Cond.value, hfc, hfound, hnamed, hsel, hcls, hk]
  simp; exact hni
/-- kind, method, a word that another method of its class is selected by -/
abbrev am_xE : Type := String × MethodName × MethodName × MethodName
def am_xW (q : am_xE) : Cond := .selects q.1 q.2.1 q.2.1
def am_xOk (Ts : List Cond) (q : am_xE) : Prop := Cond.selects q.1 q.2.2.1 q.2.2.2 ∈ Ts ∧ q.2.2.2.cls = q.2.1.cls ∧ (q.2.1.cls ≠ "java/lang/invoke/MethodHandle" ∧ q.2.1.cls ≠ "java/lang/invoke/VarHandle") ∧ Cond.privateMethod q.2.1 ∈ Ts ∧ Cond.instanceMethod q.2.1 ∈ Ts
theorem am_x_hts {Ts : List Cond} {X : List am_xE} (hX : ∀ q ∈ X, am_xOk Ts q) {args : Array Value} {s : State} (hts : ∀ w ∈ Ts, w.before args s = true) : ∀ w ∈ X.map am_xW, w.before args s = true := by
  intro w hw
  obtain ⟨q, hq, rfl⟩ := List.mem_map.mp hw
  obtain ⟨h1, h2, h3, h4, h5⟩ := hX q hq
  exact am_sel_priv (hts _ h1) h2 h3 (hts _ h4) (hts _ h5)
end
section
/-! AM's runs are the machine's: the world that a method finds, what the tables must say, the simulation */ -/
/-- words that are carried by the state, not by a method's list -/
def am_nwF (w : Cond) : Bool := match w with
  | .fieldLinkNest _ _ _ _ _ _ => true
  | .methodLinkNest _ _ _ _ => true
  | .declares _ => true
  | .castable _ _ => true
  | .arrayOver (.object _) => true
  | .arrayOver (.array _) => true
  | _ => false
theorem am_over_warm {t : FieldType} {s U : State} (hvm : s.vm.Alike U.vm) (h : va_Nw (.arrayOver (.array t)) s) : va_Nw (.arrayOver (.array t)) U := by
  obtain ⟨comp, c, k, h1, h2, h3, h4, h5⟩ := arrayOverA_spec h
  obtain ⟨k', hk', he⟩ := hvm.2.2 _ _ h3
  have hi : (U.vm.classes.findIdx? fun (x : Class) => match x.kind with | .array component _ => component == comp | _ => false) = some c := by
    rw [hvm.findIdx?_eq _ (fun _ => rfl)]
    exact h2
  have hkind : k'.kind = .array comp (.array t) := by rw [he]; exact h4
  have f1 : U.vm.findClass (FieldType.array t).toString = some comp := by rw [hvm.findClass]; exact h1
  have f2 : U.vm.findClass ("[" ++ (FieldType.array t).toString) = some c := by rw [hvm.findClass]; exact h5
  unfold va_Nw Cond.before Cond.holds
  simp only [Cond.value]
  rw [f1, Option.bind_some]
  refine (congrArg (fun o : Option Nat => (o.bind (fun c => (U.vm.classes[c]?).map fun (k : Class) => match k.kind with | .array _ ty => decide (ty = FieldType.array t) && decide (U.vm.findClass ("[" ++ (FieldType.array t).toString) = some c) | _ => false) == some true)) hi).trans ?_
  simp [hk', hkind, f2]
theorem am_nw_same {w : Cond} (h : am_nwF w = true) {u U : State} (hv : u.vm = U.vm) (hz : va_Nw w u) : va_Nw w U := by
  cases w with
  | fieldLinkNest a b c d e f => exact va_Nw.same rfl hv hz
  | methodLinkNest a b c d => exact va_Nw.same rfl hv hz
  | declares x => exact va_Nw.same rfl hv hz
  | castable a b => exact va_Nw.same rfl hv hz
  | arrayOver t =>
    cases t with
    | object C => exact va_AO.moved (hv ▸ Vm.Alike.refl _) hz
    | array t => exact am_over_warm (hv ▸ Vm.Alike.refl _) hz
    | _ => cases h
  | _ => cases h
theorem am_nw_warm {w : Cond} (h : am_nwF w = true) {s U : State} (hW : s.WarmedH U.vm) (hz : va_Nw w s) : va_Nw w U := by
  cases w with
  | fieldLinkNest a b c d e f => exact va_Nw.warmF hW hz
  | methodLinkNest a b c d => exact va_Nw.warmM hW hz
  | declares x => exact va_Nw.warmD hW hz
  | castable a b => exact va_Nw.warmC hW hz
  | arrayOver t =>
    cases t with
    | object C => exact va_AO.moved hW.alike hz
    | array t => exact am_over_warm hW.alike hz
    | _ => cases h
  | _ => cases h
section AMS
variable (P : am_P) (D : va_G) (cl : List vw_C) (A : Nat → Prop) (ca : Nat → ClassId) (RO : am_O) (Ts Nw : List Cond) (zs : List (String × String × String × Nat))
/-- the world's constant part -/
def am_Wo (U : State) (H : Heap) : Prop := va_K D cl (am_tys (am_kd P) ca) U ∧ (∀ w ∈ Nw, va_Nw w U) ∧ (∀ z ∈ zs, va_Z z.1 z.2.1 z.2.2.1 (.ref z.2.2.2) A U H) ∧ (∀ (a n : Nat) (f : Nat → Int32), RO a = some (n, f) → va_T .int a n (fun j => .int (f j)) A U H) ∧ (∀ t t2, am_asA P t t2 = true → ∃ ty, am_AA U (ca t) (ca t2) (.array ty)) ∧ ∀ q, H.size ≤ q → A q
def am_B (M : am_H) (sz : Nat) : State → Prop := fun U => U.heap.size = sz ∧ am_R D cl A ca M U.heap ∧ am_Wo P D cl A ca RO Nw zs U U.heap
def am_Qc (v : Option Value) (M : am_H) (sz : Nat) : Array Value → State → Outcome → State → Prop := fun _ st o t => o = .returned v ∧ t.heap.size = sz ∧ am_R D cl A ca M t.heap ∧ va_F A st t
def am_lk (own : String) (x : Nat) (y : MethodName) : Prop := Cond.methodLink own x y ∈ Ts ∨ ∃ host, Cond.methodLinkNest own x y host ∈ Nw
def am_ar (y : MethodName) (n : Nat) : Prop := (parseMethodDescriptor y.desc).map (fun d => d.parameters.length) = some n
/-- what the tables must say of the program -/
def am_G : Prop :=
  (∀ y mt, am_meth P y = some mt → plainName mt.1.cls = true ∧ am_on P mt.2.2.2.2.2.2 = mt.1.cls ∧ Cond.code mt.1 mt.2.1 mt.2.2.1 mt.2.2.2.1 ∈ Ts ∧ Cond.initialized mt.1.cls ∈ Ts ∧ (mt.1.cls ≠ "java/lang/invoke/MethodHandle" ∧ mt.1.cls ≠ "java/lang/invoke/VarHandle")) ∧
  (∀ o x ci k, am_fld P o x ci = some k → am_fOk Ts Nw cl (am_on P o) x ci k) ∧
  am_cOk Ts cl (am_tyf P) ∧
  (∀ o x ci k, am_fld P o x ci = some k → ∀ C T N, cl[ci]? = some (C, T, N) → (am_pk P o x ci = 1 → (T k).2.2.2 = false) ∧ (am_pk P o x ci = 2 → (T k).1 = am_on P o ∧ Cond.fieldLink (am_on P o) x (T k).1 (T k).2.1 (T k).2.2.1 ∈ Ts)) ∧
  (∀ o k v, am_cst P o k = some v → (∃ x : Int32, v = .int x ∧ Jvm.Cond.constant (am_on P o) k x ∈ Ts) ∨ ∃ x : Int64, v = .long x ∧ Jvm.Cond.constantLong (am_on P o) k x ∈ Ts) ∧
  (∀ o x ci, am_nw P o x = some ci → ∃ C T N, cl[ci]? = some (C, T, N) ∧ Cond.classLink (am_on P o) x C ∈ Ts) ∧
  (∀ ci C T N, cl[ci]? = some (C, T, N) → (am_df P ci).length = N ∧ ∀ j, j < N → defaultValue (am_tyf P ci j) = vp_V (am_df P ci) j) ∧
  (∀ o x t, am_an P o x = some t → (∃ C, (am_kd P)[t]? = some (.object C) ∧ Cond.arrayOver (.object C) ∈ Nw ∧ Cond.classLink (am_on P o) x C ∈ Ts) ∨ ∃ ty, (am_kd P)[t]? = some (.array ty) ∧ Cond.arrayOver (.array ty) ∈ Nw ∧ Cond.classLink (am_on P o) x (FieldType.array ty).toString ∈ Ts) ∧
  (∀ o x a, am_sa0 P o x = some a → am_stOk Ts zs (am_on P o) x a) ∧
  (∀ o x z n mz, am_cs P o x = some (z, n) → am_meth P z = some mz → Cond.static mz.1 ∈ Ts ∧ am_ar mz.1 n ∧ (am_lk Ts Nw (am_on P o) x mz.1 ∨ ∃ C, Cond.methodLink (am_on P o) x ⟨C, mz.1.name, mz.1.desc⟩ ∈ Ts ∧ Cond.sameMethod C mz.1.cls mz.1.name mz.1.desc ∈ Ts)) ∧
  (∀ o x z n mz, am_ci P o x = some (z, n) → am_meth P z = some mz → mz.1.name = "<init>" ∧ mz.2.2.2.1 = none ∧ Cond.instanceMethod mz.1 ∈ Ts ∧ am_ar mz.1 n ∧ am_lk Ts Nw (am_on P o) x mz.1) ∧
  (∀ o x ci z n mz, am_cv P o x ci = some (z, n) → am_meth P z = some mz → ∃ C T N, cl[ci]? = some (C, T, N) ∧ Cond.instanceMethod mz.1 ∈ Ts ∧
    ((am_ar mz.1 n ∧ am_lk Ts Nw (am_on P o) x mz.1 ∧ Cond.selects C mz.1 mz.1 ∈ Ts) ∨
     ∃ (xn : MethodName) (owner : String), am_ar xn n ∧ (owner ≠ "java/lang/invoke/MethodHandle" ∧ owner ≠ "java/lang/invoke/VarHandle") ∧ Cond.methodLink (am_on P o) x xn ∈ Ts ∧ Cond.sameMethod xn.cls owner xn.name xn.desc ∈ Ts ∧ Cond.selects C xn mz.1 ∈ Ts ∧ (Cond.declares ⟨owner, xn.name, xn.desc⟩ ∈ Nw ∨ (Cond.instanceMethod ⟨owner, xn.name, xn.desc⟩ ∈ Ts ∧ ∃ b m0 r0, Cond.code ⟨owner, xn.name, xn.desc⟩ b m0 r0 ∈ Ts)))) ∧
  (∀ o x, (am_nt P o x = 1 → am_acOk Ts (am_on P o) x) ∧ (am_nt P o x = 2 → Cond.methodLink (am_on P o) x Lib.objectInit ∈ Ts ∧ Cond.instanceMethod Lib.objectInit ∈ Ts ∧ Cond.code Lib.objectInit ⟨#[0xb1]⟩ 1 none ∈ Ts) ∧ (am_nt P o x = 3 → am_clOk Ts Nw (am_on P o) x) ∧ (am_nt P o x = 4 → Cond.classLink (am_on P o) x "[I" ∈ Ts) ∧ ∀ t, am_nt P o x = 100 + t → (am_kd P)[t]? = some (.array .long) ∧ Cond.arrayOver (.array .long) ∈ Nw ∧ Cond.classLink (am_on P o) x ("[" ++ (FieldType.array .long).toString) ∈ Ts) ∧
  (∀ o x j, am_nt P o x = 10 + j → am_mOk Ts (am_on P o) x j) ∧
  (∀ t ci, am_asg P t ci = true → ∃ E r, (am_kd P)[t]? = some (.object E) ∧ cl[ci]? = some r ∧ (r.1 = E ∨ Cond.castable r.1 E ∈ Nw)) ∧
  ((am_kd P)[0]? = some .int ∧ (am_kd P)[1]? = some .long ∧ (am_kd P)[2]? = some .boolean) ∧
  (Cond.arrayClass .int ∈ Ts ∧ Cond.arrayClass .long ∈ Ts ∧ Cond.arrayClass .boolean ∈ Ts) ∧
  (∀ w ∈ Ts, goodWord w = true) ∧ ∀ w ∈ Nw, am_nwF w = true
variable {P D cl A ca RO Ts Nw zs}
theorem am_Wo_warm (hf : ∀ w ∈ Nw, am_nwF w = true) {s U : State} {H H1 : Heap} (h : am_Wo P D cl A ca RO Nw zs s H) (hW : s.WarmedH U.vm) (hz : H.size ≤ H1.size) (hq : ∀ a : Nat, a < H.size → ¬ A a → H1[a]? = H[a]?) : am_Wo P D cl A ca RO Nw zs U H1 := by
  obtain ⟨h1, h2, h3, h4, h5, h6⟩ := h
  refine ⟨va_K.moved hW.alike h1, fun w hw => am_nw_warm (hf w hw) hW (h2 w hw), fun z hz => (va_Z.moved hW.alike (h3 z hz)).kept hq, fun a n f he => (va_T.moved hW.alike (h4 a n f he)).kept hq, fun t t2 ht => ?_, fun q hq => h6 q (Nat.le_trans hz hq)⟩
  · obtain ⟨ty, kA, kB, x, tb, k1, k2, k3, k4⟩ := h5 t t2 ht
    obtain ⟨kA', hA', eA⟩ := hW.alike.2.2 _ _ k1
    obtain ⟨kB', hB', eB⟩ := hW.alike.2.2 _ _ k3
    exact ⟨ty, kA', kB', x, tb, hA', by rw [eA]; exact k2, hB', by rw [eB]; exact k4⟩
theorem am_blind (hf : ∀ w ∈ Nw, am_nwF w = true) (vs : List Value) (M : am_H) (sz : Nat) : FrameBlind (va_Pc vs (am_B P D cl A ca RO Nw zs M sz)) := by
  intro a U g mk h
  obtain ⟨e1, e2, e3, h1, h2, h3, h4, h5, h6⟩ := h
  exact ⟨e1, e2, e3, va_K.moved (u := U) (U := U.calling g mk a) (Vm.Alike.refl U.vm) h1, fun w hw => am_nw_same (hf w hw) (u := U) (U := U.calling g mk a) rfl (h2 w hw), fun z hz => va_Z.moved (u := U) (U := U.calling g mk a) (Vm.Alike.refl U.vm) (h3 z hz), fun b n f hb => va_T.moved (u := U) (U := U.calling g mk a) (Vm.Alike.refl U.vm) (h4 b n f hb), h5, h6⟩
section AMSW
variable {p : Program} {l : Launch} {e : Env} {R : Room} {s : State} {m : MethodId} {args : Array Value} {below : List Frame} {meth : Method} {c : Code} {H : Heap} {locs : List Loc} {cells slots : Nat} {Q : State → Prop}
variable {pc : Nat} {ls : Array Slot} {rest st0 : List Value} {a : Array Value} {mc ms : Nat} {v : Option Value} {M1 : am_H} {z1 : Nat}
theorem am_call_W (hr : va_Run p l e R s m args below meth c H locs cells slots mc ms (F0 m pc ls st0) rest (am_Qc D cl A ca v M1 z1 a) A) (hS : va_S A s.heap H locs)
    (kk : ∀ (H1 : Heap) (locs1 : List Loc), H1.size = z1 → am_R D cl A ca M1 H1 → va_S A s.heap H1 locs1 → W p l e R s m args below meth c H1 locs1 (cells + mc) (slots + ms) Q (F0 m (pc + 3) ls (v.toList ++ rest))) : W p l e R s m args below meth c H locs cells slots Q (F0 m pc ls st0) := by
  intro T hT X
  obtain ⟨w, st₀, t, T', L, h0, X', hL, e1, e2, ⟨hv, hz1, hR1, hz, hk⟩, st⟩ := hr T hT X
  cases hv
  rw [h0] at hz hk
  obtain ⟨t2, a1, b1⟩ := kk T'.heap (locs ++ L) (by rw [e1]; exact hz1) (by rw [e1]; exact hR1)
    ⟨Nat.le_trans hS.1 (by rw [e1]; exact hz), fun q h1 h2 => by rw [e1, hk q (Nat.lt_of_lt_of_le h1 hS.1) h2]; exact hS.2.1 q h1 h2, fun q hq => by
      rcases List.mem_append.mp hq with h | h
      · exact hS.2.2 q h
      · exact hL q h⟩ T' rfl X'
  exact ⟨t2, st t2 a1, b1⟩
end AMSW
end AMS
end
section
/-! AM's runs are the machine's: the simulation */ -/
section AMT
variable {P : am_P} {D : va_G} {cl : List vw_C} {A : Nat → Prop} {ca : Nat → ClassId} {RO : am_O} {Ts Nw : List Cond} {zs : List (String × String × String × Nat)}
/-- what holds in a method's frame from its entry on -/
def am_Cx (P : am_P) (D : va_G) (cl : List vw_C) (A : Nat → Prop) (ca : Nat → ClassId) (RO : am_O) (Ts Nw : List Cond) (zs : List (String × String × String × Nat)) (mt : am_Meth) (p : Program) (s : State) (m : MethodId) (args : Array Value) (meth : Method) (c : Code) : Prop :=
  p.tables.exec = Jvm.exec ∧ c.code = mt.2.1 ∧ c.maxLocals = mt.2.2.1 ∧ s.vm.findClass mt.1.cls = some m.cls ∧ (∀ w ∈ Ts, w.before args s = true) ∧ meth.name = mt.1.name ∧ meth.sig.returnType = mt.2.2.2.1 ∧ meth.locks = false ∧ am_Wo P D cl A ca RO Nw zs s s.heap
def am_S (P : am_P) (D : va_G) (cl : List vw_C) (A : Nat → Prop) (ca : Nat → ClassId) (RO : am_O) (Ts Nw : List Cond) (zs : List (String × String × String × Nat)) (l : Launch) (k : Nat) : Prop :=
  ∀ (y pc : Nat) (lv : am_L) (st : List Value) (M : am_H) (sz sl : Nat) (v : Option Value) (M' : am_H) (sz' sl' : Nat), am_W P RO k y pc lv st M sz sl (am_eq v M' sz' sl') →
    ∀ (mt : am_Meth), am_meth P y = some mt → ∀ (p : Program) (e : Env) (R : Room) (s : State) (m : MethodId) (args : Array Value) (below : List Frame) (meth : Method) (c : Code) (H : Heap) (locs : List Loc) (ls : Array Slot) (cells slots mc ms : Nat),
      am_Cx P D cl A ca RO Ts Nw zs mt p s m args meth c → am_R D cl A ca M H → H.size = sz → va_S A s.heap H locs → lv_has ls mt.2.2.1 lv → cells + (sz' - sz) = mc → slots + (sl' - sl) = ms → mc ≤ R.cells → ms ≤ R.slots → mt.2.2.2.2.1 ≤ R.frames → mt.2.2.2.2.2.1 ≤ R.locals →
      W p l e R s m args below meth c H locs cells slots (MQ below (am_Qc D cl A ca v M' sz') args s mc ms A) (F0 m pc ls st)
theorem am_end {k y pc : Nat} {lv : am_L} {st : List Value} {M : am_H} {sz sl : Nat} {v : Option Value} {M' : am_H} {sz' sl' : Nat} (h : am_W P RO k y pc lv st M sz sl (am_eq v M' sz' sl')) : sz ≤ sz' ∧ sl ≤ sl' := by
  obtain ⟨v1, M1, z1, l1, -, h2, h3, h4⟩ := am_det _ _ _ _ _ _ _ _ _ h
  obtain ⟨-, -, rfl, rfl⟩ := h2
  exact ⟨h3, h4⟩
/-- the room of a method for a run -/
def am_rm (mt : am_Meth) (mc ms : Nat) : Room := { frames := mt.2.2.2.2.1, cells := mc, slots := ms, locals := mt.2.2.2.2.2.1 }
theorem am_met (G : am_G P cl Ts Nw zs) {l : Launch} {k : Nat} (hS : am_S P D cl A ca RO Ts Nw zs l k) {z : Nat} {mz : am_Meth} (hz : am_meth P z = some mz) {vs : List Value} (hlen : (lg_sl vs).length ≤ mz.2.2.1) {M : am_H} {sz sl : Nat} {v : Option Value} {M' : am_H} {sz' sl' : Nat} (h : am_W P RO k z 0 (lv_args 0 vs) [] M sz sl (am_eq v M' sz' sl')) :
    Met l mz.1 (Cond.code mz.1 mz.2.1 mz.2.2.1 mz.2.2.2.1 :: Ts) (am_rm mz (sz' - sz) (sl' - sl)) (va_Pc vs (am_B P D cl A ca RO Nw zs M sz)) (am_Qc D cl A ca v M' sz') (sz' - sz) (sl' - sl) A := by
  have hp := (G.1 z mz hz).1
  refine Met.ofW (cc := mz.2.1) (maxL := mz.2.2.1) (ret := mz.2.2.2.1) hp rfl ?_
  intro p e s m args below meth c s₁ B hml hv
  obtain ⟨rfl, hsz, hR, hWo⟩ := hv
  have hts := atoms_spec B.pre
  have hl := lv_entry vs hlen
  rw [lg_entry_eq]
  exact hS z 0 _ [] M sz sl v M' sz' sl' h mz hz p e _ s m _ below meth c s.heap [] _ 0 0 _ _ ⟨B.exec, B.bytes, hml, findClass_of_methodNamed B.named, fun w hw => hts w (List.mem_cons_of_mem _ hw), (name_of_methodNamed B.named B.method).1, B.returns, B.notSynchronized, hWo⟩ hR hsz va_S.rf hl (Nat.zero_add _) (Nat.zero_add _) (Nat.le_refl _) (Nat.le_refl _) (Nat.le_refl _) (Nat.le_refl _)
theorem am_good (G : am_G P cl Ts Nw zs) {z : Nat} {mz : am_Meth} (hz : am_meth P z = some mz) : GoodIn Ts (Cond.code mz.1 mz.2.1 mz.2.2.1 mz.2.2.2.1 :: Ts) := by
  obtain ⟨gM, -, -, -, -, -, -, -, -, -, -, -, -, -, -, -, -, gT, -⟩ := G
  intro w hw
  have hm : w ∈ Ts := (List.mem_cons.mp hw).elim (fun e => e ▸ (gM z mz hz).2.2.1) id
  exact ⟨hm, good_of_word (gT w hm)⟩
end AMT
end
section
/-! AM's runs are the machine's: calls, and the induction */ -/
section AMU
variable {P : am_P} {D : va_G} {cl : List vw_C} {A : Nat → Prop} {ca : Nat → ClassId} {RO : am_O} {Ts Nw : List Cond} {zs : List (String × String × String × Nat)}
theorem am_lv_len : ∀ {vs : List Value} {k : Nat}, (lv_args k vs).length = vs.length := by
  intro vs
  induction vs with
  | nil => intro k; rfl
  | cons a r ih => intro k; simp [lv_args, ih]
theorem am_pre (G : am_G P cl Ts Nw zs) {s : State} {H : Heap} {locs : List Loc} {M : am_H} (hWo : am_Wo P D cl A ca RO Nw zs s s.heap) (hR : am_R D cl A ca M H) (hS : va_S A s.heap H locs) (As : List Value) : PreS s H (va_Pc As (am_B P D cl A ca RO Nw zs M H.size)) As := by
  obtain ⟨-, -, -, -, -, -, -, -, -, -, -, -, -, -, -, -, -, -, gN⟩ := G
  refine ⟨am_blind gN As M H.size, fun U hU hW => ⟨rfl, by rw [hU], by rw [hU]; exact hR, ?_⟩⟩
  rw [hU]
  exact am_Wo_warm gN hWo hW hS.1 hS.2.1
theorem am_run (G : am_G P cl Ts Nw zs) {l : Launch} {k : Nat} (hSk : am_S P D cl A ca RO Ts Nw zs l k) {mt : am_Meth} {p : Program} {e : Env} {R : Room} {s : State} {m : MethodId} {args : Array Value} {below : List Frame} {meth : Method} {c : Code} {H : Heap} {locs : List Loc} {ls : Array Slot} {cells slots : Nat} {pc : Nat} {st : List Value} {M : am_H} {sl : Nat}
    (hC : am_Cx P D cl A ca RO Ts Nw zs mt p s m args meth c) (hR : am_R D cl A ca M H) (hS : va_S A s.heap H locs) (hsz : ls.size = mt.2.2.1) {i : Instr} (hd : decode mt.2.1 pc = .ok (i, 3)) {z : Nat} {vs r : List Value} {mz : am_Meth} (hy : am_on P mt.2.2.2.2.2.2 = mt.1.cls) (hcall : am_call P M mt.2.2.2.2.2.2 i st z vs r) (hz : am_meth P z = some mz) (hroom : am_room mt mz) (hlen : (lg_sl vs).length ≤ mz.2.2.1) (hcat : am_cat r ≤ 8) (hfr : mt.2.2.2.2.1 ≤ R.frames) (hlo : mt.2.2.2.2.2.1 ≤ R.locals)
    {v : Option Value} {M' : am_H} {sz' sl' : Nat} (h : am_W P RO k z 0 (lv_args 0 vs) [] M H.size sl (am_eq v M' sz' sl')) (hc1 : cells + (sz' - H.size) ≤ R.cells) (hc2 : slots + (sl' - sl) ≤ R.slots) :
    va_Run p l e R s m args below meth c H locs cells slots (sz' - H.size) (sl' - sl) (F0 m pc ls st) r (am_Qc D cl A ca v M' sz' vs.toArray) A := by
  have hM := am_met G hSk hz hlen h
  have hg := am_good G hz
  obtain ⟨hx, hb, hml, hown, hts, hnm, hret, hlocks, hWo⟩ := hC
  rw [← hy] at hown
  have S : CallFix p m c mt.2.1 ls.size s args Ts (am_on P mt.2.2.2.2.2.2) := ⟨hx, hb, hml.trans hsz.symm, hown, hts⟩
  have hnw := hWo.2.1
  have hRoom : (am_rm mz (sz' - H.size) (sl' - sl)).frames + 1 ≤ R.frames ∧ 8 + (mz.2.2.1 + 11) + (am_rm mz (sz' - H.size) (sl' - sl)).locals ≤ R.locals := ⟨Nat.le_trans hroom.1 hfr, Nat.le_trans hroom.2 hlo⟩
  obtain ⟨gM, -, -, -, -, -, -, -, -, gcs, gci, gcv, -⟩ := id G
  obtain ⟨-, -, -, hini, hmh⟩ := gM z mz hz
  have hW : 2 * (F0 m pc ls st).monitorRoom + (r.map fun v => v.category).sum ≤ 8 := lv_room hcat
  cases i with
  | invokestatic x =>
    obtain ⟨n, h1, rfl, hn⟩ := hcall
    obtain ⟨w1, w2, w3⟩ := gcs _ _ _ _ _ h1 hz
    rcases w3 with (w3 | ⟨host, w3⟩) | ⟨C, w3, w4⟩
    · exact va_runS S hM ⟨callB_of n hts hg rfl rfl rfl (hts _ hini) (hts _ w3) ⟨hmh.1, hmh.2, w2⟩ hRoom, hts _ w1⟩ (am_pre G hWo hR hS vs) rfl hn rfl rfl hW hd ⟨hc1, hc2⟩
    · exact va_runSN S hM ⟨va_cnB n hts hg rfl rfl rfl (hnw _ w3) (hts _ hini) ⟨hmh.1, hmh.2, w2⟩ hRoom, hts _ w1, trivial⟩ (am_pre G hWo hR hS vs) rfl hn rfl rfl hW hd ⟨hc1, hc2⟩
    · refine am_runSU S hM ⟨⟨rfl, rfl, hRoom.1, hRoom.2, pay_in hts hg, List.mem_cons_self⟩, hts _ (gM z mz hz).2.2.1, hts _ hini, hmh, fun sig hsig => ?_⟩ (hts _ w3) (hts _ w4) (hts _ w1) (am_pre G hWo hR hS vs) rfl hn rfl rfl hW hd ⟨hc1, hc2⟩
      have h2 := w2
      unfold am_ar at h2
      rw [hsig] at h2
      exact (Option.some.inj h2).symm
  | invokespecial x =>
    obtain ⟨n, b, As, h1, rfl, rfl, hn⟩ := hcall
    obtain ⟨w0, w5, w1, w2, w3⟩ := gci _ _ _ _ _ h1 hz
    obtain ⟨nm, bytes, maxL, ret, fr, lo, oz⟩ := mz
    dsimp only at w5
    subst w5
    rcases w3 with w3 | ⟨host, w3⟩
    · exact va_runI S hM ⟨callB_of n hts hg rfl rfl rfl (hts _ hini) (hts _ w3) ⟨hmh.1, hmh.2, w2⟩ hRoom, w0, hts _ w1⟩ (am_pre G hWo hR hS _) rfl hn rfl rfl hW hd ⟨hc1, hc2⟩
    · exact va_runIN S hM ⟨va_cnB n hts hg rfl rfl rfl (hnw _ w3) (hts _ hini) ⟨hmh.1, hmh.2, w2⟩ hRoom, w0, hts _ w1⟩ (am_pre G hWo hR hS _) rfl hn rfl rfl hW hd ⟨hc1, hc2⟩
  | invokevirtual x =>
    obtain ⟨n, b, As, ci, fs, hb0, h1, rfl, rfl, hn⟩ := hcall
    obtain ⟨C, T, N, hci, w1, w⟩ := gcv _ _ _ _ _ _ h1 hz
    have hpre := am_pre G hWo hR hS (Value.ref b :: As)
    have hV : PreV s H C b (va_Pc (Value.ref b :: As) (am_B P D cl A ca RO Nw zs M H.size)) As := ⟨hpre.1, va_recv hWo.1 (am_one (hR b _ hb0).1) hci (q0 := 0) rfl, hpre.2⟩
    rcases w with ⟨w2, w3, w4⟩ | ⟨xn, owner, w2, w3, w4, w5, w6, w7⟩
    · rcases w3 with w3 | ⟨host, w3⟩
      · exact va_runV S hM ⟨callB_of n hts hg rfl rfl rfl (hts _ hini) (hts _ w3) ⟨hmh.1, hmh.2, w2⟩ hRoom, hts _ w1, hts _ w4⟩ hV rfl hn rfl rfl hW hd ⟨hc1, hc2⟩
      · exact va_runVN S hM ⟨va_cnB n hts hg rfl rfl rfl (hnw _ w3) (hts _ hini) ⟨hmh.1, hmh.2, w2⟩ hRoom, hts _ w1, hts _ w4⟩ hV rfl hn rfl rfl hW hd ⟨hc1, hc2⟩
    · have hdecl : va_Decl s ⟨owner, xn.name, xn.desc⟩ := by
        rcases w7 with w7 | ⟨w7, b7, m7, r7, w8⟩
        · exact va_Decl.abs (hnw _ w7)
        · exact va_Decl.of (hts _ w7) (hts _ w8)
      have hU : va_CU R s args (am_on P mt.2.2.2.2.2.2) C owner x xn mz.1 mz.2.1 mz.2.2.1 mz.2.2.2.1 (Cond.code mz.1 mz.2.1 mz.2.2.1 mz.2.2.2.1 :: Ts) (am_rm mz (sz' - H.size) (sl' - sl)) (sz' - H.size) (sl' - sl) n := by
        refine ⟨⟨rfl, rfl, hRoom.1, hRoom.2, pay_in hts hg, List.mem_cons_self⟩, hts _ (gM z mz hz).2.2.1, hts _ hini, w3, fun sig hsig => ?_, hts _ w4, hts _ w5, hdecl, hts _ w6, hts _ w1⟩
        have h2 := w2
        unfold am_ar at h2
        rw [hsig] at h2
        exact (Option.some.inj h2).symm
      exact va_runU S hM hU hV rfl hn rfl rfl hW hd ⟨hc1, hc2⟩
  | _ => exact False.elim hcall
end AMU
end
section
/-! AM's runs are the machine's: the induction */ -/
section AMV
variable {P : am_P} {D : va_G} {cl : List vw_C} {A : Nat → Prop} {ca : Nat → ClassId} {RO : am_O} {Ts Nw : List Cond} {zs : List (String × String × String × Nat)}
set_option maxHeartbeats 4000000 in
theorem am_sim (G : am_G P cl Ts Nw zs) (l : Launch) : ∀ k, am_S P D cl A ca RO Ts Nw zs l k
  | 0 => fun y pc lv st M sz sl v M' sz' sl' h => False.elim h
  | k + 1 => by
    have hSk := am_sim G l k
    intro y pc lv st M sz sl v M' sz' sl' h mt hm p e R s m args below meth c H locs ls cells slots mc ms hC hR hsz hS hl hmc hms hmcR hmsR hfr hlo
    have hend := am_end h
    obtain ⟨mt', hm', i, len, hd, h⟩ := h
    cases hm.symm.trans hm'
    obtain ⟨hx, hb, hml, hown, hts, hnm, hret, hlocks, hWo⟩ := id hC
    have hK := hWo.1
    have hnw := hWo.2.1
    have hA := hWo.2.2.2.2.2
    obtain ⟨gM, gF, gC, gP, gK, gW, gD, gA, gZ, gcs, gci, gcv, gN, gMth, gS, ⟨k0, k1, k2⟩, ⟨a0, a1, a2⟩, gT, gNw⟩ := id G
    have hy := (gM y mt hm).2.1
    rw [← hy] at hown
    -- the same frame's next
    have go : ∀ (pc' : Nat) (lv' : am_L) (st' : List Value) (M1 : am_H) (z1 l1 : Nat) (H1 : Heap) (locs1 : List Loc) (ls1 : Array Slot) (cells1 slots1 : Nat), am_W P RO k y pc' lv' st' M1 z1 l1 (am_eq v M' sz' sl') → am_R D cl A ca M1 H1 → H1.size = z1 → va_S A s.heap H1 locs1 → lv_has ls1 mt.2.2.1 lv' → cells1 + (sz' - z1) = mc → slots1 + (sl' - l1) = ms →
        W p l e R s m args below meth c H1 locs1 cells1 slots1 (MQ below (am_Qc D cl A ca v M' sz') args s mc ms A) (F0 m pc' ls1 st') := fun pc' lv' st' M1 z1 l1 H1 locs1 ls1 cells1 slots1 h1 h2 h3 h4 h5 h6 h7 =>
      hSk y pc' lv' st' M1 z1 l1 v M' sz' sl' h1 mt hm p e R s m args below meth c H1 locs1 ls1 cells1 slots1 mc ms hC h2 h3 h4 h5 h6 h7 hmcR hmsR hfr hlo
    have put : ∀ (pc' : Nat) (st' : List Value) (a : Nat) (x : am_E) (H1 : Heap) (j : Nat), am_W P RO k y pc' lv st' (am_set M a x) sz sl (am_eq v M' sz' sl') → A a → va_at D cl (a, am_enc1 ca x) H1 → H1.size = H.size → (∀ q : Nat, q ≠ a → H1[q]? = H[q]?) →
        W p l e R s m args below meth c H1 (locs ++ [⟨a, j⟩]) cells slots (MQ below (am_Qc D cl A ca v M' sz') args s mc ms A) (F0 m pc' ls st') := fun pc' st' a x H1 j h1 h2 h3 h4 h5 =>
      go pc' lv st' _ sz sl H1 _ ls cells slots h1 (hR.set h2 h3 h5) (h4.trans hsz) (am_S_put hS h4 h5 h2) hl hmc hms
    have born : ∀ (pc' : Nat) (st' : List Value) (x : am_E) (n : Nat) (H1 : Heap), am_W P RO k y pc' lv st' (am_set M sz x) (sz + 1) (sl + n) (am_eq v M' sz' sl') → va_at D cl (H.size, am_enc1 ca x) H1 → H1.size = H.size + 1 → (∀ q : Nat, q < H.size → H1[q]? = H[q]?) →
        W p l e R s m args below meth c H1 locs (cells + 1) (slots + n) (MQ below (am_Qc D cl A ca v M' sz') args s mc ms A) (F0 m pc' ls st') := fun pc' st' x n H1 h1 h2 h3 h4 => by
      have h9 := am_end h1
      refine go pc' lv st' _ (sz + 1) (sl + n) H1 _ ls (cells + 1) (slots + n) h1 ?_ (by omega) (am_S_push hS (by omega) h4) hl (by omega) (by omega)
      rw [← hsz]
      exact hR.push (hA _ hS.1) h2 h4
    rcases h with ⟨w, h1, h2⟩ | ⟨rfl, st', h1, h2, h3⟩ | ⟨l0, n, lv', st', h1, h2, h3, h4⟩ | h | h | h | ⟨rfl, z, vs, r, mz, h1, h2, h3, h4, h5, h6⟩ | h
    · refine am_push_W hx hb hown (own := am_on P mt.2.2.2.2.2.2) (fun q w hq => ?_) h1 hd hl (go _ _ _ _ _ _ _ _ _ _ _ h2 hR hsz hS hl hmc hms)
      rcases gK _ _ _ hq with ⟨x, e1, e2⟩ | ⟨x, e1, e2⟩
      · exact Or.inl ⟨x, e1, hts _ e2⟩
      · exact Or.inr ⟨x, e1, hts _ e2⟩
    · exact am_op_W hx hb h1 h2 hd (go _ _ _ _ _ _ _ _ _ _ _ h3 hR hsz hS hl hmc hms)
    · refine am_sto_W hx hb h1 h2 (len' := len) ?_ hd hl (fun ls' hl' => go _ _ _ _ _ _ _ _ _ _ _ h4 hR hsz hS hl' hmc hms)
      rcases h3 with h3 | h3
      · exact Or.inl h3
      · exact Or.inr h3
    · exact am_br_W hx hb h hd (fun t r hk => go _ _ _ _ _ _ _ _ _ _ _ hk hR hsz hS hl hmc hms)
    · cases i with
      | getfield x =>
        obtain ⟨rfl, a, r, ci, fs, kk, w, rfl, h2, h3, h4, h5⟩ := h
        exact am_getf_W hx hb hts hnw hown hK (hR a _ h2).1 (gF _ _ _ _ h3) h4 hd (go _ _ _ _ _ _ _ _ _ _ _ h5 hR hsz hS hl hmc hms)
      | putfield x =>
        obtain ⟨rfl, w, a, r, ci, fs, kk, rfl, h2, h3, h4, h5, h6, h7, h8⟩ := h
        refine am_putf_W hx hb hts hnw hown hK gC (hR a _ h2).1 (gF _ _ _ _ h3) h5 h6 h7 (fun C T N hci => ?_) hd (fun H1 j e1 e2 e3 => put _ _ a _ H1 j h8 (hR a _ h2).2 e1 e2 e3)
        obtain ⟨g1, g2⟩ := gP _ _ _ _ h3 C T N hci
        rcases h4 with h4 | ⟨h4, h9⟩
        · exact Or.inl (g1 h4)
        · obtain ⟨g3, g4⟩ := g2 h4
          exact Or.inr ⟨hnm.trans (by simpa using h9), g3, _, rfl, g4⟩
      | getstatic x =>
        obtain ⟨rfl, a, h1, h2⟩ := h
        exact am_gets_W hx hb hts hown hWo.2.2.1 hS (gZ _ _ _ h1) hd (go _ _ _ _ _ _ _ _ _ _ _ h2 hR hsz hS hl hmc hms)
      | new x =>
        obtain ⟨rfl, ci, h1, h2⟩ := h
        obtain ⟨C, T, N, hci, hw⟩ := gW _ _ _ h1
        obtain ⟨d1, d2⟩ := gD _ _ _ _ hci
        have h9 := am_end h2
        rw [d1] at h2 h9
        rw [← hsz] at h2
        refine am_new_W hx hb hts hown hK gC hci hw d2 (by omega) (by omega) hd (fun H1 e1 e2 e3 => ?_)
        rw [hsz] at h2
        rw [hsz]
        exact born _ _ _ _ H1 h2 e1 e2 e3
      | newarray ty =>
        obtain ⟨rfl, n, r, t, x, rfl, h2, h3, h4, h5⟩ := h
        have h9 := am_end h5
        have fin : ∀ (t0 : Nat) (x0 : vp_A), some (t0, x0) = some (t, x) → (am_kd P)[t0]? = some (newarray.typeOf ty) → Cond.arrayClass (newarray.typeOf ty) ∈ Ts → (∀ C, newarray.typeOf ty ≠ .object C) → (∀ cA : ClassId, vp_cell cA x0 = arrV cA n.toNatClampNeg (fun _ => defaultValue (newarray.typeOf ty))) → n.toNatClampNeg * componentBytes (newarray.typeOf ty) ≤ 536870912 → W p l e R s m args below meth c H locs cells slots (MQ below (am_Qc D cl A ca v M' sz') args s mc ms A) (F0 m pc ls (Value.int n :: r)) := by
          intro t0 x0 e0 b1 b2 b3 b4 b5
          cases e0
          refine am_newa_W hx hb hts hK b2 b1 b3 b4 h2 rfl b5 (by omega) (by omega) hd (fun H1 e1 e2 e3 => ?_)
          rw [hsz]
          exact born _ _ _ _ H1 h5 e1 e2 e3
        cases ty with
        | int => exact fin _ _ h4 k0 a0 (fun C q => by cases q) (fun cA => rfl) (by show _ * 4 ≤ _; omega)
        | long => exact fin _ _ h4 k1 a1 (fun C q => by cases q) (fun cA => rfl) (by show _ * 8 ≤ _; omega)
        | boolean => exact fin _ _ h4 k2 a2 (fun C q => by cases q) (fun cA => rfl) (by show _ * 1 ≤ _; omega)
        | _ => cases h4
      | anewarray x =>
        obtain ⟨rfl, n, r, t, rfl, h2, h3, h4, h5⟩ := h
        have h9 := am_end h5
        rcases gA _ _ _ h4 with ⟨C, b1, b2, b3⟩ | ⟨ty, b1, b2, b3⟩
        · refine am_anew_W hx hb hts hown hnw hK b1 b2 b3 h2 rfl h3 (by omega) (by omega) hd (fun H1 e1 e2 e3 => ?_)
          rw [hsz]
          exact born _ _ _ _ H1 h5 e1 e2 e3
        · refine am_anewA_W hx hb hts hown hnw hK b1 b2 b3 h2 rfl h3 (by omega) (by omega) hd (fun H1 e1 e2 e3 => ?_)
          rw [hsz]
          exact born _ _ _ _ H1 h5 e1 e2 e3
      | arraylength =>
        obtain ⟨rfl, a, r, t, x, rfl, ⟨h2, h3⟩ | ⟨h2, f, h3⟩, h4⟩ := h
        · exact va_alen hx hb hK (am_one ((hR a _ h2).1)) 0 t rfl (am_tys_at (List.getElem?_eq_getElem h3)) rfl hd (go _ _ _ _ _ _ _ _ _ _ _ h4 hR hsz hS hl hmc hms)
        · exact va_tlen hx hb (hWo.2.2.2.1 _ _ _ h3) hS rfl hd (go _ _ _ _ _ _ _ _ _ _ _ h4 hR hsz hS hl hmc hms)
      | iaload =>
        obtain ⟨rfl, j, a, r, n, f, rfl, h2 | ⟨h2, h5⟩, h3, h4⟩ := h
        · exact va_iald hx hb hK (am_one ((hR a _ h2).1)) 0 0 rfl (am_tys_at k0) h3 hd (go _ _ _ _ _ _ _ _ _ _ _ h4 hR hsz hS hl hmc hms)
        · exact va_ti hx hb (hWo.2.2.2.1 _ _ _ h5) hS h3 rfl hd (go _ _ _ _ _ _ _ _ _ _ _ h4 hR hsz hS hl hmc hms)
      | baload =>
        obtain ⟨rfl, j, a, r, n, f, rfl, h2, h3, h4⟩ := h
        exact va_zald hx hb hK (am_one ((hR a _ h2).1)) 0 2 rfl (am_tys_at k2) h3 hd (go _ _ _ _ _ _ _ _ _ _ _ h4 hR hsz hS hl hmc hms)
      | laload =>
        obtain ⟨rfl, j, a, r, n, f, rfl, h2, h3, h4⟩ := h
        exact va_lald hx hb hK (am_one ((hR a _ h2).1)) 0 1 rfl (am_tys_at k1) h3 hd (go _ _ _ _ _ _ _ _ _ _ _ h4 hR hsz hS hl hmc hms)
      | aaload =>
        obtain ⟨rfl, j, a, r, n, t, f, ty, rfl, h2, h3, h4, h5, h6⟩ := h
        exact am_aald_W hx hb hK h3 h4 ((hR a _ h2).1) h5 hd (go _ _ _ _ _ _ _ _ _ _ _ h6 hR hsz hS hl hmc hms)
      | iastore =>
        obtain ⟨rfl, x, j, a, r, n, f, rfl, h2, h3, h4⟩ := h
        exact am_iast_W hx hb hK k0 (hR a _ h2).1 h3 hd (fun H1 j' e1 e2 e3 => put _ _ a _ H1 j' h4 (hR a _ h2).2 e1 e2 e3)
      | bastore =>
        obtain ⟨rfl, x, j, a, r, n, f, rfl, h2, h3, h4⟩ := h
        exact am_zast_W hx hb hK k2 (hR a _ h2).1 h3 hd (fun H1 j' e1 e2 e3 => put _ _ a _ H1 j' h4 (hR a _ h2).2 e1 e2 e3)
      | lastore =>
        obtain ⟨rfl, x, j, a, r, n, f, rfl, h2, h3, h4⟩ := h
        exact am_last_W hx hb hK k1 (hR a _ h2).1 h3 hd (fun H1 j' e1 e2 e3 => put _ _ a _ H1 j' h4 (hR a _ h2).2 e1 e2 e3)
      | aastore =>
        obtain ⟨rfl, ⟨w, j, a, r, n, t, f, ci, vs, rfl, h2, h3, h4, h5, h6⟩ | ⟨w, j, a, r, n, t, f, t2, x, rfl, h2, h3, h4, h5, h6⟩ | ⟨j, a, r, n, t, f, E, rfl, h2, h3, h4, h5⟩⟩ := h
        · obtain ⟨E, r0, g1, g2, g3⟩ := gS _ _ h4
          exact am_aastO_W hx hb hnw hK g1 g2 g3 (hR a _ h2).1 (hR w _ h3).1 h5 hd (fun H1 j' e1 e2 e3 => put _ _ a _ H1 j' h6 (hR a _ h2).2 e1 e2 e3)
        · obtain ⟨ty, g1⟩ := hWo.2.2.2.2.1 _ _ h4
          exact am_aastA_W hx hb hK g1 (hR a _ h2).1 (hR w _ h3).1 h5 hd (fun H1 j' e1 e2 e3 => put _ _ a _ H1 j' h6 (hR a _ h2).2 e1 e2 e3)
        · exact am_aastN_W hx hb hK h3 (hR a _ h2).1 h4 hd (fun H1 j' e1 e2 e3 => put _ _ a _ H1 j' h5 (hR a _ h2).2 e1 e2 e3)
      | multianewarray x d =>
        obtain ⟨rfl, rfl, kn, n, r, t, rfl, h2, h3, h4, h5, h6, h7⟩ := h
        obtain ⟨g1, g2, g3⟩ := (gN _ _).2.2.2.2 t h2
        have h9 := am_end h7
        refine am_mna_W hx hb hts hnw hown hK g1 k1 g2 a1 g3 h3 h4 rfl rfl h5 h6 (by omega) (by omega) hd (fun H1 e1 e2 e3 e4 => ?_)
        rw [hsz] at e1 e2 e3 e4 ⊢
        exact go _ _ _ _ _ _ _ _ _ _ _ h7 (hR.mna hsz (fun q hq => hA q (by have := hS.1; omega)) e1 e2 e4) (by omega) (am_S_push hS (by omega) (by rw [hsz]; exact e4)) hl (by omega) (by omega)
      | checkcast x =>
        obtain ⟨rfl, hn, a, r, yy, rfl, h2, h3⟩ := h
        exact am_castA_W hx hb hts hown hK ((gN _ _).2.2.2.1 hn) k0 ((hR a _ h2).1) hd (go _ _ _ _ _ _ _ _ _ _ _ h3 hR hsz hS hl hmc hms)
      | _ => exact False.elim h
    · have hdone : ∀ w, am_eq v M' sz' sl' w M sz sl → (v = w ∧ mc = cells ∧ ms = slots ∧ ∀ (t : State), t.heap = H → am_Qc D cl A ca v M' sz' args s (.returned w) t) := by
        rintro w ⟨rfl, rfl, rfl, rfl⟩
        refine ⟨rfl, by omega, by omega, fun t ht => ⟨rfl, by rw [ht]; exact hsz, by rw [ht]; exact hR, hS.F ht⟩⟩
      cases i with
      | return_ =>
        obtain ⟨rfl, rfl, h2, h3⟩ := h
        obtain ⟨rfl, rfl, rfl, hq⟩ := hdone _ h3
        exact W.vret hx hb (hret.trans h2) (fun t ht _ => hq t ht) hS.2.2 hd hlocks
      | ireturn =>
        obtain ⟨rfl, w, ty, rfl, h2, h3, h4⟩ := h
        obtain ⟨rfl, rfl, rfl, hq⟩ := hdone _ h4
        exact W.zret hx hb (hret.trans h2) h3 (fun t ht _ => hq t ht) hS.2.2 hd hlocks
      | lreturn =>
        obtain ⟨rfl, w, rfl, h2, h3⟩ := h
        obtain ⟨rfl, rfl, rfl, hq⟩ := hdone _ h3
        exact W.lret hx hb (hret.trans h2) (fun t ht _ => hq t ht) hS.2.2 hd hlocks
      | areturn =>
        obtain ⟨rfl, w, ty, rfl, h2, h3, h4, h5⟩ := h
        obtain ⟨rfl, rfl, rfl, hq⟩ := hdone _ h5
        exact W.aret hx hb (hret.trans h2) h3 h4 (fun t ht _ => hq t ht) hS.2.2 hd hlocks
      | _ => exact False.elim h
    · obtain ⟨w, M1, z1, l1, b1, b2, b3, b4⟩ := am_det _ _ _ _ _ _ _ _ _ h6
      have b5 := am_end b2
      subst hsz
      refine am_call_W (am_run G hSk hC hR hS hl.1 hd hy h1 h2 h3 h4 h5 hfr hlo b1 (by omega) (by omega)) hS (fun H1 locs1 e1 e2 e3 => ?_)
      exact go _ _ _ _ _ _ _ _ _ _ _ b2 e2 e1 e3 hl (by omega) (by omega)
    · cases i with
      | invokespecial x =>
        obtain ⟨rfl, hn, a, r, rfl, h2, h3, h4⟩ := h
        obtain ⟨w1, w2, w3⟩ := (gN _ _).2.1 hn
        exact W.objInit hx hb hown (hts _ w1) (hts _ w2) (hts _ w3) rfl (hl.1.trans hml.symm) rfl hd (by omega) (by show 2 * 0 + am_cat r + 12 ≤ _; omega) (go _ _ _ _ _ _ _ _ _ _ _ h4 hR hsz hS hl hmc hms)
      | invokestatic x =>
        obtain ⟨rfl, ⟨hn, n, dp, a, sp, b0, r, n0, n1, f, g, rfl, h2, h3, h4, h5, h6, h7, h8, h9, h10, h11⟩ | ⟨j, vs, r, v1, hn, rfl, h2, h3, h4, h5⟩⟩ := h
        · refine am_copy_W hx hb (hml.trans hl.1.symm) hts hown hK ((gN _ _).1 hn) k0 (hR b0 _ h2).1 (hR a _ h3).1 h4 h5 h6 h7 h8 (by omega) (by show am_cat r + _ ≤ _; omega) hd (fun H1 L e1 e2 e3 e4 => ?_)
          have hAa := (hR a _ h3).2
          exact go _ lv _ _ sz sl H1 _ ls cells slots h11 (hR.set hAa e1 e3) (e2.trans hsz) ⟨by rw [e2]; exact hS.1, fun q g1 g2 => (e3 q (fun z => g2 (z ▸ hAa))).trans (hS.2.1 q g1 g2), fun q hq => by
            rcases List.mem_append.mp hq with g1 | g1
            · exact hS.2.2 q g1
            · rw [e4 q g1]
              exact hAa⟩ hl hmc hms
        · exact am_mth_W hx hb (hml.trans hl.1.symm) hts hown (gMth _ _ _ hn) h2 (by omega) (by show am_cat r + 15 ≤ _; omega) (by omega) (by omega) hd (go _ _ _ _ _ _ _ _ _ _ _ h5 hR hsz hS hl hmc hms)
      | invokevirtual x =>
        obtain ⟨rfl, hn, a, r, n, f, rfl, h2, h3, h4, h5⟩ := h
        have h9 := am_end h5
        refine am_clone_W hx hb (hml.trans hl.1.symm) hts hnw hown hK ((gN _ _).2.2.1 hn) k0 ((hR a _ h2).1) (by omega) (by show am_cat r + 14 ≤ _; omega) (by omega) (by omega) hd (fun H1 e1 e2 e3 => ?_)
        rw [hsz]
        exact born _ _ _ _ H1 h5 e1 e2 e3
      | _ => exact False.elim h
end AMV
end
section
/-! AM: tables as lists, checked by the kernel against the words; am_G out of the checks */ -/
abbrev am_Pos : Type := Nat × Nat
def am_at (tb : List (List Cond)) (q : am_Pos) : Option Cond := (tb[q.1]?).bind (fun l => l[q.2]?)
def am_Ts (tb : List (List Cond)) : List Cond := tb.flatten.filter goodWord
def am_Nw (tb : List (List Cond)) : List Cond := tb.flatten.filter am_nwF
theorem am_at_mem {tb : List (List Cond)} {q : am_Pos} {w : Cond} (h : am_at tb q = some w) : w ∈ tb.flatten := by
  unfold am_at at h
  obtain ⟨l, h1, h2⟩ := Option.bind_eq_some_iff.mp h
  exact List.mem_flatten.mpr ⟨l, List.mem_of_getElem? h1, List.mem_of_getElem? h2⟩
def am_in (tb : List (List Cond)) (q : am_Pos) (w : Cond) : Bool := decide (am_at tb q = some w) && goodWord w
def am_inN (tb : List (List Cond)) (q : am_Pos) (w : Cond) : Bool := decide (am_at tb q = some w) && am_nwF w
theorem am_in_s {tb : List (List Cond)} {q : am_Pos} {w : Cond} (h : am_in tb q w = true) : w ∈ am_Ts tb := by
  unfold am_in at h
  rw [Bool.and_eq_true, decide_eq_true_iff] at h
  exact List.mem_filter.mpr ⟨am_at_mem h.1, h.2⟩
theorem am_inN_s {tb : List (List Cond)} {q : am_Pos} {w : Cond} (h : am_inN tb q w = true) : w ∈ am_Nw tb := by
  unfold am_inN at h
  rw [Bool.and_eq_true, decide_eq_true_iff] at h
  exact List.mem_filter.mpr ⟨am_at_mem h.1, h.2⟩
def am_lk2 {α : Type} (L : List (List (Nat × α))) (o x : Nat) : Option α := (((L[o]?).getD []).find? (fun q => q.1 == x)).map (fun q => q.2)
def am_lk3 {α : Type} (L : List (List ((Nat × Nat) × α))) (o x ci : Nat) : Option α := (((L[o]?).getD []).find? (fun q => q.1.1 == x && q.1.2 == ci)).map (fun q => q.2)
def am_all {α : Type} (L : List (List α)) (ok : Nat → α → Bool) : Bool := L.zipIdx.all (fun q => q.1.all (ok q.2))
theorem am_all_s {α : Type} {L : List (List α)} {ok : Nat → α → Bool} (h : am_all L ok = true) {o : Nat} {l : List α} (ho : L[o]? = some l) {q : α} (hq : q ∈ l) : ok o q = true := by
  have h1 := List.all_eq_true.mp h (l, o) (by
    refine List.mem_of_getElem? (i := o) ?_
    rw [List.getElem?_zipIdx, ho]
    simp)
  exact List.all_eq_true.mp h1 q hq
theorem am_lk2_s {α : Type} {L : List (List (Nat × α))} {ok : Nat → Nat × α → Bool} (h : am_all L ok = true) {o x : Nat} {a : α} (hl : am_lk2 L o x = some a) : ok o (x, a) = true := by
  unfold am_lk2 at hl
  obtain ⟨q, h1, rfl⟩ := Option.map_eq_some_iff.mp hl
  have h2 := List.find?_some h1
  have h3 := List.mem_of_find?_eq_some h1
  cases ho : L[o]? with
  | none => rw [ho] at h3; simp at h3
  | some l =>
    rw [ho] at h3
    have h4 := am_all_s h ho h3
    have h5 : q.1 = x := by simpa using h2
    rw [← h5]
    exact h4
theorem am_lk3_s {α : Type} {L : List (List ((Nat × Nat) × α))} {ok : Nat → (Nat × Nat) × α → Bool} (h : am_all L ok = true) {o x ci : Nat} {a : α} (hl : am_lk3 L o x ci = some a) : ok o ((x, ci), a) = true := by
  unfold am_lk3 at hl
  obtain ⟨q, h1, rfl⟩ := Option.map_eq_some_iff.mp hl
  have h2 := List.find?_some h1
  have h3 := List.mem_of_find?_eq_some h1
  cases ho : L[o]? with
  | none => rw [ho] at h3; simp at h3
  | some l =>
    rw [ho] at h3
    have h4 := am_all_s h ho h3
    have h5 : q.1.1 = x ∧ q.1.2 = ci := by simpa using h2
    rw [← h5.1, ← h5.2]
    exact h4
theorem am_all_of {α : Type} {L : List (List α)} {ok : Nat → α → Bool} (h : ∀ (o : Nat) (l : List α), L[o]? = some l → l.all (ok o) = true) : am_all L ok = true := by
  unfold am_all
  rw [List.all_eq_true]
  intro q hq
  obtain ⟨i, hi⟩ := List.getElem?_of_mem hq
  rw [List.getElem?_zipIdx] at hi
  obtain ⟨l, h1, h2⟩ := Option.map_eq_some_iff.mp hi
  rw [← h2]
  have h3 := h i l h1
  simpa using h3
theorem am_app {α : Type} {a b : List α} {p : α → Bool} (ha : a.all p = true) (hb : b.all p = true) : (a ++ b).all p = true := by
  rw [List.all_append, ha, hb]
  rfl
/-- the lists: slot, may be put, the name that links, host, its words' places -/
abbrev am_fE : Type := (Nat × Nat) × (Nat × Nat × String × Option String × am_Pos × am_Pos)
abbrev am_mE : Type := am_Meth × am_Pos × am_Pos
abbrev am_sE : Type := Nat × (Nat × Nat × am_Pos × Option String × am_Pos)
abbrev am_tE : Type := Nat × (Nat × Nat × am_Pos × Option String × am_Pos × am_Pos)
abbrev am_vE : Type := (Nat × Nat) × (Nat × Nat × am_Pos × am_Pos × am_Pos × Option (Option String) × MethodName × String × am_Pos × am_Pos × am_Pos)
section CHK
variable (on : Nat → String) (cl : List vw_C) (kd : List FieldType) (tb : List (List Cond)) (LM : List am_mE) (zn : List (String × String × String))
def am_lkOk (o x : Nat) (y : MethodName) (host : Option String) (p : am_Pos) : Bool := match host with
  | none => am_in tb p (.methodLink (on o) x y)
  | some h => am_inN tb p (.methodLinkNest (on o) x y h)
def am_arOk (y : MethodName) (n : Nat) : Bool := decide ((parseMethodDescriptor y.desc).map (fun d => d.parameters.length) = some n)
def am_okM (q : am_mE) : Bool := plainName q.1.1.cls && decide (on q.1.2.2.2.2.2.2 = q.1.1.cls) && am_in tb q.2.2 (.initialized q.1.1.cls) && decide (q.1.1.cls ≠ "java/lang/invoke/MethodHandle" ∧ q.1.1.cls ≠ "java/lang/invoke/VarHandle")
def am_okF (o : Nat) (q : am_fE) : Bool := match cl[q.1.2]? with
  | none => false
  | some (_, T, N) => match q with
    | ((x, _), k, pk, ref, host, lp, sp) => decide (k < N) && (decide (ref = (T k).1) || am_in tb sp (.sameField ref (T k).1 (T k).2.1 (T k).2.2.1)) &&
      (match host with
        | none => am_in tb lp (.fieldLink (on o) x ref (T k).2.1 (T k).2.2.1)
        | some h => am_inN tb lp (.fieldLinkNest (on o) x ref (T k).2.1 (T k).2.2.1 h)) &&
      (decide (pk ≠ 1) || !(T k).2.2.2) && (decide (pk ≠ 2) || (decide ((T k).1 = on o) && decide (ref = (T k).1) && host.isNone))
def am_okK (o : Nat) (q : Nat × (Value × am_Pos)) : Bool := match q.2.1 with
  | .int z => am_in tb q.2.2 (.constant (on o) q.1 z)
  | .long z => am_in tb q.2.2 (.constantLong (on o) q.1 z)
  | _ => false
def am_okW (o : Nat) (q : Nat × (Nat × am_Pos)) : Bool := match cl[q.2.1]? with
  | none => false
  | some (C, _, _) => am_in tb q.2.2 (.classLink (on o) q.1 C)
def am_okA (o : Nat) (q : Nat × (Nat × am_Pos × am_Pos)) : Bool := match kd[q.2.1]? with
  | some (.object C) => am_inN tb q.2.2.2 (.arrayOver (.object C)) && am_in tb q.2.2.1 (.classLink (on o) q.1 C)
  | some (.array ty) => am_inN tb q.2.2.2 (.arrayOver (.array ty)) && am_in tb q.2.2.1 (.classLink (on o) q.1 (FieldType.array ty).toString)
  | _ => false
def am_okZ (o : Nat) (q : Nat × (Nat × am_Pos)) : Bool := match zn[q.2.1]? with
  | none => false
  | some (C, n, d) => am_in tb q.2.2 (.fieldLink (on o) q.1 C n d)
def am_okS (o : Nat) (q : am_tE) : Bool := match LM[q.2.1]? with
  | none => false
  | some mz => am_in tb q.2.2.2.1 (.static mz.1.1) && am_arOk mz.1.1 q.2.2.1 && (am_lkOk on tb o q.1 mz.1.1 q.2.2.2.2.1 q.2.2.2.2.2.1 || (match q.2.2.2.2.1 with
      | none => false
      | some C => am_in tb q.2.2.2.2.2.1 (.methodLink (on o) q.1 ⟨C, mz.1.1.name, mz.1.1.desc⟩) && am_in tb q.2.2.2.2.2.2 (.sameMethod C mz.1.1.cls mz.1.1.name mz.1.1.desc)))
def am_okI (o : Nat) (q : am_sE) : Bool := match LM[q.2.1]? with
  | none => false
  | some mz => decide (mz.1.1.name = "<init>") && mz.1.2.2.2.1.isNone && am_in tb q.2.2.2.1 (.instanceMethod mz.1.1) && am_arOk mz.1.1 q.2.2.1 && am_lkOk on tb o q.1 mz.1.1 q.2.2.2.2.1 q.2.2.2.2.2
def am_okV (o : Nat) (q : am_vE) : Bool := match q with
  | ((x, ci), z, n, ip, sp, lp, form, xn, owner, mp, dp, cp) => match cl[ci]?, LM[z]? with
    | some (C, _, _), some mz => am_in tb ip (.instanceMethod mz.1.1) && (match form with
      | some host => am_arOk mz.1.1 n && am_lkOk on tb o x mz.1.1 host lp && am_in tb sp (.selects C mz.1.1 mz.1.1)
      | none => am_arOk xn n && decide (owner ≠ "java/lang/invoke/MethodHandle" ∧ owner ≠ "java/lang/invoke/VarHandle") && am_in tb lp (.methodLink (on o) x xn) && am_in tb mp (.sameMethod xn.cls owner xn.name xn.desc) && am_in tb sp (.selects C xn mz.1.1) &&
          (am_inN tb dp (.declares ⟨owner, xn.name, xn.desc⟩) || (am_in tb dp (.instanceMethod ⟨owner, xn.name, xn.desc⟩) && (match am_at tb cp with
            | some (.code y' b m r) => decide (y' = ⟨owner, xn.name, xn.desc⟩) && am_in tb cp (.code y' b m r)
            | _ => false))))
    | _, _ => false
def am_okN (o : Nat) (q : Nat × (Nat × List am_Pos)) : Bool := match q.2 with
  | (1, [a, b, c, d]) => am_in tb a (.methodLink (on o) q.1 arraycopyName) && am_in tb b (.native arraycopyName) && am_in tb c (.static arraycopyName) && am_in tb d (.initialized "java/lang/System")
  | (2, [a, b, c]) => am_in tb a (.methodLink (on o) q.1 Lib.objectInit) && am_in tb b (.instanceMethod Lib.objectInit) && am_in tb c (.code Lib.objectInit ⟨#[0xb1]⟩ 1 none)
  | (3, [a, b, c, d, e, f]) => am_in tb a (.methodLink (on o) q.1 ⟨"[I", "clone", "()Ljava/lang/Object;"⟩) && am_in tb b (.sameMethod "[I" "java/lang/Object" "clone" "()Ljava/lang/Object;") && am_in tb c (.native ⟨"java/lang/Object", "clone", "()Ljava/lang/Object;"⟩) && am_in tb d (.instanceMethod ⟨"java/lang/Object", "clone", "()Ljava/lang/Object;"⟩) &&
      am_in tb e (.selects "[I" ⟨"[I", "clone", "()Ljava/lang/Object;"⟩ ⟨"java/lang/Object", "clone", "()Ljava/lang/Object;"⟩) && am_inN tb f (.castable "[I" "java/lang/Cloneable")
  | (4, [a]) => am_in tb a (.classLink (on o) q.1 "[I")
  | (10, [a, b, c, d]) => am_in tb a (.methodLink (on o) q.1 Lib.Math.max.name) && am_in tb b (.static Lib.Math.max.name) && am_in tb c (.initialized "java/lang/Math") && am_in tb d (.code Lib.Math.max.name Lib.Math.max.code 2 (some .int))
  | (11, [a, b, c, d]) => am_in tb a (.methodLink (on o) q.1 Lib.Math.min.name) && am_in tb b (.static Lib.Math.min.name) && am_in tb c (.initialized "java/lang/Math") && am_in tb d (.code Lib.Math.min.name Lib.Math.min.code 2 (some .int))
  | (12, [a, b, c, d]) => am_in tb a (.methodLink (on o) q.1 Lib.MathLoose.min_long.x) && am_in tb b (.static Lib.MathLoose.min_long.x) && am_in tb c (.initialized "java/lang/Math") && am_in tb d (.code Lib.MathLoose.min_long.x Lib.MathLoose.min_long.code 4 (some .long))
  | (13, [a, b, c, d]) => am_in tb a (.methodLink (on o) q.1 Lib.MathLoose.abs_long.x) && am_in tb b (.static Lib.MathLoose.abs_long.x) && am_in tb c (.initialized "java/lang/Math") && am_in tb d (.code Lib.MathLoose.abs_long.x Lib.MathLoose.abs_long.code 2 (some .long))
  | (103, [a, b]) => decide (kd[3]? = some (.array .long)) && am_inN tb a (.arrayOver (.array .long)) && am_in tb b (.classLink (on o) q.1 ("[" ++ (FieldType.array .long).toString))
  | _ => false
def am_okG (q : (Nat × Nat) × am_Pos) : Bool := match kd[q.1.1]?, cl[q.1.2]? with
  | some (.object E), some (C, _, _) => decide (C = E) || am_inN tb q.2 (.castable C E)
  | _, _ => false
/-- a class's words and field types -/
def am_okC (tyf : Nat → Nat → FieldType) (q : (Nat × List am_Pos) × (am_Pos × am_Pos) × List Value) : Bool := match cl[q.1.1]? with
  | none => false
  | some (C, T, N) => ((List.range N).all fun k => match q.1.2[k]? with
      | none => false
      | some p => am_in tb p (u_lay C T k)) && ((List.range N).all fun k => decide (parseFieldDescriptor (T k).2.2.1 = some (tyf q.1.1 k))) && am_in tb q.2.1.1 (.instantiable C N) && am_in tb q.2.1.2 (.initialized C) && decide (q.2.2.length = N) && ((List.range N).all fun k => match q.2.2[k]? with
      | none => false
      | some v => decide (defaultValue (tyf q.1.1 k) = v))
end CHK
/-- the code words -/
def am_cdE (tb : List (List Cond)) (L : List am_mE) : Prop := L.map (fun q => am_at tb q.2.1) = L.map (fun q => some (Cond.code q.1.1 q.1.2.1 q.1.2.2.1 q.1.2.2.2.1))
theorem am_cdE_app {tb : List (List Cond)} {a b : List am_mE} (ha : am_cdE tb a) (hb : am_cdE tb b) : am_cdE tb (a ++ b) := by
  unfold am_cdE at *
  rw [List.map_append, List.map_append, ha, hb]
theorem am_cdE_s {tb : List (List Cond)} {L : List am_mE} (h : am_cdE tb L) {q : am_mE} (hq : q ∈ L) : Cond.code q.1.1 q.1.2.1 q.1.2.2.1 q.1.2.2.2.1 ∈ am_Ts tb := by
  obtain ⟨i, hi⟩ := List.getElem?_of_mem hq
  have h1 := congrArg (fun l => l[i]?) h
  simp only [List.getElem?_map, hi, Option.map_some] at h1
  injection h1 with h1
  exact List.mem_filter.mpr ⟨am_at_mem h1, rfl⟩
end
section
/-! AM: a program out of checked lists */ -/
abbrev am_cE : Type := (Nat × List am_Pos) × (am_Pos × am_Pos) × List Value
def am_mkP (on : Nat → String) (kd : List FieldType) (LM : List am_mE) (LF : List (List am_fE)) (tyf : Nat → Nat → FieldType) (LK : List (List (Nat × (Value × am_Pos)))) (LW : List (List (Nat × (Nat × am_Pos)))) (LC : List am_cE) (LA : List (List (Nat × (Nat × am_Pos × am_Pos)))) (LZ : List (List (Nat × (Nat × am_Pos)))) (sa : Nat → Nat) (LS : List (List am_tE)) (LI : List (List am_sE)) (LV : List (List am_vE)) (LN : List (List (Nat × (Nat × List am_Pos)))) (LG : List ((Nat × Nat) × am_Pos)) (LB : List (Nat × Nat)) : am_P :=
  (fun y => (LM[y]?).map (fun q => q.1),
   fun o x ci => (am_lk3 LF o x ci).map (fun q => q.1),
   tyf,
   fun o x ci => ((am_lk3 LF o x ci).map (fun q => q.2.1)).getD 0,
   fun o x => (am_lk2 LK o x).map (fun q => q.1),
   fun o x => (am_lk2 LW o x).map (fun q => q.1),
   fun ci => ((LC[ci]?).map (fun q => q.2.2)).getD [],
   fun o x => (am_lk2 LA o x).map (fun q => q.1),
   fun o x => (am_lk2 LZ o x).map (fun q => sa q.1),
   fun o x => (am_lk2 LS o x).map (fun q => (q.1, q.2.1)),
   fun o x => (am_lk2 LI o x).map (fun q => (q.1, q.2.1)),
   fun o x ci => (am_lk3 LV o x ci).map (fun q => (q.1, q.2.1)),
   fun o x => ((am_lk2 LN o x).map (fun q => q.1)).getD 0,
   fun t ci => LG.any (fun q => q.1.1 == t && q.1.2 == ci),
   fun t t2 => LB.any (fun q => q.1 == t && q.2 == t2),
   kd, on)
def am_zs (zn : List (String × String × String)) (sa : Nat → Nat) : List (String × String × String × Nat) := zn.zipIdx.map (fun q => (q.1.1, q.1.2.1, q.1.2.2, sa q.2))
theorem am_lkOk_s {on : Nat → String} {tb : List (List Cond)} {o x : Nat} {y : MethodName} {host : Option String} {p : am_Pos} (h : am_lkOk on tb o x y host p = true) : am_lk (am_Ts tb) (am_Nw tb) (on o) x y := by
  unfold am_lkOk at h
  cases host with
  | none => exact Or.inl (am_in_s h)
  | some hh => exact Or.inr ⟨hh, am_inN_s h⟩
theorem am_arOk_s {y : MethodName} {n : Nat} (h : am_arOk y n = true) : am_ar y n := by
  unfold am_ar
  exact of_decide_eq_true h
set_option maxHeartbeats 1000000 in
theorem am_G_of {on : Nat → String} {cl : List vw_C} {kd : List FieldType} {tb : List (List Cond)} {LM : List am_mE} {LF : List (List am_fE)} {tyf : Nat → Nat → FieldType} {LK : List (List (Nat × (Value × am_Pos)))} {LW : List (List (Nat × (Nat × am_Pos)))} {LC : List am_cE} {LA : List (List (Nat × (Nat × am_Pos × am_Pos)))} {LZ : List (List (Nat × (Nat × am_Pos)))} {LS : List (List am_tE)} {LI : List (List am_sE)} {LV : List (List am_vE)} {LN : List (List (Nat × (Nat × List am_Pos)))} {LG : List ((Nat × Nat) × am_Pos)} {LB : List (Nat × Nat)} {zn : List (String × String × String)}
    (cM : LM.all (am_okM on tb) = true) (cO : am_cdE tb LM) (cF : am_all LF (am_okF on cl tb) = true) (cK : am_all LK (am_okK on tb) = true) (cW : am_all LW (am_okW on cl tb) = true) (cC : LC.all (am_okC cl tb tyf) = true) (cN : LC.map (fun q => q.1.1) = List.range cl.length) (cA : am_all LA (am_okA on kd tb) = true) (cZ : am_all LZ (am_okZ on tb zn) = true) (cS : am_all LS (am_okS on tb LM) = true) (cI : am_all LI (am_okI on tb LM) = true) (cV : am_all LV (am_okV on cl tb LM) = true) (cT : am_all LN (am_okN on kd tb) = true) (cG : LG.all (am_okG cl kd tb) = true)
    (nm : ∀ (ci : Nat) (C : String) (T : u_T) (N : Nat), cl[ci]? = some (C, T, N) → ∀ a, a < N → ∀ b, b < N → a ≠ b → (T a).2.1 ≠ (T b).2.1) (k0 : kd[0]? = some .int) (k1 : kd[1]? = some .long) (k2 : kd[2]? = some .boolean) (a0 : Cond.arrayClass .int ∈ am_Ts tb) (a1 : Cond.arrayClass .long ∈ am_Ts tb) (a2 : Cond.arrayClass .boolean ∈ am_Ts tb) (sa : Nat → Nat) :
    am_G (am_mkP on kd LM LF tyf LK LW LC LA LZ sa LS LI LV LN LG LB) cl (am_Ts tb) (am_Nw tb) (am_zs zn sa) := by
  have hC : ∀ ci C T N, cl[ci]? = some (C, T, N) → ∃ q ∈ LC, q.1.1 = ci ∧ LC[ci]? = some q ∧ am_okC cl tb tyf q = true := by
    intro ci C T N h
    have hlt : ci < cl.length := (List.getElem?_eq_some_iff.mp h).1
    have h1 : (LC.map (fun q => q.1.1))[ci]? = some ci := by rw [cN, List.getElem?_range hlt]
    rw [List.getElem?_map] at h1
    obtain ⟨q, h2, h3⟩ := Option.map_eq_some_iff.mp h1
    have hm := List.mem_of_getElem? h2
    exact ⟨q, hm, h3, h2, List.all_eq_true.mp cC q hm⟩
  have hCk : ∀ ci C T N, cl[ci]? = some (C, T, N) → (∀ w ∈ u_ws C T N, w ∈ am_Ts tb) ∧ (∀ k, k < N → parseFieldDescriptor (T k).2.2.1 = some (tyf ci k)) ∧ Cond.instantiable C N ∈ am_Ts tb ∧ Cond.initialized C ∈ am_Ts tb ∧ ∃ q, LC[ci]? = some q ∧ q.2.2.length = N ∧ ∀ j, j < N → defaultValue (tyf ci j) = vp_V q.2.2 j := by
    intro ci C T N h
    obtain ⟨q, -, h1, h2, h3⟩ := hC ci C T N h
    unfold am_okC at h3
    rw [h1, h] at h3
    simp only [Bool.and_eq_true, List.all_eq_true, List.mem_range, decide_eq_true_eq] at h3
    obtain ⟨⟨⟨⟨⟨b1, b2⟩, b3⟩, b4⟩, b5⟩, b6⟩ := h3
    refine ⟨fun w hw => ?_, b2, am_in_s b3, am_in_s b4, q, h2, b5, fun j hj => ?_⟩
    · obtain ⟨k, hk, rfl⟩ := List.mem_map.mp hw
      have b7 := b1 k (List.mem_range.mp hk)
      split at b7
      · cases b7
      · exact am_in_s b7
    · have b7 := b6 j hj
      split at b7
      · cases b7
      · rename_i v hv
        have b8 : defaultValue (tyf ci j) = v := by simpa using b7
        rw [b8]
        unfold vp_V
        rw [List.getD_eq_getElem?_getD, hv]
        rfl
  have hF : ∀ o x ci q, am_lk3 LF o x ci = some q → ∃ C T N, cl[ci]? = some (C, T, N) ∧ am_okF on cl tb o ((x, ci), q) = true := by
    intro o x ci q h
    have h1 := am_lk3_s cF h
    have h2 := h1
    unfold am_okF at h2
    cases hc : cl[ci]? with
    | none => rw [hc] at h2; cases h2
    | some r => exact ⟨r.1, r.2.1, r.2.2, rfl, h1⟩
  refine ⟨?_, ?_, ?_, ?_, ?_, ?_, ?_, ?_, ?_, ?_, ?_, ?_, ?_, ?_, ?_, ⟨k0, k1, k2⟩, ⟨a0, a1, a2⟩, fun w hw => (List.mem_filter.mp hw).2, fun w hw => (List.mem_filter.mp hw).2⟩
  · intro y mt h
    obtain ⟨q, h1, rfl⟩ := Option.map_eq_some_iff.mp (show (LM[y]?).map (fun q => q.1) = some mt from h)
    have h2 := List.all_eq_true.mp cM q (List.mem_of_getElem? h1)
    unfold am_okM at h2
    simp only [Bool.and_eq_true, decide_eq_true_eq] at h2
    exact ⟨h2.1.1.1, h2.1.1.2, am_cdE_s cO (List.mem_of_getElem? h1), am_in_s h2.1.2, h2.2⟩
  · intro o x ci k h
    obtain ⟨q, h1, rfl⟩ := Option.map_eq_some_iff.mp (show (am_lk3 LF o x ci).map (fun q => q.1) = some k from h)
    obtain ⟨C, T, N, hc, h2⟩ := hF o x ci q h1
    obtain ⟨k, pk, ref, host, lp, sp⟩ := q
    unfold am_okF at h2
    rw [show (((x, ci), (k, pk, ref, host, lp, sp)) : am_fE).1.2 = ci from rfl, hc] at h2
    dsimp only at h2
    simp only [Bool.and_eq_true, decide_eq_true_eq, Bool.or_eq_true] at h2
    refine ⟨C, T, N, ref, hc, h2.1.1.1.1, (hCk ci C T N hc).1, h2.1.1.1.2.imp id am_in_s, ?_⟩
    have h3 := h2.1.1.2
    cases host with
    | none => exact Or.inl (am_in_s h3)
    | some hh => exact Or.inr ⟨hh, am_inN_s h3⟩
  · intro ci C T N h
    obtain ⟨b1, b2, b3, b4, -⟩ := hCk ci C T N h
    exact ⟨b1, b2, nm ci C T N h, b3, b4⟩
  · intro o x ci k h C T N hc
    obtain ⟨q, h1, rfl⟩ := Option.map_eq_some_iff.mp (show (am_lk3 LF o x ci).map (fun q => q.1) = some k from h)
    obtain ⟨C', T', N', hc', h2⟩ := hF o x ci q h1
    rw [hc] at hc'
    cases hc'
    have hpk : am_pk (am_mkP on kd LM LF tyf LK LW LC LA LZ sa LS LI LV LN LG LB) o x ci = q.2.1 := by
      show ((am_lk3 LF o x ci).map (fun q => q.2.1)).getD 0 = q.2.1
      rw [h1]
      rfl
    rw [hpk]
    obtain ⟨k, pk, ref, host, lp, sp⟩ := q
    unfold am_okF at h2
    rw [show (((x, ci), (k, pk, ref, host, lp, sp)) : am_fE).1.2 = ci from rfl, hc] at h2
    dsimp only at h2 ⊢
    simp only [Bool.and_eq_true, decide_eq_true_eq, Bool.or_eq_true, Bool.not_eq_true'] at h2
    refine ⟨fun hp => h2.1.2.elim (fun z => absurd hp z) id, fun hp => ?_⟩
    obtain ⟨⟨b1, b2⟩, b3⟩ := h2.2.elim (fun z => absurd hp z) id
    refine ⟨b1, ?_⟩
    have h3 := h2.1.1.2
    cases host with
    | none =>
      subst b2
      exact am_in_s h3
    | some hh => cases b3
  · intro o k v h
    obtain ⟨q, h1, rfl⟩ := Option.map_eq_some_iff.mp (show (am_lk2 LK o k).map (fun q => q.1) = some v from h)
    have h2 := am_lk2_s cK h1
    unfold am_okK at h2
    dsimp only at h2
    split at h2
    · rename_i z hz
      exact Or.inl ⟨z, hz, am_in_s h2⟩
    · rename_i z hz
      exact Or.inr ⟨z, hz, am_in_s h2⟩
    · cases h2
  · intro o x ci h
    obtain ⟨q, h1, rfl⟩ := Option.map_eq_some_iff.mp (show (am_lk2 LW o x).map (fun q => q.1) = some ci from h)
    have h2 := am_lk2_s cW h1
    unfold am_okW at h2
    dsimp only at h2
    split at h2
    · cases h2
    · rename_i C T N hc
      exact ⟨C, T, N, hc, am_in_s h2⟩
  · intro ci C T N h
    obtain ⟨-, -, -, -, q, b1, b2, b3⟩ := hCk ci C T N h
    have hd : am_df (am_mkP on kd LM LF tyf LK LW LC LA LZ sa LS LI LV LN LG LB) ci = q.2.2 := by
      show ((LC[ci]?).map (fun q => q.2.2)).getD [] = q.2.2
      rw [b1]
      rfl
    rw [hd]
    exact ⟨b2, b3⟩
  · intro o x t h
    obtain ⟨q, h1, rfl⟩ := Option.map_eq_some_iff.mp (show (am_lk2 LA o x).map (fun q => q.1) = some t from h)
    have h2 := am_lk2_s cA h1
    unfold am_okA at h2
    dsimp only at h2
    split at h2
    · rename_i C hc
      simp only [Bool.and_eq_true] at h2
      exact Or.inl ⟨C, hc, am_inN_s h2.1, am_in_s h2.2⟩
    · rename_i ty hc
      simp only [Bool.and_eq_true] at h2
      exact Or.inr ⟨ty, hc, am_inN_s h2.1, am_in_s h2.2⟩
    · cases h2
  · intro o x a h
    obtain ⟨q, h1, rfl⟩ := Option.map_eq_some_iff.mp (show (am_lk2 LZ o x).map (fun q => sa q.1) = some a from h)
    have h2 := am_lk2_s cZ h1
    unfold am_okZ at h2
    dsimp only at h2
    split at h2
    · cases h2
    · rename_i C n d hc
      refine ⟨C, n, d, ?_, am_in_s h2⟩
      refine List.mem_map.mpr ⟨((C, n, d), q.1), ?_, rfl⟩
      refine List.mem_of_getElem? (i := q.1) ?_
      rw [List.getElem?_zipIdx, hc]
      simp
  · intro o x z n mz h hz
    obtain ⟨q, h1, h3⟩ := Option.map_eq_some_iff.mp (show (am_lk2 LS o x).map (fun q => (q.1, q.2.1)) = some (z, n) from h)
    cases h3
    obtain ⟨m, h4, rfl⟩ := Option.map_eq_some_iff.mp (show (LM[q.1]?).map (fun q => q.1) = some mz from hz)
    have h2 := am_lk2_s cS h1
    unfold am_okS at h2
    dsimp only at h2
    rw [h4] at h2
    simp only [Bool.and_eq_true] at h2
    refine ⟨am_in_s h2.1.1, am_arOk_s h2.1.2, ?_⟩
    rcases Bool.or_eq_true _ _ ▸ h2.2 with h5 | h5
    · exact Or.inl (am_lkOk_s h5)
    · split at h5
      · cases h5
      · rename_i C hC
        simp only [Bool.and_eq_true] at h5
        exact Or.inr ⟨C, am_in_s h5.1, am_in_s h5.2⟩
  · intro o x z n mz h hz
    obtain ⟨q, h1, h3⟩ := Option.map_eq_some_iff.mp (show (am_lk2 LI o x).map (fun q => (q.1, q.2.1)) = some (z, n) from h)
    cases h3
    obtain ⟨m, h4, rfl⟩ := Option.map_eq_some_iff.mp (show (LM[q.1]?).map (fun q => q.1) = some mz from hz)
    have h2 := am_lk2_s cI h1
    unfold am_okI at h2
    dsimp only at h2
    rw [h4] at h2
    simp only [Bool.and_eq_true, decide_eq_true_eq, Option.isNone_iff_eq_none] at h2
    exact ⟨h2.1.1.1.1, h2.1.1.1.2, am_in_s h2.1.1.2, am_arOk_s h2.1.2, am_lkOk_s h2.2⟩
  · intro o x ci z n mz h hz
    obtain ⟨q, h1, h3⟩ := Option.map_eq_some_iff.mp (show (am_lk3 LV o x ci).map (fun q => (q.1, q.2.1)) = some (z, n) from h)
    obtain ⟨z', n', ip, sp, lp, form, xn, owner, mp, dp, cp⟩ := q
    cases h3
    obtain ⟨m, h4, rfl⟩ := Option.map_eq_some_iff.mp (show (LM[z']?).map (fun q => q.1) = some mz from hz)
    have h2 := am_lk3_s cV h1
    unfold am_okV at h2
    dsimp only at h2
    split at h2
    · rename_i C T N m' hc hm
      rw [h4] at hm
      cases hm
      rw [Bool.and_eq_true] at h2
      refine ⟨C, T, N, hc, am_in_s h2.1, ?_⟩
      have h5 := h2.2
      cases form with
      | some host =>
        simp only [Bool.and_eq_true] at h5
        exact Or.inl ⟨am_arOk_s h5.1.1, am_lkOk_s h5.1.2, am_in_s h5.2⟩
      | none =>
        simp only [Bool.and_eq_true, Bool.or_eq_true, decide_eq_true_eq] at h5
        obtain ⟨⟨⟨⟨⟨b1, b2⟩, b3⟩, b4⟩, b5⟩, b6⟩ := h5
        refine Or.inr ⟨xn, owner, am_arOk_s b1, b2, am_in_s b3, am_in_s b4, am_in_s b5, ?_⟩
        rcases b6 with b6 | ⟨b6, b7⟩
        · exact Or.inl (am_inN_s b6)
        · refine Or.inr ⟨am_in_s b6, ?_⟩
          split at b7
          · rename_i y' b m r hcp
            simp only [Bool.and_eq_true, decide_eq_true_eq] at b7
            rw [← b7.1]
            exact ⟨b, m, r, am_in_s b7.2⟩
          · cases b7
    · cases h2
  · intro o x
    have hn : ∀ c, c ≠ 0 → am_nt (am_mkP on kd LM LF tyf LK LW LC LA LZ sa LS LI LV LN LG LB) o x = c → ∃ q, am_okN on kd tb o (x, (c, q)) = true := by
      intro c hc h
      have h' : ((am_lk2 LN o x).map (fun q => q.1)).getD 0 = c := h
      cases hl : am_lk2 LN o x with
      | none => rw [hl] at h'; exact absurd h'.symm hc
      | some q =>
        rw [hl] at h'
        have h2 := am_lk2_s cT hl
        obtain ⟨c', ps⟩ := q
        have h3 : c' = c := h'
        subst h3
        exact ⟨ps, h2⟩
    refine ⟨fun h => ?_, fun h => ?_, fun h => ?_, fun h => ?_, fun t h => ?_⟩
    · obtain ⟨q, h2⟩ := hn 1 (by decide) h
      unfold am_okN at h2
      dsimp only at h2
      split at h2 <;> first | (rename_i he; cases he; done) | skip
      all_goals first | (simp only [Bool.and_eq_true] at h2; exact ⟨am_in_s h2.1.1.1, am_in_s h2.1.1.2, am_in_s h2.1.2, am_in_s h2.2⟩) | (cases h2; done) | (exfalso; simp_all; done)
    · obtain ⟨q, h2⟩ := hn 2 (by decide) h
      unfold am_okN at h2
      dsimp only at h2
      split at h2 <;> first | (rename_i he; cases he; done) | skip
      all_goals first | (simp only [Bool.and_eq_true] at h2; exact ⟨am_in_s h2.1.1, am_in_s h2.1.2, am_in_s h2.2⟩) | (cases h2; done) | (exfalso; simp_all; done)
    · obtain ⟨q, h2⟩ := hn 3 (by decide) h
      unfold am_okN at h2
      dsimp only at h2
      split at h2 <;> first | (rename_i he; cases he; done) | skip
      all_goals first | (simp only [Bool.and_eq_true] at h2; exact ⟨am_in_s h2.1.1.1.1.1, am_in_s h2.1.1.1.1.2, am_in_s h2.1.1.1.2, am_in_s h2.1.1.2, am_in_s h2.1.2, am_inN_s h2.2⟩) | (cases h2; done) | (exfalso; simp_all; done)
    · obtain ⟨q, h2⟩ := hn 4 (by decide) h
      unfold am_okN at h2
      dsimp only at h2
      split at h2 <;> first | (rename_i he; cases he; done) | skip
      all_goals first | exact am_in_s h2 | (cases h2; done) | (exfalso; simp_all; done)
    · obtain ⟨q, h2⟩ := hn (100 + t) (by omega) h
      unfold am_okN at h2
      dsimp only at h2
      split at h2
      · rename_i he; injection he with h5 h6; omega
      · rename_i he; injection he with h5 h6; omega
      · rename_i he; injection he with h5 h6; omega
      · rename_i he; injection he with h5 h6; omega
      · rename_i he; injection he with h5 h6; omega
      · rename_i he; injection he with h5 h6; omega
      · rename_i he; injection he with h5 h6; omega
      · rename_i he; injection he with h5 h6; omega
      · rename_i he
        injection he with h5 h6
        have h7 : t = 3 := by omega
        subst h7
        simp only [Bool.and_eq_true, decide_eq_true_eq] at h2
        exact ⟨h2.1.1, am_inN_s h2.1.2, am_in_s h2.2⟩
      · cases h2
  · intro o x j h
    have hq : ∃ q, am_okN on kd tb o (x, (10 + j, q)) = true := by
      have h' : ((am_lk2 LN o x).map (fun q => q.1)).getD 0 = 10 + j := h
      cases hl : am_lk2 LN o x with
      | none =>
        rw [hl] at h'
        have h3 : 0 = 10 + j := h'
        omega
      | some q =>
        rw [hl] at h'
        have h2 := am_lk2_s cT hl
        obtain ⟨c', ps⟩ := q
        have h3 : c' = 10 + j := h'
        subst h3
        exact ⟨ps, h2⟩
    obtain ⟨q, h2⟩ := hq
    match j, h2 with
    | 0, h2 =>
      unfold am_okN at h2
      dsimp only at h2
      split at h2 <;> first | (rename_i he; cases he; done) | skip
      all_goals first | (simp only [Bool.and_eq_true] at h2; exact ⟨am_in_s h2.1.1.1, am_in_s h2.1.1.2, am_in_s h2.1.2, am_in_s h2.2⟩) | (cases h2; done) | (exfalso; simp_all; done)
    | 1, h2 =>
      unfold am_okN at h2
      dsimp only at h2
      split at h2 <;> first | (rename_i he; cases he; done) | skip
      all_goals first | (simp only [Bool.and_eq_true] at h2; exact ⟨am_in_s h2.1.1.1, am_in_s h2.1.1.2, am_in_s h2.1.2, am_in_s h2.2⟩) | (cases h2; done) | (exfalso; simp_all; done)
    | 2, h2 =>
      unfold am_okN at h2
      dsimp only at h2
      split at h2 <;> first | (rename_i he; cases he; done) | skip
      all_goals first | (simp only [Bool.and_eq_true] at h2; exact ⟨am_in_s h2.1.1.1, am_in_s h2.1.1.2, am_in_s h2.1.2, am_in_s h2.2⟩) | (cases h2; done) | (exfalso; simp_all; done)
    | 3, h2 =>
      unfold am_okN at h2
      dsimp only at h2
      split at h2 <;> first | (rename_i he; cases he; done) | skip
      all_goals first | (simp only [Bool.and_eq_true] at h2; exact ⟨am_in_s h2.1.1.1, am_in_s h2.1.1.2, am_in_s h2.1.2, am_in_s h2.2⟩) | (cases h2; done) | (exfalso; simp_all; done)
    | _ + 4, _ => trivial
  · intro t ci h
    have h' : LG.any (fun q => q.1.1 == t && q.1.2 == ci) = true := h
    obtain ⟨q, h1, h2⟩ := List.any_eq_true.mp h'
    simp only [Bool.and_eq_true, beq_iff_eq] at h2
    have h3 := List.all_eq_true.mp cG q h1
    unfold am_okG at h3
    rw [h2.1, h2.2] at h3
    split at h3
    · rename_i E C T N hk hc
      simp only [Bool.or_eq_true, decide_eq_true_eq] at h3
      exact ⟨E, _, hk, hc, h3.imp id am_inN_s⟩
    · cases h3
end
section
-- ===== PART A: goes FIRST, ahead of the names: the tables' words, and 'selects' of the private methods out of them =====
/-- a private method of a class that the tables say can be made, by its rows of tables_1 -/
def lw_okq (q : MethodName × Nat) : Prop := (q.1.cls ≠ "java/lang/invoke/MethodHandle" ∧ q.1.cls ≠ "java/lang/invoke/VarHandle") ∧ Cond.instantiable q.1.cls q.2 ∈ tables_1 ∧ Cond.privateMethod q.1 ∈ tables_1 ∧ Cond.instanceMethod q.1 ∈ tables_1
theorem lw_p0 : lw_okq (⟨"SecureLines$Mill", "block", "(J)V"⟩, 6) := ⟨⟨by decide +kernel, by decide +kernel⟩, List.mem_of_getElem? (i := 32) (by decide +kernel), List.mem_of_getElem? (i := 391) (by decide +kernel), List.mem_of_getElem? (i := 392) (by decide +kernel)⟩
theorem lw_p1 : lw_okq (⟨"SecureLines$Mill", "value", "()J"⟩, 6) := ⟨⟨by decide +kernel, by decide +kernel⟩, List.mem_of_getElem? (i := 32) (by decide +kernel), List.mem_of_getElem? (i := 400) (by decide +kernel), List.mem_of_getElem? (i := 401) (by decide +kernel)⟩
theorem lw_p2 : lw_okq (⟨"SecureLines$Mill", "open", "(IJ)V"⟩, 6) := ⟨⟨by decide +kernel, by decide +kernel⟩, List.mem_of_getElem? (i := 32) (by decide +kernel), List.mem_of_getElem? (i := 417) (by decide +kernel), List.mem_of_getElem? (i := 418) (by decide +kernel)⟩
theorem lw_p3 : lw_okq (⟨"SecureLines$Mill", "oute\x72", "(IJJ)J"⟩, 6) := ⟨⟨by decide +kernel, by decide +kernel⟩, List.mem_of_getElem? (i := 32) (by decide +kernel), List.mem_of_getElem? (i := 422) (by decide +kernel), List.mem_of_getElem? (i := 423) (by decide +kernel)⟩
theorem lw_p4 : lw_okq (⟨"SecureLines$Mill", "stream", "(JJ[III)V"⟩, 6) := ⟨⟨by decide +kernel, by decide +kernel⟩, List.mem_of_getElem? (i := 32) (by decide +kernel), List.mem_of_getElem? (i := 451) (by decide +kernel), List.mem_of_getElem? (i := 452) (by decide +kernel)⟩
theorem lw_p5 : lw_okq (⟨"SecureLines$Mill", "tag", "(IJLSecureLines$Row;II)J"⟩, 6) := ⟨⟨by decide +kernel, by decide +kernel⟩, List.mem_of_getElem? (i := 32) (by decide +kernel), List.mem_of_getElem? (i := 455) (by decide +kernel), List.mem_of_getElem? (i := 456) (by decide +kernel)⟩
theorem lw_p6 : lw_okq (⟨"SecureLines", "pape\x72", "(I)I"⟩, 18) := ⟨⟨by decide +kernel, by decide +kernel⟩, List.mem_of_getElem? (i := 18) (by decide +kernel), List.mem_of_getElem? (i := 600) (by decide +kernel), List.mem_of_getElem? (i := 601) (by decide +kernel)⟩
theorem lw_p7 : lw_okq (⟨"SecureLines$Pape\x72", "open", "(II)I"⟩, 7) := ⟨⟨by decide +kernel, by decide +kernel⟩, List.mem_of_getElem? (i := 116) (by decide +kernel), List.mem_of_getElem? (i := 616) (by decide +kernel), List.mem_of_getElem? (i := 617) (by decide +kernel)⟩
theorem lw_p8 : lw_okq (⟨"SecureLines$Pape\x72", "readInne\x72", "(II)Z"⟩, 7) := ⟨⟨by decide +kernel, by decide +kernel⟩, List.mem_of_getElem? (i := 116) (by decide +kernel), List.mem_of_getElem? (i := 620) (by decide +kernel), List.mem_of_getElem? (i := 621) (by decide +kernel)⟩
theorem lw_p9 : lw_okq (⟨"SecureLines$Pape\x72", "readNumbe\x72", "(I)I"⟩, 7) := ⟨⟨by decide +kernel, by decide +kernel⟩, List.mem_of_getElem? (i := 116) (by decide +kernel), List.mem_of_getElem? (i := 624) (by decide +kernel), List.mem_of_getElem? (i := 625) (by decide +kernel)⟩
theorem lw_p10 : lw_okq (⟨"SecureLines$Pape\x72", "readName", "(II)Z"⟩, 7) := ⟨⟨by decide +kernel, by decide +kernel⟩, List.mem_of_getElem? (i := 116) (by decide +kernel), List.mem_of_getElem? (i := 628) (by decide +kernel), List.mem_of_getElem? (i := 629) (by decide +kernel)⟩
theorem lw_p11 : lw_okq (⟨"SecureLines$Pape\x72", "mark", "(III)V"⟩, 7) := ⟨⟨by decide +kernel, by decide +kernel⟩, List.mem_of_getElem? (i := 116) (by decide +kernel), List.mem_of_getElem? (i := 632) (by decide +kernel), List.mem_of_getElem? (i := 633) (by decide +kernel)⟩
theorem lw_p12 : lw_okq (⟨"SecureLines$Pape\x72", "times", "(I)Z"⟩, 7) := ⟨⟨by decide +kernel, by decide +kernel⟩, List.mem_of_getElem? (i := 116) (by decide +kernel), List.mem_of_getElem? (i := 636) (by decide +kernel), List.mem_of_getElem? (i := 637) (by decide +kernel)⟩
theorem lw_p13 : lw_okq (⟨"SecureLines$Pape\x72", "pointNode", "(I)Z"⟩, 7) := ⟨⟨by decide +kernel, by decide +kernel⟩, List.mem_of_getElem? (i := 116) (by decide +kernel), List.mem_of_getElem? (i := 641) (by decide +kernel), List.mem_of_getElem? (i := 642) (by decide +kernel)⟩
theorem lw_p14 : lw_okq (⟨"SecureLines$Pape\x72", "fourAt", "(I)I"⟩, 7) := ⟨⟨by decide +kernel, by decide +kernel⟩, List.mem_of_getElem? (i := 116) (by decide +kernel), List.mem_of_getElem? (i := 645) (by decide +kernel), List.mem_of_getElem? (i := 646) (by decide +kernel)⟩
theorem lw_p15 : lw_okq (⟨"SecureLines$Pape\x72", "extensions", "(I)Z"⟩, 7) := ⟨⟨by decide +kernel, by decide +kernel⟩, List.mem_of_getElem? (i := 116) (by decide +kernel), List.mem_of_getElem? (i := 649) (by decide +kernel), List.mem_of_getElem? (i := 650) (by decide +kernel)⟩
def lw_privs_1 : List (MethodName × Nat) := [(⟨"SecureLines$Mill", "block", "(J)V"⟩, 6), (⟨"SecureLines$Mill", "value", "()J"⟩, 6), (⟨"SecureLines$Mill", "open", "(IJ)V"⟩, 6), (⟨"SecureLines$Mill", "oute\x72", "(IJJ)J"⟩, 6), (⟨"SecureLines$Mill", "stream", "(JJ[III)V"⟩, 6), (⟨"SecureLines$Mill", "tag", "(IJLSecureLines$Row;II)J"⟩, 6), (⟨"SecureLines", "pape\x72", "(I)I"⟩, 18), (⟨"SecureLines$Pape\x72", "open", "(II)I"⟩, 7), (⟨"SecureLines$Pape\x72", "readInne\x72", "(II)Z"⟩, 7), (⟨"SecureLines$Pape\x72", "readNumbe\x72", "(I)I"⟩, 7), (⟨"SecureLines$Pape\x72", "readName", "(II)Z"⟩, 7), (⟨"SecureLines$Pape\x72", "mark", "(III)V"⟩, 7), (⟨"SecureLines$Pape\x72", "times", "(I)Z"⟩, 7), (⟨"SecureLines$Pape\x72", "pointNode", "(I)Z"⟩, 7), (⟨"SecureLines$Pape\x72", "fourAt", "(I)I"⟩, 7), (⟨"SecureLines$Pape\x72", "extensions", "(I)Z"⟩, 7)]
theorem lw_r1 : ∀ q ∈ lw_privs_1, lw_okq q := List.forall_mem_cons.mpr ⟨lw_p0, List.forall_mem_cons.mpr ⟨lw_p1, List.forall_mem_cons.mpr ⟨lw_p2, List.forall_mem_cons.mpr ⟨lw_p3, List.forall_mem_cons.mpr ⟨lw_p4, List.forall_mem_cons.mpr ⟨lw_p5, List.forall_mem_cons.mpr ⟨lw_p6, List.forall_mem_cons.mpr ⟨lw_p7, List.forall_mem_cons.mpr ⟨lw_p8, List.forall_mem_cons.mpr ⟨lw_p9, List.forall_mem_cons.mpr ⟨lw_p10, List.forall_mem_cons.mpr ⟨lw_p11, List.forall_mem_cons.mpr ⟨lw_p12, List.forall_mem_cons.mpr ⟨lw_p13, List.forall_mem_cons.mpr ⟨lw_p14, List.forall_mem_cons.mpr ⟨lw_p15, fun _ h => absurd h List.not_mem_nil⟩⟩⟩⟩⟩⟩⟩⟩⟩⟩⟩⟩⟩⟩⟩⟩
theorem lw_p16 : lw_okq (⟨"SecureLines$Pape\x72", "names", "(II)Z"⟩, 7) := ⟨⟨by decide +kernel, by decide +kernel⟩, List.mem_of_getElem? (i := 116) (by decide +kernel), List.mem_of_getElem? (i := 653) (by decide +kernel), List.mem_of_getElem? (i := 654) (by decide +kernel)⟩
theorem lw_p17 : lw_okq (⟨"SecureLines$Pape\x72", "serials", "(I)Z"⟩, 7) := ⟨⟨by decide +kernel, by decide +kernel⟩, List.mem_of_getElem? (i := 116) (by decide +kernel), List.mem_of_getElem? (i := 663) (by decide +kernel), List.mem_of_getElem? (i := 664) (by decide +kernel)⟩
theorem lw_p18 : lw_okq (⟨"SecureLines", "isCertificate", "(I)Z"⟩, 18) := ⟨⟨by decide +kernel, by decide +kernel⟩, List.mem_of_getElem? (i := 18) (by decide +kernel), List.mem_of_getElem? (i := 687) (by decide +kernel), List.mem_of_getElem? (i := 688) (by decide +kernel)⟩
theorem lw_p19 : lw_okq (⟨"SecureLines", "isEnd", "(I)Z"⟩, 18) := ⟨⟨by decide +kernel, by decide +kernel⟩, List.mem_of_getElem? (i := 18) (by decide +kernel), List.mem_of_getElem? (i := 711) (by decide +kernel), List.mem_of_getElem? (i := 712) (by decide +kernel)⟩
theorem lw_p20 : lw_okq (⟨"SecureLines$House", "follows", "(LSecureLines$Paper;I)Z"⟩, 20) := ⟨⟨by decide +kernel, by decide +kernel⟩, List.mem_of_getElem? (i := 26) (by decide +kernel), List.mem_of_getElem? (i := 723) (by decide +kernel), List.mem_of_getElem? (i := 724) (by decide +kernel)⟩
theorem lw_p21 : lw_okq (⟨"SecureLines$House", "whyOfIssue", "(LSecureLines$Paper;LSecureLines$Paper;I)I"⟩, 20) := ⟨⟨by decide +kernel, by decide +kernel⟩, List.mem_of_getElem? (i := 26) (by decide +kernel), List.mem_of_getElem? (i := 741) (by decide +kernel), List.mem_of_getElem? (i := 742) (by decide +kernel)⟩
theorem lw_p22 : lw_okq (⟨"SecureLines$House", "isBy", "(LSecureLines$Paper;LSecureLines$Paper;)Z"⟩, 20) := ⟨⟨by decide +kernel, by decide +kernel⟩, List.mem_of_getElem? (i := 26) (by decide +kernel), List.mem_of_getElem? (i := 745) (by decide +kernel), List.mem_of_getElem? (i := 746) (by decide +kernel)⟩
theorem lw_p23 : lw_okq (⟨"SecureLines$House", "whyOfRights", "(II)I"⟩, 20) := ⟨⟨by decide +kernel, by decide +kernel⟩, List.mem_of_getElem? (i := 26) (by decide +kernel), List.mem_of_getElem? (i := 752) (by decide +kernel), List.mem_of_getElem? (i := 753) (by decide +kernel)⟩
theorem lw_p24 : lw_okq (⟨"SecureLines", "isClient", "(I)Z"⟩, 18) := ⟨⟨by decide +kernel, by decide +kernel⟩, List.mem_of_getElem? (i := 18) (by decide +kernel), List.mem_of_getElem? (i := 930) (by decide +kernel), List.mem_of_getElem? (i := 931) (by decide +kernel)⟩
theorem lw_p25 : lw_okq (⟨"SecureLines$End", "drawFou\x72", "()I"⟩, 17) := ⟨⟨by decide +kernel, by decide +kernel⟩, List.mem_of_getElem? (i := 796) (by decide +kernel), List.mem_of_getElem? (i := 1247) (by decide +kernel), List.mem_of_getElem? (i := 1248) (by decide +kernel)⟩
theorem lw_p26 : lw_okq (⟨"SecureLines$Client", "gathe\x72", "()V"⟩, 31) := ⟨⟨by decide +kernel, by decide +kernel⟩, List.mem_of_getElem? (i := 1176) (by decide +kernel), List.mem_of_getElem? (i := 1262) (by decide +kernel), List.mem_of_getElem? (i := 1263) (by decide +kernel)⟩
theorem lw_p27 : lw_okq (⟨"SecureLines$Client", "buildHello", "(ILSecureLines$Fields;)V"⟩, 31) := ⟨⟨by decide +kernel, by decide +kernel⟩, List.mem_of_getElem? (i := 1176) (by decide +kernel), List.mem_of_getElem? (i := 1271) (by decide +kernel), List.mem_of_getElem? (i := 1272) (by decide +kernel)⟩
theorem lw_p28 : lw_okq (⟨"SecureLines$Client", "addShared", "()V"⟩, 31) := ⟨⟨by decide +kernel, by decide +kernel⟩, List.mem_of_getElem? (i := 1176) (by decide +kernel), List.mem_of_getElem? (i := 1324) (by decide +kernel), List.mem_of_getElem? (i := 1325) (by decide +kernel)⟩
theorem lw_p29 : lw_okq (⟨"SecureLines", "isSide", "(II)Z"⟩, 18) := ⟨⟨by decide +kernel, by decide +kernel⟩, List.mem_of_getElem? (i := 18) (by decide +kernel), List.mem_of_getElem? (i := 1399) (by decide +kernel), List.mem_of_getElem? (i := 1400) (by decide +kernel)⟩
theorem lw_p30 : lw_okq (⟨"SecureLines", "sideOf", "(II)LSecureLines$Side;"⟩, 18) := ⟨⟨by decide +kernel, by decide +kernel⟩, List.mem_of_getElem? (i := 18) (by decide +kernel), List.mem_of_getElem? (i := 1403) (by decide +kernel), List.mem_of_getElem? (i := 1404) (by decide +kernel)⟩
theorem lw_p31 : lw_okq (⟨"SecureLines$Client", "may", "(I)Z"⟩, 31) := ⟨⟨by decide +kernel, by decide +kernel⟩, List.mem_of_getElem? (i := 1176) (by decide +kernel), List.mem_of_getElem? (i := 1458) (by decide +kernel), List.mem_of_getElem? (i := 1459) (by decide +kernel)⟩
def lw_privs_2 : List (MethodName × Nat) := [(⟨"SecureLines$Pape\x72", "names", "(II)Z"⟩, 7), (⟨"SecureLines$Pape\x72", "serials", "(I)Z"⟩, 7), (⟨"SecureLines", "isCertificate", "(I)Z"⟩, 18), (⟨"SecureLines", "isEnd", "(I)Z"⟩, 18), (⟨"SecureLines$House", "follows", "(LSecureLines$Paper;I)Z"⟩, 20), (⟨"SecureLines$House", "whyOfIssue", "(LSecureLines$Paper;LSecureLines$Paper;I)I"⟩, 20), (⟨"SecureLines$House", "isBy", "(LSecureLines$Paper;LSecureLines$Paper;)Z"⟩, 20), (⟨"SecureLines$House", "whyOfRights", "(II)I"⟩, 20), (⟨"SecureLines", "isClient", "(I)Z"⟩, 18), (⟨"SecureLines$End", "drawFou\x72", "()I"⟩, 17), (⟨"SecureLines$Client", "gathe\x72", "()V"⟩, 31), (⟨"SecureLines$Client", "buildHello", "(ILSecureLines$Fields;)V"⟩, 31), (⟨"SecureLines$Client", "addShared", "()V"⟩, 31), (⟨"SecureLines", "isSide", "(II)Z"⟩, 18), (⟨"SecureLines", "sideOf", "(II)LSecureLines$Side;"⟩, 18), (⟨"SecureLines$Client", "may", "(I)Z"⟩, 31)]
theorem lw_r2 : ∀ q ∈ lw_privs_2, lw_okq q := List.forall_mem_cons.mpr ⟨lw_p16, List.forall_mem_cons.mpr ⟨lw_p17, List.forall_mem_cons.mpr ⟨lw_p18, List.forall_mem_cons.mpr ⟨lw_p19, List.forall_mem_cons.mpr ⟨lw_p20, List.forall_mem_cons.mpr ⟨lw_p21, List.forall_mem_cons.mpr ⟨lw_p22, List.forall_mem_cons.mpr ⟨lw_p23, List.forall_mem_cons.mpr ⟨lw_p24, List.forall_mem_cons.mpr ⟨lw_p25, List.forall_mem_cons.mpr ⟨lw_p26, List.forall_mem_cons.mpr ⟨lw_p27, List.forall_mem_cons.mpr ⟨lw_p28, List.forall_mem_cons.mpr ⟨lw_p29, List.forall_mem_cons.mpr ⟨lw_p30, List.forall_mem_cons.mpr ⟨lw_p31, fun _ h => absurd h List.not_mem_nil⟩⟩⟩⟩⟩⟩⟩⟩⟩⟩⟩⟩⟩⟩⟩⟩
theorem lw_p32 : lw_okq (⟨"SecureLines$Client", "checkAnswe\x72", "(I)I"⟩, 31) := ⟨⟨by decide +kernel, by decide +kernel⟩, List.mem_of_getElem? (i := 1176) (by decide +kernel), List.mem_of_getElem? (i := 1462) (by decide +kernel), List.mem_of_getElem? (i := 1463) (by decide +kernel)⟩
theorem lw_p33 : lw_okq (⟨"SecureLines$Fields", "isAsTold", "(IIII)Z"⟩, 5) := ⟨⟨by decide +kernel, by decide +kernel⟩, List.mem_of_getElem? (i := 90) (by decide +kernel), List.mem_of_getElem? (i := 1474) (by decide +kernel), List.mem_of_getElem? (i := 1475) (by decide +kernel)⟩
theorem lw_p34 : lw_okq (⟨"SecureLines$Fields", "isShared", "(II)Z"⟩, 5) := ⟨⟨by decide +kernel, by decide +kernel⟩, List.mem_of_getElem? (i := 90) (by decide +kernel), List.mem_of_getElem? (i := 1479) (by decide +kernel), List.mem_of_getElem? (i := 1480) (by decide +kernel)⟩
theorem lw_p35 : lw_okq (⟨"SecureLines$Client", "checkRetry", "(I)I"⟩, 31) := ⟨⟨by decide +kernel, by decide +kernel⟩, List.mem_of_getElem? (i := 1176) (by decide +kernel), List.mem_of_getElem? (i := 1492) (by decide +kernel), List.mem_of_getElem? (i := 1493) (by decide +kernel)⟩
theorem lw_p36 : lw_okq (⟨"SecureLines$Client", "checkBeginning", "(I)I"⟩, 31) := ⟨⟨by decide +kernel, by decide +kernel⟩, List.mem_of_getElem? (i := 1176) (by decide +kernel), List.mem_of_getElem? (i := 1496) (by decide +kernel), List.mem_of_getElem? (i := 1497) (by decide +kernel)⟩
theorem lw_p37 : lw_okq (⟨"SecureLines$Client", "checkAsking", "(I)I"⟩, 31) := ⟨⟨by decide +kernel, by decide +kernel⟩, List.mem_of_getElem? (i := 1176) (by decide +kernel), List.mem_of_getElem? (i := 1500) (by decide +kernel), List.mem_of_getElem? (i := 1501) (by decide +kernel)⟩
theorem lw_p38 : lw_okq (⟨"SecureLines$Serve\x72", "may", "(I)Z"⟩, 34) := ⟨⟨by decide +kernel, by decide +kernel⟩, List.mem_of_getElem? (i := 1017) (by decide +kernel), List.mem_of_getElem? (i := 1555) (by decide +kernel), List.mem_of_getElem? (i := 1556) (by decide +kernel)⟩
theorem lw_p39 : lw_okq (⟨"SecureLines$Serve\x72", "checkHello", "(I)I"⟩, 34) := ⟨⟨by decide +kernel, by decide +kernel⟩, List.mem_of_getElem? (i := 1017) (by decide +kernel), List.mem_of_getElem? (i := 1559) (by decide +kernel), List.mem_of_getElem? (i := 1560) (by decide +kernel)⟩
theorem lw_p40 : lw_okq (⟨"SecureLines$Serve\x72", "isAgain", "(LSecureLines$Fields;)Z"⟩, 34) := ⟨⟨by decide +kernel, by decide +kernel⟩, List.mem_of_getElem? (i := 1017) (by decide +kernel), List.mem_of_getElem? (i := 1568) (by decide +kernel), List.mem_of_getElem? (i := 1569) (by decide +kernel)⟩
theorem lw_p41 : lw_okq (⟨"SecureLines$Serve\x72", "findUsed", "(LSecureLines$Fields;)V"⟩, 34) := ⟨⟨by decide +kernel, by decide +kernel⟩, List.mem_of_getElem? (i := 1017) (by decide +kernel), List.mem_of_getElem? (i := 1587) (by decide +kernel), List.mem_of_getElem? (i := 1588) (by decide +kernel)⟩
theorem lw_p42 : lw_okq (⟨"SecureLines$Serve\x72", "checkWays", "(LSecureLines$Fields;)I"⟩, 34) := ⟨⟨by decide +kernel, by decide +kernel⟩, List.mem_of_getElem? (i := 1017) (by decide +kernel), List.mem_of_getElem? (i := 1605) (by decide +kernel), List.mem_of_getElem? (i := 1606) (by decide +kernel)⟩
theorem lw_p43 : lw_okq (⟨"SecureLines$House", "anchorOve\x72", "(LSecureLines$End;LSecureLines$Paper;)LSecureLines$Paper;"⟩, 20) := ⟨⟨by decide +kernel, by decide +kernel⟩, List.mem_of_getElem? (i := 26) (by decide +kernel), List.mem_of_getElem? (i := 1636) (by decide +kernel), List.mem_of_getElem? (i := 1637) (by decide +kernel)⟩
theorem lw_p44 : lw_okq (⟨"SecureLines$Client", "takeAnswe\x72", "()V"⟩, 31) := ⟨⟨by decide +kernel, by decide +kernel⟩, List.mem_of_getElem? (i := 1176) (by decide +kernel), List.mem_of_getElem? (i := 1705) (by decide +kernel), List.mem_of_getElem? (i := 1706) (by decide +kernel)⟩
theorem lw_p45 : lw_okq (⟨"SecureLines$Client", "takeRetry", "()V"⟩, 31) := ⟨⟨by decide +kernel, by decide +kernel⟩, List.mem_of_getElem? (i := 1176) (by decide +kernel), List.mem_of_getElem? (i := 1715) (by decide +kernel), List.mem_of_getElem? (i := 1716) (by decide +kernel)⟩
theorem lw_p46 : lw_okq (⟨"SecureLines$Client", "sift", "(I)V"⟩, 31) := ⟨⟨by decide +kernel, by decide +kernel⟩, List.mem_of_getElem? (i := 1176) (by decide +kernel), List.mem_of_getElem? (i := 1729) (by decide +kernel), List.mem_of_getElem? (i := 1730) (by decide +kernel)⟩
theorem lw_p47 : lw_okq (⟨"SecureLines$Client", "provingScheme", "()I"⟩, 31) := ⟨⟨by decide +kernel, by decide +kernel⟩, List.mem_of_getElem? (i := 1176) (by decide +kernel), List.mem_of_getElem? (i := 1739) (by decide +kernel), List.mem_of_getElem? (i := 1740) (by decide +kernel)⟩
def lw_privs_3 : List (MethodName × Nat) := [(⟨"SecureLines$Client", "checkAnswe\x72", "(I)I"⟩, 31), (⟨"SecureLines$Fields", "isAsTold", "(IIII)Z"⟩, 5), (⟨"SecureLines$Fields", "isShared", "(II)Z"⟩, 5), (⟨"SecureLines$Client", "checkRetry", "(I)I"⟩, 31), (⟨"SecureLines$Client", "checkBeginning", "(I)I"⟩, 31), (⟨"SecureLines$Client", "checkAsking", "(I)I"⟩, 31), (⟨"SecureLines$Serve\x72", "may", "(I)Z"⟩, 34), (⟨"SecureLines$Serve\x72", "checkHello", "(I)I"⟩, 34), (⟨"SecureLines$Serve\x72", "isAgain", "(LSecureLines$Fields;)Z"⟩, 34), (⟨"SecureLines$Serve\x72", "findUsed", "(LSecureLines$Fields;)V"⟩, 34), (⟨"SecureLines$Serve\x72", "checkWays", "(LSecureLines$Fields;)I"⟩, 34), (⟨"SecureLines$House", "anchorOve\x72", "(LSecureLines$End;LSecureLines$Paper;)LSecureLines$Paper;"⟩, 20), (⟨"SecureLines$Client", "takeAnswe\x72", "()V"⟩, 31), (⟨"SecureLines$Client", "takeRetry", "()V"⟩, 31), (⟨"SecureLines$Client", "sift", "(I)V"⟩, 31), (⟨"SecureLines$Client", "provingScheme", "()I"⟩, 31)]
theorem lw_r3 : ∀ q ∈ lw_privs_3, lw_okq q := List.forall_mem_cons.mpr ⟨lw_p32, List.forall_mem_cons.mpr ⟨lw_p33, List.forall_mem_cons.mpr ⟨lw_p34, List.forall_mem_cons.mpr ⟨lw_p35, List.forall_mem_cons.mpr ⟨lw_p36, List.forall_mem_cons.mpr ⟨lw_p37, List.forall_mem_cons.mpr ⟨lw_p38, List.forall_mem_cons.mpr ⟨lw_p39, List.forall_mem_cons.mpr ⟨lw_p40, List.forall_mem_cons.mpr ⟨lw_p41, List.forall_mem_cons.mpr ⟨lw_p42, List.forall_mem_cons.mpr ⟨lw_p43, List.forall_mem_cons.mpr ⟨lw_p44, List.forall_mem_cons.mpr ⟨lw_p45, List.forall_mem_cons.mpr ⟨lw_p46, List.forall_mem_cons.mpr ⟨lw_p47, fun _ h => absurd h List.not_mem_nil⟩⟩⟩⟩⟩⟩⟩⟩⟩⟩⟩⟩⟩⟩⟩⟩
theorem lw_p48 : lw_okq (⟨"SecureLines$Client", "takeTicket", "()V"⟩, 31) := ⟨⟨by decide +kernel, by decide +kernel⟩, List.mem_of_getElem? (i := 1176) (by decide +kernel), List.mem_of_getElem? (i := 1769) (by decide +kernel), List.mem_of_getElem? (i := 1770) (by decide +kernel)⟩
theorem lw_p49 : lw_okq (⟨"SecureLines$Client", "takeShown", "(I)V"⟩, 31) := ⟨⟨by decide +kernel, by decide +kernel⟩, List.mem_of_getElem? (i := 1176) (by decide +kernel), List.mem_of_getElem? (i := 1805) (by decide +kernel), List.mem_of_getElem? (i := 1806) (by decide +kernel)⟩
theorem lw_p50 : lw_okq (⟨"SecureLines$Client", "takeBeginning", "()V"⟩, 31) := ⟨⟨by decide +kernel, by decide +kernel⟩, List.mem_of_getElem? (i := 1176) (by decide +kernel), List.mem_of_getElem? (i := 1809) (by decide +kernel), List.mem_of_getElem? (i := 1810) (by decide +kernel)⟩
theorem lw_p51 : lw_okq (⟨"SecureLines$Client", "takeAsking", "()V"⟩, 31) := ⟨⟨by decide +kernel, by decide +kernel⟩, List.mem_of_getElem? (i := 1176) (by decide +kernel), List.mem_of_getElem? (i := 1813) (by decide +kernel), List.mem_of_getElem? (i := 1814) (by decide +kernel)⟩
theorem lw_p52 : lw_okq (⟨"SecureLines$Serve\x72", "buildRetry", "(I)V"⟩, 34) := ⟨⟨by decide +kernel, by decide +kernel⟩, List.mem_of_getElem? (i := 1017) (by decide +kernel), List.mem_of_getElem? (i := 1830) (by decide +kernel), List.mem_of_getElem? (i := 1831) (by decide +kernel)⟩
theorem lw_p53 : lw_okq (⟨"SecureLines$Serve\x72", "buildAnswe\x72", "()V"⟩, 34) := ⟨⟨by decide +kernel, by decide +kernel⟩, List.mem_of_getElem? (i := 1017) (by decide +kernel), List.mem_of_getElem? (i := 1855) (by decide +kernel), List.mem_of_getElem? (i := 1856) (by decide +kernel)⟩
theorem lw_p54 : lw_okq (⟨"SecureLines$Serve\x72", "startKeys", "(J)V"⟩, 34) := ⟨⟨by decide +kernel, by decide +kernel⟩, List.mem_of_getElem? (i := 1017) (by decide +kernel), List.mem_of_getElem? (i := 1864) (by decide +kernel), List.mem_of_getElem? (i := 1865) (by decide +kernel)⟩
theorem lw_p55 : lw_okq (⟨"SecureLines$Serve\x72", "isEarlyTaken", "(LSecureLines$Fields;)Z"⟩, 34) := ⟨⟨by decide +kernel, by decide +kernel⟩, List.mem_of_getElem? (i := 1017) (by decide +kernel), List.mem_of_getElem? (i := 1868) (by decide +kernel), List.mem_of_getElem? (i := 1869) (by decide +kernel)⟩
theorem lw_p56 : lw_okq (⟨"SecureLines$Serve\x72", "buildBeginning", "()V"⟩, 34) := ⟨⟨by decide +kernel, by decide +kernel⟩, List.mem_of_getElem? (i := 1017) (by decide +kernel), List.mem_of_getElem? (i := 1884) (by decide +kernel), List.mem_of_getElem? (i := 1885) (by decide +kernel)⟩
theorem lw_p57 : lw_okq (⟨"SecureLines$Serve\x72", "buildAsking", "()V"⟩, 34) := ⟨⟨by decide +kernel, by decide +kernel⟩, List.mem_of_getElem? (i := 1017) (by decide +kernel), List.mem_of_getElem? (i := 1888) (by decide +kernel), List.mem_of_getElem? (i := 1889) (by decide +kernel)⟩
theorem lw_p58 : lw_okq (⟨"SecureLines$Serve\x72", "buildTicket", "(I)V"⟩, 34) := ⟨⟨by decide +kernel, by decide +kernel⟩, List.mem_of_getElem? (i := 1017) (by decide +kernel), List.mem_of_getElem? (i := 1914) (by decide +kernel), List.mem_of_getElem? (i := 1915) (by decide +kernel)⟩
theorem lw_p59 : lw_okq (⟨"SecureLines$Serve\x72", "takeShown", "(I)V"⟩, 34) := ⟨⟨by decide +kernel, by decide +kernel⟩, List.mem_of_getElem? (i := 1017) (by decide +kernel), List.mem_of_getElem? (i := 1944) (by decide +kernel), List.mem_of_getElem? (i := 1945) (by decide +kernel)⟩
theorem lw_p60 : lw_okq (⟨"SecureLines", "isOffice", "(I)Z"⟩, 18) := ⟨⟨by decide +kernel, by decide +kernel⟩, List.mem_of_getElem? (i := 18) (by decide +kernel), List.mem_of_getElem? (i := 2094) (by decide +kernel), List.mem_of_getElem? (i := 2095) (by decide +kernel)⟩
theorem lw_p61 : lw_okq (⟨"SecureLines", "isOrde\x72", "(II)Z"⟩, 18) := ⟨⟨by decide +kernel, by decide +kernel⟩, List.mem_of_getElem? (i := 18) (by decide +kernel), List.mem_of_getElem? (i := 2127) (by decide +kernel), List.mem_of_getElem? (i := 2128) (by decide +kernel)⟩
theorem lw_p62 : lw_okq (⟨"SecureLines", "zonePlace", "([III)I"⟩, 18) := ⟨⟨by decide +kernel, by decide +kernel⟩, List.mem_of_getElem? (i := 18) (by decide +kernel), List.mem_of_getElem? (i := 2139) (by decide +kernel), List.mem_of_getElem? (i := 2140) (by decide +kernel)⟩
theorem lw_p63 : lw_okq (⟨"SecureLines$Office", "certificateFo\x72", "(III)LSecureLines$Row;"⟩, 19) := ⟨⟨by decide +kernel, by decide +kernel⟩, List.mem_of_getElem? (i := 2021) (by decide +kernel), List.mem_of_getElem? (i := 2174) (by decide +kernel), List.mem_of_getElem? (i := 2175) (by decide +kernel)⟩
def lw_privs_4 : List (MethodName × Nat) := [(⟨"SecureLines$Client", "takeTicket", "()V"⟩, 31), (⟨"SecureLines$Client", "takeShown", "(I)V"⟩, 31), (⟨"SecureLines$Client", "takeBeginning", "()V"⟩, 31), (⟨"SecureLines$Client", "takeAsking", "()V"⟩, 31), (⟨"SecureLines$Serve\x72", "buildRetry", "(I)V"⟩, 34), (⟨"SecureLines$Serve\x72", "buildAnswe\x72", "()V"⟩, 34), (⟨"SecureLines$Serve\x72", "startKeys", "(J)V"⟩, 34), (⟨"SecureLines$Serve\x72", "isEarlyTaken", "(LSecureLines$Fields;)Z"⟩, 34), (⟨"SecureLines$Serve\x72", "buildBeginning", "()V"⟩, 34), (⟨"SecureLines$Serve\x72", "buildAsking", "()V"⟩, 34), (⟨"SecureLines$Serve\x72", "buildTicket", "(I)V"⟩, 34), (⟨"SecureLines$Serve\x72", "takeShown", "(I)V"⟩, 34), (⟨"SecureLines", "isOffice", "(I)Z"⟩, 18), (⟨"SecureLines", "isOrde\x72", "(II)Z"⟩, 18), (⟨"SecureLines", "zonePlace", "([III)I"⟩, 18), (⟨"SecureLines$Office", "certificateFo\x72", "(III)LSecureLines$Row;"⟩, 19)]
theorem lw_r4 : ∀ q ∈ lw_privs_4, lw_okq q := List.forall_mem_cons.mpr ⟨lw_p48, List.forall_mem_cons.mpr ⟨lw_p49, List.forall_mem_cons.mpr ⟨lw_p50, List.forall_mem_cons.mpr ⟨lw_p51, List.forall_mem_cons.mpr ⟨lw_p52, List.forall_mem_cons.mpr ⟨lw_p53, List.forall_mem_cons.mpr ⟨lw_p54, List.forall_mem_cons.mpr ⟨lw_p55, List.forall_mem_cons.mpr ⟨lw_p56, List.forall_mem_cons.mpr ⟨lw_p57, List.forall_mem_cons.mpr ⟨lw_p58, List.forall_mem_cons.mpr ⟨lw_p59, List.forall_mem_cons.mpr ⟨lw_p60, List.forall_mem_cons.mpr ⟨lw_p61, List.forall_mem_cons.mpr ⟨lw_p62, List.forall_mem_cons.mpr ⟨lw_p63, fun _ h => absurd h List.not_mem_nil⟩⟩⟩⟩⟩⟩⟩⟩⟩⟩⟩⟩⟩⟩⟩⟩
theorem lw_p64 : lw_okq (⟨"SecureLines$Office", "putIssue\x72", "(LSecureLines$Row;)V"⟩, 19) := ⟨⟨by decide +kernel, by decide +kernel⟩, List.mem_of_getElem? (i := 2021) (by decide +kernel), List.mem_of_getElem? (i := 2186) (by decide +kernel), List.mem_of_getElem? (i := 2187) (by decide +kernel)⟩
theorem lw_p65 : lw_okq (⟨"SecureLines$Office", "putTimes", "(LSecureLines$Row;I)V"⟩, 19) := ⟨⟨by decide +kernel, by decide +kernel⟩, List.mem_of_getElem? (i := 2021) (by decide +kernel), List.mem_of_getElem? (i := 2198) (by decide +kernel), List.mem_of_getElem? (i := 2199) (by decide +kernel)⟩
theorem lw_p66 : lw_okq (⟨"SecureLines$Office", "sealed", "(LSecureLines$Row;)LSecureLines$Row;"⟩, 19) := ⟨⟨by decide +kernel, by decide +kernel⟩, List.mem_of_getElem? (i := 2021) (by decide +kernel), List.mem_of_getElem? (i := 2209) (by decide +kernel), List.mem_of_getElem? (i := 2210) (by decide +kernel)⟩
theorem lw_p67 : lw_okq (⟨"SecureLines$Office", "isRevoked", "(I)Z"⟩, 19) := ⟨⟨by decide +kernel, by decide +kernel⟩, List.mem_of_getElem? (i := 2021) (by decide +kernel), List.mem_of_getElem? (i := 2227) (by decide +kernel), List.mem_of_getElem? (i := 2228) (by decide +kernel)⟩
theorem lw_p68 : lw_okq (⟨"SecureLines", "isLog", "(I)Z"⟩, 18) := ⟨⟨by decide +kernel, by decide +kernel⟩, List.mem_of_getElem? (i := 18) (by decide +kernel), List.mem_of_getElem? (i := 2255) (by decide +kernel), List.mem_of_getElem? (i := 2256) (by decide +kernel)⟩
theorem lw_p69 : lw_okq (⟨"SecureLines", "headOf", "([JII)J"⟩, 18) := ⟨⟨by decide +kernel, by decide +kernel⟩, List.mem_of_getElem? (i := 18) (by decide +kernel), List.mem_of_getElem? (i := 2263) (by decide +kernel), List.mem_of_getElem? (i := 2264) (by decide +kernel)⟩
theorem lw_p70 : lw_okq (⟨"SecureLines", "leafOf", "(J)J"⟩, 18) := ⟨⟨by decide +kernel, by decide +kernel⟩, List.mem_of_getElem? (i := 18) (by decide +kernel), List.mem_of_getElem? (i := 2267) (by decide +kernel), List.mem_of_getElem? (i := 2268) (by decide +kernel)⟩
theorem lw_p71 : lw_okq (⟨"SecureLines", "knotOf", "(JJ)J"⟩, 18) := ⟨⟨by decide +kernel, by decide +kernel⟩, List.mem_of_getElem? (i := 18) (by decide +kernel), List.mem_of_getElem? (i := 2275) (by decide +kernel), List.mem_of_getElem? (i := 2276) (by decide +kernel)⟩
theorem lw_p72 : lw_okq (⟨"SecureLines", "knotsOut", "(I)V"⟩, 18) := ⟨⟨by decide +kernel, by decide +kernel⟩, List.mem_of_getElem? (i := 18) (by decide +kernel), List.mem_of_getElem? (i := 2286) (by decide +kernel), List.mem_of_getElem? (i := 2287) (by decide +kernel)⟩
theorem lw_p73 : lw_okq (⟨"SecureLinesModel", "digestOf", "(I[III)J"⟩, 206) := ⟨⟨by decide +kernel, by decide +kernel⟩, List.mem_of_getElem? (i := 2304) (by decide +kernel), List.mem_of_getElem? (i := 2964) (by decide +kernel), List.mem_of_getElem? (i := 2965) (by decide +kernel)⟩
theorem lw_p74 : lw_okq (⟨"SecureLinesModel", "beginDigest", "(I)V"⟩, 206) := ⟨⟨by decide +kernel, by decide +kernel⟩, List.mem_of_getElem? (i := 2304) (by decide +kernel), List.mem_of_getElem? (i := 2968) (by decide +kernel), List.mem_of_getElem? (i := 2969) (by decide +kernel)⟩
theorem lw_p75 : lw_okq (⟨"SecureLinesModel", "digestRow", "([III)V"⟩, 206) := ⟨⟨by decide +kernel, by decide +kernel⟩, List.mem_of_getElem? (i := 2304) (by decide +kernel), List.mem_of_getElem? (i := 2972) (by decide +kernel), List.mem_of_getElem? (i := 2973) (by decide +kernel)⟩
theorem lw_p76 : lw_okq (⟨"SecureLinesModel", "digestByte", "(I)V"⟩, 206) := ⟨⟨by decide +kernel, by decide +kernel⟩, List.mem_of_getElem? (i := 2304) (by decide +kernel), List.mem_of_getElem? (i := 2976) (by decide +kernel), List.mem_of_getElem? (i := 2977) (by decide +kernel)⟩
theorem lw_p77 : lw_okq (⟨"SecureLinesModel", "pushByte", "(I)V"⟩, 206) := ⟨⟨by decide +kernel, by decide +kernel⟩, List.mem_of_getElem? (i := 2304) (by decide +kernel), List.mem_of_getElem? (i := 2980) (by decide +kernel), List.mem_of_getElem? (i := 2981) (by decide +kernel)⟩
theorem lw_p78 : lw_okq (⟨"SecureLinesModel", "mix", "()V"⟩, 206) := ⟨⟨by decide +kernel, by decide +kernel⟩, List.mem_of_getElem? (i := 2304) (by decide +kernel), List.mem_of_getElem? (i := 2984) (by decide +kernel), List.mem_of_getElem? (i := 2985) (by decide +kernel)⟩
theorem lw_p79 : lw_okq (⟨"SecureLinesModel", "endDigest", "()J"⟩, 206) := ⟨⟨by decide +kernel, by decide +kernel⟩, List.mem_of_getElem? (i := 2304) (by decide +kernel), List.mem_of_getElem? (i := 2991) (by decide +kernel), List.mem_of_getElem? (i := 2992) (by decide +kernel)⟩
def lw_privs_5 : List (MethodName × Nat) := [(⟨"SecureLines$Office", "putIssue\x72", "(LSecureLines$Row;)V"⟩, 19), (⟨"SecureLines$Office", "putTimes", "(LSecureLines$Row;I)V"⟩, 19), (⟨"SecureLines$Office", "sealed", "(LSecureLines$Row;)LSecureLines$Row;"⟩, 19), (⟨"SecureLines$Office", "isRevoked", "(I)Z"⟩, 19), (⟨"SecureLines", "isLog", "(I)Z"⟩, 18), (⟨"SecureLines", "headOf", "([JII)J"⟩, 18), (⟨"SecureLines", "leafOf", "(J)J"⟩, 18), (⟨"SecureLines", "knotOf", "(JJ)J"⟩, 18), (⟨"SecureLines", "knotsOut", "(I)V"⟩, 18), (⟨"SecureLinesModel", "digestOf", "(I[III)J"⟩, 206), (⟨"SecureLinesModel", "beginDigest", "(I)V"⟩, 206), (⟨"SecureLinesModel", "digestRow", "([III)V"⟩, 206), (⟨"SecureLinesModel", "digestByte", "(I)V"⟩, 206), (⟨"SecureLinesModel", "pushByte", "(I)V"⟩, 206), (⟨"SecureLinesModel", "mix", "()V"⟩, 206), (⟨"SecureLinesModel", "endDigest", "()J"⟩, 206)]
theorem lw_r5 : ∀ q ∈ lw_privs_5, lw_okq q := List.forall_mem_cons.mpr ⟨lw_p64, List.forall_mem_cons.mpr ⟨lw_p65, List.forall_mem_cons.mpr ⟨lw_p66, List.forall_mem_cons.mpr ⟨lw_p67, List.forall_mem_cons.mpr ⟨lw_p68, List.forall_mem_cons.mpr ⟨lw_p69, List.forall_mem_cons.mpr ⟨lw_p70, List.forall_mem_cons.mpr ⟨lw_p71, List.forall_mem_cons.mpr ⟨lw_p72, List.forall_mem_cons.mpr ⟨lw_p73, List.forall_mem_cons.mpr ⟨lw_p74, List.forall_mem_cons.mpr ⟨lw_p75, List.forall_mem_cons.mpr ⟨lw_p76, List.forall_mem_cons.mpr ⟨lw_p77, List.forall_mem_cons.mpr ⟨lw_p78, List.forall_mem_cons.mpr ⟨lw_p79, fun _ h => absurd h List.not_mem_nil⟩⟩⟩⟩⟩⟩⟩⟩⟩⟩⟩⟩⟩⟩⟩⟩
theorem lw_p80 : lw_okq (⟨"SecureLinesModel", "mixed", "()J"⟩, 206) := ⟨⟨by decide +kernel, by decide +kernel⟩, List.mem_of_getElem? (i := 2304) (by decide +kernel), List.mem_of_getElem? (i := 2995) (by decide +kernel), List.mem_of_getElem? (i := 2996) (by decide +kernel)⟩
theorem lw_p81 : lw_okq (⟨"SecureLinesModel", "beginKeyed", "(IJ)V"⟩, 206) := ⟨⟨by decide +kernel, by decide +kernel⟩, List.mem_of_getElem? (i := 2304) (by decide +kernel), List.mem_of_getElem? (i := 3004) (by decide +kernel), List.mem_of_getElem? (i := 3005) (by decide +kernel)⟩
theorem lw_p82 : lw_okq (⟨"SecureLinesModel", "endKeyed", "(IJ)J"⟩, 206) := ⟨⟨by decide +kernel, by decide +kernel⟩, List.mem_of_getElem? (i := 2304) (by decide +kernel), List.mem_of_getElem? (i := 3008) (by decide +kernel), List.mem_of_getElem? (i := 3009) (by decide +kernel)⟩
theorem lw_p83 : lw_okq (⟨"SecureLinesModel", "digestLong", "(J)V"⟩, 206) := ⟨⟨by decide +kernel, by decide +kernel⟩, List.mem_of_getElem? (i := 2304) (by decide +kernel), List.mem_of_getElem? (i := 3012) (by decide +kernel), List.mem_of_getElem? (i := 3013) (by decide +kernel)⟩
theorem lw_p84 : lw_okq (⟨"SecureLinesModel", "derivedOf", "(IJIJ)J"⟩, 206) := ⟨⟨by decide +kernel, by decide +kernel⟩, List.mem_of_getElem? (i := 2304) (by decide +kernel), List.mem_of_getElem? (i := 3021) (by decide +kernel), List.mem_of_getElem? (i := 3022) (by decide +kernel)⟩
theorem lw_p85 : lw_okq (⟨"SecureLinesModel", "cove\x72", "(JJ[III)V"⟩, 206) := ⟨⟨by decide +kernel, by decide +kernel⟩, List.mem_of_getElem? (i := 2304) (by decide +kernel), List.mem_of_getElem? (i := 3030) (by decide +kernel), List.mem_of_getElem? (i := 3031) (by decide +kernel)⟩
theorem lw_p86 : lw_okq (⟨"SecureLinesModel", "tagIn", "(IJJ[III[III)J"⟩, 206) := ⟨⟨by decide +kernel, by decide +kernel⟩, List.mem_of_getElem? (i := 2304) (by decide +kernel), List.mem_of_getElem? (i := 3034) (by decide +kernel), List.mem_of_getElem? (i := 3035) (by decide +kernel)⟩
theorem lw_p87 : lw_okq (⟨"SecureLinesModel", "digestFou\x72", "(I)V"⟩, 206) := ⟨⟨by decide +kernel, by decide +kernel⟩, List.mem_of_getElem? (i := 2304) (by decide +kernel), List.mem_of_getElem? (i := 3041) (by decide +kernel), List.mem_of_getElem? (i := 3042) (by decide +kernel)⟩
theorem lw_p88 : lw_okq (⟨"SecureLinesModel", "signed", "(II[III)J"⟩, 206) := ⟨⟨by decide +kernel, by decide +kernel⟩, List.mem_of_getElem? (i := 2304) (by decide +kernel), List.mem_of_getElem? (i := 3097) (by decide +kernel), List.mem_of_getElem? (i := 3098) (by decide +kernel)⟩
theorem lw_p89 : lw_okq (⟨"SecureLinesModel", "answerOf", "(III[III)I"⟩, 206) := ⟨⟨by decide +kernel, by decide +kernel⟩, List.mem_of_getElem? (i := 2304) (by decide +kernel), List.mem_of_getElem? (i := 3105) (by decide +kernel), List.mem_of_getElem? (i := 3106) (by decide +kernel)⟩
theorem lw_p90 : lw_okq (⟨"SecureLinesModel", "doesFit", "(IIJ[III)Z"⟩, 206) := ⟨⟨by decide +kernel, by decide +kernel⟩, List.mem_of_getElem? (i := 2304) (by decide +kernel), List.mem_of_getElem? (i := 3115) (by decide +kernel), List.mem_of_getElem? (i := 3116) (by decide +kernel)⟩
theorem lw_p91 : lw_okq (⟨"SecureLinesModel", "headOf", "(III)J"⟩, 206) := ⟨⟨by decide +kernel, by decide +kernel⟩, List.mem_of_getElem? (i := 2304) (by decide +kernel), List.mem_of_getElem? (i := 3133) (by decide +kernel), List.mem_of_getElem? (i := 3134) (by decide +kernel)⟩
theorem lw_p92 : lw_okq (⟨"SecureLinesModel", "leaf", "(J)J"⟩, 206) := ⟨⟨by decide +kernel, by decide +kernel⟩, List.mem_of_getElem? (i := 2304) (by decide +kernel), List.mem_of_getElem? (i := 3137) (by decide +kernel), List.mem_of_getElem? (i := 3138) (by decide +kernel)⟩
theorem lw_p93 : lw_okq (⟨"SecureLinesModel", "knot", "(JJ)J"⟩, 206) := ⟨⟨by decide +kernel, by decide +kernel⟩, List.mem_of_getElem? (i := 2304) (by decide +kernel), List.mem_of_getElem? (i := 3141) (by decide +kernel), List.mem_of_getElem? (i := 3142) (by decide +kernel)⟩
theorem lw_p94 : lw_okq (⟨"SecureLinesModel", "tellBeside", "()I"⟩, 206) := ⟨⟨by decide +kernel, by decide +kernel⟩, List.mem_of_getElem? (i := 2304) (by decide +kernel), List.mem_of_getElem? (i := 3152) (by decide +kernel), List.mem_of_getElem? (i := 3153) (by decide +kernel)⟩
theorem lw_p95 : lw_okq (⟨"SecureLinesModel", "tapeLong", "(I)J"⟩, 206) := ⟨⟨by decide +kernel, by decide +kernel⟩, List.mem_of_getElem? (i := 2304) (by decide +kernel), List.mem_of_getElem? (i := 3165) (by decide +kernel), List.mem_of_getElem? (i := 3166) (by decide +kernel)⟩
def lw_privs_6 : List (MethodName × Nat) := [(⟨"SecureLinesModel", "mixed", "()J"⟩, 206), (⟨"SecureLinesModel", "beginKeyed", "(IJ)V"⟩, 206), (⟨"SecureLinesModel", "endKeyed", "(IJ)J"⟩, 206), (⟨"SecureLinesModel", "digestLong", "(J)V"⟩, 206), (⟨"SecureLinesModel", "derivedOf", "(IJIJ)J"⟩, 206), (⟨"SecureLinesModel", "cove\x72", "(JJ[III)V"⟩, 206), (⟨"SecureLinesModel", "tagIn", "(IJJ[III[III)J"⟩, 206), (⟨"SecureLinesModel", "digestFou\x72", "(I)V"⟩, 206), (⟨"SecureLinesModel", "signed", "(II[III)J"⟩, 206), (⟨"SecureLinesModel", "answerOf", "(III[III)I"⟩, 206), (⟨"SecureLinesModel", "doesFit", "(IIJ[III)Z"⟩, 206), (⟨"SecureLinesModel", "headOf", "(III)J"⟩, 206), (⟨"SecureLinesModel", "leaf", "(J)J"⟩, 206), (⟨"SecureLinesModel", "knot", "(JJ)J"⟩, 206), (⟨"SecureLinesModel", "tellBeside", "()I"⟩, 206), (⟨"SecureLinesModel", "tapeLong", "(I)J"⟩, 206)]
theorem lw_r6 : ∀ q ∈ lw_privs_6, lw_okq q := List.forall_mem_cons.mpr ⟨lw_p80, List.forall_mem_cons.mpr ⟨lw_p81, List.forall_mem_cons.mpr ⟨lw_p82, List.forall_mem_cons.mpr ⟨lw_p83, List.forall_mem_cons.mpr ⟨lw_p84, List.forall_mem_cons.mpr ⟨lw_p85, List.forall_mem_cons.mpr ⟨lw_p86, List.forall_mem_cons.mpr ⟨lw_p87, List.forall_mem_cons.mpr ⟨lw_p88, List.forall_mem_cons.mpr ⟨lw_p89, List.forall_mem_cons.mpr ⟨lw_p90, List.forall_mem_cons.mpr ⟨lw_p91, List.forall_mem_cons.mpr ⟨lw_p92, List.forall_mem_cons.mpr ⟨lw_p93, List.forall_mem_cons.mpr ⟨lw_p94, List.forall_mem_cons.mpr ⟨lw_p95, fun _ h => absurd h List.not_mem_nil⟩⟩⟩⟩⟩⟩⟩⟩⟩⟩⟩⟩⟩⟩⟩⟩
theorem lw_p96 : lw_okq (⟨"SecureLinesModel", "nodeFault", "([III)I"⟩, 206) := ⟨⟨by decide +kernel, by decide +kernel⟩, List.mem_of_getElem? (i := 2304) (by decide +kernel), List.mem_of_getElem? (i := 3177) (by decide +kernel), List.mem_of_getElem? (i := 3178) (by decide +kernel)⟩
theorem lw_p97 : lw_okq (⟨"SecureLinesModel", "lengthFault", "([III)I"⟩, 206) := ⟨⟨by decide +kernel, by decide +kernel⟩, List.mem_of_getElem? (i := 2304) (by decide +kernel), List.mem_of_getElem? (i := 3186) (by decide +kernel), List.mem_of_getElem? (i := 3187) (by decide +kernel)⟩
theorem lw_p98 : lw_okq (⟨"SecureLinesModel", "isCertificate", "(I[III)Z"⟩, 206) := ⟨⟨by decide +kernel, by decide +kernel⟩, List.mem_of_getElem? (i := 2304) (by decide +kernel), List.mem_of_getElem? (i := 3204) (by decide +kernel), List.mem_of_getElem? (i := 3205) (by decide +kernel)⟩
theorem lw_p99 : lw_okq (⟨"SecureLinesModel", "next", "(II)Z"⟩, 206) := ⟨⟨by decide +kernel, by decide +kernel⟩, List.mem_of_getElem? (i := 2304) (by decide +kernel), List.mem_of_getElem? (i := 3208) (by decide +kernel), List.mem_of_getElem? (i := 3209) (by decide +kernel)⟩
theorem lw_p100 : lw_okq (⟨"SecureLinesModel", "isInne\x72", "(II)Z"⟩, 206) := ⟨⟨by decide +kernel, by decide +kernel⟩, List.mem_of_getElem? (i := 2304) (by decide +kernel), List.mem_of_getElem? (i := 3212) (by decide +kernel), List.mem_of_getElem? (i := 3213) (by decide +kernel)⟩
theorem lw_p101 : lw_okq (⟨"SecureLinesModel", "numbe\x72", "()I"⟩, 206) := ⟨⟨by decide +kernel, by decide +kernel⟩, List.mem_of_getElem? (i := 2304) (by decide +kernel), List.mem_of_getElem? (i := 3216) (by decide +kernel), List.mem_of_getElem? (i := 3217) (by decide +kernel)⟩
theorem lw_p102 : lw_okq (⟨"SecureLinesModel", "areNames", "(II)Z"⟩, 206) := ⟨⟨by decide +kernel, by decide +kernel⟩, List.mem_of_getElem? (i := 2304) (by decide +kernel), List.mem_of_getElem? (i := 3221) (by decide +kernel), List.mem_of_getElem? (i := 3222) (by decide +kernel)⟩
theorem lw_p103 : lw_okq (⟨"SecureLinesModel", "holdCertificate", "()I"⟩, 206) := ⟨⟨by decide +kernel, by decide +kernel⟩, List.mem_of_getElem? (i := 2304) (by decide +kernel), List.mem_of_getElem? (i := 3228) (by decide +kernel), List.mem_of_getElem? (i := 3229) (by decide +kernel)⟩
theorem lw_p104 : lw_okq (⟨"SecureLinesModel", "copyCert", "(II)V"⟩, 206) := ⟨⟨by decide +kernel, by decide +kernel⟩, List.mem_of_getElem? (i := 2304) (by decide +kernel), List.mem_of_getElem? (i := 3232) (by decide +kernel), List.mem_of_getElem? (i := 3233) (by decide +kernel)⟩
theorem lw_p105 : lw_okq (⟨"SecureLinesModel", "isList", "(I[III)Z"⟩, 206) := ⟨⟨by decide +kernel, by decide +kernel⟩, List.mem_of_getElem? (i := 2304) (by decide +kernel), List.mem_of_getElem? (i := 3240) (by decide +kernel), List.mem_of_getElem? (i := 3241) (by decide +kernel)⟩
theorem lw_p106 : lw_okq (⟨"SecureLinesModel", "holdList", "()I"⟩, 206) := ⟨⟨by decide +kernel, by decide +kernel⟩, List.mem_of_getElem? (i := 2304) (by decide +kernel), List.mem_of_getElem? (i := 3247) (by decide +kernel), List.mem_of_getElem? (i := 3248) (by decide +kernel)⟩
theorem lw_p107 : lw_okq (⟨"SecureLinesModel", "isAnswe\x72", "(I[III)Z"⟩, 206) := ⟨⟨by decide +kernel, by decide +kernel⟩, List.mem_of_getElem? (i := 2304) (by decide +kernel), List.mem_of_getElem? (i := 3255) (by decide +kernel), List.mem_of_getElem? (i := 3256) (by decide +kernel)⟩
theorem lw_p108 : lw_okq (⟨"SecureLinesModel", "holdAnswe\x72", "()I"⟩, 206) := ⟨⟨by decide +kernel, by decide +kernel⟩, List.mem_of_getElem? (i := 2304) (by decide +kernel), List.mem_of_getElem? (i := 3259) (by decide +kernel), List.mem_of_getElem? (i := 3260) (by decide +kernel)⟩
theorem lw_p109 : lw_okq (⟨"SecureLinesModel", "putRow", "([III)V"⟩, 206) := ⟨⟨by decide +kernel, by decide +kernel⟩, List.mem_of_getElem? (i := 2304) (by decide +kernel), List.mem_of_getElem? (i := 3267) (by decide +kernel), List.mem_of_getElem? (i := 3268) (by decide +kernel)⟩
theorem lw_p110 : lw_okq (⟨"SecureLinesModel", "put", "(I)V"⟩, 206) := ⟨⟨by decide +kernel, by decide +kernel⟩, List.mem_of_getElem? (i := 2304) (by decide +kernel), List.mem_of_getElem? (i := 3271) (by decide +kernel), List.mem_of_getElem? (i := 3272) (by decide +kernel)⟩
theorem lw_p111 : lw_okq (⟨"SecureLinesModel", "signMade", "(II)V"⟩, 206) := ⟨⟨by decide +kernel, by decide +kernel⟩, List.mem_of_getElem? (i := 2304) (by decide +kernel), List.mem_of_getElem? (i := 3275) (by decide +kernel), List.mem_of_getElem? (i := 3276) (by decide +kernel)⟩
def lw_privs_7 : List (MethodName × Nat) := [(⟨"SecureLinesModel", "nodeFault", "([III)I"⟩, 206), (⟨"SecureLinesModel", "lengthFault", "([III)I"⟩, 206), (⟨"SecureLinesModel", "isCertificate", "(I[III)Z"⟩, 206), (⟨"SecureLinesModel", "next", "(II)Z"⟩, 206), (⟨"SecureLinesModel", "isInne\x72", "(II)Z"⟩, 206), (⟨"SecureLinesModel", "numbe\x72", "()I"⟩, 206), (⟨"SecureLinesModel", "areNames", "(II)Z"⟩, 206), (⟨"SecureLinesModel", "holdCertificate", "()I"⟩, 206), (⟨"SecureLinesModel", "copyCert", "(II)V"⟩, 206), (⟨"SecureLinesModel", "isList", "(I[III)Z"⟩, 206), (⟨"SecureLinesModel", "holdList", "()I"⟩, 206), (⟨"SecureLinesModel", "isAnswe\x72", "(I[III)Z"⟩, 206), (⟨"SecureLinesModel", "holdAnswe\x72", "()I"⟩, 206), (⟨"SecureLinesModel", "putRow", "([III)V"⟩, 206), (⟨"SecureLinesModel", "put", "(I)V"⟩, 206), (⟨"SecureLinesModel", "signMade", "(II)V"⟩, 206)]
theorem lw_r7 : ∀ q ∈ lw_privs_7, lw_okq q := List.forall_mem_cons.mpr ⟨lw_p96, List.forall_mem_cons.mpr ⟨lw_p97, List.forall_mem_cons.mpr ⟨lw_p98, List.forall_mem_cons.mpr ⟨lw_p99, List.forall_mem_cons.mpr ⟨lw_p100, List.forall_mem_cons.mpr ⟨lw_p101, List.forall_mem_cons.mpr ⟨lw_p102, List.forall_mem_cons.mpr ⟨lw_p103, List.forall_mem_cons.mpr ⟨lw_p104, List.forall_mem_cons.mpr ⟨lw_p105, List.forall_mem_cons.mpr ⟨lw_p106, List.forall_mem_cons.mpr ⟨lw_p107, List.forall_mem_cons.mpr ⟨lw_p108, List.forall_mem_cons.mpr ⟨lw_p109, List.forall_mem_cons.mpr ⟨lw_p110, List.forall_mem_cons.mpr ⟨lw_p111, fun _ h => absurd h List.not_mem_nil⟩⟩⟩⟩⟩⟩⟩⟩⟩⟩⟩⟩⟩⟩⟩⟩
theorem lw_p112 : lw_okq (⟨"SecureLinesModel", "putLong", "(J)V"⟩, 206) := ⟨⟨by decide +kernel, by decide +kernel⟩, List.mem_of_getElem? (i := 2304) (by decide +kernel), List.mem_of_getElem? (i := 3279) (by decide +kernel), List.mem_of_getElem? (i := 3280) (by decide +kernel)⟩
theorem lw_p113 : lw_okq (⟨"SecureLinesModel", "putFou\x72", "(I)V"⟩, 206) := ⟨⟨by decide +kernel, by decide +kernel⟩, List.mem_of_getElem? (i := 2304) (by decide +kernel), List.mem_of_getElem? (i := 3283) (by decide +kernel), List.mem_of_getElem? (i := 3284) (by decide +kernel)⟩
theorem lw_p114 : lw_okq (⟨"SecureLinesModel", "putTwo", "(I)V"⟩, 206) := ⟨⟨by decide +kernel, by decide +kernel⟩, List.mem_of_getElem? (i := 2304) (by decide +kernel), List.mem_of_getElem? (i := 3287) (by decide +kernel), List.mem_of_getElem? (i := 3288) (by decide +kernel)⟩
theorem lw_p115 : lw_okq (⟨"SecureLinesModel", "nodeMade", "(II)V"⟩, 206) := ⟨⟨by decide +kernel, by decide +kernel⟩, List.mem_of_getElem? (i := 2304) (by decide +kernel), List.mem_of_getElem? (i := 3291) (by decide +kernel), List.mem_of_getElem? (i := 3292) (by decide +kernel)⟩
theorem lw_p116 : lw_okq (⟨"SecureLinesModel", "isCert", "(I)Z"⟩, 206) := ⟨⟨by decide +kernel, by decide +kernel⟩, List.mem_of_getElem? (i := 2304) (by decide +kernel), List.mem_of_getElem? (i := 3299) (by decide +kernel), List.mem_of_getElem? (i := 3300) (by decide +kernel)⟩
theorem lw_p117 : lw_okq (⟨"SecureLinesModel", "statusOf", "(III)I"⟩, 206) := ⟨⟨by decide +kernel, by decide +kernel⟩, List.mem_of_getElem? (i := 2304) (by decide +kernel), List.mem_of_getElem? (i := 3313) (by decide +kernel), List.mem_of_getElem? (i := 3314) (by decide +kernel)⟩
theorem lw_p118 : lw_okq (⟨"SecureLinesModel", "isFo\x72", "(III[II[I)Z"⟩, 206) := ⟨⟨by decide +kernel, by decide +kernel⟩, List.mem_of_getElem? (i := 2304) (by decide +kernel), List.mem_of_getElem? (i := 3317) (by decide +kernel), List.mem_of_getElem? (i := 3318) (by decide +kernel)⟩
theorem lw_p119 : lw_okq (⟨"SecureLinesModel", "isEnd", "(I)Z"⟩, 206) := ⟨⟨by decide +kernel, by decide +kernel⟩, List.mem_of_getElem? (i := 2304) (by decide +kernel), List.mem_of_getElem? (i := 3339) (by decide +kernel), List.mem_of_getElem? (i := 3340) (by decide +kernel)⟩
theorem lw_p120 : lw_okq (⟨"SecureLinesModel", "areLinked", "()Z"⟩, 206) := ⟨⟨by decide +kernel, by decide +kernel⟩, List.mem_of_getElem? (i := 2304) (by decide +kernel), List.mem_of_getElem? (i := 3343) (by decide +kernel), List.mem_of_getElem? (i := 3344) (by decide +kernel)⟩
theorem lw_p121 : lw_okq (⟨"SecureLinesModel", "isIssuedBy", "(II)Z"⟩, 206) := ⟨⟨by decide +kernel, by decide +kernel⟩, List.mem_of_getElem? (i := 2304) (by decide +kernel), List.mem_of_getElem? (i := 3347) (by decide +kernel), List.mem_of_getElem? (i := 3348) (by decide +kernel)⟩
theorem lw_p122 : lw_okq (⟨"SecureLinesModel", "isAncho\x72", "(II)Z"⟩, 206) := ⟨⟨by decide +kernel, by decide +kernel⟩, List.mem_of_getElem? (i := 2304) (by decide +kernel), List.mem_of_getElem? (i := 3351) (by decide +kernel), List.mem_of_getElem? (i := 3352) (by decide +kernel)⟩
theorem lw_p123 : lw_okq (⟨"SecureLinesModel", "wayWhy", "(IIZ)I"⟩, 206) := ⟨⟨by decide +kernel, by decide +kernel⟩, List.mem_of_getElem? (i := 2304) (by decide +kernel), List.mem_of_getElem? (i := 3355) (by decide +kernel), List.mem_of_getElem? (i := 3356) (by decide +kernel)⟩
theorem lw_p124 : lw_okq (⟨"SecureLinesModel", "whyOf", "(IZIIZ)I"⟩, 206) := ⟨⟨by decide +kernel, by decide +kernel⟩, List.mem_of_getElem? (i := 2304) (by decide +kernel), List.mem_of_getElem? (i := 3359) (by decide +kernel), List.mem_of_getElem? (i := 3360) (by decide +kernel)⟩
theorem lw_p125 : lw_okq (⟨"SecureLinesModel", "isSignedBy", "(II)Z"⟩, 206) := ⟨⟨by decide +kernel, by decide +kernel⟩, List.mem_of_getElem? (i := 2304) (by decide +kernel), List.mem_of_getElem? (i := 3363) (by decide +kernel), List.mem_of_getElem? (i := 3364) (by decide +kernel)⟩
theorem lw_p126 : lw_okq (⟨"SecureLinesModel", "ownWhy", "(II)I"⟩, 206) := ⟨⟨by decide +kernel, by decide +kernel⟩, List.mem_of_getElem? (i := 2304) (by decide +kernel), List.mem_of_getElem? (i := 3367) (by decide +kernel), List.mem_of_getElem? (i := 3368) (by decide +kernel)⟩
theorem lw_p127 : lw_okq (⟨"SecureLinesModel", "isBarred", "(III)Z"⟩, 206) := ⟨⟨by decide +kernel, by decide +kernel⟩, List.mem_of_getElem? (i := 2304) (by decide +kernel), List.mem_of_getElem? (i := 3371) (by decide +kernel), List.mem_of_getElem? (i := 3372) (by decide +kernel)⟩
def lw_privs_8 : List (MethodName × Nat) := [(⟨"SecureLinesModel", "putLong", "(J)V"⟩, 206), (⟨"SecureLinesModel", "putFou\x72", "(I)V"⟩, 206), (⟨"SecureLinesModel", "putTwo", "(I)V"⟩, 206), (⟨"SecureLinesModel", "nodeMade", "(II)V"⟩, 206), (⟨"SecureLinesModel", "isCert", "(I)Z"⟩, 206), (⟨"SecureLinesModel", "statusOf", "(III)I"⟩, 206), (⟨"SecureLinesModel", "isFo\x72", "(III[II[I)Z"⟩, 206), (⟨"SecureLinesModel", "isEnd", "(I)Z"⟩, 206), (⟨"SecureLinesModel", "areLinked", "()Z"⟩, 206), (⟨"SecureLinesModel", "isIssuedBy", "(II)Z"⟩, 206), (⟨"SecureLinesModel", "isAncho\x72", "(II)Z"⟩, 206), (⟨"SecureLinesModel", "wayWhy", "(IIZ)I"⟩, 206), (⟨"SecureLinesModel", "whyOf", "(IZIIZ)I"⟩, 206), (⟨"SecureLinesModel", "isSignedBy", "(II)Z"⟩, 206), (⟨"SecureLinesModel", "ownWhy", "(II)I"⟩, 206), (⟨"SecureLinesModel", "isBarred", "(III)Z"⟩, 206)]
theorem lw_r8 : ∀ q ∈ lw_privs_8, lw_okq q := List.forall_mem_cons.mpr ⟨lw_p112, List.forall_mem_cons.mpr ⟨lw_p113, List.forall_mem_cons.mpr ⟨lw_p114, List.forall_mem_cons.mpr ⟨lw_p115, List.forall_mem_cons.mpr ⟨lw_p116, List.forall_mem_cons.mpr ⟨lw_p117, List.forall_mem_cons.mpr ⟨lw_p118, List.forall_mem_cons.mpr ⟨lw_p119, List.forall_mem_cons.mpr ⟨lw_p120, List.forall_mem_cons.mpr ⟨lw_p121, List.forall_mem_cons.mpr ⟨lw_p122, List.forall_mem_cons.mpr ⟨lw_p123, List.forall_mem_cons.mpr ⟨lw_p124, List.forall_mem_cons.mpr ⟨lw_p125, List.forall_mem_cons.mpr ⟨lw_p126, List.forall_mem_cons.mpr ⟨lw_p127, fun _ h => absurd h List.not_mem_nil⟩⟩⟩⟩⟩⟩⟩⟩⟩⟩⟩⟩⟩⟩⟩⟩
theorem lw_p128 : lw_okq (⟨"SecureLinesModel", "liesUnde\x72", "(IIII)Z"⟩, 206) := ⟨⟨by decide +kernel, by decide +kernel⟩, List.mem_of_getElem? (i := 2304) (by decide +kernel), List.mem_of_getElem? (i := 3375) (by decide +kernel), List.mem_of_getElem? (i := 3376) (by decide +kernel)⟩
theorem lw_p129 : lw_okq (⟨"SecureLinesModel", "hasWay", "(IIIII)Z"⟩, 206) := ⟨⟨by decide +kernel, by decide +kernel⟩, List.mem_of_getElem? (i := 2304) (by decide +kernel), List.mem_of_getElem? (i := 3383) (by decide +kernel), List.mem_of_getElem? (i := 3384) (by decide +kernel)⟩
theorem lw_p130 : lw_okq (⟨"SecureLinesModel", "canFollow", "(IIIZ)Z"⟩, 206) := ⟨⟨by decide +kernel, by decide +kernel⟩, List.mem_of_getElem? (i := 2304) (by decide +kernel), List.mem_of_getElem? (i := 3387) (by decide +kernel), List.mem_of_getElem? (i := 3388) (by decide +kernel)⟩
theorem lw_p131 : lw_okq (⟨"SecureLinesModel", "isOffice", "(I)Z"⟩, 206) := ⟨⟨by decide +kernel, by decide +kernel⟩, List.mem_of_getElem? (i := 2304) (by decide +kernel), List.mem_of_getElem? (i := 3445) (by decide +kernel), List.mem_of_getElem? (i := 3446) (by decide +kernel)⟩
theorem lw_p132 : lw_okq (⟨"SecureLinesModel", "isOrde\x72", "(II)Z"⟩, 206) := ⟨⟨by decide +kernel, by decide +kernel⟩, List.mem_of_getElem? (i := 2304) (by decide +kernel), List.mem_of_getElem? (i := 3457) (by decide +kernel), List.mem_of_getElem? (i := 3458) (by decide +kernel)⟩
theorem lw_p133 : lw_okq (⟨"SecureLinesModel", "putNumbe\x72", "(I)V"⟩, 206) := ⟨⟨by decide +kernel, by decide +kernel⟩, List.mem_of_getElem? (i := 2304) (by decide +kernel), List.mem_of_getElem? (i := 3477) (by decide +kernel), List.mem_of_getElem? (i := 3478) (by decide +kernel)⟩
theorem lw_p134 : lw_okq (⟨"SecureLinesModel", "putIssue\x72", "(I)V"⟩, 206) := ⟨⟨by decide +kernel, by decide +kernel⟩, List.mem_of_getElem? (i := 2304) (by decide +kernel), List.mem_of_getElem? (i := 3483) (by decide +kernel), List.mem_of_getElem? (i := 3484) (by decide +kernel)⟩
theorem lw_p135 : lw_okq (⟨"SecureLinesModel", "putName", "([III)V"⟩, 206) := ⟨⟨by decide +kernel, by decide +kernel⟩, List.mem_of_getElem? (i := 2304) (by decide +kernel), List.mem_of_getElem? (i := 3487) (by decide +kernel), List.mem_of_getElem? (i := 3488) (by decide +kernel)⟩
theorem lw_p136 : lw_okq (⟨"SecureLinesModel", "laterBy", "(I)I"⟩, 206) := ⟨⟨by decide +kernel, by decide +kernel⟩, List.mem_of_getElem? (i := 2304) (by decide +kernel), List.mem_of_getElem? (i := 3491) (by decide +kernel), List.mem_of_getElem? (i := 3492) (by decide +kernel)⟩
theorem lw_p137 : lw_okq (⟨"SecureLinesModel", "isRevoked", "(II)Z"⟩, 206) := ⟨⟨by decide +kernel, by decide +kernel⟩, List.mem_of_getElem? (i := 2304) (by decide +kernel), List.mem_of_getElem? (i := 3500) (by decide +kernel), List.mem_of_getElem? (i := 3501) (by decide +kernel)⟩
theorem lw_p138 : lw_okq (⟨"SecureLinesModel", "keepDigest", "(I)V"⟩, 206) := ⟨⟨by decide +kernel, by decide +kernel⟩, List.mem_of_getElem? (i := 2304) (by decide +kernel), List.mem_of_getElem? (i := 3516) (by decide +kernel), List.mem_of_getElem? (i := 3517) (by decide +kernel)⟩
theorem lw_p139 : lw_okq (⟨"SecureLinesModel", "greet", "(I)V"⟩, 206) := ⟨⟨by decide +kernel, by decide +kernel⟩, List.mem_of_getElem? (i := 2304) (by decide +kernel), List.mem_of_getElem? (i := 3520) (by decide +kernel), List.mem_of_getElem? (i := 3521) (by decide +kernel)⟩
theorem lw_p140 : lw_okq (⟨"SecureLinesModel", "drawLong", "(I)J"⟩, 206) := ⟨⟨by decide +kernel, by decide +kernel⟩, List.mem_of_getElem? (i := 2304) (by decide +kernel), List.mem_of_getElem? (i := 3524) (by decide +kernel), List.mem_of_getElem? (i := 3525) (by decide +kernel)⟩
theorem lw_p141 : lw_okq (⟨"SecureLinesModel", "draw", "(I)I"⟩, 206) := ⟨⟨by decide +kernel, by decide +kernel⟩, List.mem_of_getElem? (i := 2304) (by decide +kernel), List.mem_of_getElem? (i := 3528) (by decide +kernel), List.mem_of_getElem? (i := 3529) (by decide +kernel)⟩
theorem lw_p142 : lw_okq (⟨"SecureLinesModel", "drawX", "(I)I"⟩, 206) := ⟨⟨by decide +kernel, by decide +kernel⟩, List.mem_of_getElem? (i := 2304) (by decide +kernel), List.mem_of_getElem? (i := 3532) (by decide +kernel), List.mem_of_getElem? (i := 3533) (by decide +kernel)⟩
theorem lw_p143 : lw_okq (⟨"SecureLinesModel", "offerShared", "(II)V"⟩, 206) := ⟨⟨by decide +kernel, by decide +kernel⟩, List.mem_of_getElem? (i := 2304) (by decide +kernel), List.mem_of_getElem? (i := 3537) (by decide +kernel), List.mem_of_getElem? (i := 3538) (by decide +kernel)⟩
def lw_privs_9 : List (MethodName × Nat) := [(⟨"SecureLinesModel", "liesUnde\x72", "(IIII)Z"⟩, 206), (⟨"SecureLinesModel", "hasWay", "(IIIII)Z"⟩, 206), (⟨"SecureLinesModel", "canFollow", "(IIIZ)Z"⟩, 206), (⟨"SecureLinesModel", "isOffice", "(I)Z"⟩, 206), (⟨"SecureLinesModel", "isOrde\x72", "(II)Z"⟩, 206), (⟨"SecureLinesModel", "putNumbe\x72", "(I)V"⟩, 206), (⟨"SecureLinesModel", "putIssue\x72", "(I)V"⟩, 206), (⟨"SecureLinesModel", "putName", "([III)V"⟩, 206), (⟨"SecureLinesModel", "laterBy", "(I)I"⟩, 206), (⟨"SecureLinesModel", "isRevoked", "(II)Z"⟩, 206), (⟨"SecureLinesModel", "keepDigest", "(I)V"⟩, 206), (⟨"SecureLinesModel", "greet", "(I)V"⟩, 206), (⟨"SecureLinesModel", "drawLong", "(I)J"⟩, 206), (⟨"SecureLinesModel", "draw", "(I)I"⟩, 206), (⟨"SecureLinesModel", "drawX", "(I)I"⟩, 206), (⟨"SecureLinesModel", "offerShared", "(II)V"⟩, 206)]
theorem lw_r9 : ∀ q ∈ lw_privs_9, lw_okq q := List.forall_mem_cons.mpr ⟨lw_p128, List.forall_mem_cons.mpr ⟨lw_p129, List.forall_mem_cons.mpr ⟨lw_p130, List.forall_mem_cons.mpr ⟨lw_p131, List.forall_mem_cons.mpr ⟨lw_p132, List.forall_mem_cons.mpr ⟨lw_p133, List.forall_mem_cons.mpr ⟨lw_p134, List.forall_mem_cons.mpr ⟨lw_p135, List.forall_mem_cons.mpr ⟨lw_p136, List.forall_mem_cons.mpr ⟨lw_p137, List.forall_mem_cons.mpr ⟨lw_p138, List.forall_mem_cons.mpr ⟨lw_p139, List.forall_mem_cons.mpr ⟨lw_p140, List.forall_mem_cons.mpr ⟨lw_p141, List.forall_mem_cons.mpr ⟨lw_p142, List.forall_mem_cons.mpr ⟨lw_p143, fun _ h => absurd h List.not_mem_nil⟩⟩⟩⟩⟩⟩⟩⟩⟩⟩⟩⟩⟩⟩⟩⟩
theorem lw_p144 : lw_okq (⟨"SecureLinesModel", "makeHello", "(IZ)V"⟩, 206) := ⟨⟨by decide +kernel, by decide +kernel⟩, List.mem_of_getElem? (i := 2304) (by decide +kernel), List.mem_of_getElem? (i := 3541) (by decide +kernel), List.mem_of_getElem? (i := 3542) (by decide +kernel)⟩
theorem lw_p145 : lw_okq (⟨"SecureLinesModel", "putField", "(II)V"⟩, 206) := ⟨⟨by decide +kernel, by decide +kernel⟩, List.mem_of_getElem? (i := 2304) (by decide +kernel), List.mem_of_getElem? (i := 3545) (by decide +kernel), List.mem_of_getElem? (i := 3546) (by decide +kernel)⟩
theorem lw_p146 : lw_okq (⟨"SecureLinesModel", "putOffers", "(III)V"⟩, 206) := ⟨⟨by decide +kernel, by decide +kernel⟩, List.mem_of_getElem? (i := 2304) (by decide +kernel), List.mem_of_getElem? (i := 3549) (by decide +kernel), List.mem_of_getElem? (i := 3550) (by decide +kernel)⟩
theorem lw_p147 : lw_okq (⟨"SecureLinesModel", "putShared", "(I)V"⟩, 206) := ⟨⟨by decide +kernel, by decide +kernel⟩, List.mem_of_getElem? (i := 2304) (by decide +kernel), List.mem_of_getElem? (i := 3553) (by decide +kernel), List.mem_of_getElem? (i := 3554) (by decide +kernel)⟩
theorem lw_p148 : lw_okq (⟨"SecureLinesModel", "binde\x72", "(IIJ[III)J"⟩, 206) := ⟨⟨by decide +kernel, by decide +kernel⟩, List.mem_of_getElem? (i := 2304) (by decide +kernel), List.mem_of_getElem? (i := 3557) (by decide +kernel), List.mem_of_getElem? (i := 3558) (by decide +kernel)⟩
theorem lw_p149 : lw_okq (⟨"SecureLinesModel", "takeDigest", "(I)V"⟩, 206) := ⟨⟨by decide +kernel, by decide +kernel⟩, List.mem_of_getElem? (i := 2304) (by decide +kernel), List.mem_of_getElem? (i := 3561) (by decide +kernel), List.mem_of_getElem? (i := 3562) (by decide +kernel)⟩
theorem lw_p150 : lw_okq (⟨"SecureLinesModel", "earlyOf", "(IJ)J"⟩, 206) := ⟨⟨by decide +kernel, by decide +kernel⟩, List.mem_of_getElem? (i := 2304) (by decide +kernel), List.mem_of_getElem? (i := 3565) (by decide +kernel), List.mem_of_getElem? (i := 3566) (by decide +kernel)⟩
theorem lw_p151 : lw_okq (⟨"SecureLinesModel", "keyedLong", "(IJJ)J"⟩, 206) := ⟨⟨by decide +kernel, by decide +kernel⟩, List.mem_of_getElem? (i := 2304) (by decide +kernel), List.mem_of_getElem? (i := 3569) (by decide +kernel), List.mem_of_getElem? (i := 3570) (by decide +kernel)⟩
theorem lw_p152 : lw_okq (⟨"SecureLinesModel", "putMessage", "(II)V"⟩, 206) := ⟨⟨by decide +kernel, by decide +kernel⟩, List.mem_of_getElem? (i := 2304) (by decide +kernel), List.mem_of_getElem? (i := 3573) (by decide +kernel), List.mem_of_getElem? (i := 3574) (by decide +kernel)⟩
theorem lw_p153 : lw_okq (⟨"SecureLinesModel", "feedDigest", "(I[III)V"⟩, 206) := ⟨⟨by decide +kernel, by decide +kernel⟩, List.mem_of_getElem? (i := 2304) (by decide +kernel), List.mem_of_getElem? (i := 3580) (by decide +kernel), List.mem_of_getElem? (i := 3581) (by decide +kernel)⟩
theorem lw_p154 : lw_okq (⟨"SecureLinesModel", "putRecord", "(II[III)V"⟩, 206) := ⟨⟨by decide +kernel, by decide +kernel⟩, List.mem_of_getElem? (i := 2304) (by decide +kernel), List.mem_of_getElem? (i := 3584) (by decide +kernel), List.mem_of_getElem? (i := 3585) (by decide +kernel)⟩
theorem lw_p155 : lw_okq (⟨"SecureLinesModel", "putLine", "(II)V"⟩, 206) := ⟨⟨by decide +kernel, by decide +kernel⟩, List.mem_of_getElem? (i := 2304) (by decide +kernel), List.mem_of_getElem? (i := 3588) (by decide +kernel), List.mem_of_getElem? (i := 3589) (by decide +kernel)⟩
theorem lw_p156 : lw_okq (⟨"SecureLinesModel", "digestNow", "(II)J"⟩, 206) := ⟨⟨by decide +kernel, by decide +kernel⟩, List.mem_of_getElem? (i := 2304) (by decide +kernel), List.mem_of_getElem? (i := 3592) (by decide +kernel), List.mem_of_getElem? (i := 3593) (by decide +kernel)⟩
theorem lw_p157 : lw_okq (⟨"SecureLinesModel", "writeBy", "(IIJ)V"⟩, 206) := ⟨⟨by decide +kernel, by decide +kernel⟩, List.mem_of_getElem? (i := 2304) (by decide +kernel), List.mem_of_getElem? (i := 3596) (by decide +kernel), List.mem_of_getElem? (i := 3597) (by decide +kernel)⟩
theorem lw_p158 : lw_okq (⟨"SecureLinesModel", "isSide", "(II)Z"⟩, 206) := ⟨⟨by decide +kernel, by decide +kernel⟩, List.mem_of_getElem? (i := 2304) (by decide +kernel), List.mem_of_getElem? (i := 3604) (by decide +kernel), List.mem_of_getElem? (i := 3605) (by decide +kernel)⟩
theorem lw_p159 : lw_okq (⟨"SecureLinesModel", "isConnection", "(I)Z"⟩, 206) := ⟨⟨by decide +kernel, by decide +kernel⟩, List.mem_of_getElem? (i := 2304) (by decide +kernel), List.mem_of_getElem? (i := 3608) (by decide +kernel), List.mem_of_getElem? (i := 3609) (by decide +kernel)⟩
def lw_privs_10 : List (MethodName × Nat) := [(⟨"SecureLinesModel", "makeHello", "(IZ)V"⟩, 206), (⟨"SecureLinesModel", "putField", "(II)V"⟩, 206), (⟨"SecureLinesModel", "putOffers", "(III)V"⟩, 206), (⟨"SecureLinesModel", "putShared", "(I)V"⟩, 206), (⟨"SecureLinesModel", "binde\x72", "(IIJ[III)J"⟩, 206), (⟨"SecureLinesModel", "takeDigest", "(I)V"⟩, 206), (⟨"SecureLinesModel", "earlyOf", "(IJ)J"⟩, 206), (⟨"SecureLinesModel", "keyedLong", "(IJJ)J"⟩, 206), (⟨"SecureLinesModel", "putMessage", "(II)V"⟩, 206), (⟨"SecureLinesModel", "feedDigest", "(I[III)V"⟩, 206), (⟨"SecureLinesModel", "putRecord", "(II[III)V"⟩, 206), (⟨"SecureLinesModel", "putLine", "(II)V"⟩, 206), (⟨"SecureLinesModel", "digestNow", "(II)J"⟩, 206), (⟨"SecureLinesModel", "writeBy", "(IIJ)V"⟩, 206), (⟨"SecureLinesModel", "isSide", "(II)Z"⟩, 206), (⟨"SecureLinesModel", "isConnection", "(I)Z"⟩, 206)]
theorem lw_r10 : ∀ q ∈ lw_privs_10, lw_okq q := List.forall_mem_cons.mpr ⟨lw_p144, List.forall_mem_cons.mpr ⟨lw_p145, List.forall_mem_cons.mpr ⟨lw_p146, List.forall_mem_cons.mpr ⟨lw_p147, List.forall_mem_cons.mpr ⟨lw_p148, List.forall_mem_cons.mpr ⟨lw_p149, List.forall_mem_cons.mpr ⟨lw_p150, List.forall_mem_cons.mpr ⟨lw_p151, List.forall_mem_cons.mpr ⟨lw_p152, List.forall_mem_cons.mpr ⟨lw_p153, List.forall_mem_cons.mpr ⟨lw_p154, List.forall_mem_cons.mpr ⟨lw_p155, List.forall_mem_cons.mpr ⟨lw_p156, List.forall_mem_cons.mpr ⟨lw_p157, List.forall_mem_cons.mpr ⟨lw_p158, List.forall_mem_cons.mpr ⟨lw_p159, fun _ h => absurd h List.not_mem_nil⟩⟩⟩⟩⟩⟩⟩⟩⟩⟩⟩⟩⟩⟩⟩⟩
theorem lw_p160 : lw_okq (⟨"SecureLinesModel", "isOwn", "(II)Z"⟩, 206) := ⟨⟨by decide +kernel, by decide +kernel⟩, List.mem_of_getElem? (i := 2304) (by decide +kernel), List.mem_of_getElem? (i := 3612) (by decide +kernel), List.mem_of_getElem? (i := 3613) (by decide +kernel)⟩
theorem lw_p161 : lw_okq (⟨"SecureLinesModel", "receive", "(II)V"⟩, 206) := ⟨⟨by decide +kernel, by decide +kernel⟩, List.mem_of_getElem? (i := 2304) (by decide +kernel), List.mem_of_getElem? (i := 3616) (by decide +kernel), List.mem_of_getElem? (i := 3617) (by decide +kernel)⟩
theorem lw_p162 : lw_okq (⟨"SecureLinesModel", "isLost", "(I)Z"⟩, 206) := ⟨⟨by decide +kernel, by decide +kernel⟩, List.mem_of_getElem? (i := 2304) (by decide +kernel), List.mem_of_getElem? (i := 3620) (by decide +kernel), List.mem_of_getElem? (i := 3621) (by decide +kernel)⟩
theorem lw_p163 : lw_okq (⟨"SecureLinesModel", "fails", "(II)V"⟩, 206) := ⟨⟨by decide +kernel, by decide +kernel⟩, List.mem_of_getElem? (i := 2304) (by decide +kernel), List.mem_of_getElem? (i := 3626) (by decide +kernel), List.mem_of_getElem? (i := 3627) (by decide +kernel)⟩
theorem lw_p164 : lw_okq (⟨"SecureLinesModel", "putAlert", "(II)V"⟩, 206) := ⟨⟨by decide +kernel, by decide +kernel⟩, List.mem_of_getElem? (i := 2304) (by decide +kernel), List.mem_of_getElem? (i := 3630) (by decide +kernel), List.mem_of_getElem? (i := 3631) (by decide +kernel)⟩
theorem lw_p165 : lw_okq (⟨"SecureLinesModel", "takeRecord", "(III)V"⟩, 206) := ⟨⟨by decide +kernel, by decide +kernel⟩, List.mem_of_getElem? (i := 2304) (by decide +kernel), List.mem_of_getElem? (i := 3634) (by decide +kernel), List.mem_of_getElem? (i := 3635) (by decide +kernel)⟩
theorem lw_p166 : lw_okq (⟨"SecureLinesModel", "drops", "(II)Z"⟩, 206) := ⟨⟨by decide +kernel, by decide +kernel⟩, List.mem_of_getElem? (i := 2304) (by decide +kernel), List.mem_of_getElem? (i := 3638) (by decide +kernel), List.mem_of_getElem? (i := 3639) (by decide +kernel)⟩
theorem lw_p167 : lw_okq (⟨"SecureLinesModel", "takeBorne", "(IIII)V"⟩, 206) := ⟨⟨by decide +kernel, by decide +kernel⟩, List.mem_of_getElem? (i := 2304) (by decide +kernel), List.mem_of_getElem? (i := 3642) (by decide +kernel), List.mem_of_getElem? (i := 3643) (by decide +kernel)⟩
theorem lw_p168 : lw_okq (⟨"SecureLinesModel", "takeMessages", "(I)V"⟩, 206) := ⟨⟨by decide +kernel, by decide +kernel⟩, List.mem_of_getElem? (i := 2304) (by decide +kernel), List.mem_of_getElem? (i := 3646) (by decide +kernel), List.mem_of_getElem? (i := 3647) (by decide +kernel)⟩
theorem lw_p169 : lw_okq (⟨"SecureLinesModel", "takeMessage", "(IIIZ)V"⟩, 206) := ⟨⟨by decide +kernel, by decide +kernel⟩, List.mem_of_getElem? (i := 2304) (by decide +kernel), List.mem_of_getElem? (i := 3650) (by decide +kernel), List.mem_of_getElem? (i := 3651) (by decide +kernel)⟩
theorem lw_p170 : lw_okq (⟨"SecureLinesModel", "may", "(II)Z"⟩, 206) := ⟨⟨by decide +kernel, by decide +kernel⟩, List.mem_of_getElem? (i := 2304) (by decide +kernel), List.mem_of_getElem? (i := 3654) (by decide +kernel), List.mem_of_getElem? (i := 3655) (by decide +kernel)⟩
theorem lw_p171 : lw_okq (⟨"SecureLinesModel", "isClient", "(I)Z"⟩, 206) := ⟨⟨by decide +kernel, by decide +kernel⟩, List.mem_of_getElem? (i := 2304) (by decide +kernel), List.mem_of_getElem? (i := 3658) (by decide +kernel), List.mem_of_getElem? (i := 3659) (by decide +kernel)⟩
theorem lw_p172 : lw_okq (⟨"SecureLinesModel", "clientFault", "(IIII)I"⟩, 206) := ⟨⟨by decide +kernel, by decide +kernel⟩, List.mem_of_getElem? (i := 2304) (by decide +kernel), List.mem_of_getElem? (i := 3662) (by decide +kernel), List.mem_of_getElem? (i := 3663) (by decide +kernel)⟩
theorem lw_p173 : lw_okq (⟨"SecureLinesModel", "fieldsFault", "(III)I"⟩, 206) := ⟨⟨by decide +kernel, by decide +kernel⟩, List.mem_of_getElem? (i := 2304) (by decide +kernel), List.mem_of_getElem? (i := 3666) (by decide +kernel), List.mem_of_getElem? (i := 3667) (by decide +kernel)⟩
theorem lw_p174 : lw_okq (⟨"SecureLinesModel", "isField", "(IIII)Z"⟩, 206) := ⟨⟨by decide +kernel, by decide +kernel⟩, List.mem_of_getElem? (i := 2304) (by decide +kernel), List.mem_of_getElem? (i := 3673) (by decide +kernel), List.mem_of_getElem? (i := 3674) (by decide +kernel)⟩
theorem lw_p175 : lw_okq (⟨"SecureLinesModel", "isShared", "(II)Z"⟩, 206) := ⟨⟨by decide +kernel, by decide +kernel⟩, List.mem_of_getElem? (i := 2304) (by decide +kernel), List.mem_of_getElem? (i := 3677) (by decide +kernel), List.mem_of_getElem? (i := 3678) (by decide +kernel)⟩
def lw_privs_11 : List (MethodName × Nat) := [(⟨"SecureLinesModel", "isOwn", "(II)Z"⟩, 206), (⟨"SecureLinesModel", "receive", "(II)V"⟩, 206), (⟨"SecureLinesModel", "isLost", "(I)Z"⟩, 206), (⟨"SecureLinesModel", "fails", "(II)V"⟩, 206), (⟨"SecureLinesModel", "putAlert", "(II)V"⟩, 206), (⟨"SecureLinesModel", "takeRecord", "(III)V"⟩, 206), (⟨"SecureLinesModel", "drops", "(II)Z"⟩, 206), (⟨"SecureLinesModel", "takeBorne", "(IIII)V"⟩, 206), (⟨"SecureLinesModel", "takeMessages", "(I)V"⟩, 206), (⟨"SecureLinesModel", "takeMessage", "(IIIZ)V"⟩, 206), (⟨"SecureLinesModel", "may", "(II)Z"⟩, 206), (⟨"SecureLinesModel", "isClient", "(I)Z"⟩, 206), (⟨"SecureLinesModel", "clientFault", "(IIII)I"⟩, 206), (⟨"SecureLinesModel", "fieldsFault", "(III)I"⟩, 206), (⟨"SecureLinesModel", "isField", "(IIII)Z"⟩, 206), (⟨"SecureLinesModel", "isShared", "(II)Z"⟩, 206)]
theorem lw_r11 : ∀ q ∈ lw_privs_11, lw_okq q := List.forall_mem_cons.mpr ⟨lw_p160, List.forall_mem_cons.mpr ⟨lw_p161, List.forall_mem_cons.mpr ⟨lw_p162, List.forall_mem_cons.mpr ⟨lw_p163, List.forall_mem_cons.mpr ⟨lw_p164, List.forall_mem_cons.mpr ⟨lw_p165, List.forall_mem_cons.mpr ⟨lw_p166, List.forall_mem_cons.mpr ⟨lw_p167, List.forall_mem_cons.mpr ⟨lw_p168, List.forall_mem_cons.mpr ⟨lw_p169, List.forall_mem_cons.mpr ⟨lw_p170, List.forall_mem_cons.mpr ⟨lw_p171, List.forall_mem_cons.mpr ⟨lw_p172, List.forall_mem_cons.mpr ⟨lw_p173, List.forall_mem_cons.mpr ⟨lw_p174, List.forall_mem_cons.mpr ⟨lw_p175, fun _ h => absurd h List.not_mem_nil⟩⟩⟩⟩⟩⟩⟩⟩⟩⟩⟩⟩⟩⟩⟩⟩
theorem lw_p176 : lw_okq (⟨"SecureLinesModel", "answerFault", "(III)I"⟩, 206) := ⟨⟨by decide +kernel, by decide +kernel⟩, List.mem_of_getElem? (i := 2304) (by decide +kernel), List.mem_of_getElem? (i := 3681) (by decide +kernel), List.mem_of_getElem? (i := 3682) (by decide +kernel)⟩
theorem lw_p177 : lw_okq (⟨"SecureLinesModel", "doesOffe\x72", "(III)Z"⟩, 206) := ⟨⟨by decide +kernel, by decide +kernel⟩, List.mem_of_getElem? (i := 2304) (by decide +kernel), List.mem_of_getElem? (i := 3685) (by decide +kernel), List.mem_of_getElem? (i := 3686) (by decide +kernel)⟩
theorem lw_p178 : lw_okq (⟨"SecureLinesModel", "hasField", "(I)Z"⟩, 206) := ⟨⟨by decide +kernel, by decide +kernel⟩, List.mem_of_getElem? (i := 2304) (by decide +kernel), List.mem_of_getElem? (i := 3689) (by decide +kernel), List.mem_of_getElem? (i := 3690) (by decide +kernel)⟩
theorem lw_p179 : lw_okq (⟨"SecureLinesModel", "shareGroupTold", "()I"⟩, 206) := ⟨⟨by decide +kernel, by decide +kernel⟩, List.mem_of_getElem? (i := 2304) (by decide +kernel), List.mem_of_getElem? (i := 3693) (by decide +kernel), List.mem_of_getElem? (i := 3694) (by decide +kernel)⟩
theorem lw_p180 : lw_okq (⟨"SecureLinesModel", "sharePoint", "()I"⟩, 206) := ⟨⟨by decide +kernel, by decide +kernel⟩, List.mem_of_getElem? (i := 2304) (by decide +kernel), List.mem_of_getElem? (i := 3697) (by decide +kernel), List.mem_of_getElem? (i := 3698) (by decide +kernel)⟩
theorem lw_p181 : lw_okq (⟨"SecureLinesModel", "chainFault", "(III)I"⟩, 206) := ⟨⟨by decide +kernel, by decide +kernel⟩, List.mem_of_getElem? (i := 2304) (by decide +kernel), List.mem_of_getElem? (i := 3701) (by decide +kernel), List.mem_of_getElem? (i := 3702) (by decide +kernel)⟩
theorem lw_p182 : lw_okq (⟨"SecureLinesModel", "wayFault", "(IIZZ)I"⟩, 206) := ⟨⟨by decide +kernel, by decide +kernel⟩, List.mem_of_getElem? (i := 2304) (by decide +kernel), List.mem_of_getElem? (i := 3705) (by decide +kernel), List.mem_of_getElem? (i := 3706) (by decide +kernel)⟩
theorem lw_p183 : lw_okq (⟨"SecureLinesModel", "areOne", "(II)Z"⟩, 206) := ⟨⟨by decide +kernel, by decide +kernel⟩, List.mem_of_getElem? (i := 2304) (by decide +kernel), List.mem_of_getElem? (i := 3709) (by decide +kernel), List.mem_of_getElem? (i := 3710) (by decide +kernel)⟩
theorem lw_p184 : lw_okq (⟨"SecureLinesModel", "doesMeet", "(III)Z"⟩, 206) := ⟨⟨by decide +kernel, by decide +kernel⟩, List.mem_of_getElem? (i := 2304) (by decide +kernel), List.mem_of_getElem? (i := 3713) (by decide +kernel), List.mem_of_getElem? (i := 3714) (by decide +kernel)⟩
theorem lw_p185 : lw_okq (⟨"SecureLinesModel", "proofFault", "(III)I"⟩, 206) := ⟨⟨by decide +kernel, by decide +kernel⟩, List.mem_of_getElem? (i := 2304) (by decide +kernel), List.mem_of_getElem? (i := 3717) (by decide +kernel), List.mem_of_getElem? (i := 3718) (by decide +kernel)⟩
theorem lw_p186 : lw_okq (⟨"SecureLinesModel", "proofText", "(IZ)V"⟩, 206) := ⟨⟨by decide +kernel, by decide +kernel⟩, List.mem_of_getElem? (i := 2304) (by decide +kernel), List.mem_of_getElem? (i := 3721) (by decide +kernel), List.mem_of_getElem? (i := 3722) (by decide +kernel)⟩
theorem lw_p187 : lw_okq (⟨"SecureLinesModel", "hashAt", "(I)I"⟩, 206) := ⟨⟨by decide +kernel, by decide +kernel⟩, List.mem_of_getElem? (i := 2304) (by decide +kernel), List.mem_of_getElem? (i := 3725) (by decide +kernel), List.mem_of_getElem? (i := 3726) (by decide +kernel)⟩
theorem lw_p188 : lw_okq (⟨"SecureLinesModel", "endOf4", "(IZ)J"⟩, 206) := ⟨⟨by decide +kernel, by decide +kernel⟩, List.mem_of_getElem? (i := 2304) (by decide +kernel), List.mem_of_getElem? (i := 3729) (by decide +kernel), List.mem_of_getElem? (i := 3730) (by decide +kernel)⟩
theorem lw_p189 : lw_okq (⟨"SecureLinesModel", "serverFault", "(IIII)I"⟩, 206) := ⟨⟨by decide +kernel, by decide +kernel⟩, List.mem_of_getElem? (i := 2304) (by decide +kernel), List.mem_of_getElem? (i := 3733) (by decide +kernel), List.mem_of_getElem? (i := 3734) (by decide +kernel)⟩
theorem lw_p190 : lw_okq (⟨"SecureLinesModel", "helloFault", "(III)I"⟩, 206) := ⟨⟨by decide +kernel, by decide +kernel⟩, List.mem_of_getElem? (i := 2304) (by decide +kernel), List.mem_of_getElem? (i := 3737) (by decide +kernel), List.mem_of_getElem? (i := 3738) (by decide +kernel)⟩
theorem lw_p191 : lw_okq (⟨"SecureLinesModel", "isInField", "(II)Z"⟩, 206) := ⟨⟨by decide +kernel, by decide +kernel⟩, List.mem_of_getElem? (i := 2304) (by decide +kernel), List.mem_of_getElem? (i := 3741) (by decide +kernel), List.mem_of_getElem? (i := 3742) (by decide +kernel)⟩
def lw_privs_12 : List (MethodName × Nat) := [(⟨"SecureLinesModel", "answerFault", "(III)I"⟩, 206), (⟨"SecureLinesModel", "doesOffe\x72", "(III)Z"⟩, 206), (⟨"SecureLinesModel", "hasField", "(I)Z"⟩, 206), (⟨"SecureLinesModel", "shareGroupTold", "()I"⟩, 206), (⟨"SecureLinesModel", "sharePoint", "()I"⟩, 206), (⟨"SecureLinesModel", "chainFault", "(III)I"⟩, 206), (⟨"SecureLinesModel", "wayFault", "(IIZZ)I"⟩, 206), (⟨"SecureLinesModel", "areOne", "(II)Z"⟩, 206), (⟨"SecureLinesModel", "doesMeet", "(III)Z"⟩, 206), (⟨"SecureLinesModel", "proofFault", "(III)I"⟩, 206), (⟨"SecureLinesModel", "proofText", "(IZ)V"⟩, 206), (⟨"SecureLinesModel", "hashAt", "(I)I"⟩, 206), (⟨"SecureLinesModel", "endOf4", "(IZ)J"⟩, 206), (⟨"SecureLinesModel", "serverFault", "(IIII)I"⟩, 206), (⟨"SecureLinesModel", "helloFault", "(III)I"⟩, 206), (⟨"SecureLinesModel", "isInField", "(II)Z"⟩, 206)]
theorem lw_r12 : ∀ q ∈ lw_privs_12, lw_okq q := List.forall_mem_cons.mpr ⟨lw_p176, List.forall_mem_cons.mpr ⟨lw_p177, List.forall_mem_cons.mpr ⟨lw_p178, List.forall_mem_cons.mpr ⟨lw_p179, List.forall_mem_cons.mpr ⟨lw_p180, List.forall_mem_cons.mpr ⟨lw_p181, List.forall_mem_cons.mpr ⟨lw_p182, List.forall_mem_cons.mpr ⟨lw_p183, List.forall_mem_cons.mpr ⟨lw_p184, List.forall_mem_cons.mpr ⟨lw_p185, List.forall_mem_cons.mpr ⟨lw_p186, List.forall_mem_cons.mpr ⟨lw_p187, List.forall_mem_cons.mpr ⟨lw_p188, List.forall_mem_cons.mpr ⟨lw_p189, List.forall_mem_cons.mpr ⟨lw_p190, List.forall_mem_cons.mpr ⟨lw_p191, fun _ h => absurd h List.not_mem_nil⟩⟩⟩⟩⟩⟩⟩⟩⟩⟩⟩⟩⟩⟩⟩⟩
theorem lw_p192 : lw_okq (⟨"SecureLinesModel", "againFault", "(II)I"⟩, 206) := ⟨⟨by decide +kernel, by decide +kernel⟩, List.mem_of_getElem? (i := 2304) (by decide +kernel), List.mem_of_getElem? (i := 3745) (by decide +kernel), List.mem_of_getElem? (i := 3746) (by decide +kernel)⟩
theorem lw_p193 : lw_okq (⟨"SecureLinesModel", "isAsFirst", "(II)Z"⟩, 206) := ⟨⟨by decide +kernel, by decide +kernel⟩, List.mem_of_getElem? (i := 2304) (by decide +kernel), List.mem_of_getElem? (i := 3749) (by decide +kernel), List.mem_of_getElem? (i := 3750) (by decide +kernel)⟩
theorem lw_p194 : lw_okq (⟨"SecureLinesModel", "firstOf", "(III)I"⟩, 206) := ⟨⟨by decide +kernel, by decide +kernel⟩, List.mem_of_getElem? (i := 2304) (by decide +kernel), List.mem_of_getElem? (i := 3753) (by decide +kernel), List.mem_of_getElem? (i := 3754) (by decide +kernel)⟩
theorem lw_p195 : lw_okq (⟨"SecureLinesModel", "know", "(I)V"⟩, 206) := ⟨⟨by decide +kernel, by decide +kernel⟩, List.mem_of_getElem? (i := 2304) (by decide +kernel), List.mem_of_getElem? (i := 3757) (by decide +kernel), List.mem_of_getElem? (i := 3758) (by decide +kernel)⟩
theorem lw_p196 : lw_okq (⟨"SecureLinesModel", "isBound", "(II)Z"⟩, 206) := ⟨⟨by decide +kernel, by decide +kernel⟩, List.mem_of_getElem? (i := 2304) (by decide +kernel), List.mem_of_getElem? (i := 3761) (by decide +kernel), List.mem_of_getElem? (i := 3762) (by decide +kernel)⟩
theorem lw_p197 : lw_okq (⟨"SecureLinesModel", "knownSecret", "()J"⟩, 206) := ⟨⟨by decide +kernel, by decide +kernel⟩, List.mem_of_getElem? (i := 2304) (by decide +kernel), List.mem_of_getElem? (i := 3765) (by decide +kernel), List.mem_of_getElem? (i := 3766) (by decide +kernel)⟩
theorem lw_p198 : lw_okq (⟨"SecureLinesModel", "turnsReading", "(II)Z"⟩, 206) := ⟨⟨by decide +kernel, by decide +kernel⟩, List.mem_of_getElem? (i := 2304) (by decide +kernel), List.mem_of_getElem? (i := 3769) (by decide +kernel), List.mem_of_getElem? (i := 3770) (by decide +kernel)⟩
theorem lw_p199 : lw_okq (⟨"SecureLinesModel", "clientDoes", "(IIII)V"⟩, 206) := ⟨⟨by decide +kernel, by decide +kernel⟩, List.mem_of_getElem? (i := 2304) (by decide +kernel), List.mem_of_getElem? (i := 3773) (by decide +kernel), List.mem_of_getElem? (i := 3774) (by decide +kernel)⟩
theorem lw_p200 : lw_okq (⟨"SecureLinesModel", "feedPart", "(III)V"⟩, 206) := ⟨⟨by decide +kernel, by decide +kernel⟩, List.mem_of_getElem? (i := 2304) (by decide +kernel), List.mem_of_getElem? (i := 3777) (by decide +kernel), List.mem_of_getElem? (i := 3778) (by decide +kernel)⟩
theorem lw_p201 : lw_okq (⟨"SecureLinesModel", "handKeys", "(IJJ)V"⟩, 206) := ⟨⟨by decide +kernel, by decide +kernel⟩, List.mem_of_getElem? (i := 2304) (by decide +kernel), List.mem_of_getElem? (i := 3781) (by decide +kernel), List.mem_of_getElem? (i := 3782) (by decide +kernel)⟩
theorem lw_p202 : lw_okq (⟨"SecureLinesModel", "readBy", "(IJ)V"⟩, 206) := ⟨⟨by decide +kernel, by decide +kernel⟩, List.mem_of_getElem? (i := 2304) (by decide +kernel), List.mem_of_getElem? (i := 3785) (by decide +kernel), List.mem_of_getElem? (i := 3786) (by decide +kernel)⟩
theorem lw_p203 : lw_okq (⟨"SecureLinesModel", "retried", "(IIIII)V"⟩, 206) := ⟨⟨by decide +kernel, by decide +kernel⟩, List.mem_of_getElem? (i := 2304) (by decide +kernel), List.mem_of_getElem? (i := 3789) (by decide +kernel), List.mem_of_getElem? (i := 3790) (by decide +kernel)⟩
theorem lw_p204 : lw_okq (⟨"SecureLinesModel", "foldDigest", "(I)V"⟩, 206) := ⟨⟨by decide +kernel, by decide +kernel⟩, List.mem_of_getElem? (i := 2304) (by decide +kernel), List.mem_of_getElem? (i := 3793) (by decide +kernel), List.mem_of_getElem? (i := 3794) (by decide +kernel)⟩
theorem lw_p205 : lw_okq (⟨"SecureLinesModel", "finishClient", "(I)V"⟩, 206) := ⟨⟨by decide +kernel, by decide +kernel⟩, List.mem_of_getElem? (i := 2304) (by decide +kernel), List.mem_of_getElem? (i := 3797) (by decide +kernel), List.mem_of_getElem? (i := 3798) (by decide +kernel)⟩
theorem lw_p206 : lw_okq (⟨"SecureLinesModel", "masterKeys", "(I)V"⟩, 206) := ⟨⟨by decide +kernel, by decide +kernel⟩, List.mem_of_getElem? (i := 2304) (by decide +kernel), List.mem_of_getElem? (i := 3801) (by decide +kernel), List.mem_of_getElem? (i := 3802) (by decide +kernel)⟩
theorem lw_p207 : lw_okq (⟨"SecureLinesModel", "spokenKey", "(IZ)J"⟩, 206) := ⟨⟨by decide +kernel, by decide +kernel⟩, List.mem_of_getElem? (i := 2304) (by decide +kernel), List.mem_of_getElem? (i := 3805) (by decide +kernel), List.mem_of_getElem? (i := 3806) (by decide +kernel)⟩
def lw_privs_13 : List (MethodName × Nat) := [(⟨"SecureLinesModel", "againFault", "(II)I"⟩, 206), (⟨"SecureLinesModel", "isAsFirst", "(II)Z"⟩, 206), (⟨"SecureLinesModel", "firstOf", "(III)I"⟩, 206), (⟨"SecureLinesModel", "know", "(I)V"⟩, 206), (⟨"SecureLinesModel", "isBound", "(II)Z"⟩, 206), (⟨"SecureLinesModel", "knownSecret", "()J"⟩, 206), (⟨"SecureLinesModel", "turnsReading", "(II)Z"⟩, 206), (⟨"SecureLinesModel", "clientDoes", "(IIII)V"⟩, 206), (⟨"SecureLinesModel", "feedPart", "(III)V"⟩, 206), (⟨"SecureLinesModel", "handKeys", "(IJJ)V"⟩, 206), (⟨"SecureLinesModel", "readBy", "(IJ)V"⟩, 206), (⟨"SecureLinesModel", "retried", "(IIIII)V"⟩, 206), (⟨"SecureLinesModel", "foldDigest", "(I)V"⟩, 206), (⟨"SecureLinesModel", "finishClient", "(I)V"⟩, 206), (⟨"SecureLinesModel", "masterKeys", "(I)V"⟩, 206), (⟨"SecureLinesModel", "spokenKey", "(IZ)J"⟩, 206)]
theorem lw_r13 : ∀ q ∈ lw_privs_13, lw_okq q := List.forall_mem_cons.mpr ⟨lw_p192, List.forall_mem_cons.mpr ⟨lw_p193, List.forall_mem_cons.mpr ⟨lw_p194, List.forall_mem_cons.mpr ⟨lw_p195, List.forall_mem_cons.mpr ⟨lw_p196, List.forall_mem_cons.mpr ⟨lw_p197, List.forall_mem_cons.mpr ⟨lw_p198, List.forall_mem_cons.mpr ⟨lw_p199, List.forall_mem_cons.mpr ⟨lw_p200, List.forall_mem_cons.mpr ⟨lw_p201, List.forall_mem_cons.mpr ⟨lw_p202, List.forall_mem_cons.mpr ⟨lw_p203, List.forall_mem_cons.mpr ⟨lw_p204, List.forall_mem_cons.mpr ⟨lw_p205, List.forall_mem_cons.mpr ⟨lw_p206, List.forall_mem_cons.mpr ⟨lw_p207, fun _ h => absurd h List.not_mem_nil⟩⟩⟩⟩⟩⟩⟩⟩⟩⟩⟩⟩⟩⟩⟩⟩
theorem lw_p208 : lw_okq (⟨"SecureLinesModel", "schemeOf", "(II)I"⟩, 206) := ⟨⟨by decide +kernel, by decide +kernel⟩, List.mem_of_getElem? (i := 2304) (by decide +kernel), List.mem_of_getElem? (i := 3809) (by decide +kernel), List.mem_of_getElem? (i := 3810) (by decide +kernel)⟩
theorem lw_p209 : lw_okq (⟨"SecureLinesModel", "putChain", "(III)V"⟩, 206) := ⟨⟨by decide +kernel, by decide +kernel⟩, List.mem_of_getElem? (i := 2304) (by decide +kernel), List.mem_of_getElem? (i := 3813) (by decide +kernel), List.mem_of_getElem? (i := 3814) (by decide +kernel)⟩
theorem lw_p210 : lw_okq (⟨"SecureLinesModel", "putProof", "(IIIZ)V"⟩, 206) := ⟨⟨by decide +kernel, by decide +kernel⟩, List.mem_of_getElem? (i := 2304) (by decide +kernel), List.mem_of_getElem? (i := 3817) (by decide +kernel), List.mem_of_getElem? (i := 3818) (by decide +kernel)⟩
theorem lw_p211 : lw_okq (⟨"SecureLinesModel", "putEnd", "(IZ)V"⟩, 206) := ⟨⟨by decide +kernel, by decide +kernel⟩, List.mem_of_getElem? (i := 2304) (by decide +kernel), List.mem_of_getElem? (i := 3821) (by decide +kernel), List.mem_of_getElem? (i := 3822) (by decide +kernel)⟩
theorem lw_p212 : lw_okq (⟨"SecureLinesModel", "keepTicket", "(III)V"⟩, 206) := ⟨⟨by decide +kernel, by decide +kernel⟩, List.mem_of_getElem? (i := 2304) (by decide +kernel), List.mem_of_getElem? (i := 3825) (by decide +kernel), List.mem_of_getElem? (i := 3826) (by decide +kernel)⟩
theorem lw_p213 : lw_okq (⟨"SecureLinesModel", "turnKeys", "(II)V"⟩, 206) := ⟨⟨by decide +kernel, by decide +kernel⟩, List.mem_of_getElem? (i := 2304) (by decide +kernel), List.mem_of_getElem? (i := 3829) (by decide +kernel), List.mem_of_getElem? (i := 3830) (by decide +kernel)⟩
theorem lw_p214 : lw_okq (⟨"SecureLinesModel", "turned", "(IJ)J"⟩, 206) := ⟨⟨by decide +kernel, by decide +kernel⟩, List.mem_of_getElem? (i := 2304) (by decide +kernel), List.mem_of_getElem? (i := 3833) (by decide +kernel), List.mem_of_getElem? (i := 3834) (by decide +kernel)⟩
theorem lw_p215 : lw_okq (⟨"SecureLinesModel", "putTurn", "(II)V"⟩, 206) := ⟨⟨by decide +kernel, by decide +kernel⟩, List.mem_of_getElem? (i := 2304) (by decide +kernel), List.mem_of_getElem? (i := 3837) (by decide +kernel), List.mem_of_getElem? (i := 3838) (by decide +kernel)⟩
theorem lw_p216 : lw_okq (⟨"SecureLinesModel", "serverDoes", "(IIII)V"⟩, 206) := ⟨⟨by decide +kernel, by decide +kernel⟩, List.mem_of_getElem? (i := 2304) (by decide +kernel), List.mem_of_getElem? (i := 3841) (by decide +kernel), List.mem_of_getElem? (i := 3842) (by decide +kernel)⟩
theorem lw_p217 : lw_okq (⟨"SecureLinesModel", "putRetry", "(III)V"⟩, 206) := ⟨⟨by decide +kernel, by decide +kernel⟩, List.mem_of_getElem? (i := 2304) (by decide +kernel), List.mem_of_getElem? (i := 3845) (by decide +kernel), List.mem_of_getElem? (i := 3846) (by decide +kernel)⟩
theorem lw_p218 : lw_okq (⟨"SecureLinesModel", "putAnswe\x72", "(III)V"⟩, 206) := ⟨⟨by decide +kernel, by decide +kernel⟩, List.mem_of_getElem? (i := 2304) (by decide +kernel), List.mem_of_getElem? (i := 3849) (by decide +kernel), List.mem_of_getElem? (i := 3850) (by decide +kernel)⟩
theorem lw_p219 : lw_okq (⟨"SecureLinesModel", "takesEarly", "(I)Z"⟩, 206) := ⟨⟨by decide +kernel, by decide +kernel⟩, List.mem_of_getElem? (i := 2304) (by decide +kernel), List.mem_of_getElem? (i := 3853) (by decide +kernel), List.mem_of_getElem? (i := 3854) (by decide +kernel)⟩
theorem lw_p220 : lw_okq (⟨"SecureLinesModel", "stapleFo\x72", "(I)I"⟩, 206) := ⟨⟨by decide +kernel, by decide +kernel⟩, List.mem_of_getElem? (i := 2304) (by decide +kernel), List.mem_of_getElem? (i := 3857) (by decide +kernel), List.mem_of_getElem? (i := 3858) (by decide +kernel)⟩
theorem lw_p221 : lw_okq (⟨"SecureLinesModel", "finishServe\x72", "(I)V"⟩, 206) := ⟨⟨by decide +kernel, by decide +kernel⟩, List.mem_of_getElem? (i := 2304) (by decide +kernel), List.mem_of_getElem? (i := 3861) (by decide +kernel), List.mem_of_getElem? (i := 3862) (by decide +kernel)⟩
theorem lw_p222 : lw_okq (⟨"SecureLinesModel", "book", "(IJJI)V"⟩, 206) := ⟨⟨by decide +kernel, by decide +kernel⟩, List.mem_of_getElem? (i := 2304) (by decide +kernel), List.mem_of_getElem? (i := 3865) (by decide +kernel), List.mem_of_getElem? (i := 3866) (by decide +kernel)⟩
theorem lw_p223 : lw_okq (⟨"SecureLinesModel", "isOpen", "(I)Z"⟩, 206) := ⟨⟨by decide +kernel, by decide +kernel⟩, List.mem_of_getElem? (i := 2304) (by decide +kernel), List.mem_of_getElem? (i := 3886) (by decide +kernel), List.mem_of_getElem? (i := 3887) (by decide +kernel)⟩
def lw_privs_14 : List (MethodName × Nat) := [(⟨"SecureLinesModel", "schemeOf", "(II)I"⟩, 206), (⟨"SecureLinesModel", "putChain", "(III)V"⟩, 206), (⟨"SecureLinesModel", "putProof", "(IIIZ)V"⟩, 206), (⟨"SecureLinesModel", "putEnd", "(IZ)V"⟩, 206), (⟨"SecureLinesModel", "keepTicket", "(III)V"⟩, 206), (⟨"SecureLinesModel", "turnKeys", "(II)V"⟩, 206), (⟨"SecureLinesModel", "turned", "(IJ)J"⟩, 206), (⟨"SecureLinesModel", "putTurn", "(II)V"⟩, 206), (⟨"SecureLinesModel", "serverDoes", "(IIII)V"⟩, 206), (⟨"SecureLinesModel", "putRetry", "(III)V"⟩, 206), (⟨"SecureLinesModel", "putAnswe\x72", "(III)V"⟩, 206), (⟨"SecureLinesModel", "takesEarly", "(I)Z"⟩, 206), (⟨"SecureLinesModel", "stapleFo\x72", "(I)I"⟩, 206), (⟨"SecureLinesModel", "finishServe\x72", "(I)V"⟩, 206), (⟨"SecureLinesModel", "book", "(IJJI)V"⟩, 206), (⟨"SecureLinesModel", "isOpen", "(I)Z"⟩, 206)]
theorem lw_r14 : ∀ q ∈ lw_privs_14, lw_okq q := List.forall_mem_cons.mpr ⟨lw_p208, List.forall_mem_cons.mpr ⟨lw_p209, List.forall_mem_cons.mpr ⟨lw_p210, List.forall_mem_cons.mpr ⟨lw_p211, List.forall_mem_cons.mpr ⟨lw_p212, List.forall_mem_cons.mpr ⟨lw_p213, List.forall_mem_cons.mpr ⟨lw_p214, List.forall_mem_cons.mpr ⟨lw_p215, List.forall_mem_cons.mpr ⟨lw_p216, List.forall_mem_cons.mpr ⟨lw_p217, List.forall_mem_cons.mpr ⟨lw_p218, List.forall_mem_cons.mpr ⟨lw_p219, List.forall_mem_cons.mpr ⟨lw_p220, List.forall_mem_cons.mpr ⟨lw_p221, List.forall_mem_cons.mpr ⟨lw_p222, List.forall_mem_cons.mpr ⟨lw_p223, fun _ h => absurd h List.not_mem_nil⟩⟩⟩⟩⟩⟩⟩⟩⟩⟩⟩⟩⟩⟩⟩⟩
def lw_privs : List (MethodName × Nat) := lw_privs_1 ++ (lw_privs_2 ++ (lw_privs_3 ++ (lw_privs_4 ++ (lw_privs_5 ++ (lw_privs_6 ++ (lw_privs_7 ++ (lw_privs_8 ++ (lw_privs_9 ++ (lw_privs_10 ++ (lw_privs_11 ++ (lw_privs_12 ++ (lw_privs_13 ++ (lw_privs_14)))))))))))))
theorem lw_privs_ok : ∀ q ∈ lw_privs, lw_okq q := by
  show ∀ q ∈ lw_privs_1 ++ (lw_privs_2 ++ (lw_privs_3 ++ (lw_privs_4 ++ (lw_privs_5 ++ (lw_privs_6 ++ (lw_privs_7 ++ (lw_privs_8 ++ (lw_privs_9 ++ (lw_privs_10 ++ (lw_privs_11 ++ (lw_privs_12 ++ (lw_privs_13 ++ (lw_privs_14))))))))))))), lw_okq q
  exact List.forall_mem_append.mpr ⟨lw_r1, List.forall_mem_append.mpr ⟨lw_r2, List.forall_mem_append.mpr ⟨lw_r3, List.forall_mem_append.mpr ⟨lw_r4, List.forall_mem_append.mpr ⟨lw_r5, List.forall_mem_append.mpr ⟨lw_r6, List.forall_mem_append.mpr ⟨lw_r7, List.forall_mem_append.mpr ⟨lw_r8, List.forall_mem_append.mpr ⟨lw_r9, List.forall_mem_append.mpr ⟨lw_r10, List.forall_mem_append.mpr ⟨lw_r11, List.forall_mem_append.mpr ⟨lw_r12, List.forall_mem_append.mpr ⟨lw_r13, lw_r14⟩⟩⟩⟩⟩⟩⟩⟩⟩⟩⟩⟩⟩
end
section
def aX : List am_xE := [("SecureLines$Serve\x72", ⟨"SecureLines$Side", "headFault", "()I"⟩, ⟨"SecureLines$Side", "note", "(I[II)V"⟩, ⟨"SecureLines$Side", "note", "(I[II)V"⟩), ("SecureLines$Client", ⟨"SecureLines$Side", "headFault", "()I"⟩, ⟨"SecureLines$Client", "begin", "(I)LSecureLines$Row;"⟩, ⟨"SecureLines$Side", "begin", "(I)LSecureLines$Row;"⟩), ("SecureLines$Serve\x72", ⟨"SecureLines$Side", "takeRecord", "()I"⟩, ⟨"SecureLines$Side", "note", "(I[II)V"⟩, ⟨"SecureLines$Side", "note", "(I[II)V"⟩), ("SecureLines$Client", ⟨"SecureLines$Side", "takeRecord", "()I"⟩, ⟨"SecureLines$Client", "begin", "(I)LSecureLines$Row;"⟩, ⟨"SecureLines$Side", "begin", "(I)LSecureLines$Row;"⟩), ("SecureLines$Serve\x72", ⟨"SecureLines$Side", "opens", "()Z"⟩, ⟨"SecureLines$Side", "note", "(I[II)V"⟩, ⟨"SecureLines$Side", "note", "(I[II)V"⟩), ("SecureLines$Client", ⟨"SecureLines$Side", "opens", "()Z"⟩, ⟨"SecureLines$Client", "begin", "(I)LSecureLines$Row;"⟩, ⟨"SecureLines$Side", "begin", "(I)LSecureLines$Row;"⟩), ("SecureLines$Serve\x72", ⟨"SecureLines$Side", "hearAll", "(I)I"⟩, ⟨"SecureLines$Side", "note", "(I[II)V"⟩, ⟨"SecureLines$Side", "note", "(I[II)V"⟩), ("SecureLines$Client", ⟨"SecureLines$Side", "hearAll", "(I)I"⟩, ⟨"SecureLines$Client", "begin", "(I)LSecureLines$Row;"⟩, ⟨"SecureLines$Side", "begin", "(I)LSecureLines$Row;"⟩), ("SecureLines$Serve\x72", ⟨"SecureLines$Side", "takeAlert", "(I)I"⟩, ⟨"SecureLines$Side", "note", "(I[II)V"⟩, ⟨"SecureLines$Side", "note", "(I[II)V"⟩), ("SecureLines$Client", ⟨"SecureLines$Side", "takeAlert", "(I)I"⟩, ⟨"SecureLines$Client", "begin", "(I)LSecureLines$Row;"⟩, ⟨"SecureLines$Side", "begin", "(I)LSecureLines$Row;"⟩), ("SecureLines$Serve\x72", ⟨"SecureLines$Side", "firstMessage", "()I"⟩, ⟨"SecureLines$Side", "note", "(I[II)V"⟩, ⟨"SecureLines$Side", "note", "(I[II)V"⟩), ("SecureLines$Client", ⟨"SecureLines$Side", "firstMessage", "()I"⟩, ⟨"SecureLines$Client", "begin", "(I)LSecureLines$Row;"⟩, ⟨"SecureLines$Side", "begin", "(I)LSecureLines$Row;"⟩), ("SecureLines$Serve\x72", ⟨"SecureLines$Side", "proven", "(IJ)LSecureLines$Row;"⟩, ⟨"SecureLines$Side", "note", "(I[II)V"⟩, ⟨"SecureLines$Side", "note", "(I[II)V"⟩), ("SecureLines$Client", ⟨"SecureLines$Side", "proven", "(IJ)LSecureLines$Row;"⟩, ⟨"SecureLines$Client", "begin", "(I)LSecureLines$Row;"⟩, ⟨"SecureLines$Side", "begin", "(I)LSecureLines$Row;"⟩), ("SecureLines$Serve\x72", ⟨"SecureLines$Side", "endBy", "(JJ)J"⟩, ⟨"SecureLines$Side", "note", "(I[II)V"⟩, ⟨"SecureLines$Side", "note", "(I[II)V"⟩), ("SecureLines$Client", ⟨"SecureLines$Side", "endBy", "(JJ)J"⟩, ⟨"SecureLines$Client", "begin", "(I)LSecureLines$Row;"⟩, ⟨"SecureLines$Side", "begin", "(I)LSecureLines$Row;"⟩), ("SecureLines$Serve\x72", ⟨"SecureLines$Side", "checkChain", "(I)I"⟩, ⟨"SecureLines$Side", "note", "(I[II)V"⟩, ⟨"SecureLines$Side", "note", "(I[II)V"⟩), ("SecureLines$Client", ⟨"SecureLines$Side", "checkChain", "(I)I"⟩, ⟨"SecureLines$Client", "begin", "(I)LSecureLines$Row;"⟩, ⟨"SecureLines$Side", "begin", "(I)LSecureLines$Row;"⟩), ("SecureLines$Serve\x72", ⟨"SecureLines$Side", "isChain", "(I)Z"⟩, ⟨"SecureLines$Side", "note", "(I[II)V"⟩, ⟨"SecureLines$Side", "note", "(I[II)V"⟩), ("SecureLines$Client", ⟨"SecureLines$Side", "isChain", "(I)Z"⟩, ⟨"SecureLines$Client", "begin", "(I)LSecureLines$Row;"⟩, ⟨"SecureLines$Side", "begin", "(I)LSecureLines$Row;"⟩)]
def lw_tbl : List Cond := Jvm.Cond.code x code maxLocals ret :: (aX.map am_xW ++ (k2_sels lw_privs ++ tables_1))
def aT : List (List Cond) := [tables_1_1, tables_1_2, tables_1_3, tables_1_4, tables_1_5, tables_1_6, tables_1_7, tables_1_8, tables_1_9, tables_1_10, tables_1_11, tables_1_12, tables_1_13, tables_1_14, tables_1_15, tables_1_16, tables_1_17, k2_sels lw_privs, [Jvm.Cond.code x code maxLocals ret], aX.map am_xW]
theorem aT_in : ∀ w ∈ aT.flatten, w ∈ lw_tbl := by
  intro w hw
  have h : ∀ l ∈ aT, ∀ w ∈ l, w ∈ lw_tbl := by
    unfold aT lw_tbl tables_1
    simp only [List.mem_cons, List.mem_append, List.not_mem_nil, or_false]
    intro l hl w h
    rcases hl with rfl | rfl | rfl | rfl | rfl | rfl | rfl | rfl | rfl | rfl | rfl | rfl | rfl | rfl | rfl | rfl | rfl | rfl | rfl | rfl
    · exact Or.inr (Or.inr (Or.inr (Or.inl h)))
    · exact Or.inr (Or.inr (Or.inr (Or.inr (Or.inl h))))
    · exact Or.inr (Or.inr (Or.inr (Or.inr (Or.inr (Or.inl h)))))
    · exact Or.inr (Or.inr (Or.inr (Or.inr (Or.inr (Or.inr (Or.inl h))))))
    · exact Or.inr (Or.inr (Or.inr (Or.inr (Or.inr (Or.inr (Or.inr (Or.inl h)))))))
    · exact Or.inr (Or.inr (Or.inr (Or.inr (Or.inr (Or.inr (Or.inr (Or.inr (Or.inl h))))))))
    · exact Or.inr (Or.inr (Or.inr (Or.inr (Or.inr (Or.inr (Or.inr (Or.inr (Or.inr (Or.inl h)))))))))
    · exact Or.inr (Or.inr (Or.inr (Or.inr (Or.inr (Or.inr (Or.inr (Or.inr (Or.inr (Or.inr (Or.inl h))))))))))
    · exact Or.inr (Or.inr (Or.inr (Or.inr (Or.inr (Or.inr (Or.inr (Or.inr (Or.inr (Or.inr (Or.inr (Or.inl h)))))))))))
    · exact Or.inr (Or.inr (Or.inr (Or.inr (Or.inr (Or.inr (Or.inr (Or.inr (Or.inr (Or.inr (Or.inr (Or.inr (Or.inl h))))))))))))
    · exact Or.inr (Or.inr (Or.inr (Or.inr (Or.inr (Or.inr (Or.inr (Or.inr (Or.inr (Or.inr (Or.inr (Or.inr (Or.inr (Or.inl h)))))))))))))
    · exact Or.inr (Or.inr (Or.inr (Or.inr (Or.inr (Or.inr (Or.inr (Or.inr (Or.inr (Or.inr (Or.inr (Or.inr (Or.inr (Or.inr (Or.inl h))))))))))))))
    · exact Or.inr (Or.inr (Or.inr (Or.inr (Or.inr (Or.inr (Or.inr (Or.inr (Or.inr (Or.inr (Or.inr (Or.inr (Or.inr (Or.inr (Or.inr (Or.inl h)))))))))))))))
    · exact Or.inr (Or.inr (Or.inr (Or.inr (Or.inr (Or.inr (Or.inr (Or.inr (Or.inr (Or.inr (Or.inr (Or.inr (Or.inr (Or.inr (Or.inr (Or.inr (Or.inl h))))))))))))))))
    · exact Or.inr (Or.inr (Or.inr (Or.inr (Or.inr (Or.inr (Or.inr (Or.inr (Or.inr (Or.inr (Or.inr (Or.inr (Or.inr (Or.inr (Or.inr (Or.inr (Or.inr (Or.inl h)))))))))))))))))
    · exact Or.inr (Or.inr (Or.inr (Or.inr (Or.inr (Or.inr (Or.inr (Or.inr (Or.inr (Or.inr (Or.inr (Or.inr (Or.inr (Or.inr (Or.inr (Or.inr (Or.inr (Or.inr (Or.inl h))))))))))))))))))
    · exact Or.inr (Or.inr (Or.inr (Or.inr (Or.inr (Or.inr (Or.inr (Or.inr (Or.inr (Or.inr (Or.inr (Or.inr (Or.inr (Or.inr (Or.inr (Or.inr (Or.inr (Or.inr (Or.inr (h)))))))))))))))))))
    · exact Or.inr (Or.inr (Or.inl h))
    · exact Or.inl (List.mem_singleton.mp h)
    · exact Or.inr (Or.inl h)
  obtain ⟨l, h1, h2⟩ := List.mem_flatten.mp hw
  exact h l h1 w h2
theorem aX_ok : ∀ q ∈ aX, am_xOk tables_1 q := by
  have h0 : ∀ (j i : Nat) (l : List Cond) (w : Cond), [tables_1_1, tables_1_2, tables_1_3, tables_1_4, tables_1_5, tables_1_6, tables_1_7, tables_1_8, tables_1_9, tables_1_10, tables_1_11, tables_1_12, tables_1_13, tables_1_14, tables_1_15, tables_1_16, tables_1_17][j]? = some l → l[i]? = some w → w ∈ tables_1 := by
    intro j i l w h1 h2
    have h3 := List.mem_of_getElem? h1
    have h4 := List.mem_of_getElem? h2
    unfold tables_1
    simp only [List.mem_cons, List.not_mem_nil, or_false] at h3
    simp only [List.mem_append]
    rcases h3 with rfl | rfl | rfl | rfl | rfl | rfl | rfl | rfl | rfl | rfl | rfl | rfl | rfl | rfl | rfl | rfl | rfl
    · exact Or.inl h4
    · exact Or.inr (Or.inl h4)
    · exact Or.inr (Or.inr (Or.inl h4))
    · exact Or.inr (Or.inr (Or.inr (Or.inl h4)))
    · exact Or.inr (Or.inr (Or.inr (Or.inr (Or.inl h4))))
    · exact Or.inr (Or.inr (Or.inr (Or.inr (Or.inr (Or.inl h4)))))
    · exact Or.inr (Or.inr (Or.inr (Or.inr (Or.inr (Or.inr (Or.inl h4))))))
    · exact Or.inr (Or.inr (Or.inr (Or.inr (Or.inr (Or.inr (Or.inr (Or.inl h4)))))))
    · exact Or.inr (Or.inr (Or.inr (Or.inr (Or.inr (Or.inr (Or.inr (Or.inr (Or.inl h4))))))))
    · exact Or.inr (Or.inr (Or.inr (Or.inr (Or.inr (Or.inr (Or.inr (Or.inr (Or.inr (Or.inl h4)))))))))
    · exact Or.inr (Or.inr (Or.inr (Or.inr (Or.inr (Or.inr (Or.inr (Or.inr (Or.inr (Or.inr (Or.inl h4))))))))))
    · exact Or.inr (Or.inr (Or.inr (Or.inr (Or.inr (Or.inr (Or.inr (Or.inr (Or.inr (Or.inr (Or.inr (Or.inl h4)))))))))))
    · exact Or.inr (Or.inr (Or.inr (Or.inr (Or.inr (Or.inr (Or.inr (Or.inr (Or.inr (Or.inr (Or.inr (Or.inr (Or.inl h4))))))))))))
    · exact Or.inr (Or.inr (Or.inr (Or.inr (Or.inr (Or.inr (Or.inr (Or.inr (Or.inr (Or.inr (Or.inr (Or.inr (Or.inr (Or.inl h4)))))))))))))
    · exact Or.inr (Or.inr (Or.inr (Or.inr (Or.inr (Or.inr (Or.inr (Or.inr (Or.inr (Or.inr (Or.inr (Or.inr (Or.inr (Or.inr (Or.inl h4))))))))))))))
    · exact Or.inr (Or.inr (Or.inr (Or.inr (Or.inr (Or.inr (Or.inr (Or.inr (Or.inr (Or.inr (Or.inr (Or.inr (Or.inr (Or.inr (Or.inr (Or.inl h4)))))))))))))))
    · exact Or.inr (Or.inr (Or.inr (Or.inr (Or.inr (Or.inr (Or.inr (Or.inr (Or.inr (Or.inr (Or.inr (Or.inr (Or.inr (Or.inr (Or.inr (Or.inr (h4))))))))))))))))

  have h5 : ∀ (p : Nat × Nat) (w : Cond), decide (([tables_1_1, tables_1_2, tables_1_3, tables_1_4, tables_1_5, tables_1_6, tables_1_7, tables_1_8, tables_1_9, tables_1_10, tables_1_11, tables_1_12, tables_1_13, tables_1_14, tables_1_15, tables_1_16, tables_1_17][p.1]?).bind (fun l => l[p.2]?) = some w) = true → w ∈ tables_1 := by
    intro p w h
    obtain ⟨l, h1, h2⟩ := Option.bind_eq_some_iff.mp (of_decide_eq_true h)
    exact h0 p.1 p.2 l w h1 h2
  unfold aX
  simp only [List.forall_mem_cons]
  exact ⟨⟨h5 (5, 160) _ (by decide +kernel), rfl, ⟨by decide +kernel, by decide +kernel⟩, h5 (5, 218) _ (by decide +kernel), h5 (5, 219) _ (by decide +kernel)⟩, ⟨h5 (5, 77) _ (by decide +kernel), rfl, ⟨by decide +kernel, by decide +kernel⟩, h5 (5, 218) _ (by decide +kernel), h5 (5, 219) _ (by decide +kernel)⟩, ⟨h5 (5, 160) _ (by decide +kernel), rfl, ⟨by decide +kernel, by decide +kernel⟩, h5 (5, 222) _ (by decide +kernel), h5 (5, 223) _ (by decide +kernel)⟩, ⟨h5 (5, 77) _ (by decide +kernel), rfl, ⟨by decide +kernel, by decide +kernel⟩, h5 (5, 222) _ (by decide +kernel), h5 (5, 223) _ (by decide +kernel)⟩, ⟨h5 (5, 160) _ (by decide +kernel), rfl, ⟨by decide +kernel, by decide +kernel⟩, h5 (5, 226) _ (by decide +kernel), h5 (5, 227) _ (by decide +kernel)⟩, ⟨h5 (5, 77) _ (by decide +kernel), rfl, ⟨by decide +kernel, by decide +kernel⟩, h5 (5, 226) _ (by decide +kernel), h5 (5, 227) _ (by decide +kernel)⟩, ⟨h5 (5, 160) _ (by decide +kernel), rfl, ⟨by decide +kernel, by decide +kernel⟩, h5 (5, 231) _ (by decide +kernel), h5 (5, 232) _ (by decide +kernel)⟩, ⟨h5 (5, 77) _ (by decide +kernel), rfl, ⟨by decide +kernel, by decide +kernel⟩, h5 (5, 231) _ (by decide +kernel), h5 (5, 232) _ (by decide +kernel)⟩, ⟨h5 (5, 160) _ (by decide +kernel), rfl, ⟨by decide +kernel, by decide +kernel⟩, h5 (6, 4) _ (by decide +kernel), h5 (6, 5) _ (by decide +kernel)⟩, ⟨h5 (5, 77) _ (by decide +kernel), rfl, ⟨by decide +kernel, by decide +kernel⟩, h5 (6, 4) _ (by decide +kernel), h5 (6, 5) _ (by decide +kernel)⟩, ⟨h5 (5, 160) _ (by decide +kernel), rfl, ⟨by decide +kernel, by decide +kernel⟩, h5 (6, 8) _ (by decide +kernel), h5 (6, 9) _ (by decide +kernel)⟩, ⟨h5 (5, 77) _ (by decide +kernel), rfl, ⟨by decide +kernel, by decide +kernel⟩, h5 (6, 8) _ (by decide +kernel), h5 (6, 9) _ (by decide +kernel)⟩, ⟨h5 (5, 160) _ (by decide +kernel), rfl, ⟨by decide +kernel, by decide +kernel⟩, h5 (6, 84) _ (by decide +kernel), h5 (6, 85) _ (by decide +kernel)⟩, ⟨h5 (5, 77) _ (by decide +kernel), rfl, ⟨by decide +kernel, by decide +kernel⟩, h5 (6, 84) _ (by decide +kernel), h5 (6, 85) _ (by decide +kernel)⟩, ⟨h5 (5, 160) _ (by decide +kernel), rfl, ⟨by decide +kernel, by decide +kernel⟩, h5 (6, 102) _ (by decide +kernel), h5 (6, 103) _ (by decide +kernel)⟩, ⟨h5 (5, 77) _ (by decide +kernel), rfl, ⟨by decide +kernel, by decide +kernel⟩, h5 (6, 102) _ (by decide +kernel), h5 (6, 103) _ (by decide +kernel)⟩, ⟨h5 (5, 160) _ (by decide +kernel), rfl, ⟨by decide +kernel, by decide +kernel⟩, h5 (6, 182) _ (by decide +kernel), h5 (6, 183) _ (by decide +kernel)⟩, ⟨h5 (5, 77) _ (by decide +kernel), rfl, ⟨by decide +kernel, by decide +kernel⟩, h5 (6, 182) _ (by decide +kernel), h5 (6, 183) _ (by decide +kernel)⟩, ⟨h5 (5, 160) _ (by decide +kernel), rfl, ⟨by decide +kernel, by decide +kernel⟩, h5 (6, 186) _ (by decide +kernel), h5 (6, 187) _ (by decide +kernel)⟩, ⟨h5 (5, 77) _ (by decide +kernel), rfl, ⟨by decide +kernel, by decide +kernel⟩, h5 (6, 186) _ (by decide +kernel), h5 (6, 187) _ (by decide +kernel)⟩, fun q h => by cases h⟩
end
section
def RX0 : String := "SecureLines$Client"
def TX0 : u_T := fun k => match k with
  | 0 => ("SecureLines$Side", "house", "LSecureLines$House;", true)
  | 1 => ("SecureLines$Side", "end", "LSecureLines$End;", true)
  | 2 => ("SecureLines$Side", "line", "LSecureLines$Row;", true)
  | 3 => ("SecureLines$Side", "record", "LSecureLines$Row;", true)
  | 4 => ("SecureLines$Side", "pending", "LSecureLines$Row;", true)
  | 5 => ("SecureLines$Side", "heard", "LSecureLines$Row;", true)
  | 6 => ("SecureLines$Side", "told", "[I", true)
  | 7 => ("SecureLines$Side", "keys", "[J", true)
  | 8 => ("SecureLines$Side", "writes", "Z", false)
  | 9 => ("SecureLines$Side", "reads", "Z", false)
  | 10 => ("SecureLines$Side", "writeSuite", "I", false)
  | 11 => ("SecureLines$Side", "exports", "Z", false)
  | 12 => ("SecureLines$Side", "drops", "Z", false)
  | 13 => ("SecureLines$Side", "stage", "I", false)
  | 14 => ("SecureLines$Side", "digests", "[LSecureLines$Mill;", true)
  | 15 => ("SecureLines$Side", "clientKey", "J", false)
  | 16 => ("SecureLines$Side", "serverKey", "J", false)
  | 17 => ("SecureLines$Side", "sayingKey", "J", false)
  | 18 => ("SecureLines$Side", "otherPoint", "I", false)
  | 19 => ("SecureLines$Client", "random", "J", false)
  | 20 => ("SecureLines$Client", "x", "I", false)
  | 21 => ("SecureLines$Client", "group", "I", false)
  | 22 => ("SecureLines$Client", "modes", "I", false)
  | 23 => ("SecureLines$Client", "offered", "[LSecureLines$Shared;", true)
  | 24 => ("SecureLines$Client", "offeredCount", "I", false)
  | 25 => ("SecureLines$Client", "earlyPut", "Z", false)
  | 26 => ("SecureLines$Client", "retried", "Z", false)
  | 27 => ("SecureLines$Client", "joint", "J", false)
  | 28 => ("SecureLines$Client", "place", "I", false)
  | 29 => ("SecureLines$Client", "asked", "Z", false)
  | _ => ("SecureLines$Client", "askedSchemes", "I", false)
def tyX0 : Nat → FieldType := fun k => match k with
  | 0 => .object "SecureLines$House"
  | 1 => .object "SecureLines$End"
  | 2 => .object "SecureLines$Row"
  | 3 => .object "SecureLines$Row"
  | 4 => .object "SecureLines$Row"
  | 5 => .object "SecureLines$Row"
  | 6 => .array .int
  | 7 => .array .long
  | 8 => .boolean
  | 9 => .boolean
  | 10 => .int
  | 11 => .boolean
  | 12 => .boolean
  | 13 => .int
  | 14 => .array (.object "SecureLines$Mill")
  | 15 => .long
  | 16 => .long
  | 17 => .long
  | 18 => .int
  | 19 => .long
  | 20 => .int
  | 21 => .int
  | 22 => .int
  | 23 => .array (.object "SecureLines$Shared")
  | 24 => .int
  | 25 => .boolean
  | 26 => .boolean
  | 27 => .long
  | 28 => .int
  | 29 => .boolean
  | _ => .int
theorem nmX0 : ∀ a, a < 31 → ∀ b, b < 31 → a ≠ b → (TX0 a).2.1 ≠ (TX0 b).2.1 := by decide +kernel
def RX1 : String := "SecureLines$End"
def TX1 : u_T := fun k => match k with
  | 0 => ("SecureLines$End", "serve\x72", "Z", true)
  | 1 => ("SecureLines$End", "offers", "[[I", true)
  | 2 => ("SecureLines$End", "settings", "[I", true)
  | 3 => ("SecureLines$End", "tape", "LSecureLines$Row;", true)
  | 4 => ("SecureLines$End", "anchors", "[I", true)
  | 5 => ("SecureLines$End", "anchorCount", "I", false)
  | 6 => ("SecureLines$End", "identity", "[I", true)
  | 7 => ("SecureLines$End", "identityCount", "I", false)
  | 8 => ("SecureLines$End", "key", "I", false)
  | 9 => ("SecureLines$End", "host", "LSecureLines$Row;", true)
  | 10 => ("SecureLines$End", "secrets", "[LSecureLines$Shared;", true)
  | 11 => ("SecureLines$End", "secretCount", "I", false)
  | 12 => ("SecureLines$End", "early", "LSecureLines$Row;", true)
  | 13 => ("SecureLines$End", "book", "[LSecureLines$Shared;", true)
  | 14 => ("SecureLines$End", "bookCount", "I", false)
  | 15 => ("SecureLines$End", "ticketSecret", "J", false)
  | _ => ("SecureLines$End", "given", "I", false)
def tyX1 : Nat → FieldType := fun k => match k with
  | 0 => .boolean
  | 1 => .array (.array .int)
  | 2 => .array .int
  | 3 => .object "SecureLines$Row"
  | 4 => .array .int
  | 5 => .int
  | 6 => .array .int
  | 7 => .int
  | 8 => .int
  | 9 => .object "SecureLines$Row"
  | 10 => .array (.object "SecureLines$Shared")
  | 11 => .int
  | 12 => .object "SecureLines$Row"
  | 13 => .array (.object "SecureLines$Shared")
  | 14 => .int
  | 15 => .long
  | _ => .int
theorem nmX1 : ∀ a, a < 17 → ∀ b, b < 17 → a ≠ b → (TX1 a).2.1 ≠ (TX1 b).2.1 := by decide +kernel
def RX2 : String := "SecureLines$Fields"
def TX2 : u_T := fun k => match k with
  | 0 => ("SecureLines$Fields", "bytes", "[I", false)
  | 1 => ("SecureLines$Fields", "starts", "[I", true)
  | 2 => ("SecureLines$Fields", "stops", "[I", true)
  | 3 => ("SecureLines$Fields", "others", "Z", false)
  | _ => ("SecureLines$Fields", "binders", "I", false)
def tyX2 : Nat → FieldType := fun k => match k with
  | 0 => .array .int
  | 1 => .array .int
  | 2 => .array .int
  | 3 => .boolean
  | _ => .int
theorem nmX2 : ∀ a, a < 5 → ∀ b, b < 5 → a ≠ b → (TX2 a).2.1 ≠ (TX2 b).2.1 := by decide +kernel
def RX3 : String := "SecureLines$House"
def TX3 : u_T := fun k => match k with
  | 0 => ("SecureLines$House", "time", "I", false)
  | 1 => ("SecureLines$House", "mill", "LSecureLines$Mill;", true)
  | 2 => ("SecureLines$House", "message", "LSecureLines$Row;", true)
  | 3 => ("SecureLines$House", "ciphe\x72", "LSecureLines$Row;", true)
  | 4 => ("SecureLines$House", "inne\x72", "LSecureLines$Row;", true)
  | 5 => ("SecureLines$House", "stack", "[I", true)
  | 6 => ("SecureLines$House", "fields", "LSecureLines$Fields;", true)
  | 7 => ("SecureLines$House", "before", "LSecureLines$Fields;", true)
  | 8 => ("SecureLines$House", "papers", "[LSecureLines$Paper;", true)
  | 9 => ("SecureLines$House", "paperCount", "I", false)
  | 10 => ("SecureLines$House", "lists", "[LSecureLines$Paper;", true)
  | 11 => ("SecureLines$House", "listCount", "I", false)
  | 12 => ("SecureLines$House", "answers", "[LSecureLines$Paper;", true)
  | 13 => ("SecureLines$House", "answerCount", "I", false)
  | 14 => ("SecureLines$House", "spare", "LSecureLines$Paper;", true)
  | 15 => ("SecureLines$House", "shown", "[LSecureLines$Paper;", true)
  | 16 => ("SecureLines$House", "staple", "LSecureLines$Paper;", true)
  | 17 => ("SecureLines$House", "stapled", "Z", false)
  | 18 => ("SecureLines$House", "path", "[LSecureLines$Paper;", true)
  | _ => ("SecureLines$House", "pathSize", "I", false)
def tyX3 : Nat → FieldType := fun k => match k with
  | 0 => .int
  | 1 => .object "SecureLines$Mill"
  | 2 => .object "SecureLines$Row"
  | 3 => .object "SecureLines$Row"
  | 4 => .object "SecureLines$Row"
  | 5 => .array .int
  | 6 => .object "SecureLines$Fields"
  | 7 => .object "SecureLines$Fields"
  | 8 => .array (.object "SecureLines$Pape\x72")
  | 9 => .int
  | 10 => .array (.object "SecureLines$Pape\x72")
  | 11 => .int
  | 12 => .array (.object "SecureLines$Pape\x72")
  | 13 => .int
  | 14 => .object "SecureLines$Pape\x72"
  | 15 => .array (.object "SecureLines$Pape\x72")
  | 16 => .object "SecureLines$Pape\x72"
  | 17 => .boolean
  | 18 => .array (.object "SecureLines$Pape\x72")
  | _ => .int
theorem nmX3 : ∀ a, a < 20 → ∀ b, b < 20 → a ≠ b → (TX3 a).2.1 ≠ (TX3 b).2.1 := by decide +kernel
def RX4 : String := "SecureLines$Mill"
def TX4 : u_T := fun k => match k with
  | 0 => ("SecureLines$Mill", "a", "I", false)
  | 1 => ("SecureLines$Mill", "b", "I", false)
  | 2 => ("SecureLines$Mill", "c", "I", false)
  | 3 => ("SecureLines$Mill", "d", "I", false)
  | 4 => ("SecureLines$Mill", "word", "J", false)
  | _ => ("SecureLines$Mill", "count", "I", false)
def tyX4 : Nat → FieldType := fun k => match k with
  | 0 => .int
  | 1 => .int
  | 2 => .int
  | 3 => .int
  | 4 => .long
  | _ => .int
theorem nmX4 : ∀ a, a < 6 → ∀ b, b < 6 → a ≠ b → (TX4 a).2.1 ≠ (TX4 b).2.1 := by decide +kernel
def RX5 : String := "SecureLines$Office"
def TX5 : u_T := fun k => match k with
  | 0 => ("SecureLines$Office", "house", "LSecureLines$House;", true)
  | 1 => ("SecureLines$Office", "pape\x72", "LSecureLines$Paper;", true)
  | 2 => ("SecureLines$Office", "key", "I", true)
  | 3 => ("SecureLines$Office", "scheme", "I", true)
  | 4 => ("SecureLines$Office", "accounts", "[J", true)
  | 5 => ("SecureLines$Office", "accountCount", "I", false)
  | 6 => ("SecureLines$Office", "states", "[I", true)
  | 7 => ("SecureLines$Office", "owners", "[I", true)
  | 8 => ("SecureLines$Office", "issued", "[I", true)
  | 9 => ("SecureLines$Office", "patternCounts", "[I", true)
  | 10 => ("SecureLines$Office", "orderCount", "I", false)
  | 11 => ("SecureLines$Office", "patterns", "[LSecureLines$Row;", true)
  | 12 => ("SecureLines$Office", "tokens", "[I", true)
  | 13 => ("SecureLines$Office", "looks", "[I", true)
  | 14 => ("SecureLines$Office", "tokenCount", "I", false)
  | 15 => ("SecureLines$Office", "serialCount", "I", false)
  | 16 => ("SecureLines$Office", "revoked", "[I", true)
  | 17 => ("SecureLines$Office", "revokedCount", "I", false)
  | _ => ("SecureLines$Office", "listCount", "I", false)
def tyX5 : Nat → FieldType := fun k => match k with
  | 0 => .object "SecureLines$House"
  | 1 => .object "SecureLines$Pape\x72"
  | 2 => .int
  | 3 => .int
  | 4 => .array .long
  | 5 => .int
  | 6 => .array .int
  | 7 => .array .int
  | 8 => .array .int
  | 9 => .array .int
  | 10 => .int
  | 11 => .array (.object "SecureLines$Row")
  | 12 => .array .int
  | 13 => .array .int
  | 14 => .int
  | 15 => .int
  | 16 => .array .int
  | 17 => .int
  | _ => .int
theorem nmX5 : ∀ a, a < 19 → ∀ b, b < 19 → a ≠ b → (TX5 a).2.1 ≠ (TX5 b).2.1 := by decide +kernel
def RX6 : String := "SecureLines$Pape\x72"
def TX6 : u_T := fun k => match k with
  | 0 => ("SecureLines$Pape\x72", "bytes", "[I", true)
  | 1 => ("SecureLines$Pape\x72", "numbers", "[I", true)
  | 2 => ("SecureLines$Pape\x72", "marks", "[I", true)
  | 3 => ("SecureLines$Pape\x72", "signature", "J", false)
  | 4 => ("SecureLines$Pape\x72", "at", "I", false)
  | 5 => ("SecureLines$Pape\x72", "numbe\x72", "I", false)
  | _ => ("SecureLines$Pape\x72", "looked", "[I", false)
def tyX6 : Nat → FieldType := fun k => match k with
  | 0 => .array .int
  | 1 => .array .int
  | 2 => .array .int
  | 3 => .long
  | 4 => .int
  | 5 => .int
  | _ => .array .int
theorem nmX6 : ∀ a, a < 7 → ∀ b, b < 7 → a ≠ b → (TX6 a).2.1 ≠ (TX6 b).2.1 := by decide +kernel
def RX7 : String := "SecureLines$Row"
def TX7 : u_T := fun k => match k with
  | 0 => ("SecureLines$Row", "bytes", "[I", false)
  | _ => ("SecureLines$Row", "size", "I", false)
def tyX7 : Nat → FieldType := fun k => match k with
  | 0 => .array .int
  | _ => .int
theorem nmX7 : ∀ a, a < 2 → ∀ b, b < 2 → a ≠ b → (TX7 a).2.1 ≠ (TX7 b).2.1 := by decide +kernel
def RX8 : String := "SecureLines$Serve\x72"
def TX8 : u_T := fun k => match k with
  | 0 => ("SecureLines$Side", "house", "LSecureLines$House;", true)
  | 1 => ("SecureLines$Side", "end", "LSecureLines$End;", true)
  | 2 => ("SecureLines$Side", "line", "LSecureLines$Row;", true)
  | 3 => ("SecureLines$Side", "record", "LSecureLines$Row;", true)
  | 4 => ("SecureLines$Side", "pending", "LSecureLines$Row;", true)
  | 5 => ("SecureLines$Side", "heard", "LSecureLines$Row;", true)
  | 6 => ("SecureLines$Side", "told", "[I", true)
  | 7 => ("SecureLines$Side", "keys", "[J", true)
  | 8 => ("SecureLines$Side", "writes", "Z", false)
  | 9 => ("SecureLines$Side", "reads", "Z", false)
  | 10 => ("SecureLines$Side", "writeSuite", "I", false)
  | 11 => ("SecureLines$Side", "exports", "Z", false)
  | 12 => ("SecureLines$Side", "drops", "Z", false)
  | 13 => ("SecureLines$Side", "stage", "I", false)
  | 14 => ("SecureLines$Side", "digests", "[LSecureLines$Mill;", true)
  | 15 => ("SecureLines$Side", "clientKey", "J", false)
  | 16 => ("SecureLines$Side", "serverKey", "J", false)
  | 17 => ("SecureLines$Side", "sayingKey", "J", false)
  | 18 => ("SecureLines$Side", "otherPoint", "I", false)
  | 19 => ("SecureLines$Serve\x72", "suite", "I", false)
  | 20 => ("SecureLines$Serve\x72", "group", "I", false)
  | 21 => ("SecureLines$Serve\x72", "scheme", "I", false)
  | 22 => ("SecureLines$Serve\x72", "used", "LSecureLines$Shared;", false)
  | 23 => ("SecureLines$Serve\x72", "place", "I", false)
  | 24 => ("SecureLines$Serve\x72", "exchanges", "Z", false)
  | 25 => ("SecureLines$Serve\x72", "retries", "Z", false)
  | 26 => ("SecureLines$Serve\x72", "random", "J", false)
  | 27 => ("SecureLines$Serve\x72", "x", "I", false)
  | 28 => ("SecureLines$Serve\x72", "joint", "J", false)
  | 29 => ("SecureLines$Serve\x72", "takesEarly", "Z", false)
  | 30 => ("SecureLines$Serve\x72", "earlyCount", "I", false)
  | 31 => ("SecureLines$Serve\x72", "asks", "Z", false)
  | 32 => ("SecureLines$Serve\x72", "first", "LSecureLines$Row;", false)
  | _ => ("SecureLines$Serve\x72", "cookie", "J", false)
def tyX8 : Nat → FieldType := fun k => match k with
  | 0 => .object "SecureLines$House"
  | 1 => .object "SecureLines$End"
  | 2 => .object "SecureLines$Row"
  | 3 => .object "SecureLines$Row"
  | 4 => .object "SecureLines$Row"
  | 5 => .object "SecureLines$Row"
  | 6 => .array .int
  | 7 => .array .long
  | 8 => .boolean
  | 9 => .boolean
  | 10 => .int
  | 11 => .boolean
  | 12 => .boolean
  | 13 => .int
  | 14 => .array (.object "SecureLines$Mill")
  | 15 => .long
  | 16 => .long
  | 17 => .long
  | 18 => .int
  | 19 => .int
  | 20 => .int
  | 21 => .int
  | 22 => .object "SecureLines$Shared"
  | 23 => .int
  | 24 => .boolean
  | 25 => .boolean
  | 26 => .long
  | 27 => .int
  | 28 => .long
  | 29 => .boolean
  | 30 => .int
  | 31 => .boolean
  | 32 => .object "SecureLines$Row"
  | _ => .long
theorem nmX8 : ∀ a, a < 34 → ∀ b, b < 34 → a ≠ b → (TX8 a).2.1 ≠ (TX8 b).2.1 := by decide +kernel
def RX9 : String := "SecureLines$Shared"
def TX9 : u_T := fun k => match k with
  | 0 => ("SecureLines$Shared", "id", "[I", true)
  | 1 => ("SecureLines$Shared", "h", "I", true)
  | 2 => ("SecureLines$Shared", "secret", "J", true)
  | 3 => ("SecureLines$Shared", "byTicket", "Z", false)
  | 4 => ("SecureLines$Shared", "suite", "I", false)
  | 5 => ("SecureLines$Shared", "life", "I", false)
  | 6 => ("SecureLines$Shared", "allows", "I", false)
  | 7 => ("SecureLines$Shared", "came", "I", false)
  | _ => ("SecureLines$Shared", "earlyTaken", "Z", false)
def tyX9 : Nat → FieldType := fun k => match k with
  | 0 => .array .int
  | 1 => .int
  | 2 => .long
  | 3 => .boolean
  | 4 => .int
  | 5 => .int
  | 6 => .int
  | 7 => .int
  | _ => .boolean
theorem nmX9 : ∀ a, a < 9 → ∀ b, b < 9 → a ≠ b → (TX9 a).2.1 ≠ (TX9 b).2.1 := by decide +kernel
def RX11 : String := "SecureLines"
def TX11 : u_T := fun k => match k with
  | 0 => ("SecureLines", "house", "LSecureLines$House;", true)
  | 1 => ("SecureLines", "tape", "LSecureLines$Row;", true)
  | 2 => ("SecureLines", "out", "LSecureLines$Row;", true)
  | 3 => ("SecureLines", "row", "[I", true)
  | 4 => ("SecureLines", "rowSize", "I", false)
  | 5 => ("SecureLines", "ends", "[LSecureLines$End;", true)
  | 6 => ("SecureLines", "endCount", "I", false)
  | 7 => ("SecureLines", "sides", "[LSecureLines$Side;", true)
  | 8 => ("SecureLines", "connectionCount", "I", false)
  | 9 => ("SecureLines", "offices", "[LSecureLines$Office;", true)
  | 10 => ("SecureLines", "officeCount", "I", false)
  | 11 => ("SecureLines", "zoneNames", "[LSecureLines$Row;", true)
  | 12 => ("SecureLines", "zoneSecrets", "[J", true)
  | 13 => ("SecureLines", "zoneCount", "I", false)
  | 14 => ("SecureLines", "logs", "[[J", true)
  | 15 => ("SecureLines", "logSizes", "[I", true)
  | 16 => ("SecureLines", "logCount", "I", false)
  | _ => ("SecureLines", "knots", "[J", true)
def tyX11 : Nat → FieldType := fun k => match k with
  | 0 => .object "SecureLines$House"
  | 1 => .object "SecureLines$Row"
  | 2 => .object "SecureLines$Row"
  | 3 => .array .int
  | 4 => .int
  | 5 => .array (.object "SecureLines$End")
  | 6 => .int
  | 7 => .array (.object "SecureLines$Side")
  | 8 => .int
  | 9 => .array (.object "SecureLines$Office")
  | 10 => .int
  | 11 => .array (.object "SecureLines$Row")
  | 12 => .array .long
  | 13 => .int
  | 14 => .array (.array .long)
  | 15 => .array .int
  | 16 => .int
  | _ => .array .long
theorem nmX11 : ∀ a, a < 18 → ∀ b, b < 18 → a ≠ b → (TX11 a).2.1 ≠ (TX11 b).2.1 := by decide +kernel
def RX12 : String := "SecureLinesModel"
def TX12 : u_T := fun k => match k with
  | 0 => ("SecureLinesModel", "tape", "[I", true)
  | 1 => ("SecureLinesModel", "tapeMany", "I", false)
  | 2 => ("SecureLinesModel", "out", "[I", true)
  | 3 => ("SecureLinesModel", "outMany", "I", false)
  | 4 => ("SecureLinesModel", "time", "I", false)
  | 5 => ("SecureLinesModel", "ma", "I", false)
  | 6 => ("SecureLinesModel", "mb", "I", false)
  | 7 => ("SecureLinesModel", "mc", "I", false)
  | 8 => ("SecureLinesModel", "md", "I", false)
  | 9 => ("SecureLinesModel", "pending", "I", false)
  | 10 => ("SecureLinesModel", "held", "J", false)
  | 11 => ("SecureLinesModel", "counted", "I", false)
  | 12 => ("SecureLinesModel", "logs", "I", false)
  | 13 => ("SecureLinesModel", "entryMany", "[I", true)
  | 14 => ("SecureLinesModel", "entries", "[J", true)
  | 15 => ("SecureLinesModel", "pile", "[J", true)
  | 16 => ("SecureLinesModel", "pileSize", "[I", true)
  | 17 => ("SecureLinesModel", "beside", "[J", true)
  | 18 => ("SecureLinesModel", "besides", "I", false)
  | 19 => ("SecureLinesModel", "wentFirst", "[Z", true)
  | 20 => ("SecureLinesModel", "within", "[I", true)
  | 21 => ("SecureLinesModel", "lengthSize", "I", false)
  | 22 => ("SecureLinesModel", "lengthIs", "I", false)
  | 23 => ("SecureLinesModel", "rowAt", "[I", false)
  | 24 => ("SecureLinesModel", "curso\x72", "I", false)
  | 25 => ("SecureLinesModel", "valueAt", "I", false)
  | 26 => ("SecureLinesModel", "valueSize", "I", false)
  | 27 => ("SecureLinesModel", "certs", "I", false)
  | 28 => ("SecureLinesModel", "certByte", "[I", true)
  | 29 => ("SecureLinesModel", "certSize", "[I", true)
  | 30 => ("SecureLinesModel", "certField", "[I", true)
  | 31 => ("SecureLinesModel", "certIssue\x72", "[I", true)
  | 32 => ("SecureLinesModel", "certSubject", "[I", true)
  | 33 => ("SecureLinesModel", "certInne\x72", "[I", true)
  | 34 => ("SecureLinesModel", "certSign", "[I", true)
  | 35 => ("SecureLinesModel", "certMany", "[I", true)
  | 36 => ("SecureLinesModel", "certName", "[I", true)
  | 37 => ("SecureLinesModel", "lists", "I", false)
  | 38 => ("SecureLinesModel", "listByte", "[I", true)
  | 39 => ("SecureLinesModel", "listSize", "[I", true)
  | 40 => ("SecureLinesModel", "listField", "[I", true)
  | 41 => ("SecureLinesModel", "answers", "I", false)
  | 42 => ("SecureLinesModel", "answerByte", "[I", true)
  | 43 => ("SecureLinesModel", "answerSize", "[I", true)
  | 44 => ("SecureLinesModel", "answerField", "[I", true)
  | 45 => ("SecureLinesModel", "made", "[I", true)
  | 46 => ("SecureLinesModel", "madeMany", "I", false)
  | 47 => ("SecureLinesModel", "hasStaple", "Z", false)
  | 48 => ("SecureLinesModel", "way", "[I", true)
  | 49 => ("SecureLinesModel", "wayMany", "I", false)
  | 50 => ("SecureLinesModel", "steps", "[I", true)
  | 51 => ("SecureLinesModel", "stepMany", "I", false)
  | 52 => ("SecureLinesModel", "ends", "I", false)
  | 53 => ("SecureLinesModel", "role", "[I", true)
  | 54 => ("SecureLinesModel", "offers", "[I", true)
  | 55 => ("SecureLinesModel", "offerMany", "[I", true)
  | 56 => ("SecureLinesModel", "settings", "[I", true)
  | 57 => ("SecureLinesModel", "randomByte", "[I", true)
  | 58 => ("SecureLinesModel", "randomMany", "[I", true)
  | 59 => ("SecureLinesModel", "anchors", "[I", true)
  | 60 => ("SecureLinesModel", "anchorMany", "[I", true)
  | 61 => ("SecureLinesModel", "identity", "[I", true)
  | 62 => ("SecureLinesModel", "identityMany", "[I", true)
  | 63 => ("SecureLinesModel", "identityKey", "[I", true)
  | 64 => ("SecureLinesModel", "hostByte", "[I", true)
  | 65 => ("SecureLinesModel", "hostSize", "[I", true)
  | 66 => ("SecureLinesModel", "sharedMany", "[I", true)
  | 67 => ("SecureLinesModel", "idByte", "[I", true)
  | 68 => ("SecureLinesModel", "idSize", "[I", true)
  | 69 => ("SecureLinesModel", "sharedSecret", "[J", true)
  | 70 => ("SecureLinesModel", "sharedH", "[I", true)
  | 71 => ("SecureLinesModel", "isTicket", "[Z", true)
  | 72 => ("SecureLinesModel", "ticketTold", "[I", true)
  | 73 => ("SecureLinesModel", "earlyByte", "[I", true)
  | 74 => ("SecureLinesModel", "earlyMany", "[I", true)
  | 75 => ("SecureLinesModel", "ticketSecret", "[J", true)
  | 76 => ("SecureLinesModel", "hasTicketSecret", "[Z", true)
  | 77 => ("SecureLinesModel", "ticketsGiven", "[I", true)
  | 78 => ("SecureLinesModel", "bookMany", "[I", true)
  | 79 => ("SecureLinesModel", "bookId", "[J", true)
  | 80 => ("SecureLinesModel", "bookSecret", "[J", true)
  | 81 => ("SecureLinesModel", "bookSuite", "[I", true)
  | 82 => ("SecureLinesModel", "bookTime", "[I", true)
  | 83 => ("SecureLinesModel", "bookLife", "[I", true)
  | 84 => ("SecureLinesModel", "bookTaken", "[Z", true)
  | 85 => ("SecureLinesModel", "offices", "I", false)
  | 86 => ("SecureLinesModel", "officeCert", "[I", true)
  | 87 => ("SecureLinesModel", "officeKey", "[I", true)
  | 88 => ("SecureLinesModel", "officeScheme", "[I", true)
  | 89 => ("SecureLinesModel", "nextSerial", "[I", true)
  | 90 => ("SecureLinesModel", "nextList", "[I", true)
  | 91 => ("SecureLinesModel", "nextToken", "[I", true)
  | 92 => ("SecureLinesModel", "accountMany", "[I", true)
  | 93 => ("SecureLinesModel", "accountSecret", "[J", true)
  | 94 => ("SecureLinesModel", "orderMany", "[I", true)
  | 95 => ("SecureLinesModel", "orderAccount", "[I", true)
  | 96 => ("SecureLinesModel", "orderState", "[I", true)
  | 97 => ("SecureLinesModel", "orderIssued", "[I", true)
  | 98 => ("SecureLinesModel", "patternMany", "[I", true)
  | 99 => ("SecureLinesModel", "patternByte", "[I", true)
  | 100 => ("SecureLinesModel", "patternSize", "[I", true)
  | 101 => ("SecureLinesModel", "patternToken", "[I", true)
  | 102 => ("SecureLinesModel", "patternState", "[I", true)
  | 103 => ("SecureLinesModel", "revokedMany", "[I", true)
  | 104 => ("SecureLinesModel", "revoked", "[I", true)
  | 105 => ("SecureLinesModel", "zones", "I", false)
  | 106 => ("SecureLinesModel", "zoneByte", "[I", true)
  | 107 => ("SecureLinesModel", "zoneSize", "[I", true)
  | 108 => ("SecureLinesModel", "zoneSecret", "[J", true)
  | 109 => ("SecureLinesModel", "partAt", "[I", true)
  | 110 => ("SecureLinesModel", "partSize", "[I", true)
  | 111 => ("SecureLinesModel", "connections", "I", false)
  | 112 => ("SecureLinesModel", "endOf", "[I", true)
  | 113 => ("SecureLinesModel", "lineByte", "[I", true)
  | 114 => ("SecureLinesModel", "lineMany", "[I", true)
  | 115 => ("SecureLinesModel", "inByte", "[I", true)
  | 116 => ("SecureLinesModel", "inMany", "[I", true)
  | 117 => ("SecureLinesModel", "partByte", "[I", true)
  | 118 => ("SecureLinesModel", "partMany", "[I", true)
  | 119 => ("SecureLinesModel", "heardByte", "[I", true)
  | 120 => ("SecureLinesModel", "heardMany", "[I", true)
  | 121 => ("SecureLinesModel", "phase", "[I", true)
  | 122 => ("SecureLinesModel", "isEnded", "[Z", true)
  | 123 => ("SecureLinesModel", "isClosed", "[Z", true)
  | 124 => ("SecureLinesModel", "otherClosed", "[Z", true)
  | 125 => ("SecureLinesModel", "alertPut", "[I", true)
  | 126 => ("SecureLinesModel", "alertGot", "[I", true)
  | 127 => ("SecureLinesModel", "canWrite", "[Z", true)
  | 128 => ("SecureLinesModel", "canRead", "[Z", true)
  | 129 => ("SecureLinesModel", "writeKey", "[J", true)
  | 130 => ("SecureLinesModel", "readKey", "[J", true)
  | 131 => ("SecureLinesModel", "writeNumbe\x72", "[I", true)
  | 132 => ("SecureLinesModel", "readNumbe\x72", "[I", true)
  | 133 => ("SecureLinesModel", "writeSuite", "[I", true)
  | 134 => ("SecureLinesModel", "suite", "[I", true)
  | 135 => ("SecureLinesModel", "group", "[I", true)
  | 136 => ("SecureLinesModel", "scheme", "[I", true)
  | 137 => ("SecureLinesModel", "usedSort", "[I", true)
  | 138 => ("SecureLinesModel", "tookEarly", "[Z", true)
  | 139 => ("SecureLinesModel", "showed", "[I", true)
  | 140 => ("SecureLinesModel", "handled", "[I", true)
  | 141 => ("SecureLinesModel", "dropped", "[I", true)
  | 142 => ("SecureLinesModel", "isDropping", "[Z", true)
  | 143 => ("SecureLinesModel", "secretEarly", "[J", true)
  | 144 => ("SecureLinesModel", "secretHand", "[J", true)
  | 145 => ("SecureLinesModel", "secretMaste\x72", "[J", true)
  | 146 => ("SecureLinesModel", "secretExport", "[J", true)
  | 147 => ("SecureLinesModel", "secretNext", "[J", true)
  | 148 => ("SecureLinesModel", "handClient", "[J", true)
  | 149 => ("SecureLinesModel", "handServe\x72", "[J", true)
  | 150 => ("SecureLinesModel", "digestEnd", "[J", true)
  | 151 => ("SecureLinesModel", "peerPoint", "[I", true)
  | 152 => ("SecureLinesModel", "toldSchemes", "[I", true)
  | 153 => ("SecureLinesModel", "digA", "[I", true)
  | 154 => ("SecureLinesModel", "digB", "[I", true)
  | 155 => ("SecureLinesModel", "digC", "[I", true)
  | 156 => ("SecureLinesModel", "digD", "[I", true)
  | 157 => ("SecureLinesModel", "digPending", "[I", true)
  | 158 => ("SecureLinesModel", "digCounted", "[I", true)
  | 159 => ("SecureLinesModel", "digHeld", "[J", true)
  | 160 => ("SecureLinesModel", "helloRandom", "[J", true)
  | 161 => ("SecureLinesModel", "shareGroup", "[I", true)
  | 162 => ("SecureLinesModel", "shareX", "[I", true)
  | 163 => ("SecureLinesModel", "modes", "[I", true)
  | 164 => ("SecureLinesModel", "offeredMany", "[I", true)
  | 165 => ("SecureLinesModel", "offeredId", "[I", true)
  | 166 => ("SecureLinesModel", "offeredSize", "[I", true)
  | 167 => ("SecureLinesModel", "offeredSecret", "[J", true)
  | 168 => ("SecureLinesModel", "offeredH", "[I", true)
  | 169 => ("SecureLinesModel", "offeredTicket", "[Z", true)
  | 170 => ("SecureLinesModel", "offeredCame", "[I", true)
  | 171 => ("SecureLinesModel", "hasPutEarly", "[Z", true)
  | 172 => ("SecureLinesModel", "wasAsked", "[Z", true)
  | 173 => ("SecureLinesModel", "cookie", "[J", true)
  | 174 => ("SecureLinesModel", "hasCookie", "[Z", true)
  | 175 => ("SecureLinesModel", "chosen", "[I", true)
  | 176 => ("SecureLinesModel", "retrySuite", "[I", true)
  | 177 => ("SecureLinesModel", "retryGroup", "[I", true)
  | 178 => ("SecureLinesModel", "firstByte", "[I", true)
  | 179 => ("SecureLinesModel", "firstSize", "[I", true)
  | 180 => ("SecureLinesModel", "serverCookie", "[J", true)
  | 181 => ("SecureLinesModel", "serverRandom", "[J", true)
  | 182 => ("SecureLinesModel", "serverX", "[I", true)
  | 183 => ("SecureLinesModel", "earlyGot", "[I", true)
  | 184 => ("SecureLinesModel", "sealRow", "[I", true)
  | 185 => ("SecureLinesModel", "message", "[I", true)
  | 186 => ("SecureLinesModel", "oneByte", "[I", true)
  | 187 => ("SecureLinesModel", "fieldAt", "[I", true)
  | 188 => ("SecureLinesModel", "fieldSize", "[I", true)
  | 189 => ("SecureLinesModel", "hasOthers", "Z", false)
  | 190 => ("SecureLinesModel", "jointTold", "J", false)
  | 191 => ("SecureLinesModel", "proofRow", "[I", true)
  | 192 => ("SecureLinesModel", "chainAt", "[I", true)
  | 193 => ("SecureLinesModel", "chainSize", "[I", true)
  | 194 => ("SecureLinesModel", "showing", "I", false)
  | 195 => ("SecureLinesModel", "willRetry", "Z", false)
  | 196 => ("SecureLinesModel", "helloSuite", "I", false)
  | 197 => ("SecureLinesModel", "helloGroup", "I", false)
  | 198 => ("SecureLinesModel", "isExchange", "Z", false)
  | 199 => ("SecureLinesModel", "knownSort", "I", false)
  | 200 => ("SecureLinesModel", "knownPlace", "I", false)
  | 201 => ("SecureLinesModel", "knownAt", "I", false)
  | 202 => ("SecureLinesModel", "isUsed", "Z", false)
  | 203 => ("SecureLinesModel", "knownAge", "I", false)
  | 204 => ("SecureLinesModel", "helloScheme", "I", false)
  | _ => ("SecureLinesModel", "brought", "[I", true)
def tyX12 : Nat → FieldType := fun k => match k with
  | 0 => .array .int
  | 1 => .int
  | 2 => .array .int
  | 3 => .int
  | 4 => .int
  | 5 => .int
  | 6 => .int
  | 7 => .int
  | 8 => .int
  | 9 => .int
  | 10 => .long
  | 11 => .int
  | 12 => .int
  | 13 => .array .int
  | 14 => .array .long
  | 15 => .array .long
  | 16 => .array .int
  | 17 => .array .long
  | 18 => .int
  | 19 => .array .boolean
  | 20 => .array .int
  | 21 => .int
  | 22 => .int
  | 23 => .array .int
  | 24 => .int
  | 25 => .int
  | 26 => .int
  | 27 => .int
  | 28 => .array .int
  | 29 => .array .int
  | 30 => .array .int
  | 31 => .array .int
  | 32 => .array .int
  | 33 => .array .int
  | 34 => .array .int
  | 35 => .array .int
  | 36 => .array .int
  | 37 => .int
  | 38 => .array .int
  | 39 => .array .int
  | 40 => .array .int
  | 41 => .int
  | 42 => .array .int
  | 43 => .array .int
  | 44 => .array .int
  | 45 => .array .int
  | 46 => .int
  | 47 => .boolean
  | 48 => .array .int
  | 49 => .int
  | 50 => .array .int
  | 51 => .int
  | 52 => .int
  | 53 => .array .int
  | 54 => .array .int
  | 55 => .array .int
  | 56 => .array .int
  | 57 => .array .int
  | 58 => .array .int
  | 59 => .array .int
  | 60 => .array .int
  | 61 => .array .int
  | 62 => .array .int
  | 63 => .array .int
  | 64 => .array .int
  | 65 => .array .int
  | 66 => .array .int
  | 67 => .array .int
  | 68 => .array .int
  | 69 => .array .long
  | 70 => .array .int
  | 71 => .array .boolean
  | 72 => .array .int
  | 73 => .array .int
  | 74 => .array .int
  | 75 => .array .long
  | 76 => .array .boolean
  | 77 => .array .int
  | 78 => .array .int
  | 79 => .array .long
  | 80 => .array .long
  | 81 => .array .int
  | 82 => .array .int
  | 83 => .array .int
  | 84 => .array .boolean
  | 85 => .int
  | 86 => .array .int
  | 87 => .array .int
  | 88 => .array .int
  | 89 => .array .int
  | 90 => .array .int
  | 91 => .array .int
  | 92 => .array .int
  | 93 => .array .long
  | 94 => .array .int
  | 95 => .array .int
  | 96 => .array .int
  | 97 => .array .int
  | 98 => .array .int
  | 99 => .array .int
  | 100 => .array .int
  | 101 => .array .int
  | 102 => .array .int
  | 103 => .array .int
  | 104 => .array .int
  | 105 => .int
  | 106 => .array .int
  | 107 => .array .int
  | 108 => .array .long
  | 109 => .array .int
  | 110 => .array .int
  | 111 => .int
  | 112 => .array .int
  | 113 => .array .int
  | 114 => .array .int
  | 115 => .array .int
  | 116 => .array .int
  | 117 => .array .int
  | 118 => .array .int
  | 119 => .array .int
  | 120 => .array .int
  | 121 => .array .int
  | 122 => .array .boolean
  | 123 => .array .boolean
  | 124 => .array .boolean
  | 125 => .array .int
  | 126 => .array .int
  | 127 => .array .boolean
  | 128 => .array .boolean
  | 129 => .array .long
  | 130 => .array .long
  | 131 => .array .int
  | 132 => .array .int
  | 133 => .array .int
  | 134 => .array .int
  | 135 => .array .int
  | 136 => .array .int
  | 137 => .array .int
  | 138 => .array .boolean
  | 139 => .array .int
  | 140 => .array .int
  | 141 => .array .int
  | 142 => .array .boolean
  | 143 => .array .long
  | 144 => .array .long
  | 145 => .array .long
  | 146 => .array .long
  | 147 => .array .long
  | 148 => .array .long
  | 149 => .array .long
  | 150 => .array .long
  | 151 => .array .int
  | 152 => .array .int
  | 153 => .array .int
  | 154 => .array .int
  | 155 => .array .int
  | 156 => .array .int
  | 157 => .array .int
  | 158 => .array .int
  | 159 => .array .long
  | 160 => .array .long
  | 161 => .array .int
  | 162 => .array .int
  | 163 => .array .int
  | 164 => .array .int
  | 165 => .array .int
  | 166 => .array .int
  | 167 => .array .long
  | 168 => .array .int
  | 169 => .array .boolean
  | 170 => .array .int
  | 171 => .array .boolean
  | 172 => .array .boolean
  | 173 => .array .long
  | 174 => .array .boolean
  | 175 => .array .int
  | 176 => .array .int
  | 177 => .array .int
  | 178 => .array .int
  | 179 => .array .int
  | 180 => .array .long
  | 181 => .array .long
  | 182 => .array .int
  | 183 => .array .int
  | 184 => .array .int
  | 185 => .array .int
  | 186 => .array .int
  | 187 => .array .int
  | 188 => .array .int
  | 189 => .boolean
  | 190 => .long
  | 191 => .array .int
  | 192 => .array .int
  | 193 => .array .int
  | 194 => .int
  | 195 => .boolean
  | 196 => .int
  | 197 => .int
  | 198 => .boolean
  | 199 => .int
  | 200 => .int
  | 201 => .int
  | 202 => .boolean
  | 203 => .int
  | 204 => .int
  | _ => .array .int
theorem nmX12 : ∀ a, a < 206 → ∀ b, b < 206 → a ≠ b → (TX12 a).2.1 ≠ (TX12 b).2.1 := by decide +kernel
def aCl : List vw_C := [(RX0, TX0, 31), (RX1, TX1, 17), (RX2, TX2, 5), (RX3, TX3, 20), (RX4, TX4, 6), (RX5, TX5, 19), (RX6, TX6, 7), (RX7, TX7, 2), (RX8, TX8, 34), (RX9, TX9, 9), (RX11, TX11, 18), (RX12, TX12, 206)]
end
section
def aOn : Nat → String := fun o => match o with
  | 0 => "SecureLines"
  | 1 => "SecureLines$House"
  | 2 => "SecureLines$Mill"
  | 3 => "SecureLines$Row"
  | 4 => "SecureLines$Fields"
  | 5 => "SecureLines$Pape\x72"
  | 6 => "java/util/Arrays"
  | 7 => "SecureLines$End"
  | 8 => "SecureLines$Shared"
  | 9 => "SecureLines$Serve\x72"
  | 10 => "SecureLines$Side"
  | 11 => "SecureLines$Client"
  | 12 => "SecureLines$Office"
  | 13 => "SecureLinesModel"
  | 14 => "SecureLinesLaw"
  | _ => ""
def aKd : List FieldType := [.int, .long, .boolean, .array .long, .array .int, .object "SecureLines$End", .object "SecureLines$Mill", .object "SecureLines$Office", .object "SecureLines$Pape\x72", .object "SecureLines$Row", .object "SecureLines$Shared", .object "SecureLines$Side"]
def aTy : Nat → Nat → FieldType := fun ci => match ci with
  | 0 => tyX0
  | 1 => tyX1
  | 2 => tyX2
  | 3 => tyX3
  | 4 => tyX4
  | 5 => tyX5
  | 6 => tyX6
  | 7 => tyX7
  | 8 => tyX8
  | 9 => tyX9
  | 10 => tyX11
  | 11 => tyX12
  | _ => fun _ => .int
def aM_0 : am_mE := ((⟨"SecureLines", "<init>", "()V"⟩, prog_1_method_1_code, 1, none, 3, 65, 0), (0, 21), (0, 1))
def aM_1 : am_mE := ((⟨"SecureLines$House", "<init>", "()V"⟩, prog_5_method_1_code, 2, none, 2, 44, 1), (0, 29), (0, 2))
def aM_2 : am_mE := ((⟨"SecureLines$Mill", "<init>", "()V"⟩, prog_6_method_1_code, 1, none, 1, 20, 2), (0, 35), (0, 3))
def aM_3 : am_mE := ((⟨"SecureLines$Row", "<init>", "(I)V"⟩, prog_9_method_1_code, 2, none, 1, 23, 3), (0, 60), (0, 4))
def aM_4 : am_mE := ((⟨"SecureLines$Fields", "<init>", "()V"⟩, prog_4_method_1_code, 1, none, 1, 20, 4), (0, 93), (0, 6))
def aM_5 : am_mE := ((⟨"SecureLines$Pape\x72", "<init>", "(I)V"⟩, prog_8_method_1_code, 2, none, 1, 23, 5), (0, 119), (0, 7))
def aM_6 : am_mE := ((⟨"SecureLines", "feed", "(IJ)I"⟩, prog_1_method_2_code, 5, some .int, 3, 69, 0), (1, 81), (0, 1))
def aM_7 : am_mE := ((⟨"SecureLines$Row", "put", "(I)V"⟩, prog_9_method_7_code, 2, none, 2, 48, 3), (1, 85), (0, 4))
def aM_8 : am_mE := ((⟨"java/util/Arrays", "copyOf", "([II)[I"⟩, prog_18_method_123_code, 3, some ((.array .int)), 1, 26, 6), (1, 89), (0, 9))
def aM_9 : am_mE := ((⟨"SecureLines", "cut", "(I)I"⟩, prog_1_method_3_code, 3, some .int, 0, 0, 0), (1, 106), (0, 1))
def aM_10 : am_mE := ((⟨"SecureLines", "out", "(I)I"⟩, prog_1_method_4_code, 2, some .int, 1, 21, 0), (1, 110), (0, 1))
def aM_11 : am_mE := ((⟨"SecureLines$Row", "at", "(I)I"⟩, prog_9_method_3_code, 2, some .int, 0, 0, 3), (1, 114), (0, 4))
def aM_12 : am_mE := ((⟨"SecureLines", "again", "()I"⟩, prog_1_method_5_code, 1, some .int, 3, 71, 0), (1, 118), (0, 1))
def aM_13 : am_mE := ((⟨"SecureLines$Row", "take", "([III)V"⟩, prog_9_method_12_code, 4, none, 2, 48, 3), (1, 122), (0, 4))
def aM_14 : am_mE := ((⟨"SecureLines", "tick", "(I)I"⟩, prog_1_method_6_code, 2, some .int, 0, 0, 0), (1, 127), (0, 1))
def aM_15 : am_mE := ((⟨"SecureLines", "digest", "(I)J"⟩, prog_1_method_7_code, 4, some .long, 3, 75, 0), (1, 133), (0, 1))
def aM_16 : am_mE := ((⟨"SecureLines", "isHash", "(I)Z"⟩, prog_1_method_17_code, 1, some .boolean, 0, 0, 0), (1, 136), (0, 1))
def aM_17 : am_mE := ((⟨"SecureLines$Mill", "digestOf", "(I[III)J"⟩, prog_6_method_12_code, 5, some .long, 2, 51, 2), (1, 141), (0, 3))
def aM_18 : am_mE := ((⟨"SecureLines$Mill", "start", "(I)V"⟩, prog_6_method_4_code, 2, none, 0, 0, 2), (1, 145), (0, 3))
def aM_19 : am_mE := ((⟨"SecureLines$Mill", "take", "([III)V"⟩, prog_6_method_10_code, 5, none, 1, 27, 2), (1, 149), (0, 3))
def aM_20 : am_mE := ((⟨"SecureLines$Mill", "block", "(J)V"⟩, prog_6_method_6_code, 8, none, 0, 0, 2), (1, 153), (0, 3))
def aM_21 : am_mE := ((⟨"SecureLines$Mill", "finish", "()J"⟩, prog_6_method_11_code, 1, some .long, 1, 27, 2), (1, 157), (0, 3))
def aM_22 : am_mE := ((⟨"SecureLines$Mill", "value", "()J"⟩, prog_6_method_7_code, 1, some .long, 0, 0, 2), (1, 162), (0, 3))
def aM_23 : am_mE := ((⟨"SecureLines$Row", "clea\x72", "()V"⟩, prog_9_method_2_code, 1, none, 0, 0, 3), (1, 167), (0, 4))
def aM_24 : am_mE := ((⟨"SecureLines", "keyed", "(IJ)J"⟩, prog_1_method_8_code, 6, some .long, 3, 78, 0), (1, 171), (0, 1))
def aM_25 : am_mE := ((⟨"SecureLines$Mill", "keyedBytes", "(IJ[III)J"⟩, prog_6_method_15_code, 7, some .long, 2, 52, 2), (1, 175), (0, 3))
def aM_26 : am_mE := ((⟨"SecureLines$Mill", "open", "(IJ)V"⟩, prog_6_method_14_code, 4, none, 1, 27, 2), (1, 179), (0, 3))
def aM_27 : am_mE := ((⟨"SecureLines$Mill", "oute\x72", "(IJJ)J"⟩, prog_6_method_13_code, 6, some .long, 1, 27, 2), (1, 184), (0, 3))
def aM_28 : am_mE := ((⟨"SecureLines", "derived", "(IJIJ)J"⟩, prog_1_method_9_code, 7, some .long, 3, 78, 0), (1, 190), (0, 1))
def aM_29 : am_mE := ((⟨"SecureLines$Mill", "derive", "(IJIJ)J"⟩, prog_6_method_17_code, 7, some .long, 2, 52, 2), (1, 194), (0, 3))
def aM_30 : am_mE := ((⟨"SecureLines$Mill", "put", "(I)V"⟩, prog_6_method_8_code, 2, none, 1, 27, 2), (1, 198), (0, 3))
def aM_31 : am_mE := ((⟨"SecureLines$Mill", "putSecret", "(J)V"⟩, prog_6_method_9_code, 4, none, 1, 27, 2), (1, 202), (0, 3))
def aM_32 : am_mE := ((⟨"SecureLines", "seal", "(IJJI)I"⟩, prog_1_method_10_code, 10, some .int, 4, 93, 0), (1, 206), (0, 1))
def aM_33 : am_mE := ((⟨"SecureLines$Mill", "hashOf", "(I)I"⟩, prog_6_method_2_code, 1, some .int, 0, 0, 2), (1, 209), (0, 3))
def aM_34 : am_mE := ((⟨"SecureLines$Mill", "stream", "(JJ[III)V"⟩, prog_6_method_18_code, 10, none, 1, 27, 2), (1, 213), (0, 3))
def aM_35 : am_mE := ((⟨"SecureLines$Mill", "tag", "(IJLSecureLines$Row;II)J"⟩, prog_6_method_19_code, 8, some .long, 2, 52, 2), (1, 217), (0, 3))
def aM_36 : am_mE := ((⟨"SecureLines$Mill", "tagSize", "(I)I"⟩, prog_6_method_3_code, 1, some .int, 0, 0, 2), (1, 220), (0, 3))
def aM_37 : am_mE := ((⟨"SecureLines$Row", "putHighest", "(JI)V"⟩, prog_9_method_11_code, 5, none, 3, 69, 3), (1, 224), (0, 4))
def aM_38 : am_mE := ((⟨"SecureLines", "unseal", "(IJJI)I"⟩, prog_1_method_11_code, 8, some .int, 4, 112, 0), (1, 229), (0, 1))
def aM_39 : am_mE := ((⟨"SecureLines$Mill", "opens", "(IJJLSecureLines$Row;I)Z"⟩, prog_6_method_20_code, 14, some .boolean, 3, 79, 2), (1, 233), (0, 3))
def aM_40 : am_mE := ((⟨"SecureLines", "point", "(II)I"⟩, prog_1_method_12_code, 3, some .int, 3, 74, 0), (2, 3), (0, 1))
def aM_41 : am_mE := ((⟨"SecureLines$Mill", "groupPoint", "(II)I"⟩, prog_6_method_22_code, 3, some .int, 2, 52, 2), (2, 7), (0, 3))
def aM_42 : am_mE := ((⟨"SecureLines$Mill", "isGroup", "(I)Z"⟩, prog_6_method_23_code, 1, some .boolean, 0, 0, 2), (2, 10), (0, 3))
def aM_43 : am_mE := ((⟨"SecureLines$Mill", "powe\x72", "(JII)I"⟩, prog_6_method_21_code, 10, some .int, 1, 23, 2), (2, 17), (0, 3))
def aM_44 : am_mE := ((⟨"SecureLines", "joint", "(III)J"⟩, prog_1_method_13_code, 4, some .long, 3, 77, 0), (2, 22), (0, 1))
def aM_45 : am_mE := ((⟨"SecureLines$Mill", "jointOf", "(III)J"⟩, prog_6_method_24_code, 6, some .long, 2, 52, 2), (2, 26), (0, 3))
def aM_46 : am_mE := ((⟨"SecureLines", "keyPoint", "(I)I"⟩, prog_1_method_14_code, 2, some .int, 3, 73, 0), (2, 30), (0, 1))
def aM_47 : am_mE := ((⟨"SecureLines", "isKey", "(I)Z"⟩, prog_1_method_19_code, 1, some .boolean, 0, 0, 0), (2, 33), (0, 1))
def aM_48 : am_mE := ((⟨"SecureLines$Mill", "schemePoint", "(I)I"⟩, prog_6_method_25_code, 2, some .int, 2, 52, 2), (2, 38), (0, 3))
def aM_49 : am_mE := ((⟨"SecureLines", "sign", "(II)J"⟩, prog_1_method_15_code, 5, some .long, 4, 108, 0), (2, 44), (0, 1))
def aM_50 : am_mE := ((⟨"SecureLines", "isScheme", "(I)Z"⟩, prog_1_method_18_code, 1, some .boolean, 0, 0, 0), (2, 47), (0, 1))
def aM_51 : am_mE := ((⟨"SecureLines$Mill", "signed", "(II[III)J"⟩, prog_6_method_27_code, 11, some .long, 3, 78, 2), (2, 51), (0, 3))
def aM_52 : am_mE := ((⟨"SecureLines$Mill", "firstOf", "(J)I"⟩, prog_6_method_26_code, 2, some .int, 0, 0, 2), (2, 55), (0, 3))
def aM_53 : am_mE := ((⟨"SecureLines", "fits", "(IIJ)I"⟩, prog_1_method_16_code, 6, some .int, 3, 82, 0), (2, 64), (0, 1))
def aM_54 : am_mE := ((⟨"SecureLines$Mill", "proves", "(IIJ[III)Z"⟩, prog_6_method_28_code, 11, some .boolean, 2, 52, 2), (2, 68), (0, 3))
def aM_55 : am_mE := ((⟨"SecureLines", "node", "()I"⟩, prog_1_method_20_code, 2, some .int, 3, 84, 0), (2, 74), (0, 1))
def aM_56 : am_mE := ((⟨"SecureLines$Pape\x72", "fault", "([III[I)I"⟩, prog_8_method_7_code, 14, some .int, 2, 51, 5), (2, 77), (0, 7))
def aM_57 : am_mE := ((⟨"SecureLines$Pape\x72", "isTag", "(I)Z"⟩, prog_8_method_8_code, 1, some .boolean, 0, 0, 5), (2, 80), (0, 7))
def aM_58 : am_mE := ((⟨"SecureLines$Pape\x72", "lengthSize", "(I)I"⟩, prog_8_method_9_code, 1, some .int, 0, 0, 5), (2, 83), (0, 7))
def aM_59 : am_mE := ((⟨"SecureLines$Pape\x72", "lengthIn", "([III)I"⟩, prog_8_method_10_code, 4, some .int, 0, 0, 5), (2, 86), (0, 7))
def aM_60 : am_mE := ((⟨"SecureLines$Pape\x72", "contentFault", "(I[III)I"⟩, prog_8_method_11_code, 6, some .int, 1, 26, 5), (2, 89), (0, 7))
def aM_61 : am_mE := ((⟨"SecureLines$Pape\x72", "nameFault", "([III)I"⟩, prog_8_method_12_code, 7, some .int, 0, 0, 5), (2, 92), (0, 7))
def aM_62 : am_mE := ((⟨"SecureLines", "wrap", "(II)I"⟩, prog_1_method_21_code, 5, some .int, 5, 134, 0), (2, 96), (0, 1))
def aM_63 : am_mE := ((⟨"SecureLines$Row", "headerSize", "(I)I"⟩, prog_9_method_14_code, 1, some .int, 0, 0, 3), (2, 99), (0, 4))
def aM_64 : am_mE := ((⟨"SecureLines$House", "wrapRow", "(LSecureLines$Row;IILSecureLines$Row;)V"⟩, prog_5_method_2_code, 7, none, 4, 108, 1), (2, 103), (0, 2))
def aM_65 : am_mE := ((⟨"SecureLines$Row", "putHeade\x72", "(II)V"⟩, prog_9_method_15_code, 3, none, 3, 69, 3), (2, 109), (0, 4))
def aM_66 : am_mE := ((⟨"SecureLines$Row", "putSecret", "(J)V"⟩, prog_9_method_10_code, 4, none, 3, 69, 3), (2, 114), (0, 4))
def aM_67 : am_mE := ((⟨"SecureLines", "certificate", "()I"⟩, prog_1_method_22_code, 1, some .int, 7, 176, 0), (2, 118), (0, 1))
def aM_68 : am_mE := ((⟨"SecureLines", "pape\x72", "(I)I"⟩, prog_1_method_25_code, 4, some .int, 6, 153, 0), (2, 122), (0, 1))
def aM_69 : am_mE := ((⟨"SecureLines$House", "hold", "(ILSecureLines$Row;)I"⟩, prog_5_method_3_code, 5, some .int, 5, 129, 1), (2, 126), (0, 2))
def aM_70 : am_mE := ((⟨"SecureLines$Pape\x72", "read", "(I[III)Z"⟩, prog_8_method_18_code, 9, some .boolean, 4, 101, 5), (2, 130), (0, 7))
def aM_71 : am_mE := ((⟨"java/util/Arrays", "fill", "([II)V"⟩, prog_18_method_103_code, 4, none, 0, 0, 6), (2, 134), (0, 9))
def aM_72 : am_mE := ((⟨"SecureLines$Pape\x72", "open", "(II)I"⟩, prog_8_method_20_code, 6, some .int, 0, 0, 5), (2, 138), (0, 7))
def aM_73 : am_mE := ((⟨"SecureLines$Pape\x72", "readInne\x72", "(II)Z"⟩, prog_8_method_24_code, 3, some .boolean, 3, 79, 5), (2, 142), (0, 7))
def aM_74 : am_mE := ((⟨"SecureLines$Pape\x72", "readNumbe\x72", "(I)I"⟩, prog_8_method_21_code, 4, some .int, 1, 25, 5), (2, 146), (0, 7))
def aM_75 : am_mE := ((⟨"SecureLines$Pape\x72", "readName", "(II)Z"⟩, prog_8_method_22_code, 4, some .boolean, 1, 25, 5), (2, 150), (0, 7))
def aM_76 : am_mE := ((⟨"SecureLines$Pape\x72", "mark", "(III)V"⟩, prog_8_method_4_code, 4, none, 0, 0, 5), (2, 154), (0, 7))
def aM_77 : am_mE := ((⟨"SecureLines$Pape\x72", "times", "(I)Z"⟩, prog_8_method_23_code, 2, some .boolean, 2, 48, 5), (2, 158), (0, 7))
def aM_78 : am_mE := ((⟨"SecureLines$Pape\x72", "pointNode", "(I)Z"⟩, prog_8_method_25_code, 3, some .boolean, 1, 25, 5), (2, 163), (0, 7))
def aM_79 : am_mE := ((⟨"SecureLines$Pape\x72", "fourAt", "(I)I"⟩, prog_8_method_19_code, 2, some .int, 0, 0, 5), (2, 167), (0, 7))
def aM_80 : am_mE := ((⟨"SecureLines$Pape\x72", "extensions", "(I)Z"⟩, prog_8_method_28_code, 8, some .boolean, 2, 52, 5), (2, 171), (0, 7))
def aM_81 : am_mE := ((⟨"SecureLines$Pape\x72", "names", "(II)Z"⟩, prog_8_method_29_code, 7, some .boolean, 1, 26, 5), (2, 175), (0, 7))
def aM_82 : am_mE := ((⟨"SecureLines$Pape\x72", "behindSta\x72", "([III)I"⟩, prog_8_method_13_code, 3, some .int, 0, 0, 5), (2, 178), (0, 7))
def aM_83 : am_mE := ((⟨"SecureLines$Pape\x72", "pointIn", "([III)I"⟩, prog_8_method_15_code, 4, some .int, 0, 0, 5), (2, 181), (0, 7))
def aM_84 : am_mE := ((⟨"SecureLines$Pape\x72", "serials", "(I)Z"⟩, prog_8_method_26_code, 5, some .boolean, 1, 25, 5), (2, 185), (0, 7))
def aM_85 : am_mE := ((⟨"SecureLines$Pape\x72", "hasBytesOf", "(LSecureLines$Paper;)Z"⟩, prog_8_method_5_code, 2, some .boolean, 1, 26, 5), (2, 190), (0, 7))
def aM_86 : am_mE := ((⟨"SecureLines$Row", "same", "([III[III)Z"⟩, prog_9_method_18_code, 7, some .boolean, 0, 0, 3), (2, 193), (0, 4))
def aM_87 : am_mE := ((⟨"SecureLines", "list", "()I"⟩, prog_1_method_23_code, 1, some .int, 7, 176, 0), (2, 197), (0, 1))
def aM_88 : am_mE := ((⟨"SecureLines", "answe\x72", "()I"⟩, prog_1_method_24_code, 1, some .int, 7, 176, 0), (2, 201), (0, 1))
def aM_89 : am_mE := ((⟨"SecureLines", "field", "(II)I"⟩, prog_1_method_26_code, 3, some .int, 1, 21, 0), (2, 205), (0, 1))
def aM_90 : am_mE := ((⟨"SecureLines", "isCertificate", "(I)Z"⟩, prog_1_method_28_code, 2, some .boolean, 0, 0, 0), (2, 209), (0, 1))
def aM_91 : am_mE := ((⟨"SecureLines", "text", "(III)I"⟩, prog_1_method_27_code, 8, some .int, 3, 71, 0), (2, 213), (0, 1))
def aM_92 : am_mE := ((⟨"SecureLines$Pape\x72", "start", "(I)I"⟩, prog_8_method_2_code, 2, some .int, 0, 0, 5), (2, 217), (0, 7))
def aM_93 : am_mE := ((⟨"SecureLines$Pape\x72", "stop", "(I)I"⟩, prog_8_method_3_code, 2, some .int, 0, 0, 5), (2, 221), (0, 7))
def aM_94 : am_mE := ((⟨"SecureLines", "row", "(I)I"⟩, prog_1_method_29_code, 2, some .int, 1, 21, 0), (2, 225), (0, 1))
def aM_95 : am_mE := ((⟨"SecureLines", "judge", "(III)I"⟩, prog_1_method_30_code, 5, some .int, 6, 161, 0), (2, 229), (0, 1))
def aM_96 : am_mE := ((⟨"SecureLines", "isEnd", "(I)Z"⟩, prog_1_method_35_code, 2, some .boolean, 0, 0, 0), (2, 233), (0, 1))
def aM_97 : am_mE := ((⟨"SecureLines$House", "isPath", "(LSecureLines$End;)Z"⟩, prog_5_method_11_code, 2, some .boolean, 4, 93, 1), (2, 237), (0, 2))
def aM_98 : am_mE := ((⟨"SecureLines$House", "isLinked", "()Z"⟩, prog_5_method_10_code, 2, some .boolean, 3, 72, 1), (3, 1), (0, 2))
def aM_99 : am_mE := ((⟨"SecureLines$House", "follows", "(LSecureLines$Paper;I)Z"⟩, prog_5_method_9_code, 4, some .boolean, 2, 49, 1), (3, 5), (0, 2))
def aM_100 : am_mE := ((⟨"SecureLines$Pape\x72", "hasSame", "(ILSecureLines$Paper;I)Z"⟩, prog_8_method_6_code, 4, some .boolean, 1, 26, 5), (3, 9), (0, 7))
def aM_101 : am_mE := ((⟨"SecureLines$House", "trusts", "(LSecureLines$End;LSecureLines$Paper;)Z"⟩, prog_5_method_8_code, 4, some .boolean, 2, 47, 1), (3, 15), (0, 2))
def aM_102 : am_mE := ((⟨"SecureLines$House", "why", "(LSecureLines$End;II)I"⟩, prog_5_method_12_code, 8, some .int, 5, 134, 1), (3, 19), (0, 2))
def aM_103 : am_mE := ((⟨"SecureLines$House", "whyOfIssue", "(LSecureLines$Paper;LSecureLines$Paper;I)I"⟩, prog_5_method_13_code, 4, some .int, 4, 107, 1), (3, 23), (0, 2))
def aM_104 : am_mE := ((⟨"SecureLines$House", "isBy", "(LSecureLines$Paper;LSecureLines$Paper;)Z"⟩, prog_5_method_4_code, 6, some .boolean, 3, 82, 1), (3, 27), (0, 2))
def aM_105 : am_mE := ((⟨"SecureLines$House", "whyOfRights", "(II)I"⟩, prog_5_method_14_code, 6, some .int, 3, 75, 1), (3, 34), (0, 2))
def aM_106 : am_mE := ((⟨"SecureLines$House", "mayName", "(LSecureLines$Paper;LSecureLines$Paper;)Z"⟩, prog_5_method_15_code, 5, some .boolean, 2, 51, 1), (3, 37), (0, 2))
def aM_107 : am_mE := ((⟨"SecureLines$Pape\x72", "liesUnde\x72", "(ILSecureLines$Paper;I)Z"⟩, prog_8_method_17_code, 6, some .boolean, 1, 26, 5), (3, 41), (0, 7))
def aM_108 : am_mE := ((⟨"SecureLines$House", "standing", "(LSecureLines$Paper;LSecureLines$Paper;I)I"⟩, prog_5_method_6_code, 8, some .int, 4, 107, 1), (3, 45), (0, 2))
def aM_109 : am_mE := ((⟨"SecureLines$House", "covers", "(LSecureLines$Paper;LSecureLines$Paper;I)Z"⟩, prog_5_method_5_code, 3, some .boolean, 2, 49, 1), (3, 48), (0, 2))
def aM_110 : am_mE := ((⟨"SecureLines$Pape\x72", "lists", "(I)Z"⟩, prog_8_method_27_code, 3, some .boolean, 1, 21, 5), (3, 52), (0, 7))
def aM_111 : am_mE := ((⟨"SecureLines", "build", "(IIII)I"⟩, prog_1_method_31_code, 6, some .int, 7, 190, 0), (3, 56), (0, 1))
def aM_112 : am_mE := ((⟨"SecureLines$House", "findPath", "(LSecureLines$End;III)I"⟩, prog_5_method_16_code, 10, some .int, 6, 161, 1), (3, 60), (0, 2))
def aM_113 : am_mE := ((⟨"SecureLines", "step", "(I)I"⟩, prog_1_method_32_code, 2, some .int, 0, 0, 0), (3, 66), (0, 1))
def aM_114 : am_mE := ((⟨"SecureLines", "status", "(III)I"⟩, prog_1_method_33_code, 4, some .int, 5, 134, 0), (3, 70), (0, 1))
def aM_115 : am_mE := ((⟨"SecureLines", "end", "(I)I"⟩, prog_1_method_34_code, 2, some .int, 3, 65, 0), (3, 75), (0, 1))
def aM_116 : am_mE := ((⟨"SecureLines$End", "<init>", "(Z)V"⟩, prog_3_method_1_code, 2, none, 2, 44, 7), (3, 79), (0, 11))
def aM_117 : am_mE := ((⟨"SecureLines", "offe\x72", "(III)I"⟩, prog_1_method_37_code, 5, some .int, 2, 48, 0), (3, 170), (0, 1))
def aM_118 : am_mE := ((⟨"SecureLines$End", "countOf", "(II)I"⟩, prog_3_method_2_code, 6, some .int, 0, 0, 7), (3, 173), (0, 11))
def aM_119 : am_mE := ((⟨"SecureLines$End", "offerAll", "(II)V"⟩, prog_3_method_3_code, 6, none, 1, 23, 7), (3, 177), (0, 11))
def aM_120 : am_mE := ((⟨"SecureLines", "setting", "(III)I"⟩, prog_1_method_38_code, 5, some .int, 1, 22, 0), (3, 182), (0, 1))
def aM_121 : am_mE := ((⟨"SecureLines$End", "mayBe", "(II)Z"⟩, prog_3_method_7_code, 3, some .boolean, 0, 0, 7), (3, 186), (0, 11))
def aM_122 : am_mE := ((⟨"SecureLines", "random", "(I)I"⟩, prog_1_method_39_code, 3, some .int, 3, 71, 0), (3, 192), (0, 1))
def aM_123 : am_mE := ((⟨"SecureLines", "trust", "(II)I"⟩, prog_1_method_40_code, 3, some .int, 1, 22, 0), (3, 196), (0, 1))
def aM_124 : am_mE := ((⟨"SecureLines$End", "ancho\x72", "(I)I"⟩, prog_3_method_8_code, 3, some .int, 0, 0, 7), (3, 200), (0, 11))
def aM_125 : am_mE := ((⟨"SecureLines", "identity", "(II)I"⟩, prog_1_method_41_code, 5, some .int, 3, 73, 0), (3, 204), (0, 1))
def aM_126 : am_mE := ((⟨"SecureLines", "host", "(I)I"⟩, prog_1_method_42_code, 2, some .int, 3, 71, 0), (3, 208), (0, 1))
def aM_127 : am_mE := ((⟨"SecureLines", "isClient", "(I)Z"⟩, prog_1_method_36_code, 2, some .boolean, 1, 21, 0), (3, 212), (0, 1))
def aM_128 : am_mE := ((⟨"SecureLines", "shared", "(IIJ)I"⟩, prog_1_method_43_code, 5, some .int, 3, 72, 0), (3, 217), (0, 1))
def aM_129 : am_mE := ((⟨"SecureLines$Shared", "<init>", "(LSecureLines$Row;IJ)V"⟩, prog_11_method_1_code, 5, none, 2, 48, 8), (3, 222), (0, 12))
def aM_130 : am_mE := ((⟨"SecureLines$End", "keep", "(LSecureLines$Shared;)V"⟩, prog_3_method_9_code, 2, none, 0, 0, 7), (4, 31), (0, 11))
def aM_131 : am_mE := ((⟨"SecureLines", "forget", "(II)I"⟩, prog_1_method_44_code, 3, some .int, 1, 22, 0), (4, 35), (0, 1))
def aM_132 : am_mE := ((⟨"SecureLines$End", "lose", "(I)I"⟩, prog_3_method_10_code, 3, some .int, 0, 0, 7), (4, 39), (0, 11))
def aM_133 : am_mE := ((⟨"SecureLines", "ticket", "(III)I"⟩, prog_1_method_45_code, 5, some .int, 3, 71, 0), (4, 43), (0, 1))
def aM_134 : am_mE := ((⟨"SecureLines$Shared", "fact", "(I)I"⟩, prog_11_method_3_code, 2, some .int, 0, 0, 8), (4, 47), (0, 12))
def aM_135 : am_mE := ((⟨"SecureLines", "early", "(I)I"⟩, prog_1_method_46_code, 2, some .int, 3, 71, 0), (4, 51), (0, 1))
def aM_136 : am_mE := ((⟨"SecureLines", "connection", "(II)I"⟩, prog_1_method_47_code, 7, some .int, 7, 171, 0), (4, 55), (0, 1))
def aM_137 : am_mE := ((⟨"SecureLines$Serve\x72", "<init>", "(LSecureLines$House;LSecureLines$End;)V"⟩, prog_10_method_1_code, 3, none, 3, 67, 9), (4, 60), (0, 14))
def aM_138 : am_mE := ((⟨"SecureLines$Side", "<init>", "(LSecureLines$House;LSecureLines$End;)V"⟩, prog_12_method_1_code, 4, none, 2, 44, 10), (4, 63), (0, 13))
def aM_139 : am_mE := ((⟨"SecureLines$Client", "<init>", "(LSecureLines$House;LSecureLines$End;)V"⟩, prog_2_method_1_code, 3, none, 3, 67, 11), (4, 219), (0, 15))
def aM_140 : am_mE := ((⟨"SecureLines$Client", "greet", "()V"⟩, prog_2_method_2_code, 5, none, 6, 147, 11), (5, 41), (0, 15))
def aM_141 : am_mE := ((⟨"SecureLines$End", "drawSecret", "()J"⟩, prog_3_method_14_code, 3, some .long, 3, 69, 7), (5, 45), (0, 11))
def aM_142 : am_mE := ((⟨"SecureLines$End", "drawFou\x72", "()I"⟩, prog_3_method_13_code, 2, some .int, 2, 48, 7), (5, 49), (0, 11))
def aM_143 : am_mE := ((⟨"SecureLines$Row", "fourAt", "(I)I"⟩, prog_9_method_5_code, 2, some .int, 1, 21, 3), (5, 53), (0, 4))
def aM_144 : am_mE := ((⟨"SecureLines$Row", "drop", "(I)V"⟩, prog_9_method_13_code, 3, none, 1, 26, 3), (5, 58), (0, 4))
def aM_145 : am_mE := ((⟨"SecureLines$Client", "gathe\x72", "()V"⟩, prog_2_method_3_code, 2, none, 2, 42, 11), (5, 64), (0, 15))
def aM_146 : am_mE := ((⟨"SecureLines$End", "hashes", "(I)Z"⟩, prog_3_method_6_code, 3, some .boolean, 1, 20, 7), (5, 68), (0, 11))
def aM_147 : am_mE := ((⟨"SecureLines$Client", "buildHello", "(ILSecureLines$Fields;)V"⟩, prog_2_method_5_code, 4, none, 5, 115, 11), (5, 73), (0, 15))
def aM_148 : am_mE := ((⟨"SecureLines$Side", "begin", "(I)LSecureLines$Row;"⟩, prog_12_method_18_code, 2, some ((.object "SecureLines$Row")), 4, 90, 10), (5, 79), (0, 13))
def aM_149 : am_mE := ((⟨"SecureLines$Row", "putTwo", "(I)V"⟩, prog_9_method_8_code, 2, none, 3, 69, 3), (5, 85), (0, 4))
def aM_150 : am_mE := ((⟨"SecureLines$Side", "putOffers", "(LSecureLines$Row;II)V"⟩, prog_12_method_19_code, 6, none, 4, 90, 10), (5, 94), (0, 13))
def aM_151 : am_mE := ((⟨"SecureLines$End", "drawNumbe\x72", "()I"⟩, prog_3_method_15_code, 1, some .int, 3, 69, 7), (5, 98), (0, 11))
def aM_152 : am_mE := ((⟨"SecureLines$Row", "putFou\x72", "(I)V"⟩, prog_9_method_9_code, 3, none, 3, 69, 3), (5, 104), (0, 4))
def aM_153 : am_mE := ((⟨"SecureLines$Fields", "has", "(I)Z"⟩, prog_4_method_6_code, 2, some .boolean, 0, 0, 4), (5, 109), (0, 6))
def aM_154 : am_mE := ((⟨"SecureLines$Fields", "secretOf", "(II)J"⟩, prog_4_method_9_code, 3, some .long, 2, 44, 4), (5, 113), (0, 6))
def aM_155 : am_mE := ((⟨"SecureLines$Fields", "fourOf", "(II)I"⟩, prog_4_method_8_code, 3, some .int, 1, 22, 4), (5, 117), (0, 6))
def aM_156 : am_mE := ((⟨"SecureLines$Fields", "byteOf", "(II)I"⟩, prog_4_method_7_code, 3, some .int, 0, 0, 4), (5, 121), (0, 6))
def aM_157 : am_mE := ((⟨"SecureLines$Client", "addShared", "()V"⟩, prog_2_method_6_code, 5, none, 4, 108, 11), (5, 126), (0, 15))
def aM_158 : am_mE := ((⟨"SecureLines$Side", "measure", "(LSecureLines$Row;I)V"⟩, prog_12_method_20_code, 3, none, 0, 0, 10), (5, 130), (0, 13))
def aM_159 : am_mE := ((⟨"SecureLines$Side", "binde\x72", "(IJ[II)J"⟩, prog_12_method_36_code, 11, some .long, 3, 78, 10), (5, 136), (0, 13))
def aM_160 : am_mE := ((⟨"SecureLines$Mill", "keyedSecret", "(IJJ)J"⟩, prog_6_method_16_code, 6, some .long, 2, 52, 2), (5, 140), (0, 3))
def aM_161 : am_mE := ((⟨"SecureLines$Mill", "follow", "(LSecureLines$Mill;)V"⟩, prog_6_method_5_code, 2, none, 0, 0, 2), (5, 145), (0, 3))
def aM_162 : am_mE := ((⟨"SecureLines$Side", "send", "()V"⟩, prog_12_method_21_code, 2, none, 5, 126, 10), (5, 153), (0, 13))
def aM_163 : am_mE := ((⟨"SecureLines$Side", "note", "(I[II)V"⟩, prog_12_method_22_code, 5, none, 2, 51, 10), (5, 161), (0, 13))
def aM_164 : am_mE := ((⟨"SecureLines$Side", "put", "(I[III)V"⟩, prog_12_method_16_code, 14, none, 4, 93, 10), (5, 168), (0, 13))
def aM_165 : am_mE := ((⟨"SecureLines$Side", "digestBy", "(I)J"⟩, prog_12_method_23_code, 2, some .long, 2, 47, 10), (5, 181), (0, 13))
def aM_166 : am_mE := ((⟨"SecureLines$Side", "writeBy", "(JI)V"⟩, prog_12_method_27_code, 4, none, 0, 0, 10), (5, 188), (0, 13))
def aM_167 : am_mE := ((⟨"SecureLines", "give", "(II)I"⟩, prog_1_method_50_code, 4, some .int, 8, 200, 0), (5, 197), (0, 1))
def aM_168 : am_mE := ((⟨"SecureLines", "isSide", "(II)Z"⟩, prog_1_method_48_code, 3, some .boolean, 0, 0, 0), (5, 201), (0, 1))
def aM_169 : am_mE := ((⟨"SecureLines", "sideOf", "(II)LSecureLines$Side;"⟩, prog_1_method_49_code, 3, some ((.object "SecureLines$Side")), 1, 22, 0), (5, 205), (0, 1))
def aM_170 : am_mE := ((⟨"SecureLines$Side", "arrive", "([III)V"⟩, prog_12_method_9_code, 10, none, 7, 171, 10), (5, 211), (0, 13))
def aM_171 : am_mE := ((⟨"SecureLines$Row", "twoAt", "(I)I"⟩, prog_9_method_4_code, 2, some .int, 1, 21, 3), (5, 215), (0, 4))
def aM_172 : am_mE := ((⟨"SecureLines$Side", "headFault", "()I"⟩, prog_12_method_11_code, 2, some .int, 2, 42, 10), (5, 220), (0, 13))
def aM_173 : am_mE := ((⟨"SecureLines$Side", "takeRecord", "()I"⟩, prog_12_method_12_code, 6, some .int, 5, 133, 10), (5, 224), (0, 13))
def aM_174 : am_mE := ((⟨"SecureLines$Side", "opens", "()Z"⟩, prog_12_method_13_code, 2, some .boolean, 4, 112, 10), (5, 228), (0, 13))
def aM_175 : am_mE := ((⟨"SecureLines$Side", "hearAll", "(I)I"⟩, prog_12_method_14_code, 2, some .int, 3, 71, 10), (5, 233), (0, 13))
def aM_176 : am_mE := ((⟨"SecureLines$Client", "mayHea\x72", "(I)Z"⟩, prog_2_method_10_code, 2, some .boolean, 0, 0, 11), (5, 239), (0, 15))
def aM_177 : am_mE := ((⟨"SecureLines$Serve\x72", "mayHea\x72", "(I)Z"⟩, prog_10_method_5_code, 2, some .boolean, 0, 0, 9), (6, 2), (0, 14))
def aM_178 : am_mE := ((⟨"SecureLines$Side", "takeAlert", "(I)I"⟩, prog_12_method_15_code, 2, some .int, 1, 21, 10), (6, 6), (0, 13))
def aM_179 : am_mE := ((⟨"SecureLines$Side", "firstMessage", "()I"⟩, prog_12_method_10_code, 2, some .int, 2, 42, 10), (6, 10), (0, 13))
def aM_180 : am_mE := ((⟨"SecureLines$Client", "check", "(II)I"⟩, prog_2_method_8_code, 3, some .int, 6, 141, 11), (6, 16), (0, 15))
def aM_181 : am_mE := ((⟨"SecureLines$Client", "may", "(I)Z"⟩, prog_2_method_7_code, 2, some .boolean, 0, 0, 11), (6, 20), (0, 15))
def aM_182 : am_mE := ((⟨"SecureLines$Client", "checkAnswe\x72", "(I)I"⟩, prog_2_method_12_code, 8, some .int, 3, 80, 11), (6, 24), (0, 15))
def aM_183 : am_mE := ((⟨"SecureLines$Fields", "read", "([IIII)I"⟩, prog_4_method_2_code, 10, some .int, 2, 51, 4), (6, 28), (0, 6))
def aM_184 : am_mE := ((⟨"SecureLines$Fields", "belongs", "(II)Z"⟩, prog_4_method_3_code, 2, some .boolean, 0, 0, 4), (6, 32), (0, 6))
def aM_185 : am_mE := ((⟨"SecureLines$Fields", "isAsTold", "(IIII)Z"⟩, prog_4_method_4_code, 6, some .boolean, 1, 26, 4), (6, 36), (0, 6))
def aM_186 : am_mE := ((⟨"SecureLines$Fields", "isShared", "(II)Z"⟩, prog_4_method_5_code, 5, some .boolean, 0, 0, 4), (6, 41), (0, 6))
def aM_187 : am_mE := ((⟨"SecureLines$End", "offers", "(II)Z"⟩, prog_3_method_4_code, 4, some .boolean, 0, 0, 7), (6, 46), (0, 11))
def aM_188 : am_mE := ((⟨"SecureLines$Client", "checkRetry", "(I)I"⟩, prog_2_method_13_code, 6, some .int, 3, 80, 11), (6, 54), (0, 15))
def aM_189 : am_mE := ((⟨"SecureLines$Client", "checkBeginning", "(I)I"⟩, prog_2_method_14_code, 4, some .int, 3, 80, 11), (6, 58), (0, 15))
def aM_190 : am_mE := ((⟨"SecureLines$Client", "checkAsking", "(I)I"⟩, prog_2_method_15_code, 3, some .int, 3, 80, 11), (6, 62), (0, 15))
def aM_191 : am_mE := ((⟨"SecureLines$Side", "checkProof", "(II)I"⟩, prog_12_method_46_code, 6, some .int, 5, 116, 10), (6, 68), (0, 13))
def aM_192 : am_mE := ((⟨"SecureLines$Side", "digestNow", "()J"⟩, prog_12_method_25_code, 1, some .long, 3, 68, 10), (6, 75), (0, 13))
def aM_193 : am_mE := ((⟨"SecureLines$Side", "hash", "()I"⟩, prog_12_method_24_code, 1, some .int, 1, 20, 10), (6, 81), (0, 13))
def aM_194 : am_mE := ((⟨"SecureLines$Side", "proven", "(IJ)LSecureLines$Row;"⟩, prog_12_method_40_code, 5, some ((.object "SecureLines$Row")), 4, 92, 10), (6, 86), (0, 13))
def aM_195 : am_mE := ((⟨"SecureLines$Row", "secretAt", "(I)J"⟩, prog_9_method_6_code, 2, some .long, 2, 42, 3), (6, 91), (0, 4))
def aM_196 : am_mE := ((⟨"SecureLines$Side", "checkEnd", "(IJ)I"⟩, prog_12_method_47_code, 4, some .int, 4, 103, 10), (6, 100), (0, 13))
def aM_197 : am_mE := ((⟨"SecureLines$Side", "endBy", "(JJ)J"⟩, prog_12_method_35_code, 6, some .long, 3, 78, 10), (6, 104), (0, 13))
def aM_198 : am_mE := ((⟨"SecureLines$Side", "checkNewKeys", "(I)I"⟩, prog_12_method_48_code, 2, some .int, 1, 21, 10), (6, 110), (0, 13))
def aM_199 : am_mE := ((⟨"SecureLines$Serve\x72", "check", "(II)I"⟩, prog_10_method_3_code, 3, some .int, 6, 141, 9), (6, 113), (0, 14))
def aM_200 : am_mE := ((⟨"SecureLines$Serve\x72", "may", "(I)Z"⟩, prog_10_method_2_code, 2, some .boolean, 0, 0, 9), (6, 117), (0, 14))
def aM_201 : am_mE := ((⟨"SecureLines$Serve\x72", "checkHello", "(I)I"⟩, prog_10_method_7_code, 6, some .int, 4, 108, 9), (6, 121), (0, 14))
def aM_202 : am_mE := ((⟨"SecureLines$Fields", "tells", "(II)Z"⟩, prog_4_method_10_code, 4, some .boolean, 0, 0, 4), (6, 126), (0, 6))
def aM_203 : am_mE := ((⟨"SecureLines$Serve\x72", "isAgain", "(LSecureLines$Fields;)Z"⟩, prog_10_method_8_code, 4, some .boolean, 3, 80, 9), (6, 130), (0, 14))
def aM_204 : am_mE := ((⟨"SecureLines$Fields", "isSame", "(ILSecureLines$Fields;)Z"⟩, prog_4_method_11_code, 3, some .boolean, 1, 26, 4), (6, 134), (0, 6))
def aM_205 : am_mE := ((⟨"SecureLines$End", "firstIn", "(ILSecureLines$Fields;I)I"⟩, prog_3_method_5_code, 5, some .int, 1, 23, 7), (6, 144), (0, 11))
def aM_206 : am_mE := ((⟨"SecureLines$Serve\x72", "findUsed", "(LSecureLines$Fields;)V"⟩, prog_10_method_9_code, 6, none, 3, 76, 9), (6, 149), (0, 14))
def aM_207 : am_mE := ((⟨"SecureLines$End", "known", "([IIIII)LSecureLines$Shared;"⟩, prog_3_method_12_code, 7, some ((.object "SecureLines$Shared")), 2, 50, 7), (6, 155), (0, 11))
def aM_208 : am_mE := ((⟨"SecureLines$Shared", "is", "([IIII)Z"⟩, prog_11_method_4_code, 5, some .boolean, 1, 26, 8), (6, 159), (0, 12))
def aM_209 : am_mE := ((⟨"SecureLines$Serve\x72", "checkWays", "(LSecureLines$Fields;)I"⟩, prog_10_method_10_code, 3, some .int, 2, 47, 9), (6, 167), (0, 14))
def aM_210 : am_mE := ((⟨"SecureLines$Side", "checkChain", "(I)I"⟩, prog_12_method_43_code, 8, some .int, 5, 129, 10), (6, 184), (0, 13))
def aM_211 : am_mE := ((⟨"SecureLines$Side", "isChain", "(I)Z"⟩, prog_12_method_44_code, 5, some .boolean, 2, 42, 10), (6, 188), (0, 13))
def aM_212 : am_mE := ((⟨"SecureLines$House", "lineUp", "(LSecureLines$End;I)I"⟩, prog_5_method_17_code, 4, some .int, 4, 93, 1), (6, 194), (0, 2))
def aM_213 : am_mE := ((⟨"SecureLines$House", "anchorOve\x72", "(LSecureLines$End;LSecureLines$Paper;)LSecureLines$Paper;"⟩, prog_5_method_18_code, 5, some ((.object "SecureLines$Pape\x72")), 2, 49, 1), (6, 198), (0, 2))
def aM_214 : am_mE := ((⟨"SecureLines$Client", "chainFault", "(I)I"⟩, prog_2_method_11_code, 6, some .int, 2, 52, 11), (6, 205), (0, 15))
def aM_215 : am_mE := ((⟨"SecureLines$Side", "alertOf", "(I)I"⟩, prog_12_method_45_code, 2, some .int, 0, 0, 10), (6, 209), (0, 13))
def aM_216 : am_mE := ((⟨"SecureLines$Pape\x72", "meets", "(I[II)Z"⟩, prog_8_method_16_code, 7, some .boolean, 1, 26, 5), (6, 213), (0, 7))
def aM_217 : am_mE := ((⟨"SecureLines$Serve\x72", "chainFault", "(I)I"⟩, prog_10_method_6_code, 2, some .int, 1, 21, 9), (6, 216), (0, 14))
def aM_218 : am_mE := ((⟨"SecureLines$Client", "turnsKey", "(I)Z"⟩, prog_2_method_9_code, 2, some .boolean, 0, 0, 11), (6, 224), (0, 15))
def aM_219 : am_mE := ((⟨"SecureLines$Serve\x72", "turnsKey", "(I)Z"⟩, prog_10_method_4_code, 2, some .boolean, 0, 0, 9), (6, 227), (0, 14))
def aM_220 : am_mE := ((⟨"SecureLines$Client", "act", "(II)V"⟩, prog_2_method_16_code, 4, none, 6, 147, 11), (6, 233), (0, 15))
def aM_221 : am_mE := ((⟨"SecureLines$Side", "shorten", "()V"⟩, prog_12_method_26_code, 4, none, 3, 68, 10), (6, 239), (0, 13))
def aM_222 : am_mE := ((⟨"SecureLines$Side", "makeHand", "(JJ)V"⟩, prog_12_method_32_code, 7, none, 4, 103, 10), (7, 11), (0, 13))
def aM_223 : am_mE := ((⟨"SecureLines$Side", "keyedSecret", "(JJ)J"⟩, prog_12_method_31_code, 5, some .long, 3, 77, 10), (7, 17), (0, 13))
def aM_224 : am_mE := ((⟨"SecureLines$Side", "derive", "(JIJ)J"⟩, prog_12_method_30_code, 6, some .long, 3, 78, 10), (7, 23), (0, 13))
def aM_225 : am_mE := ((⟨"SecureLines$Client", "takeAnswe\x72", "()V"⟩, prog_2_method_18_code, 2, none, 1, 23, 11), (7, 27), (0, 15))
def aM_226 : am_mE := ((⟨"SecureLines$Side", "readBy", "(J)V"⟩, prog_12_method_29_code, 3, none, 0, 0, 10), (7, 33), (0, 13))
def aM_227 : am_mE := ((⟨"SecureLines$Client", "takeRetry", "()V"⟩, prog_2_method_19_code, 1, none, 2, 40, 11), (7, 37), (0, 15))
def aM_228 : am_mE := ((⟨"SecureLines$Side", "writeOpenly", "()V"⟩, prog_12_method_28_code, 1, none, 0, 0, 10), (7, 43), (0, 13))
def aM_229 : am_mE := ((⟨"SecureLines$Client", "sift", "(I)V"⟩, prog_2_method_4_code, 4, none, 0, 0, 11), (7, 51), (0, 15))
def aM_230 : am_mE := ((⟨"SecureLines$Side", "makeMaste\x72", "()J"⟩, prog_12_method_33_code, 3, some .long, 4, 103, 10), (7, 57), (0, 13))
def aM_231 : am_mE := ((⟨"SecureLines$Client", "provingScheme", "()I"⟩, prog_2_method_22_code, 3, some .int, 0, 0, 11), (7, 61), (0, 15))
def aM_232 : am_mE := ((⟨"SecureLines$Side", "buildChain", "(ILSecureLines$Paper;)V"⟩, prog_12_method_39_code, 6, none, 5, 111, 10), (7, 67), (0, 13))
def aM_233 : am_mE := ((⟨"SecureLines$Side", "buildProof", "(II)V"⟩, prog_12_method_41_code, 7, none, 5, 116, 10), (7, 74), (0, 13))
def aM_234 : am_mE := ((⟨"SecureLines$Side", "buildEnd", "(J)V"⟩, prog_12_method_42_code, 5, none, 5, 111, 10), (7, 81), (0, 13))
def aM_235 : am_mE := ((⟨"SecureLines$Side", "makeNext", "()V"⟩, prog_12_method_34_code, 1, none, 4, 103, 10), (7, 87), (0, 13))
def aM_236 : am_mE := ((⟨"SecureLines$Client", "takeTicket", "()V"⟩, prog_2_method_23_code, 3, none, 4, 103, 11), (7, 91), (0, 15))
def aM_237 : am_mE := ((⟨"SecureLines$Shared", "becomeTicket", "(IIII)V"⟩, prog_11_method_2_code, 5, none, 0, 0, 8), (7, 102), (0, 12))
def aM_238 : am_mE := ((⟨"SecureLines$Side", "takeNewKeys", "()Z"⟩, prog_12_method_50_code, 1, some .boolean, 4, 103, 10), (7, 109), (0, 13))
def aM_239 : am_mE := ((⟨"SecureLines$Side", "buildNewKeys", "(I)V"⟩, prog_12_method_37_code, 2, none, 5, 111, 10), (7, 116), (0, 13))
def aM_240 : am_mE := ((⟨"SecureLines$Side", "turnWriting", "()V"⟩, prog_12_method_38_code, 1, none, 4, 103, 10), (7, 122), (0, 13))
def aM_241 : am_mE := ((⟨"SecureLines$Client", "takeShown", "(I)V"⟩, prog_2_method_17_code, 2, none, 2, 44, 11), (7, 127), (0, 15))
def aM_242 : am_mE := ((⟨"SecureLines$Client", "takeBeginning", "()V"⟩, prog_2_method_20_code, 1, none, 1, 23, 11), (7, 131), (0, 15))
def aM_243 : am_mE := ((⟨"SecureLines$Client", "takeAsking", "()V"⟩, prog_2_method_21_code, 2, none, 1, 23, 11), (7, 135), (0, 15))
def aM_244 : am_mE := ((⟨"SecureLines$Side", "takeChain", "()V"⟩, prog_12_method_49_code, 1, none, 1, 21, 10), (7, 142), (0, 13))
def aM_245 : am_mE := ((⟨"SecureLines$Serve\x72", "act", "(II)V"⟩, prog_10_method_12_code, 5, none, 6, 147, 9), (7, 145), (0, 14))
def aM_246 : am_mE := ((⟨"SecureLines$Serve\x72", "buildRetry", "(I)V"⟩, prog_10_method_14_code, 3, none, 5, 111, 9), (7, 152), (0, 14))
def aM_247 : am_mE := ((⟨"SecureLines$Serve\x72", "buildAnswe\x72", "()V"⟩, prog_10_method_15_code, 2, none, 5, 111, 9), (7, 177), (0, 14))
def aM_248 : am_mE := ((⟨"SecureLines$Serve\x72", "startKeys", "(J)V"⟩, prog_10_method_16_code, 3, none, 4, 103, 9), (7, 186), (0, 14))
def aM_249 : am_mE := ((⟨"SecureLines$Serve\x72", "isEarlyTaken", "(LSecureLines$Fields;)Z"⟩, prog_10_method_11_code, 5, some .boolean, 2, 44, 9), (7, 190), (0, 14))
def aM_250 : am_mE := ((⟨"SecureLines$Serve\x72", "buildBeginning", "()V"⟩, prog_10_method_17_code, 2, none, 5, 111, 9), (7, 206), (0, 14))
def aM_251 : am_mE := ((⟨"SecureLines$Serve\x72", "buildAsking", "()V"⟩, prog_10_method_18_code, 1, none, 5, 115, 9), (7, 210), (0, 14))
def aM_252 : am_mE := ((⟨"SecureLines$House", "answerOf", "(LSecureLines$Paper;)LSecureLines$Paper;"⟩, prog_5_method_7_code, 3, some ((.object "SecureLines$Pape\x72")), 2, 49, 1), (7, 217), (0, 2))
def aM_253 : am_mE := ((⟨"SecureLines$Serve\x72", "buildTicket", "(I)V"⟩, prog_10_method_19_code, 9, none, 5, 111, 9), (7, 236), (0, 14))
def aM_254 : am_mE := ((⟨"SecureLines$End", "nextTicket", "(LSecureLines$Mill;)J"⟩, prog_3_method_16_code, 2, some .long, 3, 78, 7), (8, 0), (0, 11))
def aM_255 : am_mE := ((⟨"SecureLines$End", "note", "(LSecureLines$Shared;)V"⟩, prog_3_method_11_code, 3, none, 1, 23, 7), (8, 12), (0, 11))
def aM_256 : am_mE := ((⟨"SecureLines$Serve\x72", "takeShown", "(I)V"⟩, prog_10_method_13_code, 2, none, 2, 41, 9), (8, 26), (0, 14))
def aM_257 : am_mE := ((⟨"SecureLines$Side", "putAlert", "(I)V"⟩, prog_12_method_17_code, 2, none, 5, 126, 10), (8, 36), (0, 13))
def aM_258 : am_mE := ((⟨"SecureLines", "bring", "(III)I"⟩, prog_1_method_51_code, 7, some .int, 8, 200, 0), (8, 40), (0, 1))
def aM_259 : am_mE := ((⟨"SecureLines", "line", "(III)I"⟩, prog_1_method_52_code, 6, some .int, 2, 44, 0), (8, 46), (0, 1))
def aM_260 : am_mE := ((⟨"SecureLines", "alte\x72", "(IIII)I"⟩, prog_1_method_53_code, 6, some .int, 2, 44, 0), (8, 50), (0, 1))
def aM_261 : am_mE := ((⟨"SecureLines", "say", "(II)I"⟩, prog_1_method_54_code, 5, some .int, 5, 126, 0), (8, 54), (0, 1))
def aM_262 : am_mE := ((⟨"SecureLines$Side", "maySay", "()Z"⟩, prog_12_method_7_code, 1, some .boolean, 0, 0, 10), (8, 60), (0, 13))
def aM_263 : am_mE := ((⟨"SecureLines", "hea\x72", "(II)I"⟩, prog_1_method_55_code, 4, some .int, 3, 69, 0), (8, 65), (0, 1))
def aM_264 : am_mE := ((⟨"SecureLines$Side", "nextHeard", "()I"⟩, prog_12_method_8_code, 2, some .int, 2, 48, 10), (8, 71), (0, 13))
def aM_265 : am_mE := ((⟨"SecureLines", "close", "(II)I"⟩, prog_1_method_56_code, 4, some .int, 6, 147, 0), (8, 75), (0, 1))
def aM_266 : am_mE := ((⟨"SecureLines", "renew", "(III)I"⟩, prog_1_method_57_code, 5, some .int, 6, 147, 0), (8, 80), (0, 1))
def aM_267 : am_mE := ((⟨"SecureLines", "told", "(III)I"⟩, prog_1_method_58_code, 5, some .int, 2, 44, 0), (8, 87), (0, 1))
def aM_268 : am_mE := ((⟨"SecureLines", "key", "(III)J"⟩, prog_1_method_59_code, 5, some .long, 4, 88, 0), (8, 91), (0, 1))
def aM_269 : am_mE := ((⟨"SecureLines", "export", "(II)J"⟩, prog_1_method_60_code, 9, some .long, 3, 78, 0), (8, 96), (0, 1))
def aM_270 : am_mE := ((⟨"SecureLines", "office", "(III)I"⟩, prog_1_method_61_code, 5, some .int, 3, 73, 0), (8, 100), (0, 1))
def aM_271 : am_mE := ((⟨"SecureLines$Office", "<init>", "(LSecureLines$House;LSecureLines$Paper;II)V"⟩, prog_7_method_1_code, 5, none, 1, 20, 12), (8, 104), (0, 16))
def aM_272 : am_mE := ((⟨"SecureLines", "account", "(IJ)I"⟩, prog_1_method_65_code, 4, some .int, 1, 22, 0), (8, 172), (0, 1))
def aM_273 : am_mE := ((⟨"SecureLines", "isOffice", "(I)Z"⟩, prog_1_method_62_code, 2, some .boolean, 0, 0, 0), (8, 176), (0, 1))
def aM_274 : am_mE := ((⟨"SecureLines$Office", "openAccount", "(J)I"⟩, prog_7_method_2_code, 3, some .int, 0, 0, 12), (8, 180), (0, 16))
def aM_275 : am_mE := ((⟨"SecureLines", "orde\x72", "(II)I"⟩, prog_1_method_66_code, 4, some .int, 4, 101, 0), (8, 184), (0, 1))
def aM_276 : am_mE := ((⟨"SecureLines$Office", "takeOrde\x72", "(ILSecureLines$Row;)I"⟩, prog_7_method_3_code, 8, some .int, 3, 74, 12), (8, 188), (0, 16))
def aM_277 : am_mE := ((⟨"SecureLines$Office", "countPatterns", "(LSecureLines$Row;)I"⟩, prog_7_method_5_code, 6, some .int, 2, 49, 12), (8, 191), (0, 16))
def aM_278 : am_mE := ((⟨"SecureLines$Office", "comma", "(LSecureLines$Row;I)I"⟩, prog_7_method_4_code, 3, some .int, 1, 21, 12), (8, 194), (0, 16))
def aM_279 : am_mE := ((⟨"SecureLines$Pape\x72", "isPattern", "([III)Z"⟩, prog_8_method_14_code, 4, some .boolean, 1, 26, 5), (8, 198), (0, 7))
def aM_280 : am_mE := ((⟨"SecureLines", "ordered", "(III)I"⟩, prog_1_method_67_code, 4, some .int, 2, 43, 0), (8, 205), (0, 1))
def aM_281 : am_mE := ((⟨"SecureLines", "isOrde\x72", "(II)Z"⟩, prog_1_method_63_code, 3, some .boolean, 1, 21, 0), (8, 209), (0, 1))
def aM_282 : am_mE := ((⟨"SecureLines$Office", "fact", "(II)I"⟩, prog_7_method_6_code, 4, some .int, 0, 0, 12), (8, 213), (0, 16))
def aM_283 : am_mE := ((⟨"SecureLines", "zone", "(J)I"⟩, prog_1_method_68_code, 4, some .int, 3, 71, 0), (8, 217), (0, 1))
def aM_284 : am_mE := ((⟨"SecureLines", "zonePlace", "([III)I"⟩, prog_1_method_69_code, 6, some .int, 1, 26, 0), (8, 221), (0, 1))
def aM_285 : am_mE := ((⟨"SecureLines", "challenge", "(III)I"⟩, prog_1_method_70_code, 8, some .int, 4, 100, 0), (8, 226), (0, 1))
def aM_286 : am_mE := ((⟨"SecureLines$Office", "isOpen", "(II)Z"⟩, prog_7_method_7_code, 3, some .boolean, 0, 0, 12), (8, 230), (0, 16))
def aM_287 : am_mE := ((⟨"SecureLines$Office", "due", "(II)J"⟩, prog_7_method_8_code, 3, some .long, 3, 78, 12), (8, 235), (0, 16))
def aM_288 : am_mE := ((⟨"SecureLines$Office", "look", "(IIZ)I"⟩, prog_7_method_9_code, 7, some .int, 0, 0, 12), (9, 0), (0, 16))
def aM_289 : am_mE := ((⟨"SecureLines", "issue", "(IIII)I"⟩, prog_1_method_71_code, 5, some .int, 8, 188, 0), (9, 4), (0, 1))
def aM_290 : am_mE := ((⟨"SecureLines", "isMinutes", "(I)Z"⟩, prog_1_method_64_code, 1, some .boolean, 0, 0, 0), (9, 8), (0, 1))
def aM_291 : am_mE := ((⟨"SecureLines$Office", "issueOrde\x72", "(III)I"⟩, prog_7_method_11_code, 5, some .int, 7, 164, 12), (9, 12), (0, 16))
def aM_292 : am_mE := ((⟨"SecureLines$Office", "certificateFo\x72", "(III)LSecureLines$Row;"⟩, prog_7_method_12_code, 9, some ((.object "SecureLines$Row")), 6, 136, 12), (9, 16), (0, 16))
def aM_293 : am_mE := ((⟨"SecureLines$Row", "putNumbe\x72", "(I)V"⟩, prog_9_method_16_code, 4, none, 4, 91, 3), (9, 21), (0, 4))
def aM_294 : am_mE := ((⟨"SecureLines$Office", "putIssue\x72", "(LSecureLines$Row;)V"⟩, prog_7_method_13_code, 2, none, 5, 115, 12), (9, 28), (0, 16))
def aM_295 : am_mE := ((⟨"SecureLines$Row", "putNode", "(I[III)V"⟩, prog_9_method_17_code, 5, none, 4, 91, 3), (9, 34), (0, 4))
def aM_296 : am_mE := ((⟨"SecureLines$Office", "putTimes", "(LSecureLines$Row;I)V"⟩, prog_7_method_14_code, 3, none, 5, 114, 12), (9, 40), (0, 16))
def aM_297 : am_mE := ((⟨"SecureLines$Office", "sealed", "(LSecureLines$Row;)LSecureLines$Row;"⟩, prog_7_method_15_code, 3, some ((.object "SecureLines$Row")), 5, 134, 12), (9, 51), (0, 16))
def aM_298 : am_mE := ((⟨"SecureLines", "revoke", "(II)I"⟩, prog_1_method_72_code, 3, some .int, 2, 44, 0), (9, 57), (0, 1))
def aM_299 : am_mE := ((⟨"SecureLines$Office", "gave", "(I)Z"⟩, prog_7_method_10_code, 2, some .boolean, 0, 0, 12), (9, 61), (0, 16))
def aM_300 : am_mE := ((⟨"SecureLines$Office", "revokeSerial", "(I)I"⟩, prog_7_method_17_code, 3, some .int, 1, 22, 12), (9, 65), (0, 16))
def aM_301 : am_mE := ((⟨"SecureLines$Office", "isRevoked", "(I)Z"⟩, prog_7_method_16_code, 3, some .boolean, 0, 0, 12), (9, 69), (0, 16))
def aM_302 : am_mE := ((⟨"SecureLines", "publish", "(II)I"⟩, prog_1_method_73_code, 3, some .int, 7, 179, 0), (9, 73), (0, 1))
def aM_303 : am_mE := ((⟨"SecureLines$Office", "publishList", "(I)I"⟩, prog_7_method_18_code, 4, some .int, 6, 156, 12), (9, 77), (0, 16))
def aM_304 : am_mE := ((⟨"SecureLines", "respond", "(III)I"⟩, prog_1_method_74_code, 4, some .int, 7, 179, 0), (9, 81), (0, 1))
def aM_305 : am_mE := ((⟨"SecureLines$Office", "answerFo\x72", "(II)I"⟩, prog_7_method_19_code, 4, some .int, 6, 156, 12), (9, 85), (0, 16))
def aM_306 : am_mE := ((⟨"SecureLines", "log", "()I"⟩, prog_1_method_75_code, 1, some .int, 0, 0, 0), (9, 89), (0, 1))
def aM_307 : am_mE := ((⟨"SecureLines", "add", "(IJ)I"⟩, prog_1_method_77_code, 4, some .int, 1, 21, 0), (9, 93), (0, 1))
def aM_308 : am_mE := ((⟨"SecureLines", "isLog", "(I)Z"⟩, prog_1_method_76_code, 2, some .boolean, 0, 0, 0), (9, 97), (0, 1))
def aM_309 : am_mE := ((⟨"SecureLines", "head", "(II)J"⟩, prog_1_method_78_code, 3, some .long, 4, 103, 0), (9, 101), (0, 1))
def aM_310 : am_mE := ((⟨"SecureLines", "headOf", "([JII)J"⟩, prog_1_method_87_code, 9, some .long, 3, 75, 0), (9, 105), (0, 1))
def aM_311 : am_mE := ((⟨"SecureLines", "leafOf", "(J)J"⟩, prog_1_method_85_code, 4, some .long, 2, 50, 0), (9, 109), (0, 1))
def aM_312 : am_mE := ((⟨"SecureLines", "knotOf", "(JJ)J"⟩, prog_1_method_86_code, 6, some .long, 2, 50, 0), (9, 117), (0, 1))
def aM_313 : am_mE := ((⟨"SecureLines", "inclusion", "(III)I"⟩, prog_1_method_79_code, 10, some .int, 5, 114, 0), (9, 121), (0, 1))
def aM_314 : am_mE := ((⟨"SecureLines", "halfOf", "(I)I"⟩, prog_1_method_84_code, 3, some .int, 0, 0, 0), (9, 124), (0, 1))
def aM_315 : am_mE := ((⟨"SecureLines", "knotsOut", "(I)V"⟩, prog_1_method_81_code, 3, none, 4, 92, 0), (9, 128), (0, 1))
def aM_316 : am_mE := ((⟨"SecureLines", "consistency", "(III)I"⟩, prog_1_method_80_code, 11, some .int, 5, 114, 0), (9, 133), (0, 1))
def aM_317 : am_mE := ((⟨"SecureLines", "included", "(JIIJ)I"⟩, prog_1_method_82_code, 17, some .int, 3, 75, 0), (9, 137), (0, 1))
def aM_318 : am_mE := ((⟨"SecureLines", "consistent", "(IIJJ)I"⟩, prog_1_method_83_code, 21, some .int, 3, 75, 0), (9, 142), (0, 1))
def aM_319 : am_mE := ((⟨"SecureLinesModel", "<init>", "()V"⟩, prog_14_method_1_code, 1, none, 1, 20, 13), (9, 147), (0, 8))
def aM_320 : am_mE := ((⟨"SecureLinesModel", "feed", "(IJ)I"⟩, prog_14_method_3_code, 5, some .int, 1, 25, 13), (12, 55), (0, 8))
def aM_321 : am_mE := ((⟨"SecureLinesModel", "in", "(JJJ)Z"⟩, prog_14_method_2_code, 6, some .boolean, 0, 0, 13), (12, 59), (0, 8))
def aM_322 : am_mE := ((⟨"SecureLinesModel", "cut", "(I)I"⟩, prog_14_method_4_code, 3, some .int, 1, 25, 13), (12, 63), (0, 8))
def aM_323 : am_mE := ((⟨"SecureLinesModel", "out", "(I)I"⟩, prog_14_method_5_code, 2, some .int, 1, 25, 13), (12, 67), (0, 8))
def aM_324 : am_mE := ((⟨"SecureLinesModel", "again", "()I"⟩, prog_14_method_6_code, 2, some .int, 0, 0, 13), (12, 71), (0, 8))
def aM_325 : am_mE := ((⟨"SecureLinesModel", "tick", "(I)I"⟩, prog_14_method_7_code, 2, some .int, 1, 25, 13), (12, 75), (0, 8))
def aM_326 : am_mE := ((⟨"SecureLinesModel", "digest", "(I)J"⟩, prog_14_method_22_code, 4, some .long, 6, 132, 13), (12, 81), (0, 8))
def aM_327 : am_mE := ((⟨"SecureLinesModel", "digestOf", "(I[III)J"⟩, prog_14_method_21_code, 5, some .long, 5, 108, 13), (12, 86), (0, 8))
def aM_328 : am_mE := ((⟨"SecureLinesModel", "beginDigest", "(I)V"⟩, prog_14_method_11_code, 2, none, 0, 0, 13), (12, 90), (0, 8))
def aM_329 : am_mE := ((⟨"SecureLinesModel", "digestRow", "([III)V"⟩, prog_14_method_14_code, 5, none, 4, 84, 13), (12, 94), (0, 8))
def aM_330 : am_mE := ((⟨"SecureLinesModel", "digestByte", "(I)V"⟩, prog_14_method_12_code, 2, none, 3, 63, 13), (12, 98), (0, 8))
def aM_331 : am_mE := ((⟨"SecureLinesModel", "pushByte", "(I)V"⟩, prog_14_method_13_code, 2, none, 2, 42, 13), (12, 102), (0, 8))
def aM_332 : am_mE := ((⟨"SecureLinesModel", "mix", "()V"⟩, prog_14_method_9_code, 2, none, 1, 21, 13), (12, 106), (0, 8))
def aM_333 : am_mE := ((⟨"SecureLinesModel", "turn", "(II)I"⟩, prog_14_method_8_code, 2, some .int, 0, 0, 13), (12, 109), (0, 8))
def aM_334 : am_mE := ((⟨"SecureLinesModel", "endDigest", "()J"⟩, prog_14_method_17_code, 1, some .long, 3, 63, 13), (12, 113), (0, 8))
def aM_335 : am_mE := ((⟨"SecureLinesModel", "mixed", "()J"⟩, prog_14_method_10_code, 1, some .long, 0, 0, 13), (12, 117), (0, 8))
def aM_336 : am_mE := ((⟨"SecureLinesModel", "keyed", "(IJ)J"⟩, prog_14_method_23_code, 4, some .long, 6, 133, 13), (12, 122), (0, 8))
def aM_337 : am_mE := ((⟨"SecureLinesModel", "beginKeyed", "(IJ)V"⟩, prog_14_method_18_code, 5, none, 4, 84, 13), (12, 126), (0, 8))
def aM_338 : am_mE := ((⟨"SecureLinesModel", "endKeyed", "(IJ)J"⟩, prog_14_method_19_code, 7, some .long, 5, 107, 13), (12, 130), (0, 8))
def aM_339 : am_mE := ((⟨"SecureLinesModel", "digestLong", "(J)V"⟩, prog_14_method_15_code, 4, none, 4, 84, 13), (12, 134), (0, 8))
def aM_340 : am_mE := ((⟨"SecureLinesModel", "derived", "(IJIJ)J"⟩, prog_14_method_24_code, 7, some .long, 7, 159, 13), (12, 138), (0, 8))
def aM_341 : am_mE := ((⟨"SecureLinesModel", "derivedOf", "(IJIJ)J"⟩, prog_14_method_20_code, 7, some .long, 6, 133, 13), (12, 143), (0, 8))
def aM_342 : am_mE := ((⟨"SecureLinesModel", "seal", "(IJJI)I"⟩, prog_14_method_30_code, 11, some .int, 8, 193, 13), (12, 147), (0, 8))
def aM_343 : am_mE := ((⟨"SecureLinesModel", "cove\x72", "(JJ[III)V"⟩, prog_14_method_27_code, 11, none, 2, 42, 13), (12, 152), (0, 8))
def aM_344 : am_mE := ((⟨"SecureLinesModel", "tagIn", "(IJJ[III[III)J"⟩, prog_14_method_28_code, 15, some .long, 7, 159, 13), (12, 156), (0, 8))
def aM_345 : am_mE := ((⟨"SecureLinesModel", "hashOf", "(I)I"⟩, prog_14_method_25_code, 1, some .int, 0, 0, 13), (12, 159), (0, 8))
def aM_346 : am_mE := ((⟨"SecureLinesModel", "digestFou\x72", "(I)V"⟩, prog_14_method_16_code, 3, none, 4, 84, 13), (12, 163), (0, 8))
def aM_347 : am_mE := ((⟨"SecureLinesModel", "tagOf", "(I)I"⟩, prog_14_method_26_code, 1, some .int, 0, 0, 13), (12, 166), (0, 8))
def aM_348 : am_mE := ((⟨"SecureLinesModel", "byteOf", "(JI)I"⟩, prog_14_method_29_code, 3, some .int, 0, 0, 13), (12, 169), (0, 8))
def aM_349 : am_mE := ((⟨"SecureLinesModel", "unseal", "(IJJI)I"⟩, prog_14_method_31_code, 12, some .int, 8, 193, 13), (12, 173), (0, 8))
def aM_350 : am_mE := ((⟨"SecureLinesModel", "point", "(II)I"⟩, prog_14_method_36_code, 3, some .int, 2, 47, 13), (12, 177), (0, 8))
def aM_351 : am_mE := ((⟨"SecureLinesModel", "pointOf", "(II)I"⟩, prog_14_method_34_code, 2, some .int, 1, 26, 13), (12, 180), (0, 8))
def aM_352 : am_mE := ((⟨"SecureLinesModel", "primeOf", "(I)I"⟩, prog_14_method_32_code, 1, some .int, 0, 0, 13), (12, 185), (0, 8))
def aM_353 : am_mE := ((⟨"SecureLinesModel", "powe\x72", "(JII)I"⟩, prog_14_method_33_code, 7, some .int, 0, 0, 13), (12, 191), (0, 8))
def aM_354 : am_mE := ((⟨"SecureLinesModel", "joint", "(III)J"⟩, prog_14_method_37_code, 4, some .long, 2, 50, 13), (12, 195), (0, 8))
def aM_355 : am_mE := ((⟨"SecureLinesModel", "jointOf", "(III)J"⟩, prog_14_method_35_code, 5, some .long, 1, 26, 13), (12, 198), (0, 8))
def aM_356 : am_mE := ((⟨"SecureLinesModel", "keyPoint", "(I)I"⟩, prog_14_method_40_code, 2, some .int, 2, 46, 13), (12, 202), (0, 8))
def aM_357 : am_mE := ((⟨"SecureLinesModel", "isKey", "(I)Z"⟩, prog_14_method_38_code, 1, some .boolean, 1, 25, 13), (12, 205), (0, 8))
def aM_358 : am_mE := ((⟨"SecureLinesModel", "keyPointOf", "(I)I"⟩, prog_14_method_39_code, 1, some .int, 1, 26, 13), (12, 209), (0, 8))
def aM_359 : am_mE := ((⟨"SecureLinesModel", "sign", "(II)J"⟩, prog_14_method_45_code, 5, some .long, 7, 166, 13), (12, 215), (0, 8))
def aM_360 : am_mE := ((⟨"SecureLinesModel", "signed", "(II[III)J"⟩, prog_14_method_43_code, 13, some .long, 6, 134, 13), (12, 219), (0, 8))
def aM_361 : am_mE := ((⟨"SecureLinesModel", "firstBits", "(J)I"⟩, prog_14_method_41_code, 2, some .int, 0, 0, 13), (12, 222), (0, 8))
def aM_362 : am_mE := ((⟨"SecureLinesModel", "answerOf", "(III[III)I"⟩, prog_14_method_42_code, 7, some .int, 5, 108, 13), (12, 227), (0, 8))
def aM_363 : am_mE := ((⟨"SecureLinesModel", "fits", "(IIJ)I"⟩, prog_14_method_46_code, 6, some .int, 7, 165, 13), (12, 233), (0, 8))
def aM_364 : am_mE := ((⟨"SecureLinesModel", "doesFit", "(IIJ[III)Z"⟩, prog_14_method_44_code, 12, some .boolean, 6, 134, 13), (12, 237), (0, 8))
def aM_365 : am_mE := ((⟨"SecureLinesModel", "log", "()I"⟩, prog_14_method_49_code, 1, some .int, 0, 0, 13), (13, 3), (0, 8))
def aM_366 : am_mE := ((⟨"SecureLinesModel", "add", "(IJ)I"⟩, prog_14_method_50_code, 4, some .int, 1, 25, 13), (13, 7), (0, 8))
def aM_367 : am_mE := ((⟨"SecureLinesModel", "head", "(II)J"⟩, prog_14_method_53_code, 3, some .long, 7, 156, 13), (13, 11), (0, 8))
def aM_368 : am_mE := ((⟨"SecureLinesModel", "headOf", "(III)J"⟩, prog_14_method_51_code, 6, some .long, 6, 131, 13), (13, 15), (0, 8))
def aM_369 : am_mE := ((⟨"SecureLinesModel", "leaf", "(J)J"⟩, prog_14_method_47_code, 3, some .long, 5, 107, 13), (13, 19), (0, 8))
def aM_370 : am_mE := ((⟨"SecureLinesModel", "knot", "(JJ)J"⟩, prog_14_method_48_code, 5, some .long, 5, 107, 13), (13, 23), (0, 8))
def aM_371 : am_mE := ((⟨"SecureLinesModel", "inclusion", "(III)I"⟩, prog_14_method_55_code, 8, some .int, 7, 156, 13), (13, 27), (0, 8))
def aM_372 : am_mE := ((⟨"SecureLinesModel", "halfOf", "(I)I"⟩, prog_14_method_52_code, 2, some .int, 0, 0, 13), (13, 30), (0, 8))
def aM_373 : am_mE := ((⟨"SecureLinesModel", "tellBeside", "()I"⟩, prog_14_method_54_code, 3, some .int, 1, 22, 13), (13, 34), (0, 8))
def aM_374 : am_mE := ((⟨"SecureLinesModel", "consistency", "(III)I"⟩, prog_14_method_56_code, 10, some .int, 7, 156, 13), (13, 38), (0, 8))
def aM_375 : am_mE := ((⟨"SecureLinesModel", "included", "(JIIJ)I"⟩, prog_14_method_58_code, 16, some .int, 6, 131, 13), (13, 42), (0, 8))
def aM_376 : am_mE := ((⟨"SecureLinesModel", "tapeLong", "(I)J"⟩, prog_14_method_57_code, 5, some .long, 0, 0, 13), (13, 47), (0, 8))
def aM_377 : am_mE := ((⟨"SecureLinesModel", "consistent", "(IIJJ)I"⟩, prog_14_method_59_code, 21, some .int, 6, 131, 13), (13, 51), (0, 8))
def aM_378 : am_mE := ((⟨"SecureLinesModel", "node", "()I"⟩, prog_14_method_66_code, 2, some .int, 4, 101, 13), (13, 55), (0, 8))
def aM_379 : am_mE := ((⟨"SecureLinesModel", "nodeFault", "([III)I"⟩, prog_14_method_65_code, 12, some .int, 3, 70, 13), (13, 59), (0, 8))
def aM_380 : am_mE := ((⟨"SecureLinesModel", "isTag", "(I)Z"⟩, prog_14_method_63_code, 1, some .boolean, 1, 25, 13), (13, 62), (0, 8))
def aM_381 : am_mE := ((⟨"SecureLinesModel", "lengthFault", "([III)I"⟩, prog_14_method_64_code, 6, some .int, 0, 0, 13), (13, 68), (0, 8))
def aM_382 : am_mE := ((⟨"SecureLinesModel", "nameFault", "([III)I"⟩, prog_14_method_61_code, 6, some .int, 2, 45, 13), (13, 71), (0, 8))
def aM_383 : am_mE := ((⟨"SecureLinesModel", "isLette\x72", "(I)Z"⟩, prog_14_method_60_code, 1, some .boolean, 1, 25, 13), (13, 74), (0, 8))
def aM_384 : am_mE := ((⟨"SecureLinesModel", "certificate", "()I"⟩, prog_14_method_74_code, 3, some .int, 9, 218, 13), (13, 82), (0, 8))
def aM_385 : am_mE := ((⟨"SecureLinesModel", "isCertificate", "(I[III)Z"⟩, prog_14_method_69_code, 8, some .boolean, 6, 145, 13), (13, 86), (0, 8))
def aM_386 : am_mE := ((⟨"SecureLinesModel", "next", "(II)Z"⟩, prog_14_method_67_code, 3, some .boolean, 1, 25, 13), (13, 90), (0, 8))
def aM_387 : am_mE := ((⟨"SecureLinesModel", "isInne\x72", "(II)Z"⟩, prog_14_method_70_code, 6, some .boolean, 5, 120, 13), (13, 94), (0, 8))
def aM_388 : am_mE := ((⟨"SecureLinesModel", "numbe\x72", "()I"⟩, prog_14_method_68_code, 3, some .int, 0, 0, 13), (13, 98), (0, 8))
def aM_389 : am_mE := ((⟨"SecureLinesModel", "areNames", "(II)Z"⟩, prog_14_method_71_code, 7, some .boolean, 4, 94, 13), (13, 103), (0, 8))
def aM_390 : am_mE := ((⟨"SecureLinesModel", "isPattern", "([III)Z"⟩, prog_14_method_62_code, 5, some .boolean, 3, 70, 13), (13, 106), (0, 8))
def aM_391 : am_mE := ((⟨"SecureLinesModel", "holdCertificate", "()I"⟩, prog_14_method_73_code, 4, some .int, 8, 195, 13), (13, 110), (0, 8))
def aM_392 : am_mE := ((⟨"SecureLinesModel", "copyCert", "(II)V"⟩, prog_14_method_72_code, 4, none, 7, 172, 13), (13, 114), (0, 8))
def aM_393 : am_mE := ((⟨"SecureLinesModel", "list", "()I"⟩, prog_14_method_78_code, 4, some .int, 4, 101, 13), (13, 118), (0, 8))
def aM_394 : am_mE := ((⟨"SecureLinesModel", "isList", "(I[III)Z"⟩, prog_14_method_75_code, 13, some .boolean, 2, 47, 13), (13, 122), (0, 8))
def aM_395 : am_mE := ((⟨"SecureLinesModel", "fourIn", "([II)I"⟩, prog_14_method_76_code, 2, some .int, 0, 0, 13), (13, 125), (0, 8))
def aM_396 : am_mE := ((⟨"SecureLinesModel", "holdList", "()I"⟩, prog_14_method_79_code, 2, some .int, 3, 79, 13), (13, 129), (0, 8))
def aM_397 : am_mE := ((⟨"SecureLinesModel", "answe\x72", "()I"⟩, prog_14_method_80_code, 4, some .int, 4, 101, 13), (13, 133), (0, 8))
def aM_398 : am_mE := ((⟨"SecureLinesModel", "isAnswe\x72", "(I[III)Z"⟩, prog_14_method_77_code, 10, some .boolean, 2, 47, 13), (13, 137), (0, 8))
def aM_399 : am_mE := ((⟨"SecureLinesModel", "holdAnswe\x72", "()I"⟩, prog_14_method_81_code, 2, some .int, 3, 76, 13), (13, 141), (0, 8))
def aM_400 : am_mE := ((⟨"SecureLinesModel", "wrap", "(II)I"⟩, prog_14_method_91_code, 4, some .int, 8, 190, 13), (13, 145), (0, 8))
def aM_401 : am_mE := ((⟨"SecureLinesModel", "putRow", "([III)V"⟩, prog_14_method_86_code, 5, none, 1, 21, 13), (13, 149), (0, 8))
def aM_402 : am_mE := ((⟨"SecureLinesModel", "put", "(I)V"⟩, prog_14_method_82_code, 2, none, 0, 0, 13), (13, 153), (0, 8))
def aM_403 : am_mE := ((⟨"SecureLinesModel", "signMade", "(II)V"⟩, prog_14_method_90_code, 5, none, 7, 166, 13), (13, 157), (0, 8))
def aM_404 : am_mE := ((⟨"SecureLinesModel", "putLong", "(J)V"⟩, prog_14_method_85_code, 3, none, 3, 63, 13), (13, 161), (0, 8))
def aM_405 : am_mE := ((⟨"SecureLinesModel", "putFou\x72", "(I)V"⟩, prog_14_method_84_code, 2, none, 2, 42, 13), (13, 165), (0, 8))
def aM_406 : am_mE := ((⟨"SecureLinesModel", "putTwo", "(I)V"⟩, prog_14_method_83_code, 2, none, 1, 21, 13), (13, 169), (0, 8))
def aM_407 : am_mE := ((⟨"SecureLinesModel", "nodeMade", "(II)V"⟩, prog_14_method_89_code, 6, none, 2, 42, 13), (13, 173), (0, 8))
def aM_408 : am_mE := ((⟨"SecureLinesModel", "field", "(II)I"⟩, prog_14_method_93_code, 3, some .int, 2, 46, 13), (13, 177), (0, 8))
def aM_409 : am_mE := ((⟨"SecureLinesModel", "isCert", "(I)Z"⟩, prog_14_method_92_code, 2, some .boolean, 1, 25, 13), (13, 181), (0, 8))
def aM_410 : am_mE := ((⟨"SecureLinesModel", "text", "(III)I"⟩, prog_14_method_94_code, 8, some .int, 2, 46, 13), (13, 186), (0, 8))
def aM_411 : am_mE := ((⟨"SecureLinesModel", "status", "(III)I"⟩, prog_14_method_102_code, 4, some .int, 9, 221, 13), (13, 191), (0, 8))
def aM_412 : am_mE := ((⟨"SecureLinesModel", "statusOf", "(III)I"⟩, prog_14_method_101_code, 8, some .int, 8, 194, 13), (13, 195), (0, 8))
def aM_413 : am_mE := ((⟨"SecureLinesModel", "isFo\x72", "(III[II[I)Z"⟩, prog_14_method_100_code, 10, some .boolean, 7, 165, 13), (13, 199), (0, 8))
def aM_414 : am_mE := ((⟨"SecureLinesModel", "areLike", "([III[III)Z"⟩, prog_14_method_95_code, 8, some .boolean, 0, 0, 13), (13, 202), (0, 8))
def aM_415 : am_mE := ((⟨"SecureLinesModel", "longIn", "([II)J"⟩, prog_14_method_96_code, 2, some .long, 1, 21, 13), (13, 205), (0, 8))
def aM_416 : am_mE := ((⟨"SecureLinesModel", "row", "(I)I"⟩, prog_14_method_108_code, 2, some .int, 2, 46, 13), (13, 209), (0, 8))
def aM_417 : am_mE := ((⟨"SecureLinesModel", "step", "(I)I"⟩, prog_14_method_109_code, 2, some .int, 1, 25, 13), (13, 213), (0, 8))
def aM_418 : am_mE := ((⟨"SecureLinesModel", "judge", "(III)I"⟩, prog_14_method_110_code, 5, some .int, 11, 274, 13), (13, 217), (0, 8))
def aM_419 : am_mE := ((⟨"SecureLinesModel", "isEnd", "(I)Z"⟩, prog_14_method_114_code, 2, some .boolean, 1, 25, 13), (13, 221), (0, 8))
def aM_420 : am_mE := ((⟨"SecureLinesModel", "areLinked", "()Z"⟩, prog_14_method_107_code, 4, some .boolean, 2, 49, 13), (13, 225), (0, 8))
def aM_421 : am_mE := ((⟨"SecureLinesModel", "isIssuedBy", "(II)Z"⟩, prog_14_method_98_code, 3, some .boolean, 1, 27, 13), (13, 229), (0, 8))
def aM_422 : am_mE := ((⟨"SecureLinesModel", "isAncho\x72", "(II)Z"⟩, prog_14_method_115_code, 6, some .boolean, 1, 27, 13), (13, 233), (0, 8))
def aM_423 : am_mE := ((⟨"SecureLinesModel", "wayWhy", "(IIZ)I"⟩, prog_14_method_106_code, 6, some .int, 10, 249, 13), (13, 237), (0, 8))
def aM_424 : am_mE := ((⟨"SecureLinesModel", "whyOf", "(IZIIZ)I"⟩, prog_14_method_105_code, 9, some .int, 9, 221, 13), (14, 1), (0, 8))
def aM_425 : am_mE := ((⟨"SecureLinesModel", "isSignedBy", "(II)Z"⟩, prog_14_method_99_code, 3, some .boolean, 7, 165, 13), (14, 5), (0, 8))
def aM_426 : am_mE := ((⟨"SecureLinesModel", "ownWhy", "(II)I"⟩, prog_14_method_103_code, 7, some .int, 3, 79, 13), (14, 9), (0, 8))
def aM_427 : am_mE := ((⟨"SecureLinesModel", "isBarred", "(III)Z"⟩, prog_14_method_104_code, 6, some .boolean, 2, 54, 13), (14, 13), (0, 8))
def aM_428 : am_mE := ((⟨"SecureLinesModel", "liesUnde\x72", "(IIII)Z"⟩, prog_14_method_97_code, 8, some .boolean, 1, 27, 13), (14, 17), (0, 8))
def aM_429 : am_mE := ((⟨"SecureLinesModel", "build", "(IIII)I"⟩, prog_14_method_111_code, 7, some .int, 12, 302, 13), (14, 21), (0, 8))
def aM_430 : am_mE := ((⟨"SecureLinesModel", "hasWay", "(IIIII)Z"⟩, prog_14_method_112_code, 8, some .boolean, 11, 275, 13), (14, 25), (0, 8))
def aM_431 : am_mE := ((⟨"SecureLinesModel", "canFollow", "(IIIZ)Z"⟩, prog_14_method_113_code, 7, some .boolean, 10, 249, 13), (14, 29), (0, 8))
def aM_432 : am_mE := ((⟨"SecureLinesModel", "end", "(I)I"⟩, prog_14_method_116_code, 5, some .int, 1, 25, 13), (14, 33), (0, 8))
def aM_433 : am_mE := ((⟨"SecureLinesModel", "offe\x72", "(III)I"⟩, prog_14_method_117_code, 9, some .int, 2, 46, 13), (14, 37), (0, 8))
def aM_434 : am_mE := ((⟨"SecureLinesModel", "setting", "(III)I"⟩, prog_14_method_119_code, 7, some .int, 2, 46, 13), (14, 41), (0, 8))
def aM_435 : am_mE := ((⟨"SecureLinesModel", "random", "(I)I"⟩, prog_14_method_120_code, 3, some .int, 2, 46, 13), (14, 45), (0, 8))
def aM_436 : am_mE := ((⟨"SecureLinesModel", "trust", "(II)I"⟩, prog_14_method_124_code, 3, some .int, 2, 52, 13), (14, 49), (0, 8))
def aM_437 : am_mE := ((⟨"SecureLinesModel", "identity", "(II)I"⟩, prog_14_method_125_code, 4, some .int, 2, 46, 13), (14, 53), (0, 8))
def aM_438 : am_mE := ((⟨"SecureLinesModel", "host", "(I)I"⟩, prog_14_method_126_code, 3, some .int, 3, 70, 13), (14, 57), (0, 8))
def aM_439 : am_mE := ((⟨"SecureLinesModel", "shared", "(IIJ)I"⟩, prog_14_method_127_code, 7, some .int, 2, 46, 13), (14, 61), (0, 8))
def aM_440 : am_mE := ((⟨"SecureLinesModel", "forget", "(II)I"⟩, prog_14_method_128_code, 5, some .int, 2, 46, 13), (14, 66), (0, 8))
def aM_441 : am_mE := ((⟨"SecureLinesModel", "ticket", "(III)I"⟩, prog_14_method_129_code, 6, some .int, 2, 46, 13), (14, 70), (0, 8))
def aM_442 : am_mE := ((⟨"SecureLinesModel", "early", "(I)I"⟩, prog_14_method_130_code, 3, some .int, 2, 46, 13), (14, 75), (0, 8))
def aM_443 : am_mE := ((⟨"SecureLinesModel", "office", "(III)I"⟩, prog_14_method_132_code, 4, some .int, 2, 46, 13), (14, 79), (0, 8))
def aM_444 : am_mE := ((⟨"SecureLinesModel", "account", "(IJ)I"⟩, prog_14_method_133_code, 4, some .int, 2, 46, 13), (14, 83), (0, 8))
def aM_445 : am_mE := ((⟨"SecureLinesModel", "isOffice", "(I)Z"⟩, prog_14_method_131_code, 2, some .boolean, 1, 25, 13), (14, 87), (0, 8))
def aM_446 : am_mE := ((⟨"SecureLinesModel", "orde\x72", "(II)I"⟩, prog_14_method_134_code, 10, some .int, 4, 94, 13), (14, 91), (0, 8))
def aM_447 : am_mE := ((⟨"SecureLinesModel", "ordered", "(III)I"⟩, prog_14_method_136_code, 5, some .int, 3, 68, 13), (14, 95), (0, 8))
def aM_448 : am_mE := ((⟨"SecureLinesModel", "isOrde\x72", "(II)Z"⟩, prog_14_method_135_code, 3, some .boolean, 2, 46, 13), (14, 99), (0, 8))
def aM_449 : am_mE := ((⟨"SecureLinesModel", "zone", "(J)I"⟩, prog_14_method_137_code, 5, some .int, 3, 70, 13), (14, 104), (0, 8))
def aM_450 : am_mE := ((⟨"SecureLinesModel", "challenge", "(III)I"⟩, prog_14_method_139_code, 11, some .int, 7, 159, 13), (14, 108), (0, 8))
def aM_451 : am_mE := ((⟨"SecureLinesModel", "starOf", "([II)I"⟩, prog_14_method_138_code, 2, some .int, 0, 0, 13), (14, 111), (0, 8))
def aM_452 : am_mE := ((⟨"SecureLinesModel", "issue", "(IIII)I"⟩, prog_14_method_142_code, 10, some .int, 9, 218, 13), (14, 115), (0, 8))
def aM_453 : am_mE := ((⟨"SecureLinesModel", "putNumbe\x72", "(I)V"⟩, prog_14_method_87_code, 4, none, 1, 21, 13), (14, 119), (0, 8))
def aM_454 : am_mE := ((⟨"SecureLinesModel", "putIssue\x72", "(I)V"⟩, prog_14_method_141_code, 3, none, 3, 68, 13), (14, 125), (0, 8))
def aM_455 : am_mE := ((⟨"SecureLinesModel", "putName", "([III)V"⟩, prog_14_method_88_code, 4, none, 2, 45, 13), (14, 129), (0, 8))
def aM_456 : am_mE := ((⟨"SecureLinesModel", "laterBy", "(I)I"⟩, prog_14_method_140_code, 4, some .int, 0, 0, 13), (14, 133), (0, 8))
def aM_457 : am_mE := ((⟨"SecureLinesModel", "revoke", "(II)I"⟩, prog_14_method_143_code, 4, some .int, 2, 46, 13), (14, 138), (0, 8))
def aM_458 : am_mE := ((⟨"SecureLinesModel", "isRevoked", "(II)Z"⟩, prog_14_method_144_code, 5, some .boolean, 0, 0, 13), (14, 142), (0, 8))
def aM_459 : am_mE := ((⟨"SecureLinesModel", "publish", "(II)I"⟩, prog_14_method_145_code, 5, some .int, 8, 190, 13), (14, 146), (0, 8))
def aM_460 : am_mE := ((⟨"SecureLinesModel", "respond", "(III)I"⟩, prog_14_method_146_code, 4, some .int, 8, 190, 13), (14, 150), (0, 8))
def aM_461 : am_mE := ((⟨"SecureLinesModel", "connection", "(II)I"⟩, prog_14_method_176_code, 8, some .int, 12, 290, 13), (14, 154), (0, 8))
def aM_462 : am_mE := ((⟨"SecureLinesModel", "keepDigest", "(I)V"⟩, prog_14_method_149_code, 2, none, 0, 0, 13), (14, 158), (0, 8))
def aM_463 : am_mE := ((⟨"SecureLinesModel", "greet", "(I)V"⟩, prog_14_method_174_code, 10, none, 11, 261, 13), (14, 162), (0, 8))
def aM_464 : am_mE := ((⟨"SecureLinesModel", "drawLong", "(I)J"⟩, prog_14_method_122_code, 5, some .long, 1, 23, 13), (14, 166), (0, 8))
def aM_465 : am_mE := ((⟨"SecureLinesModel", "draw", "(I)I"⟩, prog_14_method_121_code, 4, some .int, 0, 0, 13), (14, 170), (0, 8))
def aM_466 : am_mE := ((⟨"SecureLinesModel", "drawX", "(I)I"⟩, prog_14_method_123_code, 4, some .int, 1, 23, 13), (14, 174), (0, 8))
def aM_467 : am_mE := ((⟨"SecureLinesModel", "offerShared", "(II)V"⟩, prog_14_method_175_code, 5, none, 0, 0, 13), (14, 179), (0, 8))
def aM_468 : am_mE := ((⟨"SecureLinesModel", "makeHello", "(IZ)V"⟩, prog_14_method_171_code, 5, none, 10, 237, 13), (14, 183), (0, 8))
def aM_469 : am_mE := ((⟨"SecureLinesModel", "putField", "(II)V"⟩, prog_14_method_169_code, 3, none, 2, 42, 13), (14, 187), (0, 8))
def aM_470 : am_mE := ((⟨"SecureLinesModel", "putOffers", "(III)V"⟩, prog_14_method_170_code, 5, none, 3, 64, 13), (14, 191), (0, 8))
def aM_471 : am_mE := ((⟨"SecureLinesModel", "putShared", "(I)V"⟩, prog_14_method_172_code, 8, none, 9, 210, 13), (14, 195), (0, 8))
def aM_472 : am_mE := ((⟨"SecureLinesModel", "binde\x72", "(IIJ[III)J"⟩, prog_14_method_173_code, 10, some .long, 8, 181, 13), (14, 199), (0, 8))
def aM_473 : am_mE := ((⟨"SecureLinesModel", "takeDigest", "(I)V"⟩, prog_14_method_150_code, 2, none, 0, 0, 13), (14, 203), (0, 8))
def aM_474 : am_mE := ((⟨"SecureLinesModel", "earlyOf", "(IJ)J"⟩, prog_14_method_164_code, 4, some .long, 7, 158, 13), (14, 207), (0, 8))
def aM_475 : am_mE := ((⟨"SecureLinesModel", "keyedLong", "(IJJ)J"⟩, prog_14_method_163_code, 6, some .long, 6, 133, 13), (14, 211), (0, 8))
def aM_476 : am_mE := ((⟨"SecureLinesModel", "putMessage", "(II)V"⟩, prog_14_method_159_code, 5, none, 9, 223, 13), (14, 215), (0, 8))
def aM_477 : am_mE := ((⟨"SecureLinesModel", "counts", "(I)Z"⟩, prog_14_method_160_code, 1, some .boolean, 0, 0, 13), (14, 218), (0, 8))
def aM_478 : am_mE := ((⟨"SecureLinesModel", "feedDigest", "(I[III)V"⟩, prog_14_method_151_code, 6, none, 5, 108, 13), (14, 222), (0, 8))
def aM_479 : am_mE := ((⟨"SecureLinesModel", "putRecord", "(II[III)V"⟩, prog_14_method_156_code, 11, none, 8, 193, 13), (14, 226), (0, 8))
def aM_480 : am_mE := ((⟨"SecureLinesModel", "putLine", "(II)V"⟩, prog_14_method_155_code, 3, none, 0, 0, 13), (14, 230), (0, 8))
def aM_481 : am_mE := ((⟨"SecureLinesModel", "digestNow", "(II)J"⟩, prog_14_method_152_code, 3, some .long, 4, 83, 13), (14, 234), (0, 8))
def aM_482 : am_mE := ((⟨"SecureLinesModel", "writeBy", "(IIJ)V"⟩, prog_14_method_157_code, 5, none, 0, 0, 13), (14, 238), (0, 8))
def aM_483 : am_mE := ((⟨"SecureLinesModel", "give", "(II)I"⟩, prog_14_method_231_code, 6, some .int, 19, 495, 13), (15, 2), (0, 8))
def aM_484 : am_mE := ((⟨"SecureLinesModel", "isSide", "(II)Z"⟩, prog_14_method_148_code, 3, some .boolean, 2, 46, 13), (15, 6), (0, 8))
def aM_485 : am_mE := ((⟨"SecureLinesModel", "isConnection", "(I)Z"⟩, prog_14_method_147_code, 2, some .boolean, 1, 25, 13), (15, 10), (0, 8))
def aM_486 : am_mE := ((⟨"SecureLinesModel", "isOwn", "(II)Z"⟩, prog_14_method_230_code, 3, some .boolean, 0, 0, 13), (15, 14), (0, 8))
def aM_487 : am_mE := ((⟨"SecureLinesModel", "receive", "(II)V"⟩, prog_14_method_178_code, 6, none, 18, 470, 13), (15, 18), (0, 8))
def aM_488 : am_mE := ((⟨"SecureLinesModel", "isLost", "(I)Z"⟩, prog_14_method_177_code, 2, some .boolean, 0, 0, 13), (15, 22), (0, 8))
def aM_489 : am_mE := ((⟨"SecureLinesModel", "fails", "(II)V"⟩, prog_14_method_162_code, 3, none, 10, 245, 13), (15, 28), (0, 8))
def aM_490 : am_mE := ((⟨"SecureLinesModel", "putAlert", "(II)V"⟩, prog_14_method_161_code, 3, none, 9, 223, 13), (15, 32), (0, 8))
def aM_491 : am_mE := ((⟨"SecureLinesModel", "takeRecord", "(III)V"⟩, prog_14_method_180_code, 11, none, 17, 440, 13), (15, 36), (0, 8))
def aM_492 : am_mE := ((⟨"SecureLinesModel", "drops", "(II)Z"⟩, prog_14_method_179_code, 4, some .boolean, 0, 0, 13), (15, 40), (0, 8))
def aM_493 : am_mE := ((⟨"SecureLinesModel", "takeBorne", "(IIII)V"⟩, prog_14_method_182_code, 8, none, 16, 413, 13), (15, 44), (0, 8))
def aM_494 : am_mE := ((⟨"SecureLinesModel", "takeMessages", "(I)V"⟩, prog_14_method_183_code, 6, none, 15, 388, 13), (15, 48), (0, 8))
def aM_495 : am_mE := ((⟨"SecureLinesModel", "takeMessage", "(IIIZ)V"⟩, prog_14_method_186_code, 7, none, 14, 362, 13), (15, 52), (0, 8))
def aM_496 : am_mE := ((⟨"SecureLinesModel", "may", "(II)Z"⟩, prog_14_method_184_code, 4, some .boolean, 1, 21, 13), (15, 56), (0, 8))
def aM_497 : am_mE := ((⟨"SecureLinesModel", "isClient", "(I)Z"⟩, prog_14_method_181_code, 2, some .boolean, 0, 0, 13), (15, 60), (0, 8))
def aM_498 : am_mE := ((⟨"SecureLinesModel", "clientFault", "(IIII)I"⟩, prog_14_method_195_code, 11, some .int, 13, 332, 13), (15, 64), (0, 8))
def aM_499 : am_mE := ((⟨"SecureLinesModel", "fieldsFault", "(III)I"⟩, prog_14_method_190_code, 8, some .int, 4, 94, 13), (15, 68), (0, 8))
def aM_500 : am_mE := ((⟨"SecureLinesModel", "isKind", "(II)Z"⟩, prog_14_method_189_code, 2, some .boolean, 1, 25, 13), (15, 71), (0, 8))
def aM_501 : am_mE := ((⟨"SecureLinesModel", "isField", "(IIII)Z"⟩, prog_14_method_187_code, 5, some .boolean, 3, 70, 13), (15, 75), (0, 8))
def aM_502 : am_mE := ((⟨"SecureLinesModel", "isShared", "(II)Z"⟩, prog_14_method_188_code, 6, some .boolean, 1, 25, 13), (15, 79), (0, 8))
def aM_503 : am_mE := ((⟨"SecureLinesModel", "answerFault", "(III)I"⟩, prog_14_method_196_code, 6, some .int, 2, 50, 13), (15, 83), (0, 8))
def aM_504 : am_mE := ((⟨"SecureLinesModel", "doesOffe\x72", "(III)Z"⟩, prog_14_method_118_code, 6, some .boolean, 0, 0, 13), (15, 87), (0, 8))
def aM_505 : am_mE := ((⟨"SecureLinesModel", "hasField", "(I)Z"⟩, prog_14_method_191_code, 2, some .boolean, 0, 0, 13), (15, 91), (0, 8))
def aM_506 : am_mE := ((⟨"SecureLinesModel", "shareGroupTold", "()I"⟩, prog_14_method_193_code, 1, some .int, 0, 0, 13), (15, 95), (0, 8))
def aM_507 : am_mE := ((⟨"SecureLinesModel", "sharePoint", "()I"⟩, prog_14_method_194_code, 1, some .int, 1, 21, 13), (15, 99), (0, 8))
def aM_508 : am_mE := ((⟨"SecureLinesModel", "chainFault", "(III)I"⟩, prog_14_method_211_code, 11, some .int, 12, 302, 13), (15, 103), (0, 8))
def aM_509 : am_mE := ((⟨"SecureLinesModel", "wayFault", "(IIZZ)I"⟩, prog_14_method_213_code, 9, some .int, 11, 274, 13), (15, 107), (0, 8))
def aM_510 : am_mE := ((⟨"SecureLinesModel", "areOne", "(II)Z"⟩, prog_14_method_212_code, 3, some .boolean, 1, 27, 13), (15, 111), (0, 8))
def aM_511 : am_mE := ((⟨"SecureLinesModel", "doesMeet", "(III)Z"⟩, prog_14_method_214_code, 6, some .boolean, 1, 27, 13), (15, 115), (0, 8))
def aM_512 : am_mE := ((⟨"SecureLinesModel", "proofFault", "(III)I"⟩, prog_14_method_197_code, 6, some .int, 7, 165, 13), (15, 119), (0, 8))
def aM_513 : am_mE := ((⟨"SecureLinesModel", "proofText", "(IZ)V"⟩, prog_14_method_198_code, 6, none, 5, 105, 13), (15, 123), (0, 8))
def aM_514 : am_mE := ((⟨"SecureLinesModel", "hashAt", "(I)I"⟩, prog_14_method_153_code, 2, some .int, 1, 20, 13), (15, 127), (0, 8))
def aM_515 : am_mE := ((⟨"SecureLinesModel", "endOf4", "(IZ)J"⟩, prog_14_method_168_code, 6, some .long, 7, 159, 13), (15, 131), (0, 8))
def aM_516 : am_mE := ((⟨"SecureLinesModel", "serverFault", "(IIII)I"⟩, prog_14_method_219_code, 5, some .int, 13, 332, 13), (15, 135), (0, 8))
def aM_517 : am_mE := ((⟨"SecureLinesModel", "helloFault", "(III)I"⟩, prog_14_method_222_code, 9, some .int, 10, 236, 13), (15, 139), (0, 8))
def aM_518 : am_mE := ((⟨"SecureLinesModel", "isInField", "(II)Z"⟩, prog_14_method_192_code, 5, some .boolean, 1, 21, 13), (15, 143), (0, 8))
def aM_519 : am_mE := ((⟨"SecureLinesModel", "againFault", "(II)I"⟩, prog_14_method_221_code, 6, some .int, 2, 52, 13), (15, 147), (0, 8))
def aM_520 : am_mE := ((⟨"SecureLinesModel", "isAsFirst", "(II)Z"⟩, prog_14_method_220_code, 6, some .boolean, 1, 27, 13), (15, 151), (0, 8))
def aM_521 : am_mE := ((⟨"SecureLinesModel", "firstOf", "(III)I"⟩, prog_14_method_215_code, 6, some .int, 2, 45, 13), (15, 155), (0, 8))
def aM_522 : am_mE := ((⟨"SecureLinesModel", "know", "(I)V"⟩, prog_14_method_216_code, 8, none, 2, 42, 13), (15, 159), (0, 8))
def aM_523 : am_mE := ((⟨"SecureLinesModel", "isBound", "(II)Z"⟩, prog_14_method_218_code, 7, some .boolean, 9, 210, 13), (15, 163), (0, 8))
def aM_524 : am_mE := ((⟨"SecureLinesModel", "knownSecret", "()J"⟩, prog_14_method_217_code, 1, some .long, 0, 0, 13), (15, 167), (0, 8))
def aM_525 : am_mE := ((⟨"SecureLinesModel", "turnsReading", "(II)Z"⟩, prog_14_method_185_code, 3, some .boolean, 1, 21, 13), (15, 171), (0, 8))
def aM_526 : am_mE := ((⟨"SecureLinesModel", "clientDoes", "(IIII)V"⟩, prog_14_method_200_code, 8, none, 12, 297, 13), (15, 175), (0, 8))
def aM_527 : am_mE := ((⟨"SecureLinesModel", "feedPart", "(III)V"⟩, prog_14_method_199_code, 4, none, 6, 133, 13), (15, 179), (0, 8))
def aM_528 : am_mE := ((⟨"SecureLinesModel", "handKeys", "(IJJ)V"⟩, prog_14_method_165_code, 9, none, 8, 181, 13), (15, 183), (0, 8))
def aM_529 : am_mE := ((⟨"SecureLinesModel", "readBy", "(IJ)V"⟩, prog_14_method_158_code, 4, none, 0, 0, 13), (15, 187), (0, 8))
def aM_530 : am_mE := ((⟨"SecureLinesModel", "retried", "(IIIII)V"⟩, prog_14_method_201_code, 13, none, 11, 261, 13), (15, 191), (0, 8))
def aM_531 : am_mE := ((⟨"SecureLinesModel", "foldDigest", "(I)V"⟩, prog_14_method_154_code, 5, none, 5, 107, 13), (15, 195), (0, 8))
def aM_532 : am_mE := ((⟨"SecureLinesModel", "finishClient", "(I)V"⟩, prog_14_method_206_code, 5, none, 11, 273, 13), (15, 199), (0, 8))
def aM_533 : am_mE := ((⟨"SecureLinesModel", "masterKeys", "(I)V"⟩, prog_14_method_166_code, 3, none, 7, 159, 13), (15, 203), (0, 8))
def aM_534 : am_mE := ((⟨"SecureLinesModel", "spokenKey", "(IZ)J"⟩, prog_14_method_167_code, 3, some .long, 7, 159, 13), (15, 207), (0, 8))
def aM_535 : am_mE := ((⟨"SecureLinesModel", "schemeOf", "(II)I"⟩, prog_14_method_203_code, 5, some .int, 0, 0, 13), (15, 211), (0, 8))
def aM_536 : am_mE := ((⟨"SecureLinesModel", "putChain", "(III)V"⟩, prog_14_method_202_code, 6, none, 2, 45, 13), (15, 215), (0, 8))
def aM_537 : am_mE := ((⟨"SecureLinesModel", "putProof", "(IIIZ)V"⟩, prog_14_method_204_code, 7, none, 10, 247, 13), (15, 219), (0, 8))
def aM_538 : am_mE := ((⟨"SecureLinesModel", "putEnd", "(IZ)V"⟩, prog_14_method_205_code, 5, none, 10, 247, 13), (15, 223), (0, 8))
def aM_539 : am_mE := ((⟨"SecureLinesModel", "keepTicket", "(III)V"⟩, prog_14_method_207_code, 6, none, 7, 159, 13), (15, 227), (0, 8))
def aM_540 : am_mE := ((⟨"SecureLinesModel", "turnKeys", "(II)V"⟩, prog_14_method_210_code, 3, none, 11, 269, 13), (15, 231), (0, 8))
def aM_541 : am_mE := ((⟨"SecureLinesModel", "turned", "(IJ)J"⟩, prog_14_method_208_code, 4, some .long, 7, 159, 13), (15, 235), (0, 8))
def aM_542 : am_mE := ((⟨"SecureLinesModel", "putTurn", "(II)V"⟩, prog_14_method_209_code, 3, none, 10, 247, 13), (15, 239), (0, 8))
def aM_543 : am_mE := ((⟨"SecureLinesModel", "serverDoes", "(IIII)V"⟩, prog_14_method_223_code, 6, none, 12, 305, 13), (16, 3), (0, 8))
def aM_544 : am_mE := ((⟨"SecureLinesModel", "putRetry", "(III)V"⟩, prog_14_method_224_code, 7, none, 10, 247, 13), (16, 7), (0, 8))
def aM_545 : am_mE := ((⟨"SecureLinesModel", "putAnswe\x72", "(III)V"⟩, prog_14_method_226_code, 13, none, 11, 273, 13), (16, 11), (0, 8))
def aM_546 : am_mE := ((⟨"SecureLinesModel", "takesEarly", "(I)Z"⟩, prog_14_method_225_code, 5, some .boolean, 1, 25, 13), (16, 15), (0, 8))
def aM_547 : am_mE := ((⟨"SecureLinesModel", "stapleFo\x72", "(I)I"⟩, prog_14_method_227_code, 5, some .int, 1, 27, 13), (16, 19), (0, 8))
def aM_548 : am_mE := ((⟨"SecureLinesModel", "finishServe\x72", "(I)V"⟩, prog_14_method_228_code, 7, none, 10, 247, 13), (16, 23), (0, 8))
def aM_549 : am_mE := ((⟨"SecureLinesModel", "book", "(IJJI)V"⟩, prog_14_method_229_code, 8, none, 0, 0, 13), (16, 27), (0, 8))
def aM_550 : am_mE := ((⟨"SecureLinesModel", "bring", "(III)I"⟩, prog_14_method_232_code, 8, some .int, 19, 495, 13), (16, 31), (0, 8))
def aM_551 : am_mE := ((⟨"SecureLinesModel", "line", "(III)I"⟩, prog_14_method_233_code, 5, some .int, 3, 68, 13), (16, 36), (0, 8))
def aM_552 : am_mE := ((⟨"SecureLinesModel", "alte\x72", "(IIII)I"⟩, prog_14_method_234_code, 5, some .int, 3, 68, 13), (16, 40), (0, 8))
def aM_553 : am_mE := ((⟨"SecureLinesModel", "say", "(II)I"⟩, prog_14_method_236_code, 6, some .int, 9, 223, 13), (16, 44), (0, 8))
def aM_554 : am_mE := ((⟨"SecureLinesModel", "isOpen", "(I)Z"⟩, prog_14_method_235_code, 2, some .boolean, 1, 21, 13), (16, 48), (0, 8))
def aM_555 : am_mE := ((⟨"SecureLinesModel", "hea\x72", "(II)I"⟩, prog_14_method_237_code, 6, some .int, 3, 68, 13), (16, 52), (0, 8))
def aM_556 : am_mE := ((⟨"SecureLinesModel", "close", "(II)I"⟩, prog_14_method_238_code, 4, some .int, 10, 245, 13), (16, 56), (0, 8))
def aM_557 : am_mE := ((⟨"SecureLinesModel", "renew", "(III)I"⟩, prog_14_method_239_code, 5, some .int, 11, 269, 13), (16, 60), (0, 8))
def aM_558 : am_mE := ((⟨"SecureLinesModel", "told", "(III)I"⟩, prog_14_method_240_code, 5, some .int, 3, 68, 13), (16, 64), (0, 8))
def aM_559 : am_mE := ((⟨"SecureLinesModel", "key", "(III)J"⟩, prog_14_method_241_code, 5, some .long, 5, 105, 13), (16, 69), (0, 8))
def aM_560 : am_mE := ((⟨"SecureLinesModel", "export", "(II)J"⟩, prog_14_method_242_code, 6, some .long, 7, 159, 13), (16, 73), (0, 8))
def aM_561 : am_mE := ((x, code, maxLocals, ret, 20, 522, 14), (18, 0), (0, 0))
def aLM_0 : List (am_mE) := [aM_0, aM_1, aM_2, aM_3, aM_4, aM_5, aM_6, aM_7, aM_8, aM_9, aM_10, aM_11, aM_12, aM_13, aM_14, aM_15, aM_16, aM_17, aM_18, aM_19, aM_20, aM_21, aM_22, aM_23, aM_24, aM_25, aM_26, aM_27, aM_28, aM_29]
def aLM_1 : List (am_mE) := [aM_30, aM_31, aM_32, aM_33, aM_34, aM_35, aM_36, aM_37, aM_38, aM_39, aM_40, aM_41, aM_42, aM_43, aM_44, aM_45, aM_46, aM_47, aM_48, aM_49, aM_50, aM_51, aM_52, aM_53, aM_54, aM_55, aM_56, aM_57, aM_58, aM_59]
def aLM_2 : List (am_mE) := [aM_60, aM_61, aM_62, aM_63, aM_64, aM_65, aM_66, aM_67, aM_68, aM_69, aM_70, aM_71, aM_72, aM_73, aM_74, aM_75, aM_76, aM_77, aM_78, aM_79, aM_80, aM_81, aM_82, aM_83, aM_84, aM_85, aM_86, aM_87, aM_88, aM_89]
def aLM_3 : List (am_mE) := [aM_90, aM_91, aM_92, aM_93, aM_94, aM_95, aM_96, aM_97, aM_98, aM_99, aM_100, aM_101, aM_102, aM_103, aM_104, aM_105, aM_106, aM_107, aM_108, aM_109, aM_110, aM_111, aM_112, aM_113, aM_114, aM_115, aM_116, aM_117, aM_118, aM_119]
def aLM_4 : List (am_mE) := [aM_120, aM_121, aM_122, aM_123, aM_124, aM_125, aM_126, aM_127, aM_128, aM_129, aM_130, aM_131, aM_132, aM_133, aM_134, aM_135, aM_136, aM_137, aM_138, aM_139, aM_140, aM_141, aM_142, aM_143, aM_144, aM_145, aM_146, aM_147, aM_148, aM_149]
def aLM_5 : List (am_mE) := [aM_150, aM_151, aM_152, aM_153, aM_154, aM_155, aM_156, aM_157, aM_158, aM_159, aM_160, aM_161, aM_162, aM_163, aM_164, aM_165, aM_166, aM_167, aM_168, aM_169, aM_170, aM_171, aM_172, aM_173, aM_174, aM_175, aM_176, aM_177, aM_178, aM_179]
def aLM_6 : List (am_mE) := [aM_180, aM_181, aM_182, aM_183, aM_184, aM_185, aM_186, aM_187, aM_188, aM_189, aM_190, aM_191, aM_192, aM_193, aM_194, aM_195, aM_196, aM_197, aM_198, aM_199, aM_200, aM_201, aM_202, aM_203, aM_204, aM_205, aM_206, aM_207, aM_208, aM_209]
def aLM_7 : List (am_mE) := [aM_210, aM_211, aM_212, aM_213, aM_214, aM_215, aM_216, aM_217, aM_218, aM_219, aM_220, aM_221, aM_222, aM_223, aM_224, aM_225, aM_226, aM_227, aM_228, aM_229, aM_230, aM_231, aM_232, aM_233, aM_234, aM_235, aM_236, aM_237, aM_238, aM_239]
def aLM_8 : List (am_mE) := [aM_240, aM_241, aM_242, aM_243, aM_244, aM_245, aM_246, aM_247, aM_248, aM_249, aM_250, aM_251, aM_252, aM_253, aM_254, aM_255, aM_256, aM_257, aM_258, aM_259, aM_260, aM_261, aM_262, aM_263, aM_264, aM_265, aM_266, aM_267, aM_268, aM_269]
def aLM_9 : List (am_mE) := [aM_270, aM_271, aM_272, aM_273, aM_274, aM_275, aM_276, aM_277, aM_278, aM_279, aM_280, aM_281, aM_282, aM_283, aM_284, aM_285, aM_286, aM_287, aM_288, aM_289, aM_290, aM_291, aM_292, aM_293, aM_294, aM_295, aM_296, aM_297, aM_298, aM_299]
def aLM_10 : List (am_mE) := [aM_300, aM_301, aM_302, aM_303, aM_304, aM_305, aM_306, aM_307, aM_308, aM_309, aM_310, aM_311, aM_312, aM_313, aM_314, aM_315, aM_316, aM_317, aM_318, aM_319, aM_320, aM_321, aM_322, aM_323, aM_324, aM_325, aM_326, aM_327, aM_328, aM_329]
def aLM_11 : List (am_mE) := [aM_330, aM_331, aM_332, aM_333, aM_334, aM_335, aM_336, aM_337, aM_338, aM_339, aM_340, aM_341, aM_342, aM_343, aM_344, aM_345, aM_346, aM_347, aM_348, aM_349, aM_350, aM_351, aM_352, aM_353, aM_354, aM_355, aM_356, aM_357, aM_358, aM_359]
def aLM_12 : List (am_mE) := [aM_360, aM_361, aM_362, aM_363, aM_364, aM_365, aM_366, aM_367, aM_368, aM_369, aM_370, aM_371, aM_372, aM_373, aM_374, aM_375, aM_376, aM_377, aM_378, aM_379, aM_380, aM_381, aM_382, aM_383, aM_384, aM_385, aM_386, aM_387, aM_388, aM_389]
def aLM_13 : List (am_mE) := [aM_390, aM_391, aM_392, aM_393, aM_394, aM_395, aM_396, aM_397, aM_398, aM_399, aM_400, aM_401, aM_402, aM_403, aM_404, aM_405, aM_406, aM_407, aM_408, aM_409, aM_410, aM_411, aM_412, aM_413, aM_414, aM_415, aM_416, aM_417, aM_418, aM_419]
def aLM_14 : List (am_mE) := [aM_420, aM_421, aM_422, aM_423, aM_424, aM_425, aM_426, aM_427, aM_428, aM_429, aM_430, aM_431, aM_432, aM_433, aM_434, aM_435, aM_436, aM_437, aM_438, aM_439, aM_440, aM_441, aM_442, aM_443, aM_444, aM_445, aM_446, aM_447, aM_448, aM_449]
def aLM_15 : List (am_mE) := [aM_450, aM_451, aM_452, aM_453, aM_454, aM_455, aM_456, aM_457, aM_458, aM_459, aM_460, aM_461, aM_462, aM_463, aM_464, aM_465, aM_466, aM_467, aM_468, aM_469, aM_470, aM_471, aM_472, aM_473, aM_474, aM_475, aM_476, aM_477, aM_478, aM_479]
def aLM_16 : List (am_mE) := [aM_480, aM_481, aM_482, aM_483, aM_484, aM_485, aM_486, aM_487, aM_488, aM_489, aM_490, aM_491, aM_492, aM_493, aM_494, aM_495, aM_496, aM_497, aM_498, aM_499, aM_500, aM_501, aM_502, aM_503, aM_504, aM_505, aM_506, aM_507, aM_508, aM_509]
def aLM_17 : List (am_mE) := [aM_510, aM_511, aM_512, aM_513, aM_514, aM_515, aM_516, aM_517, aM_518, aM_519, aM_520, aM_521, aM_522, aM_523, aM_524, aM_525, aM_526, aM_527, aM_528, aM_529, aM_530, aM_531, aM_532, aM_533, aM_534, aM_535, aM_536, aM_537, aM_538, aM_539]
def aLM_18 : List (am_mE) := [aM_540, aM_541, aM_542, aM_543, aM_544, aM_545, aM_546, aM_547, aM_548, aM_549, aM_550, aM_551, aM_552, aM_553, aM_554, aM_555, aM_556, aM_557, aM_558, aM_559, aM_560, aM_561]
def aLM : List (am_mE) := aLM_0 ++ (aLM_1 ++ (aLM_2 ++ (aLM_3 ++ (aLM_4 ++ (aLM_5 ++ (aLM_6 ++ (aLM_7 ++ (aLM_8 ++ (aLM_9 ++ (aLM_10 ++ (aLM_11 ++ (aLM_12 ++ (aLM_13 ++ (aLM_14 ++ (aLM_15 ++ (aLM_16 ++ (aLM_17 ++ (aLM_18))))))))))))))))))
def aLF_0_0 : List (am_fE) := [((80, 7), 0, 1, "SecureLines$Row", some "SecureLines", (0, 70), (0, 0)), ((69, 7), 1, 1, "SecureLines$Row", some "SecureLines", (0, 77), (0, 0)), ((209, 6), 0, 0, "SecureLines$Pape\x72", some "SecureLines", (0, 125), (0, 0)), ((200, 6), 1, 0, "SecureLines$Pape\x72", some "SecureLines", (0, 130), (0, 0)), ((241, 6), 5, 1, "SecureLines$Pape\x72", some "SecureLines", (0, 138), (0, 0)), ((88, 3), 0, 1, "SecureLines$House", some "SecureLines", (0, 155), (0, 0)), ((98, 3), 1, 0, "SecureLines$House", some "SecureLines", (0, 162), (0, 0)), ((179, 3), 2, 0, "SecureLines$House", some "SecureLines", (0, 170), (0, 0)), ((167, 3), 5, 0, "SecureLines$House", some "SecureLines", (0, 178), (0, 0)), ((196, 3), 8, 0, "SecureLines$House", some "SecureLines", (0, 187), (0, 0)), ((210, 3), 9, 1, "SecureLines$House", some "SecureLines", (0, 191), (0, 0)), ((225, 3), 17, 1, "SecureLines$House", some "SecureLines", (0, 203), (0, 0)), ((222, 3), 18, 0, "SecureLines$House", some "SecureLines", (0, 206), (0, 0)), ((219, 3), 19, 1, "SecureLines$House", some "SecureLines", (0, 209), (0, 0)), ((10, 10), 0, 2, "SecureLines", none, (1, 22), (0, 0)), ((21, 10), 1, 2, "SecureLines", none, (1, 23), (0, 0)), ((25, 10), 2, 2, "SecureLines", none, (1, 24), (0, 0)), ((28, 10), 3, 2, "SecureLines", none, (1, 25), (0, 0)), ((213, 10), 4, 1, "SecureLines", none, (1, 26), (0, 0)), ((34, 10), 5, 2, "SecureLines", none, (1, 27), (0, 0)), ((248, 10), 6, 1, "SecureLines", none, (1, 28), (0, 0)), ((40, 10), 7, 2, "SecureLines", none, (1, 29), (0, 0)), ((322, 10), 8, 1, "SecureLines", none, (1, 30), (0, 0)), ((46, 10), 9, 2, "SecureLines", none, (1, 31), (0, 0)), ((393, 10), 10, 1, "SecureLines", none, (1, 32), (0, 0)), ((50, 10), 11, 2, "SecureLines", none, (1, 33), (0, 0)), ((54, 10), 12, 2, "SecureLines", none, (1, 34), (0, 0)), ((423, 10), 13, 1, "SecureLines", none, (1, 35), (0, 0)), ((60, 10), 14, 2, "SecureLines", none, (1, 36), (0, 0)), ((63, 10), 15, 2, "SecureLines", none, (1, 37), (0, 0))]
def aLF_0_1 : List (am_fE) := [((470, 10), 16, 1, "SecureLines", none, (1, 38), (0, 0)), ((66, 10), 17, 2, "SecureLines", none, (1, 39), (0, 0)), ((254, 1), 0, 0, "SecureLines$End", some "SecureLines", (3, 89), (0, 0)), ((268, 1), 2, 0, "SecureLines$End", some "SecureLines", (3, 97), (0, 0)), ((271, 1), 3, 0, "SecureLines$End", some "SecureLines", (3, 100), (0, 0)), ((275, 1), 6, 0, "SecureLines$End", some "SecureLines", (3, 108), (0, 0)), ((278, 1), 7, 1, "SecureLines$End", some "SecureLines", (3, 111), (0, 0)), ((281, 1), 8, 1, "SecureLines$End", some "SecureLines", (3, 113), (0, 0)), ((291, 1), 9, 0, "SecureLines$End", some "SecureLines", (3, 116), (0, 0)), ((309, 1), 10, 0, "SecureLines$End", some "SecureLines", (3, 119), (0, 0)), ((294, 1), 11, 1, "SecureLines$End", some "SecureLines", (3, 122), (0, 0)), ((319, 1), 12, 0, "SecureLines$End", some "SecureLines", (3, 125), (0, 0)), ((313, 9), 0, 0, "SecureLines$Shared", some "SecureLines", (3, 227), (0, 0)), ((343, 0), 2, 0, "SecureLines$Side", none, (4, 97), (0, 0)), ((343, 8), 2, 0, "SecureLines$Side", none, (4, 97), (0, 0)), ((371, 0), 6, 0, "SecureLines$Side", none, (4, 110), (0, 0)), ((371, 8), 6, 0, "SecureLines$Side", none, (4, 110), (0, 0)), ((387, 0), 7, 0, "SecureLines$Side", none, (4, 116), (0, 0)), ((387, 8), 7, 0, "SecureLines$Side", none, (4, 116), (0, 0)), ((390, 0), 11, 1, "SecureLines$Side", none, (4, 121), (0, 0)), ((390, 8), 11, 1, "SecureLines$Side", none, (4, 121), (0, 0)), ((409, 5), 5, 1, "SecureLines$Office", some "SecureLines", (8, 113), (0, 0)), ((430, 5), 9, 0, "SecureLines$Office", some "SecureLines", (8, 118), (0, 0)), ((402, 5), 10, 1, "SecureLines$Office", some "SecureLines", (8, 120), (0, 0)), ((436, 5), 11, 0, "SecureLines$Office", some "SecureLines", (8, 122), (0, 0))]
def aLF_0 : List (am_fE) := aLF_0_0 ++ (aLF_0_1)
def aLF_1_0 : List (am_fE) := [((73, 7), 0, 1, "SecureLines$Row", some "SecureLines", (0, 67), (0, 0)), ((76, 7), 1, 1, "SecureLines$Row", some "SecureLines", (0, 76), (0, 0)), ((129, 6), 0, 0, "SecureLines$Pape\x72", some "SecureLines", (0, 123), (0, 0)), ((122, 6), 1, 0, "SecureLines$Pape\x72", some "SecureLines", (0, 128), (0, 0)), ((125, 6), 3, 1, "SecureLines$Pape\x72", some "SecureLines", (0, 133), (0, 0)), ((119, 6), 5, 1, "SecureLines$Pape\x72", some "SecureLines", (0, 137), (0, 0)), ((116, 6), 6, 1, "SecureLines$Pape\x72", some "SecureLines", (0, 139), (0, 0)), ((12, 3), 1, 2, "SecureLines$House", none, (0, 160), (0, 0)), ((23, 3), 2, 2, "SecureLines$House", none, (0, 166), (0, 0)), ((27, 3), 3, 2, "SecureLines$House", none, (0, 171), (0, 0)), ((30, 3), 4, 2, "SecureLines$House", none, (0, 175), (0, 0)), ((33, 3), 5, 2, "SecureLines$House", none, (0, 177), (0, 0)), ((40, 3), 6, 2, "SecureLines$House", none, (0, 180), (0, 0)), ((44, 3), 7, 2, "SecureLines$House", none, (0, 183), (0, 0)), ((49, 3), 8, 2, "SecureLines$House", none, (0, 185), (0, 0)), ((103, 3), 9, 1, "SecureLines$House", none, (0, 189), (0, 0)), ((53, 3), 10, 2, "SecureLines$House", none, (0, 192), (0, 0)), ((110, 3), 11, 1, "SecureLines$House", none, (0, 193), (0, 0)), ((56, 3), 12, 2, "SecureLines$House", none, (0, 194), (0, 0)), ((113, 3), 13, 1, "SecureLines$House", none, (0, 195), (0, 0)), ((60, 3), 14, 2, "SecureLines$House", none, (0, 196), (0, 0)), ((64, 3), 15, 2, "SecureLines$House", none, (0, 197), (0, 0)), ((67, 3), 16, 2, "SecureLines$House", none, (0, 200), (0, 0)), ((145, 3), 17, 1, "SecureLines$House", none, (0, 202), (0, 0)), ((70, 3), 18, 2, "SecureLines$House", none, (0, 205), (0, 0)), ((168, 3), 19, 1, "SecureLines$House", none, (0, 208), (0, 0)), ((194, 1), 2, 0, "SecureLines$End", some "SecureLines", (3, 96), (0, 0)), ((165, 1), 4, 0, "SecureLines$End", some "SecureLines", (3, 102), (0, 0)), ((160, 1), 5, 1, "SecureLines$End", some "SecureLines", (3, 103), (0, 0))]
def aLF_1 : List (am_fE) := aLF_1_0
def aLF_2_0 : List (am_fE) := [((7, 4), 0, 1, "SecureLines$Mill", none, (0, 37), (0, 0)), ((13, 4), 1, 1, "SecureLines$Mill", none, (0, 38), (0, 0)), ((16, 4), 2, 1, "SecureLines$Mill", none, (0, 39), (0, 0)), ((19, 4), 3, 1, "SecureLines$Mill", none, (0, 40), (0, 0)), ((25, 4), 4, 1, "SecureLines$Mill", none, (0, 41), (0, 0)), ((22, 4), 5, 1, "SecureLines$Mill", none, (0, 42), (0, 0)), ((72, 7), 0, 1, "SecureLines$Row", some "SecureLines", (0, 73), (0, 0)), ((82, 7), 1, 1, "SecureLines$Row", some "SecureLines", (0, 82), (0, 0))]
def aLF_2 : List (am_fE) := aLF_2_0
def aLF_3_0 : List (am_fE) := [((13, 7), 0, 1, "SecureLines$Row", none, (0, 66), (0, 0)), ((19, 7), 1, 1, "SecureLines$Row", none, (0, 75), (0, 0))]
def aLF_3 : List (am_fE) := aLF_3_0
def aLF_4_0 : List (am_fE) := [((7, 2), 0, 1, "SecureLines$Fields", none, (0, 95), (0, 0)), ((13, 2), 1, 2, "SecureLines$Fields", none, (0, 96), (0, 0)), ((16, 2), 2, 2, "SecureLines$Fields", none, (0, 98), (0, 0)), ((19, 2), 3, 1, "SecureLines$Fields", none, (0, 99), (0, 0)), ((48, 2), 4, 1, "SecureLines$Fields", none, (0, 101), (0, 0))]
def aLF_4 : List (am_fE) := aLF_4_0
def aLF_5_0 : List (am_fE) := [((28, 6), 0, 2, "SecureLines$Pape\x72", none, (0, 122), (0, 0)), ((9, 6), 1, 2, "SecureLines$Pape\x72", none, (0, 127), (0, 0)), ((15, 6), 2, 2, "SecureLines$Pape\x72", none, (0, 132), (0, 0)), ((99, 6), 3, 1, "SecureLines$Pape\x72", none, (0, 134), (0, 0)), ((80, 6), 4, 1, "SecureLines$Pape\x72", none, (0, 135), (0, 0)), ((18, 6), 5, 1, "SecureLines$Pape\x72", none, (0, 136), (0, 0))]
def aLF_5 : List (am_fE) := aLF_5_0
def aLF_6_0 : List (am_fE) := []
def aLF_6 : List (am_fE) := aLF_6_0
def aLF_7_0 : List (am_fE) := [((50, 1), 0, 2, "SecureLines$End", none, (3, 87), (0, 0)), ((9, 1), 1, 2, "SecureLines$End", none, (3, 90), (0, 0)), ((15, 1), 2, 2, "SecureLines$End", none, (3, 93), (0, 0)), ((23, 1), 3, 2, "SecureLines$End", none, (3, 99), (0, 0)), ((29, 1), 4, 2, "SecureLines$End", none, (3, 101), (0, 0)), ((75, 1), 5, 1, "SecureLines$End", none, (3, 104), (0, 0)), ((32, 1), 6, 2, "SecureLines$End", none, (3, 105), (0, 0)), ((35, 1), 9, 2, "SecureLines$End", none, (3, 114), (0, 0)), ((40, 1), 10, 2, "SecureLines$End", none, (3, 117), (0, 0)), ((79, 1), 11, 1, "SecureLines$End", none, (3, 121), (0, 0)), ((44, 1), 12, 2, "SecureLines$End", none, (3, 123), (0, 0)), ((47, 1), 13, 2, "SecureLines$End", none, (3, 126), (0, 0)), ((82, 1), 14, 1, "SecureLines$End", none, (3, 127), (0, 0)), ((117, 1), 15, 1, "SecureLines$End", none, (3, 128), (0, 0)), ((114, 1), 16, 1, "SecureLines$End", none, (3, 130), (0, 0)), ((98, 9), 5, 1, "SecureLines$Shared", some "SecureLines", (4, 1), (0, 0)), ((95, 9), 7, 1, "SecureLines$Shared", some "SecureLines", (4, 7), (0, 0))]
def aLF_7 : List (am_fE) := aLF_7_0
def aLF_8_0 : List (am_fE) := [((7, 7), 0, 1, "SecureLines$Row", some "SecureLines", (0, 65), (0, 0)), ((13, 7), 1, 1, "SecureLines$Row", some "SecureLines", (0, 74), (0, 0)), ((23, 9), 0, 2, "SecureLines$Shared", none, (3, 225), (0, 0)), ((28, 9), 1, 2, "SecureLines$Shared", none, (3, 228), (0, 0)), ((31, 9), 2, 2, "SecureLines$Shared", none, (3, 231), (0, 0)), ((35, 9), 3, 1, "SecureLines$Shared", none, (3, 234), (0, 0)), ((39, 9), 4, 1, "SecureLines$Shared", none, (3, 237), (0, 0)), ((42, 9), 5, 1, "SecureLines$Shared", none, (4, 0), (0, 0)), ((45, 9), 6, 1, "SecureLines$Shared", none, (4, 2), (0, 0)), ((48, 9), 7, 1, "SecureLines$Shared", none, (4, 4), (0, 0))]
def aLF_8 : List (am_fE) := aLF_8_0
def aLF_9_0 : List (am_fE) := [((70, 7), 0, 1, "SecureLines$Row", some "SecureLines", (0, 71), (0, 0)), ((181, 7), 1, 1, "SecureLines$Row", some "SecureLines", (0, 81), (0, 0)), ((195, 2), 1, 0, "SecureLines$Fields", some "SecureLines", (0, 97), (0, 0)), ((121, 2), 4, 1, "SecureLines$Fields", some "SecureLines", (0, 102), (0, 0)), ((204, 3), 0, 1, "SecureLines$House", some "SecureLines", (0, 157), (0, 0)), ((165, 3), 1, 0, "SecureLines$House", some "SecureLines", (0, 163), (0, 0)), ((394, 3), 3, 0, "SecureLines$House", some "SecureLines", (0, 174), (0, 0)), ((60, 3), 6, 0, "SecureLines$House", some "SecureLines", (0, 181), (0, 0)), ((178, 3), 7, 0, "SecureLines$House", some "SecureLines", (0, 184), (0, 0)), ((271, 3), 8, 0, "SecureLines$House", some "SecureLines", (0, 186), (0, 0)), ((47, 1), 2, 0, "SecureLines$End", some "SecureLines", (3, 95), (0, 0)), ((275, 1), 6, 0, "SecureLines$End", some "SecureLines", (3, 106), (0, 0)), ((214, 1), 7, 1, "SecureLines$End", some "SecureLines", (3, 109), (0, 0)), ((387, 1), 15, 1, "SecureLines$End", some "SecureLines", (3, 129), (0, 0)), ((384, 1), 16, 1, "SecureLines$End", some "SecureLines", (3, 131), (0, 0)), ((113, 9), 1, 0, "SecureLines$Shared", some "SecureLines", (3, 230), (0, 0)), ((118, 9), 2, 0, "SecureLines$Shared", some "SecureLines", (3, 233), (0, 0)), ((217, 9), 3, 1, "SecureLines$Shared", some "SecureLines", (3, 236), (0, 0)), ((223, 9), 4, 1, "SecureLines$Shared", some "SecureLines", (3, 239), (0, 0)), ((220, 9), 7, 1, "SecureLines$Shared", some "SecureLines", (4, 6), (0, 0)), ((224, 9), 8, 1, "SecureLines$Shared", some "SecureLines", (4, 8), (0, 0)), ((102, 8), 19, 1, "SecureLines$Serve\x72", none, (4, 71), (0, 0)), ((145, 8), 20, 1, "SecureLines$Serve\x72", none, (4, 72), (0, 0)), ((211, 8), 21, 1, "SecureLines$Serve\x72", none, (4, 73), (0, 0)), ((105, 8), 22, 1, "SecureLines$Serve\x72", none, (4, 74), (0, 0)), ((128, 8), 23, 1, "SecureLines$Serve\x72", none, (4, 75), (0, 0)), ((139, 8), 24, 1, "SecureLines$Serve\x72", none, (4, 76), (0, 0)), ((36, 8), 25, 1, "SecureLines$Serve\x72", none, (4, 77), (0, 0)), ((152, 8), 26, 1, "SecureLines$Serve\x72", none, (4, 78), (0, 0)), ((162, 8), 27, 1, "SecureLines$Serve\x72", none, (4, 79), (0, 0))]
def aLF_9_1 : List (am_fE) := [((155, 8), 28, 1, "SecureLines$Serve\x72", none, (4, 80), (0, 0)), ((370, 8), 29, 1, "SecureLines$Serve\x72", none, (4, 81), (0, 0)), ((40, 8), 30, 1, "SecureLines$Serve\x72", none, (4, 82), (0, 0)), ((265, 8), 31, 1, "SecureLines$Serve\x72", none, (4, 83), (0, 0)), ((85, 8), 32, 1, "SecureLines$Serve\x72", none, (4, 84), (0, 0)), ((192, 8), 33, 1, "SecureLines$Serve\x72", none, (4, 85), (0, 0)), ((56, 0), 0, 0, "SecureLines$Serve\x72", none, (4, 89), (4, 90)), ((56, 8), 0, 0, "SecureLines$Serve\x72", none, (4, 89), (4, 90)), ((43, 0), 1, 0, "SecureLines$Serve\x72", none, (4, 94), (4, 95)), ((43, 8), 1, 0, "SecureLines$Serve\x72", none, (4, 94), (4, 95)), ((66, 0), 4, 0, "SecureLines$Serve\x72", none, (4, 100), (4, 101)), ((66, 8), 4, 0, "SecureLines$Serve\x72", none, (4, 100), (4, 101)), ((95, 0), 6, 0, "SecureLines$Serve\x72", none, (4, 106), (4, 107)), ((95, 8), 6, 0, "SecureLines$Serve\x72", none, (4, 106), (4, 107)), ((373, 0), 7, 0, "SecureLines$Serve\x72", none, (4, 112), (4, 113)), ((373, 8), 7, 0, "SecureLines$Serve\x72", none, (4, 112), (4, 113)), ((237, 0), 12, 1, "SecureLines$Serve\x72", none, (4, 123), (4, 124)), ((237, 8), 12, 1, "SecureLines$Serve\x72", none, (4, 123), (4, 124)), ((7, 0), 13, 1, "SecureLines$Serve\x72", none, (4, 125), (4, 126)), ((7, 8), 13, 1, "SecureLines$Serve\x72", none, (4, 125), (4, 126)), ((25, 0), 15, 1, "SecureLines$Serve\x72", none, (4, 130), (4, 131)), ((25, 8), 15, 1, "SecureLines$Serve\x72", none, (4, 130), (4, 131)), ((290, 0), 16, 1, "SecureLines$Serve\x72", none, (4, 137), (4, 138)), ((290, 8), 16, 1, "SecureLines$Serve\x72", none, (4, 137), (4, 138)), ((306, 0), 17, 1, "SecureLines$Serve\x72", none, (4, 140), (4, 141)), ((306, 8), 17, 1, "SecureLines$Serve\x72", none, (4, 140), (4, 141))]
def aLF_9 : List (am_fE) := aLF_9_0 ++ (aLF_9_1)
def aLF_10_0 : List (am_fE) := [((143, 7), 0, 1, "SecureLines$Row", some "SecureLines", (0, 72), (0, 0)), ((55, 7), 1, 1, "SecureLines$Row", some "SecureLines", (0, 80), (0, 0)), ((283, 6), 0, 0, "SecureLines$Pape\x72", some "SecureLines", (0, 126), (0, 0)), ((278, 6), 1, 0, "SecureLines$Pape\x72", some "SecureLines", (0, 131), (0, 0)), ((106, 3), 0, 1, "SecureLines$House", some "SecureLines", (0, 158), (0, 0)), ((155, 3), 1, 0, "SecureLines$House", some "SecureLines", (0, 165), (0, 0)), ((199, 3), 2, 0, "SecureLines$House", some "SecureLines", (0, 169), (0, 0)), ((180, 3), 3, 0, "SecureLines$House", some "SecureLines", (0, 173), (0, 0)), ((302, 3), 5, 0, "SecureLines$House", some "SecureLines", (0, 179), (0, 0)), ((271, 3), 8, 0, "SecureLines$House", some "SecureLines", (0, 188), (0, 0)), ((309, 3), 15, 0, "SecureLines$House", some "SecureLines", (0, 199), (0, 0)), ((322, 3), 16, 0, "SecureLines$House", some "SecureLines", (0, 201), (0, 0)), ((319, 3), 17, 1, "SecureLines$House", some "SecureLines", (0, 204), (0, 0)), ((101, 3), 19, 1, "SecureLines$House", some "SecureLines", (0, 207), (0, 0)), ((109, 1), 0, 0, "SecureLines$End", some "SecureLines", (3, 88), (0, 0)), ((205, 1), 1, 0, "SecureLines$End", some "SecureLines", (3, 92), (0, 0)), ((316, 1), 2, 0, "SecureLines$End", some "SecureLines", (3, 98), (0, 0)), ((275, 1), 6, 0, "SecureLines$End", some "SecureLines", (3, 107), (0, 0)), ((289, 1), 8, 1, "SecureLines$End", some "SecureLines", (3, 112), (0, 0)), ((43, 0), 0, 2, "SecureLines$Side", none, (4, 86), (0, 0)), ((43, 8), 0, 2, "SecureLines$Side", none, (4, 86), (0, 0)), ((47, 0), 1, 2, "SecureLines$Side", none, (4, 91), (0, 0)), ((47, 8), 1, 2, "SecureLines$Side", none, (4, 91), (0, 0)), ((14, 0), 2, 2, "SecureLines$Side", none, (4, 96), (0, 0)), ((14, 8), 2, 2, "SecureLines$Side", none, (4, 96), (0, 0)), ((20, 0), 3, 2, "SecureLines$Side", none, (4, 98), (0, 0)), ((20, 8), 3, 2, "SecureLines$Side", none, (4, 98), (0, 0)), ((23, 0), 4, 2, "SecureLines$Side", none, (4, 99), (0, 0)), ((23, 8), 4, 2, "SecureLines$Side", none, (4, 99), (0, 0)), ((26, 0), 5, 2, "SecureLines$Side", none, (4, 104), (0, 0))]
def aLF_10_1 : List (am_fE) := [((26, 8), 5, 2, "SecureLines$Side", none, (4, 104), (0, 0)), ((29, 0), 6, 2, "SecureLines$Side", none, (4, 105), (0, 0)), ((29, 8), 6, 2, "SecureLines$Side", none, (4, 105), (0, 0)), ((33, 0), 7, 2, "SecureLines$Side", none, (4, 111), (0, 0)), ((33, 8), 7, 2, "SecureLines$Side", none, (4, 111), (0, 0)), ((165, 0), 8, 1, "SecureLines$Side", none, (4, 117), (0, 0)), ((165, 8), 8, 1, "SecureLines$Side", none, (4, 117), (0, 0)), ((136, 0), 9, 1, "SecureLines$Side", none, (4, 118), (0, 0)), ((136, 8), 9, 1, "SecureLines$Side", none, (4, 118), (0, 0)), ((174, 0), 10, 1, "SecureLines$Side", none, (4, 119), (0, 0)), ((174, 8), 10, 1, "SecureLines$Side", none, (4, 119), (0, 0)), ((258, 0), 11, 1, "SecureLines$Side", none, (4, 120), (0, 0)), ((258, 8), 11, 1, "SecureLines$Side", none, (4, 120), (0, 0)), ((133, 0), 12, 1, "SecureLines$Side", none, (4, 122), (0, 0)), ((133, 8), 12, 1, "SecureLines$Side", none, (4, 122), (0, 0)), ((39, 0), 14, 2, "SecureLines$Side", none, (4, 129), (0, 0)), ((39, 8), 14, 2, "SecureLines$Side", none, (4, 129), (0, 0)), ((251, 0), 15, 1, "SecureLines$Side", none, (4, 134), (0, 0)), ((251, 8), 15, 1, "SecureLines$Side", none, (4, 134), (0, 0)), ((255, 0), 16, 1, "SecureLines$Side", none, (4, 139), (0, 0)), ((255, 8), 16, 1, "SecureLines$Side", none, (4, 139), (0, 0)), ((261, 0), 17, 1, "SecureLines$Side", none, (4, 144), (0, 0)), ((261, 8), 17, 1, "SecureLines$Side", none, (4, 144), (0, 0)), ((333, 0), 18, 1, "SecureLines$Side", none, (4, 145), (0, 0)), ((333, 8), 18, 1, "SecureLines$Side", none, (4, 145), (0, 0))]
def aLF_10 : List (am_fE) := aLF_10_0 ++ (aLF_10_1)
def aLF_11_0 : List (am_fE) := [((111, 7), 0, 1, "SecureLines$Row", some "SecureLines", (0, 68), (0, 0)), ((41, 7), 1, 1, "SecureLines$Row", some "SecureLines", (0, 78), (0, 0)), ((270, 2), 3, 1, "SecureLines$Fields", some "SecureLines", (0, 100), (0, 0)), ((250, 6), 1, 0, "SecureLines$Pape\x72", some "SecureLines", (0, 129), (0, 0)), ((194, 3), 0, 1, "SecureLines$House", some "SecureLines", (0, 156), (0, 0)), ((78, 3), 1, 0, "SecureLines$House", some "SecureLines", (0, 161), (0, 0)), ((188, 3), 2, 0, "SecureLines$House", some "SecureLines", (0, 167), (0, 0)), ((259, 3), 6, 0, "SecureLines$House", some "SecureLines", (0, 182), (0, 0)), ((246, 3), 15, 0, "SecureLines$House", some "SecureLines", (0, 198), (0, 0)), ((60, 1), 1, 0, "SecureLines$End", some "SecureLines", (3, 91), (0, 0)), ((56, 1), 2, 0, "SecureLines$End", some "SecureLines", (3, 94), (0, 0)), ((330, 1), 7, 1, "SecureLines$End", some "SecureLines", (3, 110), (0, 0)), ((174, 1), 9, 0, "SecureLines$End", some "SecureLines", (3, 115), (0, 0)), ((124, 1), 10, 0, "SecureLines$End", some "SecureLines", (3, 118), (0, 0)), ((121, 1), 11, 1, "SecureLines$End", some "SecureLines", (3, 120), (0, 0)), ((37, 1), 12, 0, "SecureLines$End", some "SecureLines", (3, 124), (0, 0)), ((191, 9), 0, 0, "SecureLines$Shared", some "SecureLines", (3, 226), (0, 0)), ((84, 9), 1, 0, "SecureLines$Shared", some "SecureLines", (3, 229), (0, 0)), ((87, 9), 2, 0, "SecureLines$Shared", some "SecureLines", (3, 232), (0, 0)), ((46, 9), 3, 1, "SecureLines$Shared", some "SecureLines", (3, 235), (0, 0)), ((104, 9), 4, 1, "SecureLines$Shared", some "SecureLines", (3, 238), (0, 0)), ((50, 9), 6, 1, "SecureLines$Shared", some "SecureLines", (4, 3), (0, 0)), ((197, 9), 7, 1, "SecureLines$Shared", some "SecureLines", (4, 5), (0, 0)), ((74, 0), 0, 0, "SecureLines$Client", none, (4, 87), (4, 88)), ((74, 8), 0, 0, "SecureLines$Client", none, (4, 87), (4, 88)), ((21, 0), 1, 0, "SecureLines$Client", none, (4, 92), (4, 93)), ((21, 8), 1, 0, "SecureLines$Client", none, (4, 92), (4, 93)), ((263, 0), 4, 0, "SecureLines$Client", none, (4, 102), (4, 103)), ((263, 8), 4, 0, "SecureLines$Client", none, (4, 102), (4, 103)), ((279, 0), 6, 0, "SecureLines$Client", none, (4, 108), (4, 109))]
def aLF_11_1 : List (am_fE) := [((279, 8), 6, 0, "SecureLines$Client", none, (4, 108), (4, 109)), ((393, 0), 7, 0, "SecureLines$Client", none, (4, 114), (4, 115)), ((393, 8), 7, 0, "SecureLines$Client", none, (4, 114), (4, 115)), ((208, 0), 13, 1, "SecureLines$Client", none, (4, 127), (4, 128)), ((208, 8), 13, 1, "SecureLines$Client", none, (4, 127), (4, 128)), ((321, 0), 15, 1, "SecureLines$Client", none, (4, 132), (4, 133)), ((321, 8), 15, 1, "SecureLines$Client", none, (4, 132), (4, 133)), ((233, 0), 16, 1, "SecureLines$Client", none, (4, 135), (4, 136)), ((233, 8), 16, 1, "SecureLines$Client", none, (4, 135), (4, 136)), ((347, 0), 17, 1, "SecureLines$Client", none, (4, 142), (4, 143)), ((347, 8), 17, 1, "SecureLines$Client", none, (4, 142), (4, 143)), ((29, 0), 19, 1, "SecureLines$Client", none, (4, 222), (0, 0)), ((164, 0), 20, 1, "SecureLines$Client", none, (4, 223), (0, 0)), ((157, 0), 21, 1, "SecureLines$Client", none, (4, 224), (0, 0)), ((134, 0), 22, 1, "SecureLines$Client", none, (4, 225), (0, 0)), ((11, 0), 23, 2, "SecureLines$Client", none, (4, 226), (0, 0)), ((131, 0), 24, 1, "SecureLines$Client", none, (4, 227), (0, 0)), ((53, 0), 25, 1, "SecureLines$Client", none, (4, 228), (0, 0)), ((211, 0), 26, 1, "SecureLines$Client", none, (4, 229), (0, 0)), ((288, 0), 27, 1, "SecureLines$Client", none, (4, 230), (0, 0)), ((17, 0), 28, 1, "SecureLines$Client", none, (4, 231), (0, 0)), ((324, 0), 29, 1, "SecureLines$Client", none, (4, 232), (0, 0)), ((384, 0), 30, 1, "SecureLines$Client", none, (4, 233), (0, 0))]
def aLF_11 : List (am_fE) := aLF_11_0 ++ (aLF_11_1)
def aLF_12_0 : List (am_fE) := [((75, 7), 0, 1, "SecureLines$Row", some "SecureLines", (0, 69), (0, 0)), ((85, 7), 1, 1, "SecureLines$Row", some "SecureLines", (0, 79), (0, 0)), ((168, 6), 0, 0, "SecureLines$Pape\x72", some "SecureLines", (0, 124), (0, 0)), ((175, 3), 0, 1, "SecureLines$House", some "SecureLines", (0, 159), (0, 0)), ((102, 3), 1, 0, "SecureLines$House", some "SecureLines", (0, 164), (0, 0)), ((189, 3), 2, 0, "SecureLines$House", some "SecureLines", (0, 168), (0, 0)), ((132, 3), 3, 0, "SecureLines$House", some "SecureLines", (0, 172), (0, 0)), ((186, 3), 4, 0, "SecureLines$House", some "SecureLines", (0, 176), (0, 0)), ((117, 3), 9, 1, "SecureLines$House", some "SecureLines", (0, 190), (0, 0)), ((43, 5), 0, 2, "SecureLines$Office", none, (8, 107), (0, 0)), ((47, 5), 1, 2, "SecureLines$Office", none, (8, 108), (0, 0)), ((51, 5), 2, 2, "SecureLines$Office", none, (8, 109), (0, 0)), ((55, 5), 3, 2, "SecureLines$Office", none, (8, 110), (0, 0)), ((11, 5), 4, 2, "SecureLines$Office", none, (8, 111), (0, 0)), ((58, 5), 5, 1, "SecureLines$Office", none, (8, 112), (0, 0)), ((15, 5), 6, 2, "SecureLines$Office", none, (8, 114), (0, 0)), ((19, 5), 7, 2, "SecureLines$Office", none, (8, 115), (0, 0)), ((22, 5), 8, 2, "SecureLines$Office", none, (8, 116), (0, 0)), ((25, 5), 9, 2, "SecureLines$Office", none, (8, 117), (0, 0)), ((65, 5), 10, 1, "SecureLines$Office", none, (8, 119), (0, 0)), ((30, 5), 11, 2, "SecureLines$Office", none, (8, 121), (0, 0)), ((34, 5), 12, 2, "SecureLines$Office", none, (8, 123), (0, 0)), ((37, 5), 13, 2, "SecureLines$Office", none, (8, 124), (0, 0)), ((82, 5), 14, 1, "SecureLines$Office", none, (8, 125), (0, 0)), ((114, 5), 15, 1, "SecureLines$Office", none, (8, 126), (0, 0)), ((40, 5), 16, 2, "SecureLines$Office", none, (8, 127), (0, 0)), ((196, 5), 17, 1, "SecureLines$Office", none, (8, 128), (0, 0)), ((203, 5), 18, 1, "SecureLines$Office", none, (8, 129), (0, 0))]
def aLF_12 : List (am_fE) := aLF_12_0
def aLF_13_0 : List (am_fE) := [((7, 11), 0, 2, "SecureLinesModel", none, (9, 152), (0, 0)), ((517, 11), 1, 1, "SecureLinesModel", none, (9, 153), (0, 0)), ((13, 11), 2, 2, "SecureLinesModel", none, (9, 154), (0, 0)), ((520, 11), 3, 1, "SecureLinesModel", none, (9, 155), (0, 0)), ((507, 11), 4, 1, "SecureLinesModel", none, (9, 156), (0, 0)), ((526, 11), 5, 1, "SecureLinesModel", none, (9, 157), (0, 0)), ((529, 11), 6, 1, "SecureLinesModel", none, (9, 158), (0, 0)), ((539, 11), 7, 1, "SecureLinesModel", none, (9, 159), (0, 0)), ((532, 11), 8, 1, "SecureLinesModel", none, (9, 160), (0, 0)), ((544, 11), 9, 1, "SecureLinesModel", none, (9, 161), (0, 0)), ((547, 11), 10, 1, "SecureLinesModel", none, (9, 162), (0, 0)), ((551, 11), 11, 1, "SecureLinesModel", none, (9, 163), (0, 0)), ((683, 11), 12, 1, "SecureLinesModel", none, (9, 164), (0, 0)), ((16, 11), 13, 2, "SecureLinesModel", none, (9, 165), (0, 0)), ((19, 11), 14, 2, "SecureLinesModel", none, (9, 166), (0, 0)), ((23, 11), 15, 2, "SecureLinesModel", none, (9, 167), (0, 0)), ((26, 11), 16, 2, "SecureLinesModel", none, (9, 168), (0, 0)), ((29, 11), 17, 2, "SecureLinesModel", none, (9, 169), (0, 0)), ((697, 11), 18, 1, "SecureLinesModel", none, (9, 170), (0, 0)), ((32, 11), 19, 2, "SecureLinesModel", none, (9, 171), (0, 0)), ((36, 11), 20, 2, "SecureLinesModel", none, (9, 172), (0, 0)), ((732, 11), 21, 1, "SecureLinesModel", none, (9, 173), (0, 0)), ((735, 11), 22, 1, "SecureLinesModel", none, (9, 174), (0, 0)), ((750, 11), 23, 1, "SecureLinesModel", none, (9, 175), (0, 0)), ((747, 11), 24, 1, "SecureLinesModel", none, (9, 176), (0, 0)), ((753, 11), 25, 1, "SecureLinesModel", none, (9, 177), (0, 0)), ((756, 11), 26, 1, "SecureLinesModel", none, (9, 178), (0, 0)), ((782, 11), 27, 1, "SecureLinesModel", none, (9, 179), (0, 0)), ((39, 11), 28, 2, "SecureLinesModel", none, (9, 180), (0, 0)), ((42, 11), 29, 2, "SecureLinesModel", none, (9, 181), (0, 0))]
def aLF_13_1 : List (am_fE) := [((45, 11), 30, 2, "SecureLinesModel", none, (9, 182), (0, 0)), ((48, 11), 31, 2, "SecureLinesModel", none, (9, 183), (0, 0)), ((51, 11), 32, 2, "SecureLinesModel", none, (9, 184), (0, 0)), ((54, 11), 33, 2, "SecureLinesModel", none, (9, 185), (0, 0)), ((57, 11), 34, 2, "SecureLinesModel", none, (9, 186), (0, 0)), ((60, 11), 35, 2, "SecureLinesModel", none, (9, 187), (0, 0)), ((63, 11), 36, 2, "SecureLinesModel", none, (9, 188), (0, 0)), ((802, 11), 37, 1, "SecureLinesModel", none, (9, 189), (0, 0)), ((66, 11), 38, 2, "SecureLinesModel", none, (9, 190), (0, 0)), ((69, 11), 39, 2, "SecureLinesModel", none, (9, 191), (0, 0)), ((72, 11), 40, 2, "SecureLinesModel", none, (9, 192), (0, 0)), ((811, 11), 41, 1, "SecureLinesModel", none, (9, 193), (0, 0)), ((75, 11), 42, 2, "SecureLinesModel", none, (9, 194), (0, 0)), ((78, 11), 43, 2, "SecureLinesModel", none, (9, 195), (0, 0)), ((81, 11), 44, 2, "SecureLinesModel", none, (9, 196), (0, 0)), ((84, 11), 45, 2, "SecureLinesModel", none, (9, 197), (0, 0)), ((814, 11), 46, 1, "SecureLinesModel", none, (9, 198), (0, 0)), ((855, 11), 47, 1, "SecureLinesModel", none, (9, 199), (0, 0)), ((87, 11), 48, 2, "SecureLinesModel", none, (9, 200), (0, 0)), ((881, 11), 49, 1, "SecureLinesModel", none, (9, 201), (0, 0)), ((90, 11), 50, 2, "SecureLinesModel", none, (9, 202), (0, 0)), ((891, 11), 51, 1, "SecureLinesModel", none, (9, 203), (0, 0)), ((916, 11), 52, 1, "SecureLinesModel", none, (9, 204), (0, 0)), ((93, 11), 53, 2, "SecureLinesModel", none, (9, 205), (0, 0)), ((96, 11), 54, 2, "SecureLinesModel", none, (9, 206), (0, 0)), ((99, 11), 55, 2, "SecureLinesModel", none, (9, 207), (0, 0)), ((102, 11), 56, 2, "SecureLinesModel", none, (9, 208), (0, 0)), ((105, 11), 57, 2, "SecureLinesModel", none, (9, 209), (0, 0)), ((108, 11), 58, 2, "SecureLinesModel", none, (9, 210), (0, 0)), ((111, 11), 59, 2, "SecureLinesModel", none, (9, 211), (0, 0))]
def aLF_13_2 : List (am_fE) := [((114, 11), 60, 2, "SecureLinesModel", none, (9, 212), (0, 0)), ((117, 11), 61, 2, "SecureLinesModel", none, (9, 213), (0, 0)), ((120, 11), 62, 2, "SecureLinesModel", none, (9, 214), (0, 0)), ((123, 11), 63, 2, "SecureLinesModel", none, (9, 215), (0, 0)), ((126, 11), 64, 2, "SecureLinesModel", none, (9, 216), (0, 0)), ((129, 11), 65, 2, "SecureLinesModel", none, (9, 217), (0, 0)), ((132, 11), 66, 2, "SecureLinesModel", none, (9, 218), (0, 0)), ((135, 11), 67, 2, "SecureLinesModel", none, (9, 219), (0, 0)), ((138, 11), 68, 2, "SecureLinesModel", none, (9, 220), (0, 0)), ((141, 11), 69, 2, "SecureLinesModel", none, (9, 221), (0, 0)), ((144, 11), 70, 2, "SecureLinesModel", none, (9, 222), (0, 0)), ((147, 11), 71, 2, "SecureLinesModel", none, (9, 223), (0, 0)), ((150, 11), 72, 2, "SecureLinesModel", none, (9, 224), (0, 0)), ((153, 11), 73, 2, "SecureLinesModel", none, (9, 225), (0, 0)), ((156, 11), 74, 2, "SecureLinesModel", none, (9, 226), (0, 0)), ((159, 11), 75, 2, "SecureLinesModel", none, (9, 227), (0, 0)), ((162, 11), 76, 2, "SecureLinesModel", none, (9, 228), (0, 0)), ((165, 11), 77, 2, "SecureLinesModel", none, (9, 229), (0, 0)), ((168, 11), 78, 2, "SecureLinesModel", none, (9, 230), (0, 0)), ((171, 11), 79, 2, "SecureLinesModel", none, (9, 231), (0, 0)), ((174, 11), 80, 2, "SecureLinesModel", none, (9, 232), (0, 0)), ((177, 11), 81, 2, "SecureLinesModel", none, (9, 233), (0, 0)), ((180, 11), 82, 2, "SecureLinesModel", none, (9, 234), (0, 0)), ((183, 11), 83, 2, "SecureLinesModel", none, (9, 235), (0, 0)), ((186, 11), 84, 2, "SecureLinesModel", none, (9, 236), (0, 0)), ((927, 11), 85, 1, "SecureLinesModel", none, (9, 237), (0, 0)), ((189, 11), 86, 2, "SecureLinesModel", none, (9, 238), (0, 0)), ((192, 11), 87, 2, "SecureLinesModel", none, (9, 239), (0, 0)), ((195, 11), 88, 2, "SecureLinesModel", none, (10, 0), (0, 0)), ((198, 11), 89, 2, "SecureLinesModel", none, (10, 1), (0, 0))]
def aLF_13_3 : List (am_fE) := [((201, 11), 90, 2, "SecureLinesModel", none, (10, 2), (0, 0)), ((204, 11), 91, 2, "SecureLinesModel", none, (10, 3), (0, 0)), ((207, 11), 92, 2, "SecureLinesModel", none, (10, 4), (0, 0)), ((210, 11), 93, 2, "SecureLinesModel", none, (10, 5), (0, 0)), ((213, 11), 94, 2, "SecureLinesModel", none, (10, 6), (0, 0)), ((216, 11), 95, 2, "SecureLinesModel", none, (10, 7), (0, 0)), ((219, 11), 96, 2, "SecureLinesModel", none, (10, 8), (0, 0)), ((222, 11), 97, 2, "SecureLinesModel", none, (10, 9), (0, 0)), ((225, 11), 98, 2, "SecureLinesModel", none, (10, 10), (0, 0)), ((228, 11), 99, 2, "SecureLinesModel", none, (10, 11), (0, 0)), ((231, 11), 100, 2, "SecureLinesModel", none, (10, 12), (0, 0)), ((234, 11), 101, 2, "SecureLinesModel", none, (10, 13), (0, 0)), ((237, 11), 102, 2, "SecureLinesModel", none, (10, 14), (0, 0)), ((240, 11), 103, 2, "SecureLinesModel", none, (10, 15), (0, 0)), ((243, 11), 104, 2, "SecureLinesModel", none, (10, 16), (0, 0)), ((938, 11), 105, 1, "SecureLinesModel", none, (10, 17), (0, 0)), ((246, 11), 106, 2, "SecureLinesModel", none, (10, 18), (0, 0)), ((249, 11), 107, 2, "SecureLinesModel", none, (10, 19), (0, 0)), ((252, 11), 108, 2, "SecureLinesModel", none, (10, 20), (0, 0)), ((255, 11), 109, 2, "SecureLinesModel", none, (10, 21), (0, 0)), ((258, 11), 110, 2, "SecureLinesModel", none, (10, 22), (0, 0)), ((961, 11), 111, 1, "SecureLinesModel", none, (10, 23), (0, 0)), ((261, 11), 112, 2, "SecureLinesModel", none, (10, 24), (0, 0)), ((265, 11), 113, 2, "SecureLinesModel", none, (10, 25), (0, 0)), ((268, 11), 114, 2, "SecureLinesModel", none, (10, 26), (0, 0)), ((271, 11), 115, 2, "SecureLinesModel", none, (10, 27), (0, 0)), ((274, 11), 116, 2, "SecureLinesModel", none, (10, 28), (0, 0)), ((278, 11), 117, 2, "SecureLinesModel", none, (10, 29), (0, 0)), ((281, 11), 118, 2, "SecureLinesModel", none, (10, 30), (0, 0)), ((285, 11), 119, 2, "SecureLinesModel", none, (10, 31), (0, 0))]
def aLF_13_4 : List (am_fE) := [((288, 11), 120, 2, "SecureLinesModel", none, (10, 32), (0, 0)), ((291, 11), 121, 2, "SecureLinesModel", none, (10, 33), (0, 0)), ((294, 11), 122, 2, "SecureLinesModel", none, (10, 34), (0, 0)), ((297, 11), 123, 2, "SecureLinesModel", none, (10, 35), (0, 0)), ((300, 11), 124, 2, "SecureLinesModel", none, (10, 36), (0, 0)), ((303, 11), 125, 2, "SecureLinesModel", none, (10, 37), (0, 0)), ((306, 11), 126, 2, "SecureLinesModel", none, (10, 38), (0, 0)), ((309, 11), 127, 2, "SecureLinesModel", none, (10, 39), (0, 0)), ((312, 11), 128, 2, "SecureLinesModel", none, (10, 40), (0, 0)), ((315, 11), 129, 2, "SecureLinesModel", none, (10, 41), (0, 0)), ((318, 11), 130, 2, "SecureLinesModel", none, (10, 42), (0, 0)), ((321, 11), 131, 2, "SecureLinesModel", none, (10, 43), (0, 0)), ((324, 11), 132, 2, "SecureLinesModel", none, (10, 44), (0, 0)), ((327, 11), 133, 2, "SecureLinesModel", none, (10, 45), (0, 0)), ((330, 11), 134, 2, "SecureLinesModel", none, (10, 46), (0, 0)), ((333, 11), 135, 2, "SecureLinesModel", none, (10, 47), (0, 0)), ((336, 11), 136, 2, "SecureLinesModel", none, (10, 48), (0, 0)), ((339, 11), 137, 2, "SecureLinesModel", none, (10, 49), (0, 0)), ((342, 11), 138, 2, "SecureLinesModel", none, (10, 50), (0, 0)), ((345, 11), 139, 2, "SecureLinesModel", none, (10, 51), (0, 0)), ((348, 11), 140, 2, "SecureLinesModel", none, (10, 52), (0, 0)), ((351, 11), 141, 2, "SecureLinesModel", none, (10, 53), (0, 0)), ((354, 11), 142, 2, "SecureLinesModel", none, (10, 54), (0, 0)), ((357, 11), 143, 2, "SecureLinesModel", none, (10, 55), (0, 0)), ((360, 11), 144, 2, "SecureLinesModel", none, (10, 56), (0, 0)), ((363, 11), 145, 2, "SecureLinesModel", none, (10, 57), (0, 0)), ((366, 11), 146, 2, "SecureLinesModel", none, (10, 58), (0, 0)), ((369, 11), 147, 2, "SecureLinesModel", none, (10, 59), (0, 0)), ((372, 11), 148, 2, "SecureLinesModel", none, (10, 60), (0, 0)), ((375, 11), 149, 2, "SecureLinesModel", none, (10, 61), (0, 0))]
def aLF_13_5 : List (am_fE) := [((378, 11), 150, 2, "SecureLinesModel", none, (10, 62), (0, 0)), ((381, 11), 151, 2, "SecureLinesModel", none, (10, 63), (0, 0)), ((384, 11), 152, 2, "SecureLinesModel", none, (10, 64), (0, 0)), ((387, 11), 153, 2, "SecureLinesModel", none, (10, 65), (0, 0)), ((390, 11), 154, 2, "SecureLinesModel", none, (10, 66), (0, 0)), ((393, 11), 155, 2, "SecureLinesModel", none, (10, 67), (0, 0)), ((396, 11), 156, 2, "SecureLinesModel", none, (10, 68), (0, 0)), ((399, 11), 157, 2, "SecureLinesModel", none, (10, 69), (0, 0)), ((402, 11), 158, 2, "SecureLinesModel", none, (10, 70), (0, 0)), ((405, 11), 159, 2, "SecureLinesModel", none, (10, 71), (0, 0)), ((408, 11), 160, 2, "SecureLinesModel", none, (10, 72), (0, 0)), ((411, 11), 161, 2, "SecureLinesModel", none, (10, 73), (0, 0)), ((414, 11), 162, 2, "SecureLinesModel", none, (10, 74), (0, 0)), ((417, 11), 163, 2, "SecureLinesModel", none, (10, 75), (0, 0)), ((420, 11), 164, 2, "SecureLinesModel", none, (10, 76), (0, 0)), ((423, 11), 165, 2, "SecureLinesModel", none, (10, 77), (0, 0)), ((426, 11), 166, 2, "SecureLinesModel", none, (10, 78), (0, 0)), ((429, 11), 167, 2, "SecureLinesModel", none, (10, 79), (0, 0)), ((432, 11), 168, 2, "SecureLinesModel", none, (10, 80), (0, 0)), ((435, 11), 169, 2, "SecureLinesModel", none, (10, 81), (0, 0)), ((438, 11), 170, 2, "SecureLinesModel", none, (10, 82), (0, 0)), ((441, 11), 171, 2, "SecureLinesModel", none, (10, 83), (0, 0)), ((444, 11), 172, 2, "SecureLinesModel", none, (10, 84), (0, 0)), ((447, 11), 173, 2, "SecureLinesModel", none, (10, 85), (0, 0)), ((450, 11), 174, 2, "SecureLinesModel", none, (10, 86), (0, 0)), ((453, 11), 175, 2, "SecureLinesModel", none, (10, 87), (0, 0)), ((456, 11), 176, 2, "SecureLinesModel", none, (10, 88), (0, 0)), ((459, 11), 177, 2, "SecureLinesModel", none, (10, 89), (0, 0)), ((462, 11), 178, 2, "SecureLinesModel", none, (10, 90), (0, 0)), ((465, 11), 179, 2, "SecureLinesModel", none, (10, 91), (0, 0))]
def aLF_13_6 : List (am_fE) := [((468, 11), 180, 2, "SecureLinesModel", none, (10, 92), (0, 0)), ((471, 11), 181, 2, "SecureLinesModel", none, (10, 93), (0, 0)), ((474, 11), 182, 2, "SecureLinesModel", none, (10, 94), (0, 0)), ((477, 11), 183, 2, "SecureLinesModel", none, (10, 95), (0, 0)), ((480, 11), 184, 2, "SecureLinesModel", none, (10, 96), (0, 0)), ((483, 11), 185, 2, "SecureLinesModel", none, (10, 97), (0, 0)), ((486, 11), 186, 2, "SecureLinesModel", none, (10, 98), (0, 0)), ((489, 11), 187, 2, "SecureLinesModel", none, (10, 99), (0, 0)), ((492, 11), 188, 2, "SecureLinesModel", none, (10, 100), (0, 0)), ((1096, 11), 189, 1, "SecureLinesModel", none, (10, 101), (0, 0)), ((1133, 11), 190, 1, "SecureLinesModel", none, (10, 102), (0, 0)), ((495, 11), 191, 2, "SecureLinesModel", none, (10, 103), (0, 0)), ((498, 11), 192, 2, "SecureLinesModel", none, (10, 104), (0, 0)), ((501, 11), 193, 2, "SecureLinesModel", none, (10, 105), (0, 0)), ((1156, 11), 194, 1, "SecureLinesModel", none, (10, 106), (0, 0)), ((1071, 11), 195, 1, "SecureLinesModel", none, (10, 107), (0, 0)), ((1208, 11), 196, 1, "SecureLinesModel", none, (10, 108), (0, 0)), ((1241, 11), 197, 1, "SecureLinesModel", none, (10, 109), (0, 0)), ((1247, 11), 198, 1, "SecureLinesModel", none, (10, 110), (0, 0)), ((1205, 11), 199, 1, "SecureLinesModel", none, (10, 111), (0, 0)), ((1214, 11), 200, 1, "SecureLinesModel", none, (10, 112), (0, 0)), ((1211, 11), 201, 1, "SecureLinesModel", none, (10, 113), (0, 0)), ((1244, 11), 202, 1, "SecureLinesModel", none, (10, 114), (0, 0)), ((1217, 11), 203, 1, "SecureLinesModel", none, (10, 115), (0, 0)), ((1250, 11), 204, 1, "SecureLinesModel", none, (10, 116), (0, 0)), ((504, 11), 205, 2, "SecureLinesModel", none, (10, 117), (0, 0))]
def aLF_13 : List (am_fE) := aLF_13_0 ++ (aLF_13_1 ++ (aLF_13_2 ++ (aLF_13_3 ++ (aLF_13_4 ++ (aLF_13_5 ++ (aLF_13_6))))))
def aLF_14_0 : List (am_fE) := []
def aLF_14 : List (am_fE) := aLF_14_0
def aLF : List (List (am_fE)) := [aLF_0, aLF_1, aLF_2, aLF_3, aLF_4, aLF_5, aLF_6, aLF_7, aLF_8, aLF_9, aLF_10, aLF_11, aLF_12, aLF_13, aLF_14]
def aLK_0_0 : List (Nat × (Value × am_Pos)) := [(87, .int (1000000), (1, 128)), (91, .int (2000000000), (1, 129)), (96, .long (-1), (1, 137)), (166, .int (1073741789), (2, 34)), (450, .int (2147483577), (9, 5))]
def aLK_0 : List (Nat × (Value × am_Pos)) := aLK_0_0
def aLK_1_0 : List (Nat × (Value × am_Pos)) := [(207, .int (1000000), (3, 62))]
def aLK_1 : List (Nat × (Value × am_Pos)) := aLK_1_0
def aLK_2_0 : List (Nat × (Value × am_Pos)) := [(35, .long (128), (1, 158)), (29, .long (4294967295), (1, 163)), (56, .long (3906369333256140342), (1, 180)), (52, .long (6655295901103053916), (1, 185)), (54, .long (-9223372036854775808), (1, 186)), (123, .long (4), (2, 39)), (125, .int (2147483579), (2, 40)), (126, .int (2147483647), (2, 56)), (135, .int (1073741788), (2, 57)), (139, .int (1073741789), (2, 59)), (140, .long (1073741789), (2, 60)), (142, .int (2147483577), (2, 69)), (143, .long (2147483579), (2, 70))]
def aLK_2 : List (Nat × (Value × am_Pos)) := aLK_2_0
def aLK_3_0 : List (Nat × (Value × am_Pos)) := [(32, .int (100000), (1, 86)), (30, .long (4294967295), (6, 93)), (52, .int (32768), (9, 22)), (53, .int (8388608), (9, 23))]
def aLK_3 : List (Nat × (Value × am_Pos)) := aLK_3_0
def aLK_4_0 : List (Nat × (Value × am_Pos)) := [(59, .long (4294967295), (5, 122))]
def aLK_4 : List (Nat × (Value × am_Pos)) := aLK_4_0
def aLK_5_0 : List (Nat × (Value × am_Pos)) := [(97, .long (4294967295), (2, 186))]
def aLK_5 : List (Nat × (Value × am_Pos)) := aLK_5_0
def aLK_6_0 : List (Nat × (Value × am_Pos)) := []
def aLK_6 : List (Nat × (Value × am_Pos)) := aLK_6_0
def aLK_7_0 : List (Nat × (Value × am_Pos)) := [(111, .long (4294967295), (5, 60)), (113, .int (1073741823), (5, 99))]
def aLK_7 : List (Nat × (Value × am_Pos)) := aLK_7_0
def aLK_8_0 : List (Nat × (Value × am_Pos)) := []
def aLK_8 : List (Nat × (Value × am_Pos)) := aLK_8_0
def aLK_9_0 : List (Nat × (Value × am_Pos)) := []
def aLK_9 : List (Nat × (Value × am_Pos)) := aLK_9_0
def aLK_10_0 : List (Nat × (Value × am_Pos)) := []
def aLK_10 : List (Nat × (Value × am_Pos)) := aLK_10_0
def aLK_11_0 : List (Nat × (Value × am_Pos)) := []
def aLK_11 : List (Nat × (Value × am_Pos)) := aLK_11_0
def aLK_12_0 : List (Nat × (Value × am_Pos)) := [(178, .long (2147483647), (9, 41))]
def aLK_12 : List (Nat × (Value × am_Pos)) := aLK_12_0
def aLK_13_0 : List (Nat × (Value × am_Pos)) := [(264, .int (384000), (9, 149)), (277, .int (72000), (9, 150)), (284, .int (48000), (9, 151)), (511, .long (8), (12, 56)), (523, .long (1000000), (12, 76)), (525, .int (2000000000), (12, 77)), (590, .long (-1), (12, 82)), (542, .long (4294967295), (12, 118)), (596, .long (255), (12, 139)), (609, .long (3), (12, 148)), (629, .long (7), (12, 181)), (631, .long (2), (12, 182)), (626, .int (2147483647), (12, 186)), (627, .int (2147483629), (12, 187)), (628, .int (2147483587), (12, 188)), (647, .long (1073741788), (12, 206)), (649, .long (4), (12, 210)), (651, .int (2147483579), (12, 211)), (664, .int (1073741788), (12, 223)), (663, .int (1073741789), (12, 228)), (669, .long (1073741789), (12, 229)), (671, .long (2147483577), (12, 238)), (673, .long (2147483579), (12, 239)), (707, .long (64), (13, 43)), (728, .long (161), (13, 63)), (730, .long (166), (13, 64)), (713, .long (97), (13, 75)), (715, .long (122), (13, 76)), (717, .long (48), (13, 77)), (719, .long (57), (13, 78))]
def aLK_13_1 : List (Nat × (Value × am_Pos)) := [(769, .long (15), (13, 99)), (843, .long (11), (13, 182)), (845, .long (10), (13, 187)), (923, .long (16), (14, 62)), (925, .long (5), (14, 71)), (936, .long (20), (14, 100)), (826, .int (32768), (14, 120)), (827, .int (8388608), (14, 121)), (944, .long (2147483647), (14, 134)), (922, .int (1073741823), (14, 175)), (1044, .long (21), (15, 23)), (1046, .long (23), (15, 24)), (1281, .long (8000), (16, 32)), (1286, .long (14), (16, 65))]
def aLK_13 : List (Nat × (Value × am_Pos)) := aLK_13_0 ++ (aLK_13_1)
def aLK_14_0 : List (Nat × (Value × am_Pos)) := [(13, .long (4294967295), (16, 74))]
def aLK_14 : List (Nat × (Value × am_Pos)) := aLK_14_0
def aLK : List (List (Nat × (Value × am_Pos))) := [aLK_0, aLK_1, aLK_2, aLK_3, aLK_4, aLK_5, aLK_6, aLK_7, aLK_8, aLK_9, aLK_10, aLK_11, aLK_12, aLK_13, aLK_14]
def aLW_0_0 : List (Nat × (Nat × am_Pos)) := [(7, 3, (0, 25)), (16, 7, (1, 11)), (32, 1, (1, 13)), (297, 9, (3, 218)), (325, 8, (4, 56)), (330, 0, (4, 215)), (44, 5, (1, 17))]
def aLW_0 : List (Nat × (Nat × am_Pos)) := aLW_0_0
def aLW_1_0 : List (Nat × (Nat × am_Pos)) := [(9, 4, (0, 31)), (18, 7, (0, 56)), (37, 2, (0, 89)), (47, 6, (0, 114))]
def aLW_1 : List (Nat × (Nat × am_Pos)) := aLW_1_0
def aLW_2_0 : List (Nat × (Nat × am_Pos)) := []
def aLW_2 : List (Nat × (Nat × am_Pos)) := aLW_2_0
def aLW_3_0 : List (Nat × (Nat × am_Pos)) := []
def aLW_3 : List (Nat × (Nat × am_Pos)) := aLW_3_0
def aLW_4_0 : List (Nat × (Nat × am_Pos)) := []
def aLW_4 : List (Nat × (Nat × am_Pos)) := aLW_4_0
def aLW_5_0 : List (Nat × (Nat × am_Pos)) := []
def aLW_5 : List (Nat × (Nat × am_Pos)) := aLW_5_0
def aLW_6_0 : List (Nat × (Nat × am_Pos)) := []
def aLW_6 : List (Nat × (Nat × am_Pos)) := aLW_6_0
def aLW_7_0 : List (Nat × (Nat × am_Pos)) := [(18, 7, (3, 83))]
def aLW_7 : List (Nat × (Nat × am_Pos)) := aLW_7_0
def aLW_8_0 : List (Nat × (Nat × am_Pos)) := []
def aLW_8 : List (Nat × (Nat × am_Pos)) := aLW_8_0
def aLW_9_0 : List (Nat × (Nat × am_Pos)) := [(71, 7, (7, 156)), (114, 9, (8, 3))]
def aLW_9 : List (Nat × (Nat × am_Pos)) := aLW_9_0
def aLW_10_0 : List (Nat × (Nat × am_Pos)) := [(9, 7, (4, 65)), (37, 4, (4, 67))]
def aLW_10 : List (Nat × (Nat × am_Pos)) := aLW_10_0
def aLW_11_0 : List (Nat × (Nat × am_Pos)) := [(9, 9, (4, 221))]
def aLW_11 : List (Nat × (Nat × am_Pos)) := aLW_11_0
def aLW_12_0 : List (Nat × (Nat × am_Pos)) := [(28, 7, (8, 106))]
def aLW_12 : List (Nat × (Nat × am_Pos)) := aLW_12_0
def aLW_13_0 : List (Nat × (Nat × am_Pos)) := []
def aLW_13 : List (Nat × (Nat × am_Pos)) := aLW_13_0
def aLW_14_0 : List (Nat × (Nat × am_Pos)) := [(7, 10, (0, 17)), (10, 11, (9, 143))]
def aLW_14 : List (Nat × (Nat × am_Pos)) := aLW_14_0
def aLW : List (List (Nat × (Nat × am_Pos))) := [aLW_0, aLW_1, aLW_2, aLW_3, aLW_4, aLW_5, aLW_6, aLW_7, aLW_8, aLW_9, aLW_10, aLW_11, aLW_12, aLW_13, aLW_14]
def aLA_0_0 : List (Nat × (Nat × am_Pos × am_Pos)) := [(32, 5, (1, 13), (1, 14)), (38, 11, (1, 15), (1, 16)), (44, 7, (1, 17), (1, 18)), (16, 9, (1, 11), (1, 19))]
def aLA_0 : List (Nat × (Nat × am_Pos × am_Pos)) := aLA_0_0
def aLA_1_0 : List (Nat × (Nat × am_Pos × am_Pos)) := [(47, 8, (0, 114), (0, 115))]
def aLA_1 : List (Nat × (Nat × am_Pos × am_Pos)) := aLA_1_0
def aLA_2_0 : List (Nat × (Nat × am_Pos × am_Pos)) := []
def aLA_2 : List (Nat × (Nat × am_Pos × am_Pos)) := aLA_2_0
def aLA_3_0 : List (Nat × (Nat × am_Pos × am_Pos)) := []
def aLA_3 : List (Nat × (Nat × am_Pos × am_Pos)) := aLA_3_0
def aLA_4_0 : List (Nat × (Nat × am_Pos × am_Pos)) := []
def aLA_4 : List (Nat × (Nat × am_Pos × am_Pos)) := aLA_4_0
def aLA_5_0 : List (Nat × (Nat × am_Pos × am_Pos)) := []
def aLA_5 : List (Nat × (Nat × am_Pos × am_Pos)) := aLA_5_0
def aLA_6_0 : List (Nat × (Nat × am_Pos × am_Pos)) := []
def aLA_6 : List (Nat × (Nat × am_Pos × am_Pos)) := aLA_6_0
def aLA_7_0 : List (Nat × (Nat × am_Pos × am_Pos)) := [(7, 4, (3, 81), (3, 82)), (38, 10, (3, 85), (3, 86))]
def aLA_7 : List (Nat × (Nat × am_Pos × am_Pos)) := aLA_7_0
def aLA_8_0 : List (Nat × (Nat × am_Pos × am_Pos)) := []
def aLA_8 : List (Nat × (Nat × am_Pos × am_Pos)) := aLA_8_0
def aLA_9_0 : List (Nat × (Nat × am_Pos × am_Pos)) := []
def aLA_9 : List (Nat × (Nat × am_Pos × am_Pos)) := aLA_9_0
def aLA_10_0 : List (Nat × (Nat × am_Pos × am_Pos)) := [(37, 6, (4, 67), (4, 68))]
def aLA_10 : List (Nat × (Nat × am_Pos × am_Pos)) := aLA_10_0
def aLA_11_0 : List (Nat × (Nat × am_Pos × am_Pos)) := [(9, 10, (4, 221), (3, 86))]
def aLA_11 : List (Nat × (Nat × am_Pos × am_Pos)) := aLA_11_0
def aLA_12_0 : List (Nat × (Nat × am_Pos × am_Pos)) := [(28, 9, (8, 106), (1, 19))]
def aLA_12 : List (Nat × (Nat × am_Pos × am_Pos)) := aLA_12_0
def aLA_13_0 : List (Nat × (Nat × am_Pos × am_Pos)) := []
def aLA_13 : List (Nat × (Nat × am_Pos × am_Pos)) := aLA_13_0
def aLA_14_0 : List (Nat × (Nat × am_Pos × am_Pos)) := []
def aLA_14 : List (Nat × (Nat × am_Pos × am_Pos)) := aLA_14_0
def aLA : List (List (Nat × (Nat × am_Pos × am_Pos))) := [aLA_0, aLA_1, aLA_2, aLA_3, aLA_4, aLA_5, aLA_6, aLA_7, aLA_8, aLA_9, aLA_10, aLA_11, aLA_12, aLA_13, aLA_14]
def aLZ_0_0 : List (Nat × (Nat × am_Pos)) := []
def aLZ_0 : List (Nat × (Nat × am_Pos)) := aLZ_0_0
def aLZ_1_0 : List (Nat × (Nat × am_Pos)) := []
def aLZ_1 : List (Nat × (Nat × am_Pos)) := aLZ_1_0
def aLZ_2_0 : List (Nat × (Nat × am_Pos)) := [(113, 0, (2, 11)), (116, 1, (2, 13))]
def aLZ_2 : List (Nat × (Nat × am_Pos)) := aLZ_2_0
def aLZ_3_0 : List (Nat × (Nat × am_Pos)) := []
def aLZ_3 : List (Nat × (Nat × am_Pos)) := aLZ_3_0
def aLZ_4_0 : List (Nat × (Nat × am_Pos)) := []
def aLZ_4 : List (Nat × (Nat × am_Pos)) := aLZ_4_0
def aLZ_5_0 : List (Nat × (Nat × am_Pos)) := []
def aLZ_5 : List (Nat × (Nat × am_Pos)) := aLZ_5_0
def aLZ_6_0 : List (Nat × (Nat × am_Pos)) := []
def aLZ_6 : List (Nat × (Nat × am_Pos)) := aLZ_6_0
def aLZ_7_0 : List (Nat × (Nat × am_Pos)) := [(72, 2, (3, 187))]
def aLZ_7 : List (Nat × (Nat × am_Pos)) := aLZ_7_0
def aLZ_8_0 : List (Nat × (Nat × am_Pos)) := []
def aLZ_8 : List (Nat × (Nat × am_Pos)) := aLZ_8_0
def aLZ_9_0 : List (Nat × (Nat × am_Pos)) := []
def aLZ_9 : List (Nat × (Nat × am_Pos)) := aLZ_9_0
def aLZ_10_0 : List (Nat × (Nat × am_Pos)) := []
def aLZ_10 : List (Nat × (Nat × am_Pos)) := aLZ_10_0
def aLZ_11_0 : List (Nat × (Nat × am_Pos)) := []
def aLZ_11 : List (Nat × (Nat × am_Pos)) := aLZ_11_0
def aLZ_12_0 : List (Nat × (Nat × am_Pos)) := []
def aLZ_12 : List (Nat × (Nat × am_Pos)) := aLZ_12_0
def aLZ_13_0 : List (Nat × (Nat × am_Pos)) := []
def aLZ_13 : List (Nat × (Nat × am_Pos)) := aLZ_13_0
def aLZ_14_0 : List (Nat × (Nat × am_Pos)) := []
def aLZ_14 : List (Nat × (Nat × am_Pos)) := aLZ_14_0
def aLZ : List (List (Nat × (Nat × am_Pos))) := [aLZ_0, aLZ_1, aLZ_2, aLZ_3, aLZ_4, aLZ_5, aLZ_6, aLZ_7, aLZ_8, aLZ_9, aLZ_10, aLZ_11, aLZ_12, aLZ_13, aLZ_14]
def aLS_0_0 : List (am_tE) := [(92, 16, 1, (1, 135), none, (1, 134), (0, 0)), (119, 33, 1, (1, 208), none, (1, 207), (0, 0)), (130, 36, 1, (1, 219), none, (1, 218), (0, 0)), (149, 47, 1, (2, 32), none, (2, 31), (0, 0)), (155, 50, 1, (2, 46), none, (2, 45), (0, 0)), (170, 56, 4, (2, 76), none, (2, 75), (0, 0)), (176, 63, 1, (2, 98), none, (2, 97), (0, 0)), (257, 118, 2, (3, 172), none, (3, 171), (0, 0)), (287, 61, 3, (2, 91), none, (3, 213), (0, 0)), (426, 86, 6, (2, 192), none, (8, 222), (0, 0)), (439, 82, 3, (2, 177), none, (8, 231), (0, 0)), (451, 290, 1, (9, 7), none, (9, 6), (0, 0)), (480, 314, 1, (9, 123), none, (9, 122), (0, 0))]
def aLS_0 : List (am_tE) := aLS_0_0
def aLS_1_0 : List (am_tE) := [(197, 106, 2, (3, 36), none, (3, 35), (0, 0)), (149, 109, 3, (3, 47), none, (3, 46), (0, 0))]
def aLS_1 : List (am_tE) := aLS_1_0
def aLS_2_0 : List (am_tE) := [(78, 36, 1, (1, 219), none, (1, 234), (0, 0)), (85, 33, 1, (1, 208), none, (1, 235), (0, 0)), (109, 42, 1, (2, 9), none, (2, 8), (0, 0)), (119, 43, 3, (2, 16), none, (2, 15), (0, 0)), (131, 52, 1, (2, 54), none, (2, 53), (0, 0))]
def aLS_2 : List (am_tE) := aLS_2_0
def aLS_3_0 : List (am_tE) := [(33, 8, 2, (1, 88), none, (1, 87), (0, 0))]
def aLS_3 : List (am_tE) := aLS_3_0
def aLS_4_0 : List (am_tE) := [(23, 71, 2, (2, 133), none, (6, 29), (0, 0)), (31, 184, 2, (6, 31), none, (6, 30), (0, 0)), (39, 61, 3, (2, 91), none, (6, 37), (0, 0)), (65, 86, 6, (2, 192), none, (6, 136), (0, 0))]
def aLS_4 : List (am_tE) := aLS_4_0
def aLS_5_0 : List (am_tE) := [(44, 57, 1, (2, 79), none, (2, 78), (0, 0)), (48, 58, 1, (2, 82), none, (2, 81), (0, 0)), (51, 59, 3, (2, 85), none, (2, 84), (0, 0)), (55, 60, 4, (2, 88), none, (2, 87), (0, 0)), (59, 61, 3, (2, 91), none, (2, 90), (0, 0)), (74, 71, 2, (2, 133), none, (2, 132), (0, 0)), (106, 50, 1, (2, 46), some "SecureLines", (2, 159), (0, 0)), (62, 82, 3, (2, 177), none, (2, 176), (0, 0)), (65, 83, 3, (2, 180), none, (2, 179), (0, 0)), (31, 86, 6, (2, 192), none, (2, 191), (0, 0))]
def aLS_5 : List (am_tE) := aLS_5_0
def aLS_6_0 : List (am_tE) := []
def aLS_6 : List (am_tE) := aLS_6_0
def aLS_7_0 : List (am_tE) := [(54, 71, 2, (2, 133), none, (3, 178), (0, 0)), (66, 33, 1, (1, 208), none, (5, 69), (0, 0))]
def aLS_7 : List (am_tE) := aLS_7_0
def aLS_8_0 : List (am_tE) := [(17, 8, 2, (1, 88), none, (3, 224), (0, 0)), (51, 86, 6, (2, 192), none, (6, 160), (0, 0))]
def aLS_8 : List (am_tE) := aLS_8_0
def aLS_9_0 : List (am_tE) := [(201, 33, 1, (1, 208), none, (6, 151), (0, 0)), (53, 215, 1, (6, 208), some "SecureLines$Serve\x72", (6, 217), (6, 218))]
def aLS_9 : List (am_tE) := aLS_9_0
def aLS_10_0 : List (am_tE) := [(209, 158, 2, (5, 129), none, (5, 154), (0, 0)), (177, 33, 1, (1, 208), none, (5, 162), (0, 0)), (152, 36, 1, (1, 219), none, (5, 171), (0, 0)), (305, 56, 4, (2, 76), none, (6, 189), (0, 0))]
def aLS_10 : List (am_tE) := aLS_10_0
def aLS_11_0 : List (am_tE) := [(200, 158, 2, (5, 129), some "SecureLines$Client", (5, 127), (5, 128)), (285, 33, 1, (1, 208), none, (6, 48), (0, 0)), (243, 215, 1, (6, 208), some "SecureLines$Client", (6, 206), (6, 207))]
def aLS_11 : List (am_tE) := aLS_11_0
def aLS_12_0 : List (am_tE) := [(61, 277, 1, (8, 190), none, (8, 189), (0, 0)), (68, 278, 2, (8, 193), none, (8, 192), (0, 0)), (92, 279, 3, (8, 197), none, (8, 196), (0, 0)), (98, 86, 6, (2, 192), none, (8, 199), (0, 0)), (146, 82, 3, (2, 177), none, (9, 36), (0, 0))]
def aLS_12 : List (am_tE) := aLS_12_0
def aLS_13_0 : List (am_tE) := [(513, 321, 3, (12, 58), none, (12, 57), (0, 0)), (535, 333, 2, (12, 108), none, (12, 107), (0, 0)), (619, 347, 1, (12, 165), none, (12, 164), (0, 0)), (622, 348, 2, (12, 168), none, (12, 167), (0, 0)), (602, 345, 1, (12, 158), none, (12, 157), (0, 0)), (640, 351, 2, (12, 179), none, (12, 178), (0, 0)), (633, 352, 1, (12, 184), none, (12, 183), (0, 0)), (636, 353, 3, (12, 190), none, (12, 189), (0, 0)), (643, 355, 3, (12, 197), none, (12, 196), (0, 0)), (652, 357, 1, (12, 204), none, (12, 203), (0, 0)), (656, 358, 1, (12, 208), none, (12, 207), (0, 0)), (659, 361, 1, (12, 221), none, (12, 220), (0, 0)), (700, 372, 1, (13, 29), none, (13, 28), (0, 0)), (738, 380, 1, (13, 61), none, (13, 60), (0, 0)), (724, 382, 3, (13, 70), none, (13, 69), (0, 0)), (721, 383, 1, (13, 73), none, (13, 72), (0, 0)), (774, 390, 3, (13, 105), none, (13, 104), (0, 0)), (792, 395, 2, (13, 124), none, (13, 123), (0, 0)), (847, 414, 6, (13, 201), none, (13, 200), (0, 0)), (851, 415, 2, (13, 204), none, (13, 203), (0, 0)), (941, 451, 2, (14, 110), none, (14, 109), (0, 0)), (980, 477, 1, (14, 217), none, (14, 216), (0, 0)), (1099, 500, 2, (15, 70), none, (15, 69), (0, 0))]
def aLS_13 : List (am_tE) := aLS_13_0
def aLS_14_0 : List (am_tE) := []
def aLS_14 : List (am_tE) := aLS_14_0
def aLS : List (List (am_tE)) := [aLS_0, aLS_1, aLS_2, aLS_3, aLS_4, aLS_5, aLS_6, aLS_7, aLS_8, aLS_9, aLS_10, aLS_11, aLS_12, aLS_13, aLS_14]
def aLI_0_0 : List (am_sE) := [(9, 1, 0, (0, 28), none, (0, 27)), (18, 3, 1, (0, 59), none, (1, 12)), (251, 116, 1, (3, 78), none, (3, 77)), (299, 129, 3, (3, 221), none, (3, 220)), (327, 137, 2, (4, 59), none, (4, 58)), (332, 139, 2, (4, 218), none, (4, 217)), (396, 271, 4, (8, 103), none, (8, 102))]
def aLI_0 : List (am_sE) := aLI_0_0
def aLI_1_0 : List (am_sE) := [(11, 2, 0, (0, 34), some "SecureLines", (0, 33)), (20, 3, 1, (0, 59), none, (0, 58)), (39, 4, 0, (0, 92), some "SecureLines", (0, 91)), (59, 5, 1, (0, 118), none, (0, 117))]
def aLI_1 : List (am_sE) := aLI_1_0
def aLI_2_0 : List (am_sE) := []
def aLI_2 : List (am_sE) := aLI_2_0
def aLI_3_0 : List (am_sE) := []
def aLI_3 : List (am_sE) := aLI_3_0
def aLI_4_0 : List (am_sE) := []
def aLI_4 : List (am_sE) := aLI_4_0
def aLI_5_0 : List (am_sE) := []
def aLI_5 : List (am_sE) := aLI_5_0
def aLI_6_0 : List (am_sE) := []
def aLI_6 : List (am_sE) := aLI_6_0
def aLI_7_0 : List (am_sE) := [(20, 3, 1, (0, 59), none, (3, 84))]
def aLI_7 : List (am_sE) := aLI_7_0
def aLI_8_0 : List (am_sE) := []
def aLI_8 : List (am_sE) := aLI_8_0
def aLI_9_0 : List (am_sE) := [(1, 138, 2, (4, 62), none, (4, 61)), (334, 3, 1, (0, 59), none, (7, 157)), (403, 129, 3, (3, 221), none, (8, 7))]
def aLI_9 : List (am_sE) := aLI_9_0
def aLI_10_0 : List (am_sE) := [(11, 3, 1, (0, 59), none, (4, 66)), (51, 2, 0, (0, 34), some "SecureLines", (4, 69))]
def aLI_10 : List (am_sE) := aLI_10_0
def aLI_11_0 : List (am_sE) := [(1, 138, 2, (4, 62), none, (4, 220)), (400, 129, 3, (3, 221), none, (7, 97))]
def aLI_11 : List (am_sE) := aLI_11_0
def aLI_12_0 : List (am_sE) := [(72, 3, 1, (0, 59), none, (8, 200))]
def aLI_12 : List (am_sE) := aLI_12_0
def aLI_13_0 : List (am_sE) := []
def aLI_13 : List (am_sE) := aLI_13_0
def aLI_14_0 : List (am_sE) := [(9, 0, 0, (0, 20), none, (0, 19)), (12, 319, 0, (9, 146), none, (9, 145))]
def aLI_14 : List (am_sE) := aLI_14_0
def aLI : List (List (am_sE)) := [aLI_0, aLI_1, aLI_2, aLI_3, aLI_4, aLI_5, aLI_6, aLI_7, aLI_8, aLI_9, aLI_10, aLI_11, aLI_12, aLI_13, aLI_14]
def aLV_0_0 : List (am_vE) := [((73, 7), 7, 1, (1, 83), (1, 84), (1, 82), some (none), ⟨"SecureLines$Row", "put", "(I)V"⟩, "", (0, 0), (0, 0), (0, 0)), ((76, 7), 11, 1, (1, 112), (1, 113), (1, 111), some (none), ⟨"SecureLines$Row", "at", "(I)I"⟩, "", (0, 0), (0, 0), (0, 0)), ((83, 7), 13, 3, (1, 120), (1, 121), (1, 119), some (none), ⟨"SecureLines$Row", "take", "([III)V"⟩, "", (0, 0), (0, 0), (0, 0)), ((102, 4), 17, 4, (1, 139), (1, 140), (1, 138), some (none), ⟨"SecureLines$Mill", "digestOf", "(I[III)J"⟩, "", (0, 0), (0, 0), (0, 0)), ((108, 7), 23, 0, (1, 165), (1, 166), (1, 164), some (none), ⟨"SecureLines$Row", "clea\x72", "()V"⟩, "", (0, 0), (0, 0), (0, 0)), ((111, 4), 25, 5, (1, 173), (1, 174), (1, 172), some (none), ⟨"SecureLines$Mill", "keyedBytes", "(IJ[III)J"⟩, "", (0, 0), (0, 0), (0, 0)), ((115, 4), 29, 4, (1, 192), (1, 193), (1, 191), some (none), ⟨"SecureLines$Mill", "derive", "(IJIJ)J"⟩, "", (0, 0), (0, 0), (0, 0)), ((122, 4), 34, 5, (1, 212), (17, 4), (1, 210), some (some "SecureLines"), ⟨"SecureLines$Mill", "stream", "(JJ[III)V"⟩, "", (0, 0), (0, 0), (0, 0)), ((126, 4), 35, 5, (1, 216), (17, 5), (1, 214), some (some "SecureLines"), ⟨"SecureLines$Mill", "tag", "(IJLSecureLines$Row;II)J"⟩, "", (0, 0), (0, 0), (0, 0)), ((133, 7), 37, 2, (1, 222), (1, 223), (1, 221), some (none), ⟨"SecureLines$Row", "putHighest", "(JI)V"⟩, "", (0, 0), (0, 0), (0, 0)), ((137, 4), 39, 5, (1, 231), (1, 232), (1, 230), some (none), ⟨"SecureLines$Mill", "opens", "(IJJLSecureLines$Row;I)Z"⟩, "", (0, 0), (0, 0), (0, 0)), ((141, 4), 41, 2, (2, 5), (2, 6), (2, 4), some (none), ⟨"SecureLines$Mill", "groupPoint", "(II)I"⟩, "", (0, 0), (0, 0), (0, 0)), ((145, 4), 45, 3, (2, 24), (2, 25), (2, 23), some (none), ⟨"SecureLines$Mill", "jointOf", "(III)J"⟩, "", (0, 0), (0, 0), (0, 0)), ((152, 4), 48, 1, (2, 36), (2, 37), (2, 35), some (none), ⟨"SecureLines$Mill", "schemePoint", "(I)I"⟩, "", (0, 0), (0, 0), (0, 0)), ((158, 4), 51, 5, (2, 49), (2, 50), (2, 48), some (none), ⟨"SecureLines$Mill", "signed", "(II[III)J"⟩, "", (0, 0), (0, 0), (0, 0)), ((162, 4), 54, 6, (2, 66), (2, 67), (2, 65), some (none), ⟨"SecureLines$Mill", "proves", "(IIJ[III)Z"⟩, "", (0, 0), (0, 0), (0, 0)), ((182, 3), 64, 4, (2, 101), (2, 102), (2, 100), some (none), ⟨"SecureLines$House", "wrapRow", "(LSecureLines$Row;IILSecureLines$Row;)V"⟩, "", (0, 0), (0, 0), (0, 0)), ((186, 10), 68, 1, (2, 121), (17, 6), (2, 119), some (none), ⟨"SecureLines", "pape\x72", "(I)I"⟩, "", (0, 0), (0, 0), (0, 0)), ((189, 3), 69, 2, (2, 124), (2, 125), (2, 123), some (none), ⟨"SecureLines$House", "hold", "(ILSecureLines$Row;)I"⟩, "", (0, 0), (0, 0), (0, 0)), ((193, 10), 90, 1, (2, 208), (17, 18), (2, 206), some (none), ⟨"SecureLines", "isCertificate", "(I)Z"⟩, "", (0, 0), (0, 0), (0, 0)), ((203, 6), 92, 1, (2, 215), (2, 216), (2, 214), some (none), ⟨"SecureLines$Pape\x72", "start", "(I)I"⟩, "", (0, 0), (0, 0), (0, 0)), ((206, 6), 93, 1, (2, 219), (2, 220), (2, 218), some (none), ⟨"SecureLines$Pape\x72", "stop", "(I)I"⟩, "", (0, 0), (0, 0), (0, 0)), ((216, 10), 96, 1, (2, 232), (17, 19), (2, 230), some (none), ⟨"SecureLines", "isEnd", "(I)Z"⟩, "", (0, 0), (0, 0), (0, 0)), ((229, 3), 97, 1, (2, 235), (2, 236), (2, 234), some (none), ⟨"SecureLines$House", "isPath", "(LSecureLines$End;)Z"⟩, "", (0, 0), (0, 0), (0, 0)), ((233, 3), 102, 3, (3, 17), (3, 18), (3, 16), some (none), ⟨"SecureLines$House", "why", "(LSecureLines$End;II)I"⟩, "", (0, 0), (0, 0), (0, 0)), ((237, 3), 112, 4, (3, 58), (3, 59), (3, 57), some (none), ⟨"SecureLines$House", "findPath", "(LSecureLines$End;III)I"⟩, "", (0, 0), (0, 0), (0, 0)), ((244, 3), 108, 3, (3, 43), (3, 44), (3, 71), some (none), ⟨"SecureLines$House", "standing", "(LSecureLines$Paper;LSecureLines$Paper;I)I"⟩, "", (0, 0), (0, 0), (0, 0)), ((260, 1), 119, 2, (3, 175), (3, 176), (3, 174), some (none), ⟨"SecureLines$End", "offerAll", "(II)V"⟩, "", (0, 0), (0, 0), (0, 0)), ((264, 1), 121, 2, (3, 184), (3, 185), (3, 183), some (none), ⟨"SecureLines$End", "mayBe", "(II)Z"⟩, "", (0, 0), (0, 0), (0, 0)), ((272, 1), 124, 1, (3, 198), (3, 199), (3, 197), some (none), ⟨"SecureLines$End", "ancho\x72", "(I)I"⟩, "", (0, 0), (0, 0), (0, 0))]
def aLV_0_1 : List (am_vE) := [((284, 10), 127, 1, (3, 211), (17, 24), (3, 209), some (none), ⟨"SecureLines", "isClient", "(I)Z"⟩, "", (0, 0), (0, 0), (0, 0)), ((302, 1), 130, 1, (4, 29), (4, 30), (4, 28), some (none), ⟨"SecureLines$End", "keep", "(LSecureLines$Shared;)V"⟩, "", (0, 0), (0, 0), (0, 0)), ((306, 1), 132, 1, (4, 37), (4, 38), (4, 36), some (none), ⟨"SecureLines$End", "lose", "(I)I"⟩, "", (0, 0), (0, 0), (0, 0)), ((316, 9), 134, 1, (4, 45), (4, 46), (4, 44), some (none), ⟨"SecureLines$Shared", "fact", "(I)I"⟩, "", (0, 0), (0, 0), (0, 0)), ((333, 0), 140, 0, (5, 39), (5, 40), (5, 38), some (none), ⟨"SecureLines$Client", "greet", "()V"⟩, "", (0, 0), (0, 0), (0, 0)), ((336, 10), 168, 2, (5, 200), (17, 29), (5, 198), some (none), ⟨"SecureLines", "isSide", "(II)Z"⟩, "", (0, 0), (0, 0), (0, 0)), ((339, 10), 169, 2, (5, 204), (17, 30), (5, 202), some (none), ⟨"SecureLines", "sideOf", "(II)LSecureLines$Side;"⟩, "", (0, 0), (0, 0), (0, 0)), ((346, 0), 170, 3, (5, 207), (5, 209), (5, 206), some (none), ⟨"SecureLines$Side", "arrive", "([III)V"⟩, "", (0, 0), (0, 0), (0, 0)), ((346, 8), 170, 3, (5, 207), (5, 210), (5, 206), some (none), ⟨"SecureLines$Side", "arrive", "([III)V"⟩, "", (0, 0), (0, 0), (0, 0)), ((354, 7), 144, 1, (5, 56), (5, 57), (8, 42), some (none), ⟨"SecureLines$Row", "drop", "(I)V"⟩, "", (0, 0), (0, 0), (0, 0)), ((357, 0), 262, 0, (8, 56), (8, 58), (8, 55), some (none), ⟨"SecureLines$Side", "maySay", "()Z"⟩, "", (0, 0), (0, 0), (0, 0)), ((357, 8), 262, 0, (8, 56), (8, 59), (8, 55), some (none), ⟨"SecureLines$Side", "maySay", "()Z"⟩, "", (0, 0), (0, 0), (0, 0)), ((361, 0), 164, 4, (5, 164), (5, 166), (8, 61), some (none), ⟨"SecureLines$Side", "put", "(I[III)V"⟩, "", (0, 0), (0, 0), (0, 0)), ((361, 8), 164, 4, (5, 164), (5, 167), (8, 61), some (none), ⟨"SecureLines$Side", "put", "(I[III)V"⟩, "", (0, 0), (0, 0), (0, 0)), ((364, 0), 264, 0, (8, 67), (8, 69), (8, 66), some (none), ⟨"SecureLines$Side", "nextHeard", "()I"⟩, "", (0, 0), (0, 0), (0, 0)), ((364, 8), 264, 0, (8, 67), (8, 70), (8, 66), some (none), ⟨"SecureLines$Side", "nextHeard", "()I"⟩, "", (0, 0), (0, 0), (0, 0)), ((368, 0), 257, 1, (8, 32), (8, 34), (8, 76), some (none), ⟨"SecureLines$Side", "putAlert", "(I)V"⟩, "", (0, 0), (0, 0), (0, 0)), ((368, 8), 257, 1, (8, 32), (8, 35), (8, 76), some (none), ⟨"SecureLines$Side", "putAlert", "(I)V"⟩, "", (0, 0), (0, 0), (0, 0)), ((374, 0), 239, 1, (7, 115), (16, 98), (8, 81), some (none), ⟨"SecureLines$Side", "buildNewKeys", "(I)V"⟩, "", (0, 0), (0, 0), (0, 0)), ((374, 8), 239, 1, (7, 115), (16, 99), (8, 81), some (none), ⟨"SecureLines$Side", "buildNewKeys", "(I)V"⟩, "", (0, 0), (0, 0), (0, 0)), ((377, 0), 162, 0, (5, 152), (16, 101), (8, 82), some (none), ⟨"SecureLines$Side", "send", "()V"⟩, "", (0, 0), (0, 0), (0, 0)), ((377, 8), 162, 0, (5, 152), (16, 102), (8, 82), some (none), ⟨"SecureLines$Side", "send", "()V"⟩, "", (0, 0), (0, 0), (0, 0)), ((380, 0), 240, 0, (7, 121), (16, 104), (8, 83), some (none), ⟨"SecureLines$Side", "turnWriting", "()V"⟩, "", (0, 0), (0, 0), (0, 0)), ((380, 8), 240, 0, (7, 121), (16, 105), (8, 83), some (none), ⟨"SecureLines$Side", "turnWriting", "()V"⟩, "", (0, 0), (0, 0), (0, 0)), ((383, 0), 192, 0, (6, 71), (6, 73), (8, 92), some (none), ⟨"SecureLines$Side", "digestNow", "()J"⟩, "", (0, 0), (0, 0), (0, 0)), ((383, 8), 192, 0, (6, 71), (6, 74), (8, 92), some (none), ⟨"SecureLines$Side", "digestNow", "()J"⟩, "", (0, 0), (0, 0), (0, 0)), ((399, 10), 273, 1, (8, 175), (17, 60), (8, 173), some (none), ⟨"SecureLines", "isOffice", "(I)Z"⟩, "", (0, 0), (0, 0), (0, 0)), ((405, 5), 274, 1, (8, 178), (8, 179), (8, 177), some (none), ⟨"SecureLines$Office", "openAccount", "(J)I"⟩, "", (0, 0), (0, 0), (0, 0)), ((412, 5), 276, 2, (8, 186), (8, 187), (8, 185), some (none), ⟨"SecureLines$Office", "takeOrde\x72", "(ILSecureLines$Row;)I"⟩, "", (0, 0), (0, 0), (0, 0)), ((415, 10), 281, 2, (8, 208), (17, 61), (8, 206), some (none), ⟨"SecureLines", "isOrde\x72", "(II)Z"⟩, "", (0, 0), (0, 0), (0, 0))]
def aLV_0_2 : List (am_vE) := [((418, 5), 282, 2, (8, 211), (8, 212), (8, 210), some (none), ⟨"SecureLines$Office", "fact", "(II)I"⟩, "", (0, 0), (0, 0), (0, 0)), ((420, 10), 284, 3, (8, 220), (17, 62), (8, 218), some (none), ⟨"SecureLines", "zonePlace", "([III)I"⟩, "", (0, 0), (0, 0), (0, 0)), ((433, 5), 286, 2, (8, 228), (8, 229), (8, 227), some (none), ⟨"SecureLines$Office", "isOpen", "(II)Z"⟩, "", (0, 0), (0, 0), (0, 0)), ((442, 5), 287, 2, (8, 233), (8, 234), (8, 232), some (none), ⟨"SecureLines$Office", "due", "(II)J"⟩, "", (0, 0), (0, 0), (0, 0)), ((446, 5), 288, 3, (8, 238), (8, 239), (8, 237), some (none), ⟨"SecureLines$Office", "look", "(IIZ)I"⟩, "", (0, 0), (0, 0), (0, 0)), ((454, 5), 291, 3, (9, 10), (9, 11), (9, 9), some (none), ⟨"SecureLines$Office", "issueOrde\x72", "(III)I"⟩, "", (0, 0), (0, 0), (0, 0)), ((458, 5), 299, 1, (9, 59), (9, 60), (9, 58), some (none), ⟨"SecureLines$Office", "gave", "(I)Z"⟩, "", (0, 0), (0, 0), (0, 0)), ((461, 5), 300, 1, (9, 63), (9, 64), (9, 62), some (none), ⟨"SecureLines$Office", "revokeSerial", "(I)I"⟩, "", (0, 0), (0, 0), (0, 0)), ((464, 5), 303, 1, (9, 75), (9, 76), (9, 74), some (none), ⟨"SecureLines$Office", "publishList", "(I)I"⟩, "", (0, 0), (0, 0), (0, 0)), ((467, 5), 305, 2, (9, 83), (9, 84), (9, 82), some (none), ⟨"SecureLines$Office", "answerFo\x72", "(II)I"⟩, "", (0, 0), (0, 0), (0, 0)), ((473, 10), 308, 1, (9, 96), (17, 68), (9, 94), some (none), ⟨"SecureLines", "isLog", "(I)Z"⟩, "", (0, 0), (0, 0), (0, 0)), ((476, 10), 310, 3, (9, 104), (17, 69), (9, 102), some (none), ⟨"SecureLines", "headOf", "([JII)J"⟩, "", (0, 0), (0, 0), (0, 0)), ((490, 10), 311, 1, (9, 108), (17, 70), (9, 106), some (none), ⟨"SecureLines", "leafOf", "(J)J"⟩, "", (0, 0), (0, 0), (0, 0)), ((498, 10), 312, 2, (9, 116), (17, 71), (9, 114), some (none), ⟨"SecureLines", "knotOf", "(JJ)J"⟩, "", (0, 0), (0, 0), (0, 0)), ((502, 4), 18, 1, (1, 143), (1, 144), (9, 110), some (none), ⟨"SecureLines$Mill", "start", "(I)V"⟩, "", (0, 0), (0, 0), (0, 0)), ((504, 4), 30, 1, (1, 196), (1, 197), (9, 111), some (none), ⟨"SecureLines$Mill", "put", "(I)V"⟩, "", (0, 0), (0, 0), (0, 0)), ((505, 4), 31, 1, (1, 200), (1, 201), (9, 112), some (none), ⟨"SecureLines$Mill", "putSecret", "(J)V"⟩, "", (0, 0), (0, 0), (0, 0)), ((506, 4), 21, 0, (1, 155), (1, 156), (9, 113), some (none), ⟨"SecureLines$Mill", "finish", "()J"⟩, "", (0, 0), (0, 0), (0, 0)), ((483, 10), 315, 1, (9, 127), (17, 72), (9, 125), some (none), ⟨"SecureLines", "knotsOut", "(I)V"⟩, "", (0, 0), (0, 0), (0, 0)), ((486, 7), 66, 1, (2, 112), (2, 113), (9, 129), some (none), ⟨"SecureLines$Row", "putSecret", "(J)V"⟩, "", (0, 0), (0, 0), (0, 0)), ((494, 7), 195, 1, (6, 89), (6, 90), (9, 138), some (none), ⟨"SecureLines$Row", "secretAt", "(I)J"⟩, "", (0, 0), (0, 0), (0, 0))]
def aLV_0 : List (am_vE) := aLV_0_0 ++ (aLV_0_1 ++ (aLV_0_2))
def aLV_1_0 : List (am_vE) := [((80, 4), 51, 5, (2, 49), (2, 50), (2, 104), some (none), ⟨"SecureLines$Mill", "signed", "(II[III)J"⟩, "", (0, 0), (0, 0), (0, 0)), ((84, 7), 23, 0, (1, 165), (1, 166), (2, 105), some (none), ⟨"SecureLines$Row", "clea\x72", "()V"⟩, "", (0, 0), (0, 0), (0, 0)), ((87, 7), 65, 2, (2, 107), (2, 108), (2, 106), some (none), ⟨"SecureLines$Row", "putHeade\x72", "(II)V"⟩, "", (0, 0), (0, 0), (0, 0)), ((91, 7), 13, 3, (1, 120), (1, 121), (2, 110), some (none), ⟨"SecureLines$Row", "take", "([III)V"⟩, "", (0, 0), (0, 0), (0, 0)), ((95, 7), 66, 1, (2, 112), (2, 113), (2, 111), some (none), ⟨"SecureLines$Row", "putSecret", "(J)V"⟩, "", (0, 0), (0, 0), (0, 0)), ((99, 6), 70, 4, (2, 128), (2, 129), (2, 127), some (none), ⟨"SecureLines$Pape\x72", "read", "(I[III)Z"⟩, "", (0, 0), (0, 0), (0, 0)), ((106, 6), 85, 1, (2, 188), (2, 189), (2, 187), some (none), ⟨"SecureLines$Pape\x72", "hasBytesOf", "(LSecureLines$Paper;)Z"⟩, "", (0, 0), (0, 0), (0, 0)), ((175, 3), 98, 0, (2, 239), (3, 0), (2, 238), some (none), ⟨"SecureLines$House", "isLinked", "()Z"⟩, "", (0, 0), (0, 0), (0, 0)), ((179, 3), 101, 2, (3, 13), (3, 14), (3, 12), some (none), ⟨"SecureLines$House", "trusts", "(LSecureLines$End;LSecureLines$Paper;)Z"⟩, "", (0, 0), (0, 0), (0, 0)), ((171, 3), 99, 2, (3, 4), (17, 20), (3, 2), some (none), ⟨"SecureLines$House", "follows", "(LSecureLines$Paper;I)Z"⟩, "", (0, 0), (0, 0), (0, 0)), ((141, 6), 100, 3, (3, 7), (3, 8), (3, 6), some (none), ⟨"SecureLines$Pape\x72", "hasSame", "(ILSecureLines$Paper;I)Z"⟩, "", (0, 0), (0, 0), (0, 0)), ((183, 3), 103, 3, (3, 22), (17, 21), (3, 20), some (none), ⟨"SecureLines$House", "whyOfIssue", "(LSecureLines$Paper;LSecureLines$Paper;I)I"⟩, "", (0, 0), (0, 0), (0, 0)), ((187, 3), 105, 2, (3, 33), (17, 23), (3, 31), some (none), ⟨"SecureLines$House", "whyOfRights", "(II)I"⟩, "", (0, 0), (0, 0), (0, 0)), ((191, 3), 108, 3, (3, 43), (3, 44), (3, 42), some (none), ⟨"SecureLines$House", "standing", "(LSecureLines$Paper;LSecureLines$Paper;I)I"⟩, "", (0, 0), (0, 0), (0, 0)), ((153, 3), 104, 2, (3, 26), (17, 22), (3, 24), some (none), ⟨"SecureLines$House", "isBy", "(LSecureLines$Paper;LSecureLines$Paper;)Z"⟩, "", (0, 0), (0, 0), (0, 0)), ((130, 6), 92, 1, (2, 215), (2, 216), (3, 28), some (none), ⟨"SecureLines$Pape\x72", "start", "(I)I"⟩, "", (0, 0), (0, 0), (0, 0)), ((134, 6), 93, 1, (2, 219), (2, 220), (3, 29), some (none), ⟨"SecureLines$Pape\x72", "stop", "(I)I"⟩, "", (0, 0), (0, 0), (0, 0)), ((137, 4), 54, 6, (2, 66), (2, 67), (3, 30), some (none), ⟨"SecureLines$Mill", "proves", "(IIJ[III)Z"⟩, "", (0, 0), (0, 0), (0, 0)), ((200, 6), 107, 3, (3, 39), (3, 40), (3, 38), some (none), ⟨"SecureLines$Pape\x72", "liesUnde\x72", "(ILSecureLines$Paper;I)Z"⟩, "", (0, 0), (0, 0), (0, 0)), ((157, 6), 110, 1, (3, 50), (3, 51), (3, 49), some (none), ⟨"SecureLines$Pape\x72", "lists", "(I)Z"⟩, "", (0, 0), (0, 0), (0, 0)), ((203, 3), 102, 3, (3, 17), (3, 18), (3, 61), some (none), ⟨"SecureLines$House", "why", "(LSecureLines$End;II)I"⟩, "", (0, 0), (0, 0), (0, 0)), ((208, 3), 213, 2, (6, 197), (17, 43), (6, 195), some (none), ⟨"SecureLines$House", "anchorOve\x72", "(LSecureLines$End;LSecureLines$Paper;)LSecureLines$Paper;"⟩, "", (0, 0), (0, 0), (0, 0))]
def aLV_1 : List (am_vE) := aLV_1_0
def aLV_2_0 : List (am_vE) := [((41, 4), 18, 1, (1, 143), (1, 144), (1, 142), some (none), ⟨"SecureLines$Mill", "start", "(I)V"⟩, "", (0, 0), (0, 0), (0, 0)), ((45, 4), 19, 3, (1, 147), (1, 148), (1, 146), some (none), ⟨"SecureLines$Mill", "take", "([III)V"⟩, "", (0, 0), (0, 0), (0, 0)), ((49, 4), 21, 0, (1, 155), (1, 156), (1, 154), some (none), ⟨"SecureLines$Mill", "finish", "()J"⟩, "", (0, 0), (0, 0), (0, 0)), ((31, 4), 20, 1, (1, 152), (17, 0), (1, 150), some (none), ⟨"SecureLines$Mill", "block", "(J)V"⟩, "", (0, 0), (0, 0), (0, 0)), ((37, 4), 22, 0, (1, 161), (17, 1), (1, 159), some (none), ⟨"SecureLines$Mill", "value", "()J"⟩, "", (0, 0), (0, 0), (0, 0)), ((58, 4), 26, 2, (1, 178), (17, 2), (1, 176), some (none), ⟨"SecureLines$Mill", "open", "(IJ)V"⟩, "", (0, 0), (0, 0), (0, 0)), ((62, 4), 27, 3, (1, 183), (17, 3), (1, 181), some (none), ⟨"SecureLines$Mill", "oute\x72", "(IJJ)J"⟩, "", (0, 0), (0, 0), (0, 0)), ((69, 4), 30, 1, (1, 196), (1, 197), (1, 195), some (none), ⟨"SecureLines$Mill", "put", "(I)V"⟩, "", (0, 0), (0, 0), (0, 0)), ((66, 4), 31, 1, (1, 200), (1, 201), (1, 199), some (none), ⟨"SecureLines$Mill", "putSecret", "(J)V"⟩, "", (0, 0), (0, 0), (0, 0)), ((88, 4), 29, 4, (1, 192), (1, 193), (1, 236), some (none), ⟨"SecureLines$Mill", "derive", "(IJIJ)J"⟩, "", (0, 0), (0, 0), (0, 0)), ((92, 4), 35, 5, (1, 216), (17, 5), (1, 237), some (none), ⟨"SecureLines$Mill", "tag", "(IJLSecureLines$Row;II)J"⟩, "", (0, 0), (0, 0), (0, 0)), ((96, 7), 11, 1, (1, 112), (1, 113), (1, 238), some (none), ⟨"SecureLines$Row", "at", "(I)I"⟩, "", (0, 0), (0, 0), (0, 0)), ((99, 4), 34, 5, (1, 212), (17, 4), (1, 239), some (none), ⟨"SecureLines$Mill", "stream", "(JJ[III)V"⟩, "", (0, 0), (0, 0), (0, 0)), ((127, 4), 25, 5, (1, 173), (1, 174), (2, 52), some (none), ⟨"SecureLines$Mill", "keyedBytes", "(IJ[III)J"⟩, "", (0, 0), (0, 0), (0, 0)), ((136, 4), 48, 1, (2, 36), (2, 37), (2, 58), some (none), ⟨"SecureLines$Mill", "schemePoint", "(I)I"⟩, "", (0, 0), (0, 0), (0, 0))]
def aLV_2 : List (am_vE) := aLV_2_0
def aLV_3_0 : List (am_vE) := [((39, 7), 7, 1, (1, 83), (1, 84), (1, 225), some (none), ⟨"SecureLines$Row", "put", "(I)V"⟩, "", (0, 0), (0, 0), (0, 0)), ((23, 7), 11, 1, (1, 112), (1, 113), (5, 54), some (none), ⟨"SecureLines$Row", "at", "(I)I"⟩, "", (0, 0), (0, 0), (0, 0)), ((27, 7), 143, 1, (5, 51), (5, 52), (6, 92), some (none), ⟨"SecureLines$Row", "fourAt", "(I)I"⟩, "", (0, 0), (0, 0), (0, 0)), ((54, 7), 65, 2, (2, 107), (2, 108), (9, 24), some (none), ⟨"SecureLines$Row", "putHeade\x72", "(II)V"⟩, "", (0, 0), (0, 0), (0, 0)), ((58, 7), 13, 3, (1, 120), (1, 121), (9, 35), some (none), ⟨"SecureLines$Row", "take", "([III)V"⟩, "", (0, 0), (0, 0), (0, 0))]
def aLV_3 : List (am_vE) := aLV_3_0
def aLV_4_0 : List (am_vE) := [((56, 2), 155, 2, (5, 115), (5, 116), (5, 114), some (none), ⟨"SecureLines$Fields", "fourOf", "(II)I"⟩, "", (0, 0), (0, 0), (0, 0)), ((52, 2), 156, 2, (5, 119), (5, 120), (5, 118), some (none), ⟨"SecureLines$Fields", "byteOf", "(II)I"⟩, "", (0, 0), (0, 0), (0, 0)), ((35, 2), 185, 4, (6, 35), (17, 33), (6, 33), some (none), ⟨"SecureLines$Fields", "isAsTold", "(IIII)Z"⟩, "", (0, 0), (0, 0), (0, 0)), ((45, 2), 186, 2, (6, 40), (17, 34), (6, 38), some (none), ⟨"SecureLines$Fields", "isShared", "(II)Z"⟩, "", (0, 0), (0, 0), (0, 0)), ((61, 2), 153, 1, (5, 107), (5, 108), (6, 135), some (none), ⟨"SecureLines$Fields", "has", "(I)Z"⟩, "", (0, 0), (0, 0), (0, 0))]
def aLV_4 : List (am_vE) := aLV_4_0
def aLV_5_0 : List (am_vE) := [((83, 6), 72, 2, (2, 137), (17, 7), (2, 135), some (none), ⟨"SecureLines$Pape\x72", "open", "(II)I"⟩, "", (0, 0), (0, 0), (0, 0)), ((86, 6), 73, 2, (2, 141), (17, 8), (2, 139), some (none), ⟨"SecureLines$Pape\x72", "readInne\x72", "(II)Z"⟩, "", (0, 0), (0, 0), (0, 0)), ((90, 6), 76, 3, (2, 153), (17, 11), (2, 151), some (none), ⟨"SecureLines$Pape\x72", "mark", "(III)V"⟩, "", (0, 0), (0, 0), (0, 0)), ((94, 6), 79, 1, (2, 166), (17, 14), (2, 164), some (none), ⟨"SecureLines$Pape\x72", "fourAt", "(I)I"⟩, "", (0, 0), (0, 0), (0, 0)), ((103, 6), 74, 1, (2, 145), (17, 9), (2, 143), some (none), ⟨"SecureLines$Pape\x72", "readNumbe\x72", "(I)I"⟩, "", (0, 0), (0, 0), (0, 0)), ((109, 6), 75, 2, (2, 149), (17, 10), (2, 147), some (none), ⟨"SecureLines$Pape\x72", "readName", "(II)Z"⟩, "", (0, 0), (0, 0), (0, 0)), ((112, 6), 77, 1, (2, 157), (17, 12), (2, 155), some (none), ⟨"SecureLines$Pape\x72", "times", "(I)Z"⟩, "", (0, 0), (0, 0), (0, 0)), ((115, 6), 78, 1, (2, 162), (17, 13), (2, 160), some (none), ⟨"SecureLines$Pape\x72", "pointNode", "(I)Z"⟩, "", (0, 0), (0, 0), (0, 0)), ((118, 6), 80, 1, (2, 170), (17, 15), (2, 168), some (none), ⟨"SecureLines$Pape\x72", "extensions", "(I)Z"⟩, "", (0, 0), (0, 0), (0, 0)), ((121, 6), 84, 1, (2, 184), (17, 17), (2, 182), some (none), ⟨"SecureLines$Pape\x72", "serials", "(I)Z"⟩, "", (0, 0), (0, 0), (0, 0)), ((124, 6), 81, 2, (2, 174), (17, 16), (2, 172), some (none), ⟨"SecureLines$Pape\x72", "names", "(II)Z"⟩, "", (0, 0), (0, 0), (0, 0)), ((37, 6), 92, 1, (2, 215), (2, 216), (3, 10), some (none), ⟨"SecureLines$Pape\x72", "start", "(I)I"⟩, "", (0, 0), (0, 0), (0, 0)), ((41, 6), 93, 1, (2, 219), (2, 220), (3, 11), some (none), ⟨"SecureLines$Pape\x72", "stop", "(I)I"⟩, "", (0, 0), (0, 0), (0, 0))]
def aLV_5 : List (am_vE) := aLV_5_0
def aLV_6_0 : List (am_vE) := []
def aLV_6 : List (am_vE) := aLV_6_0
def aLV_7_0 : List (am_vE) := [((107, 1), 142, 0, (5, 48), (17, 25), (5, 46), some (none), ⟨"SecureLines$End", "drawFou\x72", "()I"⟩, "", (0, 0), (0, 0), (0, 0)), ((101, 7), 143, 1, (5, 51), (5, 52), (5, 50), some (none), ⟨"SecureLines$Row", "fourAt", "(I)I"⟩, "", (0, 0), (0, 0), (0, 0)), ((104, 7), 144, 1, (5, 56), (5, 57), (5, 55), some (none), ⟨"SecureLines$Row", "drop", "(I)V"⟩, "", (0, 0), (0, 0), (0, 0)), ((60, 2), 202, 2, (6, 124), (6, 125), (6, 145), some (none), ⟨"SecureLines$Fields", "tells", "(II)Z"⟩, "", (0, 0), (0, 0), (0, 0)), ((91, 9), 208, 4, (6, 157), (6, 158), (6, 156), some (none), ⟨"SecureLines$Shared", "is", "([IIII)Z"⟩, "", (0, 0), (0, 0), (0, 0)), ((121, 4), 29, 4, (1, 192), (1, 193), (8, 1), some (none), ⟨"SecureLines$Mill", "derive", "(IJIJ)J"⟩, "", (0, 0), (0, 0), (0, 0))]
def aLV_7 : List (am_vE) := aLV_7_0
def aLV_8_0 : List (am_vE) := []
def aLV_8 : List (am_vE) := aLV_8_0
def aLV_9_0 : List (am_vE) := [((13, 8), 200, 1, (6, 116), (17, 38), (6, 114), some (none), ⟨"SecureLines$Serve\x72", "may", "(I)Z"⟩, "", (0, 0), (0, 0), (0, 0)), ((17, 8), 201, 1, (6, 120), (17, 39), (6, 118), some (none), ⟨"SecureLines$Serve\x72", "checkHello", "(I)I"⟩, "", (0, 0), (0, 0), (0, 0)), ((21, 8), 191, 2, (6, 67), (6, 174), (6, 172), none, ⟨"SecureLines$Serve\x72", "checkProof", "(II)I"⟩, "SecureLines$Side", (6, 173), (6, 65), (0, 0)), ((29, 8), 196, 2, (6, 99), (6, 177), (6, 175), none, ⟨"SecureLines$Serve\x72", "checkEnd", "(IJ)I"⟩, "SecureLines$Side", (6, 176), (6, 97), (0, 0)), ((33, 8), 198, 1, (6, 109), (6, 180), (6, 178), none, ⟨"SecureLines$Serve\x72", "checkNewKeys", "(I)I"⟩, "SecureLines$Side", (6, 179), (6, 107), (0, 0)), ((75, 2), 183, 4, (6, 26), (6, 27), (6, 122), some (none), ⟨"SecureLines$Fields", "read", "([IIII)I"⟩, "", (0, 0), (0, 0), (0, 0)), ((81, 2), 202, 2, (6, 124), (6, 125), (6, 123), some (none), ⟨"SecureLines$Fields", "tells", "(II)Z"⟩, "", (0, 0), (0, 0), (0, 0)), ((88, 8), 203, 1, (6, 129), (17, 40), (6, 127), some (none), ⟨"SecureLines$Serve\x72", "isAgain", "(LSecureLines$Fields;)Z"⟩, "", (0, 0), (0, 0), (0, 0)), ((92, 2), 153, 1, (5, 107), (5, 108), (6, 138), some (none), ⟨"SecureLines$Fields", "has", "(I)Z"⟩, "", (0, 0), (0, 0), (0, 0)), ((98, 1), 205, 3, (6, 142), (6, 143), (6, 141), some (none), ⟨"SecureLines$End", "firstIn", "(ILSecureLines$Fields;I)I"⟩, "", (0, 0), (0, 0), (0, 0)), ((109, 8), 206, 1, (6, 148), (17, 41), (6, 146), some (none), ⟨"SecureLines$Serve\x72", "findUsed", "(LSecureLines$Fields;)V"⟩, "", (0, 0), (0, 0), (0, 0)), ((124, 8), 159, 4, (5, 135), (6, 163), (6, 161), none, ⟨"SecureLines$Serve\x72", "binde\x72", "(IJ[II)J"⟩, "SecureLines$Side", (6, 162), (5, 133), (0, 0)), ((131, 7), 195, 1, (6, 89), (6, 90), (6, 137), some (none), ⟨"SecureLines$Row", "secretAt", "(I)J"⟩, "", (0, 0), (0, 0), (0, 0)), ((135, 8), 209, 1, (6, 166), (17, 42), (6, 164), some (none), ⟨"SecureLines$Serve\x72", "checkWays", "(LSecureLines$Fields;)I"⟩, "", (0, 0), (0, 0), (0, 0)), ((142, 2), 156, 2, (5, 119), (5, 120), (6, 140), some (none), ⟨"SecureLines$Fields", "byteOf", "(II)I"⟩, "", (0, 0), (0, 0), (0, 0)), ((148, 1), 141, 0, (5, 43), (5, 44), (6, 168), some (none), ⟨"SecureLines$End", "drawSecret", "()J"⟩, "", (0, 0), (0, 0), (0, 0)), ((158, 1), 151, 0, (5, 96), (5, 97), (6, 169), some (none), ⟨"SecureLines$End", "drawNumbe\x72", "()I"⟩, "", (0, 0), (0, 0), (0, 0)), ((169, 2), 155, 2, (5, 115), (5, 116), (6, 170), some (none), ⟨"SecureLines$Fields", "fourOf", "(II)I"⟩, "", (0, 0), (0, 0), (0, 0)), ((172, 4), 45, 3, (2, 24), (2, 25), (6, 171), some (none), ⟨"SecureLines$Mill", "jointOf", "(III)J"⟩, "", (0, 0), (0, 0), (0, 0)), ((184, 2), 204, 2, (6, 132), (6, 133), (6, 131), some (none), ⟨"SecureLines$Fields", "isSame", "(ILSecureLines$Fields;)Z"⟩, "", (0, 0), (0, 0), (0, 0)), ((188, 2), 154, 2, (5, 111), (5, 112), (6, 139), some (none), ⟨"SecureLines$Fields", "secretOf", "(II)J"⟩, "", (0, 0), (0, 0), (0, 0)), ((198, 7), 11, 1, (1, 112), (1, 113), (6, 150), some (none), ⟨"SecureLines$Row", "at", "(I)I"⟩, "", (0, 0), (0, 0), (0, 0)), ((207, 1), 207, 5, (6, 153), (6, 154), (6, 152), some (none), ⟨"SecureLines$End", "known", "([IIIII)LSecureLines$Shared;"⟩, "", (0, 0), (0, 0), (0, 0)), ((233, 8), 163, 3, (5, 157), (7, 148), (7, 146), none, ⟨"SecureLines$Serve\x72", "note", "(I[II)V"⟩, "SecureLines$Side", (7, 147), (7, 4), (0, 0)), ((240, 8), 246, 1, (7, 151), (17, 52), (7, 149), some (none), ⟨"SecureLines$Serve\x72", "buildRetry", "(I)V"⟩, "", (0, 0), (0, 0), (0, 0)), ((244, 8), 162, 0, (5, 152), (7, 169), (7, 167), none, ⟨"SecureLines$Serve\x72", "send", "()V"⟩, "SecureLines$Side", (7, 168), (5, 150), (0, 0)), ((248, 8), 192, 0, (6, 71), (7, 173), (7, 170), none, ⟨"SecureLines$Serve\x72", "digestNow", "()J"⟩, "SecureLines$Side", (7, 171), (7, 172), (0, 0)), ((251, 8), 247, 0, (7, 176), (17, 53), (7, 174), some (none), ⟨"SecureLines$Serve\x72", "buildAnswe\x72", "()V"⟩, "", (0, 0), (0, 0), (0, 0)), ((254, 8), 222, 2, (7, 10), (7, 182), (7, 180), none, ⟨"SecureLines$Serve\x72", "makeHand", "(JJ)V"⟩, "SecureLines$Side", (7, 181), (7, 8), (0, 0)), ((258, 8), 248, 1, (7, 185), (17, 54), (7, 183), some (none), ⟨"SecureLines$Serve\x72", "startKeys", "(J)V"⟩, "", (0, 0), (0, 0), (0, 0))]
def aLV_9_1 : List (am_vE) := [((262, 8), 250, 0, (7, 205), (17, 56), (7, 203), some (none), ⟨"SecureLines$Serve\x72", "buildBeginning", "()V"⟩, "", (0, 0), (0, 0), (0, 0)), ((268, 8), 251, 0, (7, 209), (17, 57), (7, 207), some (none), ⟨"SecureLines$Serve\x72", "buildAsking", "()V"⟩, "", (0, 0), (0, 0), (0, 0)), ((278, 3), 252, 1, (7, 215), (7, 216), (7, 214), some (none), ⟨"SecureLines$House", "answerOf", "(LSecureLines$Paper;)LSecureLines$Paper;"⟩, "", (0, 0), (0, 0), (0, 0)), ((282, 8), 232, 2, (7, 66), (7, 220), (7, 218), none, ⟨"SecureLines$Serve\x72", "buildChain", "(ILSecureLines$Paper;)V"⟩, "SecureLines$Side", (7, 219), (7, 64), (0, 0)), ((286, 8), 233, 2, (7, 73), (7, 223), (7, 221), none, ⟨"SecureLines$Serve\x72", "buildProof", "(II)V"⟩, "SecureLines$Side", (7, 222), (7, 71), (0, 0)), ((293, 8), 234, 1, (7, 80), (7, 226), (7, 224), none, ⟨"SecureLines$Serve\x72", "buildEnd", "(J)V"⟩, "SecureLines$Side", (7, 225), (7, 78), (0, 0)), ((296, 8), 230, 0, (7, 56), (7, 229), (7, 227), none, ⟨"SecureLines$Serve\x72", "makeMaste\x72", "()J"⟩, "SecureLines$Side", (7, 228), (7, 54), (0, 0)), ((299, 8), 166, 2, (5, 187), (7, 196), (7, 194), none, ⟨"SecureLines$Serve\x72", "writeBy", "(JI)V"⟩, "SecureLines$Side", (7, 195), (5, 185), (0, 0)), ((303, 8), 235, 0, (7, 86), (7, 232), (7, 230), none, ⟨"SecureLines$Serve\x72", "makeNext", "()V"⟩, "SecureLines$Side", (7, 231), (7, 84), (0, 0)), ((309, 8), 226, 1, (7, 32), (7, 202), (7, 200), none, ⟨"SecureLines$Serve\x72", "readBy", "(J)V"⟩, "SecureLines$Side", (7, 201), (7, 30), (0, 0)), ((312, 8), 253, 1, (7, 235), (17, 58), (7, 233), some (none), ⟨"SecureLines$Serve\x72", "buildTicket", "(I)V"⟩, "", (0, 0), (0, 0), (0, 0)), ((315, 8), 238, 0, (7, 108), (8, 16), (8, 14), none, ⟨"SecureLines$Serve\x72", "takeNewKeys", "()Z"⟩, "SecureLines$Side", (8, 15), (7, 106), (0, 0)), ((319, 8), 239, 1, (7, 115), (8, 19), (8, 17), none, ⟨"SecureLines$Serve\x72", "buildNewKeys", "(I)V"⟩, "SecureLines$Side", (8, 18), (7, 113), (0, 0)), ((322, 8), 240, 0, (7, 121), (8, 22), (8, 20), none, ⟨"SecureLines$Serve\x72", "turnWriting", "()V"⟩, "SecureLines$Side", (8, 21), (7, 119), (0, 0)), ((325, 8), 256, 1, (8, 25), (17, 59), (8, 23), some (none), ⟨"SecureLines$Serve\x72", "takeShown", "(I)V"⟩, "", (0, 0), (0, 0), (0, 0)), ((331, 8), 221, 0, (6, 238), (7, 155), (7, 153), none, ⟨"SecureLines$Serve\x72", "shorten", "()V"⟩, "SecureLines$Side", (7, 154), (6, 236), (0, 0)), ((336, 7), 13, 3, (1, 120), (1, 121), (7, 158), some (none), ⟨"SecureLines$Row", "take", "([III)V"⟩, "", (0, 0), (0, 0), (0, 0)), ((340, 4), 17, 4, (1, 139), (1, 140), (7, 159), some (none), ⟨"SecureLines$Mill", "digestOf", "(I[III)J"⟩, "", (0, 0), (0, 0), (0, 0)), ((344, 4), 29, 4, (1, 192), (1, 193), (7, 160), some (none), ⟨"SecureLines$Mill", "derive", "(IJIJ)J"⟩, "", (0, 0), (0, 0), (0, 0)), ((348, 8), 148, 1, (5, 78), (7, 163), (7, 161), none, ⟨"SecureLines$Serve\x72", "begin", "(I)LSecureLines$Row;"⟩, "SecureLines$Side", (7, 162), (5, 76), (0, 0)), ((352, 7), 7, 1, (1, 83), (1, 84), (7, 164), some (none), ⟨"SecureLines$Row", "put", "(I)V"⟩, "", (0, 0), (0, 0), (0, 0)), ((355, 7), 149, 1, (5, 83), (5, 84), (7, 165), some (none), ⟨"SecureLines$Row", "putTwo", "(I)V"⟩, "", (0, 0), (0, 0), (0, 0)), ((358, 7), 66, 1, (2, 112), (2, 113), (7, 166), some (none), ⟨"SecureLines$Row", "putSecret", "(J)V"⟩, "", (0, 0), (0, 0), (0, 0)), ((361, 4), 41, 2, (2, 5), (2, 6), (7, 178), some (none), ⟨"SecureLines$Mill", "groupPoint", "(II)I"⟩, "", (0, 0), (0, 0), (0, 0)), ((364, 7), 152, 1, (5, 102), (5, 103), (7, 179), some (none), ⟨"SecureLines$Row", "putFou\x72", "(I)V"⟩, "", (0, 0), (0, 0), (0, 0)), ((367, 8), 249, 1, (7, 189), (17, 55), (7, 187), some (none), ⟨"SecureLines$Serve\x72", "isEarlyTaken", "(LSecureLines$Fields;)Z"⟩, "", (0, 0), (0, 0), (0, 0)), ((377, 8), 224, 3, (7, 19), (7, 199), (7, 197), none, ⟨"SecureLines$Serve\x72", "derive", "(JIJ)J"⟩, "SecureLines$Side", (7, 198), (7, 95), (0, 0)), ((380, 8), 150, 3, (5, 93), (7, 213), (7, 211), none, ⟨"SecureLines$Serve\x72", "putOffers", "(LSecureLines$Row;II)V"⟩, "SecureLines$Side", (7, 212), (5, 91), (0, 0)), ((390, 1), 254, 1, (7, 238), (7, 239), (7, 237), some (none), ⟨"SecureLines$End", "nextTicket", "(LSecureLines$Mill;)J"⟩, "", (0, 0), (0, 0), (0, 0)), ((397, 7), 23, 0, (1, 165), (1, 166), (8, 2), some (none), ⟨"SecureLines$Row", "clea\x72", "()V"⟩, "", (0, 0), (0, 0), (0, 0))]
def aLV_9_2 : List (am_vE) := [((400, 8), 193, 0, (6, 77), (8, 6), (8, 4), none, ⟨"SecureLines$Serve\x72", "hash", "()I"⟩, "SecureLines$Side", (8, 5), (7, 46), (0, 0)), ((406, 9), 237, 4, (7, 100), (7, 101), (8, 8), some (none), ⟨"SecureLines$Shared", "becomeTicket", "(IIII)V"⟩, "", (0, 0), (0, 0), (0, 0)), ((410, 1), 255, 1, (8, 10), (8, 11), (8, 9), some (none), ⟨"SecureLines$End", "note", "(LSecureLines$Shared;)V"⟩, "", (0, 0), (0, 0), (0, 0)), ((328, 8), 244, 0, (7, 141), (8, 29), (8, 27), none, ⟨"SecureLines$Serve\x72", "takeChain", "()V"⟩, "SecureLines$Side", (8, 28), (7, 139), (0, 0))]
def aLV_9 : List (am_vE) := aLV_9_0 ++ (aLV_9_1 ++ (aLV_9_2))
def aLV_10_0 : List (am_vE) := [((52, 4), 18, 1, (1, 143), (1, 144), (4, 70), some (none), ⟨"SecureLines$Mill", "start", "(I)V"⟩, "", (0, 0), (0, 0), (0, 0)), ((89, 7), 23, 0, (1, 165), (1, 166), (5, 80), some (none), ⟨"SecureLines$Row", "clea\x72", "()V"⟩, "", (0, 0), (0, 0), (0, 0)), ((168, 7), 7, 1, (1, 83), (1, 84), (5, 81), some (none), ⟨"SecureLines$Row", "put", "(I)V"⟩, "", (0, 0), (0, 0), (0, 0)), ((171, 7), 149, 1, (5, 83), (5, 84), (5, 82), some (none), ⟨"SecureLines$Row", "putTwo", "(I)V"⟩, "", (0, 0), (0, 0), (0, 0)), ((238, 4), 160, 3, (5, 138), (5, 139), (5, 137), some (none), ⟨"SecureLines$Mill", "keyedSecret", "(IJJ)J"⟩, "", (0, 0), (0, 0), (0, 0)), ((187, 4), 29, 4, (1, 192), (1, 193), (5, 141), some (none), ⟨"SecureLines$Mill", "derive", "(IJIJ)J"⟩, "", (0, 0), (0, 0), (0, 0)), ((218, 4), 161, 1, (5, 143), (5, 144), (5, 142), some (none), ⟨"SecureLines$Mill", "follow", "(LSecureLines$Mill;)V"⟩, "", (0, 0), (0, 0), (0, 0)), ((217, 4), 19, 3, (1, 147), (1, 148), (5, 146), some (none), ⟨"SecureLines$Mill", "take", "([III)V"⟩, "", (0, 0), (0, 0), (0, 0)), ((222, 4), 21, 0, (1, 155), (1, 156), (5, 147), some (none), ⟨"SecureLines$Mill", "finish", "()J"⟩, "", (0, 0), (0, 0), (0, 0)), ((59, 7), 11, 1, (1, 112), (1, 113), (5, 155), some (none), ⟨"SecureLines$Row", "at", "(I)I"⟩, "", (0, 0), (0, 0), (0, 0)), ((213, 0), 163, 3, (5, 157), (5, 159), (5, 156), some (none), ⟨"SecureLines$Side", "note", "(I[II)V"⟩, "", (0, 0), (0, 0), (0, 0)), ((213, 8), 163, 3, (5, 157), (5, 160), (5, 156), some (none), ⟨"SecureLines$Side", "note", "(I[II)V"⟩, "", (0, 0), (0, 0), (0, 0)), ((202, 0), 164, 4, (5, 164), (5, 166), (5, 163), some (none), ⟨"SecureLines$Side", "put", "(I[III)V"⟩, "", (0, 0), (0, 0), (0, 0)), ((202, 8), 164, 4, (5, 164), (5, 167), (5, 163), some (none), ⟨"SecureLines$Side", "put", "(I[III)V"⟩, "", (0, 0), (0, 0), (0, 0)), ((75, 7), 13, 3, (1, 120), (1, 121), (5, 170), some (none), ⟨"SecureLines$Row", "take", "([III)V"⟩, "", (0, 0), (0, 0), (0, 0)), ((183, 4), 34, 5, (1, 212), (17, 4), (5, 172), some (some "SecureLines"), ⟨"SecureLines$Mill", "stream", "(JJ[III)V"⟩, "", (0, 0), (0, 0), (0, 0)), ((191, 4), 35, 5, (1, 216), (17, 5), (5, 173), some (some "SecureLines"), ⟨"SecureLines$Mill", "tag", "(IJLSecureLines$Row;II)J"⟩, "", (0, 0), (0, 0), (0, 0)), ((195, 7), 37, 2, (1, 222), (1, 223), (5, 174), some (none), ⟨"SecureLines$Row", "putHighest", "(JI)V"⟩, "", (0, 0), (0, 0), (0, 0)), ((66, 7), 171, 1, (5, 213), (5, 214), (5, 212), some (none), ⟨"SecureLines$Row", "twoAt", "(I)I"⟩, "", (0, 0), (0, 0), (0, 0)), ((82, 8), 172, 0, (5, 219), (19, 0), (5, 217), some (none), ⟨"SecureLines$Side", "headFault", "()I"⟩, "", (0, 0), (0, 0), (0, 0)), ((82, 0), 172, 0, (5, 219), (19, 1), (5, 217), some (none), ⟨"SecureLines$Side", "headFault", "()I"⟩, "", (0, 0), (0, 0), (0, 0)), ((86, 8), 173, 0, (5, 223), (19, 2), (5, 221), some (none), ⟨"SecureLines$Side", "takeRecord", "()I"⟩, "", (0, 0), (0, 0), (0, 0)), ((86, 0), 173, 0, (5, 223), (19, 3), (5, 221), some (none), ⟨"SecureLines$Side", "takeRecord", "()I"⟩, "", (0, 0), (0, 0), (0, 0)), ((92, 8), 179, 0, (6, 9), (19, 10), (6, 7), some (none), ⟨"SecureLines$Side", "firstMessage", "()I"⟩, "", (0, 0), (0, 0), (0, 0)), ((92, 0), 179, 0, (6, 9), (19, 11), (6, 7), some (none), ⟨"SecureLines$Side", "firstMessage", "()I"⟩, "", (0, 0), (0, 0), (0, 0)), ((95, 0), 180, 2, (6, 15), (6, 14), (6, 11), none, ⟨"SecureLines$Side", "check", "(II)I"⟩, "SecureLines$Side", (6, 13), (6, 12), (0, 0)), ((95, 8), 199, 2, (6, 112), (6, 111), (6, 11), none, ⟨"SecureLines$Side", "check", "(II)I"⟩, "SecureLines$Side", (6, 13), (6, 12), (0, 0)), ((98, 8), 210, 1, (6, 183), (19, 16), (6, 181), some (none), ⟨"SecureLines$Side", "checkChain", "(I)I"⟩, "", (0, 0), (0, 0), (0, 0)), ((98, 0), 210, 1, (6, 183), (19, 17), (6, 181), some (none), ⟨"SecureLines$Side", "checkChain", "(I)I"⟩, "", (0, 0), (0, 0), (0, 0)), ((115, 3), 102, 3, (3, 17), (3, 18), (6, 199), some (none), ⟨"SecureLines$House", "why", "(LSecureLines$End;II)I"⟩, "", (0, 0), (0, 0), (0, 0))]
def aLV_10_1 : List (am_vE) := [((119, 0), 214, 1, (6, 204), (6, 203), (6, 200), none, ⟨"SecureLines$Side", "chainFault", "(I)I"⟩, "SecureLines$Side", (6, 202), (6, 201), (0, 0)), ((119, 8), 217, 1, (6, 215), (6, 214), (6, 200), none, ⟨"SecureLines$Side", "chainFault", "(I)I"⟩, "SecureLines$Side", (6, 202), (6, 201), (0, 0)), ((122, 0), 218, 1, (6, 223), (6, 222), (6, 219), none, ⟨"SecureLines$Side", "turnsKey", "(I)Z"⟩, "SecureLines$Side", (6, 221), (6, 220), (0, 0)), ((122, 8), 219, 1, (6, 226), (6, 225), (6, 219), none, ⟨"SecureLines$Side", "turnsKey", "(I)Z"⟩, "SecureLines$Side", (6, 221), (6, 220), (0, 0)), ((126, 0), 220, 2, (6, 232), (6, 231), (6, 228), none, ⟨"SecureLines$Side", "act", "(II)V"⟩, "SecureLines$Side", (6, 230), (6, 229), (0, 0)), ((126, 8), 245, 2, (7, 144), (7, 143), (6, 228), none, ⟨"SecureLines$Side", "act", "(II)V"⟩, "SecureLines$Side", (6, 230), (6, 229), (0, 0)), ((63, 7), 144, 1, (5, 56), (5, 57), (8, 30), some (none), ⟨"SecureLines$Row", "drop", "(I)V"⟩, "", (0, 0), (0, 0), (0, 0)), ((130, 0), 257, 1, (8, 32), (8, 34), (8, 31), some (none), ⟨"SecureLines$Side", "putAlert", "(I)V"⟩, "", (0, 0), (0, 0), (0, 0)), ((130, 8), 257, 1, (8, 32), (8, 35), (8, 31), some (none), ⟨"SecureLines$Side", "putAlert", "(I)V"⟩, "", (0, 0), (0, 0), (0, 0)), ((139, 8), 174, 0, (5, 227), (19, 4), (5, 225), some (none), ⟨"SecureLines$Side", "opens", "()Z"⟩, "", (0, 0), (0, 0), (0, 0)), ((139, 0), 174, 0, (5, 227), (19, 5), (5, 225), some (none), ⟨"SecureLines$Side", "opens", "()Z"⟩, "", (0, 0), (0, 0), (0, 0)), ((146, 8), 175, 1, (5, 232), (19, 6), (5, 230), some (none), ⟨"SecureLines$Side", "hearAll", "(I)I"⟩, "", (0, 0), (0, 0), (0, 0)), ((146, 0), 175, 1, (5, 232), (19, 7), (5, 230), some (none), ⟨"SecureLines$Side", "hearAll", "(I)I"⟩, "", (0, 0), (0, 0), (0, 0)), ((149, 8), 178, 1, (6, 5), (19, 8), (6, 3), some (none), ⟨"SecureLines$Side", "takeAlert", "(I)I"⟩, "", (0, 0), (0, 0), (0, 0)), ((149, 0), 178, 1, (6, 5), (19, 9), (6, 3), some (none), ⟨"SecureLines$Side", "takeAlert", "(I)I"⟩, "", (0, 0), (0, 0), (0, 0)), ((159, 4), 39, 5, (1, 231), (1, 232), (5, 229), some (none), ⟨"SecureLines$Mill", "opens", "(IJJLSecureLines$Row;I)Z"⟩, "", (0, 0), (0, 0), (0, 0)), ((162, 0), 176, 1, (5, 238), (5, 237), (5, 234), none, ⟨"SecureLines$Side", "mayHea\x72", "(I)Z"⟩, "SecureLines$Side", (5, 236), (5, 235), (0, 0)), ((162, 8), 177, 1, (6, 1), (6, 0), (5, 234), none, ⟨"SecureLines$Side", "mayHea\x72", "(I)Z"⟩, "SecureLines$Side", (5, 236), (5, 235), (0, 0)), ((330, 1), 187, 2, (6, 44), (6, 45), (6, 69), some (none), ⟨"SecureLines$End", "offers", "(II)Z"⟩, "", (0, 0), (0, 0), (0, 0)), ((248, 0), 192, 0, (6, 71), (6, 73), (6, 70), some (none), ⟨"SecureLines$Side", "digestNow", "()J"⟩, "", (0, 0), (0, 0), (0, 0)), ((248, 8), 192, 0, (6, 71), (6, 74), (6, 70), some (none), ⟨"SecureLines$Side", "digestNow", "()J"⟩, "", (0, 0), (0, 0), (0, 0)), ((285, 8), 194, 2, (6, 85), (19, 12), (6, 83), some (none), ⟨"SecureLines$Side", "proven", "(IJ)LSecureLines$Row;"⟩, "", (0, 0), (0, 0), (0, 0)), ((285, 0), 194, 2, (6, 85), (19, 13), (6, 83), some (none), ⟨"SecureLines$Side", "proven", "(IJ)LSecureLines$Row;"⟩, "", (0, 0), (0, 0), (0, 0)), ((336, 7), 195, 1, (6, 89), (6, 90), (6, 88), some (none), ⟨"SecureLines$Row", "secretAt", "(I)J"⟩, "", (0, 0), (0, 0), (0, 0)), ((339, 4), 54, 6, (2, 66), (2, 67), (6, 94), some (none), ⟨"SecureLines$Mill", "proves", "(IIJ[III)Z"⟩, "", (0, 0), (0, 0), (0, 0)), ((226, 0), 193, 0, (6, 77), (6, 79), (6, 76), some (none), ⟨"SecureLines$Side", "hash", "()I"⟩, "", (0, 0), (0, 0), (0, 0)), ((226, 8), 193, 0, (6, 77), (6, 80), (6, 76), some (none), ⟨"SecureLines$Side", "hash", "()I"⟩, "", (0, 0), (0, 0), (0, 0)), ((229, 0), 165, 1, (5, 180), (16, 82), (6, 82), some (none), ⟨"SecureLines$Side", "digestBy", "(I)J"⟩, "", (0, 0), (0, 0), (0, 0)), ((229, 8), 165, 1, (5, 180), (16, 83), (6, 82), some (none), ⟨"SecureLines$Side", "digestBy", "(I)J"⟩, "", (0, 0), (0, 0), (0, 0)), ((284, 7), 66, 1, (2, 112), (2, 113), (6, 87), some (none), ⟨"SecureLines$Row", "putSecret", "(J)V"⟩, "", (0, 0), (0, 0), (0, 0))]
def aLV_10_2 : List (am_vE) := [((296, 8), 197, 2, (6, 103), (19, 14), (6, 101), some (none), ⟨"SecureLines$Side", "endBy", "(JJ)J"⟩, "", (0, 0), (0, 0), (0, 0)), ((296, 0), 197, 2, (6, 103), (19, 15), (6, 101), some (none), ⟨"SecureLines$Side", "endBy", "(JJ)J"⟩, "", (0, 0), (0, 0), (0, 0)), ((299, 8), 211, 1, (6, 187), (19, 18), (6, 185), some (none), ⟨"SecureLines$Side", "isChain", "(I)Z"⟩, "", (0, 0), (0, 0), (0, 0)), ((299, 0), 211, 1, (6, 187), (19, 19), (6, 185), some (none), ⟨"SecureLines$Side", "isChain", "(I)Z"⟩, "", (0, 0), (0, 0), (0, 0)), ((312, 6), 70, 4, (2, 128), (2, 129), (6, 190), some (none), ⟨"SecureLines$Pape\x72", "read", "(I[III)Z"⟩, "", (0, 0), (0, 0), (0, 0)), ((326, 3), 212, 2, (6, 192), (6, 193), (6, 191), some (none), ⟨"SecureLines$House", "lineUp", "(LSecureLines$End;I)I"⟩, "", (0, 0), (0, 0), (0, 0)), ((233, 4), 30, 1, (1, 196), (1, 197), (7, 0), some (none), ⟨"SecureLines$Mill", "put", "(I)V"⟩, "", (0, 0), (0, 0), (0, 0)), ((234, 4), 31, 1, (1, 200), (1, 201), (7, 1), some (none), ⟨"SecureLines$Mill", "putSecret", "(J)V"⟩, "", (0, 0), (0, 0), (0, 0)), ((242, 0), 223, 2, (7, 13), (7, 15), (7, 12), some (none), ⟨"SecureLines$Side", "keyedSecret", "(JJ)J"⟩, "", (0, 0), (0, 0), (0, 0)), ((242, 8), 223, 2, (7, 13), (7, 16), (7, 12), some (none), ⟨"SecureLines$Side", "keyedSecret", "(JJ)J"⟩, "", (0, 0), (0, 0), (0, 0)), ((245, 0), 224, 3, (7, 19), (7, 21), (7, 18), some (none), ⟨"SecureLines$Side", "derive", "(JIJ)J"⟩, "", (0, 0), (0, 0), (0, 0)), ((245, 8), 224, 3, (7, 19), (7, 22), (7, 18), some (none), ⟨"SecureLines$Side", "derive", "(JIJ)J"⟩, "", (0, 0), (0, 0), (0, 0)), ((264, 0), 148, 1, (5, 78), (16, 89), (7, 68), some (none), ⟨"SecureLines$Side", "begin", "(I)LSecureLines$Row;"⟩, "", (0, 0), (0, 0), (0, 0)), ((264, 8), 148, 1, (5, 78), (16, 90), (7, 68), some (none), ⟨"SecureLines$Side", "begin", "(I)LSecureLines$Row;"⟩, "", (0, 0), (0, 0), (0, 0)), ((292, 4), 51, 5, (2, 49), (2, 50), (7, 75), some (none), ⟨"SecureLines$Mill", "signed", "(II[III)J"⟩, "", (0, 0), (0, 0), (0, 0)), ((343, 0), 226, 1, (7, 32), (16, 92), (7, 110), some (none), ⟨"SecureLines$Side", "readBy", "(J)V"⟩, "", (0, 0), (0, 0), (0, 0)), ((343, 8), 226, 1, (7, 32), (16, 93), (7, 110), some (none), ⟨"SecureLines$Side", "readBy", "(J)V"⟩, "", (0, 0), (0, 0), (0, 0)), ((268, 0), 166, 2, (5, 187), (16, 95), (7, 123), some (none), ⟨"SecureLines$Side", "writeBy", "(JI)V"⟩, "", (0, 0), (0, 0), (0, 0)), ((268, 8), 166, 2, (5, 187), (16, 96), (7, 123), some (none), ⟨"SecureLines$Side", "writeBy", "(JI)V"⟩, "", (0, 0), (0, 0), (0, 0))]
def aLV_10 : List (am_vE) := aLV_10_0 ++ (aLV_10_1 ++ (aLV_10_2))
def aLV_11_0 : List (am_vE) := [((25, 1), 141, 0, (5, 43), (5, 44), (5, 42), some (none), ⟨"SecureLines$End", "drawSecret", "()J"⟩, "", (0, 0), (0, 0), (0, 0)), ((33, 0), 145, 0, (5, 63), (17, 26), (5, 61), some (none), ⟨"SecureLines$Client", "gathe\x72", "()V"⟩, "", (0, 0), (0, 0), (0, 0)), ((64, 0), 147, 2, (5, 72), (17, 27), (5, 70), some (none), ⟨"SecureLines$Client", "buildHello", "(ILSecureLines$Fields;)V"⟩, "", (0, 0), (0, 0), (0, 0)), ((68, 0), 157, 0, (5, 125), (17, 28), (5, 123), some (none), ⟨"SecureLines$Client", "addShared", "()V"⟩, "", (0, 0), (0, 0), (0, 0)), ((71, 0), 162, 0, (5, 152), (5, 151), (5, 148), none, ⟨"SecureLines$Client", "send", "()V"⟩, "SecureLines$Side", (5, 149), (5, 150), (0, 0)), ((90, 4), 160, 3, (5, 138), (5, 139), (5, 175), some (none), ⟨"SecureLines$Mill", "keyedSecret", "(IJJ)J"⟩, "", (0, 0), (0, 0), (0, 0)), ((96, 0), 165, 1, (5, 180), (5, 179), (5, 176), none, ⟨"SecureLines$Client", "digestBy", "(I)J"⟩, "SecureLines$Side", (5, 177), (5, 178), (0, 0)), ((100, 4), 29, 4, (1, 192), (1, 193), (5, 182), some (none), ⟨"SecureLines$Mill", "derive", "(IJIJ)J"⟩, "", (0, 0), (0, 0), (0, 0)), ((107, 0), 166, 2, (5, 187), (5, 186), (5, 183), none, ⟨"SecureLines$Client", "writeBy", "(JI)V"⟩, "SecureLines$Side", (5, 184), (5, 185), (0, 0)), ((114, 0), 164, 4, (5, 164), (5, 192), (5, 189), none, ⟨"SecureLines$Client", "put", "(I[III)V"⟩, "SecureLines$Side", (5, 190), (5, 191), (0, 0)), ((118, 7), 23, 0, (1, 165), (1, 166), (5, 193), some (none), ⟨"SecureLines$Row", "clea\x72", "()V"⟩, "", (0, 0), (0, 0), (0, 0)), ((127, 1), 146, 1, (5, 66), (5, 67), (5, 65), some (none), ⟨"SecureLines$End", "hashes", "(I)Z"⟩, "", (0, 0), (0, 0), (0, 0)), ((137, 0), 148, 1, (5, 78), (5, 77), (5, 74), none, ⟨"SecureLines$Client", "begin", "(I)LSecureLines$Row;"⟩, "SecureLines$Side", (5, 75), (5, 76), (0, 0)), ((141, 7), 66, 1, (2, 112), (2, 113), (5, 86), some (none), ⟨"SecureLines$Row", "putSecret", "(J)V"⟩, "", (0, 0), (0, 0), (0, 0)), ((147, 7), 7, 1, (1, 83), (1, 84), (5, 87), some (none), ⟨"SecureLines$Row", "put", "(I)V"⟩, "", (0, 0), (0, 0), (0, 0)), ((150, 7), 149, 1, (5, 83), (5, 84), (5, 88), some (none), ⟨"SecureLines$Row", "putTwo", "(I)V"⟩, "", (0, 0), (0, 0), (0, 0)), ((153, 0), 150, 3, (5, 93), (5, 92), (5, 89), none, ⟨"SecureLines$Client", "putOffers", "(LSecureLines$Row;II)V"⟩, "SecureLines$Side", (5, 90), (5, 91), (0, 0)), ((160, 1), 151, 0, (5, 96), (5, 97), (5, 95), some (none), ⟨"SecureLines$End", "drawNumbe\x72", "()I"⟩, "", (0, 0), (0, 0), (0, 0)), ((167, 4), 41, 2, (2, 5), (2, 6), (5, 100), some (none), ⟨"SecureLines$Mill", "groupPoint", "(II)I"⟩, "", (0, 0), (0, 0), (0, 0)), ((171, 7), 152, 1, (5, 102), (5, 103), (5, 101), some (none), ⟨"SecureLines$Row", "putFou\x72", "(I)V"⟩, "", (0, 0), (0, 0), (0, 0)), ((177, 7), 13, 3, (1, 120), (1, 121), (5, 105), some (none), ⟨"SecureLines$Row", "take", "([III)V"⟩, "", (0, 0), (0, 0), (0, 0)), ((181, 2), 153, 1, (5, 107), (5, 108), (5, 106), some (none), ⟨"SecureLines$Fields", "has", "(I)Z"⟩, "", (0, 0), (0, 0), (0, 0)), ((184, 2), 154, 2, (5, 111), (5, 112), (5, 110), some (none), ⟨"SecureLines$Fields", "secretOf", "(II)J"⟩, "", (0, 0), (0, 0), (0, 0)), ((204, 0), 159, 4, (5, 135), (5, 134), (5, 131), none, ⟨"SecureLines$Client", "binde\x72", "(IJ[II)J"⟩, "SecureLines$Side", (5, 132), (5, 133), (0, 0)), ((214, 0), 181, 1, (6, 19), (17, 31), (6, 17), some (none), ⟨"SecureLines$Client", "may", "(I)Z"⟩, "", (0, 0), (0, 0), (0, 0)), ((217, 0), 182, 1, (6, 23), (17, 32), (6, 21), some (none), ⟨"SecureLines$Client", "checkAnswe\x72", "(I)I"⟩, "", (0, 0), (0, 0), (0, 0)), ((221, 0), 188, 1, (6, 53), (17, 35), (6, 51), some (none), ⟨"SecureLines$Client", "checkRetry", "(I)I"⟩, "", (0, 0), (0, 0), (0, 0)), ((224, 0), 189, 1, (6, 57), (17, 36), (6, 55), some (none), ⟨"SecureLines$Client", "checkBeginning", "(I)I"⟩, "", (0, 0), (0, 0), (0, 0)), ((227, 0), 190, 1, (6, 61), (17, 37), (6, 59), some (none), ⟨"SecureLines$Client", "checkAsking", "(I)I"⟩, "", (0, 0), (0, 0), (0, 0)), ((230, 0), 191, 2, (6, 67), (6, 66), (6, 63), none, ⟨"SecureLines$Client", "checkProof", "(II)I"⟩, "SecureLines$Side", (6, 64), (6, 65), (0, 0))]
def aLV_11_1 : List (am_vE) := [((236, 0), 196, 2, (6, 99), (6, 98), (6, 95), none, ⟨"SecureLines$Client", "checkEnd", "(IJ)I"⟩, "SecureLines$Side", (6, 96), (6, 97), (0, 0)), ((240, 0), 198, 1, (6, 109), (6, 108), (6, 105), none, ⟨"SecureLines$Client", "checkNewKeys", "(I)I"⟩, "SecureLines$Side", (6, 106), (6, 107), (0, 0)), ((266, 2), 183, 4, (6, 26), (6, 27), (6, 25), some (none), ⟨"SecureLines$Fields", "read", "([IIII)I"⟩, "", (0, 0), (0, 0), (0, 0)), ((273, 7), 11, 1, (1, 112), (1, 113), (6, 42), some (none), ⟨"SecureLines$Row", "at", "(I)I"⟩, "", (0, 0), (0, 0), (0, 0)), ((276, 1), 187, 2, (6, 44), (6, 45), (6, 43), some (none), ⟨"SecureLines$End", "offers", "(II)Z"⟩, "", (0, 0), (0, 0), (0, 0)), ((282, 2), 156, 2, (5, 119), (5, 120), (6, 47), some (none), ⟨"SecureLines$Fields", "byteOf", "(II)I"⟩, "", (0, 0), (0, 0), (0, 0)), ((291, 2), 155, 2, (5, 115), (5, 116), (6, 49), some (none), ⟨"SecureLines$Fields", "fourOf", "(II)I"⟩, "", (0, 0), (0, 0), (0, 0)), ((294, 4), 45, 3, (2, 24), (2, 25), (6, 50), some (none), ⟨"SecureLines$Mill", "jointOf", "(III)J"⟩, "", (0, 0), (0, 0), (0, 0)), ((255, 6), 216, 3, (6, 211), (6, 212), (6, 210), some (none), ⟨"SecureLines$Pape\x72", "meets", "(I[II)Z"⟩, "", (0, 0), (0, 0), (0, 0)), ((298, 0), 221, 0, (6, 238), (6, 237), (6, 234), none, ⟨"SecureLines$Client", "shorten", "()V"⟩, "SecureLines$Side", (6, 235), (6, 236), (0, 0)), ((301, 0), 163, 3, (5, 157), (7, 5), (7, 2), none, ⟨"SecureLines$Client", "note", "(I[II)V"⟩, "SecureLines$Side", (7, 3), (7, 4), (0, 0)), ((305, 0), 222, 2, (7, 10), (7, 9), (7, 6), none, ⟨"SecureLines$Client", "makeHand", "(JJ)V"⟩, "SecureLines$Side", (7, 7), (7, 8), (0, 0)), ((309, 0), 225, 0, (7, 26), (17, 44), (7, 24), some (none), ⟨"SecureLines$Client", "takeAnswe\x72", "()V"⟩, "", (0, 0), (0, 0), (0, 0)), ((312, 0), 227, 0, (7, 36), (17, 45), (7, 34), some (none), ⟨"SecureLines$Client", "takeRetry", "()V"⟩, "", (0, 0), (0, 0), (0, 0)), ((315, 0), 230, 0, (7, 56), (7, 55), (7, 52), none, ⟨"SecureLines$Client", "makeMaste\x72", "()J"⟩, "SecureLines$Side", (7, 53), (7, 54), (0, 0)), ((318, 0), 226, 1, (7, 32), (7, 31), (7, 28), none, ⟨"SecureLines$Client", "readBy", "(J)V"⟩, "SecureLines$Side", (7, 29), (7, 30), (0, 0)), ((327, 0), 231, 0, (7, 60), (17, 47), (7, 58), some (none), ⟨"SecureLines$Client", "provingScheme", "()I"⟩, "", (0, 0), (0, 0), (0, 0)), ((333, 0), 232, 2, (7, 66), (7, 65), (7, 62), none, ⟨"SecureLines$Client", "buildChain", "(ILSecureLines$Paper;)V"⟩, "SecureLines$Side", (7, 63), (7, 64), (0, 0)), ((337, 0), 233, 2, (7, 73), (7, 72), (7, 69), none, ⟨"SecureLines$Client", "buildProof", "(II)V"⟩, "SecureLines$Side", (7, 70), (7, 71), (0, 0)), ((341, 0), 234, 1, (7, 80), (7, 79), (7, 76), none, ⟨"SecureLines$Client", "buildEnd", "(J)V"⟩, "SecureLines$Side", (7, 77), (7, 78), (0, 0)), ((344, 0), 235, 0, (7, 86), (7, 85), (7, 82), none, ⟨"SecureLines$Client", "makeNext", "()V"⟩, "SecureLines$Side", (7, 83), (7, 84), (0, 0)), ((350, 0), 236, 0, (7, 90), (17, 48), (7, 88), some (none), ⟨"SecureLines$Client", "takeTicket", "()V"⟩, "", (0, 0), (0, 0), (0, 0)), ((353, 0), 238, 0, (7, 108), (7, 107), (7, 104), none, ⟨"SecureLines$Client", "takeNewKeys", "()Z"⟩, "SecureLines$Side", (7, 105), (7, 106), (0, 0)), ((357, 0), 239, 1, (7, 115), (7, 114), (7, 111), none, ⟨"SecureLines$Client", "buildNewKeys", "(I)V"⟩, "SecureLines$Side", (7, 112), (7, 113), (0, 0)), ((360, 0), 240, 0, (7, 121), (7, 120), (7, 117), none, ⟨"SecureLines$Client", "turnWriting", "()V"⟩, "SecureLines$Side", (7, 118), (7, 119), (0, 0)), ((363, 0), 241, 1, (7, 126), (17, 49), (7, 124), some (none), ⟨"SecureLines$Client", "takeShown", "(I)V"⟩, "", (0, 0), (0, 0), (0, 0)), ((375, 0), 228, 0, (7, 42), (7, 41), (7, 38), none, ⟨"SecureLines$Client", "writeOpenly", "()V"⟩, "SecureLines$Side", (7, 39), (7, 40), (0, 0)), ((378, 0), 193, 0, (6, 77), (7, 47), (7, 44), none, ⟨"SecureLines$Client", "hash", "()I"⟩, "SecureLines$Side", (7, 45), (7, 46), (0, 0)), ((381, 0), 229, 1, (7, 50), (17, 46), (7, 48), some (none), ⟨"SecureLines$Client", "sift", "(I)V"⟩, "", (0, 0), (0, 0), (0, 0)), ((390, 7), 195, 1, (6, 89), (6, 90), (7, 92), some (none), ⟨"SecureLines$Row", "secretAt", "(I)J"⟩, "", (0, 0), (0, 0), (0, 0))]
def aLV_11_2 : List (am_vE) := [((397, 0), 224, 3, (7, 19), (7, 96), (7, 93), none, ⟨"SecureLines$Client", "derive", "(JIJ)J"⟩, "SecureLines$Side", (7, 94), (7, 95), (0, 0)), ((403, 7), 143, 1, (5, 51), (5, 52), (7, 98), some (none), ⟨"SecureLines$Row", "fourAt", "(I)I"⟩, "", (0, 0), (0, 0), (0, 0)), ((406, 9), 237, 4, (7, 100), (7, 101), (7, 99), some (none), ⟨"SecureLines$Shared", "becomeTicket", "(IIII)V"⟩, "", (0, 0), (0, 0), (0, 0)), ((410, 1), 130, 1, (4, 29), (4, 30), (7, 103), some (none), ⟨"SecureLines$End", "keep", "(LSecureLines$Shared;)V"⟩, "", (0, 0), (0, 0), (0, 0)), ((366, 0), 242, 0, (7, 130), (17, 50), (7, 128), some (none), ⟨"SecureLines$Client", "takeBeginning", "()V"⟩, "", (0, 0), (0, 0), (0, 0)), ((369, 0), 243, 0, (7, 134), (17, 51), (7, 132), some (none), ⟨"SecureLines$Client", "takeAsking", "()V"⟩, "", (0, 0), (0, 0), (0, 0)), ((372, 0), 244, 0, (7, 141), (7, 140), (7, 137), none, ⟨"SecureLines$Client", "takeChain", "()V"⟩, "SecureLines$Side", (7, 138), (7, 139), (0, 0)), ((387, 2), 202, 2, (6, 124), (6, 125), (7, 136), some (none), ⟨"SecureLines$Fields", "tells", "(II)Z"⟩, "", (0, 0), (0, 0), (0, 0))]
def aLV_11 : List (am_vE) := aLV_11_0 ++ (aLV_11_1 ++ (aLV_11_2))
def aLV_12_0 : List (am_vE) := [((78, 7), 13, 3, (1, 120), (1, 121), (8, 201), some (none), ⟨"SecureLines$Row", "take", "([III)V"⟩, "", (0, 0), (0, 0), (0, 0)), ((88, 7), 11, 1, (1, 112), (1, 113), (8, 195), some (none), ⟨"SecureLines$Row", "at", "(I)I"⟩, "", (0, 0), (0, 0), (0, 0)), ((108, 4), 29, 4, (1, 192), (1, 193), (8, 236), some (none), ⟨"SecureLines$Mill", "derive", "(IJIJ)J"⟩, "", (0, 0), (0, 0), (0, 0)), ((120, 5), 292, 3, (9, 15), (17, 63), (9, 13), some (none), ⟨"SecureLines$Office", "certificateFo\x72", "(III)LSecureLines$Row;"⟩, "", (0, 0), (0, 0), (0, 0)), ((124, 5), 297, 1, (9, 50), (17, 66), (9, 48), some (none), ⟨"SecureLines$Office", "sealed", "(LSecureLines$Row;)LSecureLines$Row;"⟩, "", (0, 0), (0, 0), (0, 0)), ((128, 3), 69, 2, (2, 124), (2, 125), (9, 53), some (none), ⟨"SecureLines$House", "hold", "(ILSecureLines$Row;)I"⟩, "", (0, 0), (0, 0), (0, 0)), ((136, 7), 23, 0, (1, 165), (1, 166), (9, 17), some (none), ⟨"SecureLines$Row", "clea\x72", "()V"⟩, "", (0, 0), (0, 0), (0, 0)), ((139, 7), 293, 1, (9, 19), (9, 20), (9, 18), some (none), ⟨"SecureLines$Row", "putNumbe\x72", "(I)V"⟩, "", (0, 0), (0, 0), (0, 0)), ((142, 5), 294, 1, (9, 27), (17, 64), (9, 25), some (none), ⟨"SecureLines$Office", "putIssue\x72", "(LSecureLines$Row;)V"⟩, "", (0, 0), (0, 0), (0, 0)), ((150, 7), 295, 4, (9, 32), (9, 33), (9, 31), some (none), ⟨"SecureLines$Row", "putNode", "(I[III)V"⟩, "", (0, 0), (0, 0), (0, 0)), ((154, 5), 296, 2, (9, 39), (17, 65), (9, 37), some (none), ⟨"SecureLines$Office", "putTimes", "(LSecureLines$Row;I)V"⟩, "", (0, 0), (0, 0), (0, 0)), ((158, 7), 65, 2, (2, 107), (2, 108), (9, 45), some (none), ⟨"SecureLines$Row", "putHeade\x72", "(II)V"⟩, "", (0, 0), (0, 0), (0, 0)), ((162, 7), 152, 1, (5, 102), (5, 103), (9, 46), some (none), ⟨"SecureLines$Row", "putFou\x72", "(I)V"⟩, "", (0, 0), (0, 0), (0, 0)), ((165, 7), 7, 1, (1, 83), (1, 84), (9, 47), some (none), ⟨"SecureLines$Row", "put", "(I)V"⟩, "", (0, 0), (0, 0), (0, 0)), ((169, 6), 92, 1, (2, 215), (2, 216), (9, 29), some (none), ⟨"SecureLines$Pape\x72", "start", "(I)I"⟩, "", (0, 0), (0, 0), (0, 0)), ((172, 6), 93, 1, (2, 219), (2, 220), (9, 30), some (none), ⟨"SecureLines$Pape\x72", "stop", "(I)I"⟩, "", (0, 0), (0, 0), (0, 0)), ((192, 3), 64, 4, (2, 101), (2, 102), (9, 52), some (none), ⟨"SecureLines$House", "wrapRow", "(LSecureLines$Row;IILSecureLines$Row;)V"⟩, "", (0, 0), (0, 0), (0, 0)), ((199, 5), 301, 1, (9, 68), (17, 67), (9, 66), some (none), ⟨"SecureLines$Office", "isRevoked", "(I)Z"⟩, "", (0, 0), (0, 0), (0, 0))]
def aLV_12 : List (am_vE) := aLV_12_0
def aLV_13_0 : List (am_vE) := [((592, 11), 327, 4, (12, 85), (17, 73), (12, 83), some (none), ⟨"SecureLinesModel", "digestOf", "(I[III)J"⟩, "", (0, 0), (0, 0), (0, 0)), ((568, 11), 328, 1, (12, 89), (17, 74), (12, 87), some (none), ⟨"SecureLinesModel", "beginDigest", "(I)V"⟩, "", (0, 0), (0, 0), (0, 0)), ((586, 11), 329, 3, (12, 93), (17, 75), (12, 91), some (none), ⟨"SecureLinesModel", "digestRow", "([III)V"⟩, "", (0, 0), (0, 0), (0, 0)), ((571, 11), 334, 0, (12, 112), (17, 79), (12, 110), some (none), ⟨"SecureLinesModel", "endDigest", "()J"⟩, "", (0, 0), (0, 0), (0, 0)), ((561, 11), 330, 1, (12, 97), (17, 76), (12, 95), some (none), ⟨"SecureLinesModel", "digestByte", "(I)V"⟩, "", (0, 0), (0, 0), (0, 0)), ((554, 11), 331, 1, (12, 101), (17, 77), (12, 99), some (none), ⟨"SecureLinesModel", "pushByte", "(I)V"⟩, "", (0, 0), (0, 0), (0, 0)), ((558, 11), 332, 0, (12, 105), (17, 78), (12, 103), some (none), ⟨"SecureLinesModel", "mix", "()V"⟩, "", (0, 0), (0, 0), (0, 0)), ((564, 11), 335, 0, (12, 116), (17, 80), (12, 114), some (none), ⟨"SecureLinesModel", "mixed", "()J"⟩, "", (0, 0), (0, 0), (0, 0)), ((578, 11), 337, 2, (12, 125), (17, 81), (12, 123), some (none), ⟨"SecureLinesModel", "beginKeyed", "(IJ)V"⟩, "", (0, 0), (0, 0), (0, 0)), ((582, 11), 338, 2, (12, 129), (17, 82), (12, 127), some (none), ⟨"SecureLinesModel", "endKeyed", "(IJ)J"⟩, "", (0, 0), (0, 0), (0, 0)), ((574, 11), 339, 1, (12, 133), (17, 83), (12, 131), some (none), ⟨"SecureLinesModel", "digestLong", "(J)V"⟩, "", (0, 0), (0, 0), (0, 0)), ((598, 11), 341, 4, (12, 142), (17, 84), (12, 140), some (none), ⟨"SecureLinesModel", "derivedOf", "(IJIJ)J"⟩, "", (0, 0), (0, 0), (0, 0)), ((611, 11), 343, 5, (12, 151), (17, 85), (12, 149), some (none), ⟨"SecureLinesModel", "cove\x72", "(JJ[III)V"⟩, "", (0, 0), (0, 0), (0, 0)), ((615, 11), 344, 9, (12, 155), (17, 86), (12, 153), some (none), ⟨"SecureLinesModel", "tagIn", "(IJJ[III[III)J"⟩, "", (0, 0), (0, 0), (0, 0)), ((606, 11), 346, 1, (12, 162), (17, 87), (12, 160), some (none), ⟨"SecureLinesModel", "digestFou\x72", "(I)V"⟩, "", (0, 0), (0, 0), (0, 0)), ((675, 11), 360, 5, (12, 218), (17, 88), (12, 216), some (none), ⟨"SecureLinesModel", "signed", "(II[III)J"⟩, "", (0, 0), (0, 0), (0, 0)), ((665, 11), 362, 6, (12, 226), (17, 89), (12, 224), some (none), ⟨"SecureLinesModel", "answerOf", "(III[III)I"⟩, "", (0, 0), (0, 0), (0, 0)), ((679, 11), 364, 6, (12, 236), (17, 90), (12, 234), some (none), ⟨"SecureLinesModel", "doesFit", "(IIJ[III)Z"⟩, "", (0, 0), (0, 0), (0, 0)), ((694, 11), 368, 3, (13, 14), (17, 91), (13, 12), some (none), ⟨"SecureLinesModel", "headOf", "(III)J"⟩, "", (0, 0), (0, 0), (0, 0)), ((686, 11), 369, 1, (13, 18), (17, 92), (13, 16), some (none), ⟨"SecureLinesModel", "leaf", "(J)J"⟩, "", (0, 0), (0, 0), (0, 0)), ((690, 11), 370, 2, (13, 22), (17, 93), (13, 20), some (none), ⟨"SecureLinesModel", "knot", "(JJ)J"⟩, "", (0, 0), (0, 0), (0, 0)), ((703, 11), 373, 0, (13, 33), (17, 94), (13, 31), some (none), ⟨"SecureLinesModel", "tellBeside", "()I"⟩, "", (0, 0), (0, 0), (0, 0)), ((709, 11), 376, 1, (13, 46), (17, 95), (13, 44), some (none), ⟨"SecureLinesModel", "tapeLong", "(I)J"⟩, "", (0, 0), (0, 0), (0, 0)), ((744, 11), 379, 3, (13, 58), (17, 96), (13, 56), some (none), ⟨"SecureLinesModel", "nodeFault", "([III)I"⟩, "", (0, 0), (0, 0), (0, 0)), ((741, 11), 381, 3, (13, 67), (17, 97), (13, 65), some (none), ⟨"SecureLinesModel", "lengthFault", "([III)I"⟩, "", (0, 0), (0, 0), (0, 0)), ((778, 11), 385, 4, (13, 85), (17, 98), (13, 83), some (none), ⟨"SecureLinesModel", "isCertificate", "(I[III)Z"⟩, "", (0, 0), (0, 0), (0, 0)), ((789, 11), 391, 0, (13, 109), (17, 103), (13, 107), some (none), ⟨"SecureLinesModel", "holdCertificate", "()I"⟩, "", (0, 0), (0, 0), (0, 0)), ((759, 11), 386, 2, (13, 89), (17, 99), (13, 87), some (none), ⟨"SecureLinesModel", "next", "(II)Z"⟩, "", (0, 0), (0, 0), (0, 0)), ((763, 11), 387, 2, (13, 93), (17, 100), (13, 91), some (none), ⟨"SecureLinesModel", "isInne\x72", "(II)Z"⟩, "", (0, 0), (0, 0), (0, 0)), ((766, 11), 388, 0, (13, 97), (17, 101), (13, 95), some (none), ⟨"SecureLinesModel", "numbe\x72", "()I"⟩, "", (0, 0), (0, 0), (0, 0))]
def aLV_13_1 : List (am_vE) := [((771, 11), 389, 2, (13, 102), (17, 102), (13, 100), some (none), ⟨"SecureLinesModel", "areNames", "(II)Z"⟩, "", (0, 0), (0, 0), (0, 0)), ((785, 11), 392, 2, (13, 113), (17, 104), (13, 111), some (none), ⟨"SecureLinesModel", "copyCert", "(II)V"⟩, "", (0, 0), (0, 0), (0, 0)), ((796, 11), 394, 4, (13, 121), (17, 105), (13, 119), some (none), ⟨"SecureLinesModel", "isList", "(I[III)Z"⟩, "", (0, 0), (0, 0), (0, 0)), ((799, 11), 396, 0, (13, 128), (17, 106), (13, 126), some (none), ⟨"SecureLinesModel", "holdList", "()I"⟩, "", (0, 0), (0, 0), (0, 0)), ((805, 11), 398, 4, (13, 136), (17, 107), (13, 134), some (none), ⟨"SecureLinesModel", "isAnswe\x72", "(I[III)Z"⟩, "", (0, 0), (0, 0), (0, 0)), ((808, 11), 399, 0, (13, 140), (17, 108), (13, 138), some (none), ⟨"SecureLinesModel", "holdAnswe\x72", "()I"⟩, "", (0, 0), (0, 0), (0, 0)), ((828, 11), 401, 3, (13, 148), (17, 109), (13, 146), some (none), ⟨"SecureLinesModel", "putRow", "([III)V"⟩, "", (0, 0), (0, 0), (0, 0)), ((837, 11), 403, 2, (13, 156), (17, 111), (13, 154), some (none), ⟨"SecureLinesModel", "signMade", "(II)V"⟩, "", (0, 0), (0, 0), (0, 0)), ((817, 11), 402, 1, (13, 152), (17, 110), (13, 150), some (none), ⟨"SecureLinesModel", "put", "(I)V"⟩, "", (0, 0), (0, 0), (0, 0)), ((831, 11), 404, 1, (13, 160), (17, 112), (13, 158), some (none), ⟨"SecureLinesModel", "putLong", "(J)V"⟩, "", (0, 0), (0, 0), (0, 0)), ((834, 11), 407, 2, (13, 172), (17, 115), (13, 170), some (none), ⟨"SecureLinesModel", "nodeMade", "(II)V"⟩, "", (0, 0), (0, 0), (0, 0)), ((823, 11), 405, 1, (13, 164), (17, 113), (13, 162), some (none), ⟨"SecureLinesModel", "putFou\x72", "(I)V"⟩, "", (0, 0), (0, 0), (0, 0)), ((820, 11), 406, 1, (13, 168), (17, 114), (13, 166), some (none), ⟨"SecureLinesModel", "putTwo", "(I)V"⟩, "", (0, 0), (0, 0), (0, 0)), ((840, 11), 409, 1, (13, 180), (17, 116), (13, 178), some (none), ⟨"SecureLinesModel", "isCert", "(I)Z"⟩, "", (0, 0), (0, 0), (0, 0)), ((863, 11), 412, 3, (13, 194), (17, 117), (13, 192), some (none), ⟨"SecureLinesModel", "statusOf", "(III)I"⟩, "", (0, 0), (0, 0), (0, 0)), ((859, 11), 413, 6, (13, 198), (17, 118), (13, 196), some (none), ⟨"SecureLinesModel", "isFo\x72", "(III[II[I)Z"⟩, "", (0, 0), (0, 0), (0, 0)), ((894, 11), 419, 1, (13, 220), (17, 119), (13, 218), some (none), ⟨"SecureLinesModel", "isEnd", "(I)Z"⟩, "", (0, 0), (0, 0), (0, 0)), ((897, 11), 420, 0, (13, 224), (17, 120), (13, 222), some (none), ⟨"SecureLinesModel", "areLinked", "()Z"⟩, "", (0, 0), (0, 0), (0, 0)), ((901, 11), 422, 2, (13, 232), (17, 122), (13, 230), some (none), ⟨"SecureLinesModel", "isAncho\x72", "(II)Z"⟩, "", (0, 0), (0, 0), (0, 0)), ((904, 11), 423, 3, (13, 236), (17, 123), (13, 234), some (none), ⟨"SecureLinesModel", "wayWhy", "(IIZ)I"⟩, "", (0, 0), (0, 0), (0, 0)), ((888, 11), 421, 2, (13, 228), (17, 121), (13, 226), some (none), ⟨"SecureLinesModel", "isIssuedBy", "(II)Z"⟩, "", (0, 0), (0, 0), (0, 0)), ((884, 11), 424, 5, (14, 0), (17, 124), (13, 238), some (none), ⟨"SecureLinesModel", "whyOf", "(IZIIZ)I"⟩, "", (0, 0), (0, 0), (0, 0)), ((875, 11), 425, 2, (14, 4), (17, 125), (14, 2), some (none), ⟨"SecureLinesModel", "isSignedBy", "(II)Z"⟩, "", (0, 0), (0, 0), (0, 0)), ((878, 11), 426, 2, (14, 8), (17, 126), (14, 6), some (none), ⟨"SecureLinesModel", "ownWhy", "(II)I"⟩, "", (0, 0), (0, 0), (0, 0)), ((867, 11), 427, 3, (14, 12), (17, 127), (14, 10), some (none), ⟨"SecureLinesModel", "isBarred", "(III)Z"⟩, "", (0, 0), (0, 0), (0, 0)), ((871, 11), 428, 4, (14, 16), (17, 128), (14, 14), some (none), ⟨"SecureLinesModel", "liesUnde\x72", "(IIII)Z"⟩, "", (0, 0), (0, 0), (0, 0)), ((908, 11), 430, 5, (14, 24), (17, 129), (14, 22), some (none), ⟨"SecureLinesModel", "hasWay", "(IIIII)Z"⟩, "", (0, 0), (0, 0), (0, 0)), ((912, 11), 431, 4, (14, 28), (17, 130), (14, 26), some (none), ⟨"SecureLinesModel", "canFollow", "(IIIZ)Z"⟩, "", (0, 0), (0, 0), (0, 0)), ((930, 11), 445, 1, (14, 86), (17, 131), (14, 84), some (none), ⟨"SecureLinesModel", "isOffice", "(I)Z"⟩, "", (0, 0), (0, 0), (0, 0)), ((933, 11), 448, 2, (14, 98), (17, 132), (14, 96), some (none), ⟨"SecureLinesModel", "isOrde\x72", "(II)Z"⟩, "", (0, 0), (0, 0), (0, 0))]
def aLV_13_2 : List (am_vE) := [((949, 11), 453, 1, (14, 118), (17, 133), (14, 116), some (none), ⟨"SecureLinesModel", "putNumbe\x72", "(I)V"⟩, "", (0, 0), (0, 0), (0, 0)), ((952, 11), 454, 1, (14, 124), (17, 134), (14, 122), some (none), ⟨"SecureLinesModel", "putIssue\x72", "(I)V"⟩, "", (0, 0), (0, 0), (0, 0)), ((946, 11), 455, 3, (14, 128), (17, 135), (14, 126), some (none), ⟨"SecureLinesModel", "putName", "([III)V"⟩, "", (0, 0), (0, 0), (0, 0)), ((955, 11), 456, 1, (14, 132), (17, 136), (14, 130), some (none), ⟨"SecureLinesModel", "laterBy", "(I)I"⟩, "", (0, 0), (0, 0), (0, 0)), ((958, 11), 458, 2, (14, 141), (17, 137), (14, 139), some (none), ⟨"SecureLinesModel", "isRevoked", "(II)Z"⟩, "", (0, 0), (0, 0), (0, 0)), ((970, 11), 462, 1, (14, 157), (17, 138), (14, 155), some (none), ⟨"SecureLinesModel", "keepDigest", "(I)V"⟩, "", (0, 0), (0, 0), (0, 0)), ((1038, 11), 463, 1, (14, 161), (17, 139), (14, 159), some (none), ⟨"SecureLinesModel", "greet", "(I)V"⟩, "", (0, 0), (0, 0), (0, 0)), ((1018, 11), 464, 1, (14, 165), (17, 140), (14, 163), some (none), ⟨"SecureLinesModel", "drawLong", "(I)J"⟩, "", (0, 0), (0, 0), (0, 0)), ((1021, 11), 466, 1, (14, 173), (17, 142), (14, 171), some (none), ⟨"SecureLinesModel", "drawX", "(I)I"⟩, "", (0, 0), (0, 0), (0, 0)), ((1024, 11), 467, 2, (14, 178), (17, 143), (14, 176), some (none), ⟨"SecureLinesModel", "offerShared", "(II)V"⟩, "", (0, 0), (0, 0), (0, 0)), ((1027, 11), 468, 2, (14, 182), (17, 144), (14, 180), some (none), ⟨"SecureLinesModel", "makeHello", "(IZ)V"⟩, "", (0, 0), (0, 0), (0, 0)), ((1031, 11), 476, 2, (14, 214), (17, 152), (14, 212), some (none), ⟨"SecureLinesModel", "putMessage", "(II)V"⟩, "", (0, 0), (0, 0), (0, 0)), ((1001, 11), 474, 2, (14, 206), (17, 150), (14, 204), some (none), ⟨"SecureLinesModel", "earlyOf", "(IJ)J"⟩, "", (0, 0), (0, 0), (0, 0)), ((973, 11), 481, 2, (14, 233), (17, 156), (14, 231), some (none), ⟨"SecureLinesModel", "digestNow", "(II)J"⟩, "", (0, 0), (0, 0), (0, 0)), ((1034, 11), 482, 3, (14, 237), (17, 157), (14, 235), some (none), ⟨"SecureLinesModel", "writeBy", "(IIJ)V"⟩, "", (0, 0), (0, 0), (0, 0)), ((987, 11), 479, 5, (14, 225), (17, 154), (14, 223), some (none), ⟨"SecureLinesModel", "putRecord", "(II[III)V"⟩, "", (0, 0), (0, 0), (0, 0)), ((919, 11), 465, 1, (14, 169), (17, 141), (14, 167), some (none), ⟨"SecureLinesModel", "draw", "(I)I"⟩, "", (0, 0), (0, 0), (0, 0)), ((1004, 11), 469, 2, (14, 186), (17, 145), (14, 184), some (none), ⟨"SecureLinesModel", "putField", "(II)V"⟩, "", (0, 0), (0, 0), (0, 0)), ((1007, 11), 470, 3, (14, 190), (17, 146), (14, 188), some (none), ⟨"SecureLinesModel", "putOffers", "(III)V"⟩, "", (0, 0), (0, 0), (0, 0)), ((1011, 11), 471, 1, (14, 194), (17, 147), (14, 192), some (none), ⟨"SecureLinesModel", "putShared", "(I)V"⟩, "", (0, 0), (0, 0), (0, 0)), ((1014, 11), 472, 6, (14, 198), (17, 148), (14, 196), some (none), ⟨"SecureLinesModel", "binde\x72", "(IIJ[III)J"⟩, "", (0, 0), (0, 0), (0, 0)), ((967, 11), 473, 1, (14, 202), (17, 149), (14, 200), some (none), ⟨"SecureLinesModel", "takeDigest", "(I)V"⟩, "", (0, 0), (0, 0), (0, 0)), ((994, 11), 475, 3, (14, 210), (17, 151), (14, 208), some (none), ⟨"SecureLinesModel", "keyedLong", "(IJJ)J"⟩, "", (0, 0), (0, 0), (0, 0)), ((983, 11), 478, 4, (14, 221), (17, 153), (14, 219), some (none), ⟨"SecureLinesModel", "feedDigest", "(I[III)V"⟩, "", (0, 0), (0, 0), (0, 0)), ((977, 11), 480, 2, (14, 229), (17, 155), (14, 227), some (none), ⟨"SecureLinesModel", "putLine", "(II)V"⟩, "", (0, 0), (0, 0), (0, 0)), ((1272, 11), 484, 2, (15, 5), (17, 158), (15, 3), some (none), ⟨"SecureLinesModel", "isSide", "(II)Z"⟩, "", (0, 0), (0, 0), (0, 0)), ((1275, 11), 486, 2, (15, 13), (17, 160), (15, 11), some (none), ⟨"SecureLinesModel", "isOwn", "(II)Z"⟩, "", (0, 0), (0, 0), (0, 0)), ((1278, 11), 487, 2, (15, 17), (17, 161), (15, 15), some (none), ⟨"SecureLinesModel", "receive", "(II)V"⟩, "", (0, 0), (0, 0), (0, 0)), ((964, 11), 485, 1, (15, 9), (17, 159), (15, 7), some (none), ⟨"SecureLinesModel", "isConnection", "(I)Z"⟩, "", (0, 0), (0, 0), (0, 0)), ((1041, 11), 488, 1, (15, 21), (17, 162), (15, 19), some (none), ⟨"SecureLinesModel", "isLost", "(I)Z"⟩, "", (0, 0), (0, 0), (0, 0))]
def aLV_13_3 : List (am_vE) := [((1048, 11), 489, 2, (15, 27), (17, 163), (15, 25), some (none), ⟨"SecureLinesModel", "fails", "(II)V"⟩, "", (0, 0), (0, 0), (0, 0)), ((1051, 11), 491, 3, (15, 35), (17, 165), (15, 33), some (none), ⟨"SecureLinesModel", "takeRecord", "(III)V"⟩, "", (0, 0), (0, 0), (0, 0)), ((991, 11), 490, 2, (15, 31), (17, 164), (15, 29), some (none), ⟨"SecureLinesModel", "putAlert", "(II)V"⟩, "", (0, 0), (0, 0), (0, 0)), ((1054, 11), 492, 2, (15, 39), (17, 166), (15, 37), some (none), ⟨"SecureLinesModel", "drops", "(II)Z"⟩, "", (0, 0), (0, 0), (0, 0)), ((1057, 11), 493, 4, (15, 43), (17, 167), (15, 41), some (none), ⟨"SecureLinesModel", "takeBorne", "(IIII)V"⟩, "", (0, 0), (0, 0), (0, 0)), ((1061, 11), 494, 1, (15, 47), (17, 168), (15, 45), some (none), ⟨"SecureLinesModel", "takeMessages", "(I)V"⟩, "", (0, 0), (0, 0), (0, 0)), ((1064, 11), 497, 1, (15, 59), (17, 171), (15, 57), some (none), ⟨"SecureLinesModel", "isClient", "(I)Z"⟩, "", (0, 0), (0, 0), (0, 0)), ((1067, 11), 495, 4, (15, 51), (17, 169), (15, 49), some (none), ⟨"SecureLinesModel", "takeMessage", "(IIIZ)V"⟩, "", (0, 0), (0, 0), (0, 0)), ((1074, 11), 496, 2, (15, 55), (17, 170), (15, 53), some (none), ⟨"SecureLinesModel", "may", "(II)Z"⟩, "", (0, 0), (0, 0), (0, 0)), ((1077, 11), 498, 4, (15, 63), (17, 172), (15, 61), some (none), ⟨"SecureLinesModel", "clientFault", "(IIII)I"⟩, "", (0, 0), (0, 0), (0, 0)), ((1081, 11), 516, 4, (15, 134), (17, 189), (15, 132), some (none), ⟨"SecureLinesModel", "serverFault", "(IIII)I"⟩, "", (0, 0), (0, 0), (0, 0)), ((1084, 11), 525, 2, (15, 170), (17, 198), (15, 168), some (none), ⟨"SecureLinesModel", "turnsReading", "(II)Z"⟩, "", (0, 0), (0, 0), (0, 0)), ((1087, 11), 526, 4, (15, 174), (17, 199), (15, 172), some (none), ⟨"SecureLinesModel", "clientDoes", "(IIII)V"⟩, "", (0, 0), (0, 0), (0, 0)), ((1090, 11), 543, 4, (16, 2), (17, 216), (16, 0), some (none), ⟨"SecureLinesModel", "serverDoes", "(IIII)V"⟩, "", (0, 0), (0, 0), (0, 0)), ((1108, 11), 499, 3, (15, 67), (17, 173), (15, 65), some (none), ⟨"SecureLinesModel", "fieldsFault", "(III)I"⟩, "", (0, 0), (0, 0), (0, 0)), ((1111, 11), 503, 3, (15, 82), (17, 176), (15, 80), some (none), ⟨"SecureLinesModel", "answerFault", "(III)I"⟩, "", (0, 0), (0, 0), (0, 0)), ((1114, 11), 504, 3, (15, 86), (17, 177), (15, 84), some (none), ⟨"SecureLinesModel", "doesOffe\x72", "(III)Z"⟩, "", (0, 0), (0, 0), (0, 0)), ((1105, 11), 505, 1, (15, 90), (17, 178), (15, 88), some (none), ⟨"SecureLinesModel", "hasField", "(I)Z"⟩, "", (0, 0), (0, 0), (0, 0)), ((1117, 11), 508, 3, (15, 102), (17, 181), (15, 100), some (none), ⟨"SecureLinesModel", "chainFault", "(III)I"⟩, "", (0, 0), (0, 0), (0, 0)), ((1120, 11), 512, 3, (15, 118), (17, 185), (15, 116), some (none), ⟨"SecureLinesModel", "proofFault", "(III)I"⟩, "", (0, 0), (0, 0), (0, 0)), ((1123, 11), 515, 2, (15, 130), (17, 188), (15, 128), some (none), ⟨"SecureLinesModel", "endOf4", "(IZ)J"⟩, "", (0, 0), (0, 0), (0, 0)), ((1102, 11), 501, 4, (15, 74), (17, 174), (15, 72), some (none), ⟨"SecureLinesModel", "isField", "(IIII)Z"⟩, "", (0, 0), (0, 0), (0, 0)), ((1093, 11), 502, 2, (15, 78), (17, 175), (15, 76), some (none), ⟨"SecureLinesModel", "isShared", "(II)Z"⟩, "", (0, 0), (0, 0), (0, 0)), ((1127, 11), 506, 0, (15, 94), (17, 179), (15, 92), some (none), ⟨"SecureLinesModel", "shareGroupTold", "()I"⟩, "", (0, 0), (0, 0), (0, 0)), ((1130, 11), 507, 0, (15, 98), (17, 180), (15, 96), some (none), ⟨"SecureLinesModel", "sharePoint", "()I"⟩, "", (0, 0), (0, 0), (0, 0)), ((1195, 11), 509, 4, (15, 106), (17, 182), (15, 104), some (none), ⟨"SecureLinesModel", "wayFault", "(IIZZ)I"⟩, "", (0, 0), (0, 0), (0, 0)), ((1199, 11), 510, 2, (15, 110), (17, 183), (15, 108), some (none), ⟨"SecureLinesModel", "areOne", "(II)Z"⟩, "", (0, 0), (0, 0), (0, 0)), ((1202, 11), 511, 3, (15, 114), (17, 184), (15, 112), some (none), ⟨"SecureLinesModel", "doesMeet", "(III)Z"⟩, "", (0, 0), (0, 0), (0, 0)), ((1136, 11), 513, 2, (15, 122), (17, 186), (15, 120), some (none), ⟨"SecureLinesModel", "proofText", "(IZ)V"⟩, "", (0, 0), (0, 0), (0, 0)), ((998, 11), 514, 1, (15, 126), (17, 187), (15, 124), some (none), ⟨"SecureLinesModel", "hashAt", "(I)I"⟩, "", (0, 0), (0, 0), (0, 0))]
def aLV_13_4 : List (am_vE) := [((1223, 11), 517, 3, (15, 138), (17, 190), (15, 136), some (none), ⟨"SecureLinesModel", "helloFault", "(III)I"⟩, "", (0, 0), (0, 0), (0, 0)), ((1153, 11), 518, 2, (15, 142), (17, 191), (15, 140), some (none), ⟨"SecureLinesModel", "isInField", "(II)Z"⟩, "", (0, 0), (0, 0), (0, 0)), ((1229, 11), 519, 2, (15, 146), (17, 192), (15, 144), some (none), ⟨"SecureLinesModel", "againFault", "(II)I"⟩, "", (0, 0), (0, 0), (0, 0)), ((1232, 11), 521, 3, (15, 154), (17, 194), (15, 152), some (none), ⟨"SecureLinesModel", "firstOf", "(III)I"⟩, "", (0, 0), (0, 0), (0, 0)), ((1235, 11), 522, 1, (15, 158), (17, 195), (15, 156), some (none), ⟨"SecureLinesModel", "know", "(I)V"⟩, "", (0, 0), (0, 0), (0, 0)), ((1238, 11), 523, 2, (15, 162), (17, 196), (15, 160), some (none), ⟨"SecureLinesModel", "isBound", "(II)Z"⟩, "", (0, 0), (0, 0), (0, 0)), ((1226, 11), 520, 2, (15, 150), (17, 193), (15, 148), some (none), ⟨"SecureLinesModel", "isAsFirst", "(II)Z"⟩, "", (0, 0), (0, 0), (0, 0)), ((1220, 11), 524, 0, (15, 166), (17, 197), (15, 164), some (none), ⟨"SecureLinesModel", "knownSecret", "()J"⟩, "", (0, 0), (0, 0), (0, 0)), ((1139, 11), 527, 3, (15, 178), (17, 200), (15, 176), some (none), ⟨"SecureLinesModel", "feedPart", "(III)V"⟩, "", (0, 0), (0, 0), (0, 0)), ((1142, 11), 528, 3, (15, 182), (17, 201), (15, 180), some (none), ⟨"SecureLinesModel", "handKeys", "(IJJ)V"⟩, "", (0, 0), (0, 0), (0, 0)), ((1146, 11), 529, 2, (15, 186), (17, 202), (15, 184), some (none), ⟨"SecureLinesModel", "readBy", "(IJ)V"⟩, "", (0, 0), (0, 0), (0, 0)), ((1149, 11), 530, 5, (15, 190), (17, 203), (15, 188), some (none), ⟨"SecureLinesModel", "retried", "(IIIII)V"⟩, "", (0, 0), (0, 0), (0, 0)), ((1159, 11), 532, 1, (15, 198), (17, 205), (15, 196), some (none), ⟨"SecureLinesModel", "finishClient", "(I)V"⟩, "", (0, 0), (0, 0), (0, 0)), ((1162, 11), 539, 3, (15, 226), (17, 212), (15, 224), some (none), ⟨"SecureLinesModel", "keepTicket", "(III)V"⟩, "", (0, 0), (0, 0), (0, 0)), ((1165, 11), 540, 2, (15, 230), (17, 213), (15, 228), some (none), ⟨"SecureLinesModel", "turnKeys", "(II)V"⟩, "", (0, 0), (0, 0), (0, 0)), ((1168, 11), 531, 1, (15, 194), (17, 204), (15, 192), some (none), ⟨"SecureLinesModel", "foldDigest", "(I)V"⟩, "", (0, 0), (0, 0), (0, 0)), ((1171, 11), 533, 1, (15, 202), (17, 206), (15, 200), some (none), ⟨"SecureLinesModel", "masterKeys", "(I)V"⟩, "", (0, 0), (0, 0), (0, 0)), ((1174, 11), 534, 2, (15, 206), (17, 207), (15, 204), some (none), ⟨"SecureLinesModel", "spokenKey", "(IZ)J"⟩, "", (0, 0), (0, 0), (0, 0)), ((1177, 11), 535, 2, (15, 210), (17, 208), (15, 208), some (none), ⟨"SecureLinesModel", "schemeOf", "(II)I"⟩, "", (0, 0), (0, 0), (0, 0)), ((1180, 11), 536, 3, (15, 214), (17, 209), (15, 212), some (none), ⟨"SecureLinesModel", "putChain", "(III)V"⟩, "", (0, 0), (0, 0), (0, 0)), ((1183, 11), 537, 4, (15, 218), (17, 210), (15, 216), some (none), ⟨"SecureLinesModel", "putProof", "(IIIZ)V"⟩, "", (0, 0), (0, 0), (0, 0)), ((1186, 11), 538, 2, (15, 222), (17, 211), (15, 220), some (none), ⟨"SecureLinesModel", "putEnd", "(IZ)V"⟩, "", (0, 0), (0, 0), (0, 0)), ((1189, 11), 541, 2, (15, 234), (17, 214), (15, 232), some (none), ⟨"SecureLinesModel", "turned", "(IJ)J"⟩, "", (0, 0), (0, 0), (0, 0)), ((1192, 11), 542, 2, (15, 238), (17, 215), (15, 236), some (none), ⟨"SecureLinesModel", "putTurn", "(II)V"⟩, "", (0, 0), (0, 0), (0, 0)), ((1253, 11), 544, 3, (16, 6), (17, 217), (16, 4), some (none), ⟨"SecureLinesModel", "putRetry", "(III)V"⟩, "", (0, 0), (0, 0), (0, 0)), ((1256, 11), 545, 3, (16, 10), (17, 218), (16, 8), some (none), ⟨"SecureLinesModel", "putAnswe\x72", "(III)V"⟩, "", (0, 0), (0, 0), (0, 0)), ((1259, 11), 548, 1, (16, 22), (17, 221), (16, 20), some (none), ⟨"SecureLinesModel", "finishServe\x72", "(I)V"⟩, "", (0, 0), (0, 0), (0, 0)), ((1262, 11), 546, 1, (16, 14), (17, 219), (16, 12), some (none), ⟨"SecureLinesModel", "takesEarly", "(I)Z"⟩, "", (0, 0), (0, 0), (0, 0)), ((1265, 11), 547, 1, (16, 18), (17, 220), (16, 16), some (none), ⟨"SecureLinesModel", "stapleFo\x72", "(I)I"⟩, "", (0, 0), (0, 0), (0, 0)), ((1268, 11), 549, 4, (16, 26), (17, 222), (16, 24), some (none), ⟨"SecureLinesModel", "book", "(IJJI)V"⟩, "", (0, 0), (0, 0), (0, 0))]
def aLV_13_5 : List (am_vE) := [((1283, 11), 554, 1, (16, 47), (17, 223), (16, 45), some (none), ⟨"SecureLinesModel", "isOpen", "(I)Z"⟩, "", (0, 0), (0, 0), (0, 0))]
def aLV_13 : List (am_vE) := aLV_13_0 ++ (aLV_13_1 ++ (aLV_13_2 ++ (aLV_13_3 ++ (aLV_13_4 ++ (aLV_13_5)))))
def aLV_14_0 : List (am_vE) := [((15, 10), 6, 2, (1, 79), (1, 80), (1, 78), some (none), ⟨"SecureLines", "feed", "(IJ)I"⟩, "", (0, 0), (0, 0), (0, 0)), ((19, 11), 320, 2, (12, 53), (12, 54), (12, 52), some (none), ⟨"SecureLinesModel", "feed", "(IJ)I"⟩, "", (0, 0), (0, 0), (0, 0)), ((20, 10), 9, 1, (1, 104), (1, 105), (1, 103), some (none), ⟨"SecureLines", "cut", "(I)I"⟩, "", (0, 0), (0, 0), (0, 0)), ((24, 11), 322, 1, (12, 61), (12, 62), (12, 60), some (none), ⟨"SecureLinesModel", "cut", "(I)I"⟩, "", (0, 0), (0, 0), (0, 0)), ((25, 10), 10, 1, (1, 108), (1, 109), (1, 107), some (none), ⟨"SecureLines", "out", "(I)I"⟩, "", (0, 0), (0, 0), (0, 0)), ((28, 11), 323, 1, (12, 65), (12, 66), (12, 64), some (none), ⟨"SecureLinesModel", "out", "(I)I"⟩, "", (0, 0), (0, 0), (0, 0)), ((29, 10), 12, 0, (1, 116), (1, 117), (1, 115), some (none), ⟨"SecureLines", "again", "()I"⟩, "", (0, 0), (0, 0), (0, 0)), ((33, 11), 324, 0, (12, 69), (12, 70), (12, 68), some (none), ⟨"SecureLinesModel", "again", "()I"⟩, "", (0, 0), (0, 0), (0, 0)), ((34, 10), 14, 1, (1, 125), (1, 126), (1, 124), some (none), ⟨"SecureLines", "tick", "(I)I"⟩, "", (0, 0), (0, 0), (0, 0)), ((37, 11), 325, 1, (12, 73), (12, 74), (12, 72), some (none), ⟨"SecureLinesModel", "tick", "(I)I"⟩, "", (0, 0), (0, 0), (0, 0)), ((38, 10), 15, 1, (1, 131), (1, 132), (1, 130), some (none), ⟨"SecureLines", "digest", "(I)J"⟩, "", (0, 0), (0, 0), (0, 0)), ((42, 11), 326, 1, (12, 79), (12, 80), (12, 78), some (none), ⟨"SecureLinesModel", "digest", "(I)J"⟩, "", (0, 0), (0, 0), (0, 0)), ((43, 10), 24, 2, (1, 169), (1, 170), (1, 168), some (none), ⟨"SecureLines", "keyed", "(IJ)J"⟩, "", (0, 0), (0, 0), (0, 0)), ((47, 11), 336, 2, (12, 120), (12, 121), (12, 119), some (none), ⟨"SecureLinesModel", "keyed", "(IJ)J"⟩, "", (0, 0), (0, 0), (0, 0)), ((48, 10), 28, 4, (1, 188), (1, 189), (1, 187), some (none), ⟨"SecureLines", "derived", "(IJIJ)J"⟩, "", (0, 0), (0, 0), (0, 0)), ((52, 11), 340, 4, (12, 136), (12, 137), (12, 135), some (none), ⟨"SecureLinesModel", "derived", "(IJIJ)J"⟩, "", (0, 0), (0, 0), (0, 0)), ((53, 10), 32, 4, (1, 204), (1, 205), (1, 203), some (none), ⟨"SecureLines", "seal", "(IJJI)I"⟩, "", (0, 0), (0, 0), (0, 0)), ((57, 11), 342, 4, (12, 145), (12, 146), (12, 144), some (none), ⟨"SecureLinesModel", "seal", "(IJJI)I"⟩, "", (0, 0), (0, 0), (0, 0)), ((58, 10), 38, 4, (1, 227), (1, 228), (1, 226), some (none), ⟨"SecureLines", "unseal", "(IJJI)I"⟩, "", (0, 0), (0, 0), (0, 0)), ((61, 11), 349, 4, (12, 171), (12, 172), (12, 170), some (none), ⟨"SecureLinesModel", "unseal", "(IJJI)I"⟩, "", (0, 0), (0, 0), (0, 0)), ((62, 10), 40, 2, (2, 1), (2, 2), (2, 0), some (none), ⟨"SecureLines", "point", "(II)I"⟩, "", (0, 0), (0, 0), (0, 0)), ((66, 11), 350, 2, (12, 175), (12, 176), (12, 174), some (none), ⟨"SecureLinesModel", "point", "(II)I"⟩, "", (0, 0), (0, 0), (0, 0)), ((67, 10), 44, 3, (2, 20), (2, 21), (2, 19), some (none), ⟨"SecureLines", "joint", "(III)J"⟩, "", (0, 0), (0, 0), (0, 0)), ((71, 11), 354, 3, (12, 193), (12, 194), (12, 192), some (none), ⟨"SecureLinesModel", "joint", "(III)J"⟩, "", (0, 0), (0, 0), (0, 0)), ((72, 10), 46, 1, (2, 28), (2, 29), (2, 27), some (none), ⟨"SecureLines", "keyPoint", "(I)I"⟩, "", (0, 0), (0, 0), (0, 0)), ((75, 11), 356, 1, (12, 200), (12, 201), (12, 199), some (none), ⟨"SecureLinesModel", "keyPoint", "(I)I"⟩, "", (0, 0), (0, 0), (0, 0)), ((76, 10), 49, 2, (2, 42), (2, 43), (2, 41), some (none), ⟨"SecureLines", "sign", "(II)J"⟩, "", (0, 0), (0, 0), (0, 0)), ((80, 11), 359, 2, (12, 213), (12, 214), (12, 212), some (none), ⟨"SecureLinesModel", "sign", "(II)J"⟩, "", (0, 0), (0, 0), (0, 0)), ((81, 10), 53, 3, (2, 62), (2, 63), (2, 61), some (none), ⟨"SecureLines", "fits", "(IIJ)I"⟩, "", (0, 0), (0, 0), (0, 0)), ((85, 11), 363, 3, (12, 231), (12, 232), (12, 230), some (none), ⟨"SecureLinesModel", "fits", "(IIJ)I"⟩, "", (0, 0), (0, 0), (0, 0))]
def aLV_14_1 : List (am_vE) := [((86, 10), 55, 0, (2, 72), (2, 73), (2, 71), some (none), ⟨"SecureLines", "node", "()I"⟩, "", (0, 0), (0, 0), (0, 0)), ((89, 11), 378, 0, (13, 53), (13, 54), (13, 52), some (none), ⟨"SecureLinesModel", "node", "()I"⟩, "", (0, 0), (0, 0), (0, 0)), ((90, 10), 62, 2, (2, 94), (2, 95), (2, 93), some (none), ⟨"SecureLines", "wrap", "(II)I"⟩, "", (0, 0), (0, 0), (0, 0)), ((93, 11), 400, 2, (13, 143), (13, 144), (13, 142), some (none), ⟨"SecureLinesModel", "wrap", "(II)I"⟩, "", (0, 0), (0, 0), (0, 0)), ((94, 10), 67, 0, (2, 116), (2, 117), (2, 115), some (none), ⟨"SecureLines", "certificate", "()I"⟩, "", (0, 0), (0, 0), (0, 0)), ((97, 11), 384, 0, (13, 80), (13, 81), (13, 79), some (none), ⟨"SecureLinesModel", "certificate", "()I"⟩, "", (0, 0), (0, 0), (0, 0)), ((98, 10), 87, 0, (2, 195), (2, 196), (2, 194), some (none), ⟨"SecureLines", "list", "()I"⟩, "", (0, 0), (0, 0), (0, 0)), ((101, 11), 393, 0, (13, 116), (13, 117), (13, 115), some (none), ⟨"SecureLinesModel", "list", "()I"⟩, "", (0, 0), (0, 0), (0, 0)), ((102, 10), 88, 0, (2, 199), (2, 200), (2, 198), some (none), ⟨"SecureLines", "answe\x72", "()I"⟩, "", (0, 0), (0, 0), (0, 0)), ((105, 11), 397, 0, (13, 131), (13, 132), (13, 130), some (none), ⟨"SecureLinesModel", "answe\x72", "()I"⟩, "", (0, 0), (0, 0), (0, 0)), ((106, 10), 89, 2, (2, 203), (2, 204), (2, 202), some (none), ⟨"SecureLines", "field", "(II)I"⟩, "", (0, 0), (0, 0), (0, 0)), ((109, 11), 408, 2, (13, 175), (13, 176), (13, 174), some (none), ⟨"SecureLinesModel", "field", "(II)I"⟩, "", (0, 0), (0, 0), (0, 0)), ((110, 10), 91, 3, (2, 211), (2, 212), (2, 210), some (none), ⟨"SecureLines", "text", "(III)I"⟩, "", (0, 0), (0, 0), (0, 0)), ((114, 11), 410, 3, (13, 184), (13, 185), (13, 183), some (none), ⟨"SecureLinesModel", "text", "(III)I"⟩, "", (0, 0), (0, 0), (0, 0)), ((115, 10), 94, 1, (2, 223), (2, 224), (2, 222), some (none), ⟨"SecureLines", "row", "(I)I"⟩, "", (0, 0), (0, 0), (0, 0)), ((118, 11), 416, 1, (13, 207), (13, 208), (13, 206), some (none), ⟨"SecureLinesModel", "row", "(I)I"⟩, "", (0, 0), (0, 0), (0, 0)), ((119, 10), 95, 3, (2, 227), (2, 228), (2, 226), some (none), ⟨"SecureLines", "judge", "(III)I"⟩, "", (0, 0), (0, 0), (0, 0)), ((122, 11), 418, 3, (13, 215), (13, 216), (13, 214), some (none), ⟨"SecureLinesModel", "judge", "(III)I"⟩, "", (0, 0), (0, 0), (0, 0)), ((123, 10), 111, 4, (3, 54), (3, 55), (3, 53), some (none), ⟨"SecureLines", "build", "(IIII)I"⟩, "", (0, 0), (0, 0), (0, 0)), ((127, 11), 429, 4, (14, 19), (14, 20), (14, 18), some (none), ⟨"SecureLinesModel", "build", "(IIII)I"⟩, "", (0, 0), (0, 0), (0, 0)), ((128, 10), 113, 1, (3, 64), (3, 65), (3, 63), some (none), ⟨"SecureLines", "step", "(I)I"⟩, "", (0, 0), (0, 0), (0, 0)), ((131, 11), 417, 1, (13, 211), (13, 212), (13, 210), some (none), ⟨"SecureLinesModel", "step", "(I)I"⟩, "", (0, 0), (0, 0), (0, 0)), ((132, 10), 114, 3, (3, 68), (3, 69), (3, 67), some (none), ⟨"SecureLines", "status", "(III)I"⟩, "", (0, 0), (0, 0), (0, 0)), ((135, 11), 411, 3, (13, 189), (13, 190), (13, 188), some (none), ⟨"SecureLinesModel", "status", "(III)I"⟩, "", (0, 0), (0, 0), (0, 0)), ((136, 10), 115, 1, (3, 73), (3, 74), (3, 72), some (none), ⟨"SecureLines", "end", "(I)I"⟩, "", (0, 0), (0, 0), (0, 0)), ((139, 11), 432, 1, (14, 31), (14, 32), (14, 30), some (none), ⟨"SecureLinesModel", "end", "(I)I"⟩, "", (0, 0), (0, 0), (0, 0)), ((140, 10), 117, 3, (3, 168), (3, 169), (3, 167), some (none), ⟨"SecureLines", "offe\x72", "(III)I"⟩, "", (0, 0), (0, 0), (0, 0)), ((143, 11), 433, 3, (14, 35), (14, 36), (14, 34), some (none), ⟨"SecureLinesModel", "offe\x72", "(III)I"⟩, "", (0, 0), (0, 0), (0, 0)), ((144, 10), 120, 3, (3, 180), (3, 181), (3, 179), some (none), ⟨"SecureLines", "setting", "(III)I"⟩, "", (0, 0), (0, 0), (0, 0)), ((147, 11), 434, 3, (14, 39), (14, 40), (14, 38), some (none), ⟨"SecureLinesModel", "setting", "(III)I"⟩, "", (0, 0), (0, 0), (0, 0))]
def aLV_14_2 : List (am_vE) := [((148, 10), 122, 1, (3, 190), (3, 191), (3, 189), some (none), ⟨"SecureLines", "random", "(I)I"⟩, "", (0, 0), (0, 0), (0, 0)), ((151, 11), 435, 1, (14, 43), (14, 44), (14, 42), some (none), ⟨"SecureLinesModel", "random", "(I)I"⟩, "", (0, 0), (0, 0), (0, 0)), ((152, 10), 123, 2, (3, 194), (3, 195), (3, 193), some (none), ⟨"SecureLines", "trust", "(II)I"⟩, "", (0, 0), (0, 0), (0, 0)), ((155, 11), 436, 2, (14, 47), (14, 48), (14, 46), some (none), ⟨"SecureLinesModel", "trust", "(II)I"⟩, "", (0, 0), (0, 0), (0, 0)), ((156, 10), 125, 2, (3, 202), (3, 203), (3, 201), some (none), ⟨"SecureLines", "identity", "(II)I"⟩, "", (0, 0), (0, 0), (0, 0)), ((159, 11), 437, 2, (14, 51), (14, 52), (14, 50), some (none), ⟨"SecureLinesModel", "identity", "(II)I"⟩, "", (0, 0), (0, 0), (0, 0)), ((160, 10), 126, 1, (3, 206), (3, 207), (3, 205), some (none), ⟨"SecureLines", "host", "(I)I"⟩, "", (0, 0), (0, 0), (0, 0)), ((163, 11), 438, 1, (14, 55), (14, 56), (14, 54), some (none), ⟨"SecureLinesModel", "host", "(I)I"⟩, "", (0, 0), (0, 0), (0, 0)), ((164, 10), 128, 3, (3, 215), (3, 216), (3, 214), some (none), ⟨"SecureLines", "shared", "(IIJ)I"⟩, "", (0, 0), (0, 0), (0, 0)), ((167, 11), 439, 3, (14, 59), (14, 60), (14, 58), some (none), ⟨"SecureLinesModel", "shared", "(IIJ)I"⟩, "", (0, 0), (0, 0), (0, 0)), ((168, 10), 131, 2, (4, 33), (4, 34), (4, 32), some (none), ⟨"SecureLines", "forget", "(II)I"⟩, "", (0, 0), (0, 0), (0, 0)), ((171, 11), 440, 2, (14, 64), (14, 65), (14, 63), some (none), ⟨"SecureLinesModel", "forget", "(II)I"⟩, "", (0, 0), (0, 0), (0, 0)), ((172, 10), 133, 3, (4, 41), (4, 42), (4, 40), some (none), ⟨"SecureLines", "ticket", "(III)I"⟩, "", (0, 0), (0, 0), (0, 0)), ((175, 11), 441, 3, (14, 68), (14, 69), (14, 67), some (none), ⟨"SecureLinesModel", "ticket", "(III)I"⟩, "", (0, 0), (0, 0), (0, 0)), ((176, 10), 135, 1, (4, 49), (4, 50), (4, 48), some (none), ⟨"SecureLines", "early", "(I)I"⟩, "", (0, 0), (0, 0), (0, 0)), ((179, 11), 442, 1, (14, 73), (14, 74), (14, 72), some (none), ⟨"SecureLinesModel", "early", "(I)I"⟩, "", (0, 0), (0, 0), (0, 0)), ((180, 10), 136, 2, (4, 53), (4, 54), (4, 52), some (none), ⟨"SecureLines", "connection", "(II)I"⟩, "", (0, 0), (0, 0), (0, 0)), ((183, 11), 461, 2, (14, 152), (14, 153), (14, 151), some (none), ⟨"SecureLinesModel", "connection", "(II)I"⟩, "", (0, 0), (0, 0), (0, 0)), ((184, 10), 167, 2, (5, 195), (5, 196), (5, 194), some (none), ⟨"SecureLines", "give", "(II)I"⟩, "", (0, 0), (0, 0), (0, 0)), ((187, 11), 483, 2, (15, 0), (15, 1), (14, 239), some (none), ⟨"SecureLinesModel", "give", "(II)I"⟩, "", (0, 0), (0, 0), (0, 0)), ((188, 10), 258, 3, (8, 38), (8, 39), (8, 37), some (none), ⟨"SecureLines", "bring", "(III)I"⟩, "", (0, 0), (0, 0), (0, 0)), ((191, 11), 550, 3, (16, 29), (16, 30), (16, 28), some (none), ⟨"SecureLinesModel", "bring", "(III)I"⟩, "", (0, 0), (0, 0), (0, 0)), ((192, 10), 259, 3, (8, 44), (8, 45), (8, 43), some (none), ⟨"SecureLines", "line", "(III)I"⟩, "", (0, 0), (0, 0), (0, 0)), ((195, 11), 551, 3, (16, 34), (16, 35), (16, 33), some (none), ⟨"SecureLinesModel", "line", "(III)I"⟩, "", (0, 0), (0, 0), (0, 0)), ((196, 10), 260, 4, (8, 48), (8, 49), (8, 47), some (none), ⟨"SecureLines", "alte\x72", "(IIII)I"⟩, "", (0, 0), (0, 0), (0, 0)), ((199, 11), 552, 4, (16, 38), (16, 39), (16, 37), some (none), ⟨"SecureLinesModel", "alte\x72", "(IIII)I"⟩, "", (0, 0), (0, 0), (0, 0)), ((200, 10), 261, 2, (8, 52), (8, 53), (8, 51), some (none), ⟨"SecureLines", "say", "(II)I"⟩, "", (0, 0), (0, 0), (0, 0)), ((203, 11), 553, 2, (16, 42), (16, 43), (16, 41), some (none), ⟨"SecureLinesModel", "say", "(II)I"⟩, "", (0, 0), (0, 0), (0, 0)), ((204, 10), 263, 2, (8, 63), (8, 64), (8, 62), some (none), ⟨"SecureLines", "hea\x72", "(II)I"⟩, "", (0, 0), (0, 0), (0, 0)), ((207, 11), 555, 2, (16, 50), (16, 51), (16, 49), some (none), ⟨"SecureLinesModel", "hea\x72", "(II)I"⟩, "", (0, 0), (0, 0), (0, 0))]
def aLV_14_3 : List (am_vE) := [((208, 10), 265, 2, (8, 73), (8, 74), (8, 72), some (none), ⟨"SecureLines", "close", "(II)I"⟩, "", (0, 0), (0, 0), (0, 0)), ((211, 11), 556, 2, (16, 54), (16, 55), (16, 53), some (none), ⟨"SecureLinesModel", "close", "(II)I"⟩, "", (0, 0), (0, 0), (0, 0)), ((212, 10), 266, 3, (8, 78), (8, 79), (8, 77), some (none), ⟨"SecureLines", "renew", "(III)I"⟩, "", (0, 0), (0, 0), (0, 0)), ((215, 11), 557, 3, (16, 58), (16, 59), (16, 57), some (none), ⟨"SecureLinesModel", "renew", "(III)I"⟩, "", (0, 0), (0, 0), (0, 0)), ((216, 10), 267, 3, (8, 85), (8, 86), (8, 84), some (none), ⟨"SecureLines", "told", "(III)I"⟩, "", (0, 0), (0, 0), (0, 0)), ((219, 11), 558, 3, (16, 62), (16, 63), (16, 61), some (none), ⟨"SecureLinesModel", "told", "(III)I"⟩, "", (0, 0), (0, 0), (0, 0)), ((220, 10), 268, 3, (8, 89), (8, 90), (8, 88), some (none), ⟨"SecureLines", "key", "(III)J"⟩, "", (0, 0), (0, 0), (0, 0)), ((223, 11), 559, 3, (16, 67), (16, 68), (16, 66), some (none), ⟨"SecureLinesModel", "key", "(III)J"⟩, "", (0, 0), (0, 0), (0, 0)), ((224, 10), 269, 2, (8, 94), (8, 95), (8, 93), some (none), ⟨"SecureLines", "export", "(II)J"⟩, "", (0, 0), (0, 0), (0, 0)), ((227, 11), 560, 2, (16, 71), (16, 72), (16, 70), some (none), ⟨"SecureLinesModel", "export", "(II)J"⟩, "", (0, 0), (0, 0), (0, 0)), ((228, 10), 270, 3, (8, 98), (8, 99), (8, 97), some (none), ⟨"SecureLines", "office", "(III)I"⟩, "", (0, 0), (0, 0), (0, 0)), ((231, 11), 443, 3, (14, 77), (14, 78), (14, 76), some (none), ⟨"SecureLinesModel", "office", "(III)I"⟩, "", (0, 0), (0, 0), (0, 0)), ((232, 10), 272, 2, (8, 170), (8, 171), (8, 169), some (none), ⟨"SecureLines", "account", "(IJ)I"⟩, "", (0, 0), (0, 0), (0, 0)), ((235, 11), 444, 2, (14, 81), (14, 82), (14, 80), some (none), ⟨"SecureLinesModel", "account", "(IJ)I"⟩, "", (0, 0), (0, 0), (0, 0)), ((236, 10), 275, 2, (8, 182), (8, 183), (8, 181), some (none), ⟨"SecureLines", "orde\x72", "(II)I"⟩, "", (0, 0), (0, 0), (0, 0)), ((239, 11), 446, 2, (14, 89), (14, 90), (14, 88), some (none), ⟨"SecureLinesModel", "orde\x72", "(II)I"⟩, "", (0, 0), (0, 0), (0, 0)), ((240, 10), 280, 3, (8, 203), (8, 204), (8, 202), some (none), ⟨"SecureLines", "ordered", "(III)I"⟩, "", (0, 0), (0, 0), (0, 0)), ((243, 11), 447, 3, (14, 93), (14, 94), (14, 92), some (none), ⟨"SecureLinesModel", "ordered", "(III)I"⟩, "", (0, 0), (0, 0), (0, 0)), ((244, 10), 283, 1, (8, 215), (8, 216), (8, 214), some (none), ⟨"SecureLines", "zone", "(J)I"⟩, "", (0, 0), (0, 0), (0, 0)), ((248, 11), 449, 1, (14, 102), (14, 103), (14, 101), some (none), ⟨"SecureLinesModel", "zone", "(J)I"⟩, "", (0, 0), (0, 0), (0, 0)), ((249, 10), 285, 3, (8, 224), (8, 225), (8, 223), some (none), ⟨"SecureLines", "challenge", "(III)I"⟩, "", (0, 0), (0, 0), (0, 0)), ((252, 11), 450, 3, (14, 106), (14, 107), (14, 105), some (none), ⟨"SecureLinesModel", "challenge", "(III)I"⟩, "", (0, 0), (0, 0), (0, 0)), ((253, 10), 289, 4, (9, 2), (9, 3), (9, 1), some (none), ⟨"SecureLines", "issue", "(IIII)I"⟩, "", (0, 0), (0, 0), (0, 0)), ((256, 11), 452, 4, (14, 113), (14, 114), (14, 112), some (none), ⟨"SecureLinesModel", "issue", "(IIII)I"⟩, "", (0, 0), (0, 0), (0, 0)), ((257, 10), 298, 2, (9, 55), (9, 56), (9, 54), some (none), ⟨"SecureLines", "revoke", "(II)I"⟩, "", (0, 0), (0, 0), (0, 0)), ((260, 11), 457, 2, (14, 136), (14, 137), (14, 135), some (none), ⟨"SecureLinesModel", "revoke", "(II)I"⟩, "", (0, 0), (0, 0), (0, 0)), ((261, 10), 302, 2, (9, 71), (9, 72), (9, 70), some (none), ⟨"SecureLines", "publish", "(II)I"⟩, "", (0, 0), (0, 0), (0, 0)), ((264, 11), 459, 2, (14, 144), (14, 145), (14, 143), some (none), ⟨"SecureLinesModel", "publish", "(II)I"⟩, "", (0, 0), (0, 0), (0, 0)), ((265, 10), 304, 3, (9, 79), (9, 80), (9, 78), some (none), ⟨"SecureLines", "respond", "(III)I"⟩, "", (0, 0), (0, 0), (0, 0)), ((268, 11), 460, 3, (14, 148), (14, 149), (14, 147), some (none), ⟨"SecureLinesModel", "respond", "(III)I"⟩, "", (0, 0), (0, 0), (0, 0))]
def aLV_14_4 : List (am_vE) := [((269, 10), 306, 0, (9, 87), (9, 88), (9, 86), some (none), ⟨"SecureLines", "log", "()I"⟩, "", (0, 0), (0, 0), (0, 0)), ((272, 11), 365, 0, (13, 1), (13, 2), (13, 0), some (none), ⟨"SecureLinesModel", "log", "()I"⟩, "", (0, 0), (0, 0), (0, 0)), ((273, 10), 307, 2, (9, 91), (9, 92), (9, 90), some (none), ⟨"SecureLines", "add", "(IJ)I"⟩, "", (0, 0), (0, 0), (0, 0)), ((276, 11), 366, 2, (13, 5), (13, 6), (13, 4), some (none), ⟨"SecureLinesModel", "add", "(IJ)I"⟩, "", (0, 0), (0, 0), (0, 0)), ((277, 10), 309, 2, (9, 99), (9, 100), (9, 98), some (none), ⟨"SecureLines", "head", "(II)J"⟩, "", (0, 0), (0, 0), (0, 0)), ((280, 11), 367, 2, (13, 9), (13, 10), (13, 8), some (none), ⟨"SecureLinesModel", "head", "(II)J"⟩, "", (0, 0), (0, 0), (0, 0)), ((281, 10), 313, 3, (9, 119), (9, 120), (9, 118), some (none), ⟨"SecureLines", "inclusion", "(III)I"⟩, "", (0, 0), (0, 0), (0, 0)), ((284, 11), 371, 3, (13, 25), (13, 26), (13, 24), some (none), ⟨"SecureLinesModel", "inclusion", "(III)I"⟩, "", (0, 0), (0, 0), (0, 0)), ((285, 10), 316, 3, (9, 131), (9, 132), (9, 130), some (none), ⟨"SecureLines", "consistency", "(III)I"⟩, "", (0, 0), (0, 0), (0, 0)), ((288, 11), 374, 3, (13, 36), (13, 37), (13, 35), some (none), ⟨"SecureLinesModel", "consistency", "(III)I"⟩, "", (0, 0), (0, 0), (0, 0)), ((289, 10), 317, 4, (9, 135), (9, 136), (9, 134), some (none), ⟨"SecureLines", "included", "(JIIJ)I"⟩, "", (0, 0), (0, 0), (0, 0)), ((293, 11), 375, 4, (13, 40), (13, 41), (13, 39), some (none), ⟨"SecureLinesModel", "included", "(JIIJ)I"⟩, "", (0, 0), (0, 0), (0, 0)), ((294, 10), 318, 4, (9, 140), (9, 141), (9, 139), some (none), ⟨"SecureLines", "consistent", "(IIJJ)I"⟩, "", (0, 0), (0, 0), (0, 0)), ((298, 11), 377, 4, (13, 49), (13, 50), (13, 48), some (none), ⟨"SecureLinesModel", "consistent", "(IIJJ)I"⟩, "", (0, 0), (0, 0), (0, 0))]
def aLV_14 : List (am_vE) := aLV_14_0 ++ (aLV_14_1 ++ (aLV_14_2 ++ (aLV_14_3 ++ (aLV_14_4))))
def aLV : List (List (am_vE)) := [aLV_0, aLV_1, aLV_2, aLV_3, aLV_4, aLV_5, aLV_6, aLV_7, aLV_8, aLV_9, aLV_10, aLV_11, aLV_12, aLV_13, aLV_14]
def aLN_0_0 : List (Nat × (Nat × List am_Pos)) := [(1, 2, [(0, 22), (0, 23), (0, 24)]), (58, 103, [(1, 21), (1, 20)]), (349, 11, [(8, 41), (1, 98), (0, 5), (1, 99)])]
def aLN_0 : List (Nat × (Nat × List am_Pos)) := aLN_0_0
def aLN_1_0 : List (Nat × (Nat × List am_Pos)) := [(3, 2, [(0, 30), (0, 23), (0, 24)])]
def aLN_1 : List (Nat × (Nat × List am_Pos)) := aLN_1_0
def aLN_2_0 : List (Nat × (Nat × List am_Pos)) := [(1, 2, [(0, 36), (0, 23), (0, 24)]), (103, 10, [(2, 18), (0, 63), (0, 5), (0, 64)])]
def aLN_2 : List (Nat × (Nat × List am_Pos)) := aLN_2_0
def aLN_3_0 : List (Nat × (Nat × List am_Pos)) := [(1, 2, [(0, 61), (0, 23), (0, 24)]), (7, 10, [(0, 62), (0, 63), (0, 5), (0, 64)]), (43, 1, [(1, 123), (1, 102), (1, 101), (0, 10)]), (49, 11, [(5, 59), (1, 98), (0, 5), (1, 99)])]
def aLN_3 : List (Nat × (Nat × List am_Pos)) := aLN_3_0
def aLN_4_0 : List (Nat × (Nat × List am_Pos)) := [(1, 2, [(0, 94), (0, 23), (0, 24)])]
def aLN_4 : List (Nat × (Nat × List am_Pos)) := aLN_4_0
def aLN_5_0 : List (Nat × (Nat × List am_Pos)) := [(3, 2, [(0, 120), (0, 23), (0, 24)]), (22, 10, [(0, 121), (0, 63), (0, 5), (0, 64)]), (68, 1, [(2, 131), (1, 102), (1, 101), (0, 10)])]
def aLN_5 : List (Nat × (Nat × List am_Pos)) := aLN_5_0
def aLN_6_0 : List (Nat × (Nat × List am_Pos)) := [(316, 3, [(1, 90), (1, 91), (1, 92), (1, 93), (1, 94), (1, 95)]), (317, 4, [(1, 96)]), (304, 11, [(1, 97), (1, 98), (0, 5), (1, 99)]), (150, 1, [(1, 100), (1, 102), (1, 101), (0, 10)])]
def aLN_6 : List (Nat × (Nat × List am_Pos)) := aLN_6_0
def aLN_7_0 : List (Nat × (Nat × List am_Pos)) := [(1, 2, [(3, 80), (0, 23), (0, 24)]), (85, 11, [(8, 13), (1, 98), (0, 5), (1, 99)])]
def aLN_7 : List (Nat × (Nat × List am_Pos)) := aLN_7_0
def aLN_8_0 : List (Nat × (Nat × List am_Pos)) := [(1, 2, [(3, 223), (0, 23), (0, 24)])]
def aLN_8 : List (Nat × (Nat × List am_Pos)) := aLN_8_0
def aLN_9_0 : List (Nat × (Nat × List am_Pos)) := [(227, 13, [(7, 191), (7, 192), (0, 5), (7, 193)])]
def aLN_9 : List (Nat × (Nat × List am_Pos)) := aLN_9_0
def aLN_10_0 : List (Nat × (Nat × List am_Pos)) := [(3, 2, [(4, 64), (0, 23), (0, 24)]), (69, 11, [(5, 169), (1, 98), (0, 5), (1, 99)]), (79, 10, [(5, 216), (0, 63), (0, 5), (0, 64)])]
def aLN_10 : List (Nat × (Nat × List am_Pos)) := aLN_10_0
def aLN_11_0 : List (Nat × (Nat × List am_Pos)) := []
def aLN_11 : List (Nat × (Nat × List am_Pos)) := aLN_11_0
def aLN_12_0 : List (Nat × (Nat × List am_Pos)) := [(3, 2, [(8, 105), (0, 23), (0, 24)]), (180, 12, [(9, 42), (9, 43), (0, 5), (9, 44)])]
def aLN_12 : List (Nat × (Nat × List am_Pos)) := aLN_12_0
def aLN_13_0 : List (Nat × (Nat × List am_Pos)) := [(1, 2, [(9, 148), (0, 23), (0, 24)])]
def aLN_13 : List (Nat × (Nat × List am_Pos)) := aLN_13_0
def aLN_14_0 : List (Nat × (Nat × List am_Pos)) := []
def aLN_14 : List (Nat × (Nat × List am_Pos)) := aLN_14_0
def aLN : List (List (Nat × (Nat × List am_Pos))) := [aLN_0, aLN_1, aLN_2, aLN_3, aLN_4, aLN_5, aLN_6, aLN_7, aLN_8, aLN_9, aLN_10, aLN_11, aLN_12, aLN_13, aLN_14]
def aLG : List ((Nat × Nat) × am_Pos) := [((11, 0), (16, 107)), ((5, 1), (0, 0)), ((6, 4), (0, 0)), ((7, 5), (0, 0)), ((8, 6), (0, 0)), ((9, 7), (0, 0)), ((11, 8), (16, 106)), ((10, 9), (0, 0))]
def aLB : List (Nat × Nat) := [(4, 0)]
def aC_0 : am_cE := ((0, [(5, 18), (5, 19), (5, 20), (5, 21), (5, 22), (5, 23), (5, 24), (5, 25), (5, 26), (5, 27), (5, 28), (5, 29), (5, 30), (5, 31), (5, 32), (5, 33), (5, 34), (5, 35), (5, 36), (4, 234), (4, 236), (4, 238), (5, 0), (5, 2), (5, 4), (5, 6), (5, 8), (5, 10), (5, 12), (5, 14), (5, 16)]), ((4, 216), (0, 15)), [.null, .null, .null, .null, .null, .null, .null, .null, .int 0, .int 0, .int 0, .int 0, .int 0, .int 0, .null, .long 0, .long 0, .long 0, .int 0, .long 0, .int 0, .int 0, .int 0, .null, .int 0, .int 0, .int 0, .long 0, .int 0, .int 0, .int 0])
def aC_1 : am_cE := ((1, [(3, 132), (3, 134), (3, 136), (3, 138), (3, 140), (3, 142), (3, 144), (3, 146), (3, 148), (3, 150), (3, 152), (3, 154), (3, 156), (3, 158), (3, 160), (3, 162), (3, 164)]), ((3, 76), (0, 11)), [.int 0, .null, .null, .null, .null, .int 0, .null, .int 0, .int 0, .null, .null, .int 0, .null, .null, .int 0, .long 0, .int 0])
def aC_2 : am_cE := ((2, [(0, 103), (0, 105), (0, 107), (0, 109), (0, 111)]), ((0, 90), (0, 6)), [.null, .null, .null, .int 0, .int 0])
def aC_3 : am_cE := ((3, [(0, 210), (0, 212), (0, 214), (0, 216), (0, 218), (0, 220), (0, 222), (0, 224), (0, 226), (0, 228), (0, 230), (0, 232), (0, 234), (0, 236), (0, 238), (1, 0), (1, 2), (1, 4), (1, 6), (1, 8)]), ((0, 26), (0, 2)), [.int 0, .null, .null, .null, .null, .null, .null, .null, .null, .int 0, .null, .int 0, .null, .int 0, .null, .null, .null, .int 0, .null, .int 0])
def aC_4 : am_cE := ((4, [(0, 43), (0, 45), (0, 47), (0, 49), (0, 51), (0, 53)]), ((0, 32), (0, 3)), [.int 0, .int 0, .int 0, .int 0, .long 0, .int 0])
def aC_5 : am_cE := ((5, [(8, 130), (8, 132), (8, 134), (8, 136), (8, 138), (8, 140), (8, 142), (8, 144), (8, 146), (8, 148), (8, 150), (8, 152), (8, 154), (8, 156), (8, 158), (8, 160), (8, 162), (8, 164), (8, 166)]), ((8, 101), (0, 16)), [.null, .null, .int 0, .int 0, .null, .int 0, .null, .null, .null, .null, .int 0, .null, .null, .null, .int 0, .int 0, .null, .int 0, .int 0])
def aC_6 : am_cE := ((6, [(0, 140), (0, 142), (0, 144), (0, 146), (0, 148), (0, 150), (0, 152)]), ((0, 116), (0, 7)), [.null, .null, .null, .long 0, .int 0, .int 0, .null])
def aC_7 : am_cE := ((7, [(0, 83), (0, 85)]), ((0, 57), (0, 4)), [.null, .int 0])
def aC_8 : am_cE := ((8, [(4, 176), (4, 178), (4, 180), (4, 182), (4, 184), (4, 186), (4, 188), (4, 190), (4, 192), (4, 194), (4, 196), (4, 198), (4, 200), (4, 202), (4, 204), (4, 206), (4, 208), (4, 210), (4, 212), (4, 146), (4, 148), (4, 150), (4, 152), (4, 154), (4, 156), (4, 158), (4, 160), (4, 162), (4, 164), (4, 166), (4, 168), (4, 170), (4, 172), (4, 174)]), ((4, 57), (0, 14)), [.null, .null, .null, .null, .null, .null, .null, .null, .int 0, .int 0, .int 0, .int 0, .int 0, .int 0, .null, .long 0, .long 0, .long 0, .int 0, .int 0, .int 0, .int 0, .null, .int 0, .int 0, .int 0, .long 0, .int 0, .long 0, .int 0, .int 0, .int 0, .null, .long 0])
def aC_9 : am_cE := ((9, [(4, 9), (4, 11), (4, 13), (4, 15), (4, 17), (4, 19), (4, 21), (4, 23), (4, 25)]), ((3, 219), (0, 12)), [.null, .int 0, .long 0, .int 0, .int 0, .int 0, .int 0, .int 0, .int 0])
def aC_10 : am_cE := ((10, [(1, 40), (1, 42), (1, 44), (1, 46), (1, 48), (1, 50), (1, 52), (1, 54), (1, 56), (1, 58), (1, 60), (1, 62), (1, 64), (1, 66), (1, 68), (1, 70), (1, 72), (1, 74)]), ((0, 18), (0, 1)), [.null, .null, .null, .null, .int 0, .null, .int 0, .null, .int 0, .null, .int 0, .null, .null, .int 0, .null, .null, .int 0, .null])
def aC_11 : am_cE := ((11, [(10, 118), (10, 120), (10, 122), (10, 124), (10, 126), (10, 128), (10, 130), (10, 132), (10, 134), (10, 136), (10, 138), (10, 140), (10, 142), (10, 144), (10, 146), (10, 148), (10, 150), (10, 152), (10, 154), (10, 156), (10, 158), (10, 160), (10, 162), (10, 164), (10, 166), (10, 168), (10, 170), (10, 172), (10, 174), (10, 176), (10, 178), (10, 180), (10, 182), (10, 184), (10, 186), (10, 188), (10, 190), (10, 192), (10, 194), (10, 196), (10, 198), (10, 200), (10, 202), (10, 204), (10, 206), (10, 208), (10, 210), (10, 212), (10, 214), (10, 216), (10, 218), (10, 220), (10, 222), (10, 224), (10, 226), (10, 228), (10, 230), (10, 232), (10, 234), (10, 236), (10, 238), (11, 0), (11, 2), (11, 4), (11, 6), (11, 8), (11, 10), (11, 12), (11, 14), (11, 16), (11, 18), (11, 20), (11, 22), (11, 24), (11, 26), (11, 28), (11, 30), (11, 32), (11, 34), (11, 36), (11, 38), (11, 40), (11, 42), (11, 44), (11, 46), (11, 48), (11, 50), (11, 52), (11, 54), (11, 56), (11, 58), (11, 60), (11, 62), (11, 64), (11, 66), (11, 68), (11, 70), (11, 72), (11, 74), (11, 76), (11, 78), (11, 80), (11, 82), (11, 84), (11, 86), (11, 88), (11, 90), (11, 92), (11, 94), (11, 96), (11, 98), (11, 100), (11, 102), (11, 104), (11, 106), (11, 108), (11, 110), (11, 112), (11, 114), (11, 116), (11, 118), (11, 120), (11, 122), (11, 124), (11, 126), (11, 128), (11, 130), (11, 132), (11, 134), (11, 136), (11, 138), (11, 140), (11, 142), (11, 144), (11, 146), (11, 148), (11, 150), (11, 152), (11, 154), (11, 156), (11, 158), (11, 160), (11, 162), (11, 164), (11, 166), (11, 168), (11, 170), (11, 172), (11, 174), (11, 176), (11, 178), (11, 180), (11, 182), (11, 184), (11, 186), (11, 188), (11, 190), (11, 192), (11, 194), (11, 196), (11, 198), (11, 200), (11, 202), (11, 204), (11, 206), (11, 208), (11, 210), (11, 212), (11, 214), (11, 216), (11, 218), (11, 220), (11, 222), (11, 224), (11, 226), (11, 228), (11, 230), (11, 232), (11, 234), (11, 236), (11, 238), (12, 0), (12, 2), (12, 4), (12, 6), (12, 8), (12, 10), (12, 12), (12, 14), (12, 16), (12, 18), (12, 20), (12, 22), (12, 24), (12, 26), (12, 28), (12, 30), (12, 32), (12, 34), (12, 36), (12, 38), (12, 40), (12, 42), (12, 44), (12, 46), (12, 48)]), ((9, 144), (0, 8)), [.null, .int 0, .null, .int 0, .int 0, .int 0, .int 0, .int 0, .int 0, .int 0, .long 0, .int 0, .int 0, .null, .null, .null, .null, .null, .int 0, .null, .null, .int 0, .int 0, .null, .int 0, .int 0, .int 0, .int 0, .null, .null, .null, .null, .null, .null, .null, .null, .null, .int 0, .null, .null, .null, .int 0, .null, .null, .null, .null, .int 0, .int 0, .null, .int 0, .null, .int 0, .int 0, .null, .null, .null, .null, .null, .null, .null, .null, .null, .null, .null, .null, .null, .null, .null, .null, .null, .null, .null, .null, .null, .null, .null, .null, .null, .null, .null, .null, .null, .null, .null, .null, .int 0, .null, .null, .null, .null, .null, .null, .null, .null, .null, .null, .null, .null, .null, .null, .null, .null, .null, .null, .null, .int 0, .null, .null, .null, .null, .null, .int 0, .null, .null, .null, .null, .null, .null, .null, .null, .null, .null, .null, .null, .null, .null, .null, .null, .null, .null, .null, .null, .null, .null, .null, .null, .null, .null, .null, .null, .null, .null, .null, .null, .null, .null, .null, .null, .null, .null, .null, .null, .null, .null, .null, .null, .null, .null, .null, .null, .null, .null, .null, .null, .null, .null, .null, .null, .null, .null, .null, .null, .null, .null, .null, .null, .null, .null, .null, .null, .null, .null, .null, .null, .null, .null, .null, .null, .null, .int 0, .long 0, .null, .null, .null, .int 0, .int 0, .int 0, .int 0, .int 0, .int 0, .int 0, .int 0, .int 0, .int 0, .int 0, .null])
def aLC : List am_cE := [aC_0, aC_1, aC_2, aC_3, aC_4, aC_5, aC_6, aC_7, aC_8, aC_9, aC_10, aC_11]
def aZn : List (String × String × String) := [("SecureLines$Mill", "BASES", "[I"), ("SecureLines$Mill", "PRIMES", "[I"), ("SecureLines$End", "SETTINGS_MOST", "[I")]
def aP (sa : Nat → Nat) : am_P := am_mkP aOn aKd aLM aLF aTy aLK aLW aLC aLA aLZ sa aLS aLI aLV aLN aLG aLB
end
section
set_option maxRecDepth 100000 in
set_option maxHeartbeats 4000000 in
theorem a_cM_0 : aLM_0.all (am_okM aOn aT) = true := by decide +kernel
set_option maxRecDepth 100000 in
set_option maxHeartbeats 4000000 in
theorem a_cM_1 : aLM_1.all (am_okM aOn aT) = true := by decide +kernel
set_option maxRecDepth 100000 in
set_option maxHeartbeats 4000000 in
theorem a_cM_2 : aLM_2.all (am_okM aOn aT) = true := by decide +kernel
set_option maxRecDepth 100000 in
set_option maxHeartbeats 4000000 in
theorem a_cM_3 : aLM_3.all (am_okM aOn aT) = true := by decide +kernel
set_option maxRecDepth 100000 in
set_option maxHeartbeats 4000000 in
theorem a_cM_4 : aLM_4.all (am_okM aOn aT) = true := by decide +kernel
set_option maxRecDepth 100000 in
set_option maxHeartbeats 4000000 in
theorem a_cM_5 : aLM_5.all (am_okM aOn aT) = true := by decide +kernel
set_option maxRecDepth 100000 in
set_option maxHeartbeats 4000000 in
theorem a_cM_6 : aLM_6.all (am_okM aOn aT) = true := by decide +kernel
set_option maxRecDepth 100000 in
set_option maxHeartbeats 4000000 in
theorem a_cM_7 : aLM_7.all (am_okM aOn aT) = true := by decide +kernel
set_option maxRecDepth 100000 in
set_option maxHeartbeats 4000000 in
theorem a_cM_8 : aLM_8.all (am_okM aOn aT) = true := by decide +kernel
set_option maxRecDepth 100000 in
set_option maxHeartbeats 4000000 in
theorem a_cM_9 : aLM_9.all (am_okM aOn aT) = true := by decide +kernel
set_option maxRecDepth 100000 in
set_option maxHeartbeats 4000000 in
theorem a_cM_10 : aLM_10.all (am_okM aOn aT) = true := by decide +kernel
set_option maxRecDepth 100000 in
set_option maxHeartbeats 4000000 in
theorem a_cM_11 : aLM_11.all (am_okM aOn aT) = true := by decide +kernel
set_option maxRecDepth 100000 in
set_option maxHeartbeats 4000000 in
theorem a_cM_12 : aLM_12.all (am_okM aOn aT) = true := by decide +kernel
set_option maxRecDepth 100000 in
set_option maxHeartbeats 4000000 in
theorem a_cM_13 : aLM_13.all (am_okM aOn aT) = true := by decide +kernel
set_option maxRecDepth 100000 in
set_option maxHeartbeats 4000000 in
theorem a_cM_14 : aLM_14.all (am_okM aOn aT) = true := by decide +kernel
set_option maxRecDepth 100000 in
set_option maxHeartbeats 4000000 in
theorem a_cM_15 : aLM_15.all (am_okM aOn aT) = true := by decide +kernel
set_option maxRecDepth 100000 in
set_option maxHeartbeats 4000000 in
theorem a_cM_16 : aLM_16.all (am_okM aOn aT) = true := by decide +kernel
set_option maxRecDepth 100000 in
set_option maxHeartbeats 4000000 in
theorem a_cM_17 : aLM_17.all (am_okM aOn aT) = true := by decide +kernel
set_option maxRecDepth 100000 in
set_option maxHeartbeats 4000000 in
theorem a_cM_18 : aLM_18.all (am_okM aOn aT) = true := by decide +kernel
theorem a_cM : aLM.all (am_okM aOn aT) = true := am_app a_cM_0 (am_app a_cM_1 (am_app a_cM_2 (am_app a_cM_3 (am_app a_cM_4 (am_app a_cM_5 (am_app a_cM_6 (am_app a_cM_7 (am_app a_cM_8 (am_app a_cM_9 (am_app a_cM_10 (am_app a_cM_11 (am_app a_cM_12 (am_app a_cM_13 (am_app a_cM_14 (am_app a_cM_15 (am_app a_cM_16 (am_app a_cM_17 (a_cM_18))))))))))))))))))
set_option maxRecDepth 100000 in
set_option maxHeartbeats 4000000 in
theorem a_cO_0 : am_cdE aT aLM_0 := rfl
set_option maxRecDepth 100000 in
set_option maxHeartbeats 4000000 in
theorem a_cO_1 : am_cdE aT aLM_1 := rfl
set_option maxRecDepth 100000 in
set_option maxHeartbeats 4000000 in
theorem a_cO_2 : am_cdE aT aLM_2 := rfl
set_option maxRecDepth 100000 in
set_option maxHeartbeats 4000000 in
theorem a_cO_3 : am_cdE aT aLM_3 := rfl
set_option maxRecDepth 100000 in
set_option maxHeartbeats 4000000 in
theorem a_cO_4 : am_cdE aT aLM_4 := rfl
set_option maxRecDepth 100000 in
set_option maxHeartbeats 4000000 in
theorem a_cO_5 : am_cdE aT aLM_5 := rfl
set_option maxRecDepth 100000 in
set_option maxHeartbeats 4000000 in
theorem a_cO_6 : am_cdE aT aLM_6 := rfl
set_option maxRecDepth 100000 in
set_option maxHeartbeats 4000000 in
theorem a_cO_7 : am_cdE aT aLM_7 := rfl
set_option maxRecDepth 100000 in
set_option maxHeartbeats 4000000 in
theorem a_cO_8 : am_cdE aT aLM_8 := rfl
set_option maxRecDepth 100000 in
set_option maxHeartbeats 4000000 in
theorem a_cO_9 : am_cdE aT aLM_9 := rfl
set_option maxRecDepth 100000 in
set_option maxHeartbeats 4000000 in
theorem a_cO_10 : am_cdE aT aLM_10 := rfl
set_option maxRecDepth 100000 in
set_option maxHeartbeats 4000000 in
theorem a_cO_11 : am_cdE aT aLM_11 := rfl
set_option maxRecDepth 100000 in
set_option maxHeartbeats 4000000 in
theorem a_cO_12 : am_cdE aT aLM_12 := rfl
set_option maxRecDepth 100000 in
set_option maxHeartbeats 4000000 in
theorem a_cO_13 : am_cdE aT aLM_13 := rfl
set_option maxRecDepth 100000 in
set_option maxHeartbeats 4000000 in
theorem a_cO_14 : am_cdE aT aLM_14 := rfl
set_option maxRecDepth 100000 in
set_option maxHeartbeats 4000000 in
theorem a_cO_15 : am_cdE aT aLM_15 := rfl
set_option maxRecDepth 100000 in
set_option maxHeartbeats 4000000 in
theorem a_cO_16 : am_cdE aT aLM_16 := rfl
set_option maxRecDepth 100000 in
set_option maxHeartbeats 4000000 in
theorem a_cO_17 : am_cdE aT aLM_17 := rfl
set_option maxRecDepth 100000 in
set_option maxHeartbeats 4000000 in
theorem a_cO_18 : am_cdE aT aLM_18 := rfl
theorem a_cO : am_cdE aT aLM := am_cdE_app a_cO_0 (am_cdE_app a_cO_1 (am_cdE_app a_cO_2 (am_cdE_app a_cO_3 (am_cdE_app a_cO_4 (am_cdE_app a_cO_5 (am_cdE_app a_cO_6 (am_cdE_app a_cO_7 (am_cdE_app a_cO_8 (am_cdE_app a_cO_9 (am_cdE_app a_cO_10 (am_cdE_app a_cO_11 (am_cdE_app a_cO_12 (am_cdE_app a_cO_13 (am_cdE_app a_cO_14 (am_cdE_app a_cO_15 (am_cdE_app a_cO_16 (am_cdE_app a_cO_17 (a_cO_18))))))))))))))))))
end
section
set_option maxRecDepth 100000 in
set_option maxHeartbeats 4000000 in
theorem a_cF_0_0 : aLF_0_0.all (am_okF aOn aCl aT 0) = true := by decide +kernel
set_option maxRecDepth 100000 in
set_option maxHeartbeats 4000000 in
theorem a_cF_0_1 : aLF_0_1.all (am_okF aOn aCl aT 0) = true := by decide +kernel
theorem a_cF_0 : aLF_0.all (am_okF aOn aCl aT 0) = true := am_app a_cF_0_0 (a_cF_0_1)
set_option maxRecDepth 100000 in
set_option maxHeartbeats 4000000 in
theorem a_cF_1_0 : aLF_1_0.all (am_okF aOn aCl aT 1) = true := by decide +kernel
theorem a_cF_1 : aLF_1.all (am_okF aOn aCl aT 1) = true := a_cF_1_0
set_option maxRecDepth 100000 in
set_option maxHeartbeats 4000000 in
theorem a_cF_2_0 : aLF_2_0.all (am_okF aOn aCl aT 2) = true := by decide +kernel
theorem a_cF_2 : aLF_2.all (am_okF aOn aCl aT 2) = true := a_cF_2_0
set_option maxRecDepth 100000 in
set_option maxHeartbeats 4000000 in
theorem a_cF_3_0 : aLF_3_0.all (am_okF aOn aCl aT 3) = true := by decide +kernel
theorem a_cF_3 : aLF_3.all (am_okF aOn aCl aT 3) = true := a_cF_3_0
set_option maxRecDepth 100000 in
set_option maxHeartbeats 4000000 in
theorem a_cF_4_0 : aLF_4_0.all (am_okF aOn aCl aT 4) = true := by decide +kernel
theorem a_cF_4 : aLF_4.all (am_okF aOn aCl aT 4) = true := a_cF_4_0
set_option maxRecDepth 100000 in
set_option maxHeartbeats 4000000 in
theorem a_cF_5_0 : aLF_5_0.all (am_okF aOn aCl aT 5) = true := by decide +kernel
theorem a_cF_5 : aLF_5.all (am_okF aOn aCl aT 5) = true := a_cF_5_0
set_option maxRecDepth 100000 in
set_option maxHeartbeats 4000000 in
theorem a_cF_6_0 : aLF_6_0.all (am_okF aOn aCl aT 6) = true := by decide +kernel
theorem a_cF_6 : aLF_6.all (am_okF aOn aCl aT 6) = true := a_cF_6_0
set_option maxRecDepth 100000 in
set_option maxHeartbeats 4000000 in
theorem a_cF_7_0 : aLF_7_0.all (am_okF aOn aCl aT 7) = true := by decide +kernel
theorem a_cF_7 : aLF_7.all (am_okF aOn aCl aT 7) = true := a_cF_7_0
set_option maxRecDepth 100000 in
set_option maxHeartbeats 4000000 in
theorem a_cF_8_0 : aLF_8_0.all (am_okF aOn aCl aT 8) = true := by decide +kernel
theorem a_cF_8 : aLF_8.all (am_okF aOn aCl aT 8) = true := a_cF_8_0
set_option maxRecDepth 100000 in
set_option maxHeartbeats 4000000 in
theorem a_cF_9_0 : aLF_9_0.all (am_okF aOn aCl aT 9) = true := by decide +kernel
set_option maxRecDepth 100000 in
set_option maxHeartbeats 4000000 in
theorem a_cF_9_1 : aLF_9_1.all (am_okF aOn aCl aT 9) = true := by decide +kernel
theorem a_cF_9 : aLF_9.all (am_okF aOn aCl aT 9) = true := am_app a_cF_9_0 (a_cF_9_1)
set_option maxRecDepth 100000 in
set_option maxHeartbeats 4000000 in
theorem a_cF_10_0 : aLF_10_0.all (am_okF aOn aCl aT 10) = true := by decide +kernel
set_option maxRecDepth 100000 in
set_option maxHeartbeats 4000000 in
theorem a_cF_10_1 : aLF_10_1.all (am_okF aOn aCl aT 10) = true := by decide +kernel
theorem a_cF_10 : aLF_10.all (am_okF aOn aCl aT 10) = true := am_app a_cF_10_0 (a_cF_10_1)
set_option maxRecDepth 100000 in
set_option maxHeartbeats 4000000 in
theorem a_cF_11_0 : aLF_11_0.all (am_okF aOn aCl aT 11) = true := by decide +kernel
set_option maxRecDepth 100000 in
set_option maxHeartbeats 4000000 in
theorem a_cF_11_1 : aLF_11_1.all (am_okF aOn aCl aT 11) = true := by decide +kernel
theorem a_cF_11 : aLF_11.all (am_okF aOn aCl aT 11) = true := am_app a_cF_11_0 (a_cF_11_1)
set_option maxRecDepth 100000 in
set_option maxHeartbeats 4000000 in
theorem a_cF_12_0 : aLF_12_0.all (am_okF aOn aCl aT 12) = true := by decide +kernel
theorem a_cF_12 : aLF_12.all (am_okF aOn aCl aT 12) = true := a_cF_12_0
set_option maxRecDepth 100000 in
set_option maxHeartbeats 4000000 in
theorem a_cF_13_0 : aLF_13_0.all (am_okF aOn aCl aT 13) = true := by decide +kernel
set_option maxRecDepth 100000 in
set_option maxHeartbeats 4000000 in
theorem a_cF_13_1 : aLF_13_1.all (am_okF aOn aCl aT 13) = true := by decide +kernel
set_option maxRecDepth 100000 in
set_option maxHeartbeats 4000000 in
theorem a_cF_13_2 : aLF_13_2.all (am_okF aOn aCl aT 13) = true := by decide +kernel
set_option maxRecDepth 100000 in
set_option maxHeartbeats 4000000 in
theorem a_cF_13_3 : aLF_13_3.all (am_okF aOn aCl aT 13) = true := by decide +kernel
set_option maxRecDepth 100000 in
set_option maxHeartbeats 4000000 in
theorem a_cF_13_4 : aLF_13_4.all (am_okF aOn aCl aT 13) = true := by decide +kernel
set_option maxRecDepth 100000 in
set_option maxHeartbeats 4000000 in
theorem a_cF_13_5 : aLF_13_5.all (am_okF aOn aCl aT 13) = true := by decide +kernel
set_option maxRecDepth 100000 in
set_option maxHeartbeats 4000000 in
theorem a_cF_13_6 : aLF_13_6.all (am_okF aOn aCl aT 13) = true := by decide +kernel
theorem a_cF_13 : aLF_13.all (am_okF aOn aCl aT 13) = true := am_app a_cF_13_0 (am_app a_cF_13_1 (am_app a_cF_13_2 (am_app a_cF_13_3 (am_app a_cF_13_4 (am_app a_cF_13_5 (a_cF_13_6))))))
set_option maxRecDepth 100000 in
set_option maxHeartbeats 4000000 in
theorem a_cF_14_0 : aLF_14_0.all (am_okF aOn aCl aT 14) = true := by decide +kernel
theorem a_cF_14 : aLF_14.all (am_okF aOn aCl aT 14) = true := a_cF_14_0
theorem a_cF : am_all aLF (am_okF aOn aCl aT) = true := by
  refine am_all_of fun o l h => ?_
  match o, h with
  | 0, h => cases h; exact a_cF_0
  | 1, h => cases h; exact a_cF_1
  | 2, h => cases h; exact a_cF_2
  | 3, h => cases h; exact a_cF_3
  | 4, h => cases h; exact a_cF_4
  | 5, h => cases h; exact a_cF_5
  | 6, h => cases h; exact a_cF_6
  | 7, h => cases h; exact a_cF_7
  | 8, h => cases h; exact a_cF_8
  | 9, h => cases h; exact a_cF_9
  | 10, h => cases h; exact a_cF_10
  | 11, h => cases h; exact a_cF_11
  | 12, h => cases h; exact a_cF_12
  | 13, h => cases h; exact a_cF_13
  | 14, h => cases h; exact a_cF_14
  | n + 15, h => simp [aLF] at h
set_option maxRecDepth 100000 in
set_option maxHeartbeats 4000000 in
theorem a_cK_0_0 : aLK_0_0.all (am_okK aOn aT 0) = true := by decide +kernel
theorem a_cK_0 : aLK_0.all (am_okK aOn aT 0) = true := a_cK_0_0
set_option maxRecDepth 100000 in
set_option maxHeartbeats 4000000 in
theorem a_cK_1_0 : aLK_1_0.all (am_okK aOn aT 1) = true := by decide +kernel
theorem a_cK_1 : aLK_1.all (am_okK aOn aT 1) = true := a_cK_1_0
set_option maxRecDepth 100000 in
set_option maxHeartbeats 4000000 in
theorem a_cK_2_0 : aLK_2_0.all (am_okK aOn aT 2) = true := by decide +kernel
theorem a_cK_2 : aLK_2.all (am_okK aOn aT 2) = true := a_cK_2_0
set_option maxRecDepth 100000 in
set_option maxHeartbeats 4000000 in
theorem a_cK_3_0 : aLK_3_0.all (am_okK aOn aT 3) = true := by decide +kernel
theorem a_cK_3 : aLK_3.all (am_okK aOn aT 3) = true := a_cK_3_0
set_option maxRecDepth 100000 in
set_option maxHeartbeats 4000000 in
theorem a_cK_4_0 : aLK_4_0.all (am_okK aOn aT 4) = true := by decide +kernel
theorem a_cK_4 : aLK_4.all (am_okK aOn aT 4) = true := a_cK_4_0
set_option maxRecDepth 100000 in
set_option maxHeartbeats 4000000 in
theorem a_cK_5_0 : aLK_5_0.all (am_okK aOn aT 5) = true := by decide +kernel
theorem a_cK_5 : aLK_5.all (am_okK aOn aT 5) = true := a_cK_5_0
set_option maxRecDepth 100000 in
set_option maxHeartbeats 4000000 in
theorem a_cK_6_0 : aLK_6_0.all (am_okK aOn aT 6) = true := by decide +kernel
theorem a_cK_6 : aLK_6.all (am_okK aOn aT 6) = true := a_cK_6_0
set_option maxRecDepth 100000 in
set_option maxHeartbeats 4000000 in
theorem a_cK_7_0 : aLK_7_0.all (am_okK aOn aT 7) = true := by decide +kernel
theorem a_cK_7 : aLK_7.all (am_okK aOn aT 7) = true := a_cK_7_0
set_option maxRecDepth 100000 in
set_option maxHeartbeats 4000000 in
theorem a_cK_8_0 : aLK_8_0.all (am_okK aOn aT 8) = true := by decide +kernel
theorem a_cK_8 : aLK_8.all (am_okK aOn aT 8) = true := a_cK_8_0
set_option maxRecDepth 100000 in
set_option maxHeartbeats 4000000 in
theorem a_cK_9_0 : aLK_9_0.all (am_okK aOn aT 9) = true := by decide +kernel
theorem a_cK_9 : aLK_9.all (am_okK aOn aT 9) = true := a_cK_9_0
set_option maxRecDepth 100000 in
set_option maxHeartbeats 4000000 in
theorem a_cK_10_0 : aLK_10_0.all (am_okK aOn aT 10) = true := by decide +kernel
theorem a_cK_10 : aLK_10.all (am_okK aOn aT 10) = true := a_cK_10_0
set_option maxRecDepth 100000 in
set_option maxHeartbeats 4000000 in
theorem a_cK_11_0 : aLK_11_0.all (am_okK aOn aT 11) = true := by decide +kernel
theorem a_cK_11 : aLK_11.all (am_okK aOn aT 11) = true := a_cK_11_0
set_option maxRecDepth 100000 in
set_option maxHeartbeats 4000000 in
theorem a_cK_12_0 : aLK_12_0.all (am_okK aOn aT 12) = true := by decide +kernel
theorem a_cK_12 : aLK_12.all (am_okK aOn aT 12) = true := a_cK_12_0
set_option maxRecDepth 100000 in
set_option maxHeartbeats 4000000 in
theorem a_cK_13_0 : aLK_13_0.all (am_okK aOn aT 13) = true := by decide +kernel
set_option maxRecDepth 100000 in
set_option maxHeartbeats 4000000 in
theorem a_cK_13_1 : aLK_13_1.all (am_okK aOn aT 13) = true := by decide +kernel
theorem a_cK_13 : aLK_13.all (am_okK aOn aT 13) = true := am_app a_cK_13_0 (a_cK_13_1)
set_option maxRecDepth 100000 in
set_option maxHeartbeats 4000000 in
theorem a_cK_14_0 : aLK_14_0.all (am_okK aOn aT 14) = true := by decide +kernel
theorem a_cK_14 : aLK_14.all (am_okK aOn aT 14) = true := a_cK_14_0
theorem a_cK : am_all aLK (am_okK aOn aT) = true := by
  refine am_all_of fun o l h => ?_
  match o, h with
  | 0, h => cases h; exact a_cK_0
  | 1, h => cases h; exact a_cK_1
  | 2, h => cases h; exact a_cK_2
  | 3, h => cases h; exact a_cK_3
  | 4, h => cases h; exact a_cK_4
  | 5, h => cases h; exact a_cK_5
  | 6, h => cases h; exact a_cK_6
  | 7, h => cases h; exact a_cK_7
  | 8, h => cases h; exact a_cK_8
  | 9, h => cases h; exact a_cK_9
  | 10, h => cases h; exact a_cK_10
  | 11, h => cases h; exact a_cK_11
  | 12, h => cases h; exact a_cK_12
  | 13, h => cases h; exact a_cK_13
  | 14, h => cases h; exact a_cK_14
  | n + 15, h => simp [aLK] at h
set_option maxRecDepth 100000 in
set_option maxHeartbeats 4000000 in
theorem a_cW_0_0 : aLW_0_0.all (am_okW aOn aCl aT 0) = true := by decide +kernel
theorem a_cW_0 : aLW_0.all (am_okW aOn aCl aT 0) = true := a_cW_0_0
set_option maxRecDepth 100000 in
set_option maxHeartbeats 4000000 in
theorem a_cW_1_0 : aLW_1_0.all (am_okW aOn aCl aT 1) = true := by decide +kernel
theorem a_cW_1 : aLW_1.all (am_okW aOn aCl aT 1) = true := a_cW_1_0
set_option maxRecDepth 100000 in
set_option maxHeartbeats 4000000 in
theorem a_cW_2_0 : aLW_2_0.all (am_okW aOn aCl aT 2) = true := by decide +kernel
theorem a_cW_2 : aLW_2.all (am_okW aOn aCl aT 2) = true := a_cW_2_0
set_option maxRecDepth 100000 in
set_option maxHeartbeats 4000000 in
theorem a_cW_3_0 : aLW_3_0.all (am_okW aOn aCl aT 3) = true := by decide +kernel
theorem a_cW_3 : aLW_3.all (am_okW aOn aCl aT 3) = true := a_cW_3_0
set_option maxRecDepth 100000 in
set_option maxHeartbeats 4000000 in
theorem a_cW_4_0 : aLW_4_0.all (am_okW aOn aCl aT 4) = true := by decide +kernel
theorem a_cW_4 : aLW_4.all (am_okW aOn aCl aT 4) = true := a_cW_4_0
set_option maxRecDepth 100000 in
set_option maxHeartbeats 4000000 in
theorem a_cW_5_0 : aLW_5_0.all (am_okW aOn aCl aT 5) = true := by decide +kernel
theorem a_cW_5 : aLW_5.all (am_okW aOn aCl aT 5) = true := a_cW_5_0
set_option maxRecDepth 100000 in
set_option maxHeartbeats 4000000 in
theorem a_cW_6_0 : aLW_6_0.all (am_okW aOn aCl aT 6) = true := by decide +kernel
theorem a_cW_6 : aLW_6.all (am_okW aOn aCl aT 6) = true := a_cW_6_0
set_option maxRecDepth 100000 in
set_option maxHeartbeats 4000000 in
theorem a_cW_7_0 : aLW_7_0.all (am_okW aOn aCl aT 7) = true := by decide +kernel
theorem a_cW_7 : aLW_7.all (am_okW aOn aCl aT 7) = true := a_cW_7_0
set_option maxRecDepth 100000 in
set_option maxHeartbeats 4000000 in
theorem a_cW_8_0 : aLW_8_0.all (am_okW aOn aCl aT 8) = true := by decide +kernel
theorem a_cW_8 : aLW_8.all (am_okW aOn aCl aT 8) = true := a_cW_8_0
set_option maxRecDepth 100000 in
set_option maxHeartbeats 4000000 in
theorem a_cW_9_0 : aLW_9_0.all (am_okW aOn aCl aT 9) = true := by decide +kernel
theorem a_cW_9 : aLW_9.all (am_okW aOn aCl aT 9) = true := a_cW_9_0
set_option maxRecDepth 100000 in
set_option maxHeartbeats 4000000 in
theorem a_cW_10_0 : aLW_10_0.all (am_okW aOn aCl aT 10) = true := by decide +kernel
theorem a_cW_10 : aLW_10.all (am_okW aOn aCl aT 10) = true := a_cW_10_0
set_option maxRecDepth 100000 in
set_option maxHeartbeats 4000000 in
theorem a_cW_11_0 : aLW_11_0.all (am_okW aOn aCl aT 11) = true := by decide +kernel
theorem a_cW_11 : aLW_11.all (am_okW aOn aCl aT 11) = true := a_cW_11_0
set_option maxRecDepth 100000 in
set_option maxHeartbeats 4000000 in
theorem a_cW_12_0 : aLW_12_0.all (am_okW aOn aCl aT 12) = true := by decide +kernel
theorem a_cW_12 : aLW_12.all (am_okW aOn aCl aT 12) = true := a_cW_12_0
set_option maxRecDepth 100000 in
set_option maxHeartbeats 4000000 in
theorem a_cW_13_0 : aLW_13_0.all (am_okW aOn aCl aT 13) = true := by decide +kernel
theorem a_cW_13 : aLW_13.all (am_okW aOn aCl aT 13) = true := a_cW_13_0
set_option maxRecDepth 100000 in
set_option maxHeartbeats 4000000 in
theorem a_cW_14_0 : aLW_14_0.all (am_okW aOn aCl aT 14) = true := by decide +kernel
theorem a_cW_14 : aLW_14.all (am_okW aOn aCl aT 14) = true := a_cW_14_0
theorem a_cW : am_all aLW (am_okW aOn aCl aT) = true := by
  refine am_all_of fun o l h => ?_
  match o, h with
  | 0, h => cases h; exact a_cW_0
  | 1, h => cases h; exact a_cW_1
  | 2, h => cases h; exact a_cW_2
  | 3, h => cases h; exact a_cW_3
  | 4, h => cases h; exact a_cW_4
  | 5, h => cases h; exact a_cW_5
  | 6, h => cases h; exact a_cW_6
  | 7, h => cases h; exact a_cW_7
  | 8, h => cases h; exact a_cW_8
  | 9, h => cases h; exact a_cW_9
  | 10, h => cases h; exact a_cW_10
  | 11, h => cases h; exact a_cW_11
  | 12, h => cases h; exact a_cW_12
  | 13, h => cases h; exact a_cW_13
  | 14, h => cases h; exact a_cW_14
  | n + 15, h => simp [aLW] at h
set_option maxRecDepth 100000 in
set_option maxHeartbeats 4000000 in
theorem a_cA_0_0 : aLA_0_0.all (am_okA aOn aKd aT 0) = true := by decide +kernel
theorem a_cA_0 : aLA_0.all (am_okA aOn aKd aT 0) = true := a_cA_0_0
set_option maxRecDepth 100000 in
set_option maxHeartbeats 4000000 in
theorem a_cA_1_0 : aLA_1_0.all (am_okA aOn aKd aT 1) = true := by decide +kernel
theorem a_cA_1 : aLA_1.all (am_okA aOn aKd aT 1) = true := a_cA_1_0
set_option maxRecDepth 100000 in
set_option maxHeartbeats 4000000 in
theorem a_cA_2_0 : aLA_2_0.all (am_okA aOn aKd aT 2) = true := by decide +kernel
theorem a_cA_2 : aLA_2.all (am_okA aOn aKd aT 2) = true := a_cA_2_0
set_option maxRecDepth 100000 in
set_option maxHeartbeats 4000000 in
theorem a_cA_3_0 : aLA_3_0.all (am_okA aOn aKd aT 3) = true := by decide +kernel
theorem a_cA_3 : aLA_3.all (am_okA aOn aKd aT 3) = true := a_cA_3_0
set_option maxRecDepth 100000 in
set_option maxHeartbeats 4000000 in
theorem a_cA_4_0 : aLA_4_0.all (am_okA aOn aKd aT 4) = true := by decide +kernel
theorem a_cA_4 : aLA_4.all (am_okA aOn aKd aT 4) = true := a_cA_4_0
set_option maxRecDepth 100000 in
set_option maxHeartbeats 4000000 in
theorem a_cA_5_0 : aLA_5_0.all (am_okA aOn aKd aT 5) = true := by decide +kernel
theorem a_cA_5 : aLA_5.all (am_okA aOn aKd aT 5) = true := a_cA_5_0
set_option maxRecDepth 100000 in
set_option maxHeartbeats 4000000 in
theorem a_cA_6_0 : aLA_6_0.all (am_okA aOn aKd aT 6) = true := by decide +kernel
theorem a_cA_6 : aLA_6.all (am_okA aOn aKd aT 6) = true := a_cA_6_0
set_option maxRecDepth 100000 in
set_option maxHeartbeats 4000000 in
theorem a_cA_7_0 : aLA_7_0.all (am_okA aOn aKd aT 7) = true := by decide +kernel
theorem a_cA_7 : aLA_7.all (am_okA aOn aKd aT 7) = true := a_cA_7_0
set_option maxRecDepth 100000 in
set_option maxHeartbeats 4000000 in
theorem a_cA_8_0 : aLA_8_0.all (am_okA aOn aKd aT 8) = true := by decide +kernel
theorem a_cA_8 : aLA_8.all (am_okA aOn aKd aT 8) = true := a_cA_8_0
set_option maxRecDepth 100000 in
set_option maxHeartbeats 4000000 in
theorem a_cA_9_0 : aLA_9_0.all (am_okA aOn aKd aT 9) = true := by decide +kernel
theorem a_cA_9 : aLA_9.all (am_okA aOn aKd aT 9) = true := a_cA_9_0
set_option maxRecDepth 100000 in
set_option maxHeartbeats 4000000 in
theorem a_cA_10_0 : aLA_10_0.all (am_okA aOn aKd aT 10) = true := by decide +kernel
theorem a_cA_10 : aLA_10.all (am_okA aOn aKd aT 10) = true := a_cA_10_0
set_option maxRecDepth 100000 in
set_option maxHeartbeats 4000000 in
theorem a_cA_11_0 : aLA_11_0.all (am_okA aOn aKd aT 11) = true := by decide +kernel
theorem a_cA_11 : aLA_11.all (am_okA aOn aKd aT 11) = true := a_cA_11_0
set_option maxRecDepth 100000 in
set_option maxHeartbeats 4000000 in
theorem a_cA_12_0 : aLA_12_0.all (am_okA aOn aKd aT 12) = true := by decide +kernel
theorem a_cA_12 : aLA_12.all (am_okA aOn aKd aT 12) = true := a_cA_12_0
set_option maxRecDepth 100000 in
set_option maxHeartbeats 4000000 in
theorem a_cA_13_0 : aLA_13_0.all (am_okA aOn aKd aT 13) = true := by decide +kernel
theorem a_cA_13 : aLA_13.all (am_okA aOn aKd aT 13) = true := a_cA_13_0
set_option maxRecDepth 100000 in
set_option maxHeartbeats 4000000 in
theorem a_cA_14_0 : aLA_14_0.all (am_okA aOn aKd aT 14) = true := by decide +kernel
theorem a_cA_14 : aLA_14.all (am_okA aOn aKd aT 14) = true := a_cA_14_0
theorem a_cA : am_all aLA (am_okA aOn aKd aT) = true := by
  refine am_all_of fun o l h => ?_
  match o, h with
  | 0, h => cases h; exact a_cA_0
  | 1, h => cases h; exact a_cA_1
  | 2, h => cases h; exact a_cA_2
  | 3, h => cases h; exact a_cA_3
  | 4, h => cases h; exact a_cA_4
  | 5, h => cases h; exact a_cA_5
  | 6, h => cases h; exact a_cA_6
  | 7, h => cases h; exact a_cA_7
  | 8, h => cases h; exact a_cA_8
  | 9, h => cases h; exact a_cA_9
  | 10, h => cases h; exact a_cA_10
  | 11, h => cases h; exact a_cA_11
  | 12, h => cases h; exact a_cA_12
  | 13, h => cases h; exact a_cA_13
  | 14, h => cases h; exact a_cA_14
  | n + 15, h => simp [aLA] at h
set_option maxRecDepth 100000 in
set_option maxHeartbeats 4000000 in
theorem a_cZ_0_0 : aLZ_0_0.all (am_okZ aOn aT aZn 0) = true := by decide +kernel
theorem a_cZ_0 : aLZ_0.all (am_okZ aOn aT aZn 0) = true := a_cZ_0_0
set_option maxRecDepth 100000 in
set_option maxHeartbeats 4000000 in
theorem a_cZ_1_0 : aLZ_1_0.all (am_okZ aOn aT aZn 1) = true := by decide +kernel
theorem a_cZ_1 : aLZ_1.all (am_okZ aOn aT aZn 1) = true := a_cZ_1_0
set_option maxRecDepth 100000 in
set_option maxHeartbeats 4000000 in
theorem a_cZ_2_0 : aLZ_2_0.all (am_okZ aOn aT aZn 2) = true := by decide +kernel
theorem a_cZ_2 : aLZ_2.all (am_okZ aOn aT aZn 2) = true := a_cZ_2_0
set_option maxRecDepth 100000 in
set_option maxHeartbeats 4000000 in
theorem a_cZ_3_0 : aLZ_3_0.all (am_okZ aOn aT aZn 3) = true := by decide +kernel
theorem a_cZ_3 : aLZ_3.all (am_okZ aOn aT aZn 3) = true := a_cZ_3_0
set_option maxRecDepth 100000 in
set_option maxHeartbeats 4000000 in
theorem a_cZ_4_0 : aLZ_4_0.all (am_okZ aOn aT aZn 4) = true := by decide +kernel
theorem a_cZ_4 : aLZ_4.all (am_okZ aOn aT aZn 4) = true := a_cZ_4_0
set_option maxRecDepth 100000 in
set_option maxHeartbeats 4000000 in
theorem a_cZ_5_0 : aLZ_5_0.all (am_okZ aOn aT aZn 5) = true := by decide +kernel
theorem a_cZ_5 : aLZ_5.all (am_okZ aOn aT aZn 5) = true := a_cZ_5_0
set_option maxRecDepth 100000 in
set_option maxHeartbeats 4000000 in
theorem a_cZ_6_0 : aLZ_6_0.all (am_okZ aOn aT aZn 6) = true := by decide +kernel
theorem a_cZ_6 : aLZ_6.all (am_okZ aOn aT aZn 6) = true := a_cZ_6_0
set_option maxRecDepth 100000 in
set_option maxHeartbeats 4000000 in
theorem a_cZ_7_0 : aLZ_7_0.all (am_okZ aOn aT aZn 7) = true := by decide +kernel
theorem a_cZ_7 : aLZ_7.all (am_okZ aOn aT aZn 7) = true := a_cZ_7_0
set_option maxRecDepth 100000 in
set_option maxHeartbeats 4000000 in
theorem a_cZ_8_0 : aLZ_8_0.all (am_okZ aOn aT aZn 8) = true := by decide +kernel
theorem a_cZ_8 : aLZ_8.all (am_okZ aOn aT aZn 8) = true := a_cZ_8_0
set_option maxRecDepth 100000 in
set_option maxHeartbeats 4000000 in
theorem a_cZ_9_0 : aLZ_9_0.all (am_okZ aOn aT aZn 9) = true := by decide +kernel
theorem a_cZ_9 : aLZ_9.all (am_okZ aOn aT aZn 9) = true := a_cZ_9_0
set_option maxRecDepth 100000 in
set_option maxHeartbeats 4000000 in
theorem a_cZ_10_0 : aLZ_10_0.all (am_okZ aOn aT aZn 10) = true := by decide +kernel
theorem a_cZ_10 : aLZ_10.all (am_okZ aOn aT aZn 10) = true := a_cZ_10_0
set_option maxRecDepth 100000 in
set_option maxHeartbeats 4000000 in
theorem a_cZ_11_0 : aLZ_11_0.all (am_okZ aOn aT aZn 11) = true := by decide +kernel
theorem a_cZ_11 : aLZ_11.all (am_okZ aOn aT aZn 11) = true := a_cZ_11_0
set_option maxRecDepth 100000 in
set_option maxHeartbeats 4000000 in
theorem a_cZ_12_0 : aLZ_12_0.all (am_okZ aOn aT aZn 12) = true := by decide +kernel
theorem a_cZ_12 : aLZ_12.all (am_okZ aOn aT aZn 12) = true := a_cZ_12_0
set_option maxRecDepth 100000 in
set_option maxHeartbeats 4000000 in
theorem a_cZ_13_0 : aLZ_13_0.all (am_okZ aOn aT aZn 13) = true := by decide +kernel
theorem a_cZ_13 : aLZ_13.all (am_okZ aOn aT aZn 13) = true := a_cZ_13_0
set_option maxRecDepth 100000 in
set_option maxHeartbeats 4000000 in
theorem a_cZ_14_0 : aLZ_14_0.all (am_okZ aOn aT aZn 14) = true := by decide +kernel
theorem a_cZ_14 : aLZ_14.all (am_okZ aOn aT aZn 14) = true := a_cZ_14_0
theorem a_cZ : am_all aLZ (am_okZ aOn aT aZn) = true := by
  refine am_all_of fun o l h => ?_
  match o, h with
  | 0, h => cases h; exact a_cZ_0
  | 1, h => cases h; exact a_cZ_1
  | 2, h => cases h; exact a_cZ_2
  | 3, h => cases h; exact a_cZ_3
  | 4, h => cases h; exact a_cZ_4
  | 5, h => cases h; exact a_cZ_5
  | 6, h => cases h; exact a_cZ_6
  | 7, h => cases h; exact a_cZ_7
  | 8, h => cases h; exact a_cZ_8
  | 9, h => cases h; exact a_cZ_9
  | 10, h => cases h; exact a_cZ_10
  | 11, h => cases h; exact a_cZ_11
  | 12, h => cases h; exact a_cZ_12
  | 13, h => cases h; exact a_cZ_13
  | 14, h => cases h; exact a_cZ_14
  | n + 15, h => simp [aLZ] at h
set_option maxRecDepth 100000 in
set_option maxHeartbeats 4000000 in
theorem a_cS_0_0 : aLS_0_0.all (am_okS aOn aT aLM 0) = true := by decide +kernel
theorem a_cS_0 : aLS_0.all (am_okS aOn aT aLM 0) = true := a_cS_0_0
set_option maxRecDepth 100000 in
set_option maxHeartbeats 4000000 in
theorem a_cS_1_0 : aLS_1_0.all (am_okS aOn aT aLM 1) = true := by decide +kernel
theorem a_cS_1 : aLS_1.all (am_okS aOn aT aLM 1) = true := a_cS_1_0
set_option maxRecDepth 100000 in
set_option maxHeartbeats 4000000 in
theorem a_cS_2_0 : aLS_2_0.all (am_okS aOn aT aLM 2) = true := by decide +kernel
theorem a_cS_2 : aLS_2.all (am_okS aOn aT aLM 2) = true := a_cS_2_0
set_option maxRecDepth 100000 in
set_option maxHeartbeats 4000000 in
theorem a_cS_3_0 : aLS_3_0.all (am_okS aOn aT aLM 3) = true := by decide +kernel
theorem a_cS_3 : aLS_3.all (am_okS aOn aT aLM 3) = true := a_cS_3_0
set_option maxRecDepth 100000 in
set_option maxHeartbeats 4000000 in
theorem a_cS_4_0 : aLS_4_0.all (am_okS aOn aT aLM 4) = true := by decide +kernel
theorem a_cS_4 : aLS_4.all (am_okS aOn aT aLM 4) = true := a_cS_4_0
set_option maxRecDepth 100000 in
set_option maxHeartbeats 4000000 in
theorem a_cS_5_0 : aLS_5_0.all (am_okS aOn aT aLM 5) = true := by decide +kernel
theorem a_cS_5 : aLS_5.all (am_okS aOn aT aLM 5) = true := a_cS_5_0
set_option maxRecDepth 100000 in
set_option maxHeartbeats 4000000 in
theorem a_cS_6_0 : aLS_6_0.all (am_okS aOn aT aLM 6) = true := by decide +kernel
theorem a_cS_6 : aLS_6.all (am_okS aOn aT aLM 6) = true := a_cS_6_0
set_option maxRecDepth 100000 in
set_option maxHeartbeats 4000000 in
theorem a_cS_7_0 : aLS_7_0.all (am_okS aOn aT aLM 7) = true := by decide +kernel
theorem a_cS_7 : aLS_7.all (am_okS aOn aT aLM 7) = true := a_cS_7_0
set_option maxRecDepth 100000 in
set_option maxHeartbeats 4000000 in
theorem a_cS_8_0 : aLS_8_0.all (am_okS aOn aT aLM 8) = true := by decide +kernel
theorem a_cS_8 : aLS_8.all (am_okS aOn aT aLM 8) = true := a_cS_8_0
set_option maxRecDepth 100000 in
set_option maxHeartbeats 4000000 in
theorem a_cS_9_0 : aLS_9_0.all (am_okS aOn aT aLM 9) = true := by decide +kernel
theorem a_cS_9 : aLS_9.all (am_okS aOn aT aLM 9) = true := a_cS_9_0
set_option maxRecDepth 100000 in
set_option maxHeartbeats 4000000 in
theorem a_cS_10_0 : aLS_10_0.all (am_okS aOn aT aLM 10) = true := by decide +kernel
theorem a_cS_10 : aLS_10.all (am_okS aOn aT aLM 10) = true := a_cS_10_0
set_option maxRecDepth 100000 in
set_option maxHeartbeats 4000000 in
theorem a_cS_11_0 : aLS_11_0.all (am_okS aOn aT aLM 11) = true := by decide +kernel
theorem a_cS_11 : aLS_11.all (am_okS aOn aT aLM 11) = true := a_cS_11_0
set_option maxRecDepth 100000 in
set_option maxHeartbeats 4000000 in
theorem a_cS_12_0 : aLS_12_0.all (am_okS aOn aT aLM 12) = true := by decide +kernel
theorem a_cS_12 : aLS_12.all (am_okS aOn aT aLM 12) = true := a_cS_12_0
set_option maxRecDepth 100000 in
set_option maxHeartbeats 4000000 in
theorem a_cS_13_0 : aLS_13_0.all (am_okS aOn aT aLM 13) = true := by decide +kernel
theorem a_cS_13 : aLS_13.all (am_okS aOn aT aLM 13) = true := a_cS_13_0
set_option maxRecDepth 100000 in
set_option maxHeartbeats 4000000 in
theorem a_cS_14_0 : aLS_14_0.all (am_okS aOn aT aLM 14) = true := by decide +kernel
theorem a_cS_14 : aLS_14.all (am_okS aOn aT aLM 14) = true := a_cS_14_0
theorem a_cS : am_all aLS (am_okS aOn aT aLM) = true := by
  refine am_all_of fun o l h => ?_
  match o, h with
  | 0, h => cases h; exact a_cS_0
  | 1, h => cases h; exact a_cS_1
  | 2, h => cases h; exact a_cS_2
  | 3, h => cases h; exact a_cS_3
  | 4, h => cases h; exact a_cS_4
  | 5, h => cases h; exact a_cS_5
  | 6, h => cases h; exact a_cS_6
  | 7, h => cases h; exact a_cS_7
  | 8, h => cases h; exact a_cS_8
  | 9, h => cases h; exact a_cS_9
  | 10, h => cases h; exact a_cS_10
  | 11, h => cases h; exact a_cS_11
  | 12, h => cases h; exact a_cS_12
  | 13, h => cases h; exact a_cS_13
  | 14, h => cases h; exact a_cS_14
  | n + 15, h => simp [aLS] at h
set_option maxRecDepth 100000 in
set_option maxHeartbeats 4000000 in
theorem a_cI_0_0 : aLI_0_0.all (am_okI aOn aT aLM 0) = true := by decide +kernel
theorem a_cI_0 : aLI_0.all (am_okI aOn aT aLM 0) = true := a_cI_0_0
set_option maxRecDepth 100000 in
set_option maxHeartbeats 4000000 in
theorem a_cI_1_0 : aLI_1_0.all (am_okI aOn aT aLM 1) = true := by decide +kernel
theorem a_cI_1 : aLI_1.all (am_okI aOn aT aLM 1) = true := a_cI_1_0
set_option maxRecDepth 100000 in
set_option maxHeartbeats 4000000 in
theorem a_cI_2_0 : aLI_2_0.all (am_okI aOn aT aLM 2) = true := by decide +kernel
theorem a_cI_2 : aLI_2.all (am_okI aOn aT aLM 2) = true := a_cI_2_0
set_option maxRecDepth 100000 in
set_option maxHeartbeats 4000000 in
theorem a_cI_3_0 : aLI_3_0.all (am_okI aOn aT aLM 3) = true := by decide +kernel
theorem a_cI_3 : aLI_3.all (am_okI aOn aT aLM 3) = true := a_cI_3_0
set_option maxRecDepth 100000 in
set_option maxHeartbeats 4000000 in
theorem a_cI_4_0 : aLI_4_0.all (am_okI aOn aT aLM 4) = true := by decide +kernel
theorem a_cI_4 : aLI_4.all (am_okI aOn aT aLM 4) = true := a_cI_4_0
set_option maxRecDepth 100000 in
set_option maxHeartbeats 4000000 in
theorem a_cI_5_0 : aLI_5_0.all (am_okI aOn aT aLM 5) = true := by decide +kernel
theorem a_cI_5 : aLI_5.all (am_okI aOn aT aLM 5) = true := a_cI_5_0
set_option maxRecDepth 100000 in
set_option maxHeartbeats 4000000 in
theorem a_cI_6_0 : aLI_6_0.all (am_okI aOn aT aLM 6) = true := by decide +kernel
theorem a_cI_6 : aLI_6.all (am_okI aOn aT aLM 6) = true := a_cI_6_0
set_option maxRecDepth 100000 in
set_option maxHeartbeats 4000000 in
theorem a_cI_7_0 : aLI_7_0.all (am_okI aOn aT aLM 7) = true := by decide +kernel
theorem a_cI_7 : aLI_7.all (am_okI aOn aT aLM 7) = true := a_cI_7_0
set_option maxRecDepth 100000 in
set_option maxHeartbeats 4000000 in
theorem a_cI_8_0 : aLI_8_0.all (am_okI aOn aT aLM 8) = true := by decide +kernel
theorem a_cI_8 : aLI_8.all (am_okI aOn aT aLM 8) = true := a_cI_8_0
set_option maxRecDepth 100000 in
set_option maxHeartbeats 4000000 in
theorem a_cI_9_0 : aLI_9_0.all (am_okI aOn aT aLM 9) = true := by decide +kernel
theorem a_cI_9 : aLI_9.all (am_okI aOn aT aLM 9) = true := a_cI_9_0
set_option maxRecDepth 100000 in
set_option maxHeartbeats 4000000 in
theorem a_cI_10_0 : aLI_10_0.all (am_okI aOn aT aLM 10) = true := by decide +kernel
theorem a_cI_10 : aLI_10.all (am_okI aOn aT aLM 10) = true := a_cI_10_0
set_option maxRecDepth 100000 in
set_option maxHeartbeats 4000000 in
theorem a_cI_11_0 : aLI_11_0.all (am_okI aOn aT aLM 11) = true := by decide +kernel
theorem a_cI_11 : aLI_11.all (am_okI aOn aT aLM 11) = true := a_cI_11_0
set_option maxRecDepth 100000 in
set_option maxHeartbeats 4000000 in
theorem a_cI_12_0 : aLI_12_0.all (am_okI aOn aT aLM 12) = true := by decide +kernel
theorem a_cI_12 : aLI_12.all (am_okI aOn aT aLM 12) = true := a_cI_12_0
set_option maxRecDepth 100000 in
set_option maxHeartbeats 4000000 in
theorem a_cI_13_0 : aLI_13_0.all (am_okI aOn aT aLM 13) = true := by decide +kernel
theorem a_cI_13 : aLI_13.all (am_okI aOn aT aLM 13) = true := a_cI_13_0
set_option maxRecDepth 100000 in
set_option maxHeartbeats 4000000 in
theorem a_cI_14_0 : aLI_14_0.all (am_okI aOn aT aLM 14) = true := by decide +kernel
theorem a_cI_14 : aLI_14.all (am_okI aOn aT aLM 14) = true := a_cI_14_0
theorem a_cI : am_all aLI (am_okI aOn aT aLM) = true := by
  refine am_all_of fun o l h => ?_
  match o, h with
  | 0, h => cases h; exact a_cI_0
  | 1, h => cases h; exact a_cI_1
  | 2, h => cases h; exact a_cI_2
  | 3, h => cases h; exact a_cI_3
  | 4, h => cases h; exact a_cI_4
  | 5, h => cases h; exact a_cI_5
  | 6, h => cases h; exact a_cI_6
  | 7, h => cases h; exact a_cI_7
  | 8, h => cases h; exact a_cI_8
  | 9, h => cases h; exact a_cI_9
  | 10, h => cases h; exact a_cI_10
  | 11, h => cases h; exact a_cI_11
  | 12, h => cases h; exact a_cI_12
  | 13, h => cases h; exact a_cI_13
  | 14, h => cases h; exact a_cI_14
  | n + 15, h => simp [aLI] at h
set_option maxRecDepth 100000 in
set_option maxHeartbeats 4000000 in
theorem a_cV_0_0 : aLV_0_0.all (am_okV aOn aCl aT aLM 0) = true := by decide +kernel
set_option maxRecDepth 100000 in
set_option maxHeartbeats 4000000 in
theorem a_cV_0_1 : aLV_0_1.all (am_okV aOn aCl aT aLM 0) = true := by decide +kernel
set_option maxRecDepth 100000 in
set_option maxHeartbeats 4000000 in
theorem a_cV_0_2 : aLV_0_2.all (am_okV aOn aCl aT aLM 0) = true := by decide +kernel
theorem a_cV_0 : aLV_0.all (am_okV aOn aCl aT aLM 0) = true := am_app a_cV_0_0 (am_app a_cV_0_1 (a_cV_0_2))
set_option maxRecDepth 100000 in
set_option maxHeartbeats 4000000 in
theorem a_cV_1_0 : aLV_1_0.all (am_okV aOn aCl aT aLM 1) = true := by decide +kernel
theorem a_cV_1 : aLV_1.all (am_okV aOn aCl aT aLM 1) = true := a_cV_1_0
set_option maxRecDepth 100000 in
set_option maxHeartbeats 4000000 in
theorem a_cV_2_0 : aLV_2_0.all (am_okV aOn aCl aT aLM 2) = true := by decide +kernel
theorem a_cV_2 : aLV_2.all (am_okV aOn aCl aT aLM 2) = true := a_cV_2_0
set_option maxRecDepth 100000 in
set_option maxHeartbeats 4000000 in
theorem a_cV_3_0 : aLV_3_0.all (am_okV aOn aCl aT aLM 3) = true := by decide +kernel
theorem a_cV_3 : aLV_3.all (am_okV aOn aCl aT aLM 3) = true := a_cV_3_0
set_option maxRecDepth 100000 in
set_option maxHeartbeats 4000000 in
theorem a_cV_4_0 : aLV_4_0.all (am_okV aOn aCl aT aLM 4) = true := by decide +kernel
theorem a_cV_4 : aLV_4.all (am_okV aOn aCl aT aLM 4) = true := a_cV_4_0
set_option maxRecDepth 100000 in
set_option maxHeartbeats 4000000 in
theorem a_cV_5_0 : aLV_5_0.all (am_okV aOn aCl aT aLM 5) = true := by decide +kernel
theorem a_cV_5 : aLV_5.all (am_okV aOn aCl aT aLM 5) = true := a_cV_5_0
set_option maxRecDepth 100000 in
set_option maxHeartbeats 4000000 in
theorem a_cV_6_0 : aLV_6_0.all (am_okV aOn aCl aT aLM 6) = true := by decide +kernel
theorem a_cV_6 : aLV_6.all (am_okV aOn aCl aT aLM 6) = true := a_cV_6_0
set_option maxRecDepth 100000 in
set_option maxHeartbeats 4000000 in
theorem a_cV_7_0 : aLV_7_0.all (am_okV aOn aCl aT aLM 7) = true := by decide +kernel
theorem a_cV_7 : aLV_7.all (am_okV aOn aCl aT aLM 7) = true := a_cV_7_0
set_option maxRecDepth 100000 in
set_option maxHeartbeats 4000000 in
theorem a_cV_8_0 : aLV_8_0.all (am_okV aOn aCl aT aLM 8) = true := by decide +kernel
theorem a_cV_8 : aLV_8.all (am_okV aOn aCl aT aLM 8) = true := a_cV_8_0
set_option maxRecDepth 100000 in
set_option maxHeartbeats 4000000 in
theorem a_cV_9_0 : aLV_9_0.all (am_okV aOn aCl aT aLM 9) = true := by decide +kernel
set_option maxRecDepth 100000 in
set_option maxHeartbeats 4000000 in
theorem a_cV_9_1 : aLV_9_1.all (am_okV aOn aCl aT aLM 9) = true := by decide +kernel
set_option maxRecDepth 100000 in
set_option maxHeartbeats 4000000 in
theorem a_cV_9_2 : aLV_9_2.all (am_okV aOn aCl aT aLM 9) = true := by decide +kernel
theorem a_cV_9 : aLV_9.all (am_okV aOn aCl aT aLM 9) = true := am_app a_cV_9_0 (am_app a_cV_9_1 (a_cV_9_2))
set_option maxRecDepth 100000 in
set_option maxHeartbeats 4000000 in
theorem a_cV_10_0 : aLV_10_0.all (am_okV aOn aCl aT aLM 10) = true := by decide +kernel
set_option maxRecDepth 100000 in
set_option maxHeartbeats 4000000 in
theorem a_cV_10_1 : aLV_10_1.all (am_okV aOn aCl aT aLM 10) = true := by decide +kernel
set_option maxRecDepth 100000 in
set_option maxHeartbeats 4000000 in
theorem a_cV_10_2 : aLV_10_2.all (am_okV aOn aCl aT aLM 10) = true := by decide +kernel
theorem a_cV_10 : aLV_10.all (am_okV aOn aCl aT aLM 10) = true := am_app a_cV_10_0 (am_app a_cV_10_1 (a_cV_10_2))
set_option maxRecDepth 100000 in
set_option maxHeartbeats 4000000 in
theorem a_cV_11_0 : aLV_11_0.all (am_okV aOn aCl aT aLM 11) = true := by decide +kernel
set_option maxRecDepth 100000 in
set_option maxHeartbeats 4000000 in
theorem a_cV_11_1 : aLV_11_1.all (am_okV aOn aCl aT aLM 11) = true := by decide +kernel
set_option maxRecDepth 100000 in
set_option maxHeartbeats 4000000 in
theorem a_cV_11_2 : aLV_11_2.all (am_okV aOn aCl aT aLM 11) = true := by decide +kernel
theorem a_cV_11 : aLV_11.all (am_okV aOn aCl aT aLM 11) = true := am_app a_cV_11_0 (am_app a_cV_11_1 (a_cV_11_2))
set_option maxRecDepth 100000 in
set_option maxHeartbeats 4000000 in
theorem a_cV_12_0 : aLV_12_0.all (am_okV aOn aCl aT aLM 12) = true := by decide +kernel
theorem a_cV_12 : aLV_12.all (am_okV aOn aCl aT aLM 12) = true := a_cV_12_0
set_option maxRecDepth 100000 in
set_option maxHeartbeats 4000000 in
theorem a_cV_13_0 : aLV_13_0.all (am_okV aOn aCl aT aLM 13) = true := by decide +kernel
set_option maxRecDepth 100000 in
set_option maxHeartbeats 4000000 in
theorem a_cV_13_1 : aLV_13_1.all (am_okV aOn aCl aT aLM 13) = true := by decide +kernel
set_option maxRecDepth 100000 in
set_option maxHeartbeats 4000000 in
theorem a_cV_13_2 : aLV_13_2.all (am_okV aOn aCl aT aLM 13) = true := by decide +kernel
set_option maxRecDepth 100000 in
set_option maxHeartbeats 4000000 in
theorem a_cV_13_3 : aLV_13_3.all (am_okV aOn aCl aT aLM 13) = true := by decide +kernel
set_option maxRecDepth 100000 in
set_option maxHeartbeats 4000000 in
theorem a_cV_13_4 : aLV_13_4.all (am_okV aOn aCl aT aLM 13) = true := by decide +kernel
set_option maxRecDepth 100000 in
set_option maxHeartbeats 4000000 in
theorem a_cV_13_5 : aLV_13_5.all (am_okV aOn aCl aT aLM 13) = true := by decide +kernel
theorem a_cV_13 : aLV_13.all (am_okV aOn aCl aT aLM 13) = true := am_app a_cV_13_0 (am_app a_cV_13_1 (am_app a_cV_13_2 (am_app a_cV_13_3 (am_app a_cV_13_4 (a_cV_13_5)))))
set_option maxRecDepth 100000 in
set_option maxHeartbeats 4000000 in
theorem a_cV_14_0 : aLV_14_0.all (am_okV aOn aCl aT aLM 14) = true := by decide +kernel
set_option maxRecDepth 100000 in
set_option maxHeartbeats 4000000 in
theorem a_cV_14_1 : aLV_14_1.all (am_okV aOn aCl aT aLM 14) = true := by decide +kernel
set_option maxRecDepth 100000 in
set_option maxHeartbeats 4000000 in
theorem a_cV_14_2 : aLV_14_2.all (am_okV aOn aCl aT aLM 14) = true := by decide +kernel
set_option maxRecDepth 100000 in
set_option maxHeartbeats 4000000 in
theorem a_cV_14_3 : aLV_14_3.all (am_okV aOn aCl aT aLM 14) = true := by decide +kernel
set_option maxRecDepth 100000 in
set_option maxHeartbeats 4000000 in
theorem a_cV_14_4 : aLV_14_4.all (am_okV aOn aCl aT aLM 14) = true := by decide +kernel
theorem a_cV_14 : aLV_14.all (am_okV aOn aCl aT aLM 14) = true := am_app a_cV_14_0 (am_app a_cV_14_1 (am_app a_cV_14_2 (am_app a_cV_14_3 (a_cV_14_4))))
theorem a_cV : am_all aLV (am_okV aOn aCl aT aLM) = true := by
  refine am_all_of fun o l h => ?_
  match o, h with
  | 0, h => cases h; exact a_cV_0
  | 1, h => cases h; exact a_cV_1
  | 2, h => cases h; exact a_cV_2
  | 3, h => cases h; exact a_cV_3
  | 4, h => cases h; exact a_cV_4
  | 5, h => cases h; exact a_cV_5
  | 6, h => cases h; exact a_cV_6
  | 7, h => cases h; exact a_cV_7
  | 8, h => cases h; exact a_cV_8
  | 9, h => cases h; exact a_cV_9
  | 10, h => cases h; exact a_cV_10
  | 11, h => cases h; exact a_cV_11
  | 12, h => cases h; exact a_cV_12
  | 13, h => cases h; exact a_cV_13
  | 14, h => cases h; exact a_cV_14
  | n + 15, h => simp [aLV] at h
set_option maxRecDepth 100000 in
set_option maxHeartbeats 4000000 in
theorem a_cT_0_0 : aLN_0_0.all (am_okN aOn aKd aT 0) = true := by decide +kernel
theorem a_cT_0 : aLN_0.all (am_okN aOn aKd aT 0) = true := a_cT_0_0
set_option maxRecDepth 100000 in
set_option maxHeartbeats 4000000 in
theorem a_cT_1_0 : aLN_1_0.all (am_okN aOn aKd aT 1) = true := by decide +kernel
theorem a_cT_1 : aLN_1.all (am_okN aOn aKd aT 1) = true := a_cT_1_0
set_option maxRecDepth 100000 in
set_option maxHeartbeats 4000000 in
theorem a_cT_2_0 : aLN_2_0.all (am_okN aOn aKd aT 2) = true := by decide +kernel
theorem a_cT_2 : aLN_2.all (am_okN aOn aKd aT 2) = true := a_cT_2_0
set_option maxRecDepth 100000 in
set_option maxHeartbeats 4000000 in
theorem a_cT_3_0 : aLN_3_0.all (am_okN aOn aKd aT 3) = true := by decide +kernel
theorem a_cT_3 : aLN_3.all (am_okN aOn aKd aT 3) = true := a_cT_3_0
set_option maxRecDepth 100000 in
set_option maxHeartbeats 4000000 in
theorem a_cT_4_0 : aLN_4_0.all (am_okN aOn aKd aT 4) = true := by decide +kernel
theorem a_cT_4 : aLN_4.all (am_okN aOn aKd aT 4) = true := a_cT_4_0
set_option maxRecDepth 100000 in
set_option maxHeartbeats 4000000 in
theorem a_cT_5_0 : aLN_5_0.all (am_okN aOn aKd aT 5) = true := by decide +kernel
theorem a_cT_5 : aLN_5.all (am_okN aOn aKd aT 5) = true := a_cT_5_0
set_option maxRecDepth 100000 in
set_option maxHeartbeats 4000000 in
theorem a_cT_6_0 : aLN_6_0.all (am_okN aOn aKd aT 6) = true := by decide +kernel
theorem a_cT_6 : aLN_6.all (am_okN aOn aKd aT 6) = true := a_cT_6_0
set_option maxRecDepth 100000 in
set_option maxHeartbeats 4000000 in
theorem a_cT_7_0 : aLN_7_0.all (am_okN aOn aKd aT 7) = true := by decide +kernel
theorem a_cT_7 : aLN_7.all (am_okN aOn aKd aT 7) = true := a_cT_7_0
set_option maxRecDepth 100000 in
set_option maxHeartbeats 4000000 in
theorem a_cT_8_0 : aLN_8_0.all (am_okN aOn aKd aT 8) = true := by decide +kernel
theorem a_cT_8 : aLN_8.all (am_okN aOn aKd aT 8) = true := a_cT_8_0
set_option maxRecDepth 100000 in
set_option maxHeartbeats 4000000 in
theorem a_cT_9_0 : aLN_9_0.all (am_okN aOn aKd aT 9) = true := by decide +kernel
theorem a_cT_9 : aLN_9.all (am_okN aOn aKd aT 9) = true := a_cT_9_0
set_option maxRecDepth 100000 in
set_option maxHeartbeats 4000000 in
theorem a_cT_10_0 : aLN_10_0.all (am_okN aOn aKd aT 10) = true := by decide +kernel
theorem a_cT_10 : aLN_10.all (am_okN aOn aKd aT 10) = true := a_cT_10_0
set_option maxRecDepth 100000 in
set_option maxHeartbeats 4000000 in
theorem a_cT_11_0 : aLN_11_0.all (am_okN aOn aKd aT 11) = true := by decide +kernel
theorem a_cT_11 : aLN_11.all (am_okN aOn aKd aT 11) = true := a_cT_11_0
set_option maxRecDepth 100000 in
set_option maxHeartbeats 4000000 in
theorem a_cT_12_0 : aLN_12_0.all (am_okN aOn aKd aT 12) = true := by decide +kernel
theorem a_cT_12 : aLN_12.all (am_okN aOn aKd aT 12) = true := a_cT_12_0
set_option maxRecDepth 100000 in
set_option maxHeartbeats 4000000 in
theorem a_cT_13_0 : aLN_13_0.all (am_okN aOn aKd aT 13) = true := by decide +kernel
theorem a_cT_13 : aLN_13.all (am_okN aOn aKd aT 13) = true := a_cT_13_0
set_option maxRecDepth 100000 in
set_option maxHeartbeats 4000000 in
theorem a_cT_14_0 : aLN_14_0.all (am_okN aOn aKd aT 14) = true := by decide +kernel
theorem a_cT_14 : aLN_14.all (am_okN aOn aKd aT 14) = true := a_cT_14_0
theorem a_cT : am_all aLN (am_okN aOn aKd aT) = true := by
  refine am_all_of fun o l h => ?_
  match o, h with
  | 0, h => cases h; exact a_cT_0
  | 1, h => cases h; exact a_cT_1
  | 2, h => cases h; exact a_cT_2
  | 3, h => cases h; exact a_cT_3
  | 4, h => cases h; exact a_cT_4
  | 5, h => cases h; exact a_cT_5
  | 6, h => cases h; exact a_cT_6
  | 7, h => cases h; exact a_cT_7
  | 8, h => cases h; exact a_cT_8
  | 9, h => cases h; exact a_cT_9
  | 10, h => cases h; exact a_cT_10
  | 11, h => cases h; exact a_cT_11
  | 12, h => cases h; exact a_cT_12
  | 13, h => cases h; exact a_cT_13
  | 14, h => cases h; exact a_cT_14
  | n + 15, h => simp [aLN] at h
set_option maxRecDepth 100000 in
set_option maxHeartbeats 4000000 in
theorem a_cC : (aLC.all (am_okC aCl aT aTy)) = true := by decide +kernel
set_option maxRecDepth 100000 in
set_option maxHeartbeats 4000000 in
theorem a_cG : (aLG.all (am_okG aCl aKd aT)) = true := by decide +kernel
set_option maxRecDepth 100000 in
set_option maxHeartbeats 4000000 in
theorem a_cN : aLC.map (fun q => q.1.1) = List.range aCl.length := by decide +kernel
theorem a_nm : ∀ (ci : Nat) (C : String) (T : u_T) (N : Nat), aCl[ci]? = some (C, T, N) → ∀ a, a < N → ∀ b, b < N → a ≠ b → (T a).2.1 ≠ (T b).2.1 := by
  intro ci C T N h
  match ci, h with
  | 0, h => cases h; exact nmX0
  | 1, h => cases h; exact nmX1
  | 2, h => cases h; exact nmX2
  | 3, h => cases h; exact nmX3
  | 4, h => cases h; exact nmX4
  | 5, h => cases h; exact nmX5
  | 6, h => cases h; exact nmX6
  | 7, h => cases h; exact nmX7
  | 8, h => cases h; exact nmX8
  | 9, h => cases h; exact nmX9
  | 10, h => cases h; exact nmX11
  | 11, h => cases h; exact nmX12
  | n + 12, h => simp [aCl] at h
set_option maxRecDepth 100000 in
set_option maxHeartbeats 4000000 in
theorem a_a0 : Cond.arrayClass .int ∈ am_Ts aT := am_in_s (q := (0, 88)) (by decide +kernel)
set_option maxRecDepth 100000 in
set_option maxHeartbeats 4000000 in
theorem a_a1 : Cond.arrayClass .long ∈ am_Ts aT := am_in_s (q := (1, 77)) (by decide +kernel)
set_option maxRecDepth 100000 in
set_option maxHeartbeats 4000000 in
theorem a_a2 : Cond.arrayClass .boolean ∈ am_Ts aT := am_in_s (q := (12, 51)) (by decide +kernel)
theorem a_G (sa : Nat → Nat) : am_G (aP sa) aCl (am_Ts aT) (am_Nw aT) (am_zs aZn sa) := am_G_of a_cM a_cO a_cF a_cK a_cW a_cC a_cN a_cA a_cZ a_cS a_cI a_cV a_cT a_cG a_nm rfl rfl rfl a_a0 a_a1 a_a2 sa
end
section
/-! AM: the world at the entry of a law, and the end of a law -/
section AME
/-- the record of an array kind: found under its name, and that of its part -/
def am_kc (U : State) (ty : FieldType) (c : ClassId) : Prop := U.vm.findClass ("[" ++ ty.toString) = some c ∧ ∃ (k : Class) (comp : ClassId), U.vm.classes[c]? = some k ∧ k.kind = .array comp ty ∧ (∀ n, ty = .object n → U.vm.findClass n = some comp) ∧ ∀ t, ty = .array t → U.vm.findClass (FieldType.array t).toString = some comp
theorem am_kc_arr {U : State} {ty : FieldType} {c : ClassId} (h : am_kc U ty c) : ArrOfT U c ty := by
  obtain ⟨-, k, comp, h1, h2, -⟩ := h
  exact fun n z => ⟨fun k h => (by cases h), k, h1, comp, h2⟩
theorem am_kc_RA {U : State} {ty : FieldType} {c : ClassId} (h : am_kc U ty c) : va_RA U c ty := by
  obtain ⟨h0, k, comp, h1, h2, h3, h4⟩ := h
  cases ty with
  | object n => exact ⟨k, comp, h1, h2, h3 n rfl, h0⟩
  | _ => exact h0
theorem am_kc_AA {U : State} {t : FieldType} {c c2 : ClassId} (h : am_kc U (.array t) c) (h2 : am_kc U t c2) : am_AA U c c2 (.array t) := by
  obtain ⟨-, k, comp, b1, b2, -, b4⟩ := h
  obtain ⟨d0, k2, comp2, d1, d2, -, -⟩ := h2
  have e : comp = c2 := Option.some.inj ((b4 t rfl).symm.trans (show U.vm.findClass (FieldType.array t).toString = some c2 from d0))
  subst e
  exact ⟨k, k2, comp2, t, b1, b2, d1, d2⟩
theorem am_kc_cls {args : Array Value} {U : State} {ty : FieldType} (h : (Cond.arrayClass ty).before args U = true) (ho : ∀ n, ty ≠ .object n) (ha : ∀ t, ty ≠ .array t) : ∃ c, am_kc U ty c := by
  obtain ⟨c, k, comp, h1, h2, h3⟩ := Cond.arrayClass_spec h
  exact ⟨c, h1, k, comp, h2, h3, fun n e => absurd e (ho n), fun t e => absurd e (ha t)⟩
theorem am_kc_obj {args : Array Value} {U : State} {n : String} (h : (Cond.arrayOver (.object n)).before args U = true) : ∃ c, am_kc U (.object n) c := by
  obtain ⟨comp, c, k, h1, -, h2, h3, h4⟩ := Cond.arrayOver_spec h
  exact ⟨c, h4, k, comp, h2, h3, fun m e => (by cases e; exact h1), fun t e => (by cases e)⟩
theorem am_kc_arr2 {args : Array Value} {U : State} {t : FieldType} (h : (Cond.arrayOver (.array t)).before args U = true) : ∃ c, am_kc U (.array t) c := by
  obtain ⟨comp, c, k, h1, -, h2, h3, h4⟩ := arrayOverA_spec h
  exact ⟨c, h4, k, comp, h2, h3, fun m e => (by cases e), fun t e => (by cases e; exact h1)⟩
theorem am_nw0 {w : Cond} (hw : am_nwF w = true) {args : Array Value} {U : State} (h : w.before args U = true) : va_Nw w U := by
  unfold va_Nw
  cases w <;> first | (cases hw; done) | exact h
/-- the words give the world -/
theorem am_wo {P : am_P} {cl : List vw_C} {RO : am_O} {Ts Nw : List Cond} {zs : List (String × String × String × Nat)} (G : am_G P cl Ts Nw zs) {args : Array Value} {s : State} (hts : ∀ w ∈ Ts, w.before args s = true) (hnw : ∀ w ∈ Nw, w.before args s = true)
    (hkd : ∀ (t : Nat) (ty : FieldType), (am_kd P)[t]? = some ty → (Cond.arrayClass ty ∈ Ts ∧ (∀ n, ty ≠ .object n) ∧ ∀ t, ty ≠ .array t) ∨ (Cond.arrayOver ty ∈ Nw ∧ ((∃ n, ty = .object n) ∨ ∃ t, ty = .array t)))
    (has : ∀ t t2, am_asA P t t2 = true → ∃ ty, (am_kd P)[t]? = some (.array ty) ∧ (am_kd P)[t2]? = some ty)
    (hz : ∀ z ∈ zs, va_Z z.1 z.2.1 z.2.2.1 (.ref z.2.2.2) (fun q => s.heap.size ≤ q) s s.heap) (hro : ∀ (a n : Nat) (f : Nat → Int32), RO a = some (n, f) → va_T .int a n (fun j => .int (f j)) (fun q => s.heap.size ≤ q) s s.heap) :
    ∃ (D : va_G) (ca : Nat → ClassId), am_Wo P D cl (fun q => s.heap.size ≤ q) ca RO Nw zs s s.heap := by
  have h1 : ∀ t : Nat, ∃ c, ∀ ty, (am_kd P)[t]? = some ty → am_kc s ty c := by
    intro t
    cases he : (am_kd P)[t]? with
    | none => exact ⟨0, fun ty h => by cases h⟩
    | some ty =>
      have h2 : ∃ c, am_kc s ty c := by
        rcases hkd t ty he with ⟨a, b, c⟩ | ⟨a, ⟨n, rfl⟩ | ⟨t, rfl⟩⟩
        · exact am_kc_cls (hts _ a) b c
        · exact am_kc_obj (hnw _ a)
        · exact am_kc_arr2 (hnw _ a)
      obtain ⟨c, h⟩ := h2
      exact ⟨c, fun ty' e => by cases e; exact h⟩
  have h2 : ∀ c : Nat, ∃ (cC : ClassId) (iS : Nat → Nat), ∀ q : vw_C, cl[c]? = some q → u_Kn s q.1 q.2.1 q.2.2 cC iS := by
    intro c
    cases he : cl[c]? with
    | none => exact ⟨0, fun _ => 0, fun q h => by cases h⟩
    | some q =>
      obtain ⟨C, T, N⟩ := q
      have h3 := G.2.2.1 c C T N he
      obtain ⟨cC, iS, h⟩ := u_known hts h3.1 (hts _ h3.2.2.2.1)
      exact ⟨cC, iS, fun q' e => by cases e; exact h⟩
  refine ⟨(fun c => Classical.choose (h2 c), fun c => Classical.choose (Classical.choose_spec (h2 c))), fun t => Classical.choose (h1 t), ⟨fun c q hq => Classical.choose_spec (Classical.choose_spec (h2 c)) q hq, fun k q hq => ?_⟩, fun w hw => am_nw0 (G.2.2.2.2.2.2.2.2.2.2.2.2.2.2.2.2.2.2 w hw) (hnw w hw), hz, hro, fun t t2 h => ?_, fun q h => h⟩
  · unfold am_tys at hq
    rw [List.getElem?_map, List.getElem?_zipIdx] at hq
    cases he : (am_kd P)[k]? with
    | none => rw [he] at hq; cases hq
    | some ty =>
      rw [he] at hq
      have hq2 := Option.some.inj hq
      rw [← hq2]
      have h4 := Classical.choose_spec (h1 k) ty he
      simp only [Nat.zero_add]
      exact ⟨am_kc_arr h4, am_kc_RA h4⟩
  · obtain ⟨ty, b1, b2⟩ := has t t2 h
    exact ⟨ty, am_kc_AA (Classical.choose_spec (h1 t) _ b1) (Classical.choose_spec (h1 t2) _ b2)⟩
/-- the end of the walk -/
theorem am_fin {D : va_G} {cl : List vw_C} {ca : Nat → ClassId} {below : List Frame} {args : Array Value} {s t : State} {M' : am_H} {sz' mc ms mc' ms' : Nat} (h : MQ below (am_Qc D cl (fun q => s.heap.size ≤ q) ca (some (.int 1)) M' sz') args s mc ms (fun q => s.heap.size ≤ q) t) (h1 : mc ≤ mc') (h2 : ms ≤ ms') :
    ∃ o, t.status = .running ∧ Ended t below o ∧ o = .returned (some (.int 1)) ∧ Framed s o t [] mc' ms' := by
  obtain ⟨o, a, b, hq, L, ⟨-, hW, hs⟩, hL⟩ := h
  obtain ⟨rfl, -⟩ := hq
  exact ⟨_, a, b, rfl, ⟨_, rfl⟩, hW, hs.weaken (fun x hx hlt => absurd (hL x hx) (Nat.not_le.mpr hlt)) h1 h2⟩
end AME
end
section
/-! AM: the law of this claim, from its entry, out of a run of the abstract machine -/
def aV_0 : Nat → Int32 := fun j => match j with
  | 0 => 7
  | 1 => 2
  | 2 => 2
  | _ => 0
set_option maxRecDepth 100000 in
set_option maxHeartbeats 4000000 in
theorem a_st_0 {args : Array Value} {s : State} (h : (Jvm.Cond.and given_1 narrow_1).before args s = true) : ∃ t : Nat, (Term.static "SecureLines$Mill" "BASES" "[I").eval args s none [] s = some (.ref t) ∧ va_T .int t 3 (fun j => .int (aV_0 j)) (fun q => s.heap.size ≤ q) s s.heap ∧ ∀ b : Nat, args = #[.ref b] → b ≠ t := by
  have hs := flat_of_before _ h
  obtain ⟨t, h1, h2⟩ := va_Tof (tm := (Term.static "SecureLines$Mill" "BASES" "[I")) (ty := .int) (N := 3) (f := fun j => .int (aV_0 j)) (A := fun q => s.heap.size ≤ q) (by decide) (hs (.arrayOf (Term.static "SecureLines$Mill" "BASES" "[I") .int) (by decide +kernel)) (Cond.eq_int (hs (.eq (.length (Term.static "SecureLines$Mill" "BASES" "[I")) (.int 3)) (by decide +kernel)) rfl) (fun j hj => match j, hj with
    | 0, _ => Cond.eq_int (hs (.eq (.elem (Term.static "SecureLines$Mill" "BASES" "[I") (.int 0)) (.int 7)) (by decide +kernel)) rfl
    | 1, _ => Cond.eq_int (hs (.eq (.elem (Term.static "SecureLines$Mill" "BASES" "[I") (.int 1)) (.int 2)) (by decide +kernel)) rfl
    | 2, _ => Cond.eq_int (hs (.eq (.elem (Term.static "SecureLines$Mill" "BASES" "[I") (.int 2)) (.int 2)) (by decide +kernel)) rfl
    | k + 3, h => absurd h (by omega)) (fun a h1 h2 => by omega)
  refine ⟨t, h1, h2, fun b hb he => ?_⟩
  have h3 := hs (.not (.eq (.arg 0) (Term.static "SecureLines$Mill" "BASES" "[I"))) (by decide +kernel)
  subst hb
  subst he
  have h4 : (Term.arg 0).eval #[.ref b] s none [] s = some (.ref b) := rfl
  simp only [Cond.before, Cond.holds, Cond.value, h1, h4] at h3
  simp at h3
def aV_1 : Nat → Int32 := fun j => match j with
  | 0 => 2147483647
  | 1 => 2147483629
  | 2 => 2147483587
  | _ => 0
set_option maxRecDepth 100000 in
set_option maxHeartbeats 4000000 in
theorem a_st_1 {args : Array Value} {s : State} (h : (Jvm.Cond.and given_1 narrow_1).before args s = true) : ∃ t : Nat, (Term.static "SecureLines$Mill" "PRIMES" "[I").eval args s none [] s = some (.ref t) ∧ va_T .int t 3 (fun j => .int (aV_1 j)) (fun q => s.heap.size ≤ q) s s.heap ∧ ∀ b : Nat, args = #[.ref b] → b ≠ t := by
  have hs := flat_of_before _ h
  obtain ⟨t, h1, h2⟩ := va_Tof (tm := (Term.static "SecureLines$Mill" "PRIMES" "[I")) (ty := .int) (N := 3) (f := fun j => .int (aV_1 j)) (A := fun q => s.heap.size ≤ q) (by decide) (hs (.arrayOf (Term.static "SecureLines$Mill" "PRIMES" "[I") .int) (by decide +kernel)) (Cond.eq_int (hs (.eq (.length (Term.static "SecureLines$Mill" "PRIMES" "[I")) (.int 3)) (by decide +kernel)) rfl) (fun j hj => match j, hj with
    | 0, _ => Cond.eq_int (hs (.eq (.elem (Term.static "SecureLines$Mill" "PRIMES" "[I") (.int 0)) (.int 2147483647)) (by decide +kernel)) rfl
    | 1, _ => Cond.eq_int (hs (.eq (.elem (Term.static "SecureLines$Mill" "PRIMES" "[I") (.int 1)) (.int 2147483629)) (by decide +kernel)) rfl
    | 2, _ => Cond.eq_int (hs (.eq (.elem (Term.static "SecureLines$Mill" "PRIMES" "[I") (.int 2)) (.int 2147483587)) (by decide +kernel)) rfl
    | k + 3, h => absurd h (by omega)) (fun a h1 h2 => by omega)
  refine ⟨t, h1, h2, fun b hb he => ?_⟩
  have h3 := hs (.not (.eq (.arg 0) (Term.static "SecureLines$Mill" "PRIMES" "[I"))) (by decide +kernel)
  subst hb
  subst he
  have h4 : (Term.arg 0).eval #[.ref b] s none [] s = some (.ref b) := rfl
  simp only [Cond.before, Cond.holds, Cond.value, h1, h4] at h3
  simp at h3
def aV_2 : Nat → Int32 := fun j => match j with
  | 0 => 1
  | 1 => 2
  | 2 => 3
  | 3 => 10000
  | 4 => 400
  | 5 => 1
  | 6 => 1
  | 7 => 100
  | _ => 0
set_option maxRecDepth 100000 in
set_option maxHeartbeats 4000000 in
theorem a_st_2 {args : Array Value} {s : State} (h : (Jvm.Cond.and given_1 narrow_1).before args s = true) : ∃ t : Nat, (Term.static "SecureLines$End" "SETTINGS_MOST" "[I").eval args s none [] s = some (.ref t) ∧ va_T .int t 8 (fun j => .int (aV_2 j)) (fun q => s.heap.size ≤ q) s s.heap ∧ ∀ b : Nat, args = #[.ref b] → b ≠ t := by
  have hs := flat_of_before _ h
  obtain ⟨t, h1, h2⟩ := va_Tof (tm := (Term.static "SecureLines$End" "SETTINGS_MOST" "[I")) (ty := .int) (N := 8) (f := fun j => .int (aV_2 j)) (A := fun q => s.heap.size ≤ q) (by decide) (hs (.arrayOf (Term.static "SecureLines$End" "SETTINGS_MOST" "[I") .int) (by decide +kernel)) (Cond.eq_int (hs (.eq (.length (Term.static "SecureLines$End" "SETTINGS_MOST" "[I")) (.int 8)) (by decide +kernel)) rfl) (fun j hj => match j, hj with
    | 0, _ => Cond.eq_int (hs (.eq (.elem (Term.static "SecureLines$End" "SETTINGS_MOST" "[I") (.int 0)) (.int 1)) (by decide +kernel)) rfl
    | 1, _ => Cond.eq_int (hs (.eq (.elem (Term.static "SecureLines$End" "SETTINGS_MOST" "[I") (.int 1)) (.int 2)) (by decide +kernel)) rfl
    | 2, _ => Cond.eq_int (hs (.eq (.elem (Term.static "SecureLines$End" "SETTINGS_MOST" "[I") (.int 2)) (.int 3)) (by decide +kernel)) rfl
    | 3, _ => Cond.eq_int (hs (.eq (.elem (Term.static "SecureLines$End" "SETTINGS_MOST" "[I") (.int 3)) (.int 10000)) (by decide +kernel)) rfl
    | 4, _ => Cond.eq_int (hs (.eq (.elem (Term.static "SecureLines$End" "SETTINGS_MOST" "[I") (.int 4)) (.int 400)) (by decide +kernel)) rfl
    | 5, _ => Cond.eq_int (hs (.eq (.elem (Term.static "SecureLines$End" "SETTINGS_MOST" "[I") (.int 5)) (.int 1)) (by decide +kernel)) rfl
    | 6, _ => Cond.eq_int (hs (.eq (.elem (Term.static "SecureLines$End" "SETTINGS_MOST" "[I") (.int 6)) (.int 1)) (by decide +kernel)) rfl
    | 7, _ => Cond.eq_int (hs (.eq (.elem (Term.static "SecureLines$End" "SETTINGS_MOST" "[I") (.int 7)) (.int 100)) (by decide +kernel)) rfl
    | k + 8, h => absurd h (by omega)) (fun a h1 h2 => by omega)
  refine ⟨t, h1, h2, fun b hb he => ?_⟩
  have h3 := hs (.not (.eq (.arg 0) (Term.static "SecureLines$End" "SETTINGS_MOST" "[I"))) (by decide +kernel)
  subst hb
  subst he
  have h4 : (Term.arg 0).eval #[.ref b] s none [] s = some (.ref b) := rfl
  simp only [Cond.before, Cond.holds, Cond.value, h1, h4] at h3
  simp at h3
/-- what a run may read besides what it makes: the script and the static arrays -/
def aRO (b L : Nat) (xs : Nat → Int32) (sa : Nat → Nat) : am_O := fun a => if a = b then some (L, xs) else if a = sa 0 then some (3, aV_0) else if a = sa 1 then some (3, aV_1) else if a = sa 2 then some (8, aV_2) else none
def aRun : Prop := ∀ (b L sz : Nat) (xs : Nat → Int32) (sa : Nat → Nat) (RO : am_O), L ≤ 3584 → b < sz → RO b = some (L, xs) → sa 0 < sz → RO (sa 0) = some (3, aV_0) → sa 1 < sz → RO (sa 1) = some (3, aV_1) → sa 2 < sz → RO (sa 2) = some (8, aV_2) → ∃ k M' sz' sl', am_W (aP sa) RO k 561 0 [(0, .ref b)] [] (fun _ => none) sz 0 (am_eq (some (.int 1)) M' sz' sl') ∧ sz' ≤ sz + 600000 ∧ sl' ≤ 7302249
theorem am_T_ne {t t2 N N2 : Nat} {f f2 : Nat → Value} {A : Nat → Prop} {U : State} {H : Heap} (h : va_T .int t N f A U H) (h2 : va_T .int t2 N2 f2 A U H) (hd : Int32.ofNat N ≠ Int32.ofNat N2 ∨ ∃ j, j < N ∧ j < N2 ∧ f j ≠ f2 j) : t ≠ t2 := by
  intro e
  subst e
  obtain ⟨c1, a1, -, -, -, a5, a6, -⟩ := h
  obtain ⟨c2, b1, -, -, -, b5, b6, -⟩ := h2
  have e : c1 = c2 := Option.some.inj (a1.symm.trans b1)
  subst e
  rcases hd with hd | ⟨j, h1, h2, h3⟩
  · exact hd (a5.symm.trans b5)
  · exact h3 (Option.some.inj ((a6 j h1).symm.trans (b6 j h2)))
theorem am_X_T {b L : Nat} {xs : Nat → Int32} {A : Nat → Prop} {U : State} {H : Heap} (h : va_X b L xs U H) (hA : ¬ A b) : va_T .int b L (fun j => .int (xs j)) A U H := by
  obtain ⟨c, h1, h2, h3, h4, h5⟩ := h
  exact ⟨c, h1, h2, h3, Nat.le_of_eq h4.symm, (by rw [h4]), h5, hA⟩
set_option maxHeartbeats 4000000 in
theorem a_kd {sa : Nat → Nat} : ∀ (t : Nat) (ty : FieldType), (am_kd (aP sa))[t]? = some ty → (Cond.arrayClass ty ∈ am_Ts aT ∧ (∀ n, ty ≠ .object n) ∧ ∀ t, ty ≠ .array t) ∨ (Cond.arrayOver ty ∈ am_Nw aT ∧ ((∃ n, ty = .object n) ∨ ∃ t, ty = .array t)) := by
  intro t ty h
  have h1 : ty ∈ aKd := List.mem_of_getElem? h
  unfold aKd at h1
  simp only [List.mem_cons, List.not_mem_nil, or_false] at h1
  rcases h1 with rfl | rfl | rfl | rfl | rfl | rfl | rfl | rfl | rfl | rfl | rfl | rfl
  · exact Or.inl ⟨am_in_s (q := (0, 88)) (by decide +kernel), fun n h => (by cases h), fun t h => (by cases h)⟩
  · exact Or.inl ⟨am_in_s (q := (1, 77)) (by decide +kernel), fun n h => (by cases h), fun t h => (by cases h)⟩
  · exact Or.inl ⟨am_in_s (q := (12, 51)) (by decide +kernel), fun n h => (by cases h), fun t h => (by cases h)⟩
  · exact Or.inr ⟨am_inN_s (q := (1, 21)) (by decide +kernel), Or.inr ⟨_, rfl⟩⟩
  · exact Or.inr ⟨am_inN_s (q := (3, 82)) (by decide +kernel), Or.inr ⟨_, rfl⟩⟩
  · exact Or.inr ⟨am_inN_s (q := (1, 14)) (by decide +kernel), Or.inl ⟨_, rfl⟩⟩
  · exact Or.inr ⟨am_inN_s (q := (4, 68)) (by decide +kernel), Or.inl ⟨_, rfl⟩⟩
  · exact Or.inr ⟨am_inN_s (q := (1, 18)) (by decide +kernel), Or.inl ⟨_, rfl⟩⟩
  · exact Or.inr ⟨am_inN_s (q := (0, 115)) (by decide +kernel), Or.inl ⟨_, rfl⟩⟩
  · exact Or.inr ⟨am_inN_s (q := (1, 19)) (by decide +kernel), Or.inl ⟨_, rfl⟩⟩
  · exact Or.inr ⟨am_inN_s (q := (3, 86)) (by decide +kernel), Or.inl ⟨_, rfl⟩⟩
  · exact Or.inr ⟨am_inN_s (q := (1, 16)) (by decide +kernel), Or.inl ⟨_, rfl⟩⟩
theorem a_as {sa : Nat → Nat} : ∀ t t2, am_asA (aP sa) t t2 = true → ∃ ty, (am_kd (aP sa))[t]? = some (.array ty) ∧ (am_kd (aP sa))[t2]? = some ty := by
  intro t t2 h
  have h1 : aLB.any (fun q => q.1 == t && q.2 == t2) = true := h
  obtain ⟨q, h2, h3⟩ := List.any_eq_true.mp h1
  simp only [Bool.and_eq_true, beq_iff_eq] at h3
  unfold aLB at h2
  simp only [List.mem_cons, List.not_mem_nil, or_false] at h2
  subst h2
  obtain ⟨rfl, rfl⟩ := h3
  exact ⟨_, rfl, rfl⟩
set_option maxRecDepth 100000 in
theorem a_lm (sa : Nat → Nat) : am_meth (aP sa) 561 = some aM_561.1 := rfl
set_option maxHeartbeats 4000000 in
theorem a_start (hrun : aRun) (l : Launch) {p : Program} {e : Env} {s : State} {m : MethodId} {below : List Frame} {meth : Method} {c : Code} {b L : Nat} {xs : Nat → Int32} (hL : L ≤ 3584) (hx : p.tables.exec = Jvm.exec) (hb : c.code = code) (hr : meth.sig.returnType = ret) (hml : c.maxLocals = 4) (hown : s.vm.findClass "SecureLinesLaw" = some m.cls) (hts : ∀ w ∈ lw_tbl, w.before #[Value.ref b] s = true) (hX : va_X b L xs s s.heap) (hbl : b < s.heap.size) (hlocks : meth.locks = false) (hnm : meth.name = x.name) (hgv : (Jvm.Cond.and given_1 narrow_1).before #[Value.ref b] s = true) :
    W p l e room_1 s m #[Value.ref b] below meth c s.heap [] 0 0 (fun t => ∃ o, t.status = .running ∧ Ended t below o ∧ o = .returned (some (.int 1)) ∧ Framed s o t [] 600000 7302249) (entryFrame m ([Value.ref b] : List Value).toArray 4) := by
  obtain ⟨t0, e0, T0, N0⟩ := a_st_0 hgv
  obtain ⟨t1, e1, T1, N1⟩ := a_st_1 hgv
  obtain ⟨t2, e2, T2, N2⟩ := a_st_2 hgv
  have n_b : ∀ (q : Nat), q < s.heap.size → ¬ s.heap.size ≤ q := fun q h => Nat.not_le.mpr h
  obtain ⟨sa, hsa⟩ : ∃ sa : Nat → Nat, sa 0 = t0 ∧ sa 1 = t1 ∧ sa 2 = t2 := ⟨fun i => match i with | 0 => t0 | 1 => t1 | 2 => t2 | _ => 0, rfl, rfl, rfl⟩
  obtain ⟨s0, s1, s2⟩ := hsa
  have n10 : t1 ≠ t0 := am_T_ne T1 T0 (Or.inr ⟨0, by decide, by decide, by intro h; cases h⟩)
  have n20 : t2 ≠ t0 := am_T_ne T2 T0 (Or.inl (by decide))
  have n21 : t2 ≠ t1 := am_T_ne T2 T1 (Or.inl (by decide))
  have r0 : aRO b L xs sa b = some (L, xs) := if_pos rfl
  have l0 : sa 0 < s.heap.size := by
    obtain ⟨c, h, -⟩ := T0
    rw [s0]
    exact (Array.getElem?_eq_some_iff.mp h).1
  have l1 : sa 1 < s.heap.size := by
    obtain ⟨c, h, -⟩ := T1
    rw [s1]
    exact (Array.getElem?_eq_some_iff.mp h).1
  have l2 : sa 2 < s.heap.size := by
    obtain ⟨c, h, -⟩ := T2
    rw [s2]
    exact (Array.getElem?_eq_some_iff.mp h).1
  have q0 : aRO b L xs sa (sa 0) = some (3, aV_0) := by
    unfold aRO
    rw [s0, s1, s2, if_neg (Ne.symm (N0 b rfl)), if_pos rfl]
  have q1 : aRO b L xs sa (sa 1) = some (3, aV_1) := by
    unfold aRO
    rw [s0, s1, s2, if_neg (Ne.symm (N1 b rfl)), if_neg n10, if_pos rfl]
  have q2 : aRO b L xs sa (sa 2) = some (8, aV_2) := by
    unfold aRO
    rw [s0, s1, s2, if_neg (Ne.symm (N2 b rfl)), if_neg n20, if_neg n21, if_pos rfl]
  obtain ⟨k, M', sz', sl', h1, h2, h3⟩ := hrun b L s.heap.size xs sa (aRO b L xs sa) hL hbl r0 l0 q0 l1 q1 l2 q2
  have hTs : ∀ w ∈ am_Ts aT, w.before #[Value.ref b] s = true := fun w hw => hts w (aT_in w (List.mem_filter.mp hw).1)
  have hNw : ∀ w ∈ am_Nw aT, w.before #[Value.ref b] s = true := fun w hw => hts w (aT_in w (List.mem_filter.mp hw).1)
  have G := a_G sa
  have hro : ∀ (a n : Nat) (f : Nat → Int32), aRO b L xs sa a = some (n, f) → va_T .int a n (fun j => .int (f j)) (fun q => s.heap.size ≤ q) s s.heap := by
    intro a n f h
    unfold aRO at h
    by_cases c0 : a = b
    · rw [if_pos c0] at h
      cases h
      rw [c0]
      exact am_X_T hX (n_b b hbl)
    rw [if_neg c0] at h
    by_cases d0 : a = sa 0
    · rw [if_pos d0] at h
      cases h
      rw [d0, s0]
      exact T0
    rw [if_neg d0] at h
    by_cases d1 : a = sa 1
    · rw [if_pos d1] at h
      cases h
      rw [d1, s1]
      exact T1
    rw [if_neg d1] at h
    by_cases d2 : a = sa 2
    · rw [if_pos d2] at h
      cases h
      rw [d2, s2]
      exact T2
    rw [if_neg d2] at h
    cases h
  have hz : ∀ z ∈ am_zs aZn sa, va_Z z.1 z.2.1 z.2.2.1 (.ref z.2.2.2) (fun q => s.heap.size ≤ q) s s.heap := by
    have e : am_zs aZn sa = [("SecureLines$Mill", "BASES", "[I", sa 0), ("SecureLines$Mill", "PRIMES", "[I", sa 1), ("SecureLines$End", "SETTINGS_MOST", "[I", sa 2)] := rfl
    rw [e]
    simp only [List.forall_mem_cons, List.not_mem_nil, false_imp_iff, implies_true, and_true]
    exact ⟨va_Zof (hts _ (aT_in _ (am_at_mem (q := (2, 12)) (by decide +kernel)))) (hTs _ (am_in_s (q := (0, 3)) (by decide +kernel))) (by rw [s0]; exact e0) n_b, va_Zof (hts _ (aT_in _ (am_at_mem (q := (2, 14)) (by decide +kernel)))) (hTs _ (am_in_s (q := (0, 3)) (by decide +kernel))) (by rw [s1]; exact e1) n_b, va_Zof (hts _ (aT_in _ (am_at_mem (q := (3, 188)) (by decide +kernel)))) (hTs _ (am_in_s (q := (0, 11)) (by decide +kernel))) (by rw [s2]; exact e2) n_b⟩
  obtain ⟨D, ca, hW⟩ := am_wo (P := aP sa) (RO := aRO b L xs sa) G hTs hNw a_kd a_as hz hro
  have hl := lv_entry [Value.ref b] (n := 4) (Nat.le_add_left 1 3)
  rw [lg_entry_eq]
  intro T hT X
  obtain ⟨t, g1, g2⟩ := am_sim (D := D) (A := fun q => s.heap.size ≤ q) (ca := ca) G l k 561 0 _ [] (fun _ => none) s.heap.size 0 _ M' sz' sl' h1 _ (a_lm sa) p e room_1 s m #[Value.ref b] below meth c s.heap [] _ 0 0 _ _ ⟨hx, hb, hml, hown, hTs, hnm, hr, hlocks, hW⟩ (fun a e h => by cases h) rfl va_S.rf hl rfl rfl (by show 0 + (sz' - s.heap.size) ≤ 600000; omega) (by show 0 + (sl' - 0) ≤ 7302249; omega) (by decide) (by decide) T hT X
  exact ⟨t, g1, am_fin g2 (by omega) (by omega)⟩
end
section
/-! SX: a symbolic runner over AM: values are terms; ints and longs of terms -/
abbrev sx_E : Type := Nat × (Nat → Nat) × (Nat → Int32)
def sx_ic (x y : Int32) : Int32 := if y < x then 1 else if x = y then 0 else -1
def sx_o2 (o : Binary) (x y : Int32 × Int64) : Int32 × Int64 := match o with
  | .iand => (x.1 &&& y.1, 0)
  | .ior => (x.1 ||| y.1, 0)
  | .ixor => (x.1 ^^^ y.1, 0)
  | .ishl => (x.1 <<< (y.1 &&& 31), 0)
  | .ishr => (x.1 >>> (y.1 &&& 31), 0)
  | .iushr => ((x.1.toUInt32 >>> (y.1.toUInt32 &&& Int32.toUInt32 31)).toInt32, 0)
  | .ladd => (0, x.2 + y.2)
  | .lsub => (0, x.2 - y.2)
  | .lmul => (0, x.2 * y.2)
  | .land => (0, x.2 &&& y.2)
  | .lor => (0, x.2 ||| y.2)
  | .lxor => (0, x.2 ^^^ y.2)
  | .lrem => (0, x.2 - x.2 / y.2 * y.2)
  | .lshl => (0, x.2 <<< (y.1.toInt64 &&& 63))
  | .lshr => (0, x.2 >>> (y.1.toInt64 &&& 63))
  | .lushr => (0, (x.2.toUInt64 >>> (y.1.toInt64.toUInt64 &&& Int64.toUInt64 63)).toInt64)
  | .lcmp => (lg_cmp x.2 y.2, 0)
  | _ => (0, 0)
def sx_o1 (o : Unary) (x : Int32 × Int64) : Int32 × Int64 := match o with
  | .ineg => (-x.1, 0)
  | .i2l => (0, x.1.toInt64)
  | .l2i => (x.2.toInt32, 0)
  | .lneg => (0, -x.2)
  | _ => (0, 0)
/-- a script's int k is written .string "" k; the compared ints a, b: .elem a b -/
def sx_d (E : sx_E) : Term → Int32 × Int64
  | .int v => (v, 0)
  | .long v => (0, v)
  | .string _ k => (E.2.2 k, 0)
  | .add a b => ((sx_d E a).1 + (sx_d E b).1, 0)
  | .sub a b => ((sx_d E a).1 - (sx_d E b).1, 0)
  | .mul a b => ((sx_d E a).1 * (sx_d E b).1, 0)
  | .div a b => ((sx_d E a).1 / (sx_d E b).1, 0)
  | .rem a b => ((sx_d E a).1 - (sx_d E a).1 / (sx_d E b).1 * (sx_d E b).1, 0)
  | .elem a b => (sx_ic (sx_d E a).1 (sx_d E b).1, 0)
  | .op2 o a b => sx_o2 o (sx_d E a) (sx_d E b)
  | .op1 o a => sx_o1 o (sx_d E a)
  | _ => (0, 0)
/-- 0 an int, 1 a long, 2 an address, 3 null -/
def sx_k (t : Term) : Nat := match t with
  | .long _ => 1
  | .op2 o _ _ => (match o with
    | .ladd | .lsub | .lmul | .land | .lor | .lxor | .lrem | .lshl | .lshr | .lushr => 1
    | _ => 0)
  | .op1 o _ => (match o with
    | .i2l | .lneg => 1
    | _ => 0)
  | .index _ => 2
  | .arg _ => 2
  | .null => 3
  | _ => 0
def sx_a (E : sx_E) (t : Term) : Nat := match t with
  | .index k => E.1 + k
  | .arg k => E.2.1 k
  | _ => 0
def sx_v (E : sx_E) (t : Term) : Value := match sx_k t with
  | 0 => .int (sx_d E t).1
  | 1 => .long (sx_d E t).2
  | 2 => .ref (sx_a E t)
  | _ => .null
theorem sx_v0 {E : sx_E} {t : Term} (h : sx_k t = 0) : sx_v E t = .int (sx_d E t).1 := by
  unfold sx_v
  rw [h]
  rfl
theorem sx_v1 {E : sx_E} {t : Term} (h : sx_k t = 1) : sx_v E t = .long (sx_d E t).2 := by
  unfold sx_v
  rw [h]
  rfl
theorem sx_v2 {E : sx_E} {t : Term} (h : sx_k t = 2) : sx_v E t = .ref (sx_a E t) := by
  unfold sx_v
  rw [h]
  rfl
theorem sx_v3 {E : sx_E} {t : Term} (h : sx_k t = 3) : sx_v E t = .null := by
  unfold sx_v
  rw [h]
  rfl
theorem sx_k4 (t : Term) : sx_k t = 0 ∨ sx_k t = 1 ∨ sx_k t = 2 ∨ sx_k t = 3 := by
  unfold sx_k
  split <;> first | (split <;> simp; done) | simp
def sx_c (t : Term) : Option Int32 := match t with
  | .int x => some x
  | _ => none
theorem sx_c_s {t : Term} {x : Int32} (h : sx_c t = some x) : t = .int x := by
  unfold sx_c at h
  split at h
  · injection h with h
    rw [h]
  · cases h
def sx_cl (t : Term) : Option Int64 := match t with
  | .long x => some x
  | _ => none
theorem sx_cl_s {t : Term} {x : Int64} (h : sx_cl t = some x) : t = .long x := by
  unfold sx_cl at h
  split at h
  · injection h with h
    rw [h]
  · cases h
/-- of two ints an int -/
def sx_ii (g : Int32 → Int32 → Int32) (nd : Term → Term → Term) (st : List Term) : Option (List Term) := match st with
  | b :: a :: r => if sx_k a = 0 ∧ sx_k b = 0 then some ((match sx_c a, sx_c b with
      | some x, some y => .int (g x y)
      | _, _ => nd a b) :: r) else none
  | _ => none
theorem sx_ii_s {E : sx_E} {g : Int32 → Int32 → Int32} {nd : Term → Term → Term} {st st' : List Term} (hn : ∀ a b, sx_k a = 0 → sx_k b = 0 → sx_k (nd a b) = 0 ∧ (sx_d E (nd a b)).1 = g (sx_d E a).1 (sx_d E b).1) (h : sx_ii g nd st = some st') :
    am_ii (fun x y => .int (g x y)) (st.map (sx_v E)) = some (st'.map (sx_v E)) := by
  unfold sx_ii at h
  split at h
  · rename_i b a r
    split at h
    · rename_i hk
      injection h with h
      subst h
      simp only [List.map_cons, sx_v0 hk.1, sx_v0 hk.2]
      unfold am_ii
      simp only [Option.some.injEq, List.cons.injEq, and_true]
      split
      · rename_i x y h1 h2
        rw [sx_c_s h1, sx_c_s h2]
        rfl
      · rw [sx_v0 (hn a b hk.1 hk.2).1, (hn a b hk.1 hk.2).2]
    · cases h
  · cases h
/-- of two longs a long -/
def sx_jj (g : Int64 → Int64 → Int64) (nd : Term → Term → Term) (st : List Term) : Option (List Term) := match st with
  | b :: a :: r => if sx_k a = 1 ∧ sx_k b = 1 then some ((match sx_cl a, sx_cl b with
      | some x, some y => .long (g x y)
      | _, _ => nd a b) :: r) else none
  | _ => none
theorem sx_jj_s {E : sx_E} {g : Int64 → Int64 → Int64} {nd : Term → Term → Term} {st st' : List Term} (hn : ∀ a b, sx_k a = 1 → sx_k b = 1 → sx_k (nd a b) = 1 ∧ (sx_d E (nd a b)).2 = g (sx_d E a).2 (sx_d E b).2) (h : sx_jj g nd st = some st') :
    am_jj (fun x y => .long (g x y)) (st.map (sx_v E)) = some (st'.map (sx_v E)) := by
  unfold sx_jj at h
  split at h
  · rename_i b a r
    split at h
    · rename_i hk
      injection h with h
      subst h
      simp only [List.map_cons, sx_v1 hk.1, sx_v1 hk.2]
      unfold am_jj
      simp only [Option.some.injEq, List.cons.injEq, and_true]
      split
      · rename_i x y h1 h2
        rw [sx_cl_s h1, sx_cl_s h2]
        rfl
      · rw [sx_v1 (hn a b hk.1 hk.2).1, (hn a b hk.1 hk.2).2]
    · cases h
  · cases h
/-- of a long and an int a long -/
def sx_ij (g : Int64 → Int32 → Int64) (nd : Term → Term → Term) (st : List Term) : Option (List Term) := match st with
  | b :: a :: r => if sx_k a = 1 ∧ sx_k b = 0 then some ((match sx_cl a, sx_c b with
      | some x, some y => .long (g x y)
      | _, _ => nd a b) :: r) else none
  | _ => none
theorem sx_ij_s {E : sx_E} {g : Int64 → Int32 → Int64} {nd : Term → Term → Term} {st st' : List Term} (hn : ∀ a b, sx_k a = 1 → sx_k b = 0 → sx_k (nd a b) = 1 ∧ (sx_d E (nd a b)).2 = g (sx_d E a).2 (sx_d E b).1) (h : sx_ij g nd st = some st') :
    am_ij (fun x y => .long (g x y)) (st.map (sx_v E)) = some (st'.map (sx_v E)) := by
  unfold sx_ij at h
  split at h
  · rename_i b a r
    split at h
    · rename_i hk
      injection h with h
      subst h
      simp only [List.map_cons, sx_v1 hk.1, sx_v0 hk.2]
      unfold am_ij
      simp only [Option.some.injEq, List.cons.injEq, and_true]
      split
      · rename_i x y h1 h2
        rw [sx_cl_s h1, sx_c_s h2]
        rfl
      · rw [sx_v1 (hn a b hk.1 hk.2).1, (hn a b hk.1 hk.2).2]
    · cases h
  · cases h
/-- of two longs an int -/
def sx_ji (g : Int64 → Int64 → Int32) (nd : Term → Term → Term) (st : List Term) : Option (List Term) := match st with
  | b :: a :: r => if sx_k a = 1 ∧ sx_k b = 1 then some ((match sx_cl a, sx_cl b with
      | some x, some y => .int (g x y)
      | _, _ => nd a b) :: r) else none
  | _ => none
theorem sx_ji_s {E : sx_E} {g : Int64 → Int64 → Int32} {nd : Term → Term → Term} {st st' : List Term} (hn : ∀ a b, sx_k a = 1 → sx_k b = 1 → sx_k (nd a b) = 0 ∧ (sx_d E (nd a b)).1 = g (sx_d E a).2 (sx_d E b).2) (h : sx_ji g nd st = some st') :
    am_jj (fun x y => .int (g x y)) (st.map (sx_v E)) = some (st'.map (sx_v E)) := by
  unfold sx_ji at h
  split at h
  · rename_i b a r
    split at h
    · rename_i hk
      injection h with h
      subst h
      simp only [List.map_cons, sx_v1 hk.1, sx_v1 hk.2]
      unfold am_jj
      simp only [Option.some.injEq, List.cons.injEq, and_true]
      split
      · rename_i x y h1 h2
        rw [sx_cl_s h1, sx_cl_s h2]
        rfl
      · rw [sx_v0 (hn a b hk.1 hk.2).1, (hn a b hk.1 hk.2).2]
    · cases h
  · cases h
def sx_add (a b : Term) : Term := if a = .int 0 then b else if b = .int 0 then a else .add a b
theorem sx_add_s {E : sx_E} (a b : Term) (ha : sx_k a = 0) (hb : sx_k b = 0) : sx_k (sx_add a b) = 0 ∧ (sx_d E (sx_add a b)).1 = (sx_d E a).1 + (sx_d E b).1 := by
  unfold sx_add
  split
  · rename_i h
    subst h
    exact ⟨hb, by simp [sx_d]⟩
  · split
    · rename_i h
      subst h
      exact ⟨ha, by simp [sx_d]⟩
    · exact ⟨rfl, rfl⟩
/-- a long that is an int's -/
def sx_ai (t : Term) : Option Term := match t with
  | .long v => if v.toInt32.toInt64 = v then some (.int v.toInt32) else none
  | .op1 o a => (match o with
    | .i2l => some a
    | _ => none)
  | _ => none
theorem sx_ai_s {E : sx_E} {t a : Term} (h : sx_ai t = some a) : (sx_d E t).2 = (sx_d E a).1.toInt64 := by
  unfold sx_ai at h
  split at h
  · split at h
    · rename_i he
      injection h with h
      subst h
      exact he.symm
    · cases h
  · split at h
    · injection h with h
      subst h
      rfl
    · cases h
  · cases h
theorem sx_ic_s (x y : Int32) : lg_cmp x.toInt64 y.toInt64 = sx_ic x y := by
  unfold lg_cmp sx_ic
  have e1 : (y.toInt64 < x.toInt64) = (y < x) := by
    rw [Int64.lt_iff_toInt_lt, Int32.lt_iff_toInt_lt, Int32.toInt_toInt64, Int32.toInt_toInt64]
  have e2 : (x.toInt64 = y.toInt64) = (x = y) := by
    rw [← Int64.toInt_inj, ← Int32.toInt_inj, Int32.toInt_toInt64, Int32.toInt_toInt64]
  simp only [gt_iff_lt, e1, e2]
def sx_cmp (a b : Term) : Term := match sx_ai a, sx_ai b with
  | some x, some y => .elem x y
  | _, _ => .op2 .lcmp a b
theorem sx_cmp_s {E : sx_E} (a b : Term) : sx_k (sx_cmp a b) = 0 ∧ (sx_d E (sx_cmp a b)).1 = lg_cmp (sx_d E a).2 (sx_d E b).2 := by
  unfold sx_cmp
  split
  · rename_i x y h1 h2
    rw [sx_ai_s h1, sx_ai_s h2, sx_ic_s]
    exact ⟨rfl, rfl⟩
  · exact ⟨rfl, rfl⟩
/-- what an instruction makes of the stack alone -/
def sx_nd2 (o : Binary) (a b : Term) : Term := .op2 o a b
def sx_i1 (g : Int32 → Int32) (nd : Term → Term) (st : List Term) : Option (List Term) := match st with
  | a :: r => if sx_k a = 0 then some ((match sx_c a with
      | some x => .int (g x)
      | _ => nd a) :: r) else none
  | _ => none
def sx_i1l (g : Int32 → Int64) (nd : Term → Term) (st : List Term) : Option (List Term) := match st with
  | a :: r => if sx_k a = 0 then some ((match sx_c a with
      | some x => .long (g x)
      | _ => nd a) :: r) else none
  | _ => none
def sx_j1 (g : Int64 → Int64) (nd : Term → Term) (st : List Term) : Option (List Term) := match st with
  | a :: r => if sx_k a = 1 then some ((match sx_cl a with
      | some x => .long (g x)
      | _ => nd a) :: r) else none
  | _ => none
def sx_j1i (g : Int64 → Int32) (nd : Term → Term) (st : List Term) : Option (List Term) := match st with
  | a :: r => if sx_k a = 1 then some ((match sx_cl a with
      | some x => .int (g x)
      | _ => nd a) :: r) else none
  | _ => none
theorem sx_i1_s {E : sx_E} {g : Int32 → Int32} {nd : Term → Term} {st st' : List Term} (hn : ∀ a, sx_k (nd a) = 0 ∧ (sx_d E (nd a)).1 = g (sx_d E a).1) (h : sx_i1 g nd st = some st') : am_i1 (fun x => .int (g x)) (st.map (sx_v E)) = some (st'.map (sx_v E)) := by
  unfold sx_i1 at h
  split at h
  · split at h
    · rename_i a r hk
      injection h with h
      subst h
      simp only [List.map_cons, sx_v0 hk]
      unfold am_i1
      simp only [Option.some.injEq, List.cons.injEq, and_true]
      split
      · rename_i x h1
        rw [sx_c_s h1]
        rfl
      · rw [sx_v0 (hn a).1, (hn a).2]
    · cases h
  · cases h
theorem sx_i1l_s {E : sx_E} {g : Int32 → Int64} {nd : Term → Term} {st st' : List Term} (hn : ∀ a, sx_k (nd a) = 1 ∧ (sx_d E (nd a)).2 = g (sx_d E a).1) (h : sx_i1l g nd st = some st') : am_i1 (fun x => .long (g x)) (st.map (sx_v E)) = some (st'.map (sx_v E)) := by
  unfold sx_i1l at h
  split at h
  · split at h
    · rename_i a r hk
      injection h with h
      subst h
      simp only [List.map_cons, sx_v0 hk]
      unfold am_i1
      simp only [Option.some.injEq, List.cons.injEq, and_true]
      split
      · rename_i x h1
        rw [sx_c_s h1]
        rfl
      · rw [sx_v1 (hn a).1, (hn a).2]
    · cases h
  · cases h
theorem sx_j1_s {E : sx_E} {g : Int64 → Int64} {nd : Term → Term} {st st' : List Term} (hn : ∀ a, sx_k (nd a) = 1 ∧ (sx_d E (nd a)).2 = g (sx_d E a).2) (h : sx_j1 g nd st = some st') : am_j1 (fun x => .long (g x)) (st.map (sx_v E)) = some (st'.map (sx_v E)) := by
  unfold sx_j1 at h
  split at h
  · split at h
    · rename_i a r hk
      injection h with h
      subst h
      simp only [List.map_cons, sx_v1 hk]
      unfold am_j1
      simp only [Option.some.injEq, List.cons.injEq, and_true]
      split
      · rename_i x h1
        rw [sx_cl_s h1]
        rfl
      · rw [sx_v1 (hn a).1, (hn a).2]
    · cases h
  · cases h
theorem sx_j1i_s {E : sx_E} {g : Int64 → Int32} {nd : Term → Term} {st st' : List Term} (hn : ∀ a, sx_k (nd a) = 0 ∧ (sx_d E (nd a)).1 = g (sx_d E a).2) (h : sx_j1i g nd st = some st') : am_j1 (fun x => .int (g x)) (st.map (sx_v E)) = some (st'.map (sx_v E)) := by
  unfold sx_j1i at h
  split at h
  · split at h
    · rename_i a r hk
      injection h with h
      subst h
      simp only [List.map_cons, sx_v1 hk]
      unfold am_j1
      simp only [Option.some.injEq, List.cons.injEq, and_true]
      split
      · rename_i x h1
        rw [sx_cl_s h1]
        rfl
      · rw [sx_v0 (hn a).1, (hn a).2]
    · cases h
  · cases h
/-- a divisor that is a constant, not 0 -/
def sx_dv (st : List Term) : Bool := match st with
  | b :: _ => (match b with
    | .int y => !(y == 0)
    | .long y => !(y == 0)
    | _ => false)
  | _ => false
def sx_op (i : Instr) (st : List Term) : Option (List Term) := match i with
  | .iadd => sx_ii (fun x y => x + y) sx_add st
  | .isub => sx_ii (fun x y => x - y) .sub st
  | .imul => sx_ii (fun x y => x * y) .mul st
  | .iand => sx_ii (fun x y => x &&& y) (.op2 .iand) st
  | .ior => sx_ii (fun x y => x ||| y) (.op2 .ior) st
  | .ixor => sx_ii (fun x y => x ^^^ y) (.op2 .ixor) st
  | .idiv => if sx_dv st then sx_ii (fun x y => x / y) .div st else none
  | .irem => if sx_dv st then sx_ii (fun x y => x - x / y * y) .rem st else none
  | .ishl => sx_ii (fun x y => x <<< (y &&& 31)) (.op2 .ishl) st
  | .ishr => sx_ii (fun x y => x >>> (y &&& 31)) (.op2 .ishr) st
  | .iushr => sx_ii (fun x y => (x.toUInt32 >>> (y.toUInt32 &&& Int32.toUInt32 31)).toInt32) (.op2 .iushr) st
  | .ineg => sx_i1 (fun x => -x) (.op1 .ineg) st
  | .i2l => sx_i1l (fun x => x.toInt64) (.op1 .i2l) st
  | .l2i => sx_j1i (fun x => x.toInt32) (.op1 .l2i) st
  | .lneg => sx_j1 (fun x => -x) (.op1 .lneg) st
  | .ladd => sx_jj (fun x y => x + y) (.op2 .ladd) st
  | .lsub => sx_jj (fun x y => x - y) (.op2 .lsub) st
  | .lmul => sx_jj (fun x y => x * y) (.op2 .lmul) st
  | .land => sx_jj (fun x y => x &&& y) (.op2 .land) st
  | .lor => sx_jj (fun x y => x ||| y) (.op2 .lor) st
  | .lxor => sx_jj (fun x y => x ^^^ y) (.op2 .lxor) st
  | .lrem => if sx_dv st then sx_jj (fun x y => x - x / y * y) (.op2 .lrem) st else none
  | .lcmp => sx_ji lg_cmp sx_cmp st
  | .lshl => sx_ij (fun x y => x <<< (y.toInt64 &&& 63)) (.op2 .lshl) st
  | .lshr => sx_ij (fun x y => x >>> (y.toInt64 &&& 63)) (.op2 .lshr) st
  | .lushr => sx_ij (fun x y => (x.toUInt64 >>> (y.toInt64.toUInt64 &&& Int64.toUInt64 63)).toInt64) (.op2 .lushr) st
  | .dup => (match st with
    | v :: r => if sx_k v = 1 then none else some (v :: v :: r)
    | _ => none)
  | .pop => (match st with
    | v :: r => if sx_k v = 1 then none else some r
    | _ => none)
  | .dup2 => (match st with
    | v :: r => if sx_k v = 1 then some (v :: v :: r) else (match r with
      | w :: r2 => if sx_k w = 1 then none else some (v :: w :: v :: w :: r2)
      | _ => none)
    | _ => none)
  | _ => none
theorem sx_cat {E : sx_E} (t : Term) : (sx_v E t).category = if sx_k t = 1 then 2 else 1 := by
  rcases sx_k4 t with h | h | h | h
  · rw [sx_v0 h, h]; rfl
  · rw [sx_v1 h, h]; rfl
  · rw [sx_v2 h, h]; rfl
  · rw [sx_v3 h, h]; rfl
theorem sx_dv_i {E : sx_E} {st : List Term} (h : sx_dv st = true) : (∃ y r, st.map (sx_v E) = Value.int y :: r ∧ ¬ y = 0) ∨ ∃ y r, st.map (sx_v E) = Value.long y :: r ∧ ¬ y = 0 := by
  unfold sx_dv at h
  split at h
  · split at h
    · rename_i y
      exact Or.inl ⟨y, _, rfl, by simpa using h⟩
    · rename_i y
      exact Or.inr ⟨y, _, rfl, by simpa using h⟩
    · cases h
  · cases h
theorem sx_op_s {E : sx_E} {i : Instr} {st st' : List Term} (h : sx_op i st = some st') : am_op i (st.map (sx_v E)) = some (st'.map (sx_v E)) ∧ am_nz i (st.map (sx_v E)) := by
  have hdi : ∀ {g : Int32 → Int32 → Int32} {nd : Term → Term → Term}, (if sx_dv st then sx_ii g nd st else none) = some st' → sx_ii g nd st = some st' ∧ ∃ y r, st.map (sx_v E) = Value.int y :: r ∧ ¬ y = 0 := by
    intro g nd h
    split at h
    · rename_i hd
      refine ⟨h, ?_⟩
      rcases sx_dv_i (E := E) hd with ⟨y, r, h1, h2⟩ | ⟨y, r, h1, h2⟩
      · exact ⟨y, r, h1, h2⟩
      · exfalso
        unfold sx_ii at h
        split at h
        · split at h
          · rename_i b a r2 hk
            simp only [List.map_cons, sx_v0 hk.2] at h1
            cases h1
          · cases h
        · cases h
    · cases h
  have hdj : ∀ {g : Int64 → Int64 → Int64} {nd : Term → Term → Term}, (if sx_dv st then sx_jj g nd st else none) = some st' → sx_jj g nd st = some st' ∧ ∃ y r, st.map (sx_v E) = Value.long y :: r ∧ ¬ y = 0 := by
    intro g nd h
    split at h
    · rename_i hd
      refine ⟨h, ?_⟩
      rcases sx_dv_i (E := E) hd with ⟨y, r, h1, h2⟩ | ⟨y, r, h1, h2⟩
      · exfalso
        unfold sx_jj at h
        split at h
        · split at h
          · rename_i b a r2 hk
            simp only [List.map_cons, sx_v1 hk.2] at h1
            cases h1
          · cases h
        · cases h
      · exact ⟨y, r, h1, h2⟩
    · cases h
  cases i with
  | iadd => exact ⟨sx_ii_s (fun a b ha hb => sx_add_s a b ha hb) h, trivial⟩
  | isub => exact ⟨sx_ii_s (fun a b ha hb => ⟨rfl, rfl⟩) h, trivial⟩
  | imul => exact ⟨sx_ii_s (fun a b ha hb => ⟨rfl, rfl⟩) h, trivial⟩
  | iand => exact ⟨sx_ii_s (fun a b ha hb => ⟨rfl, rfl⟩) h, trivial⟩
  | ior => exact ⟨sx_ii_s (fun a b ha hb => ⟨rfl, rfl⟩) h, trivial⟩
  | ixor => exact ⟨sx_ii_s (fun a b ha hb => ⟨rfl, rfl⟩) h, trivial⟩
  | ishl => exact ⟨sx_ii_s (fun a b ha hb => ⟨rfl, rfl⟩) h, trivial⟩
  | ishr => exact ⟨sx_ii_s (fun a b ha hb => ⟨rfl, rfl⟩) h, trivial⟩
  | iushr => exact ⟨sx_ii_s (fun a b ha hb => ⟨rfl, rfl⟩) h, trivial⟩
  | idiv =>
    obtain ⟨h1, h2⟩ := hdi h
    exact ⟨sx_ii_s (fun a b ha hb => ⟨rfl, rfl⟩) h1, h2⟩
  | irem =>
    obtain ⟨h1, h2⟩ := hdi h
    exact ⟨sx_ii_s (fun a b ha hb => ⟨rfl, rfl⟩) h1, h2⟩
  | lrem =>
    obtain ⟨h1, h2⟩ := hdj h
    exact ⟨sx_jj_s (fun a b ha hb => ⟨rfl, rfl⟩) h1, h2⟩
  | ineg => exact ⟨sx_i1_s (fun a => ⟨rfl, rfl⟩) h, trivial⟩
  | i2l => exact ⟨sx_i1l_s (fun a => ⟨rfl, rfl⟩) h, trivial⟩
  | l2i => exact ⟨sx_j1i_s (fun a => ⟨rfl, rfl⟩) h, trivial⟩
  | lneg => exact ⟨sx_j1_s (fun a => ⟨rfl, rfl⟩) h, trivial⟩
  | ladd => exact ⟨sx_jj_s (fun a b ha hb => ⟨rfl, rfl⟩) h, trivial⟩
  | lsub => exact ⟨sx_jj_s (fun a b ha hb => ⟨rfl, rfl⟩) h, trivial⟩
  | lmul => exact ⟨sx_jj_s (fun a b ha hb => ⟨rfl, rfl⟩) h, trivial⟩
  | land => exact ⟨sx_jj_s (fun a b ha hb => ⟨rfl, rfl⟩) h, trivial⟩
  | lor => exact ⟨sx_jj_s (fun a b ha hb => ⟨rfl, rfl⟩) h, trivial⟩
  | lxor => exact ⟨sx_jj_s (fun a b ha hb => ⟨rfl, rfl⟩) h, trivial⟩
  | lcmp => exact ⟨sx_ji_s (fun a b ha hb => sx_cmp_s a b) h, trivial⟩
  | lshl => exact ⟨sx_ij_s (fun a b ha hb => ⟨rfl, rfl⟩) h, trivial⟩
  | lshr => exact ⟨sx_ij_s (fun a b ha hb => ⟨rfl, rfl⟩) h, trivial⟩
  | lushr => exact ⟨sx_ij_s (fun a b ha hb => ⟨rfl, rfl⟩) h, trivial⟩
  | dup =>
    refine ⟨?_, trivial⟩
    unfold sx_op at h
    cases st with
    | nil => cases h
    | cons v r =>
      dsimp only at h
      split at h
      · cases h
      · rename_i hk
        injection h with h
        subst h
        show am_dup (sx_v E v :: r.map (sx_v E)) = _
        unfold am_dup
        simp only [sx_cat, if_neg hk, List.map_cons, if_true]
  | pop =>
    refine ⟨?_, trivial⟩
    unfold sx_op at h
    cases st with
    | nil => cases h
    | cons v r =>
      dsimp only at h
      split at h
      · cases h
      · rename_i hk
        injection h with h
        subst h
        show am_pop (sx_v E v :: r.map (sx_v E)) = _
        unfold am_pop
        simp only [sx_cat, if_neg hk, if_true]
  | dup2 =>
    refine ⟨?_, trivial⟩
    unfold sx_op at h
    cases st with
    | nil => cases h
    | cons v r =>
      dsimp only at h
      split at h
      · rename_i hk
        injection h with h
        subst h
        show am_dup2 (sx_v E v :: r.map (sx_v E)) = _
        unfold am_dup2
        simp only [sx_cat, if_pos hk, List.map_cons, if_true]
      · rename_i hk
        cases r with
        | nil => cases h
        | cons w r2 =>
          dsimp only at h
          split at h
          · cases h
          · rename_i hw
            injection h with h
            subst h
            show am_dup2 (sx_v E v :: sx_v E w :: r2.map (sx_v E)) = _
            unfold am_dup2
            simp only [sx_cat, if_neg hk, if_neg hw, List.map_cons]
            simp
  | _ => cases h
end
section
/-! SX: locals -/
abbrev sx_L : Type := List (Nat × Term)
def sx_lv (E : sx_E) (lv : sx_L) : am_L := lv.map (fun q => (q.1, sx_v E q.2))
def sx_ld (i : Nat) (lv : sx_L) : Option Term := (lv.find? (fun q => q.1 == i)).map (fun q => q.2)
theorem sx_ld_s {E : sx_E} (i : Nat) (lv : sx_L) : am_ld i (sx_lv E lv) = (sx_ld i lv).map (sx_v E) := by
  unfold am_ld sx_lv sx_ld
  rw [List.find?_map]
  have e : ((fun q : Nat × Value => q.1 == i) ∘ fun q : Nat × Term => (q.1, sx_v E q.2)) = fun q => q.1 == i := rfl
  rw [e]
  cases List.find? (fun q : Nat × Term => q.1 == i) lv <;> rfl
def sx_li (o : Option Term) : Option Term := match o with
  | some t => if sx_k t = 0 then some t else none
  | none => none
def sx_ll (o : Option Term) : Option Term := match o with
  | some t => if sx_k t = 1 then some t else none
  | none => none
def sx_la (o : Option Term) : Option Term := match o with
  | some t => if sx_k t = 2 ∨ sx_k t = 3 then some t else none
  | none => none
theorem sx_li_s {E : sx_E} {o : Option Term} {t : Term} (h : sx_li o = some t) : am_li (o.map (sx_v E)) = some (sx_v E t) := by
  unfold sx_li at h
  split at h
  · split at h
    · rename_i hk
      injection h with h
      subst h
      rw [Option.map_some, sx_v0 hk]
      rfl
    · cases h
  · cases h
theorem sx_ll_s {E : sx_E} {o : Option Term} {t : Term} (h : sx_ll o = some t) : am_ll (o.map (sx_v E)) = some (sx_v E t) := by
  unfold sx_ll at h
  split at h
  · split at h
    · rename_i hk
      injection h with h
      subst h
      rw [Option.map_some, sx_v1 hk]
      rfl
    · cases h
  · cases h
theorem sx_la_s {E : sx_E} {o : Option Term} {t : Term} (h : sx_la o = some t) : am_la (o.map (sx_v E)) = some (sx_v E t) := by
  unfold sx_la at h
  split at h
  · split at h
    · rename_i hk
      injection h with h
      subst h
      rw [Option.map_some]
      rcases hk with hk | hk
      · rw [sx_v2 hk]
        rfl
      · rw [sx_v3 hk]
        rfl
    · cases h
  · cases h
def sx_ci (o : Option Value) : Option Term := match o with
  | some (.int x) => some (.int x)
  | _ => none
def sx_cj (o : Option Value) : Option Term := match o with
  | some (.long x) => some (.long x)
  | _ => none
theorem sx_ci_s {E : sx_E} {o : Option Value} {t : Term} (h : sx_ci o = some t) : am_li o = some (sx_v E t) := by
  unfold sx_ci at h
  split at h
  · injection h with h
    subst h
    rfl
  · cases h
theorem sx_cj_s {E : sx_E} {o : Option Value} {t : Term} (h : sx_cj o = some t) : am_ll o = some (sx_v E t) := by
  unfold sx_cj at h
  split at h
  · injection h with h
    subst h
    rfl
  · cases h
def sx_push (cst : Nat → Option Value) (i : Instr) (lv : sx_L) : Option (Nat × Term) := match i with
  | .iconst n => some (1, .int (Int32.ofInt n))
  | .bipush n => some (2, .int (Int8.ofInt n).toInt32)
  | .sipush n => some (3, .int (Int16.ofInt n).toInt32)
  | .lconst n => some (1, .long (Int64.ofNat (n : Nat)))
  | .aconst_null => some (1, .null)
  | .iload_n k => (sx_li (sx_ld k lv)).map (fun v => (1, v))
  | .iload k => (sx_li (sx_ld k lv)).map (fun v => (2, v))
  | .lload_n k => (sx_ll (sx_ld k lv)).map (fun v => (1, v))
  | .lload k => (sx_ll (sx_ld k lv)).map (fun v => (2, v))
  | .aload_n k => (sx_la (sx_ld k lv)).map (fun v => (1, v))
  | .aload k => (sx_la (sx_ld k lv)).map (fun v => (2, v))
  | .ldc k => (sx_ci (cst k)).map (fun v => (2, v))
  | .ldc_w k => (sx_ci (cst k)).map (fun v => (3, v))
  | .ldc2_w k => (sx_cj (cst k)).map (fun v => (3, v))
  | _ => none
theorem sx_push_s {E : sx_E} {cst : Nat → Option Value} {i : Instr} {lv : sx_L} {n : Nat} {t : Term} (h : sx_push cst i lv = some (n, t)) : am_push cst i (sx_lv E lv) = some (n, sx_v E t) := by
  have k1 : ∀ (m j : Nat), (sx_li (sx_ld j lv)).map (fun v => (m, v)) = some (n, t) → (am_li (am_ld j (sx_lv E lv))).map (fun v => (m, v)) = some (n, sx_v E t) := by
    intro m j h
    obtain ⟨v, h1, h2⟩ := Option.map_eq_some_iff.mp h
    cases h2
    rw [sx_ld_s, sx_li_s h1]
    rfl
  have k2 : ∀ (m j : Nat), (sx_ll (sx_ld j lv)).map (fun v => (m, v)) = some (n, t) → (am_ll (am_ld j (sx_lv E lv))).map (fun v => (m, v)) = some (n, sx_v E t) := by
    intro m j h
    obtain ⟨v, h1, h2⟩ := Option.map_eq_some_iff.mp h
    cases h2
    rw [sx_ld_s, sx_ll_s h1]
    rfl
  have k3 : ∀ (m j : Nat), (sx_la (sx_ld j lv)).map (fun v => (m, v)) = some (n, t) → (am_la (am_ld j (sx_lv E lv))).map (fun v => (m, v)) = some (n, sx_v E t) := by
    intro m j h
    obtain ⟨v, h1, h2⟩ := Option.map_eq_some_iff.mp h
    cases h2
    rw [sx_ld_s, sx_la_s h1]
    rfl
  have k4 : ∀ (m j : Nat), (sx_ci (cst j)).map (fun v => (m, v)) = some (n, t) → (am_li (cst j)).map (fun v => (m, v)) = some (n, sx_v E t) := by
    intro m j h
    obtain ⟨v, h1, h2⟩ := Option.map_eq_some_iff.mp h
    cases h2
    rw [sx_ci_s (E := E) h1]
    rfl
  have k5 : ∀ (m j : Nat), (sx_cj (cst j)).map (fun v => (m, v)) = some (n, t) → (am_ll (cst j)).map (fun v => (m, v)) = some (n, sx_v E t) := by
    intro m j h
    obtain ⟨v, h1, h2⟩ := Option.map_eq_some_iff.mp h
    cases h2
    rw [sx_cj_s (E := E) h1]
    rfl
  cases i with
  | iconst j => cases h; rfl
  | bipush j => cases h; rfl
  | sipush j => cases h; rfl
  | lconst j => cases h; rfl
  | aconst_null => cases h; rfl
  | iload_n j => exact k1 1 j h
  | iload j => exact k1 2 j h
  | lload_n j => exact k2 1 j h
  | lload j => exact k2 2 j h
  | aload_n j => exact k3 1 j h
  | aload j => exact k3 2 j h
  | ldc j => exact k4 2 j h
  | ldc_w j => exact k4 3 j h
  | ldc2_w j => exact k5 3 j h
  | _ => cases h
def sx_st1 (i : Nat) (v : Term) (lv : sx_L) : sx_L := (i, v) :: lv.filter (fun q => !(q.1 == i) && !(q.1 + 1 == i && sx_k q.2 == 1))
def sx_st2 (i : Nat) (v : Term) (lv : sx_L) : sx_L := (i, v) :: lv.filter (fun q => !(q.1 == i) && (!(q.1 == i + 1) && !(q.1 + 1 == i && sx_k q.2 == 1)))
theorem sx_c2 {E : sx_E} (t : Term) : ((sx_v E t).category == 2) = (sx_k t == 1) := by
  rw [sx_cat]
  split
  · rename_i h
    rw [h]
    rfl
  · rename_i h
    have : (sx_k t == 1) = false := by simpa using h
    rw [this]
    rfl
theorem sx_st1_s {E : sx_E} (i : Nat) (v : Term) (lv : sx_L) : sx_lv E (sx_st1 i v lv) = am_st1 i (sx_v E v) (sx_lv E lv) := by
  unfold sx_st1 am_st1 sx_lv
  rw [List.map_cons, List.filter_map]
  have e : ((fun q : Nat × Value => !(q.1 == i) && !(q.1 + 1 == i && q.2.category == 2)) ∘ fun q : Nat × Term => (q.1, sx_v E q.2)) = fun q => !(q.1 == i) && !(q.1 + 1 == i && sx_k q.2 == 1) := by
    funext q
    simp only [Function.comp, sx_c2]
  rw [e]
theorem sx_st2_s {E : sx_E} (i : Nat) (v : Term) (lv : sx_L) : sx_lv E (sx_st2 i v lv) = am_st2 i (sx_v E v) (sx_lv E lv) := by
  unfold sx_st2 am_st2 sx_lv
  rw [List.map_cons, List.filter_map]
  have e : ((fun q : Nat × Value => !(q.1 == i) && (!(q.1 == i + 1) && !(q.1 + 1 == i && q.2.category == 2))) ∘ fun q : Nat × Term => (q.1, sx_v E q.2)) = fun q => !(q.1 == i) && (!(q.1 == i + 1) && !(q.1 + 1 == i && sx_k q.2 == 1)) := by
    funext q
    simp only [Function.comp, sx_c2]
  rw [e]
def sx_si (i : Nat) (lv : sx_L) (st : List Term) : Option (sx_L × List Term) := match st with
  | v :: r => if sx_k v = 0 then some (sx_st1 i v lv, r) else none
  | _ => none
def sx_sj (i : Nat) (lv : sx_L) (st : List Term) : Option (sx_L × List Term) := match st with
  | v :: r => if sx_k v = 1 then some (sx_st2 i v lv, r) else none
  | _ => none
def sx_sa (i : Nat) (lv : sx_L) (st : List Term) : Option (sx_L × List Term) := match st with
  | v :: r => if sx_k v = 2 ∨ sx_k v = 3 then some (sx_st1 i v lv, r) else none
  | _ => none
def sx_inc (i : Nat) (n : Int) (lv : sx_L) (st : List Term) : Option (sx_L × List Term) := match sx_ld i lv with
  | some v => if sx_k v = 0 then some (sx_st1 i (match sx_c v with
    | some x => .int (x + Int32.ofInt n)
    | none => sx_add v (.int (Int32.ofInt n))) lv, st) else none
  | none => none
abbrev sx_O : Type := sx_L × List Term
def sx_o (E : sx_E) (o : sx_O) : am_L × List Value := (sx_lv E o.1, o.2.map (sx_v E))
theorem sx_si_s {E : sx_E} {i : Nat} {lv : sx_L} {st : List Term} {o : sx_O} (h : sx_si i lv st = some o) : am_si i (sx_lv E lv) (st.map (sx_v E)) = some (sx_o E o) := by
  unfold sx_si at h
  split at h
  · split at h
    · rename_i v r hk
      injection h with h
      subst h
      rw [List.map_cons, sx_v0 hk]
      unfold sx_o
      rw [sx_st1_s, sx_v0 hk]
      rfl
    · cases h
  · cases h
theorem sx_sj_s {E : sx_E} {i : Nat} {lv : sx_L} {st : List Term} {o : sx_O} (h : sx_sj i lv st = some o) : am_sj i (sx_lv E lv) (st.map (sx_v E)) = some (sx_o E o) := by
  unfold sx_sj at h
  split at h
  · split at h
    · rename_i v r hk
      injection h with h
      subst h
      rw [List.map_cons, sx_v1 hk]
      unfold sx_o
      rw [sx_st2_s, sx_v1 hk]
      rfl
    · cases h
  · cases h
theorem sx_sa_s {E : sx_E} {i : Nat} {lv : sx_L} {st : List Term} {o : sx_O} (h : sx_sa i lv st = some o) : am_sa i (sx_lv E lv) (st.map (sx_v E)) = some (sx_o E o) := by
  unfold sx_sa at h
  split at h
  · split at h
    · rename_i v r hk
      injection h with h
      subst h
      rcases hk with hk | hk
      · rw [List.map_cons, sx_v2 hk]
        unfold sx_o
        rw [sx_st1_s, sx_v2 hk]
        rfl
      · rw [List.map_cons, sx_v3 hk]
        unfold sx_o
        rw [sx_st1_s, sx_v3 hk]
        rfl
    · cases h
  · cases h
theorem sx_inc_s {E : sx_E} {i : Nat} {n : Int} {lv : sx_L} {st : List Term} {o : sx_O} (h : sx_inc i n lv st = some o) : am_inc i n (sx_lv E lv) (st.map (sx_v E)) = some (sx_o E o) := by
  unfold sx_inc at h
  split at h
  · split at h
    · rename_i v hl hk
      injection h with h
      subst h
      unfold am_inc
      rw [sx_ld_s, hl, Option.map_some, sx_v0 hk]
      unfold sx_o
      rw [sx_st1_s]
      dsimp only
      congr 3
      split
      · rename_i x hx
        rw [sx_c_s hx]
        rfl
      · obtain ⟨h1, h2⟩ := sx_add_s (E := E) v (.int (Int32.ofInt n)) hk rfl
        rw [sx_v0 h1, h2]
        rfl
    · cases h
  · cases h
def sx_sto (i : Instr) (lv : sx_L) (st : List Term) : Option (Nat × Nat × sx_O) := match i with
  | .istore_n k => (sx_si k lv st).map (fun o => (1, (k : Nat) + 1, o))
  | .istore k => (sx_si k lv st).map (fun o => (2, k + 1, o))
  | .lstore_n k => (sx_sj k lv st).map (fun o => (1, (k : Nat) + 2, o))
  | .lstore k => (sx_sj k lv st).map (fun o => (2, k + 2, o))
  | .astore_n k => (sx_sa k lv st).map (fun o => (1, (k : Nat) + 1, o))
  | .astore k => (sx_sa k lv st).map (fun o => (2, k + 1, o))
  | .iinc k n => (sx_inc k n lv st).map (fun o => (3, k + 1, o))
  | _ => none
theorem sx_sto_s {E : sx_E} {i : Instr} {lv : sx_L} {st : List Term} {l0 n : Nat} {o : sx_O} (h : sx_sto i lv st = some (l0, n, o)) : am_sto i (sx_lv E lv) (st.map (sx_v E)) = some (l0, n, sx_o E o) := by
  have key : ∀ {f : Option sx_O} {g : Option (am_L × List Value)} (a b : Nat), (∀ o, f = some o → g = some (sx_o E o)) → f.map (fun o => (a, b, o)) = some (l0, n, o) → g.map (fun o => (a, b, o)) = some (l0, n, sx_o E o) := by
    intro f g a b h1 h2
    obtain ⟨o', h3, h4⟩ := Option.map_eq_some_iff.mp h2
    cases h4
    rw [h1 _ h3]
    rfl
  cases i with
  | istore_n k => exact key _ _ (fun o h => sx_si_s h) h
  | istore k => exact key _ _ (fun o h => sx_si_s h) h
  | lstore_n k => exact key _ _ (fun o h => sx_sj_s h) h
  | lstore k => exact key _ _ (fun o h => sx_sj_s h) h
  | astore_n k => exact key _ _ (fun o h => sx_sa_s h) h
  | astore k => exact key _ _ (fun o h => sx_sa_s h) h
  | iinc k n => exact key _ _ (fun o h => sx_inc_s h) h
  | _ => cases h
end
section
/-! SX: memory: the newest first; arrays by what was written to them -/
abbrev sx_W : Type := List (Nat × Term)
abbrev sx_C : Type := (Nat × Nat × sx_W) ⊕ (Nat × List Term)
abbrev sx_M : Type := List sx_C
def sx_gt (w : sx_W) (j : Nat) (d : Term) : Term := match w.find? (fun q => q.1 == j) with
  | some q => q.2
  | none => d
def sx_pt (w : sx_W) (j : Nat) (v : Term) : sx_W := (j, v) :: w.filter (fun q => !(q.1 == j))
theorem sx_gt_pt (w : sx_W) (j : Nat) (v d : Term) (k : Nat) : sx_gt (sx_pt w j v) k d = if k = j then v else sx_gt w k d := by
  unfold sx_gt sx_pt
  rw [List.find?_cons]
  by_cases h : k = j
  · subst h
    simp
  · have h1 : (j == k) = false := by simpa using fun e => h e.symm
    simp only [h1, if_neg h]
    rw [List.find?_filter]
    have e : (fun q : Nat × Term => (!(q.1 == j)) = true ∧ (q.1 == k) = true) = fun q => (q.1 == k) = true := by
      funext q
      apply propext
      refine ⟨fun a => a.2, fun a => ⟨?_, a⟩⟩
      have : q.1 = k := by simpa using a
      simpa [this] using h
    have e2 : (fun a : Nat × Term => decide ((!(a.1 == j)) = true ∧ (a.1 == k) = true)) = fun q => q.1 == k := by
      funext q
      have := congrFun e q
      simp only [this]
      by_cases hh : q.1 = k
      · simp [hh]
      · simp [hh]
    first | rw [e2] | simp only [e2]
def sx_rf (E : sx_E) (t : Term) : Option Nat := if sx_k t = 2 then some (sx_a E t) else none
def sx_arr (E : sx_E) (t n : Nat) (w : sx_W) : vp_A := match t with
  | 0 => (n, .inl (fun j => (sx_d E (sx_gt w j (.int 0))).1))
  | 1 => (n, .inr (.inl (fun j => (sx_d E (sx_gt w j (.long 0))).2)))
  | 2 => (n, .inl (fun j => (sx_d E (sx_gt w j (.int 0))).1))
  | _ => (n, .inr (.inr (.inr (.inr (fun j => sx_rf E (sx_gt w j .null))))))
def sx_cell (E : sx_E) (c : sx_C) : am_E := match c with
  | .inl (t, n, w) => .inl (t, sx_arr E t n w)
  | .inr (ci, fs) => .inr (ci, fs.map (sx_v E))
def sx_mem (E : sx_E) (Ms : sx_M) : am_H := fun q => if q < E.1 then none else (Ms.reverse[q - E.1]?).map (sx_cell E)
def sx_at (n : Nat) (Ms : sx_M) (k : Nat) : Option sx_C := if k < n then Ms[n - 1 - k]? else none
theorem sx_at_s {E : sx_E} {Ms : sx_M} {k : Nat} {c : sx_C} (h : sx_at Ms.length Ms k = some c) : sx_mem E Ms (E.1 + k) = some (sx_cell E c) := by
  unfold sx_at at h
  split at h
  · rename_i hk
    unfold sx_mem
    rw [if_neg (by omega), Nat.add_sub_cancel_left, List.getElem?_reverse hk, h]
    rfl
  · cases h
def sx_up (n : Nat) (Ms : sx_M) (k : Nat) (c : sx_C) : sx_M := Ms.set (n - 1 - k) c
theorem sx_up_len {n : Nat} {Ms : sx_M} {k : Nat} {c : sx_C} : (sx_up n Ms k c).length = Ms.length := by
  unfold sx_up
  rw [List.length_set]
theorem sx_up_s {E : sx_E} {Ms : sx_M} {k : Nat} {c0 c : sx_C} (h : sx_at Ms.length Ms k = some c0) : sx_mem E (sx_up Ms.length Ms k c) = am_set (sx_mem E Ms) (E.1 + k) (sx_cell E c) := by
  unfold sx_at at h
  split at h
  · rename_i hk
    funext q
    unfold am_set
    by_cases hq : q = E.1 + k
    · rw [if_pos hq, hq]
      apply sx_at_s
      unfold sx_at
      rw [sx_up_len, if_pos hk]
      unfold sx_up
      rw [List.getElem?_set_self (by omega)]
    · rw [if_neg hq]
      unfold sx_mem
      split
      · rfl
      · rename_i hge
        congr 1
        by_cases hl : q - E.1 < Ms.length
        · rw [List.getElem?_reverse hl, List.getElem?_reverse (by rw [sx_up_len]; exact hl), sx_up_len]
          unfold sx_up
          rw [List.getElem?_set_ne (by omega)]
        · rw [List.getElem?_eq_none (by rw [List.length_reverse, sx_up_len]; omega), List.getElem?_eq_none (by rw [List.length_reverse]; omega)]
  · cases h
theorem sx_new_s {E : sx_E} {Ms : sx_M} {c : sx_C} : sx_mem E (c :: Ms) = am_set (sx_mem E Ms) (E.1 + Ms.length) (sx_cell E c) := by
  funext q
  unfold am_set sx_mem
  by_cases hq : q = E.1 + Ms.length
  · rw [if_pos hq, hq, if_neg (by omega), Nat.add_sub_cancel_left, List.reverse_cons, List.getElem?_append_right (by rw [List.length_reverse]; omega), List.length_reverse, Nat.sub_self]
    rfl
  · rw [if_neg hq]
    split
    · rfl
    · rw [List.reverse_cons]
      congr 1
      by_cases hl : q - E.1 < Ms.length
      · rw [List.getElem?_append_left (by rw [List.length_reverse]; exact hl)]
      · rw [List.getElem?_eq_none (by rw [List.length_append, List.length_reverse]; show Ms.length + 1 ≤ _; omega), List.getElem?_eq_none (by rw [List.length_reverse]; omega)]
theorem sx_out {E : sx_E} {Ms : sx_M} {q : Nat} (h : q < E.1) : sx_mem E Ms q = none := by
  unfold sx_mem
  rw [if_pos h]
/-- arrays: what is read, what is written -/
theorem sx_cell_r {E : sx_E} {t n : Nat} {w : sx_W} (h : 3 ≤ t) : sx_cell E (.inl (t, n, w)) = am_qa t n (fun j => sx_rf E (sx_gt w j .null)) := by
  unfold sx_cell sx_arr am_qa
  match t, h with
  | t + 3, _ => rfl
theorem sx_cell_i {E : sx_E} {t n : Nat} {w : sx_W} (h : t = 0 ∨ t = 2) : sx_cell E (.inl (t, n, w)) = .inl (t, n, .inl (fun j => (sx_d E (sx_gt w j (.int 0))).1)) := by
  rcases h with rfl | rfl <;> rfl
theorem sx_cell_j {E : sx_E} {n : Nat} {w : sx_W} : sx_cell E (.inl (1, n, w)) = .inl (1, n, .inr (.inl (fun j => (sx_d E (sx_gt w j (.long 0))).2))) := rfl
theorem sx_cell_n {E : sx_E} {t n : Nat} {w : sx_W} : ∃ x : vp_A, sx_cell E (.inl (t, n, w)) = .inl (t, x) ∧ x.1 = n := by
  refine ⟨sx_arr E t n w, rfl, ?_⟩
  unfold sx_arr
  split <;> rfl
theorem sx_w_i {E : sx_E} {w : sx_W} {j : Nat} {v : Term} : (fun k => (sx_d E (sx_gt (sx_pt w j v) k (.int 0))).1) = upd (fun k => (sx_d E (sx_gt w k (.int 0))).1) j (sx_d E v).1 := by
  funext k
  unfold upd
  rw [sx_gt_pt]
  split <;> rfl
theorem sx_w_j {E : sx_E} {w : sx_W} {j : Nat} {v : Term} : (fun k => (sx_d E (sx_gt (sx_pt w j v) k (.long 0))).2) = vp_updL (fun k => (sx_d E (sx_gt w k (.long 0))).2) j (sx_d E v).2 := by
  funext k
  unfold vp_updL
  rw [sx_gt_pt]
  split <;> rfl
theorem sx_w_r {E : sx_E} {w : sx_W} {j : Nat} {v : Term} : (fun k => sx_rf E (sx_gt (sx_pt w j v) k .null)) = va_up (fun k => sx_rf E (sx_gt w k .null)) j (sx_rf E v) := by
  funext k
  unfold va_up
  rw [sx_gt_pt]
  split <;> rfl
end
section
/-! SX: instructions on memory -/
def sx_ix (t : Term) : Option Nat := match t with
  | .index k => some k
  | _ => none
theorem sx_ix_s {t : Term} {k : Nat} (h : sx_ix t = some k) : t = .index k := by
  unfold sx_ix at h
  split at h
  · injection h with h
    rw [h]
  · cases h
def sx_ar (t : Term) : Option Nat := match t with
  | .arg k => some k
  | _ => none
theorem sx_ar_s {t : Term} {k : Nat} (h : sx_ar t = some k) : t = .arg k := by
  unfold sx_ar at h
  split at h
  · injection h with h
    rw [h]
  · cases h
/-- an object at an address -/
def sx_ob (n : Nat) (Ms : sx_M) (t : Term) : Option (Nat × Nat × List Term) := match sx_ix t with
  | none => none
  | some k => match sx_at n Ms k with
    | some (.inr (ci, fs)) => some (k, ci, fs)
    | _ => none
theorem sx_ob_s {E : sx_E} {Ms : sx_M} {t : Term} {k ci : Nat} {fs : List Term} (h : sx_ob Ms.length Ms t = some (k, ci, fs)) : t = .index k ∧ sx_at Ms.length Ms k = some (.inr (ci, fs)) ∧ sx_mem E Ms (E.1 + k) = some (.inr (ci, fs.map (sx_v E))) := by
  unfold sx_ob at h
  split at h
  · cases h
  · rename_i k2 hk
    split at h
    · rename_i ci2 fs2 ha
      injection h with h
      cases h
      exact ⟨sx_ix_s hk, ha, sx_at_s ha⟩
    · cases h
/-- an array at an address -/
def sx_ay (n : Nat) (Ms : sx_M) (t : Term) : Option (Nat × Nat × Nat × sx_W) := match sx_ix t with
  | none => none
  | some k => match sx_at n Ms k with
    | some (.inl (ty, m, w)) => some (k, ty, m, w)
    | _ => none
theorem sx_ay_s {E : sx_E} {Ms : sx_M} {t : Term} {k ty m : Nat} {w : sx_W} (h : sx_ay Ms.length Ms t = some (k, ty, m, w)) : t = .index k ∧ sx_at Ms.length Ms k = some (.inl (ty, m, w)) ∧ sx_mem E Ms (E.1 + k) = some (sx_cell E (.inl (ty, m, w))) := by
  unfold sx_ay at h
  split at h
  · cases h
  · rename_i k2 hk
    split at h
    · rename_i ty2 m2 w2 ha
      injection h with h
      cases h
      exact ⟨sx_ix_s hk, ha, sx_at_s ha⟩
    · cases h
/-- may a value stand in a field of this type -/
def sx_nf (ty : FieldType) (t : Term) : Bool := match sx_k t with
  | 0 => decide (ty = .int) || (match sx_c t with
    | some x => decide (narrow ty (.int x) = .int x) && fits ty (.int x)
    | none => false)
  | 1 => decide (ty = .long)
  | _ => (match ty with
    | .object _ => true
    | .array _ => true
    | _ => false)
theorem sx_nf_s {E : sx_E} {ty : FieldType} {t : Term} (h : sx_nf ty t = true) : narrow ty (sx_v E t) = sx_v E t ∧ fits ty (sx_v E t) = true := by
  unfold sx_nf at h
  rcases sx_k4 t with hk | hk | hk | hk
  · rw [hk] at h
    replace h : (decide (ty = .int) || (match sx_c t with
      | some x => decide (narrow ty (.int x) = .int x) && fits ty (.int x)
      | none => false)) = true := h
    rw [Bool.or_eq_true, decide_eq_true_iff] at h
    rcases h with h | h
    · subst h
      rw [sx_v0 hk]
      exact ⟨rfl, rfl⟩
    · split at h
      · rename_i x hx
        rw [sx_c_s hx]
        rw [Bool.and_eq_true, decide_eq_true_iff] at h
        exact h
      · cases h
  · rw [hk] at h
    replace h : decide (ty = .long) = true := h
    rw [decide_eq_true_iff] at h
    subst h
    rw [sx_v1 hk]
    exact ⟨rfl, rfl⟩
  · rw [hk] at h
    rw [sx_v2 hk]
    cases ty <;> first | (cases h; done) | exact ⟨rfl, rfl⟩
  · rw [hk] at h
    rw [sx_v3 hk]
    cases ty <;> first | (cases h; done) | exact ⟨rfl, rfl⟩
def sx_tv (v : Value) : Option Term := match v with
  | .int x => some (.int x)
  | .long x => some (.long x)
  | .null => some .null
  | _ => none
def sx_tvs (vs : List Value) : Option (List Term) := vs.mapM sx_tv
theorem sx_tv_s {E : sx_E} {v : Value} {t : Term} (h : sx_tv v = some t) : sx_v E t = v := by
  unfold sx_tv at h
  split at h <;> first | (cases h; done) | (injection h with h; subst h; rfl)
theorem sx_tvs_s {E : sx_E} : ∀ {vs : List Value} {ts : List Term}, sx_tvs vs = some ts → ts.map (sx_v E) = vs
  | [], ts, h => by
    unfold sx_tvs at h
    rw [List.mapM_nil] at h
    cases h
    rfl
  | v :: vs, ts, h => by
    unfold sx_tvs at h
    rw [List.mapM_cons] at h
    obtain ⟨t, h1, h2⟩ := Option.bind_eq_some_iff.mp h
    obtain ⟨r, h3, h4⟩ := Option.bind_eq_some_iff.mp h2
    cases h4
    rw [List.map_cons, sx_tv_s h1, sx_tvs_s (vs := vs) h3]
/-- an index that is known, in range -/
def sx_in (cv : Term → Option Int32) (t : Term) (n : Nat) : Option Nat := match cv t with
  | some z => if z < 0 then none else if z.toNatClampNeg < n then some z.toNatClampNeg else none
  | none => none
def sx_cvOk (E : sx_E) (cv : Term → Option Int32) : Prop := ∀ t z, cv t = some z → sx_k t = 0 ∧ (sx_d E t).1 = z
theorem sx_in_s {E : sx_E} {cv : Term → Option Int32} (hcv : sx_cvOk E cv) {t : Term} {n j : Nat} (h : sx_in cv t n = some j) : ∃ z : Int32, sx_v E t = .int z ∧ vp_in z n ∧ z.toNatClampNeg = j ∧ j < n := by
  unfold sx_in at h
  split at h
  · rename_i z hz
    obtain ⟨h1, h2⟩ := hcv t z hz
    split at h
    · cases h
    · rename_i h3
      split at h
      · rename_i h4
        injection h with h
        refine ⟨z, by rw [sx_v0 h1, h2], fun h5 => ?_, h, by omega⟩
        rcases h5 with h5 | h5
        · exact h3 h5
        · omega
      · cases h
  · cases h
/-- a size that is known -/
def sx_sz (cv : Term → Option Int32) (t : Term) (b : Nat) : Option Nat := match cv t with
  | some z => if z < 0 then none else if z.toNatClampNeg * b ≤ 536870912 then some z.toNatClampNeg else none
  | none => none
theorem sx_sz_s {E : sx_E} {cv : Term → Option Int32} (hcv : sx_cvOk E cv) {t : Term} {b j : Nat} (h : sx_sz cv t b = some j) : ∃ z : Int32, sx_v E t = .int z ∧ ¬ z < 0 ∧ z.toNatClampNeg = j ∧ j * b ≤ 536870912 := by
  unfold sx_sz at h
  split at h
  · rename_i z hz
    obtain ⟨h1, h2⟩ := hcv t z hz
    split at h
    · cases h
    · rename_i h3
      split at h
      · rename_i h4
        injection h with h
        exact ⟨z, by rw [sx_v0 h1, h2], h3, h, by rw [← h]; exact h4⟩
      · cases h
  · cases h
abbrev sx_R : Type := Nat → Option (Nat × (Nat → Term))
/-- the program with the static arrays' addresses -/
def sx_P (P : am_P) (sa : Nat → Nat) : am_P := (P.1, P.2.1, P.2.2.1, P.2.2.2.1, P.2.2.2.2.1, P.2.2.2.2.2.1, P.2.2.2.2.2.2.1, P.2.2.2.2.2.2.2.1, (fun o x => (am_sa0 P o x).map sa), P.2.2.2.2.2.2.2.2.2)
def sx_ok (E : sx_E) (rt : sx_R) (RO : am_O) (sa : Nat → Nat) : Prop := (∀ k n g, rt k = some (n, g) → E.2.1 k < E.1 ∧ ∃ f, RO (E.2.1 k) = some (n, f) ∧ ∀ j, j < n → f j = (sx_d E (g j)).1) ∧ ∀ a, E.2.1 (a + 1) = sa a
/-- new long[N][K] -/
def sx_mna (n t N K : Nat) (Ms : sx_M) : sx_M := List.replicate N (.inl (1, K, [])) ++ (.inl (t, N, (List.range N).map (fun i => (i, .index (n + 1 + i)))) :: Ms)
def sx_hp (P : am_P) (rt : sx_R) (cv : Term → Option Int32) (own : Nat) (ini : Bool) (i : Instr) (len pc : Nat) (st : List Term) (Ms : sx_M) (n sl : Nat) : Option (Nat × List Term × sx_M × Nat × Nat) := match i with
  | .getfield x => if len = 3 then (match st with
    | t :: r => (match sx_ob n Ms t with
      | some (_, ci, fs) => (match am_fld P own x ci with
        | some j => (match fs[j]? with
          | some v => some (pc + 3, v :: r, Ms, n, sl)
          | none => none)
        | none => none)
      | none => none)
    | _ => none) else none
  | .putfield x => if len = 3 then (match st with
    | v :: t :: r => (match sx_ob n Ms t with
      | some (k, ci, fs) => (match am_fld P own x ci with
        | some j => if (am_pk P own x ci = 1 ∨ am_pk P own x ci = 2 ∧ ini = true) ∧ j < fs.length ∧ sx_nf (am_tyf P ci j) v = true then some (pc + 3, r, sx_up n Ms k (.inr (ci, fs.set j v)), n, sl) else none
        | none => none)
      | none => none)
    | _ => none) else none
  | .getstatic x => if len = 3 then (match am_sa0 P own x with
    | some a => some (pc + 3, .arg (a + 1) :: st, Ms, n, sl)
    | none => none) else none
  | .new x => if len = 3 then (match am_nw P own x with
    | some ci => (match sx_tvs (am_df P ci) with
      | some ts => some (pc + 3, .index n :: st, .inr (ci, ts) :: Ms, n + 1, sl + (am_df P ci).length)
      | none => none)
    | none => none) else none
  | .newarray ty => if len = 2 then (match st with
    | t :: r => (match sx_sz cv t 8 with
      | some m => (match ty with
        | .int => some (pc + 2, .index n :: r, .inl (0, m, []) :: Ms, n + 1, sl + m)
        | .long => some (pc + 2, .index n :: r, .inl (1, m, []) :: Ms, n + 1, sl + m)
        | .boolean => some (pc + 2, .index n :: r, .inl (2, m, []) :: Ms, n + 1, sl + m)
        | _ => none)
      | none => none)
    | _ => none) else none
  | .anewarray x => if len = 3 then (match st with
    | t :: r => (match sx_sz cv t 4, am_an P own x with
      | some m, some ty => if 3 ≤ ty then some (pc + 3, .index n :: r, .inl (ty, m, []) :: Ms, n + 1, sl + m) else none
      | _, _ => none)
    | _ => none) else none
  | .arraylength => if len = 1 then (match st with
    | t :: r => (match sx_ay n Ms t with
      | some (_, ty, m, _) => if ty < (am_kd P).length then some (pc + 1, .int (Int32.ofNat m) :: r, Ms, n, sl) else none
      | none => (match sx_ar t with
        | some k => (match rt k with
          | some (m, _) => some (pc + 1, .int (Int32.ofNat m) :: r, Ms, n, sl)
          | none => none)
        | none => none))
    | _ => none) else none
  | .iaload => if len = 1 then (match st with
    | j :: t :: r => (match sx_ay n Ms t with
      | some (_, ty, m, w) => (match sx_in cv j m with
        | some z => if ty = 0 ∧ sx_k (sx_gt w z (.int 0)) = 0 then some (pc + 1, sx_gt w z (.int 0) :: r, Ms, n, sl) else none
        | none => none)
      | none => (match sx_ar t with
        | some k => (match rt k with
          | some (m, g) => (match sx_in cv j m with
            | some z => if sx_k (g z) = 0 then some (pc + 1, g z :: r, Ms, n, sl) else none
            | none => none)
          | none => none)
        | none => none))
    | _ => none) else none
  | .baload => if len = 1 then (match st with
    | j :: t :: r => (match sx_ay n Ms t with
      | some (_, ty, m, w) => (match sx_in cv j m with
        | some z => if ty = 2 ∧ sx_k (sx_gt w z (.int 0)) = 0 then some (pc + 1, sx_gt w z (.int 0) :: r, Ms, n, sl) else none
        | none => none)
      | none => none)
    | _ => none) else none
  | .laload => if len = 1 then (match st with
    | j :: t :: r => (match sx_ay n Ms t with
      | some (_, ty, m, w) => (match sx_in cv j m with
        | some z => if ty = 1 ∧ sx_k (sx_gt w z (.long 0)) = 1 then some (pc + 1, sx_gt w z (.long 0) :: r, Ms, n, sl) else none
        | none => none)
      | none => none)
    | _ => none) else none
  | .aaload => if len = 1 then (match st with
    | j :: t :: r => (match sx_ay n Ms t with
      | some (_, ty, m, w) => (match sx_in cv j m, (am_kd P)[ty]? with
        | some z, some fty => if 3 ≤ ty ∧ fty.isReference = true ∧ (sx_k (sx_gt w z .null) = 2 ∨ sx_k (sx_gt w z .null) = 3) then some (pc + 1, sx_gt w z .null :: r, Ms, n, sl) else none
        | _, _ => none)
      | none => none)
    | _ => none) else none
  | .iastore => if len = 1 then (match st with
    | v :: j :: t :: r => (match sx_ay n Ms t with
      | some (k, ty, m, w) => (match sx_in cv j m with
        | some z => if ty = 0 ∧ sx_k v = 0 then some (pc + 1, r, sx_up n Ms k (.inl (0, m, sx_pt w z v)), n, sl) else none
        | none => none)
      | none => none)
    | _ => none) else none
  | .bastore => if len = 1 then (match st with
    | v :: j :: t :: r => (match sx_ay n Ms t with
      | some (k, ty, m, w) => (match sx_in cv j m, cv v with
        | some z, some x => if ty = 2 then some (pc + 1, r, sx_up n Ms k (.inl (2, m, sx_pt w z (.int (vp_nar .boolean x)))), n, sl) else none
        | _, _ => none)
      | none => none)
    | _ => none) else none
  | .lastore => if len = 1 then (match st with
    | v :: j :: t :: r => (match sx_ay n Ms t with
      | some (k, ty, m, w) => (match sx_in cv j m with
        | some z => if ty = 1 ∧ sx_k v = 1 then some (pc + 1, r, sx_up n Ms k (.inl (1, m, sx_pt w z v)), n, sl) else none
        | none => none)
      | none => none)
    | _ => none) else none
  | .aastore => if len = 1 then (match st with
    | v :: j :: t :: r => (match sx_ay n Ms t with
      | some (k, ty, m, w) => (match sx_in cv j m with
        | some z => if 3 ≤ ty then (match sx_ob n Ms v with
            | some (_, ci, _) => if am_asg P ty ci = true then some (pc + 1, r, sx_up n Ms k (.inl (ty, m, sx_pt w z v)), n, sl) else none
            | none => (match sx_ay n Ms v with
              | some (_, t2, _, _) => if am_asA P ty t2 = true then some (pc + 1, r, sx_up n Ms k (.inl (ty, m, sx_pt w z v)), n, sl) else none
              | none => none)) else none
        | none => none)
      | none => none)
    | _ => none) else none
  | .multianewarray x d => if len = 4 ∧ d = 2 then (match st with
    | a :: b :: r => (match sx_sz cv a 8, sx_sz cv b 4 with
      | some K, some N => if 103 ≤ am_nt P own x then some (pc + 4, .index n :: r, sx_mna n (am_nt P own x - 100) N K Ms, n + 1 + N, sl + N + N * K) else none
      | _, _ => none)
    | _ => none) else none
  | .checkcast x => if len = 3 ∧ am_nt P own x = 4 then (match st with
    | t :: r => (match sx_ay n Ms t with
      | some (_, ty, _, _) => if ty = 0 then some (pc + 3, t :: r, Ms, n, sl) else none
      | none => none)
    | _ => none) else none
  | _ => none
/-- arrays' bounds for a row of new longs -/
theorem sx_mna_len {n t N K : Nat} {Ms : sx_M} : (sx_mna n t N K Ms).length = Ms.length + 1 + N := by
  unfold sx_mna
  rw [List.length_append, List.length_replicate, List.length_cons]
  omega
theorem sx_rg (E : sx_E) (n N j : Nat) : sx_rf E (sx_gt ((List.range N).map (fun i => (i, Term.index (n + 1 + i)))) j .null) = if j < N then some (E.1 + n + 1 + j) else none := by
  have h1 : ((List.range N).map (fun i => (i, Term.index (n + 1 + i)))).find? (fun q => q.1 == j) = if j < N then some (j, Term.index (n + 1 + j)) else none := by
    rw [List.find?_map]
    have e : ((fun q : Nat × Term => q.1 == j) ∘ fun i => (i, Term.index (n + 1 + i))) = fun i => i == j := rfl
    rw [e]
    split
    · rename_i h
      have h2 : (List.range N).find? (fun i => i == j) = some j := by
        rw [List.find?_range_eq_some]
        refine ⟨by simp, by simpa using h, fun q hq => ?_⟩
        have : q ≠ j := by omega
        simpa using this
      rw [h2]
      rfl
    · rename_i h
      have h2 : (List.range N).find? (fun i => i == j) = none := by
        rw [List.find?_eq_none]
        intro q hq
        have hq2 := List.mem_range.mp hq
        have : q ≠ j := by omega
        simpa using this
      rw [h2]
      rfl
  unfold sx_gt
  rw [h1]
  split
  · rename_i q hq
    split at hq
    · cases hq
      rename_i hj
      rw [if_pos hj]
      show some (E.1 + (n + 1 + j)) = _
      congr 1
      omega
    · cases hq
  · rename_i hq
    split at hq
    · cases hq
    · rename_i hj
      rw [if_neg hj]
      rfl
theorem sx_mna_s {E : sx_E} {t N K : Nat} {Ms : sx_M} (ht : 3 ≤ t) : sx_mem E (sx_mna Ms.length t N K Ms) = am_mna t (sx_mem E Ms) (E.1 + Ms.length) N K := by
  funext q
  unfold am_mna
  have hr : (sx_mna Ms.length t N K Ms).reverse = Ms.reverse ++ (.inl (t, N, (List.range N).map (fun i => (i, .index (Ms.length + 1 + i)))) :: List.replicate N (.inl (1, K, []))) := by
    unfold sx_mna
    rw [List.reverse_append, List.reverse_cons, List.reverse_replicate, List.append_assoc]
    rfl
  by_cases h1 : q < E.1
  · rw [sx_out h1, if_neg (by omega), if_neg (by omega), sx_out h1]
  · unfold sx_mem
    rw [if_neg h1, if_neg h1, hr]
    by_cases h2 : q - E.1 < Ms.length
    · rw [if_neg (by omega), if_neg (by omega), List.getElem?_append_left (by rw [List.length_reverse]; exact h2)]
    · rw [List.getElem?_append_right (by rw [List.length_reverse]; omega), List.length_reverse]
      by_cases h3 : q = E.1 + Ms.length
      · rw [if_pos h3, h3, show E.1 + Ms.length - E.1 - Ms.length = 0 by omega, List.getElem?_cons_zero, Option.map_some, sx_cell_r ht]
        congr 2
        funext j
        exact sx_rg E Ms.length N j
      · rw [if_neg h3]
        obtain ⟨d, hd⟩ : ∃ d, q - E.1 - Ms.length = d + 1 := ⟨q - E.1 - Ms.length - 1, by omega⟩
        rw [hd, List.getElem?_cons_succ, List.getElem?_replicate]
        by_cases h4 : d < N
        · rw [if_pos h4, if_pos (by omega)]
          rfl
        · rw [if_neg h4, if_neg (by omega), List.getElem?_eq_none (by rw [List.length_reverse]; omega)]
end
section
/-! SX: instructions on memory are AM's -/
section SXS
variable {P : am_P} {E : sx_E} {rt : sx_R} {RO : am_O} {sa : Nat → Nat} {cv : Term → Option Int32} {own : Nat} {ini : Bool} {len pc : Nat} {st st' : List Term} {Ms M' : sx_M} {sl pc' n' sl' : Nat}
set_option maxHeartbeats 2000000 in
theorem sx_hp_s {i : Instr} (hok : sx_ok E rt RO sa) (hcv : sx_cvOk E cv) (h : sx_hp P rt cv own ini i len pc st Ms Ms.length sl = some (pc', st', M', n', sl')) :
    M'.length = n' ∧ ∀ K : am_K, K pc' (st'.map (sx_v E)) (sx_mem E M') (E.1 + n') sl' → am_hp (sx_P P sa) RO own ini i len pc (st.map (sx_v E)) (sx_mem E Ms) (E.1 + Ms.length) sl K := by
  cases i with
  | getfield x =>
    unfold sx_hp at h
    dsimp only at h
    repeat' split at h
    all_goals first | (cases h; done) | skip
    rename_i hlen _ t r _ k ci fs hob _ j hj _ v hv
    cases h
    obtain ⟨rfl, h1, h2⟩ := sx_ob_s (E := E) hob
    refine ⟨rfl, fun K hK => ⟨hlen, E.1 + k, _, ci, fs.map (sx_v E), j, sx_v E v, rfl, h2, hj, by rw [List.getElem?_map, hv]; rfl, hK⟩⟩
  | putfield x =>
    unfold sx_hp at h
    dsimp only at h
    repeat' split at h
    all_goals first | (cases h; done) | skip
    rename_i hlen _ v t r _ k ci fs hob _ j hj hc
    cases h
    obtain ⟨rfl, h1, h2⟩ := sx_ob_s (E := E) hob
    obtain ⟨c1, c2, c3⟩ := hc
    obtain ⟨c4, c5⟩ := sx_nf_s (E := E) c3
    refine ⟨sx_up_len, fun K hK => ⟨hlen, sx_v E v, E.1 + k, _, ci, fs.map (sx_v E), j, rfl, h2, hj, c1, by rw [List.length_map]; exact c2, c4, c5, ?_⟩⟩
    rw [sx_up_s h1] at hK
    have e : sx_cell E (.inr (ci, fs.set j v)) = .inr (ci, (fs.map (sx_v E)).set j (sx_v E v)) := by
      unfold sx_cell
      dsimp only
      rw [List.map_set]
    rw [e] at hK
    exact hK
  | getstatic x =>
    unfold sx_hp at h
    dsimp only at h
    repeat' split at h
    all_goals first | (cases h; done) | skip
    rename_i hlen _ a ha
    cases h
    refine ⟨rfl, fun K hK => ⟨hlen, sa a, ?_, ?_⟩⟩
    · show (am_sa0 P own x).map sa = some (sa a)
      rw [ha]
      rfl
    · rw [← hok.2 a]
      exact hK
  | new x =>
    unfold sx_hp at h
    dsimp only at h
    repeat' split at h
    all_goals first | (cases h; done) | skip
    rename_i hlen _ ci hci _ ts hts
    cases h
    refine ⟨rfl, fun K hK => ⟨hlen, ci, hci, ?_⟩⟩
    rw [sx_new_s] at hK
    have e : sx_cell E (.inr (ci, ts)) = .inr (ci, am_df P ci) := by
      unfold sx_cell
      dsimp only
      rw [sx_tvs_s hts]
    rw [e] at hK
    exact hK
  | newarray ty =>
    unfold sx_hp at h
    dsimp only at h
    repeat' split at h
    all_goals first | (cases h; done) | skip
    all_goals
      rename_i hlen _ t r _ m hm _
      cases h
      obtain ⟨z, e1, e2, e3, e4⟩ := sx_sz_s hcv hm
      subst e3
      refine ⟨rfl, fun K hK => ⟨hlen, z, _, _, _, by rw [List.map_cons, e1], e2, e4, rfl, ?_⟩⟩
      rw [sx_new_s] at hK
      exact hK
  | anewarray x =>
    unfold sx_hp at h
    dsimp only at h
    repeat' split at h
    all_goals first | (cases h; done) | skip
    rename_i hlen _ t r _ _ m ty hm ha ht
    cases h
    obtain ⟨z, e1, e2, e3, e4⟩ := sx_sz_s hcv hm
    subst e3
    refine ⟨rfl, fun K hK => ⟨hlen, z, _, ty, by rw [List.map_cons, e1], e2, e4, ha, ?_⟩⟩
    rw [sx_new_s, sx_cell_r ht] at hK
    exact hK
  | arraylength =>
    unfold sx_hp at h
    dsimp only at h
    repeat' split at h
    all_goals first | (cases h; done) | skip
    · rename_i hlen _ t r _ k ty m w hy hk
      cases h
      obtain ⟨rfl, h1, h2⟩ := sx_ay_s (E := E) hy
      obtain ⟨x, e1, e2⟩ := sx_cell_n (E := E) (t := ty) (n := m) (w := w)
      rw [e1] at h2
      subst e2
      exact ⟨rfl, fun K hK => ⟨hlen, E.1 + k, _, ty, x, rfl, Or.inl ⟨h2, hk⟩, hK⟩⟩
    · rename_i hlen _ t r _ hy _ k hk _ m g hg
      cases h
      obtain ⟨b1, f, b2, b3⟩ := hok.1 k m g hg
      have e := sx_ar_s hk
      subst e
      exact ⟨rfl, fun K hK => ⟨hlen, E.2.1 k, _, 0, (m, .inl f), rfl, Or.inr ⟨sx_out b1, f, b2⟩, hK⟩⟩
  | iaload =>
    unfold sx_hp at h
    dsimp only at h
    repeat' split at h
    all_goals first | (cases h; done) | skip
    · rename_i hlen _ j t r _ k ty m w hy _ z hz hk
      cases h
      obtain ⟨rfl, h1, h2⟩ := sx_ay_s (E := E) hy
      obtain ⟨y, e1, e2, e3, e4⟩ := sx_in_s hcv hz
      obtain ⟨rfl, hk⟩ := hk
      rw [sx_cell_i (Or.inl rfl)] at h2
      refine ⟨rfl, fun K hK => ⟨hlen, y, E.1 + k, _, m, _, by rw [List.map_cons, List.map_cons, e1]; rfl, Or.inl h2, e2, ?_⟩⟩
      rw [List.map_cons, sx_v0 hk] at hK
      rw [e3]
      exact hK
    · rename_i hlen _ j t r _ hy _ k hk _ m g hg _ z hz hk2
      cases h
      obtain ⟨b1, f, b2, b3⟩ := hok.1 k m g hg
      obtain ⟨y, e1, e2, e3, e4⟩ := sx_in_s hcv hz
      have e := sx_ar_s hk
      subst e
      refine ⟨rfl, fun K hK => ⟨hlen, y, E.2.1 k, _, m, f, by rw [List.map_cons, List.map_cons, e1]; rfl, Or.inr ⟨sx_out b1, b2⟩, e2, ?_⟩⟩
      rw [List.map_cons, sx_v0 hk2] at hK
      rw [e3, b3 z e4]
      exact hK
  | baload =>
    unfold sx_hp at h
    dsimp only at h
    repeat' split at h
    all_goals first | (cases h; done) | skip
    rename_i hlen _ j t r _ k ty m w hy _ z hz hk
    cases h
    obtain ⟨rfl, h1, h2⟩ := sx_ay_s (E := E) hy
    obtain ⟨y, e1, e2, e3, e4⟩ := sx_in_s hcv hz
    obtain ⟨rfl, hk⟩ := hk
    rw [sx_cell_i (Or.inr rfl)] at h2
    refine ⟨rfl, fun K hK => ⟨hlen, y, E.1 + k, _, m, _, by rw [List.map_cons, List.map_cons, e1]; rfl, h2, e2, ?_⟩⟩
    rw [List.map_cons, sx_v0 hk] at hK
    rw [e3]
    exact hK
  | laload =>
    unfold sx_hp at h
    dsimp only at h
    repeat' split at h
    all_goals first | (cases h; done) | skip
    rename_i hlen _ j t r _ k ty m w hy _ z hz hk
    cases h
    obtain ⟨rfl, h1, h2⟩ := sx_ay_s (E := E) hy
    obtain ⟨y, e1, e2, e3, e4⟩ := sx_in_s hcv hz
    obtain ⟨rfl, hk⟩ := hk
    rw [sx_cell_j] at h2
    refine ⟨rfl, fun K hK => ⟨hlen, y, E.1 + k, _, m, _, by rw [List.map_cons, List.map_cons, e1]; rfl, h2, e2, ?_⟩⟩
    rw [List.map_cons, sx_v1 hk] at hK
    rw [e3]
    exact hK
  | aaload =>
    unfold sx_hp at h
    dsimp only at h
    repeat' split at h
    all_goals first | (cases h; done) | skip
    rename_i hlen _ j t r _ k ty m w hy _ _ z fty hz hf hk
    cases h
    obtain ⟨rfl, h1, h2⟩ := sx_ay_s (E := E) hy
    obtain ⟨y, e1, e2, e3, e4⟩ := sx_in_s hcv hz
    obtain ⟨ht, hr, hk⟩ := hk
    rw [sx_cell_r ht] at h2
    refine ⟨rfl, fun K hK => ⟨hlen, y, E.1 + k, _, m, ty, _, fty, by rw [List.map_cons, List.map_cons, e1]; rfl, h2, hf, hr, e2, ?_⟩⟩
    rw [List.map_cons] at hK
    have e : va_rf (sx_rf E (sx_gt w z .null)) = sx_v E (sx_gt w z .null) := by
      unfold sx_rf
      rcases hk with hk | hk
      · rw [if_pos hk, sx_v2 hk]
        rfl
      · rw [if_neg (by rw [hk]; decide), sx_v3 hk]
        rfl
    rw [e3, e]
    exact hK
  | iastore =>
    unfold sx_hp at h
    dsimp only at h
    repeat' split at h
    all_goals first | (cases h; done) | skip
    rename_i hlen _ v j t r _ k ty m w hy _ z hz hk
    cases h
    obtain ⟨rfl, h1, h2⟩ := sx_ay_s (E := E) hy
    obtain ⟨y, e1, e2, e3, e4⟩ := sx_in_s hcv hz
    obtain ⟨rfl, hk⟩ := hk
    rw [sx_cell_i (Or.inl rfl)] at h2
    refine ⟨sx_up_len, fun K hK => ⟨hlen, (sx_d E v).1, y, E.1 + k, _, m, _, by rw [List.map_cons, List.map_cons, List.map_cons, e1, sx_v0 hk]; rfl, h2, e2, ?_⟩⟩
    rw [sx_up_s h1, sx_cell_i (Or.inl rfl), sx_w_i] at hK
    rw [e3]
    exact hK
  | bastore =>
    unfold sx_hp at h
    dsimp only at h
    repeat' split at h
    all_goals first | (cases h; done) | skip
    rename_i hlen _ v j t r _ k ty m w hy _ _ z x hz hx hk
    cases h
    obtain ⟨rfl, h1, h2⟩ := sx_ay_s (E := E) hy
    obtain ⟨y, e1, e2, e3, e4⟩ := sx_in_s hcv hz
    obtain ⟨c1, c2⟩ := hcv _ _ hx
    subst hk
    rw [sx_cell_i (Or.inr rfl)] at h2
    refine ⟨sx_up_len, fun K hK => ⟨hlen, x, y, E.1 + k, _, m, _, by rw [List.map_cons, List.map_cons, List.map_cons, e1, sx_v0 c1, c2]; rfl, h2, e2, ?_⟩⟩
    rw [sx_up_s h1, sx_cell_i (Or.inr rfl), sx_w_i] at hK
    rw [e3]
    exact hK
  | lastore =>
    unfold sx_hp at h
    dsimp only at h
    repeat' split at h
    all_goals first | (cases h; done) | skip
    rename_i hlen _ v j t r _ k ty m w hy _ z hz hk
    cases h
    obtain ⟨rfl, h1, h2⟩ := sx_ay_s (E := E) hy
    obtain ⟨y, e1, e2, e3, e4⟩ := sx_in_s hcv hz
    obtain ⟨rfl, hk⟩ := hk
    rw [sx_cell_j] at h2
    refine ⟨sx_up_len, fun K hK => ⟨hlen, (sx_d E v).2, y, E.1 + k, _, m, _, by rw [List.map_cons, List.map_cons, List.map_cons, e1, sx_v1 hk]; rfl, h2, e2, ?_⟩⟩
    rw [sx_up_s h1, sx_cell_j, sx_w_j] at hK
    rw [e3]
    exact hK
  | aastore =>
    unfold sx_hp at h
    dsimp only at h
    repeat' split at h
    all_goals first | (cases h; done) | skip
    · rename_i hlen _ v j t r _ k ty m w hy _ z hz ht _ k2 ci fs hob hg
      cases h
      obtain ⟨rfl, h1, h2⟩ := sx_ay_s (E := E) hy
      obtain ⟨rfl, h3, h4⟩ := sx_ob_s (E := E) hob
      obtain ⟨y, e1, e2, e3, e4⟩ := sx_in_s hcv hz
      rw [sx_cell_r ht] at h2
      refine ⟨sx_up_len, fun K hK => ⟨hlen, Or.inl ⟨E.1 + k2, y, E.1 + k, _, m, ty, _, ci, _, by rw [List.map_cons, List.map_cons, List.map_cons, e1]; rfl, h2, h4, hg, e2, ?_⟩⟩⟩
      rw [sx_up_s h1, sx_cell_r ht, sx_w_r] at hK
      rw [e3]
      exact hK
    · rename_i hlen _ v j t r _ k ty m w hy _ z hz ht _ hob _ k2 t2 m2 w2 hy2 hg
      cases h
      obtain ⟨rfl, h1, h2⟩ := sx_ay_s (E := E) hy
      obtain ⟨rfl, h3, h4⟩ := sx_ay_s (E := E) hy2
      obtain ⟨y, e1, e2, e3, e4⟩ := sx_in_s hcv hz
      obtain ⟨x, c1, c2⟩ := sx_cell_n (E := E) (t := t2) (n := m2) (w := w2)
      rw [c1] at h4
      rw [sx_cell_r ht] at h2
      refine ⟨sx_up_len, fun K hK => ⟨hlen, Or.inr (Or.inl ⟨E.1 + k2, y, E.1 + k, _, m, ty, _, t2, x, by rw [List.map_cons, List.map_cons, List.map_cons, e1]; rfl, h2, h4, hg, e2, ?_⟩)⟩⟩
      rw [sx_up_s h1, sx_cell_r ht, sx_w_r] at hK
      rw [e3]
      exact hK
  | multianewarray x d =>
    unfold sx_hp at h
    dsimp only at h
    repeat' split at h
    all_goals first | (cases h; done) | skip
    rename_i hlen _ a b r _ _ kk N ha hb ht
    cases h
    obtain ⟨z, e1, e2, e3, e4⟩ := sx_sz_s hcv ha
    obtain ⟨y, f1, f2, f3, f4⟩ := sx_sz_s hcv hb
    subst e3
    subst f3
    refine ⟨sx_mna_len, fun K hK => ⟨hlen.1, hlen.2, z, y, _, am_nt P own x - 100, by rw [List.map_cons, List.map_cons, e1, f1], ?_, f2, e2, f4, e4, ?_⟩⟩
    · show am_nt P own x = _
      omega
    · rw [sx_mna_s (by omega), show E.1 + (Ms.length + 1 + y.toNatClampNeg) = E.1 + Ms.length + 1 + y.toNatClampNeg by omega] at hK
      exact hK
  | checkcast x =>
    unfold sx_hp at h
    dsimp only at h
    repeat' split at h
    all_goals first | (cases h; done) | skip
    rename_i hlen _ t r _ k ty m w hy hk
    cases h
    obtain ⟨rfl, h1, h2⟩ := sx_ay_s (E := E) hy
    subst hk
    exact ⟨rfl, fun K hK => ⟨hlen.1, hlen.2, E.1 + k, _, _, rfl, h2, hK⟩⟩
  | _ => cases h
end SXS
end
section
/-! SX: conditions met so far; what they say of an int -/
/-- truth; 0 less, 1 equal; the two terms -/
abbrev sx_Q : Type := Bool × Nat × Term × Term
def sx_hq (E : sx_E) (k : Nat) (a b : Term) : Bool := if k = 0 then decide ((sx_d E a).1 < (sx_d E b).1) else decide ((sx_d E a).1 = (sx_d E b).1)
def sx_h (E : sx_E) (q : sx_Q) : Prop := sx_hq E q.2.1 q.2.2.1 q.2.2.2 = q.1
abbrev sx_I : Type := Int × Int
def sx_inI (E : sx_E) (t : Term) (r : sx_I) : Prop := r.1 ≤ (sx_d E t).1.toInt ∧ (sx_d E t).1.toInt ≤ r.2
def sx_full : sx_I := (-2147483648, 2147483647)
theorem sx_full_s (E : sx_E) (t : Term) : sx_inI E t sx_full := ⟨Int32.le_toInt _, by have := Int32.toInt_lt (sx_d E t).1; show _ ≤ (2147483647 : Int); omega⟩
def sx_b0 (t : Term) : sx_I := match t with
  | .int v => (v.toInt, v.toInt)
  | .elem _ _ => (-1, 1)
  | .op2 o a b => (match o with
    | .lcmp => (-1, 1)
    | .iand => (match sx_c b with
      | some m => if 0 ≤ m then (0, m.toInt) else sx_full
      | none => (match sx_c a with
        | some m => if 0 ≤ m then (0, m.toInt) else sx_full
        | none => sx_full))
    | _ => sx_full)
  | _ => sx_full
theorem sx_ic_r (x y : Int32) : -1 ≤ (sx_ic x y).toInt ∧ (sx_ic x y).toInt ≤ 1 := by
  unfold sx_ic
  split
  · decide
  · split <;> decide
theorem sx_lc_r (x y : Int64) : -1 ≤ (lg_cmp x y).toInt ∧ (lg_cmp x y).toInt ≤ 1 := by
  unfold lg_cmp
  split
  · decide
  · split <;> decide
theorem sx_and_r (x m : Int32) (h : 0 ≤ m) : 0 ≤ (x &&& m).toInt ∧ (x &&& m).toInt ≤ m.toInt := by
  have h0 : 0 ≤ m.toInt := by simpa using Int32.le_iff_toInt_le.mp h
  have hm : m.toInt = (m.toBitVec.toNat : Int) := by
    have h1 : m.toBitVec.msb = false := by
      rw [BitVec.msb_eq_toInt]
      have : m.toBitVec.toInt = m.toInt := rfl
      rw [this]
      simp
      omega
    exact BitVec.toInt_eq_toNat_of_msb h1
  have ha : (x &&& m).toBitVec = x.toBitVec &&& m.toBitVec := by simp
  have hb : (x &&& m).toInt = ((x.toBitVec &&& m.toBitVec).toNat : Int) := by
    have h1 : (x.toBitVec &&& m.toBitVec).msb = false := by
      rw [BitVec.msb_and]
      have h2 : m.toBitVec.msb = false := by
        rw [BitVec.msb_eq_toInt]
        have : m.toBitVec.toInt = m.toInt := rfl
        rw [this]
        simp
        omega
      rw [h2, Bool.and_false]
    have h3 : (x &&& m).toInt = (x &&& m).toBitVec.toInt := rfl
    rw [h3, ha]
    exact BitVec.toInt_eq_toNat_of_msb h1
  rw [hb, hm, BitVec.toNat_and]
  have := Nat.and_le_right (n := x.toBitVec.toNat) (m := m.toBitVec.toNat)
  omega
theorem sx_b0_s (E : sx_E) (t : Term) : sx_inI E t (sx_b0 t) := by
  unfold sx_b0
  split
  · exact ⟨Int.le_refl _, Int.le_refl _⟩
  · exact sx_ic_r _ _
  · split
    · exact sx_lc_r _ _
    · rename_i a b _
      split
      · rename_i m hm
        split
        · rename_i h0
          have e := sx_c_s hm
          subst e
          exact sx_and_r _ _ h0
        · exact sx_full_s E _
      · split
        · rename_i m hm
          split
          · rename_i h0
            have e := sx_c_s hm
            subst e
            have e2 : (sx_d E (.op2 .iand (.int m) b)).1 = (sx_d E b).1 &&& m := Int32.and_comm _ _
            unfold sx_inI
            rw [e2]
            exact sx_and_r _ _ h0
          · exact sx_full_s E _
        · exact sx_full_s E _
    · exact sx_full_s E _
  · exact sx_full_s E _
/-- one condition's part -/
def sx_rf1 (t : Term) (r : sx_I) (q : sx_Q) : sx_I :=
  let r1 : sx_I := if q.2.2.1 = t then (match sx_c q.2.2.2 with
    | some c => if q.2.1 = 0 then (if q.1 then (r.1, min r.2 (c.toInt - 1)) else (max r.1 c.toInt, r.2)) else (if q.1 then (max r.1 c.toInt, min r.2 c.toInt) else r)
    | none => r) else r
  if q.2.2.2 = t then (match sx_c q.2.2.1 with
    | some c => if q.2.1 = 0 then (if q.1 then (max r1.1 (c.toInt + 1), r1.2) else (r1.1, min r1.2 c.toInt)) else (if q.1 then (max r1.1 c.toInt, min r1.2 c.toInt) else r1)
    | none => r1) else r1
def sx_rf2 (t : Term) (r : sx_I) (q : sx_Q) : sx_I :=
  if q.1 = false ∧ q.2.1 = 1 ∧ q.2.2.1 = t then (match sx_c q.2.2.2 with
    | some c => (if r.1 = c.toInt then r.1 + 1 else r.1, if r.2 = c.toInt then r.2 - 1 else r.2)
    | none => r) else r
theorem sx_rf1_s {E : sx_E} {t : Term} {r : sx_I} {q : sx_Q} (hq : sx_h E q) (h : sx_inI E t r) : sx_inI E t (sx_rf1 t r q) := by
  obtain ⟨tr, k, a, b⟩ := q
  unfold sx_h sx_hq at hq
  dsimp only at hq
  have key : ∀ (r : sx_I), sx_inI E t r → sx_inI E t (if a = t then (match sx_c b with
    | some c => if k = 0 then (if tr then (r.1, min r.2 (c.toInt - 1)) else (max r.1 c.toInt, r.2)) else (if tr then (max r.1 c.toInt, min r.2 c.toInt) else r)
    | none => r) else r) := by
    intro r h
    split
    · rename_i ha
      subst ha
      split
      · rename_i c hc
        have e := sx_c_s hc
        subst e
        by_cases hk : k = 0
        · rw [if_pos hk] at hq ⊢
          cases tr
          · have h1 : ¬ (sx_d E a).1 < c := of_decide_eq_false hq
            rw [Int32.lt_iff_toInt_lt] at h1
            exact ⟨by show max r.1 c.toInt ≤ _; have := h.1; omega, h.2⟩
          · have h1 : (sx_d E a).1 < c := of_decide_eq_true hq
            rw [Int32.lt_iff_toInt_lt] at h1
            exact ⟨h.1, by show _ ≤ min r.2 (c.toInt - 1); have := h.2; omega⟩
        · rw [if_neg hk] at hq ⊢
          cases tr
          · exact h
          · have h1 : (sx_d E a).1 = c := of_decide_eq_true hq
            have h2 : (sx_d E a).1.toInt = c.toInt := by rw [h1]
            exact ⟨by show max r.1 c.toInt ≤ _; have := h.1; omega, by show _ ≤ min r.2 c.toInt; have := h.2; omega⟩
      · exact h
    · exact h
  have key2 : ∀ (r : sx_I), sx_inI E t r → sx_inI E t (if b = t then (match sx_c a with
    | some c => if k = 0 then (if tr then (max r.1 (c.toInt + 1), r.2) else (r.1, min r.2 c.toInt)) else (if tr then (max r.1 c.toInt, min r.2 c.toInt) else r)
    | none => r) else r) := by
    intro r h
    split
    · rename_i ha
      subst ha
      split
      · rename_i c hc
        have e := sx_c_s hc
        subst e
        by_cases hk : k = 0
        · rw [if_pos hk] at hq ⊢
          cases tr
          · have h1 : ¬ c < (sx_d E b).1 := of_decide_eq_false hq
            rw [Int32.lt_iff_toInt_lt] at h1
            exact ⟨h.1, by show _ ≤ min r.2 c.toInt; have := h.2; omega⟩
          · have h1 : c < (sx_d E b).1 := of_decide_eq_true hq
            rw [Int32.lt_iff_toInt_lt] at h1
            exact ⟨by show max r.1 (c.toInt + 1) ≤ _; have := h.1; omega, h.2⟩
        · rw [if_neg hk] at hq ⊢
          cases tr
          · exact h
          · have h1 : c = (sx_d E b).1 := of_decide_eq_true hq
            have h2 : (sx_d E b).1.toInt = c.toInt := by rw [← h1]
            exact ⟨by show max r.1 c.toInt ≤ _; have := h.1; omega, by show _ ≤ min r.2 c.toInt; have := h.2; omega⟩
      · exact h
    · exact h
  exact key2 _ (key r h)
theorem sx_rf2_s {E : sx_E} {t : Term} {r : sx_I} {q : sx_Q} (hq : sx_h E q) (h : sx_inI E t r) : sx_inI E t (sx_rf2 t r q) := by
  obtain ⟨tr, k, a, b⟩ := q
  unfold sx_h sx_hq at hq
  dsimp only at hq
  unfold sx_rf2
  dsimp only
  split
  · rename_i hc
    obtain ⟨rfl, rfl, rfl⟩ := hc
    split
    · rename_i c hc
      have e := sx_c_s hc
      subst e
      have h1 : ¬ (sx_d E a).1 = c := of_decide_eq_false hq
      have h2 : ¬ (sx_d E a).1.toInt = c.toInt := fun e => h1 (Int32.toInt_inj.mp e)
      obtain ⟨g1, g2⟩ := h
      constructor
      · dsimp only
        split <;> omega
      · dsimp only
        split <;> omega
    · exact h
  · exact h
def sx_rg0 (cs : List sx_Q) (t : Term) : sx_I := (cs.reverse.foldl (sx_rf2 t) (cs.foldl (sx_rf1 t) (sx_b0 t)))
theorem sx_fold {E : sx_E} {t : Term} {f : sx_I → sx_Q → sx_I} (hf : ∀ r q, sx_h E q → sx_inI E t r → sx_inI E t (f r q)) : ∀ (cs : List sx_Q) (r : sx_I), (∀ q ∈ cs, sx_h E q) → sx_inI E t r → sx_inI E t (cs.foldl f r)
  | [], r, _, h => h
  | q :: cs, r, hc, h => sx_fold hf cs _ (fun p hp => hc p (List.mem_cons_of_mem _ hp)) (hf r q (hc q List.mem_cons_self) h)
theorem sx_rg0_s {E : sx_E} {cs : List sx_Q} (hc : ∀ q ∈ cs, sx_h E q) (t : Term) : sx_inI E t (sx_rg0 cs t) :=
  sx_fold (fun _ _ hq h => sx_rf2_s hq h) _ _ (fun q hq => hc q (List.mem_reverse.mp hq)) (sx_fold (fun _ _ hq h => sx_rf1_s hq h) _ _ hc (sx_b0_s E t))
end
section
/-! SX: tests, jumps -/
def sx_el (t : Term) : Option (Term × Term) := match t with
  | .elem x y => some (x, y)
  | _ => none
theorem sx_el_s {t x y : Term} (h : sx_el t = some (x, y)) : t = .elem x y := by
  unfold sx_el at h
  split at h
  · injection h with h
    cases h
    rfl
  · cases h
def sx_nm (k : Nat) (a b : Term) : Nat × Term × Term := match sx_el a with
  | some (x, y) => if b = .int 0 then (k, x, y) else (k, a, b)
  | none => (match sx_el b with
    | some (x, y) => if a = .int 0 then (if k = 0 then (0, y, x) else (k, x, y)) else (k, a, b)
    | none => (k, a, b))
theorem sx_ic_lt (x y : Int32) : (sx_ic x y < 0) ↔ x < y := by
  unfold sx_ic
  have h0 : ¬ ((1 : Int32) < 0) := by decide
  have h1 : ¬ ((0 : Int32) < 0) := by decide
  have h2 : (-1 : Int32) < 0 := by decide
  split
  · rename_i h
    rw [Int32.lt_iff_toInt_lt] at h
    refine ⟨fun e => absurd e h0, fun e => ?_⟩
    rw [Int32.lt_iff_toInt_lt] at e
    omega
  · rename_i h
    split
    · rename_i h3
      subst h3
      exact ⟨fun e => absurd e h1, fun e => absurd e h⟩
    · rename_i h3
      refine ⟨fun _ => ?_, fun _ => h2⟩
      rw [Int32.lt_iff_toInt_lt] at h ⊢
      have : x.toInt ≠ y.toInt := fun e => h3 (Int32.toInt_inj.mp e)
      omega
theorem sx_ic_gt (x y : Int32) : (0 < sx_ic x y) ↔ y < x := by
  unfold sx_ic
  have h0 : (0 : Int32) < 1 := by decide
  have h1 : ¬ ((0 : Int32) < 0) := by decide
  have h2 : ¬ ((0 : Int32) < -1) := by decide
  split
  · rename_i h
    exact ⟨fun _ => h, fun _ => h0⟩
  · rename_i h
    split
    · exact ⟨fun e => absurd e h1, fun e => absurd e h⟩
    · exact ⟨fun e => absurd e h2, fun e => absurd e h⟩
theorem sx_ic_eq (x y : Int32) : (sx_ic x y = 0) ↔ x = y := by
  unfold sx_ic
  have h0 : ¬ ((1 : Int32) = 0) := by decide
  have h2 : ¬ ((-1 : Int32) = 0) := by decide
  split
  · rename_i h
    refine ⟨fun e => absurd e h0, fun e => ?_⟩
    subst e
    rw [Int32.lt_iff_toInt_lt] at h
    omega
  · split
    · rename_i h
      exact ⟨fun _ => h, fun _ => rfl⟩
    · rename_i h
      exact ⟨fun e => absurd e h2, fun e => absurd e h⟩
theorem sx_nm_s (E : sx_E) (k : Nat) (a b : Term) : sx_hq E (sx_nm k a b).1 (sx_nm k a b).2.1 (sx_nm k a b).2.2 = sx_hq E k a b := by
  unfold sx_nm
  split
  · rename_i x y hx
    split
    · rename_i hb
      have e := sx_el_s hx
      subst e
      subst hb
      unfold sx_hq
      dsimp only
      have e1 : (sx_d E (.elem x y)).1 = sx_ic (sx_d E x).1 (sx_d E y).1 := rfl
      have e2 : (sx_d E (.int 0)).1 = 0 := rfl
      rw [e1, e2]
      split
      · exact decide_eq_decide.mpr (sx_ic_lt _ _).symm
      · exact decide_eq_decide.mpr (sx_ic_eq _ _).symm
    · rfl
  · split
    · rename_i x y hx
      split
      · rename_i ha
        have e := sx_el_s hx
        subst e
        subst ha
        have e1 : (sx_d E (.elem x y)).1 = sx_ic (sx_d E x).1 (sx_d E y).1 := rfl
        have e2 : (sx_d E (.int 0)).1 = 0 := rfl
        split
        · rename_i hk
          subst hk
          unfold sx_hq
          dsimp only
          rw [e1, e2, if_pos rfl, if_pos rfl]
          exact decide_eq_decide.mpr (sx_ic_gt _ _).symm
        · rename_i hk
          unfold sx_hq
          dsimp only
          rw [e1, e2, if_neg hk, if_neg hk]
          refine decide_eq_decide.mpr ⟨fun e => ((sx_ic_eq _ _).mpr e).symm, fun e => (sx_ic_eq _ _).mp e.symm⟩
      · rfl
    · rfl
/-- what is known of a test -/
def sx_ts0 (cs : List sx_Q) (k : Nat) (a b : Term) : Option Bool :=
  let ra := sx_rg0 cs a
  let rb := sx_rg0 cs b
  if k = 0 then (if ra.2 < rb.1 then some true else if rb.2 ≤ ra.1 then some false else (cs.find? (fun q => decide (q.2 = (k, a, b)))).map (fun q => q.1))
  else (if ra.2 < rb.1 ∨ rb.2 < ra.1 then some false else if (ra.1 = ra.2 ∧ rb.1 = rb.2 ∧ ra.1 = rb.1) ∨ a = b then some true else (cs.find? (fun q => decide (q.2 = (k, a, b)))).map (fun q => q.1))
theorem sx_fd {E : sx_E} {cs : List sx_Q} (hc : ∀ q ∈ cs, sx_h E q) {k : Nat} {a b : Term} {r : Bool} (h : (cs.find? (fun q => decide (q.2 = (k, a, b)))).map (fun q => q.1) = some r) : sx_hq E k a b = r := by
  obtain ⟨q, h1, rfl⟩ := Option.map_eq_some_iff.mp h
  have h20 := List.find?_some h1
  have h2 : q.2 = (k, a, b) := of_decide_eq_true h20
  have h3 := hc q (List.mem_of_find?_eq_some h1)
  unfold sx_h at h3
  rw [h2] at h3
  exact h3
theorem sx_ts0_s {E : sx_E} {cs : List sx_Q} (hc : ∀ q ∈ cs, sx_h E q) {k : Nat} {a b : Term} {r : Bool} (h : sx_ts0 cs k a b = some r) : sx_hq E k a b = r := by
  unfold sx_ts0 at h
  obtain ⟨a1, a2⟩ := sx_rg0_s hc a
  obtain ⟨b1, b2⟩ := sx_rg0_s hc b
  dsimp only at h
  split at h
  · rename_i hk
    split at h
    · rename_i h1
      injection h with h
      subst h
      unfold sx_hq
      rw [if_pos hk]
      apply decide_eq_true
      rw [Int32.lt_iff_toInt_lt]
      omega
    · split at h
      · rename_i h1
        injection h with h
        subst h
        unfold sx_hq
        rw [if_pos hk]
        apply decide_eq_false
        rw [Int32.lt_iff_toInt_lt]
        omega
      · exact sx_fd hc h
  · rename_i hk
    split at h
    · rename_i h1
      injection h with h
      subst h
      unfold sx_hq
      rw [if_neg hk]
      apply decide_eq_false
      intro e
      have e2 : (sx_d E a).1.toInt = (sx_d E b).1.toInt := by rw [e]
      omega
    · split at h
      · rename_i h1
        injection h with h
        subst h
        unfold sx_hq
        rw [if_neg hk]
        apply decide_eq_true
        rcases h1 with h1 | h1
        · exact Int32.toInt_inj.mp (by omega)
        · rw [h1]
      · exact sx_fd hc h
def sx_ts (cs : List sx_Q) (k : Nat) (a b : Term) : Option Bool := match sx_c a, sx_c b with
  | some x, some y => some (if k = 0 then decide (x < y) else decide (x = y))
  | _, _ => sx_ts0 cs (sx_nm k a b).1 (sx_nm k a b).2.1 (sx_nm k a b).2.2
theorem sx_ts_s {E : sx_E} {cs : List sx_Q} (hc : ∀ q ∈ cs, sx_h E q) {k : Nat} {a b : Term} {r : Bool} (h : sx_ts cs k a b = some r) : sx_hq E k a b = r := by
  unfold sx_ts at h
  split at h
  · rename_i x y hx hy
    injection h with h
    subst h
    rw [sx_c_s hx, sx_c_s hy]
    rfl
  · rw [← sx_nm_s]
    exact sx_ts0_s hc h
/-- the int that a term is known to be -/
def sx_cv (cs : List sx_Q) (t : Term) : Option Int32 := match sx_c t with
  | some x => some x
  | none => if sx_k t = 0 then (if (sx_rg0 cs t).1 = (sx_rg0 cs t).2 then some (Int32.ofInt (sx_rg0 cs t).1) else none) else none
theorem sx_cv_s {E : sx_E} {cs : List sx_Q} (hc : ∀ q ∈ cs, sx_h E q) : sx_cvOk E (sx_cv cs) := by
  intro t z h
  unfold sx_cv at h
  split at h
  · rename_i x hx
    injection h with h
    subst h
    rw [sx_c_s hx]
    exact ⟨rfl, rfl⟩
  · split at h
    · rename_i hk
      split at h
      · rename_i he
        injection h with h
        refine ⟨hk, ?_⟩
        obtain ⟨a1, a2⟩ := sx_rg0_s hc t
        have e : (sx_d E t).1.toInt = (sx_rg0 cs t).1 := by omega
        rw [← h, ← e, Int32.ofInt_toInt]
      · cases h
    · cases h
def sx_tg (pc : Nat) (off : Int) : Option Nat := if 0 ≤ (pc : Int) + off then some ((pc : Int) + off).toNat else none
theorem sx_tg_s {pc t : Nat} {off : Int} (h : sx_tg pc off = some t) {K : Nat → Prop} (hK : K t) : am_tg pc off K := by
  unfold sx_tg at h
  split at h
  · injection h with h
    exact ⟨t, by omega, hK⟩
  · cases h
def sx_cc (c : Jvm.ClassFile.Cond) (a b : Term) : sx_Q := match c with
  | .eq => (true, 1, a, b)
  | .ne => (false, 1, a, b)
  | .lt => (true, 0, a, b)
  | .ge => (false, 0, a, b)
  | .gt => (true, 0, b, a)
  | .le => (false, 0, b, a)
theorem sx_cc_s (E : sx_E) (c : Jvm.ClassFile.Cond) (a b : Term) : am_c2 c (sx_d E a).1 (sx_d E b).1 ↔ sx_hq E (sx_cc c a b).2.1 (sx_cc c a b).2.2.1 (sx_cc c a b).2.2.2 = (sx_cc c a b).1 := by
  cases c with
  | eq => exact ⟨fun h => decide_eq_true (p := (sx_d E a).1 = (sx_d E b).1) h, fun h => of_decide_eq_true (p := (sx_d E a).1 = (sx_d E b).1) h⟩
  | ne => exact ⟨fun h => decide_eq_false h, fun h => of_decide_eq_false h⟩
  | lt => exact ⟨fun h => decide_eq_true (p := (sx_d E a).1 < (sx_d E b).1) h, fun h => of_decide_eq_true (p := (sx_d E a).1 < (sx_d E b).1) h⟩
  | ge => exact ⟨fun h => decide_eq_false (Int32.not_lt.mpr h), fun h => Int32.not_lt.mp (of_decide_eq_false h)⟩
  | gt => exact ⟨fun h => decide_eq_true (p := (sx_d E b).1 < (sx_d E a).1) h, fun h => of_decide_eq_true (p := (sx_d E b).1 < (sx_d E a).1) h⟩
  | le => exact ⟨fun h => decide_eq_false (Int32.not_lt.mpr h), fun h => Int32.not_lt.mp (of_decide_eq_false h)⟩
theorem sx_c02 (c : Jvm.ClassFile.Cond) (x : Int32) : am_c0 c x ↔ am_c2 c x 0 := by
  cases c <;> exact Iff.rfl
/-- where a test leads: there, or what is to be asked -/
abbrev sx_J : Type := (Nat × List Term) ⊕ (Nat × Term × Term)
def sx_if (cs : List sx_Q) (c : Jvm.ClassFile.Cond) (a b : Term) (t e : Nat) (r : List Term) : sx_J :=
  match sx_ts cs (sx_cc c a b).2.1 (sx_cc c a b).2.2.1 (sx_cc c a b).2.2.2 with
  | some tr => if tr = (sx_cc c a b).1 then .inl (t, r) else .inl (e, r)
  | none => .inr (sx_nm (sx_cc c a b).2.1 (sx_cc c a b).2.2.1 (sx_cc c a b).2.2.2)
theorem sx_if_s {E : sx_E} {cs : List sx_Q} (hc : ∀ q ∈ cs, sx_h E q) {c : Jvm.ClassFile.Cond} {a b : Term} {t e : Nat} {r : List Term} {pc' : Nat} {st' : List Term} (h : sx_if cs c a b t e r = .inl (pc', st')) :
    st' = r ∧ ((am_c2 c (sx_d E a).1 (sx_d E b).1 ∧ pc' = t) ∨ (¬ am_c2 c (sx_d E a).1 (sx_d E b).1 ∧ pc' = e)) := by
  unfold sx_if at h
  split at h
  · rename_i tr htr
    have h1 := sx_ts_s hc htr
    split at h
    · rename_i h2
      injection h with h
      cases h
      exact ⟨rfl, Or.inl ⟨(sx_cc_s E c a b).mpr (h1.trans h2), rfl⟩⟩
    · rename_i h2
      injection h with h
      cases h
      exact ⟨rfl, Or.inr ⟨fun h3 => h2 (h1.symm.trans ((sx_cc_s E c a b).mp h3)), rfl⟩⟩
  · cases h
def sx_jp (cs : List sx_Q) (i : Instr) (len pc : Nat) (st : List Term) : Option sx_J := match i with
  | .goto off => if len = 3 then (sx_tg pc off).map (fun t => .inl (t, st)) else none
  | .ifCond c off => if len = 3 then (match st with
    | a :: r => if sx_k a = 0 then (sx_tg pc off).map (fun t => sx_if cs c a (.int 0) t (pc + 3) r) else none
    | _ => none) else none
  | .if_icmp c off => if len = 3 then (match st with
    | b :: a :: r => if sx_k a = 0 ∧ sx_k b = 0 then (sx_tg pc off).map (fun t => sx_if cs c a b t (pc + 3) r) else none
    | _ => none) else none
  | .ifnull off => if len = 3 then (match st with
    | a :: r => if sx_k a = 2 then some (.inl (pc + 3, r)) else if sx_k a = 3 then (sx_tg pc off).map (fun t => .inl (t, r)) else none
    | _ => none) else none
  | .ifnonnull off => if len = 3 then (match st with
    | a :: r => if sx_k a = 3 then some (.inl (pc + 3, r)) else if sx_k a = 2 then (sx_tg pc off).map (fun t => .inl (t, r)) else none
    | _ => none) else none
  | .tableswitch d lo hi offs => (match st with
    | a :: r => if sx_k a = 0 then (if (sx_rg0 cs a).2 < lo ∨ hi < (sx_rg0 cs a).1 then (sx_tg pc d).map (fun t => .inl (t, r)) else (match sx_cv cs a with
      | some z => if z.toInt < lo ∨ hi < z.toInt then (sx_tg pc d).map (fun t => .inl (t, r)) else (match offs[(z.toInt - lo).toNat]? with
        | some off => (sx_tg pc off).map (fun t => .inl (t, r))
        | none => none)
      | none => some (.inr (1, a, .int (Int32.ofInt (sx_rg0 cs a).1))))) else none
    | _ => none)
  | .lookupswitch d ps => (match st with
    | a :: r => (match sx_cv cs a with
      | some z => if (ps.toList.zip (ps.toList.drop 1)).all (fun (a, next) => a.1 < next.1) = true then (sx_tg pc (Op.lookupswitch.offset ps.toList d z.toInt)).map (fun t => .inl (t, r)) else none
      | none => if sx_k a = 0 then some (.inr (1, a, .int (Int32.ofInt (sx_rg0 cs a).1))) else none)
    | _ => none)
  | _ => none
theorem sx_jp_s {E : sx_E} {cs : List sx_Q} (hc : ∀ q ∈ cs, sx_h E q) {i : Instr} {len pc pc' : Nat} {st st' : List Term} (h : sx_jp cs i len pc st = some (.inl (pc', st'))) (K : Nat → List Value → Prop) (hK : K pc' (st'.map (sx_v E))) : am_br i len pc (st.map (sx_v E)) K := by
  cases i with
  | goto off =>
    unfold sx_jp at h
    dsimp only at h
    split at h
    · rename_i hl
      obtain ⟨t, h1, h2⟩ := Option.map_eq_some_iff.mp h
      cases h2
      exact ⟨hl, sx_tg_s h1 hK⟩
    · cases h
  | ifCond c off =>
    unfold sx_jp at h
    dsimp only at h
    repeat' split at h
    all_goals first | (cases h; done) | skip
    rename_i hl _ a r hk
    obtain ⟨t, h1, h2⟩ := Option.map_eq_some_iff.mp h
    obtain ⟨rfl, h3⟩ := sx_if_s (E := E) hc h2
    refine ⟨hl, (sx_d E a).1, _, by rw [List.map_cons, sx_v0 hk], sx_tg_s h1 ⟨fun h4 => ?_, fun h4 => ?_⟩⟩
    · rcases h3 with ⟨_, rfl⟩ | ⟨h5, _⟩
      · exact hK
      · exact absurd ((sx_c02 c _).mp h4) h5
    · rcases h3 with ⟨h5, _⟩ | ⟨_, rfl⟩
      · exact absurd ((sx_c02 c _).mpr h5) h4
      · exact hK
  | if_icmp c off =>
    unfold sx_jp at h
    dsimp only at h
    repeat' split at h
    all_goals first | (cases h; done) | skip
    rename_i hl _ b a r hk
    obtain ⟨t, h1, h2⟩ := Option.map_eq_some_iff.mp h
    obtain ⟨rfl, h3⟩ := sx_if_s (E := E) hc h2
    refine ⟨hl, (sx_d E b).1, (sx_d E a).1, _, by rw [List.map_cons, List.map_cons, sx_v0 hk.1, sx_v0 hk.2], sx_tg_s h1 ⟨fun h4 => ?_, fun h4 => ?_⟩⟩
    · rcases h3 with ⟨_, rfl⟩ | ⟨h5, _⟩
      · exact hK
      · exact absurd h4 h5
    · rcases h3 with ⟨h5, _⟩ | ⟨_, rfl⟩
      · exact absurd h5 h4
      · exact hK
  | ifnull off =>
    unfold sx_jp at h
    dsimp only at h
    repeat' split at h
    all_goals first | (cases h; done) | skip
    · rename_i hl _ a r hk
      cases h
      exact ⟨hl, Or.inl ⟨_, _, by rw [List.map_cons, sx_v2 hk], hK⟩⟩
    · rename_i hl _ a r _ hk
      obtain ⟨t, h1, h2⟩ := Option.map_eq_some_iff.mp h
      cases h2
      exact ⟨hl, Or.inr ⟨_, by rw [List.map_cons, sx_v3 hk], sx_tg_s h1 hK⟩⟩
  | ifnonnull off =>
    unfold sx_jp at h
    dsimp only at h
    repeat' split at h
    all_goals first | (cases h; done) | skip
    · rename_i hl _ a r hk
      cases h
      exact ⟨hl, Or.inr ⟨_, by rw [List.map_cons, sx_v3 hk], hK⟩⟩
    · rename_i hl _ a r _ hk
      obtain ⟨t, h1, h2⟩ := Option.map_eq_some_iff.mp h
      cases h2
      exact ⟨hl, Or.inl ⟨_, _, by rw [List.map_cons, sx_v2 hk], sx_tg_s h1 hK⟩⟩
  | tableswitch d lo hi offs =>
    unfold sx_jp at h
    dsimp only at h
    repeat' split at h
    all_goals first | (cases h; done) | skip
    · rename_i _ a r hk hr
      obtain ⟨t, h1, h2⟩ := Option.map_eq_some_iff.mp h
      cases h2
      obtain ⟨a1, a2⟩ := sx_rg0_s hc a
      exact ⟨(sx_d E a).1, _, by rw [List.map_cons, sx_v0 hk], fun _ => sx_tg_s h1 hK, fun g1 g2 => by omega⟩
    · rename_i _ a r hk hr _ z hz ho
      obtain ⟨t, h1, h2⟩ := Option.map_eq_some_iff.mp h
      cases h2
      have e := (sx_cv_s hc a z hz).2
      exact ⟨(sx_d E a).1, _, by rw [List.map_cons, sx_v0 hk], fun _ => sx_tg_s h1 hK, fun g1 g2 => by rw [e] at g1 g2; omega⟩
    · rename_i _ a r hk hr _ z hz ho _ off hoff
      obtain ⟨t, h1, h2⟩ := Option.map_eq_some_iff.mp h
      cases h2
      have e := (sx_cv_s hc a z hz).2
      exact ⟨(sx_d E a).1, _, by rw [List.map_cons, sx_v0 hk], fun g => by rw [e] at g; exact absurd g ho, fun _ _ => ⟨off, by rw [e]; exact hoff, sx_tg_s h1 hK⟩⟩
  | lookupswitch d ps =>
    unfold sx_jp at h
    dsimp only at h
    repeat' split at h
    all_goals first | (cases h; done) | skip
    rename_i _ a r _ z hz hs
    obtain ⟨t, h1, h2⟩ := Option.map_eq_some_iff.mp h
    cases h2
    obtain ⟨hk, e⟩ := sx_cv_s hc a z hz
    exact ⟨z, _, by rw [List.map_cons, sx_v0 hk, e], hs, sx_tg_s h1 hK⟩
  | _ => cases h
end
section
/-! SX: calls, natives, ends -/
def sx_ct (r : List Term) : Nat := (r.map (fun t => if sx_k t = 1 then 2 else 1)).sum
theorem sx_ct_s {E : sx_E} (r : List Term) : am_cat (r.map (sx_v E)) = sx_ct r := by
  unfold am_cat sx_ct
  rw [List.map_map]
  congr 1
  apply List.map_congr_left
  intro t _
  exact sx_cat t
theorem sx_sl_s {E : sx_E} (r : List Term) : (lg_sl (r.map (sx_v E))).length = sx_ct r := by
  unfold lg_sl sx_ct
  induction r with
  | nil => rfl
  | cons t r ih =>
    rw [List.map_cons, List.flatMap_cons, List.length_append, ih, List.map_cons, List.sum_cons, sx_cat]
    congr 1
    split
    · rfl
    · rfl
def sx_args : Nat → List Term → sx_L
  | _, [] => []
  | i, v :: vs => (i, v) :: sx_args (if sx_k v = 1 then i + 2 else i + 1) vs
theorem sx_args_s {E : sx_E} : ∀ (i : Nat) (vs : List Term), lv_args i (vs.map (sx_v E)) = sx_lv E (sx_args i vs)
  | _, [] => rfl
  | i, v :: vs => by
    rw [List.map_cons]
    unfold lv_args sx_args
    rw [sx_args_s, sx_cat]
    have e : (if (if sx_k v = 1 then 2 else 1) = 2 then i + 2 else i + 1) = (if sx_k v = 1 then i + 2 else i + 1) := by
      split <;> rfl
    rw [e]
    rfl
/-- a call: method, arguments (the receiver first), the rest -/
def sx_ca (P : am_P) (own : Nat) (i : Instr) (st : List Term) (Ms : sx_M) (n : Nat) : Option (Nat × List Term × List Term) := match i with
  | .invokestatic x => (match am_cs P own x with
    | some (z, m) => if m ≤ st.length then some (z, (st.take m).reverse, st.drop m) else none
    | none => none)
  | .invokespecial x => (match am_ci P own x with
    | some (z, m) => (match st.drop m with
      | t :: r => if sx_k t = 2 ∧ m ≤ st.length then some (z, t :: (st.take m).reverse, r) else none
      | _ => none)
    | none => none)
  | .invokevirtual x => (List.range 12).findSome? (fun m => match st.drop m with
    | t :: r => (match sx_ob n Ms t with
      | some (_, ci, _) => (match am_cv P own x ci with
        | some (z, m') => if m' = m then some (z, t :: (st.take m).reverse, r) else none
        | none => none)
      | none => none)
    | _ => none)
  | _ => none
theorem sx_tk {E : sx_E} (st : List Term) (m : Nat) (x : List Value) (r : List Term) (h : (st.drop m).map (sx_v E) = x ++ r.map (sx_v E)) : st.map (sx_v E) = ((st.take m).reverse.map (sx_v E)).reverse ++ (x ++ r.map (sx_v E)) := by
  rw [← h, List.map_reverse, List.reverse_reverse, ← List.map_append, List.take_append_drop]
theorem sx_ca_s {P : am_P} {sa : Nat → Nat} {E : sx_E} {own : Nat} {i : Instr} {st : List Term} {Ms : sx_M} {z : Nat} {vs r : List Term} (h : sx_ca P own i st Ms Ms.length = some (z, vs, r)) :
    am_call (sx_P P sa) (sx_mem E Ms) own i (st.map (sx_v E)) z (vs.map (sx_v E)) (r.map (sx_v E)) := by
  cases i with
  | invokestatic x =>
    unfold sx_ca at h
    dsimp only at h
    repeat' split at h
    all_goals first | (cases h; done) | skip
    rename_i _ z2 m hz hm
    cases h
    refine ⟨m, hz, ?_, ?_⟩
    · exact sx_tk st m [] _ rfl
    · rw [List.length_map, List.length_reverse, List.length_take]
      omega
  | invokespecial x =>
    unfold sx_ca at h
    dsimp only at h
    repeat' split at h
    all_goals first | (cases h; done) | skip
    rename_i _ z2 m hz _ t r2 hd hk
    cases h
    refine ⟨m, sx_a E t, ((st.take m).reverse).map (sx_v E), hz, by rw [List.map_cons, sx_v2 hk.1], ?_, ?_⟩
    · exact sx_tk st m [_] _ (by rw [hd, List.map_cons, sx_v2 hk.1]; rfl)
    · rw [List.length_map, List.length_reverse, List.length_take]
      omega
  | invokevirtual x =>
    unfold sx_ca at h
    dsimp only at h
    obtain ⟨m, hm, h⟩ := List.exists_of_findSome?_eq_some h
    repeat' split at h
    all_goals first | (cases h; done) | skip
    rename_i _ t r2 hd _ k ci fs hob _ z2 m2 hz he
    cases h
    subst he
    obtain ⟨rfl, h1, h2⟩ := sx_ob_s (E := E) hob
    have hlen : m2 < st.length := by
      have : (st.drop m2).length = (Term.index k :: r).length := by rw [hd]
      rw [List.length_drop, List.length_cons] at this
      omega
    refine ⟨m2, E.1 + k, ((st.take m2).reverse).map (sx_v E), ci, fs.map (sx_v E), h2, hz, rfl, ?_, ?_⟩
    · exact sx_tk st m2 [_] _ (by rw [hd, List.map_cons]; rfl)
    · rw [List.length_map, List.length_reverse, List.length_take]
      omega
  | _ => cases h
/-- the copied part of an array -/
def sx_cp (w0 w1 : sx_W) (sp dp : Nat) : Nat → sx_W
  | 0 => w1
  | k + 1 => sx_pt (sx_cp w0 w1 sp dp k) (dp + k) (sx_gt w0 (sp + k) (.int 0))
theorem sx_cp_s {E : sx_E} (w0 w1 : sx_W) (sp dp : Nat) : ∀ n : Nat, (fun j => (sx_d E (sx_gt (sx_cp w0 w1 sp dp n) j (.int 0))).1) = va_cpy (fun j => (sx_d E (sx_gt w0 j (.int 0))).1) (fun j => (sx_d E (sx_gt w1 j (.int 0))).1) sp dp n
  | 0 => by
    funext j
    unfold va_cpy
    rw [if_neg (by omega)]
    rfl
  | n + 1 => by
    have ih := sx_cp_s (E := E) w0 w1 sp dp n
    unfold sx_cp
    rw [sx_w_i, ih]
    funext j
    unfold upd va_cpy
    by_cases h : j = dp + n
    · rw [if_pos h, if_pos (by omega), h, show dp + n - dp = n by omega]
    · rw [if_neg h]
      by_cases h2 : dp ≤ j ∧ j < dp + n
      · rw [if_pos h2, if_pos (by omega)]
      · rw [if_neg h2, if_neg (by omega)]
def sx_nn (cs : List sx_Q) (t : Term) : Option Nat := match sx_cv cs t with
  | some z => if z < 0 then none else some z.toNatClampNeg
  | none => none
theorem sx_nn_s {E : sx_E} {cs : List sx_Q} (hc : ∀ q ∈ cs, sx_h E q) {t : Term} {m : Nat} (h : sx_nn cs t = some m) : ∃ z : Int32, sx_v E t = .int z ∧ ¬ z < 0 ∧ z.toNatClampNeg = m := by
  unfold sx_nn at h
  split at h
  · rename_i z hz
    obtain ⟨h1, h2⟩ := sx_cv_s hc t z hz
    split at h
    · cases h
    · rename_i h3
      injection h with h
      exact ⟨z, by rw [sx_v0 h1, h2], h3, h⟩
  · cases h
def sx_lmin (u w : Int64) : Int64 := if w < u then w else u
def sx_labs (u : Int64) : Int64 := if 0 < u then u else -u
def sx_isr (ty : FieldType) : Bool := match ty with
  | .object _ => true
  | .array _ => true
  | _ => false
abbrev sx_S : Type := Nat × List Term × sx_M × Nat × Nat
def sx_nt (P : am_P) (cs : List sx_Q) (mt : am_Meth) (i : Instr) (len pc : Nat) (st : List Term) (Ms : sx_M) (n sl : Nat) : Option (sx_S ⊕ (Nat × Term × Term)) := match i with
  | .invokespecial x => if len = 3 ∧ am_nt P mt.2.2.2.2.2.2 x = 2 then (match st with
    | t :: r => if sx_k t = 2 ∧ 1 ≤ mt.2.2.2.2.1 ∧ sx_ct r + 12 ≤ mt.2.2.2.2.2.1 then some (.inl (pc + 3, r, Ms, n, sl)) else none
    | _ => none) else none
  | .invokevirtual x => if len = 3 ∧ am_nt P mt.2.2.2.2.2.2 x = 3 then (match st with
    | t :: r => (match sx_ay n Ms t with
      | some (_, ty, m, w) => if ty = 0 ∧ 1 ≤ mt.2.2.2.2.1 ∧ sx_ct r + 14 ≤ mt.2.2.2.2.2.1 then some (.inl (pc + 3, .index n :: r, .inl (0, m, w) :: Ms, n + 1, sl + m)) else none
      | none => none)
    | _ => none) else none
  | .invokestatic x => if len = 3 then (if am_nt P mt.2.2.2.2.2.2 x = 1 then (match st with
      | a :: b :: t1 :: c :: t0 :: r => (match sx_nn cs a, sx_nn cs b, sx_nn cs c with
        | some m, some dp, some sp => (match sx_ay n Ms t0, sx_ay n Ms t1 with
          | some (_, ty0, n0, w0), some (k1, ty1, n1, w1) => if ty0 = 0 ∧ ty1 = 0 ∧ sp + m ≤ n0 ∧ dp + m ≤ n1 ∧ 1 ≤ mt.2.2.2.2.1 ∧ sx_ct r + (nativeFrameWords "java/lang/System" "arraycopy" 5 + 11) ≤ mt.2.2.2.2.2.1 then some (.inl (pc + 3, r, sx_up n Ms k1 (.inl (0, n1, sx_cp w0 w1 sp dp m)), n, sl)) else none
          | _, _ => none)
        | _, _, _ => none)
      | _ => none)
    else if am_nt P mt.2.2.2.2.2.2 x = 10 then (match st with
      | b :: a :: r => if sx_k a = 0 ∧ sx_k b = 0 ∧ 1 ≤ mt.2.2.2.2.1 ∧ sx_ct r + 15 ≤ mt.2.2.2.2.2.1 then (match sx_ts cs 0 a b with
        | some true => some (.inl (pc + 3, b :: r, Ms, n, sl))
        | some false => some (.inl (pc + 3, a :: r, Ms, n, sl))
        | none => some (.inr (sx_nm 0 a b))) else none
      | _ => none)
    else if am_nt P mt.2.2.2.2.2.2 x = 11 then (match st with
      | b :: a :: r => if sx_k a = 0 ∧ sx_k b = 0 ∧ 1 ≤ mt.2.2.2.2.1 ∧ sx_ct r + 15 ≤ mt.2.2.2.2.2.1 then (match sx_ts cs 0 b a with
        | some true => some (.inl (pc + 3, b :: r, Ms, n, sl))
        | some false => some (.inl (pc + 3, a :: r, Ms, n, sl))
        | none => some (.inr (sx_nm 0 b a))) else none
      | _ => none)
    else if am_nt P mt.2.2.2.2.2.2 x = 12 then (match st with
      | b :: a :: r => (match sx_cl a, sx_cl b with
        | some u, some w => if 1 ≤ mt.2.2.2.2.1 ∧ sx_ct r + 15 ≤ mt.2.2.2.2.2.1 then some (.inl (pc + 3, .long (sx_lmin u w) :: r, Ms, n, sl)) else none
        | _, _ => none)
      | _ => none)
    else if am_nt P mt.2.2.2.2.2.2 x = 13 then (match st with
      | a :: r => (match sx_cl a with
        | some u => if 1 ≤ mt.2.2.2.2.1 ∧ sx_ct r + 15 ≤ mt.2.2.2.2.2.1 then some (.inl (pc + 3, .long (sx_labs u) :: r, Ms, n, sl)) else none
        | _ => none)
      | _ => none)
    else none) else none
  | _ => none
theorem sx_nt_s {P : am_P} {sa : Nat → Nat} {E : sx_E} {RO : am_O} {cs : List sx_Q} (hc : ∀ q ∈ cs, sx_h E q) {mt : am_Meth} {i : Instr} {len pc pc' n' sl sl' : Nat} {st st' : List Term} {Ms M' : sx_M} (h : sx_nt P cs mt i len pc st Ms Ms.length sl = some (.inl (pc', st', M', n', sl'))) :
    M'.length = n' ∧ ∀ K : am_K, K pc' (st'.map (sx_v E)) (sx_mem E M') (E.1 + n') sl' → am_nat (sx_P P sa) RO mt i len pc (st.map (sx_v E)) (sx_mem E Ms) (E.1 + Ms.length) sl K := by
  cases i with
  | invokespecial x =>
    unfold sx_nt at h
    dsimp only at h
    repeat' split at h
    all_goals first | (cases h; done) | skip
    rename_i hl _ t r hk
    cases h
    refine ⟨rfl, fun K hK => ⟨hl.1, hl.2, sx_a E t, _, by rw [List.map_cons, sx_v2 hk.1], hk.2.1, ?_, hK⟩⟩
    rw [sx_ct_s]
    exact hk.2.2
  | invokevirtual x =>
    unfold sx_nt at h
    dsimp only at h
    repeat' split at h
    all_goals first | (cases h; done) | skip
    rename_i hl _ t r _ k ty m w hy hk
    cases h
    obtain ⟨rfl, h1, h2⟩ := sx_ay_s (E := E) hy
    obtain ⟨rfl, hk1, hk2⟩ := hk
    rw [sx_cell_i (Or.inl rfl)] at h2
    refine ⟨rfl, fun K hK => ⟨hl.1, hl.2, E.1 + k, _, m, _, rfl, h2, hk1, ?_, ?_⟩⟩
    · rw [sx_ct_s]
      exact hk2
    · rw [sx_new_s, sx_cell_i (Or.inl rfl)] at hK
      exact hK
  | invokestatic x =>
    unfold sx_nt at h
    dsimp only at h
    repeat' split at h
    all_goals first | (cases h; done) | skip
    · rename_i hl hn _ a b t1 c t0 r _ _ _ m dp sp ha hb hcc _ _ k0 ty0 n0 w0 k1 ty1 n1 w1 hy0 hy1 hk
      cases h
      obtain ⟨rfl, h1, h2⟩ := sx_ay_s (E := E) hy0
      obtain ⟨rfl, h3, h4⟩ := sx_ay_s (E := E) hy1
      obtain ⟨rfl, rfl, hk1, hk2, hk3, hk4⟩ := hk
      obtain ⟨za, a1, a2, a3⟩ := sx_nn_s (E := E) hc ha
      obtain ⟨zb, b1, b2, b3⟩ := sx_nn_s (E := E) hc hb
      obtain ⟨zc, c1, c2, c3⟩ := sx_nn_s (E := E) hc hcc
      subst a3
      subst b3
      subst c3
      rw [sx_cell_i (Or.inl rfl)] at h2 h4
      refine ⟨sx_up_len, fun K hK => ⟨hl, Or.inl ⟨hn, za, zb, E.1 + k1, zc, E.1 + k0, _, n0, n1, _, _, by rw [List.map_cons, List.map_cons, List.map_cons, List.map_cons, List.map_cons, a1, b1, c1]; rfl, h2, h4, c2, b2, a2, hk1, hk2, hk3, ?_, ?_⟩⟩⟩
      · rw [sx_ct_s]
        exact hk4
      · rw [sx_up_s h3, sx_cell_i (Or.inl rfl), sx_cp_s] at hK
        exact hK
    · rename_i hl hn0 hn _ b a r hk _ ht
      cases h
      have e : (sx_d E a).1 < (sx_d E b).1 := of_decide_eq_true (sx_ts_s (E := E) hc ht)
      refine ⟨rfl, fun K hK => ⟨hl, Or.inr ⟨0, [sx_v E b, sx_v E a], _, sx_v E b, hn, rfl, ?_, hk.2.2.1, by rw [sx_ct_s]; exact hk.2.2.2, hK⟩⟩⟩
      rw [sx_v0 hk.1, sx_v0 hk.2.1]
      show some (Value.int (if _ then _ else _)) = _
      rw [if_pos e]
    · rename_i hl hn0 hn _ b a r hk _ ht
      cases h
      have e : ¬ (sx_d E a).1 < (sx_d E b).1 := of_decide_eq_false (sx_ts_s (E := E) hc ht)
      refine ⟨rfl, fun K hK => ⟨hl, Or.inr ⟨0, [sx_v E b, sx_v E a], _, sx_v E a, hn, rfl, ?_, hk.2.2.1, by rw [sx_ct_s]; exact hk.2.2.2, hK⟩⟩⟩
      rw [sx_v0 hk.1, sx_v0 hk.2.1]
      show some (Value.int (if _ then _ else _)) = _
      rw [if_neg e]
    · rename_i hl hn0 hn1 hn _ b a r hk _ ht
      cases h
      have e : (sx_d E b).1 < (sx_d E a).1 := of_decide_eq_true (sx_ts_s (E := E) hc ht)
      refine ⟨rfl, fun K hK => ⟨hl, Or.inr ⟨1, [sx_v E b, sx_v E a], _, sx_v E b, hn, rfl, ?_, hk.2.2.1, by rw [sx_ct_s]; exact hk.2.2.2, hK⟩⟩⟩
      rw [sx_v0 hk.1, sx_v0 hk.2.1]
      show some (Value.int (if _ then _ else _)) = _
      rw [if_pos e]
    · rename_i hl hn0 hn1 hn _ b a r hk _ ht
      cases h
      have e : ¬ (sx_d E b).1 < (sx_d E a).1 := of_decide_eq_false (sx_ts_s (E := E) hc ht)
      refine ⟨rfl, fun K hK => ⟨hl, Or.inr ⟨1, [sx_v E b, sx_v E a], _, sx_v E a, hn, rfl, ?_, hk.2.2.1, by rw [sx_ct_s]; exact hk.2.2.2, hK⟩⟩⟩
      rw [sx_v0 hk.1, sx_v0 hk.2.1]
      show some (Value.int (if _ then _ else _)) = _
      rw [if_neg e]
    · rename_i hl hn0 hn1 hn2 hn _ b a r _ _ u w hu hw hk
      cases h
      rw [sx_cl_s hu, sx_cl_s hw]
      exact ⟨rfl, fun K hK => ⟨hl, Or.inr ⟨2, [.long w, .long u], _, _, hn, rfl, rfl, hk.1, by rw [sx_ct_s]; exact hk.2, hK⟩⟩⟩
    · rename_i hl hn0 hn1 hn2 hn3 hn _ a r _ u hu hk
      cases h
      rw [sx_cl_s hu]
      exact ⟨rfl, fun K hK => ⟨hl, Or.inr ⟨3, [.long u], _, _, hn, rfl, rfl, hk.1, by rw [sx_ct_s]; exact hk.2, hK⟩⟩⟩
  | _ => cases h
/-- an end: what is told -/
def sx_rt (cs : List sx_Q) (mt : am_Meth) (i : Instr) (len : Nat) (st : List Term) : Option (Option Term) := match i with
  | .return_ => if len = 1 ∧ st = [] ∧ mt.2.2.2.1 = none then some none else none
  | .ireturn => if len = 1 then (match st with
    | [t] => (match mt.2.2.2.1 with
      | some ty => if sx_k t = 0 then (if ty = .int then some (some t) else (match sx_cv cs t with
        | some z => if narrow ty (.int z) = .int z then some (some (.int z)) else none
        | none => none)) else none
      | none => none)
    | _ => none) else none
  | .lreturn => if len = 1 then (match st with
    | [t] => if sx_k t = 1 ∧ mt.2.2.2.1 = some .long then some (some t) else none
    | _ => none) else none
  | .areturn => if len = 1 then (match st with
    | [t] => (match mt.2.2.2.1 with
      | some ty => if (sx_k t = 2 ∨ sx_k t = 3) ∧ sx_isr ty = true then some (some t) else none
      | none => none)
    | _ => none) else none
  | _ => none
theorem sx_rt_s {E : sx_E} {cs : List sx_Q} (hc : ∀ q ∈ cs, sx_h E q) {mt : am_Meth} {i : Instr} {len : Nat} {st : List Term} {o : Option Term} (h : sx_rt cs mt i len st = some o) (Q : Option Value → Prop) (hQ : Q (o.map (sx_v E))) : am_ret mt i len (st.map (sx_v E)) Q := by
  cases i with
  | return_ =>
    unfold sx_rt at h
    dsimp only at h
    split at h
    · rename_i hl
      cases h
      exact ⟨hl.1, by rw [hl.2.1]; rfl, hl.2.2, hQ⟩
    · cases h
  | ireturn =>
    unfold sx_rt at h
    dsimp only at h
    repeat' split at h
    all_goals first | (cases h; done) | skip
    · rename_i hl _ t _ ty hty hk he
      cases h
      subst he
      refine ⟨hl, (sx_d E t).1, .int, by rw [List.map_cons, sx_v0 hk]; rfl, hty, rfl, ?_⟩
      rw [Option.map_some, sx_v0 hk] at hQ
      exact hQ
    · rename_i hl _ t _ ty hty hk he _ z hz hn
      cases h
      refine ⟨hl, z, ty, by rw [List.map_cons, sx_v0 hk, (sx_cv_s hc t z hz).2]; rfl, hty, hn, hQ⟩
  | lreturn =>
    unfold sx_rt at h
    dsimp only at h
    repeat' split at h
    all_goals first | (cases h; done) | skip
    rename_i hl _ t hk
    cases h
    refine ⟨hl, (sx_d E t).2, by rw [List.map_cons, sx_v1 hk.1]; rfl, hk.2, ?_⟩
    rw [Option.map_some, sx_v1 hk.1] at hQ
    exact hQ
  | areturn =>
    unfold sx_rt at h
    dsimp only at h
    repeat' split at h
    all_goals first | (cases h; done) | skip
    rename_i hl _ t _ ty hty hk
    cases h
    refine ⟨hl, sx_v E t, ty, rfl, hty, ?_, ?_, hQ⟩
    · obtain ⟨-, h2⟩ := hk
      unfold sx_isr at h2
      cases ty <;> first | (cases h2; done) | exact Or.inl ⟨_, rfl⟩ | exact Or.inr ⟨_, rfl⟩
    · rcases hk.1 with h1 | h1
      · exact Or.inr ⟨_, sx_v2 h1⟩
      · exact Or.inl (sx_v3 h1)
  | _ => cases h
end
section
/-! SX: the runner, and that what it finds is so -/
abbrev sx_Fr : Type := Nat × Nat × sx_L × List Term
/-- a term that should be known: the first of these that is not -/
def sx_wt (cs : List sx_Q) (ts : List Term) : Option (Nat × Term × Term) := ts.findSome? (fun t => if sx_k t = 0 ∧ sx_cv cs t = none ∧ (sx_rg0 cs t).2 - (sx_rg0 cs t).1 ≤ 130 then some (1, t, .int (Int32.ofInt (sx_rg0 cs t).1)) else none)
def sx_nd (cs : List sx_Q) (i : Instr) (st : List Term) : Option (Nat × Term × Term) := match i with
  | .iaload | .baload | .laload | .aaload | .newarray _ | .anewarray _ | .ireturn => sx_wt cs (st.take 1)
  | .iastore | .lastore | .aastore => sx_wt cs ((st.drop 1).take 1)
  | .bastore | .multianewarray _ _ => sx_wt cs (st.take 2)
  | .invokestatic _ => sx_wt cs (st.take 4)
  | _ => none
/-- conditions; method, place, locals, stack; frames; memory, its size, elements -/
abbrev sx_G : Type := List sx_Q × Nat × Nat × sx_L × List Term × List sx_Fr × sx_M × Nat × Nat
/-- the instructions, by method and place (a byte far back in a code is dear to the kernel) -/
abbrev sx_Ins : Type := Nat → Nat → Option (Instr × Nat)
def sx_insOk (P : am_P) (ins : sx_Ins) : Prop := ∀ y pc r, ins y pc = some r → ∀ mt, am_meth P y = some mt → decode mt.2.1 pc = .ok r
/-- one step: the next, a question, or an end -/
def sx_one (P : am_P) (ins : sx_Ins) (rt : sx_R) (c : sx_G) : Option (sx_G ⊕ (Nat × Term × Term) ⊕ (Option Term × Nat × Nat)) := match c with
  | (cs, y, pc, lv, st, fs, Ms, n, sl) => match am_meth P y with
    | none => none
    | some mt => match ins y pc with
      | none => none
      | some (i, len) => match sx_push (am_cst P mt.2.2.2.2.2.2) i lv with
        | some (l0, v) => if l0 = len then some (.inl (cs, y, pc + len, lv, v :: st, fs, Ms, n, sl)) else none
        | none => match sx_op i st with
          | some st' => if len = 1 then some (.inl (cs, y, pc + 1, lv, st', fs, Ms, n, sl)) else none
          | none => match sx_sto i lv st with
            | some (l0, m, lv', st') => if m ≤ mt.2.2.1 ∧ (len = l0 ∨ (l0 = 3 ∧ len = 6)) then some (.inl (cs, y, pc + len, lv', st', fs, Ms, n, sl)) else none
            | none => match sx_hp P rt (sx_cv cs) mt.2.2.2.2.2.2 (mt.1.name == "<init>") i len pc st Ms n sl with
              | some (pc', st', M', n', sl') => some (.inl (cs, y, pc', lv, st', fs, M', n', sl'))
              | none => match sx_jp cs i len pc st with
                | some (.inl (pc', st')) => some (.inl (cs, y, pc', lv, st', fs, Ms, n, sl))
                | some (.inr q) => some (.inr (.inl q))
                | none => match sx_nt P cs mt i len pc st Ms n sl with
                  | some (.inl (pc', st', M', n', sl')) => some (.inl (cs, y, pc', lv, st', fs, M', n', sl'))
                  | some (.inr q) => some (.inr (.inl q))
                  | none => match sx_ca P mt.2.2.2.2.2.2 i st Ms n with
                    | some (z, vs, r) => (match am_meth P z with
                      | none => none
                      | some mz => if len = 3 ∧ (mz.2.2.2.2.1 + 1 ≤ mt.2.2.2.2.1 ∧ 8 + (mz.2.2.1 + 11) + mz.2.2.2.2.2.1 ≤ mt.2.2.2.2.2.1) ∧ sx_ct vs ≤ mz.2.2.1 ∧ sx_ct r ≤ 8 then some (.inl (cs, z, 0, sx_args 0 vs, [], (y, pc + 3, lv, r) :: fs, Ms, n, sl)) else none)
                    | none => match sx_rt cs mt i len st with
                      | some o => (match fs with
                        | [] => some (.inr (.inr (o, n, sl)))
                        | (y2, pc2, lv2, st2) :: fs2 => some (.inl (cs, y2, pc2, lv2, o.toList ++ st2, fs2, Ms, n, sl)))
                      | none => match sx_nd cs i st with
                        | some q => some (.inr (.inl q))
                        | none => none
def sx_ask (c : sx_G) (b : Bool) (q : Nat × Term × Term) : sx_G := ((b, q) :: c.1, c.2)
def sx_run (P : am_P) (ins : sx_Ins) (rt : sx_R) (fin : Option Term → Nat → Nat → Bool) : Nat → sx_G → Bool
  | 0, _ => false
  | k + 1, c => match sx_one P ins rt c with
    | none => false
    | some (.inl c') => sx_run P ins rt fin k c'
    | some (.inr (.inl q)) => sx_run P ins rt fin k (sx_ask c true q) && sx_run P ins rt fin k (sx_ask c false q)
    | some (.inr (.inr (o, n, sl))) => fin o n sl
/-- a stretch without questions -/
def sx_go (P : am_P) (ins : sx_Ins) (rt : sx_R) : Nat → sx_G → Option sx_G
  | 0, c => some c
  | k + 1, c => match sx_one P ins rt c with
    | some (.inl c') => sx_go P ins rt k c'
    | _ => none
/-- what comes behind the innermost frame's end -/
def sx_stk (P : am_P) (RO : am_O) (E : sx_E) (Q : am_Q) : List sx_Fr → am_Q
  | [] => Q
  | (y, pc, lv, st) :: fs => fun v M z l => ∃ k, am_W P RO k y pc (sx_lv E lv) (v.toList ++ st.map (sx_v E)) M z l (sx_stk P RO E Q fs)
theorem am_stepR {P : am_P} {RO : am_O} {y pc : Nat} {lv : am_L} {st : List Value} {M : am_H} {sz sl : Nat} {Q : am_Q} {mt : am_Meth} {i : Instr} {len : Nat} (hm : am_meth P y = some mt) (hd : decode mt.2.1 pc = .ok (i, len))
    (h : am_step P RO mt i len pc lv st M sz sl (fun pc' lv' st' M' z' l' => ∃ k, am_W P RO k y pc' lv' st' M' z' l' Q) (fun z vs M' z' l' Q' => ∃ k, am_W P RO k z 0 (lv_args 0 vs) [] M' z' l' Q') Q) : ∃ k, am_W P RO k y pc lv st M sz sl Q := by
  rcases am_step_c h with ⟨pc', lv', st', M', z', l', ⟨k, h1⟩, -, -, h2⟩ | ⟨z, vs, r, ⟨k, h1⟩, h2⟩ | ⟨v, h1, h2⟩
  · exact ⟨k + 1, mt, hm, i, len, hd, h2 _ _ _ h1⟩
  · obtain ⟨v, M', z', l', g1, ⟨k2, g2⟩, g3, g4⟩ := am_det _ _ _ _ _ _ _ _ _ h1
    refine ⟨max k k2 + 1, mt, hm, i, len, hd, h2 _ _ _ ?_⟩
    refine am_mono _ _ _ _ _ _ _ _ _ _ ?_ (am_le (Nat.le_max_left k k2) g1)
    intro v1 M1 z1 l1 e
    obtain ⟨rfl, rfl, rfl, rfl⟩ := e
    exact am_le (Nat.le_max_right k k2) g2
  · exact ⟨1, mt, hm, i, len, hd, h2 _ _ _ h1⟩
/-- from here all is well: whatever the ints are, of which the conditions hold -/
def sx_Ok (P : am_P) (RO : am_O) (sa : Nat → Nat) (E : sx_E) (Q : am_Q) (c : sx_G) : Prop := match c with
  | (cs, y, pc, lv, st, fs, Ms, n, sl) => Ms.length = n → (∀ q ∈ cs, sx_h E q) → ∃ k', am_W (sx_P P sa) RO k' y pc (sx_lv E lv) (st.map (sx_v E)) (sx_mem E Ms) (E.1 + n) sl (sx_stk (sx_P P sa) RO E Q fs)
section SXR
variable {P : am_P} {ins : sx_Ins} {rt : sx_R} {E : sx_E} {RO : am_O} {sa : Nat → Nat} {Q : am_Q}
theorem sx_Ok_ask {c : sx_G} {q : Nat × Term × Term} (h1 : sx_Ok P RO sa E Q (sx_ask c true q)) (h2 : sx_Ok P RO sa E Q (sx_ask c false q)) : sx_Ok P RO sa E Q c := by
  obtain ⟨cs, y, pc, lv, st, fs, Ms, n, sl⟩ := c
  intro hn hc
  cases hb : sx_hq E q.1 q.2.1 q.2.2 with
  | true => exact h1 hn (fun p hp => by
      rcases List.mem_cons.mp hp with rfl | hp
      · exact hb
      · exact hc p hp)
  | false => exact h2 hn (fun p hp => by
      rcases List.mem_cons.mp hp with rfl | hp
      · exact hb
      · exact hc p hp)
set_option maxHeartbeats 2000000 in
theorem sx_Ok_one (hins : sx_insOk P ins) (hok : sx_ok E rt RO sa) {c c' : sx_G} (h : sx_one P ins rt c = some (.inl c')) (g0 : sx_Ok P RO sa E Q c') : sx_Ok P RO sa E Q c := by
  obtain ⟨cs, y, pc, lv, st, fs, Ms, n, sl⟩ := c
  intro hn hc
  subst hn
  unfold sx_one at h
  dsimp only at h
  split at h
  · cases h
  rename_i _ mt hm
  split at h
  · cases h
  rename_i _ i len hd0
  have hd := hins _ _ _ hd0 _ hm
  have hmP : am_meth (sx_P P sa) y = some mt := hm
  split at h
  · rename_i _ l0 v hp
    split at h
    · rename_i hl
      subst hl
      cases h
      exact am_stepR hmP hd (Or.inl ⟨_, sx_push_s hp, g0 rfl hc⟩)
    · cases h
  split at h
  · rename_i _ st' hp
    split at h
    · rename_i hl
      subst hl
      cases h
      obtain ⟨g1, g2⟩ := sx_op_s (E := E) hp
      exact am_stepR hmP hd (Or.inr (Or.inl ⟨rfl, _, g1, g2, g0 rfl hc⟩))
    · cases h
  split at h
  · rename_i _ l0 m lv' st' hp
    split at h
    · rename_i hl
      cases h
      exact am_stepR hmP hd (Or.inr (Or.inr (Or.inl ⟨l0, m, _, _, sx_sto_s hp, hl.1, hl.2, g0 rfl hc⟩)))
    · cases h
  split at h
  · rename_i _ pc' st' M' n' sl' hp
    cases h
    obtain ⟨g1, g2⟩ := sx_hp_s (E := E) (RO := RO) (sa := sa) hok (sx_cv_s hc) hp
    exact am_stepR hmP hd (Or.inr (Or.inr (Or.inr (Or.inr (Or.inl (g2 _ (g0 g1 hc)))))))
  split at h
  · rename_i _ pc' st' hp
    cases h
    exact am_stepR hmP hd (Or.inr (Or.inr (Or.inr (Or.inl (sx_jp_s hc hp _ (g0 rfl hc))))))
  · cases h
  split at h
  · rename_i _ pc' st' M' n' sl' hp
    cases h
    obtain ⟨g1, g2⟩ := sx_nt_s (E := E) (RO := RO) (sa := sa) hc hp
    exact am_stepR hmP hd (Or.inr (Or.inr (Or.inr (Or.inr (Or.inr (Or.inr (Or.inr (g2 _ (g0 g1 hc)))))))))
  · cases h
  split at h
  · rename_i _ z vs r hp
    split at h
    · cases h
    · rename_i _ mz hz
      split at h
      · rename_i hl
        cases h
        obtain ⟨rfl, h1, h2, h3⟩ := hl
        have g := g0 rfl hc
        have hcall := sx_ca_s (sa := sa) (E := E) hp
        refine am_stepR hmP hd (Or.inr (Or.inr (Or.inr (Or.inr (Or.inr (Or.inr (Or.inl ⟨rfl, z, vs.map (sx_v E), r.map (sx_v E), mz, hcall, hz, h1, by rw [sx_sl_s]; exact h2, by rw [sx_ct_s]; exact h3, ?_⟩)))))))
        rw [← sx_args_s] at g
        exact g
      · cases h
  split at h
  · rename_i _ o hp
    split at h
    · cases h
    · rename_i y2 pc2 lv2 st2 fs2
      cases h
      have g := g0 rfl hc
      refine am_stepR hmP hd (Or.inr (Or.inr (Or.inr (Or.inr (Or.inr (Or.inl (sx_rt_s hc hp _ ?_)))))))
      show ∃ k, am_W (sx_P P sa) RO k y2 pc2 (sx_lv E lv2) ((o.map (sx_v E)).toList ++ st2.map (sx_v E)) (sx_mem E Ms) (E.1 + Ms.length) sl (sx_stk (sx_P P sa) RO E Q fs2)
      have e : (o.map (sx_v E)).toList ++ st2.map (sx_v E) = (o.toList ++ st2).map (sx_v E) := by
        cases o <;> rfl
      rw [e]
      exact g
  split at h
  · cases h
  · cases h
theorem sx_Ok_end (hins : sx_insOk P ins) {fin : Option Term → Nat → Nat → Bool} (hfin : ∀ (o : Option Term) (Ms : sx_M) (sl : Nat), fin o Ms.length sl = true → Q (o.map (sx_v E)) (sx_mem E Ms) (E.1 + Ms.length) sl) {c : sx_G} {o : Option Term} {n' sl' : Nat} (h : sx_one P ins rt c = some (.inr (.inr (o, n', sl')))) (hf : fin o n' sl' = true) : sx_Ok P RO sa E Q c := by
  obtain ⟨cs, y, pc, lv, st, fs, Ms, n, sl⟩ := c
  intro hn hc
  subst hn
  unfold sx_one at h
  dsimp only at h
  split at h
  · cases h
  rename_i _ mt hm
  split at h
  · cases h
  rename_i _ i len hd0
  have hd := hins _ _ _ hd0 _ hm
  have hmP : am_meth (sx_P P sa) y = some mt := hm
  split at h
  · split at h <;> cases h
  split at h
  · split at h <;> cases h
  split at h
  · split at h <;> cases h
  split at h
  · cases h
  split at h
  · cases h
  · cases h
  split at h
  · cases h
  · cases h
  split at h
  · split at h
    · cases h
    · split at h <;> cases h
  split at h
  · rename_i _ o2 hp
    split at h
    · cases h
      exact am_stepR hmP hd (Or.inr (Or.inr (Or.inr (Or.inr (Or.inr (Or.inl (sx_rt_s hc hp _ (hfin _ Ms _ hf))))))))
    · cases h
  split at h
  · cases h
  · cases h
theorem sx_Ok_go (hins : sx_insOk P ins) (hok : sx_ok E rt RO sa) : ∀ {k : Nat} {c c' : sx_G}, sx_go P ins rt k c = some c' → sx_Ok P RO sa E Q c' → sx_Ok P RO sa E Q c
  | 0, c, c', h, g => by
    unfold sx_go at h
    cases h
    exact g
  | k + 1, c, c', h, g => by
    unfold sx_go at h
    split at h
    · rename_i _ c2 h1
      exact sx_Ok_one hins hok h1 (sx_Ok_go hins hok h g)
    · cases h
theorem sx_Ok_run {fin : Option Term → Nat → Nat → Bool} (hins : sx_insOk P ins) (hok : sx_ok E rt RO sa) (hfin : ∀ (o : Option Term) (Ms : sx_M) (sl : Nat), fin o Ms.length sl = true → Q (o.map (sx_v E)) (sx_mem E Ms) (E.1 + Ms.length) sl) : ∀ {k : Nat} {c : sx_G}, sx_run P ins rt fin k c = true → sx_Ok P RO sa E Q c
  | 0, c, h => by
    unfold sx_run at h
    cases h
  | k + 1, c, h => by
    unfold sx_run at h
    split at h
    · cases h
    · rename_i _ c2 h1
      exact sx_Ok_one hins hok h1 (sx_Ok_run hins hok hfin h)
    · rename_i _ q h1
      rw [Bool.and_eq_true] at h
      exact sx_Ok_ask (sx_Ok_run hins hok hfin h.1) (sx_Ok_run hins hok hfin h.2)
    · rename_i _ o n sl h1
      exact sx_Ok_end hins hfin h1 h
end SXR
end
section
/-! SX: configurations compared; stretches of known end -/
def sx_ie (x y : Int32) : Bool := x.toBitVec.toNat == y.toBitVec.toNat
theorem sx_ie_s {x y : Int32} (h : sx_ie x y = true) : x = y := Int32.toBitVec_inj.mp (BitVec.eq_of_toNat_eq (eq_of_beq h))
def sx_je (x y : Int64) : Bool := x.toBitVec.toNat == y.toBitVec.toNat
theorem sx_je_s {x y : Int64} (h : sx_je x y = true) : x = y := Int64.toBitVec_inj.mp (BitVec.eq_of_toNat_eq (eq_of_beq h))
/-- equal terms, quickly -/
def sx_te (a b : Term) : Bool := match a with
  | .int x => (match b with
    | .int y => sx_ie x y
    | _ => false)
  | .long x => (match b with
    | .long y => sx_je x y
    | _ => false)
  | .null => (match b with
    | .null => true
    | _ => false)
  | .index x => (match b with
    | .index y => x == y
    | _ => false)
  | .arg x => (match b with
    | .arg y => x == y
    | _ => false)
  | t => decide (t = b)
theorem sx_te_s {a b : Term} (h : sx_te a b = true) : a = b := by
  unfold sx_te at h
  split at h
  · split at h
    · rw [sx_ie_s h]
    · cases h
  · split at h
    · rw [sx_je_s h]
    · cases h
  · split at h
    · rfl
    · cases h
  · split at h
    · rw [eq_of_beq h]
    · cases h
  · split at h
    · rw [eq_of_beq h]
    · cases h
  · exact of_decide_eq_true h
def sx_le : List Term → List Term → Bool
  | [], [] => true
  | a :: r, b :: s => sx_te a b && sx_le r s
  | _, _ => false
theorem sx_le_s : ∀ {a b : List Term}, sx_le a b = true → a = b
  | [], [], _ => rfl
  | a :: r, b :: s, h => by
    unfold sx_le at h
    rw [Bool.and_eq_true] at h
    rw [sx_te_s h.1, sx_le_s h.2]
  | [], _ :: _, h => by
    unfold sx_le at h
    cases h
  | _ :: _, [], h => by
    unfold sx_le at h
    cases h
def sx_we : sx_W → sx_W → Bool
  | [], [] => true
  | (i, a) :: r, (j, b) :: s => (i == j) && (sx_te a b && sx_we r s)
  | _, _ => false
theorem sx_we_s : ∀ {a b : sx_W}, sx_we a b = true → a = b
  | [], [], _ => rfl
  | (i, a) :: r, (j, b) :: s, h => by
    unfold sx_we at h
    simp only [Bool.and_eq_true] at h
    rw [eq_of_beq h.1, sx_te_s h.2.1, sx_we_s h.2.2]
  | [], _ :: _, h => by
    unfold sx_we at h
    cases h
  | _ :: _, [], h => by
    unfold sx_we at h
    cases h
def sx_cd (a b : sx_C) : Bool := match a, b with
  | .inl (t, n, w), .inl (t2, n2, w2) => (t == t2) && ((n == n2) && sx_we w w2)
  | .inr (ci, fs), .inr (ci2, fs2) => (ci == ci2) && sx_le fs fs2
  | _, _ => false
theorem sx_cd_s {a b : sx_C} (h : sx_cd a b = true) : a = b := by
  unfold sx_cd at h
  split at h
  · simp only [Bool.and_eq_true] at h
    rw [eq_of_beq h.1, eq_of_beq h.2.1, sx_we_s h.2.2]
  · simp only [Bool.and_eq_true] at h
    rw [eq_of_beq h.1, sx_le_s h.2]
  · cases h
def sx_md : sx_M → sx_M → Bool
  | [], [] => true
  | a :: r, b :: s => sx_cd a b && sx_md r s
  | _, _ => false
theorem sx_md_s : ∀ {a b : sx_M}, sx_md a b = true → a = b
  | [], [], _ => rfl
  | a :: r, b :: s, h => by
    unfold sx_md at h
    rw [Bool.and_eq_true] at h
    rw [sx_cd_s h.1, sx_md_s h.2]
  | [], _ :: _, h => by
    unfold sx_md at h
    cases h
  | _ :: _, [], h => by
    unfold sx_md at h
    cases h
def sx_fd1 : List sx_Fr → List sx_Fr → Bool
  | [], [] => true
  | (y, pc, lv, st) :: r, (y2, pc2, lv2, st2) :: s => (y == y2) && ((pc == pc2) && (sx_we lv lv2 && (sx_le st st2 && sx_fd1 r s)))
  | _, _ => false
theorem sx_fd1_s : ∀ {a b : List sx_Fr}, sx_fd1 a b = true → a = b
  | [], [], _ => rfl
  | (y, pc, lv, st) :: r, (y2, pc2, lv2, st2) :: s, h => by
    unfold sx_fd1 at h
    simp only [Bool.and_eq_true] at h
    obtain ⟨h1, h2, h3, h4, h⟩ := h
    rw [eq_of_beq h1, eq_of_beq h2, sx_we_s h3, sx_le_s h4, sx_fd1_s h]
  | [], _ :: _, h => by
    unfold sx_fd1 at h
    cases h
  | _ :: _, [], h => by
    unfold sx_fd1 at h
    cases h
def sx_gd (a b : sx_G) : Bool := match a, b with
  | (cs, y, pc, lv, st, fs, Ms, n, sl), (cs2, y2, pc2, lv2, st2, fs2, Ms2, n2, sl2) => decide (cs = cs2) && ((y == y2) && ((pc == pc2) && (sx_we lv lv2 && (sx_le st st2 && (sx_fd1 fs fs2 && (sx_md Ms Ms2 && ((n == n2) && (sl == sl2))))))))
theorem sx_gd_s {a b : sx_G} (h : sx_gd a b = true) : a = b := by
  obtain ⟨cs, y, pc, lv, st, fs, Ms, n, sl⟩ := a
  obtain ⟨cs2, y2, pc2, lv2, st2, fs2, Ms2, n2, sl2⟩ := b
  unfold sx_gd at h
  simp only [Bool.and_eq_true, decide_eq_true_eq] at h
  obtain ⟨rfl, g1, g2, g3, g4, h1, h2, g5, g6⟩ := h
  rw [eq_of_beq g1, eq_of_beq g2, sx_we_s g3, sx_le_s g4, sx_fd1_s h1, sx_md_s h2, eq_of_beq g5, eq_of_beq g6]
/-- a stretch from one configuration to another -/
def sx_to (P : am_P) (ins : sx_Ins) (rt : sx_R) (k : Nat) (c d : sx_G) : Bool := match sx_go P ins rt k c with
  | some c' => sx_gd c' d
  | none => false
theorem sx_Ok_to {P : am_P} {ins : sx_Ins} {rt : sx_R} {E : sx_E} {RO : am_O} {sa : Nat → Nat} {Q : am_Q} (hins : sx_insOk P ins) (hok : sx_ok E rt RO sa) {k : Nat} {c d : sx_G} (h : sx_to P ins rt k c d = true) (g : sx_Ok P RO sa E Q d) : sx_Ok P RO sa E Q c := by
  unfold sx_to at h
  split at h
  · rename_i _ c' h1
    rw [← sx_gd_s h] at g
    exact sx_Ok_go hins hok h1 g
  · cases h
end
section
/-! SX: the run of the law out of what the runner finds -/
theorem sx_aP (sa : Nat → Nat) : aP sa = sx_P (aP (fun i => i)) sa := by
  unfold aP sx_P am_sa0 am_mkP
  simp only [Option.map_map]
  rfl
def sx_rt0 (L : Nat) : sx_R := fun k => match k with
  | 0 => some (L, fun j => .string "" j)
  | 1 => some (3, fun j => .int (aV_0 j))
  | 2 => some (3, fun j => .int (aV_1 j))
  | 3 => some (8, fun j => .int (aV_2 j))
  | _ => none
def sx_fin0 : Option Term → Nat → Nat → Bool := fun o n sl => decide (o = some (.int 1)) && (decide (n ≤ 600000) && decide (sl ≤ 7302249))
def sx_Q0 (E : sx_E) : am_Q := fun v _ z l => v = some (.int 1) ∧ z ≤ E.1 + 600000 ∧ l ≤ 7302249
theorem sx_fin0_s {E : sx_E} (o : Option Term) (Ms : sx_M) (sl : Nat) (h : sx_fin0 o Ms.length sl = true) : sx_Q0 E (o.map (sx_v E)) (sx_mem E Ms) (E.1 + Ms.length) sl := by
  unfold sx_fin0 at h
  simp only [Bool.and_eq_true, decide_eq_true_eq] at h
  obtain ⟨rfl, h1, h2⟩ := h
  exact ⟨rfl, by omega, h2⟩
def sx_st0 : sx_G := ([], 561, 0, [(0, .arg 0)], [], [], [], 0, 0)
def sx_env (sz b : Nat) (sa : Nat → Nat) (xs : Nat → Int32) : sx_E := (sz, (fun k => match k with
  | 0 => b
  | i + 1 => sa i), xs)
/-- what is owed of the runner -/
def sx_Owed : Prop := ∀ (L : Nat), L ≤ 3584 → ∀ (E : sx_E) (sa : Nat → Nat) (RO : am_O), sx_ok E (sx_rt0 L) RO sa → sx_Ok (aP (fun i => i)) RO sa E (sx_Q0 E) sx_st0
theorem sx_aRun (h : sx_Owed) : aRun := by
  intro b L sz xs sa RO hL hb hR l0 q0 l1 q1 l2 q2
  have hok : sx_ok (sx_env sz b sa xs) (sx_rt0 L) RO sa := by
    refine ⟨fun k n g hk => ?_, fun a => rfl⟩
    match k, hk with
    | 0, hk =>
      cases hk
      exact ⟨hb, xs, hR, fun j _ => rfl⟩
    | 1, hk =>
      cases hk
      exact ⟨l0, aV_0, q0, fun j _ => rfl⟩
    | 2, hk =>
      cases hk
      exact ⟨l1, aV_1, q1, fun j _ => rfl⟩
    | 3, hk =>
      cases hk
      exact ⟨l2, aV_2, q2, fun j _ => rfl⟩
    | k + 4, hk => cases hk
  obtain ⟨k, g⟩ := h L hL _ sa RO hok rfl (fun q hq => by cases hq)
  have e : sx_mem (sx_env sz b sa xs) [] = fun _ => none := by
    funext q
    unfold sx_mem
    split <;> rfl
  rw [← sx_aP, e] at g
  obtain ⟨v, M', z', l', g1, ⟨rfl, g2, g3⟩, -, -⟩ := am_det _ _ _ _ _ _ _ _ _ g
  exact ⟨k, M', z', l', g1, g2, g3⟩
end
section
/-! SX: instructions of the program, checked -/
abbrev sx_IL : Type := List (Nat × Instr × Nat)
theorem sx_ite {α : Type} {p : α → Prop} {c : Prop} [Decidable c] {a b : α} (ha : p a) (hb : p b) : p (if c then a else b) := by
  split
  · exact ha
  · exact hb
def sx_iOk (cc : ByteArray) (l : sx_IL) : Prop := ∀ q ∈ l, decode cc q.1 = .ok q.2
def sx_iB (cc : ByteArray) (l : sx_IL) : Bool := l.all (fun q => decide (decode cc q.1 = .ok q.2))
theorem sx_iB_s {cc : ByteArray} {l : sx_IL} (h : sx_iB cc l = true) : sx_iOk cc l := fun q hq => of_decide_eq_true (List.all_eq_true.mp h q hq)
def sx_iF (l : sx_IL) (pc : Nat) : Option (Instr × Nat) := (l.find? (fun q => q.1 == pc)).map (fun q => q.2)
theorem sx_iF_s {cc : ByteArray} {l : sx_IL} (h : sx_iOk cc l) {pc : Nat} {r : Instr × Nat} (e : sx_iF l pc = some r) : decode cc pc = .ok r := by
  unfold sx_iF at e
  obtain ⟨q, h1, rfl⟩ := Option.map_eq_some_iff.mp e
  have h2 : (q.1 == pc) = true := List.find?_some (p := fun q : Nat × Instr × Nat => q.1 == pc) h1
  rw [← eq_of_beq h2]
  exact h q (List.mem_of_find?_eq_some h1)
def aI_0_0 : sx_IL := [(0, .aload_n 0, 1), (1, .invokespecial 1, 3), (4, .aload_n 0, 1), (5, .new 7, 3), (8, .dup, 1), (9, .invokespecial 9, 3), (12, .putfield 10, 3), (15, .aload_n 0, 1), (16, .new 16, 3), (19, .dup, 1), (20, .bipush 64, 2), (22, .invokespecial 18, 3)]
theorem aJ_0_0 : sx_iB prog_1_method_1_code aI_0_0 = true := by decide +kernel
def aI_0_1 : sx_IL := [(25, .putfield 21, 3), (28, .aload_n 0, 1), (29, .new 16, 3), (32, .dup, 1), (33, .bipush 64, 2), (35, .invokespecial 18, 3), (38, .putfield 25, 3), (41, .aload_n 0, 1), (42, .bipush 6, 2), (44, .newarray .int, 2), (46, .putfield 28, 3), (49, .aload_n 0, 1)]
theorem aJ_0_1 : sx_iB prog_1_method_1_code aI_0_1 = true := by decide +kernel
def aI_0_2 : sx_IL := [(50, .bipush 8, 2), (52, .anewarray 32, 3), (55, .putfield 34, 3), (58, .aload_n 0, 1), (59, .bipush 24, 2), (61, .anewarray 38, 3), (64, .putfield 40, 3), (67, .aload_n 0, 1), (68, .iconst 4, 1), (69, .anewarray 44, 3), (72, .putfield 46, 3), (75, .aload_n 0, 1)]
theorem aJ_0_2 : sx_iB prog_1_method_1_code aI_0_2 = true := by decide +kernel
def aI_0_3 : sx_IL := [(76, .bipush 16, 2), (78, .anewarray 16, 3), (81, .putfield 50, 3), (84, .aload_n 0, 1), (85, .bipush 16, 2), (87, .newarray .long, 2), (89, .putfield 54, 3), (92, .aload_n 0, 1), (93, .iconst 4, 1), (94, .bipush 64, 2), (96, .multianewarray 58 2, 4), (100, .putfield 60, 3)]
theorem aJ_0_3 : sx_iB prog_1_method_1_code aI_0_3 = true := by decide +kernel
def aI_0_4 : sx_IL := [(103, .aload_n 0, 1), (104, .iconst 4, 1), (105, .newarray .int, 2), (107, .putfield 63, 3), (110, .aload_n 0, 1), (111, .bipush 16, 2), (113, .newarray .long, 2), (115, .putfield 66, 3), (118, .return_, 1)]
theorem aJ_0_4 : sx_iB prog_1_method_1_code aI_0_4 = true := by decide +kernel
def aS_0 (pc : Nat) : sx_IL := (if pc < 50 then (if pc < 25 then aI_0_0 else aI_0_1) else (if pc < 76 then aI_0_2 else (if pc < 103 then aI_0_3 else aI_0_4)))
theorem aT_0 (pc : Nat) : sx_iOk prog_1_method_1_code (aS_0 pc) := by
  unfold aS_0
  exact (sx_ite (sx_ite (sx_iB_s aJ_0_0) (sx_iB_s aJ_0_1)) (sx_ite (sx_iB_s aJ_0_2) (sx_ite (sx_iB_s aJ_0_3) (sx_iB_s aJ_0_4))))
def aI_1_0 : sx_IL := [(0, .aload_n 0, 1), (1, .invokespecial 3, 3), (4, .aload_n 0, 1), (5, .new 9, 3), (8, .dup, 1), (9, .invokespecial 11, 3), (12, .putfield 12, 3), (15, .aload_n 0, 1), (16, .new 18, 3), (19, .dup, 1), (20, .sipush 512, 3), (23, .invokespecial 20, 3)]
theorem aJ_1_0 : sx_iB prog_5_method_1_code aI_1_0 = true := by decide +kernel
def aI_1_1 : sx_IL := [(26, .putfield 23, 3), (29, .aload_n 0, 1), (30, .new 18, 3), (33, .dup, 1), (34, .sipush 256, 3), (37, .invokespecial 20, 3), (40, .putfield 27, 3), (43, .aload_n 0, 1), (44, .new 18, 3), (47, .dup, 1), (48, .bipush 8, 2), (50, .invokespecial 20, 3)]
theorem aJ_1_1 : sx_iB prog_5_method_1_code aI_1_1 = true := by decide +kernel
def aI_1_2 : sx_IL := [(53, .putfield 30, 3), (56, .aload_n 0, 1), (57, .bipush 10, 2), (59, .newarray .int, 2), (61, .putfield 33, 3), (64, .aload_n 0, 1), (65, .new 37, 3), (68, .dup, 1), (69, .invokespecial 39, 3), (72, .putfield 40, 3), (75, .aload_n 0, 1), (76, .new 37, 3)]
theorem aJ_1_2 : sx_iB prog_5_method_1_code aI_1_2 = true := by decide +kernel
def aI_1_3 : sx_IL := [(79, .dup, 1), (80, .invokespecial 39, 3), (83, .putfield 44, 3), (86, .aload_n 0, 1), (87, .bipush 30, 2), (89, .anewarray 47, 3), (92, .putfield 49, 3), (95, .aload_n 0, 1), (96, .bipush 12, 2), (98, .anewarray 47, 3), (101, .putfield 53, 3), (104, .aload_n 0, 1)]
theorem aJ_1_3 : sx_iB prog_5_method_1_code aI_1_3 = true := by decide +kernel
def aI_1_4 : sx_IL := [(105, .bipush 12, 2), (107, .anewarray 47, 3), (110, .putfield 56, 3), (113, .aload_n 0, 1), (114, .new 47, 3), (117, .dup, 1), (118, .sipush 400, 3), (121, .invokespecial 59, 3), (124, .putfield 60, 3), (127, .aload_n 0, 1), (128, .iconst 4, 1), (129, .anewarray 47, 3)]
theorem aJ_1_4 : sx_iB prog_5_method_1_code aI_1_4 = true := by decide +kernel
def aI_1_5 : sx_IL := [(132, .putfield 64, 3), (135, .aload_n 0, 1), (136, .new 47, 3), (139, .dup, 1), (140, .sipush 400, 3), (143, .invokespecial 59, 3), (146, .putfield 67, 3), (149, .aload_n 0, 1), (150, .bipush 6, 2), (152, .anewarray 47, 3), (155, .putfield 70, 3), (158, .iconst 0, 1)]
theorem aJ_1_5 : sx_iB prog_5_method_1_code aI_1_5 = true := by decide +kernel
def aI_1_6 : sx_IL := [(159, .istore_n 1, 1), (160, .iload_n 1, 1), (161, .aload_n 0, 1), (162, .getfield 64, 3), (165, .arraylength, 1), (166, .if_icmp .ge 25, 3), (169, .aload_n 0, 1), (170, .getfield 64, 3), (173, .iload_n 1, 1), (174, .new 47, 3), (177, .dup, 1), (178, .sipush 400, 3)]
theorem aJ_1_6 : sx_iB prog_5_method_1_code aI_1_6 = true := by decide +kernel
def aI_1_7 : sx_IL := [(181, .invokespecial 59, 3), (184, .aastore, 1), (185, .iinc 1 1, 3), (188, .goto (-28), 3), (191, .return_, 1)]
theorem aJ_1_7 : sx_iB prog_5_method_1_code aI_1_7 = true := by decide +kernel
def aS_1 (pc : Nat) : sx_IL := (if pc < 105 then (if pc < 53 then (if pc < 26 then aI_1_0 else aI_1_1) else (if pc < 79 then aI_1_2 else aI_1_3)) else (if pc < 159 then (if pc < 132 then aI_1_4 else aI_1_5) else (if pc < 181 then aI_1_6 else aI_1_7)))
theorem aT_1 (pc : Nat) : sx_iOk prog_5_method_1_code (aS_1 pc) := by
  unfold aS_1
  exact (sx_ite (sx_ite (sx_ite (sx_iB_s aJ_1_0) (sx_iB_s aJ_1_1)) (sx_ite (sx_iB_s aJ_1_2) (sx_iB_s aJ_1_3))) (sx_ite (sx_ite (sx_iB_s aJ_1_4) (sx_iB_s aJ_1_5)) (sx_ite (sx_iB_s aJ_1_6) (sx_iB_s aJ_1_7))))
def aI_2_0 : sx_IL := [(0, .aload_n 0, 1), (1, .invokespecial 1, 3), (4, .return_, 1)]
theorem aJ_2_0 : sx_iB prog_6_method_1_code aI_2_0 = true := by decide +kernel
def aS_2 (pc : Nat) : sx_IL := aI_2_0
theorem aT_2 (pc : Nat) : sx_iOk prog_6_method_1_code (aS_2 pc) := (sx_iB_s aJ_2_0)
def aI_3_0 : sx_IL := [(0, .aload_n 0, 1), (1, .invokespecial 1, 3), (4, .aload_n 0, 1), (5, .iload_n 1, 1), (6, .bipush 8, 2), (8, .invokestatic 7, 3), (11, .newarray .int, 2), (13, .putfield 13, 3), (16, .return_, 1)]
theorem aJ_3_0 : sx_iB prog_9_method_1_code aI_3_0 = true := by decide +kernel
def aS_3 (pc : Nat) : sx_IL := aI_3_0
theorem aT_3 (pc : Nat) : sx_iOk prog_9_method_1_code (aS_3 pc) := (sx_iB_s aJ_3_0)
def aI_4_0 : sx_IL := [(0, .aload_n 0, 1), (1, .invokespecial 1, 3), (4, .aload_n 0, 1), (5, .iconst 0, 1), (6, .newarray .int, 2), (8, .putfield 7, 3), (11, .aload_n 0, 1), (12, .bipush 11, 2), (14, .newarray .int, 2), (16, .putfield 13, 3), (19, .aload_n 0, 1), (20, .bipush 11, 2)]
theorem aJ_4_0 : sx_iB prog_4_method_1_code aI_4_0 = true := by decide +kernel
def aI_4_1 : sx_IL := [(22, .newarray .int, 2), (24, .putfield 16, 3), (27, .return_, 1)]
theorem aJ_4_1 : sx_iB prog_4_method_1_code aI_4_1 = true := by decide +kernel
def aS_4 (pc : Nat) : sx_IL := (if pc < 22 then aI_4_0 else aI_4_1)
theorem aT_4 (pc : Nat) : sx_iOk prog_4_method_1_code (aS_4 pc) := by
  unfold aS_4
  exact (sx_ite (sx_iB_s aJ_4_0) (sx_iB_s aJ_4_1))
def aI_5_0 : sx_IL := [(0, .aload_n 0, 1), (1, .invokespecial 3, 3), (4, .aload_n 0, 1), (5, .bipush 12, 2), (7, .newarray .int, 2), (9, .putfield 9, 3), (12, .aload_n 0, 1), (13, .bipush 32, 2), (15, .newarray .int, 2), (17, .putfield 15, 3), (20, .aload_n 0, 1), (21, .iconst (-1), 1)]
theorem aJ_5_0 : sx_iB prog_8_method_1_code aI_5_0 = true := by decide +kernel
def aI_5_1 : sx_IL := [(22, .putfield 18, 3), (25, .aload_n 0, 1), (26, .iload_n 1, 1), (27, .iconst 1, 1), (28, .invokestatic 22, 3), (31, .newarray .int, 2), (33, .putfield 28, 3), (36, .return_, 1)]
theorem aJ_5_1 : sx_iB prog_8_method_1_code aI_5_1 = true := by decide +kernel
def aS_5 (pc : Nat) : sx_IL := (if pc < 22 then aI_5_0 else aI_5_1)
theorem aT_5 (pc : Nat) : sx_iOk prog_8_method_1_code (aS_5 pc) := by
  unfold aS_5
  exact (sx_ite (sx_iB_s aJ_5_0) (sx_iB_s aJ_5_1))
def aI_319_0 : sx_IL := [(0, .aload_n 0, 1), (1, .invokespecial 1, 3), (4, .aload_n 0, 1), (5, .sipush 800, 3), (8, .newarray .int, 2), (10, .putfield 7, 3), (13, .aload_n 0, 1), (14, .sipush 820, 3), (17, .newarray .int, 2), (19, .putfield 13, 3), (22, .aload_n 0, 1), (23, .iconst 4, 1)]
theorem aJ_319_0 : sx_iB prog_14_method_1_code aI_319_0 = true := by decide +kernel
def aI_319_1 : sx_IL := [(24, .newarray .int, 2), (26, .putfield 16, 3), (29, .aload_n 0, 1), (30, .sipush 256, 3), (33, .newarray .long, 2), (35, .putfield 19, 3), (38, .aload_n 0, 1), (39, .bipush 64, 2), (41, .newarray .long, 2), (43, .putfield 23, 3), (46, .aload_n 0, 1), (47, .bipush 64, 2)]
theorem aJ_319_1 : sx_iB prog_14_method_1_code aI_319_1 = true := by decide +kernel
def aI_319_2 : sx_IL := [(49, .newarray .int, 2), (51, .putfield 26, 3), (54, .aload_n 0, 1), (55, .bipush 16, 2), (57, .newarray .long, 2), (59, .putfield 29, 3), (62, .aload_n 0, 1), (63, .bipush 16, 2), (65, .newarray .boolean, 2), (67, .putfield 32, 3), (70, .aload_n 0, 1), (71, .bipush 12, 2)]
theorem aJ_319_2 : sx_iB prog_14_method_1_code aI_319_2 = true := by decide +kernel
def aI_319_3 : sx_IL := [(73, .newarray .int, 2), (75, .putfield 36, 3), (78, .aload_n 0, 1), (79, .sipush 14400, 3), (82, .newarray .int, 2), (84, .putfield 39, 3), (87, .aload_n 0, 1), (88, .bipush 36, 2), (90, .newarray .int, 2), (92, .putfield 42, 3), (95, .aload_n 0, 1), (96, .sipush 288, 3)]
theorem aJ_319_3 : sx_iB prog_14_method_1_code aI_319_3 = true := by decide +kernel
def aI_319_4 : sx_IL := [(99, .newarray .int, 2), (101, .putfield 45, 3), (104, .aload_n 0, 1), (105, .bipush 72, 2), (107, .newarray .int, 2), (109, .putfield 48, 3), (112, .aload_n 0, 1), (113, .bipush 72, 2), (115, .newarray .int, 2), (117, .putfield 51, 3), (120, .aload_n 0, 1), (121, .bipush 72, 2)]
theorem aJ_319_4 : sx_iB prog_14_method_1_code aI_319_4 = true := by decide +kernel
def aI_319_5 : sx_IL := [(123, .newarray .int, 2), (125, .putfield 54, 3), (128, .aload_n 0, 1), (129, .bipush 36, 2), (131, .newarray .int, 2), (133, .putfield 57, 3), (136, .aload_n 0, 1), (137, .bipush 108, 2), (139, .newarray .int, 2), (141, .putfield 60, 3), (144, .aload_n 0, 1), (145, .sipush 864, 3)]
theorem aJ_319_5 : sx_iB prog_14_method_1_code aI_319_5 = true := by decide +kernel
def aI_319_6 : sx_IL := [(148, .newarray .int, 2), (150, .putfield 63, 3), (153, .aload_n 0, 1), (154, .sipush 5600, 3), (157, .newarray .int, 2), (159, .putfield 66, 3), (162, .aload_n 0, 1), (163, .bipush 14, 2), (165, .newarray .int, 2), (167, .putfield 69, 3), (170, .aload_n 0, 1), (171, .bipush 112, 2)]
theorem aJ_319_6 : sx_iB prog_14_method_1_code aI_319_6 = true := by decide +kernel
def aI_319_7 : sx_IL := [(173, .newarray .int, 2), (175, .putfield 72, 3), (178, .aload_n 0, 1), (179, .sipush 5600, 3), (182, .newarray .int, 2), (184, .putfield 75, 3), (187, .aload_n 0, 1), (188, .bipush 14, 2), (190, .newarray .int, 2), (192, .putfield 78, 3), (195, .aload_n 0, 1), (196, .bipush 112, 2)]
theorem aJ_319_7 : sx_iB prog_14_method_1_code aI_319_7 = true := by decide +kernel
def aI_319_8 : sx_IL := [(198, .newarray .int, 2), (200, .putfield 81, 3), (203, .aload_n 0, 1), (204, .sipush 2000, 3), (207, .newarray .int, 2), (209, .putfield 84, 3), (212, .aload_n 0, 1), (213, .bipush 8, 2), (215, .newarray .int, 2), (217, .putfield 87, 3), (220, .aload_n 0, 1), (221, .bipush 6, 2)]
theorem aJ_319_8 : sx_iB prog_14_method_1_code aI_319_8 = true := by decide +kernel
def aI_319_9 : sx_IL := [(223, .newarray .int, 2), (225, .putfield 90, 3), (228, .aload_n 0, 1), (229, .bipush 8, 2), (231, .newarray .int, 2), (233, .putfield 93, 3), (236, .aload_n 0, 1), (237, .bipush 96, 2), (239, .newarray .int, 2), (241, .putfield 96, 3), (244, .aload_n 0, 1), (245, .bipush 24, 2)]
theorem aJ_319_9 : sx_iB prog_14_method_1_code aI_319_9 = true := by decide +kernel
def aI_319_10 : sx_IL := [(247, .newarray .int, 2), (249, .putfield 99, 3), (252, .aload_n 0, 1), (253, .bipush 64, 2), (255, .newarray .int, 2), (257, .putfield 102, 3), (260, .aload_n 0, 1), (261, .sipush 1600, 3), (264, .newarray .int, 2), (266, .putfield 105, 3), (269, .aload_n 0, 1), (270, .bipush 8, 2)]
theorem aJ_319_10 : sx_iB prog_14_method_1_code aI_319_10 = true := by decide +kernel
def aI_319_11 : sx_IL := [(272, .newarray .int, 2), (274, .putfield 108, 3), (277, .aload_n 0, 1), (278, .sipush 240, 3), (281, .newarray .int, 2), (283, .putfield 111, 3), (286, .aload_n 0, 1), (287, .bipush 8, 2), (289, .newarray .int, 2), (291, .putfield 114, 3), (294, .aload_n 0, 1), (295, .bipush 32, 2)]
theorem aJ_319_11 : sx_iB prog_14_method_1_code aI_319_11 = true := by decide +kernel
def aI_319_12 : sx_IL := [(297, .newarray .int, 2), (299, .putfield 117, 3), (302, .aload_n 0, 1), (303, .bipush 8, 2), (305, .newarray .int, 2), (307, .putfield 120, 3), (310, .aload_n 0, 1), (311, .bipush 8, 2), (313, .newarray .int, 2), (315, .putfield 123, 3), (318, .aload_n 0, 1), (319, .sipush 320, 3)]
theorem aJ_319_12 : sx_iB prog_14_method_1_code aI_319_12 = true := by decide +kernel
def aI_319_13 : sx_IL := [(322, .newarray .int, 2), (324, .putfield 126, 3), (327, .aload_n 0, 1), (328, .bipush 8, 2), (330, .newarray .int, 2), (332, .putfield 129, 3), (335, .aload_n 0, 1), (336, .bipush 8, 2), (338, .newarray .int, 2), (340, .putfield 132, 3), (343, .aload_n 0, 1), (344, .sipush 768, 3)]
theorem aJ_319_13 : sx_iB prog_14_method_1_code aI_319_13 = true := by decide +kernel
def aI_319_14 : sx_IL := [(347, .newarray .int, 2), (349, .putfield 135, 3), (352, .aload_n 0, 1), (353, .bipush 48, 2), (355, .newarray .int, 2), (357, .putfield 138, 3), (360, .aload_n 0, 1), (361, .bipush 48, 2), (363, .newarray .long, 2), (365, .putfield 141, 3), (368, .aload_n 0, 1), (369, .bipush 48, 2)]
theorem aJ_319_14 : sx_iB prog_14_method_1_code aI_319_14 = true := by decide +kernel
def aI_319_15 : sx_IL := [(371, .newarray .int, 2), (373, .putfield 144, 3), (376, .aload_n 0, 1), (377, .bipush 48, 2), (379, .newarray .boolean, 2), (381, .putfield 147, 3), (384, .aload_n 0, 1), (385, .sipush 240, 3), (388, .newarray .int, 2), (390, .putfield 150, 3), (393, .aload_n 0, 1), (394, .sipush 3200, 3)]
theorem aJ_319_15 : sx_iB prog_14_method_1_code aI_319_15 = true := by decide +kernel
def aI_319_16 : sx_IL := [(397, .newarray .int, 2), (399, .putfield 153, 3), (402, .aload_n 0, 1), (403, .bipush 8, 2), (405, .newarray .int, 2), (407, .putfield 156, 3), (410, .aload_n 0, 1), (411, .bipush 8, 2), (413, .newarray .long, 2), (415, .putfield 159, 3), (418, .aload_n 0, 1), (419, .bipush 8, 2)]
theorem aJ_319_16 : sx_iB prog_14_method_1_code aI_319_16 = true := by decide +kernel
def aI_319_17 : sx_IL := [(421, .newarray .boolean, 2), (423, .putfield 162, 3), (426, .aload_n 0, 1), (427, .bipush 8, 2), (429, .newarray .int, 2), (431, .putfield 165, 3), (434, .aload_n 0, 1), (435, .bipush 8, 2), (437, .newarray .int, 2), (439, .putfield 168, 3), (442, .aload_n 0, 1), (443, .sipush 160, 3)]
theorem aJ_319_17 : sx_iB prog_14_method_1_code aI_319_17 = true := by decide +kernel
def aI_319_18 : sx_IL := [(446, .newarray .long, 2), (448, .putfield 171, 3), (451, .aload_n 0, 1), (452, .sipush 160, 3), (455, .newarray .long, 2), (457, .putfield 174, 3), (460, .aload_n 0, 1), (461, .sipush 160, 3), (464, .newarray .int, 2), (466, .putfield 177, 3), (469, .aload_n 0, 1), (470, .sipush 160, 3)]
theorem aJ_319_18 : sx_iB prog_14_method_1_code aI_319_18 = true := by decide +kernel
def aI_319_19 : sx_IL := [(473, .newarray .int, 2), (475, .putfield 180, 3), (478, .aload_n 0, 1), (479, .sipush 160, 3), (482, .newarray .int, 2), (484, .putfield 183, 3), (487, .aload_n 0, 1), (488, .sipush 160, 3), (491, .newarray .boolean, 2), (493, .putfield 186, 3), (496, .aload_n 0, 1), (497, .iconst 4, 1)]
theorem aJ_319_19 : sx_iB prog_14_method_1_code aI_319_19 = true := by decide +kernel
def aI_319_20 : sx_IL := [(498, .newarray .int, 2), (500, .putfield 189, 3), (503, .aload_n 0, 1), (504, .iconst 4, 1), (505, .newarray .int, 2), (507, .putfield 192, 3), (510, .aload_n 0, 1), (511, .iconst 4, 1), (512, .newarray .int, 2), (514, .putfield 195, 3), (517, .aload_n 0, 1), (518, .iconst 4, 1)]
theorem aJ_319_20 : sx_iB prog_14_method_1_code aI_319_20 = true := by decide +kernel
def aI_319_21 : sx_IL := [(519, .newarray .int, 2), (521, .putfield 198, 3), (524, .aload_n 0, 1), (525, .iconst 4, 1), (526, .newarray .int, 2), (528, .putfield 201, 3), (531, .aload_n 0, 1), (532, .iconst 4, 1), (533, .newarray .int, 2), (535, .putfield 204, 3), (538, .aload_n 0, 1), (539, .iconst 4, 1)]
theorem aJ_319_21 : sx_iB prog_14_method_1_code aI_319_21 = true := by decide +kernel
def aI_319_22 : sx_IL := [(540, .newarray .int, 2), (542, .putfield 207, 3), (545, .aload_n 0, 1), (546, .bipush 32, 2), (548, .newarray .long, 2), (550, .putfield 210, 3), (553, .aload_n 0, 1), (554, .iconst 4, 1), (555, .newarray .int, 2), (557, .putfield 213, 3), (560, .aload_n 0, 1), (561, .bipush 48, 2)]
theorem aJ_319_22 : sx_iB prog_14_method_1_code aI_319_22 = true := by decide +kernel
def aI_319_23 : sx_IL := [(563, .newarray .int, 2), (565, .putfield 216, 3), (568, .aload_n 0, 1), (569, .bipush 48, 2), (571, .newarray .int, 2), (573, .putfield 219, 3), (576, .aload_n 0, 1), (577, .bipush 48, 2), (579, .newarray .int, 2), (581, .putfield 222, 3), (584, .aload_n 0, 1), (585, .bipush 48, 2)]
theorem aJ_319_23 : sx_iB prog_14_method_1_code aI_319_23 = true := by decide +kernel
def aI_319_24 : sx_IL := [(587, .newarray .int, 2), (589, .putfield 225, 3), (592, .aload_n 0, 1), (593, .sipush 6048, 3), (596, .newarray .int, 2), (598, .putfield 228, 3), (601, .aload_n 0, 1), (602, .sipush 144, 3), (605, .newarray .int, 2), (607, .putfield 231, 3), (610, .aload_n 0, 1), (611, .sipush 144, 3)]
theorem aJ_319_24 : sx_iB prog_14_method_1_code aI_319_24 = true := by decide +kernel
def aI_319_25 : sx_IL := [(614, .newarray .int, 2), (616, .putfield 234, 3), (619, .aload_n 0, 1), (620, .sipush 144, 3), (623, .newarray .int, 2), (625, .putfield 237, 3), (628, .aload_n 0, 1), (629, .iconst 4, 1), (630, .newarray .int, 2), (632, .putfield 240, 3), (635, .aload_n 0, 1), (636, .sipush 160, 3)]
theorem aJ_319_25 : sx_iB prog_14_method_1_code aI_319_25 = true := by decide +kernel
def aI_319_26 : sx_IL := [(639, .newarray .int, 2), (641, .putfield 243, 3), (644, .aload_n 0, 1), (645, .sipush 640, 3), (648, .newarray .int, 2), (650, .putfield 246, 3), (653, .aload_n 0, 1), (654, .bipush 16, 2), (656, .newarray .int, 2), (658, .putfield 249, 3), (661, .aload_n 0, 1), (662, .bipush 16, 2)]
theorem aJ_319_26 : sx_iB prog_14_method_1_code aI_319_26 = true := by decide +kernel
def aI_319_27 : sx_IL := [(664, .newarray .long, 2), (666, .putfield 252, 3), (669, .aload_n 0, 1), (670, .iconst 4, 1), (671, .newarray .int, 2), (673, .putfield 255, 3), (676, .aload_n 0, 1), (677, .iconst 4, 1), (678, .newarray .int, 2), (680, .putfield 258, 3), (683, .aload_n 0, 1), (684, .bipush 24, 2)]
theorem aJ_319_27 : sx_iB prog_14_method_1_code aI_319_27 = true := by decide +kernel
def aI_319_28 : sx_IL := [(686, .newarray .int, 2), (688, .putfield 261, 3), (691, .aload_n 0, 1), (692, .ldc_w 264, 3), (695, .newarray .int, 2), (697, .putfield 265, 3), (700, .aload_n 0, 1), (701, .bipush 24, 2), (703, .newarray .int, 2), (705, .putfield 268, 3), (708, .aload_n 0, 1), (709, .sipush 7680, 3)]
theorem aJ_319_28 : sx_iB prog_14_method_1_code aI_319_28 = true := by decide +kernel
def aI_319_29 : sx_IL := [(712, .newarray .int, 2), (714, .putfield 271, 3), (717, .aload_n 0, 1), (718, .bipush 24, 2), (720, .newarray .int, 2), (722, .putfield 274, 3), (725, .aload_n 0, 1), (726, .ldc_w 277, 3), (729, .newarray .int, 2), (731, .putfield 278, 3), (734, .aload_n 0, 1), (735, .bipush 24, 2)]
theorem aJ_319_29 : sx_iB prog_14_method_1_code aI_319_29 = true := by decide +kernel
def aI_319_30 : sx_IL := [(737, .newarray .int, 2), (739, .putfield 281, 3), (742, .aload_n 0, 1), (743, .ldc_w 284, 3), (746, .newarray .int, 2), (748, .putfield 285, 3), (751, .aload_n 0, 1), (752, .bipush 24, 2), (754, .newarray .int, 2), (756, .putfield 288, 3), (759, .aload_n 0, 1), (760, .bipush 24, 2)]
theorem aJ_319_30 : sx_iB prog_14_method_1_code aI_319_30 = true := by decide +kernel
def aI_319_31 : sx_IL := [(762, .newarray .int, 2), (764, .putfield 291, 3), (767, .aload_n 0, 1), (768, .bipush 24, 2), (770, .newarray .boolean, 2), (772, .putfield 294, 3), (775, .aload_n 0, 1), (776, .bipush 24, 2), (778, .newarray .boolean, 2), (780, .putfield 297, 3), (783, .aload_n 0, 1), (784, .bipush 24, 2)]
theorem aJ_319_31 : sx_iB prog_14_method_1_code aI_319_31 = true := by decide +kernel
def aI_319_32 : sx_IL := [(786, .newarray .boolean, 2), (788, .putfield 300, 3), (791, .aload_n 0, 1), (792, .bipush 24, 2), (794, .newarray .int, 2), (796, .putfield 303, 3), (799, .aload_n 0, 1), (800, .bipush 24, 2), (802, .newarray .int, 2), (804, .putfield 306, 3), (807, .aload_n 0, 1), (808, .bipush 24, 2)]
theorem aJ_319_32 : sx_iB prog_14_method_1_code aI_319_32 = true := by decide +kernel
def aI_319_33 : sx_IL := [(810, .newarray .boolean, 2), (812, .putfield 309, 3), (815, .aload_n 0, 1), (816, .bipush 24, 2), (818, .newarray .boolean, 2), (820, .putfield 312, 3), (823, .aload_n 0, 1), (824, .bipush 24, 2), (826, .newarray .long, 2), (828, .putfield 315, 3), (831, .aload_n 0, 1), (832, .bipush 24, 2)]
theorem aJ_319_33 : sx_iB prog_14_method_1_code aI_319_33 = true := by decide +kernel
def aI_319_34 : sx_IL := [(834, .newarray .long, 2), (836, .putfield 318, 3), (839, .aload_n 0, 1), (840, .bipush 24, 2), (842, .newarray .int, 2), (844, .putfield 321, 3), (847, .aload_n 0, 1), (848, .bipush 24, 2), (850, .newarray .int, 2), (852, .putfield 324, 3), (855, .aload_n 0, 1), (856, .bipush 24, 2)]
theorem aJ_319_34 : sx_iB prog_14_method_1_code aI_319_34 = true := by decide +kernel
def aI_319_35 : sx_IL := [(858, .newarray .int, 2), (860, .putfield 327, 3), (863, .aload_n 0, 1), (864, .bipush 24, 2), (866, .newarray .int, 2), (868, .putfield 330, 3), (871, .aload_n 0, 1), (872, .bipush 24, 2), (874, .newarray .int, 2), (876, .putfield 333, 3), (879, .aload_n 0, 1), (880, .bipush 24, 2)]
theorem aJ_319_35 : sx_iB prog_14_method_1_code aI_319_35 = true := by decide +kernel
def aI_319_36 : sx_IL := [(882, .newarray .int, 2), (884, .putfield 336, 3), (887, .aload_n 0, 1), (888, .bipush 24, 2), (890, .newarray .int, 2), (892, .putfield 339, 3), (895, .aload_n 0, 1), (896, .bipush 24, 2), (898, .newarray .boolean, 2), (900, .putfield 342, 3), (903, .aload_n 0, 1), (904, .bipush 24, 2)]
theorem aJ_319_36 : sx_iB prog_14_method_1_code aI_319_36 = true := by decide +kernel
def aI_319_37 : sx_IL := [(906, .newarray .int, 2), (908, .putfield 345, 3), (911, .aload_n 0, 1), (912, .bipush 24, 2), (914, .newarray .int, 2), (916, .putfield 348, 3), (919, .aload_n 0, 1), (920, .bipush 24, 2), (922, .newarray .int, 2), (924, .putfield 351, 3), (927, .aload_n 0, 1), (928, .bipush 24, 2)]
theorem aJ_319_37 : sx_iB prog_14_method_1_code aI_319_37 = true := by decide +kernel
def aI_319_38 : sx_IL := [(930, .newarray .boolean, 2), (932, .putfield 354, 3), (935, .aload_n 0, 1), (936, .bipush 24, 2), (938, .newarray .long, 2), (940, .putfield 357, 3), (943, .aload_n 0, 1), (944, .bipush 24, 2), (946, .newarray .long, 2), (948, .putfield 360, 3), (951, .aload_n 0, 1), (952, .bipush 24, 2)]
theorem aJ_319_38 : sx_iB prog_14_method_1_code aI_319_38 = true := by decide +kernel
def aI_319_39 : sx_IL := [(954, .newarray .long, 2), (956, .putfield 363, 3), (959, .aload_n 0, 1), (960, .bipush 24, 2), (962, .newarray .long, 2), (964, .putfield 366, 3), (967, .aload_n 0, 1), (968, .bipush 24, 2), (970, .newarray .long, 2), (972, .putfield 369, 3), (975, .aload_n 0, 1), (976, .bipush 24, 2)]
theorem aJ_319_39 : sx_iB prog_14_method_1_code aI_319_39 = true := by decide +kernel
def aI_319_40 : sx_IL := [(978, .newarray .long, 2), (980, .putfield 372, 3), (983, .aload_n 0, 1), (984, .bipush 24, 2), (986, .newarray .long, 2), (988, .putfield 375, 3), (991, .aload_n 0, 1), (992, .bipush 24, 2), (994, .newarray .long, 2), (996, .putfield 378, 3), (999, .aload_n 0, 1), (1000, .bipush 24, 2)]
theorem aJ_319_40 : sx_iB prog_14_method_1_code aI_319_40 = true := by decide +kernel
def aI_319_41 : sx_IL := [(1002, .newarray .int, 2), (1004, .putfield 381, 3), (1007, .aload_n 0, 1), (1008, .bipush 24, 2), (1010, .newarray .int, 2), (1012, .putfield 384, 3), (1015, .aload_n 0, 1), (1016, .bipush 48, 2), (1018, .newarray .int, 2), (1020, .putfield 387, 3), (1023, .aload_n 0, 1), (1024, .bipush 48, 2)]
theorem aJ_319_41 : sx_iB prog_14_method_1_code aI_319_41 = true := by decide +kernel
def aI_319_42 : sx_IL := [(1026, .newarray .int, 2), (1028, .putfield 390, 3), (1031, .aload_n 0, 1), (1032, .bipush 48, 2), (1034, .newarray .int, 2), (1036, .putfield 393, 3), (1039, .aload_n 0, 1), (1040, .bipush 48, 2), (1042, .newarray .int, 2), (1044, .putfield 396, 3), (1047, .aload_n 0, 1), (1048, .bipush 48, 2)]
theorem aJ_319_42 : sx_iB prog_14_method_1_code aI_319_42 = true := by decide +kernel
def aI_319_43 : sx_IL := [(1050, .newarray .int, 2), (1052, .putfield 399, 3), (1055, .aload_n 0, 1), (1056, .bipush 48, 2), (1058, .newarray .int, 2), (1060, .putfield 402, 3), (1063, .aload_n 0, 1), (1064, .bipush 48, 2), (1066, .newarray .long, 2), (1068, .putfield 405, 3), (1071, .aload_n 0, 1), (1072, .bipush 12, 2)]
theorem aJ_319_43 : sx_iB prog_14_method_1_code aI_319_43 = true := by decide +kernel
def aI_319_44 : sx_IL := [(1074, .newarray .long, 2), (1076, .putfield 408, 3), (1079, .aload_n 0, 1), (1080, .bipush 12, 2), (1082, .newarray .int, 2), (1084, .putfield 411, 3), (1087, .aload_n 0, 1), (1088, .bipush 12, 2), (1090, .newarray .int, 2), (1092, .putfield 414, 3), (1095, .aload_n 0, 1), (1096, .bipush 12, 2)]
theorem aJ_319_44 : sx_iB prog_14_method_1_code aI_319_44 = true := by decide +kernel
def aI_319_45 : sx_IL := [(1098, .newarray .int, 2), (1100, .putfield 417, 3), (1103, .aload_n 0, 1), (1104, .bipush 12, 2), (1106, .newarray .int, 2), (1108, .putfield 420, 3), (1111, .aload_n 0, 1), (1112, .sipush 1152, 3), (1115, .newarray .int, 2), (1117, .putfield 423, 3), (1120, .aload_n 0, 1), (1121, .bipush 72, 2)]
theorem aJ_319_45 : sx_iB prog_14_method_1_code aI_319_45 = true := by decide +kernel
def aI_319_46 : sx_IL := [(1123, .newarray .int, 2), (1125, .putfield 426, 3), (1128, .aload_n 0, 1), (1129, .bipush 72, 2), (1131, .newarray .long, 2), (1133, .putfield 429, 3), (1136, .aload_n 0, 1), (1137, .bipush 72, 2), (1139, .newarray .int, 2), (1141, .putfield 432, 3), (1144, .aload_n 0, 1), (1145, .bipush 72, 2)]
theorem aJ_319_46 : sx_iB prog_14_method_1_code aI_319_46 = true := by decide +kernel
def aI_319_47 : sx_IL := [(1147, .newarray .boolean, 2), (1149, .putfield 435, 3), (1152, .aload_n 0, 1), (1153, .bipush 72, 2), (1155, .newarray .int, 2), (1157, .putfield 438, 3), (1160, .aload_n 0, 1), (1161, .bipush 12, 2), (1163, .newarray .boolean, 2), (1165, .putfield 441, 3), (1168, .aload_n 0, 1), (1169, .bipush 12, 2)]
theorem aJ_319_47 : sx_iB prog_14_method_1_code aI_319_47 = true := by decide +kernel
def aI_319_48 : sx_IL := [(1171, .newarray .boolean, 2), (1173, .putfield 444, 3), (1176, .aload_n 0, 1), (1177, .bipush 12, 2), (1179, .newarray .long, 2), (1181, .putfield 447, 3), (1184, .aload_n 0, 1), (1185, .bipush 12, 2), (1187, .newarray .boolean, 2), (1189, .putfield 450, 3), (1192, .aload_n 0, 1), (1193, .bipush 12, 2)]
theorem aJ_319_48 : sx_iB prog_14_method_1_code aI_319_48 = true := by decide +kernel
def aI_319_49 : sx_IL := [(1195, .newarray .int, 2), (1197, .putfield 453, 3), (1200, .aload_n 0, 1), (1201, .bipush 24, 2), (1203, .newarray .int, 2), (1205, .putfield 456, 3), (1208, .aload_n 0, 1), (1209, .bipush 24, 2), (1211, .newarray .int, 2), (1213, .putfield 459, 3), (1216, .aload_n 0, 1), (1217, .sipush 30000, 3)]
theorem aJ_319_49 : sx_iB prog_14_method_1_code aI_319_49 = true := by decide +kernel
def aI_319_50 : sx_IL := [(1220, .newarray .int, 2), (1222, .putfield 462, 3), (1225, .aload_n 0, 1), (1226, .bipush 12, 2), (1228, .newarray .int, 2), (1230, .putfield 465, 3), (1233, .aload_n 0, 1), (1234, .bipush 12, 2), (1236, .newarray .long, 2), (1238, .putfield 468, 3), (1241, .aload_n 0, 1), (1242, .bipush 12, 2)]
theorem aJ_319_50 : sx_iB prog_14_method_1_code aI_319_50 = true := by decide +kernel
def aI_319_51 : sx_IL := [(1244, .newarray .long, 2), (1246, .putfield 471, 3), (1249, .aload_n 0, 1), (1250, .bipush 12, 2), (1252, .newarray .int, 2), (1254, .putfield 474, 3), (1257, .aload_n 0, 1), (1258, .bipush 12, 2), (1260, .newarray .int, 2), (1262, .putfield 477, 3), (1265, .aload_n 0, 1), (1266, .sipush 320, 3)]
theorem aJ_319_51 : sx_iB prog_14_method_1_code aI_319_51 = true := by decide +kernel
def aI_319_52 : sx_IL := [(1269, .newarray .int, 2), (1271, .putfield 480, 3), (1274, .aload_n 0, 1), (1275, .sipush 2700, 3), (1278, .newarray .int, 2), (1280, .putfield 483, 3), (1283, .aload_n 0, 1), (1284, .iconst 1, 1), (1285, .newarray .int, 2), (1287, .putfield 486, 3), (1290, .aload_n 0, 1), (1291, .bipush 11, 2)]
theorem aJ_319_52 : sx_iB prog_14_method_1_code aI_319_52 = true := by decide +kernel
def aI_319_53 : sx_IL := [(1293, .newarray .int, 2), (1295, .putfield 489, 3), (1298, .aload_n 0, 1), (1299, .bipush 11, 2), (1301, .newarray .int, 2), (1303, .putfield 492, 3), (1306, .aload_n 0, 1), (1307, .bipush 9, 2), (1309, .newarray .int, 2), (1311, .putfield 495, 3), (1314, .aload_n 0, 1), (1315, .iconst 4, 1)]
theorem aJ_319_53 : sx_iB prog_14_method_1_code aI_319_53 = true := by decide +kernel
def aI_319_54 : sx_IL := [(1316, .newarray .int, 2), (1318, .putfield 498, 3), (1321, .aload_n 0, 1), (1322, .iconst 4, 1), (1323, .newarray .int, 2), (1325, .putfield 501, 3), (1328, .aload_n 0, 1), (1329, .sipush 8000, 3), (1332, .newarray .int, 2), (1334, .putfield 504, 3), (1337, .aload_n 0, 1), (1338, .iconst 0, 1)]
theorem aJ_319_54 : sx_iB prog_14_method_1_code aI_319_54 = true := by decide +kernel
def aI_319_55 : sx_IL := [(1339, .putfield 507, 3), (1342, .return_, 1)]
theorem aJ_319_55 : sx_iB prog_14_method_1_code aI_319_55 = true := by decide +kernel
def aS_319 (pc : Nat) : sx_IL := (if pc < 686 then (if pc < 347 then (if pc < 173 then (if pc < 73 then (if pc < 24 then aI_319_0 else (if pc < 49 then aI_319_1 else aI_319_2)) else (if pc < 123 then (if pc < 99 then aI_319_3 else aI_319_4) else (if pc < 148 then aI_319_5 else aI_319_6))) else (if pc < 247 then (if pc < 198 then aI_319_7 else (if pc < 223 then aI_319_8 else aI_319_9)) else (if pc < 297 then (if pc < 272 then aI_319_10 else aI_319_11) else (if pc < 322 then aI_319_12 else aI_319_13)))) else (if pc < 519 then (if pc < 421 then (if pc < 371 then aI_319_14 else (if pc < 397 then aI_319_15 else aI_319_16)) else (if pc < 473 then (if pc < 446 then aI_319_17 else aI_319_18) else (if pc < 498 then aI_319_19 else aI_319_20))) else (if pc < 587 then (if pc < 540 then aI_319_21 else (if pc < 563 then aI_319_22 else aI_319_23)) else (if pc < 639 then (if pc < 614 then aI_319_24 else aI_319_25) else (if pc < 664 then aI_319_26 else aI_319_27))))) else (if pc < 1026 then (if pc < 858 then (if pc < 762 then (if pc < 712 then aI_319_28 else (if pc < 737 then aI_319_29 else aI_319_30)) else (if pc < 810 then (if pc < 786 then aI_319_31 else aI_319_32) else (if pc < 834 then aI_319_33 else aI_319_34))) else (if pc < 930 then (if pc < 882 then aI_319_35 else (if pc < 906 then aI_319_36 else aI_319_37)) else (if pc < 978 then (if pc < 954 then aI_319_38 else aI_319_39) else (if pc < 1002 then aI_319_40 else aI_319_41)))) else (if pc < 1195 then (if pc < 1098 then (if pc < 1050 then aI_319_42 else (if pc < 1074 then aI_319_43 else aI_319_44)) else (if pc < 1147 then (if pc < 1123 then aI_319_45 else aI_319_46) else (if pc < 1171 then aI_319_47 else aI_319_48))) else (if pc < 1269 then (if pc < 1220 then aI_319_49 else (if pc < 1244 then aI_319_50 else aI_319_51)) else (if pc < 1316 then (if pc < 1293 then aI_319_52 else aI_319_53) else (if pc < 1339 then aI_319_54 else aI_319_55))))))
theorem aT_319 (pc : Nat) : sx_iOk prog_14_method_1_code (aS_319 pc) := by
  unfold aS_319
  exact (sx_ite (sx_ite (sx_ite (sx_ite (sx_ite (sx_iB_s aJ_319_0) (sx_ite (sx_iB_s aJ_319_1) (sx_iB_s aJ_319_2))) (sx_ite (sx_ite (sx_iB_s aJ_319_3) (sx_iB_s aJ_319_4)) (sx_ite (sx_iB_s aJ_319_5) (sx_iB_s aJ_319_6)))) (sx_ite (sx_ite (sx_iB_s aJ_319_7) (sx_ite (sx_iB_s aJ_319_8) (sx_iB_s aJ_319_9))) (sx_ite (sx_ite (sx_iB_s aJ_319_10) (sx_iB_s aJ_319_11)) (sx_ite (sx_iB_s aJ_319_12) (sx_iB_s aJ_319_13))))) (sx_ite (sx_ite (sx_ite (sx_iB_s aJ_319_14) (sx_ite (sx_iB_s aJ_319_15) (sx_iB_s aJ_319_16))) (sx_ite (sx_ite (sx_iB_s aJ_319_17) (sx_iB_s aJ_319_18)) (sx_ite (sx_iB_s aJ_319_19) (sx_iB_s aJ_319_20)))) (sx_ite (sx_ite (sx_iB_s aJ_319_21) (sx_ite (sx_iB_s aJ_319_22) (sx_iB_s aJ_319_23))) (sx_ite (sx_ite (sx_iB_s aJ_319_24) (sx_iB_s aJ_319_25)) (sx_ite (sx_iB_s aJ_319_26) (sx_iB_s aJ_319_27)))))) (sx_ite (sx_ite (sx_ite (sx_ite (sx_iB_s aJ_319_28) (sx_ite (sx_iB_s aJ_319_29) (sx_iB_s aJ_319_30))) (sx_ite (sx_ite (sx_iB_s aJ_319_31) (sx_iB_s aJ_319_32)) (sx_ite (sx_iB_s aJ_319_33) (sx_iB_s aJ_319_34)))) (sx_ite (sx_ite (sx_iB_s aJ_319_35) (sx_ite (sx_iB_s aJ_319_36) (sx_iB_s aJ_319_37))) (sx_ite (sx_ite (sx_iB_s aJ_319_38) (sx_iB_s aJ_319_39)) (sx_ite (sx_iB_s aJ_319_40) (sx_iB_s aJ_319_41))))) (sx_ite (sx_ite (sx_ite (sx_iB_s aJ_319_42) (sx_ite (sx_iB_s aJ_319_43) (sx_iB_s aJ_319_44))) (sx_ite (sx_ite (sx_iB_s aJ_319_45) (sx_iB_s aJ_319_46)) (sx_ite (sx_iB_s aJ_319_47) (sx_iB_s aJ_319_48)))) (sx_ite (sx_ite (sx_iB_s aJ_319_49) (sx_ite (sx_iB_s aJ_319_50) (sx_iB_s aJ_319_51))) (sx_ite (sx_ite (sx_iB_s aJ_319_52) (sx_iB_s aJ_319_53)) (sx_ite (sx_iB_s aJ_319_54) (sx_iB_s aJ_319_55)))))))
def aI_561_0 : sx_IL := [(0, .new 7, 3), (3, .dup, 1), (4, .invokespecial 9, 3), (7, .astore_n 1, 1), (8, .new 10, 3), (11, .dup, 1), (12, .invokespecial 12, 3), (15, .astore_n 2, 1), (16, .iconst 0, 1), (17, .istore_n 3, 1), (18, .iload_n 3, 1), (19, .aload_n 0, 1)]
theorem aJ_561_0 : sx_iB code aI_561_0 = true := by decide +kernel
def aI_561_1 : sx_IL := [(20, .arraylength, 1), (21, .bipush 7, 2), (23, .isub, 1), (24, .if_icmp .gt 3157, 3), (27, .aload_n 0, 1), (28, .iload_n 3, 1), (29, .iaload, 1), (30, .bipush 127, 2), (32, .iand, 1), (33, .tableswitch 3142 0 66 #[283, 346, 369, 392, 405, 428, 452, 516, 632, 747, 862, 895, 939, 962, 996, 1069, 1082, 1115, 1128, 1141, 1154, 1187, 1230, 1253, 1296, 1349, 1372, 1415, 1438, 1481, 1524, 1547, 1580, 1613, 1636, 1709, 1742, 1785, 1808, 1841, 1874, 1917, 1960, 2013, 2046, 2079, 2112, 2155, 2198, 2242, 2276, 2319, 2382, 2415, 2458, 2511, 2554, 2607, 2640, 2673, 2716, 2729, 2792, 2826, 2869, 2912, 3027], 283)]
theorem aJ_561_1 : sx_iB code aI_561_1 = true := by decide +kernel
def aS_561 (pc : Nat) : sx_IL := (if pc < 20 then aI_561_0 else aI_561_1)
theorem aT_561 (pc : Nat) : sx_iOk code (aS_561 pc) := by
  unfold aS_561
  exact (sx_ite (sx_iB_s aJ_561_0) (sx_iB_s aJ_561_1))
def sx_P1 (f : Nat → Option (Instr × Nat)) (y : Nat) : Prop := ∀ pc r, f pc = some r → ∀ mt, am_meth (aP (fun i => i)) y = some mt → decode mt.2.1 pc = .ok r
def aU_0 (y pc : Nat) : Option (Instr × Nat) := if y = 0 then sx_iF (aS_0 pc) pc else none
set_option maxRecDepth 100000 in
theorem aV0_0 (y : Nat) : sx_P1 (aU_0 y) y := by
  intro pc r h mt hm
  unfold aU_0 at h
  split at h
  · rename_i hy
    subst hy
    have e : aM_0.1 = mt := Option.some.inj (show some aM_0.1 = some mt from hm)
    subst e
    exact sx_iF_s (aT_0 pc) h
  · cases h
def aU_1 (y pc : Nat) : Option (Instr × Nat) := if y = 1 then sx_iF (aS_1 pc) pc else none
set_option maxRecDepth 100000 in
theorem aV0_1 (y : Nat) : sx_P1 (aU_1 y) y := by
  intro pc r h mt hm
  unfold aU_1 at h
  split at h
  · rename_i hy
    subst hy
    have e : aM_1.1 = mt := Option.some.inj (show some aM_1.1 = some mt from hm)
    subst e
    exact sx_iF_s (aT_1 pc) h
  · cases h
def aU_2 (y pc : Nat) : Option (Instr × Nat) := if y = 2 then sx_iF (aS_2 pc) pc else none
set_option maxRecDepth 100000 in
theorem aV0_2 (y : Nat) : sx_P1 (aU_2 y) y := by
  intro pc r h mt hm
  unfold aU_2 at h
  split at h
  · rename_i hy
    subst hy
    have e : aM_2.1 = mt := Option.some.inj (show some aM_2.1 = some mt from hm)
    subst e
    exact sx_iF_s (aT_2 pc) h
  · cases h
def aU_3 (y pc : Nat) : Option (Instr × Nat) := if y = 3 then sx_iF (aS_3 pc) pc else none
set_option maxRecDepth 100000 in
theorem aV0_3 (y : Nat) : sx_P1 (aU_3 y) y := by
  intro pc r h mt hm
  unfold aU_3 at h
  split at h
  · rename_i hy
    subst hy
    have e : aM_3.1 = mt := Option.some.inj (show some aM_3.1 = some mt from hm)
    subst e
    exact sx_iF_s (aT_3 pc) h
  · cases h
def aU_4 (y pc : Nat) : Option (Instr × Nat) := if y = 4 then sx_iF (aS_4 pc) pc else none
set_option maxRecDepth 100000 in
theorem aV0_4 (y : Nat) : sx_P1 (aU_4 y) y := by
  intro pc r h mt hm
  unfold aU_4 at h
  split at h
  · rename_i hy
    subst hy
    have e : aM_4.1 = mt := Option.some.inj (show some aM_4.1 = some mt from hm)
    subst e
    exact sx_iF_s (aT_4 pc) h
  · cases h
def aU_5 (y pc : Nat) : Option (Instr × Nat) := if y = 5 then sx_iF (aS_5 pc) pc else none
set_option maxRecDepth 100000 in
theorem aV0_5 (y : Nat) : sx_P1 (aU_5 y) y := by
  intro pc r h mt hm
  unfold aU_5 at h
  split at h
  · rename_i hy
    subst hy
    have e : aM_5.1 = mt := Option.some.inj (show some aM_5.1 = some mt from hm)
    subst e
    exact sx_iF_s (aT_5 pc) h
  · cases h
def aU_319 (y pc : Nat) : Option (Instr × Nat) := if y = 319 then sx_iF (aS_319 pc) pc else none
set_option maxRecDepth 100000 in
theorem aV0_319 (y : Nat) : sx_P1 (aU_319 y) y := by
  intro pc r h mt hm
  unfold aU_319 at h
  split at h
  · rename_i hy
    subst hy
    have e : aM_319.1 = mt := Option.some.inj (show some aM_319.1 = some mt from hm)
    subst e
    exact sx_iF_s (aT_319 pc) h
  · cases h
def aU_561 (y pc : Nat) : Option (Instr × Nat) := if y = 561 then sx_iF (aS_561 pc) pc else none
set_option maxRecDepth 100000 in
theorem aV0_561 (y : Nat) : sx_P1 (aU_561 y) y := by
  intro pc r h mt hm
  unfold aU_561 at h
  split at h
  · rename_i hy
    subst hy
    have e : aM_561.1 = mt := Option.some.inj (show some aM_561.1 = some mt from hm)
    subst e
    exact sx_iF_s (aT_561 pc) h
  · cases h
def aIns : sx_Ins := fun y => (if y < 4 then (if y < 2 then (if y < 1 then aU_0 y else aU_1 y) else (if y < 3 then aU_2 y else aU_3 y)) else (if y < 319 then (if y < 5 then aU_4 y else aU_5 y) else (if y < 561 then aU_319 y else aU_561 y)))
theorem aIns_s : sx_insOk (aP (fun i => i)) aIns := by
  intro y
  show sx_P1 (aIns y) y
  unfold aIns
  exact (sx_ite (p := fun f => sx_P1 f y) (sx_ite (p := fun f => sx_P1 f y) (sx_ite (p := fun f => sx_P1 f y) (aV0_0 y) (aV0_1 y)) (sx_ite (p := fun f => sx_P1 f y) (aV0_2 y) (aV0_3 y))) (sx_ite (p := fun f => sx_P1 f y) (sx_ite (p := fun f => sx_P1 f y) (aV0_4 y) (aV0_5 y)) (sx_ite (p := fun f => sx_P1 f y) (aV0_319 y) (aV0_561 y))))
end
section
/-! SX: the constructors -/
def sc_0_m : sx_M := []
def sc_0 : sx_G := ([], 561, 0, [(0, .arg 0)], [], [], sc_0_m, 0, 0)
def sc_1_m : sx_M := [.inl (8, 4, []), .inl (0, 400, []), .inl (0, 32, []), .inl (0, 12, []), .inr (6, [.index 24, .index 22, .index 23, .long 0, .int 0, .int (-1), .null]), .inl (8, 12, []), .inl (8, 12, []), .inl (8, 30, []), .inl (0, 11, []), .inl (0, 11, []), .inl (0, 0, []), .inr (2, [.index 15, .index 16, .index 17, .int 0, .int 0]), .inl (0, 11, []), .inl (0, 11, []), .inl (0, 0, []), .inr (2, [.index 11, .index 12, .index 13, .int 0, .int 0]), .inl (0, 10, []), .inl (0, 8, []), .inr (7, [.index 8, .int 0]), .inl (0, 256, []), .inr (7, [.index 6, .int 0]), .inl (0, 512, []), .inr (7, [.index 4, .int 0]), .inr (4, [.int 0, .int 0, .int 0, .int 0, .long 0, .int 0]), .inr (3, [.int 0, .index 2, .index 3, .index 5, .index 7, .index 9, .index 10, .index 14, .index 18, .int 0, .index 19, .int 0, .index 20, .int 0, .index 21, .index 25, .null, .int 0, .null, .int 0]), .inr (10, [.null, .null, .null, .null, .int 0, .null, .int 0, .null, .int 0, .null, .int 0, .null, .null, .int 0, .null, .null, .int 0, .null])]
def sc_1 : sx_G := ([], 1, 135, [(0, .index 1)], [], [(0, 12, [(0, .index 0)], [.index 1, .index 0]), (561, 7, [(0, .arg 0)], [.index 0])], sc_1_m, 26, 1399)
set_option maxRecDepth 100000 in
theorem sg_1 : sx_to (aP (fun i => i)) aIns (fun _ => none) 150 sc_0 sc_1 = true := by decide +kernel
def sc_2_m : sx_M := [.inr (6, [.null, .null, .null, .long 0, .int 0, .int 0, .null]), .inl (0, 400, []), .inl (0, 32, []), .inl (0, 12, []), .inr (6, [.index 42, .index 40, .index 41, .long 0, .int 0, .int (-1), .null]), .inl (0, 400, []), .inl (0, 32, []), .inl (0, 12, []), .inr (6, [.index 38, .index 36, .index 37, .long 0, .int 0, .int (-1), .null]), .inl (0, 400, []), .inl (0, 32, []), .inl (0, 12, []), .inr (6, [.index 34, .index 32, .index 33, .long 0, .int 0, .int (-1), .null]), .inl (8, 6, []), .inl (0, 400, []), .inl (0, 32, []), .inl (0, 12, []), .inr (6, [.index 29, .index 27, .index 28, .long 0, .int 0, .int (-1), .null]), .inl (8, 4, [(2, .index 39), (1, .index 35), (0, .index 31)]), .inl (0, 400, []), .inl (0, 32, []), .inl (0, 12, []), .inr (6, [.index 24, .index 22, .index 23, .long 0, .int 0, .int (-1), .null]), .inl (8, 12, []), .inl (8, 12, []), .inl (8, 30, []), .inl (0, 11, []), .inl (0, 11, []), .inl (0, 0, []), .inr (2, [.index 15, .index 16, .index 17, .int 0, .int 0]), .inl (0, 11, []), .inl (0, 11, []), .inl (0, 0, []), .inr (2, [.index 11, .index 12, .index 13, .int 0, .int 0]), .inl (0, 10, []), .inl (0, 8, []), .inr (7, [.index 8, .int 0]), .inl (0, 256, []), .inr (7, [.index 6, .int 0]), .inl (0, 512, []), .inr (7, [.index 4, .int 0]), .inr (4, [.int 0, .int 0, .int 0, .int 0, .long 0, .int 0]), .inr (3, [.int 0, .index 2, .index 3, .index 5, .index 7, .index 9, .index 10, .index 14, .index 18, .int 0, .index 19, .int 0, .index 20, .int 0, .index 21, .index 25, .index 26, .int 0, .index 30, .int 0]), .inr (10, [.null, .null, .null, .null, .int 0, .null, .int 0, .null, .int 0, .null, .int 0, .null, .null, .int 0, .null, .null, .int 0, .null])]
def sc_2 : sx_G := ([], 5, 1, [(0, .index 43), (1, .int 400)], [.index 43], [(1, 184, [(1, .int 3), (0, .index 1)], [.index 43, .int 3, .index 25]), (0, 12, [(0, .index 0)], [.index 1, .index 0]), (561, 7, [(0, .arg 0)], [.index 0])], sc_2_m, 44, 3216)
set_option maxRecDepth 100000 in
theorem sg_2 : sx_to (aP (fun i => i)) aIns (fun _ => none) 150 sc_1 sc_2 = true := by decide +kernel
def sc_3_m : sx_M := [.inl (0, 288, []), .inl (0, 36, []), .inl (0, 14400, []), .inl (0, 12, []), .inl (2, 16, []), .inl (1, 16, []), .inl (0, 64, []), .inl (1, 64, []), .inl (1, 256, []), .inl (0, 4, []), .inl (0, 820, []), .inl (0, 800, []), .inr (11, [.index 65, .int 0, .index 66, .int 0, .int 0, .int 0, .int 0, .int 0, .int 0, .int 0, .long 0, .int 0, .int 0, .index 67, .index 68, .index 69, .index 70, .index 71, .int 0, .index 72, .index 73, .int 0, .int 0, .null, .int 0, .int 0, .int 0, .int 0, .index 74, .index 75, .null, .null, .null, .null, .null, .null, .null, .int 0, .null, .null, .null, .int 0, .null, .null, .null, .null, .int 0, .int 0, .null, .int 0, .null, .int 0, .int 0, .null, .null, .null, .null, .null, .null, .null, .null, .null, .null, .null, .null, .null, .null, .null, .null, .null, .null, .null, .null, .null, .null, .null, .null, .null, .null, .null, .null, .null, .null, .null, .null, .int 0, .null, .null, .null, .null, .null, .null, .null, .null, .null, .null, .null, .null, .null, .null, .null, .null, .null, .null, .null, .int 0, .null, .null, .null, .null, .null, .int 0, .null, .null, .null, .null, .null, .null, .null, .null, .null, .null, .null, .null, .null, .null, .null, .null, .null, .null, .null, .null, .null, .null, .null, .null, .null, .null, .null, .null, .null, .null, .null, .null, .null, .null, .null, .null, .null, .null, .null, .null, .null, .null, .null, .null, .null, .null, .null, .null, .null, .null, .null, .null, .null, .null, .null, .null, .null, .null, .null, .null, .null, .null, .null, .null, .null, .null, .null, .null, .null, .null, .null, .null, .null, .null, .null, .null, .null, .int 0, .long 0, .null, .null, .null, .int 0, .int 0, .int 0, .int 0, .int 0, .int 0, .int 0, .int 0, .int 0, .int 0, .int 0, .null]), .inl (1, 16, []), .inl (0, 4, []), .inl (1, 64, []), .inl (1, 64, []), .inl (1, 64, []), .inl (1, 64, []), .inl (3, 4, [(0, .index 58), (1, .index 59), (2, .index 60), (3, .index 61)]), .inl (1, 16, []), .inl (9, 16, []), .inl (7, 4, []), .inl (11, 24, []), .inl (5, 8, []), .inl (0, 6, []), .inl (0, 64, []), .inr (7, [.index 50, .int 0]), .inl (0, 64, []), .inr (7, [.index 48, .int 0]), .inl (0, 400, []), .inl (0, 32, []), .inl (0, 12, []), .inr (6, [.index 46, .index 44, .index 45, .long 0, .int 0, .int (-1), .null]), .inl (0, 400, []), .inl (0, 32, []), .inl (0, 12, []), .inr (6, [.index 42, .index 40, .index 41, .long 0, .int 0, .int (-1), .null]), .inl (0, 400, []), .inl (0, 32, []), .inl (0, 12, []), .inr (6, [.index 38, .index 36, .index 37, .long 0, .int 0, .int (-1), .null]), .inl (0, 400, []), .inl (0, 32, []), .inl (0, 12, []), .inr (6, [.index 34, .index 32, .index 33, .long 0, .int 0, .int (-1), .null]), .inl (8, 6, []), .inl (0, 400, []), .inl (0, 32, []), .inl (0, 12, []), .inr (6, [.index 29, .index 27, .index 28, .long 0, .int 0, .int (-1), .null]), .inl (8, 4, [(3, .index 43), (2, .index 39), (1, .index 35), (0, .index 31)]), .inl (0, 400, []), .inl (0, 32, []), .inl (0, 12, []), .inr (6, [.index 24, .index 22, .index 23, .long 0, .int 0, .int (-1), .null]), .inl (8, 12, []), .inl (8, 12, []), .inl (8, 30, []), .inl (0, 11, []), .inl (0, 11, []), .inl (0, 0, []), .inr (2, [.index 15, .index 16, .index 17, .int 0, .int 0]), .inl (0, 11, []), .inl (0, 11, []), .inl (0, 0, []), .inr (2, [.index 11, .index 12, .index 13, .int 0, .int 0]), .inl (0, 10, []), .inl (0, 8, []), .inr (7, [.index 8, .int 0]), .inl (0, 256, []), .inr (7, [.index 6, .int 0]), .inl (0, 512, []), .inr (7, [.index 4, .int 0]), .inr (4, [.int 0, .int 0, .int 0, .int 0, .long 0, .int 0]), .inr (3, [.int 0, .index 2, .index 3, .index 5, .index 7, .index 9, .index 10, .index 14, .index 18, .int 0, .index 19, .int 0, .index 20, .int 0, .index 21, .index 25, .index 26, .int 0, .index 30, .int 0]), .inr (10, [.index 1, .index 47, .index 49, .index 51, .int 0, .index 52, .int 0, .index 53, .int 0, .index 54, .int 0, .index 55, .index 56, .int 0, .index 57, .index 62, .int 0, .index 63])]
def sc_3 : sx_G := ([], 319, 101, [(0, .index 64)], [.index 76, .index 64], [(561, 15, [(1, .index 0), (0, .arg 0)], [.index 64])], sc_3_m, 77, 21128)
set_option maxRecDepth 100000 in
theorem sg_3 : sx_to (aP (fun i => i)) aIns (fun _ => none) 150 sc_2 sc_3 = true := by decide +kernel
def sc_4_m : sx_M := [.inl (0, 8, []), .inl (0, 3200, []), .inl (0, 240, []), .inl (2, 48, []), .inl (0, 48, []), .inl (1, 48, []), .inl (0, 48, []), .inl (0, 768, []), .inl (0, 8, []), .inl (0, 8, []), .inl (0, 320, []), .inl (0, 8, []), .inl (0, 8, []), .inl (0, 32, []), .inl (0, 8, []), .inl (0, 240, []), .inl (0, 8, []), .inl (0, 1600, []), .inl (0, 64, []), .inl (0, 24, []), .inl (0, 96, []), .inl (0, 8, []), .inl (0, 6, []), .inl (0, 8, []), .inl (0, 2000, []), .inl (0, 112, []), .inl (0, 14, []), .inl (0, 5600, []), .inl (0, 112, []), .inl (0, 14, []), .inl (0, 5600, []), .inl (0, 864, []), .inl (0, 108, []), .inl (0, 36, []), .inl (0, 72, []), .inl (0, 72, []), .inl (0, 72, []), .inl (0, 288, []), .inl (0, 36, []), .inl (0, 14400, []), .inl (0, 12, []), .inl (2, 16, []), .inl (1, 16, []), .inl (0, 64, []), .inl (1, 64, []), .inl (1, 256, []), .inl (0, 4, []), .inl (0, 820, []), .inl (0, 800, []), .inr (11, [.index 65, .int 0, .index 66, .int 0, .int 0, .int 0, .int 0, .int 0, .int 0, .int 0, .long 0, .int 0, .int 0, .index 67, .index 68, .index 69, .index 70, .index 71, .int 0, .index 72, .index 73, .int 0, .int 0, .null, .int 0, .int 0, .int 0, .int 0, .index 74, .index 75, .index 76, .index 77, .index 78, .index 79, .index 80, .index 81, .index 82, .int 0, .index 83, .index 84, .index 85, .int 0, .index 86, .index 87, .index 88, .index 89, .int 0, .int 0, .index 90, .int 0, .index 91, .int 0, .int 0, .index 92, .index 93, .index 94, .index 95, .index 96, .index 97, .index 98, .index 99, .index 100, .index 101, .index 102, .index 103, .index 104, .index 105, .index 106, .index 107, .index 108, .index 109, .index 110, .index 111, .index 112, .index 113, .null, .null, .null, .null, .null, .null, .null, .null, .null, .null, .int 0, .null, .null, .null, .null, .null, .null, .null, .null, .null, .null, .null, .null, .null, .null, .null, .null, .null, .null, .null, .int 0, .null, .null, .null, .null, .null, .int 0, .null, .null, .null, .null, .null, .null, .null, .null, .null, .null, .null, .null, .null, .null, .null, .null, .null, .null, .null, .null, .null, .null, .null, .null, .null, .null, .null, .null, .null, .null, .null, .null, .null, .null, .null, .null, .null, .null, .null, .null, .null, .null, .null, .null, .null, .null, .null, .null, .null, .null, .null, .null, .null, .null, .null, .null, .null, .null, .null, .null, .null, .null, .null, .null, .null, .null, .null, .null, .null, .null, .null, .null, .null, .null, .null, .null, .null, .int 0, .long 0, .null, .null, .null, .int 0, .int 0, .int 0, .int 0, .int 0, .int 0, .int 0, .int 0, .int 0, .int 0, .int 0, .null]), .inl (1, 16, []), .inl (0, 4, []), .inl (1, 64, []), .inl (1, 64, []), .inl (1, 64, []), .inl (1, 64, []), .inl (3, 4, [(0, .index 58), (1, .index 59), (2, .index 60), (3, .index 61)]), .inl (1, 16, []), .inl (9, 16, []), .inl (7, 4, []), .inl (11, 24, []), .inl (5, 8, []), .inl (0, 6, []), .inl (0, 64, []), .inr (7, [.index 50, .int 0]), .inl (0, 64, []), .inr (7, [.index 48, .int 0]), .inl (0, 400, []), .inl (0, 32, []), .inl (0, 12, []), .inr (6, [.index 46, .index 44, .index 45, .long 0, .int 0, .int (-1), .null]), .inl (0, 400, []), .inl (0, 32, []), .inl (0, 12, []), .inr (6, [.index 42, .index 40, .index 41, .long 0, .int 0, .int (-1), .null]), .inl (0, 400, []), .inl (0, 32, []), .inl (0, 12, []), .inr (6, [.index 38, .index 36, .index 37, .long 0, .int 0, .int (-1), .null]), .inl (0, 400, []), .inl (0, 32, []), .inl (0, 12, []), .inr (6, [.index 34, .index 32, .index 33, .long 0, .int 0, .int (-1), .null]), .inl (8, 6, []), .inl (0, 400, []), .inl (0, 32, []), .inl (0, 12, []), .inr (6, [.index 29, .index 27, .index 28, .long 0, .int 0, .int (-1), .null]), .inl (8, 4, [(3, .index 43), (2, .index 39), (1, .index 35), (0, .index 31)]), .inl (0, 400, []), .inl (0, 32, []), .inl (0, 12, []), .inr (6, [.index 24, .index 22, .index 23, .long 0, .int 0, .int (-1), .null]), .inl (8, 12, []), .inl (8, 12, []), .inl (8, 30, []), .inl (0, 11, []), .inl (0, 11, []), .inl (0, 0, []), .inr (2, [.index 15, .index 16, .index 17, .int 0, .int 0]), .inl (0, 11, []), .inl (0, 11, []), .inl (0, 0, []), .inr (2, [.index 11, .index 12, .index 13, .int 0, .int 0]), .inl (0, 10, []), .inl (0, 8, []), .inr (7, [.index 8, .int 0]), .inl (0, 256, []), .inr (7, [.index 6, .int 0]), .inl (0, 512, []), .inr (7, [.index 4, .int 0]), .inr (4, [.int 0, .int 0, .int 0, .int 0, .long 0, .int 0]), .inr (3, [.int 0, .index 2, .index 3, .index 5, .index 7, .index 9, .index 10, .index 14, .index 18, .int 0, .index 19, .int 0, .index 20, .int 0, .index 21, .index 25, .index 26, .int 0, .index 30, .int 0]), .inr (10, [.index 1, .index 47, .index 49, .index 51, .int 0, .index 52, .int 0, .index 53, .int 0, .index 54, .int 0, .index 55, .index 56, .int 0, .index 57, .index 62, .int 0, .index 63])]
def sc_4 : sx_G := ([], 319, 411, [(0, .index 64)], [.index 64], [(561, 15, [(1, .index 0), (0, .arg 0)], [.index 64])], sc_4_m, 114, 42658)
set_option maxRecDepth 100000 in
theorem sg_4 : sx_to (aP (fun i => i)) aIns (fun _ => none) 150 sc_3 sc_4 = true := by decide +kernel
def sc_5_m : sx_M := [.inl (0, 7680, []), .inl (0, 24, []), .inl (0, 384000, []), .inl (0, 24, []), .inl (0, 4, []), .inl (0, 4, []), .inl (1, 16, []), .inl (0, 16, []), .inl (0, 640, []), .inl (0, 160, []), .inl (0, 4, []), .inl (0, 144, []), .inl (0, 144, []), .inl (0, 144, []), .inl (0, 6048, []), .inl (0, 48, []), .inl (0, 48, []), .inl (0, 48, []), .inl (0, 48, []), .inl (0, 4, []), .inl (1, 32, []), .inl (0, 4, []), .inl (0, 4, []), .inl (0, 4, []), .inl (0, 4, []), .inl (0, 4, []), .inl (0, 4, []), .inl (0, 4, []), .inl (2, 160, []), .inl (0, 160, []), .inl (0, 160, []), .inl (0, 160, []), .inl (1, 160, []), .inl (1, 160, []), .inl (0, 8, []), .inl (0, 8, []), .inl (2, 8, []), .inl (1, 8, []), .inl (0, 8, []), .inl (0, 3200, []), .inl (0, 240, []), .inl (2, 48, []), .inl (0, 48, []), .inl (1, 48, []), .inl (0, 48, []), .inl (0, 768, []), .inl (0, 8, []), .inl (0, 8, []), .inl (0, 320, []), .inl (0, 8, []), .inl (0, 8, []), .inl (0, 32, []), .inl (0, 8, []), .inl (0, 240, []), .inl (0, 8, []), .inl (0, 1600, []), .inl (0, 64, []), .inl (0, 24, []), .inl (0, 96, []), .inl (0, 8, []), .inl (0, 6, []), .inl (0, 8, []), .inl (0, 2000, []), .inl (0, 112, []), .inl (0, 14, []), .inl (0, 5600, []), .inl (0, 112, []), .inl (0, 14, []), .inl (0, 5600, []), .inl (0, 864, []), .inl (0, 108, []), .inl (0, 36, []), .inl (0, 72, []), .inl (0, 72, []), .inl (0, 72, []), .inl (0, 288, []), .inl (0, 36, []), .inl (0, 14400, []), .inl (0, 12, []), .inl (2, 16, []), .inl (1, 16, []), .inl (0, 64, []), .inl (1, 64, []), .inl (1, 256, []), .inl (0, 4, []), .inl (0, 820, []), .inl (0, 800, []), .inr (11, [.index 65, .int 0, .index 66, .int 0, .int 0, .int 0, .int 0, .int 0, .int 0, .int 0, .long 0, .int 0, .int 0, .index 67, .index 68, .index 69, .index 70, .index 71, .int 0, .index 72, .index 73, .int 0, .int 0, .null, .int 0, .int 0, .int 0, .int 0, .index 74, .index 75, .index 76, .index 77, .index 78, .index 79, .index 80, .index 81, .index 82, .int 0, .index 83, .index 84, .index 85, .int 0, .index 86, .index 87, .index 88, .index 89, .int 0, .int 0, .index 90, .int 0, .index 91, .int 0, .int 0, .index 92, .index 93, .index 94, .index 95, .index 96, .index 97, .index 98, .index 99, .index 100, .index 101, .index 102, .index 103, .index 104, .index 105, .index 106, .index 107, .index 108, .index 109, .index 110, .index 111, .index 112, .index 113, .index 114, .index 115, .index 116, .index 117, .index 118, .index 119, .index 120, .index 121, .index 122, .index 123, .int 0, .index 124, .index 125, .index 126, .index 127, .index 128, .index 129, .index 130, .index 131, .index 132, .index 133, .index 134, .index 135, .index 136, .index 137, .index 138, .index 139, .index 140, .index 141, .index 142, .int 0, .index 143, .index 144, .index 145, .index 146, .index 147, .int 0, .index 148, .index 149, .index 150, .null, .null, .null, .null, .null, .null, .null, .null, .null, .null, .null, .null, .null, .null, .null, .null, .null, .null, .null, .null, .null, .null, .null, .null, .null, .null, .null, .null, .null, .null, .null, .null, .null, .null, .null, .null, .null, .null, .null, .null, .null, .null, .null, .null, .null, .null, .null, .null, .null, .null, .null, .null, .null, .null, .null, .null, .null, .null, .null, .null, .null, .null, .null, .null, .null, .null, .null, .null, .null, .null, .null, .null, .null, .null, .int 0, .long 0, .null, .null, .null, .int 0, .int 0, .int 0, .int 0, .int 0, .int 0, .int 0, .int 0, .int 0, .int 0, .int 0, .null]), .inl (1, 16, []), .inl (0, 4, []), .inl (1, 64, []), .inl (1, 64, []), .inl (1, 64, []), .inl (1, 64, []), .inl (3, 4, [(0, .index 58), (1, .index 59), (2, .index 60), (3, .index 61)]), .inl (1, 16, []), .inl (9, 16, []), .inl (7, 4, []), .inl (11, 24, []), .inl (5, 8, []), .inl (0, 6, []), .inl (0, 64, []), .inr (7, [.index 50, .int 0]), .inl (0, 64, []), .inr (7, [.index 48, .int 0]), .inl (0, 400, []), .inl (0, 32, []), .inl (0, 12, []), .inr (6, [.index 46, .index 44, .index 45, .long 0, .int 0, .int (-1), .null]), .inl (0, 400, []), .inl (0, 32, []), .inl (0, 12, []), .inr (6, [.index 42, .index 40, .index 41, .long 0, .int 0, .int (-1), .null]), .inl (0, 400, []), .inl (0, 32, []), .inl (0, 12, []), .inr (6, [.index 38, .index 36, .index 37, .long 0, .int 0, .int (-1), .null]), .inl (0, 400, []), .inl (0, 32, []), .inl (0, 12, []), .inr (6, [.index 34, .index 32, .index 33, .long 0, .int 0, .int (-1), .null]), .inl (8, 6, []), .inl (0, 400, []), .inl (0, 32, []), .inl (0, 12, []), .inr (6, [.index 29, .index 27, .index 28, .long 0, .int 0, .int (-1), .null]), .inl (8, 4, [(3, .index 43), (2, .index 39), (1, .index 35), (0, .index 31)]), .inl (0, 400, []), .inl (0, 32, []), .inl (0, 12, []), .inr (6, [.index 24, .index 22, .index 23, .long 0, .int 0, .int (-1), .null]), .inl (8, 12, []), .inl (8, 12, []), .inl (8, 30, []), .inl (0, 11, []), .inl (0, 11, []), .inl (0, 0, []), .inr (2, [.index 15, .index 16, .index 17, .int 0, .int 0]), .inl (0, 11, []), .inl (0, 11, []), .inl (0, 0, []), .inr (2, [.index 11, .index 12, .index 13, .int 0, .int 0]), .inl (0, 10, []), .inl (0, 8, []), .inr (7, [.index 8, .int 0]), .inl (0, 256, []), .inr (7, [.index 6, .int 0]), .inl (0, 512, []), .inr (7, [.index 4, .int 0]), .inr (4, [.int 0, .int 0, .int 0, .int 0, .long 0, .int 0]), .inr (3, [.int 0, .index 2, .index 3, .index 5, .index 7, .index 9, .index 10, .index 14, .index 18, .int 0, .index 19, .int 0, .index 20, .int 0, .index 21, .index 25, .index 26, .int 0, .index 30, .int 0]), .inr (10, [.index 1, .index 47, .index 49, .index 51, .int 0, .index 52, .int 0, .index 53, .int 0, .index 54, .int 0, .index 55, .index 56, .int 0, .index 57, .index 62, .int 0, .index 63])]
def sc_5 : sx_G := ([], 319, 714, [(0, .index 64)], [.index 151, .index 64], [(561, 15, [(1, .index 0), (0, .arg 0)], [.index 64])], sc_5_m, 152, 442958)
set_option maxRecDepth 100000 in
theorem sg_5 : sx_to (aP (fun i => i)) aIns (fun _ => none) 150 sc_4 sc_5 = true := by decide +kernel
def sc_6_m : sx_M := [.inl (0, 24, []), .inl (0, 24, []), .inl (1, 24, []), .inl (1, 24, []), .inl (1, 24, []), .inl (1, 24, []), .inl (1, 24, []), .inl (1, 24, []), .inl (1, 24, []), .inl (1, 24, []), .inl (2, 24, []), .inl (0, 24, []), .inl (0, 24, []), .inl (0, 24, []), .inl (2, 24, []), .inl (0, 24, []), .inl (0, 24, []), .inl (0, 24, []), .inl (0, 24, []), .inl (0, 24, []), .inl (0, 24, []), .inl (0, 24, []), .inl (1, 24, []), .inl (1, 24, []), .inl (2, 24, []), .inl (2, 24, []), .inl (0, 24, []), .inl (0, 24, []), .inl (2, 24, []), .inl (2, 24, []), .inl (2, 24, []), .inl (0, 24, []), .inl (0, 24, []), .inl (0, 48000, []), .inl (0, 24, []), .inl (0, 72000, []), .inl (0, 24, []), .inl (0, 7680, []), .inl (0, 24, []), .inl (0, 384000, []), .inl (0, 24, []), .inl (0, 4, []), .inl (0, 4, []), .inl (1, 16, []), .inl (0, 16, []), .inl (0, 640, []), .inl (0, 160, []), .inl (0, 4, []), .inl (0, 144, []), .inl (0, 144, []), .inl (0, 144, []), .inl (0, 6048, []), .inl (0, 48, []), .inl (0, 48, []), .inl (0, 48, []), .inl (0, 48, []), .inl (0, 4, []), .inl (1, 32, []), .inl (0, 4, []), .inl (0, 4, []), .inl (0, 4, []), .inl (0, 4, []), .inl (0, 4, []), .inl (0, 4, []), .inl (0, 4, []), .inl (2, 160, []), .inl (0, 160, []), .inl (0, 160, []), .inl (0, 160, []), .inl (1, 160, []), .inl (1, 160, []), .inl (0, 8, []), .inl (0, 8, []), .inl (2, 8, []), .inl (1, 8, []), .inl (0, 8, []), .inl (0, 3200, []), .inl (0, 240, []), .inl (2, 48, []), .inl (0, 48, []), .inl (1, 48, []), .inl (0, 48, []), .inl (0, 768, []), .inl (0, 8, []), .inl (0, 8, []), .inl (0, 320, []), .inl (0, 8, []), .inl (0, 8, []), .inl (0, 32, []), .inl (0, 8, []), .inl (0, 240, []), .inl (0, 8, []), .inl (0, 1600, []), .inl (0, 64, []), .inl (0, 24, []), .inl (0, 96, []), .inl (0, 8, []), .inl (0, 6, []), .inl (0, 8, []), .inl (0, 2000, []), .inl (0, 112, []), .inl (0, 14, []), .inl (0, 5600, []), .inl (0, 112, []), .inl (0, 14, []), .inl (0, 5600, []), .inl (0, 864, []), .inl (0, 108, []), .inl (0, 36, []), .inl (0, 72, []), .inl (0, 72, []), .inl (0, 72, []), .inl (0, 288, []), .inl (0, 36, []), .inl (0, 14400, []), .inl (0, 12, []), .inl (2, 16, []), .inl (1, 16, []), .inl (0, 64, []), .inl (1, 64, []), .inl (1, 256, []), .inl (0, 4, []), .inl (0, 820, []), .inl (0, 800, []), .inr (11, [.index 65, .int 0, .index 66, .int 0, .int 0, .int 0, .int 0, .int 0, .int 0, .int 0, .long 0, .int 0, .int 0, .index 67, .index 68, .index 69, .index 70, .index 71, .int 0, .index 72, .index 73, .int 0, .int 0, .null, .int 0, .int 0, .int 0, .int 0, .index 74, .index 75, .index 76, .index 77, .index 78, .index 79, .index 80, .index 81, .index 82, .int 0, .index 83, .index 84, .index 85, .int 0, .index 86, .index 87, .index 88, .index 89, .int 0, .int 0, .index 90, .int 0, .index 91, .int 0, .int 0, .index 92, .index 93, .index 94, .index 95, .index 96, .index 97, .index 98, .index 99, .index 100, .index 101, .index 102, .index 103, .index 104, .index 105, .index 106, .index 107, .index 108, .index 109, .index 110, .index 111, .index 112, .index 113, .index 114, .index 115, .index 116, .index 117, .index 118, .index 119, .index 120, .index 121, .index 122, .index 123, .int 0, .index 124, .index 125, .index 126, .index 127, .index 128, .index 129, .index 130, .index 131, .index 132, .index 133, .index 134, .index 135, .index 136, .index 137, .index 138, .index 139, .index 140, .index 141, .index 142, .int 0, .index 143, .index 144, .index 145, .index 146, .index 147, .int 0, .index 148, .index 149, .index 150, .index 151, .index 152, .index 153, .index 154, .index 155, .index 156, .index 157, .index 158, .index 159, .index 160, .index 161, .index 162, .index 163, .index 164, .index 165, .index 166, .index 167, .index 168, .index 169, .index 170, .index 171, .index 172, .index 173, .index 174, .index 175, .index 176, .index 177, .index 178, .index 179, .index 180, .index 181, .index 182, .index 183, .index 184, .index 185, .index 186, .index 187, .index 188, .null, .null, .null, .null, .null, .null, .null, .null, .null, .null, .null, .null, .null, .null, .null, .null, .null, .null, .null, .null, .null, .null, .null, .null, .null, .null, .null, .null, .null, .null, .null, .null, .null, .null, .null, .null, .int 0, .long 0, .null, .null, .null, .int 0, .int 0, .int 0, .int 0, .int 0, .int 0, .int 0, .int 0, .int 0, .int 0, .int 0, .null]), .inl (1, 16, []), .inl (0, 4, []), .inl (1, 64, []), .inl (1, 64, []), .inl (1, 64, []), .inl (1, 64, []), .inl (3, 4, [(0, .index 58), (1, .index 59), (2, .index 60), (3, .index 61)]), .inl (1, 16, []), .inl (9, 16, []), .inl (7, 4, []), .inl (11, 24, []), .inl (5, 8, []), .inl (0, 6, []), .inl (0, 64, []), .inr (7, [.index 50, .int 0]), .inl (0, 64, []), .inr (7, [.index 48, .int 0]), .inl (0, 400, []), .inl (0, 32, []), .inl (0, 12, []), .inr (6, [.index 46, .index 44, .index 45, .long 0, .int 0, .int (-1), .null]), .inl (0, 400, []), .inl (0, 32, []), .inl (0, 12, []), .inr (6, [.index 42, .index 40, .index 41, .long 0, .int 0, .int (-1), .null]), .inl (0, 400, []), .inl (0, 32, []), .inl (0, 12, []), .inr (6, [.index 38, .index 36, .index 37, .long 0, .int 0, .int (-1), .null]), .inl (0, 400, []), .inl (0, 32, []), .inl (0, 12, []), .inr (6, [.index 34, .index 32, .index 33, .long 0, .int 0, .int (-1), .null]), .inl (8, 6, []), .inl (0, 400, []), .inl (0, 32, []), .inl (0, 12, []), .inr (6, [.index 29, .index 27, .index 28, .long 0, .int 0, .int (-1), .null]), .inl (8, 4, [(3, .index 43), (2, .index 39), (1, .index 35), (0, .index 31)]), .inl (0, 400, []), .inl (0, 32, []), .inl (0, 12, []), .inr (6, [.index 24, .index 22, .index 23, .long 0, .int 0, .int (-1), .null]), .inl (8, 12, []), .inl (8, 12, []), .inl (8, 30, []), .inl (0, 11, []), .inl (0, 11, []), .inl (0, 0, []), .inr (2, [.index 15, .index 16, .index 17, .int 0, .int 0]), .inl (0, 11, []), .inl (0, 11, []), .inl (0, 0, []), .inr (2, [.index 11, .index 12, .index 13, .int 0, .int 0]), .inl (0, 10, []), .inl (0, 8, []), .inr (7, [.index 8, .int 0]), .inl (0, 256, []), .inr (7, [.index 6, .int 0]), .inl (0, 512, []), .inr (7, [.index 4, .int 0]), .inr (4, [.int 0, .int 0, .int 0, .int 0, .long 0, .int 0]), .inr (3, [.int 0, .index 2, .index 3, .index 5, .index 7, .index 9, .index 10, .index 14, .index 18, .int 0, .index 19, .int 0, .index 20, .int 0, .index 21, .index 25, .index 26, .int 0, .index 30, .int 0]), .inr (10, [.index 1, .index 47, .index 49, .index 51, .int 0, .index 52, .int 0, .index 53, .int 0, .index 54, .int 0, .index 55, .index 56, .int 0, .index 57, .index 62, .int 0, .index 63])]
def sc_6 : sx_G := ([], 319, 1016, [(0, .index 64)], [.index 64], [(561, 15, [(1, .index 0), (0, .arg 0)], [.index 64])], sc_6_m, 189, 563798)
set_option maxRecDepth 100000 in
theorem sg_6 : sx_to (aP (fun i => i)) aIns (fun _ => none) 150 sc_5 sc_6 = true := by decide +kernel
def sc_7_m : sx_M := [.inl (0, 4, []), .inl (0, 9, []), .inl (0, 11, []), .inl (0, 11, []), .inl (0, 1, []), .inl (0, 2700, []), .inl (0, 320, []), .inl (0, 12, []), .inl (0, 12, []), .inl (1, 12, []), .inl (1, 12, []), .inl (0, 12, []), .inl (0, 30000, []), .inl (0, 24, []), .inl (0, 24, []), .inl (0, 12, []), .inl (2, 12, []), .inl (1, 12, []), .inl (2, 12, []), .inl (2, 12, []), .inl (0, 72, []), .inl (2, 72, []), .inl (0, 72, []), .inl (1, 72, []), .inl (0, 72, []), .inl (0, 1152, []), .inl (0, 12, []), .inl (0, 12, []), .inl (0, 12, []), .inl (0, 12, []), .inl (1, 12, []), .inl (1, 48, []), .inl (0, 48, []), .inl (0, 48, []), .inl (0, 48, []), .inl (0, 48, []), .inl (0, 48, []), .inl (0, 48, []), .inl (0, 24, []), .inl (0, 24, []), .inl (1, 24, []), .inl (1, 24, []), .inl (1, 24, []), .inl (1, 24, []), .inl (1, 24, []), .inl (1, 24, []), .inl (1, 24, []), .inl (1, 24, []), .inl (2, 24, []), .inl (0, 24, []), .inl (0, 24, []), .inl (0, 24, []), .inl (2, 24, []), .inl (0, 24, []), .inl (0, 24, []), .inl (0, 24, []), .inl (0, 24, []), .inl (0, 24, []), .inl (0, 24, []), .inl (0, 24, []), .inl (1, 24, []), .inl (1, 24, []), .inl (2, 24, []), .inl (2, 24, []), .inl (0, 24, []), .inl (0, 24, []), .inl (2, 24, []), .inl (2, 24, []), .inl (2, 24, []), .inl (0, 24, []), .inl (0, 24, []), .inl (0, 48000, []), .inl (0, 24, []), .inl (0, 72000, []), .inl (0, 24, []), .inl (0, 7680, []), .inl (0, 24, []), .inl (0, 384000, []), .inl (0, 24, []), .inl (0, 4, []), .inl (0, 4, []), .inl (1, 16, []), .inl (0, 16, []), .inl (0, 640, []), .inl (0, 160, []), .inl (0, 4, []), .inl (0, 144, []), .inl (0, 144, []), .inl (0, 144, []), .inl (0, 6048, []), .inl (0, 48, []), .inl (0, 48, []), .inl (0, 48, []), .inl (0, 48, []), .inl (0, 4, []), .inl (1, 32, []), .inl (0, 4, []), .inl (0, 4, []), .inl (0, 4, []), .inl (0, 4, []), .inl (0, 4, []), .inl (0, 4, []), .inl (0, 4, []), .inl (2, 160, []), .inl (0, 160, []), .inl (0, 160, []), .inl (0, 160, []), .inl (1, 160, []), .inl (1, 160, []), .inl (0, 8, []), .inl (0, 8, []), .inl (2, 8, []), .inl (1, 8, []), .inl (0, 8, []), .inl (0, 3200, []), .inl (0, 240, []), .inl (2, 48, []), .inl (0, 48, []), .inl (1, 48, []), .inl (0, 48, []), .inl (0, 768, []), .inl (0, 8, []), .inl (0, 8, []), .inl (0, 320, []), .inl (0, 8, []), .inl (0, 8, []), .inl (0, 32, []), .inl (0, 8, []), .inl (0, 240, []), .inl (0, 8, []), .inl (0, 1600, []), .inl (0, 64, []), .inl (0, 24, []), .inl (0, 96, []), .inl (0, 8, []), .inl (0, 6, []), .inl (0, 8, []), .inl (0, 2000, []), .inl (0, 112, []), .inl (0, 14, []), .inl (0, 5600, []), .inl (0, 112, []), .inl (0, 14, []), .inl (0, 5600, []), .inl (0, 864, []), .inl (0, 108, []), .inl (0, 36, []), .inl (0, 72, []), .inl (0, 72, []), .inl (0, 72, []), .inl (0, 288, []), .inl (0, 36, []), .inl (0, 14400, []), .inl (0, 12, []), .inl (2, 16, []), .inl (1, 16, []), .inl (0, 64, []), .inl (1, 64, []), .inl (1, 256, []), .inl (0, 4, []), .inl (0, 820, []), .inl (0, 800, []), .inr (11, [.index 65, .int 0, .index 66, .int 0, .int 0, .int 0, .int 0, .int 0, .int 0, .int 0, .long 0, .int 0, .int 0, .index 67, .index 68, .index 69, .index 70, .index 71, .int 0, .index 72, .index 73, .int 0, .int 0, .null, .int 0, .int 0, .int 0, .int 0, .index 74, .index 75, .index 76, .index 77, .index 78, .index 79, .index 80, .index 81, .index 82, .int 0, .index 83, .index 84, .index 85, .int 0, .index 86, .index 87, .index 88, .index 89, .int 0, .int 0, .index 90, .int 0, .index 91, .int 0, .int 0, .index 92, .index 93, .index 94, .index 95, .index 96, .index 97, .index 98, .index 99, .index 100, .index 101, .index 102, .index 103, .index 104, .index 105, .index 106, .index 107, .index 108, .index 109, .index 110, .index 111, .index 112, .index 113, .index 114, .index 115, .index 116, .index 117, .index 118, .index 119, .index 120, .index 121, .index 122, .index 123, .int 0, .index 124, .index 125, .index 126, .index 127, .index 128, .index 129, .index 130, .index 131, .index 132, .index 133, .index 134, .index 135, .index 136, .index 137, .index 138, .index 139, .index 140, .index 141, .index 142, .int 0, .index 143, .index 144, .index 145, .index 146, .index 147, .int 0, .index 148, .index 149, .index 150, .index 151, .index 152, .index 153, .index 154, .index 155, .index 156, .index 157, .index 158, .index 159, .index 160, .index 161, .index 162, .index 163, .index 164, .index 165, .index 166, .index 167, .index 168, .index 169, .index 170, .index 171, .index 172, .index 173, .index 174, .index 175, .index 176, .index 177, .index 178, .index 179, .index 180, .index 181, .index 182, .index 183, .index 184, .index 185, .index 186, .index 187, .index 188, .index 189, .index 190, .index 191, .index 192, .index 193, .index 194, .index 195, .index 196, .index 197, .index 198, .index 199, .index 200, .index 201, .index 202, .index 203, .index 204, .index 205, .index 206, .index 207, .index 208, .index 209, .index 210, .index 211, .index 212, .index 213, .index 214, .index 215, .index 216, .index 217, .index 218, .index 219, .index 220, .index 221, .index 222, .index 223, .index 224, .int 0, .long 0, .index 225, .null, .null, .int 0, .int 0, .int 0, .int 0, .int 0, .int 0, .int 0, .int 0, .int 0, .int 0, .int 0, .null]), .inl (1, 16, []), .inl (0, 4, []), .inl (1, 64, []), .inl (1, 64, []), .inl (1, 64, []), .inl (1, 64, []), .inl (3, 4, [(0, .index 58), (1, .index 59), (2, .index 60), (3, .index 61)]), .inl (1, 16, []), .inl (9, 16, []), .inl (7, 4, []), .inl (11, 24, []), .inl (5, 8, []), .inl (0, 6, []), .inl (0, 64, []), .inr (7, [.index 50, .int 0]), .inl (0, 64, []), .inr (7, [.index 48, .int 0]), .inl (0, 400, []), .inl (0, 32, []), .inl (0, 12, []), .inr (6, [.index 46, .index 44, .index 45, .long 0, .int 0, .int (-1), .null]), .inl (0, 400, []), .inl (0, 32, []), .inl (0, 12, []), .inr (6, [.index 42, .index 40, .index 41, .long 0, .int 0, .int (-1), .null]), .inl (0, 400, []), .inl (0, 32, []), .inl (0, 12, []), .inr (6, [.index 38, .index 36, .index 37, .long 0, .int 0, .int (-1), .null]), .inl (0, 400, []), .inl (0, 32, []), .inl (0, 12, []), .inr (6, [.index 34, .index 32, .index 33, .long 0, .int 0, .int (-1), .null]), .inl (8, 6, []), .inl (0, 400, []), .inl (0, 32, []), .inl (0, 12, []), .inr (6, [.index 29, .index 27, .index 28, .long 0, .int 0, .int (-1), .null]), .inl (8, 4, [(3, .index 43), (2, .index 39), (1, .index 35), (0, .index 31)]), .inl (0, 400, []), .inl (0, 32, []), .inl (0, 12, []), .inr (6, [.index 24, .index 22, .index 23, .long 0, .int 0, .int (-1), .null]), .inl (8, 12, []), .inl (8, 12, []), .inl (8, 30, []), .inl (0, 11, []), .inl (0, 11, []), .inl (0, 0, []), .inr (2, [.index 15, .index 16, .index 17, .int 0, .int 0]), .inl (0, 11, []), .inl (0, 11, []), .inl (0, 0, []), .inr (2, [.index 11, .index 12, .index 13, .int 0, .int 0]), .inl (0, 10, []), .inl (0, 8, []), .inr (7, [.index 8, .int 0]), .inl (0, 256, []), .inr (7, [.index 6, .int 0]), .inl (0, 512, []), .inr (7, [.index 4, .int 0]), .inr (4, [.int 0, .int 0, .int 0, .int 0, .long 0, .int 0]), .inr (3, [.int 0, .index 2, .index 3, .index 5, .index 7, .index 9, .index 10, .index 14, .index 18, .int 0, .index 19, .int 0, .index 20, .int 0, .index 21, .index 25, .index 26, .int 0, .index 30, .int 0]), .inr (10, [.index 1, .index 47, .index 49, .index 51, .int 0, .index 52, .int 0, .index 53, .int 0, .index 54, .int 0, .index 55, .index 56, .int 0, .index 57, .index 62, .int 0, .index 63])]
def sc_7 : sx_G := ([], 319, 1318, [(0, .index 64)], [.index 226, .index 64], [(561, 15, [(1, .index 0), (0, .arg 0)], [.index 64])], sc_7_m, 227, 598930)
set_option maxRecDepth 100000 in
theorem sg_7 : sx_to (aP (fun i => i)) aIns (fun _ => none) 150 sc_6 sc_7 = true := by decide +kernel
def sc_8_m : sx_M := [.inl (0, 8000, []), .inl (0, 4, []), .inl (0, 4, []), .inl (0, 9, []), .inl (0, 11, []), .inl (0, 11, []), .inl (0, 1, []), .inl (0, 2700, []), .inl (0, 320, []), .inl (0, 12, []), .inl (0, 12, []), .inl (1, 12, []), .inl (1, 12, []), .inl (0, 12, []), .inl (0, 30000, []), .inl (0, 24, []), .inl (0, 24, []), .inl (0, 12, []), .inl (2, 12, []), .inl (1, 12, []), .inl (2, 12, []), .inl (2, 12, []), .inl (0, 72, []), .inl (2, 72, []), .inl (0, 72, []), .inl (1, 72, []), .inl (0, 72, []), .inl (0, 1152, []), .inl (0, 12, []), .inl (0, 12, []), .inl (0, 12, []), .inl (0, 12, []), .inl (1, 12, []), .inl (1, 48, []), .inl (0, 48, []), .inl (0, 48, []), .inl (0, 48, []), .inl (0, 48, []), .inl (0, 48, []), .inl (0, 48, []), .inl (0, 24, []), .inl (0, 24, []), .inl (1, 24, []), .inl (1, 24, []), .inl (1, 24, []), .inl (1, 24, []), .inl (1, 24, []), .inl (1, 24, []), .inl (1, 24, []), .inl (1, 24, []), .inl (2, 24, []), .inl (0, 24, []), .inl (0, 24, []), .inl (0, 24, []), .inl (2, 24, []), .inl (0, 24, []), .inl (0, 24, []), .inl (0, 24, []), .inl (0, 24, []), .inl (0, 24, []), .inl (0, 24, []), .inl (0, 24, []), .inl (1, 24, []), .inl (1, 24, []), .inl (2, 24, []), .inl (2, 24, []), .inl (0, 24, []), .inl (0, 24, []), .inl (2, 24, []), .inl (2, 24, []), .inl (2, 24, []), .inl (0, 24, []), .inl (0, 24, []), .inl (0, 48000, []), .inl (0, 24, []), .inl (0, 72000, []), .inl (0, 24, []), .inl (0, 7680, []), .inl (0, 24, []), .inl (0, 384000, []), .inl (0, 24, []), .inl (0, 4, []), .inl (0, 4, []), .inl (1, 16, []), .inl (0, 16, []), .inl (0, 640, []), .inl (0, 160, []), .inl (0, 4, []), .inl (0, 144, []), .inl (0, 144, []), .inl (0, 144, []), .inl (0, 6048, []), .inl (0, 48, []), .inl (0, 48, []), .inl (0, 48, []), .inl (0, 48, []), .inl (0, 4, []), .inl (1, 32, []), .inl (0, 4, []), .inl (0, 4, []), .inl (0, 4, []), .inl (0, 4, []), .inl (0, 4, []), .inl (0, 4, []), .inl (0, 4, []), .inl (2, 160, []), .inl (0, 160, []), .inl (0, 160, []), .inl (0, 160, []), .inl (1, 160, []), .inl (1, 160, []), .inl (0, 8, []), .inl (0, 8, []), .inl (2, 8, []), .inl (1, 8, []), .inl (0, 8, []), .inl (0, 3200, []), .inl (0, 240, []), .inl (2, 48, []), .inl (0, 48, []), .inl (1, 48, []), .inl (0, 48, []), .inl (0, 768, []), .inl (0, 8, []), .inl (0, 8, []), .inl (0, 320, []), .inl (0, 8, []), .inl (0, 8, []), .inl (0, 32, []), .inl (0, 8, []), .inl (0, 240, []), .inl (0, 8, []), .inl (0, 1600, []), .inl (0, 64, []), .inl (0, 24, []), .inl (0, 96, []), .inl (0, 8, []), .inl (0, 6, []), .inl (0, 8, []), .inl (0, 2000, []), .inl (0, 112, []), .inl (0, 14, []), .inl (0, 5600, []), .inl (0, 112, []), .inl (0, 14, []), .inl (0, 5600, []), .inl (0, 864, []), .inl (0, 108, []), .inl (0, 36, []), .inl (0, 72, []), .inl (0, 72, []), .inl (0, 72, []), .inl (0, 288, []), .inl (0, 36, []), .inl (0, 14400, []), .inl (0, 12, []), .inl (2, 16, []), .inl (1, 16, []), .inl (0, 64, []), .inl (1, 64, []), .inl (1, 256, []), .inl (0, 4, []), .inl (0, 820, []), .inl (0, 800, []), .inr (11, [.index 65, .int 0, .index 66, .int 0, .int 0, .int 0, .int 0, .int 0, .int 0, .int 0, .long 0, .int 0, .int 0, .index 67, .index 68, .index 69, .index 70, .index 71, .int 0, .index 72, .index 73, .int 0, .int 0, .null, .int 0, .int 0, .int 0, .int 0, .index 74, .index 75, .index 76, .index 77, .index 78, .index 79, .index 80, .index 81, .index 82, .int 0, .index 83, .index 84, .index 85, .int 0, .index 86, .index 87, .index 88, .index 89, .int 0, .int 0, .index 90, .int 0, .index 91, .int 0, .int 0, .index 92, .index 93, .index 94, .index 95, .index 96, .index 97, .index 98, .index 99, .index 100, .index 101, .index 102, .index 103, .index 104, .index 105, .index 106, .index 107, .index 108, .index 109, .index 110, .index 111, .index 112, .index 113, .index 114, .index 115, .index 116, .index 117, .index 118, .index 119, .index 120, .index 121, .index 122, .index 123, .int 0, .index 124, .index 125, .index 126, .index 127, .index 128, .index 129, .index 130, .index 131, .index 132, .index 133, .index 134, .index 135, .index 136, .index 137, .index 138, .index 139, .index 140, .index 141, .index 142, .int 0, .index 143, .index 144, .index 145, .index 146, .index 147, .int 0, .index 148, .index 149, .index 150, .index 151, .index 152, .index 153, .index 154, .index 155, .index 156, .index 157, .index 158, .index 159, .index 160, .index 161, .index 162, .index 163, .index 164, .index 165, .index 166, .index 167, .index 168, .index 169, .index 170, .index 171, .index 172, .index 173, .index 174, .index 175, .index 176, .index 177, .index 178, .index 179, .index 180, .index 181, .index 182, .index 183, .index 184, .index 185, .index 186, .index 187, .index 188, .index 189, .index 190, .index 191, .index 192, .index 193, .index 194, .index 195, .index 196, .index 197, .index 198, .index 199, .index 200, .index 201, .index 202, .index 203, .index 204, .index 205, .index 206, .index 207, .index 208, .index 209, .index 210, .index 211, .index 212, .index 213, .index 214, .index 215, .index 216, .index 217, .index 218, .index 219, .index 220, .index 221, .index 222, .index 223, .index 224, .int 0, .long 0, .index 225, .index 226, .index 227, .int 0, .int 0, .int 0, .int 0, .int 0, .int 0, .int 0, .int 0, .int 0, .int 0, .int 0, .index 228]), .inl (1, 16, []), .inl (0, 4, []), .inl (1, 64, []), .inl (1, 64, []), .inl (1, 64, []), .inl (1, 64, []), .inl (3, 4, [(0, .index 58), (1, .index 59), (2, .index 60), (3, .index 61)]), .inl (1, 16, []), .inl (9, 16, []), .inl (7, 4, []), .inl (11, 24, []), .inl (5, 8, []), .inl (0, 6, []), .inl (0, 64, []), .inr (7, [.index 50, .int 0]), .inl (0, 64, []), .inr (7, [.index 48, .int 0]), .inl (0, 400, []), .inl (0, 32, []), .inl (0, 12, []), .inr (6, [.index 46, .index 44, .index 45, .long 0, .int 0, .int (-1), .null]), .inl (0, 400, []), .inl (0, 32, []), .inl (0, 12, []), .inr (6, [.index 42, .index 40, .index 41, .long 0, .int 0, .int (-1), .null]), .inl (0, 400, []), .inl (0, 32, []), .inl (0, 12, []), .inr (6, [.index 38, .index 36, .index 37, .long 0, .int 0, .int (-1), .null]), .inl (0, 400, []), .inl (0, 32, []), .inl (0, 12, []), .inr (6, [.index 34, .index 32, .index 33, .long 0, .int 0, .int (-1), .null]), .inl (8, 6, []), .inl (0, 400, []), .inl (0, 32, []), .inl (0, 12, []), .inr (6, [.index 29, .index 27, .index 28, .long 0, .int 0, .int (-1), .null]), .inl (8, 4, [(3, .index 43), (2, .index 39), (1, .index 35), (0, .index 31)]), .inl (0, 400, []), .inl (0, 32, []), .inl (0, 12, []), .inr (6, [.index 24, .index 22, .index 23, .long 0, .int 0, .int (-1), .null]), .inl (8, 12, []), .inl (8, 12, []), .inl (8, 30, []), .inl (0, 11, []), .inl (0, 11, []), .inl (0, 0, []), .inr (2, [.index 15, .index 16, .index 17, .int 0, .int 0]), .inl (0, 11, []), .inl (0, 11, []), .inl (0, 0, []), .inr (2, [.index 11, .index 12, .index 13, .int 0, .int 0]), .inl (0, 10, []), .inl (0, 8, []), .inr (7, [.index 8, .int 0]), .inl (0, 256, []), .inr (7, [.index 6, .int 0]), .inl (0, 512, []), .inr (7, [.index 4, .int 0]), .inr (4, [.int 0, .int 0, .int 0, .int 0, .long 0, .int 0]), .inr (3, [.int 0, .index 2, .index 3, .index 5, .index 7, .index 9, .index 10, .index 14, .index 18, .int 0, .index 19, .int 0, .index 20, .int 0, .index 21, .index 25, .index 26, .int 0, .index 30, .int 0]), .inr (10, [.index 1, .index 47, .index 49, .index 51, .int 0, .index 52, .int 0, .index 53, .int 0, .index 54, .int 0, .index 55, .index 56, .int 0, .index 57, .index 62, .int 0, .index 63])]
def sc_8 : sx_G := ([], 561, 18, [(3, .int 0), (2, .index 64), (1, .index 0), (0, .arg 0)], [], [], sc_8_m, 229, 606934)
set_option maxRecDepth 100000 in
theorem sg_8 : sx_to (aP (fun i => i)) aIns (fun _ => none) 16 sc_7 sc_8 = true := by decide +kernel
end
