/-! AM's single instructions are the machine's: push, stack, locals, branches -/
section AMW
variable {p : Program} {l : Launch} {e : Env} {R : Room} {s : State} {m : MethodId} {args : Array Value} {below : List Frame} {meth : Method} {c : Code} {H : Heap} {locs : List Loc} {cells slots : Nat} {Q : State → Prop}
variable {cc : ByteArray} {pc : Nat} {ls : Array Slot}
def am_cstOk (own : String) (cst : Nat → Option Value) (args : Array Value) (s : State) : Prop := ∀ (k : Nat) (v : Value), cst k = some v → (∃ x : Int32, v = .int x ∧ (Jvm.Cond.constant own k x).before args s = true) ∨ (∃ x : Int64, v = .long x ∧ (Jvm.Cond.constantLong own k x).before args s = true)
theorem am_mp {α β : Type} {o : Option α} {f : α → β} {y : β} (h : o.map f = some y) : ∃ x, o = some x ∧ f x = y := Option.map_eq_some_iff.mp h
theorem am_push_W (hx : p.tables.exec = Jvm.exec) (hb : c.code = cc) {cst : Nat → Option Value} {own : String} (hown : s.vm.findClass own = some m.cls) (hcst : am_cstOk own cst args s) {i : Instr} {lv : am_L} {len nL : Nat} {v : Value} (h : am_push cst i lv = some (len, v)) (hd : decode cc pc = .ok (i, len)) (hl : lv_has ls nL lv) {st : List Value}
    (k : W p l e R s m args below meth c H locs cells slots Q (F0 m (pc + len) ls (v :: st))) : W p l e R s m args below meth c H locs cells slots Q (F0 m pc ls st) := by
  cases i with
  | iconst n => cases h; exact lv_iconst hx hb hd rfl k
  | bipush n => cases h; exact lv_bipush hx hb hd rfl k
  | sipush n => cases h; exact lv_sipush hx hb hd rfl k
  | lconst n => cases h; exact lv_lconst hx hb hd rfl k
  | aconst_null => cases h; exact lv_null hx hb hd k
  | iload_n q =>
    obtain ⟨w, h1, h2⟩ := am_mp h
    obtain ⟨x, h3, rfl⟩ := am_li_s h1
    cases h2
    exact lv_iload_n hx hb hd rfl (am_ld_at hl h3) k
  | iload q =>
    obtain ⟨w, h1, h2⟩ := am_mp h
    obtain ⟨x, h3, rfl⟩ := am_li_s h1
    cases h2
    exact lv_iload hx hb hd (am_ld_at hl h3) k
  | lload_n q =>
    obtain ⟨w, h1, h2⟩ := am_mp h
    obtain ⟨x, h3, rfl⟩ := am_ll_s h1
    cases h2
    exact lv_lload_n hx hb hd rfl (am_ld_at hl h3) k
  | lload q =>
    obtain ⟨w, h1, h2⟩ := am_mp h
    obtain ⟨x, h3, rfl⟩ := am_ll_s h1
    cases h2
    exact lv_lload hx hb hd (am_ld_at hl h3) k
  | aload_n q =>
    obtain ⟨w, h1, h2⟩ := am_mp h
    cases h2
    rcases am_la_s h1 with ⟨x, h3, rfl⟩ | ⟨h3, rfl⟩
    · exact lv_aload_n hx hb hd rfl (am_ld_at hl h3) k
    · exact lv_aload_nN hx hb hd rfl (am_ld_at hl h3) k
  | aload q =>
    obtain ⟨w, h1, h2⟩ := am_mp h
    cases h2
    rcases am_la_s h1 with ⟨x, h3, rfl⟩ | ⟨h3, rfl⟩
    · exact lv_aload hx hb hd (am_ld_at hl h3) k
    · exact lv_aloadN hx hb hd (am_ld_at hl h3) k
  | ldc q =>
    obtain ⟨w, h1, h2⟩ := am_mp h
    obtain ⟨x, h3, rfl⟩ := am_li_s h1
    cases h2
    rcases hcst q _ h3 with ⟨y, h4, h5⟩ | ⟨y, h4, h5⟩
    · cases h4
      exact lv_ldc hx hb hown h5 hd k
    · cases h4
  | ldc_w q =>
    obtain ⟨w, h1, h2⟩ := am_mp h
    obtain ⟨x, h3, rfl⟩ := am_li_s h1
    cases h2
    rcases hcst q _ h3 with ⟨y, h4, h5⟩ | ⟨y, h4, h5⟩
    · cases h4
      exact lv_ldcw hx hb hown h5 hd k
    · cases h4
  | ldc2_w q =>
    obtain ⟨w, h1, h2⟩ := am_mp h
    obtain ⟨x, h3, rfl⟩ := am_ll_s h1
    cases h2
    rcases hcst q _ h3 with ⟨y, h4, h5⟩ | ⟨y, h4, h5⟩
    · cases h4
    · cases h4
      exact lv_ldc2 hx hb hown h5 hd k
  | _ => cases h
theorem am_op_W (hx : p.tables.exec = Jvm.exec) (hb : c.code = cc) {i : Instr} {st st' : List Value} (h : am_op i st = some st') (hz : am_nz i st) (hd : decode cc pc = .ok (i, 1))
    (k : W p l e R s m args below meth c H locs cells slots Q (F0 m (pc + 1) ls st')) : W p l e R s m args below meth c H locs cells slots Q (F0 m pc ls st) := by
  cases i with
  | iadd => obtain ⟨y, x, r, rfl, rfl⟩ := am_ii_s h; exact lv_iadd hx hb hd k
  | isub => obtain ⟨y, x, r, rfl, rfl⟩ := am_ii_s h; exact lv_isub hx hb hd k
  | imul => obtain ⟨y, x, r, rfl, rfl⟩ := am_ii_s h; exact lv_imul hx hb hd k
  | iand => obtain ⟨y, x, r, rfl, rfl⟩ := am_ii_s h; exact lv_iand hx hb hd k
  | ior => obtain ⟨y, x, r, rfl, rfl⟩ := am_ii_s h; exact lv_ior hx hb hd k
  | ixor => obtain ⟨y, x, r, rfl, rfl⟩ := am_ii_s h; exact lv_ixor hx hb hd k
  | ishl => obtain ⟨y, x, r, rfl, rfl⟩ := am_ii_s h; exact lv_ishl hx hb hd k
  | ishr => obtain ⟨y, x, r, rfl, rfl⟩ := am_ii_s h; exact lv_ishr hx hb hd k
  | iushr => obtain ⟨y, x, r, rfl, rfl⟩ := am_ii_s h; exact lv_iushr hx hb hd rfl k
  | idiv =>
    obtain ⟨y, x, r, rfl, rfl⟩ := am_ii_s h
    obtain ⟨y2, r2, h1, h2⟩ := hz
    cases h1
    exact lv_idiv hx hb hd h2 k
  | irem =>
    obtain ⟨y, x, r, rfl, rfl⟩ := am_ii_s h
    obtain ⟨y2, r2, h1, h2⟩ := hz
    cases h1
    exact lv_irem hx hb hd h2 k
  | ineg => obtain ⟨x, r, rfl, rfl⟩ := am_i1_s h; exact lv_ineg hx hb hd k
  | i2l => obtain ⟨x, r, rfl, rfl⟩ := am_i1_s h; exact lv_i2l hx hb hd rfl k
  | l2i => obtain ⟨x, r, rfl, rfl⟩ := am_j1_s h; exact lv_l2i hx hb hd rfl k
  | lneg => obtain ⟨x, r, rfl, rfl⟩ := am_j1_s h; exact lv_lneg hx hb hd k
  | ladd => obtain ⟨y, x, r, rfl, rfl⟩ := am_jj_s h; exact lv_ladd hx hb hd k
  | lsub => obtain ⟨y, x, r, rfl, rfl⟩ := am_jj_s h; exact lv_lsub hx hb hd k
  | lmul => obtain ⟨y, x, r, rfl, rfl⟩ := am_jj_s h; exact lv_lmul hx hb hd k
  | land => obtain ⟨y, x, r, rfl, rfl⟩ := am_jj_s h; exact lv_land hx hb hd k
  | lor => obtain ⟨y, x, r, rfl, rfl⟩ := am_jj_s h; exact lv_lor hx hb hd k
  | lxor => obtain ⟨y, x, r, rfl, rfl⟩ := am_jj_s h; exact lv_lxor hx hb hd k
  | lrem =>
    obtain ⟨y, x, r, rfl, rfl⟩ := am_jj_s h
    obtain ⟨y2, r2, h1, h2⟩ := hz
    cases h1
    exact lv_lrem hx hb hd h2 k
  | lcmp => obtain ⟨y, x, r, rfl, rfl⟩ := am_jj_s h; exact W.lcmp hx hb hd k
  | lshl => obtain ⟨y, x, r, rfl, rfl⟩ := am_ij_s h; exact lv_lshl hx hb hd rfl k
  | lshr => obtain ⟨y, x, r, rfl, rfl⟩ := am_ij_s h; exact lv_lshr hx hb hd rfl k
  | lushr => obtain ⟨y, x, r, rfl, rfl⟩ := am_ij_s h; exact lv_lushr hx hb hd rfl k
  | dup =>
    cases st with
    | nil => cases h
    | cons v r =>
      simp only [am_op, am_dup] at h
      split at h
      · cases h
        exact lv_dup hx hb hd (by assumption) k
      · cases h
  | pop =>
    cases st with
    | nil => cases h
    | cons v r =>
      simp only [am_op, am_pop] at h
      split at h
      · cases h
        exact lv_pop hx hb hd (by assumption) k
      · cases h
  | pop2 =>
    cases st with
    | nil => cases h
    | cons v r =>
      simp only [am_op, am_pop2] at h
      split at h
      · cases h
        exact lv_pop2_2 hx hb hd (by assumption) k
      · cases h
  | dup2 =>
    cases st with
    | nil => cases h
    | cons v r =>
      simp only [am_op, am_dup2] at h
      split at h
      · cases h
        exact lv_dup2_2 hx hb hd (by assumption) k
      · cases r with
        | nil => cases h
        | cons w r2 =>
          dsimp only at h
          split at h
          · rename_i hc
            cases h
            exact lv_dup2_11 hx hb hd hc.1 hc.2 k
          · cases h
  | _ => cases h
theorem am_sto_W (hx : p.tables.exec = Jvm.exec) (hb : c.code = cc) {i : Instr} {lv lv' : am_L} {st st' : List Value} {len n nL : Nat} (h : am_sto i lv st = some (len, n, lv', st')) (hn : n ≤ nL) {len' : Nat} (hlen : len' = len ∨ (len = 3 ∧ len' = 6)) (hd : decode cc pc = .ok (i, len')) (hl : lv_has ls nL lv)
    (k : ∀ ls' : Array Slot, lv_has ls' nL lv' → W p l e R s m args below meth c H locs cells slots Q (F0 m (pc + len') ls' st')) : W p l e R s m args below meth c H locs cells slots Q (F0 m pc ls st) := by
  cases i with
  | istore_n q =>
    obtain ⟨o, h1, h2⟩ := am_mp h
    obtain ⟨x, r, rfl, rfl⟩ := am_si_s h1
    cases h2
    rcases hlen with rfl | ⟨hh, -⟩
    · exact lv_istore_n hx hb hd rfl hl (by omega) rfl k
    · cases hh
  | istore q =>
    obtain ⟨o, h1, h2⟩ := am_mp h
    obtain ⟨x, r, rfl, rfl⟩ := am_si_s h1
    cases h2
    rcases hlen with rfl | ⟨hh, -⟩
    · exact lv_istore hx hb hd hl (by omega) rfl k
    · cases hh
  | lstore_n q =>
    obtain ⟨o, h1, h2⟩ := am_mp h
    obtain ⟨x, r, rfl, rfl⟩ := am_sj_s h1
    cases h2
    rcases hlen with rfl | ⟨hh, -⟩
    · exact lv_lstore_n hx hb hd rfl hl (by omega) rfl k
    · cases hh
  | lstore q =>
    obtain ⟨o, h1, h2⟩ := am_mp h
    obtain ⟨x, r, rfl, rfl⟩ := am_sj_s h1
    cases h2
    rcases hlen with rfl | ⟨hh, -⟩
    · exact lv_lstore hx hb hd hl (by omega) rfl k
    · cases hh
  | astore_n q =>
    obtain ⟨o, h1, h2⟩ := am_mp h
    rcases am_sa_s h1 with ⟨x, r, rfl, rfl⟩ | ⟨r, rfl, rfl⟩
    · cases h2
      rcases hlen with rfl | ⟨hh, -⟩
      · exact lv_astore_n hx hb hd rfl hl (by omega) rfl k
      · cases hh
    · cases h2
      rcases hlen with rfl | ⟨hh, -⟩
      · exact lv_astore_nN hx hb hd rfl hl (by omega) rfl k
      · cases hh
  | astore q =>
    obtain ⟨o, h1, h2⟩ := am_mp h
    rcases am_sa_s h1 with ⟨x, r, rfl, rfl⟩ | ⟨r, rfl, rfl⟩
    · cases h2
      rcases hlen with rfl | ⟨hh, -⟩
      · exact lv_astore hx hb hd hl (by omega) rfl k
      · cases hh
    · cases h2
      rcases hlen with rfl | ⟨hh, -⟩
      · exact lv_astoreN hx hb hd hl (by omega) rfl k
      · cases hh
  | iinc q z =>
    obtain ⟨o, h1, h2⟩ := am_mp h
    unfold am_inc at h1
    split at h1
    · rename_i x hx1
      cases h1
      cases h2
      obtain ⟨kk, hk⟩ := am_ld_spec hx1
      rcases hlen with rfl | ⟨-, rfl⟩
      · exact lv_iinc hx hb hd hl hk rfl (by omega) rfl k
      · exact lv_iincW hx hb hd hl hk rfl (by omega) rfl k
    · cases h1
  | _ => cases h
theorem am_br_W (hx : p.tables.exec = Jvm.exec) (hb : c.code = cc) {i : Instr} {st : List Value} {len : Nat} {K : Nat → List Value → Prop} (h : am_br i len pc st K) (hd : decode cc pc = .ok (i, len))
    (k : ∀ t r, K t r → W p l e R s m args below meth c H locs cells slots Q (F0 m t ls r)) : W p l e R s m args below meth c H locs cells slots Q (F0 m pc ls st) := by
  cases i with
  | goto off =>
    obtain ⟨rfl, t, ht, h1⟩ := h
    exact lv_goto hx hb hd ht (k _ _ h1)
  | ifCond cd off =>
    obtain ⟨rfl, x, r, rfl, t, ht, h1, h2⟩ := h
    cases cd with
    | eq => exact lv_if_eq hx hb hd ht (fun q => k _ _ (h1 q)) (fun q => k _ _ (h2 q))
    | ne => exact lv_if_ne hx hb hd ht (fun q => k _ _ (h1 q)) (fun q => k _ _ (h2 (fun z => z q)))
    | lt => exact lv_if_lt hx hb hd ht (fun q => k _ _ (h1 q)) (fun q => k _ _ (h2 q))
    | ge => exact lv_if_ge hx hb hd ht (fun q => k _ _ (h1 q)) (fun q => k _ _ (h2 q))
    | gt => exact lv_if_gt hx hb hd ht (fun q => k _ _ (h1 q)) (fun q => k _ _ (h2 q))
    | le => exact lv_if_le hx hb hd ht (fun q => k _ _ (h1 q)) (fun q => k _ _ (h2 q))
  | if_icmp cd off =>
    obtain ⟨rfl, y, x, r, rfl, t, ht, h1, h2⟩ := h
    cases cd with
    | eq => exact lv_icmp_eq hx hb hd ht (fun q => k _ _ (h1 q)) (fun q => k _ _ (h2 q))
    | ne => exact lv_icmp_ne hx hb hd ht (fun q => k _ _ (h1 q)) (fun q => k _ _ (h2 (fun z => z q)))
    | lt => exact lv_icmp_lt hx hb hd ht (fun q => k _ _ (h1 q)) (fun q => k _ _ (h2 q))
    | ge => exact lv_icmp_ge hx hb hd ht (fun q => k _ _ (h1 q)) (fun q => k _ _ (h2 q))
    | gt => exact lv_icmp_gt hx hb hd ht (fun q => k _ _ (h1 q)) (fun q => k _ _ (h2 q))
    | le => exact lv_icmp_le hx hb hd ht (fun q => k _ _ (h1 q)) (fun q => k _ _ (h2 q))
  | ifnull off =>
    obtain ⟨rfl, ⟨x, r, rfl, h1⟩ | ⟨r, rfl, t, ht, h1⟩⟩ := h
    · exact lv_ifnull hx hb hd (k _ _ h1)
    · exact lv_ifnullN hx hb hd ht (k _ _ h1)
  | ifnonnull off =>
    obtain ⟨rfl, ⟨x, r, rfl, t, ht, h1⟩ | ⟨r, rfl, h1⟩⟩ := h
    · exact lv_ifnonnull hx hb hd ht (k _ _ h1)
    · exact lv_ifnonnullN hx hb hd (k _ _ h1)
  | tableswitch dflt lo hi offs =>
    obtain ⟨x, r, rfl, h1, h2⟩ := h
    by_cases hq : x.toInt < lo ∨ hi < x.toInt
    · obtain ⟨t, ht, h3⟩ := h1 hq
      exact lv_tableOut hx hb hd hq ht (k _ _ h3)
    · obtain ⟨off, ho, t, ht, h3⟩ := h2 (fun z => hq (Or.inl z)) (fun z => hq (Or.inr z))
      exact lv_tableIn hx hb hd (fun z => hq (Or.inl z)) (fun z => hq (Or.inr z)) ho ht (k _ _ h3)
  | lookupswitch dflt ps =>
    obtain ⟨x, r, rfl, hs, t, ht, h3⟩ := h
    exact lv_lookup hx hb hd hs rfl ht (k _ _ h3)
  | _ => exact False.elim h
end AMW
