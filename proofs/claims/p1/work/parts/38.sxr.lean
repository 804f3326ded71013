/-! SX: the runner, and that what it finds is so -/
abbrev sx_Fr : Type := Nat × Nat × sx_L × List Term
/-- a term that should be known: the first of these that is not -/
def sx_wt (cs : List sx_Q) (ts : List Term) : Option (Nat × Term × Term) := ts.findSome? (fun t => if sx_k t = 0 ∧ sx_cv cs t = none ∧ (sx_rg0 cs t).2 - (sx_rg0 cs t).1 ≤ 130 then some (1, t, .int (Int32.ofInt (sx_rg0 cs t).1)) else none)
def sx_nd (cs : List sx_Q) (i : Instr) (st : List Term) : Option (Nat × Term × Term) := match i with
  | .iaload | .baload | .laload | .aaload | .newarray _ | .anewarray _ | .ireturn => sx_wt cs (st.take 1)
  | .iastore | .lastore | .aastore => sx_wt cs ((st.drop 1).take 1)
  | .bastore | .multianewarray _ _ => sx_wt cs (st.take 2)
  | .invokestatic _ => sx_wt cs (st.take 4)
  | _ => none
/-- conditions; method, place, locals, stack; frames; memory, its size, elements -/
abbrev sx_G : Type := List sx_Q × Nat × Nat × sx_L × List Term × List sx_Fr × sx_M × Nat × Nat
/-- the instructions, by method and place (a byte far back in a code is dear to the kernel) -/
abbrev sx_Ins : Type := Nat → Nat → Option (Instr × Nat)
def sx_insOk (P : am_P) (ins : sx_Ins) : Prop := ∀ y pc r, ins y pc = some r → ∀ mt, am_meth P y = some mt → decode mt.2.1 pc = .ok r
/-- one step: the next, a question, or an end -/
def sx_one (P : am_P) (ins : sx_Ins) (rt : sx_R) (c : sx_G) : Option (sx_G ⊕ (Nat × Term × Term) ⊕ (Option Term × Nat × Nat)) := match c with
  | (cs, y, pc, lv, st, fs, Ms, n, sl) => match am_meth P y with
    | none => none
    | some mt => match ins y pc with
      | none => none
      | some (i, len) => match sx_push (am_cst P mt.2.2.2.2.2.2) i lv with
        | some (l0, v) => if l0 = len then some (.inl (cs, y, pc + len, lv, v :: st, fs, Ms, n, sl)) else none
        | none => match sx_op i st with
          | some st' => if len = 1 then some (.inl (cs, y, pc + 1, lv, st', fs, Ms, n, sl)) else none
          | none => match sx_sto i lv st with
            | some (l0, m, lv', st') => if m ≤ mt.2.2.1 ∧ (len = l0 ∨ (l0 = 3 ∧ len = 6)) then some (.inl (cs, y, pc + len, lv', st', fs, Ms, n, sl)) else none
            | none => match sx_hp P rt (sx_cv cs) mt.2.2.2.2.2.2 (mt.1.name == "<init>") i len pc st Ms n sl with
              | some (pc', st', M', n', sl') => some (.inl (cs, y, pc', lv, st', fs, M', n', sl'))
              | none => match sx_jp cs i len pc st with
                | some (.inl (pc', st')) => some (.inl (cs, y, pc', lv, st', fs, Ms, n, sl))
                | some (.inr q) => some (.inr (.inl q))
                | none => match sx_nt P cs mt i len pc st Ms n sl with
                  | some (.inl (pc', st', M', n', sl')) => some (.inl (cs, y, pc', lv, st', fs, M', n', sl'))
                  | some (.inr q) => some (.inr (.inl q))
                  | none => match sx_ca P mt.2.2.2.2.2.2 i st Ms n with
                    | some (z, vs, r) => (match am_meth P z with
                      | none => none
                      | some mz => if len = 3 ∧ (mz.2.2.2.2.1 + 1 ≤ mt.2.2.2.2.1 ∧ 8 + (mz.2.2.1 + 11) + mz.2.2.2.2.2.1 ≤ mt.2.2.2.2.2.1) ∧ sx_ct vs ≤ mz.2.2.1 ∧ sx_ct r ≤ 8 then some (.inl (cs, z, 0, sx_args 0 vs, [], (y, pc + 3, lv, r) :: fs, Ms, n, sl)) else none)
                    | none => match sx_rt cs mt i len st with
                      | some o => (match fs with
                        | [] => some (.inr (.inr (o, n, sl)))
                        | (y2, pc2, lv2, st2) :: fs2 => some (.inl (cs, y2, pc2, lv2, o.toList ++ st2, fs2, Ms, n, sl)))
                      | none => match sx_nd cs i st with
                        | some q => some (.inr (.inl q))
                        | none => none
def sx_ask (c : sx_G) (b : Bool) (q : Nat × Term × Term) : sx_G := ((b, q) :: c.1, c.2)
def sx_run (P : am_P) (ins : sx_Ins) (rt : sx_R) (fin : Option Term → Nat → Nat → Bool) : Nat → sx_G → Bool
  | 0, _ => false
  | k + 1, c => match sx_one P ins rt c with
    | none => false
    | some (.inl c') => sx_run P ins rt fin k c'
    | some (.inr (.inl q)) => sx_run P ins rt fin k (sx_ask c true q) && sx_run P ins rt fin k (sx_ask c false q)
    | some (.inr (.inr (o, n, sl))) => fin o n sl
/-- a stretch without questions -/
def sx_go (P : am_P) (ins : sx_Ins) (rt : sx_R) : Nat → sx_G → Option sx_G
  | 0, c => some c
  | k + 1, c => match sx_one P ins rt c with
    | some (.inl c') => sx_go P ins rt k c'
    | _ => none
/-- what comes behind the innermost frame's end -/
def sx_stk (P : am_P) (RO : am_O) (E : sx_E) (Q : am_Q) : List sx_Fr → am_Q
  | [] => Q
  | (y, pc, lv, st) :: fs => fun v M z l => ∃ k, am_W P RO k y pc (sx_lv E lv) (v.toList ++ st.map (sx_v E)) M z l (sx_stk P RO E Q fs)
theorem am_stepR {P : am_P} {RO : am_O} {y pc : Nat} {lv : am_L} {st : List Value} {M : am_H} {sz sl : Nat} {Q : am_Q} {mt : am_Meth} {i : Instr} {len : Nat} (hm : am_meth P y = some mt) (hd : decode mt.2.1 pc = .ok (i, len))
    (h : am_step P RO mt i len pc lv st M sz sl (fun pc' lv' st' M' z' l' => ∃ k, am_W P RO k y pc' lv' st' M' z' l' Q) (fun z vs M' z' l' Q' => ∃ k, am_W P RO k z 0 (lv_args 0 vs) [] M' z' l' Q') Q) : ∃ k, am_W P RO k y pc lv st M sz sl Q := by
  rcases am_step_c h with ⟨pc', lv', st', M', z', l', ⟨k, h1⟩, -, -, h2⟩ | ⟨z, vs, r, ⟨k, h1⟩, h2⟩ | ⟨v, h1, h2⟩
  · exact ⟨k + 1, mt, hm, i, len, hd, h2 _ _ _ h1⟩
  · obtain ⟨v, M', z', l', g1, ⟨k2, g2⟩, g3, g4⟩ := am_det _ _ _ _ _ _ _ _ _ h1
    refine ⟨max k k2 + 1, mt, hm, i, len, hd, h2 _ _ _ ?_⟩
    refine am_mono _ _ _ _ _ _ _ _ _ _ ?_ (am_le (Nat.le_max_left k k2) g1)
    intro v1 M1 z1 l1 e
    obtain ⟨rfl, rfl, rfl, rfl⟩ := e
    exact am_le (Nat.le_max_right k k2) g2
  · exact ⟨1, mt, hm, i, len, hd, h2 _ _ _ h1⟩
/-- from here all is well: whatever the ints are, of which the conditions hold -/
def sx_Ok (P : am_P) (RO : am_O) (sa : Nat → Nat) (E : sx_E) (Q : am_Q) (c : sx_G) : Prop := match c with
  | (cs, y, pc, lv, st, fs, Ms, n, sl) => Ms.length = n → (∀ q ∈ cs, sx_h E q) → ∃ k', am_W (sx_P P sa) RO k' y pc (sx_lv E lv) (st.map (sx_v E)) (sx_mem E Ms) (E.1 + n) sl (sx_stk (sx_P P sa) RO E Q fs)
section SXR
variable {P : am_P} {ins : sx_Ins} {rt : sx_R} {E : sx_E} {RO : am_O} {sa : Nat → Nat} {Q : am_Q}
theorem sx_Ok_ask {c : sx_G} {q : Nat × Term × Term} (h1 : sx_Ok P RO sa E Q (sx_ask c true q)) (h2 : sx_Ok P RO sa E Q (sx_ask c false q)) : sx_Ok P RO sa E Q c := by
  obtain ⟨cs, y, pc, lv, st, fs, Ms, n, sl⟩ := c
  intro hn hc
  cases hb : sx_hq E q.1 q.2.1 q.2.2 with
  | true => exact h1 hn (fun p hp => by
      rcases List.mem_cons.mp hp with rfl | hp
      · exact hb
      · exact hc p hp)
  | false => exact h2 hn (fun p hp => by
      rcases List.mem_cons.mp hp with rfl | hp
      · exact hb
      · exact hc p hp)
set_option maxHeartbeats 2000000 in
theorem sx_Ok_one (hins : sx_insOk P ins) (hok : sx_ok E rt RO sa) {c c' : sx_G} (h : sx_one P ins rt c = some (.inl c')) (g0 : sx_Ok P RO sa E Q c') : sx_Ok P RO sa E Q c := by
  obtain ⟨cs, y, pc, lv, st, fs, Ms, n, sl⟩ := c
  intro hn hc
  subst hn
  unfold sx_one at h
  dsimp only at h
  split at h
  · cases h
  rename_i _ mt hm
  split at h
  · cases h
  rename_i _ i len hd0
  have hd := hins _ _ _ hd0 _ hm
  have hmP : am_meth (sx_P P sa) y = some mt := hm
  split at h
  · rename_i _ l0 v hp
    split at h
    · rename_i hl
      subst hl
      cases h
      exact am_stepR hmP hd (Or.inl ⟨_, sx_push_s hp, g0 rfl hc⟩)
    · cases h
  split at h
  · rename_i _ st' hp
    split at h
    · rename_i hl
      subst hl
      cases h
      obtain ⟨g1, g2⟩ := sx_op_s (E := E) hp
      exact am_stepR hmP hd (Or.inr (Or.inl ⟨rfl, _, g1, g2, g0 rfl hc⟩))
    · cases h
  split at h
  · rename_i _ l0 m lv' st' hp
    split at h
    · rename_i hl
      cases h
      exact am_stepR hmP hd (Or.inr (Or.inr (Or.inl ⟨l0, m, _, _, sx_sto_s hp, hl.1, hl.2, g0 rfl hc⟩)))
    · cases h
  split at h
  · rename_i _ pc' st' M' n' sl' hp
    cases h
    obtain ⟨g1, g2⟩ := sx_hp_s (E := E) (RO := RO) (sa := sa) hok (sx_cv_s hc) hp
    exact am_stepR hmP hd (Or.inr (Or.inr (Or.inr (Or.inr (Or.inl (g2 _ (g0 g1 hc)))))))
  split at h
  · rename_i _ pc' st' hp
    cases h
    exact am_stepR hmP hd (Or.inr (Or.inr (Or.inr (Or.inl (sx_jp_s hc hp _ (g0 rfl hc))))))
  · cases h
  split at h
  · rename_i _ pc' st' M' n' sl' hp
    cases h
    obtain ⟨g1, g2⟩ := sx_nt_s (E := E) (RO := RO) (sa := sa) hc hp
    exact am_stepR hmP hd (Or.inr (Or.inr (Or.inr (Or.inr (Or.inr (Or.inr (Or.inr (g2 _ (g0 g1 hc)))))))))
  · cases h
  split at h
  · rename_i _ z vs r hp
    split at h
    · cases h
    · rename_i _ mz hz
      split at h
      · rename_i hl
        cases h
        obtain ⟨rfl, h1, h2, h3⟩ := hl
        have g := g0 rfl hc
        have hcall := sx_ca_s (sa := sa) (E := E) hp
        refine am_stepR hmP hd (Or.inr (Or.inr (Or.inr (Or.inr (Or.inr (Or.inr (Or.inl ⟨rfl, z, vs.map (sx_v E), r.map (sx_v E), mz, hcall, hz, h1, by rw [sx_sl_s]; exact h2, by rw [sx_ct_s]; exact h3, ?_⟩)))))))
        rw [← sx_args_s] at g
        exact g
      · cases h
  split at h
  · rename_i _ o hp
    split at h
    · cases h
    · rename_i y2 pc2 lv2 st2 fs2
      cases h
      have g := g0 rfl hc
      refine am_stepR hmP hd (Or.inr (Or.inr (Or.inr (Or.inr (Or.inr (Or.inl (sx_rt_s hc hp _ ?_)))))))
      show ∃ k, am_W (sx_P P sa) RO k y2 pc2 (sx_lv E lv2) ((o.map (sx_v E)).toList ++ st2.map (sx_v E)) (sx_mem E Ms) (E.1 + Ms.length) sl (sx_stk (sx_P P sa) RO E Q fs2)
      have e : (o.map (sx_v E)).toList ++ st2.map (sx_v E) = (o.toList ++ st2).map (sx_v E) := by
        cases o <;> rfl
      rw [e]
      exact g
  split at h
  · cases h
  · cases h
theorem sx_Ok_end (hins : sx_insOk P ins) {fin : Option Term → Nat → Nat → Bool} (hfin : ∀ (o : Option Term) (Ms : sx_M) (sl : Nat), fin o Ms.length sl = true → Q (o.map (sx_v E)) (sx_mem E Ms) (E.1 + Ms.length) sl) {c : sx_G} {o : Option Term} {n' sl' : Nat} (h : sx_one P ins rt c = some (.inr (.inr (o, n', sl')))) (hf : fin o n' sl' = true) : sx_Ok P RO sa E Q c := by
  obtain ⟨cs, y, pc, lv, st, fs, Ms, n, sl⟩ := c
  intro hn hc
  subst hn
  unfold sx_one at h
  dsimp only at h
  split at h
  · cases h
  rename_i _ mt hm
  split at h
  · cases h
  rename_i _ i len hd0
  have hd := hins _ _ _ hd0 _ hm
  have hmP : am_meth (sx_P P sa) y = some mt := hm
  split at h
  · split at h <;> cases h
  split at h
  · split at h <;> cases h
  split at h
  · split at h <;> cases h
  split at h
  · cases h
  split at h
  · cases h
  · cases h
  split at h
  · cases h
  · cases h
  split at h
  · split at h
    · cases h
    · split at h <;> cases h
  split at h
  · rename_i _ o2 hp
    split at h
    · cases h
      exact am_stepR hmP hd (Or.inr (Or.inr (Or.inr (Or.inr (Or.inr (Or.inl (sx_rt_s hc hp _ (hfin _ Ms _ hf))))))))
    · cases h
  split at h
  · cases h
  · cases h
theorem sx_Ok_go (hins : sx_insOk P ins) (hok : sx_ok E rt RO sa) : ∀ {k : Nat} {c c' : sx_G}, sx_go P ins rt k c = some c' → sx_Ok P RO sa E Q c' → sx_Ok P RO sa E Q c
  | 0, c, c', h, g => by
    unfold sx_go at h
    cases h
    exact g
  | k + 1, c, c', h, g => by
    unfold sx_go at h
    split at h
    · rename_i _ c2 h1
      exact sx_Ok_one hins hok h1 (sx_Ok_go hins hok h g)
    · cases h
theorem sx_Ok_run {fin : Option Term → Nat → Nat → Bool} (hins : sx_insOk P ins) (hok : sx_ok E rt RO sa) (hfin : ∀ (o : Option Term) (Ms : sx_M) (sl : Nat), fin o Ms.length sl = true → Q (o.map (sx_v E)) (sx_mem E Ms) (E.1 + Ms.length) sl) : ∀ {k : Nat} {c : sx_G}, sx_run P ins rt fin k c = true → sx_Ok P RO sa E Q c
  | 0, c, h => by
    unfold sx_run at h
    cases h
  | k + 1, c, h => by
    unfold sx_run at h
    split at h
    · cases h
    · rename_i _ c2 h1
      exact sx_Ok_one hins hok h1 (sx_Ok_run hins hok hfin h)
    · rename_i _ q h1
      rw [Bool.and_eq_true] at h
      exact sx_Ok_ask (sx_Ok_run hins hok hfin h.1) (sx_Ok_run hins hok hfin h.2)
    · rename_i _ o n sl h1
      exact sx_Ok_end hins hfin h1 h
end SXR
