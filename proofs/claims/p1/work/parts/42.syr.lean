/-! SY: the runner with a quick table of methods -/
def sy_mm (mm : Nat → Option am_Meth) (P : am_P) : Prop := ∀ y mt, mm y = some mt → am_meth P y = some mt
/-- one step: the next, a question, or an end -/
def sy_one (mm : Nat → Option am_Meth) (P : am_P) (ins : sx_Ins) (rt : sx_R) (c : sx_G) : Option (sx_G ⊕ (Nat × Term × Term) ⊕ (Option Term × Nat × Nat)) := match c with
  | (cs, y, pc, lv, st, fs, Ms, n, sl) => match mm y with
    | none => none
    | some mt => match ins y pc with
      | none => none
      | some (i, len) => match sx_push (am_cst P mt.2.2.2.2.2.2) i lv with
        | some (l0, v) => if l0 = len then some (.inl (cs, y, pc + len, lv, v :: st, fs, Ms, n, sl)) else none
        | none => match sx_op i st with
          | some st' => if len = 1 then some (.inl (cs, y, pc + 1, lv, st', fs, Ms, n, sl)) else none
          | none => match sx_sto i lv st with
            | some (l0, m, lv', st') => if m ≤ mt.2.2.1 ∧ (len = l0 ∨ (l0 = 3 ∧ len = 6)) then some (.inl (cs, y, pc + len, lv', st', fs, Ms, n, sl)) else none
            | none => match sx_hp P rt (sx_cv cs) mt.2.2.2.2.2.2 (mt.1.name == "<init>") i len pc st Ms n sl with
              | some (pc', st', M', n', sl') => some (.inl (cs, y, pc', lv, st', fs, M', n', sl'))
              | none => match sx_jp cs i len pc st with
                | some (.inl (pc', st')) => some (.inl (cs, y, pc', lv, st', fs, Ms, n, sl))
                | some (.inr q) => some (.inr (.inl q))
                | none => match sx_nt P cs mt i len pc st Ms n sl with
                  | some (.inl (pc', st', M', n', sl')) => some (.inl (cs, y, pc', lv, st', fs, M', n', sl'))
                  | some (.inr q) => some (.inr (.inl q))
                  | none => match sx_ca P mt.2.2.2.2.2.2 i st Ms n with
                    | some (z, vs, r) => (match mm z with
                      | none => none
                      | some mz => if len = 3 ∧ (mz.2.2.2.2.1 + 1 ≤ mt.2.2.2.2.1 ∧ 8 + (mz.2.2.1 + 11) + mz.2.2.2.2.2.1 ≤ mt.2.2.2.2.2.1) ∧ sx_ct vs ≤ mz.2.2.1 ∧ sx_ct r ≤ 8 then some (.inl (cs, z, 0, sx_args 0 vs, [], (y, pc + 3, lv, r) :: fs, Ms, n, sl)) else none)
                    | none => match sx_rt cs mt i len st with
                      | some o => (match fs with
                        | [] => some (.inr (.inr (o, n, sl)))
                        | (y2, pc2, lv2, st2) :: fs2 => some (.inl (cs, y2, pc2, lv2, o.toList ++ st2, fs2, Ms, n, sl)))
                      | none => match sx_nd cs i st with
                        | some q => some (.inr (.inl q))
                        | none => none
def sy_run (mm : Nat → Option am_Meth) (P : am_P) (ins : sx_Ins) (rt : sx_R) (fin : Option Term → Nat → Nat → Bool) : Nat → sx_G → Bool
  | 0, _ => false
  | k + 1, c => match sy_one mm P ins rt c with
    | none => false
    | some (.inl c') => sy_run mm P ins rt fin k c'
    | some (.inr (.inl q)) => sy_run mm P ins rt fin k (sx_ask c true q) && sy_run mm P ins rt fin k (sx_ask c false q)
    | some (.inr (.inr (o, n, sl))) => fin o n sl
/-- a stretch without questions -/
def sy_go (mm : Nat → Option am_Meth) (P : am_P) (ins : sx_Ins) (rt : sx_R) : Nat → sx_G → Option sx_G
  | 0, c => some c
  | k + 1, c => match sy_one mm P ins rt c with
    | some (.inl c') => sy_go mm P ins rt k c'
    | _ => none
section SYR
variable {mm : Nat → Option am_Meth} {P : am_P} {ins : sx_Ins} {rt : sx_R} {E : sx_E} {RO : am_O} {sa : Nat → Nat} {Q : am_Q}
set_option maxHeartbeats 2000000 in
theorem sy_Ok_one (hf : sy_mm mm P) (hins : sx_insOk P ins) (hok : sx_ok E rt RO sa) {c c' : sx_G} (h : sy_one mm P ins rt c = some (.inl c')) (g0 : sx_Ok P RO sa E Q c') : sx_Ok P RO sa E Q c := by
  obtain ⟨cs, y, pc, lv, st, fs, Ms, n, sl⟩ := c
  intro hn hc
  subst hn
  unfold sy_one at h
  dsimp only at h
  split at h
  · cases h
  rename_i _ mt hm0
  have hm : am_meth P y = some mt := hf _ _ hm0
  split at h
  · cases h
  rename_i _ i len hd0
  have hd := hins _ _ _ hd0 _ hm
  have hmP : am_meth (sx_P P sa) y = some mt := hm
  split at h
  · rename_i _ l0 v hp
    split at h
    · rename_i hl
      subst hl
      cases h
      exact am_stepR hmP hd (Or.inl ⟨_, sx_push_s hp, g0 rfl hc⟩)
    · cases h
  split at h
  · rename_i _ st' hp
    split at h
    · rename_i hl
      subst hl
      cases h
      obtain ⟨g1, g2⟩ := sx_op_s (E := E) hp
      exact am_stepR hmP hd (Or.inr (Or.inl ⟨rfl, _, g1, g2, g0 rfl hc⟩))
    · cases h
  split at h
  · rename_i _ l0 m lv' st' hp
    split at h
    · rename_i hl
      cases h
      exact am_stepR hmP hd (Or.inr (Or.inr (Or.inl ⟨l0, m, _, _, sx_sto_s hp, hl.1, hl.2, g0 rfl hc⟩)))
    · cases h
  split at h
  · rename_i _ pc' st' M' n' sl' hp
    cases h
    obtain ⟨g1, g2⟩ := sx_hp_s (E := E) (RO := RO) (sa := sa) hok (sx_cv_s hc) hp
    exact am_stepR hmP hd (Or.inr (Or.inr (Or.inr (Or.inr (Or.inl (g2 _ (g0 g1 hc)))))))
  split at h
  · rename_i _ pc' st' hp
    cases h
    exact am_stepR hmP hd (Or.inr (Or.inr (Or.inr (Or.inl (sx_jp_s hc hp _ (g0 rfl hc))))))
  · cases h
  split at h
  · rename_i _ pc' st' M' n' sl' hp
    cases h
    obtain ⟨g1, g2⟩ := sx_nt_s (E := E) (RO := RO) (sa := sa) hc hp
    exact am_stepR hmP hd (Or.inr (Or.inr (Or.inr (Or.inr (Or.inr (Or.inr (Or.inr (g2 _ (g0 g1 hc)))))))))
  · cases h
  split at h
  · rename_i _ z vs r hp
    split at h
    · cases h
    · rename_i _ mz hz0
      have hz : am_meth P z = some mz := hf _ _ hz0
      split at h
      · rename_i hl
        cases h
        obtain ⟨rfl, h1, h2, h3⟩ := hl
        have g := g0 rfl hc
        have hcall := sx_ca_s (sa := sa) (E := E) hp
        refine am_stepR hmP hd (Or.inr (Or.inr (Or.inr (Or.inr (Or.inr (Or.inr (Or.inl ⟨rfl, z, vs.map (sx_v E), r.map (sx_v E), mz, hcall, hz, h1, by rw [sx_sl_s]; exact h2, by rw [sx_ct_s]; exact h3, ?_⟩)))))))
        rw [← sx_args_s] at g
        exact g
      · cases h
  split at h
  · rename_i _ o hp
    split at h
    · cases h
    · rename_i y2 pc2 lv2 st2 fs2
      cases h
      have g := g0 rfl hc
      refine am_stepR hmP hd (Or.inr (Or.inr (Or.inr (Or.inr (Or.inr (Or.inl (sx_rt_s hc hp _ ?_)))))))
      show ∃ k, am_W (sx_P P sa) RO k y2 pc2 (sx_lv E lv2) ((o.map (sx_v E)).toList ++ st2.map (sx_v E)) (sx_mem E Ms) (E.1 + Ms.length) sl (sx_stk (sx_P P sa) RO E Q fs2)
      have e : (o.map (sx_v E)).toList ++ st2.map (sx_v E) = (o.toList ++ st2).map (sx_v E) := by
        cases o <;> rfl
      rw [e]
      exact g
  split at h
  · cases h
  · cases h
theorem sy_Ok_end (hf : sy_mm mm P) (hins : sx_insOk P ins) {fin : Option Term → Nat → Nat → Bool} (hfin : ∀ (o : Option Term) (Ms : sx_M) (sl : Nat), fin o Ms.length sl = true → Q (o.map (sx_v E)) (sx_mem E Ms) (E.1 + Ms.length) sl) {c : sx_G} {o : Option Term} {n' sl' : Nat} (h : sy_one mm P ins rt c = some (.inr (.inr (o, n', sl')))) (hff : fin o n' sl' = true) : sx_Ok P RO sa E Q c := by
  obtain ⟨cs, y, pc, lv, st, fs, Ms, n, sl⟩ := c
  intro hn hc
  subst hn
  unfold sy_one at h
  dsimp only at h
  split at h
  · cases h
  rename_i _ mt hm0
  have hm : am_meth P y = some mt := hf _ _ hm0
  split at h
  · cases h
  rename_i _ i len hd0
  have hd := hins _ _ _ hd0 _ hm
  have hmP : am_meth (sx_P P sa) y = some mt := hm
  split at h
  · split at h <;> cases h
  split at h
  · split at h <;> cases h
  split at h
  · split at h <;> cases h
  split at h
  · cases h
  split at h
  · cases h
  · cases h
  split at h
  · cases h
  · cases h
  split at h
  · split at h
    · cases h
    · split at h <;> cases h
  split at h
  · rename_i _ o2 hp
    split at h
    · cases h
      exact am_stepR hmP hd (Or.inr (Or.inr (Or.inr (Or.inr (Or.inr (Or.inl (sx_rt_s hc hp _ (hfin _ Ms _ hff))))))))
    · cases h
  split at h
  · cases h
  · cases h
theorem sy_Ok_go (hf : sy_mm mm P) (hins : sx_insOk P ins) (hok : sx_ok E rt RO sa) : ∀ {k : Nat} {c c' : sx_G}, sy_go mm P ins rt k c = some c' → sx_Ok P RO sa E Q c' → sx_Ok P RO sa E Q c
  | 0, c, c', h, g => by
    unfold sy_go at h
    cases h
    exact g
  | k + 1, c, c', h, g => by
    unfold sy_go at h
    split at h
    · rename_i _ c2 h1
      exact sy_Ok_one hf hins hok h1 (sy_Ok_go hf hins hok h g)
    · cases h
theorem sy_Ok_run {fin : Option Term → Nat → Nat → Bool} (hf : sy_mm mm P) (hins : sx_insOk P ins) (hok : sx_ok E rt RO sa) (hfin : ∀ (o : Option Term) (Ms : sx_M) (sl : Nat), fin o Ms.length sl = true → Q (o.map (sx_v E)) (sx_mem E Ms) (E.1 + Ms.length) sl) : ∀ {k : Nat} {c : sx_G}, sy_run mm P ins rt fin k c = true → sx_Ok P RO sa E Q c
  | 0, c, h => by
    unfold sy_run at h
    cases h
  | k + 1, c, h => by
    unfold sy_run at h
    split at h
    · cases h
    · rename_i _ c2 h1
      exact sy_Ok_one hf hins hok h1 (sy_Ok_run hf hins hok hfin h)
    · rename_i _ q h1
      rw [Bool.and_eq_true] at h
      exact sx_Ok_ask (sy_Ok_run hf hins hok hfin h.1) (sy_Ok_run hf hins hok hfin h.2)
    · rename_i _ o n sl h1
      exact sy_Ok_end hf hins hfin h1 h
/-- a stretch from one configuration to another -/
def sy_to (mm : Nat → Option am_Meth) (P : am_P) (ins : sx_Ins) (rt : sx_R) (k : Nat) (c d : sx_G) : Bool := match sy_go mm P ins rt k c with
  | some c' => sx_gd c' d
  | none => false
theorem sy_Ok_to (hf : sy_mm mm P) (hins : sx_insOk P ins) (hok : sx_ok E rt RO sa) {k : Nat} {c d : sx_G} (h : sy_to mm P ins rt k c d = true) (g : sx_Ok P RO sa E Q d) : sx_Ok P RO sa E Q c := by
  unfold sy_to at h
  split at h
  · rename_i _ c' h1
    rw [← sx_gd_s h] at g
    exact sy_Ok_go hf hins hok h1 g
  · cases h
end SYR
