/-! SX: the runner, and that what it finds is so -/
abbrev sx_Fr : Type := Nat × Nat × sx_L × List Term
/-- a term that should be known: the first of these that is not -/
def sx_wt (cs : List sx_Q) (ts : List Term) : Option (Nat × Term × Term) := ts.findSome? (fun t => if sx_k t = 0 ∧ sx_cv cs t = none ∧ (sx_rg0 cs t).2 - (sx_rg0 cs t).1 ≤ 130 then some (1, t, .int (Int32.ofInt (sx_rg0 cs t).1)) else none)
def sx_nd (cs : List sx_Q) (i : Instr) (st : List Term) : Option (Nat × Term × Term) := match i with
  | .iaload | .baload | .laload | .aaload | .newarray _ | .anewarray _ | .ireturn => sx_wt cs (st.take 1)
  | .iastore | .lastore | .aastore => sx_wt cs ((st.drop 1).take 1)
  | .bastore | .multianewarray _ _ => sx_wt cs (st.take 2)
  | .invokestatic _ => sx_wt cs (st.take 4)
  | _ => none
def sx_run (P : am_P) (rt : sx_R) (fin : Option Term → Nat → Nat → Bool) : Nat → List sx_Q → Nat → Nat → sx_L → List Term → List sx_Fr → sx_M → Nat → Nat → Bool
  | 0, _, _, _, _, _, _, _, _, _ => false
  | k + 1, cs, y, pc, lv, st, fs, Ms, n, sl => match am_meth P y with
    | none => false
    | some mt => match decode mt.2.1 pc with
      | .error _ => false
      | .ok (i, len) => match sx_push (am_cst P mt.2.2.2.2.2.2) i lv with
        | some (l0, v) => decide (l0 = len) && sx_run P rt fin k cs y (pc + len) lv (v :: st) fs Ms n sl
        | none => match sx_op i st with
          | some st' => decide (len = 1) && sx_run P rt fin k cs y (pc + 1) lv st' fs Ms n sl
          | none => match sx_sto i lv st with
            | some (l0, m, lv', st') => decide (m ≤ mt.2.2.1 ∧ (len = l0 ∨ (l0 = 3 ∧ len = 6))) && sx_run P rt fin k cs y (pc + len) lv' st' fs Ms n sl
            | none => match sx_hp P rt (sx_cv cs) mt.2.2.2.2.2.2 (mt.1.name == "<init>") i len pc st Ms n sl with
              | some (pc', st', M', n', sl') => sx_run P rt fin k cs y pc' lv st' fs M' n' sl'
              | none => match sx_jp cs i len pc st with
                | some (.inl (pc', st')) => sx_run P rt fin k cs y pc' lv st' fs Ms n sl
                | some (.inr q) => sx_run P rt fin k ((true, q) :: cs) y pc lv st fs Ms n sl && sx_run P rt fin k ((false, q) :: cs) y pc lv st fs Ms n sl
                | none => match sx_nt P cs mt i len pc st Ms n sl with
                  | some (.inl (pc', st', M', n', sl')) => sx_run P rt fin k cs y pc' lv st' fs M' n' sl'
                  | some (.inr q) => sx_run P rt fin k ((true, q) :: cs) y pc lv st fs Ms n sl && sx_run P rt fin k ((false, q) :: cs) y pc lv st fs Ms n sl
                  | none => match sx_ca P mt.2.2.2.2.2.2 i st Ms n with
                    | some (z, vs, r) => (match am_meth P z with
                      | none => false
                      | some mz => decide (len = 3 ∧ (mz.2.2.2.2.1 + 1 ≤ mt.2.2.2.2.1 ∧ 8 + (mz.2.2.1 + 11) + mz.2.2.2.2.2.1 ≤ mt.2.2.2.2.2.1) ∧ sx_ct vs ≤ mz.2.2.1 ∧ sx_ct r ≤ 8) && sx_run P rt fin k cs z 0 (sx_args 0 vs) [] ((y, pc + 3, lv, r) :: fs) Ms n sl)
                    | none => match sx_rt cs mt i len st with
                      | some o => (match fs with
                        | [] => fin o n sl
                        | (y2, pc2, lv2, st2) :: fs2 => sx_run P rt fin k cs y2 pc2 lv2 (o.toList ++ st2) fs2 Ms n sl)
                      | none => match sx_nd cs i st with
                        | some q => sx_run P rt fin k ((true, q) :: cs) y pc lv st fs Ms n sl && sx_run P rt fin k ((false, q) :: cs) y pc lv st fs Ms n sl
                        | none => false
/-- what comes behind the innermost frame's end -/
def sx_stk (P : am_P) (RO : am_O) (E : sx_E) (Q : am_Q) : List sx_Fr → am_Q
  | [] => Q
  | (y, pc, lv, st) :: fs => fun v M z l => ∃ k, am_W P RO k y pc (sx_lv E lv) (v.toList ++ st.map (sx_v E)) M z l (sx_stk P RO E Q fs)
theorem am_stepR {P : am_P} {RO : am_O} {y pc : Nat} {lv : am_L} {st : List Value} {M : am_H} {sz sl : Nat} {Q : am_Q} {mt : am_Meth} {i : Instr} {len : Nat} (hm : am_meth P y = some mt) (hd : decode mt.2.1 pc = .ok (i, len))
    (h : am_step P RO mt i len pc lv st M sz sl (fun pc' lv' st' M' z' l' => ∃ k, am_W P RO k y pc' lv' st' M' z' l' Q) (fun z vs M' z' l' Q' => ∃ k, am_W P RO k z 0 (lv_args 0 vs) [] M' z' l' Q') Q) : ∃ k, am_W P RO k y pc lv st M sz sl Q := by
  rcases am_step_c h with ⟨pc', lv', st', M', z', l', ⟨k, h1⟩, -, -, h2⟩ | ⟨z, vs, r, ⟨k, h1⟩, h2⟩ | ⟨v, h1, h2⟩
  · exact ⟨k + 1, mt, hm, i, len, hd, h2 _ _ _ h1⟩
  · obtain ⟨v, M', z', l', g1, ⟨k2, g2⟩, g3, g4⟩ := am_det _ _ _ _ _ _ _ _ _ h1
    refine ⟨max k k2 + 1, mt, hm, i, len, hd, h2 _ _ _ ?_⟩
    refine am_mono _ _ _ _ _ _ _ _ _ _ ?_ (am_le (Nat.le_max_left k k2) g1)
    intro v1 M1 z1 l1 e
    obtain ⟨rfl, rfl, rfl, rfl⟩ := e
    exact am_le (Nat.le_max_right k k2) g2
  · exact ⟨1, mt, hm, i, len, hd, h2 _ _ _ h1⟩
set_option maxHeartbeats 2000000 in
theorem sx_run_s {P : am_P} {rt : sx_R} {fin : Option Term → Nat → Nat → Bool} {E : sx_E} {RO : am_O} {sa : Nat → Nat} (hok : sx_ok E rt RO sa) {Q : am_Q} (hfin : ∀ (o : Option Term) (Ms : sx_M) (sl : Nat), fin o Ms.length sl = true → Q (o.map (sx_v E)) (sx_mem E Ms) (E.1 + Ms.length) sl) :
    ∀ (k : Nat) (cs : List sx_Q) (y pc : Nat) (lv : sx_L) (st : List Term) (fs : List sx_Fr) (Ms : sx_M) (n sl : Nat), sx_run P rt fin k cs y pc lv st fs Ms n sl = true → Ms.length = n → (∀ q ∈ cs, sx_h E q) →
      ∃ k', am_W (sx_P P sa) RO k' y pc (sx_lv E lv) (st.map (sx_v E)) (sx_mem E Ms) (E.1 + n) sl (sx_stk (sx_P P sa) RO E Q fs)
  | 0, _, _, _, _, _, _, _, _, _, h, _, _ => by
    unfold sx_run at h
    cases h
  | k + 1, cs, y, pc, lv, st, fs, Ms, n, sl, h, hn, hc => by
    have ih := sx_run_s hok hfin (P := P) (rt := rt) k
    have fork : ∀ q : Nat × Term × Term, (sx_run P rt fin k ((true, q) :: cs) y pc lv st fs Ms n sl && sx_run P rt fin k ((false, q) :: cs) y pc lv st fs Ms n sl) = true → ∃ k', am_W (sx_P P sa) RO k' y pc (sx_lv E lv) (st.map (sx_v E)) (sx_mem E Ms) (E.1 + n) sl (sx_stk (sx_P P sa) RO E Q fs) := by
      intro q hq
      rw [Bool.and_eq_true] at hq
      cases hb : sx_hq E q.1 q.2.1 q.2.2 with
      | true => exact ih _ _ _ _ _ _ _ _ _ hq.1 hn (fun p hp => by
          rcases List.mem_cons.mp hp with rfl | hp
          · exact hb
          · exact hc p hp)
      | false => exact ih _ _ _ _ _ _ _ _ _ hq.2 hn (fun p hp => by
          rcases List.mem_cons.mp hp with rfl | hp
          · exact hb
          · exact hc p hp)
    subst hn
    unfold sx_run at h
    split at h
    · cases h
    rename_i _ mt hm
    split at h
    · cases h
    rename_i _ i len hd
    have hmP : am_meth (sx_P P sa) y = some mt := hm
    split at h
    · rename_i _ l0 v hp
      rw [Bool.and_eq_true, decide_eq_true_iff] at h
      obtain ⟨rfl, h⟩ := h
      have g := ih _ _ _ _ _ _ _ _ _ h rfl hc
      exact am_stepR hmP hd (Or.inl ⟨_, sx_push_s hp, g⟩)
    split at h
    · rename_i _ st' hp
      rw [Bool.and_eq_true, decide_eq_true_iff] at h
      obtain ⟨rfl, h⟩ := h
      have g := ih _ _ _ _ _ _ _ _ _ h rfl hc
      obtain ⟨g1, g2⟩ := sx_op_s (E := E) hp
      exact am_stepR hmP hd (Or.inr (Or.inl ⟨rfl, _, g1, g2, g⟩))
    split at h
    · rename_i _ l0 m lv' st' hp
      rw [Bool.and_eq_true, decide_eq_true_iff] at h
      obtain ⟨h0, h⟩ := h
      have g := ih _ _ _ _ _ _ _ _ _ h rfl hc
      exact am_stepR hmP hd (Or.inr (Or.inr (Or.inl ⟨l0, m, _, _, sx_sto_s hp, h0.1, h0.2, g⟩)))
    split at h
    · rename_i _ pc' st' M' n' sl' hp
      obtain ⟨g1, g2⟩ := sx_hp_s (E := E) (RO := RO) (sa := sa) hok (sx_cv_s hc) hp
      have g := ih _ _ _ _ _ _ _ _ _ h g1 hc
      exact am_stepR hmP hd (Or.inr (Or.inr (Or.inr (Or.inr (Or.inl (g2 _ g))))))
    split at h
    · rename_i _ pc' st' hp
      have g := ih _ _ _ _ _ _ _ _ _ h rfl hc
      exact am_stepR hmP hd (Or.inr (Or.inr (Or.inr (Or.inl (sx_jp_s hc hp _ g)))))
    · exact fork _ h
    split at h
    · rename_i _ pc' st' M' n' sl' hp
      obtain ⟨g1, g2⟩ := sx_nt_s (E := E) (RO := RO) (sa := sa) hc hp
      have g := ih _ _ _ _ _ _ _ _ _ h g1 hc
      exact am_stepR hmP hd (Or.inr (Or.inr (Or.inr (Or.inr (Or.inr (Or.inr (Or.inr (g2 _ g))))))))
    · exact fork _ h
    split at h
    · rename_i _ z vs r hp
      split at h
      · cases h
      · rename_i _ mz hz
        rw [Bool.and_eq_true, decide_eq_true_iff] at h
        obtain ⟨⟨rfl, h1, h2, h3⟩, h⟩ := h
        have g := ih _ _ _ _ _ _ _ _ _ h rfl hc
        have hcall := sx_ca_s (sa := sa) (E := E) hp
        refine am_stepR hmP hd (Or.inr (Or.inr (Or.inr (Or.inr (Or.inr (Or.inr (Or.inl ⟨rfl, z, vs.map (sx_v E), r.map (sx_v E), mz, hcall, hz, h1, by rw [sx_sl_s]; exact h2, by rw [sx_ct_s]; exact h3, ?_⟩)))))))
        rw [← sx_args_s] at g
        exact g
    split at h
    · rename_i _ o hp
      split at h
      · exact am_stepR hmP hd (Or.inr (Or.inr (Or.inr (Or.inr (Or.inr (Or.inl (sx_rt_s hc hp _ (hfin o Ms sl h))))))))
      · rename_i y2 pc2 lv2 st2 fs2
        have g := ih _ _ _ _ _ _ _ _ _ h rfl hc
        refine am_stepR hmP hd (Or.inr (Or.inr (Or.inr (Or.inr (Or.inr (Or.inl (sx_rt_s hc hp _ ?_)))))))
        show ∃ k, am_W (sx_P P sa) RO k y2 pc2 (sx_lv E lv2) ((o.map (sx_v E)).toList ++ st2.map (sx_v E)) (sx_mem E Ms) (E.1 + Ms.length) sl (sx_stk (sx_P P sa) RO E Q fs2)
        have e : (o.map (sx_v E)).toList ++ st2.map (sx_v E) = (o.toList ++ st2).map (sx_v E) := by
          cases o <;> rfl
        rw [e]
        exact g
    split at h
    · exact fork _ h
    · cases h
