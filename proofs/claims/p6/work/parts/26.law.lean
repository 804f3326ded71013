/-! AM: the law of this claim, from its entry, out of a run of the abstract machine -/
def aV_0 : Nat → Int32 := fun j => match j with
  | 0 => 7
  | 1 => 2
  | 2 => 2
  | _ => 0
set_option maxRecDepth 100000 in
set_option maxHeartbeats 4000000 in
theorem a_st_0 {args : Array Value} {s : State} (h : (Jvm.Cond.and given_1 narrow_1).before args s = true) : ∃ t : Nat, (Term.static "SecureLines$Mill" "BASES" "[I").eval args s none [] s = some (.ref t) ∧ va_T .int t 3 (fun j => .int (aV_0 j)) (fun q => s.heap.size ≤ q) s s.heap ∧ ∀ b : Nat, args = #[.ref b] → b ≠ t := by
  have hs := flat_of_before _ h
  obtain ⟨t, h1, h2⟩ := va_Tof (tm := (Term.static "SecureLines$Mill" "BASES" "[I")) (ty := .int) (N := 3) (f := fun j => .int (aV_0 j)) (A := fun q => s.heap.size ≤ q) (by decide) (hs (.arrayOf (Term.static "SecureLines$Mill" "BASES" "[I") .int) (by decide +kernel)) (Cond.eq_int (hs (.eq (.length (Term.static "SecureLines$Mill" "BASES" "[I")) (.int 3)) (by decide +kernel)) rfl) (fun j hj => match j, hj with
    | 0, _ => Cond.eq_int (hs (.eq (.elem (Term.static "SecureLines$Mill" "BASES" "[I") (.int 0)) (.int 7)) (by decide +kernel)) rfl
    | 1, _ => Cond.eq_int (hs (.eq (.elem (Term.static "SecureLines$Mill" "BASES" "[I") (.int 1)) (.int 2)) (by decide +kernel)) rfl
    | 2, _ => Cond.eq_int (hs (.eq (.elem (Term.static "SecureLines$Mill" "BASES" "[I") (.int 2)) (.int 2)) (by decide +kernel)) rfl
    | k + 3, h => absurd h (by omega)) (fun a h1 h2 => by omega)
  refine ⟨t, h1, h2, fun b hb he => ?_⟩
  have h3 := hs (.not (.eq (.arg 0) (Term.static "SecureLines$Mill" "BASES" "[I"))) (by decide +kernel)
  subst hb
  subst he
  have h4 : (Term.arg 0).eval #[.ref b] s none [] s = some (.ref b) := rfl
  simp only [Cond.before, Cond.holds, Cond.value, h1, h4] at h3
  simp at h3
def aV_1 : Nat → Int32 := fun j => match j with
  | 0 => 2147483647
  | 1 => 2147483629
  | 2 => 2147483587
  | _ => 0
set_option maxRecDepth 100000 in
set_option maxHeartbeats 4000000 in
theorem a_st_1 {args : Array Value} {s : State} (h : (Jvm.Cond.and given_1 narrow_1).before args s = true) : ∃ t : Nat, (Term.static "SecureLines$Mill" "PRIMES" "[I").eval args s none [] s = some (.ref t) ∧ va_T .int t 3 (fun j => .int (aV_1 j)) (fun q => s.heap.size ≤ q) s s.heap ∧ ∀ b : Nat, args = #[.ref b] → b ≠ t := by
  have hs := flat_of_before _ h
  obtain ⟨t, h1, h2⟩ := va_Tof (tm := (Term.static "SecureLines$Mill" "PRIMES" "[I")) (ty := .int) (N := 3) (f := fun j => .int (aV_1 j)) (A := fun q => s.heap.size ≤ q) (by decide) (hs (.arrayOf (Term.static "SecureLines$Mill" "PRIMES" "[I") .int) (by decide +kernel)) (Cond.eq_int (hs (.eq (.length (Term.static "SecureLines$Mill" "PRIMES" "[I")) (.int 3)) (by decide +kernel)) rfl) (fun j hj => match j, hj with
    | 0, _ => Cond.eq_int (hs (.eq (.elem (Term.static "SecureLines$Mill" "PRIMES" "[I") (.int 0)) (.int 2147483647)) (by decide +kernel)) rfl
    | 1, _ => Cond.eq_int (hs (.eq (.elem (Term.static "SecureLines$Mill" "PRIMES" "[I") (.int 1)) (.int 2147483629)) (by decide +kernel)) rfl
    | 2, _ => Cond.eq_int (hs (.eq (.elem (Term.static "SecureLines$Mill" "PRIMES" "[I") (.int 2)) (.int 2147483587)) (by decide +kernel)) rfl
    | k + 3, h => absurd h (by omega)) (fun a h1 h2 => by omega)
  refine ⟨t, h1, h2, fun b hb he => ?_⟩
  have h3 := hs (.not (.eq (.arg 0) (Term.static "SecureLines$Mill" "PRIMES" "[I"))) (by decide +kernel)
  subst hb
  subst he
  have h4 : (Term.arg 0).eval #[.ref b] s none [] s = some (.ref b) := rfl
  simp only [Cond.before, Cond.holds, Cond.value, h1, h4] at h3
  simp at h3
def aV_2 : Nat → Int32 := fun j => match j with
  | 0 => 1
  | 1 => 2
  | 2 => 3
  | 3 => 10000
  | 4 => 400
  | 5 => 1
  | 6 => 1
  | 7 => 100
  | _ => 0
set_option maxRecDepth 100000 in
set_option maxHeartbeats 4000000 in
theorem a_st_2 {args : Array Value} {s : State} (h : (Jvm.Cond.and given_1 narrow_1).before args s = true) : ∃ t : Nat, (Term.static "SecureLines$End" "SETTINGS_MOST" "[I").eval args s none [] s = some (.ref t) ∧ va_T .int t 8 (fun j => .int (aV_2 j)) (fun q => s.heap.size ≤ q) s s.heap ∧ ∀ b : Nat, args = #[.ref b] → b ≠ t := by
  have hs := flat_of_before _ h
  obtain ⟨t, h1, h2⟩ := va_Tof (tm := (Term.static "SecureLines$End" "SETTINGS_MOST" "[I")) (ty := .int) (N := 8) (f := fun j => .int (aV_2 j)) (A := fun q => s.heap.size ≤ q) (by decide) (hs (.arrayOf (Term.static "SecureLines$End" "SETTINGS_MOST" "[I") .int) (by decide +kernel)) (Cond.eq_int (hs (.eq (.length (Term.static "SecureLines$End" "SETTINGS_MOST" "[I")) (.int 8)) (by decide +kernel)) rfl) (fun j hj => match j, hj with
    | 0, _ => Cond.eq_int (hs (.eq (.elem (Term.static "SecureLines$End" "SETTINGS_MOST" "[I") (.int 0)) (.int 1)) (by decide +kernel)) rfl
    | 1, _ => Cond.eq_int (hs (.eq (.elem (Term.static "SecureLines$End" "SETTINGS_MOST" "[I") (.int 1)) (.int 2)) (by decide +kernel)) rfl
    | 2, _ => Cond.eq_int (hs (.eq (.elem (Term.static "SecureLines$End" "SETTINGS_MOST" "[I") (.int 2)) (.int 3)) (by decide +kernel)) rfl
    | 3, _ => Cond.eq_int (hs (.eq (.elem (Term.static "SecureLines$End" "SETTINGS_MOST" "[I") (.int 3)) (.int 10000)) (by decide +kernel)) rfl
    | 4, _ => Cond.eq_int (hs (.eq (.elem (Term.static "SecureLines$End" "SETTINGS_MOST" "[I") (.int 4)) (.int 400)) (by decide +kernel)) rfl
    | 5, _ => Cond.eq_int (hs (.eq (.elem (Term.static "SecureLines$End" "SETTINGS_MOST" "[I") (.int 5)) (.int 1)) (by decide +kernel)) rfl
    | 6, _ => Cond.eq_int (hs (.eq (.elem (Term.static "SecureLines$End" "SETTINGS_MOST" "[I") (.int 6)) (.int 1)) (by decide +kernel)) rfl
    | 7, _ => Cond.eq_int (hs (.eq (.elem (Term.static "SecureLines$End" "SETTINGS_MOST" "[I") (.int 7)) (.int 100)) (by decide +kernel)) rfl
    | k + 8, h => absurd h (by omega)) (fun a h1 h2 => by omega)
  refine ⟨t, h1, h2, fun b hb he => ?_⟩
  have h3 := hs (.not (.eq (.arg 0) (Term.static "SecureLines$End" "SETTINGS_MOST" "[I"))) (by decide +kernel)
  subst hb
  subst he
  have h4 : (Term.arg 0).eval #[.ref b] s none [] s = some (.ref b) := rfl
  simp only [Cond.before, Cond.holds, Cond.value, h1, h4] at h3
  simp at h3
/-- what a run may read besides what it makes: the script and the static arrays -/
def aRO (b L : Nat) (xs : Nat → Int32) (sa : Nat → Nat) : am_O := fun a => if a = b then some (L, xs) else if a = sa 0 then some (3, aV_0) else if a = sa 1 then some (3, aV_1) else if a = sa 2 then some (8, aV_2) else none
def aRun : Prop := ∀ (b L sz : Nat) (xs : Nat → Int32) (sa : Nat → Nat) (RO : am_O), L ≤ 3584 → b < sz → RO b = some (L, xs) → sa 0 < sz → RO (sa 0) = some (3, aV_0) → sa 1 < sz → RO (sa 1) = some (3, aV_1) → sa 2 < sz → RO (sa 2) = some (8, aV_2) → ∃ k M' sz' sl', am_W (aP sa) RO k 561 0 [(0, .ref b)] [] (fun _ => none) sz 0 (am_eq (some (.int 1)) M' sz' sl') ∧ sz' ≤ sz + 600000 ∧ sl' ≤ 7302250
theorem am_T_ne {t t2 N N2 : Nat} {f f2 : Nat → Value} {A : Nat → Prop} {U : State} {H : Heap} (h : va_T .int t N f A U H) (h2 : va_T .int t2 N2 f2 A U H) (hd : Int32.ofNat N ≠ Int32.ofNat N2 ∨ ∃ j, j < N ∧ j < N2 ∧ f j ≠ f2 j) : t ≠ t2 := by
  intro e
  subst e
  obtain ⟨c1, a1, -, -, -, a5, a6, -⟩ := h
  obtain ⟨c2, b1, -, -, -, b5, b6, -⟩ := h2
  have e : c1 = c2 := Option.some.inj (a1.symm.trans b1)
  subst e
  rcases hd with hd | ⟨j, h1, h2, h3⟩
  · exact hd (a5.symm.trans b5)
  · exact h3 (Option.some.inj ((a6 j h1).symm.trans (b6 j h2)))
theorem am_X_T {b L : Nat} {xs : Nat → Int32} {A : Nat → Prop} {U : State} {H : Heap} (h : va_X b L xs U H) (hA : ¬ A b) : va_T .int b L (fun j => .int (xs j)) A U H := by
  obtain ⟨c, h1, h2, h3, h4, h5⟩ := h
  exact ⟨c, h1, h2, h3, Nat.le_of_eq h4.symm, (by rw [h4]), h5, hA⟩
set_option maxHeartbeats 4000000 in
theorem a_kd {sa : Nat → Nat} : ∀ (t : Nat) (ty : FieldType), (am_kd (aP sa))[t]? = some ty → (Cond.arrayClass ty ∈ am_Ts aT ∧ (∀ n, ty ≠ .object n) ∧ ∀ t, ty ≠ .array t) ∨ (Cond.arrayOver ty ∈ am_Nw aT ∧ ((∃ n, ty = .object n) ∨ ∃ t, ty = .array t)) := by
  intro t ty h
  have h1 : ty ∈ aKd := List.mem_of_getElem? h
  unfold aKd at h1
  simp only [List.mem_cons, List.not_mem_nil, or_false] at h1
  rcases h1 with rfl | rfl | rfl | rfl | rfl | rfl | rfl | rfl | rfl | rfl | rfl | rfl
  · exact Or.inl ⟨am_in_s (q := (0, 88)) (by decide +kernel), fun n h => (by cases h), fun t h => (by cases h)⟩
  · exact Or.inl ⟨am_in_s (q := (1, 77)) (by decide +kernel), fun n h => (by cases h), fun t h => (by cases h)⟩
  · exact Or.inl ⟨am_in_s (q := (12, 51)) (by decide +kernel), fun n h => (by cases h), fun t h => (by cases h)⟩
  · exact Or.inr ⟨am_inN_s (q := (1, 21)) (by decide +kernel), Or.inr ⟨_, rfl⟩⟩
  · exact Or.inr ⟨am_inN_s (q := (3, 82)) (by decide +kernel), Or.inr ⟨_, rfl⟩⟩
  · exact Or.inr ⟨am_inN_s (q := (1, 14)) (by decide +kernel), Or.inl ⟨_, rfl⟩⟩
  · exact Or.inr ⟨am_inN_s (q := (4, 68)) (by decide +kernel), Or.inl ⟨_, rfl⟩⟩
  · exact Or.inr ⟨am_inN_s (q := (1, 18)) (by decide +kernel), Or.inl ⟨_, rfl⟩⟩
  · exact Or.inr ⟨am_inN_s (q := (0, 115)) (by decide +kernel), Or.inl ⟨_, rfl⟩⟩
  · exact Or.inr ⟨am_inN_s (q := (1, 19)) (by decide +kernel), Or.inl ⟨_, rfl⟩⟩
  · exact Or.inr ⟨am_inN_s (q := (3, 86)) (by decide +kernel), Or.inl ⟨_, rfl⟩⟩
  · exact Or.inr ⟨am_inN_s (q := (1, 16)) (by decide +kernel), Or.inl ⟨_, rfl⟩⟩
theorem a_as {sa : Nat → Nat} : ∀ t t2, am_asA (aP sa) t t2 = true → ∃ ty, (am_kd (aP sa))[t]? = some (.array ty) ∧ (am_kd (aP sa))[t2]? = some ty := by
  intro t t2 h
  have h1 : aLB.any (fun q => q.1 == t && q.2 == t2) = true := h
  obtain ⟨q, h2, h3⟩ := List.any_eq_true.mp h1
  simp only [Bool.and_eq_true, beq_iff_eq] at h3
  unfold aLB at h2
  simp only [List.mem_cons, List.not_mem_nil, or_false] at h2
  subst h2
  obtain ⟨rfl, rfl⟩ := h3
  exact ⟨_, rfl, rfl⟩
set_option maxRecDepth 100000 in
theorem a_lm (sa : Nat → Nat) : am_meth (aP sa) 561 = some aM_561.1 := rfl
set_option maxHeartbeats 4000000 in
theorem a_start (hrun : aRun) (l : Launch) {p : Program} {e : Env} {s : State} {m : MethodId} {below : List Frame} {meth : Method} {c : Code} {b L : Nat} {xs : Nat → Int32} (hL : L ≤ 3584) (hx : p.tables.exec = Jvm.exec) (hb : c.code = code) (hr : meth.sig.returnType = ret) (hml : c.maxLocals = 4) (hown : s.vm.findClass "SecureLinesLaw" = some m.cls) (hts : ∀ w ∈ lw_tbl, w.before #[Value.ref b] s = true) (hX : va_X b L xs s s.heap) (hbl : b < s.heap.size) (hlocks : meth.locks = false) (hnm : meth.name = x.name) (hgv : (Jvm.Cond.and given_1 narrow_1).before #[Value.ref b] s = true) :
    W p l e room_1 s m #[Value.ref b] below meth c s.heap [] 0 0 (fun t => ∃ o, t.status = .running ∧ Ended t below o ∧ o = .returned (some (.int 1)) ∧ Framed s o t [] 600000 7302250) (entryFrame m ([Value.ref b] : List Value).toArray 4) := by
  obtain ⟨t0, e0, T0, N0⟩ := a_st_0 hgv
  obtain ⟨t1, e1, T1, N1⟩ := a_st_1 hgv
  obtain ⟨t2, e2, T2, N2⟩ := a_st_2 hgv
  have n_b : ∀ (q : Nat), q < s.heap.size → ¬ s.heap.size ≤ q := fun q h => Nat.not_le.mpr h
  obtain ⟨sa, hsa⟩ : ∃ sa : Nat → Nat, sa 0 = t0 ∧ sa 1 = t1 ∧ sa 2 = t2 := ⟨fun i => match i with | 0 => t0 | 1 => t1 | 2 => t2 | _ => 0, rfl, rfl, rfl⟩
  obtain ⟨s0, s1, s2⟩ := hsa
  have n10 : t1 ≠ t0 := am_T_ne T1 T0 (Or.inr ⟨0, by decide, by decide, by intro h; cases h⟩)
  have n20 : t2 ≠ t0 := am_T_ne T2 T0 (Or.inl (by decide))
  have n21 : t2 ≠ t1 := am_T_ne T2 T1 (Or.inl (by decide))
  have r0 : aRO b L xs sa b = some (L, xs) := if_pos rfl
  have l0 : sa 0 < s.heap.size := by
    obtain ⟨c, h, -⟩ := T0
    rw [s0]
    exact (Array.getElem?_eq_some_iff.mp h).1
  have l1 : sa 1 < s.heap.size := by
    obtain ⟨c, h, -⟩ := T1
    rw [s1]
    exact (Array.getElem?_eq_some_iff.mp h).1
  have l2 : sa 2 < s.heap.size := by
    obtain ⟨c, h, -⟩ := T2
    rw [s2]
    exact (Array.getElem?_eq_some_iff.mp h).1
  have q0 : aRO b L xs sa (sa 0) = some (3, aV_0) := by
    unfold aRO
    rw [s0, s1, s2, if_neg (Ne.symm (N0 b rfl)), if_pos rfl]
  have q1 : aRO b L xs sa (sa 1) = some (3, aV_1) := by
    unfold aRO
    rw [s0, s1, s2, if_neg (Ne.symm (N1 b rfl)), if_neg n10, if_pos rfl]
  have q2 : aRO b L xs sa (sa 2) = some (8, aV_2) := by
    unfold aRO
    rw [s0, s1, s2, if_neg (Ne.symm (N2 b rfl)), if_neg n20, if_neg n21, if_pos rfl]
  obtain ⟨k, M', sz', sl', h1, h2, h3⟩ := hrun b L s.heap.size xs sa (aRO b L xs sa) hL hbl r0 l0 q0 l1 q1 l2 q2
  have hTs : ∀ w ∈ am_Ts aT, w.before #[Value.ref b] s = true := fun w hw => hts w (aT_in w (List.mem_filter.mp hw).1)
  have hNw : ∀ w ∈ am_Nw aT, w.before #[Value.ref b] s = true := fun w hw => hts w (aT_in w (List.mem_filter.mp hw).1)
  have G := a_G sa
  have hro : ∀ (a n : Nat) (f : Nat → Int32), aRO b L xs sa a = some (n, f) → va_T .int a n (fun j => .int (f j)) (fun q => s.heap.size ≤ q) s s.heap := by
    intro a n f h
    unfold aRO at h
    by_cases c0 : a = b
    · rw [if_pos c0] at h
      cases h
      rw [c0]
      exact am_X_T hX (n_b b hbl)
    rw [if_neg c0] at h
    by_cases d0 : a = sa 0
    · rw [if_pos d0] at h
      cases h
      rw [d0, s0]
      exact T0
    rw [if_neg d0] at h
    by_cases d1 : a = sa 1
    · rw [if_pos d1] at h
      cases h
      rw [d1, s1]
      exact T1
    rw [if_neg d1] at h
    by_cases d2 : a = sa 2
    · rw [if_pos d2] at h
      cases h
      rw [d2, s2]
      exact T2
    rw [if_neg d2] at h
    cases h
  have hz : ∀ z ∈ am_zs aZn sa, va_Z z.1 z.2.1 z.2.2.1 (.ref z.2.2.2) (fun q => s.heap.size ≤ q) s s.heap := by
    have e : am_zs aZn sa = [("SecureLines$Mill", "BASES", "[I", sa 0), ("SecureLines$Mill", "PRIMES", "[I", sa 1), ("SecureLines$End", "SETTINGS_MOST", "[I", sa 2)] := rfl
    rw [e]
    simp only [List.forall_mem_cons, List.not_mem_nil, false_imp_iff, implies_true, and_true]
    exact ⟨va_Zof (hts _ (aT_in _ (am_at_mem (q := (2, 12)) (by decide +kernel)))) (hTs _ (am_in_s (q := (0, 3)) (by decide +kernel))) (by rw [s0]; exact e0) n_b, va_Zof (hts _ (aT_in _ (am_at_mem (q := (2, 14)) (by decide +kernel)))) (hTs _ (am_in_s (q := (0, 3)) (by decide +kernel))) (by rw [s1]; exact e1) n_b, va_Zof (hts _ (aT_in _ (am_at_mem (q := (3, 188)) (by decide +kernel)))) (hTs _ (am_in_s (q := (0, 11)) (by decide +kernel))) (by rw [s2]; exact e2) n_b⟩
  obtain ⟨D, ca, hW⟩ := am_wo (P := aP sa) (RO := aRO b L xs sa) G hTs hNw a_kd a_as hz hro
  have hl := lv_entry [Value.ref b] (n := 4) (Nat.le_add_left 1 3)
  rw [lg_entry_eq]
  intro T hT X
  obtain ⟨t, g1, g2⟩ := am_sim (D := D) (A := fun q => s.heap.size ≤ q) (ca := ca) G l k 561 0 _ [] (fun _ => none) s.heap.size 0 _ M' sz' sl' h1 _ (a_lm sa) p e room_1 s m #[Value.ref b] below meth c s.heap [] _ 0 0 _ _ ⟨hx, hb, hml, hown, hTs, hnm, hr, hlocks, hW⟩ (fun a e h => by cases h) rfl va_S.rf hl rfl rfl (by show 0 + (sz' - s.heap.size) ≤ 600000; omega) (by show 0 + (sl' - 0) ≤ 7302250; omega) (by decide) (by decide) T hT X
  exact ⟨t, g1, am_fin g2 (by omega) (by omega)⟩
