/-! the start, with the script told from the static arrays -/
def aRun2 : Prop := ∀ (b L sz : Nat) (xs : Nat → Int32) (sa : Nat → Nat) (RO : am_O), L ≤ 3584 → b < sz → b ≠ sa 0 → b ≠ sa 1 → b ≠ sa 2 → RO b = some (L, xs) → sa 0 < sz → RO (sa 0) = some (3, aV_0) → sa 1 < sz → RO (sa 1) = some (3, aV_1) → sa 2 < sz → RO (sa 2) = some (8, aV_2) → ∃ k M' sz' sl', am_W (aP sa) RO k 561 0 [(0, .ref b)] [] (fun _ => none) sz 0 (am_eq (some (.int 1)) M' sz' sl') ∧ sz' ≤ sz + 600000 ∧ sl' ≤ 7302250
set_option maxHeartbeats 4000000 in
theorem a_start2 (hrun : aRun2) (l : Launch) {p : Program} {e : Env} {s : State} {m : MethodId} {below : List Frame} {meth : Method} {c : Code} {b L : Nat} {xs : Nat → Int32} (hL : L ≤ 3584) (hx : p.tables.exec = Jvm.exec) (hb : c.code = code) (hr : meth.sig.returnType = ret) (hml : c.maxLocals = 4) (hown : s.vm.findClass "SecureLinesLaw" = some m.cls) (hts : ∀ w ∈ lw_tbl, w.before #[Value.ref b] s = true) (hX : va_X b L xs s s.heap) (hbl : b < s.heap.size) (hlocks : meth.locks = false) (hnm : meth.name = x.name) (hgv : (Jvm.Cond.and given_1 narrow_1).before #[Value.ref b] s = true) :
    W p l e room_1 s m #[Value.ref b] below meth c s.heap [] 0 0 (fun t => ∃ o, t.status = .running ∧ Ended t below o ∧ o = .returned (some (.int 1)) ∧ Framed s o t [] 600000 7302250) (entryFrame m ([Value.ref b] : List Value).toArray 4) := by
  obtain ⟨t0, e0, T0, N0⟩ := a_st_0 hgv
  obtain ⟨t1, e1, T1, N1⟩ := a_st_1 hgv
  obtain ⟨t2, e2, T2, N2⟩ := a_st_2 hgv
  have n_b : ∀ (q : Nat), q < s.heap.size → ¬ s.heap.size ≤ q := fun q h => Nat.not_le.mpr h
  obtain ⟨sa, hsa⟩ : ∃ sa : Nat → Nat, sa 0 = t0 ∧ sa 1 = t1 ∧ sa 2 = t2 := ⟨fun i => match i with | 0 => t0 | 1 => t1 | 2 => t2 | _ => 0, rfl, rfl, rfl⟩
  obtain ⟨s0, s1, s2⟩ := hsa
  have n10 : t1 ≠ t0 := am_T_ne T1 T0 (Or.inr ⟨0, by decide, by decide, by intro h; cases h⟩)
  have n20 : t2 ≠ t0 := am_T_ne T2 T0 (Or.inl (by decide))
  have n21 : t2 ≠ t1 := am_T_ne T2 T1 (Or.inl (by decide))
  have r0 : aRO b L xs sa b = some (L, xs) := if_pos rfl
  have l0 : sa 0 < s.heap.size := by
    obtain ⟨c, h, -⟩ := T0
    rw [s0]
    exact (Array.getElem?_eq_some_iff.mp h).1
  have l1 : sa 1 < s.heap.size := by
    obtain ⟨c, h, -⟩ := T1
    rw [s1]
    exact (Array.getElem?_eq_some_iff.mp h).1
  have l2 : sa 2 < s.heap.size := by
    obtain ⟨c, h, -⟩ := T2
    rw [s2]
    exact (Array.getElem?_eq_some_iff.mp h).1
  have q0 : aRO b L xs sa (sa 0) = some (3, aV_0) := by
    unfold aRO
    rw [s0, s1, s2, if_neg (Ne.symm (N0 b rfl)), if_pos rfl]
  have q1 : aRO b L xs sa (sa 1) = some (3, aV_1) := by
    unfold aRO
    rw [s0, s1, s2, if_neg (Ne.symm (N1 b rfl)), if_neg n10, if_pos rfl]
  have q2 : aRO b L xs sa (sa 2) = some (8, aV_2) := by
    unfold aRO
    rw [s0, s1, s2, if_neg (Ne.symm (N2 b rfl)), if_neg n20, if_neg n21, if_pos rfl]
  obtain ⟨k, M', sz', sl', h1, h2, h3⟩ := hrun b L s.heap.size xs sa (aRO b L xs sa) hL hbl (by rw [s0]; exact N0 b rfl) (by rw [s1]; exact N1 b rfl) (by rw [s2]; exact N2 b rfl) r0 l0 q0 l1 q1 l2 q2
  have hTs : ∀ w ∈ am_Ts aT, w.before #[Value.ref b] s = true := fun w hw => hts w (aT_in w (List.mem_filter.mp hw).1)
  have hNw : ∀ w ∈ am_Nw aT, w.before #[Value.ref b] s = true := fun w hw => hts w (aT_in w (List.mem_filter.mp hw).1)
  have G := a_G sa
  have hro : ∀ (a n : Nat) (f : Nat → Int32), aRO b L xs sa a = some (n, f) → va_T .int a n (fun j => .int (f j)) (fun q => s.heap.size ≤ q) s s.heap := by
    intro a n f h
    unfold aRO at h
    by_cases c0 : a = b
    · rw [if_pos c0] at h
      cases h
      rw [c0]
      exact am_X_T hX (n_b b hbl)
    rw [if_neg c0] at h
    by_cases d0 : a = sa 0
    · rw [if_pos d0] at h
      cases h
      rw [d0, s0]
      exact T0
    rw [if_neg d0] at h
    by_cases d1 : a = sa 1
    · rw [if_pos d1] at h
      cases h
      rw [d1, s1]
      exact T1
    rw [if_neg d1] at h
    by_cases d2 : a = sa 2
    · rw [if_pos d2] at h
      cases h
      rw [d2, s2]
      exact T2
    rw [if_neg d2] at h
    cases h
  have hz : ∀ z ∈ am_zs aZn sa, va_Z z.1 z.2.1 z.2.2.1 (.ref z.2.2.2) (fun q => s.heap.size ≤ q) s s.heap := by
    have e : am_zs aZn sa = [("SecureLines$Mill", "BASES", "[I", sa 0), ("SecureLines$Mill", "PRIMES", "[I", sa 1), ("SecureLines$End", "SETTINGS_MOST", "[I", sa 2)] := rfl
    rw [e]
    simp only [List.forall_mem_cons, List.not_mem_nil, false_imp_iff, implies_true, and_true]
    exact ⟨va_Zof (hts _ (aT_in _ (am_at_mem (q := (2, 12)) (by decide +kernel)))) (hTs _ (am_in_s (q := (0, 3)) (by decide +kernel))) (by rw [s0]; exact e0) n_b, va_Zof (hts _ (aT_in _ (am_at_mem (q := (2, 14)) (by decide +kernel)))) (hTs _ (am_in_s (q := (0, 3)) (by decide +kernel))) (by rw [s1]; exact e1) n_b, va_Zof (hts _ (aT_in _ (am_at_mem (q := (3, 188)) (by decide +kernel)))) (hTs _ (am_in_s (q := (0, 11)) (by decide +kernel))) (by rw [s2]; exact e2) n_b⟩
  obtain ⟨D, ca, hW⟩ := am_wo (P := aP sa) (RO := aRO b L xs sa) G hTs hNw a_kd a_as hz hro
  have hl := lv_entry [Value.ref b] (n := 4) (Nat.le_add_left 1 3)
  rw [lg_entry_eq]
  intro T hT X
  obtain ⟨t, g1, g2⟩ := am_sim (D := D) (A := fun q => s.heap.size ≤ q) (ca := ca) G l k 561 0 _ [] (fun _ => none) s.heap.size 0 _ M' sz' sl' h1 _ (a_lm sa) p e room_1 s m #[Value.ref b] below meth c s.heap [] _ 0 0 _ _ ⟨hx, hb, hml, hown, hTs, hnm, hr, hlocks, hW⟩ (fun a e h => by cases h) rfl va_S.rf hl rfl rfl (by show 0 + (sz' - s.heap.size) ≤ 600000; omega) (by show 0 + (sl' - 0) ≤ 7302250; omega) (by decide) (by decide) T hT X
  exact ⟨t, g1, am_fin g2 (by omega) (by omega)⟩
