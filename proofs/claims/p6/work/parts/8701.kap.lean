/-! the kinds at the law's start: the script and the static arrays -/
def fin_k (b : Nat) (sa : Nat → Nat) (kS k0 k1 k2 : Nat) : Nat → Option Nat := fun a => if a = b then some kS else if a = sa 0 then some k0 else if a = sa 1 then some k1 else if a = sa 2 then some k2 else none
theorem fin_k_b {b : Nat} {sa : Nat → Nat} {kS k0 k1 k2 : Nat} : fin_k b sa kS k0 k1 k2 b = some kS := if_pos rfl
theorem fin_k_c {b : Nat} {sa : Nat → Nat} {kS k0 k1 k2 a k : Nat} (h : fin_k b sa kS k0 k1 k2 a = some k) : (a = b ∧ k = kS) ∨ (a = sa 0 ∧ k = k0) ∨ (a = sa 1 ∧ k = k1) ∨ (a = sa 2 ∧ k = k2) := by
  unfold fin_k at h
  by_cases c : a = b
  · rw [if_pos c] at h
    cases h
    exact .inl ⟨c, rfl⟩
  rw [if_neg c] at h
  by_cases c0 : a = sa 0
  · rw [if_pos c0] at h
    cases h
    exact .inr (.inl ⟨c0, rfl⟩)
  rw [if_neg c0] at h
  by_cases c1 : a = sa 1
  · rw [if_pos c1] at h
    cases h
    exact .inr (.inr (.inl ⟨c1, rfl⟩))
  rw [if_neg c1] at h
  by_cases c2 : a = sa 2
  · rw [if_pos c2] at h
    cases h
    exact .inr (.inr (.inr ⟨c2, rfl⟩))
  rw [if_neg c2] at h
  cases h
theorem fin_H {T : tk_T} {RO : am_O} {sz b : Nat} {sa : Nat → Nat} {kS k0 k1 k2 : Nat} (hb : b < sz) (h0 : sa 0 < sz) (h1 : sa 1 < sz) (h2 : sa 2 < sz) (gS : ∀ κ, ∃ K, T[kS]? = some K ∧ tk_cell κ RO (fun _ => none) b K) (g0 : ∀ κ, ∃ K, T[k0]? = some K ∧ tk_cell κ RO (fun _ => none) (sa 0) K) (g1 : ∀ κ, ∃ K, T[k1]? = some K ∧ tk_cell κ RO (fun _ => none) (sa 1) K) (g2 : ∀ κ, ∃ K, T[k2]? = some K ∧ tk_cell κ RO (fun _ => none) (sa 2) K) : tk_H T RO (fin_k b sa kS k0 k1 k2) (fun _ => none) sz := by
  intro a k h
  rcases fin_k_c h with ⟨rfl, rfl⟩ | ⟨rfl, rfl⟩ | ⟨rfl, rfl⟩ | ⟨rfl, rfl⟩
  · exact ⟨hb, gS _⟩
  · exact ⟨h0, g0 _⟩
  · exact ⟨h1, g1 _⟩
  · exact ⟨h2, g2 _⟩
theorem fin_out {sz b : Nat} {sa : Nat → Nat} {kS k0 k1 k2 : Nat} (hb : b < sz) (h0 : sa 0 < sz) (h1 : sa 1 < sz) (h2 : sa 2 < sz) : ∀ a, sz ≤ a → fin_k b sa kS k0 k1 k2 a = none := by
  intro a ha
  cases h : fin_k b sa kS k0 k1 k2 a with
  | none => rfl
  | some k => exfalso; rcases fin_k_c h with ⟨e, -⟩ | ⟨e, -⟩ | ⟨e, -⟩ | ⟨e, -⟩ <;> omega
theorem fin_k_0 {b : Nat} {sa : Nat → Nat} {kS k0 k1 k2 : Nat} (n0 : b ≠ sa 0) : fin_k b sa kS k0 k1 k2 (sa 0) = some k0 := by
  unfold fin_k
  rw [if_neg (Ne.symm n0), if_pos rfl]
/-- a static array's cell out of its told ints -/
theorem fin_ro {κ : Nat → Option Nat} {RO : am_O} {a n : Nat} {f : Nat → Int32} {t : Nat} {fs : List tk_F} {E : List tk_E} {lo hi : Int} {O : List tl_F} (h : RO a = some (n, f)) (hn : lo ≤ (n : Int) ∧ (n : Int) ≤ hi) (g : ∀ j, j < n → tk_eb E j (f j).toInt) : tk_cell κ RO (fun _ => none) a (4, t, fs, E, lo, hi, O) := ⟨rfl, n, f, h, hn, g⟩
theorem fin_lz {o x : Nat} {q : Nat × am_Pos} (h : am_lk2 aLZ o x = some q) : (o = 2 ∧ x = 113 ∧ q.1 = 0) ∨ (o = 2 ∧ x = 116 ∧ q.1 = 1) ∨ (o = 7 ∧ x = 72 ∧ q.1 = 2) := by
  unfold am_lk2 at h
  obtain ⟨p, hp, rfl⟩ := Option.map_eq_some_iff.mp h
  have hm := List.mem_of_find?_eq_some hp
  have hb := List.find?_some hp
  have hb : p.1 = x := by simpa using hb
  clear hp h
  have e2 : (aLZ[2]?).getD [] = [(113, 0, (2, 11)), (116, 1, (2, 13))] := rfl
  have e7 : (aLZ[7]?).getD [] = [(72, 2, (3, 187))] := rfl
  have en : ∀ i, i < 15 → i ≠ 2 → i ≠ 7 → (aLZ[i]?).getD [] = [] := by
    intro i hi
    match i, hi with
    | 0, _ | 1, _ | 3, _ | 4, _ | 5, _ | 6, _ | 8, _ | 9, _ | 10, _ | 11, _ | 12, _ | 13, _ | 14, _ => intro _ _; rfl
    | 2, _ => intro h; exact absurd rfl h
    | 7, _ => intro _ h; exact absurd rfl h
  by_cases c2 : o = 2
  · subst c2
    rw [e2] at hm
    rcases List.mem_cons.mp hm with rfl | hm
    · exact .inl ⟨rfl, hb.symm, rfl⟩
    · rcases List.mem_cons.mp hm with rfl | hm
      · exact .inr (.inl ⟨rfl, hb.symm, rfl⟩)
      · cases hm
  by_cases c7 : o = 7
  · subst c7
    rw [e7] at hm
    rcases List.mem_cons.mp hm with rfl | hm
    · exact .inr (.inr ⟨rfl, hb.symm, rfl⟩)
    · cases hm
  by_cases c : o < 15
  · rw [en o c c2 c7] at hm
    cases hm
  · have e : aLZ[o]? = none := List.getElem?_eq_none (by show aLZ.length ≤ o; have : aLZ.length = 15 := rfl; omega)
    rw [e] at hm
    cases hm
theorem fin_zok {b : Nat} {sa : Nat → Nat} {kS : Nat} (n0 : b ≠ sa 0) (n1 : b ≠ sa 1) (n2 : b ≠ sa 2) (m10 : sa 1 ≠ sa 0) (m20 : sa 2 ≠ sa 0) (m21 : sa 2 ≠ sa 1) : tc_zok (aP sa) tp_Z (fin_k b sa kS 244 245 246) := by
  intro own x a h
  have h : (am_lk2 aLZ own x).map (fun q => sa q.1) = some a := h
  obtain ⟨q, hq, rfl⟩ := Option.map_eq_some_iff.mp h
  rcases fin_lz hq with ⟨rfl, rfl, e⟩ | ⟨rfl, rfl, e⟩ | ⟨rfl, rfl, e⟩
  · refine ⟨244, rfl, ?_⟩
    rw [e]
    unfold fin_k
    rw [if_neg (Ne.symm n0), if_pos rfl]
  · refine ⟨245, rfl, ?_⟩
    rw [e]
    unfold fin_k
    rw [if_neg (Ne.symm n1), if_neg m10, if_pos rfl]
  · refine ⟨246, rfl, ?_⟩
    rw [e]
    unfold fin_k
    rw [if_neg (Ne.symm n2), if_neg m20, if_neg m21, if_pos rfl]
set_option maxRecDepth 100000 in
theorem fin_HP {sz b L : Nat} {xs : Nat → Int32} {sa : Nat → Nat} {RO : am_O} (hL : L ≤ 3584) (hb : b < sz) (gb : RO b = some (L, xs)) (h0 : sa 0 < sz) (g0 : RO (sa 0) = some (3, aV_0)) (h1 : sa 1 < sz) (g1 : RO (sa 1) = some (3, aV_1)) (h2 : sa 2 < sz) (g2 : RO (sa 2) = some (8, aV_2)) : tk_H tp_T RO (fin_k b sa 247 244 245 246) (fun _ => none) sz := by
  refine fin_H hb h0 h1 h2 (fun κ => ⟨(4, 0, [], [], 0, 3584, []), rfl, fin_ro gb ⟨by omega, by omega⟩ (fun j _ e he => by simp at he)⟩) (fun κ => ⟨(4, 0, [], [(2, 0, 7, 0)], 3, 3, []), rfl, fin_ro g0 (by decide) ?_⟩) (fun κ => ⟨(4, 0, [], [(2147483587, 0, 2147483647, 0)], 3, 3, []), rfl, fin_ro g1 (by decide) ?_⟩) (fun κ => ⟨(4, 0, [], [(1, 0, 1, 0), (2, 0, 2, 0), (3, 0, 3, 0), (10000, 0, 10000, 0), (400, 0, 400, 0), (1, 0, 1, 0), (1, 0, 1, 0), (100, 0, 100, 0)], 8, 8, []), rfl, fin_ro g2 (by decide) ?_⟩)
  · intro j hj
    match j, hj with
    | 0, _ | 1, _ | 2, _ => intro e he; cases he; decide
  · intro j hj
    match j, hj with
    | 0, _ | 1, _ | 2, _ => intro e he; cases he; decide
  · intro j hj
    match j, hj with
    | 0, _ | 1, _ | 2, _ | 3, _ | 4, _ | 5, _ | 6, _ | 7, _ => intro e he; cases he; decide
theorem fin_ne {sa : Nat → Nat} {RO : am_O} (g0 : RO (sa 0) = some (3, aV_0)) (g1 : RO (sa 1) = some (3, aV_1)) (g2 : RO (sa 2) = some (8, aV_2)) : sa 1 ≠ sa 0 ∧ sa 2 ≠ sa 0 ∧ sa 2 ≠ sa 1 := by
  refine ⟨fun e => ?_, fun e => ?_, fun e => ?_⟩
  · rw [e, g0] at g1
    have h := (Prod.mk.inj (Option.some.inj g1)).2
    exact absurd (congrFun h 0) (by decide)
  · rw [e, g0] at g2
    exact absurd (Prod.mk.inj (Option.some.inj g2)).1 (by decide)
  · rw [e, g1] at g2
    exact absurd (Prod.mk.inj (Option.some.inj g2)).1 (by decide)
