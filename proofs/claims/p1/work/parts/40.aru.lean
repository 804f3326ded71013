/-! SX: the run of the law out of what the runner finds -/
theorem sx_aP (sa : Nat → Nat) : aP sa = sx_P (aP (fun i => i)) sa := by
  unfold aP sx_P am_sa0 am_mkP
  simp only [Option.map_map]
  rfl
def sx_rt0 (L : Nat) : sx_R := fun k => match k with
  | 0 => some (L, fun j => .string "" j)
  | 1 => some (3, fun j => .int (aV_0 j))
  | 2 => some (3, fun j => .int (aV_1 j))
  | 3 => some (8, fun j => .int (aV_2 j))
  | _ => none
def sx_fin0 : Option Term → Nat → Nat → Bool := fun o n sl => decide (o = some (.int 1)) && (decide (n ≤ 600000) && decide (sl ≤ 7302250))
def sx_Q0 (E : sx_E) : am_Q := fun v _ z l => v = some (.int 1) ∧ z ≤ E.1 + 600000 ∧ l ≤ 7302250
theorem sx_fin0_s {E : sx_E} (o : Option Term) (Ms : sx_M) (sl : Nat) (h : sx_fin0 o Ms.length sl = true) : sx_Q0 E (o.map (sx_v E)) (sx_mem E Ms) (E.1 + Ms.length) sl := by
  unfold sx_fin0 at h
  simp only [Bool.and_eq_true, decide_eq_true_eq] at h
  obtain ⟨rfl, h1, h2⟩ := h
  exact ⟨rfl, by omega, h2⟩
def sx_st0 : sx_G := ([], 561, 0, [(0, .arg 0)], [], [], [], 0, 0)
def sx_env (sz b : Nat) (sa : Nat → Nat) (xs : Nat → Int32) : sx_E := (sz, (fun k => match k with
  | 0 => b
  | i + 1 => sa i), xs)
/-- what is owed of the runner -/
def sx_Owed : Prop := ∀ (L : Nat), L ≤ 7 → ∀ (E : sx_E) (sa : Nat → Nat) (RO : am_O), sx_ok E (sx_rt0 L) RO sa → sx_Ok (aP (fun i => i)) RO sa E (sx_Q0 E) sx_st0
theorem sx_aRun (h : sx_Owed) : aRun := by
  intro b L sz xs sa RO hL hb hR l0 q0 l1 q1 l2 q2
  have hok : sx_ok (sx_env sz b sa xs) (sx_rt0 L) RO sa := by
    refine ⟨fun k n g hk => ?_, fun a => rfl⟩
    match k, hk with
    | 0, hk =>
      cases hk
      exact ⟨hb, xs, hR, fun j _ => rfl⟩
    | 1, hk =>
      cases hk
      exact ⟨l0, aV_0, q0, fun j _ => rfl⟩
    | 2, hk =>
      cases hk
      exact ⟨l1, aV_1, q1, fun j _ => rfl⟩
    | 3, hk =>
      cases hk
      exact ⟨l2, aV_2, q2, fun j _ => rfl⟩
    | k + 4, hk => cases hk
  obtain ⟨k, g⟩ := h L hL _ sa RO hok rfl (fun q hq => by cases hq)
  have e : sx_mem (sx_env sz b sa xs) [] = fun _ => none := by
    funext q
    unfold sx_mem
    split <;> rfl
  rw [← sx_aP, e] at g
  obtain ⟨v, M', z', l', g1, ⟨rfl, g2, g3⟩, -, -⟩ := am_det _ _ _ _ _ _ _ _ _ g
  exact ⟨k, M', z', l', g1, g2, g3⟩
