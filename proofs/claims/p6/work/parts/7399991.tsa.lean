/-! TC: where the static arrays stand is not looked at -/
/-- two programs that differ in where the static arrays stand alone -/
def tc_sa (P Q : am_P) : Prop := (P.1 = Q.1 ∧ P.2.1 = Q.2.1 ∧ P.2.2.1 = Q.2.2.1 ∧ P.2.2.2.1 = Q.2.2.2.1 ∧ P.2.2.2.2.1 = Q.2.2.2.2.1 ∧ P.2.2.2.2.2.1 = Q.2.2.2.2.2.1 ∧ P.2.2.2.2.2.2.1 = Q.2.2.2.2.2.2.1 ∧ P.2.2.2.2.2.2.2.1 = Q.2.2.2.2.2.2.2.1 ∧ P.2.2.2.2.2.2.2.2.2 = Q.2.2.2.2.2.2.2.2.2) ∧ ∀ o x, (am_sa0 P o x).isSome = (am_sa0 Q o x).isSome
theorem tc_rd_sa {P Q : am_P} (h : tc_sa P Q) {T : tk_T} {Z : tc_Z} {own n0 m0 : Nat} {i : Instr} {len : Nat} {k : tc_h} {G : tc_G} : tc_rd P T Z own n0 m0 i len k G = tc_rd Q T Z own n0 m0 i len k G := by
  obtain ⟨p1, p2, p3, p4, p5, p6, p7, p8, f, p⟩ := P
  obtain ⟨q1, q2, q3, q4, q5, q6, q7, q8, g, q⟩ := Q
  obtain ⟨⟨e1, e2, e3, e4, e5, e6, e7, e8, e9⟩, h⟩ := h
  dsimp only at e1 e2 e3 e4 e5 e6 e7 e8 e9
  subst e1 e2 e3 e4 e5 e6 e7 e8 e9
  obtain ⟨⟨n, m⟩, X, pc, L, S, zq, lq⟩ := G
  cases i
  case getstatic x =>
    have h : (f own x).isSome = (g own x).isSome := h own x
    show (if len = 3 ∧ tc_wf n0 m0 ((n, m), X, pc, L, S, zq, lq) = true then (match f own x, Z own x with
      | some _, some k => some [((n, m + 1), tc_xk X (m, k), pc + 3, L, tv_a m :: S, zq, lq)]
      | _, _ => none) else none) = (if len = 3 ∧ tc_wf n0 m0 ((n, m), X, pc, L, S, zq, lq) = true then (match g own x, Z own x with
      | some _, some k => some [((n, m + 1), tc_xk X (m, k), pc + 3, L, tv_a m :: S, zq, lq)]
      | _, _ => none) else none)
    cases e1 : f own x with
    | none =>
      cases e2 : g own x with
      | none => rfl
      | some b =>
        rw [e1, e2] at h
        cases h
    | some a =>
      cases e2 : g own x with
      | none =>
        rw [e1, e2] at h
        cases h
      | some b => cases Z own x <;> rfl
  all_goals rfl
theorem tc_ic_sa {P Q : am_P} (h : tc_sa P Q) {T : tk_T} {fp : Nat → List (Nat × Nat)} {Z : tc_Z} {mm : Nat → Option am_Meth} {CT : List tc_Ct} {LT : List tc_Lm} {W : tc_W} {mt : am_Meth} {ins : Nat → Option (Instr × Nat)} {nm : Nat × Nat} {es : List tc_Ex} {PL : List tc_Pl} {nr mr k : Nat} {q : tc_h} {G : tc_G} : tc_ic (P, T, fp, Z, mm, CT, LT, W, mt, ins, nm, es, PL) nr mr k q G = tc_ic (Q, T, fp, Z, mm, CT, LT, W, mt, ins, nm, es, PL) nr mr k q G := by
  unfold tc_ic
  dsimp only
  cases ins G.2.2.1 with
  | none => rfl
  | some il =>
    obtain ⟨i, len⟩ := il
    dsimp only
    rw [tc_rd_sa h]
    obtain ⟨p1, p2, p3, p4, p5, p6, p7, p8, f, p⟩ := P
    obtain ⟨q1, q2, q3, q4, q5, q6, q7, q8, g, q⟩ := Q
    obtain ⟨⟨e1, e2, e3, e4, e5, e6, e7, e8, e9⟩, _⟩ := h
    dsimp only at e1 e2 e3 e4 e5 e6 e7 e8 e9
    subst e1 e2 e3 e4 e5 e6 e7 e8 e9
    rfl
theorem tc_act_sa {P Q : am_P} (h : tc_sa P Q) {T : tk_T} {fp : Nat → List (Nat × Nat)} {Z : tc_Z} {mm : Nat → Option am_Meth} {CT : List tc_Ct} {LT : List tc_Lm} {W : tc_W} {mt : am_Meth} {ins : Nat → Option (Instr × Nat)} {nm : Nat × Nat} {es : List tc_Ex} {PL : List tc_Pl} {nr mr : Nat} {μ : Option (List tl_F)} {it : tc_It} {G : tc_G} : tc_act (P, T, fp, Z, mm, CT, LT, W, mt, ins, nm, es, PL) nr mr μ it G = tc_act (Q, T, fp, Z, mm, CT, LT, W, mt, ins, nm, es, PL) nr mr μ it G := by
  have e : tc_ic (P, T, fp, Z, mm, CT, LT, W, mt, ins, nm, es, PL) nr mr = tc_ic (Q, T, fp, Z, mm, CT, LT, W, mt, ins, nm, es, PL) nr mr := by
    funext k q G
    exact tc_ic_sa h
  unfold tc_act
  dsimp only
  rw [e]
  obtain ⟨p1, p2, p3, p4, p5, p6, p7, p8, f, p⟩ := P
  obtain ⟨q1, q2, q3, q4, q5, q6, q7, q8, g, q⟩ := Q
  obtain ⟨⟨e1, e2, e3, e4, e5, e6, e7, e8, e9⟩, _⟩ := h
  dsimp only at e1 e2 e3 e4 e5 e6 e7 e8 e9
  subst e1 e2 e3 e4 e5 e6 e7 e8 e9
  rfl
theorem tc_go_sa {P Q : am_P} (h : tc_sa P Q) {T : tk_T} {fp : Nat → List (Nat × Nat)} {Z : tc_Z} {mm : Nat → Option am_Meth} {CT : List tc_Ct} {LT : List tc_Lm} {W : tc_W} {mt : am_Meth} {ins : Nat → Option (Instr × Nat)} {nm : Nat × Nat} {es : List tc_Ex} {PL : List tc_Pl} {nr mr : Nat} {μ : Option (List tl_F)} : ∀ {hs : List tc_It} {Gs : List tc_G}, tc_go (P, T, fp, Z, mm, CT, LT, W, mt, ins, nm, es, PL) nr mr μ hs Gs = tc_go (Q, T, fp, Z, mm, CT, LT, W, mt, ins, nm, es, PL) nr mr μ hs Gs
  | [], Gs => by
    unfold tc_go
    rfl
  | _ :: _, [] => by
    unfold tc_go
    rfl
  | it :: r, G :: Gs => by
    unfold tc_go
    rw [tc_act_sa h]
    split
    · exact tc_go_sa h
    · rfl
theorem tc_plk_sa {P Q : am_P} (h : tc_sa P Q) {T : tk_T} {fp : Nat → List (Nat × Nat)} {Z : tc_Z} {mm : Nat → Option am_Meth} {CT : List tc_Ct} {LT : List tc_Lm} {W : tc_W} {mt : am_Meth} {ins : Nat → Option (Instr × Nat)} {nm : Nat × Nat} {es : List tc_Ex} {PL : List tc_Pl} {p : tc_Pl} {hs : List tc_It} : tc_plk (P, T, fp, Z, mm, CT, LT, W, mt, ins, nm, es, PL) p hs = tc_plk (Q, T, fp, Z, mm, CT, LT, W, mt, ins, nm, es, PL) p hs := by
  unfold tc_plk
  rw [tc_go_sa h]
theorem aP_sa (sa sb : Nat → Nat) : tc_sa (aP sa) (aP sb) := by
  refine ⟨⟨rfl, rfl, rfl, rfl, rfl, rfl, rfl, rfl, rfl⟩, fun o x => ?_⟩
  show ((am_lk2 aLZ o x).map (fun q => sa q.1)).isSome = ((am_lk2 aLZ o x).map (fun q => sb q.1)).isSome
  cases am_lk2 aLZ o x with
  | none => rfl
  | some q => rfl
