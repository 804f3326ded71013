/-! SX: conditions met so far; what they say of an int -/
/-- truth; 0 less, 1 equal; the two terms -/
abbrev sx_Q : Type := Bool × Nat × Term × Term
def sx_hq (E : sx_E) (k : Nat) (a b : Term) : Bool := if k = 0 then decide ((sx_d E a).1 < (sx_d E b).1) else decide ((sx_d E a).1 = (sx_d E b).1)
def sx_h (E : sx_E) (q : sx_Q) : Prop := sx_hq E q.2.1 q.2.2.1 q.2.2.2 = q.1
abbrev sx_I : Type := Int × Int
def sx_inI (E : sx_E) (t : Term) (r : sx_I) : Prop := r.1 ≤ (sx_d E t).1.toInt ∧ (sx_d E t).1.toInt ≤ r.2
def sx_full : sx_I := (-2147483648, 2147483647)
theorem sx_full_s (E : sx_E) (t : Term) : sx_inI E t sx_full := ⟨Int32.le_toInt _, by have := Int32.toInt_lt (sx_d E t).1; show _ ≤ (2147483647 : Int); omega⟩
def sx_b0 (t : Term) : sx_I := match t with
  | .int v => (v.toInt, v.toInt)
  | .elem _ _ => (-1, 1)
  | .op2 o a b => (match o with
    | .lcmp => (-1, 1)
    | .iand => (match sx_c b with
      | some m => if 0 ≤ m then (0, m.toInt) else sx_full
      | none => (match sx_c a with
        | some m => if 0 ≤ m then (0, m.toInt) else sx_full
        | none => sx_full))
    | _ => sx_full)
  | _ => sx_full
theorem sx_ic_r (x y : Int32) : -1 ≤ (sx_ic x y).toInt ∧ (sx_ic x y).toInt ≤ 1 := by
  unfold sx_ic
  split
  · decide
  · split <;> decide
theorem sx_lc_r (x y : Int64) : -1 ≤ (lg_cmp x y).toInt ∧ (lg_cmp x y).toInt ≤ 1 := by
  unfold lg_cmp
  split
  · decide
  · split <;> decide
theorem sx_and_r (x m : Int32) (h : 0 ≤ m) : 0 ≤ (x &&& m).toInt ∧ (x &&& m).toInt ≤ m.toInt := by
  have h0 : 0 ≤ m.toInt := by simpa using Int32.le_iff_toInt_le.mp h
  have hm : m.toInt = (m.toBitVec.toNat : Int) := by
    have h1 : m.toBitVec.msb = false := by
      rw [BitVec.msb_eq_toInt]
      have : m.toBitVec.toInt = m.toInt := rfl
      rw [this]
      simp
      omega
    exact BitVec.toInt_eq_toNat_of_msb h1
  have ha : (x &&& m).toBitVec = x.toBitVec &&& m.toBitVec := by simp
  have hb : (x &&& m).toInt = ((x.toBitVec &&& m.toBitVec).toNat : Int) := by
    have h1 : (x.toBitVec &&& m.toBitVec).msb = false := by
      rw [BitVec.msb_and]
      have h2 : m.toBitVec.msb = false := by
        rw [BitVec.msb_eq_toInt]
        have : m.toBitVec.toInt = m.toInt := rfl
        rw [this]
        simp
        omega
      rw [h2, Bool.and_false]
    have h3 : (x &&& m).toInt = (x &&& m).toBitVec.toInt := rfl
    rw [h3, ha]
    exact BitVec.toInt_eq_toNat_of_msb h1
  rw [hb, hm, BitVec.toNat_and]
  have := Nat.and_le_right (n := x.toBitVec.toNat) (m := m.toBitVec.toNat)
  omega
theorem sx_b0_s (E : sx_E) (t : Term) : sx_inI E t (sx_b0 t) := by
  unfold sx_b0
  split
  · exact ⟨Int.le_refl _, Int.le_refl _⟩
  · exact sx_ic_r _ _
  · split
    · exact sx_lc_r _ _
    · rename_i a b _
      split
      · rename_i m hm
        split
        · rename_i h0
          have e := sx_c_s hm
          subst e
          exact sx_and_r _ _ h0
        · exact sx_full_s E _
      · split
        · rename_i m hm
          split
          · rename_i h0
            have e := sx_c_s hm
            subst e
            have e2 : (sx_d E (.op2 .iand (.int m) b)).1 = (sx_d E b).1 &&& m := Int32.and_comm _ _
            unfold sx_inI
            rw [e2]
            exact sx_and_r _ _ h0
          · exact sx_full_s E _
        · exact sx_full_s E _
    · exact sx_full_s E _
  · exact sx_full_s E _
/-- one condition's part -/
def sx_rf1 (t : Term) (r : sx_I) (q : sx_Q) : sx_I :=
  let r1 : sx_I := if q.2.2.1 = t then (match sx_c q.2.2.2 with
    | some c => if q.2.1 = 0 then (if q.1 then (r.1, min r.2 (c.toInt - 1)) else (max r.1 c.toInt, r.2)) else (if q.1 then (max r.1 c.toInt, min r.2 c.toInt) else r)
    | none => r) else r
  if q.2.2.2 = t then (match sx_c q.2.2.1 with
    | some c => if q.2.1 = 0 then (if q.1 then (max r1.1 (c.toInt + 1), r1.2) else (r1.1, min r1.2 c.toInt)) else (if q.1 then (max r1.1 c.toInt, min r1.2 c.toInt) else r1)
    | none => r1) else r1
def sx_rf2 (t : Term) (r : sx_I) (q : sx_Q) : sx_I :=
  if q.1 = false ∧ q.2.1 = 1 ∧ q.2.2.1 = t then (match sx_c q.2.2.2 with
    | some c => (if r.1 = c.toInt then r.1 + 1 else r.1, if r.2 = c.toInt then r.2 - 1 else r.2)
    | none => r) else r
theorem sx_rf1_s {E : sx_E} {t : Term} {r : sx_I} {q : sx_Q} (hq : sx_h E q) (h : sx_inI E t r) : sx_inI E t (sx_rf1 t r q) := by
  obtain ⟨tr, k, a, b⟩ := q
  unfold sx_h sx_hq at hq
  dsimp only at hq
  have key : ∀ (r : sx_I), sx_inI E t r → sx_inI E t (if a = t then (match sx_c b with
    | some c => if k = 0 then (if tr then (r.1, min r.2 (c.toInt - 1)) else (max r.1 c.toInt, r.2)) else (if tr then (max r.1 c.toInt, min r.2 c.toInt) else r)
    | none => r) else r) := by
    intro r h
    split
    · rename_i ha
      subst ha
      split
      · rename_i c hc
        have e := sx_c_s hc
        subst e
        by_cases hk : k = 0
        · rw [if_pos hk] at hq ⊢
          cases tr
          · have h1 : ¬ (sx_d E a).1 < c := of_decide_eq_false hq
            rw [Int32.lt_iff_toInt_lt] at h1
            exact ⟨by show max r.1 c.toInt ≤ _; have := h.1; omega, h.2⟩
          · have h1 : (sx_d E a).1 < c := of_decide_eq_true hq
            rw [Int32.lt_iff_toInt_lt] at h1
            exact ⟨h.1, by show _ ≤ min r.2 (c.toInt - 1); have := h.2; omega⟩
        · rw [if_neg hk] at hq ⊢
          cases tr
          · exact h
          · have h1 : (sx_d E a).1 = c := of_decide_eq_true hq
            have h2 : (sx_d E a).1.toInt = c.toInt := by rw [h1]
            exact ⟨by show max r.1 c.toInt ≤ _; have := h.1; omega, by show _ ≤ min r.2 c.toInt; have := h.2; omega⟩
      · exact h
    · exact h
  have key2 : ∀ (r : sx_I), sx_inI E t r → sx_inI E t (if b = t then (match sx_c a with
    | some c => if k = 0 then (if tr then (max r.1 (c.toInt + 1), r.2) else (r.1, min r.2 c.toInt)) else (if tr then (max r.1 c.toInt, min r.2 c.toInt) else r)
    | none => r) else r) := by
    intro r h
    split
    · rename_i ha
      subst ha
      split
      · rename_i c hc
        have e := sx_c_s hc
        subst e
        by_cases hk : k = 0
        · rw [if_pos hk] at hq ⊢
          cases tr
          · have h1 : ¬ c < (sx_d E b).1 := of_decide_eq_false hq
            rw [Int32.lt_iff_toInt_lt] at h1
            exact ⟨h.1, by show _ ≤ min r.2 c.toInt; have := h.2; omega⟩
          · have h1 : c < (sx_d E b).1 := of_decide_eq_true hq
            rw [Int32.lt_iff_toInt_lt] at h1
            exact ⟨by show max r.1 (c.toInt + 1) ≤ _; have := h.1; omega, h.2⟩
        · rw [if_neg hk] at hq ⊢
          cases tr
          · exact h
          · have h1 : c = (sx_d E b).1 := of_decide_eq_true hq
            have h2 : (sx_d E b).1.toInt = c.toInt := by rw [← h1]
            exact ⟨by show max r.1 c.toInt ≤ _; have := h.1; omega, by show _ ≤ min r.2 c.toInt; have := h.2; omega⟩
      · exact h
    · exact h
  exact key2 _ (key r h)
theorem sx_rf2_s {E : sx_E} {t : Term} {r : sx_I} {q : sx_Q} (hq : sx_h E q) (h : sx_inI E t r) : sx_inI E t (sx_rf2 t r q) := by
  obtain ⟨tr, k, a, b⟩ := q
  unfold sx_h sx_hq at hq
  dsimp only at hq
  unfold sx_rf2
  dsimp only
  split
  · rename_i hc
    obtain ⟨rfl, rfl, rfl⟩ := hc
    split
    · rename_i c hc
      have e := sx_c_s hc
      subst e
      have h1 : ¬ (sx_d E a).1 = c := of_decide_eq_false hq
      have h2 : ¬ (sx_d E a).1.toInt = c.toInt := fun e => h1 (Int32.toInt_inj.mp e)
      obtain ⟨g1, g2⟩ := h
      constructor
      · dsimp only
        split <;> omega
      · dsimp only
        split <;> omega
    · exact h
  · exact h
def sx_rg0 (cs : List sx_Q) (t : Term) : sx_I := (cs.reverse.foldl (sx_rf2 t) (cs.foldl (sx_rf1 t) (sx_b0 t)))
theorem sx_fold {E : sx_E} {t : Term} {f : sx_I → sx_Q → sx_I} (hf : ∀ r q, sx_h E q → sx_inI E t r → sx_inI E t (f r q)) : ∀ (cs : List sx_Q) (r : sx_I), (∀ q ∈ cs, sx_h E q) → sx_inI E t r → sx_inI E t (cs.foldl f r)
  | [], r, _, h => h
  | q :: cs, r, hc, h => sx_fold hf cs _ (fun p hp => hc p (List.mem_cons_of_mem _ hp)) (hf r q (hc q List.mem_cons_self) h)
theorem sx_rg0_s {E : sx_E} {cs : List sx_Q} (hc : ∀ q ∈ cs, sx_h E q) (t : Term) : sx_inI E t (sx_rg0 cs t) :=
  sx_fold (fun _ _ hq h => sx_rf2_s hq h) _ _ (fun q hq => hc q (List.mem_reverse.mp hq)) (sx_fold (fun _ _ hq h => sx_rf1_s hq h) _ _ hc (sx_b0_s E t))
