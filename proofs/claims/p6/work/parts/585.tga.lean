/-! TC: atoms: what is known of the heap beyond kinds, behind tags; what they look at -/
/-- what a tag says of a heap, addresses, ints; what it looks at: (kind, field), of arrays (kind, 0), (kind, 1000): that none of the kind comes -/
abbrev tg_G : Type := (Nat → am_O → (Nat → Option Nat) → am_H → List Nat → List Int → Prop) × (Nat → List (Nat × Nat))
def tg_kp (F : List (Nat × Nat)) (k : Nat) (c c' : Option am_E) : Prop := (∀ ci vs, c = some (.inr (ci, vs)) → ∃ vs', c' = some (.inr (ci, vs')) ∧ ∀ j, (k, j) ∈ F → vs'[j]? = vs[j]?) ∧ (∀ t x, c = some (.inl (t, x)) → ∃ x' : vp_A, c' = some (.inl (t, x')) ∧ x'.1 = x.1 ∧ ((k, 0) ∈ F → x' = x)) ∧ (c = none → c' = none)
theorem tg_kp_refl (F : List (Nat × Nat)) (k : Nat) (c : Option am_E) : tg_kp F k c c := ⟨fun ci vs h => ⟨vs, h, fun _ _ => rfl⟩, fun t x h => ⟨x, h, rfl, fun _ => rfl⟩, fun h => h⟩
def tg_ok (Γ : tg_G) : Prop := ∀ (t : Nat) (RO : am_O) (κ κ' : Nat → Option Nat) (M M' : am_H) (as : List Nat) (is : List Int), (∀ a k, κ a = some k → κ' a = some k) → (∀ a k, κ' a = some k → κ a = none → (k, 1000) ∉ Γ.2 t) → (∀ a k, κ a = some k → tg_kp (Γ.2 t) k (M a) (M' a)) → Γ.1 t RO κ M as is → Γ.1 t RO κ' M' as is
abbrev tg_P : Type := Nat × List Nat × List tl_F
/-- it is there; ints are 0 -/
def tg_z (c : Option am_E) : Prop := (∃ e, c = some e) ∧ ∀ (ty n : Nat) (f : Nat → Int32), c = some (.inl (ty, n, .inl f)) → ∀ j, (f j).toInt = 0
/-- what is so once something gets a kind -/
def tg_w7 (Γ : tg_G) (t : Nat) (RO : am_O) (κ : Nat → Option Nat) (M : am_H) (k : Nat) (as : List Nat) (is : List Int) : Prop := ∀ (a : Nat) (κ' : Nat → Option Nat) (M' : am_H), κ a = none → κ' a = some k → tg_z (M' a) → (∀ b k1, κ b = some k1 → κ' b = some k1 ∧ M' b = M b) → (∀ b k1, κ' b = some k1 → κ b = none → b = a) → Γ.1 t RO κ' M' (a :: as) is
/-- 0 now; 1 behind an int's store, 2 an int's put, 3 an address's put, 4 an address's store, 5 null's put, 6 null's store, 7 once a kind is given -/
def tg_q (Γ : tg_G) (t : Nat) (RO : am_O) (κ : Nat → Option Nat) (M : am_H) (as : List Nat) (is : List Int) : Prop := match t % 8 with
  | 0 => Γ.1 (t / 8) RO κ M as is
  | 1 => (match as, is with
    | a :: as, I :: v :: is => ∀ (ty n : Nat) (f : Nat → Int32) (x : Int32), M a = some (.inl (ty, n, .inl f)) → x.toInt = v → Γ.1 (t / 8) RO κ (am_set M a (.inl (ty, n, .inl (upd f I.toNat x)))) as is
    | _, _ => False)
  | 2 => (match as, is with
    | a :: as, j :: v :: is => ∀ (ci : Nat) (vs : List Value) (x : Int32), M a = some (.inr (ci, vs)) → x.toInt = v → Γ.1 (t / 8) RO κ (am_set M a (.inr (ci, vs.set j.toNat (.int x)))) as is
    | _, _ => False)
  | 3 => (match as, is with
    | a :: b :: as, j :: is => ∀ (ci : Nat) (vs : List Value), M a = some (.inr (ci, vs)) → Γ.1 (t / 8) RO κ (am_set M a (.inr (ci, vs.set j.toNat (.ref b)))) as is
    | _, _ => False)
  | 4 => (match as, is with
    | a :: b :: as, I :: is => ∀ (ty n : Nat) (f : Nat → Option Nat), M a = some (am_qa ty n f) → Γ.1 (t / 8) RO κ (am_set M a (am_qa ty n (va_up f I.toNat (some b)))) as is
    | _, _ => False)
  | 5 => (match as, is with
    | a :: as, j :: is => ∀ (ci : Nat) (vs : List Value), M a = some (.inr (ci, vs)) → Γ.1 (t / 8) RO κ (am_set M a (.inr (ci, vs.set j.toNat .null))) as is
    | _, _ => False)
  | 6 => (match as, is with
    | a :: as, I :: is => ∀ (ty n : Nat) (f : Nat → Option Nat), M a = some (am_qa ty n f) → Γ.1 (t / 8) RO κ (am_set M a (am_qa ty n (va_up f I.toNat none))) as is
    | _, _ => False)
  | 7 => (match is with
    | k :: is => tg_w7 Γ (t / 8) RO κ M k.toNat as is
    | _ => False)
  | _ => False
def tc_xq (Γ : tg_G) (RO : am_O) (κ : Nat → Option Nat) (M : am_H) (V : Nat → Int) (A : Nat → Nat) (p : tg_P) : Prop := tg_q Γ p.1 RO κ M (p.2.1.map A) (p.2.2.map (tl_v V))
def tg_lt (n m : Nat) (p : tg_P) : Bool := p.2.1.all (fun a => decide (a < m)) && p.2.2.all (tl_lt n)
section TGA
variable {Γ : tg_G} {RO : am_O} {κ κ' : Nat → Option Nat} {M M' : am_H} {V V' : Nat → Int} {A A' : Nat → Nat}
theorem tg_lt_s {n m : Nat} (hV : ∀ k, k < n → V k = V' k) (hA : ∀ k, k < m → A k = A' k) {p : tg_P} (hw : tg_lt n m p = true) (h : tc_xq Γ RO κ M V A p) : tc_xq Γ RO κ M V' A' p := by
  obtain ⟨w1, w2⟩ := (Bool.and_eq_true _ _).mp hw
  have e1 : p.2.1.map A = p.2.1.map A' := List.map_congr_left (fun a ha => hA a (of_decide_eq_true (List.all_eq_true.mp w1 a ha)))
  have e2 : p.2.2.map (tl_v V) = p.2.2.map (tl_v V') := List.map_congr_left (fun f hf => tl_v_lt hV (List.all_eq_true.mp w2 f hf))
  unfold tc_xq at h ⊢
  rw [← e1, ← e2]
  exact h
/-- what stays when field j of a cell of kind k is written -/
def tg_ke (fp : Nat → List (Nat × Nat)) (k j : Nat) (p : tg_P) : Bool := (p.1 % 8 == 0) && !(fp (p.1 / 8)).contains (k, j)
theorem tg_q0 {p : tg_P} (e : p.1 % 8 = 0) : tc_xq Γ RO κ M V A p ↔ Γ.1 (p.1 / 8) RO κ M (p.2.1.map A) (p.2.2.map (tl_v V)) := by
  unfold tc_xq tg_q
  rw [e]
  exact Iff.rfl
theorem tg_set_s (hΓ : tg_ok Γ) {a k j : Nat} {e : am_E} (hκ : κ a = some k) (hk : ∀ F : List (Nat × Nat), (k, j) ∉ F → tg_kp F k (M a) (some e)) {p : tg_P} (hp : tg_ke Γ.2 k j p = true) (h : tc_xq Γ RO κ M V A p) : tc_xq Γ RO κ (am_set M a e) V A p := by
  obtain ⟨p1, p2⟩ := (Bool.and_eq_true _ _).mp hp
  have p1 : p.1 % 8 = 0 := by simpa using p1
  have p2 : (k, j) ∉ Γ.2 (p.1 / 8) := by simpa using p2
  rw [tg_q0 p1] at h ⊢
  refine hΓ _ RO κ κ M _ _ _ (fun _ _ q => q) (fun b k1 q1 q2 => ?_) (fun b k1 hb => ?_) h
  · rw [q1] at q2
    cases q2
  · by_cases q : b = a
    · subst q
      rw [hκ] at hb
      cases hb
      rw [am_same]
      exact hk _ p2
    · rw [am_ne q]
      exact tg_kp_refl _ _ _
/-- a cell without a kind is written -/
theorem tg_setn_s (hΓ : tg_ok Γ) {a : Nat} {e : am_E} (hκ : κ a = none) {p : tg_P} (hp : (p.1 % 8 == 0) = true) (h : tc_xq Γ RO κ M V A p) : tc_xq Γ RO κ (am_set M a e) V A p := by
  have p1 : p.1 % 8 = 0 := by simpa using hp
  rw [tg_q0 p1] at h ⊢
  refine hΓ _ RO κ κ M _ _ _ (fun _ _ q => q) (fun b k1 q1 q2 => ?_) (fun b k1 hb => ?_) h
  · rw [q1] at q2
    cases q2
  · have q : b ≠ a := fun q => by
      subst q
      rw [hκ] at hb
      cases hb
    rw [am_ne q]
    exact tg_kp_refl _ _ _
theorem tg_kp_o {k j ci : Nat} {vs : List Value} {v : Value} {F : List (Nat × Nat)} (h : (k, j) ∉ F) : tg_kp F k (some (.inr (ci, vs))) (some (.inr (ci, vs.set j v))) := by
  refine ⟨fun ci' vs' e => ?_, fun t x e => ?_, fun e => ?_⟩
  · cases e
    refine ⟨_, rfl, fun i hi => ?_⟩
    have : i ≠ j := fun e => h (by rw [← e]; exact hi)
    rw [List.getElem?_set_ne (fun e => this e.symm)]
  · cases e
  · cases e
theorem tg_kp_a {k t : Nat} {x x' : vp_A} {F : List (Nat × Nat)} (h : (k, 0) ∉ F) (hn : x'.1 = x.1) : tg_kp F k (some (.inl (t, x))) (some (.inl (t, x'))) := by
  refine ⟨fun ci' vs' e => ?_, fun t x e => ?_, fun e => ?_⟩
  · cases e
  · cases e
    exact ⟨x', rfl, hn, fun q => absurd q h⟩
  · cases e
/-- names, forms ahead -/
def tg_pn : List Nat → List Nat → Option (List Nat)
  | [], l => some l
  | a :: r, b :: l => if a = b then tg_pn r l else none
  | _ :: _, [] => none
def tg_pf : List tl_F → List tl_F → Option (List tl_F)
  | [], l => some l
  | a :: r, b :: l => if tl_eq a b then tg_pf r l else none
  | _ :: _, [] => none
theorem tg_pn_s : ∀ {ns l r : List Nat}, tg_pn ns l = some r → l = ns ++ r
  | [], l, r, h => by
    cases h
    rfl
  | a :: ns, [], r, h => by cases h
  | a :: ns, b :: l, r, h => by
    unfold tg_pn at h
    split at h
    · rename_i e
      rw [e, tg_pn_s h]
      rfl
    · cases h
theorem tg_pf_s : ∀ {fs l r : List tl_F}, tg_pf fs l = some r → l.map (tl_v V) = fs.map (tl_v V) ++ r.map (tl_v V)
  | [], l, r, h => by
    cases h
    rfl
  | a :: fs, [], r, h => by cases h
  | a :: fs, b :: l, r, h => by
    unfold tg_pf at h
    split at h
    · rename_i e
      rw [List.map_cons, List.map_cons, tg_pf_s h, tl_eq_s (V := V) e]
      rfl
    · cases h
/-- what was said of behind a write is now so -/
def tg_cv1 (w : Nat) (ns : List Nat) (fs : List tl_F) (p : tg_P) : Option tg_P := if p.1 % 8 = w then (match tg_pn ns p.2.1, tg_pf fs p.2.2 with
  | some r, some q => some (p.1 - w, r, q)
  | _, _ => none) else none
def tg_cv (w : Nat) (ns : List Nat) (fs : List tl_F) (l : List tg_P) : List tg_P := l.filterMap (tg_cv1 w ns fs)
theorem tg_cv1_s {w : Nat} {ns : List Nat} {fs : List tl_F} {p q : tg_P} (h : tg_cv1 w ns fs p = some q) (g : tc_xq Γ RO κ M V A p) : p.1 % 8 = w ∧ q.1 % 8 = 0 ∧ q.1 / 8 = p.1 / 8 ∧ tg_q Γ p.1 RO κ M (ns.map A ++ q.2.1.map A) (fs.map (tl_v V) ++ q.2.2.map (tl_v V)) := by
  unfold tg_cv1 at h
  split at h
  · rename_i hw
    split at h
    · rename_i r s h1 h2
      cases h
      refine ⟨hw, by dsimp only; omega, by dsimp only; omega, ?_⟩
      unfold tc_xq at g
      rw [tg_pn_s h1, tg_pf_s (V := V) h2, List.map_append] at g
      exact g
    · cases h
  · cases h
theorem tg_cv_1 {a : Nat} {I v : tl_F} {l : List tg_P} (hl : ∀ p ∈ l, tc_xq Γ RO κ M V A p) {ty n j : Nat} {f : Nat → Int32} {x : Int32} (hM : M (A a) = some (.inl (ty, n, .inl f))) (hI : tl_v V I = (j : Int)) (hx : x.toInt = tl_v V v) : ∀ q ∈ tg_cv 1 [a] [I, v] l, tc_xq Γ RO κ (am_set M (A a) (.inl (ty, n, .inl (upd f j x)))) V A q := by
  intro q hq
  obtain ⟨p, hp, h⟩ := List.mem_filterMap.mp hq
  obtain ⟨h1, h2, h3, h4⟩ := tg_cv1_s h (hl p hp)
  rw [tg_q0 h2, h3]
  unfold tg_q at h4
  rw [h1] at h4
  have h5 := h4 ty n f x hM hx
  rw [hI] at h5
  exact h5
theorem tg_cv_2 {a j : Nat} {v : tl_F} {l : List tg_P} (hl : ∀ p ∈ l, tc_xq Γ RO κ M V A p) {ci : Nat} {vs : List Value} {x : Int32} (hM : M (A a) = some (.inr (ci, vs))) (hx : x.toInt = tl_v V v) : ∀ q ∈ tg_cv 2 [a] [tl_c (j : Int), v] l, tc_xq Γ RO κ (am_set M (A a) (.inr (ci, vs.set j (.int x)))) V A q := by
  intro q hq
  obtain ⟨p, hp, h⟩ := List.mem_filterMap.mp hq
  obtain ⟨h1, h2, h3, h4⟩ := tg_cv1_s h (hl p hp)
  rw [tg_q0 h2, h3]
  unfold tg_q at h4
  rw [h1] at h4
  have h5 := h4 ci vs x hM hx
  rw [tl_c_s] at h5
  exact h5
theorem tg_cv_3 {a b j : Nat} {l : List tg_P} (hl : ∀ p ∈ l, tc_xq Γ RO κ M V A p) {ci : Nat} {vs : List Value} (hM : M (A a) = some (.inr (ci, vs))) : ∀ q ∈ tg_cv 3 [a, b] [tl_c (j : Int)] l, tc_xq Γ RO κ (am_set M (A a) (.inr (ci, vs.set j (.ref (A b))))) V A q := by
  intro q hq
  obtain ⟨p, hp, h⟩ := List.mem_filterMap.mp hq
  obtain ⟨h1, h2, h3, h4⟩ := tg_cv1_s h (hl p hp)
  rw [tg_q0 h2, h3]
  unfold tg_q at h4
  rw [h1] at h4
  have h5 := h4 ci vs hM
  rw [tl_c_s] at h5
  exact h5
theorem tg_cv_4 {a b : Nat} {I : tl_F} {l : List tg_P} (hl : ∀ p ∈ l, tc_xq Γ RO κ M V A p) {ty n j : Nat} {f : Nat → Option Nat} (hM : M (A a) = some (am_qa ty n f)) (hI : tl_v V I = (j : Int)) : ∀ q ∈ tg_cv 4 [a, b] [I] l, tc_xq Γ RO κ (am_set M (A a) (am_qa ty n (va_up f j (some (A b))))) V A q := by
  intro q hq
  obtain ⟨p, hp, h⟩ := List.mem_filterMap.mp hq
  obtain ⟨h1, h2, h3, h4⟩ := tg_cv1_s h (hl p hp)
  rw [tg_q0 h2, h3]
  unfold tg_q at h4
  rw [h1] at h4
  have h5 := h4 ty n f hM
  rw [hI] at h5
  exact h5
theorem tg_cv_5 {a j : Nat} {l : List tg_P} (hl : ∀ p ∈ l, tc_xq Γ RO κ M V A p) {ci : Nat} {vs : List Value} (hM : M (A a) = some (.inr (ci, vs))) : ∀ q ∈ tg_cv 5 [a] [tl_c (j : Int)] l, tc_xq Γ RO κ (am_set M (A a) (.inr (ci, vs.set j .null))) V A q := by
  intro q hq
  obtain ⟨p, hp, h⟩ := List.mem_filterMap.mp hq
  obtain ⟨h1, h2, h3, h4⟩ := tg_cv1_s h (hl p hp)
  rw [tg_q0 h2, h3]
  unfold tg_q at h4
  rw [h1] at h4
  have h5 := h4 ci vs hM
  rw [tl_c_s] at h5
  exact h5
theorem tg_cv_6 {a : Nat} {I : tl_F} {l : List tg_P} (hl : ∀ p ∈ l, tc_xq Γ RO κ M V A p) {ty n j : Nat} {f : Nat → Option Nat} (hM : M (A a) = some (am_qa ty n f)) (hI : tl_v V I = (j : Int)) : ∀ q ∈ tg_cv 6 [a] [I] l, tc_xq Γ RO κ (am_set M (A a) (am_qa ty n (va_up f j none))) V A q := by
  intro q hq
  obtain ⟨p, hp, h⟩ := List.mem_filterMap.mp hq
  obtain ⟨h1, h2, h3, h4⟩ := tg_cv1_s h (hl p hp)
  rw [tg_q0 h2, h3]
  unfold tg_q at h4
  rw [h1] at h4
  have h5 := h4 ty n f hM
  rw [hI] at h5
  exact h5
def tg_cv7 (m k : Nat) (l : List tg_P) : List tg_P := l.filterMap (fun p => if p.1 % 8 = 7 then (match p.2.2 with
  | f :: fs => if tl_eq f (tl_c (k : Int)) then some (p.1 - 7, m :: p.2.1, fs) else none
  | [] => none) else none)
theorem tg_cv_7 {a k m : Nat} {l : List tg_P} (hl : ∀ p ∈ l, tc_xq Γ RO κ M V A p) (hA : ∀ p ∈ l, p.2.1.map A' = p.2.1.map A) (ha : A' m = a) (h0 : κ a = none) (h1 : κ' a = some k) (hz : tg_z (M' a)) (h2 : ∀ b k1, κ b = some k1 → κ' b = some k1 ∧ M' b = M b) (h3 : ∀ b k1, κ' b = some k1 → κ b = none → b = a) : ∀ q ∈ tg_cv7 m k l, tc_xq Γ RO κ' M' V A' q := by
  intro q hq
  obtain ⟨p, hp, h⟩ := List.mem_filterMap.mp hq
  split at h
  · rename_i h7
    split at h
    · rename_i f fs hfs
      split at h
      · rename_i he
        cases h
        have e1 : (p.1 - 7) % 8 = 0 := by omega
        have e2 : (p.1 - 7) / 8 = p.1 / 8 := by omega
        have g := hl p hp
        unfold tc_xq tg_q at g
        rw [h7, hfs] at g
        rw [tg_q0 (by exact e1)]
        dsimp only
        rw [e2, List.map_cons, ha, hA p hp]
        have g : tg_w7 Γ (p.1 / 8) RO κ M (tl_v V f).toNat (p.2.1.map A) (fs.map (tl_v V)) := g
        rw [tl_eq_s (V := V) he, tl_c_s, Int.toNat_natCast] at g
        exact g a κ' M' h0 h1 hz h2 h3
      · cases h
    · cases h
  · cases h
end TGA
