/-! TC: kinds of cells, what always holds of a heap, and what writing keeps -/
/-- a field: 0 an int between two, 1 a long, 2 an address of one of these kinds, 3 that or null -/
abbrev tk_F : Type := Nat × Int × Int × List Nat
/-- bounds of an element: low and its slope, high and its slope -/
abbrev tk_E : Type := Int × Int × Int × Int
/-- a kind: 0 an object of a class with its fields, 1 an array of ints (its code), 2 of longs, 3 of addresses, 4 a static array of ints; bounds of elements by the place's remainder; bounds of the length; of an object: forms that are not below 0 (name 2 i: field i's int, 2 i + 1: the length of what field i holds) -/
abbrev tk_K : Type := Nat × Nat × List tk_F × List tk_E × Int × Int × List tl_F
abbrev tk_T : Type := List tk_K
def tk_ok (κ : Nat → Option Nat) (τ : tk_F) (v : Value) : Prop := match τ.1 with
  | 0 => ∃ x : Int32, v = .int x ∧ τ.2.1 ≤ x.toInt ∧ x.toInt ≤ τ.2.2.1
  | 1 => ∃ x : Int64, v = .long x
  | 2 => ∃ a k, v = .ref a ∧ κ a = some k ∧ k ∈ τ.2.2.2
  | 3 => v = .null ∨ ∃ a k, v = .ref a ∧ κ a = some k ∧ k ∈ τ.2.2.2
  | _ => False
def tk_vs (κ : Nat → Option Nat) : List tk_F → List Value → Prop
  | [], [] => True
  | τ :: r, v :: s => tk_ok κ τ v ∧ tk_vs κ r s
  | _, _ => False
/-- an element of an array of addresses -/
def tk_el (κ : Nat → Option Nat) (τ : tk_F) (o : Option Nat) : Prop := match o with
  | none => τ.1 = 3
  | some a => (τ.1 = 2 ∨ τ.1 = 3) ∧ ∃ k, κ a = some k ∧ k ∈ τ.2.2.2
def tk_eb (E : List tk_E) (j : Nat) (x : Int) : Prop := ∀ e : tk_E, E[j % E.length]? = some e → e.1 + e.2.1 * ((j / E.length : Nat) : Int) ≤ x ∧ x ≤ e.2.2.1 + e.2.2.2 * ((j / E.length : Nat) : Int)
def tk_len (M : am_H) (RO : am_O) (a : Nat) (n : Nat) : Prop := (∃ (t : Nat) (x : vp_A), M a = some (.inl (t, x)) ∧ x.1 = n) ∨ (M a = none ∧ ∃ f, RO a = some (n, f))
/-- an object's ints and lengths by the names of its forms -/
def tk_nm (M : am_H) (RO : am_O) (vs : List Value) (V : Nat → Int) : Prop := ∀ i : Nat, (∀ x : Int32, vs[i]? = some (.int x) → V (2 * i) = x.toInt) ∧ ∀ (a n : Nat), vs[i]? = some (.ref a) → tk_len M RO a n → V (2 * i + 1) = (n : Int)
def tk_cell (κ : Nat → Option Nat) (RO : am_O) (M : am_H) (a : Nat) (K : tk_K) : Prop := match K with
  | (0, ci, fs, _, _, _, O) => ∃ vs : List Value, M a = some (.inr (ci, vs)) ∧ tk_vs κ fs vs ∧ ∀ V, tk_nm M RO vs V → ∀ f ∈ O, 0 ≤ tl_v V f
  | (1, t, _, E, lo, hi, _) => ∃ (n : Nat) (f : Nat → Int32), M a = some (.inl (t, n, .inl f)) ∧ (lo ≤ (n : Int) ∧ (n : Int) ≤ hi) ∧ ∀ j, j < n → tk_eb E j (f j).toInt
  | (2, t, _, _, lo, hi, _) => ∃ (n : Nat) (f : Nat → Int64), M a = some (.inl (t, n, .inr (.inl f))) ∧ (lo ≤ (n : Int) ∧ (n : Int) ≤ hi)
  | (3, t, fs, _, lo, hi, _) => ∃ (n : Nat) (f : Nat → Option Nat), M a = some (am_qa t n f) ∧ (lo ≤ (n : Int) ∧ (n : Int) ≤ hi) ∧ ∀ τ : tk_F, fs[0]? = some τ → ∀ j, j < n → tk_el κ τ (f j)
  | (4, _, _, E, lo, hi, _) => M a = none ∧ ∃ (n : Nat) (f : Nat → Int32), RO a = some (n, f) ∧ (lo ≤ (n : Int) ∧ (n : Int) ≤ hi) ∧ ∀ j, j < n → tk_eb E j (f j).toInt
  | _ => False
/-- what always holds -/
def tk_H (T : tk_T) (RO : am_O) (κ : Nat → Option Nat) (M : am_H) (sz : Nat) : Prop := ∀ a k, κ a = some k → a < sz ∧ ∃ K, T[k]? = some K ∧ tk_cell κ RO M a K
theorem tk_ok_x {κ κ' : Nat → Option Nat} (h : ∀ a k, κ a = some k → κ' a = some k) {τ : tk_F} {v : Value} (g : tk_ok κ τ v) : tk_ok κ' τ v := by
  obtain ⟨s, lo, hi, ks⟩ := τ
  match s, g with
  | 0, g => exact g
  | 1, g => exact g
  | 2, ⟨a, k, g1, g2, g3⟩ => exact ⟨a, k, g1, h a k g2, g3⟩
  | 3, .inl g => exact Or.inl g
  | 3, .inr ⟨a, k, g1, g2, g3⟩ => exact Or.inr ⟨a, k, g1, h a k g2, g3⟩
  | n + 4, g => exact g.elim
theorem tk_ok_ref {κ : Nat → Option Nat} {τ : tk_F} {a : Nat} (g : tk_ok κ τ (.ref a)) : ∃ k, κ a = some k ∧ k ∈ τ.2.2.2 := by
  obtain ⟨s, lo, hi, ks⟩ := τ
  match s, g with
  | 0, ⟨x, q, _⟩ => cases q
  | 1, ⟨x, q⟩ => cases q
  | 2, ⟨b, k, q1, q2, q3⟩ =>
    cases q1
    exact ⟨k, q2, q3⟩
  | 3, .inl q => cases q
  | 3, .inr ⟨b, k, q1, q2, q3⟩ =>
    cases q1
    exact ⟨k, q2, q3⟩
  | n + 4, q => exact q.elim
theorem tk_vs_x {κ κ' : Nat → Option Nat} (h : ∀ a k, κ a = some k → κ' a = some k) : ∀ {fs : List tk_F} {vs : List Value}, tk_vs κ fs vs → tk_vs κ' fs vs
  | [], [], _ => trivial
  | τ :: r, [], g => by cases g
  | [], v :: s, g => by cases g
  | τ :: r, v :: s, g => ⟨tk_ok_x h g.1, tk_vs_x h g.2⟩
theorem tk_el_x {κ κ' : Nat → Option Nat} (h : ∀ a k, κ a = some k → κ' a = some k) {τ : tk_F} {o : Option Nat} (g : tk_el κ τ o) : tk_el κ' τ o := by
  cases o with
  | none => exact g
  | some a =>
    obtain ⟨g0, k, g1, g2⟩ := g
    exact ⟨g0, k, h a k g1, g2⟩
theorem tk_vs_at {κ : Nat → Option Nat} : ∀ {fs : List tk_F} {vs : List Value} {j : Nat} {τ : tk_F}, tk_vs κ fs vs → fs[j]? = some τ → ∃ v, vs[j]? = some v ∧ tk_ok κ τ v
  | [], _, j, τ, _, h => by simp at h
  | τ :: r, [], j, _, g, _ => by cases g
  | τ :: r, v :: s, 0, _, g, h => by
    cases h
    exact ⟨v, rfl, g.1⟩
  | τ :: r, v :: s, j + 1, _, g, h => tk_vs_at (j := j) g.2 (by simpa using h)
theorem tk_vs_ln {κ : Nat → Option Nat} : ∀ {fs : List tk_F} {vs : List Value}, tk_vs κ fs vs → vs.length = fs.length
  | [], [], _ => rfl
  | τ :: r, [], g => by cases g
  | [], v :: s, g => by cases g
  | τ :: r, v :: s, g => congrArg (· + 1) (tk_vs_ln g.2)
theorem tk_vs_set {κ : Nat → Option Nat} : ∀ {fs : List tk_F} {vs : List Value} {j : Nat} {τ : tk_F} {v : Value}, tk_vs κ fs vs → fs[j]? = some τ → tk_ok κ τ v → tk_vs κ fs (vs.set j v)
  | [], _, j, τ, _, _, h, _ => by simp at h
  | τ :: r, [], j, _, _, g, _, _ => by cases g
  | τ :: r, v :: s, 0, _, w, g, h, q => by
    cases h
    exact ⟨q, g.2⟩
  | τ :: r, v :: s, j + 1, _, w, g, h, q => ⟨g.1, tk_vs_set (j := j) g.2 (by simpa using h) q⟩
/-- lengths stay where cells stay of one sort and length -/
theorem tk_cell_m {κ κ' : Nat → Option Nat} {RO : am_O} {M M' : am_H} {a : Nat} {K : tk_K} (hκ : ∀ a k, κ a = some k → κ' a = some k) (hM : M' a = M a) (hl : ∀ b n, (∃ k, κ b = some k) → tk_len M RO b n → tk_len M' RO b n) (hk : ∀ ci fs E lo hi O, K = (0, ci, fs, E, lo, hi, O) → ∀ f ∈ O, ∀ vs V, tk_vs κ fs vs → tk_nm M' RO vs V → tk_nm M RO vs V) (g : tk_cell κ RO M a K) : tk_cell κ' RO M' a K := by
  obtain ⟨s, ci, fs, E, lo, hi, O⟩ := K
  match s, g, hk with
  | 0, ⟨vs, g1, g2, g3⟩, hk => exact ⟨vs, hM.trans g1, tk_vs_x hκ g2, fun V hV f hf => g3 V (hk _ _ _ _ _ _ rfl f hf vs V g2 hV) f hf⟩
  | 1, ⟨n, f, g1, g2⟩, _ => exact ⟨n, f, hM.trans g1, g2⟩
  | 2, ⟨n, f, g1, g2⟩, _ => exact ⟨n, f, hM.trans g1, g2⟩
  | 3, ⟨n, f, g1, g2, g3⟩, _ => exact ⟨n, f, hM.trans g1, g2, fun τ hτ j hj => tk_el_x hκ (g3 τ hτ j hj)⟩
  | 4, ⟨g0, n, f, g1, g2⟩, _ => exact ⟨hM.trans g0, n, f, g1, g2⟩
  | n + 5, g, _ => exact g.elim
theorem tk_nm_m {κ : Nat → Option Nat} {RO : am_O} {M M' : am_H} (hl : ∀ b n, tk_len M RO b n → (∃ k, κ b = some k) → tk_len M' RO b n) {fs : List tk_F} {vs : List Value} {V : Nat → Int} (h1 : tk_vs κ fs vs) (h2 : tk_nm M' RO vs V) : tk_nm M RO vs V := by
  intro i
  refine ⟨(h2 i).1, fun a n ha hn => (h2 i).2 a n ha (hl a n hn ?_)⟩
  have hi : i < vs.length := (List.getElem?_eq_some_iff.mp ha).1
  have hf : i < fs.length := by
    rw [← tk_vs_ln h1]
    exact hi
  obtain ⟨v, e1, e2⟩ := tk_vs_at (τ := fs[i]) h1 (List.getElem?_eq_getElem hf)
  rw [ha] at e1
  cases e1
  obtain ⟨k, q, _⟩ := tk_ok_ref e2
  exact ⟨k, q⟩
/-- one cell is written, all else stays -/
theorem tk_H_set {T : tk_T} {RO : am_O} {κ : Nat → Option Nat} {M : am_H} {sz : Nat} (h : tk_H T RO κ M sz) {a : Nat} {e : am_E} (hl : ∀ b n, tk_len M RO b n → (∃ k, κ b = some k) → tk_len (am_set M a e) RO b n) (hc : ∀ k K, κ a = some k → T[k]? = some K → tk_cell κ RO (am_set M a e) a K) : tk_H T RO κ (am_set M a e) sz := by
  intro b k hb
  obtain ⟨h1, K, h2, h3⟩ := h b k hb
  refine ⟨h1, K, h2, ?_⟩
  by_cases q : b = a
  · subst q
    exact hc k K hb h2
  · exact tk_cell_m (fun _ _ x => x) (am_ne q) (fun c n hc hn => hl c n hn hc) (fun ci fs E lo hi O _ f _ vs V g1 g2 => tk_nm_m hl g1 g2) h3
theorem tk_len_obj {RO : am_O} {M : am_H} {a : Nat} {ci ci' : Nat} {vs vs' : List Value} (ha : M a = some (.inr (ci, vs))) : ∀ b n, tk_len M RO b n → tk_len (am_set M a (.inr (ci', vs'))) RO b n := by
  intro b n hb
  by_cases q : b = a
  · subst q
    rcases hb with ⟨t, x, h, _⟩ | ⟨h, _⟩
    · rw [ha] at h
      cases h
    · rw [ha] at h
      cases h
  · rcases hb with ⟨t, x, h, h2⟩ | ⟨h, h2⟩
    · exact Or.inl ⟨t, x, (am_ne q).trans h, h2⟩
    · exact Or.inr ⟨(am_ne q).trans h, h2⟩
theorem tk_len_arr {RO : am_O} {M : am_H} {a : Nat} {t t' : Nat} {x x' : vp_A} (ha : M a = some (.inl (t, x))) (hx : x'.1 = x.1) : ∀ b n, tk_len M RO b n → tk_len (am_set M a (.inl (t', x'))) RO b n := by
  intro b n hb
  by_cases q : b = a
  · subst q
    rcases hb with ⟨t1, x1, h, h2⟩ | ⟨h, _⟩
    · rw [ha] at h
      cases h
      exact Or.inl ⟨t', x', am_same, hx.trans h2⟩
    · rw [ha] at h
      cases h
  · rcases hb with ⟨t, x, h, h2⟩ | ⟨h, h2⟩
    · exact Or.inl ⟨t, x, (am_ne q).trans h, h2⟩
    · exact Or.inr ⟨(am_ne q).trans h, h2⟩
/-- a cell is made -/
theorem tk_H_new {T : tk_T} {RO : am_O} {κ : Nat → Option Nat} {M : am_H} {sz : Nat} (h : tk_H T RO κ M sz) (hn : κ sz = none) {k : Nat} {K : tk_K} {e : am_E} (hk : T[k]? = some K) (hc : tk_cell (fun q => if q = sz then some k else κ q) RO (am_set M sz e) sz K) : tk_H T RO (fun q => if q = sz then some k else κ q) (am_set M sz e) (sz + 1) := by
  have hx : ∀ a k1, κ a = some k1 → (fun q => if q = sz then some k else κ q) a = some k1 := by
    intro a k1 ha
    have : a ≠ sz := fun q => by
      subst q
      rw [hn] at ha
      cases ha
    show (if a = sz then some k else κ a) = _
    rw [if_neg this]
    exact ha
  have hl : ∀ b n, tk_len M RO b n → (∃ k, κ b = some k) → tk_len (am_set M sz e) RO b n := by
    intro b n hb ⟨k1, hb1⟩
    have q : b ≠ sz := fun q => by
      subst q
      rw [hn] at hb1
      cases hb1
    rcases hb with ⟨t, x, h, h2⟩ | ⟨h, h2⟩
    · exact Or.inl ⟨t, x, (am_ne q).trans h, h2⟩
    · exact Or.inr ⟨(am_ne q).trans h, h2⟩
  intro b k1 hb
  by_cases q : b = sz
  · subst q
    have e1 : k1 = k := by
      have hb' : (if b = b then some k else κ b) = some k1 := hb
      rw [if_pos rfl] at hb'
      cases hb'
      rfl
    subst e1
    exact ⟨Nat.lt_succ_self _, K, hk, hc⟩
  · have hb' : κ b = some k1 := by
      have hb2 : (if b = sz then some k else κ b) = some k1 := hb
      rw [if_neg q] at hb2
      exact hb2
    obtain ⟨h1, K1, h2, h3⟩ := h b k1 hb'
    exact ⟨Nat.lt_succ_of_lt h1, K1, h2, tk_cell_m hx (am_ne q) (fun c n hc hn => hl c n hn hc) (fun ci fs E lo hi O _ f _ vs V g1 g2 => tk_nm_m hl g1 g2) h3⟩
