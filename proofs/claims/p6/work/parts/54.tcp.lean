/-! TC: what instructions make of the stack -/
/-- a hint: its sort, ints, forms, certificates -/
abbrev tc_h : Type := Nat × List Int × List tl_F × List tl_C
def tc_cf (h : tc_h) (k : Nat) : tl_C := h.2.2.2.getD k (0, [])
def tc_hi (h : tc_h) (k : Nat) : Int := h.2.1.getD k 0
def tc_hf (h : tc_h) (k : Nat) : tl_F := h.2.2.1.getD k ([], 0)
def tv_lt (n m : Nat) (t : tv_V) : Bool := tl_lt n t.2.1 && (!(t.1 == 2) || decide (t.2.2 < m))
theorem tv_lt_s {V V' : Nat → Int} {A A' : Nat → Nat} {n m : Nat} (hV : ∀ k, k < n → V k = V' k) (hA : ∀ k, k < m → A k = A' k) {t : tv_V} {v : Value} (h : tv_lt n m t = true) (g : tv_is V A t v) : tv_is V' A' t v := by
  obtain ⟨k, f, a⟩ := t
  have h2 := (Bool.and_eq_true _ _).mp h
  have e := tl_v_lt hV h2.1
  match k, g, h2 with
  | 0, ⟨x, g1, g2⟩, _ => exact ⟨x, g1, g2.trans e⟩
  | 1, g, _ => exact g
  | 2, g, ⟨_, q⟩ =>
    have q2 : a < m := by simpa using q
    show v = .ref (A' a)
    rw [← hA a q2]
    exact g
  | 3, g, _ => exact g
  | 4, ⟨x, g1, g2⟩, _ => exact ⟨x, g1, g2.trans e⟩
  | 5, ⟨x, g1, g2⟩, _ =>
    refine ⟨x, g1, ?_⟩
    have e2 : tl_v V f = tl_v V' f := e
    rw [← e2]
    exact g2
theorem tc_st_lt {V V' : Nat → Int} {A A' : Nat → Nat} {n m : Nat} (hV : ∀ k, k < n → V k = V' k) (hA : ∀ k, k < m → A k = A' k) : ∀ {S : List tv_V} {st : List Value}, S.all (tv_lt n m) = true → tc_st V A S st → tc_st V' A' S st
  | [], [], _, _ => trivial
  | t :: r, [], _, g => by cases g
  | [], v :: s, _, g => by cases g
  | t :: r, v :: s, h, g => by
    have h2 := (Bool.and_eq_true _ _).mp (show (tv_lt n m t && r.all (tv_lt n m)) = true from h)
    exact ⟨tv_lt_s hV hA h2.1 g.1, tc_st_lt hV hA h2.2 g.2⟩
theorem tc_lv_lt {V V' : Nat → Int} {A A' : Nat → Nat} {n m : Nat} (hV : ∀ k, k < n → V k = V' k) (hA : ∀ k, k < m → A k = A' k) {L : tc_L} {lv : am_L} (h : L.all (fun p => tv_lt n m p.2) = true) (g : tc_lv V A L lv) : tc_lv V' A' L lv := by
  intro p hp
  obtain ⟨v, g1, g2⟩ := g p hp
  exact ⟨v, g1, tv_lt_s hV hA (List.all_eq_true.mp h p hp) g2⟩
def tl_up (V : Nat → Int) (n : Nat) (z : Int) : Nat → Int := fun k => if k = n then z else V k
theorem tl_up_lt {V : Nat → Int} {n : Nat} {z : Int} : ∀ k, k < n → V k = tl_up V n z k := by
  intro k hk
  unfold tl_up
  rw [if_neg (by omega)]
theorem tl_up_nm (V : Nat → Int) (n : Nat) (z : Int) : tl_v (tl_up V n z) (tl_nm n) = z := by
  rw [tl_nm_s]
  unfold tl_up
  rw [if_pos rfl]
theorem tl_up_v {V : Nat → Int} {n : Nat} {z : Int} {f : tl_F} (h : tl_lt n f = true) : tl_v (tl_up V n z) f = tl_v V f := (tl_v_lt tl_up_lt h).symm
/-- the facts of a name between two -/
def tl_bt (f : tl_F) (lo hi : Int) : List tl_F := [tl_ad f (-lo), tl_ad (tl_neg f) hi]
theorem tl_bt_s {V : Nat → Int} {f : tl_F} {lo hi : Int} (h1 : lo ≤ tl_v V f) (h2 : tl_v V f ≤ hi) : ∀ e ∈ tl_bt f lo hi, 0 ≤ tl_v V e := by
  intro e he
  rcases List.mem_cons.mp he with rfl | he
  · rw [tl_ad_s]
    omega
  · rcases List.mem_cons.mp he with rfl | he
    · rw [tl_ad_s, tl_neg_s]
      omega
    · cases he
/-- a form that is an int, by certificates from the k-th on -/
def tc_ex (fs : List tl_F) (h : tc_h) (k : Nat) (f : tl_F) : Bool := tl_pr fs (tl_ad f 2147483648) (tc_cf h k) && tl_pr fs (tl_ad (tl_neg f) 2147483647) (tc_cf h (k + 1))
theorem tc_ex_s {V : Nat → Int} {fs : List tl_F} (hf : ∀ f ∈ fs, 0 ≤ tl_v V f) {h : tc_h} {k : Nat} {f : tl_F} (g : tc_ex fs h k f = true) : -2147483648 ≤ tl_v V f ∧ tl_v V f ≤ 2147483647 := by
  have g2 := (Bool.and_eq_true _ _).mp g
  have h1 := tl_pr_s hf g2.1
  have h2 := tl_pr_s hf g2.2
  rw [tl_ad_s] at h1 h2
  rw [tl_neg_s] at h2
  omega
def tl_kc (f : tl_F) : Option Int := match (tl_nf f).1 with
  | [] => some f.2
  | _ => none
theorem tl_kc_s {V : Nat → Int} {f : tl_F} {c : Int} (h : tl_kc f = some c) : tl_v V f = c := by
  unfold tl_kc at h
  split at h
  · rename_i e
    cases h
    rw [← tl_nf_s]
    unfold tl_v
    rw [e]
    show 0 + (tl_nf f).2 = f.2
    rw [Int.zero_add]
    rfl
  · cases h
abbrev tc_R : Type := tl_F × List tl_F × Nat
/-- a new name for the result, with facts -/
def tc_fr (n : Nat) (es : List tl_F) : tc_R := (tl_nm n, es, 1)
def tc_any (n : Nat) : tc_R := tc_fr n (tl_bt (tl_nm n) (-2147483648) 2147483647)
def tc_gx (fs : List tl_F) (h : tc_h) (f : tl_F) : Option tc_R := if tc_ex fs h 0 (tl_nf f) then some (tl_nf f, [], 0) else none
def tc_rok (V : Nat → Int) (n : Nat) (o : tc_R) (z : Int) : Prop := ∃ V' : Nat → Int, (∀ k, k < n → V k = V' k) ∧ z = tl_v V' o.1 ∧ ∀ f ∈ o.2.1, 0 ≤ tl_v V' f
section TCP
variable {V : Nat → Int} {fs : List tl_F} {h : tc_h} {n : Nat}
theorem tc_any_s (x : Int32) : tc_rok V n (tc_any n) x.toInt := ⟨tl_up V n x.toInt, tl_up_lt, (tl_up_nm _ _ _).symm, tl_bt_s (by rw [tl_up_nm]; exact to_lo x) (by rw [tl_up_nm]; exact to_hi x)⟩
theorem tc_gx_s (hf : ∀ f ∈ fs, 0 ≤ tl_v V f) {f : tl_F} {o : tc_R} (g : tc_gx fs h f = some o) : -2147483648 ≤ tl_v V f ∧ tl_v V f ≤ 2147483647 ∧ ∀ z, z = tl_v V f → tc_rok V n o z := by
  unfold tc_gx at g
  split at g
  · rename_i e
    cases g
    have e1 := tc_ex_s hf e
    rw [tl_nf_s] at e1
    exact ⟨e1.1, e1.2, fun z hz => ⟨V, fun _ _ => rfl, by rw [hz]; exact (tl_nf_s V f).symm, fun f hf => by cases hf⟩⟩
  · cases g
theorem tc_bt_s {lo hi : Int} (z : Int) (h1 : lo ≤ z) (h2 : z ≤ hi) : tc_rok V n (tc_fr n (tl_bt (tl_nm n) lo hi)) z := ⟨tl_up V n z, tl_up_lt, (tl_up_nm _ _ _).symm, tl_bt_s (by rw [tl_up_nm]; exact h1) (by rw [tl_up_nm]; exact h2)⟩
/-- z between 0 and a form -/
def tc_b0 (n : Nat) (b : tl_F) : tc_R := tc_fr n [tl_nm n, tl_sub b (tl_nm n)]
theorem tc_b0_s {b : tl_F} (hb : tl_lt n b = true) (z : Int) (h1 : 0 ≤ z) (h2 : z ≤ tl_v V b) : tc_rok V n (tc_b0 n b) z := by
  refine ⟨tl_up V n z, tl_up_lt, (tl_up_nm _ _ _).symm, fun f hf => ?_⟩
  rcases List.mem_cons.mp hf with rfl | hf
  · rw [tl_up_nm]
    exact h1
  · rcases List.mem_cons.mp hf with rfl | hf
    · rw [tl_sub_s, tl_up_nm, tl_up_v hb]
      omega
    · cases hf
/-- c z is a, rounded down -/
def tc_fl (n : Nat) (a : tl_F) (c : Nat) : tc_R := tc_fr n [tl_sub a (tl_sc (c : Int) (tl_nm n)), tl_ad (tl_sub (tl_sc (c : Int) (tl_nm n)) a) ((c : Int) - 1)]
theorem tc_fl_s {a : tl_F} (ha : tl_lt n a = true) {c : Nat} (hc : 0 < c) {z : Int} (hz : z = tl_v V a / (c : Int)) : tc_rok V n (tc_fl n a c) z := by
  have h1 := to_fl (tl_v V a) hc
  rw [← hz] at h1
  refine ⟨tl_up V n z, tl_up_lt, (tl_up_nm _ _ _).symm, fun f hf => ?_⟩
  rcases List.mem_cons.mp hf with rfl | hf
  · rw [tl_sub_s, tl_sc_s, tl_up_nm, tl_up_v ha]
    exact h1.1
  · rcases List.mem_cons.mp hf with rfl | hf
    · rw [tl_ad_s, tl_sub_s, tl_sc_s, tl_up_nm, tl_up_v ha]
      omega
    · cases hf
theorem to_andm {x y : Int32} {k : Nat} (hk : k ≤ 31) (h : 0 ≤ x.toInt) (hx : x.toInt < ((2 ^ k : Nat) : Int)) (hy : y.toInt = ((2 ^ k : Nat) : Int) - 1) : (x &&& y).toInt = x.toInt := by
  have e : (x &&& y).toInt = (x.toBitVec &&& y.toBitVec).toInt := rfl
  have hp : 0 < 2 ^ k := Nat.two_pow_pos k
  have h1 := to_nn x h
  have h2 := to_nn y (by omega)
  have h3 := to_p2 hk
  have h4 : (x.toBitVec &&& y.toBitVec).toNat = x.toBitVec.toNat := by
    rw [BitVec.toNat_and, show y.toBitVec.toNat = 2 ^ k - 1 by omega, Nat.and_two_pow_sub_one_eq_mod]
    exact Nat.mod_eq_of_lt (by omega)
  rw [e, to_nm (by omega)]
  omega
theorem to_andn {x y : Int32} {k : Nat} (hk : k ≤ 31) (h : x.toInt < 0) (hx : 0 ≤ x.toInt + ((2 ^ k : Nat) : Int)) (hy : y.toInt = ((2 ^ k : Nat) : Int) - 1) : (x &&& y).toInt = x.toInt + ((2 ^ k : Nat) : Int) := by
  have e : (x &&& y).toInt = (x.toBitVec &&& y.toBitVec).toInt := rfl
  have hp : 0 < 2 ^ k := Nat.two_pow_pos k
  have h2 := to_nn y (by omega)
  have h3 := to_p2 hk
  have hl := x.toBitVec.isLt
  have hc : x.toInt = if 2 * x.toBitVec.toNat < 2 ^ 32 then (x.toBitVec.toNat : Int) else (x.toBitVec.toNat : Int) - ((2 ^ 32 : Nat) : Int) := BitVec.toInt_eq_toNat_cond _
  have hq : (2 : Nat) ^ 32 = 2 ^ k * 2 ^ (32 - k) := by
    rw [← Nat.pow_add]
    congr 1
    omega
  obtain ⟨r, hr⟩ : ∃ r : Nat, x.toInt + ((2 ^ k : Nat) : Int) = r := ⟨(x.toInt + ((2 ^ k : Nat) : Int)).toNat, by omega⟩
  have hm : 2 ^ (32 - k) = 2 ^ (32 - k) - 1 + 1 := by
    have := Nat.two_pow_pos (32 - k)
    omega
  have hn : x.toBitVec.toNat = 2 ^ k * (2 ^ (32 - k) - 1) + r := by
    have h5 : x.toBitVec.toNat + 2 ^ k = 2 ^ 32 + r := by
      split at hc <;> omega
    rw [hq, hm, Nat.mul_add] at h5
    omega
  have h4 : (x.toBitVec &&& y.toBitVec).toNat = r := by
    rw [BitVec.toNat_and, show y.toBitVec.toNat = 2 ^ k - 1 by omega, Nat.and_two_pow_sub_one_eq_mod, hn, Nat.mul_add_mod]
    exact Nat.mod_eq_of_lt (by omega)
  rw [e, to_nm (by omega)]
  omega
theorem tl_s_dv {V : Nat → Int} {p : Int} : ∀ {l : List (Nat × Int)}, l.all (fun q => q.2 % p == 0) = true → tl_s V l % p = 0
  | [], _ => by simp [tl_s]
  | (k, c) :: r, h => by
    rw [List.all_cons, Bool.and_eq_true] at h
    have h1 : c % p = 0 := by simpa using h.1
    have h2 := tl_s_dv (V := V) h.2
    simp only [tl_s]
    rw [Int.add_emod, h2, Int.mul_emod, h1]
    simp
theorem to_andr {x y : Int32} {k : Nat} (hk : k ≤ 31) (h : 0 ≤ x.toInt) (hy : y.toInt = ((2 ^ k : Nat) : Int) - 1) : (x &&& y).toInt = x.toInt % ((2 ^ k : Nat) : Int) := by
  have e : (x &&& y).toInt = (x.toBitVec &&& y.toBitVec).toInt := rfl
  have hp : 0 < 2 ^ k := Nat.two_pow_pos k
  have h1 := to_nn x h
  have h2 := to_nn y (by omega)
  have h3 := to_p2 hk
  have h4 : (x.toBitVec &&& y.toBitVec).toNat = x.toBitVec.toNat % 2 ^ k := by
    rw [BitVec.toNat_and, show y.toBitVec.toNat = 2 ^ k - 1 by omega, Nat.and_two_pow_sub_one_eq_mod]
  have h5 := Nat.mod_lt x.toBitVec.toNat hp
  rw [e, to_nm (by omega), h4]
  have h6 : x.toInt = (x.toBitVec.toNat : Int) := by omega
  rw [h6]
  rfl
def tc_bi (i : Instr) (fs : List tl_F) (h : tc_h) (n : Nat) (a b : tl_F) : Option tc_R := match i with
  | .iadd => if h.1 = 0 then tc_gx fs h (tl_app a b) else some (tc_any n)
  | .isub => if h.1 = 0 then tc_gx fs h (tl_sub a b) else some (tc_any n)
  | .imul => if h.1 = 0 then (match tl_kc b with
      | some c => tc_gx fs h (tl_sc c a)
      | none => (match tl_kc a with
        | some c => tc_gx fs h (tl_sc c b)
        | none => none)) else some (tc_any n)
  | .iand => if h.1 = 0 then (if tl_pr fs b (tc_cf h 0) then some (tc_b0 n b) else none) else if h.1 = 2 then (if tl_pr fs a (tc_cf h 0) then some (tc_b0 n a) else none) else if h.1 = 3 then (let k := (tc_hi h 0).toNat; let p : Int := ((2 ^ k : Nat) : Int); if k ≤ 31 ∧ (tl_kc b == some (p - 1) && (tl_pr fs a (tc_cf h 0) && tl_pr fs (tl_ad (tl_neg a) (p - 1)) (tc_cf h 1))) = true then some (a, [], 0) else none) else if h.1 = 4 then (let k := (tc_hi h 0).toNat; let p : Int := ((2 ^ k : Nat) : Int); if k ≤ 31 ∧ (tl_kc b == some (p - 1) && (tl_pr fs (tl_ad (tl_neg a) (-1)) (tc_cf h 0) && tl_pr fs (tl_ad a p) (tc_cf h 1))) = true then some (tl_ad a p, [], 0) else none) else if h.1 = 5 then (let k := (tc_hi h 0).toNat; let p : Int := ((2 ^ k : Nat) : Int); if k ≤ 31 ∧ (tl_kc b == some (p - 1) && (tl_pr fs a (tc_cf h 0) && a.1.all (fun q => q.2 % p == 0))) = true then some (([], a.2 % p), [], 0) else none) else some (tc_any n)
  | .ior => if h.1 = 0 then (let k := (tc_hi h 0).toNat; let p : Int := ((2 ^ k : Nat) : Int); if k ≤ 31 ∧ (tl_pr fs a (tc_cf h 0) && tl_pr fs b (tc_cf h 1) && tl_pr fs (tl_ad (tl_neg a) (p - 1)) (tc_cf h 2) && tl_pr fs (tl_ad (tl_neg b) (p - 1)) (tc_cf h 3)) = true then some (tc_fr n (tl_bt (tl_nm n) 0 (p - 1))) else none) else if h.1 = 2 then (let k := (tc_hi h 0).toNat; let p : Int := ((2 ^ k : Nat) : Int); if k ≤ 31 ∧ ((tl_nf a).1.all (fun q => q.2 % p == 0) && ((tl_nf a).2 % p == 0 && (tl_pr fs a (tc_cf h 0) && (tl_pr fs b (tc_cf h 1) && tl_pr fs (tl_ad (tl_neg b) (p - 1)) (tc_cf h 2))))) = true then some (tl_nf (tl_app a b), [], 0) else none) else some (tc_any n)
  | .ixor => if h.1 = 0 then (let k := (tc_hi h 0).toNat; let p : Int := ((2 ^ k : Nat) : Int); if k ≤ 31 ∧ (tl_pr fs a (tc_cf h 0) && tl_pr fs b (tc_cf h 1) && tl_pr fs (tl_ad (tl_neg a) (p - 1)) (tc_cf h 2) && tl_pr fs (tl_ad (tl_neg b) (p - 1)) (tc_cf h 3)) = true then some (tc_fr n (tl_bt (tl_nm n) 0 (p - 1))) else none) else some (tc_any n)
  | .ishl => if h.1 = 0 then (match tl_kc b with
      | some c => if 0 ≤ c ∧ c.toNat < 32 then tc_gx fs h (tl_sc ((2 ^ c.toNat : Nat) : Int) a) else none
      | none => none) else some (tc_any n)
  | .ishr => if h.1 = 0 then (match tl_kc b with
      | some c => if 0 ≤ c ∧ c.toNat < 32 then some (tc_fl n a (2 ^ c.toNat)) else none
      | none => none) else some (tc_any n)
  | .iushr => if h.1 = 0 then (match tl_kc b with
      | some c => if 0 ≤ c ∧ c.toNat < 32 ∧ tl_pr fs a (tc_cf h 0) = true then some (tc_fl n a (2 ^ c.toNat)) else none
      | none => none) else if h.1 = 2 then (match tl_kc b with
      | some c => if 0 < c ∧ c.toNat < 32 then some (tc_fr n (tl_bt (tl_nm n) 0 (((2 ^ (32 - c.toNat) : Nat) : Int) - 1))) else none
      | none => none) else some (tc_any n)
  | .idiv => (match tl_kc b with
      | some c => if 0 < c then (if h.1 = 0 then (if tl_pr fs a (tc_cf h 0) then some (tc_fl n a c.toNat) else none) else some (tc_any n)) else none
      | none => none)
  | .irem => (match tl_kc b with
      | some c => if 0 < c then (if h.1 = 0 then (if tl_pr fs a (tc_cf h 0) then some (tc_fr n [tl_nm n, tl_ad (tl_neg (tl_nm n)) (c - 1), tl_sub a (tl_nm n)]) else none) else if h.1 = 2 then (if tl_pr fs a (tc_cf h 0) then some (tl_sub a (tl_sc c (tl_nm n)), [tl_sub a (tl_sc c (tl_nm n)), tl_ad (tl_neg (tl_sub a (tl_sc c (tl_nm n)))) (c - 1)], 1) else none) else some (tc_fr n (tl_bt (tl_nm n) (-(c - 1)) (c - 1)))) else none
      | none => none)
  | _ => none
def tc_bop (i : Instr) (x y : Int32) : Int32 := match i with
  | .iadd => x + y
  | .isub => x - y
  | .imul => x * y
  | .iand => x &&& y
  | .ior => x ||| y
  | .ixor => x ^^^ y
  | .idiv => x / y
  | .irem => x - x / y * y
  | .ishl => x <<< (y &&& 31)
  | .ishr => x >>> (y &&& 31)
  | .iushr => (x.toUInt32 >>> (y.toUInt32 &&& Int32.toUInt32 31)).toInt32
  | _ => 0
theorem tl_dv_s {p : Int} : ∀ {l : List (Nat × Int)}, l.all (fun q => q.2 % p == 0) = true → ∃ m, tl_s V l = p * m
  | [], _ => ⟨0, by show (0 : Int) = p * 0; rw [Int.mul_zero]⟩
  | (k, c) :: r, h => by
    obtain ⟨h1, h2⟩ := (Bool.and_eq_true _ _).mp (show ((c % p == 0) && r.all (fun q => q.2 % p == 0)) = true from h)
    obtain ⟨m, hm⟩ := tl_dv_s h2
    have h1 : c % p = 0 := by simpa using h1
    obtain ⟨d, rfl⟩ := Int.dvd_of_emod_eq_zero h1
    refine ⟨d * V k + m, ?_⟩
    show p * d * V k + tl_s V r = _
    rw [hm, Int.mul_add, Int.mul_assoc]
theorem tl_dv_v {p : Int} {f : tl_F} (h1 : f.1.all (fun q => q.2 % p == 0) = true) (h2 : (f.2 % p == 0) = true) : ∃ m, tl_v V f = p * m := by
  obtain ⟨m, hm⟩ := tl_dv_s (V := V) h1
  have h2 : f.2 % p = 0 := by simpa using h2
  obtain ⟨d, hd⟩ := Int.dvd_of_emod_eq_zero h2
  refine ⟨m + d, ?_⟩
  unfold tl_v
  rw [hm, hd, Int.mul_add]
set_option maxHeartbeats 2000000 in
theorem tc_bi_s (hf : ∀ f ∈ fs, 0 ≤ tl_v V f) {i : Instr} {a b : tl_F} {o : tc_R} (g : tc_bi i fs h n a b = some o) (ha : tl_lt n a = true) (hb : tl_lt n b = true) {x y : Int32} (hx : x.toInt = tl_v V a) (hy : y.toInt = tl_v V b) : tc_rok V n o (tc_bop i x y).toInt ∧ ((i = .idiv ∨ i = .irem) → ¬ y = 0) := by
  cases i with
  | iadd =>
    refine ⟨?_, fun q => by rcases q with q | q <;> cases q⟩
    unfold tc_bi at g
    dsimp only at g
    split at g
    · obtain ⟨g1, g2, g3⟩ := tc_gx_s (n := n) hf g
      rw [tl_app_s] at g1 g2
      refine g3 _ ?_
      rw [tl_app_s]
      show (x + y).toInt = _
      rw [to_add (by omega) (by omega)]
      omega
    · cases g
      exact tc_any_s _
  | isub =>
    refine ⟨?_, fun q => by rcases q with q | q <;> cases q⟩
    unfold tc_bi at g
    dsimp only at g
    split at g
    · obtain ⟨g1, g2, g3⟩ := tc_gx_s (n := n) hf g
      rw [tl_sub_s] at g1 g2
      refine g3 _ ?_
      rw [tl_sub_s]
      show (x - y).toInt = _
      rw [to_sub (by omega) (by omega)]
      omega
    · cases g
      exact tc_any_s _
  | imul =>
    refine ⟨?_, fun q => by rcases q with q | q <;> cases q⟩
    unfold tc_bi at g
    dsimp only at g
    split at g
    · split at g
      · rename_i c hc
        obtain ⟨g1, g2, g3⟩ := tc_gx_s (n := n) hf g
        have e := tl_kc_s (V := V) hc
        rw [tl_sc_s] at g1 g2
        refine g3 _ ?_
        rw [tl_sc_s]
        show (x * y).toInt = _
        have e2 : x.toInt * y.toInt = c * tl_v V a := by
          rw [hx, hy, e, Int.mul_comm]
        rw [to_mul (by omega) (by omega), e2]
      · split at g
        · rename_i c hc
          obtain ⟨g1, g2, g3⟩ := tc_gx_s (n := n) hf g
          have e := tl_kc_s (V := V) hc
          rw [tl_sc_s] at g1 g2
          refine g3 _ ?_
          rw [tl_sc_s]
          show (x * y).toInt = _
          have e2 : x.toInt * y.toInt = c * tl_v V b := by
            rw [hx, hy, e]
          rw [to_mul (by omega) (by omega), e2]
        · cases g
    · cases g
      exact tc_any_s _
  | iand =>
    refine ⟨?_, fun q => by rcases q with q | q <;> cases q⟩
    unfold tc_bi at g
    dsimp only at g
    split at g
    · split at g
      · rename_i e
        cases g
        have e1 := tl_pr_s hf e
        have e2 := to_and (x := x) (y := y) (by omega)
        exact tc_b0_s hb _ e2.1 (by rw [← hy]; exact e2.2)
      · cases g
    · split at g
      · split at g
        · rename_i e
          cases g
          have e1 := tl_pr_s hf e
          have e2 := to_and (x := y) (y := x) (by omega)
          rw [to_andc] at e2
          exact tc_b0_s ha _ e2.1 (by rw [← hx]; exact e2.2)
        · cases g
      · split at g
        · split at g
          · rename_i e
            cases g
            obtain ⟨hk, e⟩ := e
            simp only [Bool.and_eq_true, beq_iff_eq] at e
            obtain ⟨e0, e1, e2⟩ := e
            have e1 := tl_pr_s hf e1
            have e2 := tl_pr_s hf e2
            rw [tl_ad_s, tl_neg_s] at e2
            have e3 : tl_v V b = _ := tl_kc_s e0
            refine ⟨V, fun _ _ => rfl, ?_, fun f hf => by cases hf⟩
            show (x &&& y).toInt = tl_v V a
            rw [← hx]
            exact to_andm hk (by omega) (by omega) (by omega)
          · cases g
        · split at g
          · split at g
            · rename_i e
              cases g
              obtain ⟨hk, e⟩ := e
              simp only [Bool.and_eq_true, beq_iff_eq] at e
              obtain ⟨e0, e1, e2⟩ := e
              have e1 := tl_pr_s hf e1
              have e2 := tl_pr_s hf e2
              rw [tl_ad_s, tl_neg_s] at e1
              rw [tl_ad_s] at e2
              have e3 : tl_v V b = _ := tl_kc_s e0
              refine ⟨V, fun _ _ => rfl, ?_, fun f hf => by cases hf⟩
              show (x &&& y).toInt = tl_v V (tl_ad a _)
              rw [tl_ad_s, ← hx]
              exact to_andn hk (by omega) (by omega) (by omega)
            · cases g
          · split at g
            · split at g
              · rename_i e
                cases g
                obtain ⟨hk, e⟩ := e
                rw [Bool.and_eq_true, Bool.and_eq_true, beq_iff_eq] at e
                obtain ⟨e0, e1, e2⟩ := e
                have e1 := tl_pr_s hf e1
                have e3 : tl_v V b = _ := tl_kc_s e0
                refine ⟨V, fun _ _ => rfl, ?_, fun f hf => by cases hf⟩
                have e4 := tl_s_dv (V := V) e2
                have e5 := to_andr (x := x) (y := y) hk (by omega) (by omega)
                show (x &&& y).toInt = tl_v V ([], a.2 % _)
                rw [e5, hx]
                show (tl_s V a.1 + a.2) % _ = tl_s V [] + a.2 % _
                rw [Int.add_emod, e4]
                simp [tl_s]
              · cases g
            · cases g
              exact tc_any_s _
  | ior =>
    refine ⟨?_, fun q => by rcases q with q | q <;> cases q⟩
    unfold tc_bi at g
    dsimp only at g
    split at g
    · split at g
      · rename_i e
        cases g
        obtain ⟨hk, e⟩ := e
        simp only [Bool.and_eq_true] at e
        obtain ⟨⟨⟨e1, e2⟩, e3⟩, e4⟩ := e
        have e1 := tl_pr_s hf e1
        have e2 := tl_pr_s hf e2
        have e3 := tl_pr_s hf e3
        have e4 := tl_pr_s hf e4
        rw [tl_ad_s, tl_neg_s] at e3 e4
        have e5 := to_or (x := x) (y := y) hk (by omega) (by omega) (by omega) (by omega)
        exact tc_bt_s _ e5.1 (by have := e5.2; show (x ||| y).toInt ≤ _; omega)
      · cases g
    · split at g
      · split at g
        · rename_i e
          cases g
          obtain ⟨hk, e⟩ := e
          simp only [Bool.and_eq_true] at e
          obtain ⟨e1, e2, e3, e4, e5⟩ := e
          have e3 := tl_pr_s hf e3
          have e4 := tl_pr_s hf e4
          have e5 := tl_pr_s hf e5
          rw [tl_ad_s, tl_neg_s] at e5
          obtain ⟨m, hm⟩ := tl_dv_v (V := V) e1 e2
          rw [tl_nf_s] at hm
          refine ⟨V, fun _ _ => rfl, ?_, fun f hf => by cases hf⟩
          show (x ||| y).toInt = tl_v V (tl_nf (tl_app a b))
          rw [tl_nf_s, tl_app_s, ← hx, ← hy]
          exact to_ord hk (m := m) (by omega) (by omega) (by omega) (by rw [hx, hm])
        · cases g
      · cases g
        exact tc_any_s _
  | ixor =>
    refine ⟨?_, fun q => by rcases q with q | q <;> cases q⟩
    unfold tc_bi at g
    dsimp only at g
    split at g
    · split at g
      · rename_i e
        cases g
        obtain ⟨hk, e⟩ := e
        simp only [Bool.and_eq_true] at e
        obtain ⟨⟨⟨e1, e2⟩, e3⟩, e4⟩ := e
        have e1 := tl_pr_s hf e1
        have e2 := tl_pr_s hf e2
        have e3 := tl_pr_s hf e3
        have e4 := tl_pr_s hf e4
        rw [tl_ad_s, tl_neg_s] at e3 e4
        have e5 := to_xor (x := x) (y := y) hk (by omega) (by omega) (by omega) (by omega)
        exact tc_bt_s _ e5.1 (by have := e5.2; show (x ^^^ y).toInt ≤ _; omega)
      · cases g
    · cases g
      exact tc_any_s _
  | ishl =>
    refine ⟨?_, fun q => by rcases q with q | q <;> cases q⟩
    unfold tc_bi at g
    dsimp only at g
    split at g
    · split at g
      · rename_i c hc
        split at g
        · rename_i hk
          obtain ⟨g1, g2, g3⟩ := tc_gx_s (n := n) hf g
          have e := tl_kc_s (V := V) hc
          rw [tl_sc_s] at g1 g2
          refine g3 _ ?_
          rw [tl_sc_s]
          have e2 : x.toInt * ((2 ^ c.toNat : Nat) : Int) = ((2 ^ c.toNat : Nat) : Int) * tl_v V a := by
            rw [hx, Int.mul_comm]
          rw [← e2]
          exact to_shl hk.2 (by rw [hy, e]; omega) (by rw [e2]; exact g1) (by rw [e2]; exact g2)
        · cases g
      · cases g
    · cases g
      exact tc_any_s _
  | ishr =>
    refine ⟨?_, fun q => by rcases q with q | q <;> cases q⟩
    unfold tc_bi at g
    dsimp only at g
    split at g
    · split at g
      · rename_i c hc
        split at g
        · rename_i hk
          cases g
          have e := tl_kc_s (V := V) hc
          refine tc_fl_s ha (Nat.two_pow_pos _) ?_
          rw [← hx]
          exact to_shr hk.2 (by rw [hy, e]; omega)
        · cases g
      · cases g
    · cases g
      exact tc_any_s _
  | iushr =>
    refine ⟨?_, fun q => by rcases q with q | q <;> cases q⟩
    unfold tc_bi at g
    dsimp only at g
    split at g
    · split at g
      · rename_i c hc
        split at g
        · rename_i hk
          cases g
          have e := tl_kc_s (V := V) hc
          have e1 := tl_pr_s hf hk.2.2
          refine tc_fl_s ha (Nat.two_pow_pos _) ?_
          rw [← hx]
          exact to_ushr0 hk.2.1 (by rw [hy, e]; omega) (by omega)
        · cases g
      · cases g
    · split at g
      · split at g
        · rename_i c hc
          split at g
          · rename_i hk
            cases g
            have e := tl_kc_s (V := V) hc
            have e1 := to_ushr1 (x := x) (y := y) (k := c.toNat) (by omega) hk.2 (by rw [hy, e]; omega)
            exact tc_bt_s _ e1.1 (by have := e1.2; show (x.toUInt32 >>> (y.toUInt32 &&& Int32.toUInt32 31)).toInt32.toInt ≤ _; omega)
          · cases g
        · cases g
      · cases g
        exact tc_any_s _
  | idiv =>
    unfold tc_bi at g
    dsimp only at g
    split at g
    · rename_i c hc
      split at g
      · rename_i h0
        have e := tl_kc_s (V := V) hc
        refine ⟨?_, fun _ q => by subst q; rw [e] at hy; simp at hy; omega⟩
        split at g
        · split at g
          · rename_i e1
            cases g
            have e1 := tl_pr_s hf e1
            refine tc_fl_s ha (by omega) ?_
            show (x / y).toInt = _
            rw [to_div (by omega) (by omega), hx, hy, e]
            congr 1
            omega
          · cases g
        · cases g
          exact tc_any_s _
      · cases g
    · cases g
  | irem =>
    unfold tc_bi at g
    dsimp only at g
    split at g
    · rename_i c hc
      split at g
      · rename_i h0
        have e := tl_kc_s (V := V) hc
        refine ⟨?_, fun _ q => by subst q; rw [e] at hy; simp at hy; omega⟩
        have e3 := to_remb (x := x) (y := y) (by omega)
        have e4 : tc_bop .irem x y = x - x / y * y := rfl
        rw [e4]
        split at g
        · split at g
          · rename_i e1
            cases g
            have e1 := tl_pr_s hf e1
            obtain ⟨e5, e6, e7⟩ := e3
            have e7 := e7 (by omega)
            refine ⟨tl_up V n _, tl_up_lt, (tl_up_nm _ _ _).symm, fun f hf => ?_⟩
            rcases List.mem_cons.mp hf with rfl | hf
            · rw [tl_up_nm]
              exact e7.1
            · rcases List.mem_cons.mp hf with rfl | hf
              · rw [tl_ad_s, tl_neg_s, tl_up_nm]
                omega
              · rcases List.mem_cons.mp hf with rfl | hf
                · rw [tl_sub_s, tl_up_nm, tl_up_v ha]
                  omega
                · cases hf
          · cases g
        · split at g
          · split at g
            · rename_i e1
              cases g
              have e1 := tl_pr_s hf e1
              obtain ⟨e5, e6, e7⟩ := e3
              have e7 := e7 (by omega)
              have e8 : (x - x / y * y).toInt = tl_v V a - c * (tl_v V a / c) := by
                rw [to_rem, Int.tmod_eq_emod_of_nonneg (by omega), hx, hy, e]
                have := Int.mul_ediv_add_emod (tl_v V a) c
                omega
              have e9 : tl_v (tl_up V n (tl_v V a / c)) (tl_sub a (tl_sc c (tl_nm n))) = tl_v V a - c * (tl_v V a / c) := by
                rw [tl_sub_s, tl_sc_s, tl_up_nm, tl_up_v ha]
              refine ⟨tl_up V n (tl_v V a / c), tl_up_lt, by rw [e9]; exact e8, fun f hf => ?_⟩
              rcases List.mem_cons.mp hf with rfl | hf
              · rw [e9, ← e8]
                exact e7.1
              · rcases List.mem_cons.mp hf with rfl | hf
                · rw [tl_ad_s, tl_neg_s, e9, ← e8]
                  omega
                · cases hf
            · cases g
          · cases g
            exact tc_bt_s _ (by omega) (by omega)
      · cases g
    · cases g
  | _ => cases g
end TCP
