/-! TC: what the int instructions say of ints as integers -/
theorem to_lo (x : Int32) : -2147483648 ≤ x.toInt := Int32.le_toInt x
theorem to_hi (x : Int32) : x.toInt ≤ 2147483647 := by
  have := Int32.toInt_lt x
  omega
theorem to_bm {n : Int} (h1 : -2147483648 ≤ n) (h2 : n ≤ 2147483647) : n.bmod 4294967296 = n := Int.bmod_eq_of_le (by omega) (by omega)
theorem to_add {x y : Int32} (h1 : -2147483648 ≤ x.toInt + y.toInt) (h2 : x.toInt + y.toInt ≤ 2147483647) : (x + y).toInt = x.toInt + y.toInt := by
  rw [Int32.toInt_add]
  exact to_bm h1 h2
theorem to_sub {x y : Int32} (h1 : -2147483648 ≤ x.toInt - y.toInt) (h2 : x.toInt - y.toInt ≤ 2147483647) : (x - y).toInt = x.toInt - y.toInt := by
  rw [Int32.toInt_sub]
  exact to_bm h1 h2
theorem to_mul {x y : Int32} (h1 : -2147483648 ≤ x.toInt * y.toInt) (h2 : x.toInt * y.toInt ≤ 2147483647) : (x * y).toInt = x.toInt * y.toInt := by
  rw [Int32.toInt_mul]
  exact to_bm h1 h2
theorem to_neg {x : Int32} (h1 : -2147483648 ≤ - x.toInt) (h2 : - x.toInt ≤ 2147483647) : (-x).toInt = - x.toInt := by
  rw [Int32.toInt_neg]
  exact to_bm h1 h2
theorem to_of {n : Int} (h1 : -2147483648 ≤ n) (h2 : n ≤ 2147483647) : (Int32.ofInt n).toInt = n := by
  rw [Int32.toInt_ofInt]
  exact to_bm h1 h2
theorem to_ms {x : BitVec 32} (h : 0 ≤ x.toInt) : x.toInt = (x.toNat : Int) := by
  refine BitVec.toInt_eq_toNat_of_msb ?_
  rw [BitVec.msb_eq_toInt]
  simp
  omega
theorem to_nn (x : Int32) (h : 0 ≤ x.toInt) : x.toInt = (x.toBitVec.toNat : Int) := to_ms (x := x.toBitVec) h
theorem to_nm {x : BitVec 32} (h : x.toNat < 2147483648) : x.toInt = (x.toNat : Int) := by
  rw [BitVec.toInt_eq_toNat_cond]
  rw [if_pos (by omega)]
theorem to_and {x y : Int32} (h : 0 ≤ y.toInt) : 0 ≤ (x &&& y).toInt ∧ (x &&& y).toInt ≤ y.toInt := by
  have e : (x &&& y).toInt = (x.toBitVec &&& y.toBitVec).toInt := rfl
  have h1 := to_nn y h
  have h2 : (x.toBitVec &&& y.toBitVec).toNat ≤ y.toBitVec.toNat := by
    rw [BitVec.toNat_and]
    exact Nat.and_le_right
  have h3 := y.toBitVec.isLt
  have h5 := to_hi y
  rw [e, to_nm (by omega)]
  omega
theorem to_andc (x y : Int32) : x &&& y = y &&& x := by
  apply Int32.toBitVec_inj.mp
  show x.toBitVec &&& y.toBitVec = y.toBitVec &&& x.toBitVec
  rw [BitVec.and_comm]
theorem to_p2 {k : Nat} (h : k ≤ 31) : (2 : Nat) ^ k ≤ 2147483648 := by
  have := Nat.pow_le_pow_right (n := 2) (by omega) h
  omega
theorem to_or {x y : Int32} {k : Nat} (hk : k ≤ 31) (h : 0 ≤ x.toInt) (g : 0 ≤ y.toInt) (hx : x.toInt < ((2 ^ k : Nat) : Int)) (hy : y.toInt < ((2 ^ k : Nat) : Int)) : 0 ≤ (x ||| y).toInt ∧ (x ||| y).toInt < ((2 ^ k : Nat) : Int) := by
  have e : (x ||| y).toInt = (x.toBitVec ||| y.toBitVec).toInt := rfl
  have h1 := to_nn x h
  have h2 := to_nn y g
  have h3 := to_p2 hk
  have h4 : (x.toBitVec ||| y.toBitVec).toNat < 2 ^ k := by
    rw [BitVec.toNat_or]
    exact Nat.or_lt_two_pow (by omega) (by omega)
  rw [e, to_nm (by omega)]
  omega
theorem to_xor {x y : Int32} {k : Nat} (hk : k ≤ 31) (h : 0 ≤ x.toInt) (g : 0 ≤ y.toInt) (hx : x.toInt < ((2 ^ k : Nat) : Int)) (hy : y.toInt < ((2 ^ k : Nat) : Int)) : 0 ≤ (x ^^^ y).toInt ∧ (x ^^^ y).toInt < ((2 ^ k : Nat) : Int) := by
  have e : (x ^^^ y).toInt = (x.toBitVec ^^^ y.toBitVec).toInt := rfl
  have h1 := to_nn x h
  have h2 := to_nn y g
  have h3 := to_p2 hk
  have h4 : (x.toBitVec ^^^ y.toBitVec).toNat < 2 ^ k := by
    rw [BitVec.toNat_xor]
    exact Nat.xor_lt_two_pow (by omega) (by omega)
  rw [e, to_nm (by omega)]
  omega
theorem to_k {y : Int32} {k : Nat} (hk : k < 32) (hy : y.toInt = (k : Int)) : y = Int32.ofNat k := by
  apply Int32.toInt_inj.mp
  have e : (Int32.ofNat k).toInt = (BitVec.ofNat 32 k).toInt := rfl
  have h1 : (BitVec.ofNat 32 k).toNat = k := by
    rw [BitVec.toNat_ofNat]
    exact Nat.mod_eq_of_lt (by omega)
  rw [hy, e, to_nm (by omega), h1]
theorem to_sk {k : Nat} (hk : k < 32) : ((Int32.ofNat k).toBitVec.toNat) = k := by
  have : (Int32.ofNat k).toBitVec = BitVec.ofNat 32 k := rfl
  rw [this, BitVec.toNat_ofNat]
  exact Nat.mod_eq_of_lt (by omega)
theorem to_31 {k : Nat} (hk : k < 32) : (Int32.ofNat k &&& 31) = Int32.ofNat k := by
  have h : ∀ k : Fin 32, (Int32.ofNat k.val &&& 31) = Int32.ofNat k.val := by decide
  exact h ⟨k, hk⟩
theorem to_shr {x y : Int32} {k : Nat} (hk : k < 32) (hy : y.toInt = (k : Int)) : (x >>> (y &&& 31)).toInt = x.toInt / ((2 ^ k : Nat) : Int) := by
  rw [to_k hk hy, to_31 hk]
  have e : (x >>> Int32.ofNat k).toInt = (x.toBitVec.sshiftRight ((Int32.ofNat k).toBitVec.smod 32).toNat).toInt := rfl
  have e2 : ∀ k : Fin 32, ((Int32.ofNat k.val).toBitVec.smod 32).toNat = k.val := by decide
  rw [e, e2 ⟨k, hk⟩, BitVec.toInt_sshiftRight, Int.shiftRight_eq_div_pow]
  rfl
theorem to_shl {x y : Int32} {k : Nat} (hk : k < 32) (hy : y.toInt = (k : Int)) (h1 : -2147483648 ≤ x.toInt * ((2 ^ k : Nat) : Int)) (h2 : x.toInt * ((2 ^ k : Nat) : Int) ≤ 2147483647) : (x <<< (y &&& 31)).toInt = x.toInt * ((2 ^ k : Nat) : Int) := by
  rw [to_k hk hy, to_31 hk]
  have e : (x <<< Int32.ofNat k).toInt = (x.toBitVec <<< ((Int32.ofNat k).toBitVec.smod 32).toNat).toInt := rfl
  have e2 : ∀ k : Fin 32, ((Int32.ofNat k.val).toBitVec.smod 32).toNat = k.val := by decide
  rw [e, e2 ⟨k, hk⟩, BitVec.toInt_shiftLeft]
  have e3 : (((x.toBitVec.toNat <<< k : Nat)) : Int).bmod (2 ^ 32) = (x.toInt * ((2 ^ k : Nat) : Int)).bmod (2 ^ 32) := by
    rw [Nat.shiftLeft_eq]
    have e4 : x.toInt = (x.toBitVec.toNat : Int).bmod (2 ^ 32) := BitVec.toInt_eq_toNat_bmod _
    rw [e4, Int.bmod_mul_bmod]
    push_cast
    rfl
  show (((x.toBitVec.toNat <<< k : Nat)) : Int).bmod (2 ^ 32) = _
  rw [e3]
  exact to_bm h1 h2
theorem to_ushr {x y : Int32} {k : Nat} (hk : k < 32) (hy : y.toInt = (k : Int)) : (x.toUInt32 >>> (y.toUInt32 &&& Int32.toUInt32 31)).toInt32.toBitVec = x.toBitVec >>> k := by
  rw [to_k hk hy]
  have e : ∀ k : Fin 32, (((Int32.ofNat k.val).toUInt32 &&& Int32.toUInt32 31).toBitVec.umod 32).toNat = k.val := by decide
  show x.toBitVec >>> (((Int32.ofNat k).toUInt32 &&& Int32.toUInt32 31).toBitVec.umod 32).toNat = x.toBitVec >>> k
  rw [e ⟨k, hk⟩]
theorem to_ushr0 {x y : Int32} {k : Nat} (hk : k < 32) (hy : y.toInt = (k : Int)) (hx : 0 ≤ x.toInt) : (x.toUInt32 >>> (y.toUInt32 &&& Int32.toUInt32 31)).toInt32.toInt = x.toInt / ((2 ^ k : Nat) : Int) := by
  have h1 := to_nn x hx
  have h2 : (x.toBitVec >>> k).toNat = x.toBitVec.toNat / 2 ^ k := by
    rw [BitVec.toNat_ushiftRight, Nat.shiftRight_eq_div_pow]
  have h3 := to_hi x
  have h4 : x.toBitVec.toNat / 2 ^ k ≤ x.toBitVec.toNat := Nat.div_le_self _ _
  have h5 : (x.toUInt32 >>> (y.toUInt32 &&& Int32.toUInt32 31)).toInt32.toInt = (x.toBitVec >>> k).toInt := by
    rw [← to_ushr hk hy]
    rfl
  rw [h5, to_nm (by omega), h2, h1]
  simp
theorem to_ushr1 {x y : Int32} {k : Nat} (h0 : 0 < k) (hk : k < 32) (hy : y.toInt = (k : Int)) : 0 ≤ (x.toUInt32 >>> (y.toUInt32 &&& Int32.toUInt32 31)).toInt32.toInt ∧ (x.toUInt32 >>> (y.toUInt32 &&& Int32.toUInt32 31)).toInt32.toInt < ((2 ^ (32 - k) : Nat) : Int) := by
  have h2 : (x.toBitVec >>> k).toNat = x.toBitVec.toNat / 2 ^ k := by
    rw [BitVec.toNat_ushiftRight, Nat.shiftRight_eq_div_pow]
  have h3 := x.toBitVec.isLt
  have h4 : x.toBitVec.toNat / 2 ^ k < 2 ^ (32 - k) := by
    refine Nat.div_lt_of_lt_mul ?_
    rw [← Nat.pow_add, show k + (32 - k) = 32 by omega]
    exact h3
  have h6 : (2 : Nat) ^ (32 - k) ≤ 2147483648 := to_p2 (by omega)
  have h5 : (x.toUInt32 >>> (y.toUInt32 &&& Int32.toUInt32 31)).toInt32.toInt = (x.toBitVec >>> k).toInt := by
    rw [← to_ushr hk hy]
    rfl
  rw [h5, to_nm (by omega), h2]
  omega
/-- rounding down -/
theorem to_fl (a : Int) {c : Nat} (hc : 0 < c) : 0 ≤ a - (c : Int) * (a / (c : Int)) ∧ 0 ≤ (c : Int) * (a / (c : Int)) + (c : Int) - 1 - a := by
  have h1 := Int.emod_nonneg a (show (c : Int) ≠ 0 by omega)
  have h2 := Int.emod_lt_of_pos a (show 0 < (c : Int) by omega)
  have h3 := Int.mul_ediv_add_emod a (c : Int)
  omega
theorem to_div {x y : Int32} (hx : 0 ≤ x.toInt) (hy : 0 < y.toInt) : (x / y).toInt = x.toInt / y.toInt := by
  rw [Int32.toInt_div]
  have h1 : x.toInt.tdiv y.toInt = x.toInt / y.toInt := Int.tdiv_eq_ediv_of_nonneg hx
  rw [h1]
  have h2 := Int.ediv_le_self y.toInt hx
  have h3 := Int.ediv_nonneg hx (show 0 ≤ y.toInt by omega)
  have h4 := to_hi x
  exact to_bm (by omega) (by omega)
theorem to_tml {a : Int} (b : Int) (h : 0 ≤ a) : a.tmod b ≤ a := by
  obtain ⟨m, rfl⟩ := Int.eq_ofNat_of_zero_le h
  cases b with
  | ofNat n =>
    show ((m % n : Nat) : Int) ≤ (m : Int)
    have := Nat.mod_le m n
    omega
  | negSucc n =>
    show ((m % (n + 1) : Nat) : Int) ≤ (m : Int)
    have := Nat.mod_le m (n + 1)
    omega
theorem to_rem (x y : Int32) : (x - x / y * y).toInt = x.toInt.tmod y.toInt := by
  rw [Int32.toInt_sub, Int32.toInt_mul, Int32.toInt_div]
  have h : x.toInt - x.toInt.tdiv y.toInt * y.toInt = x.toInt.tmod y.toInt := by
    have := Int.mul_tdiv_add_tmod x.toInt y.toInt
    rw [Int.mul_comm] at this
    omega
  have e : (x.toInt - ((x.toInt.tdiv y.toInt).bmod (2 ^ 32) * y.toInt).bmod (2 ^ 32)).bmod (2 ^ 32) = (x.toInt - x.toInt.tdiv y.toInt * y.toInt).bmod (2 ^ 32) := by
    rw [Int.sub_bmod_bmod, Int.sub_bmod, Int.bmod_mul_bmod, ← Int.sub_bmod]
  rw [e, h]
  have h1 := to_lo x
  have h2 := to_hi x
  by_cases hx : 0 ≤ x.toInt
  · have h3 := Int.tmod_nonneg y.toInt hx
    have h4 := to_tml y.toInt hx
    exact to_bm (by omega) (by omega)
  · have h3 : x.toInt.tmod y.toInt = -((-x.toInt).tmod y.toInt) := by
      rw [Int.neg_tmod, Int.neg_neg]
    have h4 := Int.tmod_nonneg y.toInt (show 0 ≤ -x.toInt by omega)
    have h5 := to_tml y.toInt (show 0 ≤ -x.toInt by omega)
    exact to_bm (by omega) (by omega)
theorem to_remb {x y : Int32} (hy : 0 < y.toInt) : -(y.toInt - 1) ≤ (x - x / y * y).toInt ∧ (x - x / y * y).toInt ≤ y.toInt - 1 ∧ (0 ≤ x.toInt → 0 ≤ (x - x / y * y).toInt ∧ (x - x / y * y).toInt ≤ x.toInt) := by
  rw [to_rem]
  have h1 := Int.tmod_lt_of_pos x.toInt hy
  have h2 : -(y.toInt) < x.toInt.tmod y.toInt := by
    have h3 := Int.tmod_lt_of_pos (-x.toInt) hy
    rw [Int.neg_tmod] at h3
    omega
  refine ⟨by omega, by omega, fun hx => ⟨Int.tmod_nonneg _ hx, to_tml _ hx⟩⟩
theorem to_ord {x y : Int32} {k : Nat} {m : Int} (hk : k ≤ 31) (h : 0 ≤ x.toInt) (g : 0 ≤ y.toInt) (hy : y.toInt < ((2 ^ k : Nat) : Int)) (hm : x.toInt = ((2 ^ k : Nat) : Int) * m) : (x ||| y).toInt = x.toInt + y.toInt := by
  have e : (x ||| y).toInt = (x.toBitVec ||| y.toBitVec).toInt := rfl
  have h1 := to_nn x h
  have h2 := to_nn y g
  have h3 := to_hi x
  have h4 := to_hi y
  have h5 : (x.toBitVec ||| y.toBitVec).toNat < 2 ^ 31 := by
    rw [BitVec.toNat_or]
    exact Nat.or_lt_two_pow (by omega) (by omega)
  have hp : (0 : Int) < ((2 ^ k : Nat) : Int) := by
    have := Nat.two_pow_pos k
    omega
  have hm0 : 0 ≤ m := by
    by_cases q : 0 ≤ m
    · exact q
    · have := Int.mul_neg_of_pos_of_neg hp (show m < 0 by omega)
      omega
  obtain ⟨m', rfl⟩ := Int.eq_ofNat_of_zero_le hm0
  have h6 : x.toBitVec.toNat = 2 ^ k * m' := by
    have : (x.toBitVec.toNat : Int) = ((2 ^ k * m' : Nat) : Int) := by
      rw [← h1, hm, Int.natCast_mul]
    exact Int.ofNat.inj this
  have h7 : (x.toBitVec ||| y.toBitVec).toNat = x.toBitVec.toNat + y.toBitVec.toNat := by
    rw [BitVec.toNat_or, h6]
    exact (Nat.two_pow_add_eq_or_of_lt (by omega) m').symm
  rw [e, to_nm (by omega), h7, h1, h2]
  omega
