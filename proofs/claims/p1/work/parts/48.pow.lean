/-! SW: runs that touch no memory; the two powers -/
abbrev sw_C : Type := Nat × Nat × sx_L × List Term
def sw_one (mm : Nat → Option am_Meth) (P : am_P) (ins : sx_Ins) (cs : List sx_Q) (c : sw_C) : Option sw_C := match c with
  | (y, pc, lv, st) => match mm y with
    | none => none
    | some mt => match ins y pc with
      | none => none
      | some (i, len) => match sx_push (am_cst P mt.2.2.2.2.2.2) i lv with
        | some (l0, v) => if l0 = len then some (y, pc + len, lv, v :: st) else none
        | none => match sx_op i st with
          | some st' => if len = 1 then some (y, pc + 1, lv, st') else none
          | none => match sx_sto i lv st with
            | some (l0, m, lv', st') => if m ≤ mt.2.2.1 ∧ (len = l0 ∨ (l0 = 3 ∧ len = 6)) then some (y, pc + len, lv', st') else none
            | none => match sx_jp cs i len pc st with
              | some (.inl (pc', st')) => some (y, pc', lv, st')
              | _ => none
def sw_go (mm : Nat → Option am_Meth) (P : am_P) (ins : sx_Ins) (cs : List sx_Q) : Nat → sw_C → Option sw_C
  | 0, c => some c
  | k + 1, c => match sw_one mm P ins cs c with
    | some c' => sw_go mm P ins cs k c'
    | none => none
def sw_eq (a b : sw_C) : Bool := match a, b with
  | (y, pc, lv, st), (y2, pc2, lv2, st2) => (y == y2) && ((pc == pc2) && (sx_we lv lv2 && sx_le st st2))
theorem sw_eq_s {a b : sw_C} (h : sw_eq a b = true) : a = b := by
  obtain ⟨y, pc, lv, st⟩ := a
  obtain ⟨y2, pc2, lv2, st2⟩ := b
  unfold sw_eq at h
  simp only [Bool.and_eq_true] at h
  obtain ⟨h1, h2, h3, h4⟩ := h
  rw [eq_of_beq h1, eq_of_beq h2, sx_we_s h3, sx_le_s h4]
def sw_to (mm : Nat → Option am_Meth) (P : am_P) (ins : sx_Ins) (cs : List sx_Q) (k : Nat) (c d : sw_C) : Bool := match sw_go mm P ins cs k c with
  | some c' => sw_eq c' d
  | none => false
section SW
variable {mm : Nat → Option am_Meth} {P : am_P} {ins : sx_Ins} {cs : List sx_Q} {E : sx_E} {RO : am_O} {sa : Nat → Nat} {Q : am_Q} {M : am_H} {sz sl : Nat}
def sw_Ok (P : am_P) (RO : am_O) (sa : Nat → Nat) (E : sx_E) (Q : am_Q) (M : am_H) (sz sl : Nat) (c : sw_C) : Prop := ∃ k, am_W (sx_P P sa) RO k c.1 c.2.1 (sx_lv E c.2.2.1) (c.2.2.2.map (sx_v E)) M sz sl Q
theorem sw_one_s (hf : sy_mm mm P) (hins : sx_insOk P ins) (hc : ∀ q ∈ cs, sx_h E q) {c c' : sw_C} (h : sw_one mm P ins cs c = some c') (g0 : sw_Ok P RO sa E Q M sz sl c') : sw_Ok P RO sa E Q M sz sl c := by
  obtain ⟨y, pc, lv, st⟩ := c
  unfold sw_one at h
  dsimp only at h
  split at h
  · cases h
  rename_i _ mt hm0
  have hm : am_meth P y = some mt := hf _ _ hm0
  split at h
  · cases h
  rename_i _ i len hd0
  have hd := hins _ _ _ hd0 _ hm
  have hmP : am_meth (sx_P P sa) y = some mt := hm
  split at h
  · rename_i _ l0 v hp
    split at h
    · rename_i hl
      subst hl
      cases h
      exact am_stepR hmP hd (Or.inl ⟨_, sx_push_s hp, g0⟩)
    · cases h
  split at h
  · rename_i _ st' hp
    split at h
    · rename_i hl
      subst hl
      cases h
      obtain ⟨g1, g2⟩ := sx_op_s (E := E) hp
      exact am_stepR hmP hd (Or.inr (Or.inl ⟨rfl, _, g1, g2, g0⟩))
    · cases h
  split at h
  · rename_i _ l0 m lv' st' hp
    split at h
    · rename_i hl
      cases h
      exact am_stepR hmP hd (Or.inr (Or.inr (Or.inl ⟨l0, m, _, _, sx_sto_s hp, hl.1, hl.2, g0⟩)))
    · cases h
  split at h
  · rename_i _ pc' st' hp
    cases h
    exact am_stepR hmP hd (Or.inr (Or.inr (Or.inr (Or.inl (sx_jp_s hc hp _ g0)))))
  · cases h
theorem sw_go_s (hf : sy_mm mm P) (hins : sx_insOk P ins) (hc : ∀ q ∈ cs, sx_h E q) : ∀ {k : Nat} {c c' : sw_C}, sw_go mm P ins cs k c = some c' → sw_Ok P RO sa E Q M sz sl c' → sw_Ok P RO sa E Q M sz sl c
  | 0, c, c', h, g => by
    unfold sw_go at h
    cases h
    exact g
  | k + 1, c, c', h, g => by
    unfold sw_go at h
    split at h
    · rename_i _ c2 h1
      exact sw_one_s hf hins hc h1 (sw_go_s hf hins hc h g)
    · cases h
theorem sw_to_s (hf : sy_mm mm P) (hins : sx_insOk P ins) (hc : ∀ q ∈ cs, sx_h E q) {k : Nat} {c d : sw_C} (h : sw_to mm P ins cs k c d = true) (g : sw_Ok P RO sa E Q M sz sl d) : sw_Ok P RO sa E Q M sz sl c := by
  unfold sw_to at h
  split at h
  · rename_i _ c' h1
    rw [← sw_eq_s h] at g
    exact sw_go_s hf hins hc h1 g
  · cases h
end SW
/-- the end of a method that answers an int -/
theorem sw_ret {P : am_P} {RO : am_O} {y pc : Nat} {lv : am_L} {M : am_H} {sz sl : Nat} {Q : am_Q} {mt : am_Meth} {x : Int32} (hm : am_meth P y = some mt) (hd : decode mt.2.1 pc = .ok (.ireturn, 1)) (hr : mt.2.2.2.1 = some .int) (h : Q (some (.int x)) M sz sl) : ∃ k, am_W P RO k y pc lv [.int x] M sz sl Q :=
  am_stepR hm hd (Or.inr (Or.inr (Or.inr (Or.inr (Or.inr (Or.inl ⟨rfl, x, .int, rfl, hr, rfl, h⟩))))))
/-! numbers -/
theorem pw_lremod (x y : Int64) : x - (x / y) * y = x % y := by
  apply Int64.toInt_inj.mp
  have h1 := Int64.le_toInt (x % y)
  have h2 := Int64.toInt_lt (x % y)
  rw [Int64.toInt_sub, Int64.toInt_mul, Int64.toInt_div, Int.bmod_mul_bmod, Int.sub_bmod_bmod, Int.mul_comm (x.toInt.tdiv y.toInt), ← Int.tmod_def, ← Int64.toInt_mod]
  exact Int.bmod_eq_of_le_mul_two (by omega) (by omega)
theorem pw_lr {g s m : Nat} (hg : g < 2 ^ 31) (hs : s < 2 ^ 31) (h0 : 0 < m) (hm : m < 2 ^ 31) : (nI g).toInt64 * (nI s).toInt64 - (nI g).toInt64 * (nI s).toInt64 / (nI m).toInt64 * (nI m).toInt64 = (nI (g * s % m)).toInt64 := by
  have h1 : g * s % m < m := Nat.mod_lt _ h0
  have hx : g * s < 2 ^ 63 := by
    have : g * s < 2 ^ 31 * 2 ^ 31 := Nat.mul_lt_mul_of_lt_of_le hg (by omega) (by omega)
    omega
  rw [pw_lremod, nI_l hg, nI_l hs, nI_l hm, nI_l (by omega), lN_mul]
  apply Int64.toInt_inj.mp
  rw [Int64.toInt_mod]
  have e1 : (lN (g * s)).toInt = ((g * s : Nat) : Int) := Int64.toInt_ofNat_of_lt hx
  have e2 : (lN m).toInt = ((m : Nat) : Int) := Int64.toInt_ofNat_of_lt (by omega)
  have e3 : (lN (g * s % m)).toInt = ((g * s % m : Nat) : Int) := Int64.toInt_ofNat_of_lt (by omega)
  rw [e1, e2, e3, Int.tmod_eq_emod_of_nonneg (Int.natCast_nonneg _)]
  rfl
theorem pw_bit (y : Int32) : (y &&& 1 = 1) ↔ y.toBitVec.getLsbD 0 = true := by
  have e1 : ∀ j, j < 32 → (1 : Int32).toBitVec.getLsbD j = decide (j = 0) := by decide +kernel
  constructor
  · intro h
    have h2 : (y &&& 1).toBitVec.getLsbD 0 = true := by
      rw [h]
      decide +kernel
    rw [Int32.toBitVec_and, BitVec.getLsbD_and, e1 0 (by decide)] at h2
    simpa using h2
  · intro h
    apply Int32.toBitVec_inj.mp
    apply BitVec.eq_of_getLsbD_eq
    intro j hj
    rw [Int32.toBitVec_and, BitVec.getLsbD_and, e1 j hj]
    by_cases h0 : j = 0
    · subst h0
      rw [h]
      rfl
    · rw [decide_eq_false h0, Bool.and_false]
theorem pw_lsb (e : Int32) (t : Nat) : e.toBitVec.getLsbD t = decide (e.toBitVec.toNat / 2 ^ t % 2 = 1) := by
  show e.toBitVec.toNat.testBit t = _
  rw [Nat.testBit_eq_decide_div_mod_eq]
theorem pw_us (e : Int32) {t : Nat} (h : t < 32) : ((e.toUInt32 >>> ((nI t).toUInt32 &&& Int32.toUInt32 31)).toInt32).toBitVec = e.toBitVec >>> t := sz_shr e h
/-- a bit, as the class looks at it -/
theorem pw_b1 (e : Int32) {t : Nat} (h : t < 31) : ((e.toUInt32 >>> ((nI t).toUInt32 &&& Int32.toUInt32 31)).toInt32 &&& 1 = 1) ↔ e.toBitVec.toNat / 2 ^ t % 2 = 1 := by
  rw [pw_bit, pw_us e (by omega), BitVec.getLsbD_ushiftRight, Nat.add_zero, pw_lsb, decide_eq_true_iff]
theorem pw_z1 (e : Int32) {t : Nat} (h : t < 31) : ((e.toUInt32 >>> ((nI t).toUInt32 &&& Int32.toUInt32 31)).toInt32 = 0) ↔ e.toBitVec.toNat / 2 ^ t = 0 := by
  rw [← Int32.toBitVec_inj, pw_us e (by omega), ← BitVec.toNat_inj, BitVec.toNat_ushiftRight, Nat.shiftRight_eq_div_pow]
  exact Iff.rfl
/-- .. as the reference looks at it -/
theorem pw_b2 (e : Int32) {t : Nat} (h : t < 31) : ((e >>> (nI t &&& 31)) &&& 1 = 1) ↔ e.toBitVec.toNat / 2 ^ t % 2 = 1 := by
  have e1 : ∀ n, n < 31 → ((Int32.ofNat n &&& 31).toBitVec.smod 32).toNat = n := by decide +kernel
  have e2 : (e >>> (nI t &&& 31)).toBitVec = e.toBitVec.sshiftRight t := by
    show e.toBitVec.sshiftRight' ((Int32.ofNat t &&& 31).toBitVec.smod 32) = _
    rw [BitVec.sshiftRight_eq', e1 t h]
  rw [pw_bit, e2, BitVec.getLsbD_sshiftRight, pw_lsb]
  simp
  omega
theorem pw_low (en : Nat) {t : Nat} (h : t < 31) : en % 2147483648 / 2 ^ t % 2 = en / 2 ^ t % 2 ∧ (en / 2 ^ t = 0 → en % 2147483648 / 2 ^ t = 0) := by
  have e1 : 2147483648 = 2 ^ t * 2 ^ (31 - t) := by
    rw [← Nat.pow_add, show t + (31 - t) = 31 by omega]
  have e2 : en % 2147483648 / 2 ^ t = en / 2 ^ t % 2 ^ (31 - t) := by
    rw [e1, Nat.mod_mul_right_div_self]
  have e3 : 2 ^ (31 - t) = 2 * 2 ^ (30 - t) := by
    rw [show 31 - t = (30 - t) + 1 by omega, Nat.pow_succ, Nat.mul_comm]
  rw [e2]
  refine ⟨?_, fun h0 => by rw [h0, Nat.zero_mod]⟩
  rw [e3, Nat.mod_mul_right_mod]
theorem pw_half (x t : Nat) : x / 2 ^ t = 2 * (x / 2 ^ (t + 1)) + x / 2 ^ t % 2 := by
  rw [Nat.pow_succ, ← Nat.div_div_eq_div_mul]
  omega
/-- the square of what is squared, and once more -/
theorem pw_sq (s q m : Nat) : (s * s % m) ^ q % m = s ^ (2 * q) % m := by
  rw [← Nat.pow_mod, Nat.pow_mul, Nat.pow_two]
theorem pw_C1 (g s q m : Nat) : (g * s % m) * (s * s % m) ^ q % m = g * s ^ (2 * q + 1) % m := by
  rw [Nat.mul_mod, Nat.mod_mod, pw_sq, ← Nat.mul_mod, Nat.pow_succ, Nat.mul_assoc, Nat.mul_comm s]
theorem pw_C0 (g s q m : Nat) : g * (s * s % m) ^ q % m = g * s ^ (2 * q) % m := by
  rw [Nat.mul_mod, pw_sq, ← Nat.mul_mod]
theorem pw_R0 (b q m : Nat) : (b ^ q % m) * (b ^ q % m) % m = b ^ (2 * q) % m := by
  rw [← Nat.mul_mod, ← Nat.pow_add, Nat.two_mul]
theorem pw_R1 (b q m : Nat) : (b ^ q % m) * (b ^ q % m) % m * b % m = b ^ (2 * q + 1) % m := by
  rw [pw_R0, Nat.pow_succ, Nat.mod_mul_mod]
theorem pw_F {b e m : Nat} {x : Int32} (hb : b < 2 ^ 31) (hm : m < 2 ^ 31) (he : x.toBitVec.toNat % 2147483648 = e) : pwF (nI b) x (nI m) = nI (b ^ e % m) := by
  unfold pwF
  rw [nI_clamp hb, nI_clamp hm, he]
  rfl
/-- the ints of a loop -/
def pw_E (b e g s t : Int32) : sx_E := (0, (fun _ => 0), fun k => match k with
  | 0 => b
  | 1 => e
  | 2 => g
  | 3 => s
  | _ => t)
theorem pw_nil {E : sx_E} : ∀ q ∈ ([] : List sx_Q), sx_h E q := fun q hq => by cases hq
theorem pw_cons {E : sx_E} {q : sx_Q} {cs : List sx_Q} (h : sx_h E q) (g : ∀ q ∈ cs, sx_h E q) : ∀ p ∈ q :: cs, sx_h E p := by
  intro p hp
  rcases List.mem_cons.mp hp with rfl | hp
  · exact h
  · exact g p hp
def pw_us1 : Term := .op2 .iushr (.string "" 1) (.string "" 4)
def pw_bt1 : Term := .op2 .iand pw_us1 (.int 1)
def pw_bt2 : Term := .op2 .iand (.op2 .ishr (.string "" 1) (.string "" 4)) (.int 1)
def pw_l (k : Nat) : Term := .op1 .i2l (.string "" k)
def pw_mm (m : Int64) (a b : Term) : Term := .op2 .lrem (.op2 .lmul a b) (.long m)
def pw_csA : List sx_Q := [(false, 0, .string "" 4, .int 31)]
def pw_csB : List sx_Q := [(true, 1, pw_us1, .int 0), (true, 0, .string "" 4, .int 31)]
def pw_csC : List sx_Q := [(true, 1, pw_bt1, .int 1), (false, 1, pw_us1, .int 0), (true, 0, .string "" 4, .int 31)]
def pw_csD : List sx_Q := [(false, 1, pw_bt1, .int 1), (false, 1, pw_us1, .int 0), (true, 0, .string "" 4, .int 31)]
def pw_csR : List sx_Q := [(true, 0, .string "" 4, .int 0)]
def pw_csS : List sx_Q := [(true, 1, pw_bt2, .int 1), (false, 0, .string "" 4, .int 0)]
def pw_csT : List sx_Q := [(false, 1, pw_bt2, .int 1), (false, 0, .string "" 4, .int 0)]
def pw_lv (m : Int32) (t s g : Term) : sx_L := [(9, t), (7, s), (5, g), (4, .int m), (0, pw_l 0), (2, .string "" 1), (3, .int m)]
def pw_rl (m : Int32) (t v : Term) : sx_L := [(6, t), (4, v), (0, pw_l 0), (2, .string "" 1), (3, .int m)]
def pw_out : List Term := [.op1 .l2i (pw_l 2)]
def pw_t1 : Term := .add (.string "" 4) (.int 1)
def pw_t2 : Term := .add (.string "" 4) (.int (-1))
theorem pw_lt {x y : Int32} (h : x < y) : decide (x < y) = true := decide_eq_true h
theorem pw_i2l {g : Nat} (hg : g < 2 ^ 31) : ((nI g).toInt64).toInt32 = nI g := by
  rw [nI_l hg, lN_i]

/-! modulo 2147483647 -/
set_option maxRecDepth 100000 in
theorem pw_rA_2147483647 : sw_to aMt (aP (fun i => i)) aIns pw_csA 5 (43, 16, pw_lv 2147483647 (.string "" 4) (pw_l 3) (pw_l 2), []) (43, 71, pw_lv 2147483647 (.string "" 4) (pw_l 3) (pw_l 2), pw_out) = true := by decide +kernel
set_option maxRecDepth 100000 in
theorem pw_rB_2147483647 : sw_to aMt (aP (fun i => i)) aIns pw_csB 9 (43, 16, pw_lv 2147483647 (.string "" 4) (pw_l 3) (pw_l 2), []) (43, 71, pw_lv 2147483647 (.string "" 4) (pw_l 3) (pw_l 2), pw_out) = true := by decide +kernel
set_option maxRecDepth 100000 in
theorem pw_rC_2147483647 : sw_to aMt (aP (fun i => i)) aIns pw_csC 30 (43, 16, pw_lv 2147483647 (.string "" 4) (pw_l 3) (pw_l 2), []) (43, 16, pw_lv 2147483647 pw_t1 (pw_mm 2147483647 (pw_l 3) (pw_l 3)) (pw_mm 2147483647 (pw_l 2) (pw_l 3)), []) = true := by decide +kernel
set_option maxRecDepth 100000 in
theorem pw_rD_2147483647 : sw_to aMt (aP (fun i => i)) aIns pw_csD 23 (43, 16, pw_lv 2147483647 (.string "" 4) (pw_l 3) (pw_l 2), []) (43, 16, pw_lv 2147483647 pw_t1 (pw_mm 2147483647 (pw_l 3) (pw_l 3)) (pw_l 2), []) = true := by decide +kernel
set_option maxRecDepth 100000 in
theorem pw_rR_2147483647 : sw_to aMt (aP (fun i => i)) aIns pw_csR 4 (353, 7, pw_rl 2147483647 (.string "" 4) (pw_l 2), []) (353, 55, pw_rl 2147483647 (.string "" 4) (pw_l 2), pw_out) = true := by decide +kernel
set_option maxRecDepth 100000 in
theorem pw_rS_2147483647 : sw_to aMt (aP (fun i => i)) aIns pw_csS 26 (353, 7, pw_rl 2147483647 (.string "" 4) (pw_l 2), []) (353, 7, pw_rl 2147483647 pw_t2 (pw_mm 2147483647 (pw_mm 2147483647 (pw_l 2) (pw_l 2)) (pw_l 0)), []) = true := by decide +kernel
set_option maxRecDepth 100000 in
theorem pw_rT_2147483647 : sw_to aMt (aP (fun i => i)) aIns pw_csT 20 (353, 7, pw_rl 2147483647 (.string "" 4) (pw_l 2), []) (353, 7, pw_rl 2147483647 pw_t2 (pw_mm 2147483647 (pw_l 2) (pw_l 2)), []) = true := by decide +kernel
set_option maxRecDepth 100000 in
theorem pw_r0_2147483647 : sw_to aMt (aP (fun i => i)) aIns [] 2 (43, 0, [(0, pw_l 0), (2, .string "" 1), (3, .int 2147483647)], []) (43, 2, [(0, pw_l 0), (2, .string "" 1), (3, .int 2147483647)], [.int 2, .int 2147483647]) = true := by decide +kernel
set_option maxRecDepth 100000 in
theorem pw_r1_2147483647 : sw_to aMt (aP (fun i => i)) aIns [] 7 (43, 5, [(0, pw_l 0), (2, .string "" 1), (3, .int 2147483647)], [.int 2147483647]) (43, 16, pw_lv 2147483647 (.int 0) (pw_l 0) (.long 1), []) = true := by decide +kernel
set_option maxRecDepth 100000 in
theorem pw_r2_2147483647 : sw_to aMt (aP (fun i => i)) aIns [] 4 (353, 0, [(0, pw_l 0), (2, .string "" 1), (3, .int 2147483647)], []) (353, 7, pw_rl 2147483647 (.int 30) (.long 1), []) = true := by decide +kernel

/-! modulo 2147483629 -/
set_option maxRecDepth 100000 in
theorem pw_rA_2147483629 : sw_to aMt (aP (fun i => i)) aIns pw_csA 5 (43, 16, pw_lv 2147483629 (.string "" 4) (pw_l 3) (pw_l 2), []) (43, 71, pw_lv 2147483629 (.string "" 4) (pw_l 3) (pw_l 2), pw_out) = true := by decide +kernel
set_option maxRecDepth 100000 in
theorem pw_rB_2147483629 : sw_to aMt (aP (fun i => i)) aIns pw_csB 9 (43, 16, pw_lv 2147483629 (.string "" 4) (pw_l 3) (pw_l 2), []) (43, 71, pw_lv 2147483629 (.string "" 4) (pw_l 3) (pw_l 2), pw_out) = true := by decide +kernel
set_option maxRecDepth 100000 in
theorem pw_rC_2147483629 : sw_to aMt (aP (fun i => i)) aIns pw_csC 30 (43, 16, pw_lv 2147483629 (.string "" 4) (pw_l 3) (pw_l 2), []) (43, 16, pw_lv 2147483629 pw_t1 (pw_mm 2147483629 (pw_l 3) (pw_l 3)) (pw_mm 2147483629 (pw_l 2) (pw_l 3)), []) = true := by decide +kernel
set_option maxRecDepth 100000 in
theorem pw_rD_2147483629 : sw_to aMt (aP (fun i => i)) aIns pw_csD 23 (43, 16, pw_lv 2147483629 (.string "" 4) (pw_l 3) (pw_l 2), []) (43, 16, pw_lv 2147483629 pw_t1 (pw_mm 2147483629 (pw_l 3) (pw_l 3)) (pw_l 2), []) = true := by decide +kernel
set_option maxRecDepth 100000 in
theorem pw_rR_2147483629 : sw_to aMt (aP (fun i => i)) aIns pw_csR 4 (353, 7, pw_rl 2147483629 (.string "" 4) (pw_l 2), []) (353, 55, pw_rl 2147483629 (.string "" 4) (pw_l 2), pw_out) = true := by decide +kernel
set_option maxRecDepth 100000 in
theorem pw_rS_2147483629 : sw_to aMt (aP (fun i => i)) aIns pw_csS 26 (353, 7, pw_rl 2147483629 (.string "" 4) (pw_l 2), []) (353, 7, pw_rl 2147483629 pw_t2 (pw_mm 2147483629 (pw_mm 2147483629 (pw_l 2) (pw_l 2)) (pw_l 0)), []) = true := by decide +kernel
set_option maxRecDepth 100000 in
theorem pw_rT_2147483629 : sw_to aMt (aP (fun i => i)) aIns pw_csT 20 (353, 7, pw_rl 2147483629 (.string "" 4) (pw_l 2), []) (353, 7, pw_rl 2147483629 pw_t2 (pw_mm 2147483629 (pw_l 2) (pw_l 2)), []) = true := by decide +kernel
set_option maxRecDepth 100000 in
theorem pw_r0_2147483629 : sw_to aMt (aP (fun i => i)) aIns [] 2 (43, 0, [(0, pw_l 0), (2, .string "" 1), (3, .int 2147483629)], []) (43, 2, [(0, pw_l 0), (2, .string "" 1), (3, .int 2147483629)], [.int 2, .int 2147483629]) = true := by decide +kernel
set_option maxRecDepth 100000 in
theorem pw_r1_2147483629 : sw_to aMt (aP (fun i => i)) aIns [] 7 (43, 5, [(0, pw_l 0), (2, .string "" 1), (3, .int 2147483629)], [.int 2147483629]) (43, 16, pw_lv 2147483629 (.int 0) (pw_l 0) (.long 1), []) = true := by decide +kernel
set_option maxRecDepth 100000 in
theorem pw_r2_2147483629 : sw_to aMt (aP (fun i => i)) aIns [] 4 (353, 0, [(0, pw_l 0), (2, .string "" 1), (3, .int 2147483629)], []) (353, 7, pw_rl 2147483629 (.int 30) (.long 1), []) = true := by decide +kernel

/-! modulo 2147483587 -/
set_option maxRecDepth 100000 in
theorem pw_rA_2147483587 : sw_to aMt (aP (fun i => i)) aIns pw_csA 5 (43, 16, pw_lv 2147483587 (.string "" 4) (pw_l 3) (pw_l 2), []) (43, 71, pw_lv 2147483587 (.string "" 4) (pw_l 3) (pw_l 2), pw_out) = true := by decide +kernel
set_option maxRecDepth 100000 in
theorem pw_rB_2147483587 : sw_to aMt (aP (fun i => i)) aIns pw_csB 9 (43, 16, pw_lv 2147483587 (.string "" 4) (pw_l 3) (pw_l 2), []) (43, 71, pw_lv 2147483587 (.string "" 4) (pw_l 3) (pw_l 2), pw_out) = true := by decide +kernel
set_option maxRecDepth 100000 in
theorem pw_rC_2147483587 : sw_to aMt (aP (fun i => i)) aIns pw_csC 30 (43, 16, pw_lv 2147483587 (.string "" 4) (pw_l 3) (pw_l 2), []) (43, 16, pw_lv 2147483587 pw_t1 (pw_mm 2147483587 (pw_l 3) (pw_l 3)) (pw_mm 2147483587 (pw_l 2) (pw_l 3)), []) = true := by decide +kernel
set_option maxRecDepth 100000 in
theorem pw_rD_2147483587 : sw_to aMt (aP (fun i => i)) aIns pw_csD 23 (43, 16, pw_lv 2147483587 (.string "" 4) (pw_l 3) (pw_l 2), []) (43, 16, pw_lv 2147483587 pw_t1 (pw_mm 2147483587 (pw_l 3) (pw_l 3)) (pw_l 2), []) = true := by decide +kernel
set_option maxRecDepth 100000 in
theorem pw_rR_2147483587 : sw_to aMt (aP (fun i => i)) aIns pw_csR 4 (353, 7, pw_rl 2147483587 (.string "" 4) (pw_l 2), []) (353, 55, pw_rl 2147483587 (.string "" 4) (pw_l 2), pw_out) = true := by decide +kernel
set_option maxRecDepth 100000 in
theorem pw_rS_2147483587 : sw_to aMt (aP (fun i => i)) aIns pw_csS 26 (353, 7, pw_rl 2147483587 (.string "" 4) (pw_l 2), []) (353, 7, pw_rl 2147483587 pw_t2 (pw_mm 2147483587 (pw_mm 2147483587 (pw_l 2) (pw_l 2)) (pw_l 0)), []) = true := by decide +kernel
set_option maxRecDepth 100000 in
theorem pw_rT_2147483587 : sw_to aMt (aP (fun i => i)) aIns pw_csT 20 (353, 7, pw_rl 2147483587 (.string "" 4) (pw_l 2), []) (353, 7, pw_rl 2147483587 pw_t2 (pw_mm 2147483587 (pw_l 2) (pw_l 2)), []) = true := by decide +kernel
set_option maxRecDepth 100000 in
theorem pw_r0_2147483587 : sw_to aMt (aP (fun i => i)) aIns [] 2 (43, 0, [(0, pw_l 0), (2, .string "" 1), (3, .int 2147483587)], []) (43, 2, [(0, pw_l 0), (2, .string "" 1), (3, .int 2147483587)], [.int 2, .int 2147483587]) = true := by decide +kernel
set_option maxRecDepth 100000 in
theorem pw_r1_2147483587 : sw_to aMt (aP (fun i => i)) aIns [] 7 (43, 5, [(0, pw_l 0), (2, .string "" 1), (3, .int 2147483587)], [.int 2147483587]) (43, 16, pw_lv 2147483587 (.int 0) (pw_l 0) (.long 1), []) = true := by decide +kernel
set_option maxRecDepth 100000 in
theorem pw_r2_2147483587 : sw_to aMt (aP (fun i => i)) aIns [] 4 (353, 0, [(0, pw_l 0), (2, .string "" 1), (3, .int 2147483587)], []) (353, 7, pw_rl 2147483587 (.int 30) (.long 1), []) = true := by decide +kernel

/-! modulo 2147483579 -/
set_option maxRecDepth 100000 in
theorem pw_rA_2147483579 : sw_to aMt (aP (fun i => i)) aIns pw_csA 5 (43, 16, pw_lv 2147483579 (.string "" 4) (pw_l 3) (pw_l 2), []) (43, 71, pw_lv 2147483579 (.string "" 4) (pw_l 3) (pw_l 2), pw_out) = true := by decide +kernel
set_option maxRecDepth 100000 in
theorem pw_rB_2147483579 : sw_to aMt (aP (fun i => i)) aIns pw_csB 9 (43, 16, pw_lv 2147483579 (.string "" 4) (pw_l 3) (pw_l 2), []) (43, 71, pw_lv 2147483579 (.string "" 4) (pw_l 3) (pw_l 2), pw_out) = true := by decide +kernel
set_option maxRecDepth 100000 in
theorem pw_rC_2147483579 : sw_to aMt (aP (fun i => i)) aIns pw_csC 30 (43, 16, pw_lv 2147483579 (.string "" 4) (pw_l 3) (pw_l 2), []) (43, 16, pw_lv 2147483579 pw_t1 (pw_mm 2147483579 (pw_l 3) (pw_l 3)) (pw_mm 2147483579 (pw_l 2) (pw_l 3)), []) = true := by decide +kernel
set_option maxRecDepth 100000 in
theorem pw_rD_2147483579 : sw_to aMt (aP (fun i => i)) aIns pw_csD 23 (43, 16, pw_lv 2147483579 (.string "" 4) (pw_l 3) (pw_l 2), []) (43, 16, pw_lv 2147483579 pw_t1 (pw_mm 2147483579 (pw_l 3) (pw_l 3)) (pw_l 2), []) = true := by decide +kernel
set_option maxRecDepth 100000 in
theorem pw_rR_2147483579 : sw_to aMt (aP (fun i => i)) aIns pw_csR 4 (353, 7, pw_rl 2147483579 (.string "" 4) (pw_l 2), []) (353, 55, pw_rl 2147483579 (.string "" 4) (pw_l 2), pw_out) = true := by decide +kernel
set_option maxRecDepth 100000 in
theorem pw_rS_2147483579 : sw_to aMt (aP (fun i => i)) aIns pw_csS 26 (353, 7, pw_rl 2147483579 (.string "" 4) (pw_l 2), []) (353, 7, pw_rl 2147483579 pw_t2 (pw_mm 2147483579 (pw_mm 2147483579 (pw_l 2) (pw_l 2)) (pw_l 0)), []) = true := by decide +kernel
set_option maxRecDepth 100000 in
theorem pw_rT_2147483579 : sw_to aMt (aP (fun i => i)) aIns pw_csT 20 (353, 7, pw_rl 2147483579 (.string "" 4) (pw_l 2), []) (353, 7, pw_rl 2147483579 pw_t2 (pw_mm 2147483579 (pw_l 2) (pw_l 2)), []) = true := by decide +kernel
set_option maxRecDepth 100000 in
theorem pw_r0_2147483579 : sw_to aMt (aP (fun i => i)) aIns [] 2 (43, 0, [(0, pw_l 0), (2, .string "" 1), (3, .int 2147483579)], []) (43, 2, [(0, pw_l 0), (2, .string "" 1), (3, .int 2147483579)], [.int 2, .int 2147483579]) = true := by decide +kernel
set_option maxRecDepth 100000 in
theorem pw_r1_2147483579 : sw_to aMt (aP (fun i => i)) aIns [] 7 (43, 5, [(0, pw_l 0), (2, .string "" 1), (3, .int 2147483579)], [.int 2147483579]) (43, 16, pw_lv 2147483579 (.int 0) (pw_l 0) (.long 1), []) = true := by decide +kernel
set_option maxRecDepth 100000 in
theorem pw_r2_2147483579 : sw_to aMt (aP (fun i => i)) aIns [] 4 (353, 0, [(0, pw_l 0), (2, .string "" 1), (3, .int 2147483579)], []) (353, 7, pw_rl 2147483579 (.int 30) (.long 1), []) = true := by decide +kernel
