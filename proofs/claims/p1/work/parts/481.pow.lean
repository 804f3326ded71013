/-! the two powers: their loops -/
def pw_w : Nat → Int32
  | 0 => -1
  | n + 1 => nI n
theorem pw_w1 (n : Nat) : nI n + -1 = pw_w n := by
  cases n with
  | zero => decide +kernel
  | succ k =>
    rw [← Int32.sub_eq_add_neg, nI_pred]
    rfl
theorem pw_h43 : am_meth (aP (fun i => i)) 43 = some aM_43.1 := rfl
theorem pw_h353 : am_meth (aP (fun i => i)) 353 = some aM_353.1 := rfl
theorem pw_i43 : aIns 43 71 = some (.ireturn, 1) := by decide +kernel
theorem pw_i353 : aIns 353 55 = some (.ireturn, 1) := by decide +kernel
theorem pw_nt43 : am_nt (aP (fun i => i)) aM_43.1.2.2.2.2.2.2 103 = 10 + 0 := by decide +kernel
theorem pw_n43 : aIns 43 2 = some (.invokestatic 103, 3) := by decide +kernel
theorem pw_vm {E : sx_E} {m : Nat} {m64 : Int64} (hm64 : m64 = (nI m).toInt64) (h0 : 0 < m) (hm : m < 2 ^ 31) {a c : Term} {x y : Nat} (hx : x < 2 ^ 31) (hy : y < 2 ^ 31) (ha : (sx_d E a).2 = (nI x).toInt64) (hc : (sx_d E c).2 = (nI y).toInt64) : (sx_d E (pw_mm m64 a c)).2 = (nI (x * y % m)).toInt64 := by
  show (sx_d E a).2 * (sx_d E c).2 - (sx_d E a).2 * (sx_d E c).2 / m64 * m64 = _
  rw [ha, hc, hm64, pw_lr hx hy h0 hm]
section PWL
variable {RO : am_O} {sa : Nat → Nat} {Q : am_Q} {M : am_H} {sz sl : Nat}
theorem pw_out_s {E : sx_E} {g : Nat} (hg : g < 2 ^ 31) (hE : E.2.2 2 = nI g) : pw_out.map (sx_v E) = [.int (nI g)] := by
  show [Value.int ((E.2.2 2).toInt64.toInt32)] = _
  rw [hE, pw_i2l hg]
theorem pw_ret43 {E : sx_E} {lv : sx_L} {g : Nat} (hg : g < 2 ^ 31) (hE : E.2.2 2 = nI g) (h : Q (some (.int (nI g))) M sz sl) : sw_Ok (aP (fun i => i)) RO sa E Q M sz sl (43, 71, lv, pw_out) := by
  show ∃ k, am_W (sx_P (aP (fun i => i)) sa) RO k 43 71 (sx_lv E lv) (pw_out.map (sx_v E)) M sz sl Q
  rw [pw_out_s hg hE]
  exact sw_ret pw_h43 (aIns_s _ _ _ pw_i43 _ pw_h43) rfl h
theorem pw_ret353 {E : sx_E} {lv : sx_L} {g : Nat} (hg : g < 2 ^ 31) (hE : E.2.2 2 = nI g) (h : Q (some (.int (nI g))) M sz sl) : sw_Ok (aP (fun i => i)) RO sa E Q M sz sl (353, 55, lv, pw_out) := by
  show ∃ k, am_W (sx_P (aP (fun i => i)) sa) RO k 353 55 (sx_lv E lv) (pw_out.map (sx_v E)) M sz sl Q
  rw [pw_out_s hg hE]
  exact sw_ret pw_h353 (aIns_s _ _ _ pw_i353 _ pw_h353) rfl h
theorem sw_lv {E E' : sx_E} {y pc : Nat} {lv lv' : sx_L} (e : sx_lv E lv = sx_lv E' lv') (g : sw_Ok (aP (fun i => i)) RO sa E' Q M sz sl (y, pc, lv', [])) : sw_Ok (aP (fun i => i)) RO sa E Q M sz sl (y, pc, lv, []) := by
  show ∃ k, am_W (sx_P (aP (fun i => i)) sa) RO k y pc (sx_lv E lv) [] M sz sl Q
  rw [e]
  exact g

theorem pw_m64_2147483647 : (2147483647 : Int64) = (nI 2147483647).toInt64 := by decide +kernel
theorem pw_cl_2147483647 {b : Nat} (hb : b < 2 ^ 31) (e : Int32) {X F : Nat} (hX : e.toBitVec.toNat = X) (hF : X % 2147483648 = F) (hQ : Q (some (.int (nI (b ^ F % 2147483647)))) M sz sl) : ∀ (n t g s : Nat), t + n = 31 → g < 2147483647 → s < 2 ^ 31 → g * s ^ (F / 2 ^ t) % 2147483647 = b ^ F % 2147483647 → sw_Ok (aP (fun i => i)) RO sa (pw_E (nI b) e (nI g) (nI s) (nI t)) Q M sz sl (43, 16, pw_lv 2147483647 (.string "" 4) (pw_l 3) (pw_l 2), [])
  | 0, t, g, s, ht, hg, hs, hi => by
    have t31 : t = 31 := by omega
    subst t31
    have h0 : F / 2 ^ 31 = 0 := Nat.div_eq_of_lt (by rw [← hF]; exact Nat.mod_lt _ (by decide))
    rw [h0, Nat.pow_zero, Nat.mul_one, Nat.mod_eq_of_lt hg] at hi
    refine sw_to_s aMt_s aIns_s (pw_cons ?_ pw_nil) pw_rA_2147483647 (pw_ret43 (g := g) (by omega) rfl (by rw [hi]; exact hQ))
    show decide (nI 31 < 31) = false
    decide +kernel
  | n + 1, t, g, s, ht, hg, hs, hi => by
    have ht2 : t < 31 := by omega
    have c4 : sx_h (pw_E (nI b) e (nI g) (nI s) (nI t)) (true, 0, .string "" 4, .int 31) := by
      show decide (nI t < nI 31) = true
      exact decide_eq_true (nI_lt ht2 (by decide))
    have hl := pw_low X ht2
    rw [hF] at hl
    by_cases hz : X / 2 ^ t = 0
    · rw [hl.2 hz, Nat.pow_zero, Nat.mul_one, Nat.mod_eq_of_lt hg] at hi
      refine sw_to_s aMt_s aIns_s (pw_cons ?_ (pw_cons c4 pw_nil)) pw_rB_2147483647 (pw_ret43 (g := g) (by omega) rfl (by rw [hi]; exact hQ))
      show decide ((e.toUInt32 >>> ((nI t).toUInt32 &&& Int32.toUInt32 31)).toInt32 = 0) = true
      exact decide_eq_true ((pw_z1 e ht2).mpr (by rw [hX]; exact hz))
    · have c1 : sx_h (pw_E (nI b) e (nI g) (nI s) (nI t)) (false, 1, pw_us1, .int 0) := by
        show decide ((e.toUInt32 >>> ((nI t).toUInt32 &&& Int32.toUInt32 31)).toInt32 = 0) = false
        exact decide_eq_false (fun h => hz (by rw [← hX]; exact (pw_z1 e ht2).mp h))
      have hp := pw_half F t
      have hmm : ∀ x, x % 2147483647 < 2 ^ 31 := fun x => Nat.lt_trans (Nat.mod_lt x (by decide)) (by decide)
      by_cases h1 : X / 2 ^ t % 2 = 1
      · rw [hl.1, h1] at hp
        rw [hp] at hi
        refine sw_to_s aMt_s aIns_s (pw_cons ?_ (pw_cons c1 (pw_cons c4 pw_nil))) pw_rC_2147483647 ?_
        · show decide ((e.toUInt32 >>> ((nI t).toUInt32 &&& Int32.toUInt32 31)).toInt32 &&& 1 = 1) = true
          exact decide_eq_true ((pw_b1 e ht2).mpr (by rw [hX]; exact h1))
        · refine sw_lv ?_ (pw_cl_2147483647 hb e hX hF hQ n (t + 1) (g * s % 2147483647) (s * s % 2147483647) (by omega) (Nat.mod_lt _ (by decide)) (hmm _) ((pw_C1 g s _ _).trans hi))
          show [(9, Value.int (nI t + 1)), (7, .long ((nI s).toInt64 * (nI s).toInt64 - (nI s).toInt64 * (nI s).toInt64 / 2147483647 * 2147483647)), (5, .long ((nI g).toInt64 * (nI s).toInt64 - (nI g).toInt64 * (nI s).toInt64 / 2147483647 * 2147483647)), (4, .int 2147483647), (0, .long (nI b).toInt64), (2, .int e), (3, .int 2147483647)] = [(9, Value.int (nI (t + 1))), (7, .long (nI (s * s % 2147483647)).toInt64), (5, .long (nI (g * s % 2147483647)).toInt64), (4, .int 2147483647), (0, .long (nI b).toInt64), (2, .int e), (3, .int 2147483647)]
          rw [pw_m64_2147483647, pw_lr hs hs (by decide) (by decide), pw_lr (by omega) hs (by decide) (by decide), nI_1]
      · have h0 : X / 2 ^ t % 2 = 0 := by omega
        rw [hl.1, h0, Nat.add_zero] at hp
        rw [hp] at hi
        refine sw_to_s aMt_s aIns_s (pw_cons ?_ (pw_cons c1 (pw_cons c4 pw_nil))) pw_rD_2147483647 ?_
        · show decide ((e.toUInt32 >>> ((nI t).toUInt32 &&& Int32.toUInt32 31)).toInt32 &&& 1 = 1) = false
          exact decide_eq_false (fun h => h1 (by rw [← hX]; exact (pw_b1 e ht2).mp h))
        · refine sw_lv ?_ (pw_cl_2147483647 hb e hX hF hQ n (t + 1) g (s * s % 2147483647) (by omega) hg (hmm _) ((pw_C0 g s _ _).trans hi))
          show [(9, Value.int (nI t + 1)), (7, .long ((nI s).toInt64 * (nI s).toInt64 - (nI s).toInt64 * (nI s).toInt64 / 2147483647 * 2147483647)), (5, .long (nI g).toInt64), (4, .int 2147483647), (0, .long (nI b).toInt64), (2, .int e), (3, .int 2147483647)] = [(9, Value.int (nI (t + 1))), (7, .long (nI (s * s % 2147483647)).toInt64), (5, .long (nI g).toInt64), (4, .int 2147483647), (0, .long (nI b).toInt64), (2, .int e), (3, .int 2147483647)]
          rw [pw_m64_2147483647, pw_lr hs hs (by decide) (by decide), nI_1]
theorem pw_rf_2147483647 {b : Nat} (hb : b < 2 ^ 31) (e : Int32) {X F : Nat} (hX : e.toBitVec.toNat = X) (hF : X % 2147483648 = F) (hQ : Q (some (.int (nI (b ^ F % 2147483647)))) M sz sl) : ∀ (n : Nat), n ≤ 31 → sw_Ok (aP (fun i => i)) RO sa (pw_E (nI b) e (nI (b ^ (F / 2 ^ n) % 2147483647)) 0 (pw_w n)) Q M sz sl (353, 7, pw_rl 2147483647 (.string "" 4) (pw_l 2), [])
  | 0, hn => by
    rw [Nat.pow_zero, Nat.div_one]
    refine sw_to_s aMt_s aIns_s (pw_cons ?_ pw_nil) pw_rR_2147483647 (pw_ret353 (g := b ^ F % 2147483647) (Nat.lt_trans (Nat.mod_lt _ (by decide)) (by decide)) rfl hQ)
    show decide ((-1 : Int32) < 0) = true
    decide +kernel
  | n + 1, hn => by
    have hn2 : n < 31 := by omega
    have c4 : sx_h (pw_E (nI b) e (nI (b ^ (F / 2 ^ (n + 1)) % 2147483647)) 0 (pw_w (n + 1))) (false, 0, .string "" 4, .int 0) := by
      show decide (nI n < 0) = false
      exact decide_eq_false (nI_pos (by omega))
    have hl := pw_low X hn2
    rw [hF] at hl
    have hp := pw_half F n
    have hmm : ∀ x, x % 2147483647 < 2 ^ 31 := fun x => Nat.lt_trans (Nat.mod_lt x (by decide)) (by decide)
    have ih := pw_rf_2147483647 hb e hX hF hQ n (by omega)
    by_cases h1 : X / 2 ^ n % 2 = 1
    · rw [hl.1, h1] at hp
      rw [hp, ← pw_R1] at ih
      refine sw_to_s aMt_s aIns_s (pw_cons ?_ (pw_cons c4 pw_nil)) pw_rS_2147483647 ?_
      · show decide ((e >>> (nI n &&& 31)) &&& 1 = 1) = true
        exact decide_eq_true ((pw_b2 e hn2).mpr (by rw [hX]; exact h1))
      · have hG : b ^ (F / 2 ^ (n + 1)) % 2147483647 < 2 ^ 31 := hmm _
        generalize b ^ (F / 2 ^ (n + 1)) % 2147483647 = g at ih hG ⊢
        refine sw_lv ?_ ih
        show [(6, Value.int (nI n + -1)), (4, .long (sx_d (pw_E (nI b) e (nI g) 0 (pw_w (n + 1))) (pw_mm 2147483647 (pw_mm 2147483647 (pw_l 2) (pw_l 2)) (pw_l 0))).2), (0, .long (nI b).toInt64), (2, .int e), (3, .int 2147483647)] = [(6, Value.int (pw_w n)), (4, .long (nI (g * g % 2147483647 * b % 2147483647)).toInt64), (0, .long (nI b).toInt64), (2, .int e), (3, .int 2147483647)]
        rw [pw_vm pw_m64_2147483647 (by decide) (by decide) (hmm (g * g)) hb (pw_vm pw_m64_2147483647 (by decide) (by decide) hG hG rfl rfl) rfl, pw_w1]
    · have h0 : X / 2 ^ n % 2 = 0 := by omega
      rw [hl.1, h0, Nat.add_zero] at hp
      rw [hp, ← pw_R0] at ih
      refine sw_to_s aMt_s aIns_s (pw_cons ?_ (pw_cons c4 pw_nil)) pw_rT_2147483647 ?_
      · show decide ((e >>> (nI n &&& 31)) &&& 1 = 1) = false
        exact decide_eq_false (fun h => h1 (by rw [← hX]; exact (pw_b2 e hn2).mp h))
      · have hG : b ^ (F / 2 ^ (n + 1)) % 2147483647 < 2 ^ 31 := hmm _
        generalize b ^ (F / 2 ^ (n + 1)) % 2147483647 = g at ih hG ⊢
        refine sw_lv ?_ ih
        show [(6, Value.int (nI n + -1)), (4, .long (sx_d (pw_E (nI b) e (nI g) 0 (pw_w (n + 1))) (pw_mm 2147483647 (pw_l 2) (pw_l 2))).2), (0, .long (nI b).toInt64), (2, .int e), (3, .int 2147483647)] = [(6, Value.int (pw_w n)), (4, .long (nI (g * g % 2147483647)).toInt64), (0, .long (nI b).toInt64), (2, .int e), (3, .int 2147483647)]
        rw [pw_vm pw_m64_2147483647 (by decide) (by decide) hG hG rfl rfl, pw_w1]
theorem pw_c_2147483647 {b : Nat} (hb : b < 2 ^ 31) (e : Int32) (hQ : Q (some (.int (pwF (nI b) e 2147483647))) M sz sl) : ∃ k, am_W (sx_P (aP (fun i => i)) sa) RO k 43 0 [(0, .long (nI b).toInt64), (2, .int e), (3, .int 2147483647)] [] M sz sl Q := by
  have hQ2 : Q (some (.int (nI (b ^ (e.toBitVec.toNat % 2147483648) % 2147483647)))) M sz sl := by
    rw [← pw_F (m := 2147483647) hb (by decide) rfl]
    exact hQ
  have g2 := pw_cl_2147483647 (RO := RO) (sa := sa) hb e rfl rfl hQ2 31 0 1 b rfl (by decide) hb (by rw [Nat.pow_zero, Nat.div_one, Nat.one_mul])
  have g1 : sw_Ok (aP (fun i => i)) RO sa (pw_E (nI b) e 0 0 0) Q M sz sl (43, 5, [(0, pw_l 0), (2, .string "" 1), (3, .int 2147483647)], [.int 2147483647]) := sw_to_s aMt_s aIns_s pw_nil pw_r1_2147483647 (sw_lv (E' := pw_E (nI b) e (nI 1) (nI b) (nI 0)) rfl g2)
  refine sw_to_s (E := pw_E (nI b) e 0 0 0) aMt_s aIns_s pw_nil pw_r0_2147483647 ?_
  exact am_stepR (mt := aM_43.1) pw_h43 (aIns_s _ _ _ pw_n43 _ pw_h43) (Or.inr (Or.inr (Or.inr (Or.inr (Or.inr (Or.inr (Or.inr ⟨rfl, Or.inr ⟨0, [.int 2, .int 2147483647], [], .int 2147483647, pw_nt43, rfl, by decide +kernel, by decide +kernel, by decide +kernel, g1⟩⟩)))))))
theorem pw_r_2147483647 {b : Nat} (hb : b < 2 ^ 31) (e : Int32) (hQ : Q (some (.int (pwF (nI b) e 2147483647))) M sz sl) : ∃ k, am_W (sx_P (aP (fun i => i)) sa) RO k 353 0 [(0, .long (nI b).toInt64), (2, .int e), (3, .int 2147483647)] [] M sz sl Q := by
  have hQ2 : Q (some (.int (nI (b ^ (e.toBitVec.toNat % 2147483648) % 2147483647)))) M sz sl := by
    rw [← pw_F (m := 2147483647) hb (by decide) rfl]
    exact hQ
  have g2 := pw_rf_2147483647 (RO := RO) (sa := sa) hb e rfl rfl hQ2 31 (by decide)
  rw [Nat.div_eq_of_lt (show e.toBitVec.toNat % 2147483648 < 2 ^ 31 from Nat.mod_lt _ (by decide)), Nat.pow_zero] at g2
  exact sw_to_s (E := pw_E (nI b) e 0 0 0) aMt_s aIns_s pw_nil pw_r2_2147483647 (sw_lv (E' := pw_E (nI b) e (nI 1) 0 (nI 30)) rfl g2)

theorem pw_m64_2147483629 : (2147483629 : Int64) = (nI 2147483629).toInt64 := by decide +kernel
theorem pw_cl_2147483629 {b : Nat} (hb : b < 2 ^ 31) (e : Int32) {X F : Nat} (hX : e.toBitVec.toNat = X) (hF : X % 2147483648 = F) (hQ : Q (some (.int (nI (b ^ F % 2147483629)))) M sz sl) : ∀ (n t g s : Nat), t + n = 31 → g < 2147483629 → s < 2 ^ 31 → g * s ^ (F / 2 ^ t) % 2147483629 = b ^ F % 2147483629 → sw_Ok (aP (fun i => i)) RO sa (pw_E (nI b) e (nI g) (nI s) (nI t)) Q M sz sl (43, 16, pw_lv 2147483629 (.string "" 4) (pw_l 3) (pw_l 2), [])
  | 0, t, g, s, ht, hg, hs, hi => by
    have t31 : t = 31 := by omega
    subst t31
    have h0 : F / 2 ^ 31 = 0 := Nat.div_eq_of_lt (by rw [← hF]; exact Nat.mod_lt _ (by decide))
    rw [h0, Nat.pow_zero, Nat.mul_one, Nat.mod_eq_of_lt hg] at hi
    refine sw_to_s aMt_s aIns_s (pw_cons ?_ pw_nil) pw_rA_2147483629 (pw_ret43 (g := g) (by omega) rfl (by rw [hi]; exact hQ))
    show decide (nI 31 < 31) = false
    decide +kernel
  | n + 1, t, g, s, ht, hg, hs, hi => by
    have ht2 : t < 31 := by omega
    have c4 : sx_h (pw_E (nI b) e (nI g) (nI s) (nI t)) (true, 0, .string "" 4, .int 31) := by
      show decide (nI t < nI 31) = true
      exact decide_eq_true (nI_lt ht2 (by decide))
    have hl := pw_low X ht2
    rw [hF] at hl
    by_cases hz : X / 2 ^ t = 0
    · rw [hl.2 hz, Nat.pow_zero, Nat.mul_one, Nat.mod_eq_of_lt hg] at hi
      refine sw_to_s aMt_s aIns_s (pw_cons ?_ (pw_cons c4 pw_nil)) pw_rB_2147483629 (pw_ret43 (g := g) (by omega) rfl (by rw [hi]; exact hQ))
      show decide ((e.toUInt32 >>> ((nI t).toUInt32 &&& Int32.toUInt32 31)).toInt32 = 0) = true
      exact decide_eq_true ((pw_z1 e ht2).mpr (by rw [hX]; exact hz))
    · have c1 : sx_h (pw_E (nI b) e (nI g) (nI s) (nI t)) (false, 1, pw_us1, .int 0) := by
        show decide ((e.toUInt32 >>> ((nI t).toUInt32 &&& Int32.toUInt32 31)).toInt32 = 0) = false
        exact decide_eq_false (fun h => hz (by rw [← hX]; exact (pw_z1 e ht2).mp h))
      have hp := pw_half F t
      have hmm : ∀ x, x % 2147483629 < 2 ^ 31 := fun x => Nat.lt_trans (Nat.mod_lt x (by decide)) (by decide)
      by_cases h1 : X / 2 ^ t % 2 = 1
      · rw [hl.1, h1] at hp
        rw [hp] at hi
        refine sw_to_s aMt_s aIns_s (pw_cons ?_ (pw_cons c1 (pw_cons c4 pw_nil))) pw_rC_2147483629 ?_
        · show decide ((e.toUInt32 >>> ((nI t).toUInt32 &&& Int32.toUInt32 31)).toInt32 &&& 1 = 1) = true
          exact decide_eq_true ((pw_b1 e ht2).mpr (by rw [hX]; exact h1))
        · refine sw_lv ?_ (pw_cl_2147483629 hb e hX hF hQ n (t + 1) (g * s % 2147483629) (s * s % 2147483629) (by omega) (Nat.mod_lt _ (by decide)) (hmm _) ((pw_C1 g s _ _).trans hi))
          show [(9, Value.int (nI t + 1)), (7, .long ((nI s).toInt64 * (nI s).toInt64 - (nI s).toInt64 * (nI s).toInt64 / 2147483629 * 2147483629)), (5, .long ((nI g).toInt64 * (nI s).toInt64 - (nI g).toInt64 * (nI s).toInt64 / 2147483629 * 2147483629)), (4, .int 2147483629), (0, .long (nI b).toInt64), (2, .int e), (3, .int 2147483629)] = [(9, Value.int (nI (t + 1))), (7, .long (nI (s * s % 2147483629)).toInt64), (5, .long (nI (g * s % 2147483629)).toInt64), (4, .int 2147483629), (0, .long (nI b).toInt64), (2, .int e), (3, .int 2147483629)]
          rw [pw_m64_2147483629, pw_lr hs hs (by decide) (by decide), pw_lr (by omega) hs (by decide) (by decide), nI_1]
      · have h0 : X / 2 ^ t % 2 = 0 := by omega
        rw [hl.1, h0, Nat.add_zero] at hp
        rw [hp] at hi
        refine sw_to_s aMt_s aIns_s (pw_cons ?_ (pw_cons c1 (pw_cons c4 pw_nil))) pw_rD_2147483629 ?_
        · show decide ((e.toUInt32 >>> ((nI t).toUInt32 &&& Int32.toUInt32 31)).toInt32 &&& 1 = 1) = false
          exact decide_eq_false (fun h => h1 (by rw [← hX]; exact (pw_b1 e ht2).mp h))
        · refine sw_lv ?_ (pw_cl_2147483629 hb e hX hF hQ n (t + 1) g (s * s % 2147483629) (by omega) hg (hmm _) ((pw_C0 g s _ _).trans hi))
          show [(9, Value.int (nI t + 1)), (7, .long ((nI s).toInt64 * (nI s).toInt64 - (nI s).toInt64 * (nI s).toInt64 / 2147483629 * 2147483629)), (5, .long (nI g).toInt64), (4, .int 2147483629), (0, .long (nI b).toInt64), (2, .int e), (3, .int 2147483629)] = [(9, Value.int (nI (t + 1))), (7, .long (nI (s * s % 2147483629)).toInt64), (5, .long (nI g).toInt64), (4, .int 2147483629), (0, .long (nI b).toInt64), (2, .int e), (3, .int 2147483629)]
          rw [pw_m64_2147483629, pw_lr hs hs (by decide) (by decide), nI_1]
theorem pw_rf_2147483629 {b : Nat} (hb : b < 2 ^ 31) (e : Int32) {X F : Nat} (hX : e.toBitVec.toNat = X) (hF : X % 2147483648 = F) (hQ : Q (some (.int (nI (b ^ F % 2147483629)))) M sz sl) : ∀ (n : Nat), n ≤ 31 → sw_Ok (aP (fun i => i)) RO sa (pw_E (nI b) e (nI (b ^ (F / 2 ^ n) % 2147483629)) 0 (pw_w n)) Q M sz sl (353, 7, pw_rl 2147483629 (.string "" 4) (pw_l 2), [])
  | 0, hn => by
    rw [Nat.pow_zero, Nat.div_one]
    refine sw_to_s aMt_s aIns_s (pw_cons ?_ pw_nil) pw_rR_2147483629 (pw_ret353 (g := b ^ F % 2147483629) (Nat.lt_trans (Nat.mod_lt _ (by decide)) (by decide)) rfl hQ)
    show decide ((-1 : Int32) < 0) = true
    decide +kernel
  | n + 1, hn => by
    have hn2 : n < 31 := by omega
    have c4 : sx_h (pw_E (nI b) e (nI (b ^ (F / 2 ^ (n + 1)) % 2147483629)) 0 (pw_w (n + 1))) (false, 0, .string "" 4, .int 0) := by
      show decide (nI n < 0) = false
      exact decide_eq_false (nI_pos (by omega))
    have hl := pw_low X hn2
    rw [hF] at hl
    have hp := pw_half F n
    have hmm : ∀ x, x % 2147483629 < 2 ^ 31 := fun x => Nat.lt_trans (Nat.mod_lt x (by decide)) (by decide)
    have ih := pw_rf_2147483629 hb e hX hF hQ n (by omega)
    by_cases h1 : X / 2 ^ n % 2 = 1
    · rw [hl.1, h1] at hp
      rw [hp, ← pw_R1] at ih
      refine sw_to_s aMt_s aIns_s (pw_cons ?_ (pw_cons c4 pw_nil)) pw_rS_2147483629 ?_
      · show decide ((e >>> (nI n &&& 31)) &&& 1 = 1) = true
        exact decide_eq_true ((pw_b2 e hn2).mpr (by rw [hX]; exact h1))
      · have hG : b ^ (F / 2 ^ (n + 1)) % 2147483629 < 2 ^ 31 := hmm _
        generalize b ^ (F / 2 ^ (n + 1)) % 2147483629 = g at ih hG ⊢
        refine sw_lv ?_ ih
        show [(6, Value.int (nI n + -1)), (4, .long (sx_d (pw_E (nI b) e (nI g) 0 (pw_w (n + 1))) (pw_mm 2147483629 (pw_mm 2147483629 (pw_l 2) (pw_l 2)) (pw_l 0))).2), (0, .long (nI b).toInt64), (2, .int e), (3, .int 2147483629)] = [(6, Value.int (pw_w n)), (4, .long (nI (g * g % 2147483629 * b % 2147483629)).toInt64), (0, .long (nI b).toInt64), (2, .int e), (3, .int 2147483629)]
        rw [pw_vm pw_m64_2147483629 (by decide) (by decide) (hmm (g * g)) hb (pw_vm pw_m64_2147483629 (by decide) (by decide) hG hG rfl rfl) rfl, pw_w1]
    · have h0 : X / 2 ^ n % 2 = 0 := by omega
      rw [hl.1, h0, Nat.add_zero] at hp
      rw [hp, ← pw_R0] at ih
      refine sw_to_s aMt_s aIns_s (pw_cons ?_ (pw_cons c4 pw_nil)) pw_rT_2147483629 ?_
      · show decide ((e >>> (nI n &&& 31)) &&& 1 = 1) = false
        exact decide_eq_false (fun h => h1 (by rw [← hX]; exact (pw_b2 e hn2).mp h))
      · have hG : b ^ (F / 2 ^ (n + 1)) % 2147483629 < 2 ^ 31 := hmm _
        generalize b ^ (F / 2 ^ (n + 1)) % 2147483629 = g at ih hG ⊢
        refine sw_lv ?_ ih
        show [(6, Value.int (nI n + -1)), (4, .long (sx_d (pw_E (nI b) e (nI g) 0 (pw_w (n + 1))) (pw_mm 2147483629 (pw_l 2) (pw_l 2))).2), (0, .long (nI b).toInt64), (2, .int e), (3, .int 2147483629)] = [(6, Value.int (pw_w n)), (4, .long (nI (g * g % 2147483629)).toInt64), (0, .long (nI b).toInt64), (2, .int e), (3, .int 2147483629)]
        rw [pw_vm pw_m64_2147483629 (by decide) (by decide) hG hG rfl rfl, pw_w1]
theorem pw_c_2147483629 {b : Nat} (hb : b < 2 ^ 31) (e : Int32) (hQ : Q (some (.int (pwF (nI b) e 2147483629))) M sz sl) : ∃ k, am_W (sx_P (aP (fun i => i)) sa) RO k 43 0 [(0, .long (nI b).toInt64), (2, .int e), (3, .int 2147483629)] [] M sz sl Q := by
  have hQ2 : Q (some (.int (nI (b ^ (e.toBitVec.toNat % 2147483648) % 2147483629)))) M sz sl := by
    rw [← pw_F (m := 2147483629) hb (by decide) rfl]
    exact hQ
  have g2 := pw_cl_2147483629 (RO := RO) (sa := sa) hb e rfl rfl hQ2 31 0 1 b rfl (by decide) hb (by rw [Nat.pow_zero, Nat.div_one, Nat.one_mul])
  have g1 : sw_Ok (aP (fun i => i)) RO sa (pw_E (nI b) e 0 0 0) Q M sz sl (43, 5, [(0, pw_l 0), (2, .string "" 1), (3, .int 2147483629)], [.int 2147483629]) := sw_to_s aMt_s aIns_s pw_nil pw_r1_2147483629 (sw_lv (E' := pw_E (nI b) e (nI 1) (nI b) (nI 0)) rfl g2)
  refine sw_to_s (E := pw_E (nI b) e 0 0 0) aMt_s aIns_s pw_nil pw_r0_2147483629 ?_
  exact am_stepR (mt := aM_43.1) pw_h43 (aIns_s _ _ _ pw_n43 _ pw_h43) (Or.inr (Or.inr (Or.inr (Or.inr (Or.inr (Or.inr (Or.inr ⟨rfl, Or.inr ⟨0, [.int 2, .int 2147483629], [], .int 2147483629, pw_nt43, rfl, by decide +kernel, by decide +kernel, by decide +kernel, g1⟩⟩)))))))
theorem pw_r_2147483629 {b : Nat} (hb : b < 2 ^ 31) (e : Int32) (hQ : Q (some (.int (pwF (nI b) e 2147483629))) M sz sl) : ∃ k, am_W (sx_P (aP (fun i => i)) sa) RO k 353 0 [(0, .long (nI b).toInt64), (2, .int e), (3, .int 2147483629)] [] M sz sl Q := by
  have hQ2 : Q (some (.int (nI (b ^ (e.toBitVec.toNat % 2147483648) % 2147483629)))) M sz sl := by
    rw [← pw_F (m := 2147483629) hb (by decide) rfl]
    exact hQ
  have g2 := pw_rf_2147483629 (RO := RO) (sa := sa) hb e rfl rfl hQ2 31 (by decide)
  rw [Nat.div_eq_of_lt (show e.toBitVec.toNat % 2147483648 < 2 ^ 31 from Nat.mod_lt _ (by decide)), Nat.pow_zero] at g2
  exact sw_to_s (E := pw_E (nI b) e 0 0 0) aMt_s aIns_s pw_nil pw_r2_2147483629 (sw_lv (E' := pw_E (nI b) e (nI 1) 0 (nI 30)) rfl g2)

theorem pw_m64_2147483587 : (2147483587 : Int64) = (nI 2147483587).toInt64 := by decide +kernel
theorem pw_cl_2147483587 {b : Nat} (hb : b < 2 ^ 31) (e : Int32) {X F : Nat} (hX : e.toBitVec.toNat = X) (hF : X % 2147483648 = F) (hQ : Q (some (.int (nI (b ^ F % 2147483587)))) M sz sl) : ∀ (n t g s : Nat), t + n = 31 → g < 2147483587 → s < 2 ^ 31 → g * s ^ (F / 2 ^ t) % 2147483587 = b ^ F % 2147483587 → sw_Ok (aP (fun i => i)) RO sa (pw_E (nI b) e (nI g) (nI s) (nI t)) Q M sz sl (43, 16, pw_lv 2147483587 (.string "" 4) (pw_l 3) (pw_l 2), [])
  | 0, t, g, s, ht, hg, hs, hi => by
    have t31 : t = 31 := by omega
    subst t31
    have h0 : F / 2 ^ 31 = 0 := Nat.div_eq_of_lt (by rw [← hF]; exact Nat.mod_lt _ (by decide))
    rw [h0, Nat.pow_zero, Nat.mul_one, Nat.mod_eq_of_lt hg] at hi
    refine sw_to_s aMt_s aIns_s (pw_cons ?_ pw_nil) pw_rA_2147483587 (pw_ret43 (g := g) (by omega) rfl (by rw [hi]; exact hQ))
    show decide (nI 31 < 31) = false
    decide +kernel
  | n + 1, t, g, s, ht, hg, hs, hi => by
    have ht2 : t < 31 := by omega
    have c4 : sx_h (pw_E (nI b) e (nI g) (nI s) (nI t)) (true, 0, .string "" 4, .int 31) := by
      show decide (nI t < nI 31) = true
      exact decide_eq_true (nI_lt ht2 (by decide))
    have hl := pw_low X ht2
    rw [hF] at hl
    by_cases hz : X / 2 ^ t = 0
    · rw [hl.2 hz, Nat.pow_zero, Nat.mul_one, Nat.mod_eq_of_lt hg] at hi
      refine sw_to_s aMt_s aIns_s (pw_cons ?_ (pw_cons c4 pw_nil)) pw_rB_2147483587 (pw_ret43 (g := g) (by omega) rfl (by rw [hi]; exact hQ))
      show decide ((e.toUInt32 >>> ((nI t).toUInt32 &&& Int32.toUInt32 31)).toInt32 = 0) = true
      exact decide_eq_true ((pw_z1 e ht2).mpr (by rw [hX]; exact hz))
    · have c1 : sx_h (pw_E (nI b) e (nI g) (nI s) (nI t)) (false, 1, pw_us1, .int 0) := by
        show decide ((e.toUInt32 >>> ((nI t).toUInt32 &&& Int32.toUInt32 31)).toInt32 = 0) = false
        exact decide_eq_false (fun h => hz (by rw [← hX]; exact (pw_z1 e ht2).mp h))
      have hp := pw_half F t
      have hmm : ∀ x, x % 2147483587 < 2 ^ 31 := fun x => Nat.lt_trans (Nat.mod_lt x (by decide)) (by decide)
      by_cases h1 : X / 2 ^ t % 2 = 1
      · rw [hl.1, h1] at hp
        rw [hp] at hi
        refine sw_to_s aMt_s aIns_s (pw_cons ?_ (pw_cons c1 (pw_cons c4 pw_nil))) pw_rC_2147483587 ?_
        · show decide ((e.toUInt32 >>> ((nI t).toUInt32 &&& Int32.toUInt32 31)).toInt32 &&& 1 = 1) = true
          exact decide_eq_true ((pw_b1 e ht2).mpr (by rw [hX]; exact h1))
        · refine sw_lv ?_ (pw_cl_2147483587 hb e hX hF hQ n (t + 1) (g * s % 2147483587) (s * s % 2147483587) (by omega) (Nat.mod_lt _ (by decide)) (hmm _) ((pw_C1 g s _ _).trans hi))
          show [(9, Value.int (nI t + 1)), (7, .long ((nI s).toInt64 * (nI s).toInt64 - (nI s).toInt64 * (nI s).toInt64 / 2147483587 * 2147483587)), (5, .long ((nI g).toInt64 * (nI s).toInt64 - (nI g).toInt64 * (nI s).toInt64 / 2147483587 * 2147483587)), (4, .int 2147483587), (0, .long (nI b).toInt64), (2, .int e), (3, .int 2147483587)] = [(9, Value.int (nI (t + 1))), (7, .long (nI (s * s % 2147483587)).toInt64), (5, .long (nI (g * s % 2147483587)).toInt64), (4, .int 2147483587), (0, .long (nI b).toInt64), (2, .int e), (3, .int 2147483587)]
          rw [pw_m64_2147483587, pw_lr hs hs (by decide) (by decide), pw_lr (by omega) hs (by decide) (by decide), nI_1]
      · have h0 : X / 2 ^ t % 2 = 0 := by omega
        rw [hl.1, h0, Nat.add_zero] at hp
        rw [hp] at hi
        refine sw_to_s aMt_s aIns_s (pw_cons ?_ (pw_cons c1 (pw_cons c4 pw_nil))) pw_rD_2147483587 ?_
        · show decide ((e.toUInt32 >>> ((nI t).toUInt32 &&& Int32.toUInt32 31)).toInt32 &&& 1 = 1) = false
          exact decide_eq_false (fun h => h1 (by rw [← hX]; exact (pw_b1 e ht2).mp h))
        · refine sw_lv ?_ (pw_cl_2147483587 hb e hX hF hQ n (t + 1) g (s * s % 2147483587) (by omega) hg (hmm _) ((pw_C0 g s _ _).trans hi))
          show [(9, Value.int (nI t + 1)), (7, .long ((nI s).toInt64 * (nI s).toInt64 - (nI s).toInt64 * (nI s).toInt64 / 2147483587 * 2147483587)), (5, .long (nI g).toInt64), (4, .int 2147483587), (0, .long (nI b).toInt64), (2, .int e), (3, .int 2147483587)] = [(9, Value.int (nI (t + 1))), (7, .long (nI (s * s % 2147483587)).toInt64), (5, .long (nI g).toInt64), (4, .int 2147483587), (0, .long (nI b).toInt64), (2, .int e), (3, .int 2147483587)]
          rw [pw_m64_2147483587, pw_lr hs hs (by decide) (by decide), nI_1]
theorem pw_rf_2147483587 {b : Nat} (hb : b < 2 ^ 31) (e : Int32) {X F : Nat} (hX : e.toBitVec.toNat = X) (hF : X % 2147483648 = F) (hQ : Q (some (.int (nI (b ^ F % 2147483587)))) M sz sl) : ∀ (n : Nat), n ≤ 31 → sw_Ok (aP (fun i => i)) RO sa (pw_E (nI b) e (nI (b ^ (F / 2 ^ n) % 2147483587)) 0 (pw_w n)) Q M sz sl (353, 7, pw_rl 2147483587 (.string "" 4) (pw_l 2), [])
  | 0, hn => by
    rw [Nat.pow_zero, Nat.div_one]
    refine sw_to_s aMt_s aIns_s (pw_cons ?_ pw_nil) pw_rR_2147483587 (pw_ret353 (g := b ^ F % 2147483587) (Nat.lt_trans (Nat.mod_lt _ (by decide)) (by decide)) rfl hQ)
    show decide ((-1 : Int32) < 0) = true
    decide +kernel
  | n + 1, hn => by
    have hn2 : n < 31 := by omega
    have c4 : sx_h (pw_E (nI b) e (nI (b ^ (F / 2 ^ (n + 1)) % 2147483587)) 0 (pw_w (n + 1))) (false, 0, .string "" 4, .int 0) := by
      show decide (nI n < 0) = false
      exact decide_eq_false (nI_pos (by omega))
    have hl := pw_low X hn2
    rw [hF] at hl
    have hp := pw_half F n
    have hmm : ∀ x, x % 2147483587 < 2 ^ 31 := fun x => Nat.lt_trans (Nat.mod_lt x (by decide)) (by decide)
    have ih := pw_rf_2147483587 hb e hX hF hQ n (by omega)
    by_cases h1 : X / 2 ^ n % 2 = 1
    · rw [hl.1, h1] at hp
      rw [hp, ← pw_R1] at ih
      refine sw_to_s aMt_s aIns_s (pw_cons ?_ (pw_cons c4 pw_nil)) pw_rS_2147483587 ?_
      · show decide ((e >>> (nI n &&& 31)) &&& 1 = 1) = true
        exact decide_eq_true ((pw_b2 e hn2).mpr (by rw [hX]; exact h1))
      · have hG : b ^ (F / 2 ^ (n + 1)) % 2147483587 < 2 ^ 31 := hmm _
        generalize b ^ (F / 2 ^ (n + 1)) % 2147483587 = g at ih hG ⊢
        refine sw_lv ?_ ih
        show [(6, Value.int (nI n + -1)), (4, .long (sx_d (pw_E (nI b) e (nI g) 0 (pw_w (n + 1))) (pw_mm 2147483587 (pw_mm 2147483587 (pw_l 2) (pw_l 2)) (pw_l 0))).2), (0, .long (nI b).toInt64), (2, .int e), (3, .int 2147483587)] = [(6, Value.int (pw_w n)), (4, .long (nI (g * g % 2147483587 * b % 2147483587)).toInt64), (0, .long (nI b).toInt64), (2, .int e), (3, .int 2147483587)]
        rw [pw_vm pw_m64_2147483587 (by decide) (by decide) (hmm (g * g)) hb (pw_vm pw_m64_2147483587 (by decide) (by decide) hG hG rfl rfl) rfl, pw_w1]
    · have h0 : X / 2 ^ n % 2 = 0 := by omega
      rw [hl.1, h0, Nat.add_zero] at hp
      rw [hp, ← pw_R0] at ih
      refine sw_to_s aMt_s aIns_s (pw_cons ?_ (pw_cons c4 pw_nil)) pw_rT_2147483587 ?_
      · show decide ((e >>> (nI n &&& 31)) &&& 1 = 1) = false
        exact decide_eq_false (fun h => h1 (by rw [← hX]; exact (pw_b2 e hn2).mp h))
      · have hG : b ^ (F / 2 ^ (n + 1)) % 2147483587 < 2 ^ 31 := hmm _
        generalize b ^ (F / 2 ^ (n + 1)) % 2147483587 = g at ih hG ⊢
        refine sw_lv ?_ ih
        show [(6, Value.int (nI n + -1)), (4, .long (sx_d (pw_E (nI b) e (nI g) 0 (pw_w (n + 1))) (pw_mm 2147483587 (pw_l 2) (pw_l 2))).2), (0, .long (nI b).toInt64), (2, .int e), (3, .int 2147483587)] = [(6, Value.int (pw_w n)), (4, .long (nI (g * g % 2147483587)).toInt64), (0, .long (nI b).toInt64), (2, .int e), (3, .int 2147483587)]
        rw [pw_vm pw_m64_2147483587 (by decide) (by decide) hG hG rfl rfl, pw_w1]
theorem pw_c_2147483587 {b : Nat} (hb : b < 2 ^ 31) (e : Int32) (hQ : Q (some (.int (pwF (nI b) e 2147483587))) M sz sl) : ∃ k, am_W (sx_P (aP (fun i => i)) sa) RO k 43 0 [(0, .long (nI b).toInt64), (2, .int e), (3, .int 2147483587)] [] M sz sl Q := by
  have hQ2 : Q (some (.int (nI (b ^ (e.toBitVec.toNat % 2147483648) % 2147483587)))) M sz sl := by
    rw [← pw_F (m := 2147483587) hb (by decide) rfl]
    exact hQ
  have g2 := pw_cl_2147483587 (RO := RO) (sa := sa) hb e rfl rfl hQ2 31 0 1 b rfl (by decide) hb (by rw [Nat.pow_zero, Nat.div_one, Nat.one_mul])
  have g1 : sw_Ok (aP (fun i => i)) RO sa (pw_E (nI b) e 0 0 0) Q M sz sl (43, 5, [(0, pw_l 0), (2, .string "" 1), (3, .int 2147483587)], [.int 2147483587]) := sw_to_s aMt_s aIns_s pw_nil pw_r1_2147483587 (sw_lv (E' := pw_E (nI b) e (nI 1) (nI b) (nI 0)) rfl g2)
  refine sw_to_s (E := pw_E (nI b) e 0 0 0) aMt_s aIns_s pw_nil pw_r0_2147483587 ?_
  exact am_stepR (mt := aM_43.1) pw_h43 (aIns_s _ _ _ pw_n43 _ pw_h43) (Or.inr (Or.inr (Or.inr (Or.inr (Or.inr (Or.inr (Or.inr ⟨rfl, Or.inr ⟨0, [.int 2, .int 2147483587], [], .int 2147483587, pw_nt43, rfl, by decide +kernel, by decide +kernel, by decide +kernel, g1⟩⟩)))))))
theorem pw_r_2147483587 {b : Nat} (hb : b < 2 ^ 31) (e : Int32) (hQ : Q (some (.int (pwF (nI b) e 2147483587))) M sz sl) : ∃ k, am_W (sx_P (aP (fun i => i)) sa) RO k 353 0 [(0, .long (nI b).toInt64), (2, .int e), (3, .int 2147483587)] [] M sz sl Q := by
  have hQ2 : Q (some (.int (nI (b ^ (e.toBitVec.toNat % 2147483648) % 2147483587)))) M sz sl := by
    rw [← pw_F (m := 2147483587) hb (by decide) rfl]
    exact hQ
  have g2 := pw_rf_2147483587 (RO := RO) (sa := sa) hb e rfl rfl hQ2 31 (by decide)
  rw [Nat.div_eq_of_lt (show e.toBitVec.toNat % 2147483648 < 2 ^ 31 from Nat.mod_lt _ (by decide)), Nat.pow_zero] at g2
  exact sw_to_s (E := pw_E (nI b) e 0 0 0) aMt_s aIns_s pw_nil pw_r2_2147483587 (sw_lv (E' := pw_E (nI b) e (nI 1) 0 (nI 30)) rfl g2)

theorem pw_m64_2147483579 : (2147483579 : Int64) = (nI 2147483579).toInt64 := by decide +kernel
theorem pw_cl_2147483579 {b : Nat} (hb : b < 2 ^ 31) (e : Int32) {X F : Nat} (hX : e.toBitVec.toNat = X) (hF : X % 2147483648 = F) (hQ : Q (some (.int (nI (b ^ F % 2147483579)))) M sz sl) : ∀ (n t g s : Nat), t + n = 31 → g < 2147483579 → s < 2 ^ 31 → g * s ^ (F / 2 ^ t) % 2147483579 = b ^ F % 2147483579 → sw_Ok (aP (fun i => i)) RO sa (pw_E (nI b) e (nI g) (nI s) (nI t)) Q M sz sl (43, 16, pw_lv 2147483579 (.string "" 4) (pw_l 3) (pw_l 2), [])
  | 0, t, g, s, ht, hg, hs, hi => by
    have t31 : t = 31 := by omega
    subst t31
    have h0 : F / 2 ^ 31 = 0 := Nat.div_eq_of_lt (by rw [← hF]; exact Nat.mod_lt _ (by decide))
    rw [h0, Nat.pow_zero, Nat.mul_one, Nat.mod_eq_of_lt hg] at hi
    refine sw_to_s aMt_s aIns_s (pw_cons ?_ pw_nil) pw_rA_2147483579 (pw_ret43 (g := g) (by omega) rfl (by rw [hi]; exact hQ))
    show decide (nI 31 < 31) = false
    decide +kernel
  | n + 1, t, g, s, ht, hg, hs, hi => by
    have ht2 : t < 31 := by omega
    have c4 : sx_h (pw_E (nI b) e (nI g) (nI s) (nI t)) (true, 0, .string "" 4, .int 31) := by
      show decide (nI t < nI 31) = true
      exact decide_eq_true (nI_lt ht2 (by decide))
    have hl := pw_low X ht2
    rw [hF] at hl
    by_cases hz : X / 2 ^ t = 0
    · rw [hl.2 hz, Nat.pow_zero, Nat.mul_one, Nat.mod_eq_of_lt hg] at hi
      refine sw_to_s aMt_s aIns_s (pw_cons ?_ (pw_cons c4 pw_nil)) pw_rB_2147483579 (pw_ret43 (g := g) (by omega) rfl (by rw [hi]; exact hQ))
      show decide ((e.toUInt32 >>> ((nI t).toUInt32 &&& Int32.toUInt32 31)).toInt32 = 0) = true
      exact decide_eq_true ((pw_z1 e ht2).mpr (by rw [hX]; exact hz))
    · have c1 : sx_h (pw_E (nI b) e (nI g) (nI s) (nI t)) (false, 1, pw_us1, .int 0) := by
        show decide ((e.toUInt32 >>> ((nI t).toUInt32 &&& Int32.toUInt32 31)).toInt32 = 0) = false
        exact decide_eq_false (fun h => hz (by rw [← hX]; exact (pw_z1 e ht2).mp h))
      have hp := pw_half F t
      have hmm : ∀ x, x % 2147483579 < 2 ^ 31 := fun x => Nat.lt_trans (Nat.mod_lt x (by decide)) (by decide)
      by_cases h1 : X / 2 ^ t % 2 = 1
      · rw [hl.1, h1] at hp
        rw [hp] at hi
        refine sw_to_s aMt_s aIns_s (pw_cons ?_ (pw_cons c1 (pw_cons c4 pw_nil))) pw_rC_2147483579 ?_
        · show decide ((e.toUInt32 >>> ((nI t).toUInt32 &&& Int32.toUInt32 31)).toInt32 &&& 1 = 1) = true
          exact decide_eq_true ((pw_b1 e ht2).mpr (by rw [hX]; exact h1))
        · refine sw_lv ?_ (pw_cl_2147483579 hb e hX hF hQ n (t + 1) (g * s % 2147483579) (s * s % 2147483579) (by omega) (Nat.mod_lt _ (by decide)) (hmm _) ((pw_C1 g s _ _).trans hi))
          show [(9, Value.int (nI t + 1)), (7, .long ((nI s).toInt64 * (nI s).toInt64 - (nI s).toInt64 * (nI s).toInt64 / 2147483579 * 2147483579)), (5, .long ((nI g).toInt64 * (nI s).toInt64 - (nI g).toInt64 * (nI s).toInt64 / 2147483579 * 2147483579)), (4, .int 2147483579), (0, .long (nI b).toInt64), (2, .int e), (3, .int 2147483579)] = [(9, Value.int (nI (t + 1))), (7, .long (nI (s * s % 2147483579)).toInt64), (5, .long (nI (g * s % 2147483579)).toInt64), (4, .int 2147483579), (0, .long (nI b).toInt64), (2, .int e), (3, .int 2147483579)]
          rw [pw_m64_2147483579, pw_lr hs hs (by decide) (by decide), pw_lr (by omega) hs (by decide) (by decide), nI_1]
      · have h0 : X / 2 ^ t % 2 = 0 := by omega
        rw [hl.1, h0, Nat.add_zero] at hp
        rw [hp] at hi
        refine sw_to_s aMt_s aIns_s (pw_cons ?_ (pw_cons c1 (pw_cons c4 pw_nil))) pw_rD_2147483579 ?_
        · show decide ((e.toUInt32 >>> ((nI t).toUInt32 &&& Int32.toUInt32 31)).toInt32 &&& 1 = 1) = false
          exact decide_eq_false (fun h => h1 (by rw [← hX]; exact (pw_b1 e ht2).mp h))
        · refine sw_lv ?_ (pw_cl_2147483579 hb e hX hF hQ n (t + 1) g (s * s % 2147483579) (by omega) hg (hmm _) ((pw_C0 g s _ _).trans hi))
          show [(9, Value.int (nI t + 1)), (7, .long ((nI s).toInt64 * (nI s).toInt64 - (nI s).toInt64 * (nI s).toInt64 / 2147483579 * 2147483579)), (5, .long (nI g).toInt64), (4, .int 2147483579), (0, .long (nI b).toInt64), (2, .int e), (3, .int 2147483579)] = [(9, Value.int (nI (t + 1))), (7, .long (nI (s * s % 2147483579)).toInt64), (5, .long (nI g).toInt64), (4, .int 2147483579), (0, .long (nI b).toInt64), (2, .int e), (3, .int 2147483579)]
          rw [pw_m64_2147483579, pw_lr hs hs (by decide) (by decide), nI_1]
theorem pw_rf_2147483579 {b : Nat} (hb : b < 2 ^ 31) (e : Int32) {X F : Nat} (hX : e.toBitVec.toNat = X) (hF : X % 2147483648 = F) (hQ : Q (some (.int (nI (b ^ F % 2147483579)))) M sz sl) : ∀ (n : Nat), n ≤ 31 → sw_Ok (aP (fun i => i)) RO sa (pw_E (nI b) e (nI (b ^ (F / 2 ^ n) % 2147483579)) 0 (pw_w n)) Q M sz sl (353, 7, pw_rl 2147483579 (.string "" 4) (pw_l 2), [])
  | 0, hn => by
    rw [Nat.pow_zero, Nat.div_one]
    refine sw_to_s aMt_s aIns_s (pw_cons ?_ pw_nil) pw_rR_2147483579 (pw_ret353 (g := b ^ F % 2147483579) (Nat.lt_trans (Nat.mod_lt _ (by decide)) (by decide)) rfl hQ)
    show decide ((-1 : Int32) < 0) = true
    decide +kernel
  | n + 1, hn => by
    have hn2 : n < 31 := by omega
    have c4 : sx_h (pw_E (nI b) e (nI (b ^ (F / 2 ^ (n + 1)) % 2147483579)) 0 (pw_w (n + 1))) (false, 0, .string "" 4, .int 0) := by
      show decide (nI n < 0) = false
      exact decide_eq_false (nI_pos (by omega))
    have hl := pw_low X hn2
    rw [hF] at hl
    have hp := pw_half F n
    have hmm : ∀ x, x % 2147483579 < 2 ^ 31 := fun x => Nat.lt_trans (Nat.mod_lt x (by decide)) (by decide)
    have ih := pw_rf_2147483579 hb e hX hF hQ n (by omega)
    by_cases h1 : X / 2 ^ n % 2 = 1
    · rw [hl.1, h1] at hp
      rw [hp, ← pw_R1] at ih
      refine sw_to_s aMt_s aIns_s (pw_cons ?_ (pw_cons c4 pw_nil)) pw_rS_2147483579 ?_
      · show decide ((e >>> (nI n &&& 31)) &&& 1 = 1) = true
        exact decide_eq_true ((pw_b2 e hn2).mpr (by rw [hX]; exact h1))
      · have hG : b ^ (F / 2 ^ (n + 1)) % 2147483579 < 2 ^ 31 := hmm _
        generalize b ^ (F / 2 ^ (n + 1)) % 2147483579 = g at ih hG ⊢
        refine sw_lv ?_ ih
        show [(6, Value.int (nI n + -1)), (4, .long (sx_d (pw_E (nI b) e (nI g) 0 (pw_w (n + 1))) (pw_mm 2147483579 (pw_mm 2147483579 (pw_l 2) (pw_l 2)) (pw_l 0))).2), (0, .long (nI b).toInt64), (2, .int e), (3, .int 2147483579)] = [(6, Value.int (pw_w n)), (4, .long (nI (g * g % 2147483579 * b % 2147483579)).toInt64), (0, .long (nI b).toInt64), (2, .int e), (3, .int 2147483579)]
        rw [pw_vm pw_m64_2147483579 (by decide) (by decide) (hmm (g * g)) hb (pw_vm pw_m64_2147483579 (by decide) (by decide) hG hG rfl rfl) rfl, pw_w1]
    · have h0 : X / 2 ^ n % 2 = 0 := by omega
      rw [hl.1, h0, Nat.add_zero] at hp
      rw [hp, ← pw_R0] at ih
      refine sw_to_s aMt_s aIns_s (pw_cons ?_ (pw_cons c4 pw_nil)) pw_rT_2147483579 ?_
      · show decide ((e >>> (nI n &&& 31)) &&& 1 = 1) = false
        exact decide_eq_false (fun h => h1 (by rw [← hX]; exact (pw_b2 e hn2).mp h))
      · have hG : b ^ (F / 2 ^ (n + 1)) % 2147483579 < 2 ^ 31 := hmm _
        generalize b ^ (F / 2 ^ (n + 1)) % 2147483579 = g at ih hG ⊢
        refine sw_lv ?_ ih
        show [(6, Value.int (nI n + -1)), (4, .long (sx_d (pw_E (nI b) e (nI g) 0 (pw_w (n + 1))) (pw_mm 2147483579 (pw_l 2) (pw_l 2))).2), (0, .long (nI b).toInt64), (2, .int e), (3, .int 2147483579)] = [(6, Value.int (pw_w n)), (4, .long (nI (g * g % 2147483579)).toInt64), (0, .long (nI b).toInt64), (2, .int e), (3, .int 2147483579)]
        rw [pw_vm pw_m64_2147483579 (by decide) (by decide) hG hG rfl rfl, pw_w1]
theorem pw_c_2147483579 {b : Nat} (hb : b < 2 ^ 31) (e : Int32) (hQ : Q (some (.int (pwF (nI b) e 2147483579))) M sz sl) : ∃ k, am_W (sx_P (aP (fun i => i)) sa) RO k 43 0 [(0, .long (nI b).toInt64), (2, .int e), (3, .int 2147483579)] [] M sz sl Q := by
  have hQ2 : Q (some (.int (nI (b ^ (e.toBitVec.toNat % 2147483648) % 2147483579)))) M sz sl := by
    rw [← pw_F (m := 2147483579) hb (by decide) rfl]
    exact hQ
  have g2 := pw_cl_2147483579 (RO := RO) (sa := sa) hb e rfl rfl hQ2 31 0 1 b rfl (by decide) hb (by rw [Nat.pow_zero, Nat.div_one, Nat.one_mul])
  have g1 : sw_Ok (aP (fun i => i)) RO sa (pw_E (nI b) e 0 0 0) Q M sz sl (43, 5, [(0, pw_l 0), (2, .string "" 1), (3, .int 2147483579)], [.int 2147483579]) := sw_to_s aMt_s aIns_s pw_nil pw_r1_2147483579 (sw_lv (E' := pw_E (nI b) e (nI 1) (nI b) (nI 0)) rfl g2)
  refine sw_to_s (E := pw_E (nI b) e 0 0 0) aMt_s aIns_s pw_nil pw_r0_2147483579 ?_
  exact am_stepR (mt := aM_43.1) pw_h43 (aIns_s _ _ _ pw_n43 _ pw_h43) (Or.inr (Or.inr (Or.inr (Or.inr (Or.inr (Or.inr (Or.inr ⟨rfl, Or.inr ⟨0, [.int 2, .int 2147483579], [], .int 2147483579, pw_nt43, rfl, by decide +kernel, by decide +kernel, by decide +kernel, g1⟩⟩)))))))
theorem pw_r_2147483579 {b : Nat} (hb : b < 2 ^ 31) (e : Int32) (hQ : Q (some (.int (pwF (nI b) e 2147483579))) M sz sl) : ∃ k, am_W (sx_P (aP (fun i => i)) sa) RO k 353 0 [(0, .long (nI b).toInt64), (2, .int e), (3, .int 2147483579)] [] M sz sl Q := by
  have hQ2 : Q (some (.int (nI (b ^ (e.toBitVec.toNat % 2147483648) % 2147483579)))) M sz sl := by
    rw [← pw_F (m := 2147483579) hb (by decide) rfl]
    exact hQ
  have g2 := pw_rf_2147483579 (RO := RO) (sa := sa) hb e rfl rfl hQ2 31 (by decide)
  rw [Nat.div_eq_of_lt (show e.toBitVec.toNat % 2147483648 < 2 ^ 31 from Nat.mod_lt _ (by decide)), Nat.pow_zero] at g2
  exact sw_to_s (E := pw_E (nI b) e 0 0 0) aMt_s aIns_s pw_nil pw_r2_2147483579 (sw_lv (E' := pw_E (nI b) e (nI 1) 0 (nI 30)) rfl g2)
end PWL
def zPM (m : Int32) : Bool := sx_ie m 2147483647 || (sx_ie m 2147483629 || (sx_ie m 2147483587 || sx_ie m 2147483579))
def zPW (y : Nat) (m : Int32) : Bool := ((y == 43) || (y == 353)) && zPM m
theorem zPW_s (RO : am_O) (sa : Nat → Nat) : sz_PW (aP (fun i => i)) RO sa zPW := by
  intro z m h b e M sz sl Q hb hm hQ
  obtain ⟨j, hj, rfl⟩ := nI_of (x := b) (by rw [Int32.lt_iff_toInt_lt]; rw [Int32.le_iff_toInt_le] at hb; omega)
  unfold zPW zPM at h
  simp only [Bool.and_eq_true, Bool.or_eq_true] at h
  obtain ⟨h1, h2⟩ := h
  rcases h1 with h1 | h1
  · rw [eq_of_beq h1]
    rcases h2 with h2 | h2 | h2 | h2
    · rw [sx_ie_s h2] at hQ ⊢
      exact pw_c_2147483647 hj e hQ
    · rw [sx_ie_s h2] at hQ ⊢
      exact pw_c_2147483629 hj e hQ
    · rw [sx_ie_s h2] at hQ ⊢
      exact pw_c_2147483587 hj e hQ
    · rw [sx_ie_s h2] at hQ ⊢
      exact pw_c_2147483579 hj e hQ
  · rw [eq_of_beq h1]
    rcases h2 with h2 | h2 | h2 | h2
    · rw [sx_ie_s h2] at hQ ⊢
      exact pw_r_2147483647 hj e hQ
    · rw [sx_ie_s h2] at hQ ⊢
      exact pw_r_2147483629 hj e hQ
    · rw [sx_ie_s h2] at hQ ⊢
      exact pw_r_2147483587 hj e hQ
    · rw [sx_ie_s h2] at hQ ⊢
      exact pw_r_2147483579 hj e hQ
