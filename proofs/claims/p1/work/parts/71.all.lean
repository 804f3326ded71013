/-! every script -/
theorem so_all {E : sx_E} {RO : am_O} {sa : Nat → Nat} (h1 : sx_ok E (sx_rt0 7) RO sa) : zz_G RO sa E := by
  obtain ⟨r1, r2⟩ := sx_and_r (E.2.2 0) 127 (by decide)
  by_cases h : E.2.2 0 &&& 127 < 67
  · obtain ⟨k, hk, e⟩ : ∃ k : Nat, k < 67 ∧ E.2.2 0 &&& 127 = nI k := by
      obtain ⟨j, hj, e⟩ := nI_of (x := E.2.2 0 &&& 127) (by
        rw [Int32.lt_iff_toInt_lt]
        have e0 : (0 : Int32).toInt = 0 := rfl
        omega)
      refine ⟨j, ?_, e⟩
      rw [e, Int32.lt_iff_toInt_lt, nI_toInt hj] at h
      have e1 : (67 : Int32).toInt = 67 := rfl
      omega
    match k, hk, e with
    | 0, _, e => exact so_0 h1 e
    | 1, _, e => exact zz_easy h1 e sr_1
    | 2, _, e => exact zz_easy h1 e sr_2
    | 3, _, e => exact zz_easy h1 e sr_3
    | 4, _, e => exact so_4 h1 e
    | 5, _, e => exact so_5 h1 e
    | 6, _, e => exact so_6 h1 e
    | 7, _, e => exact so_7 h1 e
    | 8, _, e => exact so_8 h1 e
    | 9, _, e => exact so_9 h1 e
    | 10, _, e => exact so_10 h1 e
    | 11, _, e => exact so_11 h1 e
    | 12, _, e => exact so_12 h1 e
    | 13, _, e => exact so_13 h1 e
    | 14, _, e => exact so_14 h1 e
    | 15, _, e => exact zz_easy h1 e sr_15
    | 16, _, e => exact so_16 h1 e
    | 17, _, e => exact zz_easy h1 e sr_17
    | 18, _, e => exact zz_easy h1 e sr_18
    | 19, _, e => exact zz_easy h1 e sr_19
    | 20, _, e => exact zz_easy h1 e sr_20
    | 21, _, e => exact zz_easy h1 e sr_21
    | 22, _, e => exact zz_easy h1 e sr_22
    | 23, _, e => exact zz_easy h1 e sr_23
    | 24, _, e => exact zz_easy h1 e sr_24
    | 25, _, e => exact zz_easy h1 e sr_25
    | 26, _, e => exact zz_easy h1 e sr_26
    | 27, _, e => exact zz_easy h1 e sr_27
    | 28, _, e => exact zz_easy h1 e sr_28
    | 29, _, e => exact zz_easy h1 e sr_29
    | 30, _, e => exact zz_easy h1 e sr_30
    | 31, _, e => exact zz_easy h1 e sr_31
    | 32, _, e => exact zz_easy h1 e sr_32
    | 33, _, e => exact zz_easy h1 e sr_33
    | 34, _, e => exact zz_easy h1 e sr_34
    | 35, _, e => exact zz_easy h1 e sr_35
    | 36, _, e => exact zz_easy h1 e sr_36
    | 37, _, e => exact zz_easy h1 e sr_37
    | 38, _, e => exact zz_easy h1 e sr_38
    | 39, _, e => exact zz_easy h1 e sr_39
    | 40, _, e => exact zz_easy h1 e sr_40
    | 41, _, e => exact zz_easy h1 e sr_41
    | 42, _, e => exact zz_easy h1 e sr_42
    | 43, _, e => exact zz_easy h1 e sr_43
    | 44, _, e => exact zz_easy h1 e sr_44
    | 45, _, e => exact zz_easy h1 e sr_45
    | 46, _, e => exact zz_easy h1 e sr_46
    | 47, _, e => exact zz_easy h1 e sr_47
    | 48, _, e => exact zz_easy h1 e sr_48
    | 49, _, e => exact zz_easy h1 e sr_49
    | 50, _, e => exact zz_easy h1 e sr_50
    | 51, _, e => exact zz_easy h1 e sr_51
    | 52, _, e => exact zz_easy h1 e sr_52
    | 53, _, e => exact zz_easy h1 e sr_53
    | 54, _, e => exact zz_easy h1 e sr_54
    | 55, _, e => exact zz_easy h1 e sr_55
    | 56, _, e => exact zz_easy h1 e sr_56
    | 57, _, e => exact zz_easy h1 e sr_57
    | 58, _, e => exact zz_easy h1 e sr_58
    | 59, _, e => exact zz_easy h1 e sr_59
    | 60, _, e => exact zz_easy h1 e sr_60
    | 61, _, e => exact zz_easy h1 e sr_61
    | 62, _, e => exact zz_easy h1 e sr_62
    | 63, _, e => exact zz_easy h1 e sr_63
    | 64, _, e => exact zz_easy h1 e sr_64
    | 65, _, e => exact so_65 h1 e
    | 66, _, e => exact so_66 h1 e
    | k + 67, hk, _ => omega
  · exact ⟨E.2.2, fun _ _ => rfl, zz_w (cs := [(false, 0, sy_x0, .int 67)]) (pw_cons (zq_lf h) pw_nil) (sy_Ok_run aMt_s aIns_s h1 sx_fin0_s sr_d)⟩
theorem zz_c0 {E : sx_E} {RO : am_O} {sa : Nat → Nat} {Q : am_Q} (hs : ∀ a, E.2.1 (a + 1) = sa a) (g : sx_Ok (aP (fun i => i)) RO sa E Q sc_8) : sx_Ok (aP (fun i => i)) RO sa E Q sc_0 := by
  have h0 : sx_ok E (fun _ => none) RO sa := ⟨fun k n g hk => (by cases hk), hs⟩
  exact sy_Ok_to aMt_s aIns_s h0 sg_1 (sy_Ok_to aMt_s aIns_s h0 sg_2 (sy_Ok_to aMt_s aIns_s h0 sg_3 (sy_Ok_to aMt_s aIns_s h0 sg_4 (sy_Ok_to aMt_s aIns_s h0 sg_5 (sy_Ok_to aMt_s aIns_s h0 sg_6 (sy_Ok_to aMt_s aIns_s h0 sg_7 (sy_Ok_to aMt_s aIns_s h0 sg_8 g)))))))
theorem so_L {E : sx_E} {RO : am_O} {sa : Nat → Nat} {L : Nat} (hL : L ≤ 7) (h1 : sx_ok E (sx_rt0 L) RO sa) : zz_G RO sa E := by
  match L, hL, h1 with
  | 0, _, h1 => exact ⟨E.2.2, fun _ _ => rfl, sy_Ok_run aMt_s aIns_s h1 sx_fin0_s sr_L0⟩
  | 1, _, h1 => exact ⟨E.2.2, fun _ _ => rfl, sy_Ok_run aMt_s aIns_s h1 sx_fin0_s sr_L1⟩
  | 2, _, h1 => exact ⟨E.2.2, fun _ _ => rfl, sy_Ok_run aMt_s aIns_s h1 sx_fin0_s sr_L2⟩
  | 3, _, h1 => exact ⟨E.2.2, fun _ _ => rfl, sy_Ok_run aMt_s aIns_s h1 sx_fin0_s sr_L3⟩
  | 4, _, h1 => exact ⟨E.2.2, fun _ _ => rfl, sy_Ok_run aMt_s aIns_s h1 sx_fin0_s sr_L4⟩
  | 5, _, h1 => exact ⟨E.2.2, fun _ _ => rfl, sy_Ok_run aMt_s aIns_s h1 sx_fin0_s sr_L5⟩
  | 6, _, h1 => exact ⟨E.2.2, fun _ _ => rfl, sy_Ok_run aMt_s aIns_s h1 sx_fin0_s sr_L6⟩
  | 7, _, h1 => exact so_all h1
  | L + 8, hL, _ => omega
theorem a_run : aRun := by
  intro b L sz xs sa RO hL hb hR l0 q0 l1 q1 l2 q2
  have hok : sx_ok (sx_env sz b sa xs) (sx_rt0 L) RO sa := by
    refine ⟨fun k n g hk => ?_, fun a => rfl⟩
    match k, hk with
    | 0, hk =>
      cases hk
      exact ⟨hb, xs, hR, fun j _ => rfl⟩
    | 1, hk =>
      cases hk
      exact ⟨l0, aV_0, q0, fun j _ => rfl⟩
    | 2, hk =>
      cases hk
      exact ⟨l1, aV_1, q1, fun j _ => rfl⟩
    | 3, hk =>
      cases hk
      exact ⟨l2, aV_2, q2, fun j _ => rfl⟩
    | k + 4, hk => cases hk
  obtain ⟨ys, -, g0⟩ := so_L hL hok
  have g1 := zz_c0 (E := ((sx_env sz b sa xs).1, (sx_env sz b sa xs).2.1, ys)) (fun a => rfl) g0
  obtain ⟨k, g⟩ := g1 rfl (fun q hq => by cases hq)
  have e : sx_mem ((sx_env sz b sa xs).1, (sx_env sz b sa xs).2.1, ys) sc_0_m = fun _ => none := by
    funext q
    unfold sx_mem
    split <;> rfl
  rw [← sx_aP, e] at g
  obtain ⟨v, M', z', l', g1, ⟨rfl, g2, g3⟩, -, -⟩ := am_det _ _ _ _ _ _ _ _ _ g
  exact ⟨k, M', z', l', g1, g2, g3⟩
