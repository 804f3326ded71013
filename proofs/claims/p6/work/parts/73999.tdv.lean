/-! TC: ints divisible by 4; rows told by two; what is given in the second place -/
/-- an int is divisible by 4 -/
def dv_p (RO : am_O) (κ : Nat → Option Nat) (M : am_H) (as : List Nat) (is : List Int) : Prop := match is with
  | [x] => ∃ q : Int, x = 4 * q
  | _ => False
def dv_a : ga_S := (dv_p, [])
theorem dv_a_ok : ga_ok dv_a := by
  intro RO κ κ' M M' as is h1 h2 h3 h4
  exact h4
theorem dv_at {l : List ga_S} {t : Nat} (h : l[t]? = some dv_a) {RO : am_O} {κ : Nat → Option Nat} {M : am_H} {V : Nat → Int} {A : Nat → Nat} {f : tl_F} : tc_xq (tg_of l) RO κ M V A (8 * t, [], [f]) ↔ ∃ q : Int, tl_v V f = 4 * q := by
  rw [tg_at0 h]
  exact Iff.rfl
theorem dv_e3 {V : Nat → Int} (i j k : Nat) (c e g d : Int) : tl_v V ([(i, c), (j, e), (k, g)], d) = c * V i + e * V j + g * V k + d := by
  simp [tl_v, tl_s]
  omega
/-- an int by a quotient and a rest: names 0 the int, 1 the quotient, 2 the rest -/
def dv_q : tc_Lm := ((1, 0), ([], [], [], [], [], [], []), (3, 0), ([([(0, 1), (1, -4), (2, -1)], 0), ([(0, -1), (1, 4), (2, 1)], 0), ql_n 2, ([(2, -1)], 3)], [], [], [], [], [], []))
theorem dv_q_ok {Γ : tg_G} {RO : am_O} {T : tk_T} : tc_lmt Γ RO T dv_q := by
  intro V A κ M sz hH hsz hx
  refine ⟨fun k => if k = 1 then V 0 / 4 else if k = 2 then V 0 % 4 else V k, A, fun k hk => ?_, fun _ _ => rfl, ?_⟩
  · have hk : k < 1 := hk
    have : k = 0 := by omega
    subst this
    rfl
  refine ⟨fun f hf => ?_, fun _ q => (List.not_mem_nil q).elim, fun _ q => (List.not_mem_nil q).elim, fun _ q => (List.not_mem_nil q).elim, fun _ q => (List.not_mem_nil q).elim, fun _ q => (List.not_mem_nil q).elim, trivial, fun _ q => (List.not_mem_nil q).elim⟩
  rcases List.mem_cons.mp hf with rfl | hf
  · rw [dv_e3]
    simp
    omega
  rcases List.mem_cons.mp hf with rfl | hf
  · rw [dv_e3]
    simp
    omega
  rcases List.mem_cons.mp hf with rfl | hf
  · rw [ql_n_s]
    simp
    omega
  rcases List.mem_cons.mp hf with rfl | hf
  · simp [tl_v, tl_s]
    omega
  · cases hf
/-- four times an int: names 0 what, 1 a quarter of it -/
def dv_mk (t : Nat) : tc_Lm := ((2, 0), ([([(0, 1), (1, -4)], 0), ([(1, 4), (0, -1)], 0)], [], [], [], [], [], []), (2, 0), ([], [], [], [], [], [], [(8 * t, [], [ql_n 0])]))
theorem dv_mk_ok {l : List ga_S} {t : Nat} (h : l[t]? = some dv_a) {RO : am_O} {T : tk_T} : tc_lmt (tg_of l) RO T (dv_mk t) := by
  intro V A κ M sz hH hsz hx
  refine ⟨V, A, fun _ _ => rfl, fun _ _ => rfl, ?_⟩
  have f0 := hx.1 _ List.mem_cons_self
  have f1 := hx.1 _ (List.mem_cons_of_mem _ List.mem_cons_self)
  rw [sg_e2] at f0 f1
  refine ⟨fun _ q => (List.not_mem_nil q).elim, fun _ q => (List.not_mem_nil q).elim, fun _ q => (List.not_mem_nil q).elim, fun _ q => (List.not_mem_nil q).elim, fun _ q => (List.not_mem_nil q).elim, fun _ q => (List.not_mem_nil q).elim, trivial, fun p hp => ?_⟩
  rcases List.mem_cons.mp hp with rfl | hp
  · refine (dv_at h).mpr ⟨V 1, ?_⟩
    rw [ql_n_s]
    omega
  · cases hp
/-- what differs from it by four times an int: names 0 what, 1 the other, 2 a quarter of the difference -/
def dv_add (t : Nat) : tc_Lm := ((3, 0), ([([(1, 1), (0, -1), (2, -4)], 0), ([(0, 1), (2, 4), (1, -1)], 0)], [], [], [], [], [], [(8 * t, [], [ql_n 0])]), (3, 0), ([], [], [], [], [], [], [(8 * t, [], [ql_n 1])]))
theorem dv_add_ok {l : List ga_S} {t : Nat} (h : l[t]? = some dv_a) {RO : am_O} {T : tk_T} : tc_lmt (tg_of l) RO T (dv_add t) := by
  intro V A κ M sz hH hsz hx
  refine ⟨V, A, fun _ _ => rfl, fun _ _ => rfl, ?_⟩
  have f0 := hx.1 _ List.mem_cons_self
  have f1 := hx.1 _ (List.mem_cons_of_mem _ List.mem_cons_self)
  rw [dv_e3] at f0 f1
  obtain ⟨q, g8⟩ := (dv_at h).mp (hx.2.2.2.2.2.2.2 _ List.mem_cons_self)
  rw [ql_n_s] at g8
  refine ⟨fun _ q => (List.not_mem_nil q).elim, fun _ q => (List.not_mem_nil q).elim, fun _ q => (List.not_mem_nil q).elim, fun _ q => (List.not_mem_nil q).elim, fun _ q => (List.not_mem_nil q).elim, fun _ q => (List.not_mem_nil q).elim, trivial, fun p hp => ?_⟩
  rcases List.mem_cons.mp hp with rfl | hp
  · refine (dv_at h).mpr ⟨q + V 2, ?_⟩
    rw [ql_n_s]
    omega
  · cases hp
/-- above 0 it is 4 or more -/
def dv_le (t : Nat) : tc_Lm := ((1, 0), ([([(0, 1)], -1)], [], [], [], [], [], [(8 * t, [], [ql_n 0])]), (1, 0), ([([(0, 1)], -4)], [], [], [], [], [], []))
theorem dv_le_ok {l : List ga_S} {t : Nat} (h : l[t]? = some dv_a) {RO : am_O} {T : tk_T} : tc_lmt (tg_of l) RO T (dv_le t) := by
  intro V A κ M sz hH hsz hx
  refine ⟨V, A, fun _ _ => rfl, fun _ _ => rfl, ?_⟩
  have f0 := hx.1 _ List.mem_cons_self
  have e : ∀ c : Int, tl_v V ([(0, 1)], c) = V 0 + c := fun c => by simp [tl_v, tl_s]
  rw [e] at f0
  obtain ⟨q, g8⟩ := (dv_at h).mp (hx.2.2.2.2.2.2.2 _ List.mem_cons_self)
  rw [ql_n_s] at g8
  refine ⟨fun f hf => ?_, fun _ q => (List.not_mem_nil q).elim, fun _ q => (List.not_mem_nil q).elim, fun _ q => (List.not_mem_nil q).elim, fun _ q => (List.not_mem_nil q).elim, fun _ q => (List.not_mem_nil q).elim, trivial, fun _ q => (List.not_mem_nil q).elim⟩
  rcases List.mem_cons.mp hf with rfl | hf
  · rw [e]
    omega
  · cases hf
/-- what is given in the second place may be better: names 0 before, 1 now -/
theorem kn_mono2_ok {l : List ga_S} {t : Nat} {S : kn_S} {S1 : ql_S} {d0 d : Int} {c : Bool} {RO : am_O} {T : tk_T} (h : l[t]? = some (kn_a S (ql_a S1))) (h1 : S1.2.1 = [d0, d]) (h3 : S.2.2.length = 4) : tc_lmt (tg_of l) RO T (kn_mono t d c) := by
  intro V A κ M sz hH hsz hx
  refine ⟨V, A, fun _ _ => rfl, fun _ _ => rfl, ?_⟩
  obtain ⟨x1, x2, x3, x4, x5, x6, x7, x8⟩ := hx
  have g8 := (kn_at_s h).mp (x8 _ List.mem_cons_self)
  have f0 := x1 _ List.mem_cons_self
  rw [sg_e2] at f0
  refine ⟨fun _ q => (List.not_mem_nil q).elim, fun _ q => (List.not_mem_nil q).elim, fun _ q => (List.not_mem_nil q).elim, fun _ q => (List.not_mem_nil q).elim, fun _ q => (List.not_mem_nil q).elim, fun _ q => (List.not_mem_nil q).elim, trivial, fun p hp => ?_⟩
  rcases List.mem_cons.mp hp with rfl | hp
  · refine (kn_at_s h).mpr (fun o ho hna => ?_)
    obtain ⟨ci, vs, bs, xs, e1, e3, e4, e5⟩ := g8 o ho hna
    refine ⟨ci, vs, bs, xs, e1, e3, e4, ?_⟩
    have hl := kn_ts3 e4
    rw [h3] at hl
    match xs, hl with
    | [L, H, X, y], _ =>
      have e5 : ql_p S1 RO κ M bs [L, H, X, y, tl_v V (ql_n 0)] := e5
      show ql_p S1 RO κ M bs [L, H, X, y, tl_v V (ql_n 1)]
      unfold ql_p at e5 ⊢
      dsimp only at e5 ⊢
      refine ⟨e5.1, fun s q1 q2 q3 => ?_⟩
      have g3 := e5.2 s q1 q2 q3
      rw [h1, ql_n_s] at g3 ⊢
      simp only [ql_dot] at g3 ⊢
      rw [Int.neg_mul] at f0
      omega
  · cases hp
/-- an address is put into a thing that is out: names 0 the thing, 1 what -/
def kn_w3 (t j e K : Nat) : tc_Lm := ((e, 2), ([], [(0, K)], [], [], [], [], [(8 * t, [0], kn_ex 0 e)]), (e, 2), ([], [], [], [], [], [], [(8 * t + 3, [0, 1, 0], tl_c (j : Int) :: kn_ex 0 e)]))
theorem kn_w3_ok {l : List ga_S} {t j : Nat} {S : kn_S} {g : ga_S} {e : Nat} {RO : am_O} {T : tk_T} (h : l[t]? = some (kn_a S g)) (hg : ga_ok g) (hn : ∀ p ∈ g.2, p.1 ≠ S.1) : tc_lmt (tg_of l) RO T (kn_w3 t j e S.1) := by
  intro V A κ M sz hH hsz hx
  refine ⟨V, A, fun _ _ => rfl, fun _ _ => rfl, ?_⟩
  obtain ⟨h1, h2, h3, h4, h5, h6, h7, h8⟩ := hx
  have g8 := (kn_at_s h).mp (h8 _ List.mem_cons_self)
  have hk := h2 _ List.mem_cons_self
  refine ⟨fun _ q => (List.not_mem_nil q).elim, fun _ q => (List.not_mem_nil q).elim, fun _ q => (List.not_mem_nil q).elim, fun _ q => (List.not_mem_nil q).elim, fun _ q => (List.not_mem_nil q).elim, fun _ q => (List.not_mem_nil q).elim, trivial, fun p hp => ?_⟩
  rcases List.mem_cons.mp hp with rfl | hp
  · unfold tc_xq tg_q
    have e : (8 * t + 3) % 8 = 3 := by omega
    have e2 : (8 * t + 3) / 8 = t := by omega
    dsimp only
    rw [e, e2]
    simp only [List.map_cons, List.map_nil]
    intro ci vs hM
    rw [tg_of_s h]
    intro o ho hna
    have hne : o ≠ A 0 := fun q => hna (List.mem_singleton.mpr q)
    refine kn_o_m (fun b k1 hb => hb) (fun ci vs q => ⟨vs, (am_ne hne).trans q, fun _ _ => rfl⟩) (fun b n _ hl => tk_len_obj hM b n hl) (fun ci' vs' bs xs _ _ q => hg RO κ κ M _ bs xs (fun b k1 hb => hb) (fun b k1 p1 p2 => ?_) (fun b k1 hb => ?_) q) (g8 o ho hna)
    · rw [p1] at p2
      cases p2
    · by_cases q2 : b = A 0
      · subst q2
        rw [am_same, hM]
        have hk : κ (A 0) = some S.1 := hk
        rw [hk] at hb
        cases hb
        refine ⟨fun ci2 vs2 q3 => ?_, fun t2 x2 q3 => ?_, fun q3 => ?_⟩
        · cases q3
          exact ⟨_, rfl, fun j2 hj2 => absurd rfl (hn _ hj2)⟩
        · cases q3
        · cases q3
      · rw [am_ne q2]
        exact tg_kp_refl _ _ _
  · cases hp
/-- ends of stretches, each behind its start, out of a row that is all 0: told by two -/
def ql_two (t0 t3 t2 n : Nat) : tc_Lm := ((0, 1), ([], [], [], [], [], [], [(8 * t0, [0], [tl_c 0, tl_c (2 * n), nn_m, tl_c 0]), (8 * t3, [0], [tl_c 0, tl_c (2 * n), nn_m])]), (0, 1), ([], [], [], [], [], [], [(8 * t2, [0, 0], [tl_c 0, tl_c n, nn_m])]))
theorem ql_two_ok {l : List ga_S} {t0 t3 t2 k n : Nat} {RO : am_O} {T : tk_T} (h0 : l[t0]? = some (ql_a ([(k, 1, 0, -1)], [1], 0))) (h3 : l[t3]? = some (ql_a ([(k, 1, 0, 1)], [], 0))) (h2 : l[t2]? = some (ql_a ([(k, 2, 1, 1), (k, 2, 0, -1)], [], 0))) : tc_lmt (tg_of l) RO T (ql_two t0 t3 t2 n) := by
  intro V A κ M sz hH hsz hx
  refine ⟨V, A, fun _ _ => rfl, fun _ _ => rfl, ?_⟩
  have g0 := (tg_at0 h0).mp (hx.2.2.2.2.2.2.2 _ List.mem_cons_self)
  have g3 := (tg_at0 h3).mp (hx.2.2.2.2.2.2.2 _ (List.mem_cons_of_mem _ List.mem_cons_self))
  refine ⟨fun _ q => (List.not_mem_nil q).elim, fun _ q => (List.not_mem_nil q).elim, fun _ q => (List.not_mem_nil q).elim, fun _ q => (List.not_mem_nil q).elim, fun _ q => (List.not_mem_nil q).elim, fun _ q => (List.not_mem_nil q).elim, trivial, fun p hp => ?_⟩
  rcases List.mem_cons.mp hp with rfl | hp
  · refine (tg_at0 h2).mpr ?_
    have g0 : ql_p ([(k, 1, 0, -1)], [1], 0) RO κ M [A 0] [tl_v V (tl_c 0), tl_v V (tl_c (2 * n)), tl_v V nn_m, tl_v V (tl_c 0)] := g0
    have g3 : ql_p ([(k, 1, 0, 1)], [], 0) RO κ M [A 0] [tl_v V (tl_c 0), tl_v V (tl_c (2 * n)), tl_v V nn_m] := g3
    show ql_p ([(k, 2, 1, 1), (k, 2, 0, -1)], [], 0) RO κ M [A 0, A 0] [tl_v V (tl_c 0), tl_v V (tl_c n), tl_v V nn_m]
    unfold ql_p at g0 g3 ⊢
    dsimp only at g0 g3 ⊢
    have hm : tl_v V nn_m = -1 := by simp [nn_m, tl_v, tl_s]
    rw [tl_c_s, tl_c_s, hm] at g0 g3
    rw [tl_c_s, tl_c_s, hm]
    refine ⟨⟨g0.1.1, g0.1.1, trivial⟩, fun s q1 q2 q3 => ?_⟩
    have a0 := g0.2 (2 * s) (by omega) (by omega) (by omega)
    have a3 := g3.2 (2 * s + 1) (by omega) (by omega) (by omega)
    simp only [ql_sum, ql_dot, Nat.one_mul, Nat.add_zero] at a0 a3 ⊢
    omega
  · cases hp
/-- a row's elements 6 and 7 are some fours apart -/
def m4_p (k : Nat) (RO : am_O) (κ : Nat → Option Nat) (M : am_H) (as : List Nat) (is : List Int) : Prop := match as, is with
  | [a], [] => κ a = some k ∧ ∃ q : Int, ql_el RO M a 7 - ql_el RO M a 6 = 4 * q
  | _, _ => False
def m4_a (k : Nat) : ga_S := (m4_p k, [(k, 0)])
theorem m4_a_ok (k : Nat) : ga_ok (m4_a k) := by
  intro RO κ κ' M M' as is h1 h2 h3 h4
  unfold m4_a m4_p at h4 ⊢
  dsimp only at h4 ⊢
  split
  · rename_i a
    dsimp only at h4
    obtain ⟨g1, q, g2⟩ := h4
    refine ⟨h1 _ _ g1, q, ?_⟩
    rw [ql_el_k (h3 a k g1) List.mem_cons_self, ql_el_k (h3 a k g1) List.mem_cons_self]
    exact g2
  · rename_i hn
    split at h4
    · exact (hn _ rfl rfl).elim
    · exact h4
theorem m4_lc (k : Nat) : ga_lc (m4_a k) := by
  intro RO κ M bs is a e hb g
  unfold m4_a m4_p at g ⊢
  dsimp only at g ⊢
  split
  · rename_i b
    dsimp only at g
    obtain ⟨g1, q, g2⟩ := g
    refine ⟨g1, q, ?_⟩
    have e6 : ∀ i, ql_el RO (am_set M a e) b i = ql_el RO M b i := fun i => by
      unfold ql_el
      rw [am_ne (hb _ List.mem_cons_self)]
    rw [e6, e6]
    exact g2
  · rename_i hn
    split at g
    · exact (hn _ rfl rfl).elim
    · exact g
theorem m4_at {l : List ga_S} {t k : Nat} (h : l[t]? = some (m4_a k)) {RO : am_O} {κ : Nat → Option Nat} {M : am_H} {V : Nat → Int} {A : Nat → Nat} {a : Nat} : tc_xq (tg_of l) RO κ M V A (8 * t, [a], []) ↔ (κ (A a) = some k ∧ ∃ q : Int, ql_el RO M (A a) 7 - ql_el RO M (A a) 6 = 4 * q) := by
  rw [tg_at0 h]
  exact Iff.rfl
/-- of a row that is just being made -/
def m4_new (t k : Nat) : tc_Lm := ((0, 0), ([], [], [], [], [], [], []), (0, 0), ([], [], [], [], [], [], [(8 * t + 7, [], [tl_c (k : Int)])]))
theorem m4_new_ok {l : List ga_S} {t k : Nat} {RO : am_O} {T : tk_T} (h : l[t]? = some (m4_a k)) : tc_lmt (tg_of l) RO T (m4_new t k) := by
  intro V A κ M sz hH hsz hx
  refine ⟨V, A, fun _ _ => rfl, fun _ _ => rfl, ?_⟩
  refine ⟨fun _ q => (List.not_mem_nil q).elim, fun _ q => (List.not_mem_nil q).elim, fun _ q => (List.not_mem_nil q).elim, fun _ q => (List.not_mem_nil q).elim, fun _ q => (List.not_mem_nil q).elim, fun _ q => (List.not_mem_nil q).elim, trivial, fun p hp => ?_⟩
  rcases List.mem_cons.mp hp with rfl | hp
  · unfold tc_xq tg_q
    have e : (8 * t + 7) % 8 = 7 := by omega
    have e2 : (8 * t + 7) / 8 = t := by omega
    dsimp only
    rw [e, e2]
    simp only [List.map_cons, List.map_nil]
    rw [tl_c_s, Int.toNat_natCast]
    intro a κ' M' q0 q1 qz q2 q3
    rw [tg_of_s h]
    show κ' a = some k ∧ ∃ q : Int, ql_el RO M' a 7 - ql_el RO M' a 6 = 4 * q
    rw [ql_el_z qz, ql_el_z qz]
    exact ⟨q1, 0, rfl⟩
  · cases hp
/-- used: names 0 element 6, 1 element 7; 0 the row -/
def m4_use (t u : Nat) : tc_Lm := ((2, 1), ([], [], [], [], [(0, tl_c 6, ql_n 0), (0, tl_c 7, ql_n 1)], [], [(8 * t, [0], [])]), (2, 1), ([], [], [], [], [], [], [(8 * u, [], [([(1, 1), (0, -1)], 0)])]))
theorem m4_use_ok {l : List ga_S} {t u k : Nat} {RO : am_O} {T : tk_T} (h : l[t]? = some (m4_a k)) (hu : l[u]? = some dv_a) : tc_lmt (tg_of l) RO T (m4_use t u) := by
  intro V A κ M sz hH hsz hx
  refine ⟨V, A, fun _ _ => rfl, fun _ _ => rfl, ?_⟩
  obtain ⟨h1, h2, h3, h4, h5, h6, h7, h8⟩ := hx
  obtain ⟨g0, q, g1⟩ := (m4_at h).mp (h8 _ List.mem_cons_self)
  obtain ⟨j0, j1, j2⟩ := ql_xe (h5 _ List.mem_cons_self)
  obtain ⟨i0, i1, i2⟩ := ql_xe (h5 _ (List.mem_cons_of_mem _ List.mem_cons_self))
  dsimp only at j1 j2 i1 i2
  rw [tl_c_s] at j1 i1
  rw [ql_n_s] at j2 i2
  have hj : j0 = 6 := by omega
  have hi : i0 = 7 := by omega
  subst hj
  subst hi
  refine ⟨fun _ q => (List.not_mem_nil q).elim, fun _ q => (List.not_mem_nil q).elim, fun _ q => (List.not_mem_nil q).elim, fun _ q => (List.not_mem_nil q).elim, fun _ q => (List.not_mem_nil q).elim, fun _ q => (List.not_mem_nil q).elim, trivial, fun p hp => ?_⟩
  rcases List.mem_cons.mp hp with rfl | hp
  · refine (dv_at hu).mpr ⟨q, ?_⟩
    rw [sg_e2]
    omega
  · cases hp
/-- told: names 0 element 6, 1 element 7, 2 how far they are apart; 0 the row -/
def m4_mk (t u k : Nat) : tc_Lm := ((3, 1), ([([(2, 1), (1, -1), (0, 1)], 0), ([(1, 1), (0, -1), (2, -1)], 0)], [(0, k)], [], [], [(0, tl_c 6, ql_n 0), (0, tl_c 7, ql_n 1)], [], [(8 * u, [], [ql_n 2])]), (3, 1), ([], [], [], [], [], [], [(8 * t, [0], [])]))
theorem m4_mk_ok {l : List ga_S} {t u k : Nat} {RO : am_O} {T : tk_T} (h : l[t]? = some (m4_a k)) (hu : l[u]? = some dv_a) : tc_lmt (tg_of l) RO T (m4_mk t u k) := by
  intro V A κ M sz hH hsz hx
  refine ⟨V, A, fun _ _ => rfl, fun _ _ => rfl, ?_⟩
  obtain ⟨h1, h2, h3, h4, h5, h6, h7, h8⟩ := hx
  have f0 := h1 _ List.mem_cons_self
  have f1 := h1 _ (List.mem_cons_of_mem _ List.mem_cons_self)
  rw [dv_e3] at f0 f1
  have hk : κ (A 0) = some k := h2 _ List.mem_cons_self
  obtain ⟨q, g1⟩ := (dv_at hu).mp (h8 _ List.mem_cons_self)
  rw [ql_n_s] at g1
  obtain ⟨j0, j1, j2⟩ := ql_xe (h5 _ List.mem_cons_self)
  obtain ⟨i0, i1, i2⟩ := ql_xe (h5 _ (List.mem_cons_of_mem _ List.mem_cons_self))
  dsimp only at j1 j2 i1 i2
  rw [tl_c_s] at j1 i1
  rw [ql_n_s] at j2 i2
  have hj : j0 = 6 := by omega
  have hi : i0 = 7 := by omega
  subst hj
  subst hi
  refine ⟨fun _ q => (List.not_mem_nil q).elim, fun _ q => (List.not_mem_nil q).elim, fun _ q => (List.not_mem_nil q).elim, fun _ q => (List.not_mem_nil q).elim, fun _ q => (List.not_mem_nil q).elim, fun _ q => (List.not_mem_nil q).elim, trivial, fun p hp => ?_⟩
  rcases List.mem_cons.mp hp with rfl | hp
  · exact (m4_at h).mpr ⟨hk, q, by omega⟩
  · cases hp
/-- a store elsewhere: names 0 where, 1 what; w: behind or ahead of both -/
def m4_w1 (t : Nat) (w : Bool) : tc_Lm := ((2, 1), ([ql_n 0, if w then ([(0, 1)], -8) else ([(0, -1)], 5)], [], [], [], [], [], [(8 * t, [0], [])]), (2, 1), ([], [], [], [], [], [], [(8 * t + 1, [0, 0], [ql_n 0, ql_n 1])]))
theorem m4_w1_ok {l : List ga_S} {t k : Nat} {w : Bool} {RO : am_O} {T : tk_T} (h : l[t]? = some (m4_a k)) : tc_lmt (tg_of l) RO T (m4_w1 t w) := by
  intro V A κ M sz hH hsz hx
  refine ⟨V, A, fun _ _ => rfl, fun _ _ => rfl, ?_⟩
  obtain ⟨h1, h2, h3, h4, h5, h6, h7, h8⟩ := hx
  obtain ⟨g0, q, g1⟩ := (m4_at h).mp (h8 _ List.mem_cons_self)
  have f0 := h1 _ List.mem_cons_self
  have f1 := h1 _ (List.mem_cons_of_mem _ List.mem_cons_self)
  rw [ql_n_s] at f0
  have f2 : V 0 ≤ 5 ∨ 8 ≤ V 0 := by
    cases w
    · left
      simp [tl_v, tl_s] at f1
      omega
    · right
      simp [tl_v, tl_s] at f1
      omega
  refine ⟨fun _ q => (List.not_mem_nil q).elim, fun _ q => (List.not_mem_nil q).elim, fun _ q => (List.not_mem_nil q).elim, fun _ q => (List.not_mem_nil q).elim, fun _ q => (List.not_mem_nil q).elim, fun _ q => (List.not_mem_nil q).elim, trivial, fun p hp => ?_⟩
  rcases List.mem_cons.mp hp with rfl | hp
  · unfold tc_xq tg_q
    have e : (8 * t + 1) % 8 = 1 := by omega
    have e2 : (8 * t + 1) / 8 = t := by omega
    dsimp only
    rw [e, e2]
    simp only [List.map_cons, List.map_nil]
    intro ty n' f' x hM hxv
    rw [tg_of_s h]
    show κ (A 0) = some k ∧ ∃ q : Int, ql_el RO _ (A 0) 7 - ql_el RO _ (A 0) 6 = 4 * q
    refine ⟨g0, q, ?_⟩
    rw [ql_n_s, ql_el_s hM (by right; omega), ql_el_s hM (by right; omega)]
    exact g1
  · cases hp
/-- what holds of all things of a kind but of whose field j is a certain row -/
def kr_p (S : kn_S) (g : ga_S) (j k : Nat) (RO : am_O) (κ : Nat → Option Nat) (M : am_H) (as : List Nat) (is : List Int) : Prop := match as with
  | [a] => κ a = some k ∧ ∀ o, κ o = some S.1 → (∀ ci vs, M o = some (.inr (ci, vs)) → vs[j]? ≠ some (.ref a)) → kn_o S g RO κ M o is
  | _ => False
def kr_a (S : kn_S) (g : ga_S) (j k : Nat) : ga_S := (kr_p S g j k, kn_F S g)
theorem kr_a_ok {S : kn_S} {g : ga_S} {j k : Nat} (hj : (S.1, j) ∈ kn_F S g) (hg : ga_ok g) : ga_ok (kr_a S g j k) := by
  intro RO κ κ' M M' as is h1 h2 h3 h4
  unfold kr_a kr_p at h4 ⊢
  dsimp only at h4 ⊢
  split
  · rename_i a
    dsimp only at h4
    obtain ⟨g1, g2⟩ := h4
    refine ⟨h1 _ _ g1, fun o ho hn => ?_⟩
    have e := un_old List.mem_cons_self h1 h2 ho
    refine kn_o_m h1 (fun ci vs q => (h3 o _ e).1 ci vs q) (fun b n ⟨k, hk⟩ hl => tg_kp_len (h3 b k hk) hl) (fun ci vs bs xs _ _ q => hg RO κ κ' M M' bs xs h1 (fun a k q1 q2 q3 => h2 a k q1 q2 (kn_Fg _ q3)) (fun a k hk => tg_kp_le kn_Fg (h3 a k hk)) q) (g2 o e (fun ci vs q r => ?_))
    obtain ⟨vs', r1, r2⟩ := (h3 o _ e).1 ci vs q
    exact hn ci vs' r1 ((r2 j hj).trans r)
  · rename_i hn
    split at h4
    · exact (hn _ rfl).elim
    · exact h4
theorem kr_at {l : List ga_S} {t j k : Nat} {S : kn_S} {g : ga_S} (h : l[t]? = some (kr_a S g j k)) {RO : am_O} {κ : Nat → Option Nat} {M : am_H} {V : Nat → Int} {A : Nat → Nat} {a : Nat} {fs : List tl_F} : tc_xq (tg_of l) RO κ M V A (8 * t, [a], fs) ↔ (κ (A a) = some k ∧ ∀ o, κ o = some S.1 → (∀ ci vs, M o = some (.inr (ci, vs)) → vs[j]? ≠ some (.ref (A a))) → kn_o S g RO κ M o (fs.map (tl_v V))) := by
  rw [tg_at0 h]
  exact Iff.rfl
/-- told by the row: names 0 the thing, 1 its row -/
def kr_from (t r j k e : Nat) : tc_Lm := ((e, 2), ([], [(1, k)], [], [(0, j, tv_a 1)], [], [], [(8 * t, [0], kn_ex 0 e)]), (e, 2), ([], [], [], [], [], [], [(8 * r, [1], kn_ex 0 e)]))
theorem kr_from_ok {l : List ga_S} {t r j k e : Nat} {S : kn_S} {g : ga_S} {RO : am_O} {T : tk_T} (h : l[t]? = some (kn_a S g)) (hr : l[r]? = some (kr_a S g j k)) : tc_lmt (tg_of l) RO T (kr_from t r j k e) := by
  intro V A κ M sz hH hsz hx
  refine ⟨V, A, fun _ _ => rfl, fun _ _ => rfl, ?_⟩
  obtain ⟨h1, h2, h3, h4, h5, h6, h7, h8⟩ := hx
  have g8 := (kn_at_s h).mp (h8 _ List.mem_cons_self)
  have hk : κ (A 1) = some k := h2 _ List.mem_cons_self
  refine ⟨fun _ q => (List.not_mem_nil q).elim, fun _ q => (List.not_mem_nil q).elim, fun _ q => (List.not_mem_nil q).elim, fun _ q => (List.not_mem_nil q).elim, fun _ q => (List.not_mem_nil q).elim, fun _ q => (List.not_mem_nil q).elim, trivial, fun p hp => ?_⟩
  rcases List.mem_cons.mp hp with rfl | hp
  · refine (kr_at hr).mpr ⟨hk, fun o ho hn => g8 o ho (fun q => ?_)⟩
    have q := List.mem_singleton.mp q
    subst q
    obtain ⟨ci, vs, v, m1, m2, m3⟩ := h4 _ List.mem_cons_self
    exact hn ci vs m1 (by rw [m2]; cases m3; rfl)
  · cases hp
/-- told by the thing again: names 0 the thing, 1 its row -/
def kr_to (t r u e : Nat) : tc_Lm := ((e, 2), ([], [], [], [], [], [], [(8 * r, [1], kn_ex 0 e), (8 * u, [0, 1], [])]), (e, 2), ([], [], [], [], [], [], [(8 * t, [0], kn_ex 0 e)]))
theorem kr_to_ok {l : List ga_S} {t r u j k e : Nat} {S : kn_S} {g : ga_S} {RO : am_O} {T : tk_T} (h : l[t]? = some (kn_a S g)) (hr : l[r]? = some (kr_a S g j k)) (hu : l[u]? = some (un_a S.1 j)) : tc_lmt (tg_of l) RO T (kr_to t r u e) := by
  intro V A κ M sz hH hsz hx
  refine ⟨V, A, fun _ _ => rfl, fun _ _ => rfl, ?_⟩
  obtain ⟨h1, h2, h3, h4, h5, h6, h7, h8⟩ := hx
  obtain ⟨-, g8⟩ := (kr_at hr).mp (h8 _ List.mem_cons_self)
  have g9 := (tg_at0 hu).mp (h8 _ (List.mem_cons_of_mem _ List.mem_cons_self))
  have g9 : ∀ o, κ o = some S.1 → o ≠ A 0 → ∀ ci vs, M o = some (.inr (ci, vs)) → vs[j]? ≠ some (.ref (A 1)) := g9
  refine ⟨fun _ q => (List.not_mem_nil q).elim, fun _ q => (List.not_mem_nil q).elim, fun _ q => (List.not_mem_nil q).elim, fun _ q => (List.not_mem_nil q).elim, fun _ q => (List.not_mem_nil q).elim, fun _ q => (List.not_mem_nil q).elim, trivial, fun p hp => ?_⟩
  rcases List.mem_cons.mp hp with rfl | hp
  · exact (kn_at_s h).mpr (fun o ho hna => g8 o ho (g9 o ho (fun q => hna (List.mem_singleton.mpr q))))
  · cases hp
/-- an int is stored into the row: names 0 where, 1 what; 0 the row -/
def kr_w1 (r k e : Nat) : tc_Lm := ((2 + e, 1), ([], [(0, k)], [], [], [], [], [(8 * r, [0], kn_ex 2 e)]), (2 + e, 1), ([], [], [], [], [], [], [(8 * r + 1, [0, 0], ql_n 0 :: ql_n 1 :: kn_ex 2 e)]))
theorem kr_w1_ok {l : List ga_S} {r j k e : Nat} {S : kn_S} {g : ga_S} {RO : am_O} {T : tk_T} (h : l[r]? = some (kr_a S g j k)) (hlc : ga_lc g) (hj : ∀ p ∈ S.2.1, p.2 ≠ k ∨ p.1 = j) : tc_lmt (tg_of l) RO T (kr_w1 r k e) := by
  intro V A κ M sz hH hsz hx
  refine ⟨V, A, fun _ _ => rfl, fun _ _ => rfl, ?_⟩
  obtain ⟨h1, h2, h3, h4, h5, h6, h7, h8⟩ := hx
  obtain ⟨hk, g8⟩ := (kr_at h).mp (h8 _ List.mem_cons_self)
  refine ⟨fun _ q => (List.not_mem_nil q).elim, fun _ q => (List.not_mem_nil q).elim, fun _ q => (List.not_mem_nil q).elim, fun _ q => (List.not_mem_nil q).elim, fun _ q => (List.not_mem_nil q).elim, fun _ q => (List.not_mem_nil q).elim, trivial, fun p hp => ?_⟩
  rcases List.mem_cons.mp hp with rfl | hp
  · unfold tc_xq tg_q
    have e : (8 * r + 1) % 8 = 1 := by omega
    have e2 : (8 * r + 1) / 8 = r := by omega
    dsimp only
    rw [e, e2]
    simp only [List.map_cons, List.map_nil]
    intro ty n f x hM _
    rw [tg_of_s h]
    refine ⟨hk, fun o ho hn => ?_⟩
    have hq : ∀ ci vs, M o = some (.inr (ci, vs)) → vs[j]? ≠ some (.ref (A 0)) := fun ci vs q => by
      have hne : o ≠ A 0 := by
        intro q2
        rw [q2, hM] at q
        cases q
      exact hn ci vs ((am_ne hne).trans q)
    exact kn_put_c hlc rfl hj hM rfl hk hq (g8 o ho hq)
  · cases hp
