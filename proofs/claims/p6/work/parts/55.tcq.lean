/-! TC: the instructions over the stack -/
abbrev tc_S : Type := List tv_V × List tl_F × Nat
def tc_gl (fs : List tl_F) (h : tc_h) (f : tl_F) : Option tc_S := if tl_pr fs (tl_ad f 9223372036854775808) (tc_cf h 0) && tl_pr fs (tl_ad (tl_neg f) 9223372036854775807) (tc_cf h 1) then some ([tv_l (tl_nf f)], [], 0) else none
def tc_jj (S : List tv_V) : Option tc_S := match S with
  | y :: x :: r => if tv_k y = 1 ∧ tv_k x = 1 then some (tv_j :: r, [], 0) else none
  | _ => none
def tc_ij (S : List tv_V) : Option tc_S := match S with
  | y :: x :: r => if tv_k y = 0 ∧ tv_k x = 1 then some (tv_j :: r, [], 0) else none
  | _ => none
def tc_sf (o : tc_R) (r : List tv_V) : tc_S := (tv_i o.1 :: r, o.2.1, o.2.2)
def tc_b2 (i : Instr) (fs : List tl_F) (h : tc_h) (n : Nat) (S : List tv_V) : Option tc_S := match S with
  | (0, b, _) :: (0, a, _) :: r => (tc_bi i fs h n a b).map (fun o => tc_sf o r)
  | _ => none
def tc_op (i : Instr) (fs : List tl_F) (h : tc_h) (n : Nat) (S : List tv_V) : Option tc_S := match i with
  | .ineg => (match S with
    | (0, a, _) :: r => if h.1 = 0 then (tc_gx fs h (tl_neg a)).map (fun o => tc_sf o r) else some (tc_sf (tc_any n) r)
    | _ => none)
  | .i2l => (match S with
    | (0, a, _) :: r => some (tv_l a :: r, [], 0)
    | x :: r => if tv_k x = 0 then some (tv_j :: r, [], 0) else none
    | _ => none)
  | .l2i => (match S with
    | x :: r => if h.1 = 0 ∧ x.1 = 4 then (tc_gx fs h x.2.1).map (fun o => tc_sf o r) else if tv_k x = 1 then some (tc_sf (tc_any n) r) else none
    | _ => none)
  | .lcmp => (match S with
    | (4, b, _) :: (4, a, _) :: r => some (tv_s (tl_sub a b) :: r, [], 0)
    | y :: x :: r => if tv_k y = 1 ∧ tv_k x = 1 then some (tc_sf (tc_fr n (tl_bt (tl_nm n) (-1) 1)) r) else none
    | _ => none)
  | .ladd => (match S with
    | y :: x :: r => if h.1 = 0 ∧ (y.1 = 4 ∧ x.1 = 4) then (tc_gl fs h (tl_app x.2.1 y.2.1)).map (fun o => (o.1 ++ r, o.2)) else tc_jj S
    | _ => none)
  | .lsub => (match S with
    | y :: x :: r => if h.1 = 0 ∧ (y.1 = 4 ∧ x.1 = 4) then (tc_gl fs h (tl_sub x.2.1 y.2.1)).map (fun o => (o.1 ++ r, o.2)) else tc_jj S
    | _ => none)
  | .lneg => (match S with
    | x :: r => if tv_k x = 1 then some (tv_j :: r, [], 0) else none
    | _ => none)
  | .lmul => tc_jj S
  | .land => tc_jj S
  | .lor => tc_jj S
  | .lxor => tc_jj S
  | .lrem => (match S with
    | (4, b, _) :: x :: r => if tv_k x = 1 ∧ tl_pr fs (tl_ad b (-1)) (tc_cf h 0) = true then some (tv_j :: r, [], 0) else none
    | _ => none)
  | .lshl => tc_ij S
  | .lshr => tc_ij S
  | .lushr => tc_ij S
  | .dup => (match S with
    | x :: r => if tv_k x = 1 then none else some (x :: x :: r, [], 0)
    | _ => none)
  | .pop => (match S with
    | x :: r => if tv_k x = 1 then none else some (r, [], 0)
    | _ => none)
  | .pop2 => (match S with
    | x :: r => if tv_k x = 1 then some (r, [], 0) else none
    | _ => none)
  | .dup2 => (match S with
    | x :: r => if tv_k x = 1 then some (x :: x :: r, [], 0) else (match r with
      | w :: r2 => if tv_k w = 1 then none else some (x :: w :: x :: w :: r2, [], 0)
      | _ => none)
    | _ => none)
  | i => tc_b2 i fs h n S
section TCQ
variable {V : Nat → Int} {A : Nat → Nat} {fs : List tl_F} {h : tc_h} {n m : Nat}
theorem tc_st1 {x : tv_V} {r : List tv_V} {st : List Value} (g : tc_st V A (x :: r) st) : ∃ v s, st = v :: s ∧ tv_is V A x v ∧ tc_st V A r s := by
  match st, g with
  | v :: s, g => exact ⟨v, s, rfl, g.1, g.2⟩
def tc_sok (V : Nat → Int) (A : Nat → Nat) (n : Nat) (i : Instr) (st : List Value) (o : tc_S) : Prop := ∃ (V' : Nat → Int) (st' : List Value), (∀ k, k < n → V k = V' k) ∧ am_op i st = some st' ∧ am_nz i st ∧ tc_st V' A o.1 st' ∧ ∀ f ∈ o.2.1, 0 ≤ tl_v V' f
theorem tc_sk {i : Instr} {st st' : List Value} {S' : List tv_V} (h1 : am_op i st = some st') (h2 : am_nz i st) (h3 : tc_st V A S' st') : tc_sok V A n i st (S', [], 0) := ⟨V, st', fun _ _ => rfl, h1, h2, h3, fun f hf => by cases hf⟩
theorem tc_sr {i : Instr} {st : List Value} {o : tc_R} {r : List tv_V} {s : List Value} {z : Int32} (g : tc_rok V n o z.toInt) (hlt : r.all (tv_lt n m) = true) (hr : tc_st V A r s) (h1 : am_op i st = some (.int z :: s)) (h2 : am_nz i st) : tc_sok V A n i st (tc_sf o r) := by
  obtain ⟨V', g1, g2, g3⟩ := g
  exact ⟨V', _, g1, h1, h2, ⟨⟨z, rfl, g2⟩, tc_st_lt g1 (fun _ _ => rfl) hlt hr⟩, g3⟩
theorem tc_jj_s {i : Instr} {f : Int64 → Int64 → Int64} {S : List tv_V} {st : List Value} {o : tc_S} (he : am_op i st = am_jj (fun x y => .long (f x y)) st) (h2 : am_nz i st) (hs : tc_st V A S st) (g : tc_jj S = some o) : tc_sok V A n i st o := by
  unfold tc_jj at g
  split at g
  · rename_i y x r
    split at g
    · rename_i hk
      cases g
      obtain ⟨v, s, rfl, k1, k2⟩ := tc_st1 hs
      obtain ⟨w, s, rfl, k3, k4⟩ := tc_st1 k2
      obtain ⟨a, rfl⟩ := tv_k1 k1 hk.1
      obtain ⟨b, rfl⟩ := tv_k1 k3 hk.2
      exact tc_sk he h2 ⟨⟨_, rfl⟩, k4⟩
    · cases g
  · cases g
theorem tc_ij_s {i : Instr} {f : Int64 → Int32 → Int64} {S : List tv_V} {st : List Value} {o : tc_S} (he : am_op i st = am_ij (fun x y => .long (f x y)) st) (h2 : am_nz i st) (hs : tc_st V A S st) (g : tc_ij S = some o) : tc_sok V A n i st o := by
  unfold tc_ij at g
  split at g
  · rename_i y x r
    split at g
    · rename_i hk
      cases g
      obtain ⟨v, s, rfl, k1, k2⟩ := tc_st1 hs
      obtain ⟨w, s, rfl, k3, k4⟩ := tc_st1 k2
      obtain ⟨a, rfl⟩ := tv_k0 k1 hk.1
      obtain ⟨b, rfl⟩ := tv_k1 k3 hk.2
      exact tc_sk he h2 ⟨⟨_, rfl⟩, k4⟩
    · cases g
  · cases g
theorem to_bl {n : Int} (h1 : -9223372036854775808 ≤ n) (h2 : n ≤ 9223372036854775807) : n.bmod 18446744073709551616 = n := Int.bmod_eq_of_le (by omega) (by omega)
theorem to_il (x : Int32) : x.toInt64.toInt = x.toInt := Int32.toInt_toInt64 x
theorem to_li (x : Int64) (h1 : -2147483648 ≤ x.toInt) (h2 : x.toInt ≤ 2147483647) : x.toInt32.toInt = x.toInt := by
  rw [Int64.toInt_toInt32]
  exact to_bm h1 h2
theorem to_cmp (x y : Int64) : tv_sg (lg_cmp x y) (x.toInt - y.toInt) := by
  unfold lg_cmp
  split
  · rename_i q
    have := Int64.lt_iff_toInt_lt.mp q
    exact Or.inl ⟨rfl, by omega⟩
  · rename_i q
    have q1 : ¬ y.toInt < x.toInt := fun e => q (Int64.lt_iff_toInt_lt.mpr e)
    split
    · rename_i e
      subst e
      exact Or.inr (Or.inl ⟨rfl, by omega⟩)
    · rename_i e
      have e1 : ¬ x.toInt = y.toInt := fun e2 => e (Int64.toInt_inj.mp e2)
      exact Or.inr (Or.inr ⟨rfl, by omega⟩)
theorem tc_gl_s (hf : ∀ f ∈ fs, 0 ≤ tl_v V f) {f : tl_F} {o : tc_S} (g : tc_gl fs h f = some o) : -9223372036854775808 ≤ tl_v V f ∧ tl_v V f ≤ 9223372036854775807 ∧ o = ([tv_l (tl_nf f)], [], 0) := by
  unfold tc_gl at g
  split at g
  · rename_i e
    cases g
    have g2 := (Bool.and_eq_true _ _).mp e
    have h1 := tl_pr_s hf g2.1
    have h2 := tl_pr_s hf g2.2
    rw [tl_ad_s] at h1 h2
    rw [tl_neg_s] at h2
    exact ⟨by omega, by omega, rfl⟩
  · cases g
theorem tc_v0 {t : tv_V} {v : Value} (h0 : t.1 = 0) (g : tv_is V A t v) : ∃ x : Int32, v = .int x ∧ x.toInt = tl_v V t.2.1 := by
  obtain ⟨k, f, a⟩ := t
  subst h0
  exact g
theorem tc_v4 {t : tv_V} {v : Value} (h0 : t.1 = 4) (g : tv_is V A t v) : ∃ x : Int64, v = .long x ∧ x.toInt = tl_v V t.2.1 := by
  obtain ⟨k, f, a⟩ := t
  subst h0
  exact g
theorem tc_bi_op {i : Instr} {fs : List tl_F} {h : tc_h} {n : Nat} {a b : tl_F} {o : tc_R} (g : tc_bi i fs h n a b = some o) (x y : Int32) (s : List Value) : am_op i (.int y :: .int x :: s) = some (.int (tc_bop i x y) :: s) ∧ ((i = .idiv ∨ i = .irem) → ¬ y = 0 → am_nz i (.int y :: .int x :: s)) ∧ (¬ (i = .idiv ∨ i = .irem) → am_nz i (.int y :: .int x :: s)) := by
  cases i with
  | iadd => exact ⟨rfl, fun q => (by rcases q with q | q <;> cases q), fun _ => trivial⟩
  | isub => exact ⟨rfl, fun q => (by rcases q with q | q <;> cases q), fun _ => trivial⟩
  | imul => exact ⟨rfl, fun q => (by rcases q with q | q <;> cases q), fun _ => trivial⟩
  | iand => exact ⟨rfl, fun q => (by rcases q with q | q <;> cases q), fun _ => trivial⟩
  | ior => exact ⟨rfl, fun q => (by rcases q with q | q <;> cases q), fun _ => trivial⟩
  | ixor => exact ⟨rfl, fun q => (by rcases q with q | q <;> cases q), fun _ => trivial⟩
  | ishl => exact ⟨rfl, fun q => (by rcases q with q | q <;> cases q), fun _ => trivial⟩
  | ishr => exact ⟨rfl, fun q => (by rcases q with q | q <;> cases q), fun _ => trivial⟩
  | iushr => exact ⟨rfl, fun q => (by rcases q with q | q <;> cases q), fun _ => trivial⟩
  | idiv => exact ⟨rfl, fun _ q => ⟨y, _, rfl, q⟩, fun q => absurd (Or.inl rfl) q⟩
  | irem => exact ⟨rfl, fun _ q => ⟨y, _, rfl, q⟩, fun q => absurd (Or.inr rfl) q⟩
  | _ => cases g
theorem tc_bi_st (hf : ∀ f ∈ fs, 0 ≤ tl_v V f) {i : Instr} {S : List tv_V} {st : List Value} {o : tc_S} (hlt : S.all (tv_lt n m) = true) (hs : tc_st V A S st) (g : tc_b2 i fs h n S = some o) : tc_sok V A n i st o := by
  unfold tc_b2 at g
  split at g
  · rename_i b k1 a k2 r
    obtain ⟨o1, g1, rfl⟩ := Option.map_eq_some_iff.mp g
    obtain ⟨v, s, rfl, ⟨y, rfl, hy⟩, e2⟩ := tc_st1 hs
    obtain ⟨w, s, rfl, ⟨x, rfl, hx⟩, e4⟩ := tc_st1 e2
    have l1 := (Bool.and_eq_true _ _).mp (show (tv_lt n m (0, b, k1) && ((0, a, k2) :: r).all (tv_lt n m)) = true from hlt)
    have l2 := (Bool.and_eq_true _ _).mp (show (tv_lt n m (0, a, k2) && r.all (tv_lt n m)) = true from l1.2)
    have lb : tl_lt n b = true := ((Bool.and_eq_true _ _).mp l1.1).1
    have la : tl_lt n a = true := ((Bool.and_eq_true _ _).mp l2.1).1
    obtain ⟨q1, q2⟩ := tc_bi_s hf g1 la lb hx hy
    obtain ⟨p1, p2, p3⟩ := tc_bi_op g1 x y s
    refine tc_sr q1 l2.2 e4 p1 ?_
    by_cases q : i = .idiv ∨ i = .irem
    · exact p2 q (q2 q)
    · exact p3 q
  · cases g
set_option maxHeartbeats 2000000 in
theorem tc_op_s (hf : ∀ f ∈ fs, 0 ≤ tl_v V f) {i : Instr} {S : List tv_V} {st : List Value} {o : tc_S} (hlt : S.all (tv_lt n m) = true) (hs : tc_st V A S st) (g : tc_op i fs h n S = some o) : tc_sok V A n i st o := by
  have lt1 : ∀ {x : tv_V} {r : List tv_V}, (x :: r).all (tv_lt n m) = true → r.all (tv_lt n m) = true := fun {x r} q => ((Bool.and_eq_true _ _).mp (show (tv_lt n m x && r.all (tv_lt n m)) = true from q)).2
  cases i with
  | ineg =>
    unfold tc_op at g
    dsimp only at g
    split at g
    · rename_i a k r
      obtain ⟨v, s, rfl, ⟨x, rfl, hx⟩, e2⟩ := tc_st1 hs
      split at g
      · obtain ⟨o1, g1, rfl⟩ := Option.map_eq_some_iff.mp g
        obtain ⟨q1, q2, q3⟩ := tc_gx_s (n := n) hf g1
        rw [tl_neg_s] at q1 q2
        have hx' : x.toInt = tl_v V a := hx
        refine tc_sr (q3 (-x).toInt ?_) (lt1 hlt) e2 rfl trivial
        rw [tl_neg_s, to_neg (by omega) (by omega)]
        omega
      · cases g
        exact tc_sr (tc_any_s (-x)) (lt1 hlt) e2 rfl trivial
    · cases g
  | i2l =>
    unfold tc_op at g
    dsimp only at g
    split at g
    · cases g
      obtain ⟨v, s, rfl, ⟨x, rfl, hx⟩, e2⟩ := tc_st1 hs
      exact tc_sk rfl trivial ⟨⟨_, rfl, (to_il x).trans hx⟩, e2⟩
    · split at g
      · rename_i hk
        cases g
        obtain ⟨v, s, rfl, e1, e2⟩ := tc_st1 hs
        obtain ⟨x, rfl⟩ := tv_k0 e1 hk
        exact tc_sk rfl trivial ⟨⟨_, rfl⟩, e2⟩
      · cases g
    · cases g
  | l2i =>
    unfold tc_op at g
    dsimp only at g
    split at g
    · rename_i y r
      obtain ⟨v, s, rfl, e1, e2⟩ := tc_st1 hs
      split at g
      · rename_i hk
        obtain ⟨o1, g1, rfl⟩ := Option.map_eq_some_iff.mp g
        obtain ⟨x, rfl, hx⟩ := tc_v4 hk.2 e1
        obtain ⟨q1, q2, q3⟩ := tc_gx_s (n := n) hf g1
        refine tc_sr (q3 x.toInt32.toInt ?_) (lt1 hlt) e2 rfl trivial
        rw [to_li x (by omega) (by omega)]
        exact hx
      · split at g
        · rename_i hk
          cases g
          obtain ⟨x, rfl⟩ := tv_k1 e1 hk
          exact tc_sr (tc_any_s x.toInt32) (lt1 hlt) e2 rfl trivial
        · cases g
    · cases g
  | lcmp =>
    unfold tc_op at g
    dsimp only at g
    split at g
    · cases g
      obtain ⟨v, s, rfl, ⟨y, rfl, hy⟩, e2⟩ := tc_st1 hs
      obtain ⟨w, s, rfl, ⟨x, rfl, hx⟩, e4⟩ := tc_st1 e2
      refine tc_sk rfl trivial ⟨⟨_, rfl, ?_⟩, e4⟩
      show tv_sg _ (tl_v V (tl_sub _ _))
      rw [tl_sub_s]
      have q := to_cmp x y
      rw [hx, hy] at q
      exact q
    · split at g
      · rename_i hk
        cases g
        obtain ⟨v, s, rfl, e1, e2⟩ := tc_st1 hs
        obtain ⟨w, s, rfl, e3, e4⟩ := tc_st1 e2
        obtain ⟨y, rfl⟩ := tv_k1 e1 hk.1
        obtain ⟨x, rfl⟩ := tv_k1 e3 hk.2
        have q : -1 ≤ (lg_cmp x y).toInt ∧ (lg_cmp x y).toInt ≤ 1 := by
          rcases to_cmp x y with ⟨q, _⟩ | ⟨q, _⟩ | ⟨q, _⟩ <;> rw [q] <;> decide
        exact tc_sr (tc_bt_s _ q.1 q.2) (lt1 (lt1 hlt)) e4 rfl trivial
      · cases g
    · cases g
  | ladd =>
    unfold tc_op at g
    dsimp only at g
    split at g
    · split at g
      · rename_i hk
        obtain ⟨o1, g1, rfl⟩ := Option.map_eq_some_iff.mp g
        obtain ⟨q1, q2, rfl⟩ := tc_gl_s hf g1
        obtain ⟨v, s, rfl, e1, e2⟩ := tc_st1 hs
        obtain ⟨w, s, rfl, e3, e4⟩ := tc_st1 e2
        obtain ⟨y, rfl, hy⟩ := tc_v4 hk.2.1 e1
        obtain ⟨x, rfl, hx⟩ := tc_v4 hk.2.2 e3
        refine tc_sk rfl trivial ⟨⟨_, rfl, ?_⟩, e4⟩
        show (x + y).toInt = tl_v V (tl_nf _)
        rw [tl_app_s] at q1 q2
        rw [tl_nf_s, tl_app_s, Int64.toInt_add, hx, hy]
        exact to_bl q1 q2
      · exact tc_jj_s rfl trivial hs g
    · cases g
  | lsub =>
    unfold tc_op at g
    dsimp only at g
    split at g
    · split at g
      · rename_i hk
        obtain ⟨o1, g1, rfl⟩ := Option.map_eq_some_iff.mp g
        obtain ⟨q1, q2, rfl⟩ := tc_gl_s hf g1
        obtain ⟨v, s, rfl, e1, e2⟩ := tc_st1 hs
        obtain ⟨w, s, rfl, e3, e4⟩ := tc_st1 e2
        obtain ⟨y, rfl, hy⟩ := tc_v4 hk.2.1 e1
        obtain ⟨x, rfl, hx⟩ := tc_v4 hk.2.2 e3
        refine tc_sk rfl trivial ⟨⟨_, rfl, ?_⟩, e4⟩
        show (x - y).toInt = tl_v V (tl_nf _)
        rw [tl_sub_s] at q1 q2
        rw [tl_nf_s, tl_sub_s, Int64.toInt_sub, hx, hy]
        exact to_bl q1 q2
      · exact tc_jj_s rfl trivial hs g
    · cases g
  | lneg =>
    unfold tc_op at g
    dsimp only at g
    split at g
    · split at g
      · rename_i hk
        cases g
        obtain ⟨v, s, rfl, e1, e2⟩ := tc_st1 hs
        obtain ⟨x, rfl⟩ := tv_k1 e1 hk
        exact tc_sk rfl trivial ⟨⟨_, rfl⟩, e2⟩
      · cases g
    · cases g
  | lmul => exact tc_jj_s rfl trivial hs g
  | land => exact tc_jj_s rfl trivial hs g
  | lor => exact tc_jj_s rfl trivial hs g
  | lxor => exact tc_jj_s rfl trivial hs g
  | lrem =>
    unfold tc_op at g
    dsimp only at g
    split at g
    · split at g
      · rename_i hk
        cases g
        have q := tl_pr_s hf hk.2
        rw [tl_ad_s] at q
        obtain ⟨v, s, rfl, ⟨y, rfl, hy⟩, e2⟩ := tc_st1 hs
        obtain ⟨w, s, rfl, e3, e4⟩ := tc_st1 e2
        obtain ⟨x, rfl⟩ := tv_k1 e3 hk.1
        have hy' : y.toInt = _ := hy
        exact tc_sk rfl ⟨y, _, rfl, fun q2 => by subst q2; simp at hy'; omega⟩ ⟨⟨_, rfl⟩, e4⟩
      · cases g
    · cases g
  | lshl => exact tc_ij_s rfl trivial hs g
  | lshr => exact tc_ij_s rfl trivial hs g
  | lushr => exact tc_ij_s rfl trivial hs g
  | dup =>
    unfold tc_op at g
    dsimp only at g
    split at g
    · split at g
      · cases g
      · rename_i hk
        cases g
        obtain ⟨v, s, rfl, e1, e2⟩ := tc_st1 hs
        have c := tv_cat e1
        rw [if_neg hk] at c
        refine tc_sk (st' := v :: v :: s) ?_ trivial ⟨e1, e1, e2⟩
        show am_dup (v :: s) = _
        unfold am_dup
        dsimp only
        rw [if_pos c]
    · cases g
  | pop =>
    unfold tc_op at g
    dsimp only at g
    split at g
    · split at g
      · cases g
      · rename_i hk
        cases g
        obtain ⟨v, s, rfl, e1, e2⟩ := tc_st1 hs
        have c := tv_cat e1
        rw [if_neg hk] at c
        refine tc_sk (st' := s) ?_ trivial e2
        show am_pop (v :: s) = _
        unfold am_pop
        dsimp only
        rw [if_pos c]
    · cases g
  | pop2 =>
    unfold tc_op at g
    dsimp only at g
    split at g
    · split at g
      · rename_i hk
        cases g
        obtain ⟨v, s, rfl, e1, e2⟩ := tc_st1 hs
        have c := tv_cat e1
        rw [if_pos hk] at c
        refine tc_sk (st' := s) ?_ trivial e2
        show am_pop2 (v :: s) = _
        unfold am_pop2
        dsimp only
        rw [if_pos c]
      · cases g
    · cases g
  | dup2 =>
    unfold tc_op at g
    dsimp only at g
    split at g
    · split at g
      · rename_i hk
        cases g
        obtain ⟨v, s, rfl, e1, e2⟩ := tc_st1 hs
        have c := tv_cat e1
        rw [if_pos hk] at c
        refine tc_sk (st' := v :: v :: s) ?_ trivial ⟨e1, e1, e2⟩
        show am_dup2 (v :: s) = _
        unfold am_dup2
        dsimp only
        rw [if_pos c]
      · rename_i hk
        split at g
        · split at g
          · cases g
          · rename_i hk2
            cases g
            obtain ⟨v, s, rfl, e1, e2⟩ := tc_st1 hs
            obtain ⟨w, s, rfl, e3, e4⟩ := tc_st1 e2
            have c := tv_cat e1
            rw [if_neg hk] at c
            have c2 := tv_cat e3
            rw [if_neg hk2] at c2
            refine tc_sk (st' := v :: w :: v :: w :: s) ?_ trivial ⟨e1, e3, e1, e3, e4⟩
            show am_dup2 (v :: w :: s) = _
            unfold am_dup2
            dsimp only
            rw [if_neg (by rw [c]; decide), if_pos ⟨c, c2⟩]
        · cases g
    · cases g
  | _ => exact tc_bi_st hf hlt hs g
end TCQ
