/-! TC: locals are put, branches -/
def tc_pt1 (i : Nat) (t : tv_V) (L : tc_L) : tc_L := (i, t) :: L.filter (fun q => !(q.1 == i) && !(q.1 + 1 == i && (tv_k q.2 == 1)))
def tc_pt2 (i : Nat) (t : tv_V) (L : tc_L) : tc_L := (i, t) :: L.filter (fun q => !(q.1 == i) && (!(q.1 == i + 1) && !(q.1 + 1 == i && (tv_k q.2 == 1))))
theorem am_ld_fi {k : Nat} {v : Value} {g : Nat × Value → Bool} (hg : g (k, v) = true) : ∀ {lv : am_L}, am_ld k lv = some v → am_ld k (lv.filter g) = some v
  | [], h => by cases h
  | q :: s, h => by
    unfold am_ld at h ⊢
    rw [List.find?_cons] at h
    rw [List.filter_cons]
    by_cases e : (q.1 == k) = true
    · rw [e] at h
      have e1 : q.2 = v := by simpa using h
      have e2 : q.1 = k := by simpa using e
      have e3 : g q = true := by
        rw [← hg, ← e1, ← e2]
      rw [e3]
      simp only [if_true]
      rw [List.find?_cons, e]
      simp [e1]
    · have e' : (q.1 == k) = false := by simpa using e
      rw [e'] at h
      have ih := am_ld_fi hg (lv := s) h
      split
      · rw [List.find?_cons, e']
        exact ih
      · exact ih
theorem tv_cat1 {V : Nat → Int} {A : Nat → Nat} {t : tv_V} {v : Value} (h : tv_is V A t v) : (tv_k t == 1) = (v.category == 2) := by
  have c := tv_cat h
  by_cases k : tv_k t = 1
  · rw [if_pos k] at c
    rw [k, c]
    rfl
  · rw [if_neg k] at c
    rw [c]
    have : (tv_k t == 1) = false := by simpa using k
    rw [this]
    rfl
theorem am_ld_st {i : Nat} {v : Value} {l : am_L} : am_ld i ((i, v) :: l) = some v := by
  unfold am_ld
  rw [List.find?_cons]
  simp
theorem am_ld_ne {i k : Nat} {v : Value} {l : am_L} (h : k ≠ i) : am_ld k ((i, v) :: l) = am_ld k l := by
  unfold am_ld
  rw [List.find?_cons]
  have : (i == k) = false := by simpa using (fun e : i = k => h e.symm)
  simp only [this]
theorem tc_pt1_s {V : Nat → Int} {A : Nat → Nat} {i : Nat} {t : tv_V} {v : Value} {L : tc_L} {lv : am_L} (hl : tc_lv V A L lv) (h : tv_is V A t v) : tc_lv V A (tc_pt1 i t L) (am_st1 i v lv) := by
  intro p hp
  rcases List.mem_cons.mp hp with rfl | hp
  · exact ⟨v, am_ld_st, h⟩
  · obtain ⟨p1, p2⟩ := List.mem_filter.mp hp
    obtain ⟨w, g1, g2⟩ := hl p p1
    have hne : p.1 ≠ i := by
      intro e
      rw [e] at p2
      simp at p2
    refine ⟨w, ?_, g2⟩
    unfold am_st1
    rw [am_ld_ne hne]
    refine am_ld_fi ?_ g1
    dsimp only at p2 ⊢
    rw [tv_cat1 g2] at p2
    exact p2
theorem tc_pt2_s {V : Nat → Int} {A : Nat → Nat} {i : Nat} {t : tv_V} {v : Value} {L : tc_L} {lv : am_L} (hl : tc_lv V A L lv) (h : tv_is V A t v) : tc_lv V A (tc_pt2 i t L) (am_st2 i v lv) := by
  intro p hp
  rcases List.mem_cons.mp hp with rfl | hp
  · exact ⟨v, am_ld_st, h⟩
  · obtain ⟨p1, p2⟩ := List.mem_filter.mp hp
    obtain ⟨w, g1, g2⟩ := hl p p1
    have hne : p.1 ≠ i := by
      intro e
      rw [e] at p2
      simp at p2
    refine ⟨w, ?_, g2⟩
    unfold am_st2
    rw [am_ld_ne hne]
    refine am_ld_fi ?_ g1
    dsimp only at p2 ⊢
    rw [tv_cat1 g2] at p2
    exact p2
abbrev tc_T : Type := Nat × Nat × tc_L × List tv_V × List tl_F × Nat
def tc_s1 (g i l0 : Nat) (L : tc_L) (S : List tv_V) : Option tc_T := match S with
  | t :: r => if tv_k t = g then some (l0, i + (if g = 1 then 2 else 1), if g = 1 then tc_pt2 i t L else tc_pt1 i t L, r, [], 0) else none
  | _ => none
def tc_sto (i : Instr) (fs : List tl_F) (h : tc_h) (n : Nat) (L : tc_L) (S : List tv_V) : Option tc_T := match i with
  | .istore_n k => tc_s1 0 k 1 L S
  | .istore k => tc_s1 0 k 2 L S
  | .lstore_n k => tc_s1 1 k 1 L S
  | .lstore k => tc_s1 1 k 2 L S
  | .astore_n k => tc_s1 2 k 1 L S
  | .astore k => tc_s1 2 k 2 L S
  | .iinc k c => (match tc_ld k L with
    | some (0, a, _) => (if h.1 = 0 then tc_gx fs h (tl_ad a (Int32.ofInt c).toInt) else some (tc_any n)).map (fun o => (3, k + 1, tc_pt1 k (tv_i o.1) L, S, o.2.1, o.2.2))
    | _ => none)
  | _ => none
section TCB
variable {V : Nat → Int} {A : Nat → Nat} {fs : List tl_F} {h : tc_h} {n m : Nat}
theorem tc_s10 {i l0 : Nat} {L : tc_L} {S : List tv_V} {lv : am_L} {st : List Value} {o : tc_T} (hl : tc_lv V A L lv) (hs : tc_st V A S st) (g : tc_s1 0 i l0 L S = some o) : ∃ lv' st', am_si i lv st = some (lv', st') ∧ o = (l0, i + 1, o.2.2.1, o.2.2.2.1, [], 0) ∧ tc_lv V A o.2.2.1 lv' ∧ tc_st V A o.2.2.2.1 st' := by
  unfold tc_s1 at g
  split at g
  · split at g
    · rename_i hk
      cases g
      obtain ⟨v, s, rfl, e1, e2⟩ := tc_st1 hs
      obtain ⟨x, rfl⟩ := tv_k0 e1 hk
      exact ⟨_, _, rfl, rfl, tc_pt1_s hl e1, e2⟩
    · cases g
  · cases g
theorem tc_s11 {i l0 : Nat} {L : tc_L} {S : List tv_V} {lv : am_L} {st : List Value} {o : tc_T} (hl : tc_lv V A L lv) (hs : tc_st V A S st) (g : tc_s1 1 i l0 L S = some o) : ∃ lv' st', am_sj i lv st = some (lv', st') ∧ o = (l0, i + 2, o.2.2.1, o.2.2.2.1, [], 0) ∧ tc_lv V A o.2.2.1 lv' ∧ tc_st V A o.2.2.2.1 st' := by
  unfold tc_s1 at g
  split at g
  · split at g
    · rename_i hk
      cases g
      obtain ⟨v, s, rfl, e1, e2⟩ := tc_st1 hs
      obtain ⟨x, rfl⟩ := tv_k1 e1 hk
      exact ⟨_, _, rfl, rfl, tc_pt2_s hl e1, e2⟩
    · cases g
  · cases g
theorem tc_s12 {i l0 : Nat} {L : tc_L} {S : List tv_V} {lv : am_L} {st : List Value} {o : tc_T} (hl : tc_lv V A L lv) (hs : tc_st V A S st) (g : tc_s1 2 i l0 L S = some o) : ∃ lv' st', am_sa i lv st = some (lv', st') ∧ o = (l0, i + 1, o.2.2.1, o.2.2.2.1, [], 0) ∧ tc_lv V A o.2.2.1 lv' ∧ tc_st V A o.2.2.2.1 st' := by
  unfold tc_s1 at g
  split at g
  · split at g
    · rename_i hk
      cases g
      obtain ⟨v, s, rfl, e1, e2⟩ := tc_st1 hs
      rcases tv_k2 e1 hk with rfl | ⟨x, rfl⟩
      · exact ⟨_, _, rfl, rfl, tc_pt1_s hl e1, e2⟩
      · exact ⟨_, _, rfl, rfl, tc_pt1_s hl e1, e2⟩
    · cases g
  · cases g
def tc_tok (V : Nat → Int) (A : Nat → Nat) (n : Nat) (i : Instr) (lv : am_L) (st : List Value) (o : tc_T) : Prop := ∃ (V' : Nat → Int) (lv' : am_L) (st' : List Value), (∀ k, k < n → V k = V' k) ∧ am_sto i lv st = some (o.1, o.2.1, lv', st') ∧ tc_lv V' A o.2.2.1 lv' ∧ tc_st V' A o.2.2.2.1 st' ∧ ∀ f ∈ o.2.2.2.2.1, 0 ≤ tl_v V' f
theorem tc_filt {f : Nat × tv_V → Bool} {L : tc_L} (h : L.all (fun p => tv_lt n m p.2) = true) : (L.filter f).all (fun p => tv_lt n m p.2) = true := by
  rw [List.all_eq_true] at h ⊢
  intro x hx
  exact h x (List.mem_filter.mp hx).1
theorem tc_sto_s (hf : ∀ f ∈ fs, 0 ≤ tl_v V f) {i : Instr} {L : tc_L} {S : List tv_V} {lv : am_L} {st : List Value} {o : tc_T} (hL : L.all (fun p => tv_lt n m p.2) = true) (hS : S.all (tv_lt n m) = true) (hl : tc_lv V A L lv) (hs : tc_st V A S st) (g : tc_sto i fs h n L S = some o) : tc_tok V A n i lv st o := by
  cases i with
  | istore_n k =>
    obtain ⟨lv', st', e1, e2, e3, e4⟩ := tc_s10 hl hs g
    exact ⟨V, lv', st', fun _ _ => rfl, by rw [e2]; exact congrArg (fun o => o.map (fun o => (1, (k : Nat) + 1, o))) e1, e3, e4, by rw [e2]; exact fun f hf => by cases hf⟩
  | istore k =>
    obtain ⟨lv', st', e1, e2, e3, e4⟩ := tc_s10 hl hs g
    exact ⟨V, lv', st', fun _ _ => rfl, by rw [e2]; exact congrArg (fun o => o.map (fun o => (2, k + 1, o))) e1, e3, e4, by rw [e2]; exact fun f hf => by cases hf⟩
  | lstore_n k =>
    obtain ⟨lv', st', e1, e2, e3, e4⟩ := tc_s11 hl hs g
    exact ⟨V, lv', st', fun _ _ => rfl, by rw [e2]; exact congrArg (fun o => o.map (fun o => (1, (k : Nat) + 2, o))) e1, e3, e4, by rw [e2]; exact fun f hf => by cases hf⟩
  | lstore k =>
    obtain ⟨lv', st', e1, e2, e3, e4⟩ := tc_s11 hl hs g
    exact ⟨V, lv', st', fun _ _ => rfl, by rw [e2]; exact congrArg (fun o => o.map (fun o => (2, k + 2, o))) e1, e3, e4, by rw [e2]; exact fun f hf => by cases hf⟩
  | astore_n k =>
    obtain ⟨lv', st', e1, e2, e3, e4⟩ := tc_s12 hl hs g
    exact ⟨V, lv', st', fun _ _ => rfl, by rw [e2]; exact congrArg (fun o => o.map (fun o => (1, (k : Nat) + 1, o))) e1, e3, e4, by rw [e2]; exact fun f hf => by cases hf⟩
  | astore k =>
    obtain ⟨lv', st', e1, e2, e3, e4⟩ := tc_s12 hl hs g
    exact ⟨V, lv', st', fun _ _ => rfl, by rw [e2]; exact congrArg (fun o => o.map (fun o => (2, k + 1, o))) e1, e3, e4, by rw [e2]; exact fun f hf => by cases hf⟩
  | iinc k c =>
    unfold tc_sto at g
    dsimp only at g
    split at g
    · rename_i a q hk
      obtain ⟨o1, g1, rfl⟩ := Option.map_eq_some_iff.mp g
      obtain ⟨v, h1, x, rfl, hx⟩ := tc_ld_s hl hk
      have hx' : x.toInt = tl_v V a := hx
      have key : tc_rok V n o1 (x + Int32.ofInt c).toInt := by
        split at g1
        · obtain ⟨q1, q2, q3⟩ := tc_gx_s (n := n) hf g1
          rw [tl_ad_s] at q1 q2
          refine q3 _ ?_
          rw [tl_ad_s, to_add (by omega) (by omega)]
          omega
        · cases g1
          exact tc_any_s _
      obtain ⟨V', v1, v2, v3⟩ := key
      refine ⟨V', am_st1 k (.int (x + Int32.ofInt c)) lv, st, v1, ?_, tc_pt1_s (tc_lv_lt v1 (fun _ _ => rfl) hL hl) ⟨x + Int32.ofInt c, rfl, v2⟩, tc_st_lt v1 (fun _ _ => rfl) hS hs, v3⟩
      · show (am_inc k c lv st).map _ = _
        unfold am_inc
        rw [h1]
        rfl
    · cases g
  | _ => cases g
/-- a condition of a form -/
def tc_hc (c : Jvm.ClassFile.Cond) (z : Int) : Prop := match c with
  | .eq => z = 0
  | .ne => ¬ z = 0
  | .lt => z < 0
  | .ge => 0 ≤ z
  | .gt => 0 < z
  | .le => z ≤ 0
def tc_nc (c : Jvm.ClassFile.Cond) : Jvm.ClassFile.Cond := match c with
  | .eq => .ne
  | .ne => .eq
  | .lt => .ge
  | .ge => .lt
  | .gt => .le
  | .le => .gt
theorem tc_nc_s {c : Jvm.ClassFile.Cond} {z : Int} (h : ¬ tc_hc c z) : tc_hc (tc_nc c) z := by
  cases c with
  | eq => exact h
  | ne =>
    show z = 0
    exact Decidable.byContradiction h
  | lt => exact Int.not_lt.mp h
  | ge => exact Int.not_le.mp h
  | gt => exact Int.not_lt.mp h
  | le => exact Int.not_le.mp h
/-- what it says; of ne only if the form is known to be on one side (k-th certificate) -/
def tc_ct (fs : List tl_F) (h : tc_h) (k : Nat) (c : Jvm.ClassFile.Cond) (f : tl_F) : List tl_F := match c with
  | .eq => [f, tl_neg f]
  | .ne => if tl_pr fs f (tc_cf h k) then [tl_ad f (-1)] else if tl_pr fs (tl_neg f) (tc_cf h k) then [tl_ad (tl_neg f) (-1)] else []
  | .lt => [tl_ad (tl_neg f) (-1)]
  | .ge => [f]
  | .gt => [tl_ad f (-1)]
  | .le => [tl_neg f]
theorem tc_ct_s (hf : ∀ f ∈ fs, 0 ≤ tl_v V f) {k : Nat} {c : Jvm.ClassFile.Cond} {f : tl_F} (hc : tc_hc c (tl_v V f)) : ∀ e ∈ tc_ct fs h k c f, 0 ≤ tl_v V e := by
  intro e he
  cases c with
  | eq =>
    have hc' : tl_v V f = 0 := hc
    rcases List.mem_cons.mp he with rfl | he
    · omega
    · rcases List.mem_cons.mp he with rfl | he
      · rw [tl_neg_s]
        omega
      · cases he
  | ne =>
    have hc' : ¬ tl_v V f = 0 := hc
    unfold tc_ct at he
    dsimp only at he
    split at he
    · rename_i q
      have q := tl_pr_s hf q
      rcases List.mem_cons.mp he with rfl | he
      · rw [tl_ad_s]
        omega
      · cases he
    · split at he
      · rename_i q
        have q := tl_pr_s hf q
        rw [tl_neg_s] at q
        rcases List.mem_cons.mp he with rfl | he
        · rw [tl_ad_s, tl_neg_s]
          omega
        · cases he
      · cases he
  | lt =>
    have hc' : tl_v V f < 0 := hc
    rcases List.mem_cons.mp he with rfl | he
    · rw [tl_ad_s, tl_neg_s]
      omega
    · cases he
  | ge =>
    have hc' : 0 ≤ tl_v V f := hc
    rcases List.mem_cons.mp he with rfl | he
    · exact hc'
    · cases he
  | gt =>
    have hc' : 0 < tl_v V f := hc
    rcases List.mem_cons.mp he with rfl | he
    · rw [tl_ad_s]
      omega
    · cases he
  | le =>
    have hc' : tl_v V f ≤ 0 := hc
    rcases List.mem_cons.mp he with rfl | he
    · rw [tl_neg_s]
      omega
    · cases he
theorem tc_c0_i {c : Jvm.ClassFile.Cond} {x : Int32} {z : Int} (hz : x.toInt = z) : am_c0 c x ↔ tc_hc c z := by
  subst hz
  have e0 : (0 : Int32).toInt = 0 := rfl
  cases c with
  | eq => exact ⟨fun q => by rw [show x = 0 from q]; rfl, fun q => Int32.toInt_inj.mp (q.trans e0.symm)⟩
  | ne => exact not_congr ⟨fun q => by rw [show x = 0 from q]; rfl, fun q => Int32.toInt_inj.mp (q.trans e0.symm)⟩
  | lt => exact Int32.lt_iff_toInt_lt.trans (by rw [e0]; rfl)
  | ge => exact Int32.le_iff_toInt_le.trans (by rw [e0]; rfl)
  | gt => exact Int32.lt_iff_toInt_lt.trans (by rw [e0]; rfl)
  | le => exact Int32.le_iff_toInt_le.trans (by rw [e0]; rfl)
theorem tc_hc_c {c : Jvm.ClassFile.Cond} {a b : Int} (h1 : a = 0 ↔ b = 0) (h2 : a < 0 ↔ b < 0) (h3 : 0 < a ↔ 0 < b) : tc_hc c a ↔ tc_hc c b := by
  cases c with
  | eq => exact h1
  | ne => exact not_congr h1
  | lt => exact h2
  | ge =>
    show 0 ≤ a ↔ 0 ≤ b
    omega
  | gt => exact h3
  | le =>
    show a ≤ 0 ↔ b ≤ 0
    omega
theorem tc_c0_s {c : Jvm.ClassFile.Cond} {x : Int32} {z : Int} (hz : tv_sg x z) : am_c0 c x ↔ tc_hc c z := by
  have e1 : (1 : Int32).toInt = 1 := rfl
  have e0 : (0 : Int32).toInt = 0 := rfl
  have e2 : (-1 : Int32).toInt = -1 := rfl
  rcases hz with ⟨rfl, hz⟩ | ⟨rfl, hz⟩ | ⟨rfl, hz⟩
  · exact (tc_c0_i e1).trans (tc_hc_c (by omega) (by omega) (by omega))
  · exact (tc_c0_i e0).trans (tc_hc_c (by omega) (by omega) (by omega))
  · exact (tc_c0_i e2).trans (tc_hc_c (by omega) (by omega) (by omega))
theorem tc_c2_s {c : Jvm.ClassFile.Cond} {x y : Int32} : am_c2 c x y ↔ tc_hc c (x.toInt - y.toInt) := by
  have he : x = y ↔ x.toInt - y.toInt = 0 := ⟨fun q => (by subst q; exact Int.sub_self _), fun q => Int32.toInt_inj.mp (by omega)⟩
  cases c with
  | eq => exact he
  | ne => exact not_congr he
  | lt =>
    refine (Int32.lt_iff_toInt_lt (x := x) (y := y)).trans ?_
    show x.toInt < y.toInt ↔ x.toInt - y.toInt < 0
    omega
  | ge =>
    refine (Int32.le_iff_toInt_le (x := y) (y := x)).trans ?_
    show y.toInt ≤ x.toInt ↔ 0 ≤ x.toInt - y.toInt
    omega
  | gt =>
    refine (Int32.lt_iff_toInt_lt (x := y) (y := x)).trans ?_
    show y.toInt < x.toInt ↔ 0 < x.toInt - y.toInt
    omega
  | le =>
    refine (Int32.le_iff_toInt_le (x := x) (y := y)).trans ?_
    show x.toInt ≤ y.toInt ↔ x.toInt - y.toInt ≤ 0
    omega
end TCB
