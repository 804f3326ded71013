/-! SZ: names changed for terms; known places with free names (8 to 39) -/
def sz_fd (g : List (Nat × Term)) (k : Nat) : Option Term := match g with
  | [] => none
  | (j, t) :: r => if k = j then some t else sz_fd r k
def sz_sb (g : List (Nat × Term)) : Term → Term
  | .string s k => (match sz_fd g k with
    | some t => t
    | none => .string s k)
  | .add a b => .add (sz_sb g a) (sz_sb g b)
  | .sub a b => .sub (sz_sb g a) (sz_sb g b)
  | .mul a b => .mul (sz_sb g a) (sz_sb g b)
  | .div a b => .div (sz_sb g a) (sz_sb g b)
  | .rem a b => .rem (sz_sb g a) (sz_sb g b)
  | .elem a b => .elem (sz_sb g a) (sz_sb g b)
  | .op2 o a b => .op2 o (sz_sb g a) (sz_sb g b)
  | .op1 o a => .op1 o (sz_sb g a)
  | t => t
def sz_E (E : sx_E) (g : List (Nat × Term)) : sx_E := (E.1, E.2.1, fun k => match sz_fd g k with
  | some t => (sx_d E t).1
  | none => E.2.2 k)
/-- ints, of free names -/
def sz_gk (g : List (Nat × Term)) : Bool := g.all (fun q => (sx_k q.2 == 0) && (decide (8 ≤ q.1) && decide (q.1 < 40)))
theorem sz_fd_s {g : List (Nat × Term)} (h : sz_gk g = true) : ∀ {k : Nat} {t : Term}, sz_fd g k = some t → sx_k t = 0 ∧ 8 ≤ k ∧ k < 40 := by
  induction g with
  | nil =>
    intro k t e
    cases e
  | cons q r ih =>
    intro k t e
    obtain ⟨j, u⟩ := q
    have h2 := (Bool.and_eq_true _ _).mp (show (((sx_k u == 0) && (decide (8 ≤ j) && decide (j < 40))) && sz_gk r) = true from h)
    unfold sz_fd at e
    split at e
    · rename_i hk
      injection e with e
      subst e
      subst hk
      have h3 := (Bool.and_eq_true _ _).mp h2.1
      have h4 := (Bool.and_eq_true _ _).mp h3.2
      exact ⟨eq_of_beq h3.1, of_decide_eq_true h4.1, of_decide_eq_true h4.2⟩
    · exact ih h2.2 e
theorem sx_d2 (E : sx_E) (t : Term) (h : sx_k t = 0) : (sx_d E t).2 = 0 := by
  cases t with
  | long v => cases h
  | op2 o a b => cases o <;> first | rfl | cases h
  | op1 o a => cases o <;> first | rfl | cases h
  | _ => rfl
theorem sz_sb_s (E : sx_E) {g : List (Nat × Term)} (h : sz_gk g = true) (t : Term) : sx_k (sz_sb g t) = sx_k t ∧ sx_d E (sz_sb g t) = sx_d (sz_E E g) t := by
  induction t with
  | string s k =>
    show sx_k (match sz_fd g k with
      | some t => t
      | none => .string s k) = 0 ∧ sx_d E (match sz_fd g k with
      | some t => t
      | none => .string s k) = ((match sz_fd g k with
      | some t => (sx_d E t).1
      | none => E.2.2 k), 0)
    cases e : sz_fd g k with
    | some t =>
      have h1 := (sz_fd_s h e).1
      refine ⟨h1, ?_⟩
      have h2 := sx_d2 E t h1
      show sx_d E t = ((sx_d E t).1, 0)
      rw [← h2]
    | none => exact ⟨rfl, rfl⟩
  | add a b iha ihb =>
    refine ⟨rfl, ?_⟩
    show ((sx_d E (sz_sb g a)).1 + (sx_d E (sz_sb g b)).1, (0 : Int64)) = ((sx_d (sz_E E g) a).1 + (sx_d (sz_E E g) b).1, 0)
    rw [iha.2, ihb.2]
  | sub a b iha ihb =>
    refine ⟨rfl, ?_⟩
    show ((sx_d E (sz_sb g a)).1 - (sx_d E (sz_sb g b)).1, (0 : Int64)) = ((sx_d (sz_E E g) a).1 - (sx_d (sz_E E g) b).1, 0)
    rw [iha.2, ihb.2]
  | mul a b iha ihb =>
    refine ⟨rfl, ?_⟩
    show ((sx_d E (sz_sb g a)).1 * (sx_d E (sz_sb g b)).1, (0 : Int64)) = ((sx_d (sz_E E g) a).1 * (sx_d (sz_E E g) b).1, 0)
    rw [iha.2, ihb.2]
  | div a b iha ihb =>
    refine ⟨rfl, ?_⟩
    show ((sx_d E (sz_sb g a)).1 / (sx_d E (sz_sb g b)).1, (0 : Int64)) = ((sx_d (sz_E E g) a).1 / (sx_d (sz_E E g) b).1, 0)
    rw [iha.2, ihb.2]
  | rem a b iha ihb =>
    refine ⟨rfl, ?_⟩
    show ((sx_d E (sz_sb g a)).1 - (sx_d E (sz_sb g a)).1 / (sx_d E (sz_sb g b)).1 * (sx_d E (sz_sb g b)).1, (0 : Int64)) = ((sx_d (sz_E E g) a).1 - (sx_d (sz_E E g) a).1 / (sx_d (sz_E E g) b).1 * (sx_d (sz_E E g) b).1, 0)
    rw [iha.2, ihb.2]
  | elem a b iha ihb =>
    refine ⟨rfl, ?_⟩
    show (sx_ic (sx_d E (sz_sb g a)).1 (sx_d E (sz_sb g b)).1, (0 : Int64)) = (sx_ic (sx_d (sz_E E g) a).1 (sx_d (sz_E E g) b).1, 0)
    rw [iha.2, ihb.2]
  | op2 o a b iha ihb =>
    refine ⟨by cases o <;> rfl, ?_⟩
    show sx_o2 o (sx_d E (sz_sb g a)) (sx_d E (sz_sb g b)) = sx_o2 o (sx_d (sz_E E g) a) (sx_d (sz_E E g) b)
    rw [iha.2, ihb.2]
  | op1 o a iha =>
    refine ⟨by cases o <;> rfl, ?_⟩
    show sx_o1 o (sx_d E (sz_sb g a)) = sx_o1 o (sx_d (sz_E E g) a)
    rw [iha.2]
  | _ => exact ⟨rfl, rfl⟩
theorem sz_sb_a (E : sx_E) (g : List (Nat × Term)) (t : Term) (h : sx_k t = 2) : sx_a E (sz_sb g t) = sx_a (sz_E E g) t := by
  cases t with
  | op2 o a b => cases o <;> cases h
  | op1 o a => cases o <;> cases h
  | index k => rfl
  | arg k => rfl
  | _ => cases h
theorem sz_sb_v (E : sx_E) {g : List (Nat × Term)} (h : sz_gk g = true) (t : Term) : sx_v E (sz_sb g t) = sx_v (sz_E E g) t := by
  obtain ⟨h1, h2⟩ := sz_sb_s E h t
  rcases sx_k4 t with hk | hk | hk | hk
  · rw [sx_v0 hk, sx_v0 (h1.trans hk), h2]
  · rw [sx_v1 hk, sx_v1 (h1.trans hk), h2]
  · rw [sx_v2 hk, sx_v2 (h1.trans hk), sz_sb_a E g t hk]
  · rw [sx_v3 hk, sx_v3 (h1.trans hk)]
def sz_sl (g : List (Nat × Term)) (w : List (Nat × Term)) : List (Nat × Term) := w.map (fun q => (q.1, sz_sb g q.2))
theorem sz_sl_lv (E : sx_E) {g : List (Nat × Term)} (h : sz_gk g = true) (lv : sx_L) : sx_lv E (sz_sl g lv) = sx_lv (sz_E E g) lv := by
  unfold sx_lv sz_sl
  rw [List.map_map]
  apply List.map_congr_left
  intro q _
  show (q.1, sx_v E (sz_sb g q.2)) = (q.1, sx_v (sz_E E g) q.2)
  rw [sz_sb_v E h]
theorem sz_st_s (E : sx_E) {g : List (Nat × Term)} (h : sz_gk g = true) (st : List Term) : (st.map (sz_sb g)).map (sx_v E) = st.map (sx_v (sz_E E g)) := by
  rw [List.map_map]
  apply List.map_congr_left
  intro t _
  exact sz_sb_v E h t
def sz_sc (g : List (Nat × Term)) (c : sx_C) : sx_C := match c with
  | .inl (t, n, w) => .inl (t, n, sz_sl g w)
  | .inr (ci, fs) => .inr (ci, fs.map (sz_sb g))
theorem sz_gt_s (g : List (Nat × Term)) (j : Nat) (d : Term) (hd : sz_sb g d = d) : ∀ w : sx_W, sx_gt (sz_sl g w) j d = sz_sb g (sx_gt w j d)
  | [] => by
    show d = sz_sb g d
    rw [hd]
  | (i, t) :: w => by
    have ih := sz_gt_s g j d hd w
    unfold sx_gt sz_sl at ih ⊢
    rw [List.map_cons, List.find?_cons, List.find?_cons]
    cases e : ((i, t).1 == j) with
    | true => rfl
    | false => exact ih
theorem sz_rf_s (E : sx_E) {g : List (Nat × Term)} (h : sz_gk g = true) (t : Term) : sx_rf E (sz_sb g t) = sx_rf (sz_E E g) t := by
  unfold sx_rf
  rw [(sz_sb_s E h t).1]
  split
  · rename_i hk
    rw [sz_sb_a E g t hk]
  · rfl
theorem sz_sc_s (E : sx_E) {g : List (Nat × Term)} (h : sz_gk g = true) (c : sx_C) : sx_cell E (sz_sc g c) = sx_cell (sz_E E g) c := by
  rcases c with ⟨t, n, w⟩ | ⟨ci, fs⟩
  · show Sum.inl (t, sx_arr E t n (sz_sl g w)) = Sum.inl (t, sx_arr (sz_E E g) t n w)
    congr 2
    match t with
    | 0 =>
      show (n, Sum.inl (fun j => (sx_d E (sx_gt (sz_sl g w) j (.int 0))).1)) = (n, Sum.inl (fun j => (sx_d (sz_E E g) (sx_gt w j (.int 0))).1))
      congr 2
      funext j
      rw [sz_gt_s g j _ rfl, (sz_sb_s E h _).2]
    | 1 =>
      show (n, Sum.inr (Sum.inl (fun j => (sx_d E (sx_gt (sz_sl g w) j (.long 0))).2))) = (n, Sum.inr (Sum.inl (fun j => (sx_d (sz_E E g) (sx_gt w j (.long 0))).2)))
      congr 3
      funext j
      rw [sz_gt_s g j _ rfl, (sz_sb_s E h _).2]
    | 2 =>
      show (n, Sum.inl (fun j => (sx_d E (sx_gt (sz_sl g w) j (.int 0))).1)) = (n, Sum.inl (fun j => (sx_d (sz_E E g) (sx_gt w j (.int 0))).1))
      congr 2
      funext j
      rw [sz_gt_s g j _ rfl, (sz_sb_s E h _).2]
    | t + 3 =>
      show (n, Sum.inr (Sum.inr (Sum.inr (Sum.inr (fun j => sx_rf E (sx_gt (sz_sl g w) j .null)))))) = (n, Sum.inr (Sum.inr (Sum.inr (Sum.inr (fun j => sx_rf (sz_E E g) (sx_gt w j .null))))))
      congr 5
      funext j
      rw [sz_gt_s g j _ rfl, sz_rf_s E h]
  · show Sum.inr (ci, (fs.map (sz_sb g)).map (sx_v E)) = Sum.inr (ci, fs.map (sx_v (sz_E E g)))
    rw [sz_st_s E h]
theorem sz_sm_s (E : sx_E) {g : List (Nat × Term)} (h : sz_gk g = true) (Ms : sx_M) : sx_mem E (Ms.map (sz_sc g)) = sx_mem (sz_E E g) Ms := by
  funext q
  show (if q < E.1 then none else ((Ms.map (sz_sc g)).reverse[q - E.1]?).map (sx_cell E)) = (if q < E.1 then none else (Ms.reverse[q - E.1]?).map (sx_cell (sz_E E g)))
  split
  · rfl
  · rw [← List.map_reverse, List.getElem?_map, Option.map_map]
    congr 1
    funext c
    exact sz_sc_s E h c
def sz_sf (g : List (Nat × Term)) (f : sx_Fr) : sx_Fr := (f.1, f.2.1, sz_sl g f.2.2.1, f.2.2.2.map (sz_sb g))
theorem sz_sf_s {P : am_P} {RO : am_O} {Q : am_Q} (E : sx_E) {g : List (Nat × Term)} (h : sz_gk g = true) : ∀ fs : List sx_Fr, sx_stk P RO E Q (fs.map (sz_sf g)) = sx_stk P RO (sz_E E g) Q fs
  | [] => rfl
  | (y, pc, lv, st) :: fs => by
    have ih := sz_sf_s (P := P) (RO := RO) (Q := Q) E h fs
    funext v M z l
    show (∃ k, am_W P RO k y pc (sx_lv E (sz_sl g lv)) (v.toList ++ (st.map (sz_sb g)).map (sx_v E)) M z l (sx_stk P RO E Q (fs.map (sz_sf g)))) = (∃ k, am_W P RO k y pc (sx_lv (sz_E E g) lv) (v.toList ++ st.map (sx_v (sz_E E g))) M z l (sx_stk P RO (sz_E E g) Q fs))
    rw [ih, sz_sl_lv E h, sz_st_s E h]
/-- a condition that is known -/
def sz_kn (cs : List sx_Q) (q : sx_Q) : Bool := (match q with
  | (tr, k, a, b) => (k == 0) && (if tr then decide ((sz_rg cs a).2 < (sz_rg cs b).1) else decide ((sz_rg cs b).2 ≤ (sz_rg cs a).1))) || cs.any (fun p => (p.1 == q.1) && ((p.2.1 == q.2.1) && (sz_te p.2.2.1 q.2.2.1 && sz_te p.2.2.2 q.2.2.2)))
theorem sz_kn_s {E : sx_E} {cs : List sx_Q} (hc : ∀ q ∈ cs, sx_h E q) {q : sx_Q} (h : sz_kn cs q = true) : sx_h E q := by
  obtain ⟨tr, k, a, b⟩ := q
  unfold sz_kn at h
  rw [Bool.or_eq_true] at h
  rcases h with h | h
  · have h1 := (Bool.and_eq_true _ _).mp h
    have hk : k = 0 := eq_of_beq h1.1
    subst hk
    obtain ⟨a1, a2⟩ := sz_rg_s hc a
    obtain ⟨b1, b2⟩ := sz_rg_s hc b
    show decide ((sx_d E a).1 < (sx_d E b).1) = tr
    cases tr with
    | true =>
      have h2 := of_decide_eq_true (show decide ((sz_rg cs a).2 < (sz_rg cs b).1) = true from h1.2)
      apply decide_eq_true
      rw [Int32.lt_iff_toInt_lt]
      omega
    | false =>
      have h2 := of_decide_eq_true (show decide ((sz_rg cs b).2 ≤ (sz_rg cs a).1) = true from h1.2)
      apply decide_eq_false
      rw [Int32.lt_iff_toInt_lt]
      omega
  · obtain ⟨p, hp, h1⟩ := List.any_eq_true.mp h
    simp only [Bool.and_eq_true] at h1
    obtain ⟨h2, h3, h4, h5⟩ := h1
    have h6 := hc p hp
    unfold sx_h sx_hq at h6 ⊢
    rw [eq_of_beq h2, eq_of_beq h3, (sz_te_s E _ _ h4).2, (sz_te_s E _ _ h5).2] at h6
    exact h6
def sz_sq (g : List (Nat × Term)) (q : sx_Q) : sx_Q := (q.1, q.2.1, sz_sb g q.2.2.1, sz_sb g q.2.2.2)
theorem sz_sq_s (E : sx_E) {g : List (Nat × Term)} (h : sz_gk g = true) (q : sx_Q) (hq : sx_h E (sz_sq g q)) : sx_h (sz_E E g) q := by
  unfold sx_h sx_hq sz_sq at hq
  unfold sx_h sx_hq
  dsimp only at hq
  rw [(sz_sb_s E h _).2, (sz_sb_s E h _).2] at hq
  exact hq
/-- what the free names stand for -/
def sz_c1 : List (Nat × Term) → List (Nat × Term) → List (Nat × Term)
  | (_, a) :: r, (_, b) :: s => (match a with
    | .string _ k => if 8 ≤ k ∧ k < 40 then (k, b) :: sz_c1 r s else sz_c1 r s
    | _ => sz_c1 r s)
  | _, _ => []
def sz_c2 : sx_M → sx_M → List (Nat × Term)
  | .inl (_, _, w) :: r, .inl (_, _, v) :: s => sz_c1 w v ++ sz_c2 r s
  | _ :: r, _ :: s => sz_c2 r s
  | _, _ => []
def sz_fm1 (g : List (Nat × Term)) (c T : sx_G) : Bool := sz_gk g && (T.1.all (fun q => sz_kn c.1 (sz_sq g q)) && sx_gd ([], c.2) ([], T.2.1, T.2.2.1, sz_sl g T.2.2.2.1, T.2.2.2.2.1.map (sz_sb g), T.2.2.2.2.2.1.map (sz_sf g), T.2.2.2.2.2.2.1.map (sz_sc g), T.2.2.2.2.2.2.2.1, T.2.2.2.2.2.2.2.2))
def sz_fm (c T : sx_G) : Bool := sz_fm1 (sz_c1 T.2.2.2.1 c.2.2.2.1 ++ sz_c2 T.2.2.2.2.2.2.1 c.2.2.2.2.2.2.1) c T
theorem sz_fm_s {P : am_P} {RO : am_O} {sa : Nat → Nat} {E : sx_E} {Q : am_Q} {c T : sx_G} (h : sz_fm c T = true) (hT : ∀ xs : Nat → Int32, (∀ k, (k < 8 ∨ 40 ≤ k) → xs k = E.2.2 k) → sx_Ok P RO sa (E.1, E.2.1, xs) Q T) : sx_Ok P RO sa E Q c := by
  unfold sz_fm at h
  generalize sz_c1 T.2.2.2.1 c.2.2.2.1 ++ sz_c2 T.2.2.2.2.2.2.1 c.2.2.2.2.2.2.1 = g at h
  unfold sz_fm1 at h
  simp only [Bool.and_eq_true] at h
  obtain ⟨h1, h2, h3⟩ := h
  obtain ⟨cs, c⟩ := c
  obtain ⟨csT, y, pc, lv, st, fs, Ms, n, sl⟩ := T
  have e := congrArg Prod.snd (sx_gd_s h3)
  have e2 : c = (y, pc, sz_sl g lv, st.map (sz_sb g), fs.map (sz_sf g), Ms.map (sz_sc g), n, sl) := e
  subst e2
  intro hn hc
  have hT2 := hT (sz_E E g).2.2 (fun k hk => by
    show (match sz_fd g k with
      | some t => (sx_d E t).1
      | none => E.2.2 k) = E.2.2 k
    cases e : sz_fd g k with
    | some t =>
      have h4 := sz_fd_s h1 e
      omega
    | none => rfl)
  have hT3 := hT2 (by rw [← hn, List.length_map]) (fun q hq => sz_sq_s E h1 q (sz_kn_s hc (List.all_eq_true.mp h2 q hq)))
  rw [sz_sl_lv E h1, sz_st_s E h1, sz_sm_s E h1, sz_sf_s E h1]
  exact hT3
