/-! SZ: segments of a run put together -/
def zz_bot : sx_G := ([(true, 1, .int 0, .int 1)], 0, 0, [], [], [], [], 0, 0)
theorem zz_bot_s {P : am_P} {RO : am_O} {sa : Nat → Nat} {E : sx_E} {Q : am_Q} : sx_Ok P RO sa E Q zz_bot := by
  intro hn hc
  have h := hc _ List.mem_cons_self
  exact absurd (of_decide_eq_true (show decide ((0 : Int32) = 1) = true from h)) (by decide)
def zz_fb : Nat → sx_G := fun _ => zz_bot
/-- the script's terms, the names' meanings -/
def zz_H (f : Nat → Term) (l : List (List sz_D)) (RO : am_O) (sa : Nat → Nat) (E : sx_E) : Prop := sx_ok E (sx_rt0 7) RO sa ∧ (∀ j, j < 7 → (sx_d E (f j)).1 = E.2.2 j) ∧ sz_ok E (sz_at l)
section ZZ
variable {E : sx_E} {RO : am_O} {sa : Nat → Nat} {f : Nat → Term} {l : List (List sz_D)}
theorem zz_fam (H : zz_H f l RO sa E) {c : sx_G} {k : Nat} {hs : List (Nat × Nat)} {fam : Nat → sx_G} (h : (sz_ck aMt (aP (fun i => i)) aIns (sy_rt 7 f) sx_fin0 zPW (sz_at l) zz_fb fam k hs c).isSome = true) (g : ∀ (a : Nat) (xs : Nat → Int32), (∀ k, (k < 8 ∨ 40 ≤ k) → xs k = E.2.2 k) → sx_Ok (aP (fun i => i)) RO sa (E.1, E.2.1, xs) (sx_Q0 E) (fam a)) : sx_Ok (aP (fun i => i)) RO sa E (sx_Q0 E) c := by
  obtain ⟨r, hr⟩ := Option.isSome_iff_exists.mp h
  exact sz_ck_s aMt_s aIns_s (sy_rt_s H.1 H.2.1) sx_fin0_s H.2.2 (zPW_s RO sa) (fun _ => zz_bot_s) g _ _ _ _ hr
theorem zz_seg (H : zz_H f l RO sa E) {c d : sx_G} {k : Nat} {hs : List (Nat × Nat)} (h : (sz_ck aMt (aP (fun i => i)) aIns (sy_rt 7 f) sx_fin0 zPW (sz_at l) (fun _ => d) zz_fb k hs c).isSome = true) (g : sx_Ok (aP (fun i => i)) RO sa E (sx_Q0 E) d) : sx_Ok (aP (fun i => i)) RO sa E (sx_Q0 E) c := by
  obtain ⟨r, hr⟩ := Option.isSome_iff_exists.mp h
  exact sz_ck_s aMt_s aIns_s (sy_rt_s H.1 H.2.1) sx_fin0_s H.2.2 (zPW_s RO sa) (fun _ => g) (fun _ _ _ => zz_bot_s) _ _ _ _ hr
theorem zz_end (H : zz_H f l RO sa E) {c : sx_G} {k : Nat} {hs : List (Nat × Nat)} (h : (sz_ck aMt (aP (fun i => i)) aIns (sy_rt 7 f) sx_fin0 zPW (sz_at l) (fun _ => zz_bot) zz_fb k hs c).isSome = true) : sx_Ok (aP (fun i => i)) RO sa E (sx_Q0 E) c := zz_seg H h zz_bot_s
end ZZ
/-- names that are not free -/
def zz_nv : Term → Bool
  | .string _ k => decide (k < 8) || decide (40 ≤ k)
  | .add a b => zz_nv a && zz_nv b
  | .sub a b => zz_nv a && zz_nv b
  | .mul a b => zz_nv a && zz_nv b
  | .div a b => zz_nv a && zz_nv b
  | .rem a b => zz_nv a && zz_nv b
  | .elem a b => zz_nv a && zz_nv b
  | .op2 _ a b => zz_nv a && zz_nv b
  | .op1 _ a => zz_nv a
  | _ => true
theorem zz_nv_s {E E' : sx_E} (h : ∀ k, (k < 8 ∨ 40 ≤ k) → E'.2.2 k = E.2.2 k) (t : Term) : zz_nv t = true → sx_d E' t = sx_d E t := by
  induction t with
  | string s k =>
    intro g
    have g2 := (Bool.or_eq_true _ _).mp (show (decide (k < 8) || decide (40 ≤ k)) = true from g)
    show (E'.2.2 k, (0 : Int64)) = (E.2.2 k, 0)
    rw [h k (g2.imp of_decide_eq_true of_decide_eq_true)]
  | add a c ha hc =>
    intro g
    have g2 := (Bool.and_eq_true _ _).mp g
    show ((sx_d E' a).1 + (sx_d E' c).1, (0 : Int64)) = ((sx_d E a).1 + (sx_d E c).1, 0)
    rw [ha g2.1, hc g2.2]
  | sub a c ha hc =>
    intro g
    have g2 := (Bool.and_eq_true _ _).mp g
    show ((sx_d E' a).1 - (sx_d E' c).1, (0 : Int64)) = ((sx_d E a).1 - (sx_d E c).1, 0)
    rw [ha g2.1, hc g2.2]
  | mul a c ha hc =>
    intro g
    have g2 := (Bool.and_eq_true _ _).mp g
    show ((sx_d E' a).1 * (sx_d E' c).1, (0 : Int64)) = ((sx_d E a).1 * (sx_d E c).1, 0)
    rw [ha g2.1, hc g2.2]
  | div a c ha hc =>
    intro g
    have g2 := (Bool.and_eq_true _ _).mp g
    show ((sx_d E' a).1 / (sx_d E' c).1, (0 : Int64)) = ((sx_d E a).1 / (sx_d E c).1, 0)
    rw [ha g2.1, hc g2.2]
  | rem a c ha hc =>
    intro g
    have g2 := (Bool.and_eq_true _ _).mp g
    show ((sx_d E' a).1 - (sx_d E' a).1 / (sx_d E' c).1 * (sx_d E' c).1, (0 : Int64)) = ((sx_d E a).1 - (sx_d E a).1 / (sx_d E c).1 * (sx_d E c).1, 0)
    rw [ha g2.1, hc g2.2]
  | elem a c ha hc =>
    intro g
    have g2 := (Bool.and_eq_true _ _).mp g
    show (sx_ic (sx_d E' a).1 (sx_d E' c).1, (0 : Int64)) = (sx_ic (sx_d E a).1 (sx_d E c).1, 0)
    rw [ha g2.1, hc g2.2]
  | op2 o a c ha hc =>
    intro g
    have g2 := (Bool.and_eq_true _ _).mp g
    show sx_o2 o (sx_d E' a) (sx_d E' c) = sx_o2 o (sx_d E a) (sx_d E c)
    rw [ha g2.1, hc g2.2]
  | op1 o a ha =>
    intro g
    show sx_o1 o (sx_d E' a) = sx_o1 o (sx_d E a)
    rw [ha g]
  | _ =>
    intro _
    rfl
/-- the free names are without meaning, and no meaning names them -/
def zz_av (l : List (List sz_D)) : Bool := (match l with
  | [] => true
  | r :: _ => (match r with
    | [] => true
    | _ => false)) && l.all (fun r => r.all (fun d => zz_nv d.2.1 && (zz_nv d.2.2.1 && zz_nv d.2.2.2)))
theorem zz_av_s {l : List (List sz_D)} (h : zz_av l = true) {k : Nat} {d : sz_D} (hd : sz_at l k = some d) : 40 ≤ k ∧ zz_nv d.2.1 = true ∧ zz_nv d.2.2.1 = true ∧ zz_nv d.2.2.2 = true := by
  have h1 := (Bool.and_eq_true _ _).mp h
  unfold sz_at at hd
  split at hd
  · cases hd
  · rename_i hk
    split at hd
    · rename_i r hr
      have h2 := List.all_eq_true.mp h1.2 r (List.mem_of_getElem? hr)
      have h3 := List.all_eq_true.mp h2 d (List.mem_of_getElem? hd)
      simp only [Bool.and_eq_true] at h3
      refine ⟨?_, h3.1, h3.2.1, h3.2.2⟩
      by_cases h40 : k < 40
      · have e : (k - 8) / 32 = 0 := by omega
        rw [e] at hr
        cases l with
        | nil => cases hr
        | cons r0 l =>
          cases hr
          cases r with
          | nil => cases hd
          | cons x r => cases h1.1
      · omega
    · cases hd
theorem zz_Hx {f : Nat → Term} {l : List (List sz_D)} {RO : am_O} {sa : Nat → Nat} {E : sx_E} (hf : (List.range 7).all (fun j => zz_nv (f j)) = true) (hl : zz_av l = true) (H : zz_H f l RO sa E) {xs : Nat → Int32} (hx : ∀ k, (k < 8 ∨ 40 ≤ k) → xs k = E.2.2 k) : zz_H f l RO sa (E.1, E.2.1, xs) := by
  obtain ⟨h1, h2, h3⟩ := H
  have hx2 : ∀ k, (k < 8 ∨ 40 ≤ k) → (E.1, E.2.1, xs).2.2 k = E.2.2 k := hx
  refine ⟨⟨fun k n g hk => ?_, h1.2⟩, fun j hj => ?_, fun k d hd => ?_⟩
  · obtain ⟨g1, f0, g2, g3⟩ := h1.1 k n g hk
    refine ⟨g1, f0, g2, fun j hj => (g3 j hj).trans ?_⟩
    match k, hk with
    | 0, hk =>
      cases hk
      exact (hx j (Or.inl (by omega))).symm
    | 1, hk =>
      cases hk
      rfl
    | 2, hk =>
      cases hk
      rfl
    | 3, hk =>
      cases hk
      rfl
    | k + 4, hk => cases hk
  · have g := List.all_eq_true.mp hf j (List.mem_range.mpr hj)
    rw [zz_nv_s hx2 _ g, h2 j hj]
    exact (hx j (Or.inl (by omega))).symm
  · obtain ⟨h40, g1, g2, g3⟩ := zz_av_s hl hd
    have e := h3 k d hd
    show xs k = _
    rw [hx k (Or.inr h40), e]
    unfold sz_val
    rw [zz_nv_s hx2 _ g1, zz_nv_s hx2 _ g2, zz_nv_s hx2 _ g3]
/-- names given their meanings -/
theorem zz_mk {f : Nat → Term} {l : List (List sz_D)} {RO : am_O} {sa : Nat → Nat} {E : sx_E} (hw : sz_wf (sz_at l) (8 + 32 * l.length) = true) (hf : (List.range 7).all (fun j => sz_nm 8 (f j)) = true) (h1 : sx_ok E (sx_rt0 7) RO sa) (h2 : ∀ j, j < 7 → (sx_d E (f j)).1 = E.2.2 j) : ∃ xs : Nat → Int32, (∀ j, j < 8 → xs j = E.2.2 j) ∧ zz_H f l RO sa (E.1, E.2.1, xs) := by
  have hx : ∀ j, j < 8 → sz_xs E (sz_at l) (8 + 32 * l.length) j = E.2.2 j := fun j hj => sz_xs_0 (sz_at_8 hj) _
  refine ⟨sz_xs E (sz_at l) (8 + 32 * l.length), hx, ⟨fun k n g hk => ?_, h1.2⟩, fun j hj => ?_, sz_ex E hw (fun k hk => sz_at_n hk)⟩
  · obtain ⟨g1, f0, g2, g3⟩ := h1.1 k n g hk
    refine ⟨g1, f0, g2, fun j hj => (g3 j hj).trans ?_⟩
    match k, hk with
    | 0, hk =>
      cases hk
      exact (hx j (by omega)).symm
    | 1, hk =>
      cases hk
      rfl
    | 2, hk =>
      cases hk
      rfl
    | 3, hk =>
      cases hk
      rfl
    | k + 4, hk => cases hk
  · have g := List.all_eq_true.mp hf j (List.mem_range.mpr hj)
    rw [sz_nm_s (E' := E) (b := 8) hx _ g, h2 j hj]
    exact (hx j (by omega)).symm
