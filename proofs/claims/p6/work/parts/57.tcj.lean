/-! TC: jumps -/
abbrev tc_B : Type := Nat × List tv_V × List tl_F
def tc_tg (pc : Nat) (off : Int) : Option Nat := if 0 ≤ (pc : Int) + off then some ((pc : Int) + off).toNat else none
theorem tc_tg_s {pc t : Nat} {off : Int} (h : tc_tg pc off = some t) {K : Nat → Prop} (hK : K t) : am_tg pc off K := by
  unfold tc_tg at h
  split at h
  · cases h
    exact ⟨_, by omega, hK⟩
  · cases h
/-- one way, if it can be; the k-th certificate says that it can't -/
def tc_w1 (fs : List tl_F) (h : tc_h) (k : Nat) (t : Nat) (r : List tv_V) (es : List tl_F) : List tc_B := if tl_no (fs ++ es) (tc_cf h k).2 then [] else [(t, r, es)]
def tc_two (fs : List tl_F) (h : tc_h) (c : Jvm.ClassFile.Cond) (f : tl_F) (t e : Nat) (r : List tv_V) : List tc_B := tc_w1 fs h 0 t r (tc_ct fs h 2 c f) ++ tc_w1 fs h 1 e r (tc_ct fs h 2 (tc_nc c) f)
def tc_eqs (f : tl_F) (z : Int) : List tl_F := [tl_ad f (-z), tl_ad (tl_neg f) z]
/-- the ways of a switch, from its k-th value on -/
def tc_sws (fs : List tl_F) (h : tc_h) (pc : Nat) (f : tl_F) (r : List tv_V) : Nat → List (Int × Int) → Option (List tc_B)
  | _, [] => some []
  | k, (z, off) :: q => (match tc_tg pc off, tc_sws fs h pc f r (k + 1) q with
    | some t, some bs => some (tc_w1 fs h k t r (tc_eqs f z) ++ bs)
    | _, _ => none)
def tc_tab (lo : Int) (offs : List Int) : Nat → List (Int × Int)
  | k => (List.range k).filterMap (fun (j : Nat) => (offs[j]?).map (fun o => (lo + (j : Int), o)))
/-- it is one of the numbers told: ints: which (1 ..), certificates behind the branches' -/
def tc_lsd (fs : List tl_F) (h : tc_h) (f : tl_F) (ps : List (Int × Int)) : Bool := match ps[(tc_hi h 0).toNat - 1]? with
  | some p => decide (0 < tc_hi h 0) && (tl_pr fs (tl_ad f (-p.1)) (tc_cf h (ps.length + 1)) && tl_pr fs (tl_ad (tl_neg f) p.1) (tc_cf h (ps.length + 2)))
  | none => false
def tc_br (i : Instr) (len pc : Nat) (fs : List tl_F) (h : tc_h) (S : List tv_V) : Option (List tc_B) := match i with
  | .goto off => if len = 3 then (tc_tg pc off).map (fun t => [(t, S, [])]) else none
  | .ifCond c off => (match S with
    | (0, f, _) :: r => if len = 3 then (tc_tg pc off).map (fun t => tc_two fs h c f t (pc + 3) r) else none
    | (5, f, _) :: r => if len = 3 then (tc_tg pc off).map (fun t => tc_two fs h c f t (pc + 3) r) else none
    | _ => none)
  | .if_icmp c off => (match S with
    | (0, b, _) :: (0, a, _) :: r => if len = 3 then (tc_tg pc off).map (fun t => tc_two fs h c (tl_sub a b) t (pc + 3) r) else none
    | _ => none)
  | .ifnull off => (match S with
    | (2, _, _) :: r => if len = 3 then some [(pc + 3, r, [])] else none
    | (3, _, _) :: r => if len = 3 then (tc_tg pc off).map (fun t => [(t, r, [])]) else none
    | _ => none)
  | .ifnonnull off => (match S with
    | (2, _, _) :: r => if len = 3 then (tc_tg pc off).map (fun t => [(t, r, [])]) else none
    | (3, _, _) :: r => if len = 3 then some [(pc + 3, r, [])] else none
    | _ => none)
  | .tableswitch dflt lo hi offs => (match S with
    | (0, f, _) :: r => (match tc_tg pc dflt, tc_sws fs h pc f r 2 (tc_tab lo offs.toList offs.size) with
      | some t, some bs => if hi = lo + (offs.size : Int) - 1 then some (tc_w1 fs h 0 t r [tl_ad (tl_neg f) (lo - 1)] ++ (tc_w1 fs h 1 t r [tl_ad f (-hi - 1)] ++ bs)) else none
      | _, _ => none)
    | _ => none)
  | .lookupswitch dflt ps => (match S with
    | (0, f, _) :: r => (match tc_tg pc dflt, tc_sws fs h pc f r 1 ps.toList with
      | some t, some bs => if (ps.toList.zip (ps.toList.drop 1)).all (fun (a, next) => a.1 < next.1) = true then some ((if tc_lsd fs h f ps.toList = true then [] else [(t, r, [])]) ++ bs) else none
      | _, _ => none)
    | _ => none)
  | _ => none
section TCJ
variable {V : Nat → Int} {A : Nat → Nat} {fs : List tl_F} {h : tc_h}
def tc_all (V : Nat → Int) (A : Nat → Nat) (bs : List tc_B) (K : Nat → List Value → Prop) : Prop := ∀ b ∈ bs, (∀ f ∈ b.2.2, 0 ≤ tl_v V f) → ∀ st, tc_st V A b.2.1 st → K b.1 st
theorem tc_w1_s (hf : ∀ f ∈ fs, 0 ≤ tl_v V f) {k t : Nat} {r : List tv_V} {es : List tl_F} (he : ∀ f ∈ es, 0 ≤ tl_v V f) {K : Nat → List Value → Prop} (hK : tc_all V A (tc_w1 fs h k t r es) K) {st : List Value} (hs : tc_st V A r st) : K t st := by
  unfold tc_w1 at hK
  split at hK
  · rename_i q
    refine (tl_no_s (V := V) q (fun f hm => ?_)).elim
    rcases List.mem_append.mp hm with hm | hm
    · exact hf f hm
    · exact he f hm
  · exact hK _ List.mem_cons_self he st hs
theorem tc_all_l {bs cs : List tc_B} {K : Nat → List Value → Prop} (hK : tc_all V A (bs ++ cs) K) : tc_all V A bs K := fun b hb => hK b (List.mem_append_left _ hb)
theorem tc_all_r {bs cs : List tc_B} {K : Nat → List Value → Prop} (hK : tc_all V A (bs ++ cs) K) : tc_all V A cs K := fun b hb => hK b (List.mem_append_right _ hb)
theorem tc_two_s (hf : ∀ f ∈ fs, 0 ≤ tl_v V f) {c : Jvm.ClassFile.Cond} {f : tl_F} {t e : Nat} {r : List tv_V} {K : Nat → List Value → Prop} (hK : tc_all V A (tc_two fs h c f t e r) K) {st : List Value} (hs : tc_st V A r st) : (tc_hc c (tl_v V f) → K t st) ∧ (¬ tc_hc c (tl_v V f) → K e st) :=
  ⟨fun q => tc_w1_s hf (tc_ct_s hf q) (tc_all_l hK) hs, fun q => tc_w1_s hf (tc_ct_s hf (tc_nc_s q)) (tc_all_r hK) hs⟩
theorem tc_eqs_s {f : tl_F} {z : Int} (hz : tl_v V f = z) : ∀ e ∈ tc_eqs f z, 0 ≤ tl_v V e := by
  intro e he
  rcases List.mem_cons.mp he with rfl | he
  · rw [tl_ad_s]
    omega
  · rcases List.mem_cons.mp he with rfl | he
    · rw [tl_ad_s, tl_neg_s]
      omega
    · cases he
theorem tc_sws_s (hf : ∀ f ∈ fs, 0 ≤ tl_v V f) {pc : Nat} {f : tl_F} {r : List tv_V} {K : Nat → List Value → Prop} {st : List Value} (hs : tc_st V A r st) : ∀ {k : Nat} {ps : List (Int × Int)} {bs : List tc_B}, tc_sws fs h pc f r k ps = some bs → tc_all V A bs K → ∀ z off, (z, off) ∈ ps → tl_v V f = z → am_tg pc off (fun t => K t st)
  | k, [], bs, _, _, z, off, hm, _ => by cases hm
  | k, (z1, o1) :: q, bs, g, hK, z, off, hm, hz => by
    unfold tc_sws at g
    split at g
    · rename_i t bs' h1 h2
      cases g
      rcases List.mem_cons.mp hm with e | hm
      · cases e
        exact tc_tg_s h1 (tc_w1_s hf (tc_eqs_s hz) (tc_all_l hK) hs)
      · exact tc_sws_s hf hs h2 (tc_all_r hK) z off hm hz
    · cases g
theorem tc_sws_d (hf : ∀ f ∈ fs, 0 ≤ tl_v V f) {pc : Nat} {f : tl_F} {r : List tv_V} {K : Nat → List Value → Prop} {st : List Value} (hs : tc_st V A r st) {d : Int} (hd : am_tg pc d (fun t => K t st)) : ∀ {k : Nat} {ps : List (Int × Int)} {bs : List tc_B}, tc_sws fs h pc f r k ps = some bs → tc_all V A bs K → ∀ z, tl_v V f = z → am_tg pc (Op.lookupswitch.offset ps d z) (fun t => K t st)
  | k, [], bs, _, _, z, _ => hd
  | k, (z1, o1) :: q, bs, g, hK, z, hz => by
    show am_tg pc (if z1 = z then o1 else Op.lookupswitch.offset q d z) _
    unfold tc_sws at g
    split at g
    · rename_i t bs' h1 h2
      cases g
      split
      · rename_i e
        subst e
        exact tc_tg_s h1 (tc_w1_s hf (tc_eqs_s hz) (tc_all_l hK) hs)
      · exact tc_sws_d hf hs hd h2 (tc_all_r hK) z hz
    · cases g
theorem tc_sws_e (hf : ∀ f ∈ fs, 0 ≤ tl_v V f) {pc : Nat} {f : tl_F} {r : List tv_V} {K : Nat → List Value → Prop} {st : List Value} (hs : tc_st V A r st) {d : Int} : ∀ {k : Nat} {ps : List (Int × Int)} {bs : List tc_B}, tc_sws fs h pc f r k ps = some bs → tc_all V A bs K → ∀ z, tl_v V f = z → (∃ o, (z, o) ∈ ps) → am_tg pc (Op.lookupswitch.offset ps d z) (fun t => K t st)
  | k, [], bs, _, _, z, _, ⟨o, ho⟩ => by cases ho
  | k, (z1, o1) :: q, bs, g, hK, z, hz, ⟨o, ho⟩ => by
    show am_tg pc (if z1 = z then o1 else Op.lookupswitch.offset q d z) _
    unfold tc_sws at g
    split at g
    · rename_i t bs' h1 h2
      cases g
      split
      · rename_i e
        subst e
        exact tc_tg_s h1 (tc_w1_s hf (tc_eqs_s hz) (tc_all_l hK) hs)
      · rename_i e
        refine tc_sws_e hf hs h2 (tc_all_r hK) z hz ⟨o, ?_⟩
        rcases List.mem_cons.mp ho with ho | ho
        · cases ho
          exact absurd rfl e
        · exact ho
    · cases g
theorem tc_lsd_s (hf : ∀ f ∈ fs, 0 ≤ tl_v V f) {f : tl_F} {ps : List (Int × Int)} (g : tc_lsd fs h f ps = true) : ∃ o, (tl_v V f, o) ∈ ps := by
  unfold tc_lsd at g
  split at g
  · rename_i p hp
    obtain ⟨-, g⟩ := (Bool.and_eq_true _ _).mp g
    obtain ⟨g1, g2⟩ := (Bool.and_eq_true _ _).mp g
    have p1 := tl_pr_s hf g1
    have p2 := tl_pr_s hf g2
    rw [tl_ad_s] at p1 p2
    rw [tl_neg_s] at p2
    have e : tl_v V f = p.1 := by omega
    refine ⟨p.2, ?_⟩
    rw [e]
    exact List.mem_of_getElem? hp
  · cases g
theorem tc_tab_s {lo : Int} {offs : List Int} {k j : Nat} (hj : j < k) {o : Int} (ho : offs[j]? = some o) : (lo + (j : Int), o) ∈ tc_tab lo offs k := by
  unfold tc_tab
  rw [List.mem_filterMap]
  exact ⟨j, List.mem_range.mpr hj, by rw [ho]; rfl⟩
set_option maxHeartbeats 2000000 in
theorem tc_br_s (hf : ∀ f ∈ fs, 0 ≤ tl_v V f) {i : Instr} {len pc : Nat} {S : List tv_V} {st : List Value} {bs : List tc_B} (hs : tc_st V A S st) (g : tc_br i len pc fs h S = some bs) {K : Nat → List Value → Prop} (hK : tc_all V A bs K) : am_br i len pc st K := by
  cases i with
  | goto off =>
    unfold tc_br at g
    dsimp only at g
    split at g
    · rename_i hl
      obtain ⟨t, h1, rfl⟩ := Option.map_eq_some_iff.mp g
      exact ⟨hl, tc_tg_s h1 (hK _ List.mem_cons_self (fun f hf => by cases hf) st hs)⟩
    · cases g
  | ifCond c off =>
    unfold tc_br at g
    dsimp only at g
    split at g
    · split at g
      · rename_i hl
        obtain ⟨t, h1, rfl⟩ := Option.map_eq_some_iff.mp g
        obtain ⟨v, s, rfl, ⟨x, rfl, hx⟩, e2⟩ := tc_st1 hs
        obtain ⟨k1, k2⟩ := tc_two_s hf hK e2
        have e := tc_c0_i (c := c) hx
        refine ⟨hl, x, s, rfl, ?_⟩
        exact tc_tg_s h1 ⟨fun q => k1 (e.mp q), fun q => k2 (fun q2 => q (e.mpr q2))⟩
      · cases g
    · split at g
      · rename_i hl
        obtain ⟨t, h1, rfl⟩ := Option.map_eq_some_iff.mp g
        obtain ⟨v, s, rfl, ⟨x, rfl, hx⟩, e2⟩ := tc_st1 hs
        obtain ⟨k1, k2⟩ := tc_two_s hf hK e2
        have e := tc_c0_s (c := c) hx
        refine ⟨hl, x, s, rfl, ?_⟩
        exact tc_tg_s h1 ⟨fun q => k1 (e.mp q), fun q => k2 (fun q2 => q (e.mpr q2))⟩
      · cases g
    · cases g
  | if_icmp c off =>
    unfold tc_br at g
    dsimp only at g
    split at g
    · split at g
      · rename_i hl
        obtain ⟨t, h1, rfl⟩ := Option.map_eq_some_iff.mp g
        obtain ⟨v, s, rfl, ⟨y, rfl, hy⟩, e2⟩ := tc_st1 hs
        obtain ⟨w, s, rfl, ⟨x, rfl, hx⟩, e4⟩ := tc_st1 e2
        obtain ⟨k1, k2⟩ := tc_two_s hf hK e4
        have e := tc_c2_s (c := c) (x := x) (y := y)
        rw [show x.toInt = _ from hx, show y.toInt = _ from hy, ← tl_sub_s] at e
        refine ⟨hl, y, x, s, rfl, ?_⟩
        exact tc_tg_s h1 ⟨fun q => k1 (e.mp q), fun q => k2 (fun q2 => q (e.mpr q2))⟩
      · cases g
    · cases g
  | ifnull off =>
    unfold tc_br at g
    dsimp only at g
    split at g
    · split at g
      · rename_i hl
        cases g
        obtain ⟨v, s, rfl, e1, e2⟩ := tc_st1 hs
        have e1 : v = .ref _ := e1
        subst e1
        exact ⟨hl, Or.inl ⟨_, s, rfl, hK _ List.mem_cons_self (fun f hf => by cases hf) s e2⟩⟩
      · cases g
    · split at g
      · rename_i hl
        obtain ⟨t, h1, rfl⟩ := Option.map_eq_some_iff.mp g
        obtain ⟨v, s, rfl, e1, e2⟩ := tc_st1 hs
        have e1 : v = .null := e1
        subst e1
        exact ⟨hl, Or.inr ⟨s, rfl, tc_tg_s h1 (hK _ List.mem_cons_self (fun f hf => by cases hf) s e2)⟩⟩
      · cases g
    · cases g
  | ifnonnull off =>
    unfold tc_br at g
    dsimp only at g
    split at g
    · split at g
      · rename_i hl
        obtain ⟨t, h1, rfl⟩ := Option.map_eq_some_iff.mp g
        obtain ⟨v, s, rfl, e1, e2⟩ := tc_st1 hs
        have e1 : v = .ref _ := e1
        subst e1
        exact ⟨hl, Or.inl ⟨_, s, rfl, tc_tg_s h1 (hK _ List.mem_cons_self (fun f hf => by cases hf) s e2)⟩⟩
      · cases g
    · split at g
      · rename_i hl
        cases g
        obtain ⟨v, s, rfl, e1, e2⟩ := tc_st1 hs
        have e1 : v = .null := e1
        subst e1
        exact ⟨hl, Or.inr ⟨s, rfl, hK _ List.mem_cons_self (fun f hf => by cases hf) s e2⟩⟩
      · cases g
    · cases g
  | tableswitch dflt lo hi offs =>
    unfold tc_br at g
    dsimp only at g
    split at g
    · split at g
      · rename_i t bs' h1 h2
        split at g
        · rename_i hh
          cases g
          obtain ⟨v, s, rfl, ⟨x, rfl, hx⟩, e2⟩ := tc_st1 hs
          dsimp only at hx
          refine ⟨x, s, rfl, fun q => ?_, fun q1 q2 => ?_⟩
          · rcases q with q | q
            · refine tc_tg_s h1 (tc_w1_s hf (fun f hm => ?_) (tc_all_l hK) e2)
              rcases List.mem_cons.mp hm with rfl | hm
              · rw [tl_ad_s, tl_neg_s]
                omega
              · cases hm
            · refine tc_tg_s h1 (tc_w1_s hf (fun f hm => ?_) (tc_all_l (tc_all_r hK)) e2)
              rcases List.mem_cons.mp hm with rfl | hm
              · rw [tl_ad_s]
                omega
              · cases hm
          · have hlt : (x.toInt - lo).toNat < offs.size := by omega
            have ho : offs[(x.toInt - lo).toNat]? = some offs[(x.toInt - lo).toNat] := Array.getElem?_eq_getElem hlt
            refine ⟨_, ho, tc_sws_s hf e2 h2 (tc_all_r (tc_all_r hK)) (lo + ((x.toInt - lo).toNat : Int)) _ (tc_tab_s hlt (by rw [Array.getElem?_toList]; exact ho)) (by rw [← hx]; omega)⟩
        · cases g
      · cases g
    · cases g
  | lookupswitch dflt ps =>
    unfold tc_br at g
    dsimp only at g
    split at g
    · rename_i f0 w0 r0
      split at g
      · rename_i t bs' h1 h2
        split at g
        · rename_i hh
          cases g
          obtain ⟨v, s, rfl, ⟨x, rfl, hx⟩, e2⟩ := tc_st1 hs
          dsimp only at hx
          refine ⟨x, s, rfl, hh, ?_⟩
          by_cases hl : tc_lsd fs h f0 ps.toList = true
          · exact tc_sws_e hf e2 h2 (fun b hb => hK b (List.mem_append_right _ hb)) _ hx.symm (by
              rw [hx]
              exact tc_lsd_s hf hl)
          · rw [if_neg hl] at hK
            exact tc_sws_d hf e2 (tc_tg_s h1 (hK _ (List.mem_append_left _ List.mem_cons_self) (fun f hf => by cases hf) s e2)) h2 (fun b hb => hK b (List.mem_append_right _ hb)) _ hx.symm
        · cases g
      · cases g
    · cases g
  | _ => cases g
end TCJ
