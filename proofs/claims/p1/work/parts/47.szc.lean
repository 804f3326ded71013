/-! SZ: the checker of a run: stretches, names, questions, contradictions, powers -/
/-- a long compared with itself -/
def sz_lc (a b : Term) : Bool := match a with
  | .op2 o x y => decide (o = .lcmp) && (sz_te x y && sz_te b (.int 0))
  | _ => false
/-- less by one, and less -/
def sz_p1 (tr : Bool) (a b : Term) (r : List sx_Q) : Bool := match a with
  | .sub c (.int o) => sx_ie o 1 && (decide (-2147483648 < (sz_rg r c).1) && r.any (fun p => (p.1 == tr) && ((p.2.1 == 0) && (sz_te p.2.2.1 b && sz_te p.2.2.2 c))))
  | _ => false
theorem sz_p1_s {E : sx_E} {r : List sx_Q} (hc : ∀ q ∈ r, sx_h E q) {tr : Bool} {a b : Term} (h : sz_p1 tr a b r = true) (hq : decide ((sx_d E a).1 < (sx_d E b).1) = tr) : False := by
  unfold sz_p1 at h
  split at h
  · rename_i c o
    simp only [Bool.and_eq_true] at h
    obtain ⟨h1, h2, h3⟩ := h
    obtain ⟨p, hp, h4⟩ := List.any_eq_true.mp h3
    simp only [Bool.and_eq_true] at h4
    obtain ⟨h5, h6, h7, h8⟩ := h4
    have h9 := hc p hp
    unfold sx_h sx_hq at h9
    rw [eq_of_beq h5, eq_of_beq h6, (sz_te_s E _ _ h7).2, (sz_te_s E _ _ h8).2, if_pos rfl] at h9
    have h10 := (sz_rg_s hc c).1
    have h11 := of_decide_eq_true h2
    have h12 := Int32.toInt_lt (sx_d E c).1
    have e : (sx_d E (.sub c (.int o))).1.toInt = ((sx_d E c).1.toInt - 1).bmod (2 ^ 32) := by
      rw [sx_ie_s h1]
      exact Int32.toInt_sub _ _
    rw [Int.bmod_eq_of_le (by omega) (by omega)] at e
    cases tr with
    | true =>
      have g1 := of_decide_eq_true hq
      have g2 := of_decide_eq_true h9
      rw [Int32.lt_iff_toInt_lt] at g1 g2
      omega
    | false =>
      have g1 := of_decide_eq_false hq
      have g2 := of_decide_eq_false h9
      rw [Int32.lt_iff_toInt_lt] at g1 g2
      omega
  · cases h
/-- the newest condition can't be -/
def sz_abs (cs : List sx_Q) : Bool := match cs with
  | [] => false
  | (tr, k, a, b) :: r => if k = 0 then sz_p1 tr a b r || (if tr then (decide ((sz_rg r b).2 ≤ (sz_rg r a).1) || sz_te a b) else decide ((sz_rg r a).2 < (sz_rg r b).1))
      else (if tr then decide ((sz_rg r a).2 < (sz_rg r b).1 ∨ (sz_rg r b).2 < (sz_rg r a).1) else sz_lc a b)
theorem sz_abs_s {E : sx_E} {cs : List sx_Q} (h : sz_abs cs = true) (hc : ∀ q ∈ cs, sx_h E q) : False := by
  unfold sz_abs at h
  split at h
  · cases h
  · rename_i tr k a b r
    have hr : ∀ q ∈ r, sx_h E q := fun q hq => hc q (List.mem_cons_of_mem _ hq)
    have hq := hc _ List.mem_cons_self
    obtain ⟨a1, a2⟩ := sz_rg_s hr a
    obtain ⟨b1, b2⟩ := sz_rg_s hr b
    unfold sx_h sx_hq at hq
    dsimp only at hq
    split at h
    · rename_i hk
      rw [if_pos hk] at hq
      rw [Bool.or_eq_true] at h
      rcases h with h | h
      · exact sz_p1_s hr h hq
      split at h
      · rename_i ht
        rw [ht] at hq
        have h2 := of_decide_eq_true hq
        rw [Int32.lt_iff_toInt_lt] at h2
        rw [Bool.or_eq_true] at h
        rcases h with h | h
        · have h1 := of_decide_eq_true h
          omega
        · rw [(sz_te_s E a b h).2] at h2
          omega
      · rename_i ht
        have ht2 : tr = false := by simpa using ht
        rw [ht2] at hq
        have h1 := of_decide_eq_true h
        have h2 := of_decide_eq_false hq
        rw [Int32.lt_iff_toInt_lt] at h2
        omega
    · rename_i hk
      rw [if_neg hk] at hq
      split at h
      · rename_i ht
        rw [ht] at hq
        have h1 := of_decide_eq_true h
        have h2 := of_decide_eq_true hq
        rw [h2] at a1 a2
        omega
      · rename_i ht
        have ht2 : tr = false := by simpa using ht
        rw [ht2] at hq
        have h2 := of_decide_eq_false hq
        unfold sz_lc at h
        split at h
        · rename_i o x y
          rw [Bool.and_eq_true, Bool.and_eq_true] at h
          have e : o = .lcmp := of_decide_eq_true h.1
          subst e
          apply h2
          rw [(sz_te_s E b _ h.2.2).2]
          show lg_cmp (sx_d E x).2 (sx_d E y).2 = 0
          rw [(sz_te_s E x _ h.2.1).2]
          unfold lg_cmp
          rw [if_neg (by rw [gt_iff_lt, Int64.lt_iff_toInt_lt]; omega), if_pos rfl]
        · cases h
/-- the top may have this name -/
def sz_rc (D : Nat → Option sz_D) (k : Nat) (t : Term) : Bool := (match D k with
  | some d => (d.1 == 0) && ((sx_k t == 0) && (sz_te t d.2.1 || ((sx_k d.2.1 == 0) && sz_eq t d.2.1)))
  | none => false) || sz_eq t (.string "" k)
/-- the top gets its name -/
def sz_rn (D : Nat → Option sz_D) (k : Nat) (c : sx_G) : Option sx_G := match c with
  | (cs, y, pc, lv, t :: st, fs, Ms, n, sl) => if sz_rc D k t = true then some (cs, y, pc, lv, .string "" k :: st, fs, Ms, n, sl) else none
  | _ => none
/-- a power is told by its name -/
def sz_pw (PW : Nat → Int32 → Bool) (D : Nat → Option sz_D) (k : Nat) (c : sx_G) : Option sx_G := match c with
  | (cs, z, 0, [(0, tb), (2, te), (3, .int m)], [], (y, pc, lv, st) :: fs, Ms, n, sl) => (match D k with
    | some (1, b, e, .int m2) => (match sx_ai tb with
      | some tb2 => if PW z m && ((sx_k tb == 1) && ((sx_k te == 0) && (sx_ie m m2 && (sz_te tb2 b && (sz_te te e && (decide (0 ≤ (sz_rg cs tb2).1) && decide (2 ≤ m))))))) then some (cs, y, pc, lv, .op2 .iand (.string "" k) (.int 2147483647) :: st, fs, Ms, n, sl) else none
      | none => none)
    | _ => none)
  | _ => none
/-- what a power's method does -/
def sz_PW (P : am_P) (RO : am_O) (sa : Nat → Nat) (PW : Nat → Int32 → Bool) : Prop := ∀ z m, PW z m = true → ∀ (b e : Int32) (M : am_H) (sz sl : Nat) (Q : am_Q), 0 ≤ b → 2 ≤ m → Q (some (.int (pwF b e m))) M sz sl → ∃ k, am_W (sx_P P sa) RO k z 0 [(0, .long b.toInt64), (2, .int e), (3, .int m)] [] M sz sl Q
theorem pwF_r (b e m : Int32) (h : 2 ≤ m) : 0 ≤ (pwF b e m).toInt ∧ (pwF b e m).toInt < m.toInt ∧ (pwF b e m).toInt = ((b.toNatClampNeg ^ (e.toBitVec.toNat % 2147483648) % m.toNatClampNeg : Nat) : Int) := by
  have h1 : (2 : Int) ≤ m.toInt := by simpa using Int32.le_iff_toInt_le.mp h
  have h2 : (m.toNatClampNeg : Int) = m.toInt := by
    show ((m.toInt.toNat : Nat) : Int) = m.toInt
    omega
  have h3 := Int32.toInt_lt m
  have h4 : b.toNatClampNeg ^ (e.toBitVec.toNat % 2147483648) % m.toNatClampNeg < m.toNatClampNeg := Nat.mod_lt _ (by omega)
  have h5 : (pwF b e m).toInt = ((b.toNatClampNeg ^ (e.toBitVec.toNat % 2147483648) % m.toNatClampNeg : Nat) : Int) := by
    unfold pwF
    generalize b.toNatClampNeg ^ (e.toBitVec.toNat % 2147483648) % m.toNatClampNeg = x at h4
    rw [Int32.toInt_ofNat_of_lt (by omega)]
  refine ⟨?_, ?_, h5⟩
  · rw [h5]
    exact Int.natCast_nonneg _
  · rw [h5]
    omega
theorem sz_msk (x : Int32) (h : 0 ≤ x.toInt) : x &&& 2147483647 = x := by
  apply Int32.toBitVec_inj.mp
  apply BitVec.eq_of_getLsbD_eq
  intro j hj
  rw [Int32.toBitVec_and, BitVec.getLsbD_and]
  have e : ∀ j, j < 31 → (2147483647 : Int32).toBitVec.getLsbD j = true := by decide +kernel
  by_cases h1 : j < 31
  · rw [e j h1, Bool.and_true]
  · have e2 : j = 31 := by omega
    subst e2
    have e3 : (2147483647 : Int32).toBitVec.getLsbD 31 = false := by decide +kernel
    have e4 : x.toBitVec.getLsbD 31 = false := by
      have : x.toBitVec.msb = false := by
        rw [BitVec.msb_eq_toInt]
        have e5 : x.toBitVec.toInt = x.toInt := rfl
        rw [e5]
        simp
        omega
      rw [BitVec.msb_eq_getLsbD_last] at this
      exact this
    rw [e3, e4]
    rfl
/-- 0 a stretch, 1 a name, 2 a question, 3 a contradiction, 4 an end, 5 a power, 6 conditions forgotten, 7 a known place, 8 a known place with free names -/
def sz_ck (mm : Nat → Option am_Meth) (P : am_P) (ins : sx_Ins) (rt : sx_R) (fin : Option Term → Nat → Nat → Bool) (PW : Nat → Int32 → Bool) (D : Nat → Option sz_D) (tg : Nat → sx_G) (fam : Nat → sx_G) : Nat → List (Nat × Nat) → sx_G → Option (List (Nat × Nat))
  | 0, _, _ => none
  | _ + 1, [], _ => none
  | f + 1, (o, a) :: hs, c => match o with
    | 0 => (match sy_go mm P ins rt a c with
      | some c' => sz_ck mm P ins rt fin PW D tg fam f hs c'
      | none => none)
    | 1 => (match sz_rn D a c with
      | some c' => sz_ck mm P ins rt fin PW D tg fam f hs c'
      | none => none)
    | 2 => (match sy_one mm P ins rt c with
      | some (.inr (.inl q)) => (match sz_ck mm P ins rt fin PW D tg fam f hs (sx_ask c true q) with
        | some hs' => sz_ck mm P ins rt fin PW D tg fam f hs' (sx_ask c false q)
        | none => none)
      | _ => none)
    | 3 => if sz_abs c.1 then some hs else none
    | 4 => (match sy_one mm P ins rt c with
      | some (.inr (.inr (o, n, sl))) => if fin o n sl then some hs else none
      | _ => none)
    | 5 => (match sz_pw PW D a c with
      | some c' => sz_ck mm P ins rt fin PW D tg fam f hs c'
      | none => none)
    | 6 => sz_ck mm P ins rt fin PW D tg fam f hs (c.1.drop a, c.2)
    | 7 => if sx_gd c (tg a) then some hs else none
    | 8 => if sz_fm c (fam a) then some hs else none
    | _ => none
section SZC
variable {mm : Nat → Option am_Meth} {P : am_P} {ins : sx_Ins} {rt : sx_R} {E : sx_E} {RO : am_O} {sa : Nat → Nat} {Q : am_Q}
theorem sz_rn_s {D : Nat → Option sz_D} (hD : sz_ok E D) {k : Nat} {c c' : sx_G} (h : sz_rn D k c = some c') (g : sx_Ok P RO sa E Q c') : sx_Ok P RO sa E Q c := by
  unfold sz_rn at h
  split at h
  · rename_i cs y pc lv t st fs Ms n sl
    split at h
    · rename_i h1
      cases h
      have e : sx_v E t = sx_v E (.string "" k) := by
        unfold sz_rc at h1
        rw [Bool.or_eq_true] at h1
        rcases h1 with h1 | h1
        · split at h1
          · rename_i d hd
            rw [Bool.and_eq_true, Bool.and_eq_true] at h1
            obtain ⟨h2, h3, h4⟩ := h1
            have h5 := hD k d hd
            unfold sz_val at h5
            rw [if_pos (eq_of_beq h2)] at h5
            rw [sx_v0 (eq_of_beq h3), sx_v0 (show sx_k (.string "" k) = 0 from rfl)]
            show Value.int (sx_d E t).1 = Value.int (E.2.2 k)
            rw [h5]
            rw [Bool.or_eq_true] at h4
            rcases h4 with h4 | h4
            · rw [(sz_te_s E t _ h4).2]
            · rw [Bool.and_eq_true] at h4
              rw [(sz_eq_s (E := E) h4.2).2.2]
          · cases h1
        · obtain ⟨h2, h3, h4⟩ := sz_eq_s (E := E) h1
          rw [sx_v0 h2, sx_v0 h3, h4]
      intro hn hc
      have g2 := g hn hc
      rw [List.map_cons, e]
      exact g2
    · cases h
  · cases h
theorem sz_ai_k {t a : Term} (h : sx_ai t = some a) (hk : sx_k t = 1) : sx_v E t = .long (sx_d E a).1.toInt64 := by
  rw [sx_v1 hk, sx_ai_s h]
theorem sz_pw_s {PW : Nat → Int32 → Bool} {D : Nat → Option sz_D} (hD : sz_ok E D) (hp : sz_PW P RO sa PW) {k : Nat} {c c' : sx_G} (h : sz_pw PW D k c = some c') (g : sx_Ok P RO sa E Q c') : sx_Ok P RO sa E Q c := by
  unfold sz_pw at h
  split at h
  · rename_i cs z tb te m y pc lv st fs Ms n sl
    split at h
    · rename_i b e m2 hd
      split at h
      · rename_i tb2 hai
        split at h
        · rename_i h1
          cases h
          simp only [Bool.and_eq_true] at h1
          obtain ⟨h1, h2, h3, h4, h5, h6, h7, h8⟩ := h1
          intro hn hc
          have hv := hD k _ hd
          have h9 : pwF (sx_d E tb2).1 (sx_d E te).1 m = E.2.2 k := by
            rw [hv]
            unfold sz_val
            rw [if_neg (fun h : (1 : Nat) = 0 => absurd h (by decide)), (sz_te_s E tb2 _ h5).2, (sz_te_s E te _ h6).2, sx_ie_s h4]
            rfl
          have hb0 : 0 ≤ (sx_d E tb2).1 := by
            rw [Int32.le_iff_toInt_le]
            have := (sz_rg_s hc tb2).1
            have h10 := of_decide_eq_true h7
            show (0 : Int) ≤ _
            omega
          have hm : 2 ≤ m := of_decide_eq_true h8
          have g2 := g hn hc
          have hr := pwF_r (sx_d E tb2).1 (sx_d E te).1 m hm
          have e1 : sx_v E (.op2 .iand (.string "" k) (.int 2147483647)) = .int (pwF (sx_d E tb2).1 (sx_d E te).1 m) := by
            show Value.int (E.2.2 k &&& 2147483647) = _
            rw [← h9, sz_msk _ hr.1]
          have e2 : sx_lv E [(0, tb), (2, te), (3, .int m)] = [(0, .long (sx_d E tb2).1.toInt64), (2, .int (sx_d E te).1), (3, .int m)] := by
            show [(0, sx_v E tb), (2, sx_v E te), (3, sx_v E (.int m))] = _
            rw [sz_ai_k hai (eq_of_beq h2), sx_v0 (eq_of_beq h3)]
            rfl
          rw [e2]
          refine hp z m h1 _ _ _ _ _ _ hb0 hm ?_
          rw [List.map_cons, e1] at g2
          exact g2
        · cases h
      · cases h
    · cases h
  · cases h
theorem sz_ck_s (hf : sy_mm mm P) (hins : sx_insOk P ins) (hok : sx_ok E rt RO sa) {fin : Option Term → Nat → Nat → Bool} (hfin : ∀ (o : Option Term) (Ms : sx_M) (sl : Nat), fin o Ms.length sl = true → Q (o.map (sx_v E)) (sx_mem E Ms) (E.1 + Ms.length) sl) {PW : Nat → Int32 → Bool} {D : Nat → Option sz_D} (hD : sz_ok E D) (hp : sz_PW P RO sa PW) {tg : Nat → sx_G} (ht : ∀ a, sx_Ok P RO sa E Q (tg a)) {fam : Nat → sx_G} (hfm : ∀ (a : Nat) (xs : Nat → Int32), (∀ k, (k < 8 ∨ 40 ≤ k) → xs k = E.2.2 k) → sx_Ok P RO sa (E.1, E.2.1, xs) Q (fam a)) :
    ∀ (f : Nat) (hs : List (Nat × Nat)) (c : sx_G) (r : List (Nat × Nat)), sz_ck mm P ins rt fin PW D tg fam f hs c = some r → sx_Ok P RO sa E Q c
  | 0, hs, c, r, h => by
    unfold sz_ck at h
    cases h
  | f + 1, [], c, r, h => by
    unfold sz_ck at h
    cases h
  | f + 1, (o, a) :: hs, c, r, h => by
    unfold sz_ck at h
    split at h
    · split at h
      · rename_i c2 h1
        exact sy_Ok_go hf hins hok h1 (sz_ck_s hf hins hok hfin hD hp ht hfm f hs c2 r h)
      · cases h
    · split at h
      · rename_i c2 h1
        exact sz_rn_s hD h1 (sz_ck_s hf hins hok hfin hD hp ht hfm f hs c2 r h)
      · cases h
    · split at h
      · rename_i q h1
        split at h
        · rename_i hs2 h2
          exact sx_Ok_ask (sz_ck_s hf hins hok hfin hD hp ht hfm f hs _ _ h2) (sz_ck_s hf hins hok hfin hD hp ht hfm f hs2 _ _ h)
        · cases h
      · cases h
    · split at h
      · rename_i h1
        obtain ⟨cs, y, pc, lv, st, fs, Ms, n, sl⟩ := c
        intro hn hc
        exact (sz_abs_s h1 hc).elim
      · cases h
    · split at h
      · rename_i o2 n2 sl2 h1
        split at h
        · rename_i h2
          exact sy_Ok_end hf hins hfin h1 h2
        · cases h
      · cases h
    · split at h
      · rename_i c2 h1
        exact sz_pw_s hD hp h1 (sz_ck_s hf hins hok hfin hD hp ht hfm f hs c2 r h)
      · cases h
    · have g := sz_ck_s hf hins hok hfin hD hp ht hfm f hs _ r h
      obtain ⟨cs, y, pc, lv, st, fs, Ms, n, sl⟩ := c
      intro hn hc
      exact g hn (fun q hq => hc q (List.mem_of_mem_drop hq))
    · split at h
      · rename_i h1
        have g := ht a
        rw [← sx_gd_s h1] at g
        exact g
      · cases h
    · split at h
      · rename_i h1
        exact sz_fm_s h1 (hfm a)
      · cases h
    · cases h
end SZC
