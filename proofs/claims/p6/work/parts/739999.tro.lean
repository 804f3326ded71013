/-! TC: what room is left is not below 0 -/
/-- each row's length is at most what is told of its kind -/
def rm_chk (T : tk_T) (S : rm_S) : Bool := S.all (fun p => decide (0 ≤ p.2.2) && match T[p.1]? with
  | some (0, _, _, _, _, _, O) => decide ((([(2 * p.2.1 + 1, -1)], p.2.2) : tl_F) ∈ O)
  | _ => false)
def rm_ln (M : am_H) (RO : am_O) (a : Nat) : Int := match M a with
  | some (.inl (_, x)) => (x.1 : Int)
  | some (.inr _) => 0
  | none => (match RO a with
    | some (n, _) => (n : Int)
    | none => 0)
theorem rm_ln_s {M : am_H} {RO : am_O} {a n : Nat} (h : tk_len M RO a n) : rm_ln M RO a = (n : Int) := by
  unfold rm_ln
  rcases h with ⟨t, x, h1, h2⟩ | ⟨h1, f, h2⟩
  · rw [h1, ← h2]
  · rw [h1, h2]
def rm_V (M : am_H) (RO : am_O) (vs : List Value) (i : Nat) : Int := if i % 2 = 0 then (match vs[i / 2]? with
  | some (.int x) => x.toInt
  | _ => 0) else (match vs[i / 2]? with
  | some (.ref a) => rm_ln M RO a
  | _ => 0)
theorem rm_V_s {M : am_H} {RO : am_O} {vs : List Value} : tk_nm M RO vs (rm_V M RO vs) := by
  intro i
  have e1 : 2 * i % 2 = 0 := by omega
  have e2 : 2 * i / 2 = i := by omega
  have e3 : ¬ (2 * i + 1) % 2 = 0 := by omega
  have e4 : (2 * i + 1) / 2 = i := by omega
  refine ⟨fun x h => ?_, fun a n h g => ?_⟩
  · unfold rm_V
    rw [if_pos e1, e2, h]
  · unfold rm_V
    rw [if_neg e3, e4, h]
    exact rm_ln_s g
theorem rm_v_pos {T : tk_T} {S : rm_S} {RO : am_O} {κ : Nat → Option Nat} {M : am_H} {sz : Nat} (hH : tk_H T RO κ M sz) (hS : rm_chk T S = true) (a : Nat) : 0 ≤ rm_v S κ M a := by
  unfold rm_v
  split
  · exact Int.le_refl _
  · rename_i k hk
    split
    · exact Int.le_refl _
    · rename_i p hp
      have hp1 : p ∈ S := List.mem_of_find?_eq_some hp
      have hp2 : p.1 = k := by
        have := List.find?_some hp
        simpa using this
      have c := List.all_eq_true.mp hS p hp1
      rw [Bool.and_eq_true] at c
      obtain ⟨c1, c2⟩ := c
      have c1 := of_decide_eq_true c1
      split
      · rename_i ci vs hM
        split
        · rename_i b hb
          split
          · have g : rm_len M b ≤ p.2.2 := by
              obtain ⟨_, K, hK, hc⟩ := hH a k hk
              rw [hp2, hK] at c2
              split at c2
              · rename_i ci' fs E lo hi O hKe
                cases hKe
                have c2 := of_decide_eq_true c2
                obtain ⟨vs', g1, _, g3⟩ := hc
                rw [hM] at g1
                cases g1
                have g4 := g3 (rm_V M RO vs) rm_V_s _ c2
                simp only [tl_v, tl_s] at g4
                unfold rm_len
                split
                · rename_i t x hb2
                  have q : rm_V M RO vs (2 * p.2.1 + 1) = (x.1 : Int) := (rm_V_s (M := M) (RO := RO) (vs := vs) p.2.1).2 b x.1 hb (.inl ⟨_, _, hb2, rfl⟩)
                  rw [q] at g4
                  omega
                · exact c1
              · cases c2
            omega
          · omega
        · omega
      · omega
theorem rm_s_pos {f : Nat → Int} (h : ∀ a, 0 ≤ f a) : ∀ l : List Nat, 0 ≤ rm_s f l
  | [] => Int.le_refl _
  | a :: l => by
    have h1 := h a
    have h2 := rm_s_pos h l
    show 0 ≤ f a + rm_s f l
    omega
def rm_pos (t : Nat) : tc_Lm := ((1, 0), ([], [], [], [], [], [], [(8 * t, [], [ql_n 0])]), (1, 0), ([ql_n 0], [], [], [], [], [], []))
theorem rm_pos_ok {l : List ga_S} {t : Nat} {S : rm_S} {RO : am_O} {T : tk_T} (h : l[t]? = some (rm_a S)) (hS : rm_chk T S = true) : tc_lmt (tg_of l) RO T (rm_pos t) := by
  intro V A κ M sz hH hsz hx
  refine ⟨V, A, fun _ _ => rfl, fun _ _ => rfl, ?_⟩
  have g8 := (tg_at0 h).mp (hx.2.2.2.2.2.2.2 _ List.mem_cons_self)
  have g8 : ∃ L : List Nat, L.Nodup ∧ (∀ a k, κ a = some k → k ∈ S.map (fun p => p.1) → a ∈ L) ∧ rm_s (rm_v S κ M) L ≤ tl_v V (ql_n 0) := g8
  obtain ⟨L, _, _, g3⟩ := g8
  have g4 := rm_s_pos (rm_v_pos hH hS) L
  refine ⟨fun f q => ?_, fun _ q => (List.not_mem_nil q).elim, fun _ q => (List.not_mem_nil q).elim, fun _ q => (List.not_mem_nil q).elim, fun _ q => (List.not_mem_nil q).elim, fun _ q => (List.not_mem_nil q).elim, trivial, fun _ q => (List.not_mem_nil q).elim⟩
  rcases List.mem_cons.mp q with rfl | q
  · exact Int.le_trans g4 g3
  · cases q
