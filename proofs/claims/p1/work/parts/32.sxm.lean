/-! SX: memory: the newest first; arrays by what was written to them -/
abbrev sx_W : Type := List (Nat × Term)
abbrev sx_C : Type := (Nat × Nat × sx_W) ⊕ (Nat × List Term)
abbrev sx_M : Type := List sx_C
def sx_gt (w : sx_W) (j : Nat) (d : Term) : Term := match w.find? (fun q => q.1 == j) with
  | some q => q.2
  | none => d
def sx_pt (w : sx_W) (j : Nat) (v : Term) : sx_W := (j, v) :: w.filter (fun q => !(q.1 == j))
theorem sx_gt_pt (w : sx_W) (j : Nat) (v d : Term) (k : Nat) : sx_gt (sx_pt w j v) k d = if k = j then v else sx_gt w k d := by
  unfold sx_gt sx_pt
  rw [List.find?_cons]
  by_cases h : k = j
  · subst h
    simp
  · have h1 : (j == k) = false := by simpa using fun e => h e.symm
    simp only [h1, if_neg h]
    rw [List.find?_filter]
    have e : (fun q : Nat × Term => (!(q.1 == j)) = true ∧ (q.1 == k) = true) = fun q => (q.1 == k) = true := by
      funext q
      apply propext
      refine ⟨fun a => a.2, fun a => ⟨?_, a⟩⟩
      have : q.1 = k := by simpa using a
      simpa [this] using h
    have e2 : (fun a : Nat × Term => decide ((!(a.1 == j)) = true ∧ (a.1 == k) = true)) = fun q => q.1 == k := by
      funext q
      have := congrFun e q
      simp only [this]
      by_cases hh : q.1 = k
      · simp [hh]
      · simp [hh]
    first | rw [e2] | simp only [e2]
def sx_rf (E : sx_E) (t : Term) : Option Nat := if sx_k t = 2 then some (sx_a E t) else none
def sx_arr (E : sx_E) (t n : Nat) (w : sx_W) : vp_A := match t with
  | 0 => (n, .inl (fun j => (sx_d E (sx_gt w j (.int 0))).1))
  | 1 => (n, .inr (.inl (fun j => (sx_d E (sx_gt w j (.long 0))).2)))
  | 2 => (n, .inl (fun j => (sx_d E (sx_gt w j (.int 0))).1))
  | _ => (n, .inr (.inr (.inr (.inr (fun j => sx_rf E (sx_gt w j .null))))))
def sx_cell (E : sx_E) (c : sx_C) : am_E := match c with
  | .inl (t, n, w) => .inl (t, sx_arr E t n w)
  | .inr (ci, fs) => .inr (ci, fs.map (sx_v E))
def sx_mem (E : sx_E) (Ms : sx_M) : am_H := fun q => if q < E.1 then none else (Ms.reverse[q - E.1]?).map (sx_cell E)
def sx_at (n : Nat) (Ms : sx_M) (k : Nat) : Option sx_C := if k < n then Ms[n - 1 - k]? else none
theorem sx_at_s {E : sx_E} {Ms : sx_M} {k : Nat} {c : sx_C} (h : sx_at Ms.length Ms k = some c) : sx_mem E Ms (E.1 + k) = some (sx_cell E c) := by
  unfold sx_at at h
  split at h
  · rename_i hk
    unfold sx_mem
    rw [if_neg (by omega), Nat.add_sub_cancel_left, List.getElem?_reverse hk, h]
    rfl
  · cases h
def sx_up (n : Nat) (Ms : sx_M) (k : Nat) (c : sx_C) : sx_M := Ms.set (n - 1 - k) c
theorem sx_up_len {n : Nat} {Ms : sx_M} {k : Nat} {c : sx_C} : (sx_up n Ms k c).length = Ms.length := by
  unfold sx_up
  rw [List.length_set]
theorem sx_up_s {E : sx_E} {Ms : sx_M} {k : Nat} {c0 c : sx_C} (h : sx_at Ms.length Ms k = some c0) : sx_mem E (sx_up Ms.length Ms k c) = am_set (sx_mem E Ms) (E.1 + k) (sx_cell E c) := by
  unfold sx_at at h
  split at h
  · rename_i hk
    funext q
    unfold am_set
    by_cases hq : q = E.1 + k
    · rw [if_pos hq, hq]
      apply sx_at_s
      unfold sx_at
      rw [sx_up_len, if_pos hk]
      unfold sx_up
      rw [List.getElem?_set_self (by omega)]
    · rw [if_neg hq]
      unfold sx_mem
      split
      · rfl
      · rename_i hge
        congr 1
        by_cases hl : q - E.1 < Ms.length
        · rw [List.getElem?_reverse hl, List.getElem?_reverse (by rw [sx_up_len]; exact hl), sx_up_len]
          unfold sx_up
          rw [List.getElem?_set_ne (by omega)]
        · rw [List.getElem?_eq_none (by rw [List.length_reverse, sx_up_len]; omega), List.getElem?_eq_none (by rw [List.length_reverse]; omega)]
  · cases h
theorem sx_new_s {E : sx_E} {Ms : sx_M} {c : sx_C} : sx_mem E (c :: Ms) = am_set (sx_mem E Ms) (E.1 + Ms.length) (sx_cell E c) := by
  funext q
  unfold am_set sx_mem
  by_cases hq : q = E.1 + Ms.length
  · rw [if_pos hq, hq, if_neg (by omega), Nat.add_sub_cancel_left, List.reverse_cons, List.getElem?_append_right (by rw [List.length_reverse]; omega), List.length_reverse, Nat.sub_self]
    rfl
  · rw [if_neg hq]
    split
    · rfl
    · rw [List.reverse_cons]
      congr 1
      by_cases hl : q - E.1 < Ms.length
      · rw [List.getElem?_append_left (by rw [List.length_reverse]; exact hl)]
      · rw [List.getElem?_eq_none (by rw [List.length_append, List.length_reverse]; show Ms.length + 1 ≤ _; omega), List.getElem?_eq_none (by rw [List.length_reverse]; omega)]
theorem sx_out {E : sx_E} {Ms : sx_M} {q : Nat} (h : q < E.1) : sx_mem E Ms q = none := by
  unfold sx_mem
  rw [if_pos h]
/-- arrays: what is read, what is written -/
theorem sx_cell_r {E : sx_E} {t n : Nat} {w : sx_W} (h : 3 ≤ t) : sx_cell E (.inl (t, n, w)) = am_qa t n (fun j => sx_rf E (sx_gt w j .null)) := by
  unfold sx_cell sx_arr am_qa
  match t, h with
  | t + 3, _ => rfl
theorem sx_cell_i {E : sx_E} {t n : Nat} {w : sx_W} (h : t = 0 ∨ t = 2) : sx_cell E (.inl (t, n, w)) = .inl (t, n, .inl (fun j => (sx_d E (sx_gt w j (.int 0))).1)) := by
  rcases h with rfl | rfl <;> rfl
theorem sx_cell_j {E : sx_E} {n : Nat} {w : sx_W} : sx_cell E (.inl (1, n, w)) = .inl (1, n, .inr (.inl (fun j => (sx_d E (sx_gt w j (.long 0))).2))) := rfl
theorem sx_cell_n {E : sx_E} {t n : Nat} {w : sx_W} : ∃ x : vp_A, sx_cell E (.inl (t, n, w)) = .inl (t, x) ∧ x.1 = n := by
  refine ⟨sx_arr E t n w, rfl, ?_⟩
  unfold sx_arr
  split <;> rfl
theorem sx_w_i {E : sx_E} {w : sx_W} {j : Nat} {v : Term} : (fun k => (sx_d E (sx_gt (sx_pt w j v) k (.int 0))).1) = upd (fun k => (sx_d E (sx_gt w k (.int 0))).1) j (sx_d E v).1 := by
  funext k
  unfold upd
  rw [sx_gt_pt]
  split <;> rfl
theorem sx_w_j {E : sx_E} {w : sx_W} {j : Nat} {v : Term} : (fun k => (sx_d E (sx_gt (sx_pt w j v) k (.long 0))).2) = vp_updL (fun k => (sx_d E (sx_gt w k (.long 0))).2) j (sx_d E v).2 := by
  funext k
  unfold vp_updL
  rw [sx_gt_pt]
  split <;> rfl
theorem sx_w_r {E : sx_E} {w : sx_W} {j : Nat} {v : Term} : (fun k => sx_rf E (sx_gt (sx_pt w j v) k .null)) = va_up (fun k => sx_rf E (sx_gt w k .null)) j (sx_rf E v) := by
  funext k
  unfold va_up
  rw [sx_gt_pt]
  split <;> rfl
