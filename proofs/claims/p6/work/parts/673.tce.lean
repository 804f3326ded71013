/-! TC: an element's value, without a step -/
/-- hint: ints: a row's name, remainder; forms: quotient (as a reading's), index; certificates 0, 1 -/
def tc_ge (T : tk_T) (n0 m0 : Nat) (h : tc_h) (G : tc_G) : Option (List tc_G) := match G with
  | ((n, m), X, pc, L, S, zq, lq) => match (tc_kd X (tc_hi h 1).toNat).bind (fun k => T[k]?) with
    | some (1, t, fs, E, lo, hi, O) => if ((tc_wf n0 m0 G && decide ((tc_hi h 1).toNat < m)) && (tl_lt n (tc_hf h 1) && tc_ixc X h 0 (tc_hi h 1).toNat (tc_hf h 1))) = true then
        some [((n + 1, m), tc_xel (tc_xa X (tl_bt (tl_nm n) (-2147483648) 2147483647 ++ tc_ebf E h (tc_hf h 1) (tl_nm n))) ((tc_hi h 1).toNat, tc_hf h 1, tl_nm n), pc, L, S, zq, lq)] else none
    | _ => none
theorem tc_ge_s {D : tc_D} {h : tc_h} {G : tc_G} {Gs : List tc_G} (g : tc_ge D.2.2.1.1 D.2.2.2.2.2.1 D.2.2.2.2.2.2.1 h G = some Gs) (hG : ∀ G' ∈ Gs, tc_Ok D G') : tc_Ok D G := by
  obtain ⟨⟨n, m⟩, X, pc, L, S, zq, lq⟩ := G
  intro V A κ M sz sl lv st hr hH hz hx hl hs hq
  unfold tc_ge at g
  dsimp only at g
  split at g
  · rename_i t fs E lo hi O hK
    split at g
    · rename_i hc
      cases g
      obtain ⟨hc1, hc2⟩ := tc_and hc
      obtain ⟨hwf, hm⟩ := tc_and hc1
      obtain ⟨hI, hix⟩ := tc_and hc2
      have hm : (tc_hi h 1).toNat < m := of_decide_eq_true hm
      obtain ⟨N, f, c1, c2, c3⟩ := tc_kT hx hH hK
      obtain ⟨j, j1, j2⟩ := tc_ixc_s hx hix (Or.inl ⟨t, (N, .inl f), c1, rfl⟩)
      obtain ⟨hwx, -⟩ := tc_wfx hwf
      obtain ⟨V', k1, k2, -⟩ := tc_rd_el (hh := h) hx hwx hm hI (Or.inl c1) j1 j2 (c3 j j2)
      obtain ⟨p1, p2, p3, p4, -⟩ := tc_sh hwf k1 (A' := A) (fun _ _ => rfl) hr hl hs hq
      exact hG _ List.mem_cons_self V' A κ M sz sl lv st p1 hH hz k2 p2 p3 p4
    · cases g
  · cases g
