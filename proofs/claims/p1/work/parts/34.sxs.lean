/-! SX: instructions on memory are AM's -/
section SXS
variable {P : am_P} {E : sx_E} {rt : sx_R} {RO : am_O} {sa : Nat → Nat} {cv : Term → Option Int32} {own : Nat} {ini : Bool} {len pc : Nat} {st st' : List Term} {Ms M' : sx_M} {sl pc' n' sl' : Nat}
set_option maxHeartbeats 2000000 in
theorem sx_hp_s {i : Instr} (hok : sx_ok E rt RO sa) (hcv : sx_cvOk E cv) (h : sx_hp P rt cv own ini i len pc st Ms Ms.length sl = some (pc', st', M', n', sl')) :
    M'.length = n' ∧ ∀ K : am_K, K pc' (st'.map (sx_v E)) (sx_mem E M') (E.1 + n') sl' → am_hp (sx_P P sa) RO own ini i len pc (st.map (sx_v E)) (sx_mem E Ms) (E.1 + Ms.length) sl K := by
  cases i with
  | getfield x =>
    unfold sx_hp at h
    dsimp only at h
    repeat' split at h
    all_goals first | (cases h; done) | skip
    rename_i hlen _ t r _ k ci fs hob _ j hj _ v hv
    cases h
    obtain ⟨rfl, h1, h2⟩ := sx_ob_s (E := E) hob
    refine ⟨rfl, fun K hK => ⟨hlen, E.1 + k, _, ci, fs.map (sx_v E), j, sx_v E v, rfl, h2, hj, by rw [List.getElem?_map, hv]; rfl, hK⟩⟩
  | putfield x =>
    unfold sx_hp at h
    dsimp only at h
    repeat' split at h
    all_goals first | (cases h; done) | skip
    rename_i hlen _ v t r _ k ci fs hob _ j hj hc
    cases h
    obtain ⟨rfl, h1, h2⟩ := sx_ob_s (E := E) hob
    obtain ⟨c1, c2, c3⟩ := hc
    obtain ⟨c4, c5⟩ := sx_nf_s (E := E) c3
    refine ⟨sx_up_len, fun K hK => ⟨hlen, sx_v E v, E.1 + k, _, ci, fs.map (sx_v E), j, rfl, h2, hj, c1, by rw [List.length_map]; exact c2, c4, c5, ?_⟩⟩
    rw [sx_up_s h1] at hK
    have e : sx_cell E (.inr (ci, fs.set j v)) = .inr (ci, (fs.map (sx_v E)).set j (sx_v E v)) := by
      unfold sx_cell
      dsimp only
      rw [List.map_set]
    rw [e] at hK
    exact hK
  | getstatic x =>
    unfold sx_hp at h
    dsimp only at h
    repeat' split at h
    all_goals first | (cases h; done) | skip
    rename_i hlen _ a ha
    cases h
    refine ⟨rfl, fun K hK => ⟨hlen, sa a, ?_, ?_⟩⟩
    · show (am_sa0 P own x).map sa = some (sa a)
      rw [ha]
      rfl
    · rw [← hok.2 a]
      exact hK
  | new x =>
    unfold sx_hp at h
    dsimp only at h
    repeat' split at h
    all_goals first | (cases h; done) | skip
    rename_i hlen _ ci hci _ ts hts
    cases h
    refine ⟨rfl, fun K hK => ⟨hlen, ci, hci, ?_⟩⟩
    rw [sx_new_s] at hK
    have e : sx_cell E (.inr (ci, ts)) = .inr (ci, am_df P ci) := by
      unfold sx_cell
      dsimp only
      rw [sx_tvs_s hts]
    rw [e] at hK
    exact hK
  | newarray ty =>
    unfold sx_hp at h
    dsimp only at h
    repeat' split at h
    all_goals first | (cases h; done) | skip
    all_goals
      rename_i hlen _ t r _ m hm _
      cases h
      obtain ⟨z, e1, e2, e3, e4⟩ := sx_sz_s hcv hm
      subst e3
      refine ⟨rfl, fun K hK => ⟨hlen, z, _, _, _, by rw [List.map_cons, e1], e2, e4, rfl, ?_⟩⟩
      rw [sx_new_s] at hK
      exact hK
  | anewarray x =>
    unfold sx_hp at h
    dsimp only at h
    repeat' split at h
    all_goals first | (cases h; done) | skip
    rename_i hlen _ t r _ _ m ty hm ha ht
    cases h
    obtain ⟨z, e1, e2, e3, e4⟩ := sx_sz_s hcv hm
    subst e3
    refine ⟨rfl, fun K hK => ⟨hlen, z, _, ty, by rw [List.map_cons, e1], e2, e4, ha, ?_⟩⟩
    rw [sx_new_s, sx_cell_r ht] at hK
    exact hK
  | arraylength =>
    unfold sx_hp at h
    dsimp only at h
    repeat' split at h
    all_goals first | (cases h; done) | skip
    · rename_i hlen _ t r _ k ty m w hy hk
      cases h
      obtain ⟨rfl, h1, h2⟩ := sx_ay_s (E := E) hy
      obtain ⟨x, e1, e2⟩ := sx_cell_n (E := E) (t := ty) (n := m) (w := w)
      rw [e1] at h2
      subst e2
      exact ⟨rfl, fun K hK => ⟨hlen, E.1 + k, _, ty, x, rfl, Or.inl ⟨h2, hk⟩, hK⟩⟩
    · rename_i hlen _ t r _ hy _ k hk _ m g hg
      cases h
      obtain ⟨b1, f, b2, b3⟩ := hok.1 k m g hg
      have e := sx_ar_s hk
      subst e
      exact ⟨rfl, fun K hK => ⟨hlen, E.2.1 k, _, 0, (m, .inl f), rfl, Or.inr ⟨sx_out b1, f, b2⟩, hK⟩⟩
  | iaload =>
    unfold sx_hp at h
    dsimp only at h
    repeat' split at h
    all_goals first | (cases h; done) | skip
    · rename_i hlen _ j t r _ k ty m w hy _ z hz hk
      cases h
      obtain ⟨rfl, h1, h2⟩ := sx_ay_s (E := E) hy
      obtain ⟨y, e1, e2, e3, e4⟩ := sx_in_s hcv hz
      obtain ⟨rfl, hk⟩ := hk
      rw [sx_cell_i (Or.inl rfl)] at h2
      refine ⟨rfl, fun K hK => ⟨hlen, y, E.1 + k, _, m, _, by rw [List.map_cons, List.map_cons, e1]; rfl, Or.inl h2, e2, ?_⟩⟩
      rw [List.map_cons, sx_v0 hk] at hK
      rw [e3]
      exact hK
    · rename_i hlen _ j t r _ hy _ k hk _ m g hg _ z hz hk2
      cases h
      obtain ⟨b1, f, b2, b3⟩ := hok.1 k m g hg
      obtain ⟨y, e1, e2, e3, e4⟩ := sx_in_s hcv hz
      have e := sx_ar_s hk
      subst e
      refine ⟨rfl, fun K hK => ⟨hlen, y, E.2.1 k, _, m, f, by rw [List.map_cons, List.map_cons, e1]; rfl, Or.inr ⟨sx_out b1, b2⟩, e2, ?_⟩⟩
      rw [List.map_cons, sx_v0 hk2] at hK
      rw [e3, b3 z e4]
      exact hK
  | baload =>
    unfold sx_hp at h
    dsimp only at h
    repeat' split at h
    all_goals first | (cases h; done) | skip
    rename_i hlen _ j t r _ k ty m w hy _ z hz hk
    cases h
    obtain ⟨rfl, h1, h2⟩ := sx_ay_s (E := E) hy
    obtain ⟨y, e1, e2, e3, e4⟩ := sx_in_s hcv hz
    obtain ⟨rfl, hk⟩ := hk
    rw [sx_cell_i (Or.inr rfl)] at h2
    refine ⟨rfl, fun K hK => ⟨hlen, y, E.1 + k, _, m, _, by rw [List.map_cons, List.map_cons, e1]; rfl, h2, e2, ?_⟩⟩
    rw [List.map_cons, sx_v0 hk] at hK
    rw [e3]
    exact hK
  | laload =>
    unfold sx_hp at h
    dsimp only at h
    repeat' split at h
    all_goals first | (cases h; done) | skip
    rename_i hlen _ j t r _ k ty m w hy _ z hz hk
    cases h
    obtain ⟨rfl, h1, h2⟩ := sx_ay_s (E := E) hy
    obtain ⟨y, e1, e2, e3, e4⟩ := sx_in_s hcv hz
    obtain ⟨rfl, hk⟩ := hk
    rw [sx_cell_j] at h2
    refine ⟨rfl, fun K hK => ⟨hlen, y, E.1 + k, _, m, _, by rw [List.map_cons, List.map_cons, e1]; rfl, h2, e2, ?_⟩⟩
    rw [List.map_cons, sx_v1 hk] at hK
    rw [e3]
    exact hK
  | aaload =>
    unfold sx_hp at h
    dsimp only at h
    repeat' split at h
    all_goals first | (cases h; done) | skip
    rename_i hlen _ j t r _ k ty m w hy _ _ z fty hz hf hk
    cases h
    obtain ⟨rfl, h1, h2⟩ := sx_ay_s (E := E) hy
    obtain ⟨y, e1, e2, e3, e4⟩ := sx_in_s hcv hz
    obtain ⟨ht, hr, hk⟩ := hk
    rw [sx_cell_r ht] at h2
    refine ⟨rfl, fun K hK => ⟨hlen, y, E.1 + k, _, m, ty, _, fty, by rw [List.map_cons, List.map_cons, e1]; rfl, h2, hf, hr, e2, ?_⟩⟩
    rw [List.map_cons] at hK
    have e : va_rf (sx_rf E (sx_gt w z .null)) = sx_v E (sx_gt w z .null) := by
      unfold sx_rf
      rcases hk with hk | hk
      · rw [if_pos hk, sx_v2 hk]
        rfl
      · rw [if_neg (by rw [hk]; decide), sx_v3 hk]
        rfl
    rw [e3, e]
    exact hK
  | iastore =>
    unfold sx_hp at h
    dsimp only at h
    repeat' split at h
    all_goals first | (cases h; done) | skip
    rename_i hlen _ v j t r _ k ty m w hy _ z hz hk
    cases h
    obtain ⟨rfl, h1, h2⟩ := sx_ay_s (E := E) hy
    obtain ⟨y, e1, e2, e3, e4⟩ := sx_in_s hcv hz
    obtain ⟨rfl, hk⟩ := hk
    rw [sx_cell_i (Or.inl rfl)] at h2
    refine ⟨sx_up_len, fun K hK => ⟨hlen, (sx_d E v).1, y, E.1 + k, _, m, _, by rw [List.map_cons, List.map_cons, List.map_cons, e1, sx_v0 hk]; rfl, h2, e2, ?_⟩⟩
    rw [sx_up_s h1, sx_cell_i (Or.inl rfl), sx_w_i] at hK
    rw [e3]
    exact hK
  | bastore =>
    unfold sx_hp at h
    dsimp only at h
    repeat' split at h
    all_goals first | (cases h; done) | skip
    rename_i hlen _ v j t r _ k ty m w hy _ _ z x hz hx hk
    cases h
    obtain ⟨rfl, h1, h2⟩ := sx_ay_s (E := E) hy
    obtain ⟨y, e1, e2, e3, e4⟩ := sx_in_s hcv hz
    obtain ⟨c1, c2⟩ := hcv _ _ hx
    subst hk
    rw [sx_cell_i (Or.inr rfl)] at h2
    refine ⟨sx_up_len, fun K hK => ⟨hlen, x, y, E.1 + k, _, m, _, by rw [List.map_cons, List.map_cons, List.map_cons, e1, sx_v0 c1, c2]; rfl, h2, e2, ?_⟩⟩
    rw [sx_up_s h1, sx_cell_i (Or.inr rfl), sx_w_i] at hK
    rw [e3]
    exact hK
  | lastore =>
    unfold sx_hp at h
    dsimp only at h
    repeat' split at h
    all_goals first | (cases h; done) | skip
    rename_i hlen _ v j t r _ k ty m w hy _ z hz hk
    cases h
    obtain ⟨rfl, h1, h2⟩ := sx_ay_s (E := E) hy
    obtain ⟨y, e1, e2, e3, e4⟩ := sx_in_s hcv hz
    obtain ⟨rfl, hk⟩ := hk
    rw [sx_cell_j] at h2
    refine ⟨sx_up_len, fun K hK => ⟨hlen, (sx_d E v).2, y, E.1 + k, _, m, _, by rw [List.map_cons, List.map_cons, List.map_cons, e1, sx_v1 hk]; rfl, h2, e2, ?_⟩⟩
    rw [sx_up_s h1, sx_cell_j, sx_w_j] at hK
    rw [e3]
    exact hK
  | aastore =>
    unfold sx_hp at h
    dsimp only at h
    repeat' split at h
    all_goals first | (cases h; done) | skip
    · rename_i hlen _ v j t r _ k ty m w hy _ z hz ht _ k2 ci fs hob hg
      cases h
      obtain ⟨rfl, h1, h2⟩ := sx_ay_s (E := E) hy
      obtain ⟨rfl, h3, h4⟩ := sx_ob_s (E := E) hob
      obtain ⟨y, e1, e2, e3, e4⟩ := sx_in_s hcv hz
      rw [sx_cell_r ht] at h2
      refine ⟨sx_up_len, fun K hK => ⟨hlen, Or.inl ⟨E.1 + k2, y, E.1 + k, _, m, ty, _, ci, _, by rw [List.map_cons, List.map_cons, List.map_cons, e1]; rfl, h2, h4, hg, e2, ?_⟩⟩⟩
      rw [sx_up_s h1, sx_cell_r ht, sx_w_r] at hK
      rw [e3]
      exact hK
    · rename_i hlen _ v j t r _ k ty m w hy _ z hz ht _ hob _ k2 t2 m2 w2 hy2 hg
      cases h
      obtain ⟨rfl, h1, h2⟩ := sx_ay_s (E := E) hy
      obtain ⟨rfl, h3, h4⟩ := sx_ay_s (E := E) hy2
      obtain ⟨y, e1, e2, e3, e4⟩ := sx_in_s hcv hz
      obtain ⟨x, c1, c2⟩ := sx_cell_n (E := E) (t := t2) (n := m2) (w := w2)
      rw [c1] at h4
      rw [sx_cell_r ht] at h2
      refine ⟨sx_up_len, fun K hK => ⟨hlen, Or.inr (Or.inl ⟨E.1 + k2, y, E.1 + k, _, m, ty, _, t2, x, by rw [List.map_cons, List.map_cons, List.map_cons, e1]; rfl, h2, h4, hg, e2, ?_⟩)⟩⟩
      rw [sx_up_s h1, sx_cell_r ht, sx_w_r] at hK
      rw [e3]
      exact hK
  | multianewarray x d =>
    unfold sx_hp at h
    dsimp only at h
    repeat' split at h
    all_goals first | (cases h; done) | skip
    rename_i hlen _ a b r _ _ kk N ha hb ht
    cases h
    obtain ⟨z, e1, e2, e3, e4⟩ := sx_sz_s hcv ha
    obtain ⟨y, f1, f2, f3, f4⟩ := sx_sz_s hcv hb
    subst e3
    subst f3
    refine ⟨sx_mna_len, fun K hK => ⟨hlen.1, hlen.2, z, y, _, am_nt P own x - 100, by rw [List.map_cons, List.map_cons, e1, f1], ?_, f2, e2, f4, e4, ?_⟩⟩
    · show am_nt P own x = _
      omega
    · rw [sx_mna_s (by omega), show E.1 + (Ms.length + 1 + y.toNatClampNeg) = E.1 + Ms.length + 1 + y.toNatClampNeg by omega] at hK
      exact hK
  | checkcast x =>
    unfold sx_hp at h
    dsimp only at h
    repeat' split at h
    all_goals first | (cases h; done) | skip
    rename_i hlen _ t r _ k ty m w hy hk
    cases h
    obtain ⟨rfl, h1, h2⟩ := sx_ay_s (E := E) hy
    subst hk
    exact ⟨rfl, fun K hK => ⟨hlen.1, hlen.2, E.1 + k, _, _, rfl, h2, hK⟩⟩
  | _ => cases h
end SXS
