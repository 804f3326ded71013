/-! TC: a step, with the fuel of what comes behind it -/
theorem am_stepR {P : am_P} {RO : am_O} {y pc : Nat} {lv : am_L} {st : List Value} {M : am_H} {sz sl : Nat} {Q : am_Q} {mt : am_Meth} {i : Instr} {len : Nat} (hm : am_meth P y = some mt) (hd : decode mt.2.1 pc = .ok (i, len))
    (h : am_step P RO mt i len pc lv st M sz sl (fun pc' lv' st' M' z' l' => ∃ k, am_W P RO k y pc' lv' st' M' z' l' Q) (fun z vs M' z' l' Q' => ∃ k, am_W P RO k z 0 (lv_args 0 vs) [] M' z' l' Q') Q) : ∃ k, am_W P RO k y pc lv st M sz sl Q := by
  rcases am_step_c h with ⟨pc', lv', st', M', z', l', ⟨k, h1⟩, -, -, h2⟩ | ⟨z, vs, r, ⟨k, h1⟩, h2⟩ | ⟨v, h1, h2⟩
  · exact ⟨k + 1, mt, hm, i, len, hd, h2 _ _ _ h1⟩
  · obtain ⟨v, M', z', l', g1, ⟨k2, g2⟩, g3, g4⟩ := am_det _ _ _ _ _ _ _ _ _ h1
    refine ⟨max k k2 + 1, mt, hm, i, len, hd, h2 _ _ _ ?_⟩
    refine am_mono _ _ _ _ _ _ _ _ _ _ ?_ (am_le (Nat.le_max_left k k2) g1)
    intro v1 M1 z1 l1 e
    obtain ⟨rfl, rfl, rfl, rfl⟩ := e
    exact am_le (Nat.le_max_right k k2) g2
  · exact ⟨1, mt, hm, i, len, hd, h2 _ _ _ h1⟩
