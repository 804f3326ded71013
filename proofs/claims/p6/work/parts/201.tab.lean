def aX : List am_xE := [("SecureLines$Serve\x72", ⟨"SecureLines$Side", "headFault", "()I"⟩, ⟨"SecureLines$Side", "note", "(I[II)V"⟩, ⟨"SecureLines$Side", "note", "(I[II)V"⟩), ("SecureLines$Client", ⟨"SecureLines$Side", "headFault", "()I"⟩, ⟨"SecureLines$Client", "begin", "(I)LSecureLines$Row;"⟩, ⟨"SecureLines$Side", "begin", "(I)LSecureLines$Row;"⟩), ("SecureLines$Serve\x72", ⟨"SecureLines$Side", "takeRecord", "()I"⟩, ⟨"SecureLines$Side", "note", "(I[II)V"⟩, ⟨"SecureLines$Side", "note", "(I[II)V"⟩), ("SecureLines$Client", ⟨"SecureLines$Side", "takeRecord", "()I"⟩, ⟨"SecureLines$Client", "begin", "(I)LSecureLines$Row;"⟩, ⟨"SecureLines$Side", "begin", "(I)LSecureLines$Row;"⟩), ("SecureLines$Serve\x72", ⟨"SecureLines$Side", "opens", "()Z"⟩, ⟨"SecureLines$Side", "note", "(I[II)V"⟩, ⟨"SecureLines$Side", "note", "(I[II)V"⟩), ("SecureLines$Client", ⟨"SecureLines$Side", "opens", "()Z"⟩, ⟨"SecureLines$Client", "begin", "(I)LSecureLines$Row;"⟩, ⟨"SecureLines$Side", "begin", "(I)LSecureLines$Row;"⟩), ("SecureLines$Serve\x72", ⟨"SecureLines$Side", "hearAll", "(I)I"⟩, ⟨"SecureLines$Side", "note", "(I[II)V"⟩, ⟨"SecureLines$Side", "note", "(I[II)V"⟩), ("SecureLines$Client", ⟨"SecureLines$Side", "hearAll", "(I)I"⟩, ⟨"SecureLines$Client", "begin", "(I)LSecureLines$Row;"⟩, ⟨"SecureLines$Side", "begin", "(I)LSecureLines$Row;"⟩), ("SecureLines$Serve\x72", ⟨"SecureLines$Side", "takeAlert", "(I)I"⟩, ⟨"SecureLines$Side", "note", "(I[II)V"⟩, ⟨"SecureLines$Side", "note", "(I[II)V"⟩), ("SecureLines$Client", ⟨"SecureLines$Side", "takeAlert", "(I)I"⟩, ⟨"SecureLines$Client", "begin", "(I)LSecureLines$Row;"⟩, ⟨"SecureLines$Side", "begin", "(I)LSecureLines$Row;"⟩), ("SecureLines$Serve\x72", ⟨"SecureLines$Side", "firstMessage", "()I"⟩, ⟨"SecureLines$Side", "note", "(I[II)V"⟩, ⟨"SecureLines$Side", "note", "(I[II)V"⟩), ("SecureLines$Client", ⟨"SecureLines$Side", "firstMessage", "()I"⟩, ⟨"SecureLines$Client", "begin", "(I)LSecureLines$Row;"⟩, ⟨"SecureLines$Side", "begin", "(I)LSecureLines$Row;"⟩), ("SecureLines$Serve\x72", ⟨"SecureLines$Side", "proven", "(IJ)LSecureLines$Row;"⟩, ⟨"SecureLines$Side", "note", "(I[II)V"⟩, ⟨"SecureLines$Side", "note", "(I[II)V"⟩), ("SecureLines$Client", ⟨"SecureLines$Side", "proven", "(IJ)LSecureLines$Row;"⟩, ⟨"SecureLines$Client", "begin", "(I)LSecureLines$Row;"⟩, ⟨"SecureLines$Side", "begin", "(I)LSecureLines$Row;"⟩), ("SecureLines$Serve\x72", ⟨"SecureLines$Side", "endBy", "(JJ)J"⟩, ⟨"SecureLines$Side", "note", "(I[II)V"⟩, ⟨"SecureLines$Side", "note", "(I[II)V"⟩), ("SecureLines$Client", ⟨"SecureLines$Side", "endBy", "(JJ)J"⟩, ⟨"SecureLines$Client", "begin", "(I)LSecureLines$Row;"⟩, ⟨"SecureLines$Side", "begin", "(I)LSecureLines$Row;"⟩), ("SecureLines$Serve\x72", ⟨"SecureLines$Side", "checkChain", "(I)I"⟩, ⟨"SecureLines$Side", "note", "(I[II)V"⟩, ⟨"SecureLines$Side", "note", "(I[II)V"⟩), ("SecureLines$Client", ⟨"SecureLines$Side", "checkChain", "(I)I"⟩, ⟨"SecureLines$Client", "begin", "(I)LSecureLines$Row;"⟩, ⟨"SecureLines$Side", "begin", "(I)LSecureLines$Row;"⟩), ("SecureLines$Serve\x72", ⟨"SecureLines$Side", "isChain", "(I)Z"⟩, ⟨"SecureLines$Side", "note", "(I[II)V"⟩, ⟨"SecureLines$Side", "note", "(I[II)V"⟩), ("SecureLines$Client", ⟨"SecureLines$Side", "isChain", "(I)Z"⟩, ⟨"SecureLines$Client", "begin", "(I)LSecureLines$Row;"⟩, ⟨"SecureLines$Side", "begin", "(I)LSecureLines$Row;"⟩)]
def lw_tbl : List Cond := Jvm.Cond.code x code maxLocals ret :: (aX.map am_xW ++ (k2_sels lw_privs ++ tables_1))
def aT : List (List Cond) := [tables_1_1, tables_1_2, tables_1_3, tables_1_4, tables_1_5, tables_1_6, tables_1_7, tables_1_8, tables_1_9, tables_1_10, tables_1_11, tables_1_12, tables_1_13, tables_1_14, tables_1_15, tables_1_16, tables_1_17, k2_sels lw_privs, [Jvm.Cond.code x code maxLocals ret], aX.map am_xW]
theorem aT_in : ∀ w ∈ aT.flatten, w ∈ lw_tbl := by
  intro w hw
  have h : ∀ l ∈ aT, ∀ w ∈ l, w ∈ lw_tbl := by
    unfold aT lw_tbl tables_1
    simp only [List.mem_cons, List.mem_append, List.not_mem_nil, or_false]
    intro l hl w h
    rcases hl with rfl | rfl | rfl | rfl | rfl | rfl | rfl | rfl | rfl | rfl | rfl | rfl | rfl | rfl | rfl | rfl | rfl | rfl | rfl | rfl
    · exact Or.inr (Or.inr (Or.inr (Or.inl h)))
    · exact Or.inr (Or.inr (Or.inr (Or.inr (Or.inl h))))
    · exact Or.inr (Or.inr (Or.inr (Or.inr (Or.inr (Or.inl h)))))
    · exact Or.inr (Or.inr (Or.inr (Or.inr (Or.inr (Or.inr (Or.inl h))))))
    · exact Or.inr (Or.inr (Or.inr (Or.inr (Or.inr (Or.inr (Or.inr (Or.inl h)))))))
    · exact Or.inr (Or.inr (Or.inr (Or.inr (Or.inr (Or.inr (Or.inr (Or.inr (Or.inl h))))))))
    · exact Or.inr (Or.inr (Or.inr (Or.inr (Or.inr (Or.inr (Or.inr (Or.inr (Or.inr (Or.inl h)))))))))
    · exact Or.inr (Or.inr (Or.inr (Or.inr (Or.inr (Or.inr (Or.inr (Or.inr (Or.inr (Or.inr (Or.inl h))))))))))
    · exact Or.inr (Or.inr (Or.inr (Or.inr (Or.inr (Or.inr (Or.inr (Or.inr (Or.inr (Or.inr (Or.inr (Or.inl h)))))))))))
    · exact Or.inr (Or.inr (Or.inr (Or.inr (Or.inr (Or.inr (Or.inr (Or.inr (Or.inr (Or.inr (Or.inr (Or.inr (Or.inl h))))))))))))
    · exact Or.inr (Or.inr (Or.inr (Or.inr (Or.inr (Or.inr (Or.inr (Or.inr (Or.inr (Or.inr (Or.inr (Or.inr (Or.inr (Or.inl h)))))))))))))
    · exact Or.inr (Or.inr (Or.inr (Or.inr (Or.inr (Or.inr (Or.inr (Or.inr (Or.inr (Or.inr (Or.inr (Or.inr (Or.inr (Or.inr (Or.inl h))))))))))))))
    · exact Or.inr (Or.inr (Or.inr (Or.inr (Or.inr (Or.inr (Or.inr (Or.inr (Or.inr (Or.inr (Or.inr (Or.inr (Or.inr (Or.inr (Or.inr (Or.inl h)))))))))))))))
    · exact Or.inr (Or.inr (Or.inr (Or.inr (Or.inr (Or.inr (Or.inr (Or.inr (Or.inr (Or.inr (Or.inr (Or.inr (Or.inr (Or.inr (Or.inr (Or.inr (Or.inl h))))))))))))))))
    · exact Or.inr (Or.inr (Or.inr (Or.inr (Or.inr (Or.inr (Or.inr (Or.inr (Or.inr (Or.inr (Or.inr (Or.inr (Or.inr (Or.inr (Or.inr (Or.inr (Or.inr (Or.inl h)))))))))))))))))
    · exact Or.inr (Or.inr (Or.inr (Or.inr (Or.inr (Or.inr (Or.inr (Or.inr (Or.inr (Or.inr (Or.inr (Or.inr (Or.inr (Or.inr (Or.inr (Or.inr (Or.inr (Or.inr (Or.inl h))))))))))))))))))
    · exact Or.inr (Or.inr (Or.inr (Or.inr (Or.inr (Or.inr (Or.inr (Or.inr (Or.inr (Or.inr (Or.inr (Or.inr (Or.inr (Or.inr (Or.inr (Or.inr (Or.inr (Or.inr (Or.inr (h)))))))))))))))))))
    · exact Or.inr (Or.inr (Or.inl h))
    · exact Or.inl (List.mem_singleton.mp h)
    · exact Or.inr (Or.inl h)
  obtain ⟨l, h1, h2⟩ := List.mem_flatten.mp hw
  exact h l h1 w h2
theorem aX_ok : ∀ q ∈ aX, am_xOk tables_1 q := by
  have h0 : ∀ (j i : Nat) (l : List Cond) (w : Cond), [tables_1_1, tables_1_2, tables_1_3, tables_1_4, tables_1_5, tables_1_6, tables_1_7, tables_1_8, tables_1_9, tables_1_10, tables_1_11, tables_1_12, tables_1_13, tables_1_14, tables_1_15, tables_1_16, tables_1_17][j]? = some l → l[i]? = some w → w ∈ tables_1 := by
    intro j i l w h1 h2
    have h3 := List.mem_of_getElem? h1
    have h4 := List.mem_of_getElem? h2
    unfold tables_1
    simp only [List.mem_cons, List.not_mem_nil, or_false] at h3
    simp only [List.mem_append]
    rcases h3 with rfl | rfl | rfl | rfl | rfl | rfl | rfl | rfl | rfl | rfl | rfl | rfl | rfl | rfl | rfl | rfl | rfl
    · exact Or.inl h4
    · exact Or.inr (Or.inl h4)
    · exact Or.inr (Or.inr (Or.inl h4))
    · exact Or.inr (Or.inr (Or.inr (Or.inl h4)))
    · exact Or.inr (Or.inr (Or.inr (Or.inr (Or.inl h4))))
    · exact Or.inr (Or.inr (Or.inr (Or.inr (Or.inr (Or.inl h4)))))
    · exact Or.inr (Or.inr (Or.inr (Or.inr (Or.inr (Or.inr (Or.inl h4))))))
    · exact Or.inr (Or.inr (Or.inr (Or.inr (Or.inr (Or.inr (Or.inr (Or.inl h4)))))))
    · exact Or.inr (Or.inr (Or.inr (Or.inr (Or.inr (Or.inr (Or.inr (Or.inr (Or.inl h4))))))))
    · exact Or.inr (Or.inr (Or.inr (Or.inr (Or.inr (Or.inr (Or.inr (Or.inr (Or.inr (Or.inl h4)))))))))
    · exact Or.inr (Or.inr (Or.inr (Or.inr (Or.inr (Or.inr (Or.inr (Or.inr (Or.inr (Or.inr (Or.inl h4))))))))))
    · exact Or.inr (Or.inr (Or.inr (Or.inr (Or.inr (Or.inr (Or.inr (Or.inr (Or.inr (Or.inr (Or.inr (Or.inl h4)))))))))))
    · exact Or.inr (Or.inr (Or.inr (Or.inr (Or.inr (Or.inr (Or.inr (Or.inr (Or.inr (Or.inr (Or.inr (Or.inr (Or.inl h4))))))))))))
    · exact Or.inr (Or.inr (Or.inr (Or.inr (Or.inr (Or.inr (Or.inr (Or.inr (Or.inr (Or.inr (Or.inr (Or.inr (Or.inr (Or.inl h4)))))))))))))
    · exact Or.inr (Or.inr (Or.inr (Or.inr (Or.inr (Or.inr (Or.inr (Or.inr (Or.inr (Or.inr (Or.inr (Or.inr (Or.inr (Or.inr (Or.inl h4))))))))))))))
    · exact Or.inr (Or.inr (Or.inr (Or.inr (Or.inr (Or.inr (Or.inr (Or.inr (Or.inr (Or.inr (Or.inr (Or.inr (Or.inr (Or.inr (Or.inr (Or.inl h4)))))))))))))))
    · exact Or.inr (Or.inr (Or.inr (Or.inr (Or.inr (Or.inr (Or.inr (Or.inr (Or.inr (Or.inr (Or.inr (Or.inr (Or.inr (Or.inr (Or.inr (Or.inr (h4))))))))))))))))

  have h5 : ∀ (p : Nat × Nat) (w : Cond), decide (([tables_1_1, tables_1_2, tables_1_3, tables_1_4, tables_1_5, tables_1_6, tables_1_7, tables_1_8, tables_1_9, tables_1_10, tables_1_11, tables_1_12, tables_1_13, tables_1_14, tables_1_15, tables_1_16, tables_1_17][p.1]?).bind (fun l => l[p.2]?) = some w) = true → w ∈ tables_1 := by
    intro p w h
    obtain ⟨l, h1, h2⟩ := Option.bind_eq_some_iff.mp (of_decide_eq_true h)
    exact h0 p.1 p.2 l w h1 h2
  unfold aX
  simp only [List.forall_mem_cons]
  exact ⟨⟨h5 (5, 160) _ (by decide +kernel), rfl, ⟨by decide +kernel, by decide +kernel⟩, h5 (5, 218) _ (by decide +kernel), h5 (5, 219) _ (by decide +kernel)⟩, ⟨h5 (5, 77) _ (by decide +kernel), rfl, ⟨by decide +kernel, by decide +kernel⟩, h5 (5, 218) _ (by decide +kernel), h5 (5, 219) _ (by decide +kernel)⟩, ⟨h5 (5, 160) _ (by decide +kernel), rfl, ⟨by decide +kernel, by decide +kernel⟩, h5 (5, 222) _ (by decide +kernel), h5 (5, 223) _ (by decide +kernel)⟩, ⟨h5 (5, 77) _ (by decide +kernel), rfl, ⟨by decide +kernel, by decide +kernel⟩, h5 (5, 222) _ (by decide +kernel), h5 (5, 223) _ (by decide +kernel)⟩, ⟨h5 (5, 160) _ (by decide +kernel), rfl, ⟨by decide +kernel, by decide +kernel⟩, h5 (5, 226) _ (by decide +kernel), h5 (5, 227) _ (by decide +kernel)⟩, ⟨h5 (5, 77) _ (by decide +kernel), rfl, ⟨by decide +kernel, by decide +kernel⟩, h5 (5, 226) _ (by decide +kernel), h5 (5, 227) _ (by decide +kernel)⟩, ⟨h5 (5, 160) _ (by decide +kernel), rfl, ⟨by decide +kernel, by decide +kernel⟩, h5 (5, 231) _ (by decide +kernel), h5 (5, 232) _ (by decide +kernel)⟩, ⟨h5 (5, 77) _ (by decide +kernel), rfl, ⟨by decide +kernel, by decide +kernel⟩, h5 (5, 231) _ (by decide +kernel), h5 (5, 232) _ (by decide +kernel)⟩, ⟨h5 (5, 160) _ (by decide +kernel), rfl, ⟨by decide +kernel, by decide +kernel⟩, h5 (6, 4) _ (by decide +kernel), h5 (6, 5) _ (by decide +kernel)⟩, ⟨h5 (5, 77) _ (by decide +kernel), rfl, ⟨by decide +kernel, by decide +kernel⟩, h5 (6, 4) _ (by decide +kernel), h5 (6, 5) _ (by decide +kernel)⟩, ⟨h5 (5, 160) _ (by decide +kernel), rfl, ⟨by decide +kernel, by decide +kernel⟩, h5 (6, 8) _ (by decide +kernel), h5 (6, 9) _ (by decide +kernel)⟩, ⟨h5 (5, 77) _ (by decide +kernel), rfl, ⟨by decide +kernel, by decide +kernel⟩, h5 (6, 8) _ (by decide +kernel), h5 (6, 9) _ (by decide +kernel)⟩, ⟨h5 (5, 160) _ (by decide +kernel), rfl, ⟨by decide +kernel, by decide +kernel⟩, h5 (6, 84) _ (by decide +kernel), h5 (6, 85) _ (by decide +kernel)⟩, ⟨h5 (5, 77) _ (by decide +kernel), rfl, ⟨by decide +kernel, by decide +kernel⟩, h5 (6, 84) _ (by decide +kernel), h5 (6, 85) _ (by decide +kernel)⟩, ⟨h5 (5, 160) _ (by decide +kernel), rfl, ⟨by decide +kernel, by decide +kernel⟩, h5 (6, 102) _ (by decide +kernel), h5 (6, 103) _ (by decide +kernel)⟩, ⟨h5 (5, 77) _ (by decide +kernel), rfl, ⟨by decide +kernel, by decide +kernel⟩, h5 (6, 102) _ (by decide +kernel), h5 (6, 103) _ (by decide +kernel)⟩, ⟨h5 (5, 160) _ (by decide +kernel), rfl, ⟨by decide +kernel, by decide +kernel⟩, h5 (6, 182) _ (by decide +kernel), h5 (6, 183) _ (by decide +kernel)⟩, ⟨h5 (5, 77) _ (by decide +kernel), rfl, ⟨by decide +kernel, by decide +kernel⟩, h5 (6, 182) _ (by decide +kernel), h5 (6, 183) _ (by decide +kernel)⟩, ⟨h5 (5, 160) _ (by decide +kernel), rfl, ⟨by decide +kernel, by decide +kernel⟩, h5 (6, 186) _ (by decide +kernel), h5 (6, 187) _ (by decide +kernel)⟩, ⟨h5 (5, 77) _ (by decide +kernel), rfl, ⟨by decide +kernel, by decide +kernel⟩, h5 (6, 186) _ (by decide +kernel), h5 (6, 187) _ (by decide +kernel)⟩, fun q h => by cases h⟩
