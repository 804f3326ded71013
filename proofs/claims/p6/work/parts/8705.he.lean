/-! the law's ends -/
theorem fin_he : ∀ e ∈ tK_5013.2.2.2.2.2, e.2.2.1 = some (0, ([], 1), 0) ∧ (∃ k1, tl_pr e.2.1.1 (tl_sub (tl_c 600000) e.2.2.2.1) k1 = true) ∧ ∃ k2, tl_pr e.2.1.1 (tl_sub (tl_c 7302250) e.2.2.2.2) k2 = true := by
  intro e he
  rcases List.mem_cons.mp he with rfl | he
  · exact ⟨rfl, ⟨(16, [(4, 1), (15, 1)]), by decide +kernel⟩, ⟨(1, [(4, 1)]), by decide +kernel⟩⟩
  cases he
theorem a_run2 : aRun2 := fin_aRun (c := tK_5013) (at_ := fin_ats) (fun _ _ => tU_5013) rfl rfl fin_hq rfl fin_he
