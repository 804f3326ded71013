/-! AM's runs are the machine's: calls, and the induction */ -/
section AMU
variable {P : am_P} {D : va_G} {cl : List vw_C} {A : Nat → Prop} {ca : Nat → ClassId} {RO : am_O} {Ts Nw : List Cond} {zs : List (String × String × String × Nat)}
theorem am_lv_len : ∀ {vs : List Value} {k : Nat}, (lv_args k vs).length = vs.length := by
  intro vs
  induction vs with
  | nil => intro k; rfl
  | cons a r ih => intro k; simp [lv_args, ih]
theorem am_pre (G : am_G P cl Ts Nw zs) {s : State} {H : Heap} {locs : List Loc} {M : am_H} (hWo : am_Wo P D cl A ca RO Nw zs s s.heap) (hR : am_R D cl A ca M H) (hS : va_S A s.heap H locs) (As : List Value) : PreS s H (va_Pc As (am_B P D cl A ca RO Nw zs M H.size)) As := by
  obtain ⟨-, -, -, -, -, -, -, -, -, -, -, -, -, -, -, -, -, -, gN⟩ := G
  refine ⟨am_blind gN As M H.size, fun U hU hW => ⟨rfl, by rw [hU], by rw [hU]; exact hR, ?_⟩⟩
  rw [hU]
  exact am_Wo_warm gN hWo hW hS.1 hS.2.1
theorem am_run (G : am_G P cl Ts Nw zs) {l : Launch} {k : Nat} (hSk : am_S P D cl A ca RO Ts Nw zs l k) {mt : am_Meth} {p : Program} {e : Env} {R : Room} {s : State} {m : MethodId} {args : Array Value} {below : List Frame} {meth : Method} {c : Code} {H : Heap} {locs : List Loc} {ls : Array Slot} {cells slots : Nat} {pc : Nat} {st : List Value} {M : am_H} {sl : Nat}
    (hC : am_Cx P D cl A ca RO Ts Nw zs mt p s m args meth c) (hR : am_R D cl A ca M H) (hS : va_S A s.heap H locs) (hsz : ls.size = mt.2.2.1) {i : Instr} (hd : decode mt.2.1 pc = .ok (i, 3)) {z : Nat} {vs r : List Value} {mz : am_Meth} (hy : am_on P mt.2.2.2.2.2.2 = mt.1.cls) (hcall : am_call P M mt.2.2.2.2.2.2 i st z vs r) (hz : am_meth P z = some mz) (hroom : am_room mt mz) (hlen : (lg_sl vs).length ≤ mz.2.2.1) (hcat : am_cat r ≤ 8) (hfr : mt.2.2.2.2.1 ≤ R.frames) (hlo : mt.2.2.2.2.2.1 ≤ R.locals)
    {v : Option Value} {M' : am_H} {sz' sl' : Nat} (h : am_W P RO k z 0 (lv_args 0 vs) [] M H.size sl (am_eq v M' sz' sl')) (hc1 : cells + (sz' - H.size) ≤ R.cells) (hc2 : slots + (sl' - sl) ≤ R.slots) :
    va_Run p l e R s m args below meth c H locs cells slots (sz' - H.size) (sl' - sl) (F0 m pc ls st) r (am_Qc D cl A ca v M' sz' vs.toArray) A := by
  have hM := am_met G hSk hz hlen h
  have hg := am_good G hz
  obtain ⟨hx, hb, hml, hown, hts, hnm, hret, hlocks, hWo⟩ := hC
  rw [← hy] at hown
  have S : CallFix p m c mt.2.1 ls.size s args Ts (am_on P mt.2.2.2.2.2.2) := ⟨hx, hb, hml.trans hsz.symm, hown, hts⟩
  have hnw := hWo.2.1
  have hRoom : (am_rm mz (sz' - H.size) (sl' - sl)).frames + 1 ≤ R.frames ∧ 8 + (mz.2.2.1 + 11) + (am_rm mz (sz' - H.size) (sl' - sl)).locals ≤ R.locals := ⟨Nat.le_trans hroom.1 hfr, Nat.le_trans hroom.2 hlo⟩
  obtain ⟨gM, -, -, -, -, -, -, -, -, gcs, gci, gcv, -⟩ := id G
  obtain ⟨-, -, -, hini, hmh⟩ := gM z mz hz
  have hW : 2 * (F0 m pc ls st).monitorRoom + (r.map fun v => v.category).sum ≤ 8 := lv_room hcat
  cases i with
  | invokestatic x =>
    obtain ⟨n, h1, rfl, hn⟩ := hcall
    obtain ⟨w1, w2, w3⟩ := gcs _ _ _ _ _ h1 hz
    rcases w3 with (w3 | ⟨host, w3⟩) | ⟨C, w3, w4⟩
    · exact va_runS S hM ⟨callB_of n hts hg rfl rfl rfl (hts _ hini) (hts _ w3) ⟨hmh.1, hmh.2, w2⟩ hRoom, hts _ w1⟩ (am_pre G hWo hR hS vs) rfl hn rfl rfl hW hd ⟨hc1, hc2⟩
    · exact va_runSN S hM ⟨va_cnB n hts hg rfl rfl rfl (hnw _ w3) (hts _ hini) ⟨hmh.1, hmh.2, w2⟩ hRoom, hts _ w1, trivial⟩ (am_pre G hWo hR hS vs) rfl hn rfl rfl hW hd ⟨hc1, hc2⟩
    · refine am_runSU S hM ⟨⟨rfl, rfl, hRoom.1, hRoom.2, pay_in hts hg, List.mem_cons_self⟩, hts _ (gM z mz hz).2.2.1, hts _ hini, hmh, fun sig hsig => ?_⟩ (hts _ w3) (hts _ w4) (hts _ w1) (am_pre G hWo hR hS vs) rfl hn rfl rfl hW hd ⟨hc1, hc2⟩
      have h2 := w2
      unfold am_ar at h2
      rw [hsig] at h2
      exact (Option.some.inj h2).symm
  | invokespecial x =>
    obtain ⟨n, b, As, h1, rfl, rfl, hn⟩ := hcall
    obtain ⟨w0, w5, w1, w2, w3⟩ := gci _ _ _ _ _ h1 hz
    obtain ⟨nm, bytes, maxL, ret, fr, lo, oz⟩ := mz
    dsimp only at w5
    subst w5
    rcases w3 with w3 | ⟨host, w3⟩
    · exact va_runI S hM ⟨callB_of n hts hg rfl rfl rfl (hts _ hini) (hts _ w3) ⟨hmh.1, hmh.2, w2⟩ hRoom, w0, hts _ w1⟩ (am_pre G hWo hR hS _) rfl hn rfl rfl hW hd ⟨hc1, hc2⟩
    · exact va_runIN S hM ⟨va_cnB n hts hg rfl rfl rfl (hnw _ w3) (hts _ hini) ⟨hmh.1, hmh.2, w2⟩ hRoom, w0, hts _ w1⟩ (am_pre G hWo hR hS _) rfl hn rfl rfl hW hd ⟨hc1, hc2⟩
  | invokevirtual x =>
    obtain ⟨n, b, As, ci, fs, hb0, h1, rfl, rfl, hn⟩ := hcall
    obtain ⟨C, T, N, hci, w1, w⟩ := gcv _ _ _ _ _ _ h1 hz
    have hpre := am_pre G hWo hR hS (Value.ref b :: As)
    have hV : PreV s H C b (va_Pc (Value.ref b :: As) (am_B P D cl A ca RO Nw zs M H.size)) As := ⟨hpre.1, va_recv hWo.1 (am_one (hR b _ hb0).1) hci (q0 := 0) rfl, hpre.2⟩
    rcases w with ⟨w2, w3, w4⟩ | ⟨xn, owner, w2, w3, w4, w5, w6, w7⟩
    · rcases w3 with w3 | ⟨host, w3⟩
      · exact va_runV S hM ⟨callB_of n hts hg rfl rfl rfl (hts _ hini) (hts _ w3) ⟨hmh.1, hmh.2, w2⟩ hRoom, hts _ w1, hts _ w4⟩ hV rfl hn rfl rfl hW hd ⟨hc1, hc2⟩
      · exact va_runVN S hM ⟨va_cnB n hts hg rfl rfl rfl (hnw _ w3) (hts _ hini) ⟨hmh.1, hmh.2, w2⟩ hRoom, hts _ w1, hts _ w4⟩ hV rfl hn rfl rfl hW hd ⟨hc1, hc2⟩
    · have hdecl : va_Decl s ⟨owner, xn.name, xn.desc⟩ := by
        rcases w7 with w7 | ⟨w7, b7, m7, r7, w8⟩
        · exact va_Decl.abs (hnw _ w7)
        · exact va_Decl.of (hts _ w7) (hts _ w8)
      have hU : va_CU R s args (am_on P mt.2.2.2.2.2.2) C owner x xn mz.1 mz.2.1 mz.2.2.1 mz.2.2.2.1 (Cond.code mz.1 mz.2.1 mz.2.2.1 mz.2.2.2.1 :: Ts) (am_rm mz (sz' - H.size) (sl' - sl)) (sz' - H.size) (sl' - sl) n := by
        refine ⟨⟨rfl, rfl, hRoom.1, hRoom.2, pay_in hts hg, List.mem_cons_self⟩, hts _ (gM z mz hz).2.2.1, hts _ hini, w3, fun sig hsig => ?_, hts _ w4, hts _ w5, hdecl, hts _ w6, hts _ w1⟩
        have h2 := w2
        unfold am_ar at h2
        rw [hsig] at h2
        exact (Option.some.inj h2).symm
      exact va_runU S hM hU hV rfl hn rfl rfl hW hd ⟨hc1, hc2⟩
  | _ => exact False.elim hcall
end AMU
