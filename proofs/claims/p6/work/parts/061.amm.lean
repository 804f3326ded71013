/-! AM: new long[..][..] (over the library's law of two dimensions) -/
theorem am_outer (c : ClassId) (N h0 : Nat) : ∀ i : Nat, Jvm.Free.Multi.outerC c N h0 i = arrV c N (fun j => va_rf (if j < i then some (h0 + 1 + j) else none))
  | 0 => by
    show ({ cls := c, slots := Array.replicate N .null, vm := .none } : Cell) = _
    rw [arrV_new]
    refine congrArg (arrV c N) (funext fun j => ?_)
    simp [va_rf]
  | i + 1 => by
    show (Jvm.Free.Multi.outerC c N h0 i).setSlot i (.ref (h0 + 1 + i)) = _
    rw [am_outer c N h0 i, arrV_store]
    refine congrArg (arrV c N) (funext fun j => ?_)
    by_cases e : j = i
    · subst e
      simp [updV, va_rf]
    · by_cases h : j < i
      · simp [updV, e, h, Nat.lt_succ_of_lt h]
      · simp [updV, e, h, show ¬ j < i + 1 by omega]
theorem am_R.mna {D : va_G} {cl : List vw_C} {A : Nat → Prop} {ca : Nat → ClassId} {M : am_H} {H H1 : Heap} (h : am_R D cl A ca M H) {t sz N K : Nat} (hsz : H.size = sz) (hA : ∀ q, sz ≤ q → A q) (e1 : va_at D cl (sz, .inl (ca t, N, .inr (.inr (.inr (.inr (fun i => if i < N then some (sz + 1 + i) else none)))))) H1) (e2 : ∀ j, j < N → va_at D cl (sz + 1 + j, .inl (ca 1, K, .inr (.inl (fun _ => 0)))) H1) (oq : ∀ q : Nat, q < sz → H1[q]? = H[q]?) : am_R D cl A ca (am_mna t M sz N K) H1 := by
  intro b x hx
  unfold am_mna at hx
  by_cases h1 : b = sz
  · rw [if_pos h1] at hx
    cases hx
    subst h1
    exact ⟨e1, hA _ (Nat.le_refl _)⟩
  · rw [if_neg h1] at hx
    by_cases h2 : sz < b ∧ b < sz + 1 + N
    · rw [if_pos h2] at hx
      cases hx
      have h3 := e2 (b - sz - 1) (by omega)
      rw [show sz + 1 + (b - sz - 1) = b by omega] at h3
      exact ⟨h3, hA _ (by omega)⟩
    · rw [if_neg h2] at hx
      have h3 := h.lt hx
      exact ⟨(h b x hx).1.kept (oq b (by omega)), (h b x hx).2⟩
section AMM
variable {p : Program} {l : Launch} {e : Env} {R : Room} {s : State} {m : MethodId} {args : Array Value} {below : List Frame} {meth : Method} {c : Code} {H : Heap} {locs : List Loc} {cells slots : Nat} {Q : State → Prop}
variable {cc : ByteArray} {pc : Nat} {ls : Array Slot} {rest : List Value} {D : va_G} {cl : List vw_C} {A : Nat → Prop} {a : Nat} {H0 : Heap} {ca : Nat → ClassId} {kd : List FieldType} {M : am_H} {Ts Nw : List Cond}
theorem am_mna_W (hx : p.tables.exec = Jvm.exec) (hb : c.code = cc) (hts : ∀ w ∈ Ts, w.before args s = true) (hnw : ∀ w ∈ Nw, va_Nw w s) {own : String} (hown : s.vm.findClass own = some m.cls) (hK : va_K D cl (am_tys kd ca) s) {index t N K : Nat} (ht : kd[t]? = some (.array .long)) (h1 : kd[1]? = some .long) (hover : Cond.arrayOver (.array .long) ∈ Nw) (harr : Cond.arrayClass .long ∈ Ts) (hlink : Cond.classLink own index ("[" ++ (FieldType.array .long).toString) ∈ Ts) {n k : Int32} (hn : ¬ n < 0) (hk : ¬ k < 0) (hN : n.toNatClampNeg = N) (hKn : k.toNatClampNeg = K) (hb1 : N * 4 ≤ 536870912) (hb2 : K * 8 ≤ 536870912) (hc : cells + (1 + N) ≤ R.cells) (hs : slots + (N + N * K) ≤ R.slots) (hd : decode cc pc = .ok (.multianewarray index 2, 4))
    (kk : ∀ (H1 : Heap), va_at D cl (H.size, .inl (ca t, N, .inr (.inr (.inr (.inr (fun i => if i < N then some (H.size + 1 + i) else none)))))) H1 → (∀ j, j < N → va_at D cl (H.size + 1 + j, .inl (ca 1, K, .inr (.inl (fun _ => 0)))) H1) → H1.size = H.size + 1 + N → (∀ q : Nat, q < H.size → H1[q]? = H[q]?) → W p l e R s m args below meth c H1 locs (cells + 1 + N) (slots + N + N * K) Q (F0 m (pc + 4) ls (.ref H.size :: rest))) : W p l e R s m args below meth c H locs cells slots Q (F0 m pc ls (.int k :: .int n :: rest)) := by
  subst hN
  subst hKn
  intro T hT Xs
  obtain ⟨vm₁, cA, comp, -, fA, fC, hO, -, X', step⟩ := Xs.multianewarray2F hx hown (hts _ hlink) (hnw _ hover) (hts _ harr) (g := F0 m pc ls (.int k :: .int n :: rest)) rfl (by rw [hb]; exact hd) rfl hn hk hb1 hb2 (by omega) rfl rfl hc hs
  have r1 : s.vm.findClass "[[J" = some (ca t) := (show ("[" ++ (FieldType.array .long).toString) = "[[J" from by decide +kernel) ▸ (hK.2 t _ (am_tys_at ht)).2
  have r2 : s.vm.findClass "[J" = some (ca 1) := (show ("[" ++ FieldType.long.toString) = "[J" from by decide +kernel) ▸ (hK.2 1 _ (am_tys_at h1)).2
  have ea : cA = ca t := by
    rw [show ("[" ++ (FieldType.array .long).toString) = "[[J" from by decide +kernel] at fA
    exact Option.some.inj (fA.symm.trans r1)
  have ec : comp = ca 1 := by
    rw [show (FieldType.array .long).toString = "[J" from by decide +kernel] at fC
    exact Option.some.inj (fC.symm.trans r2)
  subst ea
  subst ec
  generalize hF : Jvm.Free.Multi.fill (T.setVm vm₁) (ca t) (ca 1) n.toNatClampNeg k.toNatClampNeg (defaultValue .long) n.toNatClampNeg = F at X' step
  have hTh : (T.setVm vm₁).heap = H := hT
  obtain ⟨f1, f2, -, -⟩ := Jvm.Free.Multi.fill_facts (T.setVm vm₁) (ca t) (ca 1) n.toNatClampNeg k.toNatClampNeg (defaultValue .long) n.toNatClampNeg
  rw [hF, hTh] at f1 f2
  have hold : ∀ x : Nat, x < H.size → F.heap[x]? = H[x]? := fun x hx => by
    have := Jvm.Free.Multi.fill_old (T.setVm vm₁) (ca t) (ca 1) n.toNatClampNeg k.toNatClampNeg (defaultValue .long) (a := x) (by rw [hTh]; exact hx) n.toNatClampNeg
    rw [hF, hTh] at this
    exact this
  have hrow : ∀ j : Nat, j < n.toNatClampNeg → F.heap[H.size + 1 + j]? = some (vp_cell (ca 1) (k.toNatClampNeg, .inr (.inl (fun _ => 0)))) := fun j hj => by
    have := Jvm.Free.Multi.fill_inner (T.setVm vm₁) (ca t) (ca 1) n.toNatClampNeg k.toNatClampNeg (defaultValue .long) n.toNatClampNeg j hj
    rw [hF, hTh] at this
    refine this.trans ?_
    show some ({ cls := ca 1, slots := Array.replicate k.toNatClampNeg (defaultValue .long), vm := .none } : Cell) = some (arrV (ca 1) k.toNatClampNeg (fun _ => .long 0))
    rw [arrV_new]
    rfl
  have hout : F.heap[H.size]? = some (vp_cell (ca t) (n.toNatClampNeg, .inr (.inr (.inr (.inr (fun i => if i < n.toNatClampNeg then some (H.size + 1 + i) else none)))))) := by
    rw [f2, am_outer, vp_cell_q]
  obtain ⟨t', a1, b1⟩ := kk F.heap hout hrow (by rw [f1]) hold F rfl X'
  refine ⟨t', step t' ?_, b1⟩
  have e9 : T.heap.size = H.size := by rw [hT]
  rw [e9]
  exact a1
end AMM
