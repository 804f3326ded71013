/-! AM's runs are the machine's: the simulation */ -/
section AMT
variable {P : am_P} {D : va_G} {cl : List vw_C} {A : Nat → Prop} {ca : Nat → ClassId} {RO : am_O} {Ts Nw : List Cond} {zs : List (String × String × String × Nat)}
/-- what holds in a method's frame from its entry on -/
def am_Cx (P : am_P) (D : va_G) (cl : List vw_C) (A : Nat → Prop) (ca : Nat → ClassId) (RO : am_O) (Ts Nw : List Cond) (zs : List (String × String × String × Nat)) (mt : am_Meth) (p : Program) (s : State) (m : MethodId) (args : Array Value) (meth : Method) (c : Code) : Prop :=
  p.tables.exec = Jvm.exec ∧ c.code = mt.2.1 ∧ c.maxLocals = mt.2.2.1 ∧ s.vm.findClass mt.1.cls = some m.cls ∧ (∀ w ∈ Ts, w.before args s = true) ∧ meth.name = mt.1.name ∧ meth.sig.returnType = mt.2.2.2.1 ∧ meth.locks = false ∧ am_Wo P D cl A ca RO Nw zs s s.heap
def am_S (P : am_P) (D : va_G) (cl : List vw_C) (A : Nat → Prop) (ca : Nat → ClassId) (RO : am_O) (Ts Nw : List Cond) (zs : List (String × String × String × Nat)) (l : Launch) (k : Nat) : Prop :=
  ∀ (y pc : Nat) (lv : am_L) (st : List Value) (M : am_H) (sz sl : Nat) (v : Option Value) (M' : am_H) (sz' sl' : Nat), am_W P RO k y pc lv st M sz sl (am_eq v M' sz' sl') →
    ∀ (mt : am_Meth), am_meth P y = some mt → ∀ (p : Program) (e : Env) (R : Room) (s : State) (m : MethodId) (args : Array Value) (below : List Frame) (meth : Method) (c : Code) (H : Heap) (locs : List Loc) (ls : Array Slot) (cells slots mc ms : Nat),
      am_Cx P D cl A ca RO Ts Nw zs mt p s m args meth c → am_R D cl A ca M H → H.size = sz → va_S A s.heap H locs → lv_has ls mt.2.2.1 lv → cells + (sz' - sz) = mc → slots + (sl' - sl) = ms → mc ≤ R.cells → ms ≤ R.slots → mt.2.2.2.2.1 ≤ R.frames → mt.2.2.2.2.2.1 ≤ R.locals →
      W p l e R s m args below meth c H locs cells slots (MQ below (am_Qc D cl A ca v M' sz') args s mc ms A) (F0 m pc ls st)
theorem am_end {k y pc : Nat} {lv : am_L} {st : List Value} {M : am_H} {sz sl : Nat} {v : Option Value} {M' : am_H} {sz' sl' : Nat} (h : am_W P RO k y pc lv st M sz sl (am_eq v M' sz' sl')) : sz ≤ sz' ∧ sl ≤ sl' := by
  obtain ⟨v1, M1, z1, l1, -, h2, h3, h4⟩ := am_det _ _ _ _ _ _ _ _ _ h
  obtain ⟨-, -, rfl, rfl⟩ := h2
  exact ⟨h3, h4⟩
/-- the room of a method for a run -/
def am_rm (mt : am_Meth) (mc ms : Nat) : Room := { frames := mt.2.2.2.2.1, cells := mc, slots := ms, locals := mt.2.2.2.2.2.1 }
theorem am_met (G : am_G P cl Ts Nw zs) {l : Launch} {k : Nat} (hS : am_S P D cl A ca RO Ts Nw zs l k) {z : Nat} {mz : am_Meth} (hz : am_meth P z = some mz) {vs : List Value} (hlen : (lg_sl vs).length ≤ mz.2.2.1) {M : am_H} {sz sl : Nat} {v : Option Value} {M' : am_H} {sz' sl' : Nat} (h : am_W P RO k z 0 (lv_args 0 vs) [] M sz sl (am_eq v M' sz' sl')) :
    Met l mz.1 (Cond.code mz.1 mz.2.1 mz.2.2.1 mz.2.2.2.1 :: Ts) (am_rm mz (sz' - sz) (sl' - sl)) (va_Pc vs (am_B P D cl A ca RO Nw zs M sz)) (am_Qc D cl A ca v M' sz') (sz' - sz) (sl' - sl) A := by
  have hp := (G.1 z mz hz).1
  refine Met.ofW (cc := mz.2.1) (maxL := mz.2.2.1) (ret := mz.2.2.2.1) hp rfl ?_
  intro p e s m args below meth c s₁ B hml hv
  obtain ⟨rfl, hsz, hR, hWo⟩ := hv
  have hts := atoms_spec B.pre
  have hl := lv_entry vs hlen
  rw [lg_entry_eq]
  exact hS z 0 _ [] M sz sl v M' sz' sl' h mz hz p e _ s m _ below meth c s.heap [] _ 0 0 _ _ ⟨B.exec, B.bytes, hml, findClass_of_methodNamed B.named, fun w hw => hts w (List.mem_cons_of_mem _ hw), (name_of_methodNamed B.named B.method).1, B.returns, B.notSynchronized, hWo⟩ hR hsz va_S.rf hl (Nat.zero_add _) (Nat.zero_add _) (Nat.le_refl _) (Nat.le_refl _) (Nat.le_refl _) (Nat.le_refl _)
theorem am_good (G : am_G P cl Ts Nw zs) {z : Nat} {mz : am_Meth} (hz : am_meth P z = some mz) : GoodIn Ts (Cond.code mz.1 mz.2.1 mz.2.2.1 mz.2.2.2.1 :: Ts) := by
  obtain ⟨gM, -, -, -, -, -, -, -, -, -, -, -, -, -, -, -, -, gT, -⟩ := G
  intro w hw
  have hm : w ∈ Ts := (List.mem_cons.mp hw).elim (fun e => e ▸ (gM z mz hz).2.2.1) id
  exact ⟨hm, good_of_word (gT w hm)⟩
end AMT
