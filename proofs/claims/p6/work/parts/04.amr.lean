/-! AM's memory over the machine's heap: am_R; the heap's instructions, a row each -/
def am_enc1 (ca : Nat → ClassId) (e : am_E) : va_E := match e with
  | .inl (t, x) => .inl (ca t, x)
  | .inr o => .inr o
def am_R (D : va_G) (cl : List vw_C) (A : Nat → Prop) (ca : Nat → ClassId) (M : am_H) (H : Heap) : Prop := ∀ (a : Nat) (e : am_E), M a = some e → va_at D cl (a, am_enc1 ca e) H ∧ A a
def am_tys (kd : List FieldType) (ca : Nat → ClassId) : List (ClassId × FieldType) := kd.zipIdx.map (fun q => (ca q.2, q.1))
theorem am_tys_at {kd : List FieldType} {ca : Nat → ClassId} {t : Nat} {ty : FieldType} (h : kd[t]? = some ty) : (am_tys kd ca)[t]? = some (ca t, ty) := by
  unfold am_tys
  rw [List.getElem?_map, List.getElem?_zipIdx, h]
  simp
theorem am_one {D : va_G} {cl : List vw_C} {q : Nat × va_E} {H : Heap} (h : va_at D cl q H) : va_P D cl [q] H := by
  intro k x hx
  have hz : k < 1 := (List.getElem?_eq_some_iff.mp hx).1
  rw [show k = 0 by omega] at hx
  cases hx
  exact h
theorem am_R.lt {D : va_G} {cl : List vw_C} {A : Nat → Prop} {ca : Nat → ClassId} {M : am_H} {H : Heap} (h : am_R D cl A ca M H) {a : Nat} {e : am_E} (ha : M a = some e) : a < H.size := (h a e ha).1.lt
theorem am_R.set {D : va_G} {cl : List vw_C} {A : Nat → Prop} {ca : Nat → ClassId} {M : am_H} {H H1 : Heap} (h : am_R D cl A ca M H) {a : Nat} {e : am_E} (hA : A a) (he : va_at D cl (a, am_enc1 ca e) H1) (oq : ∀ q : Nat, q ≠ a → H1[q]? = H[q]?) : am_R D cl A ca (am_set M a e) H1 := by
  intro b x hx
  by_cases hb : b = a
  · subst hb
    rw [am_same] at hx
    cases hx
    exact ⟨he, hA⟩
  · rw [am_ne hb] at hx
    exact ⟨(h b x hx).1.kept (oq b hb), (h b x hx).2⟩
theorem am_R.push {D : va_G} {cl : List vw_C} {A : Nat → Prop} {ca : Nat → ClassId} {M : am_H} {H H1 : Heap} (h : am_R D cl A ca M H) {e : am_E} (hA : A H.size) (he : va_at D cl (H.size, am_enc1 ca e) H1) (oq : ∀ q : Nat, q < H.size → H1[q]? = H[q]?) : am_R D cl A ca (am_set M H.size e) H1 := by
  intro b x hx
  by_cases hb : b = H.size
  · subst hb
    rw [am_same] at hx
    cases hx
    exact ⟨he, hA⟩
  · rw [am_ne hb] at hx
    exact ⟨(h b x hx).1.kept (oq b (h.lt hx)), (h b x hx).2⟩
theorem am_S_put {A : Nat → Prop} {H0 H H1 : Heap} {locs : List Loc} {a k : Nat} (h : va_S A H0 H locs) (z : H1.size = H.size) (oq : ∀ q : Nat, q ≠ a → H1[q]? = H[q]?) (ha : A a) : va_S A H0 H1 (locs ++ [⟨a, k⟩]) := h.put z oq ha
theorem am_S_push {A : Nat → Prop} {H0 H H1 : Heap} {locs : List Loc} (h : va_S A H0 H locs) (z : H.size ≤ H1.size) (oq : ∀ q : Nat, q < H.size → H1[q]? = H[q]?) : va_S A H0 H1 locs := ⟨Nat.le_trans h.1 z, fun x h1 h2 => (oq x (Nat.lt_of_lt_of_le h1 h.1)).trans (h.2.1 x h1 h2), h.2.2⟩
/-- what links a field of a class, seen from a method's class -/
def am_fOk (Ts Nw : List Cond) (cl : List vw_C) (own : String) (index ci k : Nat) : Prop := ∃ (C : String) (T : u_T) (N : Nat) (ref : String), cl[ci]? = some (C, T, N) ∧ k < N ∧ (∀ w ∈ u_ws C T N, w ∈ Ts) ∧ (ref = (T k).1 ∨ Cond.sameField ref (T k).1 (T k).2.1 (T k).2.2.1 ∈ Ts) ∧ (Cond.fieldLink own index ref (T k).2.1 (T k).2.2.1 ∈ Ts ∨ ∃ host, Cond.fieldLinkNest own index ref (T k).2.1 (T k).2.2.1 host ∈ Nw)
/-- a class's fields: their types, their names apart -/
def am_cOk (Ts : List Cond) (cl : List vw_C) (tyf : Nat → Nat → FieldType) : Prop := ∀ (ci : Nat) (C : String) (T : u_T) (N : Nat), cl[ci]? = some (C, T, N) → (∀ w ∈ u_ws C T N, w ∈ Ts) ∧ (∀ k, k < N → parseFieldDescriptor (T k).2.2.1 = some (tyf ci k)) ∧ (∀ a, a < N → ∀ b, b < N → a ≠ b → (T a).2.1 ≠ (T b).2.1) ∧ Cond.instantiable C N ∈ Ts ∧ Cond.initialized C ∈ Ts
section AMR
variable {p : Program} {l : Launch} {e : Env} {R : Room} {s : State} {m : MethodId} {args : Array Value} {below : List Frame} {meth : Method} {c : Code} {H : Heap} {locs : List Loc} {cells slots : Nat} {Q : State → Prop}
variable {cc : ByteArray} {pc : Nat} {ls : Array Slot} {rest : List Value} {D : va_G} {cl : List vw_C} {A : Nat → Prop} {a : Nat} {H0 : Heap} {ca : Nat → ClassId} {kd : List FieldType} {M : am_H} {Ts Nw : List Cond}
theorem am_getf_W (hx : p.tables.exec = Jvm.exec) (hb : c.code = cc) (hts : ∀ w ∈ Ts, w.before args s = true) (hnw : ∀ w ∈ Nw, va_Nw w s) {own : String} (hown : s.vm.findClass own = some m.cls) (hK : va_K D cl (am_tys kd ca) s) {ci k index : Nat} {fs : List Value} {v : Value} (he : va_at D cl (a, .inr (ci, fs)) H) (hf : am_fOk Ts Nw cl own index ci k) (hv : fs[k]? = some v) (hd : decode cc pc = .ok (.getfield index, 3))
    (kk : W p l e R s m args below meth c H locs cells slots Q (F0 m (pc + 3) ls (v :: rest))) : W p l e R s m args below meth c H locs cells slots Q (F0 m pc ls (.ref a :: rest)) := by
  obtain ⟨C, T, N, ref, hc, hk, hin, href, hlink⟩ := hf
  have hsame : ∀ x, s.fieldFound? (T k).1 (T k).2.1 (T k).2.2.1 = some x → s.fieldFound? ref (T k).2.1 (T k).2.2.1 = some x := by
    rcases href with rfl | h
    · exact fun x h => h
    · exact fun x ho => u_same (hts _ h) x ho
  rcases hlink with h | ⟨host, h⟩
  · exact va_get hx hb hts hin hown hK (am_one he) 0 rfl hc k hk (hts _ h) hsame hv hd kk
  · exact va_getN hx hb hts hin hown hK (am_one he) 0 rfl hc k hk (va_Nw.use rfl (hnw _ h)) hsame hv hd kk
theorem am_putf_W (hx : p.tables.exec = Jvm.exec) (hb : c.code = cc) (hts : ∀ w ∈ Ts, w.before args s = true) (hnw : ∀ w ∈ Nw, va_Nw w s) {own : String} (hown : s.vm.findClass own = some m.cls) (hK : va_K D cl (am_tys kd ca) s) {tyf : Nat → Nat → FieldType} (hcok : am_cOk Ts cl tyf) {ci k index : Nat} {fs : List Value} {v : Value} (he : va_at D cl (a, .inr (ci, fs)) H) (hf : am_fOk Ts Nw cl own index ci k) (hl : k < fs.length) (hn : narrow (tyf ci k) v = v) (hfit : fits (tyf ci k) v = true)
    (hfin : ∀ C T N, cl[ci]? = some (C, T, N) → (T k).2.2.2 = false ∨ (meth.name = "<init>" ∧ (T k).1 = own ∧ ∃ ref, (ref = (T k).1) ∧ Cond.fieldLink own index ref (T k).2.1 (T k).2.2.1 ∈ Ts)) (hd : decode cc pc = .ok (.putfield index, 3))
    (kk : ∀ (H1 : Heap) (j : Nat), va_at D cl (a, .inr (ci, fs.set k v)) H1 → H1.size = H.size → (∀ q : Nat, q ≠ a → H1[q]? = H[q]?) → W p l e R s m args below meth c H1 (locs ++ [⟨a, j⟩]) cells slots Q (F0 m (pc + 3) ls rest)) : W p l e R s m args below meth c H locs cells slots Q (F0 m pc ls (v :: .ref a :: rest)) := by
  obtain ⟨C, T, N, ref, hc, hk, hin, href, hlink⟩ := hf
  obtain ⟨-, hty, hnm, -, -⟩ := hcok ci C T N hc
  have hsame : ∀ x, s.fieldFound? (T k).1 (T k).2.1 (T k).2.2.1 = some x → s.fieldFound? ref (T k).2.1 (T k).2.2.1 = some x := by
    rcases href with rfl | h
    · exact fun x h => h
    · exact fun x ho => u_same (hts _ h) x ho
  have hap := va_apart (own := own) hts hin (tyf ci) hty hnm hK hc
  obtain ⟨r, h1, cell, q1, q2, q3, q4⟩ := he
  have hr : r = (C, T, N) := Option.some.inj (h1.symm.trans hc)
  subst hr
  obtain ⟨hS, hfc, kC, hkC, hkind⟩ := hK.1 ci _ hc
  obtain ⟨cf, kf, fi, f, hi, hsl⟩ := hS k hk
  have hst := (u_facts hfc hkC (u_lays hts hin hk) hi).1
  have hlay := hts _ (hin _ (u_in_lay hk))
  unfold u_lay at hlay
  rcases hfin C T N hc with hF | ⟨hin2, hdecl, ref2, hr2, hlink2⟩
  · rw [if_neg (by rw [hF]; decide)] at hlay
    have h6 := u_store hfc hkC hkind hlay hi (hty k hk) hn hfit
    rcases hlink with h | ⟨host, h⟩
    · refine W.putK hx hb (f := f) ⟨hown, hts _ h, ⟨_, _, _, hsame _ hi⟩, hst⟩ (by rw [q2]; exact h6) q1 q3 (by rw [hsl]; exact k2_hasslot (q4 k hk)) rfl rfl hd fun H' e1 e2 e3 => ?_
      rw [hsl] at e1 ⊢
      exact kk H' _ ⟨_, hc, t_OB.to (V := updV (vp_V fs) k v) ⟨_, e1, q2, q3, t_set q4 hap hk v⟩ (fun j _ => vp_updV_set hl v j)⟩ e2 e3
    · refine va_WputK hx hb (f := f) hown (va_Nw.use rfl (hnw _ h)) (hsame _ hi) hst (by rw [q2]; exact h6) q1 q3 (by rw [hsl]; exact k2_hasslot (q4 k hk)) rfl rfl hd fun H' e1 e2 e3 => ?_
      rw [hsl] at e1 ⊢
      exact kk H' _ ⟨_, hc, t_OB.to (V := updV (vp_V fs) k v) ⟨_, e1, q2, q3, t_set q4 hap hk v⟩ (fun j _ => vp_updV_set hl v j)⟩ e2 e3
  · by_cases hF : (T k).2.2.2 = true
    · rw [if_pos hF] at hlay
      subst hr2
      have hcf : m.cls = cf := by
        obtain ⟨_, _, c', _, _, _, -, -, hf', -, -, -, hown2, -⟩ := Cond.laysFinal_spec hlay
        have e1 : c' = cf := by have := hi.symm.trans hf'; simp at this; exact this.1.symm
        rw [hdecl] at hown2
        rw [← e1]; exact Option.some.inj (hown.symm.trans hown2)
      have h6 := u_fits hfc hkC hkind (Or.inr hlay) hi (hty k hk) hn hfit
      refine W.putFinK hx hb hown (hts _ hlink2) hi hst hcf hin2 (by rw [q2]; exact h6) q1 q3 (by rw [hsl]; exact k2_hasslot (q4 k hk)) rfl rfl hd fun H' e1 e2 e3 => ?_
      rw [hsl] at e1 ⊢
      exact kk H' _ ⟨_, hc, t_OB.to (V := updV (vp_V fs) k v) ⟨_, e1, q2, q3, t_set q4 hap hk v⟩ (fun j _ => vp_updV_set hl v j)⟩ e2 e3
    · rw [if_neg hF] at hlay
      subst hr2
      have h6 := u_store hfc hkC hkind hlay hi (hty k hk) hn hfit
      refine W.putK hx hb (f := f) ⟨hown, hts _ hlink2, ⟨_, _, _, hi⟩, hst⟩ (by rw [q2]; exact h6) q1 q3 (by rw [hsl]; exact k2_hasslot (q4 k hk)) rfl rfl hd fun H' e1 e2 e3 => ?_
      rw [hsl] at e1 ⊢
      exact kk H' _ ⟨_, hc, t_OB.to (V := updV (vp_V fs) k v) ⟨_, e1, q2, q3, t_set q4 hap hk v⟩ (fun j _ => vp_updV_set hl v j)⟩ e2 e3
theorem am_iast_W (hx : p.tables.exec = Jvm.exec) (hb : c.code = cc) (hK : va_K D cl (am_tys kd ca) s) {t n : Nat} {f : Nat → Int32} (ht : kd[t]? = some .int) (he : va_at D cl (a, .inl (ca t, n, .inl f)) H) {i x : Int32} (hin : vp_in i n) (hd : decode cc pc = .ok (.iastore, 1))
    (kk : ∀ (H1 : Heap) (j : Nat), va_at D cl (a, .inl (ca t, n, .inl (upd f i.toNatClampNeg x))) H1 → H1.size = H.size → (∀ q : Nat, q ≠ a → H1[q]? = H[q]?) → W p l e R s m args below meth c H1 (locs ++ [⟨a, j⟩]) cells slots Q (F0 m (pc + 1) ls rest)) : W p l e R s m args below meth c H locs cells slots Q (F0 m pc ls (.int x :: .int i :: .ref a :: rest)) := by
  refine W.iast hx hb he ((hK.2 t _ (am_tys_at ht)).1 n (fun j => .int (f j))) (fun q => by cases q) (by show ¬ (i < 0 ∨ (arrV _ _ _).slots.size ≤ _); rw [arrV_size]; exact hin) rfl rfl hd fun H1 e1 z oq => kk H1 _ ?_ z oq
  show H1[a]? = some (vp_cell _ _)
  rw [e1]
  rw [vp_cell_i, vp_cell_i, arrV_store]
  congr 2
  funext q
  by_cases hq : q = i.toNatClampNeg
  · subst hq
    simp [updV, upd]
  · simp [updV, upd, hq]
theorem am_zast_W (hx : p.tables.exec = Jvm.exec) (hb : c.code = cc) (hK : va_K D cl (am_tys kd ca) s) {t n : Nat} {f : Nat → Int32} (ht : kd[t]? = some .boolean) (he : va_at D cl (a, .inl (ca t, n, .inl f)) H) {i x : Int32} (hin : vp_in i n) (hd : decode cc pc = .ok (.bastore, 1))
    (kk : ∀ (H1 : Heap) (j : Nat), va_at D cl (a, .inl (ca t, n, .inl (upd f i.toNatClampNeg (vp_nar .boolean x)))) H1 → H1.size = H.size → (∀ q : Nat, q ≠ a → H1[q]? = H[q]?) → W p l e R s m args below meth c H1 (locs ++ [⟨a, j⟩]) cells slots Q (F0 m (pc + 1) ls rest)) : W p l e R s m args below meth c H locs cells slots Q (F0 m pc ls (.int x :: .int i :: .ref a :: rest)) := by
  refine W.zast hx hb he ((hK.2 t _ (am_tys_at ht)).1 n (fun j => .int (f j))) (fun q => by cases q) (by show ¬ (i < 0 ∨ (arrV _ _ _).slots.size ≤ _); rw [arrV_size]; exact hin) rfl rfl hd fun H1 e1 z oq => kk H1 _ ?_ z oq
  show H1[a]? = some (vp_cell _ _)
  rw [e1]
  rw [vp_cell_i, vp_cell_i, arrV_store]
  congr 2
  funext q
  by_cases hq : q = i.toNatClampNeg
  · subst hq
    simp [updV, upd, vp_nar]
    try rfl
  · simp [updV, upd, hq]
theorem am_last_W (hx : p.tables.exec = Jvm.exec) (hb : c.code = cc) (hK : va_K D cl (am_tys kd ca) s) {t n : Nat} {f : Nat → Int64} (ht : kd[t]? = some .long) (he : va_at D cl (a, .inl (ca t, n, .inr (.inl f))) H) {i : Int32} {x : Int64} (hin : vp_in i n) (hd : decode cc pc = .ok (.lastore, 1))
    (kk : ∀ (H1 : Heap) (j : Nat), va_at D cl (a, .inl (ca t, n, .inr (.inl (vp_updL f i.toNatClampNeg x)))) H1 → H1.size = H.size → (∀ q : Nat, q ≠ a → H1[q]? = H[q]?) → W p l e R s m args below meth c H1 (locs ++ [⟨a, j⟩]) cells slots Q (F0 m (pc + 1) ls rest)) : W p l e R s m args below meth c H locs cells slots Q (F0 m pc ls (.long x :: .int i :: .ref a :: rest)) := by
  refine W.last hx hb he ((hK.2 t _ (am_tys_at ht)).1 n (fun j => .long (f j))) (fun q => by cases q) (by show ¬ (i < 0 ∨ (arrV _ _ _).slots.size ≤ _); rw [arrV_size]; exact hin) rfl rfl hd fun H1 e1 z oq => kk H1 _ ?_ z oq
  show H1[a]? = some (vp_cell _ _)
  rw [e1]
  rw [vp_cell_l, vp_cell_l, arrV_store]
  congr 2
  funext q
  by_cases hq : q = i.toNatClampNeg
  · subst hq
    simp [updV, vp_updL]
  · simp [updV, vp_updL, hq]
theorem am_q_set {cA : ClassId} {n : Nat} {f : Nat → Option Nat} {i : Int32} {o : Option Nat} {H1 : Heap} (e1 : H1[a]? = some ((vp_cell cA (n, .inr (.inr (.inr (.inr f))))).setSlot i.toNatClampNeg (va_rf o))) : va_at D cl (a, .inl (cA, n, .inr (.inr (.inr (.inr (va_up f i.toNatClampNeg o)))))) H1 := by
  show H1[a]? = some (vp_cell _ _)
  rw [e1]
  rw [vp_cell_q, vp_cell_q, arrV_store]
  congr 2
  funext q
  by_cases hq : q = i.toNatClampNeg
  · subst hq
    simp [updV, va_up]
  · simp [updV, va_up, hq]
/-- aastore of an object, of a class that may stand there -/
theorem am_aastO_W (hx : p.tables.exec = Jvm.exec) (hb : c.code = cc) (hnw : ∀ w ∈ Nw, va_Nw w s) (hK : va_K D cl (am_tys kd ca) s) {t n v ci : Nat} {vs : List Value} {E : String} {r : vw_C} {f : Nat → Option Nat} (ht : kd[t]? = some (.object E)) (hc : cl[ci]? = some r) (hE : r.1 = E ∨ Cond.castable r.1 E ∈ Nw) (he : va_at D cl (a, .inl (ca t, n, .inr (.inr (.inr (.inr f))))) H) (hv : va_at D cl (v, .inr (ci, vs)) H) {i : Int32} (hin : vp_in i n) (hd : decode cc pc = .ok (.aastore, 1))
    (kk : ∀ (H1 : Heap) (j : Nat), va_at D cl (a, .inl (ca t, n, .inr (.inr (.inr (.inr (va_up f i.toNatClampNeg (some v))))))) H1 → H1.size = H.size → (∀ q : Nat, q ≠ a → H1[q]? = H[q]?) → W p l e R s m args below meth c H1 (locs ++ [⟨a, j⟩]) cells slots Q (F0 m (pc + 1) ls rest)) : W p l e R s m args below meth c H locs cells slots Q (F0 m pc ls (.ref v :: .int i :: .ref a :: rest)) := by
  have hlt : i.toNatClampNeg < n := Nat.not_le.mp fun q => hin (Or.inr q)
  have h0 : ¬ i < 0 := fun q => hin (Or.inl q)
  obtain ⟨r', hr', cellV, g1, g2, g3, -⟩ := hv
  have hcls := (hK.1 ci r hc).2
  obtain ⟨kA, comp, k1, k2, k3, -⟩ := (hK.2 t _ (am_tys_at ht)).2
  obtain ⟨kE, hkE, -⟩ := Vm.findClass_spec k3
  obtain ⟨kC, hkC, -⟩ := hcls.2
  have hass : s.vm.assignable (D.1 ci) comp = true := by
    rcases hE with h | h
    · subst h
      have hcomp : comp = D.1 ci := Option.some.inj (k3.symm.trans hcls.1)
      rw [hcomp]
      exact va_assign hcls
    · obtain ⟨c0, t1, f1, f2, f3⟩ := Cond.castable_spec (va_Nw.use (A := args) rfl (hnw _ h))
      cases hcls.1.symm.trans f1
      cases k3.symm.trans f2
      exact f3
  refine W.aast hx hb he (fun q h => by cases h) (fun h => by cases h) k1 k2 rfl hkE ⟨h0, by show _ < (arrV _ _ _).slots.size; rw [arrV_size]; exact hlt⟩ g1 (fun q h => by rw [g3] at h; cases h) (by rw [g2]; exact hkC) (by rw [g2]; exact hass) rfl rfl hd fun H1 e1 z oq => kk H1 _ (am_q_set e1) z oq
theorem am_aastN_W (hx : p.tables.exec = Jvm.exec) (hb : c.code = cc) (hK : va_K D cl (am_tys kd ca) s) {t n : Nat} {E : String} {f : Nat → Option Nat} (ht : kd[t]? = some (.object E)) (he : va_at D cl (a, .inl (ca t, n, .inr (.inr (.inr (.inr f))))) H) {i : Int32} (hin : vp_in i n) (hd : decode cc pc = .ok (.aastore, 1))
    (kk : ∀ (H1 : Heap) (j : Nat), va_at D cl (a, .inl (ca t, n, .inr (.inr (.inr (.inr (va_up f i.toNatClampNeg none)))))) H1 → H1.size = H.size → (∀ q : Nat, q ≠ a → H1[q]? = H[q]?) → W p l e R s m args below meth c H1 (locs ++ [⟨a, j⟩]) cells slots Q (F0 m (pc + 1) ls rest)) : W p l e R s m args below meth c H locs cells slots Q (F0 m pc ls (.null :: .int i :: .ref a :: rest)) := by
  refine va_WaastN (C := E) hx hb he ((hK.2 t _ (am_tys_at ht)).1 n (fun j => va_rf (f j))) (fun h => by cases h) (by show ¬ (i < 0 ∨ (arrV _ _ _).slots.size ≤ _); rw [arrV_size]; exact hin) rfl rfl hd fun H1 e1 z oq => kk H1 _ (am_q_set (o := none) e1) z oq
/-- an array's class is that of the component of a class of arrays of arrays -/
def am_AA (U : State) (cA cB : ClassId) (ty : FieldType) : Prop := ∃ (kA kB : Class) (x : ClassId) (tb : FieldType), U.vm.classes[cA]? = some kA ∧ kA.kind = .array cB ty ∧ U.vm.classes[cB]? = some kB ∧ kB.kind = .array x tb
theorem am_aastA_W (hx : p.tables.exec = Jvm.exec) (hb : c.code = cc) (hK : va_K D cl (am_tys kd ca) s) {t t2 n v : Nat} {x : vp_A} {ty : FieldType} {f : Nat → Option Nat} (hAA : am_AA s (ca t) (ca t2) (.array ty)) (he : va_at D cl (a, .inl (ca t, n, .inr (.inr (.inr (.inr f))))) H) (hv : va_at D cl (v, .inl (ca t2, x)) H) {i : Int32} (hin : vp_in i n) (hd : decode cc pc = .ok (.aastore, 1))
    (kk : ∀ (H1 : Heap) (j : Nat), va_at D cl (a, .inl (ca t, n, .inr (.inr (.inr (.inr (va_up f i.toNatClampNeg (some v))))))) H1 → H1.size = H.size → (∀ q : Nat, q ≠ a → H1[q]? = H[q]?) → W p l e R s m args below meth c H1 (locs ++ [⟨a, j⟩]) cells slots Q (F0 m (pc + 1) ls rest)) : W p l e R s m args below meth c H locs cells slots Q (F0 m pc ls (.ref v :: .int i :: .ref a :: rest)) := by
  have hlt : i.toNatClampNeg < n := Nat.not_le.mp fun q => hin (Or.inr q)
  have h0 : ¬ i < 0 := fun q => hin (Or.inl q)
  obtain ⟨kA, kB, xx, tb, k1, k2, k3, k4⟩ := hAA
  have hvm0 : (vp_cell (ca t2) x).vm = .none := by obtain ⟨n, f | f | f | f | f⟩ := x <;> rfl
  have hcl0 : (vp_cell (ca t2) x).cls = ca t2 := by obtain ⟨n, f | f | f | f | f⟩ := x <;> rfl
  have hass : s.vm.assignable (ca t2) (ca t2) = true := by
    show s.vm.assignableAux (255 + 1) _ _ = true
    unfold Vm.assignableAux
    simp only [beq_self_eq_true, Bool.true_or]
  refine W.aast hx hb he (fun q h => by cases h) (fun h => by cases h) k1 k2 rfl k3 ⟨h0, by show _ < (arrV _ _ _).slots.size; rw [arrV_size]; exact hlt⟩ hv (fun q h => by rw [hvm0] at h; cases h) (by rw [hcl0]; exact k3) (by rw [hcl0]; exact hass) rfl rfl hd fun H1 e1 z oq => kk H1 _ (am_q_set e1) z oq
theorem am_aald_W (hx : p.tables.exec = Jvm.exec) (hb : c.code = cc) (hK : va_K D cl (am_tys kd ca) s) {t n : Nat} {ty : FieldType} {f : Nat → Option Nat} (ht : kd[t]? = some ty) (hr : ty.isReference = true) (he : va_at D cl (a, .inl (ca t, n, .inr (.inr (.inr (.inr f))))) H) {i : Int32} (hin : vp_in i n) (hd : decode cc pc = .ok (.aaload, 1))
    (kk : W p l e R s m args below meth c H locs cells slots Q (F0 m (pc + 1) ls (va_rf (f i.toNatClampNeg) :: rest))) : W p l e R s m args below meth c H locs cells slots Q (F0 m pc ls (.int i :: .ref a :: rest)) := by
  have hlt : i.toNatClampNeg < n := Nat.not_le.mp fun q => hin (Or.inr q)
  exact W.aald (v := va_rf (f i.toNatClampNeg)) (ty := ty) hx hb he ((hK.2 t _ (am_tys_at ht)).1 n (fun j => va_rf (f j))) hr (fun q => by cases q) (by show ¬ (i < 0 ∨ (arrV _ _ _).slots.size ≤ _); rw [arrV_size]; exact hin) (by show (arrV _ _ _).slots[_]? = _; rw [arrV_read _ _ hlt]) rfl rfl hd kk
/-- new T[n] of numbers -/
theorem am_newa_W (hx : p.tables.exec = Jvm.exec) (hb : c.code = cc) (hts : ∀ w ∈ Ts, w.before args s = true) (hK : va_K D cl (am_tys kd ca) s) {atype : ArrayType} (harr : Cond.arrayClass (newarray.typeOf atype) ∈ Ts) {t N : Nat} {a0 : vp_A} (ht : kd[t]? = some (newarray.typeOf atype)) (hpr : ∀ C, newarray.typeOf atype ≠ .object C) (ha : ∀ cA : ClassId, vp_cell cA a0 = arrV cA N (fun _ => defaultValue (newarray.typeOf atype))) {n : Int32} (hn : ¬ n < 0) (hN : n.toNatClampNeg = N) (hby : N * componentBytes (newarray.typeOf atype) ≤ 536870912) (hc : cells + 1 ≤ R.cells) (hs : slots + N ≤ R.slots) (hd : decode cc pc = .ok (.newarray atype, 2))
    (kk : ∀ (H1 : Heap), va_at D cl (H.size, .inl (ca t, a0)) H1 → H1.size = H.size + 1 → (∀ q : Nat, q < H.size → H1[q]? = H[q]?) → W p l e R s m args below meth c H1 locs (cells + 1) (slots + N) Q (F0 m (pc + 2) ls (.ref H.size :: rest))) : W p l e R s m args below meth c H locs cells slots Q (F0 m pc ls (.int n :: rest)) := by
  refine va_newaK hx hb (hts _ harr) rfl hd rfl hn hN hby hc hs rfl fun H1 cA e1 z1 o1 hAr hNm => kk H1 ?_ z1 o1
  have hr := (hK.2 t _ (am_tys_at ht)).2
  have e2 : cA = ca t := by
    unfold va_RA at hr
    cases atype <;> exact Option.some.inj (hNm.symm.trans hr)
  show H1[H.size]? = some (vp_cell _ _)
  rw [ha, ← e2]
  exact e1
/-- new C -/
theorem am_new_W (hx : p.tables.exec = Jvm.exec) (hb : c.code = cc) (hts : ∀ w ∈ Ts, w.before args s = true) {own : String} (hown : s.vm.findClass own = some m.cls) (hK : va_K D cl (am_tys kd ca) s) {tyf : Nat → Nat → FieldType} (hcok : am_cOk Ts cl tyf) {ci index N : Nat} {C : String} {T : u_T} (hci : cl[ci]? = some (C, T, N)) (hlink : Cond.classLink own index C ∈ Ts) {fs : List Value} (hfs : ∀ j, j < N → defaultValue (tyf ci j) = vp_V fs j) (hc : cells + 1 ≤ R.cells) (hs : slots + N ≤ R.slots) (hd : decode cc pc = .ok (.new index, 3))
    (kk : ∀ (H1 : Heap), va_at D cl (H.size, .inr (ci, fs)) H1 → H1.size = H.size + 1 → (∀ q : Nat, q < H.size → H1[q]? = H[q]?) → W p l e R s m args below meth c H1 locs (cells + 1) (slots + N) Q (F0 m (pc + 3) ls (.ref H.size :: rest))) : W p l e R s m args below meth c H locs cells slots Q (F0 m pc ls rest) := by
  obtain ⟨hin, hty, hnm, hinst, hini⟩ := hcok ci C T N hci
  have hKn := hK.1 ci _ hci
  refine W.newcK hx hb hown (hts _ hlink) (hts _ hinst) (hts _ hini) rfl hd hc hs hKn.2.1 rfl fun H1 kC hkC e1 z1 o1 => kk H1 ?_ z1 o1
  exact ⟨_, hci, (u_born (tyf ci) hts hin hKn hkC e1 hty).to hfs⟩
/-- new C[n], new T[n][] -/
theorem am_anew_W (hx : p.tables.exec = Jvm.exec) (hb : c.code = cc) (hts : ∀ w ∈ Ts, w.before args s = true) {own : String} (hown : s.vm.findClass own = some m.cls) (hnw : ∀ w ∈ Nw, va_Nw w s) (hK : va_K D cl (am_tys kd ca) s) {t N index : Nat} {C : String} (ht : kd[t]? = some (.object C)) (hover : Cond.arrayOver (.object C) ∈ Nw) (hlink : Cond.classLink own index C ∈ Ts) {n : Int32} (hn : ¬ n < 0) (hN : n.toNatClampNeg = N) (hby : N * 4 ≤ 536870912) (hc : cells + 1 ≤ R.cells) (hs : slots + N ≤ R.slots) (hd : decode cc pc = .ok (.anewarray index, 3))
    (kk : ∀ (H1 : Heap), va_at D cl (H.size, .inl (ca t, N, .inr (.inr (.inr (.inr (fun _ => none)))))) H1 → H1.size = H.size + 1 → (∀ q : Nat, q < H.size → H1[q]? = H[q]?) → W p l e R s m args below meth c H1 locs (cells + 1) (slots + N) Q (F0 m (pc + 3) ls (.ref H.size :: rest))) : W p l e R s m args below meth c H locs cells slots Q (F0 m pc ls (.int n :: rest)) := by
  subst hN
  refine W.anew hx hb hown (hts _ hlink) (va_AO.use (hnw _ hover)) rfl hd rfl hn hby hc hs fun cA kA comp f1 f2 f3 f4 => ?_
  have hr := (hK.2 t _ (am_tys_at ht)).2
  have e2 : cA = ca t := by
    obtain ⟨kB, cB, b1, b2, b3, b4⟩ := hr
    exact Option.some.inj (f1.symm.trans b4)
  subst e2
  generalize hH1 : H.push ({ cls := ca t, slots := Array.replicate n.toNatClampNeg .null, vm := .none } : Cell) = H1
  have z1 : H1.size = H.size + 1 := by rw [← hH1, Array.size_push]
  have e1 : H1[H.size]? = some (arrV (ca t) n.toNatClampNeg (fun _ => .null)) := by rw [← hH1, Array.getElem?_push_size, ← arrV_new]
  have o1 : ∀ q : Nat, q < H.size → H1[q]? = H[q]? := fun q hq => by rw [← hH1, Array.getElem?_push, if_neg (Nat.ne_of_lt hq)]
  exact kk H1 e1 z1 o1
theorem am_anewA_W (hx : p.tables.exec = Jvm.exec) (hb : c.code = cc) (hts : ∀ w ∈ Ts, w.before args s = true) {own : String} (hown : s.vm.findClass own = some m.cls) (hnw : ∀ w ∈ Nw, va_Nw w s) (hK : va_K D cl (am_tys kd ca) s) {t N index : Nat} {ty : FieldType} (ht : kd[t]? = some (.array ty)) (hover : Cond.arrayOver (.array ty) ∈ Nw) (hlink : Cond.classLink own index (FieldType.array ty).toString ∈ Ts) {n : Int32} (hn : ¬ n < 0) (hN : n.toNatClampNeg = N) (hby : N * 4 ≤ 536870912) (hc : cells + 1 ≤ R.cells) (hs : slots + N ≤ R.slots) (hd : decode cc pc = .ok (.anewarray index, 3))
    (kk : ∀ (H1 : Heap), va_at D cl (H.size, .inl (ca t, N, .inr (.inr (.inr (.inr (fun _ => none)))))) H1 → H1.size = H.size + 1 → (∀ q : Nat, q < H.size → H1[q]? = H[q]?) → W p l e R s m args below meth c H1 locs (cells + 1) (slots + N) Q (F0 m (pc + 3) ls (.ref H.size :: rest))) : W p l e R s m args below meth c H locs cells slots Q (F0 m pc ls (.int n :: rest)) := by
  subst hN
  refine W.anewA hx hb hown (hts _ hlink) (hnw _ hover) rfl hd rfl hn hby hc hs fun cA kA comp f1 f2 f3 f4 => ?_
  have hr := (hK.2 t _ (am_tys_at ht)).2
  have e2 : cA = ca t := Option.some.inj (f1.symm.trans hr)
  subst e2
  generalize hH1 : H.push ({ cls := ca t, slots := Array.replicate n.toNatClampNeg .null, vm := .none } : Cell) = H1
  have z1 : H1.size = H.size + 1 := by rw [← hH1, Array.size_push]
  have e1 : H1[H.size]? = some (arrV (ca t) n.toNatClampNeg (fun _ => .null)) := by rw [← hH1, Array.getElem?_push_size, ← arrV_new]
  have o1 : ∀ q : Nat, q < H.size → H1[q]? = H[q]? := fun q hq => by rw [← hH1, Array.getElem?_push, if_neg (Nat.ne_of_lt hq)]
  exact kk H1 e1 z1 o1
end AMR
