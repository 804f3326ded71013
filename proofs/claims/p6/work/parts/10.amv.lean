/-! AM's runs are the machine's: the induction */ -/
section AMV
variable {P : am_P} {D : va_G} {cl : List vw_C} {A : Nat → Prop} {ca : Nat → ClassId} {RO : am_O} {Ts Nw : List Cond} {zs : List (String × String × String × Nat)}
set_option maxHeartbeats 4000000 in
theorem am_sim (G : am_G P cl Ts Nw zs) (l : Launch) : ∀ k, am_S P D cl A ca RO Ts Nw zs l k
  | 0 => fun y pc lv st M sz sl v M' sz' sl' h => False.elim h
  | k + 1 => by
    have hSk := am_sim G l k
    intro y pc lv st M sz sl v M' sz' sl' h mt hm p e R s m args below meth c H locs ls cells slots mc ms hC hR hsz hS hl hmc hms hmcR hmsR hfr hlo
    have hend := am_end h
    obtain ⟨mt', hm', i, len, hd, h⟩ := h
    cases hm.symm.trans hm'
    obtain ⟨hx, hb, hml, hown, hts, hnm, hret, hlocks, hWo⟩ := id hC
    have hK := hWo.1
    have hnw := hWo.2.1
    have hA := hWo.2.2.2.2.2
    obtain ⟨gM, gF, gC, gP, gK, gW, gD, gA, gZ, gcs, gci, gcv, gN, gMth, gS, ⟨k0, k1, k2⟩, ⟨a0, a1, a2⟩, gT, gNw⟩ := id G
    have hy := (gM y mt hm).2.1
    rw [← hy] at hown
    -- the same frame's next
    have go : ∀ (pc' : Nat) (lv' : am_L) (st' : List Value) (M1 : am_H) (z1 l1 : Nat) (H1 : Heap) (locs1 : List Loc) (ls1 : Array Slot) (cells1 slots1 : Nat), am_W P RO k y pc' lv' st' M1 z1 l1 (am_eq v M' sz' sl') → am_R D cl A ca M1 H1 → H1.size = z1 → va_S A s.heap H1 locs1 → lv_has ls1 mt.2.2.1 lv' → cells1 + (sz' - z1) = mc → slots1 + (sl' - l1) = ms →
        W p l e R s m args below meth c H1 locs1 cells1 slots1 (MQ below (am_Qc D cl A ca v M' sz') args s mc ms A) (F0 m pc' ls1 st') := fun pc' lv' st' M1 z1 l1 H1 locs1 ls1 cells1 slots1 h1 h2 h3 h4 h5 h6 h7 =>
      hSk y pc' lv' st' M1 z1 l1 v M' sz' sl' h1 mt hm p e R s m args below meth c H1 locs1 ls1 cells1 slots1 mc ms hC h2 h3 h4 h5 h6 h7 hmcR hmsR hfr hlo
    have put : ∀ (pc' : Nat) (st' : List Value) (a : Nat) (x : am_E) (H1 : Heap) (j : Nat), am_W P RO k y pc' lv st' (am_set M a x) sz sl (am_eq v M' sz' sl') → A a → va_at D cl (a, am_enc1 ca x) H1 → H1.size = H.size → (∀ q : Nat, q ≠ a → H1[q]? = H[q]?) →
        W p l e R s m args below meth c H1 (locs ++ [⟨a, j⟩]) cells slots (MQ below (am_Qc D cl A ca v M' sz') args s mc ms A) (F0 m pc' ls st') := fun pc' st' a x H1 j h1 h2 h3 h4 h5 =>
      go pc' lv st' _ sz sl H1 _ ls cells slots h1 (hR.set h2 h3 h5) (h4.trans hsz) (am_S_put hS h4 h5 h2) hl hmc hms
    have born : ∀ (pc' : Nat) (st' : List Value) (x : am_E) (n : Nat) (H1 : Heap), am_W P RO k y pc' lv st' (am_set M sz x) (sz + 1) (sl + n) (am_eq v M' sz' sl') → va_at D cl (H.size, am_enc1 ca x) H1 → H1.size = H.size + 1 → (∀ q : Nat, q < H.size → H1[q]? = H[q]?) →
        W p l e R s m args below meth c H1 locs (cells + 1) (slots + n) (MQ below (am_Qc D cl A ca v M' sz') args s mc ms A) (F0 m pc' ls st') := fun pc' st' x n H1 h1 h2 h3 h4 => by
      have h9 := am_end h1
      refine go pc' lv st' _ (sz + 1) (sl + n) H1 _ ls (cells + 1) (slots + n) h1 ?_ (by omega) (am_S_push hS (by omega) h4) hl (by omega) (by omega)
      rw [← hsz]
      exact hR.push (hA _ hS.1) h2 h4
    rcases h with ⟨w, h1, h2⟩ | ⟨rfl, st', h1, h2, h3⟩ | ⟨l0, n, lv', st', h1, h2, h3, h4⟩ | h | h | h | ⟨rfl, z, vs, r, mz, h1, h2, h3, h4, h5, h6⟩ | h
    · refine am_push_W hx hb hown (own := am_on P mt.2.2.2.2.2.2) (fun q w hq => ?_) h1 hd hl (go _ _ _ _ _ _ _ _ _ _ _ h2 hR hsz hS hl hmc hms)
      rcases gK _ _ _ hq with ⟨x, e1, e2⟩ | ⟨x, e1, e2⟩
      · exact Or.inl ⟨x, e1, hts _ e2⟩
      · exact Or.inr ⟨x, e1, hts _ e2⟩
    · exact am_op_W hx hb h1 h2 hd (go _ _ _ _ _ _ _ _ _ _ _ h3 hR hsz hS hl hmc hms)
    · refine am_sto_W hx hb h1 h2 (len' := len) ?_ hd hl (fun ls' hl' => go _ _ _ _ _ _ _ _ _ _ _ h4 hR hsz hS hl' hmc hms)
      rcases h3 with h3 | h3
      · exact Or.inl h3
      · exact Or.inr h3
    · exact am_br_W hx hb h hd (fun t r hk => go _ _ _ _ _ _ _ _ _ _ _ hk hR hsz hS hl hmc hms)
    · cases i with
      | getfield x =>
        obtain ⟨rfl, a, r, ci, fs, kk, w, rfl, h2, h3, h4, h5⟩ := h
        exact am_getf_W hx hb hts hnw hown hK (hR a _ h2).1 (gF _ _ _ _ h3) h4 hd (go _ _ _ _ _ _ _ _ _ _ _ h5 hR hsz hS hl hmc hms)
      | putfield x =>
        obtain ⟨rfl, w, a, r, ci, fs, kk, rfl, h2, h3, h4, h5, h6, h7, h8⟩ := h
        refine am_putf_W hx hb hts hnw hown hK gC (hR a _ h2).1 (gF _ _ _ _ h3) h5 h6 h7 (fun C T N hci => ?_) hd (fun H1 j e1 e2 e3 => put _ _ a _ H1 j h8 (hR a _ h2).2 e1 e2 e3)
        obtain ⟨g1, g2⟩ := gP _ _ _ _ h3 C T N hci
        rcases h4 with h4 | ⟨h4, h9⟩
        · exact Or.inl (g1 h4)
        · obtain ⟨g3, g4⟩ := g2 h4
          exact Or.inr ⟨hnm.trans (by simpa using h9), g3, _, rfl, g4⟩
      | getstatic x =>
        obtain ⟨rfl, a, h1, h2⟩ := h
        exact am_gets_W hx hb hts hown hWo.2.2.1 hS (gZ _ _ _ h1) hd (go _ _ _ _ _ _ _ _ _ _ _ h2 hR hsz hS hl hmc hms)
      | new x =>
        obtain ⟨rfl, ci, h1, h2⟩ := h
        obtain ⟨C, T, N, hci, hw⟩ := gW _ _ _ h1
        obtain ⟨d1, d2⟩ := gD _ _ _ _ hci
        have h9 := am_end h2
        rw [d1] at h2 h9
        rw [← hsz] at h2
        refine am_new_W hx hb hts hown hK gC hci hw d2 (by omega) (by omega) hd (fun H1 e1 e2 e3 => ?_)
        rw [hsz] at h2
        rw [hsz]
        exact born _ _ _ _ H1 h2 e1 e2 e3
      | newarray ty =>
        obtain ⟨rfl, n, r, t, x, rfl, h2, h3, h4, h5⟩ := h
        have h9 := am_end h5
        have fin : ∀ (t0 : Nat) (x0 : vp_A), some (t0, x0) = some (t, x) → (am_kd P)[t0]? = some (newarray.typeOf ty) → Cond.arrayClass (newarray.typeOf ty) ∈ Ts → (∀ C, newarray.typeOf ty ≠ .object C) → (∀ cA : ClassId, vp_cell cA x0 = arrV cA n.toNatClampNeg (fun _ => defaultValue (newarray.typeOf ty))) → n.toNatClampNeg * componentBytes (newarray.typeOf ty) ≤ 536870912 → W p l e R s m args below meth c H locs cells slots (MQ below (am_Qc D cl A ca v M' sz') args s mc ms A) (F0 m pc ls (Value.int n :: r)) := by
          intro t0 x0 e0 b1 b2 b3 b4 b5
          cases e0
          refine am_newa_W hx hb hts hK b2 b1 b3 b4 h2 rfl b5 (by omega) (by omega) hd (fun H1 e1 e2 e3 => ?_)
          rw [hsz]
          exact born _ _ _ _ H1 h5 e1 e2 e3
        cases ty with
        | int => exact fin _ _ h4 k0 a0 (fun C q => by cases q) (fun cA => rfl) (by show _ * 4 ≤ _; omega)
        | long => exact fin _ _ h4 k1 a1 (fun C q => by cases q) (fun cA => rfl) (by show _ * 8 ≤ _; omega)
        | boolean => exact fin _ _ h4 k2 a2 (fun C q => by cases q) (fun cA => rfl) (by show _ * 1 ≤ _; omega)
        | _ => cases h4
      | anewarray x =>
        obtain ⟨rfl, n, r, t, rfl, h2, h3, h4, h5⟩ := h
        have h9 := am_end h5
        rcases gA _ _ _ h4 with ⟨C, b1, b2, b3⟩ | ⟨ty, b1, b2, b3⟩
        · refine am_anew_W hx hb hts hown hnw hK b1 b2 b3 h2 rfl h3 (by omega) (by omega) hd (fun H1 e1 e2 e3 => ?_)
          rw [hsz]
          exact born _ _ _ _ H1 h5 e1 e2 e3
        · refine am_anewA_W hx hb hts hown hnw hK b1 b2 b3 h2 rfl h3 (by omega) (by omega) hd (fun H1 e1 e2 e3 => ?_)
          rw [hsz]
          exact born _ _ _ _ H1 h5 e1 e2 e3
      | arraylength =>
        obtain ⟨rfl, a, r, t, x, rfl, ⟨h2, h3⟩ | ⟨h2, f, h3⟩, h4⟩ := h
        · exact va_alen hx hb hK (am_one ((hR a _ h2).1)) 0 t rfl (am_tys_at (List.getElem?_eq_getElem h3)) rfl hd (go _ _ _ _ _ _ _ _ _ _ _ h4 hR hsz hS hl hmc hms)
        · exact va_tlen hx hb (hWo.2.2.2.1 _ _ _ h3) hS rfl hd (go _ _ _ _ _ _ _ _ _ _ _ h4 hR hsz hS hl hmc hms)
      | iaload =>
        obtain ⟨rfl, j, a, r, n, f, rfl, h2 | ⟨h2, h5⟩, h3, h4⟩ := h
        · exact va_iald hx hb hK (am_one ((hR a _ h2).1)) 0 0 rfl (am_tys_at k0) h3 hd (go _ _ _ _ _ _ _ _ _ _ _ h4 hR hsz hS hl hmc hms)
        · exact va_ti hx hb (hWo.2.2.2.1 _ _ _ h5) hS h3 rfl hd (go _ _ _ _ _ _ _ _ _ _ _ h4 hR hsz hS hl hmc hms)
      | baload =>
        obtain ⟨rfl, j, a, r, n, f, rfl, h2, h3, h4⟩ := h
        exact va_zald hx hb hK (am_one ((hR a _ h2).1)) 0 2 rfl (am_tys_at k2) h3 hd (go _ _ _ _ _ _ _ _ _ _ _ h4 hR hsz hS hl hmc hms)
      | laload =>
        obtain ⟨rfl, j, a, r, n, f, rfl, h2, h3, h4⟩ := h
        exact va_lald hx hb hK (am_one ((hR a _ h2).1)) 0 1 rfl (am_tys_at k1) h3 hd (go _ _ _ _ _ _ _ _ _ _ _ h4 hR hsz hS hl hmc hms)
      | aaload =>
        obtain ⟨rfl, j, a, r, n, t, f, ty, rfl, h2, h3, h4, h5, h6⟩ := h
        exact am_aald_W hx hb hK h3 h4 ((hR a _ h2).1) h5 hd (go _ _ _ _ _ _ _ _ _ _ _ h6 hR hsz hS hl hmc hms)
      | iastore =>
        obtain ⟨rfl, x, j, a, r, n, f, rfl, h2, h3, h4⟩ := h
        exact am_iast_W hx hb hK k0 (hR a _ h2).1 h3 hd (fun H1 j' e1 e2 e3 => put _ _ a _ H1 j' h4 (hR a _ h2).2 e1 e2 e3)
      | bastore =>
        obtain ⟨rfl, x, j, a, r, n, f, rfl, h2, h3, h4⟩ := h
        exact am_zast_W hx hb hK k2 (hR a _ h2).1 h3 hd (fun H1 j' e1 e2 e3 => put _ _ a _ H1 j' h4 (hR a _ h2).2 e1 e2 e3)
      | lastore =>
        obtain ⟨rfl, x, j, a, r, n, f, rfl, h2, h3, h4⟩ := h
        exact am_last_W hx hb hK k1 (hR a _ h2).1 h3 hd (fun H1 j' e1 e2 e3 => put _ _ a _ H1 j' h4 (hR a _ h2).2 e1 e2 e3)
      | aastore =>
        obtain ⟨rfl, ⟨w, j, a, r, n, t, f, ci, vs, rfl, h2, h3, h4, h5, h6⟩ | ⟨w, j, a, r, n, t, f, t2, x, rfl, h2, h3, h4, h5, h6⟩ | ⟨j, a, r, n, t, f, E, rfl, h2, h3, h4, h5⟩⟩ := h
        · obtain ⟨E, r0, g1, g2, g3⟩ := gS _ _ h4
          exact am_aastO_W hx hb hnw hK g1 g2 g3 (hR a _ h2).1 (hR w _ h3).1 h5 hd (fun H1 j' e1 e2 e3 => put _ _ a _ H1 j' h6 (hR a _ h2).2 e1 e2 e3)
        · obtain ⟨ty, g1⟩ := hWo.2.2.2.2.1 _ _ h4
          exact am_aastA_W hx hb hK g1 (hR a _ h2).1 (hR w _ h3).1 h5 hd (fun H1 j' e1 e2 e3 => put _ _ a _ H1 j' h6 (hR a _ h2).2 e1 e2 e3)
        · exact am_aastN_W hx hb hK h3 (hR a _ h2).1 h4 hd (fun H1 j' e1 e2 e3 => put _ _ a _ H1 j' h5 (hR a _ h2).2 e1 e2 e3)
      | multianewarray x d =>
        obtain ⟨rfl, rfl, kn, n, r, t, rfl, h2, h3, h4, h5, h6, h7⟩ := h
        obtain ⟨g1, g2, g3⟩ := (gN _ _).2.2.2.2 t h2
        have h9 := am_end h7
        refine am_mna_W hx hb hts hnw hown hK g1 k1 g2 a1 g3 h3 h4 rfl rfl h5 h6 (by omega) (by omega) hd (fun H1 e1 e2 e3 e4 => ?_)
        rw [hsz] at e1 e2 e3 e4 ⊢
        exact go _ _ _ _ _ _ _ _ _ _ _ h7 (hR.mna hsz (fun q hq => hA q (by have := hS.1; omega)) e1 e2 e4) (by omega) (am_S_push hS (by omega) (by rw [hsz]; exact e4)) hl (by omega) (by omega)
      | checkcast x =>
        obtain ⟨rfl, hn, a, r, yy, rfl, h2, h3⟩ := h
        exact am_castA_W hx hb hts hown hK ((gN _ _).2.2.2.1 hn) k0 ((hR a _ h2).1) hd (go _ _ _ _ _ _ _ _ _ _ _ h3 hR hsz hS hl hmc hms)
      | _ => exact False.elim h
    · have hdone : ∀ w, am_eq v M' sz' sl' w M sz sl → (v = w ∧ mc = cells ∧ ms = slots ∧ ∀ (t : State), t.heap = H → am_Qc D cl A ca v M' sz' args s (.returned w) t) := by
        rintro w ⟨rfl, rfl, rfl, rfl⟩
        refine ⟨rfl, by omega, by omega, fun t ht => ⟨rfl, by rw [ht]; exact hsz, by rw [ht]; exact hR, hS.F ht⟩⟩
      cases i with
      | return_ =>
        obtain ⟨rfl, rfl, h2, h3⟩ := h
        obtain ⟨rfl, rfl, rfl, hq⟩ := hdone _ h3
        exact W.vret hx hb (hret.trans h2) (fun t ht _ => hq t ht) hS.2.2 hd hlocks
      | ireturn =>
        obtain ⟨rfl, w, ty, rfl, h2, h3, h4⟩ := h
        obtain ⟨rfl, rfl, rfl, hq⟩ := hdone _ h4
        exact W.zret hx hb (hret.trans h2) h3 (fun t ht _ => hq t ht) hS.2.2 hd hlocks
      | lreturn =>
        obtain ⟨rfl, w, rfl, h2, h3⟩ := h
        obtain ⟨rfl, rfl, rfl, hq⟩ := hdone _ h3
        exact W.lret hx hb (hret.trans h2) (fun t ht _ => hq t ht) hS.2.2 hd hlocks
      | areturn =>
        obtain ⟨rfl, w, ty, rfl, h2, h3, h4, h5⟩ := h
        obtain ⟨rfl, rfl, rfl, hq⟩ := hdone _ h5
        exact W.aret hx hb (hret.trans h2) h3 h4 (fun t ht _ => hq t ht) hS.2.2 hd hlocks
      | _ => exact False.elim h
    · obtain ⟨w, M1, z1, l1, b1, b2, b3, b4⟩ := am_det _ _ _ _ _ _ _ _ _ h6
      have b5 := am_end b2
      subst hsz
      refine am_call_W (am_run G hSk hC hR hS hl.1 hd hy h1 h2 h3 h4 h5 hfr hlo b1 (by omega) (by omega)) hS (fun H1 locs1 e1 e2 e3 => ?_)
      exact go _ _ _ _ _ _ _ _ _ _ _ b2 e2 e1 e3 hl (by omega) (by omega)
    · cases i with
      | invokespecial x =>
        obtain ⟨rfl, hn, a, r, rfl, h2, h3, h4⟩ := h
        obtain ⟨w1, w2, w3⟩ := (gN _ _).2.1 hn
        exact W.objInit hx hb hown (hts _ w1) (hts _ w2) (hts _ w3) rfl (hl.1.trans hml.symm) rfl hd (by omega) (by show 2 * 0 + am_cat r + 12 ≤ _; omega) (go _ _ _ _ _ _ _ _ _ _ _ h4 hR hsz hS hl hmc hms)
      | invokestatic x =>
        obtain ⟨rfl, ⟨hn, n, dp, a, sp, b0, r, n0, n1, f, g, rfl, h2, h3, h4, h5, h6, h7, h8, h9, h10, h11⟩ | ⟨j, vs, r, v1, hn, rfl, h2, h3, h4, h5⟩⟩ := h
        · refine am_copy_W hx hb (hml.trans hl.1.symm) hts hown hK ((gN _ _).1 hn) k0 (hR b0 _ h2).1 (hR a _ h3).1 h4 h5 h6 h7 h8 (by omega) (by show am_cat r + _ ≤ _; omega) hd (fun H1 L e1 e2 e3 e4 => ?_)
          have hAa := (hR a _ h3).2
          exact go _ lv _ _ sz sl H1 _ ls cells slots h11 (hR.set hAa e1 e3) (e2.trans hsz) ⟨by rw [e2]; exact hS.1, fun q g1 g2 => (e3 q (fun z => g2 (z ▸ hAa))).trans (hS.2.1 q g1 g2), fun q hq => by
            rcases List.mem_append.mp hq with g1 | g1
            · exact hS.2.2 q g1
            · rw [e4 q g1]
              exact hAa⟩ hl hmc hms
        · exact am_mth_W hx hb (hml.trans hl.1.symm) hts hown (gMth _ _ _ hn) h2 (by omega) (by show am_cat r + 15 ≤ _; omega) (by omega) (by omega) hd (go _ _ _ _ _ _ _ _ _ _ _ h5 hR hsz hS hl hmc hms)
      | invokevirtual x =>
        obtain ⟨rfl, hn, a, r, n, f, rfl, h2, h3, h4, h5⟩ := h
        have h9 := am_end h5
        refine am_clone_W hx hb (hml.trans hl.1.symm) hts hnw hown hK ((gN _ _).2.2.1 hn) k0 ((hR a _ h2).1) (by omega) (by show am_cat r + 14 ≤ _; omega) (by omega) (by omega) hd (fun H1 e1 e2 e3 => ?_)
        rw [hsz]
        exact born _ _ _ _ H1 h5 e1 e2 e3
      | _ => exact False.elim h
end AMV
