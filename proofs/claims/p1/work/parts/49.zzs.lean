/-! SZ: segments of a run put together -/
def zPW (y : Nat) : Bool := (y == 43) || (y == 353)
def zz_bot : sx_G := ([(true, 1, .int 0, .int 1)], 0, 0, [], [], [], [], 0, 0)
theorem zz_bot_s {P : am_P} {RO : am_O} {sa : Nat → Nat} {E : sx_E} {Q : am_Q} : sx_Ok P RO sa E Q zz_bot := by
  intro hn hc
  have h := hc _ List.mem_cons_self
  exact absurd (of_decide_eq_true (show decide ((0 : Int32) = 1) = true from h)) (by decide)
section ZZ
variable {E : sx_E} {RO : am_O} {sa : Nat → Nat} {f : Nat → Term} {l : List (List sz_D)}
theorem zz_seg (hok : sx_ok E (sx_rt0 7) RO sa) (hf : ∀ j, j < 7 → (sx_d E (f j)).1 = E.2.2 j) (hD : sz_ok E (sz_at l)) (hp : sz_PW (aP (fun i => i)) RO sa zPW) {c d : sx_G} {k : Nat} {hs : List (Nat × Nat)} (h : (sz_ck aMt (aP (fun i => i)) aIns (sy_rt 7 f) sx_fin0 zPW (sz_at l) (fun _ => d) k hs c).isSome = true) (g : sx_Ok (aP (fun i => i)) RO sa E (sx_Q0 E) d) : sx_Ok (aP (fun i => i)) RO sa E (sx_Q0 E) c := by
  obtain ⟨r, hr⟩ := Option.isSome_iff_exists.mp h
  exact sz_ck_s aMt_s aIns_s (sy_rt_s hok hf) sx_fin0_s hD hp (fun _ => g) _ _ _ _ hr
theorem zz_end (hok : sx_ok E (sx_rt0 7) RO sa) (hf : ∀ j, j < 7 → (sx_d E (f j)).1 = E.2.2 j) (hD : sz_ok E (sz_at l)) (hp : sz_PW (aP (fun i => i)) RO sa zPW) {c : sx_G} {k : Nat} {hs : List (Nat × Nat)} (h : (sz_ck aMt (aP (fun i => i)) aIns (sy_rt 7 f) sx_fin0 zPW (sz_at l) (fun _ => zz_bot) k hs c).isSome = true) : sx_Ok (aP (fun i => i)) RO sa E (sx_Q0 E) c := zz_seg hok hf hD hp h zz_bot_s
end ZZ
