/-! TC: at the beginning nothing of a kind is there -/
theorem st_kn {S : kn_S} {g : ga_S} {RO : am_O} {κ : Nat → Option Nat} {M : am_H} {is : List Int} (h : ∀ a, κ a ≠ some S.1) : (kn_a S g).1 RO κ M [] is := fun o ho _ => (h o ho).elim
theorem st_ij {K j : Nat} {RO : am_O} {κ : Nat → Option Nat} {M : am_H} {is : List Int} (h : ∀ a, κ a ≠ some K) : (ij_a K j).1 RO κ M [] is := fun o1 _ h1 => (h o1 h1).elim
theorem st_sd {S : sd_S} {RO : am_O} {κ : Nat → Option Nat} {M : am_H} {is : List Int} (h : ∀ a, κ a ≠ some S.1) : (sd_a S).1 RO κ M [] is := fun o ho _ => (h o ho).elim
theorem st_no {K : Nat} {RO : am_O} {κ : Nat → Option Nat} {M : am_H} {is : List Int} (h : ∀ a, κ a ≠ some K) : (no_a K).1 RO κ M [] is := h
theorem st_kx {S : Nat × Int} {RO : am_O} {κ : Nat → Option Nat} {M : am_H} (h : ∀ a, κ a ≠ some S.1) : (kx_a S).1 RO κ M [] [] := fun a ha => (h a ha).elim
theorem st_rm {S : rm_S} {RO : am_O} {κ : Nat → Option Nat} {M : am_H} (h : ∀ a k, κ a = some k → k ∉ S.map (fun p => p.1)) : (rm_a S).1 RO κ M [] [0] := ⟨[], List.nodup_nil, fun a k h1 h2 => (h a k h1 h2).elim, Int.le_refl _⟩
