/-! SZ: bounds of sums -/
def sz_fit (a b : Int) : sx_I := if -2147483648 ≤ a ∧ b ≤ 2147483647 then (a, b) else sx_full
def sz_rg (cs : List sx_Q) (t : Term) : sx_I := match t with
  | .sub a b => sz_fit ((sx_rg0 cs a).1 - (sx_rg0 cs b).2) ((sx_rg0 cs a).2 - (sx_rg0 cs b).1)
  | .add a b => sz_fit ((sx_rg0 cs a).1 + (sx_rg0 cs b).1) ((sx_rg0 cs a).2 + (sx_rg0 cs b).2)
  | t => sx_rg0 cs t
theorem sz_fit_s {E : sx_E} {t : Term} {a b : Int} (h : -2147483648 ≤ a → b ≤ 2147483647 → a ≤ (sx_d E t).1.toInt ∧ (sx_d E t).1.toInt ≤ b) : sx_inI E t (sz_fit a b) := by
  unfold sz_fit
  split
  · rename_i h1
    exact h h1.1 h1.2
  · exact sx_full_s E t
theorem sz_rg_s {E : sx_E} {cs : List sx_Q} (hc : ∀ q ∈ cs, sx_h E q) (t : Term) : sx_inI E t (sz_rg cs t) := by
  unfold sz_rg
  split
  · rename_i a b
    obtain ⟨a1, a2⟩ := sx_rg0_s hc a
    obtain ⟨b1, b2⟩ := sx_rg0_s hc b
    refine sz_fit_s (fun g1 g2 => ?_)
    have e : (sx_d E (.sub a b)).1.toInt = ((sx_d E a).1.toInt - (sx_d E b).1.toInt).bmod (2 ^ 32) := Int32.toInt_sub _ _
    have e2 : ((sx_d E a).1.toInt - (sx_d E b).1.toInt).bmod (2 ^ 32) = (sx_d E a).1.toInt - (sx_d E b).1.toInt := by
      apply Int.bmod_eq_of_le <;> omega
    rw [e, e2]
    omega
  · rename_i a b
    obtain ⟨a1, a2⟩ := sx_rg0_s hc a
    obtain ⟨b1, b2⟩ := sx_rg0_s hc b
    refine sz_fit_s (fun g1 g2 => ?_)
    have e : (sx_d E (.add a b)).1.toInt = ((sx_d E a).1.toInt + (sx_d E b).1.toInt).bmod (2 ^ 32) := Int32.toInt_add _ _
    have e2 : ((sx_d E a).1.toInt + (sx_d E b).1.toInt).bmod (2 ^ 32) = (sx_d E a).1.toInt + (sx_d E b).1.toInt := by
      apply Int.bmod_eq_of_le <;> omega
    rw [e, e2]
    omega
  · exact sx_rg0_s hc _
