/-! a generator's numbers -/
def genV (p : Nat) (a b c d : Int32) (m : Nat) : Prop := ∃ w x y z, w < p ∧ x < p ∧ y < p ∧ z < p ∧ a = nI w ∧ b = nI x ∧ c = nI y ∧ d = nI z ∧ m = tab p w x y z
theorem det_tab {p w x y z : Nat} (hw : w < p) (hx : x < p) (hy : y < p) (hz : z < p) : det p (tab p w x y z) = ((((w * z : Nat) : Int) - ((x * y : Nat) : Int)) % (p : Int)).toNat := by
  obtain ⟨h0, h1, h2, h3⟩ := tab_dg hw hx hy hz
  unfold det
  rw [h0, h1, h2, h3]
