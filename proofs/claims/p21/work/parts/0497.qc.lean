/-! a form that is not zero has no more roots, with multiplicity, than its degree -/
def mus (p d c : Nat) : Nat := fb_sm (fun t => dvs p t (d + 1) (dg p c)) (p + 1)
set_option maxRecDepth 100000 in
theorem mus_2 : ∀ d, d < 5 → ∀ c, c < 2 ^ (d + 1) → c ≠ 0 → mus 2 d c ≤ d := by decide +kernel
set_option maxRecDepth 100000 in
theorem mus_3 : ∀ d, d < 5 → ∀ c, c < 3 ^ (d + 1) → c ≠ 0 → mus 3 d c ≤ d := by decide +kernel
set_option maxRecDepth 100000 in
theorem mus_5 : ∀ d, d < 4 → ∀ c, c < 5 ^ (d + 1) → c ≠ 0 → mus 5 d c ≤ d := by decide +kernel
set_option maxRecDepth 100000 in
theorem mus_54 : ∀ h, h < 25 → ∀ l, l < 125 → 125 * h + l ≠ 0 → mus 5 4 (125 * h + l) ≤ 4 := by decide +kernel
theorem mus_le {p d c : Nat} (hp : isP p) (hd : d ≤ 4) (hc : c < p ^ (d + 1)) (h0 : c ≠ 0) : mus p d c ≤ d := by
  rcases hp with rfl | rfl | rfl
  · exact mus_2 d (by omega) c hc h0
  · exact mus_3 d (by omega) c hc h0
  · by_cases q : d < 4
    · exact mus_5 d q c hc h0
    · have : d = 4 := by omega
      subst this
      have hc : c < 3125 := hc
      have h := mus_54 (c / 125) (by omega) (c % 125) (by omega) (by omega)
      rw [show 125 * (c / 125) + c % 125 = c by omega] at h
      exact h
