/-! a new object -/
theorem start_ok {Q : St → Prop} (h : ∀ v, CI 0 5 0 (fun _ => 0) 0 (fun _ => 0) (fun _ => 0) v → Q v) : f_X4_close 0 (ug 5) (fun u5 => Q (uF u5)) := by
  have p5 : isP 5 := Or.inr (Or.inr rfl)
  have hM : gensOk 5 0 (fun _ => 0) := fun g hg => absurd hg (Nat.not_lt_zero g)
  refine close_ok (p := 5) (ng := 0) (M := fun _ => 0) ⟨rfl, p5⟩ hM ⟨Nat.zero_le _, Nat.le_refl _, rfl, fun g hg => absurd hg (Nat.not_lt_zero g)⟩ ?_
  intro v l n cv gl h480 v5 v15
  refine h _ ?_
  refine ⟨⟨?_, p5⟩, hM, ⟨Nat.zero_le _, Nat.le_refl _, ?_, fun g hg => absurd hg (Nat.not_lt_zero g)⟩, fun g hg => absurd hg (Nat.not_lt_zero g), ⟨Nat.zero_le _, rfl⟩, fun f hf => absurd hf (Nat.not_lt_zero f), l, n, gl, h480, v5, v15, fun d _ _ => ?_⟩
  · show v 0 0 = nI 5
    rw [cv.1 0 (by decide)]; rfl
  · show v 0 4 = nI 0
    rw [cv.1 4 (by decide)]; rfl
  · exact Or.inl rfl
