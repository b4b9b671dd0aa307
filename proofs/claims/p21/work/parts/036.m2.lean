/-! matrices modulo a prime, by their codes -/
theorem mm_dg {p : Nat} (hp : 0 < p) (x y : Nat) : dg p (mmul p x y) 0 = (dg p x 0 * dg p y 0 + dg p x 1 * dg p y 2) % p ∧ dg p (mmul p x y) 1 = (dg p x 0 * dg p y 1 + dg p x 1 * dg p y 3) % p ∧ dg p (mmul p x y) 2 = (dg p x 2 * dg p y 0 + dg p x 3 * dg p y 2) % p ∧ dg p (mmul p x y) 3 = (dg p x 2 * dg p y 1 + dg p x 3 * dg p y 3) % p :=
  tab_dg (Nat.mod_lt _ hp) (Nat.mod_lt _ hp) (Nat.mod_lt _ hp) (Nat.mod_lt _ hp)
theorem mq_nat {p : Nat} {a : Nat} {z : Int} (h : (a : Int) = z) : mq p ((a % p : Nat) : Int) z := by
  rw [← h, Int.natCast_emod]; exact mq_mod _ _
theorem mm_e {p : Nat} (hp : 0 < p) (x y : Nat) : mq p (dg p (mmul p x y) 0 : Int) ((dg p x 0 : Int) * (dg p y 0 : Int) + (dg p x 1 : Int) * (dg p y 2 : Int)) ∧ mq p (dg p (mmul p x y) 1 : Int) ((dg p x 0 : Int) * (dg p y 1 : Int) + (dg p x 1 : Int) * (dg p y 3 : Int)) ∧ mq p (dg p (mmul p x y) 2 : Int) ((dg p x 2 : Int) * (dg p y 0 : Int) + (dg p x 3 : Int) * (dg p y 2 : Int)) ∧ mq p (dg p (mmul p x y) 3 : Int) ((dg p x 2 : Int) * (dg p y 1 : Int) + (dg p x 3 : Int) * (dg p y 3 : Int)) := by
  obtain ⟨h0, h1, h2, h3⟩ := mm_dg hp x y
  rw [h0, h1, h2, h3]
  refine ⟨mq_nat ?_, mq_nat ?_, mq_nat ?_, mq_nat ?_⟩ <;> simp only [Int.natCast_add, Int.natCast_mul]
theorem dg_mq {p a b : Nat} (ha : a < p) (hb : b < p) (h : mq p (a : Int) (b : Int)) : a = b := by
  have := mq_iff.mp h
  rw [Int.emod_eq_of_lt (by omega) (by omega), Int.emod_eq_of_lt (by omega) (by omega)] at this
  omega
theorem mm_eq {p x y : Nat} (hp : 0 < p) (hx : x < p ^ 4) (hy : y < p ^ 4) (h0 : mq p (dg p x 0 : Int) (dg p y 0 : Int)) (h1 : mq p (dg p x 1 : Int) (dg p y 1 : Int)) (h2 : mq p (dg p x 2 : Int) (dg p y 2 : Int)) (h3 : mq p (dg p x 3 : Int) (dg p y 3 : Int)) : x = y := by
  refine cod_inj hp hx hy (fun j hj => ?_)
  have e : j = 0 ∨ j = 1 ∨ j = 2 ∨ j = 3 := by omega
  rcases e with rfl | rfl | rfl | rfl
  · exact dg_mq (dg_lt hp _ _) (dg_lt hp _ _) h0
  · exact dg_mq (dg_lt hp _ _) (dg_lt hp _ _) h1
  · exact dg_mq (dg_lt hp _ _) (dg_lt hp _ _) h2
  · exact dg_mq (dg_lt hp _ _) (dg_lt hp _ _) h3
theorem mm_row {p : Nat} {a b u0 u1 u2 u3 y0 y1 y2 y3 z0 z2 r s : Int} (hr : mq p r (u0 * z0 + u1 * z2)) (hu0 : mq p u0 (a * y0 + b * y2)) (hu1 : mq p u1 (a * y1 + b * y3)) (hs : mq p s (a * u2 + b * u3)) (hu2 : mq p u2 (y0 * z0 + y1 * z2)) (hu3 : mq p u3 (y2 * z0 + y3 * z2)) : mq p r s := by
  have h1 : mq p r ((a * y0 + b * y2) * z0 + (a * y1 + b * y3) * z2) := mq_tr hr (mq_add (mq_mul hu0 (mq_rf _ _)) (mq_mul hu1 (mq_rf _ _)))
  have h2 : mq p s (a * (y0 * z0 + y1 * z2) + b * (y2 * z0 + y3 * z2)) := mq_tr hs (mq_add (mq_mul (mq_rf _ _) hu2) (mq_mul (mq_rf _ _) hu3))
  have e : (a * y0 + b * y2) * z0 + (a * y1 + b * y3) * z2 = a * (y0 * z0 + y1 * z2) + b * (y2 * z0 + y3 * z2) := by
    simp only [Int.mul_add, Int.add_mul, Int.mul_assoc]; omega
  rw [e] at h1
  exact mq_tr h1 (mq_sy h2)
theorem mm_assoc {p : Nat} (hp : 0 < p) (x y z : Nat) : mmul p (mmul p x y) z = mmul p x (mmul p y z) := by
  obtain ⟨a0, a1, a2, a3⟩ := mm_e hp (mmul p x y) z
  obtain ⟨b0, b1, b2, b3⟩ := mm_e hp x y
  obtain ⟨c0, c1, c2, c3⟩ := mm_e hp x (mmul p y z)
  obtain ⟨d0, d1, d2, d3⟩ := mm_e hp y z
  refine mm_eq hp (mmul_lt hp _ _) (mmul_lt hp _ _) ?_ ?_ ?_ ?_
  · exact mm_row a0 b0 b1 c0 d0 d2
  · exact mm_row a1 b0 b1 c1 d1 d3
  · exact mm_row a2 b2 b3 c2 d0 d2
  · exact mm_row a3 b2 b3 c3 d1 d3
def one (p : Nat) : Nat := tab p 1 0 0 1
theorem one_dg {p : Nat} (hp : isP p) : dg p (one p) 0 = 1 ∧ dg p (one p) 1 = 0 ∧ dg p (one p) 2 = 0 ∧ dg p (one p) 3 = 1 := by
  have := isP_b hp
  exact tab_dg (by omega) (by omega) (by omega) (by omega)
theorem one_lt {p : Nat} (hp : isP p) : one p < p ^ 4 := by
  have := isP_b hp
  exact tab_lt (by omega) (by omega) (by omega) (by omega)
theorem mm_one {p x : Nat} (hp : isP p) (hx : x < p ^ 4) : mmul p x (one p) = x := by
  have hb := isP_b hp
  obtain ⟨a0, a1, a2, a3⟩ := mm_e (show 0 < p by omega) x (one p)
  obtain ⟨o0, o1, o2, o3⟩ := one_dg hp
  rw [o0, o2] at a0 a2
  rw [o1, o3] at a1 a3
  refine mm_eq (by omega) (mmul_lt (by omega) _ _) hx ?_ ?_ ?_ ?_
  · simpa using a0
  · simpa using a1
  · simpa using a2
  · simpa using a3
theorem one_mm {p x : Nat} (hp : isP p) (hx : x < p ^ 4) : mmul p (one p) x = x := by
  have hb := isP_b hp
  obtain ⟨a0, a1, a2, a3⟩ := mm_e (show 0 < p by omega) (one p) x
  obtain ⟨o0, o1, o2, o3⟩ := one_dg hp
  rw [o0, o1] at a0 a1
  rw [o2, o3] at a2 a3
  refine mm_eq (by omega) (mmul_lt (by omega) _ _) hx ?_ ?_ ?_ ?_
  · simpa using a0
  · simpa using a1
  · simpa using a2
  · simpa using a3
def dz (p x : Nat) : Int := (dg p x 0 : Int) * (dg p x 3 : Int) - (dg p x 1 : Int) * (dg p x 2 : Int)
theorem det_dz (p x : Nat) : det p x = (dz p x % p).toNat := by unfold det dz; rw [Int.natCast_mul, Int.natCast_mul]
theorem det_0 {p x : Nat} (hp : 0 < p) : det p x = 0 ↔ (p : Int) ∣ dz p x := by
  have h := emod_toNat hp (dz p x)
  rw [det_dz]
  constructor
  · intro e; rw [e] at h; exact Int.dvd_of_emod_eq_zero h.2.symm
  · intro d; rw [Int.emod_eq_zero_of_dvd d]; rfl
theorem dz_id (a b c d e f g h : Int) : (a * e + b * g) * (c * f + d * h) - (a * f + b * h) * (c * e + d * g) = (a * d - b * c) * (e * h - f * g) := by grind
theorem dz_mul {p : Nat} (hp : 0 < p) (x y : Nat) : mq p (dz p (mmul p x y)) (dz p x * dz p y) := by
  obtain ⟨a0, a1, a2, a3⟩ := mm_e hp x y
  have h := mq_sub (mq_mul a0 a3) (mq_mul a1 a2)
  unfold dz
  rw [← dz_id]
  exact h
theorem prime_res {p : Nat} (hp : isP p) : ∀ r, r < p → ∀ s, s < p → r * s % p = 0 → r = 0 ∨ s = 0 := by
  rcases hp with rfl | rfl | rfl <;> decide
theorem prime_dvd {p : Nat} (hp : isP p) {a b : Int} (h : (p : Int) ∣ a * b) : (p : Int) ∣ a ∨ (p : Int) ∣ b := by
  have hb := isP_b hp
  have h1 := emod_toNat (show 0 < p by omega) a
  have h2 := emod_toNat (show 0 < p by omega) b
  have h3 : mq p (((a % p).toNat * (b % p).toNat : Nat) : Int) 0 := by
    rw [Int.natCast_mul, h1.2, h2.2]
    refine mq_tr (mq_mul (mq_mod _ _) (mq_mod _ _)) ?_
    unfold mq; rw [Int.sub_zero]; exact h
  have h4 : (a % p).toNat * (b % p).toNat % p = 0 := by
    have := mq_iff.mp h3
    rw [Int.zero_emod] at this
    omega
  rcases prime_res hp _ h1.1 _ h2.1 h4 with e | e
  · left; rw [e] at h1; exact Int.dvd_of_emod_eq_zero h1.2.symm
  · right; rw [e] at h2; exact Int.dvd_of_emod_eq_zero h2.2.symm
theorem det_mul {p x y : Nat} (hp : isP p) (hx : det p x ≠ 0) (hy : det p y ≠ 0) : det p (mmul p x y) ≠ 0 := by
  have hb := isP_b hp
  intro e
  have h1 := (det_0 (by omega)).mp e
  have h2 : (p : Int) ∣ dz p x * dz p y := by
    have h3 := mq_sy (dz_mul (show 0 < p by omega) x y)
    unfold mq at h3
    have e2 : dz p x * dz p y = (dz p x * dz p y - dz p (mmul p x y)) + dz p (mmul p x y) := by omega
    rw [e2]; exact Int.dvd_add h3 h1
  rcases prime_dvd hp h2 with q | q
  · exact hx ((det_0 (by omega)).mpr q)
  · exact hy ((det_0 (by omega)).mpr q)
theorem det_one {p : Nat} (hp : isP p) : det p (one p) ≠ 0 := by
  rcases hp with rfl | rfl | rfl <;> decide
theorem canc {p : Nat} (hp : isP p) {a b a' b' z0 z1 z2 z3 : Int} (hd : ¬ (p : Int) ∣ z0 * z3 - z1 * z2) (h1 : mq p (a * z0 + b * z2) (a' * z0 + b' * z2)) (h2 : mq p (a * z1 + b * z3) (a' * z1 + b' * z3)) : mq p a a' ∧ mq p b b' := by
  have k1 : (p : Int) ∣ (a - a') * (z0 * z3 - z1 * z2) := by
    have h := mq_sub (mq_mul h1 (mq_rf p z3)) (mq_mul h2 (mq_rf p z2))
    unfold mq at h
    have e : (a - a') * (z0 * z3 - z1 * z2) = (a * z0 + b * z2) * z3 - (a * z1 + b * z3) * z2 - ((a' * z0 + b' * z2) * z3 - (a' * z1 + b' * z3) * z2) := by grind
    rw [e]; exact h
  have k2 : (p : Int) ∣ (b - b') * (z0 * z3 - z1 * z2) := by
    have h := mq_sub (mq_mul h2 (mq_rf p z0)) (mq_mul h1 (mq_rf p z1))
    unfold mq at h
    have e : (b - b') * (z0 * z3 - z1 * z2) = (a * z1 + b * z3) * z0 - (a * z0 + b * z2) * z1 - ((a' * z1 + b' * z3) * z0 - (a' * z0 + b' * z2) * z1) := by grind
    rw [e]; exact h
  exact ⟨(prime_dvd hp k1).resolve_right hd, (prime_dvd hp k2).resolve_right hd⟩
theorem mm_canc {p x y z : Nat} (hp : isP p) (hx : x < p ^ 4) (hy : y < p ^ 4) (hz : det p z ≠ 0) (h : mmul p x z = mmul p y z) : x = y := by
  have hb := isP_b hp
  have hd : ¬ (p : Int) ∣ (dg p z 0 : Int) * (dg p z 3 : Int) - (dg p z 1 : Int) * (dg p z 2 : Int) := fun q => hz ((det_0 (by omega)).mpr q)
  obtain ⟨a0, a1, a2, a3⟩ := mm_e (show 0 < p by omega) x z
  obtain ⟨b0, b1, b2, b3⟩ := mm_e (show 0 < p by omega) y z
  rw [← h] at b0 b1 b2 b3
  obtain ⟨c0, c1⟩ := canc hp hd (mq_tr (mq_sy a0) b0) (mq_tr (mq_sy a1) b1)
  obtain ⟨c2, c3⟩ := canc hp hd (mq_tr (mq_sy a2) b2) (mq_tr (mq_sy a3) b3)
  exact mm_eq (by omega) hx hy c0 c1 c2 c3
theorem act_mmul {p x y n c : Nat} (hp : isP p) (hn : n ≤ 4) : act p (mmul p x y) n c = act p y n (act p x n c) := by
  have hb := isP_b hp
  obtain ⟨a0, a1, a2, a3⟩ := mm_e (show 0 < p by omega) x y
  unfold act
  refine cod_cong (fun j _ => ?_)
  have h1 : mq p (imz p (mmul p x y) n c j) (imz p y n (act p x n c) j) := by
    have k1 : mq p (imz p (mmul p x y) n c j) (sb ((dg p x 0 : Int) * (dg p y 0 : Int) + (dg p x 1 : Int) * (dg p y 2 : Int)) ((dg p x 0 : Int) * (dg p y 1 : Int) + (dg p x 1 : Int) * (dg p y 3 : Int)) ((dg p x 2 : Int) * (dg p y 0 : Int) + (dg p x 3 : Int) * (dg p y 2 : Int)) ((dg p x 2 : Int) * (dg p y 1 : Int) + (dg p x 3 : Int) * (dg p y 3 : Int)) n (fun i => (dg p c i : Int)) j) := sb_mq a0 a1 a2 a3 (fun i _ => mq_rf _ _) j
    rw [← sb_sb] at k1
    refine mq_tr k1 (sb_mq (mq_rf _ _) (mq_rf _ _) (mq_rf _ _) (mq_rf _ _) (fun i hi => ?_) j)
    rw [act_dg (by omega) (show i < 5 by omega), (emod_toNat (show 0 < p by omega) _).2]
    exact mq_sy (mq_mod _ _)
  rw [mq_iff.mp h1]
  rfl
theorem act_one {p n c : Nat} (hp : isP p) (hn : n ≤ 4) (hc : c < p ^ (n + 1)) : act p (one p) n c = c := by
  have hb := isP_b hp
  have hc5 : c < p ^ 5 := Nat.lt_of_lt_of_le hc (Nat.pow_le_pow_right (by omega) (by omega))
  obtain ⟨o0, o1, o2, o3⟩ := one_dg hp
  unfold act
  rw [cod_cong (g := dg p c) (fun j hj => ?_)]
  · exact cod_dg (by omega) 5 c hc5
  · unfold imz
    rw [o0, o1, o2, o3]
    by_cases h : j ≤ n
    · rw [show sb ((1 : Nat) : Int) ((0 : Nat) : Int) ((0 : Nat) : Int) ((1 : Nat) : Int) n (fun i => (dg p c i : Int)) j = (dg p c j : Int) from sb_one n _ j h]
      have := dg_lt (show 0 < p by omega) c j
      rw [Int.emod_eq_of_lt (by omega) (by omega)]; omega
    · rw [show sb ((1 : Nat) : Int) ((0 : Nat) : Int) ((0 : Nat) : Int) ((1 : Nat) : Int) n (fun i => (dg p c i : Int)) j = 0 from sb_sup _ _ _ _ n _ j (by omega), dg_big hc (by omega) (by omega)]
      simp
