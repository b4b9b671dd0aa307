/-! told values keep their weights -/
def valI (d w : Nat) (F : Nat → Int) : Int :=
  if d = 2 then F 1 * F 1 - 4 * F 0 * F 2
  else if d = 3 then F 1 * F 1 * F 2 * F 2 - 4 * F 0 * F 2 * F 2 * F 2 - 4 * F 1 * F 1 * F 1 * F 3 - 27 * F 0 * F 0 * F 3 * F 3 + 18 * F 0 * F 1 * F 2 * F 3
  else if w = 0 then 12 * F 0 * F 4 - 3 * F 1 * F 3 + F 2 * F 2
  else 72 * F 0 * F 2 * F 4 + 9 * F 1 * F 2 * F 3 - 27 * F 0 * F 3 * F 3 - 27 * F 4 * F 1 * F 1 - 2 * F 2 * F 2 * F 2
theorem valZ_I (d w : Nat) (F : Nat → Nat) : valZ d w F = valI d w (fun i => (F i : Int)) := rfl
theorem valI_mq {p d w : Nat} {F G : Nat → Int} (h : ∀ i, i < 5 → mq p (F i) (G i)) : mq p (valI d w F) (valI d w G) := by
  have h0 := h 0 (by decide)
  have h1 := h 1 (by decide)
  have h2 := h 2 (by decide)
  have h3 := h 3 (by decide)
  have h4 := h 4 (by decide)
  have k := mq_rf p
  unfold valI
  by_cases q2 : d = 2
  · rw [if_pos q2, if_pos q2]
    exact mq_sub (mq_mul h1 h1) (mq_mul (mq_mul (k 4) h0) h2)
  rw [if_neg q2, if_neg q2]
  by_cases q3 : d = 3
  · rw [if_pos q3, if_pos q3]
    exact mq_add (mq_sub (mq_sub (mq_sub (mq_mul (mq_mul (mq_mul h1 h1) h2) h2) (mq_mul (mq_mul (mq_mul (mq_mul (k 4) h0) h2) h2) h2)) (mq_mul (mq_mul (mq_mul (mq_mul (k 4) h1) h1) h1) h3)) (mq_mul (mq_mul (mq_mul (mq_mul (k 27) h0) h0) h3) h3)) (mq_mul (mq_mul (mq_mul (mq_mul (k 18) h0) h1) h2) h3)
  rw [if_neg q3, if_neg q3]
  by_cases q : w = 0
  · rw [if_pos q, if_pos q]
    exact mq_add (mq_sub (mq_mul (mq_mul (k 12) h0) h4) (mq_mul (mq_mul (k 3) h1) h3)) (mq_mul h2 h2)
  · rw [if_neg q, if_neg q]
    exact mq_sub (mq_sub (mq_sub (mq_add (mq_mul (mq_mul (mq_mul (k 72) h0) h2) h4) (mq_mul (mq_mul (mq_mul (k 9) h1) h2) h3)) (mq_mul (mq_mul (mq_mul (k 27) h0) h3) h3)) (mq_mul (mq_mul (mq_mul (k 27) h4) h1) h1)) (mq_mul (mq_mul (mq_mul (k 2) h2) h2) h2)
theorem sU2 (t : Int) (F : Nat → Int) : sb 1 t 0 1 2 F 0 = F 0 ∧ sb 1 t 0 1 2 F 1 = 2 * t * F 0 + F 1 ∧ sb 1 t 0 1 2 F 2 = t * t * F 0 + t * F 1 + F 2 := by
  refine ⟨?_, ?_, ?_⟩ <;> simp [sb, sg, colZ, itn, lin, e0] <;> grind
theorem sU3 (t : Int) (F : Nat → Int) : sb 1 t 0 1 3 F 0 = F 0 ∧ sb 1 t 0 1 3 F 1 = 3 * t * F 0 + F 1 ∧ sb 1 t 0 1 3 F 2 = 3 * (t * t) * F 0 + 2 * t * F 1 + F 2 ∧ sb 1 t 0 1 3 F 3 = t * t * t * F 0 + t * t * F 1 + t * F 2 + F 3 := by
  refine ⟨?_, ?_, ?_, ?_⟩ <;> simp [sb, sg, colZ, itn, lin, e0] <;> grind
theorem sU4 (t : Int) (F : Nat → Int) : sb 1 t 0 1 4 F 0 = F 0 ∧ sb 1 t 0 1 4 F 1 = 4 * t * F 0 + F 1 ∧ sb 1 t 0 1 4 F 2 = 6 * (t * t) * F 0 + 3 * t * F 1 + F 2 ∧ sb 1 t 0 1 4 F 3 = 4 * (t * t * t) * F 0 + 3 * (t * t) * F 1 + 2 * t * F 2 + F 3 ∧ sb 1 t 0 1 4 F 4 = t * t * t * t * F 0 + t * t * t * F 1 + t * t * F 2 + t * F 3 + F 4 := by
  refine ⟨?_, ?_, ?_, ?_, ?_⟩ <;> simp [sb, sg, colZ, itn, lin, e0] <;> grind
theorem sL2 (t : Int) (F : Nat → Int) : sb 1 0 t 1 2 F 0 = F 0 + t * F 1 + t * t * F 2 ∧ sb 1 0 t 1 2 F 1 = F 1 + 2 * t * F 2 ∧ sb 1 0 t 1 2 F 2 = F 2 := by
  refine ⟨?_, ?_, ?_⟩ <;> simp [sb, sg, colZ, itn, lin, e0] <;> grind
theorem sL3 (t : Int) (F : Nat → Int) : sb 1 0 t 1 3 F 0 = F 0 + t * F 1 + t * t * F 2 + t * t * t * F 3 ∧ sb 1 0 t 1 3 F 1 = F 1 + 2 * t * F 2 + 3 * (t * t) * F 3 ∧ sb 1 0 t 1 3 F 2 = F 2 + 3 * t * F 3 ∧ sb 1 0 t 1 3 F 3 = F 3 := by
  refine ⟨?_, ?_, ?_, ?_⟩ <;> simp [sb, sg, colZ, itn, lin, e0] <;> grind
theorem sL4 (t : Int) (F : Nat → Int) : sb 1 0 t 1 4 F 0 = F 0 + t * F 1 + t * t * F 2 + t * t * t * F 3 + t * t * t * t * F 4 ∧ sb 1 0 t 1 4 F 1 = F 1 + 2 * t * F 2 + 3 * (t * t) * F 3 + 4 * (t * t * t) * F 4 ∧ sb 1 0 t 1 4 F 2 = F 2 + 3 * t * F 3 + 6 * (t * t) * F 4 ∧ sb 1 0 t 1 4 F 3 = F 3 + 4 * t * F 4 ∧ sb 1 0 t 1 4 F 4 = F 4 := by
  refine ⟨?_, ?_, ?_, ?_, ?_⟩ <;> simp [sb, sg, colZ, itn, lin, e0] <;> grind
theorem sD2 (a e : Int) (F : Nat → Int) : sb a 0 0 e 2 F 0 = a * a * F 0 ∧ sb a 0 0 e 2 F 1 = a * e * F 1 ∧ sb a 0 0 e 2 F 2 = e * e * F 2 := by
  refine ⟨?_, ?_, ?_⟩ <;> simp [sb, sg, colZ, itn, lin, e0] <;> grind
theorem sD3 (a e : Int) (F : Nat → Int) : sb a 0 0 e 3 F 0 = a * a * a * F 0 ∧ sb a 0 0 e 3 F 1 = a * a * e * F 1 ∧ sb a 0 0 e 3 F 2 = a * e * e * F 2 ∧ sb a 0 0 e 3 F 3 = e * e * e * F 3 := by
  refine ⟨?_, ?_, ?_, ?_⟩ <;> simp [sb, sg, colZ, itn, lin, e0] <;> grind
theorem sD4 (a e : Int) (F : Nat → Int) : sb a 0 0 e 4 F 0 = a * a * a * a * F 0 ∧ sb a 0 0 e 4 F 1 = a * a * a * e * F 1 ∧ sb a 0 0 e 4 F 2 = a * a * e * e * F 2 ∧ sb a 0 0 e 4 F 3 = a * e * e * e * F 3 ∧ sb a 0 0 e 4 F 4 = e * e * e * e * F 4 := by
  refine ⟨?_, ?_, ?_, ?_, ?_⟩ <;> simp [sb, sg, colZ, itn, lin, e0] <;> grind
theorem vU {d w : Nat} (hd : d = 2 ∨ d = 3 ∨ d = 4) (t : Int) (F : Nat → Int) : valI d w (sb 1 t 0 1 d F) = valI d w F := by
  rcases hd with rfl | rfl | rfl
  · obtain ⟨a0, a1, a2⟩ := sU2 t F
    simp only [valI, if_true, a0, a1, a2]
    grind
  · obtain ⟨a0, a1, a2, a3⟩ := sU3 t F
    simp only [valI, if_true, show ¬ (3 : Nat) = 2 by decide, if_false, a0, a1, a2, a3]
    grind
  · obtain ⟨a0, a1, a2, a3, a4⟩ := sU4 t F
    simp only [valI, show ¬ (4 : Nat) = 2 by decide, show ¬ (4 : Nat) = 3 by decide, if_false, a0, a1, a2, a3, a4]
    split <;> grind
theorem vL {d w : Nat} (hd : d = 2 ∨ d = 3 ∨ d = 4) (t : Int) (F : Nat → Int) : valI d w (sb 1 0 t 1 d F) = valI d w F := by
  rcases hd with rfl | rfl | rfl
  · obtain ⟨a0, a1, a2⟩ := sL2 t F
    simp only [valI, if_true, a0, a1, a2]
    grind
  · obtain ⟨a0, a1, a2, a3⟩ := sL3 t F
    simp only [valI, if_true, show ¬ (3 : Nat) = 2 by decide, if_false, a0, a1, a2, a3]
    grind
  · obtain ⟨a0, a1, a2, a3, a4⟩ := sL4 t F
    simp only [valI, show ¬ (4 : Nat) = 2 by decide, show ¬ (4 : Nat) = 3 by decide, if_false, a0, a1, a2, a3, a4]
    split <;> grind
theorem vD {d w : Nat} (hd : d = 2 ∨ d = 3 ∨ d = 4) (a e : Int) (F : Nat → Int) : valI d w (sb a 0 0 e d F) = (a * e) ^ wgt d w * valI d w F := by
  rcases hd with rfl | rfl | rfl
  · obtain ⟨a0, a1, a2⟩ := sD2 a e F
    simp only [valI, wgt, if_true, a0, a1, a2]
    grind
  · obtain ⟨a0, a1, a2, a3⟩ := sD3 a e F
    simp only [valI, wgt, if_true, show ¬ (3 : Nat) = 2 by decide, show ¬ (3 : Nat) = 4 by decide, false_and, if_false, a0, a1, a2, a3]
    grind
  · obtain ⟨a0, a1, a2, a3, a4⟩ := sD4 a e F
    simp only [valI, wgt, show ¬ (4 : Nat) = 2 by decide, show ¬ (4 : Nat) = 3 by decide, true_and, if_false, a0, a1, a2, a3, a4]
    split <;> grind
theorem act_mq {p m n c j : Nat} (hp : 0 < p) (hj : j < 5) : mq p (dg p (act p m n c) j : Int) (imz p m n c j) := by
  rw [act_dg hp hj, (emod_toNat hp _).2]
  exact mq_mod p _
def Wt (p d w m : Nat) : Prop := ∀ c, mq p (valI d w (fun i => (dg p (act p m d c) i : Int))) (dz p m ^ wgt d w * valI d w (fun i => (dg p c i : Int)))
theorem Wt_id {p d w m : Nat} (hp : 0 < p) (h : ∀ F : Nat → Int, valI d w (sb (dg p m 0) (dg p m 1) (dg p m 2) (dg p m 3) d F) = dz p m ^ wgt d w * valI d w F) : Wt p d w m := fun c => by
  rw [← h]
  exact valI_mq (fun i hi => act_mq hp hi)
theorem mq_pow {p : Nat} {x y : Int} (h : mq p x y) : ∀ n : Nat, mq p (x ^ n) (y ^ n)
  | 0 => by rw [Int.pow_zero, Int.pow_zero]; exact mq_rf p 1
  | n + 1 => by rw [Int.pow_succ, Int.pow_succ]; exact mq_mul (mq_pow h n) h
theorem Wt_mul {p d w x y : Nat} (hp : isP p) (hd : d ≤ 4) (hx : Wt p d w x) (hy : Wt p d w y) : Wt p d w (mmul p x y) := fun c => by
  have hb := isP_b hp
  rw [act_mmul hp hd]
  refine mq_tr (hy (act p x d c)) (mq_tr (mq_mul (mq_rf p _) (hx c)) ?_)
  have e : dz p y ^ wgt d w * (dz p x ^ wgt d w * valI d w (fun i => (dg p c i : Int))) = (dz p x * dz p y) ^ wgt d w * valI d w (fun i => (dg p c i : Int)) := by
    rw [Int.mul_pow, ← Int.mul_assoc, Int.mul_comm (dz p y ^ wgt d w)]
  rw [e]
  exact mq_mul (mq_pow (mq_sy (dz_mul (by omega) x y)) _) (mq_rf p _)
def dca (p m : Nat) : Nat := if dg p m 0 = 0 then dg p m 2 else dg p m 0
def dcb (p m : Nat) : Nat := if dg p m 0 = 0 then (dg p m 1 + dg p m 3) % p else dg p m 1
def dcm (p m : Nat) : Nat := mmul p (mmul p (mmul p (tab p 1 (if dg p m 0 = 0 then p - 1 else 0) 0 1) (tab p 1 0 (dg p m 2 * inv p (dca p m) % p) 1)) (tab p (dca p m) 0 0 ((dg p m 3 + (p - dg p m 2 * inv p (dca p m) % p) * dcb p m) % p))) (tab p 1 (dcb p m * inv p (dca p m) % p) 0 1)
set_option maxRecDepth 100000 in
theorem dec_all {p : Nat} (hp : isP p) : ∀ m, m < p ^ 4 → det p m ≠ 0 → dcm p m = m := by
  rcases hp with rfl | rfl | rfl <;> decide +kernel
theorem Wt_U {p d w t : Nat} (hp : isP p) (hd : d = 2 ∨ d = 3 ∨ d = 4) (ht : t < p) : Wt p d w (tab p 1 t 0 1) := by
  have hb := isP_b hp
  obtain ⟨e0, e1, e2, e3⟩ := tab_dg (p := p) (a := 1) (b := t) (c := 0) (d := 1) (by omega) ht (by omega) (by omega)
  refine Wt_id (by omega) (fun F => ?_)
  unfold dz
  rw [e0, e1, e2, e3]
  have e : (((1 : Nat) : Int) * ((1 : Nat) : Int) - (t : Int) * ((0 : Nat) : Int)) = 1 := by omega
  rw [e, Int.one_pow, Int.one_mul]
  exact vU hd (t : Int) F
theorem Wt_L {p d w t : Nat} (hp : isP p) (hd : d = 2 ∨ d = 3 ∨ d = 4) (ht : t < p) : Wt p d w (tab p 1 0 t 1) := by
  have hb := isP_b hp
  obtain ⟨e0, e1, e2, e3⟩ := tab_dg (p := p) (a := 1) (b := 0) (c := t) (d := 1) (by omega) (by omega) ht (by omega)
  refine Wt_id (by omega) (fun F => ?_)
  unfold dz
  rw [e0, e1, e2, e3]
  have e : (((1 : Nat) : Int) * ((1 : Nat) : Int) - ((0 : Nat) : Int) * (t : Int)) = 1 := by omega
  rw [e, Int.one_pow, Int.one_mul]
  exact vL hd (t : Int) F
theorem Wt_D {p d w a e : Nat} (hp : isP p) (hd : d = 2 ∨ d = 3 ∨ d = 4) (ha : a < p) (he : e < p) : Wt p d w (tab p a 0 0 e) := by
  have hb := isP_b hp
  obtain ⟨e0, e1, e2, e3⟩ := tab_dg (p := p) (a := a) (b := 0) (c := 0) (d := e) ha (by omega) (by omega) he
  refine Wt_id (by omega) (fun F => ?_)
  unfold dz
  rw [e0, e1, e2, e3]
  have e9 : ((a : Int) * (e : Int) - ((0 : Nat) : Int) * ((0 : Nat) : Int)) = (a : Int) * (e : Int) := by simp
  rw [e9]
  exact vD hd (a : Int) (e : Int) F
theorem Wt_all {p d w m : Nat} (hp : isP p) (hd : d = 2 ∨ d = 3 ∨ d = 4) (hm : m < p ^ 4) (h : det p m ≠ 0) : Wt p d w m := by
  have hb := isP_b hp
  have hd4 : d ≤ 4 := by omega
  have hp0 : 0 < p := by omega
  have ha : dca p m < p := by unfold dca; split <;> exact dg_lt hp0 _ _
  have hq : (if dg p m 0 = 0 then p - 1 else 0) < p := by split <;> omega
  rw [← dec_all hp m hm h]
  exact Wt_mul hp hd4 (Wt_mul hp hd4 (Wt_mul hp hd4 (Wt_U hp hd hq) (Wt_L hp hd (Nat.mod_lt _ hp0))) (Wt_D hp hd ha (Nat.mod_lt _ hp0))) (Wt_U hp hd (Nat.mod_lt _ hp0))
theorem w_one_all {p d c m w : Nat} (hp : isP p) (hd : d = 2 ∨ d = 3 ∨ d = 4) (hm : m < p ^ 4) (h : det p m ≠ 0) : wOne p d c m w := by
  have hb := isP_b hp
  unfold wOne
  rw [← mq_iff, valZ_I, valZ_I]
  refine mq_tr (Wt_all hp hd hm h c) ?_
  rw [Int.mul_comm]
  refine mq_mul (mq_sy (mq_mod p _)) ?_
  have e1 : ((det p m ^ wgt d w % p : Nat) : Int) = ((det p m : Nat) : Int) ^ wgt d w % (p : Int) := by
    rw [Int.natCast_emod, Int.natCast_pow]
  rw [e1]
  refine mq_sy (mq_tr (mq_mod p _) (mq_pow ?_ _))
  rw [det_dz, (emod_toNat (by omega) _).2]
  exact mq_mod p _
theorem nval_d {d w : Nat} (h : w < nval d) : d = 2 ∨ d = 3 ∨ d = 4 := by
  unfold nval at h
  by_cases q : d = 2 ∨ d = 3
  · omega
  · rw [if_neg q] at h
    by_cases q4 : d = 4
    · omega
    · rw [if_neg q4] at h; omega
theorem wAll_all {p ng nf : Nat} {M D C : Nat → Nat} (hp : isP p) (hM : gensOk p ng M) : wAll p ng M nf D C := fun f _ g hg w hw => w_one_all hp (nval_d hw) (hM g hg).1 (hM g hg).2
