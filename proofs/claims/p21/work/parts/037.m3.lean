/-! a finite group of matrices, as a row without a repetition -/
def Rch (p ng : Nat) (M : Nat → Nat) (x : Nat) : Prop := ∀ S : Nat → Prop, S (one p) → (∀ y, S y → ∀ g, g < ng → S (mmul p y (M g))) → S x
theorem Rch_one (p ng : Nat) (M : Nat → Nat) : Rch p ng M (one p) := fun _ h _ => h
theorem Rch_step {p ng : Nat} {M : Nat → Nat} {x g : Nat} (h : Rch p ng M x) (hg : g < ng) : Rch p ng M (mmul p x (M g)) := fun S h1 h2 => h2 x (h S h1 h2) g hg
def GL (p ng : Nat) (M l : Nat → Nat) (n : Nat) : Prop :=
  l 0 = one p ∧ 0 < n ∧ (∀ i, i < n → l i < p ^ 4 ∧ det p (l i) ≠ 0) ∧ (∀ i j, i < j → j < n → l i ≠ l j) ∧ (∀ i, i < n → ∀ g, g < ng → ∃ k, k < n ∧ l k = mmul p (l i) (M g)) ∧ (∀ i, i < n → Rch p ng M (l i))
theorem GL_mem {p ng : Nat} {M l : Nat → Nat} {n x : Nat} (h : GL p ng M l n) (hx : Rch p ng M x) : ∃ k, k < n ∧ l k = x := by
  refine hx (fun x => ∃ k, k < n ∧ l k = x) ⟨0, h.2.1, h.1⟩ ?_
  rintro y ⟨k, hk, rfl⟩ g hg
  exact h.2.2.2.2.1 k hk g hg
theorem GL_size {p ng : Nat} {M l l' : Nat → Nat} {n n' : Nat} (h : GL p ng M l n) (h' : GL p ng M l' n') : n ≤ n' := by
  have hf : ∀ i, ∃ k, i < n → k < n' ∧ l' k = l i := fun i => by
    by_cases hi : i < n
    · obtain ⟨k, hk⟩ := GL_mem h' (h.2.2.2.2.2 i hi); exact ⟨k, fun _ => hk⟩
    · exact ⟨0, fun q => absurd q hi⟩
  refine fb_holes n' n (fun i => Classical.choose (hf i)) (fun i hi => (Classical.choose_spec (hf i) hi).1) (fun i j hij hj e => ?_)
  have h1 := (Classical.choose_spec (hf i) (by omega)).2
  have h2 := (Classical.choose_spec (hf j) hj).2
  exact h.2.2.2.1 i j hij hj (by rw [← h1, ← h2]; exact congrArg l' e)
theorem inv480 {p : Nat} (hp : isP p) : fb_ct (fun x => decide (det p x ≠ 0)) (p ^ 4) ≤ 480 := by
  rcases hp with rfl | rfl | rfl <;> decide +kernel
theorem dist480 {p : Nat} (hp : isP p) {l : Nat → Nat} {n : Nat} (h : ∀ i, i < n → l i < p ^ 4 ∧ det p (l i) ≠ 0) (hd : ∀ i j, i < j → j < n → l i ≠ l j) : n ≤ 480 := by
  refine Nat.le_trans (fb_holes (fb_ct (fun x => decide (det p x ≠ 0)) (p ^ 4)) n (fun i => fb_ct (fun x => decide (det p x ≠ 0)) (l i)) (fun i hi => ?_) (fun i j hij hj e => ?_)) (inv480 hp)
  · have h1 := h i hi
    have h2 := fb_ct_mono (fun x => decide (det p x ≠ 0)) (show l i + 1 ≤ p ^ 4 by omega)
    rw [fb_ct_succ, if_pos (by simpa using h1.2)] at h2
    omega
  · exact hd i j hij hj (fb_ct_kth_one (p := fun x => decide (det p x ≠ 0)) (by simpa using (h i (by omega)).2) (by simpa using (h j hj).2) e)
theorem GL_mul {p ng : Nat} (hp : isP p) {M l : Nat → Nat} {n : Nat} (h : GL p ng M l n) {i j : Nat} (hi : i < n) (hj : j < n) : ∃ k, k < n ∧ l k = mmul p (l i) (l j) := by
  have hb := isP_b hp
  refine h.2.2.2.2.2 j hj (fun y => ∀ i, i < n → ∃ k, k < n ∧ l k = mmul p (l i) y) ?_ ?_ i hi
  · intro i hi
    exact ⟨i, hi, (mm_one hp (h.2.2.1 i hi).1).symm⟩
  · intro y hy g hg i hi
    obtain ⟨k, hk, e⟩ := hy i hi
    obtain ⟨k2, hk2, e2⟩ := h.2.2.2.2.1 k hk g hg
    exact ⟨k2, hk2, by rw [e2, e, mm_assoc (by omega)]⟩
theorem GL_perm {p ng : Nat} (hp : isP p) {M l : Nat → Nat} {n : Nat} (h : GL p ng M l n) {j : Nat} (hj : j < n) : ∃ f : Nat → Nat, (∀ i, i < n → f i < n ∧ l (f i) = mmul p (l i) (l j)) ∧ ∀ i i', i < i' → i' < n → f i ≠ f i' := by
  have hf : ∀ i, ∃ k, i < n → k < n ∧ l k = mmul p (l i) (l j) := fun i => by
    by_cases hi : i < n
    · obtain ⟨k, hk⟩ := GL_mul hp h hi hj; exact ⟨k, fun _ => hk⟩
    · exact ⟨0, fun q => absurd q hi⟩
  refine ⟨fun i => Classical.choose (hf i), fun i hi => Classical.choose_spec (hf i) hi, fun i i' hii hi' e => ?_⟩
  have h1 := (Classical.choose_spec (hf i) (by omega)).2
  have h2 := (Classical.choose_spec (hf i') hi').2
  have e2 : mmul p (l i) (l j) = mmul p (l i') (l j) := by rw [← h1, ← h2]; exact congrArg l e
  exact h.2.2.2.1 i i' hii hi' (mm_canc hp (h.2.2.1 i (by omega)).1 (h.2.2.1 i' hi').1 (h.2.2.1 j hj).2 e2)
theorem GL_linv {p ng : Nat} (hp : isP p) {M l : Nat → Nat} {n : Nat} (h : GL p ng M l n) {j : Nat} (hj : j < n) : ∃ i, i < n ∧ mmul p (l i) (l j) = one p := by
  obtain ⟨f, hf, hi⟩ := GL_perm hp h hj
  obtain ⟨i, hi2, e⟩ := fb_onto (fun i hi => (hf i hi).1) hi h.2.1
  exact ⟨i, hi2, by rw [← (hf i hi2).2, e, h.1]⟩
theorem GL_inv {p ng : Nat} (hp : isP p) {M l : Nat → Nat} {n : Nat} (h : GL p ng M l n) {j : Nat} (hj : j < n) : ∃ i, i < n ∧ mmul p (l i) (l j) = one p ∧ mmul p (l j) (l i) = one p := by
  have hb := isP_b hp
  obtain ⟨i, hi, e⟩ := GL_linv hp h hj
  obtain ⟨k, hk, e2⟩ := GL_linv hp h hi
  have h3 : l k = l j := by
    have h4 : mmul p (mmul p (l k) (l i)) (l j) = mmul p (l k) (mmul p (l i) (l j)) := mm_assoc (by omega) _ _ _
    rw [e2, e, one_mm hp (h.2.2.1 j hj).1, mm_one hp (h.2.2.1 k hk).1] at h4
    exact h4.symm
  rw [h3] at e2
  exact ⟨i, hi, e, e2⟩
/-! counting -/
theorem ct_map {P R : Nat → Bool} {f : Nat → Nat} {n m : Nat} (hf : ∀ i, i < n → P i = true → f i < m ∧ R (f i) = true) (hinj : ∀ i i', i < i' → i' < n → f i ≠ f i') : fb_ct P n ≤ fb_ct R m := by
  have he : ∀ k, ∃ i, k < fb_ct P n → i < n ∧ P i = true ∧ fb_ct P i = k := fun k => by
    by_cases hk : k < fb_ct P n
    · obtain ⟨i, h⟩ := fb_ct_kth hk; exact ⟨i, fun _ => h⟩
    · exact ⟨0, fun q => absurd q hk⟩
  refine fb_holes (fb_ct R m) (fb_ct P n) (fun k => fb_ct R (f (Classical.choose (he k)))) (fun k hk => ?_) (fun k k' hkk hk' e => ?_)
  · obtain ⟨h1, h2, h3⟩ := Classical.choose_spec (he k) hk
    obtain ⟨h4, h5⟩ := hf _ h1 h2
    have h6 := fb_ct_mono R (show f (Classical.choose (he k)) + 1 ≤ m by omega)
    rw [fb_ct_succ, if_pos h5] at h6
    exact h6
  · obtain ⟨h1, h2, h3⟩ := Classical.choose_spec (he k) (by omega)
    obtain ⟨g1, g2, g3⟩ := Classical.choose_spec (he k') hk'
    have h4 := fb_ct_kth_one (hf _ h1 h2).2 (hf _ g1 g2).2 e
    rcases Nat.lt_trichotomy (Classical.choose (he k)) (Classical.choose (he k')) with q | q | q
    · exact hinj _ _ q g1 h4
    · rw [q, g3] at h3; omega
    · exact hinj _ _ q h1 h4.symm
/-- how many matrices of the row make x of c -/
def cntA (p d : Nat) (l : Nat → Nat) (n c x : Nat) : Nat := fb_ct (fun i => decide (act p (l i) d c = x)) n
theorem fib_le {p ng d : Nat} (hp : isP p) (hd : d ≤ 4) {M l : Nat → Nat} {n c x j : Nat} (h : GL p ng M l n) (hj : j < n) : cntA p d l n c x ≤ cntA p d l n c (act p (l j) d x) := by
  obtain ⟨f, hf, hi⟩ := GL_perm hp h hj
  refine ct_map (f := f) (fun i hi2 hP => ⟨(hf i hi2).1, ?_⟩) hi
  have : act p (l i) d c = x := by simpa using hP
  simp only [decide_eq_true_eq]
  rw [(hf i hi2).2, act_mmul hp hd, this]
theorem act_back {p ng d : Nat} (hp : isP p) (hd : d ≤ 4) {M l : Nat → Nat} {n x j : Nat} (h : GL p ng M l n) (hj : j < n) (hx : x < p ^ (d + 1)) : ∃ i, i < n ∧ act p (l i) d (act p (l j) d x) = x := by
  obtain ⟨i, hi, e1, e2⟩ := GL_inv hp h hj
  exact ⟨i, hi, by rw [← act_mmul hp hd, e2, act_one hp hd hx]⟩
theorem fib_eq {p ng d : Nat} (hp : isP p) (hd : d ≤ 4) {M l : Nat → Nat} {n c x j : Nat} (h : GL p ng M l n) (hj : j < n) (hx : x < p ^ (d + 1)) : cntA p d l n c (act p (l j) d x) = cntA p d l n c x := by
  obtain ⟨i, hi, e⟩ := act_back hp hd h hj hx
  refine Nat.le_antisymm ?_ (fib_le hp hd h hj)
  have := fib_le (c := c) (x := act p (l j) d x) hp hd h hi
  rw [e] at this
  exact this
/-- the orbit, as a row without a repetition -/
def OE (p d : Nat) (l : Nat → Nat) (n c : Nat) (q : Nat → Nat) (m : Nat) : Prop :=
  (∀ k k', k < k' → k' < m → q k ≠ q k') ∧ (∀ k, k < m → ∃ i, i < n ∧ q k = act p (l i) d c) ∧ (∀ i, i < n → ∃ k, k < m ∧ q k = act p (l i) d c)
theorem sm_one {q : Nat → Nat} {F : Nat → Nat} {m x k0 : Nat} (hd : ∀ k k', k < k' → k' < m → q k ≠ q k') (hk : k0 < m) (hx : q k0 = x) : fb_sm (fun k => (if x = q k then 1 else 0) * F (q k)) m = F x := by
  induction m with
  | zero => omega
  | succ m ih =>
    rw [fb_sm_succ]
    by_cases e : k0 = m
    · subst e
      have h0 : fb_sm (fun k => (if x = q k then 1 else 0) * F (q k)) k0 = fb_sm (fun _ => 0) k0 := fb_sm_cong (fun k hk2 => by
        rw [if_neg (fun e => hd k k0 hk2 (by omega) (by rw [hx, e])), Nat.zero_mul])
      rw [h0, fb_sm_const, if_pos hx.symm, hx]; omega
    · rw [ih (fun k k' h1 h2 => hd k k' h1 (by omega)) (by omega), if_neg (fun e2 => hd k0 m (by omega) (by omega) (by rw [hx, e2])), Nat.zero_mul, Nat.add_zero]
theorem sum_fib {A q F : Nat → Nat} {m : Nat} (hd : ∀ k k', k < k' → k' < m → q k ≠ q k') : ∀ {n : Nat}, (∀ i, i < n → ∃ k, k < m ∧ q k = A i) → fb_sm (fun i => F (A i)) n = fb_sm (fun k => fb_ct (fun i => decide (A i = q k)) n * F (q k)) m
  | 0, _ => by
    have : fb_sm (fun k => fb_ct (fun i => decide (A i = q k)) 0 * F (q k)) m = fb_sm (fun _ => 0) m := fb_sm_cong (fun k _ => by rw [fb_ct]; exact Nat.zero_mul _)
    rw [this, fb_sm_const]; rfl
  | n + 1, h => by
    obtain ⟨k0, hk0, e0⟩ := h n (by omega)
    rw [fb_sm_succ, sum_fib hd (n := n) (fun i hi => h i (by omega)), ← sm_one (F := F) hd hk0 e0, ← fb_sm_add]
    refine fb_sm_cong (fun k _ => ?_)
    rw [fb_ct_succ, Nat.add_mul]
    by_cases e : A n = q k <;> simp [e]
theorem orb_cnt {p ng d : Nat} (hp : isP p) (hd : d ≤ 4) {M l q : Nat → Nat} {n c m k : Nat} (h : GL p ng M l n) (hc : c < p ^ (d + 1)) (ho : OE p d l n c q m) (hk : k < m) : cntA p d l n c (q k) = cntA p d l n c c := by
  obtain ⟨i, hi, e⟩ := ho.2.1 k hk
  rw [e, fib_eq hp hd h hi hc]
theorem sm_scale (c : Nat) (f : Nat → Nat) : ∀ n, fb_sm (fun k => c * f k) n = c * fb_sm f n
  | 0 => rfl
  | n + 1 => by rw [fb_sm_succ, fb_sm_succ, sm_scale c f n, Nat.mul_add]
/-- each form of an orbit is met equally often -/
theorem orb_sum {p ng d : Nat} (hp : isP p) (hd : d ≤ 4) {M l q : Nat → Nat} {n c m : Nat} (F : Nat → Nat) (h : GL p ng M l n) (hc : c < p ^ (d + 1)) (ho : OE p d l n c q m) : fb_sm (fun i => F (act p (l i) d c)) n = cntA p d l n c c * fb_sm (fun k => F (q k)) m := by
  rw [sum_fib (A := fun i => act p (l i) d c) ho.1 ho.2.2, ← sm_scale]
  refine fb_sm_cong (fun k hk => ?_)
  rw [← orb_cnt hp hd h hc ho hk]; rfl
theorem orb_stab {p ng d : Nat} (hp : isP p) (hd : d ≤ 4) {M l q : Nat → Nat} {n c m : Nat} (h : GL p ng M l n) (hc : c < p ^ (d + 1)) (ho : OE p d l n c q m) : n = cntA p d l n c c * m := by
  have := orb_sum hp hd (fun _ => 1) h hc ho
  rw [fb_sm_const, fb_sm_const, Nat.mul_one, Nat.mul_one] at this
  exact this
theorem orb_pos {p ng d : Nat} {M l q : Nat → Nat} {n c m : Nat} (h : GL p ng M l n) (ho : OE p d l n c q m) : 0 < m := by
  obtain ⟨k, hk, _⟩ := ho.2.2 0 h.2.1
  omega
/-- the orbit of each form of an orbit is that orbit -/
theorem orb_move {p ng d : Nat} (hp : isP p) (hd : d ≤ 4) {M l q : Nat → Nat} {n c m k : Nat} (h : GL p ng M l n) (hc : c < p ^ (d + 1)) (ho : OE p d l n c q m) (hk : k < m) : OE p d l n (q k) q m := by
  obtain ⟨j, hj, e⟩ := ho.2.1 k hk
  obtain ⟨j', hj', eb⟩ := act_back hp hd h hj hc
  refine ⟨ho.1, fun k2 hk2 => ?_, fun i hi => ?_⟩
  · obtain ⟨i, hi, e2⟩ := ho.2.1 k2 hk2
    obtain ⟨r, hr, er⟩ := GL_mul hp h hj' hi
    exact ⟨r, hr, by rw [er, act_mmul hp hd, e, eb, e2]⟩
  · obtain ⟨r, hr, er⟩ := GL_mul hp h hj hi
    obtain ⟨k3, hk3, e3⟩ := ho.2.2 r hr
    exact ⟨k3, hk3, by rw [e3, er, act_mmul hp hd, e]⟩
/-- what the matrices leave in an orbit, summed, is as many as they are -/
theorem orb_burn {p ng d : Nat} (hp : isP p) (hd : d ≤ 4) {M l q : Nat → Nat} {n c m : Nat} (h : GL p ng M l n) (hc : c < p ^ (d + 1)) (ho : OE p d l n c q m) : fb_sm (fun k => cntA p d l n (q k) (q k)) m = n := by
  have hm := orb_pos h ho
  have h0 := orb_stab hp hd h hc ho
  have h1 : fb_sm (fun k => cntA p d l n (q k) (q k)) m = fb_sm (fun _ => cntA p d l n c c) m := by
    refine fb_sm_cong (fun k hk => ?_)
    have hq : q k < p ^ (d + 1) := by
      obtain ⟨i, hi, e⟩ := ho.2.1 k hk
      rw [e]; exact act_lt hp hd
    have h2 := orb_stab hp hd h hq (orb_move hp hd h hc ho hk)
    exact Nat.eq_of_mul_eq_mul_right hm (by omega)
  rw [h1, fb_sm_const, Nat.mul_comm]; exact h0.symm
theorem ct_sm (P : Nat → Bool) : ∀ n, fb_ct P n = fb_sm (fun i => if P i then 1 else 0) n
  | 0 => rfl
  | n + 1 => by rw [fb_ct_succ, fb_sm_succ, ct_sm P n]
theorem sm_swap (f : Nat → Nat → Nat) (m : Nat) : ∀ n, fb_sm (fun i => fb_sm (fun j => f i j) m) n = fb_sm (fun j => fb_sm (fun i => f i j) n) m
  | 0 => by
    have : fb_sm (fun j => fb_sm (fun i => f i j) 0) m = fb_sm (fun _ => 0) m := fb_sm_cong (fun _ _ => rfl)
    rw [this, fb_sm_const]; rfl
  | n + 1 => by
    rw [fb_sm_succ, sm_swap f m n, ← fb_sm_add]
    exact fb_sm_cong (fun j _ => (fb_sm_succ _ _).symm)
/-- how many codes below N a matrix leaves -/
def fixN (p d x N : Nat) : Nat := fb_ct (fun c => decide (act p x d c = c)) N
theorem burn_swap (p d : Nat) (l : Nat → Nat) (n N : Nat) : fb_sm (fun i => fixN p d (l i) N) n = fb_sm (fun c => cntA p d l n c c) N := by
  have h1 : fb_sm (fun i => fixN p d (l i) N) n = fb_sm (fun i => fb_sm (fun c => if decide (act p (l i) d c = c) then 1 else 0) N) n := fb_sm_cong (fun i _ => ct_sm _ _)
  rw [h1, sm_swap]
  exact fb_sm_cong (fun c _ => (ct_sm _ _).symm)
