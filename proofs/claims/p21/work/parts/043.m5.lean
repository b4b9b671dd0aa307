/-! fixed codes and systems; orbits, counted -/
theorem rowS_0 (p : Nat) (A : Nat → Nat → Int) (k r y : Nat) : rowS p A k 0 r y = sg (fun j => A k j * (dg p y j : Int)) r := by
  unfold rowS
  exact sg_cong (fun j _ => by rw [Nat.zero_add])
/-- the systems of several matrices, one behind the other -/
def stk (p : Nat) (M : Nat → Nat) (n k j : Nat) : Int := eqM p (M (k / (n + 1))) n (k % (n + 1)) j % p
theorem bool_ext {a b : Bool} (h : a = true ↔ b = true) : a = b := by
  cases a <;> cases b <;> simp_all
theorem sol_stk {p ng n : Nat} {M : Nat → Nat} (hp : isP p) (hn : n ≤ 4) : solC p (stk p M n) 0 (ng * (n + 1)) 0 (n + 1) = fb_ct (lvs p ng n M) (p ^ (n + 1)) := by
  unfold solC
  refine fb_ct_cong (fun y hy => bool_ext ?_)
  rw [satB_iff]
  unfold lvs
  rw [decide_eq_true_iff]
  have hrow : ∀ k, mq p (rowS p (stk p M n) k 0 (n + 1) y) (sg (fun j => eqM p (M (k / (n + 1))) n (k % (n + 1)) j * (dg p y j : Int)) (n + 1)) := by
    intro k
    rw [rowS_0]
    exact sg_mq (fun j _ => mq_mul (mq_mod _ _) (mq_rf _ _))
  constructor
  · intro h g hg
    rw [leaves_iff hp hn hy]
    intro k hk
    have h1 : g * (n + 1) + k < ng * (n + 1) := by
      have : (g + 1) * (n + 1) ≤ ng * (n + 1) := Nat.mul_le_mul_right _ hg
      rw [Nat.add_mul] at this
      omega
    have h2 := h (g * (n + 1) + k) h1 (Nat.zero_le _)
    have h3 := hrow (g * (n + 1) + k)
    have e1 : (g * (n + 1) + k) / (n + 1) = g := by
      rw [Nat.mul_comm, Nat.mul_add_div (by omega), Nat.div_eq_of_lt (by omega), Nat.add_zero]
    have e2 : (g * (n + 1) + k) % (n + 1) = k := by
      rw [Nat.mul_comm, Nat.mul_add_mod, Nat.mod_eq_of_lt (by omega)]
    rw [e1, e2] at h3
    exact mq_tr (mq_sy h3) h2
  · intro h k hk _
    have hg : k / (n + 1) < ng := (Nat.div_lt_iff_lt_mul (by omega)).mpr hk
    have h1 := (leaves_iff hp hn hy).mp (h _ hg) (k % (n + 1)) (by have := Nat.mod_lt k (show n + 1 > 0 by omega); omega)
    exact mq_tr (hrow k) h1
theorem sol_fix {p x n : Nat} (hp : isP p) (hn : n ≤ 4) : solC p (fun k j => eqM p x n k j % p) 0 (n + 1) 0 (n + 1) = fixN p n x (p ^ (n + 1)) := by
  unfold solC fixN
  refine fb_ct_cong (fun y hy => bool_ext ?_)
  rw [satB_iff, decide_eq_true_iff, leaves_iff hp hn hy]
  have hrow : ∀ k, mq p (rowS p (fun k j => eqM p x n k j % p) k 0 (n + 1) y) (sg (fun j => eqM p x n k j * (dg p y j : Int)) (n + 1)) := by
    intro k
    rw [rowS_0]
    exact sg_mq (fun j _ => mq_mul (mq_mod _ _) (mq_rf _ _))
  constructor
  · intro h k hk
    exact mq_tr (mq_sy (hrow k)) (h k (by omega) (Nat.zero_le _))
  · intro h k hk _
    exact mq_tr (hrow k) (h k (by omega))
theorem sol_pow {p N m : Nat} (hp : isP p) : ∀ (t r i : Nat) (A : Nat → Nat → Int), (∀ k j, 0 ≤ A k j ∧ A k j < p) → i + t = N → ∃ f, f ≤ t ∧ p ^ f = solC p A r m i t := by
  have hb := isP_b hp
  intro t
  induction t with
  | zero => intro r i A _ _; exact ⟨0, Nat.le_refl _, (sol_end p A r m i).symm⟩
  | succ t ih =>
    intro r i A hA he
    by_cases hz : ∀ k, r ≤ k → k < m → A k i = 0
    · obtain ⟨f, hf, e⟩ := ih r (i + 1) A hA (by omega)
      refine ⟨f + 1, by omega, ?_⟩
      rw [sol_free (show 0 < p by omega) (fun k h1 h2 => by rw [hz k h1 h2]; exact mq_rf _ _), ← e, Nat.pow_succ, Nat.mul_comm]
    · obtain ⟨v, hv⟩ := Classical.not_forall.mp hz
      obtain ⟨hv1, hv2⟩ := Classical.not_forall.mp hv
      obtain ⟨hv2, hv3⟩ := Classical.not_forall.mp hv2
      have h1 := one_pivot (N := N) hp (fun k j _ _ => hA k j) hv1 hv2 (show i < N by omega) hv3
      rw [show N - i = t + 1 by omega, show N - (i + 1) = t by omega] at h1
      rw [h1]
      obtain ⟨f, hf, e⟩ := ih (r + 1) (i + 1) (clrA p (swpA A r v) r i m 0) (fun k j => by
        unfold clrA
        split
        · exact ⟨Int.emod_nonneg _ (by omega), Int.emod_lt_of_pos _ (by omega)⟩
        · unfold swpA
          split
          · exact hA _ _
          · split <;> exact hA _ _) (by omega)
      exact ⟨f, by omega, e⟩
/-- how many forms are left is a power of the prime -/
theorem fix_pow {p x n : Nat} (hp : isP p) (hn : n ≤ 4) : ∃ f, f ≤ n + 1 ∧ p ^ f = fixN p n x (p ^ (n + 1)) := by
  have hb := isP_b hp
  rw [← sol_fix hp hn]
  exact sol_pow (N := n + 1) hp (n + 1) 0 0 _ (fun k j => ⟨Int.emod_nonneg _ (by omega), Int.emod_lt_of_pos _ (by omega)⟩) (by omega)
theorem lvs_pow {p ng n : Nat} {M : Nat → Nat} (hp : isP p) (hn : n ≤ 4) : ∃ f, f ≤ n + 1 ∧ p ^ f = fb_ct (lvs p ng n M) (p ^ (n + 1)) := by
  have hb := isP_b hp
  rw [← sol_stk hp hn]
  exact sol_pow (N := n + 1) hp (n + 1) 0 0 _ (fun k j => by
    unfold stk
    exact ⟨Int.emod_nonneg _ (by omega), Int.emod_lt_of_pos _ (by omega)⟩) (by omega)
theorem pow_one {p f f' : Nat} (hp : isP p) (h : p ^ f = p ^ f') : f = f' := by
  have hb := isP_b hp
  rcases Nat.lt_trichotomy f f' with c | c | c
  · have := Nat.pow_lt_pow_right (show 1 < p by omega) c
    omega
  · exact c
  · have := Nat.pow_lt_pow_right (show 1 < p by omega) c
    omega
/-! orbits, counted -/
theorem lst_mem (q : Nat → Nat) : ∀ k, 0 < k → ∃ i, i < k ∧ lst q k = q i
  | 0, h => by omega
  | k + 1, _ => by
    show ∃ i, i < k + 1 ∧ (if q k < lst q k then q k else lst q k) = q i
    by_cases c : q k < lst q k
    · exact ⟨k, by omega, if_pos c⟩
    · rw [if_neg c]
      by_cases e : k = 0
      · subst e; exact ⟨0, by omega, rfl⟩
      · obtain ⟨i, hi, e2⟩ := lst_mem q k (by omega)
        exact ⟨i, by omega, e2⟩
theorem lst_le (q : Nat → Nat) : ∀ k i, i < k → lst q k ≤ q i
  | 0, i, h => by omega
  | k + 1, i, h => by
    show (if q k < lst q k then q k else lst q k) ≤ q i
    by_cases e : i = k
    · subst e; split <;> omega
    · have := lst_le q k i (by omega)
      split <;> omega
/-- whether a code is the least of its orbit -/
def isL (p d : Nat) (l : Nat → Nat) (n c : Nat) : Bool := decide (∀ i, i < n → c ≤ act p (l i) d c)
def ob (p d : Nat) (l : Nat → Nat) (n N : Nat) : Nat := fb_ct (isL p d l n) N
theorem isL_iff {p d n c : Nat} {l : Nat → Nat} : isL p d l n c = true ↔ ∀ i, i < n → c ≤ act p (l i) d c := by unfold isL; rw [decide_eq_true_iff]
theorem ob_one {p ng d n n' N : Nat} {M l l' : Nat → Nat} (h : GL p ng M l n) (h' : GL p ng M l' n') : ob p d l n N = ob p d l' n' N := by
  refine fb_ct_cong (fun c hc => bool_ext ?_)
  rw [isL_iff, isL_iff]
  constructor
  · intro q i hi
    obtain ⟨k, hk, e⟩ := GL_mem h (h'.2.2.2.2.2 i hi)
    rw [← e]; exact q k hk
  · intro q i hi
    obtain ⟨k, hk, e⟩ := GL_mem h' (h.2.2.2.2.2 i hi)
    rw [← e]; exact q k hk
/-- the orbit as a relation -/
def orb (p d : Nat) (l : Nat → Nat) (n c x : Nat) : Prop := ∃ i, i < n ∧ act p (l i) d c = x
theorem orb_rf {p ng d n c : Nat} {M l : Nat → Nat} (hp : isP p) (hd : d ≤ 4) (h : GL p ng M l n) (hc : c < p ^ (d + 1)) : orb p d l n c c := ⟨0, h.2.1, by rw [h.1, act_one hp hd hc]⟩
theorem orb_tr {p ng d n c x y : Nat} {M l : Nat → Nat} (hp : isP p) (hd : d ≤ 4) (h : GL p ng M l n) (h1 : orb p d l n c x) (h2 : orb p d l n x y) : orb p d l n c y := by
  obtain ⟨i, hi, rfl⟩ := h1
  obtain ⟨j, hj, rfl⟩ := h2
  obtain ⟨k, hk, e⟩ := GL_mul hp h hi hj
  exact ⟨k, hk, by rw [e, act_mmul hp hd]⟩
theorem orb_sy {p ng d n c x : Nat} {M l : Nat → Nat} (hp : isP p) (hd : d ≤ 4) (h : GL p ng M l n) (hc : c < p ^ (d + 1)) (h1 : orb p d l n c x) : orb p d l n x c := by
  obtain ⟨i, hi, rfl⟩ := h1
  obtain ⟨j, hj, e⟩ := act_back hp hd h hi hc
  exact ⟨j, hj, e⟩
theorem orb_lt {p d n c x : Nat} {l : Nat → Nat} (hp : isP p) (hd : d ≤ 4) (h1 : orb p d l n c x) : x < p ^ (d + 1) := by
  obtain ⟨i, hi, rfl⟩ := h1
  exact act_lt hp hd
theorem OE_orb {p d n c m x : Nat} {l q : Nat → Nat} (h : OE p d l n c q m) : (∃ k, k < m ∧ q k = x) ↔ orb p d l n c x := by
  constructor
  · rintro ⟨k, hk, rfl⟩
    obtain ⟨i, hi, e⟩ := h.2.1 k hk
    exact ⟨i, hi, e.symm⟩
  · rintro ⟨i, hi, rfl⟩
    exact h.2.2 i hi
theorem sm_only {F : Nat → Nat} {r v : Nat} : ∀ {N : Nat}, r < N → F r = v → (∀ k, k < N → k ≠ r → F k = 0) → fb_sm F N = v
  | 0, h, _, _ => by omega
  | N + 1, h, e, h2 => by
    rw [fb_sm_succ]
    by_cases q : r = N
    · subst q
      have : fb_sm F r = fb_sm (fun _ => 0) r := fb_sm_cong (fun k hk => h2 k (by omega) (by omega))
      rw [this, fb_sm_const, e]; omega
    · rw [sm_only (by omega) e (fun k hk hk2 => h2 k (by omega) hk2), h2 N (by omega) (fun e2 => q e2.symm), Nat.add_zero]
theorem sm_row {q F : Nat → Nat} {m N : Nat} {P : Nat → Bool} (hd : ∀ k k', k < k' → k' < m → q k ≠ q k') (hN : ∀ k, k < m → q k < N) (hP : ∀ c, P c = true ↔ ∃ k, k < m ∧ q k = c) : fb_sm (fun c => if P c = true then F c else 0) N = fb_sm (fun k => F (q k)) m := by
  have h1 : fb_sm (fun c => if P c = true then F c else 0) N = fb_sm (fun c => fb_sm (fun k => (if c = q k then 1 else 0) * F (q k)) m) N := by
    refine fb_sm_cong (fun c hc => ?_)
    by_cases e : P c = true
    · rw [if_pos e]
      obtain ⟨k, hk, e2⟩ := (hP c).mp e
      exact (sm_one hd hk e2).symm
    · rw [if_neg e]
      have : fb_sm (fun k => (if c = q k then 1 else 0) * F (q k)) m = fb_sm (fun _ => 0) m := fb_sm_cong (fun k hk => by
        rw [if_neg (fun e2 => e ((hP c).mpr ⟨k, hk, e2.symm⟩)), Nat.zero_mul])
      rw [this, fb_sm_const]; omega
  rw [h1, sm_swap]
  refine fb_sm_cong (fun k hk => ?_)
  refine sm_only (r := q k) (hN k hk) (by rw [if_pos rfl, Nat.one_mul]) (fun c _ hc => by rw [if_neg hc, Nat.zero_mul])
/-- as many orbits as the matrices leave forms, divided by how many matrices they are -/
theorem burnside {p ng d n : Nat} {M l : Nat → Nat} (hp : isP p) (hd : d ≤ 4) (hM : gensOk p ng M) (h : GL p ng M l n) : fb_sm (fun i => fixN p d (l i) (p ^ (d + 1))) n = ob p d l n (p ^ (d + 1)) * n := by
  rw [burn_swap]
  have dP : ∀ c, ∃ P : Nat → Bool, ∀ x, P x = true ↔ orb p d l n c x := fun c => ⟨fun x => @decide (orb p d l n c x) (Classical.propDecidable _), fun x => @decide_eq_true_iff (orb p d l n c x) (Classical.propDecidable _)⟩
  have h1 : fb_sm (fun c => cntA p d l n c c) (p ^ (d + 1)) = fb_sm (fun c => fb_sm (fun r => if isL p d l n r = true then (if Classical.choose (dP r) c = true then cntA p d l n c c else 0) else 0) (p ^ (d + 1))) (p ^ (d + 1)) := by
    refine fb_sm_cong (fun c hc => ?_)
    obtain ⟨i0, hi0, e0⟩ := lst_mem (fun i => act p (l i) d c) n h.2.1
    have ho : orb p d l n c (lst (fun i => act p (l i) d c) n) := ⟨i0, hi0, e0.symm⟩
    have hrl : isL p d l n (lst (fun i => act p (l i) d c) n) = true := by
      rw [isL_iff]
      intro i hi
      obtain ⟨k, hk, e⟩ := orb_tr hp hd h ho ⟨i, hi, rfl⟩
      rw [← e]
      exact lst_le (fun i => act p (l i) d c) n k hk
    symm
    refine sm_only (r := lst (fun i => act p (l i) d c) n) (orb_lt hp hd ho) ?_ ?_
    · rw [if_pos hrl, if_pos ((Classical.choose_spec (dP _) c).mpr (orb_sy hp hd h hc ho))]
    · intro r hr hne
      by_cases c1 : isL p d l n r = true
      · rw [if_pos c1, if_neg]
        intro c2
        have o1 := (Classical.choose_spec (dP r) c).mp c2
        have o2 := orb_tr hp hd h o1 ho
        obtain ⟨i, hi, e⟩ := o2
        have l1 := isL_iff.mp c1 i hi
        obtain ⟨j, hj, e2⟩ := orb_sy hp hd h hr ⟨i, hi, e⟩
        have l2 := isL_iff.mp hrl j hj
        omega
      · rw [if_neg c1]
  rw [h1, sm_swap]
  have h2 : fb_sm (fun r => fb_sm (fun c => if isL p d l n r = true then (if Classical.choose (dP r) c = true then cntA p d l n c c else 0) else 0) (p ^ (d + 1))) (p ^ (d + 1)) = fb_sm (fun r => (if isL p d l n r = true then 1 else 0) * n) (p ^ (d + 1)) := by
    refine fb_sm_cong (fun r hr => ?_)
    by_cases c1 : isL p d l n r = true
    · rw [if_pos c1, Nat.one_mul]
      obtain ⟨K, hK⟩ := O_stop hp hd hr hM
      have hoe := O_OE hp hd hr hM hK h
      have h3 : fb_sm (fun c => if isL p d l n r = true then (if Classical.choose (dP r) c = true then cntA p d l n c c else 0) else 0) (p ^ (d + 1)) = fb_sm (fun c => if Classical.choose (dP r) c = true then cntA p d l n c c else 0) (p ^ (d + 1)) := fb_sm_cong (fun c _ => if_pos c1)
      rw [h3, sm_row (q := wq (wout (fO p d M) ng r K)) (m := K) (F := fun c => cntA p d l n c c) hoe.1 (fun k hk => orb_lt hp hd ((OE_orb hoe).mp ⟨k, hk, rfl⟩)) (fun c => by rw [Classical.choose_spec (dP r) c, OE_orb hoe])]
      exact orb_burn hp hd h hr hoe
    · rw [if_neg c1, Nat.zero_mul]
      have h3 : fb_sm (fun c => if isL p d l n r = true then (if Classical.choose (dP r) c = true then cntA p d l n c c else 0) else 0) (p ^ (d + 1)) = fb_sm (fun _ => 0) (p ^ (d + 1)) := fb_sm_cong (fun c _ => if_neg c1)
      rw [h3, fb_sm_const]; omega
  rw [h2]
  have h4 : fb_sm (fun r => (if isL p d l n r = true then 1 else 0) * n) (p ^ (d + 1)) = fb_sm (fun r => n * (if isL p d l n r = true then 1 else 0)) (p ^ (d + 1)) := fb_sm_cong (fun r _ => Nat.mul_comm _ _)
  rw [h4, sm_scale, ← ct_sm, Nat.mul_comm]; rfl
