/-! how many solutions a system has, column by column -/
def rowS (p : Nat) (A : Nat → Nat → Int) (k i r y : Nat) : Int := sg (fun j => A k (i + j) * (dg p y j : Int)) r
def satB (p : Nat) (A : Nat → Nat → Int) (lo hi i r y : Nat) : Bool := decide (∀ k, k < hi → lo ≤ k → rowS p A k i r y % p = 0)
def solC (p : Nat) (A : Nat → Nat → Int) (lo hi i r : Nat) : Nat := fb_ct (satB p A lo hi i r) (p ^ r)
theorem satB_iff {p : Nat} {A : Nat → Nat → Int} {lo hi i r y : Nat} : satB p A lo hi i r y = true ↔ ∀ k, k < hi → lo ≤ k → mq p (rowS p A k i r y) 0 := by
  unfold satB
  rw [decide_eq_true_eq]
  constructor
  · intro h k h1 h2; rw [mq_iff, Int.zero_emod]; exact h k h1 h2
  · intro h k h1 h2; have := mq_iff.mp (h k h1 h2); rw [Int.zero_emod] at this; exact this
theorem ct_mul (P : Nat → Bool) (p : Nat) : ∀ M, fb_ct P (p * M) = fb_sm (fun y => fb_ct (fun x => P (p * y + x)) p) M
  | 0 => rfl
  | M + 1 => by rw [Nat.mul_succ, fb_ct_split, ct_mul P p M, fb_sm_succ]
theorem rowS_cons {p : Nat} (hp : 0 < p) (A : Nat → Nat → Int) (k i r x y : Nat) (hx : x < p) : rowS p A k i (r + 1) (p * y + x) = A k i * (x : Int) + rowS p A k (i + 1) r y := by
  unfold rowS
  rw [sg_head]
  have h0 : dg p (p * y + x) 0 = x := by rw [dg_0, Nat.mul_add_mod, Nat.mod_eq_of_lt hx]
  rw [h0]
  congr 1
  refine sg_cong (fun j _ => ?_)
  rw [dg_s]
  have h1 : (p * y + x) / p = y := by rw [Nat.mul_add_div hp, Nat.div_eq_of_lt hx]; omega
  rw [h1]
  have h2 : i + (j + 1) = i + 1 + j := by omega
  rw [h2]
theorem sol_end (p : Nat) (A : Nat → Nat → Int) (lo hi i : Nat) : solC p A lo hi i 0 = 1 := by
  unfold solC
  rw [Nat.pow_zero, fb_ct, fb_ct, Nat.zero_add, if_pos]
  rw [satB_iff]
  intro k _ _
  exact mq_rf _ _
theorem sol_free {p : Nat} (hp : 0 < p) {A : Nat → Nat → Int} {lo hi i r : Nat} (h : ∀ k, lo ≤ k → k < hi → mq p (A k i) 0) : solC p A lo hi i (r + 1) = p * solC p A lo hi (i + 1) r := by
  unfold solC
  rw [Nat.pow_succ, Nat.mul_comm, ct_mul, ct_sm, ← sm_scale]
  refine fb_sm_cong (fun y _ => ?_)
  have h1 : fb_ct (fun x => satB p A lo hi i (r + 1) (p * y + x)) p = fb_ct (fun _ => satB p A lo hi (i + 1) r y) p := by
    refine fb_ct_cong (fun x hx => ?_)
    rw [Bool.eq_iff_iff, satB_iff, satB_iff]
    have e : ∀ k, lo ≤ k → k < hi → mq p (rowS p A k i (r + 1) (p * y + x)) (rowS p A k (i + 1) r y) := fun k h1 h2 => by
      rw [rowS_cons hp A k i r x y hx]
      have := mq_add (mq_mul (h k h1 h2) (mq_rf p (x : Int))) (mq_rf p (rowS p A k (i + 1) r y))
      rw [Int.zero_mul, Int.zero_add] at this
      exact this
    exact ⟨fun q k h1 h2 => mq_tr (mq_sy (e k h2 h1)) (q k h1 h2), fun q k h1 h2 => mq_tr (e k h2 h1) (q k h1 h2)⟩
  rw [h1]
  cases satB p A lo hi (i + 1) r y
  · rw [fb_ct_zero.mpr (fun _ _ => rfl)]; simp
  · rw [fb_ct_all.mpr (fun _ _ => rfl)]; simp
theorem lin_one {p : Nat} (hp : isP p) : ∀ a, a < p → a ≠ 0 → ∀ s, s < p → fb_ct (fun x => decide ((a * x + s) % p = 0)) p = 1 := by
  rcases hp with rfl | rfl | rfl <;> decide
theorem sol_pivot {p : Nat} (hp : isP p) {A : Nat → Nat → Int} {lo hi i r : Nat} (hlo : lo < hi) (hpv : ¬ mq p (A lo i) 0) (h : ∀ k, lo < k → k < hi → mq p (A k i) 0) : solC p A lo hi i (r + 1) = solC p A (lo + 1) hi (i + 1) r := by
  have hb := isP_b hp
  unfold solC
  rw [Nat.pow_succ, Nat.mul_comm, ct_mul, ct_sm]
  refine fb_sm_cong (fun y _ => ?_)
  have e : ∀ x, x < p → ∀ k, lo < k → k < hi → mq p (rowS p A k i (r + 1) (p * y + x)) (rowS p A k (i + 1) r y) := fun x hx k h1 h2 => by
    rw [rowS_cons (by omega) A k i r x y hx]
    have := mq_add (mq_mul (h k h1 h2) (mq_rf p (x : Int))) (mq_rf p (rowS p A k (i + 1) r y))
    rw [Int.zero_mul, Int.zero_add] at this
    exact this
  have ha := emod_toNat (show 0 < p by omega) (A lo i)
  have hs := emod_toNat (show 0 < p by omega) (rowS p A lo (i + 1) r y)
  have hrow : ∀ x, x < p → (mq p (rowS p A lo i (r + 1) (p * y + x)) 0 ↔ ((A lo i % p).toNat * x + (rowS p A lo (i + 1) r y % p).toNat) % p = 0) := fun x hx => by
    rw [rowS_cons (by omega) A lo i r x y hx]
    have h1 : mq p (A lo i * (x : Int) + rowS p A lo (i + 1) r y) (((A lo i % p).toNat * x + (rowS p A lo (i + 1) r y % p).toNat : Nat) : Int) := by
      rw [Int.natCast_add, Int.natCast_mul, ha.2, hs.2]
      exact mq_add (mq_mul (mq_sy (mq_mod _ _)) (mq_rf _ _)) (mq_sy (mq_mod _ _))
    constructor
    · intro q
      have := mq_iff.mp (mq_tr (mq_sy h1) q)
      rw [Int.zero_emod] at this
      omega
    · intro q
      refine mq_tr h1 ?_
      rw [mq_iff, Int.zero_emod]
      omega
  by_cases hy : satB p A (lo + 1) hi (i + 1) r y = true
  · rw [hy, if_pos rfl]
    have hy' := satB_iff.mp hy
    refine Eq.trans ?_ (lin_one hp _ ha.1 (fun q => hpv (by rw [q] at ha; rw [mq_iff, Int.zero_emod]; omega)) _ hs.1)
    refine fb_ct_cong (fun x hx => ?_)
    rw [Bool.eq_iff_iff, satB_iff, decide_eq_true_eq, ← hrow x hx]
    constructor
    · intro q; exact q lo hlo (Nat.le_refl _)
    · intro q k h1 h2
      by_cases ek : k = lo
      · subst ek; exact q
      · exact mq_tr (e x hx k (by omega) h1) (hy' k h1 (by omega))
  · rw [if_neg hy]
    refine fb_ct_zero.mpr (fun x hx => ?_)
    cases hc : satB p A lo hi i (r + 1) (p * y + x) with
    | false => rfl
    | true =>
      refine absurd (satB_iff.mpr ?_) hy
      have := satB_iff.mp hc
      exact fun k h1 h2 => mq_tr (mq_sy (e x hx k (by omega) h1)) (this k h1 (by omega))
theorem rowS_mq {p : Nat} {A B : Nat → Nat → Int} {k k' i r y : Nat} (h : ∀ j, j < r → mq p (A k (i + j)) (B k' (i + j))) : mq p (rowS p A k i r y) (rowS p B k' i r y) :=
  sg_mq (fun j hj => mq_mul (h j hj) (mq_rf _ _))
theorem rowS_lin (p : Nat) (A B : Nat → Nat → Int) (k k' i r y : Nat) (t f : Int) : sg (fun j => (t * A k (i + j) - f * B k' (i + j)) * (dg p y j : Int)) r = t * rowS p A k i r y - f * rowS p B k' i r y := by
  unfold rowS
  rw [← sg_mul, ← sg_mul, Int.sub_eq_add_neg]
  have h : -sg (fun j => f * (B k' (i + j) * (dg p y j : Int))) r = sg (fun j => (-1) * (f * (B k' (i + j) * (dg p y j : Int)))) r := by rw [sg_mul (-1)]; omega
  rw [h, ← sg_add]
  refine sg_cong (fun j _ => ?_)
  rw [Int.sub_mul, Int.mul_assoc, Int.mul_assoc]; omega
/-- a step of the elimination keeps the solutions -/
theorem sol_step {p : Nat} (hp : isP p) {A B : Nat → Nat → Int} {lo hi pv i r : Nat} {t : Int} {f : Nat → Int} (h1 : lo ≤ pv) (h2 : pv < hi) (ht : ¬ (p : Int) ∣ t)
    (hlo : ∀ j, j < r → mq p (B lo (i + j)) (t * A pv (i + j))) (hk : ∀ k, lo < k → k < hi → ∀ j, j < r → mq p (B k (i + j)) (A (if k = pv then lo else k) (i + j) - f k * B lo (i + j))) : solC p A lo hi i r = solC p B lo hi i r := by
  unfold solC
  refine fb_ct_cong (fun y _ => ?_)
  rw [Bool.eq_iff_iff, satB_iff, satB_iff]
  have r0 : mq p (rowS p B lo i r y) (t * rowS p A pv i r y) := by
    have q : mq p (rowS p B lo i r y) (sg (fun j => (t * A pv (i + j) - 0 * B lo (i + j)) * (dg p y j : Int)) r) := sg_mq (fun j hj => mq_mul (by rw [Int.zero_mul, Int.sub_zero]; exact hlo j hj) (mq_rf _ _))
    rw [rowS_lin, Int.zero_mul, Int.sub_zero] at q
    exact q
  have rk : ∀ k, lo < k → k < hi → mq p (rowS p B k i r y) (rowS p A (if k = pv then lo else k) i r y - f k * rowS p B lo i r y) := fun k k1 k2 => by
    have q : mq p (rowS p B k i r y) (sg (fun j => (1 * A (if k = pv then lo else k) (i + j) - f k * B lo (i + j)) * (dg p y j : Int)) r) := sg_mq (fun j hj => mq_mul (by rw [Int.one_mul]; exact hk k k1 k2 j hj) (mq_rf _ _))
    rw [rowS_lin, Int.one_mul] at q
    exact q
  constructor
  · intro q k k1 k2
    have b0 : mq p (rowS p B lo i r y) 0 := by
      have := mq_tr r0 (mq_mul (mq_rf p t) (q pv h2 h1))
      rw [Int.mul_zero] at this; exact this
    by_cases e : k = lo
    · subst e; exact b0
    · have := mq_tr (rk k (by omega) k1) (mq_sub (q (if k = pv then lo else k) (by split <;> omega) (by split <;> omega)) (mq_mul (mq_rf p (f k)) b0))
      rw [Int.mul_zero, Int.sub_zero] at this; exact this
  · intro q
    have b0 := q lo (by omega) (Nat.le_refl _)
    have apv : mq p (rowS p A pv i r y) 0 := by
      have h3 := mq_tr (mq_sy r0) b0
      unfold mq at h3 ⊢
      rw [Int.sub_zero] at h3 ⊢
      exact (prime_dvd hp h3).resolve_left ht
    have back : ∀ k, lo < k → k < hi → mq p (rowS p A (if k = pv then lo else k) i r y) 0 := fun k k1 k2 => by
      have h3 := mq_add (mq_sy (rk k k1 k2)) (mq_mul (mq_rf p (f k)) (mq_rf p (rowS p B lo i r y)))
      have h4 := mq_add (q k k2 (by omega)) (mq_mul (mq_rf p (f k)) b0)
      rw [Int.mul_zero, Int.add_zero] at h4
      have h5 := mq_tr h3 h4
      rw [Int.sub_add_cancel] at h5
      exact h5
    intro k k1 k2
    by_cases e : k = pv
    · subst e; exact apv
    · by_cases e2 : k = lo
      · subst e2
        have := back pv (by omega) h2
        rw [if_pos rfl] at this
        exact this
      · have := back k (by omega) k1
        rw [if_neg e] at this
        exact this
theorem sol_cong {p : Nat} {A B : Nat → Nat → Int} {lo hi i r : Nat} (h : ∀ k, lo ≤ k → k < hi → ∀ j, j < r → mq p (A k (i + j)) (B k (i + j))) : solC p A lo hi i r = solC p B lo hi i r := by
  unfold solC
  refine fb_ct_cong (fun y _ => ?_)
  rw [Bool.eq_iff_iff, satB_iff, satB_iff]
  exact ⟨fun q k k1 k2 => mq_tr (mq_sy (rowS_mq (h k k2 k1))) (q k k1 k2), fun q k k1 k2 => mq_tr (rowS_mq (h k k2 k1)) (q k k1 k2)⟩
/-- the system that says that a form is left as it is -/
def eqM (p m n : Nat) (k j : Nat) : Int := colV p m n j k - (if k = j then 1 else 0)
theorem leaves_iff {p m n y : Nat} (hp : isP p) (hn : n ≤ 4) (hy : y < p ^ (n + 1)) : act p m n y = y ↔ ∀ k, k ≤ n → mq p (sg (fun j => eqM p m n k j * (dg p y j : Int)) (n + 1)) 0 := by
  have hb := isP_b hp
  have hy5 : y < p ^ 5 := Nat.lt_of_lt_of_le hy (Nat.pow_le_pow_right (by omega) (by omega))
  have key : ∀ k, k ≤ n → sg (fun j => eqM p m n k j * (dg p y j : Int)) (n + 1) = imz p m n y k - (dg p y k : Int) := fun k hk => by
    have h1 : imz p m n y k = sg (fun j => eqM p m n k j * (dg p y j : Int)) (n + 1) + sg (fun j => (if k = j then 1 else 0) * (dg p y j : Int)) (n + 1) := by
      rw [← sg_add]
      refine sg_cong (fun j _ => ?_)
      show (dg p y j : Int) * colV p m n j k = _
      unfold eqM
      rw [← Int.add_mul, Int.sub_add_cancel, Int.mul_comm]
    have h2 : sg (fun j => (if k = j then 1 else 0) * (dg p y j : Int)) (n + 1) = (dg p y k : Int) := by
      rw [sg_one (i := k) (by omega) (fun j _ hj => by rw [if_neg (fun e => hj e.symm), Int.zero_mul]), if_pos rfl, Int.one_mul]
    omega
  constructor
  · intro e k hk
    rw [key k hk]
    have h3 : dg p (act p m n y) k = dg p y k := by rw [e]
    rw [act_dg (by omega) (by omega)] at h3
    have h4 := (emod_toNat (show 0 < p by omega) (imz p m n y k)).2
    rw [h3] at h4
    have h5 := mq_sub (mq_sy (mq_mod p (imz p m n y k))) (mq_rf p (dg p y k : Int))
    rw [← h4, Int.sub_self] at h5
    exact h5
  · intro h
    refine cod_inj (show 0 < p by omega) (act_lt5 hp) hy5 (fun k hk => ?_)
    rw [act_dg (by omega) hk]
    by_cases hkn : k ≤ n
    · have h3 := h k hkn
      rw [key k hkn] at h3
      have h4 : mq p (imz p m n y k) (dg p y k : Int) := by
        have := mq_add h3 (mq_rf p (dg p y k : Int))
        rw [Int.sub_add_cancel, Int.zero_add] at this; exact this
      have h5 := mq_iff.mp h4
      have h6 := dg_lt (show 0 < p by omega) y k
      rw [Int.emod_eq_of_lt (a := (dg p y k : Int)) (by omega) (by omega)] at h5
      omega
    · rw [show imz p m n y k = 0 from sb_sup _ _ _ _ n _ k (by omega), dg_big hy (by omega) (by omega)]
      simp
