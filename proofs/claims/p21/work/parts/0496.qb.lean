/-! how often a form can be divided, and what a matrix does to it -/
theorem cod_0 (p : Nat) : ∀ n, cod p (fun _ => 0) n = 0
  | 0 => rfl
  | n + 1 => by rw [cod, cod_0 p n]; simp
def Lu (p t : Nat) : Int := if t = p then 0 else 1
def Lv (p t : Nat) : Int := if t = p then 1 else -(t : Int)
def DvL (p : Nat) (u v : Int) (k r : Nat) (F : Nat → Int) : Prop := ∃ G : Nat → Int, (∀ j, r ≤ j + k → G j = 0) ∧ ∀ j, mq p (F j) (itn (lin u v) k G j)
def trn (r : Nat) (F : Nat → Nat) : Nat → Int := fun j => if j < r then (F j : Int) else 0
theorem trn_in {r j : Nat} (F : Nat → Nat) (h : j < r) : trn r F j = (F j : Int) := if_pos h
theorem trn_out {r j : Nat} (F : Nat → Nat) (h : ¬ j < r) : trn r F j = 0 := if_neg h
theorem lin_00 (u v : Int) (f : Nat → Int) : lin u v f 0 = u * f 0 := rfl
theorem lin_ss (u v : Int) (f : Nat → Int) (j : Nat) : lin u v f (j + 1) = u * f (j + 1) + v * f j := rfl
theorem itn_ss (g : (Nat → Int) → Nat → Int) (k : Nat) (f : Nat → Int) : itn g (k + 1) f = g (itn g k f) := rfl
theorem itn_sup {u v : Int} : ∀ (k r : Nat) (G : Nat → Int), (∀ j, r ≤ j + k → G j = 0) → ∀ j, r ≤ j → itn (lin u v) k G j = 0
  | 0, r, G, h, j, hj => h j hj
  | k + 1, r, G, h, j, hj => by
    have ih := itn_sup (u := u) (v := v) k (r - 1) G (fun j hj => h j (by omega))
    rw [itn_ss]
    match j, hj with
    | 0, hj => rw [lin_00, ih 0 (by omega), Int.mul_zero]
    | j + 1, hj => rw [lin_ss, ih (j + 1) (by omega), ih j (by omega), Int.mul_zero, Int.mul_zero, Int.add_zero]
theorem nat_0 {p a : Nat} (h : a < p) (hq : mq p (a : Int) 0) : a = 0 := dg_mq h (by omega) hq
theorem carr_mq (p t : Nat) (F : Nat → Nat) (j : Nat) : mq p (carr p t F (j + 1) : Int) ((F (j + 1) : Int) + (t : Int) * (carr p t F j : Int)) := by
  have e : ((carr p t F (j + 1) : Nat) : Int) = ((F (j + 1) : Int) + (t : Int) * (carr p t F j : Int)) % (p : Int) := by
    show (((F (j + 1) + t * carr p t F j) % p : Nat) : Int) = _
    rw [Int.natCast_emod, Int.natCast_add, Int.natCast_mul]
  rw [e]; exact mq_mod p _
theorem carr_mq0 (p t : Nat) (F : Nat → Nat) : mq p (carr p t F 0 : Int) (F 0 : Int) := by
  have e : ((carr p t F 0 : Nat) : Int) = (F 0 : Int) % (p : Int) := by
    show ((F 0 % p : Nat) : Int) = _
    rw [Int.natCast_emod]
  rw [e]; exact mq_mod p _
theorem dvs_dv {p t : Nat} (hp : 0 < p) : ∀ (r : Nat) (F : Nat → Nat), (∀ j, j < r → F j < p) → ∀ k, k ≤ r → (k ≤ dvs p t r F ↔ DvL p (Lu p t) (Lv p t) k r (trn r F))
  | 0, F, _, k, hk => by
    have : k = 0 := by omega
    subst this
    exact ⟨fun _ => ⟨fun _ => 0, fun _ _ => rfl, fun j => by rw [trn_out F (Nat.not_lt_zero _)]; exact mq_rf p _⟩, fun _ => Nat.zero_le _⟩
  | r + 1, F, hF, 0, _ => ⟨fun _ => ⟨trn (r + 1) F, fun j hj => trn_out F (by omega), fun j => mq_rf p _⟩, fun _ => Nat.zero_le _⟩
  | r + 1, F, hF, k + 1, hk => by
    rw [dvs_s]
    by_cases q : t = p
    · have eu : Lu p t = 0 := if_pos q
      have ev : Lv p t = 1 := if_pos q
      have ih := dvs_dv (t := t) hp r (rowY r F) (fun j hj => by unfold rowY; rw [if_pos hj]; exact hF _ (by omega)) k (by omega)
      rw [if_pos q]
      rw [eu, ev] at ih ⊢
      constructor
      · intro h
        by_cases q0 : F 0 = 0
        · rw [if_pos q0] at h
          obtain ⟨G, h1, h2⟩ := ih.mp (by omega)
          refine ⟨G, fun j hj => h1 j (by omega), fun j => ?_⟩
          rw [itn_ss]
          match j with
          | 0 => rw [lin_00, Int.zero_mul, trn_in F (by omega), q0]; exact mq_rf p 0
          | j + 1 =>
            rw [lin_ss, Int.zero_mul, Int.zero_add, Int.one_mul]
            have h3 := h2 j
            by_cases qj : j < r
            · rw [trn_in _ qj] at h3
              rw [trn_in F (by omega)]
              unfold rowY at h3
              rw [if_pos qj] at h3
              exact h3
            · rw [trn_out _ qj] at h3
              rw [trn_out F (by omega)]
              exact h3
        · rw [if_neg q0] at h; omega
      · rintro ⟨G, h1, h2⟩
        have h0 := h2 0
        rw [itn_ss, lin_00, Int.zero_mul, trn_in F (by omega)] at h0
        rw [if_pos (nat_0 (hF 0 (by omega)) h0)]
        refine Nat.succ_le_succ (ih.mpr ⟨G, fun j hj => h1 j (by omega), fun j => ?_⟩)
        have h3 := h2 (j + 1)
        rw [itn_ss, lin_ss, Int.zero_mul, Int.zero_add, Int.one_mul] at h3
        by_cases qj : j < r
        · rw [trn_in F (by omega)] at h3
          rw [trn_in _ qj]
          unfold rowY
          rw [if_pos qj]
          exact h3
        · rw [trn_out F (by omega)] at h3
          rw [trn_out _ qj]
          exact h3
    · have eu : Lu p t = 1 := if_neg q
      have ev : Lv p t = -(t : Int) := if_neg q
      have ih := dvs_dv (t := t) hp r (rowP p t r F) (fun j hj => by unfold rowP; rw [if_pos (by omega)]; exact carr_lt hp F j) k (by omega)
      rw [if_neg q]
      rw [eu, ev] at ih ⊢
      have er : ∀ j, j < r → trn r (rowP p t r F) j = (carr p t F j : Int) := fun j hj => by
        rw [trn_in _ hj]; unfold rowP; rw [if_pos (by omega)]
      constructor
      · intro h
        by_cases q0 : carr p t F r = 0
        · rw [if_pos q0] at h
          obtain ⟨G, h1, h2⟩ := ih.mp (by omega)
          have hH : ∀ j, j ≤ r → mq p (carr p t F j : Int) (itn (lin 1 (-(t : Int))) k G j) := fun j hj => by
            have h3 := h2 j
            by_cases qj : j < r
            · rw [er j qj] at h3; exact h3
            · have : j = r := by omega
              subst this
              rw [trn_out _ qj] at h3
              rw [q0]; exact h3
          have hO : ∀ j, ¬ j < r → mq p 0 (itn (lin 1 (-(t : Int))) k G j) := fun j hj => by
            have h3 := h2 j
            rw [trn_out _ hj] at h3
            exact h3
          refine ⟨G, fun j hj => h1 j (by omega), fun j => ?_⟩
          rw [itn_ss]
          match j with
          | 0 =>
            rw [lin_00, Int.one_mul, trn_in F (by omega)]
            exact mq_tr (mq_sy (carr_mq0 p t F)) (hH 0 (by omega))
          | j + 1 =>
            rw [lin_ss, Int.one_mul]
            by_cases qj : j + 1 < r + 1
            · rw [trn_in F qj]
              have e : (F (j + 1) : Int) = ((F (j + 1) : Int) + (t : Int) * (carr p t F j : Int)) + -(t : Int) * (carr p t F j : Int) := by
                rw [Int.neg_mul]; omega
              rw [e]
              exact mq_add (mq_tr (mq_sy (carr_mq p t F j)) (hH (j + 1) (by omega))) (mq_mul (mq_rf p _) (hH j (by omega)))
            · rw [trn_out F qj]
              have e : (0 : Int) = 0 + -(t : Int) * 0 := by omega
              rw [e]
              exact mq_add (hO (j + 1) (by omega)) (mq_mul (mq_rf p _) (hO j (by omega)))
        · rw [if_neg q0] at h; omega
      · rintro ⟨G, h1, h2⟩
        have hz := itn_sup (u := 1) (v := -(t : Int)) k r G (fun j hj => h1 j (by omega))
        have hH : ∀ j, j ≤ r → mq p (carr p t F j : Int) (itn (lin 1 (-(t : Int))) k G j) := by
          intro j
          induction j with
          | zero =>
            intro _
            have h3 := h2 0
            rw [itn_ss, lin_00, Int.one_mul, trn_in F (by omega)] at h3
            exact mq_tr (carr_mq0 p t F) h3
          | succ j ihj =>
            intro hj
            have h3 := h2 (j + 1)
            rw [itn_ss, lin_ss, Int.one_mul, trn_in F (by omega)] at h3
            have h4 := mq_add h3 (mq_mul (mq_rf p (t : Int)) (ihj (by omega)))
            have e : itn (lin 1 (-(t : Int))) k G (j + 1) + -(t : Int) * itn (lin 1 (-(t : Int))) k G j + (t : Int) * itn (lin 1 (-(t : Int))) k G j = itn (lin 1 (-(t : Int))) k G (j + 1) := by
              rw [Int.neg_mul]; omega
            rw [e] at h4
            exact mq_tr (carr_mq p t F j) h4
        have hr := hH r (Nat.le_refl _)
        rw [hz r (Nat.le_refl _)] at hr
        rw [if_pos (nat_0 (carr_lt hp F r) hr)]
        refine Nat.succ_le_succ (ih.mpr ⟨G, fun j hj => h1 j (by omega), fun j => ?_⟩)
        by_cases qj : j < r
        · rw [er j qj]; exact hH j (by omega)
        · rw [trn_out _ qj, hz j (by omega)]; exact mq_rf p 0
theorem lin_l (l u v : Int) (f : Nat → Int) : lin (l * u) (l * v) f = fun j => l * lin u v f j := by
  funext j
  match j with
  | 0 => show l * u * f 0 = l * (u * f 0); exact Int.mul_assoc _ _ _
  | j + 1 => show l * u * f (j + 1) + l * v * f j = l * (u * f (j + 1) + v * f j); rw [Int.mul_add, Int.mul_assoc, Int.mul_assoc]
theorem lin_k (l u v : Int) (f : Nat → Int) : lin u v (fun j => l * f j) = fun j => l * lin u v f j := by
  funext j
  match j with
  | 0 => show u * (l * f 0) = l * (u * f 0); exact Int.mul_left_comm _ _ _
  | j + 1 => show u * (l * f (j + 1)) + v * (l * f j) = l * (u * f (j + 1) + v * f j); rw [Int.mul_add, Int.mul_left_comm u l, Int.mul_left_comm v l]
theorem itn_k (l u v : Int) (G : Nat → Int) : ∀ k, itn (lin u v) k (fun j => l * G j) = fun j => l * itn (lin u v) k G j
  | 0 => rfl
  | k + 1 => by
    show lin u v (itn (lin u v) k (fun j => l * G j)) = fun j => l * lin u v (itn (lin u v) k G) j
    rw [itn_k l u v G k]
    exact lin_k l u v _
theorem itn_l (l u v : Int) (G : Nat → Int) : ∀ k, itn (lin (l * u) (l * v)) k G = fun j => l ^ k * itn (lin u v) k G j
  | 0 => by
    funext j
    show G j = l ^ 0 * G j
    rw [Int.pow_zero, Int.one_mul]
  | k + 1 => by
    show lin (l * u) (l * v) (itn (lin (l * u) (l * v)) k G) = fun j => l ^ (k + 1) * lin u v (itn (lin u v) k G) j
    rw [itn_l l u v G k, lin_l]
    funext j
    have h := congrFun (lin_k (l ^ k) u v (itn (lin u v) k G)) j
    have h : lin u v (fun j => l ^ k * itn (lin u v) k G j) j = l ^ k * lin u v (itn (lin u v) k G) j := h
    show l * lin u v (fun j => l ^ k * itn (lin u v) k G j) j = l ^ (k + 1) * lin u v (itn (lin u v) k G) j
    rw [h, Int.pow_succ, Int.mul_comm (l ^ k) l, Int.mul_assoc]
theorem DvL_sc {p k r : Nat} {u v u' v' l : Int} {F : Nat → Int} (hu : mq p u' (l * u)) (hv : mq p v' (l * v)) (h : DvL p u' v' k r F) : DvL p u v k r F := by
  obtain ⟨G, h1, h2⟩ := h
  refine ⟨fun j => l ^ k * G j, fun j hj => by show l ^ k * G j = 0; rw [h1 j hj, Int.mul_zero], fun j => ?_⟩
  have h3 := itn_mq (p := p) hu hv (f := G) (g := G) (fun j => mq_rf p _) k j
  have e1 := congrFun (itn_l l u v G k) j
  have e2 := congrFun (itn_k (l ^ k) u v G k) j
  rw [e1] at h3
  rw [e2]
  exact mq_tr (h2 j) h3
def ptN (p : Nat) (u v : Int) : Nat := if u % (p : Int) = 0 then p else ((-v * (inv p (u % (p : Int)).toNat : Int)) % (p : Int)).toNat
theorem pt_ok {p : Nat} (hp : isP p) {u v : Int} (h : ¬ ((p : Int) ∣ u ∧ (p : Int) ∣ v)) : ptN p u v ≤ p ∧ ∃ l : Int, ¬ (p : Int) ∣ l ∧ mq p u (l * Lu p (ptN p u v)) ∧ mq p v (l * Lv p (ptN p u v)) := by
  have hb := isP_b hp
  by_cases q : u % (p : Int) = 0
  · have e : ptN p u v = p := if_pos q
    have hu : (p : Int) ∣ u := Int.dvd_of_emod_eq_zero q
    rw [e]
    refine ⟨Nat.le_refl _, v, fun hv => h ⟨hu, hv⟩, ?_, ?_⟩
    · rw [show Lu p p = 0 from if_pos rfl, Int.mul_zero]
      unfold mq; rw [Int.sub_zero]; exact hu
    · rw [show Lv p p = 1 from if_pos rfl, Int.mul_one]; exact mq_rf p v
  · have e : ptN p u v = ((-v * (inv p (u % (p : Int)).toNat : Int)) % (p : Int)).toNat := if_neg q
    obtain ⟨t1, t2⟩ := emod_toNat (p := p) (by omega) (-v * (inv p (u % (p : Int)).toNat : Int))
    have hn : ¬ ptN p u v = p := by rw [e]; exact Nat.ne_of_lt t1
    refine ⟨by rw [e]; exact Nat.le_of_lt t1, u, fun hu => q (Int.emod_eq_zero_of_dvd hu), ?_, ?_⟩
    · rw [show Lu p (ptN p u v) = 1 from if_neg hn, Int.mul_one]; exact mq_rf p u
    · rw [show Lv p (ptN p u v) = -(ptN p u v : Int) from if_neg hn, e, t2]
      have hi := inv_mq hp (a := u % (p : Int)) (Int.emod_nonneg _ (by omega)) (Int.emod_lt_of_pos _ (by omega)) q
      have h1 : mq p (u * -((-v * (inv p (u % (p : Int)).toNat : Int)) % (p : Int))) (u * -(-v * (inv p (u % (p : Int)).toNat : Int))) := mq_mul (mq_rf p u) (mq_neg (mq_mod p _))
      have h2 : mq p (v * ((inv p (u % (p : Int)).toNat : Int) * (u % (p : Int)))) (v * 1) := mq_mul (mq_rf p v) hi
      have h3 : mq p (v * ((inv p (u % (p : Int)).toNat : Int) * (u % (p : Int)))) (v * ((inv p (u % (p : Int)).toNat : Int) * u)) := mq_mul (mq_rf p v) (mq_mul (mq_rf p _) (mq_mod p u))
      have e4 : u * -(-v * (inv p (u % (p : Int)).toNat : Int)) = v * ((inv p (u % (p : Int)).toNat : Int) * u) := by
        rw [Int.neg_mul, Int.neg_neg, Int.mul_comm u, Int.mul_assoc]
      rw [e4] at h1
      rw [Int.mul_one] at h2
      exact mq_tr (mq_sy h2) (mq_tr h3 (mq_sy h1))
/-- where a matrix brings a point -/
def ptU (p m t : Nat) : Int := Lu p t * (dg p m 0 : Int) + Lv p t * (dg p m 2 : Int)
def ptV (p m t : Nat) : Int := Lu p t * (dg p m 1 : Int) + Lv p t * (dg p m 3 : Int)
def ptM (p m t : Nat) : Nat := ptN p (ptU p m t) (ptV p m t)
theorem L_no0 {p t : Nat} (hp : isP p) : ¬ (mq p (Lu p t) 0 ∧ mq p (Lv p t) 0) := by
  have hb := isP_b hp
  rintro ⟨h1, h2⟩
  have one : ¬ mq p 1 0 := fun h => by
    unfold mq at h
    have := Int.le_of_dvd (by decide) h
    omega
  by_cases q : t = p
  · rw [show Lv p t = 1 from if_pos q] at h2; exact one h2
  · rw [show Lu p t = 1 from if_neg q] at h1; exact one h1
theorem dz_nd {p m : Nat} (hp : 0 < p) (h : det p m ≠ 0) : ¬ (p : Int) ∣ (dg p m 0 : Int) * (dg p m 3 : Int) - (dg p m 1 : Int) * (dg p m 2 : Int) := fun q => h ((det_0 hp).mpr q)
theorem mq0 {p : Nat} {x : Int} (h : (p : Int) ∣ x) : mq p x 0 := by unfold mq; rw [Int.sub_zero]; exact h
theorem pt_no0 {p m t : Nat} (hp : isP p) (h : det p m ≠ 0) : ¬ ((p : Int) ∣ ptU p m t ∧ (p : Int) ∣ ptV p m t) := by
  have hb := isP_b hp
  rintro ⟨h1, h2⟩
  have k1 : mq p (Lu p t * (dg p m 0 : Int) + Lv p t * (dg p m 2 : Int)) (0 * (dg p m 0 : Int) + 0 * (dg p m 2 : Int)) := by
    rw [Int.zero_mul, Int.zero_mul, Int.add_zero]; exact mq0 h1
  have k2 : mq p (Lu p t * (dg p m 1 : Int) + Lv p t * (dg p m 3 : Int)) (0 * (dg p m 1 : Int) + 0 * (dg p m 3 : Int)) := by
    rw [Int.zero_mul, Int.zero_mul, Int.add_zero]; exact mq0 h2
  exact L_no0 hp (canc hp (dz_nd (by omega) h) k1 k2)
theorem ptM_ok {p m : Nat} (hp : isP p) (h : det p m ≠ 0) (t : Nat) : ptM p m t ≤ p ∧ ∃ l : Int, ¬ (p : Int) ∣ l ∧ mq p (ptU p m t) (l * Lu p (ptM p m t)) ∧ mq p (ptV p m t) (l * Lv p (ptM p m t)) := pt_ok hp (pt_no0 hp h)
theorem mq_dvd {p : Nat} {x : Int} (h : mq p x 0) : (p : Int) ∣ x := by unfold mq at h; rw [Int.sub_zero] at h; exact h
theorem L_one {p t1 t2 : Nat} (hp : isP p) (h1 : t1 ≤ p) (h2 : t2 ≤ p) {a b : Int} (ha : ¬ (p : Int) ∣ a) (hb : ¬ (p : Int) ∣ b) (hu : mq p (a * Lu p t1) (b * Lu p t2)) (hv : mq p (a * Lv p t1) (b * Lv p t2)) : t1 = t2 := by
  by_cases q1 : t1 = p
  · by_cases q2 : t2 = p
    · omega
    · rw [show Lu p t1 = 0 from if_pos q1, show Lu p t2 = 1 from if_neg q2, Int.mul_zero, Int.mul_one] at hu
      exact absurd (mq_dvd (mq_sy hu)) hb
  · by_cases q2 : t2 = p
    · rw [show Lu p t1 = 1 from if_neg q1, show Lu p t2 = 0 from if_pos q2, Int.mul_zero, Int.mul_one] at hu
      exact absurd (mq_dvd hu) ha
    · rw [show Lu p t1 = 1 from if_neg q1, show Lu p t2 = 1 from if_neg q2, Int.mul_one, Int.mul_one] at hu
      rw [show Lv p t1 = -(t1 : Int) from if_neg q1, show Lv p t2 = -(t2 : Int) from if_neg q2] at hv
      have h3 : mq p (a * -(t1 : Int)) (a * -(t2 : Int)) := mq_tr hv (mq_mul (mq_sy hu) (mq_rf p _))
      have h4 : (p : Int) ∣ a * ((t1 : Int) - (t2 : Int)) := by
        have h5 := mq_neg h3
        unfold mq at h5
        rw [show a * ((t1 : Int) - (t2 : Int)) = -(a * -(t1 : Int)) - -(a * -(t2 : Int)) by rw [Int.mul_neg, Int.mul_neg, Int.neg_neg, Int.neg_neg, Int.mul_sub]]
        exact h5
      rcases prime_dvd hp h4 with h5 | h5
      · exact absurd h5 ha
      · exact dg_mq (p := p) (by omega) (by omega) h5
theorem ptM_inj {p m : Nat} (hp : isP p) (h : det p m ≠ 0) {t1 t2 : Nat} (h1 : t1 ≤ p) (h2 : t2 ≤ p) (e : ptM p m t1 = ptM p m t2) : t1 = t2 := by
  have hb := isP_b hp
  obtain ⟨-, a, a0, a1, a2⟩ := ptM_ok hp h t1
  obtain ⟨-, b, b0, b1, b2⟩ := ptM_ok hp h t2
  rw [← e] at b1 b2
  have k1 : mq p (b * ptU p m t1) (a * ptU p m t2) := by
    have x1 := mq_mul (mq_rf p b) a1
    have x2 := mq_mul (mq_rf p a) b1
    rw [Int.mul_left_comm] at x1
    exact mq_tr x1 (mq_sy x2)
  have k2 : mq p (b * ptV p m t1) (a * ptV p m t2) := by
    have x1 := mq_mul (mq_rf p b) a2
    have x2 := mq_mul (mq_rf p a) b2
    rw [Int.mul_left_comm] at x1
    exact mq_tr x1 (mq_sy x2)
  unfold ptU at k1
  unfold ptV at k2
  rw [Int.mul_add, Int.mul_add, ← Int.mul_assoc, ← Int.mul_assoc, ← Int.mul_assoc, ← Int.mul_assoc] at k1 k2
  obtain ⟨c1, c2⟩ := canc hp (dz_nd (by omega) h) k1 k2
  exact L_one hp h1 h2 b0 a0 c1 c2
theorem dv_act {p d m c k : Nat} {u v : Int} (hp : 0 < p) (hd : d ≤ 4) (hk : k ≤ d) (h : DvL p u v k (d + 1) (trn (d + 1) (dg p c))) : DvL p (u * (dg p m 0 : Int) + v * (dg p m 2 : Int)) (u * (dg p m 1 : Int) + v * (dg p m 3 : Int)) k (d + 1) (trn (d + 1) (dg p (act p m d c))) := by
  obtain ⟨G, h1, h2⟩ := h
  have hs : sup (d - k) G := fun j hj => h1 j (by omega)
  have e := sb_itn (dg p m 0 : Int) (dg p m 1 : Int) (dg p m 2 : Int) (dg p m 3 : Int) u v hs rfl k
  rw [show d - k + k = d by omega] at e
  have hs2 := sb_sup (dg p m 0 : Int) (dg p m 1 : Int) (dg p m 2 : Int) (dg p m 3 : Int) (d - k) G
  have hz : ∀ j, d + 1 ≤ j + k → sb (dg p m 0 : Int) (dg p m 1 : Int) (dg p m 2 : Int) (dg p m 3 : Int) (d - k) G j = 0 := fun j hj => hs2 j (by omega)
  refine ⟨sb (dg p m 0 : Int) (dg p m 1 : Int) (dg p m 2 : Int) (dg p m 3 : Int) (d - k) G, hz, fun j => ?_⟩
  by_cases q : j < d + 1
  · rw [trn_in _ q]
    refine mq_tr (act_mq hp (by omega)) ?_
    unfold imz
    rw [← e]
    refine sb_mq (mq_rf p _) (mq_rf p _) (mq_rf p _) (mq_rf p _) (fun i hi => ?_) j
    have h3 := h2 i
    rw [trn_in _ (by omega)] at h3
    exact h3
  · rw [trn_out _ q, itn_sup k (d + 1) _ hz j (by omega)]
    exact mq_rf p 0
theorem dvs_act {p d m c t k : Nat} (hp : isP p) (hd : d ≤ 4) (hm : det p m ≠ 0) (hk : k ≤ d) (h : k ≤ dvs p t (d + 1) (dg p c)) : k ≤ dvs p (ptM p m t) (d + 1) (dg p (act p m d c)) := by
  have hb := isP_b hp
  have hp0 : 0 < p := by omega
  obtain ⟨-, l, -, l1, l2⟩ := ptM_ok hp hm t
  refine (dvs_dv hp0 (d + 1) _ (fun j _ => dg_lt hp0 _ _) k (by omega)).mpr (DvL_sc l1 l2 ?_)
  exact dv_act hp0 hd hk ((dvs_dv hp0 (d + 1) _ (fun j _ => dg_lt hp0 _ _) k (by omega)).mp h)
theorem dvs_max {p d c t : Nat} (hp : isP p) (hc : c < p ^ (d + 1)) (h0 : c ≠ 0) : dvs p t (d + 1) (dg p c) ≤ d := by
  have hb := isP_b hp
  have hp0 : 0 < p := by omega
  refine Nat.not_lt.mp (fun h => h0 ?_)
  obtain ⟨G, h1, h2⟩ := (dvs_dv (t := t) hp0 (d + 1) (dg p c) (fun j _ => dg_lt hp0 _ _) (d + 1) (Nat.le_refl _)).mp h
  have hz := itn_sup (u := Lu p t) (v := Lv p t) (d + 1) 0 G (fun j _ => h1 j (by omega))
  have hd0 : ∀ j, j < d + 1 → dg p c j = 0 := fun j hj => by
    have h3 := h2 j
    rw [trn_in _ hj, hz j (Nat.zero_le _)] at h3
    exact nat_0 (dg_lt hp0 _ _) h3
  rw [← cod_dg hp0 (d + 1) c hc, cod_cong (g := fun _ => 0) hd0]
  exact cod_0 p (d + 1)
/-- roots and being null stay -/
theorem rts_act {p d m c : Nat} (hp : isP p) (hd1 : 1 ≤ d) (hd : d ≤ 4) (hm : det p m ≠ 0) : rts p d c ≤ rts p d (act p m d c) := by
  unfold rts
  refine ct_map (f := ptM p m) (fun t ht hP => ⟨?_, ?_⟩) (fun t t' h1 h2 e => ?_)
  · have := (ptM_ok hp hm t).1; omega
  · exact decide_eq_true (dvs_act (k := 1) hp hd hm hd1 (of_decide_eq_true hP))
  · have := ptM_inj hp hm (by omega) (by omega) e; omega
theorem nul_act {p d m c : Nat} (hp : isP p) (hd : d ≤ 4) (hc : c < p ^ (d + 1)) (hm : det p m ≠ 0) (h : nul p d c) : nul p d (act p m d c) := by
  by_cases q : c = 0
  · subst q; rw [act_0]; exact h
  · obtain ⟨t, ht, h1⟩ := h
    have h2 := dvs_act hp hd hm (dvs_max (t := t) hp hc q) (Nat.le_refl _)
    have h3 := (ptM_ok hp hm t).1
    exact ⟨ptM p m t, by omega, by omega⟩
theorem rts_same {p d m y c : Nat} (hp : isP p) (hd1 : 1 ≤ d) (hd : d ≤ 4) (hm : det p m ≠ 0) (hy : det p y ≠ 0) (e : act p y d (act p m d c) = c) : rts p d (act p m d c) = rts p d c := by
  have h1 := rts_act (c := c) hp hd1 hd hm
  have h2 := rts_act (c := act p m d c) hp hd1 hd hy
  rw [e] at h2
  omega
theorem nul_same {p d m y c : Nat} (hp : isP p) (hd : d ≤ 4) (hc : c < p ^ (d + 1)) (hm : det p m ≠ 0) (hy : det p y ≠ 0) (e : act p y d (act p m d c) = c) : nul p d (act p m d c) ↔ nul p d c := by
  refine ⟨fun h => ?_, nul_act hp hd hc hm⟩
  have h2 := nul_act hp hd (act_lt hp hd) hy h
  rw [e] at h2
  exact h2
