/-! the reference's transvectants -/
theorem mderives_ok {p n bx b k1 : Nat} {F : Nat → Nat} {u : St} {Q : St → Prop} (hp : MP u p) (hk : k1 = 8 ∨ k1 = 9) (hn : n ≤ 4) (hb2 : bx + b ≤ n) (hF : ∀ j, F j < p) (hR : ∀ j, j ≤ n → u k1 j = nI (F j))
    (h : ∀ v, chg [k1] [] u v → (∀ j, j + b + bx ≤ n → v k1 j = nI (dr p n bx b F j)) → Q v) : f_X7_derives k1 (nI n) (nI bx) (nI b) u Q := by
  have hb := isP_b hp.2
  have h5 : lenM k1 = 5 := by rcases hk with rfl | rfl <;> rfl
  have hk0 : k1 ≠ 0 := by omega
  unfold f_X7_derives
  refine loopU (S := St) (fun t k s => f_X7_derives_L3 k1 (nI n) (nI bx) (nI b) Q _ t k s) bx (fun k s => chg [k1] [] u s ∧ ∀ i, i + k ≤ n → s k1 i = nI (F i * ffN (n - i) k % p)) ?_ ?_ 0 (Nat.zero_le _) u ⟨chg_rf _ _ _, fun i hi => by rw [hR i (by omega)]; show _ = nI (F i * 1 % p); rw [Nat.mul_one, Nat.mod_eq_of_lt (hF i)]⟩
  · rintro t k s hkb ⟨c1, c2⟩ kk
    show f_X7_derives_L3_s _ _ _ _ _ _ _ _ _
    unfold f_X7_derives_L3_s
    refine ⟨fun c => absurd c (nI_ge hkb (by omega)), fun _ => ?_⟩
    refine loopU (S := St) (fun t' i s' => f_X7_derives_L12 k1 (nI n) (nI bx) (nI b) (nI k) Q _ t' i s') (n - k + 1) (fun i s' => chg [k1] [] u s' ∧ (∀ i', i' < i → i' + (k + 1) ≤ n → s' k1 i' = nI (F i' * ffN (n - i') (k + 1) % p)) ∧ ∀ i', i ≤ i' → i' + k ≤ n → s' k1 i' = nI (F i' * ffN (n - i') k % p)) ?_ ?_ 0 (Nat.zero_le _) s ⟨c1, fun i' hi => absurd hi (Nat.not_lt_zero _), fun i' _ hi => c2 i' hi⟩
    · rintro t' i s' hi ⟨d1, d2, d3⟩ kk2
      show f_X7_derives_L12_s _ _ _ _ _ _ _ _ _ _
      unfold f_X7_derives_L12_s
      rw [pk_sub (by omega), h5]
      refine ⟨fun c => absurd ((nI_ltI (by omega) (by omega)).mp c) (by omega), fun _ => rdM (by omega) (by omega) ?_⟩
      rw [d3 i (Nat.le_refl _) (by omega), pk_sub (by omega), pk_mul]
      have hml := Nat.mod_lt (F i * ffN (n - i) k) (show p > 0 by omega)
      have hm : F i * ffN (n - i) k % p * (n - k - i) ≤ 5 * 4 := Nat.mul_le_mul (by omega) (by omega)
      refine mmod_n (d1.mp hp (by simp)) rfl (by omega) ?_
      have he : F i * ffN (n - i) k % p * (n - k - i) % p = F i * ffN (n - i) (k + 1) % p := by
        show _ = F i * (ffN (n - i) k * (n - i - k)) % p
        rw [← Nat.mul_assoc, Nat.mul_mod, Nat.mod_mod, ← Nat.mul_mod, show n - k - i = n - i - k by omega]
      rw [he]
      refine wrM (by omega) (by omega) ?_
      intro v7 e7
      rw [nI_1] at e7
      subst e7
      refine kk2 _ ⟨chg_tsu d1 (by simp) hk0, fun i' hi' hi2 => ?_, fun i' hi' hi2 => ?_⟩
      · rw [su_sa, sa_k]
        by_cases e : i' = i
        · subst e; rw [upd_in]
        · rw [upd_ne _ _ e]; exact d2 i' (by omega) hi2
      · rw [su_sa, sa_k, upd_ne _ _ (by omega)]; exact d3 i' (by omega) hi2
    · rintro t' s' ⟨d1, d2, d3⟩
      show f_X7_derives_L12_s _ _ _ _ _ _ _ _ _ _
      unfold f_X7_derives_L12_s
      rw [pk_sub (by omega)]
      refine ⟨fun _ v10 e10 => ?_, fun c => absurd ((nI_ltI (by omega) (by omega)).mpr (by omega)) c⟩
      rw [nI_1] at e10
      subst e10
      exact kk _ ⟨d1, fun i hi => d2 i (by omega) hi⟩
  · rintro t s ⟨c1, c2⟩
    show f_X7_derives_L3_s _ _ _ _ _ _ _ _ _
    unfold f_X7_derives_L3_s
    refine ⟨fun _ => ?_, fun c => absurd (nI_le (Nat.le_refl _) (by omega)) c⟩
    refine loopU (S := St) (fun t k s => f_X7_derives_L56 k1 (nI n) (nI bx) (nI b) Q _ t k s) b (fun k s => chg [k1] [] u s ∧ ∀ j, j + k + bx ≤ n → s k1 j = nI (F (j + k) * ffN (n - (j + k)) bx * ffN (j + k) k % p)) ?_ ?_ 0 (Nat.zero_le _) s ⟨c1, fun j hj => by rw [c2 j (by omega)]; show _ = nI (F j * ffN (n - j) bx * 1 % p); rw [Nat.mul_one]⟩
    · rintro t k s hkb ⟨c1, c2⟩ kk
      show f_X7_derives_L56_s _ _ _ _ _ _ _ _ _
      unfold f_X7_derives_L56_s
      refine ⟨fun c => absurd c (nI_ge hkb (by omega)), fun _ => ?_⟩
      refine loopU (S := St) (fun t' i s' => f_X7_derives_L66 k1 (nI n) (nI bx) (nI b) (nI k) Q _ t' i s') (n - bx - k) (fun i s' => chg [k1] [] u s' ∧ (∀ j, j < i → j + (k + 1) + bx ≤ n → s' k1 j = nI (F (j + (k + 1)) * ffN (n - (j + (k + 1))) bx * ffN (j + (k + 1)) (k + 1) % p)) ∧ ∀ j, i ≤ j → j + k + bx ≤ n → s' k1 j = nI (F (j + k) * ffN (n - (j + k)) bx * ffN (j + k) k % p)) ?_ ?_ 0 (Nat.zero_le _) s ⟨c1, fun i' hi => absurd hi (Nat.not_lt_zero _), fun j _ hj => c2 j hj⟩
      · rintro t' i s' hi ⟨d1, d2, d3⟩ kk2
        show f_X7_derives_L66_s _ _ _ _ _ _ _ _ _ _
        unfold f_X7_derives_L66_s
        rw [pk_sub (by omega), pk_sub (by omega), h5, ad1 i]
        refine ⟨fun c => absurd c (nI_ge hi (by omega)), fun _ => rdM (by omega) (by omega) ?_⟩
        rw [d3 (i + 1) (by omega) (by omega), pk_mul]
        have hml := Nat.mod_lt (F (i + 1 + k) * ffN (n - (i + 1 + k)) bx * ffN (i + 1 + k) k) (show p > 0 by omega)
        have hm : F (i + 1 + k) * ffN (n - (i + 1 + k)) bx * ffN (i + 1 + k) k % p * (i + 1) ≤ 5 * 5 := Nat.mul_le_mul (by omega) (by omega)
        refine mmod_n (d1.mp hp (by simp)) rfl (by omega) ?_
        have he : F (i + 1 + k) * ffN (n - (i + 1 + k)) bx * ffN (i + 1 + k) k % p * (i + 1) % p = F (i + (k + 1)) * ffN (n - (i + (k + 1))) bx * ffN (i + (k + 1)) (k + 1) % p := by
          show _ = F (i + (k + 1)) * ffN (n - (i + (k + 1))) bx * (ffN (i + (k + 1)) k * (i + (k + 1) - k)) % p
          rw [← Nat.mul_assoc, show i + (k + 1) - k = i + 1 by omega, show i + (k + 1) = i + 1 + k by omega, Nat.mul_mod, Nat.mod_mod, ← Nat.mul_mod]
        rw [he]
        refine wrM (by omega) (by omega) ?_
        intro v7 e7
        subst e7
        refine kk2 _ ⟨chg_tsu d1 (by simp) hk0, fun i' hi' hi2 => ?_, fun i' hi' hi2 => ?_⟩
        · rw [su_sa, sa_k]
          by_cases e : i' = i
          · subst e; rw [upd_in]
          · rw [upd_ne _ _ e]; exact d2 i' (by omega) hi2
        · rw [su_sa, sa_k, upd_ne _ _ (by omega)]; exact d3 i' (by omega) hi2
      · rintro t' s' ⟨d1, d2, d3⟩
        show f_X7_derives_L66_s _ _ _ _ _ _ _ _ _ _
        unfold f_X7_derives_L66_s
        rw [pk_sub (by omega), pk_sub (by omega)]
        refine ⟨fun _ v10 e10 => ?_, fun c => absurd (nI_le (Nat.le_refl _) (by omega)) c⟩
        rw [nI_1] at e10
        subst e10
        exact kk _ ⟨d1, fun j hj => d2 j (by omega) hj⟩
    · rintro t s ⟨c1, c2⟩
      show f_X7_derives_L56_s _ _ _ _ _ _ _ _ _
      unfold f_X7_derives_L56_s
      refine ⟨fun _ => h s c1 (fun j hj => ?_), fun c => absurd (nI_le (Nat.le_refl _) (by omega)) c⟩
      rw [c2 j hj]
      unfold dr
      rw [Nat.mul_assoc]
theorem mchoose_ok {k i : Nat} {u : St} {Q : Int32 → St → Prop} (hk : k ≤ 4) (hi : i ≤ k) (h : Q (nI (ch k i)) u) : f_X7_choose (nI k) (nI i) u Q := by
  unfold f_X7_choose
  refine loopU2 (fun m j a s => f_X7_choose_L4 (nI k) (nI i) Q (fun v5 u6 => Q v5 u6) m a j s) i (fun j a s => s = u ∧ a = nI (ch k j)) ?_ ?_ 0 (Nat.zero_le _) 1 u ⟨rfl, rfl⟩
  · rintro m j a s hj ⟨rfl, rfl⟩ kk
    show f_X7_choose_L4_s _ _ _ _ _ _ _ _
    unfold f_X7_choose_L4_s
    rw [nI_1]
    refine ⟨fun c => absurd c (nI_ge hj (by omega)), fun _ => ⟨nI_ne0 (by omega) (by omega), fun v2 e2 v3 e3 => ?_⟩⟩
    have hcl := ch_le k (by omega) j (by omega)
    have hm : ch k j * (k - j) ≤ 6 * 5 := Nat.mul_le_mul hcl (by omega)
    rw [pk_sub (by omega), pk_mul, pk_div (by omega) (by omega) (by omega)] at e2
    subst e2 e3
    exact kk _ _ ⟨rfl, rfl⟩
  · rintro m a s ⟨rfl, rfl⟩
    show f_X7_choose_L4_s _ _ _ _ _ _ _ _
    unfold f_X7_choose_L4_s
    exact ⟨fun _ => h, fun c => absurd (nI_le (Nat.le_refl _) (by omega)) c⟩
theorem sg_ext {f : Nat → Int} {n : Nat} : ∀ {m : Nat}, n ≤ m → (∀ i, n ≤ i → i < m → f i = 0) → sg f m = sg f n
  | 0, h, _ => by
    have : n = 0 := by omega
    subst this; rfl
  | m + 1, h, h2 => by
    by_cases e : n = m + 1
    · subst e; rfl
    · show sg f m + f m = _
      rw [h2 m (by omega) (by omega), Int.add_zero, sg_ext (m := m) (by omega) (fun i a b => h2 i a (by omega))]
/-- a place of a product, by one sum -/
def cv1 (m n : Nat) (A B : Nat → Nat) (e a : Nat) : Int := if a ≤ m ∧ a ≤ e ∧ e - a ≤ n then (A a : Int) * (B (e - a) : Int) else 0
theorem cvv_one (m n : Nat) (A B : Nat → Nat) (e : Nat) : cvv m n A B e = sg (cv1 m n A B e) (e + 1) := by
  have h1 : cvv m n A B e = sg (cv1 m n A B e) (m + 1) := by
    refine sg_cong (fun i hi => ?_)
    unfold cv1
    by_cases c : i ≤ e ∧ e - i ≤ n
    · rw [if_pos ⟨by omega, c.1, c.2⟩]
      rw [sg_one (i := e - i) (by omega) (fun j hj hne => if_neg (by omega))]
      rw [if_pos (by omega)]
    · rw [if_neg (fun q => c q.2)]
      exact sg_zero (fun j hj => if_neg (by omega))
  rw [h1, ← sg_ext (f := cv1 m n A B e) (n := m + 1) (m := m + e + 2) (by omega) (fun i a b => if_neg (by omega)), ← sg_ext (f := cv1 m n A B e) (n := e + 1) (m := m + e + 2) (by omega) (fun i a b => if_neg (by omega))]
theorem l217_ok {p m n e : Nat} {A B : Nat → Nat} {s0 W : Int} {x a1 a2 a3 a6 : Int32} {u : St} {Q : Int32 → St → Prop} {K : St → Prop} (hp : MP u p) (hmn : m + n ≤ 4) (he : e ≤ m + n) (hx : x = iI s0) (hs1 : -10 ≤ s0) (hs2 : s0 ≤ 10) (hA : ∀ j, j ≤ m → u 8 j = nI (A j)) (hB : ∀ j, j ≤ n → u 9 j = nI (B j)) (hAp : ∀ j, A j < p) (hBp : ∀ j, B j < p) (hW : u 10 e = iI W)
    (h : ∀ v W', chg [10] [] u v → (∀ e', e' ≠ e → v 10 e' = u 10 e') → v 10 e = iI W' → W ≤ W' → W' ≤ W + 25 → mq p W' (W + s0 * cvv m n A B e) → K v) : ∃ k, f_X7_transvected_L217 a1 a2 a3 (nI m) (nI n) a6 x (nI e) Q K k 0 u := by
  have hb := isP_b hp.2
  refine loopU (S := St) (fun k a s => f_X7_transvected_L217 a1 a2 a3 (nI m) (nI n) a6 x (nI e) Q K k a s) (e + 1) (fun a s => chg [10] [] u s ∧ (∀ e', e' ≠ e → s 10 e' = u 10 e') ∧ ∃ W', s 10 e = iI W' ∧ W ≤ W' ∧ W' ≤ W + 4 * a ∧ mq p W' (W + s0 * sg (cv1 m n A B e) a)) ?_ ?_ 0 (Nat.zero_le _) u ⟨chg_rf _ _ _, fun _ _ => rfl, W, hW, by omega, by omega, by show mq p W (W + s0 * 0); rw [Int.mul_zero, Int.add_zero]; exact mq_rf _ _⟩
  · rintro k a s ha ⟨c1, c2, W', c3, c4, c5, c6⟩ kk
    show f_X7_transvected_L217_s _ _ _ _ _ _ _ _ _ _ _ _ _
    unfold f_X7_transvected_L217_s
    refine ⟨fun c => absurd ((nI_ltI (by omega) (by omega)).mp c) (by omega), fun _ => rdM (by omega) (by omega) ?_⟩
    rw [c3, pk_sub (by omega)]
    have fin : ∀ z : Int, 0 ≤ z → z ≤ 4 → mq p z (s0 * cv1 m n A B e a) → (vp_in (nI e) 9 ∧ ∀ u52 : St, u52 = su s 10 (nI e).toNatClampNeg (iI W' + iI z) → (∀ v53 : Int32, v53 = nI a + 1 → f_X7_transvected_L217 a1 a2 a3 (nI m) (nI n) a6 x (nI e) Q K k v53 u52)) := by
      intro z z1 z2 z3
      refine wrM (by omega) (by omega) ?_
      intro v53 e53
      rw [nI_1] at e53
      subst e53
      refine kk _ ⟨chg_tsu c1 (by decide) (by decide), fun e' he' => ?_, W' + z, ?_, by omega, by omega, ?_⟩
      · rw [su_sa, sa_k, upd_ne _ _ he']; exact c2 e' he'
      · rw [su_sa, sa_k, upd_in, iI_add]
      · show mq p (W' + z) (W + s0 * (sg (cv1 m n A B e) a + cv1 m n A B e a))
        rw [Int.mul_add, ← Int.add_assoc]
        exact mq_add c6 z3
    have nul0 : ¬ (a ≤ m ∧ a ≤ e ∧ e - a ≤ n) → (vp_in (nI e) 9 ∧ ∀ u52 : St, u52 = su s 10 (nI e).toNatClampNeg (iI W' + 0) → (∀ v53 : Int32, v53 = nI a + 1 → f_X7_transvected_L217 a1 a2 a3 (nI m) (nI n) a6 x (nI e) Q K k v53 u52)) := by
      intro q
      refine fin 0 (by omega) (by omega) ?_
      unfold cv1
      rw [if_neg q, Int.mul_zero]
      exact mq_rf _ _
    refine ⟨fun c => nul0 (fun q => ?_), fun c => ⟨fun c2' => nul0 (fun q => ?_), fun c2' => ?_⟩⟩
    · have := (nI_ltI (by omega) (by omega)).mp c
      omega
    · have := (nI_ltI (by omega) (by omega)).mp c2'
      omega
    · have q1 : a ≤ m := Nat.le_of_not_lt (fun q => c ((nI_ltI (by omega) (by omega)).mpr q))
      have q2 : e - a ≤ n := Nat.le_of_not_lt (fun q => c2' ((nI_ltI (by omega) (by omega)).mpr q))
      refine rdM (by omega) (by omega) (rdM (by omega) (by omega) ?_)
      rw [c1.2 8 (by decide) (by decide), c1.2 9 (by decide) (by decide), hA a q1, hB (e - a) q2, hx]
      have hAi := hAp a
      have hBj := hBp (e - a)
      have z2 : -50 ≤ s0 * (A a : Int) ∧ s0 * (A a : Int) ≤ 50 := by
        have : (A a : Int) = 0 ∨ (A a : Int) = 1 ∨ (A a : Int) = 2 ∨ (A a : Int) = 3 ∨ (A a : Int) = 4 := by omega
        rcases this with q | q | q | q | q <;> rw [q] <;> omega
      have z3 : -250 ≤ s0 * (A a : Int) * (B (e - a) : Int) ∧ s0 * (A a : Int) * (B (e - a) : Int) ≤ 250 := by
        have : (B (e - a) : Int) = 0 ∨ (B (e - a) : Int) = 1 ∨ (B (e - a) : Int) = 2 ∨ (B (e - a) : Int) = 3 ∨ (B (e - a) : Int) = 4 := by omega
        rcases this with q | q | q | q | q <;> rw [q] <;> omega
      refine mmod_ok (c1.mp hp (by decide)) (z := s0 * (A a : Int) * (B (e - a) : Int)) (by rw [iI_n, iI_n, iI_mul, iI_mul]) (by omega) (by omega) ?_
      have z4 := emod_b hp.2 (s0 * (A a : Int) * (B (e - a) : Int))
      rw [← hx]
      refine fin _ z4.1 (by omega) ?_
      unfold cv1
      rw [if_pos ⟨q1, by omega, q2⟩, ← Int.mul_assoc]
      exact mq_mod _ _
  · rintro k s ⟨c1, c2, W', c3, c4, c5, c6⟩
    show f_X7_transvected_L217_s _ _ _ _ _ _ _ _ _ _ _ _ _
    unfold f_X7_transvected_L217_s
    refine ⟨fun _ => h s W' c1 c2 c3 c4 (by omega) (by rw [cvv_one]; exact c6), fun c => absurd ((nI_ltI (by omega) (by omega)).mpr (by omega)) c⟩
theorem l204_ok {p m n : Nat} {A B : Nat → Nat} {s0 : Int} {W : Nat → Int} {x a1 a2 a3 a6 : Int32} {u : St} {Q : Int32 → St → Prop} {K : St → Prop} (hp : MP u p) (hmn : m + n ≤ 4) (hx : x = iI s0) (hs1 : -10 ≤ s0) (hs2 : s0 ≤ 10) (hA : ∀ j, j ≤ m → u 8 j = nI (A j)) (hB : ∀ j, j ≤ n → u 9 j = nI (B j)) (hAp : ∀ j, A j < p) (hBp : ∀ j, B j < p) (hW : ∀ e, e ≤ m + n → u 10 e = iI (W e))
    (h : ∀ v (W' : Nat → Int), chg [10] [] u v → (∀ e, e ≤ m + n → v 10 e = iI (W' e) ∧ W e ≤ W' e ∧ W' e ≤ W e + 25 ∧ mq p (W' e) (W e + s0 * cvv m n A B e)) → K v) : ∃ k, f_X7_transvected_L204 a1 a2 a3 (nI m) (nI n) a6 x Q K k 0 u := by
  refine loopU (S := St) (fun k e s => f_X7_transvected_L204 a1 a2 a3 (nI m) (nI n) a6 x Q K k e s) (m + n + 1) (fun e s => chg [10] [] u s ∧ (∀ e', e ≤ e' → s 10 e' = u 10 e') ∧ ∃ W' : Nat → Int, ∀ e', e' < e → s 10 e' = iI (W' e') ∧ W e' ≤ W' e' ∧ W' e' ≤ W e' + 25 ∧ mq p (W' e') (W e' + s0 * cvv m n A B e')) ?_ ?_ 0 (Nat.zero_le _) u ⟨chg_rf _ _ _, fun _ _ => rfl, fun _ => 0, fun e' he => absurd he (Nat.not_lt_zero _)⟩
  · rintro k e s he ⟨c1, c2, W', c3⟩ kk
    show f_X7_transvected_L204_s _ _ _ _ _ _ _ _ _ _ _ _
    unfold f_X7_transvected_L204_s
    rw [nI_add]
    refine ⟨fun c => absurd ((nI_ltI (by omega) (by omega)).mp c) (by omega), fun _ => ?_⟩
    refine l217_ok (A := A) (B := B) (W := W e) (c1.mp hp (by decide)) hmn (by omega) hx hs1 hs2 (fun j hj => by rw [c1.2 8 (by decide) (by decide)]; exact hA j hj) (fun j hj => by rw [c1.2 9 (by decide) (by decide)]; exact hB j hj) hAp hBp (by rw [c2 e (Nat.le_refl _)]; exact hW e (by omega)) ?_
    intro v w cv v1 v2 v3 v4 v5 v65 e65
    rw [nI_1] at e65
    subst e65
    refine kk _ ⟨c1.tr cv, fun e' he' => by rw [v1 e' (by omega)]; exact c2 e' (by omega), fun e' => if e' = e then w else W' e', fun e' he' => ?_⟩
    by_cases q : e' = e
    · subst q
      dsimp only
      rw [if_pos rfl]
      exact ⟨v2, v3, v4, v5⟩
    · dsimp only
      rw [if_neg q, v1 e' q]
      exact c3 e' (by omega)
  · rintro k s ⟨c1, c2, W', c3⟩
    show f_X7_transvected_L204_s _ _ _ _ _ _ _ _ _ _ _ _
    unfold f_X7_transvected_L204_s
    rw [nI_add]
    exact ⟨fun _ => h s W' c1 (fun e he => c3 e (by omega)), fun c => absurd ((nI_ltI (by omega) (by omega)).mpr (by omega)) c⟩
theorem l56_ok {p ng nf f g : Nat} {M D C : Nat → Nat} {a3 a4 a5 a6 : Int32} {s : St} {Q : Int32 → St → Prop} {K : St → Prop} (hC : MI p ng M nf D C s) (hf : f < nf) (hg : g < nf)
    (h : ∀ v, chg [8, 9] [] s v → (∀ e, e < 5 → v 8 e = nI (dg p (C f) e) ∧ v 9 e = nI (dg p (C g) e)) → K v) : ∃ n, f_X7_transvected_L56 (nI f) (nI g) a3 a4 a5 a6 Q K n 0 s := by
  have b1 := hC.f hf
  have b2 := hC.f hg
  have hb := isP_b hC.1.2
  have hz1 : ∀ e, D f < e → dg p (C f) e = 0 := fun e he => dg_big (n := D f + 1) b1.2.1 (by omega) (by omega)
  have hz2 : ∀ e, D g < e → dg p (C g) e = 0 := fun e he => dg_big (n := D g + 1) b2.2.1 (by omega) (by omega)
  refine loopU (S := St) (fun t' e s' => f_X7_transvected_L56 (nI f) (nI g) a3 a4 a5 a6 Q K t' e s') 5 (fun e s' => chg [8, 9] [] s s' ∧ ∀ e', e' < e → s' 8 e' = nI (dg p (C f) e') ∧ s' 9 e' = nI (dg p (C g) e')) ?_ ?_ 0 (Nat.zero_le _) s ⟨chg_rf _ _ _, fun e' he => absurd he (Nat.not_lt_zero _)⟩
  · rintro t' e s' he ⟨d1, d2⟩ kk2
    show f_X7_transvected_L56_s _ _ _ _ _ _ _ _ _ _ _
    unfold f_X7_transvected_L56_s
    refine ⟨fun c => absurd (show nI 5 ≤ nI e from c) (nI_ge he (by omega)), fun _ => ?_⟩
    have hs' : MI p ng M nf D C s' := hC.chg (d1.wk (by decide) (by decide))
    have fin : ∀ (y : St) (z : Int32), y = su s' 8 e (nI (dg p (C f) e)) → z = nI (dg p (C g) e) → ∀ v18 : Int32, v18 = nI e + 1 → f_X7_transvected_L56 (nI f) (nI g) a3 a4 a5 a6 Q K t' v18 (su y 9 e z) := by
      intro y z ey ez v18 e18
      rw [nI_1] at e18
      subst ey ez e18
      refine kk2 _ ⟨chg_tsu (chg_tsu d1 (by decide) (by decide)) (by decide) (by decide), fun e' he' => ?_⟩
      rw [su_n _ _ _ (by decide), su_sa, sa_k, su_sa, sa_k, sa_n _ _ (by decide)]
      by_cases q : e' = e
      · subst q; rw [upd_in, upd_in]; exact ⟨rfl, rfl⟩
      · rw [upd_ne _ _ q, upd_ne _ _ q]; exact d2 e' (by omega)
    refine mrdD hs' hf ⟨fun c => ?_, fun c => ?_⟩
    · have c0 := hz1 e ((nI_ltI (by omega) (by omega)).mp c)
      refine wrM he (by omega) ?_
      have hy : su s' 8 e 0 = su s' 8 e (nI (dg p (C f) e)) := by rw [c0]; rfl
      have hM : MI p ng M nf D C (su s' 8 e 0) := hs'.chg (chg_tsu (chg_rf _ _ _) (by decide) (by decide))
      refine mrdD hM hg ⟨fun c' => wrM he (by omega) (fin _ _ hy (by rw [hz2 e ((nI_ltI (by omega) (by omega)).mp c')]; rfl)), fun _ => mrdC hM hg (fig_ok hM.1 (by omega) (by omega) (wrM he (by omega) (fin _ _ hy rfl)))⟩
    · refine mrdC hs' hf (fig_ok hs'.1 (by omega) (by omega) (wrM he (by omega) ?_))
      have hM : MI p ng M nf D C (su s' 8 e (nI (dg p (C f) e))) := hs'.chg (chg_tsu (chg_rf _ _ _) (by decide) (by decide))
      refine mrdD hM hg ⟨fun c' => wrM he (by omega) (fin _ _ rfl (by rw [hz2 e ((nI_ltI (by omega) (by omega)).mp c')]; rfl)), fun _ => mrdC hM hg (fig_ok hM.1 (by omega) (by omega) (wrM he (by omega) (fin _ _ rfl rfl)))⟩
  · rintro t' s' ⟨d1, d2⟩
    show f_X7_transvected_L56_s _ _ _ _ _ _ _ _ _ _ _
    unfold f_X7_transvected_L56_s
    exact ⟨fun _ => h s' d1 d2, fun c => absurd (nI_le (Nat.le_refl 5) (by omega)) c⟩
theorem mtrans_ok {p ng nf f g k : Nat} {M D C : Nat → Nat} {u : St} {Q : Int32 → St → Prop} (hC : MI p ng M nf D C u) (hf : f < nf) (hg : g < nf) (hk1 : k ≤ D f) (hk2 : k ≤ D g) (hs : D f - k + (D g - k) ≤ 4)
    (h : ∀ v, chg [8, 9, 10] [] u v → Q (nI (trC p (D f) (D g) k (dg p (C f)) (dg p (C g)))) v) : f_X7_transvected (nI f) (nI g) (nI k) u Q := by
  have b1 := hC.f hf
  have b2 := hC.f hg
  have hp := hC.1
  have hb := isP_b hp.2
  have w3 : ∀ {v : St}, chg [8, 9, 10] [] u v → MI p ng M nf D C v := fun c => hC.chg (c.wk (by decide) (by decide))
  have hz1 : ∀ e, D f < e → dg p (C f) e = 0 := fun e he => dg_big (n := D f + 1) b1.2.1 (by omega) (by omega)
  have hz2 : ∀ e, D g < e → dg p (C g) e = 0 := fun e he => dg_big (n := D g + 1) b2.2.1 (by omega) (by omega)
  unfold f_X7_transvected
  refine mrdD hC hf ?_
  intro v2 e2
  rw [pk_sub hk1] at e2
  subst e2
  refine mrdD hC hg ?_
  intro v4 e4
  rw [pk_sub hk2] at e4
  subst e4
  refine loopU (S := St) (fun m i s => f_X7_transvected_L23 (nI f) (nI g) (nI k) (nI (D f - k)) (nI (D g - k)) Q _ m i s) 9 (fun i s => chg [8, 9, 10] [] u s ∧ ∀ e, e < i → s 10 e = 0) ?_ ?_ 0 (Nat.zero_le _) u ⟨chg_rf _ _ _, fun e he => absurd he (Nat.not_lt_zero _)⟩
  · rintro m i s hi ⟨c1, c2⟩ kk
    show f_X7_transvected_L23_s _ _ _ _ _ _ _ _ _ _
    unfold f_X7_transvected_L23_s
    refine ⟨fun c => absurd (show nI 9 ≤ nI i from c) (nI_ge hi (by omega)), fun _ => wrM hi (by omega) ?_⟩
    intro v7 e7
    rw [nI_1] at e7
    subst e7
    refine kk _ ⟨chg_tsu c1 (by decide) (by decide), fun e he => ?_⟩
    rw [su_sa, sa_k]
    by_cases q : e = i
    · subst q; rw [upd_in]
    · rw [upd_ne _ _ q]; exact c2 e (by omega)
  · rintro m s ⟨c1, c2⟩
    show f_X7_transvected_L23_s _ _ _ _ _ _ _ _ _ _
    unfold f_X7_transvected_L23_s
    refine ⟨fun _ => ?_, fun c => absurd (nI_le (Nat.le_refl 9) (by omega)) c⟩
    refine loopU (S := St) (fun m i s => f_X7_transvected_L47 (nI f) (nI g) (nI k) (nI (D f - k)) (nI (D g - k)) Q _ m i s) (k + 1) (fun i s => chg [8, 9, 10] [] u s ∧ ∃ W : Nat → Int, ∀ e, e ≤ D f - k + (D g - k) → s 10 e = iI (W e) ∧ 0 ≤ W e ∧ W e ≤ 25 * i ∧ mq p (W e) (sg (fun i => sgn i * (ch k i : Int) * cvv (D f - k) (D g - k) (dr p (D f) (k - i) i (dg p (C f))) (dr p (D g) i (k - i) (dg p (C g))) e) i)) ?_ ?_ 0 (Nat.zero_le _) s ⟨c1, fun _ => 0, fun e he => ⟨c2 e (by omega), Int.le_refl (0 : Int), Int.le_refl (0 : Int), mq_rf _ _⟩⟩
    · rintro t i s hi ⟨c1, W, cW⟩ kk
      show f_X7_transvected_L47_s _ _ _ _ _ _ _ _ _ _
      unfold f_X7_transvected_L47_s
      refine ⟨fun c => absurd ((nI_ltI (by omega) (by omega)).mp c) (by omega), fun _ => ?_⟩
      refine l56_ok (w3 c1) hf hg ?_
      intro s' d1 d2
      have c1' : chg [8, 9, 10] [] u s' := c1.tr (d1.wk (by decide) (by decide))
      refine mrdD (w3 c1') hf ?_
      rw [pk_sub (by omega)]
      refine mderives_ok (F := dg p (C f)) (w3 c1').1 (Or.inl rfl) b1.1.2 (by omega) (fun j => dg_lt (by omega) _ _) (fun j hj => (d2 j (by omega)).1) ?_
      intro v cv rv
      have cv' : chg [8, 9, 10] [] u v := c1'.tr (cv.wk (by decide) (by decide))
      refine mrdD (w3 cv') hg ?_
      refine mderives_ok (F := dg p (C g)) (w3 cv').1 (Or.inr rfl) b2.1.2 (by omega) (fun j => dg_lt (by omega) _ _) (fun j hj => by rw [cv.2 9 (by decide) (by decide)]; exact (d2 j (by omega)).2) ?_
      intro w cw rw_ v43 e43
      have cw' : chg [8, 9, 10] [] u w := cv'.tr (cw.wk (by decide) (by decide))
      rw [two_odd i (by omega)] at e43
      have hchl := ch_le k (by omega) i (by omega)
      have hw10 : ∀ e, e ≤ D f - k + (D g - k) → w 10 e = iI (W e) := fun e he => by
        rw [cw.2 10 (by decide) (by decide), cv.2 10 (by decide) (by decide), d1.2 10 (by decide) (by decide)]; exact (cW e he).1
      have go : ∀ (x : Int32), x = iI (sgn i * (ch k i : Int)) → ∃ n66, f_X7_transvected_L204 (nI f) (nI g) (nI k) (nI (D f - k)) (nI (D g - k)) (nI i) x Q (fun u67 => (∀ v68 : Int32, v68 = nI i + 1 → f_X7_transvected_L47 (nI f) (nI g) (nI k) (nI (D f - k)) (nI (D g - k)) Q (fun u75 => ∀ v76 : Int32, v76 = nI (D f - k) + nI (D g - k) → ∃ n83, f_X7_transvected_L308 Q (fun v84 u85 => Q v84 u85) n83 0 v76 u75) t v68 u67)) n66 0 w := by
        intro x hx
        have hsg : -10 ≤ sgn i * (ch k i : Int) ∧ sgn i * (ch k i : Int) ≤ 10 := by
          unfold sgn
          split <;> omega
        refine l204_ok (A := dr p (D f) (k - i) i (dg p (C f))) (B := dr p (D g) i (k - i) (dg p (C g))) (W := W) (w3 cw').1 hs hx hsg.1 hsg.2 (fun j hj => by rw [cw.2 8 (by decide) (by decide)]; exact rv j (by omega)) (fun j hj => rw_ j (by omega)) (fun j => dr_lt (by omega) _ _ _ _ _) (fun j => dr_lt (by omega) _ _ _ _ _) hw10 ?_
        intro y W' cy ry v68 e68
        rw [nI_1] at e68
        subst e68
        refine kk _ ⟨cw'.tr (cy.wk (by decide) (by decide)), W', fun e he => ?_⟩
        obtain ⟨r1, r2, r3, r4⟩ := ry e he
        obtain ⟨x1, x2, x3, x4⟩ := cW e he
        exact ⟨r1, by omega, by omega, mq_tr r4 (mq_add x4 (mq_rf _ _))⟩
      refine ⟨fun q => mchoose_ok (by omega) (by omega) ?_, fun q => mchoose_ok (by omega) (by omega) ?_⟩
      · intro v47 e47
        rw [iI_n, iI_neg] at e47
        refine go v47 ?_
        rw [e47]
        unfold sgn
        rw [if_neg (fun e => q (by rw [e43, if_pos e])), Int.neg_mul, Int.one_mul]
      · refine go _ ?_
        rw [iI_n]
        unfold sgn
        rw [if_pos (Classical.byContradiction (fun e => by rw [e43, if_neg e] at q; exact absurd q (by decide))), Int.one_mul]
    · rintro t s ⟨c1, W, cW⟩
      show f_X7_transvected_L47_s _ _ _ _ _ _ _ _ _ _
      unfold f_X7_transvected_L47_s
      refine ⟨fun _ => ?_, fun c => absurd ((nI_ltI (by omega) (by omega)).mpr (by omega)) c⟩
      intro v76 e76
      rw [nI_add] at e76
      subst e76
      have hlp := loopD2 (fun t i a s' => f_X7_transvected_L308 Q (fun v84 u85 => Q v84 u85) t a i s') (fun i a s' => i ≤ D f - k + (D g - k) + 1 ∧ a = nI (cod p (fun j => (trZ p (D f) (D g) k (dg p (C f)) (dg p (C g)) (i + j) % p).toNat) (D f - k + (D g - k) + 1 - i)) ∧ s' = s) ?_ ?_ (D f - k + (D g - k) + 1) 0 s ?_
      · rw [dI_s] at hlp; exact hlp
      · rintro t i a s' ⟨hi, rfl, rfl⟩ kk
        show f_X7_transvected_L308_s _ _ _ _ _ _
        unfold f_X7_transvected_L308_s
        rw [dI_s]
        refine ⟨fun c => absurd c (nI_pos (by omega)), fun _ => rdM (by omega) (by omega) ?_⟩
        obtain ⟨x1, x2, x3, x4⟩ := cW i (by omega)
        rw [x1]
        refine mmod_ok (w3 c1).1 rfl (by omega) (by omega) ?_
        have hx4 : W i % p = trZ p (D f) (D g) k (dg p (C f)) (dg p (C g)) i % p := mq_iff.mp x4
        rw [hx4, iI_nn (Int.emod_nonneg _ (by omega)), (w3 c1).1.1]
        intro v13 e13 v14 e14
        rw [pk_mul, nI_add] at e13
        rw [nI_d] at e14
        subst e13 e14
        refine kk _ _ ⟨by omega, ?_, rfl⟩
        have e : D f - k + (D g - k) + 1 - i = (D f - k + (D g - k) + 1 - (i + 1)) + 1 := by omega
        rw [e, cod]
        have e2 : (fun j => (trZ p (D f) (D g) k (dg p (C f)) (dg p (C g)) (i + (j + 1)) % (p : Int)).toNat) = (fun j => (trZ p (D f) (D g) k (dg p (C f)) (dg p (C g)) (i + 1 + j) % (p : Int)).toNat) := by funext j; congr 3; omega
        show nI _ = nI ((trZ p (D f) (D g) k (dg p (C f)) (dg p (C g)) (i + 0) % (p : Int)).toNat + p * cod p (fun j => (trZ p (D f) (D g) k (dg p (C f)) (dg p (C g)) (i + (j + 1)) % (p : Int)).toNat) (D f - k + (D g - k) + 1 - (i + 1)))
        rw [e2, show i + 0 = i from rfl, Nat.add_comm]
      · rintro t a s' ⟨hi, rfl, rfl⟩
        show f_X7_transvected_L308_s _ _ _ _ _ _
        unfold f_X7_transvected_L308_s
        refine ⟨fun _ => ?_, fun c => absurd (show dI 0 < 0 by decide) c⟩
        have e : (fun j => (trZ p (D f) (D g) k (dg p (C f)) (dg p (C g)) (0 + j) % (p : Int)).toNat) = (fun j => (trZ p (D f) (D g) k (dg p (C f)) (dg p (C g)) j % (p : Int)).toNat) := by funext j; rw [Nat.zero_add]
        show Q (nI (cod p (fun j => (trZ p (D f) (D g) k (dg p (C f)) (dg p (C g)) (0 + j) % (p : Int)).toNat) (D f - k + (D g - k) + 1 - 0))) s'
        rw [e, Nat.sub_zero]; exact h s' c1
      · refine ⟨Nat.le_refl _, ?_, rfl⟩
        rw [Nat.sub_self]; rfl
theorem mtransv_ok {p ng nf : Nat} {M D C : Nat → Nat} {a b c : Int32} {u : St} {Q : Int32 → St → Prop} (hC : MI p ng M nf D C u)
    (h1 : ∀ f g k v, f < nf → g < nf → a = nI f → b = nI g → c = nI k → k ≤ D f → k ≤ D g → 1 ≤ D f - k + (D g - k) → D f - k + (D g - k) ≤ 4 → v 0 0 = 0 → MI p ng M nf D C v → Q (nI (trC p (D f) (D g) k (dg p (C f)) (dg p (C g)))) v)
    (h2 : ∀ f g, f < nf → g < nf → a = nI f → b = nI g → (¬ ∃ k, c = nI k ∧ k ≤ D f ∧ k ≤ D g ∧ 1 ≤ D f - k + (D g - k) ∧ D f - k + (D g - k) ≤ 4) → ∀ v, v 0 0 = 2 → MI p ng M nf D C v → Q 0 v)
    (h3 : (¬ ((∃ f, f < nf ∧ a = nI f) ∧ ∃ g, g < nf ∧ b = nI g)) → ∀ v, v 0 0 = 1 → MI p ng M nf D C v → Q 0 v) : f_X7_transvectant a b c u Q := by
  unfold f_X7_transvectant
  refine mform_ok hC (fun f hf e => ⟨fun q => absurd q (by decide), fun _ => ?_⟩) (fun q => ⟨fun _ => hold1 ⟨fun _ => h3 (fun q2 => q q2.1) _ (by rw [su_kk]) (hC.T 1), fun c => absurd rfl c⟩, fun c => absurd rfl c⟩)
  refine mform_ok hC (fun g hg e2 => ⟨fun q => absurd q (by decide), fun _ => ?_⟩) (fun q => ⟨fun _ => hold1 ⟨fun _ => h3 (fun q2 => q q2.2) _ (by rw [su_kk]) (hC.T 1), fun c => absurd rfl c⟩, fun c => absurd rfl c⟩)
  subst e e2
  have b1 := hC.f hf
  have b2 := hC.f hg
  refine ⟨fun q => hold2 ⟨fun _ => h2 f g hf hg rfl rfl ?_ _ (by rw [su_kk]) (hC.T 2), fun c => absurd rfl c⟩, fun q => mrdD hC hf ⟨fun q2 => hold2 ⟨fun _ => h2 f g hf hg rfl rfl ?_ _ (by rw [su_kk]) (hC.T 2), fun c => absurd rfl c⟩, fun q2 => mrdD hC hg ⟨fun q3 => hold2 ⟨fun _ => h2 f g hf hg rfl rfl ?_ _ (by rw [su_kk]) (hC.T 2), fun c => absurd rfl c⟩, fun q3 => ?_⟩⟩⟩
  · rintro ⟨k, rfl, k1, _⟩; exact nI_pos (by omega) q
  · rintro ⟨k, rfl, k1, _⟩
    have := (nI_ltI (by omega) (by omega)).mp q2
    omega
  · rintro ⟨k, rfl, k1, k2, _⟩
    have := (nI_ltI (by omega) (by omega)).mp q3
    omega
  · rcases pk_ix c (n := D f + 1) (by omega) with q4 | q4 | ⟨k, hk, rfl⟩
    · exact absurd q4 q
    · exact absurd (Int32.lt_of_lt_of_le ((nI_ltI (by omega) (by omega)).mpr (by omega)) q4) q2
    · have hk2 : k ≤ D g := Nat.le_of_not_lt (fun q5 => q3 ((nI_ltI (by omega) (by omega)).mpr q5))
      refine mrdD hC hf (mrdD hC hg ?_)
      rw [nI_add, two_mul, pk_sub (by omega)]
      refine mdeg_ok (fun e he1 he4 ee => ?_) (fun q5 => ?_)
      · have := (nI_eq (by omega) (by omega)).mp ee
        refine ⟨fun q5 => absurd q5 (by decide), fun _ => hold0 ⟨fun q5 => absurd q5 (by decide), fun _ => ?_⟩⟩
        refine mtrans_ok (hC.T 0) hf hg (by omega) (by omega) (by omega) ?_
        intro v cv
        exact h1 f g k v hf hg rfl rfl rfl (by omega) (by omega) (by omega) (by omega) (by rw [cv.1 0 (by decide), su_kk]) ((hC.T 0).chg (cv.wk (by decide) (by decide)))
      · refine ⟨fun _ => hold2 ⟨fun _ => h2 f g hf hg rfl rfl ?_ _ (by rw [su_kk]) (hC.T 2), fun c => absurd rfl c⟩, fun q6 => absurd rfl q6⟩
        rintro ⟨k', ek, k1, k2, k3, k4⟩
        have := (nI_eq (by omega) (by omega)).mp ek
        subst this
        exact q5 ⟨D f + D g - 2 * k, by omega, by omega, rfl⟩
