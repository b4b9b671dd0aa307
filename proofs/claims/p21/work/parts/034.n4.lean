/-! columns -/
theorem cell0_ok {al c r : Nat} {u : St} {Q : Int32 → St → Prop} (hc : c ≤ 4) (hr : r ≤ 4) (h : Q (u 13 (5 * c + r)) u) : f_X0_cell al (nI c) (nI r) u Q := by
  unfold f_X0_cell
  rw [show nI c * 5 + nI r = nI (5 * c + r) from by rw [show (5 : Int32) = nI 5 from rfl, pk_mul, nI_add, Nat.mul_comm]]
  exact read_ok (by show 5 * c + r < 25; omega) h
theorem ccode_ok {al p c n : Nat} {f : Nat → Nat} {u : St} {Q : Int32 → St → Prop} (hp : PP u p) (hc : c ≤ 4) (hn : n ≤ 4) (hd : u 0 1 = nI n) (hf : ∀ j, j ≤ n → u 13 (5 * c + j) = nI (f j)) (h : Q (nI (cod p f (n + 1))) u) : f_X0_code al (nI c) u Q := by
  unfold f_X0_code
  intro v1 ev1
  subst ev1
  rw [hd, ← dI_s n]
  refine loopD2 (fun m i a s => f_X0_code_L7 al (nI c) Q (fun v8 u9 => Q v8 u9) m a i s) (fun i a s => i ≤ n + 1 ∧ a = nI (cod p (fun j => f (i + j)) (n + 1 - i)) ∧ s = u) ?_ ?_ (n + 1) 0 u ?_
  · rintro m i a s ⟨hi, rfl, rfl⟩ kk
    show f_X0_code_L7_s _ _ _ _ _ _ _ _
    unfold f_X0_code_L7_s
    try dsimp only
    rw [dI_s]
    refine ⟨fun c => absurd c (nI_pos (by omega)), fun _ => cell0_ok hc (by omega) ?_⟩
    intro v5 ev5 v6 ev6
    rw [hf i (by omega), hp.1, pk_mul, nI_add] at ev5
    subst ev5 ev6
    rw [nI_d]
    refine kk _ _ ⟨by omega, ?_, rfl⟩
    have e : n + 1 - i = (n + 1 - (i + 1)) + 1 := by omega
    rw [e, cod]
    have e2 : (fun j => f (i + (j + 1))) = (fun j => f (i + 1 + j)) := by funext j; congr 1; omega
    show nI _ = nI (f (i + 0) + p * cod p (fun j => f (i + (j + 1))) (n + 1 - (i + 1)))
    rw [e2, show f (i + 0) = f i from rfl, Nat.mul_comm p, Nat.add_comm (f i)]
  · rintro m a s ⟨hi, rfl, rfl⟩
    show f_X0_code_L7_s _ _ _ _ _ _ _ _
    unfold f_X0_code_L7_s
    try dsimp only
    refine ⟨fun _ => ?_, fun c => absurd (show dI 0 < 0 by decide) c⟩
    have e : (fun j => f (0 + j)) = f := by funext j; rw [Nat.zero_add]
    rw [e, Nat.sub_zero]; exact h
  · refine ⟨Nat.le_refl _, ?_, rfl⟩
    rw [Nat.sub_self]; rfl
theorem emod_b {p : Nat} (hp : isP p) (z : Int) : 0 ≤ z % p ∧ z % p < 5 := by
  have hb := isP_b hp
  have h1 := Int.emod_nonneg z (show (p : Int) ≠ 0 by omega)
  have h2 := Int.emod_lt_of_pos z (show (0 : Int) < p by omega)
  omega
theorem mul_b {a : Nat} {z : Int} (ha : a < 5) (h1 : 0 ≤ z) (h2 : z < 5) : 0 ≤ (a : Int) * z ∧ (a : Int) * z ≤ 16 := by
  obtain ⟨n, rfl⟩ := Int.eq_ofNat_of_zero_le h1
  have : a * n ≤ 4 * 4 := Nat.mul_le_mul (by omega) (by omega)
  have e : (a : Int) * (n : Int) = ((a * n : Nat) : Int) := by rw [Int.natCast_mul]
  rw [e]; omega
theorem multiply_ok {al p d fr to a b : Nat} {f : Nat → Int} {u : St} {Q : St → Prop} (hp : PP u p) (hd : u 0 1 = nI d) (hd3 : d ≤ 3) (hfr : fr ≤ 4) (hto : to ≤ 4) (ha : a < p) (hb : b < p) (hf : ∀ j, j ≤ d → u 13 (5 * fr + j) = iI (f j % p)) (hs : f (d + 1) = 0)
    (h : ∀ g : Nat → Int32, (∀ j, j ≤ d + 1 → g (5 * to + j) = iI (lin a b f j % p)) → (∀ x, (x < 5 * to ∨ 5 * to + 5 ≤ x) → g x = u 13 x) → Q (sa u 13 g)) : f_X0_multiply al (nI fr) (nI to) (nI a) (nI b) u Q := by
  have hb' := isP_b hp.2
  unfold f_X0_multiply
  intro v1 ev1
  rw [hd, nI_1] at ev1
  subst ev1
  rw [← dI_s (d + 1)]
  refine loopD (S := St) (fun m i s => f_X0_multiply_L8 al (nI fr) (nI to) (nI a) (nI b) Q (fun u32 => Q u32) m i s) (fun i s => i ≤ d + 2 ∧ ∃ g : Nat → Int32, s = sa u 13 g ∧ (∀ j, i ≤ j → j ≤ d + 1 → g (5 * to + j) = iI (lin a b f j % p)) ∧ (∀ x, (x < 5 * to + i ∨ 5 * to + 5 ≤ x) → g x = u 13 x)) ?_ ?_ (d + 2) u ?_
  · rintro m i s ⟨hi, g, rfl, hg1, hg2⟩ kk
    show f_X0_multiply_L8_s _ _ _ _ _ _ _ _ _ _
    unfold f_X0_multiply_L8_s
    rw [dI_s]
    have hpp : PP (sa u 13 g) p := hp.sa (by decide)
    have hdeg : (sa u 13 g) 0 1 = nI d := by rw [sa_n _ _ (by decide)]; exact hd
    have hcell : ∀ r, r ≤ 4 → (r ≤ i ∨ fr ≠ to) → (sa u 13 g) 13 (5 * fr + r) = u 13 (5 * fr + r) := by
      intro r hr ho
      rw [sa_k]
      apply hg2
      by_cases h9 : fr = to
      · have : r ≤ i := ho.elim id (fun q => absurd h9 q)
        subst h9; omega
      · omega
    -- the write behind the two products
    have hwr : ∀ (x : Int32) (z : Int), x = iI z → 0 ≤ z → z ≤ 32 → mq p z (lin a b f i) → f_X2_rest al x (sa u 13 g) (fun v5 u6 => f_X6_write al 13 (nI to * 5 + nI i) v5 u6 (fun u7 => ∀ v8 : Int32, v8 = nI i + (-1) → f_X0_multiply_L8 al (nI fr) (nI to) (nI a) (nI b) Q (fun u32 => Q u32) m v8 u7)) := by
      intro x z hx hz1 hz2 hz
      refine rest_ok hpp hx (by omega) (by omega) ?_
      rw [show nI to * 5 + nI i = nI (5 * to + i) from by rw [show (5 : Int32) = nI 5 from rfl, pk_mul, nI_add, Nat.mul_comm]]
      refine write_ok (by show 5 * to + i < 25; omega) ?_
      intro v8 ev8
      subst ev8
      rw [nI_d, su_sa, sa_k, sa_sa]
      refine kk _ ⟨by omega, _, rfl, fun j hj1 hj2 => ?_, fun x hx => ?_⟩
      · by_cases hji : j = i
        · subst hji; rw [upd_in, mq_iff.mp hz]
        · rw [upd_ne _ _ (by omega)]; exact hg1 j (by omega) hj2
      · rw [upd_ne _ _ (by omega)]; exact hg2 x (by omega)
    refine ⟨fun c => absurd c (nI_pos (by omega)), fun _ => ⟨fun c => ?_, fun c => ?_⟩⟩
    · rw [hdeg] at c
      have hi2 : i = d + 1 := by have := (nI_ltI (by omega) (by omega)).mp c; omega
      refine ⟨fun c2 => absurd c2 (nI_nle (by omega) (by omega)), fun _ => ?_⟩
      rw [show nI i - 1 = nI d from by rw [hi2, nI_pred]]
      refine cell0_ok hfr (by omega) ?_
      intro v11 ev11
      rw [hcell d (by omega) (Or.inl (by omega)), hf d (Nat.le_refl _), iI_n, iI_mul] at ev11
      have hm := emod_b hp.2 (f d)
      have hmb := mul_b (a := b) (by omega) hm.1 hm.2
      refine hwr _ ((b : Int) * (f d % p)) (by rw [ev11, show (0 : Int32) = iI 0 from rfl, iI_add, Int.zero_add]) hmb.1 (by omega) ?_
      rw [hi2]
      show mq p _ ((a : Int) * f (d + 1) + (b : Int) * f d)
      rw [hs, Int.mul_zero, Int.zero_add]
      exact mq_mul (mq_rf _ _) (mq_mod _ _)
    · rw [hdeg] at c
      have hi2 : i ≤ d := by
        rcases Nat.lt_or_ge d i with q | q
        · exact absurd ((nI_ltI (by omega) (by omega)).mpr q) c
        · exact q
      refine cell0_ok hfr (by omega) ?_
      intro v18 ev18
      rw [hcell i (by omega) (Or.inl (by omega)), hf i hi2, iI_n, iI_mul] at ev18
      have hm := emod_b hp.2 (f i)
      have hmb := mul_b (a := a) (by omega) hm.1 hm.2
      refine ⟨fun c2 => ?_, fun c2 => ?_⟩
      · have h0 : i = 0 := by
          rcases Nat.eq_zero_or_pos i with q | q
          · exact q
          · exact absurd c2 (nI_nle q (by omega))
        refine hwr _ ((a : Int) * (f i % p)) (by rw [ev18, show (0 : Int32) = iI 0 from rfl, iI_add, Int.add_zero]) hmb.1 (by omega) ?_
        rw [h0]
        show mq p _ ((a : Int) * f 0)
        exact mq_mul (mq_rf _ _) (mq_mod _ _)
      · obtain ⟨k, rfl⟩ : ∃ k, i = k + 1 := ⟨i - 1, by
          rcases Nat.eq_zero_or_pos i with q | q
          · exact absurd (by rw [q]; decide) c2
          · omega⟩
        rw [show nI (k + 1) - 1 = nI k from nI_pred k]
        refine cell0_ok hfr (by omega) ?_
        intro v26 ev26
        rw [hcell k (by omega) (Or.inl (by omega)), hf k (by omega), iI_n, iI_mul] at ev26
        have hm2 := emod_b hp.2 (f k)
        have hmb2 := mul_b (a := b) (by omega) hm2.1 hm2.2
        refine hwr _ ((a : Int) * (f (k + 1) % p) + (b : Int) * (f k % p)) (by rw [ev18, ev26, iI_add]) (by omega) (by omega) ?_
        show mq p _ ((a : Int) * f (k + 1) + (b : Int) * f k)
        exact mq_add (mq_mul (mq_rf _ _) (mq_mod _ _)) (mq_mul (mq_rf _ _) (mq_mod _ _))
  · rintro m s ⟨hi, g, rfl, hg1, hg2⟩
    show f_X0_multiply_L8_s _ _ _ _ _ _ _ _ _ _
    unfold f_X0_multiply_L8_s
    refine ⟨fun _ => h g (fun j hj => hg1 j (by omega) hj) (fun x hx => hg2 x (by omega)), fun c => absurd (show dI 0 < 0 by decide) c⟩
  · exact ⟨Nat.le_refl _, u 13, (sa_self u 13).symm, fun j h1 h2 => by omega, fun x _ => rfl⟩
/-- what a matrix makes of the form with one coefficient 1 -/
def colV (p m n i : Nat) : Nat → Int := colZ (dg p m 0) (dg p m 1) (dg p m 2) (dg p m 3) n i
theorem colfill_ok {al p m n : Nat} {u : St} {Q : St → Prop} (hp : PP u p) (hm : m < 1000000000) (hn : n ≤ 4)
    (h : ∀ v : St, chg [13] [1] u v → v 0 1 = nI n → (∀ i j, i ≤ n → j ≤ n → v 13 (5 * i + j) = iI (colV p m n i j % p)) → Q v) : f_X0_fill al (nI m) (nI n) u Q := by
  have hb' := isP_b hp.2
  have hl : ∀ c i, dg p c i < p := fun c i => dg_lt (by omega) c i
  unfold f_X0_fill
  refine digit_ok (i := 0) hp hm (by omega) (digit_ok (i := 1) hp hm (by omega) (digit_ok (i := 2) hp hm (by omega) (digit_ok (i := 3) hp hm (by omega) ?_)))
  refine write_ok (k := 13) (i := 0) (by decide) ?_
  refine loopU (S := St) (fun k i s => f_X0_fill_L55 al (nI n) (nI (dg p m 0)) (nI (dg p m 1)) (nI (dg p m 2)) (nI (dg p m 3)) Q (fun u20 => (∀ u21 : St, u21 = su u20 0 1 (nI n) → Q u21)) k i s) n (fun g s => chg [13] [1] u s ∧ ∀ i j, i ≤ g → j ≤ g → s 13 (5 * i + j) = iI (colV p m g i j % p)) ?_ ?_ 0 (Nat.zero_le _) _ ?_
  · rintro k g s hg ⟨hc, hI⟩ kk
    show f_X0_fill_L55_s _ _ _ _ _ _ _ _ _ _ _
    unfold f_X0_fill_L55_s
    refine ⟨fun c => absurd c (nI_ge hg (by omega)), fun _ u11 eu11 => ?_⟩
    subst eu11
    have hc1 : chg [13] [1] u (su s 0 1 (nI g)) := hc.tr (chg_su0 (by decide))
    have hpp := hc1.pp hp (by decide)
    rw [nI_1]
    refine multiply_ok (d := g) (f := colV p m g g) hpp (su_kk _ _ _ _) (by omega) (by omega) (by omega) (hl _ _) (hl _ _) (fun j hj => by rw [su_n _ _ _ (by decide)]; exact hI g j (Nat.le_refl _) hj) (sup_col _ _ _ _ (Nat.le_refl g) _ (by omega)) ?_
    intro g1 hg1 hg2
    -- the other columns, one by one
    refine loopU (S := St) (fun k' i s' => f_X0_fill_L84 al (nI n) (nI (dg p m 0)) (nI (dg p m 1)) (nI (dg p m 2)) (nI (dg p m 3)) (nI g) Q _ k' i s') (g + 1) (fun i s' => chg [13] [1] u s' ∧ s' 0 1 = nI g ∧ (∀ j, j ≤ g + 1 → s' 13 (5 * (g + 1) + j) = iI (colV p m (g + 1) (g + 1) j % p)) ∧ (∀ c j, c < i → j ≤ g + 1 → s' 13 (5 * c + j) = iI (colV p m (g + 1) c j % p)) ∧ (∀ c j, i ≤ c → c ≤ g → j ≤ g → s' 13 (5 * c + j) = iI (colV p m g c j % p))) ?_ ?_ 0 (Nat.zero_le _) _ ?_
    · rintro k' i s' hi ⟨hc2, hd2, ha, hdone, hrest⟩ kk2
      show f_X0_fill_L84_s _ _ _ _ _ _ _ _ _ _ _ _
      unfold f_X0_fill_L84_s
      refine ⟨fun c => absurd ((nI_ltI (by omega) (by omega)).mp c) (by omega), fun _ => ?_⟩
      refine multiply_ok (d := g) (f := colV p m g i) (hc2.pp hp (by decide)) hd2 (by omega) (by omega) (by omega) (hl _ _) (hl _ _) (fun j hj => hrest i j (Nat.le_refl _) (by omega) hj) (sup_col _ _ _ _ (by omega) _ (by omega)) ?_
      intro g2 hg3 hg4 v15 ev15
      subst ev15
      rw [nI_1]
      refine kk2 _ ⟨hc2.tr (chg_sa (by decide) (by decide)), by rw [sa_n _ _ (by decide)]; exact hd2, fun j hj => ?_, fun c j hcj hj => ?_, fun c j h1 h2 hj => ?_⟩
      · rw [sa_k, hg4 _ (Or.inr (by omega))]; exact ha j hj
      · rw [sa_k]
        by_cases hci : c = i
        · subst hci
          rw [hg3 j hj]
          show _ = iI (colZ _ _ _ _ (g + 1) c j % p)
          rw [colZ_x _ _ _ _ (show c ≤ g by omega)]; rfl
        · rw [hg4 _ (Or.inl (by omega))]; exact hdone c j (by omega) hj
      · rw [sa_k, hg4 _ (Or.inr (by omega))]; exact hrest c j (by omega) h2 hj
    · rintro k' s' ⟨hc2, hd2, ha, hdone, hrest⟩
      show f_X0_fill_L84_s _ _ _ _ _ _ _ _ _ _ _ _
      unfold f_X0_fill_L84_s
      refine ⟨fun _ v18 ev18 => ?_, fun c => absurd ((nI_ltI (by omega) (by omega)).mpr (by omega)) c⟩
      subst ev18
      refine kk _ ⟨hc2, fun i j hi hj => ?_⟩
      by_cases h9 : i = g + 1
      · subst h9; exact ha j hj
      · exact hdone i j (by omega) hj
    · refine ⟨hc1.tr (chg_sa (by decide) (by decide)), by rw [sa_n _ _ (by decide), su_kk], fun j hj => ?_, fun c j h1 => by omega, fun c j _ h2 hj => ?_⟩
      · rw [sa_k, hg1 j hj]
        show _ = iI (colZ _ _ _ _ (g + 1) (g + 1) j % p)
        rw [colZ_y _ _ _ _ (Nat.le_refl g)]; rfl
      · rw [sa_k, hg2 _ (Or.inl (by omega)), su_n _ _ _ (by decide)]; exact hI c j h2 hj
  · rintro k s ⟨hc, hI⟩
    show f_X0_fill_L55_s _ _ _ _ _ _ _ _ _ _ _
    unfold f_X0_fill_L55_s
    refine ⟨fun _ u21 eu21 => ?_, fun c => absurd (nI_le (Nat.le_refl _) (by omega)) c⟩
    subst eu21
    refine h _ (hc.tr (chg_su0 (by decide))) (su_kk _ _ _ _) (fun i j hi hj => ?_)
    rw [su_n _ _ _ (by decide)]
    exact hI i j hi hj
  · refine ⟨by rw [su_sa]; exact chg_sa (by decide) (by decide), fun i j hi hj => ?_⟩
    obtain rfl : i = 0 := by omega
    obtain rfl : j = 0 := by omega
    show su u 13 0 1 13 0 = _
    rw [su_kk]
    show (1 : Int32) = iI ((1 : Int) % p)
    rw [Int.emod_eq_of_lt (by omega) (by omega)]
    rfl
