/-! the reference: what a matrix does to forms -/
/-- a column as it grows -/
def Gi (a b c d : Int) (i k : Nat) : Nat → Int := if k ≤ i then itn (lin c d) k e0 else itn (lin a b) (k - i) (itn (lin c d) i e0)
theorem Gi_0 (a b c d : Int) (i : Nat) : Gi a b c d i 0 = e0 := by unfold Gi; rw [if_pos (by omega)]; rfl
theorem Gi_lo {a b c d : Int} {i k : Nat} (h : k < i) : Gi a b c d i (k + 1) = lin c d (Gi a b c d i k) := by
  unfold Gi
  rw [if_pos (by omega), if_pos (by omega)]; rfl
theorem Gi_hi {a b c d : Int} {i k : Nat} (h : i ≤ k) : Gi a b c d i (k + 1) = lin a b (Gi a b c d i k) := by
  unfold Gi
  rw [if_neg (by omega)]
  by_cases e : k = i
  · subst e
    rw [if_pos (Nat.le_refl _), show k + 1 - k = 1 by omega]; rfl
  · rw [if_neg (by omega), show k + 1 - i = (k - i) + 1 by omega]; rfl
theorem Gi_col {a b c d : Int} {i n : Nat} (h : i ≤ n) : Gi a b c d i n = colZ a b c d n i := by
  unfold Gi colZ
  by_cases e : n ≤ i
  · have : n = i := by omega
    subst this
    rw [if_pos e, Nat.sub_self]; rfl
  · rw [if_neg e]
theorem Gi_sup (a b c d : Int) (i : Nat) : ∀ k, sup k (Gi a b c d i k)
  | 0 => by rw [Gi_0]; exact sup_e0
  | k + 1 => by
    by_cases h : k < i
    · rw [Gi_lo h]; exact sup_lin _ _ (Gi_sup a b c d i k)
    · rw [Gi_hi (by omega)]; exact sup_lin _ _ (Gi_sup a b c d i k)
theorem mod_prod_b {p x y : Nat} {f g : Int} (hp : isP p) (hx : x < p) (hy : y < p) : -1000000000 < (x : Int) * (f % p) + (y : Int) * (g % p) ∧ (x : Int) * (f % p) + (y : Int) * (g % p) < 1000000000 := by
  have hb := isP_b hp
  have h1 := emod_b hp f
  have h2 := emod_b hp g
  have h3 := mul_b (a := x) (by omega) h1.1 h1.2
  have h4 := mul_b (a := y) (by omega) h2.1 h2.2
  omega
theorem l90_ok {p x y k : Nat} {f : Nat → Int} {a1 a2 a3 a4 : Int32} {u : St} {Q K : St → Prop} (hp : MP u p) (hx : x < p) (hy : y < p) (hk : k ≤ 3) (hs : sup k f) (hf : ∀ e, e < 5 → u 8 e = iI (f e % p))
    (h : ∀ v, chg [8] [] u v → (∀ e, e < 5 → 0 < e → v 8 e = iI (lin x y f e % p)) → v 8 0 = iI (f 0 % p) → K v) : ∃ n, f_X7_learns_L90 a1 a2 a3 a4 (nI x) (nI y) Q K n (nI (k + 1)) u := by
  refine loopZ (S := St) (fun n i s => f_X7_learns_L90 a1 a2 a3 a4 (nI x) (nI y) Q K n i s) (fun e s => e ≤ k + 1 ∧ chg [8] [] u s ∧ (∀ e', e' < 5 → e < e' → s 8 e' = iI (lin x y f e' % p)) ∧ ∀ e', e' ≤ e → s 8 e' = iI (f e' % p)) ?_ ?_ (k + 1) u ⟨Nat.le_refl _, chg_rf _ _ _, fun e' h5 he => ?_, fun e' he => hf e' (by omega)⟩
  · rintro n e s ⟨hek, c1, c2, c3⟩ kk
    show f_X7_learns_L90_s _ _ _ _ _ _ _ _ _ _ _
    unfold f_X7_learns_L90_s
    have hpp := c1.mp hp (by decide)
    refine ⟨fun c => absurd c (nI_nle (by omega) (by omega)), fun _ => rdM (by omega) (by omega) ?_⟩
    rw [nI_pred]
    refine rdM (by omega) (by omega) ?_
    rw [c3 (e + 1) (by omega), c3 e (by omega)]
    have hbd := mod_prod_b (f := f (e + 1)) (g := f e) hp.2 hx hy
    refine mmod_ok hpp (z := (x : Int) * (f (e + 1) % p) + (y : Int) * (f e % p)) (by rw [iI_n, iI_n, iI_mul, iI_mul, iI_add]) hbd.1 hbd.2 ?_
    refine wrM (by omega) (by omega) ?_
    intro v24 e24
    rw [nI_d, dI_s] at e24
    subst e24
    refine kk _ ⟨by omega, chg_tsu c1 (by decide) (by decide), fun e' h5 he => ?_, fun e' he => ?_⟩
    · rw [su_sa, sa_k]
      by_cases q : e' = e + 1
      · subst q
        rw [upd_in]
        congr 1
        rw [← mq_iff]
        show mq p _ ((x : Int) * f (e + 1) + (y : Int) * f e)
        exact mq_add (mq_mul (mq_rf _ _) (mq_mod _ _)) (mq_mul (mq_rf _ _) (mq_mod _ _))
      · rw [upd_ne _ _ q]; exact c2 e' h5 (by omega)
    · rw [su_sa, sa_k, upd_ne _ _ (by omega)]; exact c3 e' (by omega)
  · rintro n s ⟨hek, c1, c2, c3⟩
    show f_X7_learns_L90_s _ _ _ _ _ _ _ _ _ _ _
    unfold f_X7_learns_L90_s
    exact ⟨fun _ => h s c1 (fun e h5 he => c2 e h5 he) (c3 0 (by omega)), fun c => absurd (Int32.le_refl _) c⟩
  · rw [hf e' h5, hs e' (by omega)]
    obtain ⟨t, rfl⟩ : ∃ t, e' = t + 1 := ⟨e' - 1, by omega⟩
    show _ = iI (((x : Int) * f (t + 1) + (y : Int) * f t) % p)
    rw [hs (t + 1) (by omega), hs t (by omega), Int.mul_zero, Int.mul_zero, Int.add_zero]
/-- one step of a column -/
theorem lstep_ok {p x y k : Nat} {f : Nat → Int} {a1 a2 a3 a4 : Int32} {u : St} {Q K : St → Prop} (hp : MP u p) (hx : x < p) (hy : y < p) (hk : k ≤ 3) (hs : sup k f) (hf : ∀ e, e < 5 → u 8 e = iI (f e % p))
    (h : ∀ v, chg [8] [] u v → (∀ e, e < 5 → v 8 e = iI (lin x y f e % p)) → K v) : ∀ v17 : Int32, v17 = (nI k + 1) → (∃ n25, f_X7_learns_L90 a1 a2 a3 a4 (nI x) (nI y) Q (fun u26 => (vp_in 0 5 ∧ ∀ v27 : Int32, v27 = u26 8 (0 : Int32).toNatClampNeg → f_X7_mod (nI x * v27) u26 (fun v28 u29 => (vp_in 0 5 ∧ ∀ u30 : St, u30 = su u29 8 (0 : Int32).toNatClampNeg v28 → K u30)))) n25 v17 u) := by
  intro v17 e17
  rw [nI_1] at e17
  subst e17
  refine l90_ok hp hx hy hk hs hf ?_
  intro v cv r1 r0
  refine rdM (i := 0) (by omega) (by omega) ?_
  rw [r0]
  have hb := isP_b hp.2
  have h1 := emod_b hp.2 (f 0)
  have h3 := mul_b (a := x) (by omega) h1.1 h1.2
  refine mmod_ok (cv.mp hp (by decide)) (z := (x : Int) * (f 0 % p)) (by rw [iI_n, iI_mul]) (by omega) (by omega) ?_
  refine wrM (i := 0) (by omega) (by omega) ?_
  refine h _ (chg_tsu cv (by decide) (by decide)) (fun e he => ?_)
  rw [su_sa, sa_k]
  by_cases q : e = 0
  · subst q
    rw [upd_in]
    congr 1
    rw [← mq_iff]
    show mq p _ ((x : Int) * f 0)
    exact mq_mul (mq_rf _ _) (mq_mod _ _)
  · rw [upd_ne _ _ q]; exact r1 e he (by omega)
theorem learns_ok {p m n : Nat} {u : St} {Q : St → Prop} (hp : MP u p) (hm : m < 1000000000) (hn : n ≤ 4)
    (h : ∀ v, chg [6, 8] [] u v → (∀ k i, k ≤ n → i ≤ n → v 6 (5 * k + i) = iI (colV p m n i k % p)) → Q v) : f_X7_learns (nI m) (nI n) u Q := by
  have hb := isP_b hp.2
  have hl : ∀ c i, dg p c i < p := fun c i => dg_lt (by omega) c i
  unfold f_X7_learns
  refine loopU (S := St) (fun k i s => f_X7_learns_L2 (nI m) (nI n) Q (fun u75 => Q u75) k i s) (n + 1) (fun i s => chg [6, 8] [] u s ∧ ∀ k i', k ≤ n → i' < i → s 6 (5 * k + i') = iI (colV p m n i' k % p)) ?_ ?_ 0 (Nat.zero_le _) u ⟨chg_rf _ _ _, fun k i' _ hi => absurd hi (Nat.not_lt_zero _)⟩
  · rintro k0 i s hi ⟨c1, c2⟩ kk
    show f_X7_learns_L2_s _ _ _ _ _ _ _
    unfold f_X7_learns_L2_s
    refine ⟨fun c => absurd ((nI_ltI (by omega) (by omega)).mp c) (by omega), fun _ => ?_⟩
    refine loopU (S := St) (fun k e t => f_X7_learns_L10 (nI m) (nI n) (nI i) Q _ k e t) 5 (fun e t => chg [8] [] s t ∧ ∀ e', e' < e → t 8 e' = iI (e0 e' % p)) ?_ ?_ 0 (Nat.zero_le _) s ⟨chg_rf _ _ _, fun e' he => absurd he (Nat.not_lt_zero _)⟩
    · rintro k1 e t he ⟨d1, d2⟩ kk2
      show f_X7_learns_L10_s _ _ _ _ _ _ _ _
      unfold f_X7_learns_L10_s
      refine ⟨fun c => absurd (show nI 5 ≤ nI e from c) (nI_ge he (by omega)), fun _ => ⟨fun q => wrM he (by omega) ?_, fun q => wrM he (by omega) ?_⟩⟩
      · intro v5 e5
        rw [nI_1] at e5
        subst e5
        refine kk2 _ ⟨chg_tsu d1 (by decide) (by decide), fun e' he' => ?_⟩
        rw [su_sa, sa_k]
        by_cases q2 : e' = e
        · subst q2
          have : ¬ e' = 0 := fun q3 => q (by rw [q3]; rfl)
          rw [upd_in]
          unfold e0
          rw [if_neg this, Int.zero_emod]; rfl
        · rw [upd_ne _ _ q2]; exact d2 e' (by omega)
      · intro v5 e5
        rw [nI_1] at e5
        subst e5
        have q0 : e = 0 := (nI_eq (b := 0) (by omega) (by omega)).mp q
        refine kk2 _ ⟨chg_tsu d1 (by decide) (by decide), fun e' he' => ?_⟩
        rw [su_sa, sa_k]
        have : e' = e := by omega
        subst this
        rw [upd_in]
        unfold e0
        rw [if_pos q0, Int.emod_eq_of_lt (by omega) (by omega)]; rfl
    · rintro k1 t ⟨d1, d2⟩
      show f_X7_learns_L10_s _ _ _ _ _ _ _ _
      unfold f_X7_learns_L10_s
      refine ⟨fun _ => ?_, fun c => absurd (nI_le (Nat.le_refl 5) (by omega)) c⟩
      refine loopU (S := St) (fun k e t' => f_X7_learns_L42 (nI m) (nI n) (nI i) Q _ k e t') n (fun k t' => chg [8] [] s t' ∧ ∀ e, e < 5 → t' 8 e = iI (Gi (dg p m 0) (dg p m 1) (dg p m 2) (dg p m 3) i k e % p)) ?_ ?_ 0 (Nat.zero_le _) t ⟨d1, fun e he => by rw [Gi_0]; exact d2 e he⟩
      · rintro k2 k t' hk ⟨b1, b2⟩ kk3
        show f_X7_learns_L42_s _ _ _ _ _ _ _ _
        unfold f_X7_learns_L42_s
        have hpt : MP t' p := b1.mp (c1.mp hp (by decide)) (by decide)
        have hsup := Gi_sup (dg p m 0) (dg p m 1) (dg p m 2) (dg p m 3) i k
        refine ⟨fun c => absurd c (nI_ge hk (by omega)), fun _ => ⟨fun q => ?_, fun q => ?_⟩⟩
        · have hik : i ≤ k := Nat.le_of_not_lt (fun q2 => (nI_ge q2 (by omega)) q)
          refine fig_ok (i := 0) hpt hm (by omega) ⟨fun _ => ?_, fun q2 => absurd q q2⟩
          refine fig_ok (i := 1) hpt hm (by omega) ?_
          refine lstep_ok hpt (hl _ _) (hl _ _) (by omega) hsup b2 ?_
          intro v cv rv v31 e31
          rw [nI_1] at e31
          subst e31
          refine kk3 _ ⟨b1.tr cv, fun e he => ?_⟩
          rw [Gi_hi hik]; exact rv e he
        · have hik : k < i := Nat.lt_of_not_le (fun q2 => q (nI_le q2 (by omega)))
          refine fig_ok (i := 2) hpt hm (by omega) ⟨fun q2 => absurd q2 q, fun _ => ?_⟩
          refine fig_ok (i := 3) hpt hm (by omega) ?_
          refine lstep_ok hpt (hl _ _) (hl _ _) (by omega) hsup b2 ?_
          intro v cv rv v31 e31
          rw [nI_1] at e31
          subst e31
          refine kk3 _ ⟨b1.tr cv, fun e he => ?_⟩
          rw [Gi_lo hik]; exact rv e he
      · rintro k2 t' ⟨b1, b2⟩
        show f_X7_learns_L42_s _ _ _ _ _ _ _ _
        unfold f_X7_learns_L42_s
        refine ⟨fun _ => ?_, fun c => absurd (nI_le (Nat.le_refl _) (by omega)) c⟩
        have hcol : ∀ e, e < 5 → t' 8 e = iI (colV p m n i e % p) := fun e he => by rw [b2 e he, Gi_col (by omega)]; rfl
        refine loopU (S := St) (fun k e y => f_X7_learns_L163 (nI m) (nI n) (nI i) Q _ k e y) (n + 1) (fun k y => chg [6] [] t' y ∧ (∀ k', k' < k → y 6 (5 * k' + i) = iI (colV p m n i k' % p)) ∧ ∀ k' i', k' ≤ n → i' < i → y 6 (5 * k' + i') = iI (colV p m n i' k' % p)) ?_ ?_ 0 (Nat.zero_le _) t' ⟨chg_rf _ _ _, fun k' hk => absurd hk (Nat.not_lt_zero _), fun k' i' hk hi' => by rw [b1.2 6 (by decide) (by decide)]; exact c2 k' i' hk hi'⟩
        · rintro k3 k y hk ⟨a1, a2, a3⟩ kk4
          show f_X7_learns_L163_s _ _ _ _ _ _ _ _
          unfold f_X7_learns_L163_s
          refine ⟨fun c => absurd ((nI_ltI (by omega) (by omega)).mp c) (by omega), fun _ => rdM (by omega) (by omega) ?_⟩
          rw [a1.2 8 (by decide) (by decide), hcol k (by omega), mk5, nI_add]
          refine wrM (by omega) (by omega) ?_
          intro v70 e70
          rw [nI_1] at e70
          subst e70
          refine kk4 _ ⟨chg_tsu a1 (by decide) (by decide), fun k' hk' => ?_, fun k' i' hk' hi' => ?_⟩
          · rw [su_sa, sa_k]
            by_cases q : k' = k
            · subst q; rw [upd_in]
            · rw [upd_ne _ _ (by omega)]; exact a2 k' (by omega)
          · rw [su_sa, sa_k, upd_ne _ _ (by omega)]; exact a3 k' i' hk' hi'
        · rintro k3 y ⟨a1, a2, a3⟩
          show f_X7_learns_L163_s _ _ _ _ _ _ _ _
          unfold f_X7_learns_L163_s
          refine ⟨fun _ v73 e73 => ?_, fun c => absurd ((nI_ltI (by omega) (by omega)).mpr (by omega)) c⟩
          rw [nI_1] at e73
          subst e73
          refine kk _ ⟨(c1.tr (b1.wk (by decide) (by decide))).tr (a1.wk (by decide) (by decide)), fun k' i' hk' hi' => ?_⟩
          by_cases q : i' = i
          · subst q; exact a2 k' (by omega)
          · exact a3 k' i' hk' (by omega)
  · rintro k0 s ⟨c1, c2⟩
    show f_X7_learns_L2_s _ _ _ _ _ _ _
    unfold f_X7_learns_L2_s
    exact ⟨fun _ => h s c1 (fun k i hk hi => c2 k i hk (by omega)), fun c => absurd ((nI_ltI (by omega) (by omega)).mpr (by omega)) c⟩
theorem made_ok {p m n c : Nat} {u : St} {Q : Int32 → St → Prop} (hp : MP u p) (hn : n ≤ 4) (hc : c < 1000000000) (hcol : ∀ k i, k ≤ n → i ≤ n → u 6 (5 * k + i) = iI (colV p m n i k % p)) (h : Q (nI (act p m n c)) u) : f_X7_made (nI c) (nI n) u Q := by
  have hb := isP_b hp.2
  have hl : ∀ c i, dg p c i < p := fun c i => dg_lt (by omega) c i
  have hact : act p m n c = cod p (fun j => (imz p m n c j % p).toNat) (n + 1) := by
    unfold act
    rw [cod_ext (n := n + 1) (by omega) (fun j h1 h2 => by
      show (imz p m n c j % p).toNat = 0
      rw [show imz p m n c j = 0 from sb_sup _ _ _ _ n _ j (by omega)]; simp)]
  have hlp := loopD2 (fun k i a s => f_X7_made_L5 (nI c) (nI n) Q (fun v16 u17 => Q v16 u17) k a i s) (fun i a s => i ≤ n + 1 ∧ a = nI (cod p (fun j => (imz p m n c (i + j) % p).toNat) (n + 1 - i)) ∧ s = u) ?_ ?_ (n + 1) 0 u ?_
  · rw [dI_s] at hlp; exact hlp
  · rintro k i a s ⟨hi, rfl, rfl⟩ kk
    show f_X7_made_L5_s _ _ _ _ _ _ _ _
    unfold f_X7_made_L5_s
    rw [dI_s]
    refine ⟨fun c => absurd c (nI_pos (by omega)), fun _ => ?_⟩
    refine loopU2 (fun k' j a' s' => f_X7_made_L16 (nI c) (nI n) _ (nI i) Q _ k' a' j s') (n + 1) (fun j a' s' => s' = s ∧ a' = iI (sg (fun j => (colV p m n j i % p) * (dg p c j : Int)) j)) ?_ ?_ 0 (Nat.zero_le _) 0 s ⟨rfl, rfl⟩
    · rintro k' j a' s' hj ⟨rfl, rfl⟩ kk2
      show f_X7_made_L16_s _ _ _ _ _ _ _ _ _ _
      unfold f_X7_made_L16_s
      refine ⟨fun c => absurd ((nI_ltI (by omega) (by omega)).mp c) (by omega), fun _ => ?_⟩
      rw [mk5, nI_add]
      refine rdM (by omega) (by omega) ?_
      rw [hcol i j (by omega) (by omega)]
      refine fig_ok hp hc (by omega) ?_
      intro v6 e6 v7 e7
      rw [nI_1] at e7
      rw [iI_n, iI_mul, iI_add] at e6
      subst e6 e7
      exact kk2 _ _ ⟨rfl, rfl⟩
    · rintro k' a' s' ⟨rfl, rfl⟩
      show f_X7_made_L16_s _ _ _ _ _ _ _ _ _ _
      unfold f_X7_made_L16_s
      refine ⟨fun _ => ?_, fun c => absurd ((nI_ltI (by omega) (by omega)).mpr (by omega)) c⟩
      have hbd : ∀ r, r ≤ 5 → 0 ≤ sg (fun j => (colV p m n j i % p) * (dg p c j : Int)) r ∧ sg (fun j => (colV p m n j i % p) * (dg p c j : Int)) r ≤ 16 * (r : Int) := by
        intro r
        induction r with
        | zero => intro _; exact ⟨Int.le_refl _, Int.le_refl _⟩
        | succ r ih =>
          intro hr
          have h1 := ih (by omega)
          have h2 := emod_b hp.2 (colV p m n r i)
          have h3 := prod_b h2.1 h2.2 (show (0 : Int) ≤ (dg p c r : Int) by omega) (by have := hl c r; omega)
          show 0 ≤ _ + (colV p m n r i % p) * (dg p c r : Int) ∧ _ + (colV p m n r i % p) * (dg p c r : Int) ≤ _
          omega
      have hb2 := hbd (n + 1) (by omega)
      refine mmod_ok hp rfl (by omega) (by omega) ?_
      have hz : sg (fun j => (colV p m n j i % p) * (dg p c j : Int)) (n + 1) % p = imz p m n c i % p := by
        rw [← mq_iff]
        refine sg_mq (fun j hj => ?_)
        rw [Int.mul_comm]
        exact mq_mul (mq_rf _ _) (mq_mod _ _)
      rw [hz, iI_nn (Int.emod_nonneg _ (by omega)), hp.1]
      intro v13 e13 v14 e14
      rw [pk_mul, nI_add] at e13
      rw [nI_d] at e14
      subst e13 e14
      refine kk _ _ ⟨by omega, ?_, rfl⟩
      have e : n + 1 - i = (n + 1 - (i + 1)) + 1 := by omega
      rw [e, cod]
      have e2 : (fun j => (imz p m n c (i + (j + 1)) % (p : Int)).toNat) = (fun j => (imz p m n c (i + 1 + j) % (p : Int)).toNat) := by funext j; congr 3; omega
      show nI _ = nI ((imz p m n c (i + 0) % (p : Int)).toNat + p * cod p (fun j => (imz p m n c (i + (j + 1)) % (p : Int)).toNat) (n + 1 - (i + 1)))
      rw [e2, show i + 0 = i from rfl, Nat.add_comm]
  · rintro k a s ⟨hi, rfl, rfl⟩
    show f_X7_made_L5_s _ _ _ _ _ _ _ _
    unfold f_X7_made_L5_s
    refine ⟨fun _ => ?_, fun c => absurd (show dI 0 < 0 by decide) c⟩
    have e : (fun j => (imz p m n c (0 + j) % (p : Int)).toNat) = (fun j => (imz p m n c j % (p : Int)).toNat) := by funext j; rw [Nat.zero_add]
    show Q (nI (cod p (fun j => (imz p m n c (0 + j) % (p : Int)).toNat) (n + 1 - 0))) s
    rw [e, Nat.sub_zero, ← hact]; exact h
  · refine ⟨Nat.le_refl _, ?_, rfl⟩
    rw [Nat.sub_self]; rfl
theorem chby_ok {p ng nf f g : Nat} {M D C : Nat → Nat} {u : St} {Q : Int32 → St → Prop} (hC : MI p ng M nf D C u) (hf : f < nf) (hg : g < ng) (h : ∀ v, chg [6, 8] [] u v → Q (nI (act p (M g) (D f) (C f))) v) : f_X7_changedBy (nI f) (nI g) u Q := by
  have b1 := hC.f hf
  obtain ⟨-, hg4, -, h625⟩ := hC.m hg
  unfold f_X7_changedBy
  refine gcode_ok hC hg (mrdD hC hf (learns_ok hC.1 (by omega) b1.1.2 ?_))
  intro v cv rv
  have hv := hC.chg (cv.wk (by decide) (by decide))
  exact mrdC hv hf (mrdD hv hf (made_ok hv.1 b1.1.2 (by omega) rv (h v cv)))
theorem mchanged_ok {p ng nf : Nat} {M D C : Nat → Nat} {a b : Int32} {u : St} {Q : Int32 → St → Prop} (hC : MI p ng M nf D C u)
    (h1 : ∀ f g v, f < nf → g < ng → a = nI f → b = nI g → v 0 0 = 0 → MI p ng M nf D C v → Q (nI (act p (M g) (D f) (C f))) v)
    (h2 : (¬ ((∃ f, f < nf ∧ a = nI f) ∧ ∃ g, g < ng ∧ b = nI g)) → ∀ v, v 0 0 = 1 → MI p ng M nf D C v → Q 0 v) : f_X7_changed a b u Q := by
  have hng := hC.2.2.1
  unfold f_X7_changed
  refine mform_ok hC (fun f hf e => ⟨fun q => absurd q (by decide), fun _ => ?_⟩) (fun q => ⟨fun _ => hold1 ⟨fun _ => h2 (fun q2 => q q2.1) _ (by rw [su_kk]) (hC.T 1), fun c => absurd rfl c⟩, fun c => absurd rfl c⟩)
  rw [hng.2]
  refine isIn_ok (by omega) (fun g hg e2 => ⟨fun q => absurd q (by decide), fun _ => ?_⟩) (fun q => ⟨fun _ => hold1 ⟨fun _ => h2 (fun q2 => q q2.2) _ (by rw [su_kk]) (hC.T 1), fun c => absurd rfl c⟩, fun c => absurd rfl c⟩)
  refine hold0 ⟨fun q => absurd q (by decide), fun _ => ?_⟩
  have ea := e
  have eb := e2
  subst e e2
  refine chby_ok (hC.T 0) hf hg ?_
  intro v cv
  exact h1 f g v hf hg rfl rfl (by rw [cv.1 0 (by decide), su_kk]) ((hC.T 0).chg (cv.wk (by decide) (by decide)))
theorem isFixed_ok {p ng nf f : Nat} {M D C : Nat → Nat} {u : St} {Q : Int32 → St → Prop} (hC : MI p ng M nf D C u) (hf : f < nf) (h : ∀ v, chg [6, 8] [] u v → Q (if lvs p ng (D f) M (C f) = true then 1 else 0) v) : f_X7_isFixed (nI f) u Q := by
  have b1 := hC.f hf
  have hng := hC.2.2.1
  have hpb := pow_b hC.1.2 (n := D f + 1) (by omega)
  unfold f_X7_isFixed
  refine loopU2 (fun k i a s => f_X7_isFixed_L4 (nI f) Q (fun v11 u12 => ((v11 = 0 → Q 0 u12) ∧ (¬ v11 = 0 → Q 1 u12))) k a i s) ng (fun i a s => chg [6, 8] [] u s ∧ a = (if lvs p i (D f) M (C f) = true then 1 else 0)) ?_ ?_ 0 (Nat.zero_le _) 1 u ⟨chg_rf _ _ _, by rw [if_pos]; unfold lvs; rw [decide_eq_true_iff]; intro g hg; exact absurd hg (Nat.not_lt_zero _)⟩
  · rintro k i a s hi ⟨c1, rfl⟩ kk
    show f_X7_isFixed_L4_s _ _ _ _ _ _ _
    unfold f_X7_isFixed_L4_s
    have hs := hC.chg (c1.wk (by decide) (by decide))
    rw [hs.2.2.1.2]
    refine ⟨fun c => absurd c (nI_ge hi (by omega)), fun _ => ⟨fun q v3 e3 => ?_, fun q => chby_ok hs hf hi ?_⟩⟩
    · rw [nI_1] at e3
      subst e3
      refine kk _ _ ⟨c1, ?_⟩
      by_cases q2 : lvs p i (D f) M (C f) = true
      · rw [if_pos q2] at q; exact absurd q (by decide)
      · rw [if_neg]
        unfold lvs at q2 ⊢
        rw [decide_eq_true_iff] at q2 ⊢
        exact fun q3 => q2 (fun g hg => q3 g (by omega))
    · intro v cv
      have hv := hs.chg (cv.wk (by decide) (by decide))
      have hlt := act_lt (p := p) (m := M i) (n := D f) (c := C f) hC.1.2 b1.1.2
      refine mrdC hv hf ⟨fun q2 v8 e8 => ?_, fun q2 v9 e9 => ?_⟩
      · rw [nI_1] at e8
        subst e8
        refine kk _ _ ⟨c1.tr cv, ?_⟩
        rw [if_neg]
        unfold lvs
        rw [decide_eq_true_iff]
        exact fun q3 => q2 (by rw [q3 i (by omega)])
      · rw [nI_1] at e9
        subst e9
        refine kk _ _ ⟨c1.tr cv, ?_⟩
        have e := (nI_eq (by omega) (by omega)).mp q2
        by_cases q3 : lvs p i (D f) M (C f) = true
        · rw [if_pos]
          unfold lvs at q3 ⊢
          rw [decide_eq_true_iff] at q3 ⊢
          intro g hg
          by_cases q4 : g = i
          · subst q4; exact e
          · exact q3 g (by omega)
        · rw [if_neg q3] at q; exact absurd rfl q
  · rintro k a s ⟨c1, rfl⟩
    show f_X7_isFixed_L4_s _ _ _ _ _ _ _
    unfold f_X7_isFixed_L4_s
    have hs := hC.chg (c1.wk (by decide) (by decide))
    rw [hs.2.2.1.2]
    refine ⟨fun _ => ?_, fun c => absurd (nI_le (Nat.le_refl _) (by omega)) c⟩
    have hh := h s c1
    by_cases q : lvs p ng (D f) M (C f) = true
    · rw [if_pos q] at hh ⊢
      exact ⟨fun c => absurd c (by decide), fun _ => hh⟩
    · rw [if_neg q] at hh ⊢
      exact ⟨fun _ => hh, fun c => absurd rfl c⟩
theorem minv_ok {p a : Nat} {u : St} {Q : Int32 → St → Prop} (hp : MP u p) (ha : a < p) (h : Q (nI (inv p a)) u) : f_X7_inverse (nI a) u Q := by
  have hb := isP_b hp.2
  unfold f_X7_inverse
  refine loopU2 (fun k i x s => f_X7_inverse_L4 (nI a) Q (fun v8 u9 => Q v8 u9) k x i s) p (fun i x s => s = u ∧ ((x = 0 ∧ ∀ j, 1 ≤ j → j < i → a * j % p ≠ 1) ∨ ∃ j, j < i ∧ x = nI j ∧ a * j % p = 1)) ?_ ?_ 1 (by omega) 0 u ⟨rfl, Or.inl ⟨rfl, fun j h1 h2 => by omega⟩⟩
  · rintro k i x s hi ⟨rfl, hx⟩ kk
    show f_X7_inverse_L4_s _ _ _ _ _ _ _
    unfold f_X7_inverse_L4_s
    rw [hp.1]
    refine ⟨fun c => absurd c (nI_ge hi (by omega)), fun _ => ?_⟩
    have hm : i * a ≤ 5 * 5 := Nat.mul_le_mul (by omega) (by omega)
    rw [pk_mul]
    refine mmod_n hp rfl (by omega) ?_
    have hml := Nat.mod_lt (i * a) (show p > 0 by omega)
    refine ⟨fun q v5 e5 => ?_, fun q v6 e6 => ?_⟩
    · rw [nI_1] at e5
      subst e5
      have hne : i * a % p ≠ 1 := fun e => q (by rw [e]; rfl)
      refine kk _ _ ⟨rfl, ?_⟩
      rcases hx with ⟨h0, hx⟩ | ⟨j, hj, e, hx⟩
      · refine Or.inl ⟨h0, fun j h1 h2 => ?_⟩
        by_cases e : j = i
        · subst e; rw [Nat.mul_comm]; exact hne
        · exact hx j h1 (by omega)
      · exact Or.inr ⟨j, by omega, e, hx⟩
    · rw [nI_1] at e6
      subst e6
      have he : i * a % p = 1 := (nI_eq (b := 1) (by omega) (by omega)).mp q
      exact kk _ _ ⟨rfl, Or.inr ⟨i, by omega, rfl, by rw [Nat.mul_comm]; exact he⟩⟩
  · rintro k x s ⟨rfl, hx⟩
    show f_X7_inverse_L4_s _ _ _ _ _ _ _
    unfold f_X7_inverse_L4_s
    rw [hp.1]
    refine ⟨fun _ => ?_, fun c => absurd (nI_le (Nat.le_refl _) (by omega)) c⟩
    rcases hx with ⟨rfl, hx⟩ | ⟨j, hj, rfl, hx⟩
    · have : inv p a = 0 := inv_none hp.2 a ha (fun i hi => by
        by_cases e : i = 0
        · subst e; rw [Nat.mul_zero, Nat.zero_mod]; omega
        · exact hx i (by omega) hi)
      rw [this] at h; exact h
    · rw [← inv_one hp.2 a ha j hj hx] at h; exact h
