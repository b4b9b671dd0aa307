/-! the reference's told values and weights -/
theorem mvals_ok {d : Nat} {u : St} {Q : Int32 → St → Prop} (hd1 : 1 ≤ d) (hd : d ≤ 4) (h : Q (nI (nval d)) u) : f_X7_values (nI d) u Q := by
  unfold f_X7_values
  have hde : d = 1 ∨ d = 2 ∨ d = 3 ∨ d = 4 := by omega
  rcases hde with rfl | rfl | rfl | rfl
  · exact ⟨fun e => absurd rfl e, fun _ => h⟩
  · exact ⟨fun _ => ⟨fun _ => h, fun e => absurd e (by decide)⟩, fun e => absurd e (by decide)⟩
  · exact ⟨fun _ => ⟨fun _ => h, fun e => absurd e (by decide)⟩, fun e => absurd e (by decide)⟩
  · exact ⟨fun _ => ⟨fun e => absurd rfl e, fun _ => h⟩, fun e => absurd e (by decide)⟩
theorem mwgt_ok {d w : Nat} {u : St} {Q : Int32 → St → Prop} (hd2 : 2 ≤ d) (hd : d ≤ 4) (hw : w < 2) (h : Q (nI (wgt d w)) u) : f_X7_weight (nI d) (nI w) u Q := by
  unfold f_X7_weight
  have hde : d = 2 ∨ d = 3 ∨ d = 4 := by omega
  have hw2 : w = 0 ∨ w = 1 := by omega
  rcases hde with rfl | rfl | rfl
  · exact ⟨fun e => absurd rfl e, fun _ => h⟩
  · exact ⟨fun _ => ⟨fun _ => h, fun e => absurd e (by decide)⟩, fun e => absurd e (by decide)⟩
  · refine ⟨fun _ => ⟨fun e => absurd rfl e, fun _ => ?_⟩, fun e => absurd e (by decide)⟩
    rcases hw2 with rfl | rfl
    · exact ⟨fun e => absurd rfl e, fun _ => h⟩
    · exact ⟨fun _ => h, fun e => absurd e (by decide)⟩
theorem mvalOf_ok {p d c w : Nat} {u : St} {Q : Int32 → St → Prop} (hp : MP u p) (hd2 : 2 ≤ d) (hd : d ≤ 4) (hc : c < 1000000000) (hw : w < 2) (h : Q (iI (valZ d w (dg p c) % p)) u) : f_X7_valueOf (nI c) (nI d) (nI w) u Q := by
  have hb := isP_b hp.2
  unfold f_X7_valueOf
  have hbb := valZ_b (d := d) (w := w) (show p ≤ 5 by omega) (fun i => dg_lt (show 0 < p by omega) c i)
  refine fig_ok (i := 0) hp hc (by omega) (fig_ok (i := 1) hp hc (by omega) (fig_ok (i := 2) hp hc (by omega) (fig_ok (i := 3) hp hc (by omega) (fig_ok (i := 4) hp hc (by omega) ?_))))
  have hde : d = 2 ∨ d = 3 ∨ d = 4 := by omega
  rcases hde with rfl | rfl | rfl
  · refine ⟨fun e => absurd rfl e, fun _ => ?_⟩
    refine mmod_ok hp (z := valZ 2 w (dg p c)) ?_ hbb.1 hbb.2 h
    rw [show (4 : Int32) = iI 4 from rfl]
    simp only [iI_n, iI_mul, iI_sub, iI_add]
    rfl
  · refine ⟨fun _ => ⟨fun e => absurd rfl e, fun _ => ?_⟩, fun e => absurd e (by decide)⟩
    refine mmod_ok hp (z := valZ 3 w (dg p c)) ?_ hbb.1 hbb.2 h
    rw [show (4 : Int32) = iI 4 from rfl, show (27 : Int32) = iI 27 from rfl, show (18 : Int32) = iI 18 from rfl]
    simp only [iI_n, iI_mul, iI_sub, iI_add]
    rfl
  · refine ⟨fun _ => ⟨fun _ => ?_, fun e => absurd e (by decide)⟩, fun e => absurd e (by decide)⟩
    have hw2 : w = 0 ∨ w = 1 := by omega
    rcases hw2 with rfl | rfl
    · refine ⟨fun e => absurd rfl e, fun _ => ?_⟩
      refine mmod_ok hp (z := valZ 4 0 (dg p c)) ?_ hbb.1 hbb.2 h
      rw [show (12 : Int32) = iI 12 from rfl, show (3 : Int32) = iI 3 from rfl]
      simp only [iI_n, iI_mul, iI_sub, iI_add]
      rfl
    · refine ⟨fun _ => ?_, fun e => absurd e (by decide)⟩
      refine mmod_ok hp (z := valZ 4 1 (dg p c)) ?_ hbb.1 hbb.2 h
      rw [show (72 : Int32) = iI 72 from rfl, show (9 : Int32) = iI 9 from rfl, show (27 : Int32) = iI 27 from rfl, show (2 : Int32) = iI 2 from rfl]
      simp only [iI_n, iI_mul, iI_sub, iI_add]
      rfl
theorem mvalue_ok {p ng nf : Nat} {M D C : Nat → Nat} {a b : Int32} {u : St} {Q : Int32 → St → Prop} (hC : MI p ng M nf D C u)
    (h1 : ∀ f w v, f < nf → a = nI f → w < nval (D f) → b = nI w → v 0 0 = 0 → MI p ng M nf D C v → Q (iI (valZ (D f) w (dg p (C f)) % p)) v)
    (h2 : ∀ f, f < nf → a = nI f → (¬ ∃ w, w < nval (D f) ∧ b = nI w) → ∀ v, v 0 0 = 2 → MI p ng M nf D C v → Q 0 v)
    (h3 : (¬ ∃ f, f < nf ∧ a = nI f) → ∀ v, v 0 0 = 1 → MI p ng M nf D C v → Q 0 v) : f_X7_value a b u Q := by
  unfold f_X7_value
  refine mform_ok hC (fun f hf e => ⟨fun _ => ?_, fun q => absurd q (by decide)⟩) (fun q => ⟨fun c => absurd rfl c, fun _ => hold1 ⟨fun _ => h3 q _ (by rw [su_kk]) (hC.T 1), fun c => absurd rfl c⟩⟩)
  subst e
  have b1 := hC.f hf
  have hn := nval_le (D f)
  refine mrdD hC hf (mvals_ok b1.1.1 b1.1.2 ?_)
  refine isIn_ok (by omega) (fun w hw e2 => ⟨fun _ => ?_, fun q => absurd q (by decide)⟩) (fun q => ⟨fun c => absurd rfl c, fun _ => hold2 ⟨fun _ => h2 f hf rfl q _ (by rw [su_kk]) (hC.T 2), fun c => absurd rfl c⟩⟩)
  subst e2
  refine hold0 ⟨fun q => absurd q (by decide), fun _ => mrdC (hC.T 0) hf (mrdD (hC.T 0) hf ?_)⟩
  exact mvalOf_ok (hC.T 0).1 (hn.2 b1.1.1 b1.1.2 (by omega)) b1.1.2 (by omega) (by omega) (h1 f w _ hf rfl hw rfl (by rw [su_kk]) (hC.T 0))
theorem mwOne_ok {p ng nf f g w : Nat} {M D C : Nat → Nat} {u : St} {Q : Int32 → St → Prop} (hC : MI p ng M nf D C u) (hf : f < nf) (hg : g < ng) (hw : w < nval (D f))
    (h : ∀ v, chg [6, 8] [] u v → Q (if valZ (D f) w (dg p (act p (M g) (D f) (C f))) % p = (valZ (D f) w (dg p (C f)) % p * ((det p (M g) ^ wgt (D f) w % p : Nat) : Int)) % p then 1 else 0) v) : f_X7_weighs (nI f) (nI w) (nI g) u Q := by
  have b1 := hC.f hf
  have hp := hC.1
  have hb := isP_b hp.2
  have hn := nval_le (D f)
  have hd2 := hn.2 b1.1.1 b1.1.2 (by omega)
  obtain ⟨⟨m0, m1, m2, m3⟩, hg4, hMl, h625⟩ := hC.m hg
  have hl : ∀ c i, dg p c i < p := fun c i => dg_lt (by omega) c i
  have hdl := det_lt (show 0 < p by omega) (M g)
  have hwl : wgt (D f) w ≤ 6 := by unfold wgt; split <;> (try split) <;> omega
  unfold f_X7_weighs
  rw [mkI, ad1, ad2, ad3]
  refine mrdD hC hf (rdM (by omega) (by omega) (rdM (by omega) (by omega) (rdM (by omega) (by omega) (rdM (by omega) (by omega) ?_))))
  rw [m0, m1, m2, m3]
  have z1 : dg p (M g) 0 * dg p (M g) 3 ≤ 4 * 4 := Nat.mul_le_mul (by have := hl (M g) 0; omega) (by have := hl (M g) 3; omega)
  have z2 : dg p (M g) 1 * dg p (M g) 2 ≤ 4 * 4 := Nat.mul_le_mul (by have := hl (M g) 1; omega) (by have := hl (M g) 2; omega)
  refine mmod_ok hp (z := ((dg p (M g) 0 * dg p (M g) 3 : Nat) : Int) - ((dg p (M g) 1 * dg p (M g) 2 : Nat) : Int)) (by rw [pk_mul, pk_mul, iI_n, iI_n, iI_sub]) (by omega) (by omega) ?_
  rw [iI_nn (Int.emod_nonneg _ (by omega)), show ((((dg p (M g) 0 * dg p (M g) 3 : Nat) : Int) - ((dg p (M g) 1 * dg p (M g) 2 : Nat) : Int)) % (p : Int)).toNat = det p (M g) from rfl]
  refine mrdC hC hf (mvalOf_ok hp hd2 b1.1.2 (by omega) (by omega) ?_)
  have zz := emod_b hp.2 (valZ (D f) w (dg p (C f)))
  refine loopU2 (fun m i a s => f_X7_weighs_L73 (nI f) (nI w) (nI g) (nI (D f)) (nI (det p (M g))) Q _ m a i s) (wgt (D f) w) (fun i a s => s = u ∧ a = iI ((valZ (D f) w (dg p (C f)) % p * ((det p (M g) ^ i : Nat) : Int)) % p)) ?_ ?_ 0 (Nat.zero_le _) (iI (valZ (D f) w (dg p (C f)) % p)) u ⟨rfl, by rw [Nat.pow_zero, show ((1 : Nat) : Int) = 1 from rfl, Int.mul_one, Int.emod_emod_of_dvd _ (Int.dvd_refl _)]⟩
  · rintro m i a s hi ⟨rfl, rfl⟩ kk
    show f_X7_weighs_L73_s _ _ _ _ _ _ _ _ _ _ _
    unfold f_X7_weighs_L73_s
    refine mwgt_ok hd2 b1.1.2 (by omega) ⟨fun c => absurd c (nI_ge hi (by omega)), fun _ => ?_⟩
    have z3 := emod_b hp.2 (valZ (D f) w (dg p (C f)) % p * ((det p (M g) ^ i : Nat) : Int))
    have z4 := prod_b z3.1 z3.2 (show (0 : Int) ≤ (det p (M g) : Int) by omega) (by omega)
    rw [iI_n, iI_mul]
    refine mmod_ok hp rfl (by omega) (by omega) ?_
    intro v16 e16
    rw [nI_1] at e16
    subst e16
    refine kk _ _ ⟨rfl, ?_⟩
    congr 1
    rw [← mq_iff]
    refine mq_tr (mq_mul (mq_mod _ _) (mq_rf _ _)) ?_
    rw [Nat.pow_succ, Int.natCast_mul, Int.mul_assoc]
    exact mq_rf _ _
  · rintro m a s ⟨rfl, rfl⟩
    show f_X7_weighs_L73_s _ _ _ _ _ _ _ _ _ _ _
    unfold f_X7_weighs_L73_s
    refine mwgt_ok hd2 b1.1.2 (by omega) ⟨fun _ => chby_ok hC hf hg ?_, fun c => absurd (nI_le (Nat.le_refl _) (by omega)) c⟩
    intro v cv
    have hal2 := act_lt (p := p) (m := M g) (n := D f) (c := C f) hp.2 b1.1.2
    have hpb := pow_b hp.2 (n := D f + 1) (by omega)
    refine mvalOf_ok (cv.mp hp (by decide)) hd2 b1.1.2 (by omega) (by omega) ?_
    have hh := h v cv
    have z5 := emod_b hp.2 (valZ (D f) w (dg p (act p (M g) (D f) (C f))))
    have z6 := emod_b hp.2 (valZ (D f) w (dg p (C f)) % p * ((det p (M g) ^ wgt (D f) w : Nat) : Int))
    have e : (valZ (D f) w (dg p (C f)) % p * ((det p (M g) ^ wgt (D f) w % p : Nat) : Int)) % p = (valZ (D f) w (dg p (C f)) % p * ((det p (M g) ^ wgt (D f) w : Nat) : Int)) % p := by
      rw [← mq_iff]
      refine mq_mul (mq_rf _ _) ?_
      exact mq_nat rfl
    rw [e] at hh
    refine ⟨fun q => ?_, fun q => ?_⟩
    · rw [if_neg (fun e2 => q (by rw [e2]))] at hh
      exact hh
    · rw [if_pos ((iI_eq (by omega) (by omega) (by omega) (by omega)).mp q)] at hh
      exact hh
theorem tmn {k ng : Nat} (h0 : 0 < ng) (h4 : ng ≤ 5) (hk : k < 1000000000) : nI k - nI k / nI ng * nI ng = nI (k % ng) := by
  rw [iI_n k, tm_ok h0 h4 (by omega) (by omega), Int.tmod_eq_emod_of_nonneg (by omega), iI_n]
  rfl
theorem mwAll_ok {p ng nf : Nat} {M D C : Nat → Nat} {u : St} {Q : Int32 → St → Prop} (hC : MI p ng M nf D C u)
    (h1 : ∀ v, wAll p ng M nf D C → MI p ng M nf D C v → Q 1 v) (h0 : ∀ v, ¬ wAll p ng M nf D C → MI p ng M nf D C v → Q 0 v) : f_X7_weighAll u Q := by
  have h20 := hC.2.2.2.2.1.1
  have hng := hC.2.2.1.1
  unfold f_X7_weighAll
  refine loopU2 (fun m i a s => f_X7_weighAll_L4 Q (fun v20 u21 => ((v20 = 0 ∨ v20 = 1) ∧ Q v20 u21)) m a i s) nf (fun i a s => MI p ng M nf D C s ∧ ((a = 1 ∧ ∀ f, f < i → ∀ g, g < ng → ∀ w, w < nval (D f) → wOne p (D f) (C f) (M g) w) ∨ (a = 0 ∧ ¬ wAll p ng M nf D C))) ?_ ?_ 0 (Nat.zero_le _) 1 u ⟨hC, Or.inl ⟨rfl, fun f hf => absurd hf (Nat.not_lt_zero _)⟩⟩
  · rintro m i a s hi ⟨c1, c2⟩ kk
    show f_X7_weighAll_L4_s _ _ _ _ _ _
    unfold f_X7_weighAll_L4_s
    rw [c1.2.2.2.2.1.2]
    refine ⟨fun c => absurd c (nI_ge hi (by omega)), fun _ => ?_⟩
    have b1 := c1.f hi
    have hn := nval_le (D i)
    have hml : nval (D i) * ng ≤ 2 * 4 := Nat.mul_le_mul hn.1 hng
    refine loopU2 (fun m' k a' s' => f_X7_weighAll_L14 (nI i) Q _ m' a' k s') (nval (D i) * ng) (fun k a' s' => MI p ng M nf D C s' ∧ ((a' = 1 ∧ (∀ f, f < i → ∀ g, g < ng → ∀ w, w < nval (D f) → wOne p (D f) (C f) (M g) w) ∧ ∀ k', k' < k → wOne p (D i) (C i) (M (k' % ng)) (k' / ng)) ∨ (a' = 0 ∧ ¬ wAll p ng M nf D C))) ?_ ?_ 0 (Nat.zero_le _) a s ⟨c1, c2.elim (fun q => Or.inl ⟨q.1, q.2, fun k' hk => absurd hk (Nat.not_lt_zero _)⟩) Or.inr⟩
    · rintro m' k a' s' hk ⟨d1, d2⟩ kk2
      show f_X7_weighAll_L14_s _ _ _ _ _ _ _
      unfold f_X7_weighAll_L14_s
      refine mrdD d1 hi (mvals_ok b1.1.1 b1.1.2 ?_)
      rw [d1.2.2.1.2, pk_mul]
      refine ⟨fun c => absurd c (nI_ge hk (by omega)), fun _ => ⟨fun q v7 e7 => ?_, fun q => ?_⟩⟩
      · rw [nI_1] at e7
        subst e7
        refine kk2 _ _ ⟨d1, ?_⟩
        rcases d2 with d2 | d2
        · rw [d2.1] at q; exact absurd q (by decide)
        · exact Or.inr ⟨rfl, d2.2⟩
      · have hng0 : 0 < ng := Nat.pos_of_ne_zero (fun e => by rw [e, Nat.mul_zero] at hk; exact absurd hk (Nat.not_lt_zero _))
        refine ⟨nI_ne0 hng0 (by omega), fun v8 e8 => ⟨nI_ne0 hng0 (by omega), fun v9 e9 => ?_⟩⟩
        rw [pk_div (by omega) hng0 (by omega)] at e8
        rw [tmn hng0 (by omega) (by omega)] at e9
        subst e8 e9
        have hw : k / ng < nval (D i) := (Nat.div_lt_iff_lt_mul hng0).mpr hk
        have hg := Nat.mod_lt k hng0
        refine mwOne_ok d1 hi hg hw ?_
        intro v cv
        have hv := d1.chg (cv.wk (by decide) (by decide))
        rcases d2 with ⟨e1, d2, d3⟩ | d2
        · by_cases q2 : valZ (D i) (k / ng) (dg p (act p (M (k % ng)) (D i) (C i))) % p = (valZ (D i) (k / ng) (dg p (C i)) % p * ((det p (M (k % ng)) ^ wgt (D i) (k / ng) % p : Nat) : Int)) % p
          · rw [if_pos q2]
            refine ⟨fun q3 => absurd q3 (by decide), fun _ v14 e14 => ?_⟩
            rw [nI_1] at e14
            subst e14
            refine kk2 _ _ ⟨hv, Or.inl ⟨rfl, d2, fun k' hk' => ?_⟩⟩
            by_cases q3 : k' = k
            · subst q3; exact q2
            · exact d3 k' (by omega)
          · rw [if_neg q2]
            refine ⟨fun _ v13 e13 => ?_, fun q3 => absurd rfl q3⟩
            rw [nI_1] at e13
            subst e13
            exact kk2 _ _ ⟨hv, Or.inr ⟨rfl, fun q3 => q2 (q3 i hi (k % ng) hg (k / ng) hw)⟩⟩
        · rw [d2.1] at q; exact absurd rfl q
    · rintro m' a' s' ⟨d1, d2⟩
      show f_X7_weighAll_L14_s _ _ _ _ _ _ _
      unfold f_X7_weighAll_L14_s
      refine mrdD d1 hi (mvals_ok b1.1.1 b1.1.2 ?_)
      rw [d1.2.2.1.2, pk_mul]
      refine ⟨fun _ v18 e18 => ?_, fun c => absurd (nI_le (Nat.le_refl _) (by omega)) c⟩
      rw [nI_1] at e18
      subst e18
      refine kk _ _ ⟨d1, ?_⟩
      rcases d2 with ⟨e1, d2, d3⟩ | d2
      · refine Or.inl ⟨e1, fun f hf g hg w hw => ?_⟩
        by_cases q : f = i
        · subst q
          have hk' : w * ng + g < nval (D f) * ng := by
            have : (w + 1) * ng ≤ nval (D f) * ng := Nat.mul_le_mul_right _ hw
            rw [Nat.add_mul] at this
            omega
          have h3 := d3 _ hk'
          have e2 : (w * ng + g) / ng = w := by
            rw [Nat.mul_comm, Nat.mul_add_div (by omega), Nat.div_eq_of_lt hg, Nat.add_zero]
          have e3 : (w * ng + g) % ng = g := by
            rw [Nat.mul_comm, Nat.mul_add_mod, Nat.mod_eq_of_lt hg]
          rw [e2, e3] at h3
          exact h3
        · exact d2 f (by omega) g hg w hw
      · exact Or.inr d2
  · rintro m a s ⟨c1, c2⟩
    show f_X7_weighAll_L4_s _ _ _ _ _ _
    unfold f_X7_weighAll_L4_s
    rw [c1.2.2.2.2.1.2]
    refine ⟨fun _ => ?_, fun c => absurd (nI_le (Nat.le_refl _) (by omega)) c⟩
    rcases c2 with ⟨rfl, c2⟩ | ⟨rfl, c2⟩
    · exact ⟨Or.inr rfl, h1 s c2 c1⟩
    · exact ⟨Or.inl rfl, h0 s c2 c1⟩
theorem mweighs_ok {p ng nf : Nat} {M D C : Nat → Nat} {u : St} {Q : Int32 → St → Prop} (hC : MI p ng M nf D C u)
    (h1 : ∀ v, wAll p ng M nf D C → MI p ng M nf D C v → Q 1 v) (h0 : ∀ v, ¬ wAll p ng M nf D C → MI p ng M nf D C v → Q 0 v) : f_X7_weighs_ u Q := by
  unfold f_X7_weighs_
  intro u1 e1
  have hT : MI p ng M nf D C u1 := by rw [e1]; exact hC.T 0
  exact mwAll_ok hT (fun v a b => ⟨Or.inr rfl, h1 v a b⟩) (fun v a b => ⟨Or.inl rfl, h0 v a b⟩)
