/-! the class's state between calls -/
def SA : List Nat := [9, 10, 11, 13, 14, 17, 18, 19, 20, 21]
def SB : List Nat := [1, 2, 3, 6]
def CI (al p ng : Nat) (M : Nat → Nat) (nf : Nat) (D C : Nat → Nat) (u : St) : Prop :=
  PP u p ∧ gensOk p ng M ∧ GM al ng M u ∧ GI p ng M u ∧ (nf ≤ 20 ∧ u 0 7 = nI nf) ∧ (∀ f, f < nf → (1 ≤ D f ∧ D f ≤ 4) ∧ C f < p ^ (D f + 1) ∧ u 7 f = nI (D f) ∧ u 8 f = nI (C f)) ∧
  ∃ l n, GL p ng M l n ∧ n ≤ 480 ∧ u 0 5 = nI n ∧ (∀ k, k < n → u 15 k = nI (l k)) ∧ ∀ d, 1 ≤ d → d ≤ 4 → u 12 d = 0 ∨ u 12 d = nI (ob p d l n (p ^ (d + 1)) * n)
theorem CI.chg {al p ng nf : Nat} {M D C : Nat → Nat} {u v : St} (h : CI al p ng M nf D C u) (c : chg SA SB u v) : CI al p ng M nf D C v := by
  obtain ⟨h1, h2, h3, h4, h5, h6, l, n, h7, h8, h9, h10, h11⟩ := h
  refine ⟨c.pp h1 (by decide), h2, h3.chg c (by decide), fun g hg => ?_, ⟨h5.1, ?_⟩, fun f hf => ?_, l, n, h7, h8, ?_, fun k hk => ?_, fun d d1 d2 => ?_⟩
  · have := h3.1
    rw [c.2 (23 + 2 * g) (by omega) (by unfold SA; simp; omega)]; exact h4 g hg
  · rw [c.1 7 (by decide)]; exact h5.2
  · rw [c.2 7 (by decide) (by decide), c.2 8 (by decide) (by decide)]; exact h6 f hf
  · rw [c.1 5 (by decide)]; exact h9
  · rw [c.2 15 (by decide) (by decide)]; exact h10 k hk
  · rw [c.2 12 (by decide) (by decide)]; exact h11 d d1 d2
theorem checkForm_ok {al nf : Nat} {a : Int32} {u : St} {Q : St → Prop} {QX : String → St → Prop} (h20 : nf ≤ 20) (hu : u 0 7 = nI nf) (h1 : ∀ f, f < nf → a = nI f → Q u) (h2 : (¬ ∃ f, f < nf ∧ a = nI f) → QX "java/lang/IndexOutOfBoundsException" u) : f_X6_checkForm al a u Q QX := by
  unfold f_X6_checkForm
  rw [hu]
  refine ⟨fun c => h2 ?_, fun c => ⟨fun d => ?_, fun d => h2 ?_⟩⟩
  · rintro ⟨f, hf, rfl⟩; exact nI_pos (by omega) c
  · rcases pk_ix a (n := nf) (by omega) with q | q | ⟨j, hj, e⟩
    · exact absurd q c
    · exact absurd d (Int32.not_lt.mpr q)
    · exact h1 j hj e
  · rintro ⟨f, hf, rfl⟩; exact d ((nI_ltI (by omega) (by omega)).mpr hf)
theorem isDeg_ok {al : Nat} {a : Int32} {u : St} {Q : Int32 → St → Prop} (h1 : ∀ d, 1 ≤ d → d ≤ 4 → a = nI d → Q 1 u) (h2 : (¬ ∃ d, 1 ≤ d ∧ d ≤ 4 ∧ a = nI d) → Q 0 u) : f_X6_isDegree al a u Q := by
  unfold f_X6_isDegree
  refine ⟨fun c => h2 ?_, fun c => ⟨fun d => h2 ?_, fun d => ?_⟩⟩
  · rintro ⟨k, hk, hk2, rfl⟩
    have := (nI_ltI (a := k) (b := 1) (by omega) (by omega)).mp c
    omega
  · rintro ⟨k, hk, hk2, rfl⟩
    have := (nI_ltI (a := 4) (b := k) (by omega) (by omega)).mp d
    omega
  · rcases pk_ix a (n := 5) (by omega) with q | q | ⟨j, hj, rfl⟩
    · exact absurd (Int32.lt_of_lt_of_le q (by decide : (0 : Int32) ≤ 1)) c
    · exact absurd (Int32.lt_of_lt_of_le (by decide : (4 : Int32) < nI 5) q) d
    · have : ¬ j < 1 := fun q => c ((nI_ltI (a := j) (b := 1) (by omega) (by omega)).mpr q)
      exact h1 j (by omega) (by omega) rfl
theorem checkDeg_ok {al : Nat} {a : Int32} {u : St} {Q : St → Prop} {QX : String → St → Prop} (h1 : ∀ d, 1 ≤ d → d ≤ 4 → a = nI d → Q u) (h2 : (¬ ∃ d, 1 ≤ d ∧ d ≤ 4 ∧ a = nI d) → QX "java/lang/IllegalArgumentException" u) : f_X6_checkDegree al a u Q QX := by
  unfold f_X6_checkDegree
  refine isDeg_ok (fun d h3 h4 e => ⟨fun _ => h1 d h3 h4 e, fun c => absurd c (by decide)⟩) (fun h => ⟨fun c => absurd rfl c, fun _ => h2 h⟩)
theorem stk_ask {p ng d g : Nat} {M : Nat → Nat} {u : St} (h : EQ u p (d + 1) (g * (d + 1) + (d + 1)) (fun k j => if k < g * (d + 1) then stk p M d k j else eqM p (M g) d (k - g * (d + 1)) j % p)) : EQ u p (d + 1) ((g + 1) * (d + 1)) (stk p M d) := by
  rw [show (g + 1) * (d + 1) = g * (d + 1) + (d + 1) by rw [Nat.add_mul, Nat.one_mul]]
  refine h.cong (fun a b ha _ => ?_)
  by_cases c : a < g * (d + 1)
  · rw [if_pos c]
  · rw [if_neg c]
    obtain ⟨r, rfl⟩ := Nat.exists_eq_add_of_le (Nat.le_of_not_lt c)
    unfold stk
    have e1 : (g * (d + 1) + r) / (d + 1) = g := by
      rw [Nat.mul_comm, Nat.mul_add_div (by omega), Nat.div_eq_of_lt (by omega), Nat.add_zero]
    have e2 : (g * (d + 1) + r) % (d + 1) = r := by
      rw [Nat.mul_comm, Nat.mul_add_mod, Nat.mod_eq_of_lt (by omega)]
    rw [e1, e2, show g * (d + 1) + r - g * (d + 1) = r by omega]
theorem dimension_ok {al p ng nf : Nat} {M D C : Nat → Nat} {a : Int32} {u : St} {Q : Int32 → St → Prop} {QX : String → St → Prop} (hC : CI al p ng M nf D C u)
    (h1 : ∀ d f v, 1 ≤ d → d ≤ 4 → a = nI d → p ^ f = fb_ct (lvs p ng d M) (p ^ (d + 1)) → CI al p ng M nf D C v → Q (nI f) v) (h2 : (¬ ∃ d, 1 ≤ d ∧ d ≤ 4 ∧ a = nI d) → QX "java/lang/IllegalArgumentException" u) : f_X6_dimension al a u Q QX := by
  have hC' := hC
  obtain ⟨hp, hM, hG, hI, -⟩ := hC
  have hb := isP_b hp.2
  unfold f_X6_dimension
  refine checkDeg_ok (fun d hd1 hd4 e => ?_) h2
  subst e
  rw [nI_1]
  refine begin_ok ?_
  intro v cv v2 v3
  have hng := hG.1
  refine loopU (S := St) (fun n i s => f_X6_dimension_L16 al (nI d) Q QX (fun u10 => f_X1_freedom al u10 (fun v11 u12 => Q v11 u12)) n i s) ng (fun i s => chg SA SB u s ∧ s 0 2 = nI (d + 1) ∧ s 0 3 = nI (i * (d + 1)) ∧ EQ s p (d + 1) (i * (d + 1)) (stk p M d)) ?_ ?_ 0 (Nat.zero_le _) v ⟨cv.wk (by decide) (by decide), v2, by rw [Nat.zero_mul]; exact v3, fun k j hk _ => by rw [Nat.zero_mul] at hk; exact absurd hk (Nat.not_lt_zero _)⟩
  · rintro n i s hi ⟨c1, c2, c3, c4⟩ kk
    show f_X6_dimension_L16_s _ _ _ _ _ _ _ _
    unfold f_X6_dimension_L16_s
    have hG' := hG.chg c1 (by decide)
    have hmul : (i + 1) * (d + 1) ≤ 4 * 5 := Nat.mul_le_mul (by omega) (by omega)
    rw [Nat.add_mul, Nat.one_mul] at hmul
    rw [hG'.2.2.1]
    refine ⟨fun c => absurd c (nI_ge hi (by omega)), fun _ => ?_⟩
    refine gmat_ok hi hng (by have := hG.2.1; omega) hG'.2.2.1 ?_
    rw [hG'.2.2.2 i hi]
    have h625 := p4_625 hp.2
    refine colfill_ok (c1.pp hp (by decide)) (by have := (hM i hi).1; omega) hd4 ?_
    intro w cw w1 wcol
    have cw2 : chg SA SB u w := c1.tr (cw.wk (by decide) (by decide))
    refine ask_ok (cw2.pp hp (by decide)) hd4 (by omega) (m := i * (d + 1)) (by rw [cw.1 2 (by decide)]; exact c2) (by rw [cw.1 3 (by decide)]; exact c3) (A := stk p M d) (fun k j hk hj => by rw [cw.2 14 (by decide) (by decide)]; exact c4 k j hk hj) wcol ?_
    intro y cy y3 yq v8 e8
    rw [nI_1] at e8
    subst e8
    refine kk _ ⟨cw2.tr (cy.wk (by decide) (by decide)), by rw [cy.1 2 (by decide), cw.1 2 (by decide)]; exact c2, by rw [y3, Nat.add_mul, Nat.one_mul], stk_ask (ng := ng) yq⟩
  · rintro n s ⟨c1, c2, c3, c4⟩
    show f_X6_dimension_L16_s _ _ _ _ _ _ _ _
    unfold f_X6_dimension_L16_s
    have hG' := hG.chg c1 (by decide)
    have hmul : ng * (d + 1) ≤ 4 * 5 := Nat.mul_le_mul (by omega) (by omega)
    rw [hG'.2.2.1]
    refine ⟨fun _ => ?_, fun c => absurd (nI_le (Nat.le_refl _) (by omega)) c⟩
    refine freedom_ok (c1.pp hp (by decide)) (by omega) (by omega) c2 c3 c4 ?_
    intro f w cw hf e
    refine h1 d f w hd1 hd4 rfl (by rw [e]; exact sol_stk hp.2 hd4) ?_
    exact hC'.chg (c1.tr (cw.wk (by decide) (by decide)))
theorem expo_ok {al p f : Nat} {u : St} {Q : Int32 → St → Prop} (hp : PP u p) (hf : f ≤ 5) (h : Q (nI f) u) : f_X2_exponent al (nI (p ^ f)) u Q := by
  have hb := isP_b hp.2
  unfold f_X2_exponent
  refine loopU (S := St) (fun n i s => f_X2_exponent_L2 al (nI (p ^ f)) Q (fun v7 u8 => Q v7 u8) n i s) f (fun i s => s = u) ?_ ?_ 0 (Nat.zero_le _) u rfl
  · rintro n i s hi rfl kk
    show f_X2_exponent_L2_s _ _ _ _ _ _ _
    unfold f_X2_exponent_L2_s
    refine ⟨fun c => absurd (show nI 5 ≤ nI i from c) (nI_ge (by omega) (by omega)), fun _ => howMany_ok hp (by omega) ?_⟩
    have h1 := Nat.pow_lt_pow_right (show 1 < p by omega) hi
    have h2 := pow_b hp.2 hf
    refine ⟨fun c => absurd c (nI_ge h1 (by omega)), fun _ v5 e5 => ?_⟩
    rw [nI_1] at e5
    subst e5
    exact kk _ rfl
  · rintro n s rfl
    show f_X2_exponent_L2_s _ _ _ _ _ _ _
    unfold f_X2_exponent_L2_s
    refine ⟨fun _ => h, fun c => howMany_ok hp (by omega) ?_⟩
    have h2 := pow_b hp.2 hf
    exact ⟨fun _ => h, fun c => absurd (nI_le (Nat.le_refl _) (by omega)) c⟩
theorem dimAnew_ok {al p ng nf : Nat} {M D C : Nat → Nat} {a : Int32} {u : St} {Q : Int32 → St → Prop} {QX : String → St → Prop} (hC : CI al p ng M nf D C u)
    (h1 : ∀ d f v, 1 ≤ d → d ≤ 4 → a = nI d → p ^ f = fb_ct (lvs p ng d M) (p ^ (d + 1)) → CI al p ng M nf D C v → Q (nI f) v) (h2 : (¬ ∃ d, 1 ≤ d ∧ d ≤ 4 ∧ a = nI d) → QX "java/lang/IllegalArgumentException" u) : f_X6_dimensionAnew al a u Q QX := by
  have hC' := hC
  obtain ⟨hp, hM, hG, hI, -⟩ := hC
  have hb := isP_b hp.2
  unfold f_X6_dimensionAnew
  refine checkDeg_ok (fun d hd1 hd4 e => ?_) h2
  subst e
  have hpb := pow_b hp.2 (n := d + 1) (by omega)
  rw [nI_1]
  refine howMany_ok hp (by omega) ?_
  refine loopU2 (fun n i a s => f_X6_dimensionAnew_L20 al (nI d) (nI (p ^ (d + 1))) Q QX (fun v12 u13 => f_X2_exponent al v12 u13 (fun v14 u15 => Q v14 u15)) n a i s) (p ^ (d + 1)) (fun i a s => s = u ∧ a = nI (fb_ct (lvs p ng d M) i)) ?_ ?_ 0 (Nat.zero_le _) 0 u ⟨rfl, rfl⟩
  · rintro n i a s hi ⟨rfl, rfl⟩ kk
    show f_X6_dimensionAnew_L20_s _ _ _ _ _ _ _ _ _ _
    unfold f_X6_dimensionAnew_L20_s
    refine ⟨fun c => absurd c (nI_ge hi (by omega)), fun _ => leaves_ok hp.2 hG hI hd1 hd4 hi ?_⟩
    by_cases c : lvs p ng d M i = true
    · rw [if_pos c]
      refine ⟨fun q => absurd q (by decide), fun _ v9 e9 v10 e10 => ?_⟩
      rw [nI_1] at e9 e10
      subst e9 e10
      exact kk _ _ ⟨rfl, by rw [fb_ct_succ, if_pos c]⟩
    · rw [if_neg c]
      refine ⟨fun _ v8 e8 => ?_, fun q => absurd rfl q⟩
      rw [nI_1] at e8
      subst e8
      exact kk _ _ ⟨rfl, by rw [fb_ct_succ, if_neg c]; rfl⟩
  · rintro n a s ⟨rfl, rfl⟩
    show f_X6_dimensionAnew_L20_s _ _ _ _ _ _ _ _ _ _
    unfold f_X6_dimensionAnew_L20_s
    refine ⟨fun _ => ?_, fun c => absurd (nI_le (Nat.le_refl _) (by omega)) c⟩
    obtain ⟨f, hf, e⟩ := lvs_pow (p := p) (ng := ng) (n := d) (M := M) hp.2 hd4
    show f_X2_exponent al (nI (fb_ct (lvs p ng d M) (p ^ (d + 1)))) _ _
    rw [← e]
    exact expo_ok hp (by omega) (h1 d f _ hd1 hd4 rfl e hC')
theorem leftF_ok {al p d n : Nat} {l : Nat → Nat} {u : St} {Q : Int32 → St → Prop} (hp : PP u p) (hd : d ≤ 4) (hn : n ≤ 480) (h5 : u 0 5 = nI n) (hl : ∀ k, k < n → u 15 k = nI (l k) ∧ l k < 625)
    (h : ∀ v, chg SA SB u v → Q (nI (fb_sm (fun i => fixN p d (l i) (p ^ (d + 1))) n)) v) : f_X6_countLeftForms al (nI d) u Q := by
  have hb := isP_b hp.2
  have hpb := pow_b hp.2 (n := d + 1) (by omega)
  unfold f_X6_countLeftForms
  refine loopU2 (fun n i a s => f_X6_countLeftForms_L4 al (nI d) Q (fun v14 u15 => Q v14 u15) n a i s) n (fun i a s => chg SA SB u s ∧ a = nI (fb_sm (fun i => fixN p d (l i) (p ^ (d + 1))) i)) ?_ ?_ 0 (Nat.zero_le _) 0 u ⟨chg_rf _ _ _, rfl⟩
  · rintro n' i a s hi ⟨c1, rfl⟩ kk
    show f_X6_countLeftForms_L4_s _ _ _ _ _ _ _ _
    unfold f_X6_countLeftForms_L4_s
    rw [show s 0 5 = nI n by rw [c1.1 5 (by decide)]; exact h5]
    refine ⟨fun c => absurd c (nI_ge hi (by omega)), fun _ => ?_⟩
    unfold f_X4_matrix
    refine read_ok (by exact (by omega : i < 480)) ?_
    rw [show s 15 i = nI (l i) by rw [c1.2 15 (by decide) (by decide)]; exact (hl i hi).1]
    refine colfill_ok (c1.pp hp (by decide)) (by have := (hl i hi).2; omega) hd ?_
    intro w cw w1 wcol
    have cw2 : chg SA SB u w := c1.tr (cw.wk (by decide) (by decide))
    rw [nI_1]
    refine begin_ok ?_
    intro b cb b2 b3
    have cb2 : chg SA SB u b := cw2.tr (cb.wk (by decide) (by decide))
    refine ask_ok (cb2.pp hp (by decide)) (n := d) (x := l i) (m := 0) hd (by omega) b2 b3 (A := fun _ _ => 0) (fun k j hk _ => absurd hk (Nat.not_lt_zero _)) (fun i' j hi' hj => by rw [cb.2 13 (by decide) (by decide)]; exact wcol i' j hi' hj) ?_
    intro y cy y3 yq
    have cy2 : chg SA SB u y := cb2.tr (cy.wk (by decide) (by decide))
    have yq2 : EQ y p (d + 1) (d + 1) (fun k j => eqM p (l i) d k j % p) := by
      rw [show 0 + (d + 1) = d + 1 by omega] at yq
      exact yq.cong (fun a b _ _ => by rw [if_neg (Nat.not_lt_zero _), Nat.sub_zero])
    rw [show 0 + (d + 1) = d + 1 by omega] at y3
    refine freedom_ok (cy2.pp hp (by decide)) (by omega) (by omega) (by rw [cy.1 2 (by decide)]; exact b2) y3 yq2 ?_
    intro f z cz hf e
    have cz2 : chg SA SB u z := cy2.tr (cz.wk (by decide) (by decide))
    refine howMany_ok (cz2.pp hp (by decide)) (by omega) ?_
    intro v11 e11 v12 e12
    rw [nI_1] at e12
    rw [e, sol_fix hp.2 hd, nI_add] at e11
    subst e11 e12
    exact kk _ _ ⟨cz2, rfl⟩
  · rintro n' a s ⟨c1, rfl⟩
    show f_X6_countLeftForms_L4_s _ _ _ _ _ _ _ _
    unfold f_X6_countLeftForms_L4_s
    rw [show s 0 5 = nI n by rw [c1.1 5 (by decide)]; exact h5]
    exact ⟨fun _ => h s c1, fun c => absurd (nI_le (Nat.le_refl _) (by omega)) c⟩
theorem ob_le (p d : Nat) (l : Nat → Nat) (n N : Nat) : ob p d l n N ≤ N := fb_ct_le _ _
theorem ob_pos {p ng d n : Nat} {M l : Nat → Nat} (hp : isP p) (hd : d ≤ 4) (h : GL p ng M l n) : 0 < ob p d l n (p ^ (d + 1)) := by
  unfold ob
  rw [fb_ct_pos]
  exact ⟨0, pow_pos' hp _, by rw [isL_iff]; intro i _; exact Nat.zero_le _⟩
theorem orbitsAnew_ok {al p ng nf : Nat} {M D C : Nat → Nat} {a : Int32} {u : St} {Q : Int32 → St → Prop} {QX : String → St → Prop} (hC : CI al p ng M nf D C u)
    (h1 : ∀ d l n v, 1 ≤ d → d ≤ 4 → a = nI d → GL p ng M l n → CI al p ng M nf D C v → Q (nI (ob p d l n (p ^ (d + 1)))) v) (h2 : (¬ ∃ d, 1 ≤ d ∧ d ≤ 4 ∧ a = nI d) → QX "java/lang/IllegalArgumentException" u) : f_X6_orbitsAnew al a u Q QX := by
  have hC' := hC
  obtain ⟨hp, hM, hG, hI, h5, h6, l, n, g1, g2, g3, g4, g5⟩ := hC
  have hb := isP_b hp.2
  have h625 := p4_625 hp.2
  unfold f_X6_orbitsAnew
  refine checkDeg_ok (fun d hd1 hd4 e => ?_) h2
  subst e
  have hpb := pow_b hp.2 (n := d + 1) (by omega)
  have hob := ob_le p d l n (p ^ (d + 1))
  have hpos := ob_pos hp.2 hd4 g1
  have hn0 := g1.2.1
  have hbig : ob p d l n (p ^ (d + 1)) * n ≤ 3125 * 480 := Nat.mul_le_mul (by omega) g2
  have hprod : 0 < ob p d l n (p ^ (d + 1)) * n := Nat.mul_pos hpos hn0
  have fin : ∀ w : St, CI al p ng M nf D C w → w 0 5 = nI n → w 12 d = nI (ob p d l n (p ^ (d + 1)) * n) → ((w 0 5 ≤ 0 → Q 0 w) ∧ (¬ w 0 5 ≤ 0 → f_X6_read al 12 (nI d) w (fun v6 u7 => (¬ u7 0 5 = 0 ∧ ∀ v8 : Int32, v8 = v6 / u7 0 5 → Q v8 u7)))) := by
    intro w hw w5 w12
    rw [w5]
    refine ⟨fun c => absurd c (nI_nle hn0 (by omega)), fun _ => read_ok (by exact (by omega : d < 5)) ?_⟩
    rw [w5, w12]
    refine ⟨nI_ne0 hn0 (by omega), fun v8 e8 => ?_⟩
    rw [pk_div (by omega) hn0 (by omega), Nat.mul_div_cancel _ hn0] at e8
    subst e8
    exact h1 d l n w hd1 hd4 rfl g1 hw
  refine read_ok (by exact (by omega : d < 5)) ⟨fun c => ?_, fun c => ?_⟩
  · rcases g5 d hd1 hd4 with q | q
    · exact absurd q c
    · exact fin u hC' g3 q
  · refine leftF_ok hp hd4 g2 g3 (fun k hk => ⟨g4 k hk, by have := (g1.2.2.1 k hk).1; omega⟩) ?_
    intro v cv
    rw [burnside hp.2 hd4 hM g1]
    refine write_ok (by exact (by omega : d < 5)) ?_
    have hv := hC'.chg cv
    have v5 : v 0 5 = nI n := by rw [cv.1 5 (by decide)]; exact g3
    refine fin _ ?_ (by rw [su_n _ _ _ (by decide)]; exact v5) (by rw [su_sa, sa_k, upd_in])
    obtain ⟨k1, k2, k3, k4, k5, k6, _⟩ := hv
    have c12 : chg [12] [] v (su v 12 d (nI (ob p d l n (p ^ (d + 1)) * n))) := chg_tsu (chg_rf _ _ _) (by decide) (by decide)
    refine ⟨c12.pp k1 (by decide), k2, k3.chg c12 (by decide), fun g hg => ?_, ⟨k5.1, ?_⟩, fun f hf => ?_, l, n, g1, g2, ?_, fun k hk => ?_, fun d' e1 e2 => ?_⟩
    · rw [c12.2 (23 + 2 * g) (by omega) (by simp; omega)]; exact k4 g hg
    · rw [c12.1 7 (by decide)]; exact k5.2
    · rw [c12.2 7 (by decide) (by decide), c12.2 8 (by decide) (by decide)]; exact k6 f hf
    · rw [c12.1 5 (by decide)]; exact v5
    · rw [c12.2 15 (by decide) (by decide), cv.2 15 (by decide) (by decide)]; exact g4 k hk
    · rw [su_sa, sa_k]
      by_cases q : d' = d
      · subst q; rw [upd_in]; exact Or.inr rfl
      · rw [upd_ne _ _ q, cv.2 12 (by decide) (by decide)]; exact g5 d' e1 e2
