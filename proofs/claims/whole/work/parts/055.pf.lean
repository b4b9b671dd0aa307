/-! the reference's values at places, roots, answers about forms -/
theorem sm_mod {p : Nat} {f g : Nat → Nat} : ∀ {n : Nat}, (∀ i, i < n → f i % p = g i % p) → fb_sm f n % p = fb_sm g n % p
  | 0, _ => rfl
  | n + 1, h => by rw [fb_sm_succ, fb_sm_succ, Nat.add_mod, sm_mod (n := n) (fun i hi => h i (by omega)), h n (by omega), ← Nat.add_mod]
def pw (x y i k : Nat) : Nat := y ^ (min k i) * x ^ (k - i)
theorem pw_s (x y i k : Nat) : pw x y i (k + 1) = pw x y i k * (if i ≤ k then x else y) := by
  unfold pw
  by_cases h : i ≤ k
  · rw [if_pos h, Nat.min_eq_right (by omega), Nat.min_eq_right h, show k + 1 - i = (k - i) + 1 by omega, Nat.pow_succ, Nat.mul_assoc]
  · rw [if_neg h, Nat.min_eq_left (by omega), Nat.min_eq_left (by omega), show k + 1 - i = 0 by omega, show k - i = 0 by omega, Nat.pow_succ]
    simp
theorem pw_n {x y i n : Nat} (h : i ≤ n) : pw x y i n = y ^ i * x ^ (n - i) := by unfold pw; rw [Nat.min_eq_right h]
theorem valueAt_ok {p ng nf f x y : Nat} {M D C : Nat → Nat} {u : St} {Q : Int32 → St → Prop} (hC : MI p ng M nf D C u) (hf : f < nf) (hx : x < p) (hy : y < p) (h : Q (nI (atV p x y (D f) (dg p (C f)))) u) : f_X7_valueAt (nI f) (nI x) (nI y) u Q := by
  have b1 := hC.f hf
  have hp := hC.1
  have hb := isP_b hp.2
  unfold f_X7_valueAt
  refine mrdD hC hf ?_
  have hterm : ∀ i, dg p (C f) i * pw x y i (D f) % p ≤ 5 := fun i => by
    have := Nat.mod_lt (dg p (C f) i * pw x y i (D f)) (show p > 0 by omega)
    omega
  refine loopU2 (fun m i a s => f_X7_valueAt_L14 (nI f) (nI x) (nI y) (nI (D f)) Q (fun v20 u21 => f_X7_mod v20 u21 (fun v22 u23 => Q v22 u23)) m a i s) (D f + 1) (fun i a s => s = u ∧ a = nI (fb_sm (fun i => dg p (C f) i * pw x y i (D f) % p) i)) ?_ ?_ 0 (Nat.zero_le _) 0 u ⟨rfl, rfl⟩
  · rintro m i a s hi ⟨rfl, rfl⟩ kk
    show f_X7_valueAt_L14_s _ _ _ _ _ _ _ _ _ _
    unfold f_X7_valueAt_L14_s
    refine ⟨fun c => absurd ((nI_ltI (by omega) (by omega)).mp c) (by omega), fun _ => mrdC hC hf (fig_ok hp (by omega) (by omega) ?_)⟩
    have hF := dg_lt (show 0 < p by omega) (C f) i
    refine loopU2 (fun m' k a' s' => f_X7_valueAt_L38 (nI f) (nI x) (nI y) (nI (D f)) _ (nI i) Q _ m' a' k s') (D f) (fun k a' s' => s' = s ∧ a' = nI (dg p (C f) i * pw x y i k % p)) ?_ ?_ 0 (Nat.zero_le _) (nI (dg p (C f) i)) s ⟨rfl, by unfold pw; simp [Nat.mod_eq_of_lt hF]⟩
    · rintro m' k a' s' hk ⟨rfl, rfl⟩ kk2
      show f_X7_valueAt_L38_s _ _ _ _ _ _ _ _ _ _ _ _
      unfold f_X7_valueAt_L38_s
      have hml := Nat.mod_lt (dg p (C f) i * pw x y i k) (show p > 0 by omega)
      have hstep : ∀ z, z = (if i ≤ k then x else y) → dg p (C f) i * pw x y i k % p * z % p = dg p (C f) i * pw x y i (k + 1) % p := by
        intro z hz
        rw [pw_s, ← hz, ← Nat.mul_assoc, Nat.mul_mod, Nat.mod_mod, ← Nat.mul_mod]
      have m1 : dg p (C f) i * pw x y i k % p * x ≤ 5 * 5 := Nat.mul_le_mul (by omega) (by omega)
      have m2 : dg p (C f) i * pw x y i k % p * y ≤ 5 * 5 := Nat.mul_le_mul (by omega) (by omega)
      refine ⟨fun c => absurd c (nI_ge hk (by omega)), fun _ => ⟨fun c => ?_, fun c => ?_⟩⟩
      · have hik : i ≤ k := Nat.le_of_not_lt (fun q2 => (nI_ge q2 (by omega)) c)
        rw [pk_mul]
        refine mmod_n hp rfl (by omega) ?_
        rw [hstep x (by rw [if_pos hik])]
        intro v10 e10
        rw [nI_1] at e10
        subst e10
        exact kk2 _ _ ⟨rfl, rfl⟩
      · have hik : ¬ i ≤ k := fun q2 => c (nI_le q2 (by omega))
        rw [pk_mul]
        refine mmod_n hp rfl (by omega) ?_
        rw [hstep y (by rw [if_neg hik])]
        intro v10 e10
        rw [nI_1] at e10
        subst e10
        exact kk2 _ _ ⟨rfl, rfl⟩
    · rintro m' a' s' ⟨rfl, rfl⟩
      show f_X7_valueAt_L38_s _ _ _ _ _ _ _ _ _ _ _ _
      unfold f_X7_valueAt_L38_s
      refine ⟨fun _ v17 e17 v18 e18 => ?_, fun c => absurd (nI_le (Nat.le_refl _) (by omega)) c⟩
      rw [nI_add] at e17
      rw [nI_1] at e18
      subst e17 e18
      exact kk _ _ ⟨rfl, by rw [fb_sm_succ]⟩
  · rintro m a s ⟨rfl, rfl⟩
    show f_X7_valueAt_L14_s _ _ _ _ _ _ _ _ _ _
    unfold f_X7_valueAt_L14_s
    refine ⟨fun _ => ?_, fun c => absurd ((nI_ltI (by omega) (by omega)).mpr (by omega)) c⟩
    have hs := sm_le hterm (D f + 1)
    have : (D f + 1) * 5 ≤ 5 * 5 := Nat.mul_le_mul (by omega) (by omega)
    refine mmod_n hp rfl (by omega) ?_
    have e : fb_sm (fun i => dg p (C f) i * pw x y i (D f) % p) (D f + 1) % p = atV p x y (D f) (dg p (C f)) := by
      unfold atV
      refine sm_mod (fun i hi => ?_)
      rw [pw_n (by omega), Nat.mod_mod]
      have e2 : dg p (C f) i * (x ^ (D f - i) % p) * (y ^ i % p) % p = dg p (C f) i * x ^ (D f - i) * y ^ i % p := by
        rw [Nat.mul_mod (dg p (C f) i * (x ^ (D f - i) % p)), Nat.mul_mod (dg p (C f) i), Nat.mod_mod, Nat.mod_mod, ← Nat.mul_mod (dg p (C f) i), ← Nat.mul_mod]
      rw [e2]
      congr 1
      rw [Nat.mul_assoc, Nat.mul_comm (y ^ i)]
    rw [e]; exact h
theorem mat_ok {p ng nf : Nat} {M D C : Nat → Nat} {a b c : Int32} {u : St} {Q : Int32 → St → Prop} (hC : MI p ng M nf D C u)
    (h1 : ∀ f x y v, f < nf → a = nI f → x < p → b = nI x → y < p → c = nI y → v 0 0 = 0 → MI p ng M nf D C v → Q (nI (atV p x y (D f) (dg p (C f)))) v)
    (h2 : ∀ f, f < nf → a = nI f → (¬ ((∃ x, x < p ∧ b = nI x) ∧ ∃ y, y < p ∧ c = nI y)) → ∀ v, v 0 0 = 2 → MI p ng M nf D C v → Q 0 v)
    (h3 : (¬ ∃ f, f < nf ∧ a = nI f) → ∀ v, v 0 0 = 1 → MI p ng M nf D C v → Q 0 v) : f_X7_at a b c u Q := by
  unfold f_X7_at
  refine mform_ok hC (fun f hf e => ⟨fun _ => ?_, fun q => absurd q (by decide)⟩) (fun q => ⟨fun c => absurd rfl c, fun _ => hold1 ⟨fun _ => h3 q _ (by rw [su_kk]) (hC.T 1), fun c => absurd rfl c⟩⟩)
  refine mnum_ok hC.1 (fun x hx ex => ⟨fun q => absurd q (by decide), fun _ => ?_⟩) (fun q => ⟨fun _ => hold2 ⟨fun _ => h2 f hf e (fun q2 => q q2.1) _ (by rw [su_kk]) (hC.T 2), fun c => absurd rfl c⟩, fun c => absurd rfl c⟩)
  refine mnum_ok hC.1 (fun y hy ey => ⟨fun _ => ?_, fun q => absurd q (by decide)⟩) (fun q => ⟨fun c => absurd rfl c, fun _ => hold2 ⟨fun _ => h2 f hf e (fun q2 => q q2.2) _ (by rw [su_kk]) (hC.T 2), fun c => absurd rfl c⟩⟩)
  subst e ex ey
  exact hold0 ⟨fun q => absurd q (by decide), fun _ => valueAt_ok (hC.T 0) hf hx hy (h1 f x y _ hf rfl hx rfl hy rfl (by rw [su_kk]) (hC.T 0))⟩
/-! how often -/
def RN (r : Nat) (F : Nat → Nat) (u : St) : Prop := ∀ j, j < r → u 8 j = nI (F j)
theorem RN.lo {r r' : Nat} {F : Nat → Nat} {u : St} (h : RN r F u) (hr : r' ≤ r) : RN r' F u := fun j hj => h j (by omega)
theorem l92_ok {p t n : Nat} {a4 : Int32} {F : Nat → Nat} {u : St} {Q K : Int32 → St → Prop} (hp : MP u p) (hn : n ≤ 4) (ht : t < p) (hF : ∀ j, F j < p) (hR : RN (n + 1) F u) (h : ∀ v, chg [8] [] u v → RN (n + 1) (rowP p t n F) v → K (nI (carr p t F n)) v) : ∃ m, f_X7_oftenAt_L92 (nI t) (nI n) a4 Q K m 0 0 u := by
  have hb := isP_b hp.2
  refine loopU2 (fun m i a s => f_X7_oftenAt_L92 (nI t) (nI n) a4 Q K m a i s) (n + 1) (fun i a s => chg [8] [] u s ∧ a = nI (if i = 0 then 0 else carr p t F (i - 1)) ∧ RN (n + 1) (fun j => if j < i then carr p t F j else F j) s) ?_ ?_ 0 (Nat.zero_le _) 0 u ⟨chg_rf _ _ _, rfl, fun j hj => by dsimp only; rw [if_neg (by omega)]; exact hR j hj⟩
  · rintro m i a s hi ⟨c1, rfl, c2⟩ kk
    show f_X7_oftenAt_L92_s _ _ _ _ _ _ _ _ _
    unfold f_X7_oftenAt_L92_s
    have hpp := c1.mp hp (by decide)
    refine ⟨fun c => absurd ((nI_ltI (by omega) (by omega)).mp c) (by omega), fun _ => ?_⟩
    rw [hpp.1]
    refine ⟨fun c => absurd c (nI_ge ht (by omega)), fun _ => rdM (by omega) (by omega) ?_⟩
    have h2 := c2 i (by omega)
    dsimp only at h2
    rw [if_neg (by omega)] at h2
    rw [h2, pk_mul, nI_add]
    have hcl : (if i = 0 then 0 else carr p t F (i - 1)) < p := by
      split
      · omega
      · exact carr_lt (by omega) _ _
    have hm : t * (if i = 0 then 0 else carr p t F (i - 1)) ≤ 5 * 5 := Nat.mul_le_mul (by omega) (by omega)
    have hFi := hF i
    have hcar : (F i + t * (if i = 0 then 0 else carr p t F (i - 1))) % p = carr p t F i := by
      cases i with
      | zero => simp [carr]
      | succ i => rw [if_neg (by omega)]; rfl
    refine mmod_n hpp rfl (by omega) ?_
    rw [hcar]
    refine wrM (by omega) (by omega) ?_
    intro v7 e7
    rw [nI_1] at e7
    subst e7
    refine kk _ _ ⟨chg_tsu c1 (by decide) (by decide), by rw [if_neg (by omega), Nat.add_sub_cancel], fun j hj => ?_⟩
    have h3 := c2 j hj
    dsimp only at h3 ⊢
    rw [su_sa, sa_k]
    by_cases e : j = i
    · subst e; rw [upd_in, if_pos (by omega)]
    · rw [upd_ne _ _ e, h3]
      by_cases q : j < i
      · rw [if_pos q, if_pos (by omega)]
      · rw [if_neg q, if_neg (by omega)]
  · rintro m a s ⟨c1, rfl, c2⟩
    show f_X7_oftenAt_L92_s _ _ _ _ _ _ _ _ _
    unfold f_X7_oftenAt_L92_s
    refine ⟨fun _ => ?_, fun c => absurd ((nI_ltI (by omega) (by omega)).mpr (by omega)) c⟩
    rw [if_neg (by omega), Nat.add_sub_cancel]
    exact h s c1 (fun j hj => by
      have h3 := c2 j hj
      dsimp only at h3
      rw [h3]
      unfold rowP
      by_cases q : j ≤ n
      · rw [if_pos q, if_pos (by omega)]
      · rw [if_neg q, if_neg (by omega)])
theorem l154_no {t n : Nat} {a4 a5 : Int32} {u : St} {Q : Int32 → St → Prop} {K : St → Prop} (hne : a5 = 0 ∨ ¬ nI t = u 0 1) (h : K u) : ∃ m, f_X7_oftenAt_L154 (nI t) (nI n) a4 a5 Q K m 0 u := by
  refine ⟨1, ?_⟩
  show f_X7_oftenAt_L154_s _ _ _ _ _ _ _ _ _
  unfold f_X7_oftenAt_L154_s
  exact ⟨fun _ => h, fun _ => ⟨fun _ => h, fun c => ⟨fun _ => h, fun e => hne.elim (fun q => absurd q c) (fun q => absurd e q)⟩⟩⟩
theorem l154_ok {p n : Nat} {a4 : Int32} {F : Nat → Nat} {u : St} {Q : Int32 → St → Prop} {K : St → Prop} (hp : MP u p) (hn : n ≤ 4) (hR : RN (n + 1) F u) (h : ∀ v, chg [8] [] u v → RN (n + 1) (rowY n F) v → K v) : ∃ m, f_X7_oftenAt_L154 (nI p) (nI n) a4 1 Q K m 0 u := by
  refine loopU (S := St) (fun m i s => f_X7_oftenAt_L154 (nI p) (nI n) a4 1 Q K m i s) n (fun i s => chg [8] [] u s ∧ RN (n + 1) (fun j => if j < i then F (j + 1) else F j) s) ?_ ?_ 0 (Nat.zero_le _) u ⟨chg_rf _ _ _, fun j hj => by dsimp only; rw [if_neg (by omega)]; exact hR j hj⟩
  · rintro m i s hi ⟨c1, c2⟩ kk
    show f_X7_oftenAt_L154_s _ _ _ _ _ _ _ _ _
    unfold f_X7_oftenAt_L154_s
    have hpp := c1.mp hp (by decide)
    refine ⟨fun c => absurd c (nI_ge hi (by omega)), fun _ => ⟨fun c => absurd c (by decide), fun _ => ⟨fun c => absurd hpp.1.symm c, fun _ => ?_⟩⟩⟩
    rw [nI_1]
    refine rdM (by omega) (by omega) (wrM (by omega) (by omega) ?_)
    intro v8 e8
    subst e8
    refine kk _ ⟨chg_tsu c1 (by decide) (by decide), fun j hj => ?_⟩
    have h2 := c2 (i + 1) (by omega)
    have h3 := c2 j hj
    dsimp only at h2 h3 ⊢
    rw [if_neg (by omega)] at h2
    rw [su_sa, sa_k]
    by_cases e : j = i
    · subst e; rw [upd_in, if_pos (by omega)]; exact h2
    · rw [upd_ne _ _ e, h3]
      by_cases q : j < i
      · rw [if_pos q, if_pos (by omega)]
      · rw [if_neg q, if_neg (by omega)]
  · rintro m s ⟨c1, c2⟩
    show f_X7_oftenAt_L154_s _ _ _ _ _ _ _ _ _
    unfold f_X7_oftenAt_L154_s
    exact ⟨fun _ => h s c1 c2, fun c => absurd (nI_le (Nat.le_refl _) (by omega)) c⟩
theorem l60_stop {t n : Nat} {a3 a4 : Int32} {u : St} {Q K : Int32 → St → Prop} (h : K a4 u) : f_X7_oftenAt_L60 (nI t) Q K (n + 1) a3 a4 0 u := by
  show f_X7_oftenAt_L60_s _ _ _ _ _ _ _ _
  unfold f_X7_oftenAt_L60_s
  exact ⟨fun _ => h, fun c => absurd rfl c⟩
theorem l60_ok {p t R : Nat} {u0 : St} {Q K : Int32 → St → Prop} (hp : MP u0 p) (ht : t ≤ p) (h : ∀ v, chg [8] [] u0 v → K (nI R) v) : ∀ (r k : Nat) (F : Nat → Nat) (s : St), r ≤ 5 → (∀ j, F j < p) → RN r F s → chg [8] [] u0 s → k + dvs p t r F = R → f_X7_oftenAt_L60 (nI t) Q K (r + 2) (dI r) (nI k) 1 s := by
  have hb := isP_b hp.2
  intro r
  induction r with
  | zero =>
    intro k F s _ _ _ c1 e
    show f_X7_oftenAt_L60_s _ _ _ _ _ _ _ _
    unfold f_X7_oftenAt_L60_s
    refine ⟨fun c => absurd c (by decide), fun _ => ⟨fun _ => ?_, fun c => absurd (show dI 0 < 0 by decide) c⟩⟩
    have : k = R := e
    rw [this]; exact h s c1
  | succ r ih =>
    intro k F s hr hF hR c1 e
    have hpp := c1.mp hp (by decide)
    rw [dvs_s p t r F] at e
    show f_X7_oftenAt_L60_s (nI t) Q K (f_X7_oftenAt_L60 (nI t) Q K (r + 2)) _ _ _ _
    unfold f_X7_oftenAt_L60_s
    rw [dI_s, hpp.1]
    have yes : ∀ (k2 : Int32) (F' : Nat → Nat) (s' : St), k2 = nI k + 1 → (∀ j, F' j < p) → RN r F' s' → chg [8] [] u0 s' → k + (dvs p t r F' + 1) = R → ∀ v41 : Int32, v41 = nI r + (-1) → f_X7_oftenAt_L60 (nI t) Q K (r + 2) v41 k2 1 s' := by
      intro k2 F' s' ek hF' hR' cs' e' v41 e41
      rw [nI_1] at ek
      rw [nI_d] at e41
      subst ek e41
      exact ih (k + 1) F' s' (by omega) hF' hR' cs' (by omega)
    have no : ∀ (k2 : Int32) (s' : St), k2 = nI k + 0 → chg [8] [] u0 s' → k = R → ∀ v36 : Int32, v36 = nI r + (-1) → f_X7_oftenAt_L60 (nI t) Q K (r + 2) v36 k2 0 s' := by
      intro k2 s' ek cs' e' v36 _
      rw [show nI k + 0 = nI k from nI_add k 0] at ek
      subst ek
      refine l60_stop ?_
      rw [e']; exact h s' cs'
    refine ⟨fun c => absurd c (by decide), fun _ => ⟨fun c => absurd c (nI_pos (by omega)), fun _ => ⟨fun c => ?_, fun c => ?_⟩⟩⟩
    · have hne : ¬ t = p := fun q => c (by rw [q])
      rw [if_neg hne] at e
      refine l92_ok hpp (by omega) (by omega) hF hR ?_
      intro v cv rv
      have hpv := cv.mp hpp (by decide)
      have hnep : ¬ nI t = v 0 1 := by rw [hpv.1]; exact c
      have hcl := carr_lt (t := t) (show 0 < p by omega) F r
      refine ⟨fun q => l154_no (Or.inl rfl) ?_, fun q => l154_no (Or.inr hnep) ?_⟩
      · intro v35 e35 v36 e36
        rw [if_neg (fun e2 => q (by rw [e2]; rfl)), Nat.add_zero] at e
        exact no v35 v e35 (c1.tr cv) e v36 e36
      · intro v40 e40 v41 e41
        rw [if_pos ((nI_eq (b := 0) (by omega) (by omega)).mp q)] at e
        exact yes v40 _ v e40 (fun j => by unfold rowP; split <;> first | exact carr_lt (by omega) _ _ | exact hF _) (rv.lo (by omega)) (c1.tr cv) e v41 e41
    · have he : t = p := (nI_eq (by omega) (by omega)).mp c
      rw [if_pos he] at e
      refine rdM (i := 0) (by omega) (by omega) ?_
      rw [hR 0 (by omega)]
      have hF0 := hF 0
      refine ⟨1, ?_⟩
      show f_X7_oftenAt_L92_s _ _ _ _ _ _ _ _ _
      unfold f_X7_oftenAt_L92_s
      refine ⟨fun c2 => absurd c2 (by rw [show (0 : Int32) = nI 0 from rfl]; exact fun q => absurd ((nI_ltI (by omega) (by omega)).mp q) (by omega)), fun _ => ⟨fun _ => ?_, fun c2 => absurd (by rw [hpp.1, he]; exact Int32.le_refl _) c2⟩⟩
      refine ⟨fun q => l154_no (Or.inl rfl) ?_, fun q => ?_⟩
      · intro v50 e50 v51 e51
        rw [if_neg (fun e2 => q (by rw [e2]; rfl)), Nat.add_zero] at e
        exact no v50 s e50 c1 e v51 e51
      · rw [he]
        refine l154_ok hpp (by omega) hR ?_
        intro v cv rv v55 e55 v56 e56
        rw [if_pos ((nI_eq (b := 0) (by omega) (by omega)).mp q)] at e
        rw [← he]
        exact yes v55 _ v e55 (fun j => by unfold rowY; split <;> exact hF _) (rv.lo (by omega)) (c1.tr cv) e v56 e56
theorem often_ok {p ng nf f t : Nat} {M D C : Nat → Nat} {u : St} {Q : Int32 → St → Prop} (hC : MI p ng M nf D C u) (hf : f < nf) (ht : t ≤ p) (h : ∀ v, chg [8] [] u v → Q (nI (dvs p t (D f + 1) (dg p (C f)))) v) : f_X7_oftenAt (nI f) (nI t) u Q := by
  have b1 := hC.f hf
  have hp := hC.1
  have hb := isP_b hp.2
  unfold f_X7_oftenAt
  refine mrdD hC hf (mrdC hC hf ⟨fun q => ?_, fun q => ?_⟩)
  · refine loopU (S := St) (fun m i s => f_X7_oftenAt_L23 (nI f) (nI t) (nI (D f)) Q _ m i s) (D f + 1) (fun i s => chg [8] [] u s ∧ ∀ j, j < i → s 8 j = nI (dg p (C f) j)) ?_ ?_ 0 (Nat.zero_le _) u ⟨chg_rf _ _ _, fun j hj => absurd hj (Nat.not_lt_zero _)⟩
    · rintro m i s hi ⟨c1, c2⟩ kk
      show f_X7_oftenAt_L23_s _ _ _ _ _ _ _ _
      unfold f_X7_oftenAt_L23_s
      have hs := hC.chg (c1.wk (by decide) (by decide))
      refine ⟨fun c => absurd ((nI_ltI (by omega) (by omega)).mp c) (by omega), fun _ => mrdC hs hf (fig_ok hs.1 (by omega) (by omega) (wrM (by omega) (by omega) ?_))⟩
      intro v9 e9
      rw [nI_1] at e9
      subst e9
      refine kk _ ⟨chg_tsu c1 (by decide) (by decide), fun j hj => ?_⟩
      rw [su_sa, sa_k]
      by_cases e : j = i
      · subst e; rw [upd_in]
      · rw [upd_ne _ _ e]; exact c2 j (by omega)
    · rintro m s ⟨c1, c2⟩
      show f_X7_oftenAt_L23_s _ _ _ _ _ _ _ _
      unfold f_X7_oftenAt_L23_s
      refine ⟨fun _ => ⟨D f + 1 + 2, ?_⟩, fun c => absurd ((nI_ltI (by omega) (by omega)).mpr (by omega)) c⟩
      have hl := l60_ok (Q := Q) (K := fun v58 u59 => Q v58 u59) hp ht (fun v cv => h v cv) (D f + 1) 0 (dg p (C f)) s (by omega) (fun j => dg_lt (by omega) _ _) c2 c1 (by omega)
      rw [dI_s] at hl
      exact hl
  · have hz : C f = 0 := (nI_eq (b := 0) (by omega) (by omega)).mp q
    rw [nI_1]
    have hh := h u (chg_rf _ _ _)
    rw [hz, dvs_0 (fun i => by unfold dg; rw [Nat.zero_div, Nat.zero_mod])] at hh
    exact hh
theorem mmult_ok {p ng nf : Nat} {M D C : Nat → Nat} {a b : Int32} {u : St} {Q : Int32 → St → Prop} (hC : MI p ng M nf D C u)
    (h1 : ∀ f t v, f < nf → a = nI f → t ≤ p → b = nI t → v 0 0 = 0 → MI p ng M nf D C v → Q (nI (dvs p t (D f + 1) (dg p (C f)))) v)
    (h2 : (¬ ((∃ f, f < nf ∧ a = nI f) ∧ ∃ t, t ≤ p ∧ b = nI t)) → ∀ v, v 0 0 = 1 → MI p ng M nf D C v → Q 0 v) : f_X7_multiplicity a b u Q := by
  have hb := isP_b hC.1.2
  unfold f_X7_multiplicity
  refine mform_ok hC (fun f hf e => ⟨fun q => absurd q (by decide), fun _ => ?_⟩) (fun q => ⟨fun _ => hold1 ⟨fun _ => h2 (fun q2 => q q2.1) _ (by rw [su_kk]) (hC.T 1), fun c => absurd rfl c⟩, fun c => absurd rfl c⟩)
  rw [hC.1.1]
  refine isIn_k (n := p + 1) (nI_pred p).symm (by omega) (fun t ht e2 => ⟨fun q => absurd q (by decide), fun _ => ?_⟩) (fun q => ⟨fun _ => hold1 ⟨fun _ => h2 ?_ _ (by rw [su_kk]) (hC.T 1), fun c => absurd rfl c⟩, fun c => absurd rfl c⟩)
  · subst e e2
    refine hold0 ⟨fun q => absurd q (by decide), fun _ => often_ok (hC.T 0) hf (by omega) ?_⟩
    intro v cv
    exact h1 f t v hf rfl (by omega) rfl (by rw [cv.1 0 (by decide), su_kk]) ((hC.T 0).chg (cv.wk (by decide) (by decide)))
  · rintro ⟨_, t, ht, e2⟩
    exact q ⟨t, by omega, e2⟩
theorem mroots_ok {p ng nf f : Nat} {M D C : Nat → Nat} {u : St} {Q : Int32 → St → Prop} (hC : MI p ng M nf D C u) (hf : f < nf) (h : ∀ v, chg [8] [] u v → Q (nI (rts p (D f) (C f))) v) : f_X7_roots (nI f) u Q := by
  have hb := isP_b hC.1.2
  have b1 := hC.f hf
  unfold f_X7_roots
  refine loopU2 (fun m i a s => f_X7_roots_L4 (nI f) Q (fun v9 u10 => Q v9 u10) m a i s) (p + 1) (fun i a s => chg [8] [] u s ∧ a = nI (fb_ct (fun t => decide (0 < dvs p t (D f + 1) (dg p (C f)))) i)) ?_ ?_ 0 (Nat.zero_le _) 0 u ⟨chg_rf _ _ _, rfl⟩
  · rintro m i a s hi ⟨c1, rfl⟩ kk
    show f_X7_roots_L4_s _ _ _ _ _ _ _
    unfold f_X7_roots_L4_s
    have hs := hC.chg (c1.wk (by decide) (by decide))
    rw [hs.1.1]
    refine ⟨fun c => absurd ((nI_ltI (by omega) (by omega)).mp c) (by omega), fun _ => often_ok hs hf (by omega) ?_⟩
    intro v cv
    have hle := dvs_le p i (D f + 1) (dg p (C f))
    refine ⟨fun c3 v5 e5 v6 e6 => ?_, fun c3 v6 e6 v7 e7 => ?_⟩
    · rw [show (0 : Int32) = nI 0 from rfl, nI_add] at e5
      rw [nI_1] at e6
      subst e5 e6
      have hz : ¬ 0 < dvs p i (D f + 1) (dg p (C f)) := fun q => (nI_nle q (by omega)) c3
      exact kk _ _ ⟨c1.tr cv, by rw [fb_ct_succ, if_neg (by simpa using hz)]⟩
    · rw [nI_1] at e6 e7
      subst e6 e7
      have hz : 0 < dvs p i (D f + 1) (dg p (C f)) := Nat.pos_of_ne_zero (fun q => c3 (by rw [q]; exact Int32.le_refl _))
      exact kk _ _ ⟨c1.tr cv, by rw [fb_ct_succ, if_pos (by simpa using hz)]⟩
  · rintro m a s ⟨c1, rfl⟩
    show f_X7_roots_L4_s _ _ _ _ _ _ _
    unfold f_X7_roots_L4_s
    have hs := hC.chg (c1.wk (by decide) (by decide))
    rw [hs.1.1]
    exact ⟨fun _ => h s c1, fun c => absurd ((nI_ltI (by omega) (by omega)).mpr (by omega)) c⟩
theorem mnull_ok {p ng nf f : Nat} {M D C : Nat → Nat} {u : St} {Q : Int32 → St → Prop} (hC : MI p ng M nf D C u) (hf : f < nf) (h1 : nul p (D f) (C f) → ∀ v, chg [8] [] u v → Q 1 v) (h2 : ¬ nul p (D f) (C f) → ∀ v, chg [8] [] u v → Q 0 v) : f_X7_isNull (nI f) u Q := by
  have hb := isP_b hC.1.2
  have b1 := hC.f hf
  unfold f_X7_isNull
  refine loopU2 (fun m i a s => f_X7_isNull_L4 (nI f) Q (fun v9 u10 => Q v9 u10) m a i s) (p + 1) (fun i a s => chg [8] [] u s ∧ ((a = 0 ∧ ∀ t, t < i → ¬ D f < 2 * dvs p t (D f + 1) (dg p (C f))) ∨ (a = 1 ∧ ∃ t, t < i ∧ D f < 2 * dvs p t (D f + 1) (dg p (C f))))) ?_ ?_ 0 (Nat.zero_le _) 0 u ⟨chg_rf _ _ _, Or.inl ⟨rfl, fun t ht => absurd ht (Nat.not_lt_zero _)⟩⟩
  · rintro m i a s hi ⟨c1, c2⟩ kk
    show f_X7_isNull_L4_s _ _ _ _ _ _ _
    unfold f_X7_isNull_L4_s
    have hs := hC.chg (c1.wk (by decide) (by decide))
    rw [hs.1.1]
    refine ⟨fun c => absurd ((nI_ltI (by omega) (by omega)).mp c) (by omega), fun _ => often_ok hs hf (by omega) ?_⟩
    intro v cv
    have hv := hs.chg (cv.wk (by decide) (by decide))
    have hle := dvs_le p i (D f + 1) (dg p (C f))
    rw [two_mul]
    refine mrdD hv hf ⟨fun c3 v5 e5 => ?_, fun c3 v5 e5 => ?_⟩
    · rw [nI_1] at e5
      subst e5
      refine kk _ _ ⟨c1.tr cv, ?_⟩
      rcases c2 with ⟨e, c2⟩ | ⟨e, t, ht, c2⟩
      · refine Or.inl ⟨e, fun t ht => ?_⟩
        by_cases q : t = i
        · subst q
          exact fun q2 => (nI_ge q2 (by omega)) c3
        · exact c2 t (by omega)
      · exact Or.inr ⟨e, t, by omega, c2⟩
    · rw [nI_1] at e5
      subst e5
      exact kk _ _ ⟨c1.tr cv, Or.inr ⟨rfl, i, by omega, Nat.lt_of_not_le (fun q => c3 (nI_le q (by omega)))⟩⟩
  · rintro m a s ⟨c1, c2⟩
    show f_X7_isNull_L4_s _ _ _ _ _ _ _
    unfold f_X7_isNull_L4_s
    have hs := hC.chg (c1.wk (by decide) (by decide))
    rw [hs.1.1]
    refine ⟨fun _ => ?_, fun c => absurd ((nI_ltI (by omega) (by omega)).mpr (by omega)) c⟩
    rcases c2 with ⟨rfl, c2⟩ | ⟨rfl, t, ht, c2⟩
    · exact h2 (fun ⟨t, ht, q⟩ => c2 t ht q) s c1
    · exact h1 ⟨t, ht, c2⟩ s c1
theorem mtold_ok {p ng nf f w : Nat} {M D C : Nat → Nat} {u : St} {Q : Int32 → St → Prop} (hC : MI p ng M nf D C u) (hf : f < nf) (hw : w ≤ 6) (h : ∀ r v, formR p ng M (D f) (C f) (nI w) r → v 0 0 = u 0 0 → MI p ng M nf D C v → Q r v) : f_X7_told (nI f) (nI w) u Q := by
  have b1 := hC.f hf
  have c8 : ∀ {v : St}, chg [8] [] u v → v 0 0 = u 0 0 ∧ MI p ng M nf D C v := fun cv => ⟨cv.1 0 (by decide), hC.chg (cv.wk (by decide) (by decide))⟩
  unfold f_X7_told
  have hwn : ∀ k : Nat, k ≤ 6 → nI w = nI k → w = k := fun k hk e => (nI_eq (by omega) (by omega)).mp e
  refine ⟨fun e => ?_, fun e => ?_, fun e => ?_, fun e => ?_, fun e => ?_, fun e => ?_, fun e => ?_⟩
  · have e1 := hwn 0 (by omega) e
    subst e1
    exact mrdD hC hf (h _ u (formR_of 0 (by omega) ⟨fun _ => rfl, by omega, by omega, by omega, by omega, by omega, by omega⟩) rfl hC)
  · have e1 := hwn 1 (by omega) e
    subst e1
    exact mrdC hC hf (h _ u (formR_of 1 (by omega) ⟨by omega, fun _ => rfl, by omega, by omega, by omega, by omega, by omega⟩) rfl hC)
  · have e1 := hwn 2 (by omega) e
    subst e1
    refine mroots_ok hC hf ?_
    intro v cv
    exact h _ v (formR_of 2 (by omega) ⟨by omega, by omega, fun _ => rfl, by omega, by omega, by omega, by omega⟩) (c8 cv).1 (c8 cv).2
  · have e1 := hwn 3 (by omega) e
    subst e1
    refine mnull_ok hC hf (fun q v cv => ?_) (fun q v cv => ?_)
    · exact h _ v (formR_of 3 (by omega) ⟨by omega, by omega, by omega, fun _ => ⟨fun _ => rfl, fun q2 => absurd q q2⟩, by omega, by omega, by omega⟩) (c8 cv).1 (c8 cv).2
    · exact h _ v (formR_of 3 (by omega) ⟨by omega, by omega, by omega, fun _ => ⟨fun q2 => absurd q2 q, fun _ => rfl⟩, by omega, by omega, by omega⟩) (c8 cv).1 (c8 cv).2
  · have e1 := hwn 4 (by omega) e
    subst e1
    refine isFixed_ok hC hf ?_
    intro v cv
    exact h _ v (formR_of 4 (by omega) ⟨by omega, by omega, by omega, by omega, fun _ => rfl, by omega, by omega⟩) (cv.1 0 (by decide)) (hC.chg (cv.wk (by decide) (by decide)))
  · have e1 := hwn 5 (by omega) e
    subst e1
    unfold f_X7_inOrbit
    refine mrdC hC hf (mrdD hC hf (mwalk_ok hC hf ?_))
    intro K v hK h480 hlt cv hv mv
    refine h _ v (formR_of 5 (by omega) ⟨by omega, by omega, by omega, by omega, by omega, fun _ => ⟨K, hK, by rw [mv.1, stop_m hK]⟩, by omega⟩) (cv.1 0 (by decide)) hv
  · have e1 : w = 6 := by
      obtain ⟨e0, e1, e2, e3, e4, e5⟩ := e
      have h0 : w ≠ 0 := fun q => e0 (by rw [q]; rfl)
      have h1 : w ≠ 1 := fun q => e1 (by rw [q]; rfl)
      have h2 : w ≠ 2 := fun q => e2 (by rw [q]; rfl)
      have h3 : w ≠ 3 := fun q => e3 (by rw [q]; rfl)
      have h4 : w ≠ 4 := fun q => e4 (by rw [q]; rfl)
      have h5 : w ≠ 5 := fun q => e5 (by rw [q]; rfl)
      omega
    subst e1
    refine mleast_ok hC hf ?_
    intro K v hK cv v0
    exact h _ v (formR_of 6 (by omega) ⟨by omega, by omega, by omega, by omega, by omega, by omega, fun _ => ⟨K, hK, rfl⟩⟩) v0 (hC.chg cv)
theorem mformIs_ok {p ng nf : Nat} {M D C : Nat → Nat} {a b : Int32} {u : St} {Q : Int32 → St → Prop} (hC : MI p ng M nf D C u)
    (h1 : ∀ f w r v, f < nf → a = nI f → w ≤ 6 → b = nI w → formR p ng M (D f) (C f) b r → v 0 0 = 0 → MI p ng M nf D C v → Q r v)
    (h2 : ∀ f, f < nf → a = nI f → (¬ ∃ w, w ≤ 6 ∧ b = nI w) → ∀ v, v 0 0 = 2 → MI p ng M nf D C v → Q 0 v)
    (h3 : (¬ ∃ f, f < nf ∧ a = nI f) → ∀ v, v 0 0 = 1 → MI p ng M nf D C v → Q 0 v) : f_X7_formIs a b u Q := by
  unfold f_X7_formIs
  refine mform_ok hC (fun f hf e => ⟨fun _ => ?_, fun q => absurd q (by decide)⟩) (fun q => ⟨fun c => absurd rfl c, fun _ => hold1 ⟨fun _ => h3 q _ (by rw [su_kk]) (hC.T 1), fun c => absurd rfl c⟩⟩)
  refine isIn_k (n := 7) (by decide) (by omega) (fun w hw e2 => ⟨fun _ => ?_, fun q => absurd q (by decide)⟩) (fun q => ⟨fun c => absurd rfl c, fun _ => hold2 ⟨fun _ => h2 f hf e (fun ⟨w, hw, e2⟩ => q ⟨w, by omega, e2⟩) _ (by rw [su_kk]) (hC.T 2), fun c => absurd rfl c⟩⟩)
  subst e e2
  refine hold0 ⟨fun q => absurd q (by decide), fun _ => mtold_ok (hC.T 0) hf (by omega) ?_⟩
  intro r v hr v0 hv
  exact h1 f w r v hf rfl (by omega) rfl hr (by rw [v0, su_kk]) hv
