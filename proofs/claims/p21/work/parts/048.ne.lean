/-! the class's transvectants -/
def ffN (n : Nat) : Nat → Nat
  | 0 => 1
  | k + 1 => ffN n k * (n - k)
theorem ffN_le : ∀ n, n < 5 → ∀ k, k < 6 → ffN n k ≤ 24 := by decide
def ch (k : Nat) : Nat → Nat
  | 0 => 1
  | i + 1 => ch k i * (k - i) / (i + 1)
theorem ch_le : ∀ k, k < 5 → ∀ i, i < 5 → ch k i ≤ 6 := by decide
theorem falling_ok {al n k : Nat} {u : St} {Q : Int32 → St → Prop} (hn : n ≤ 4) (hk : k ≤ n) (h : Q (nI (ffN n k)) u) : f_X6_falling al (nI n) (nI k) u Q := by
  unfold f_X6_falling
  refine loopU2 (fun m i a s => f_X6_falling_L4 al (nI n) (nI k) Q (fun v5 u6 => Q v5 u6) m a i s) k (fun i a s => s = u ∧ a = nI (ffN n i)) ?_ ?_ 0 (Nat.zero_le _) 1 u ⟨rfl, rfl⟩
  · rintro m i a s hi ⟨rfl, rfl⟩ kk
    show f_X6_falling_L4_s _ _ _ _ _ _ _ _ _
    unfold f_X6_falling_L4_s
    refine ⟨fun c => absurd c (nI_ge hi (by omega)), fun _ v2 e2 v3 e3 => ?_⟩
    rw [pk_sub (by omega), pk_mul] at e2
    rw [nI_1] at e3
    subst e2 e3
    exact kk _ _ ⟨rfl, rfl⟩
  · rintro m a s ⟨rfl, rfl⟩
    show f_X6_falling_L4_s _ _ _ _ _ _ _ _ _
    unfold f_X6_falling_L4_s
    exact ⟨fun _ => h, fun c => absurd (nI_le (Nat.le_refl _) (by omega)) c⟩
theorem readC_ok {al i : Nat} {u : St} {Q : Int32 → St → Prop} (hi : i < 16) (h : Q (stC i) u) : f_X6_readC al (nI i) u Q := by
  unfold f_X6_readC
  refine ⟨fun c => absurd c (nI_pos (by omega)), fun _ => ⟨fun c => absurd (show nI 16 ≤ nI i from c) (nI_ge hi (by omega)), fun _ => ⟨vp_in_nI hi (by omega), ?_⟩⟩⟩
  intro v ev; subst ev; rw [nI_clamp (by omega)]; exact h
theorem stC_ch : ∀ k, k < 4 → ∀ i, i < k + 1 → stC (k * 4 + i) = nI (ch k i) := by decide
theorem choose_ok {al k i : Nat} {u : St} {Q : Int32 → St → Prop} (hk : k ≤ 3) (hi : i ≤ k) (h : Q (nI (ch k i)) u) : f_X6_choose al (nI k) (nI i) u Q := by
  unfold f_X6_choose
  have e : nI k * 4 + nI i = nI (k * 4 + i) := by
    rw [show (4 : Int32) = nI 4 from rfl, pk_mul, nI_add]
  rw [e]
  refine readC_ok (by omega) ?_
  rw [stC_ch k (by omega) i (by omega)]
  exact h
/-- a row derived -/
def dr (p d bx b : Nat) (F : Nat → Nat) (j : Nat) : Nat := F (j + b) * (ffN (d - (j + b)) bx * ffN (j + b) b) % p
theorem derive_ok {al p ng nf f bx b k4 : Nat} {M D C : Nat → Nat} {u : St} {Q : St → Prop} (hC : CI al p ng M nf D C u) (hf : f < nf) (hk : k4 = 9 ∨ k4 = 10) (hb2 : bx + b ≤ D f)
    (h : ∀ v, chg [k4] [] u v → (∀ j, j + b + bx ≤ D f → v k4 j = nI (dr p (D f) bx b (dg p (C f)) j)) → Q v) : f_X6_derive al (nI f) (nI bx) (nI b) k4 u Q := by
  have b1 := hC.f hf
  have hp := hC.1
  have hb := isP_b hp.2
  have h5 : lenC k4 = 5 := by rcases hk with rfl | rfl <;> rfl
  have hk0 : k4 ≠ 0 := by omega
  unfold f_X6_derive
  refine rdD hC hf (rdC hC hf (spell_ok hp hk0 (by omega) (by omega) ?_))
  have c0 : chg [k4] [] u (sa u k4 (fun j => if j < 5 then nI (dg p (C f) j) else u k4 j)) := chg_sa (by simp) hk0
  refine loopU (S := St) (fun m i s => f_X6_derive_L30 al k4 (nI bx) (nI b) (nI (D f)) Q (fun u19 => Q u19) m i s) (D f - bx + 1) (fun i s => b ≤ i ∧ chg [k4] [] u s ∧ (∀ j, j + b < i → s k4 j = nI (dr p (D f) bx b (dg p (C f)) j)) ∧ ∀ j, i ≤ j + b → j < 5 → s k4 j = nI (dg p (C f) j)) ?_ ?_ b (by omega) _ ⟨Nat.le_refl _, c0, fun j hj => by omega, fun j _ hj => by rw [sa_k, if_pos hj]⟩
  · rintro m i s hi ⟨hbi, c1, c2, c3⟩ kk
    show f_X6_derive_L30_s _ _ _ _ _ _ _ _ _ _
    unfold f_X6_derive_L30_s
    rw [pk_sub (by omega)]
    refine ⟨fun c => absurd ((nI_ltI (by omega) (by omega)).mp c) (by omega), fun _ => ?_⟩
    rw [pk_sub (by omega)]
    refine falling_ok (by omega) (by omega) (falling_ok (by omega) (by omega) ?_)
    intro v11 e11
    rw [pk_mul] at e11
    subst e11
    refine read_ok (by omega) ?_
    rw [c3 i (by omega) (by omega), pk_mul]
    have h1 := ffN_le (D f - i) (by omega) bx (by omega)
    have h2 := ffN_le i (by omega) b (by omega)
    have h3 : ffN (D f - i) bx * ffN i b ≤ 24 * 24 := Nat.mul_le_mul h1 h2
    have h4 := dg_lt (show 0 < p by omega) (C f) i
    have h6 : dg p (C f) i * (ffN (D f - i) bx * ffN i b) ≤ 5 * (24 * 24) := Nat.mul_le_mul (by omega) h3
    refine rest_n (c1.pp hp (by simp)) rfl (by omega) ?_
    rw [pk_sub hbi]
    refine write_ok (by omega) ?_
    intro v17 e17
    rw [nI_1] at e17
    subst e17
    refine kk _ ⟨by omega, chg_tsu c1 (by simp) hk0, fun j hj => ?_, fun j hj hj5 => ?_⟩
    · rw [su_sa, sa_k]
      by_cases e : j = i - b
      · subst e
        rw [upd_in]
        unfold dr
        rw [show i - b + b = i by omega]
      · rw [upd_ne _ _ e]; exact c2 j (by omega)
    · rw [su_sa, sa_k, upd_ne _ _ (by omega)]
      exact c3 j (by omega) hj5
  · rintro m s ⟨hbi, c1, c2, c3⟩
    show f_X6_derive_L30_s _ _ _ _ _ _ _ _ _ _
    unfold f_X6_derive_L30_s
    rw [pk_sub (by omega)]
    exact ⟨fun _ => h s c1 (fun j hj => c2 j (by omega)), fun c => absurd ((nI_ltI (by omega) (by omega)).mpr (by omega)) c⟩
/-- what a product of two rows has at a place -/
def cvv (m n : Nat) (A B : Nat → Nat) (e : Nat) : Int := sg (fun i => sg (fun j => if i + j = e then (A i : Int) * (B j : Int) else 0) (n + 1)) (m + 1)
theorem addP_ok {al p m n : Nat} {A B : Nat → Nat} {Z : Nat → Int} {x : Int32} {s0 : Int} {u : St} {Q : St → Prop} (hp : PP u p) (hmn : m + n ≤ 4) (hx : x = iI s0) (hs1 : -10 ≤ s0) (hs2 : s0 ≤ 10) (hA : ∀ j, j ≤ m → u 9 j = nI (A j)) (hB : ∀ j, j ≤ n → u 10 j = nI (B j)) (hAp : ∀ j, A j < p) (hBp : ∀ j, B j < p) (hZ : ∀ e, e < 5 → u 11 e = iI (Z e % p))
    (h : ∀ v, chg [11] [] u v → (∀ e, e < 5 → v 11 e = iI ((Z e + s0 * cvv m n A B e) % p)) → Q v) : f_X6_addProduct al x (nI m) (nI n) u Q := by
  have hb := isP_b hp.2
  unfold f_X6_addProduct
  refine loopU (S := St) (fun k i s => f_X6_addProduct_L3 al x (nI m) (nI n) Q (fun u18 => Q u18) k i s) (m + 1) (fun i s => chg [11] [] u s ∧ ∀ e, e < 5 → s 11 e = iI ((Z e + s0 * sg (fun i => sg (fun j => if i + j = e then (A i : Int) * (B j : Int) else 0) (n + 1)) i) % p)) ?_ ?_ 0 (Nat.zero_le _) u ⟨chg_rf _ _ _, fun e he => by show u 11 e = iI ((Z e + s0 * 0) % p); rw [Int.mul_zero, Int.add_zero]; exact hZ e he⟩
  · rintro k i s hi ⟨c1, c2⟩ kk
    show f_X6_addProduct_L3_s _ _ _ _ _ _ _ _ _
    unfold f_X6_addProduct_L3_s
    refine ⟨fun c => absurd ((nI_ltI (by omega) (by omega)).mp c) (by omega), fun _ => ?_⟩
    refine loopU (S := St) (fun k' j s' => f_X6_addProduct_L12 al x (nI m) (nI n) (nI i) Q _ k' j s') (n + 1) (fun j s' => chg [11] [] u s' ∧ ∀ e, e < 5 → s' 11 e = iI ((Z e + s0 * (sg (fun i => sg (fun j => if i + j = e then (A i : Int) * (B j : Int) else 0) (n + 1)) i + sg (fun j => if i + j = e then (A i : Int) * (B j : Int) else 0) j)) % p)) ?_ ?_ 0 (Nat.zero_le _) s ⟨c1, fun e he => by rw [c2 e he]; show _ = iI ((Z e + s0 * (_ + 0)) % p); rw [Int.add_zero]⟩
    · rintro k' j s' hj ⟨d1, d2⟩ kk2
      show f_X6_addProduct_L12_s _ _ _ _ _ _ _ _ _ _
      unfold f_X6_addProduct_L12_s
      refine ⟨fun c => absurd ((nI_ltI (by omega) (by omega)).mp c) (by omega), fun _ => ?_⟩
      refine read_ok (by exact (by omega : i < 5)) ?_
      rw [d1.2 9 (by decide) (by decide), hA i (by omega)]
      refine read_ok (by exact (by omega : j < 5)) ?_
      rw [d1.2 10 (by decide) (by decide), hB j (by omega)]
      intro v7 e7
      rw [hx, iI_n, iI_n, iI_mul, iI_mul] at e7
      rw [nI_add]
      refine read_ok (by exact (by omega : i + j < 5)) ?_
      rw [d2 (i + j) (by omega), e7, iI_add]
      have z1 := emod_b hp.2 (Z (i + j) + s0 * (sg (fun i' => sg (fun j' => if i' + j' = i + j then (A i' : Int) * (B j' : Int) else 0) (n + 1)) i + sg (fun j' => if i + j' = i + j then (A i : Int) * (B j' : Int) else 0) j))
      have hAi := hAp i
      have hBj := hBp j
      have z2 : -50 ≤ s0 * (A i : Int) ∧ s0 * (A i : Int) ≤ 50 := by
        have : (A i : Int) = 0 ∨ (A i : Int) = 1 ∨ (A i : Int) = 2 ∨ (A i : Int) = 3 ∨ (A i : Int) = 4 := by omega
        rcases this with q | q | q | q | q <;> rw [q] <;> omega
      have z3 : -250 ≤ s0 * (A i : Int) * (B j : Int) ∧ s0 * (A i : Int) * (B j : Int) ≤ 250 := by
        have : (B j : Int) = 0 ∨ (B j : Int) = 1 ∨ (B j : Int) = 2 ∨ (B j : Int) = 3 ∨ (B j : Int) = 4 := by omega
        rcases this with q | q | q | q | q <;> rw [q] <;> omega
      refine rest_ok (d1.pp hp (by decide)) rfl (by omega) (by omega) ?_
      refine write_ok (by exact (by omega : i + j < 5)) ?_
      intro v13 e13
      rw [nI_1] at e13
      subst e13
      refine kk2 _ ⟨chg_tsu d1 (by decide) (by decide), fun e he => ?_⟩
      rw [su_sa, sa_k]
      by_cases q : e = i + j
      · subst q
        rw [upd_in]
        congr 1
        rw [← mq_iff]
        refine mq_tr (mq_add (mq_mod _ _) (mq_rf _ _)) ?_
        have e1 : sg (fun j' => if i + j' = i + j then (A i : Int) * (B j' : Int) else 0) (j + 1) = sg (fun j' => if i + j' = i + j then (A i : Int) * (B j' : Int) else 0) j + (A i : Int) * (B j : Int) := by
          show _ + (if i + j = i + j then (A i : Int) * (B j : Int) else 0) = _
          rw [if_pos rfl]
        rw [e1, ← Int.add_assoc, Int.mul_add s0 _ ((A i : Int) * (B j : Int)), ← Int.add_assoc, Int.mul_assoc]
        exact mq_rf _ _
      · rw [upd_ne _ _ q, d2 e he]
        have e1 : sg (fun j' => if i + j' = e then (A i : Int) * (B j' : Int) else 0) (j + 1) = sg (fun j' => if i + j' = e then (A i : Int) * (B j' : Int) else 0) j := by
          show _ + (if i + j = e then (A i : Int) * (B j : Int) else 0) = _
          rw [if_neg (fun e2 => q e2.symm), Int.add_zero]
        rw [e1]
    · rintro k' s' ⟨d1, d2⟩
      show f_X6_addProduct_L12_s _ _ _ _ _ _ _ _ _ _
      unfold f_X6_addProduct_L12_s
      refine ⟨fun _ v16 e16 => ?_, fun c => absurd ((nI_ltI (by omega) (by omega)).mpr (by omega)) c⟩
      rw [nI_1] at e16
      subst e16
      exact kk _ ⟨d1, d2⟩
  · rintro k s ⟨c1, c2⟩
    show f_X6_addProduct_L3_s _ _ _ _ _ _ _ _ _
    unfold f_X6_addProduct_L3_s
    exact ⟨fun _ => h s c1 c2, fun c => absurd ((nI_ltI (by omega) (by omega)).mpr (by omega)) c⟩
def sgn (i : Nat) : Int := if i % 2 = 0 then 1 else -1
/-- a coefficient of a transvectant -/
def trZ (p d1 d2 k : Nat) (F G : Nat → Nat) (e : Nat) : Int := sg (fun i => sgn i * (ch k i : Int) * cvv (d1 - k) (d2 - k) (dr p d1 (k - i) i F) (dr p d2 i (k - i) G) e) (k + 1)
def trC (p d1 d2 k : Nat) (F G : Nat → Nat) : Nat := cod p (fun e => (trZ p d1 d2 k F G e % p).toNat) (d1 - k + (d2 - k) + 1)
theorem dr_lt {p : Nat} (hp : 0 < p) (d bx b : Nat) (F : Nat → Nat) (j : Nat) : dr p d bx b F j < p := Nat.mod_lt _ hp
theorem cvv_cong {m n : Nat} {A B A' B' : Nat → Nat} {e : Nat} (hA : ∀ i, i ≤ m → A i = A' i) (hB : ∀ j, j ≤ n → B j = B' j) : cvv m n A B e = cvv m n A' B' e :=
  sg_cong (fun i hi => sg_cong (fun j hj => by rw [hA i (by omega), hB j (by omega)]))
theorem two_odd : ∀ i, i < 5 → nI i - nI i / 2 * 2 = if i % 2 = 0 then 0 else 1 := by decide
theorem trans_ok {al p ng nf f g k : Nat} {M D C : Nat → Nat} {u : St} {Q : Int32 → St → Prop} (hC : CI al p ng M nf D C u) (hf : f < nf) (hg : g < nf) (hk1 : k ≤ D f) (hk2 : k ≤ D g) (hs1 : 1 ≤ D f - k + (D g - k)) (hs : D f - k + (D g - k) ≤ 4)
    (h : ∀ v, CI al p ng M nf D C v → Q (nI (trC p (D f) (D g) k (dg p (C f)) (dg p (C g)))) v) : f_X6_transvectantCode al (nI f) (nI g) (nI k) u Q := by
  have b1 := hC.f hf
  have b2 := hC.f hg
  have hp := hC.1
  have hb := isP_b hp.2
  unfold f_X6_transvectantCode
  refine rdD hC hf ?_
  intro v3 e3
  rw [pk_sub hk1] at e3
  subst e3
  refine rdD hC hg ?_
  intro v6 e6
  rw [pk_sub hk2] at e6
  subst e6
  refine fill_ok ?_
  refine loopU (S := St) (fun m i s => f_X6_transvectantCode_L35 al (nI f) (nI g) (nI k) (nI (D f - k)) (nI (D g - k)) Q (fun u23 => f_X2_code al 11 ((nI (D f - k) + nI (D g - k)) + 1) u23 (fun v24 u25 => Q v24 u25)) m i s) (k + 1) (fun i s => chg SA SB u s ∧ ∀ e, e < 5 → s 11 e = iI (sg (fun i => sgn i * (ch k i : Int) * cvv (D f - k) (D g - k) (dr p (D f) (k - i) i (dg p (C f))) (dr p (D g) i (k - i) (dg p (C g))) e) i % p)) ?_ ?_ 0 (Nat.zero_le _) _ ⟨chg_sa (by decide) (by decide), fun e he => by rw [sa_k, if_pos (show e < lenC 11 from he)]; show (0 : Int32) = iI (0 % (p : Int)); rw [Int.zero_emod]; rfl⟩
  · rintro m i s hi ⟨c1, c2⟩ kk
    show f_X6_transvectantCode_L35_s _ _ _ _ _ _ _ _ _ _ _
    unfold f_X6_transvectantCode_L35_s
    refine ⟨fun c => absurd ((nI_ltI (by omega) (by omega)).mp c) (by omega), fun _ => ?_⟩
    rw [pk_sub (by omega)]
    refine derive_ok (hC.chg c1) hf (Or.inl rfl) (by omega) ?_
    intro v cv rv
    have cv2 : chg SA SB u v := c1.tr (cv.wk (by decide) (by decide))
    refine derive_ok (hC.chg cv2) hg (Or.inr rfl) (by omega) ?_
    intro w cw rw_
    have cw2 : chg SA SB u w := cv2.tr (cw.wk (by decide) (by decide))
    intro v11 e11
    rw [two_odd i (by omega)] at e11
    have hchl := ch_le k (by omega) i (by omega)
    have h11 : ∀ e, e < 5 → w 11 e = iI (sg (fun i => sgn i * (ch k i : Int) * cvv (D f - k) (D g - k) (dr p (D f) (k - i) i (dg p (C f))) (dr p (D g) i (k - i) (dg p (C g))) e) i % p) := fun e he => by
      rw [cw.2 11 (by decide) (by decide), cv.2 11 (by decide) (by decide)]; exact c2 e he
    have go : ∀ (x : Int32), x = iI (sgn i * (ch k i : Int)) → f_X6_addProduct al x (nI (D f - k)) (nI (D g - k)) w (fun u20 => (∀ v21 : Int32, v21 = nI i + 1 → f_X6_transvectantCode_L35 al (nI f) (nI g) (nI k) (nI (D f - k)) (nI (D g - k)) Q (fun u23 => f_X2_code al 11 ((nI (D f - k) + nI (D g - k)) + 1) u23 (fun v24 u25 => Q v24 u25)) m v21 u20)) := by
      intro x hx
      have hsg : -10 ≤ sgn i * (ch k i : Int) ∧ sgn i * (ch k i : Int) ≤ 10 := by
        unfold sgn
        split <;> omega
      refine addP_ok (A := dr p (D f) (k - i) i (dg p (C f))) (B := dr p (D g) i (k - i) (dg p (C g))) (cw2.pp hp (by decide)) hs hx hsg.1 hsg.2 (fun j hj => ?_) (fun j hj => rw_ j (by omega)) (fun j => dr_lt (by omega) _ _ _ _ _) (fun j => dr_lt (by omega) _ _ _ _ _) h11 ?_
      · rw [cw.2 9 (by decide) (by decide)]; exact rv j (by omega)
      · intro y cy ry v21 e21
        rw [nI_1] at e21
        subst e21
        exact kk _ ⟨cw2.tr (cy.wk (by decide) (by decide)), ry⟩
    refine ⟨fun q => choose_ok (by omega) (by omega) ?_, fun q => choose_ok (by omega) (by omega) ?_⟩
    · intro v15 e15
      rw [iI_n, iI_neg] at e15
      refine go v15 ?_
      rw [e15]
      unfold sgn
      rw [if_neg (fun e => q (by rw [e11, if_pos e])), Int.neg_mul, Int.one_mul]
    · refine go _ ?_
      rw [iI_n]
      unfold sgn
      rw [if_pos (Classical.byContradiction (fun e => by rw [e11, if_neg e] at q; exact absurd q (by decide))), Int.one_mul]
  · rintro m s ⟨c1, c2⟩
    show f_X6_transvectantCode_L35_s _ _ _ _ _ _ _ _ _ _ _
    unfold f_X6_transvectantCode_L35_s
    refine ⟨fun _ => ?_, fun c => absurd ((nI_ltI (by omega) (by omega)).mpr (by omega)) c⟩
    show f_X2_code al 11 ((nI (D f - k) + nI (D g - k)) + 1) s (fun v24 u25 => Q v24 u25)
    rw [nI_add, nI_1]
    refine code_ok (f := fun e => (trZ p (D f) (D g) k (dg p (C f)) (dg p (C g)) e % p).toNat) (c1.pp hp (by decide)) (by exact (by omega : D f - k + (D g - k) + 1 ≤ 5)) (fun j hj => ?_) ?_
    · rw [c2 j (by omega)]
      exact iI_nn (Int.emod_nonneg _ (by omega))
    · exact h s (hC.chg c1)
theorem transvectant_ok {al p ng nf : Nat} {M D C : Nat → Nat} {a b c : Int32} {u : St} {Q : Int32 → St → Prop} {QX : String → St → Prop} (hC : CI al p ng M nf D C u)
    (h1 : ∀ f g k v, f < nf → g < nf → a = nI f → b = nI g → c = nI k → k ≤ D f → k ≤ D g → 1 ≤ D f - k + (D g - k) → D f - k + (D g - k) ≤ 4 → CI al p ng M nf D C v → Q (nI (trC p (D f) (D g) k (dg p (C f)) (dg p (C g)))) v)
    (h2 : ∀ f g, f < nf → g < nf → a = nI f → b = nI g → (¬ ∃ k, c = nI k ∧ k ≤ D f ∧ k ≤ D g ∧ 1 ≤ D f - k + (D g - k) ∧ D f - k + (D g - k) ≤ 4) → QX "java/lang/IllegalArgumentException" u)
    (h3 : (¬ ((∃ f, f < nf ∧ a = nI f) ∧ ∃ g, g < nf ∧ b = nI g)) → QX "java/lang/IndexOutOfBoundsException" u) : f_X6_transvectant al a b c u Q QX := by
  unfold f_X6_transvectant
  refine checkF hC (fun f hf ef => ?_) (fun q => h3 (fun q2 => q q2.1))
  refine checkF hC (fun g hg eg => ?_) (fun q => h3 (fun q2 => q q2.2))
  subst ef eg
  have b1 := hC.f hf
  have b2 := hC.f hg
  refine rdD hC hf (rdD hC hg ?_)
  intro v7 e7
  have e7b : v7 = nI (min (D f) (D g)) := by
    rw [e7]
    by_cases q : D g < D f
    · rw [if_pos ((nI_ltI (by omega) (by omega)).mpr q), Nat.min_eq_right (by omega)]
    · rw [if_neg (fun q2 => q ((nI_ltI (by omega) (by omega)).mp q2)), Nat.min_eq_left (by omega)]
  have hmin : min (D f) (D g) ≤ 4 := by have := Nat.min_le_left (D f) (D g); omega
  refine ⟨fun q => h2 f g hf hg rfl rfl ?_, fun q => ⟨fun q2 => h2 f g hf hg rfl rfl ?_, fun q2 => ?_⟩⟩
  · rintro ⟨k, rfl, k1, _⟩; exact nI_pos (by omega) q
  · rintro ⟨k, rfl, k1, k2, _⟩
    rw [e7b] at q2
    have := (nI_ltI (by omega) (by omega)).mp q2
    have := Nat.le_min.mpr ⟨k1, k2⟩
    omega
  · rcases pk_ix c (n := min (D f) (D g) + 1) (by omega) with q3 | q3 | ⟨k, hk, rfl⟩
    · exact absurd q3 q
    · rw [e7b] at q2
      exact absurd (Int32.lt_of_lt_of_le ((nI_ltI (by omega) (by omega)).mpr (by omega)) q3) q2
    · have hk1 := Nat.min_le_left (D f) (D g)
      have hk2 := Nat.min_le_right (D f) (D g)
      refine rdD hC hf (rdD hC hg ?_)
      rw [nI_add, two_mul, pk_sub (by omega)]
      refine isDeg_ok (fun e he1 he4 ee => ?_) (fun q4 => ?_)
      · have := (nI_eq (by omega) (by omega)).mp ee
        refine ⟨fun _ => trans_ok hC hf hg (by omega) (by omega) (by omega) (by omega) (fun v hv => h1 f g k v hf hg rfl rfl rfl (by omega) (by omega) (by omega) (by omega) hv), fun q5 => absurd q5 (by decide)⟩
      · refine ⟨fun q5 => absurd rfl q5, fun _ => h2 f g hf hg rfl rfl ?_⟩
        rintro ⟨k', ek, k1, k2, k3, k4⟩
        have := (nI_eq (by omega) (by omega)).mp ek
        subst this
        exact q4 ⟨D f + D g - 2 * k, by omega, by omega, rfl⟩
