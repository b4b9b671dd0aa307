/-! the class's orbits and ways -/
theorem orbits_ok {al p ng nf : Nat} {M D C : Nat → Nat} {a : Int32} {u : St} {Q : Int32 → St → Prop} {QX : String → St → Prop} (hC : CI al p ng M nf D C u)
    (h1 : ∀ d l n v, 1 ≤ d → d ≤ 4 → a = nI d → GL p ng M l n → CI al p ng M nf D C v → Q (nI (ob p d l n (p ^ (d + 1)))) v) (h2 : (¬ ∃ d, 1 ≤ d ∧ d ≤ 4 ∧ a = nI d) → QX "java/lang/IllegalArgumentException" u) : f_X6_orbits al a u Q QX := by
  have hC' := hC
  obtain ⟨hp, hM, hG, hI, h5, h6, l, n, g1, g2, g3, g4, g5⟩ := hC
  have hb := isP_b hp.2
  unfold f_X6_orbits
  refine checkDeg_ok (fun d hd1 hd4 e => ?_) h2
  subst e
  have hpb := pow_b hp.2 (n := d + 1) (by omega)
  rw [nI_1]
  refine howMany_ok hp (by omega) ?_
  unfold f_X5_clear
  refine fill_ok ?_
  refine loopU2 (fun n i a s => f_X6_orbits_L27 al (nI d) (nI (p ^ (d + 1))) Q QX (fun v14 u15 => Q v14 u15) n a i s) (p ^ (d + 1)) (fun i a s => chg SA SB u s ∧ a = nI (ob p d l n i) ∧ ∀ x, x < 3125 → ∃ v, s 17 x = nI v ∧ v < 1000 ∧ (v ≠ 0 ↔ ∃ c, c < i ∧ orb p d l n c x)) ?_ ?_ 0 (Nat.zero_le _) 0 _ ⟨chg_sa (by decide) (by decide), rfl, fun x hx => ⟨0, by rw [sa_k, if_pos (show x < lenC 17 from hx)]; rfl, by omega, fun q => absurd rfl q, fun ⟨c, hc, _⟩ => absurd hc (Nat.not_lt_zero _)⟩⟩
  · rintro n' i a s hi ⟨c1, rfl, c3⟩ kk
    show f_X6_orbits_L27_s _ _ _ _ _ _ _ _ _ _
    unfold f_X6_orbits_L27_s
    refine ⟨fun c => absurd c (nI_ge hi (by omega)), fun _ => ?_⟩
    obtain ⟨v, e1, e2, e3⟩ := c3 i (by omega)
    have hobs : ob p d l n (i + 1) = ob p d l n i + if isL p d l n i = true then 1 else 0 := fb_ct_succ _ _
    refine met_ok (n := v) (by omega) (by omega) e1 (fun q => ?_) (fun q => ?_)
    · refine ⟨fun c => absurd rfl c, fun _ => ?_⟩
      have hno : ¬ ∃ c, c < i ∧ orb p d l n c i := fun q2 => e3.mpr q2 q
      have hL : isL p d l n i = true := by
        rw [isL_iff]
        intro k hk
        refine Nat.le_of_not_lt (fun q2 => hno ⟨_, q2, orb_sy hp.2 hd4 g1 hi ⟨k, hk, rfl⟩⟩)
      obtain ⟨K, hK⟩ := O_stop (ng := ng) hp.2 hd4 hi hM
      have hoe := O_OE hp.2 hd4 hi hM hK g1
      have hKm := stop_m hK
      have hK480 : K ≤ 480 := by rw [← hKm]; exact O_480 hp.2 hd4 hi hM (wout_WI _ _ _ _)
      have hmo : ∀ x, wm (wout (fO p d M) ng i K) x ↔ orb p d l n i x := fun x => by
        rw [← OE_orb hoe]
        unfold wm
        rw [hKm]
      refine go_ok (c1.pp hp (by decide)) hM (hG.chg c1 (by decide)) (fun g hg => by rw [c1.2 (23 + 2 * g) (by omega) (by have := hG.1; unfold SA; simp; omega)]; exact hI g hg) hd1 hd4 hi hK ?_ ?_
      · intro x hx
        have hox := (hmo x).mp hx
        have hxl := orb_lt hp.2 hd4 hox
        obtain ⟨v', f1, f2, f3⟩ := c3 x (by omega)
        have : v' = 0 := by
          refine Classical.byContradiction (fun q2 => ?_)
          obtain ⟨c, hc, hoc⟩ := f3.mp q2
          exact hno ⟨c, hc, orb_tr hp.2 hd4 g1 hoc (orb_sy hp.2 hd4 g1 hi hox)⟩
        rw [f1, this]; rfl
      · intro w cw ww v11 e11 v12 e12
        rw [nI_1] at e11 e12
        subst e11 e12
        refine kk _ _ ⟨c1.tr (cw.wk (by decide) (by decide)), by rw [hobs, if_pos hL], fun x hx => ?_⟩
        by_cases hm : wm (wout (fO p d M) ng i K) x
        · obtain ⟨k, hk, e⟩ := hm
          refine ⟨k + 1, by rw [← e]; exact (ww.2.1 k hk).2.2.2, by omega, fun _ => ⟨i, by omega, (hmo x).mp ⟨k, hk, e⟩⟩, fun _ => by omega⟩
        · obtain ⟨v', f1, f2, f3⟩ := c3 x hx
          refine ⟨v', by rw [ww.2.2.2 x hx hm]; exact f1, f2, fun q2 => ?_, fun ⟨c, hc, ho⟩ => ?_⟩
          · obtain ⟨c, hc, ho⟩ := f3.mp q2
            exact ⟨c, by omega, ho⟩
          · by_cases q2 : c = i
            · subst q2; exact absurd ((hmo x).mpr ho) hm
            · exact f3.mpr ⟨c, by omega, ho⟩
    · refine ⟨fun _ v9 e9 => ?_, fun c => absurd c (by decide)⟩
      rw [nI_1] at e9
      subst e9
      have hin := e3.mp q
      have hL : ¬ isL p d l n i = true := by
        rw [isL_iff]
        intro q2
        obtain ⟨c, hc, ho⟩ := hin
        obtain ⟨k, hk, e⟩ := orb_sy hp.2 hd4 g1 (show c < p ^ (d + 1) by omega) ho
        have := q2 k hk
        omega
      refine kk _ _ ⟨c1, by rw [hobs, if_neg hL]; rfl, fun x hx => ?_⟩
      obtain ⟨v', f1, f2, f3⟩ := c3 x hx
      refine ⟨v', f1, f2, fun q2 => ?_, fun ⟨c, hc, ho⟩ => ?_⟩
      · obtain ⟨c, hc, ho⟩ := f3.mp q2
        exact ⟨c, by omega, ho⟩
      · by_cases q2 : c = i
        · subst q2
          obtain ⟨c', hc', ho'⟩ := hin
          exact f3.mpr ⟨c', hc', orb_tr hp.2 hd4 g1 ho' ho⟩
        · exact f3.mpr ⟨c, by omega, ho⟩
  · rintro n' a s ⟨c1, rfl, c3⟩
    show f_X6_orbits_L27_s _ _ _ _ _ _ _ _ _ _
    unfold f_X6_orbits_L27_s
    exact ⟨fun _ => h1 d l n s hd1 hd4 rfl g1 (hC'.chg c1), fun c => absurd (nI_le (Nat.le_refl _) (by omega)) c⟩
/-! what a walk answers -/
def wayR (p ng : Nat) (M : Nat → Nat) (d c x : Nat) (r : Int32) : Prop := ∃ K, stopAt (fO p d M) ng c K ∧ ((∃ k, k < K ∧ wq (wout (fO p d M) ng c K) k = x ∧ r = nI (wt (wout (fO p d M) ng c K) k)) ∨ (¬ wm (wout (fO p d M) ng c K) x ∧ r = -1))
def stepR (p ng : Nat) (M : Nat → Nat) (d c x st : Nat) (r : Int32) : Prop := ∃ K, stopAt (fO p d M) ng c K ∧ ((∃ k, k < K ∧ wq (wout (fO p d M) ng c K) k = x ∧ st < wt (wout (fO p d M) ng c K) k ∧ r = nI (wg (wout (fO p d M) ng c K) (bk (wout (fO p d M) ng c K) k (wt (wout (fO p d M) ng c K) k - 1 - st)))) ∨ ((∀ k, k < K → wq (wout (fO p d M) ng c K) k = x → ¬ st < wt (wout (fO p d M) ng c K) k) ∧ r = -1))
theorem w_one {p ng d c K k k' : Nat} {M : Nat → Nat} (hK : stopAt (fO p d M) ng c K) (hk : k < K) (hk' : k' < K) (e : wq (wout (fO p d M) ng c K) k = wq (wout (fO p d M) ng c K) k') : k = k' := by
  have hm := stop_m hK
  have hw := wout_WI (fO p d M) ng c K
  rcases Nat.lt_trichotomy k k' with q | q | q
  · exact absurd e (hw.2.2.1 k k' q (by omega))
  · exact q
  · exact absurd e.symm (hw.2.2.1 k' k q (by omega))
theorem wayR_one {p ng d c x : Nat} {M : Nat → Nat} {r r' : Int32} (h : wayR p ng M d c x r) (h' : wayR p ng M d c x r') : r = r' := by
  obtain ⟨K, hK, h⟩ := h
  obtain ⟨K', hK', h'⟩ := h'
  have := stop_one hK hK'
  subst this
  have hm := stop_m hK
  rcases h with ⟨k, hk, e, rfl⟩ | ⟨hn, rfl⟩
  · rcases h' with ⟨k', hk', e', rfl⟩ | ⟨hn', rfl⟩
    · rw [w_one hK hk hk' (by rw [e, e'])]
    · exact absurd ⟨k, by omega, e⟩ hn'
  · rcases h' with ⟨k', hk', e', rfl⟩ | ⟨hn', rfl⟩
    · exact absurd ⟨k', by omega, e'⟩ hn
    · rfl
theorem stepR_one {p ng d c x st : Nat} {M : Nat → Nat} {r r' : Int32} (h : stepR p ng M d c x st r) (h' : stepR p ng M d c x st r') : r = r' := by
  obtain ⟨K, hK, h⟩ := h
  obtain ⟨K', hK', h'⟩ := h'
  have := stop_one hK hK'
  subst this
  rcases h with ⟨k, hk, e, hs, rfl⟩ | ⟨hn, rfl⟩
  · rcases h' with ⟨k', hk', e', hs', rfl⟩ | ⟨hn', rfl⟩
    · rw [w_one hK hk hk' (by rw [e, e'])]
    · exact absurd hs (hn' k hk e)
  · rcases h' with ⟨k', hk', e', hs', rfl⟩ | ⟨hn', rfl⟩
    · exact absurd hs' (hn k' hk' e')
    · rfl
/-- a walk from a form, in a state of the class -/
theorem walk_ok {al p ng nf d c : Nat} {M D C : Nat → Nat} {u : St} {Q : St → Prop} (hC : CI al p ng M nf D C u) (hd1 : 1 ≤ d) (hd4 : d ≤ 4) (hc : c < p ^ (d + 1))
    (h : ∀ K v, stopAt (fO p d M) ng c K → K ≤ 480 → (∀ k, k < K → wq (wout (fO p d M) ng c K) k < 3125) → CI al p ng M nf D C v → WR (fun _ => 0) (wout (fO p d M) ng c K) v → Q v) : f_X5_alone al (nI d) (nI c) u Q := by
  have hC' := hC
  obtain ⟨hp, hM, hG, hI, -⟩ := hC
  have hpb := pow_b hp.2 (n := d + 1) (by omega)
  obtain ⟨K, hK⟩ := O_stop (ng := ng) hp.2 hd4 hc hM
  have hKm := stop_m hK
  refine alone_ok hp hM hG hI hd1 hd4 hc hK ?_
  intro v cv wv
  refine h K v hK (by rw [← hKm]; exact O_480 hp.2 hd4 hc hM (wout_WI _ _ _ _)) (fun k hk => ?_) (hC'.chg (cv.wk (by decide) (by decide))) wv
  have := O_lt hp.2 hd4 hc (wout_WI (fO p d M) ng c K) k (by omega)
  omega
/-- reads a form's degree and code -/
theorem rdD {al p ng nf f : Nat} {M D C : Nat → Nat} {u : St} {Q : Int32 → St → Prop} (hC : CI al p ng M nf D C u) (hf : f < nf) (h : Q (nI (D f)) u) : f_X6_read al 7 (nI f) u Q := by
  obtain ⟨_, _, _, _, h5, h6, _⟩ := hC
  refine read_ok (by exact (by omega : f < 20)) ?_
  rw [(h6 f hf).2.2.1]; exact h
theorem rdC {al p ng nf f : Nat} {M D C : Nat → Nat} {u : St} {Q : Int32 → St → Prop} (hC : CI al p ng M nf D C u) (hf : f < nf) (h : Q (nI (C f)) u) : f_X6_read al 8 (nI f) u Q := by
  obtain ⟨_, _, _, _, h5, h6, _⟩ := hC
  refine read_ok (by exact (by omega : f < 20)) ?_
  rw [(h6 f hf).2.2.2]; exact h
theorem CI.f {al p ng nf f : Nat} {M D C : Nat → Nat} {u : St} (hC : CI al p ng M nf D C u) (hf : f < nf) : (1 ≤ D f ∧ D f ≤ 4) ∧ C f < p ^ (D f + 1) ∧ C f < 3125 := by
  obtain ⟨h1, _, _, _, h5, h6, _⟩ := hC
  have := pow_b h1.2 (n := D f + 1) (by have := (h6 f hf).1; omega)
  exact ⟨(h6 f hf).1, (h6 f hf).2.1, by have := (h6 f hf).2.1; omega⟩
theorem checkF {al p ng nf : Nat} {M D C : Nat → Nat} {a : Int32} {u : St} {Q : St → Prop} {QX : String → St → Prop} (hC : CI al p ng M nf D C u) (h1 : ∀ f, f < nf → a = nI f → Q u) (h2 : (¬ ∃ f, f < nf ∧ a = nI f) → QX "java/lang/IndexOutOfBoundsException" u) : f_X6_checkForm al a u Q QX := by
  obtain ⟨_, _, _, _, h5, h6, _⟩ := hC
  exact checkForm_ok h5.1 h5.2 h1 h2
theorem alike_ok {al p ng nf f g : Nat} {M D C : Nat → Nat} {u : St} {Q : St → Prop} {QX : String → St → Prop} (hC : CI al p ng M nf D C u) (hf : f < nf) (hg : g < nf) (h1 : D f = D g → Q u) (h2 : ¬ D f = D g → QX "java/lang/IllegalArgumentException" u) : f_X6_checkAlike al (nI f) (nI g) u Q QX := by
  unfold f_X6_checkAlike
  refine rdD hC hf (rdD hC hg ?_)
  have b1 := hC.f hf
  have b2 := hC.f hg
  exact ⟨fun c => h1 ((nI_eq (by omega) (by omega)).mp c), fun c => h2 (fun e => c (by rw [e]))⟩
theorem way_ok {al p ng nf : Nat} {M D C : Nat → Nat} {a b : Int32} {u : St} {Q : Int32 → St → Prop} {QX : String → St → Prop} (hC : CI al p ng M nf D C u)
    (h1 : ∀ f g r v, f < nf → g < nf → a = nI f → b = nI g → D f = D g → wayR p ng M (D f) (C f) (C g) r → CI al p ng M nf D C v → Q r v)
    (h2 : ∀ f g, f < nf → g < nf → a = nI f → b = nI g → ¬ D f = D g → QX "java/lang/IllegalArgumentException" u)
    (h3 : (¬ ((∃ f, f < nf ∧ a = nI f) ∧ ∃ g, g < nf ∧ b = nI g)) → QX "java/lang/IndexOutOfBoundsException" u) : f_X6_way al a b u Q QX := by
  unfold f_X6_way
  refine checkF hC (fun f hf ef => ?_) (fun q => h3 (fun q2 => q q2.1))
  refine checkF hC (fun g hg eg => ?_) (fun q => h3 (fun q2 => q q2.2))
  subst ef eg
  have b1 := hC.f hf
  have b2 := hC.f hg
  refine alike_ok hC hf hg (fun e => ?_) (fun e => h2 f g hf hg rfl rfl e)
  refine rdD hC hf (rdC hC hf ?_)
  refine walk_ok hC b1.1.1 b1.1.2 b1.2.1 ?_
  intro K v hK h480 hlt hv hw
  have hKm := stop_m hK
  refine rdC hv hg ?_
  refine stepsTo_ok hw (by omega) b2.2.2 (fun k hk e2 => h1 f g _ v hf hg rfl rfl e ⟨K, hK, Or.inl ⟨k, by omega, e2, rfl⟩⟩ hv) (fun hn => h1 f g _ v hf hg rfl rfl e ⟨K, hK, Or.inr ⟨hn, rfl⟩⟩ hv)
theorem nI_nneg {x : Int32} (h : 0 ≤ x) : ∃ n, n < 2147483648 ∧ x = nI n := by
  have h1 := Int32.le_iff_toInt_le.mp h
  have h2 := fb_rng x
  refine ⟨x.toInt.toNat, ?_, ?_⟩
  · have : (0 : Int32).toInt = 0 := rfl
    omega
  · have : (0 : Int32).toInt = 0 := rfl
    rw [← iI_nn (by omega)]
    exact iI_of x
theorem step_ok {al p ng nf : Nat} {M D C : Nat → Nat} {a b c : Int32} {u : St} {Q : Int32 → St → Prop} {QX : String → St → Prop} (hC : CI al p ng M nf D C u)
    (h1 : ∀ f g st r v, f < nf → g < nf → a = nI f → b = nI g → D f = D g → c = nI st → st < 2147483648 → stepR p ng M (D f) (C f) (C g) st r → CI al p ng M nf D C v → Q r v)
    (h2 : ∀ f g, f < nf → g < nf → a = nI f → b = nI g → ¬ (D f = D g ∧ 0 ≤ c) → QX "java/lang/IllegalArgumentException" u)
    (h3 : (¬ ((∃ f, f < nf ∧ a = nI f) ∧ ∃ g, g < nf ∧ b = nI g)) → QX "java/lang/IndexOutOfBoundsException" u) : f_X6_step al a b c u Q QX := by
  unfold f_X6_step
  refine checkF hC (fun f hf ef => ?_) (fun q => h3 (fun q2 => q q2.1))
  refine checkF hC (fun g hg eg => ?_) (fun q => h3 (fun q2 => q q2.2))
  subst ef eg
  have b1 := hC.f hf
  have b2 := hC.f hg
  refine alike_ok hC hf hg (fun e => ?_) (fun e => h2 f g hf hg rfl rfl (fun q => e q.1))
  refine ⟨fun c0 => ?_, fun c0 => h2 f g hf hg rfl rfl (fun q => c0 q.2)⟩
  obtain ⟨st, hst, rfl⟩ := nI_nneg c0
  refine rdD hC hf (rdC hC hf ?_)
  refine walk_ok hC b1.1.1 b1.1.2 b1.2.1 ?_
  intro K v hK h480 hlt hv hw
  have hKm := stop_m hK
  refine rdC hv hg ?_
  have fin : ∀ r, stepR p ng M (D f) (C f) (C g) st r → Q r v := fun r hr => h1 f g st r v hf hg rfl rfl e rfl hst hr hv
  refine stepOn_ok hw (wout_WI _ _ _ _) (by omega) b2.2.2 hst (fun k hk e2 hl => fin _ ⟨K, hK, Or.inl ⟨k, by omega, e2, hl, rfl⟩⟩) (fun k hk e2 hl => fin _ ⟨K, hK, Or.inr ⟨fun k' hk' e3 => ?_, rfl⟩⟩) (fun hn => fin _ ⟨K, hK, Or.inr ⟨fun k' hk' e3 => absurd ⟨k', by omega, e3⟩ hn, rfl⟩⟩)
  rw [← w_one hK (show k < K by omega) hk' (by rw [e2, e3])]; exact hl
theorem order_ok {al p ng nf : Nat} {M D C : Nat → Nat} {u : St} {Q : Int32 → St → Prop} (hC : CI al p ng M nf D C u) (h : ∀ l n, GL p ng M l n → Q (nI n) u) : f_X6_order al u Q := by
  obtain ⟨_, _, _, _, _, _, l, n, g1, g2, g3, _⟩ := hC
  unfold f_X6_order
  rw [g3]; exact h l n g1
theorem changed_ok {al p ng nf : Nat} {M D C : Nat → Nat} {a b : Int32} {u : St} {Q : Int32 → St → Prop} {QX : String → St → Prop} (hC : CI al p ng M nf D C u)
    (h1 : ∀ f g, f < nf → g < ng → a = nI f → b = nI g → Q (nI (act p (M g) (D f) (C f))) u)
    (h2 : (¬ ((∃ f, f < nf ∧ a = nI f) ∧ ∃ g, g < ng ∧ b = nI g)) → QX "java/lang/IndexOutOfBoundsException" u) : f_X6_changed al a b u Q QX := by
  unfold f_X6_changed
  refine checkF hC (fun f hf ef => ?_) (fun q => h2 (fun q2 => q q2.1))
  subst ef
  have b1 := hC.f hf
  have hG := hC.2.2.1
  have h4 := hG.1
  rw [hG.2.2.1]
  refine ⟨fun c => h2 ?_, fun c => ⟨fun c2 => ?_, fun c2 => h2 ?_⟩⟩
  · rintro ⟨_, g, hg, rfl⟩; exact nI_pos (by omega) c
  · rcases pk_ix b (n := ng) (by omega) with q | q | ⟨g, hg, rfl⟩
    · exact absurd q c
    · exact absurd c2 (Int32.not_lt.mpr q)
    · refine rdD hC hf (rdC hC hf ?_)
      exact image_ok hC.1.2 hg h4 (by have := hG.2.1; omega) hG.2.2.1 b1.1.1 b1.1.2 b1.2.1 (hC.2.2.2.1 g hg) (h1 f g hf hg rfl rfl)
  · rintro ⟨_, g, hg, rfl⟩; exact c2 ((nI_ltI (by omega) (by omega)).mpr hg)
theorem average_ok {al p ng nf : Nat} {M D C : Nat → Nat} {a : Int32} {u : St} {Q : Int32 → St → Prop} {QX : String → St → Prop} (hC : CI al p ng M nf D C u)
    (h1 : ∀ f l n K v, f < nf → a = nI f → GL p ng M l n → inv p n ≠ 0 → stopAt (fO p (D f) M) ng (C f) K → CI al p ng M nf D C v → Q (nI (mulc p (totS p (wq (wout (fO p (D f) M) ng (C f) K)) K) (n / K * inv p n % p))) v)
    (h2 : ∀ f l n, f < nf → a = nI f → GL p ng M l n → inv p n = 0 → Q (-1) u)
    (h3 : (¬ ∃ f, f < nf ∧ a = nI f) → QX "java/lang/IndexOutOfBoundsException" u) : f_X6_average al a u Q QX := by
  have hC' := hC
  obtain ⟨hp, _, _, _, _, _, l, n, g1, g2, g3, _⟩ := hC
  have hb := isP_b hp.2
  unfold f_X6_average
  refine checkF hC' (fun f hf ef => ?_) h3
  subst ef
  have b1 := hC'.f hf
  have hinv := inv_lt hp.2 n
  rw [g3]
  refine inverse_n hp rfl (by omega) ⟨fun c => ?_, fun c => ?_⟩
  · have hne : inv p n ≠ 0 := fun e => c (by rw [e]; rfl)
    refine rdD hC' hf (rdC hC' hf ?_)
    refine walk_ok hC' b1.1.1 b1.1.2 b1.2.1 ?_
    intro K v hK h480 hlt hv hw
    have hKm := stop_m hK
    have hK0 : 0 < K := by rw [← hKm]; exact (wout_WI _ _ _ _).1
    have v5 : ∃ l' n', GL p ng M l' n' ∧ v 0 5 = nI n' := by
      obtain ⟨_, _, _, _, _, _, l', n', k1, _, k3, _⟩ := hv
      exact ⟨l', n', k1, k3⟩
    obtain ⟨l', n', k1, k3⟩ := v5
    have en : n' = n := Nat.le_antisymm (GL_size k1 g1) (GL_size g1 k1)
    rw [hw.1, hKm]
    refine ⟨fun c => absurd c (nI_nle hK0 (by omega)), fun _ => ⟨nI_ne0 hK0 (by omega), fun v17 e17 => ?_⟩⟩
    rw [k3, en, pk_div (by omega) hK0 (by omega)] at e17
    subst e17
    refine sumc_ok hv.1 hw (by omega) (fun k hk => hlt k (by omega)) ?_
    have hd := Nat.div_le_self n K
    have hm2 : n / K * inv p n ≤ 480 * 5 := Nat.mul_le_mul (by omega) (by omega)
    rw [hKm, pk_mul]
    refine rest_n hv.1 rfl (by omega) ?_
    have hmod := Nat.mod_lt (n / K * inv p n) (show p > 0 by omega)
    refine multiple_ok hv.1 (by have := totS_lt hp.2 (wq (wout (fO p (D f) M) ng (C f) K)) K; omega) (by omega) ?_
    exact h1 f l n K v hf rfl g1 hne hK hv
  · have he : inv p n = 0 := (nI_eq (b := 0) (by omega) (by omega)).mp c
    exact h2 f l n hf rfl g1 he
