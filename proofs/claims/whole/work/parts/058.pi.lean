/-! the reference's averages -/
def avC (p d : Nat) (l : Nat → Nat) (n c : Nat) : Nat := cod p (fun i => fb_sm (fun k => dg p (act p (l k) d c) i) n % p * inv p n % p) (d + 1)
theorem dg_totS {p : Nat} (hp : isP p) (q : Nat → Nat) {j : Nat} (hj : j < 5) : ∀ K, dg p (totS p q K) j = fb_sm (fun k => dg p (q k) j) K % p
  | 0 => by
    show dg p 0 j = 0 % p
    unfold dg
    rw [Nat.zero_div]
  | K + 1 => by
    have hb := isP_b hp
    show dg p (tot p (totS p q K) (q K)) j = _
    unfold tot
    rw [dg_cod (by omega) (fun j _ => Nat.mod_lt _ (by omega)) j hj, fb_sm_succ, dg_totS hp q hj K, Nat.add_mod, Nat.mod_mod, ← Nat.add_mod]
theorem av_eq {p ng d c n K : Nat} {M l : Nat → Nat} (hp : isP p) (hd : d ≤ 4) (hc : c < p ^ (d + 1)) (hM : gensOk p ng M) (hl : GL p ng M l n) (hK : stopAt (fO p d M) ng c K) : mulc p (totS p (wq (wout (fO p d M) ng c K)) K) (n / K * inv p n % p) = avC p d l n c := by
  have hb := isP_b hp
  have hoe := O_OE hp hd hc hM hK hl
  have hst := orb_stab hp hd hl hc hoe
  have hK0 := orb_pos hl hoe
  have hdiv : n / K = cntA p d l n c c := by
    have : n = cntA p d l n c c * K := hst
    rw [congrArg (· / K) this]
    exact Nat.mul_div_cancel _ hK0
  have hsum : ∀ j, fb_sm (fun k => dg p (act p (l k) d c) j) n = cntA p d l n c c * fb_sm (fun k => dg p (wq (wout (fO p d M) ng c K) k) j) K := fun j => orb_sum hp hd (fun x => dg p x j) hl hc hoe
  have hlt : ∀ k, k < K → wq (wout (fO p d M) ng c K) k < p ^ (d + 1) := fun k hk => O_lt hp hd hc (wout_WI _ _ _ _) k (by rw [stop_m hK]; exact hk)
  unfold mulc avC
  rw [cod_ext (n := d + 1) (m := 5) (by omega) (fun j h1 h2 => by
    show _ % p = 0
    rw [dg_totS hp _ h2]
    have : fb_sm (fun k => dg p (wq (wout (fO p d M) ng c K) k) j) K = fb_sm (fun _ => 0) K := fb_sm_cong (fun k hk => dg_big (hlt k hk) h1 (by omega))
    rw [this, fb_sm_const, Nat.mul_zero, Nat.zero_mod, Nat.mul_zero, Nat.zero_mod])]
  refine cod_cong (fun j hj => ?_)
  show (n / K * inv p n % p) * dg p (totS p (wq (wout (fO p d M) ng c K)) K) j % p = fb_sm (fun k => dg p (act p (l k) d c) j) n % p * inv p n % p
  rw [dg_totS hp _ (by omega), hsum, hdiv, ← Nat.mul_mod, Nat.mul_mod (cntA p d l n c c * _ % p), Nat.mod_mod, ← Nat.mul_mod]
  congr 1
  rw [Nat.mul_assoc, Nat.mul_assoc, Nat.mul_comm (inv p n)]
theorem averageOf_ok {p ng nf f : Nat} {M D C : Nat → Nat} {u : St} {Q : Int32 → St → Prop} (hC : MI p ng M nf D C u) (hf : f < nf)
    (h1 : ∀ l n v, GL p ng M l n → inv p n ≠ 0 → v 0 0 = u 0 0 → MI p ng M nf D C v → Q (nI (avC p (D f) l n (C f))) v)
    (h2 : ∀ l n v, GL p ng M l n → inv p n = 0 → v 0 0 = u 0 0 → MI p ng M nf D C v → Q (-1) v) : f_X7_averageOf (nI f) u Q := by
  have b1 := hC.f hf
  have hp := hC.1
  have hb := isP_b hp.2
  have h625 := p4_625 hp.2
  unfold f_X7_averageOf
  refine gathers_ok hC ?_
  intro v l n cv gl h480 v4 v5
  have hv := hC.chg (cv.wk (by decide) (by decide))
  have hil := inv_lt hp.2 n
  refine mrdD hv hf ?_
  rw [v4]
  refine mmod_n hv.1 rfl (by omega) (minv_ok hv.1 (Nat.mod_lt _ (by omega)) ?_)
  rw [inv_mod]
  have wA : ∀ {s : St}, chg [6, 8, 11] [] v s → MI p ng M nf D C s ∧ s 0 0 = u 0 0 := fun c => ⟨hv.chg (c.wk (by decide) (by decide)), by rw [c.1 0 (by decide), cv.1 0 (by decide)]⟩
  refine loopU (S := St) (fun m i s => f_X7_averageOf_L27 (nI f) (nI (D f)) (nI (inv p n)) Q _ m i s) (D f + 1) (fun i s => chg [6, 8, 11] [] v s ∧ ∀ e, e < i → s 11 e = 0) ?_ ?_ 0 (Nat.zero_le _) v ⟨chg_rf _ _ _, fun e he => absurd he (Nat.not_lt_zero _)⟩
  · rintro m i s hi ⟨c1, c2⟩ kk
    show f_X7_averageOf_L27_s _ _ _ _ _ _ _ _
    unfold f_X7_averageOf_L27_s
    refine ⟨fun c => absurd ((nI_ltI (by omega) (by omega)).mp c) (by omega), fun _ => wrM (by omega) (by omega) ?_⟩
    intro v7 e7
    rw [nI_1] at e7
    subst e7
    refine kk _ ⟨chg_tsu c1 (by decide) (by decide), fun e he => ?_⟩
    rw [su_sa, sa_k]
    by_cases q : e = i
    · subst q; rw [upd_in]
    · rw [upd_ne _ _ q]; exact c2 e (by omega)
  · rintro m s ⟨c1, c2⟩
    show f_X7_averageOf_L27_s _ _ _ _ _ _ _ _
    unfold f_X7_averageOf_L27_s
    refine ⟨fun _ => ?_, fun c => absurd ((nI_ltI (by omega) (by omega)).mpr (by omega)) c⟩
    refine loopU (S := St) (fun m k s' => f_X7_averageOf_L50 (nI f) (nI (D f)) (nI (inv p n)) Q _ m k s') n (fun k s' => chg [6, 8, 11] [] v s' ∧ ∀ e, e < D f + 1 → s' 11 e = nI (fb_sm (fun k => dg p (act p (l k) (D f) (C f)) e) k)) ?_ ?_ 0 (Nat.zero_le _) s ⟨c1, fun e he => c2 e he⟩
    · rintro m' k s' hk ⟨d1, d2⟩ kk
      show f_X7_averageOf_L50_s _ _ _ _ _ _ _ _
      unfold f_X7_averageOf_L50_s
      have hs' := (wA d1).1
      rw [show s' 0 4 = nI n by rw [d1.1 4 (by decide)]; exact v4]
      refine ⟨fun c => absurd c (nI_ge hk (by omega)), fun _ => rdM (by omega) (by omega) ?_⟩
      rw [show s' 5 k = nI (l k) by rw [d1.2 5 (by decide) (by decide)]; exact v5 k hk]
      refine learns_ok hs'.1 (by have := (gl.2.2.1 k hk).1; omega) b1.1.2 ?_
      intro w cw wcol
      have dw : chg [6, 8, 11] [] v w := d1.tr (cw.wk (by decide) (by decide))
      have hw := (wA dw).1
      refine mrdC hw hf (made_ok hw.1 b1.1.2 (by omega) wcol ?_)
      have hal := act_lt (p := p) (m := l k) (n := D f) (c := C f) hp.2 b1.1.2
      have hpb := pow_b hp.2 (n := D f + 1) (by omega)
      refine loopU (S := St) (fun m'' i t => f_X7_averageOf_L87 (nI f) (nI (D f)) (nI (inv p n)) (nI k) (nI (act p (l k) (D f) (C f))) Q _ m'' i t) (D f + 1) (fun i t => chg [6, 8, 11] [] v t ∧ (∀ e, e < i → t 11 e = nI (fb_sm (fun k => dg p (act p (l k) (D f) (C f)) e) (k + 1))) ∧ ∀ e, i ≤ e → e < D f + 1 → t 11 e = nI (fb_sm (fun k => dg p (act p (l k) (D f) (C f)) e) k)) ?_ ?_ 0 (Nat.zero_le _) w ⟨dw, fun e he => absurd he (Nat.not_lt_zero _), fun e _ he => by rw [cw.2 11 (by decide) (by decide)]; exact d2 e he⟩
      · rintro m'' i t hi ⟨a1, a2, a3⟩ kk2
        show f_X7_averageOf_L87_s _ _ _ _ _ _ _ _ _ _
        unfold f_X7_averageOf_L87_s
        refine ⟨fun c => absurd ((nI_ltI (by omega) (by omega)).mp c) (by omega), fun _ => rdM (by omega) (by omega) (fig_ok (wA a1).1.1 (by omega) (by omega) (wrM (by omega) (by omega) ?_))⟩
        rw [a3 i (Nat.le_refl _) hi, nI_add]
        intro v23 e23
        rw [nI_1] at e23
        subst e23
        refine kk2 _ ⟨chg_tsu a1 (by decide) (by decide), fun e he => ?_, fun e he he2 => ?_⟩
        · rw [su_sa, sa_k]
          by_cases q : e = i
          · subst q; rw [upd_in, fb_sm_succ]
          · rw [upd_ne _ _ q]; exact a2 e (by omega)
        · rw [su_sa, sa_k, upd_ne _ _ (by omega)]; exact a3 e (by omega) he2
      · rintro m'' t ⟨a1, a2, a3⟩
        show f_X7_averageOf_L87_s _ _ _ _ _ _ _ _ _ _
        unfold f_X7_averageOf_L87_s
        refine ⟨fun _ v26 e26 => ?_, fun c => absurd ((nI_ltI (by omega) (by omega)).mpr (by omega)) c⟩
        rw [nI_1] at e26
        subst e26
        exact kk _ ⟨a1, a2⟩
    · rintro m' s' ⟨d1, d2⟩
      show f_X7_averageOf_L50_s _ _ _ _ _ _ _ _
      unfold f_X7_averageOf_L50_s
      have hs' := (wA d1).1
      rw [show s' 0 4 = nI n by rw [d1.1 4 (by decide)]; exact v4]
      refine ⟨fun _ => ?_, fun c => absurd (nI_le (Nat.le_refl _) (by omega)) c⟩
      have hbd : ∀ e, fb_sm (fun k => dg p (act p (l k) (D f) (C f)) e) n ≤ n * 5 := fun e => fb_sm_bound (fun k _ => by have := dg_lt (show 0 < p by omega) (act p (l k) (D f) (C f)) e; omega)
      have hlp := loopD2 (fun t i a s'' => f_X7_averageOf_L129 (nI (inv p n)) Q (fun v38 u39 => ((¬ nI (inv p n) = 0 → Q v38 u39) ∧ (nI (inv p n) = 0 → Q (-1) u39))) t a i s'') (fun i a s'' => i ≤ D f + 1 ∧ a = nI (cod p (fun j => fb_sm (fun k => dg p (act p (l k) (D f) (C f)) (i + j)) n % p * inv p n % p) (D f + 1 - i)) ∧ s'' = s') ?_ ?_ (D f + 1) 0 s' ?_
      · rw [dI_s] at hlp; exact hlp
      · rintro t i a s'' ⟨hi, rfl, rfl⟩ kk
        show f_X7_averageOf_L129_s _ _ _ _ _ _ _
        unfold f_X7_averageOf_L129_s
        rw [dI_s]
        refine ⟨fun c => absurd c (nI_pos (by omega)), fun _ => rdM (by omega) (by omega) ?_⟩
        rw [d2 i (by omega)]
        refine mmod_n hs'.1 rfl (by have := hbd i; omega) ?_
        have hml := Nat.mod_lt (fb_sm (fun k => dg p (act p (l k) (D f) (C f)) i) n) (show p > 0 by omega)
        have hm2 : fb_sm (fun k => dg p (act p (l k) (D f) (C f)) i) n % p * inv p n ≤ 5 * 5 := Nat.mul_le_mul (by omega) (by omega)
        rw [pk_mul]
        refine mmod_n hs'.1 rfl (by omega) ?_
        rw [hs'.1.1]
        intro v13 e13 v14 e14
        rw [pk_mul, nI_add] at e13
        rw [nI_d] at e14
        subst e13 e14
        refine kk _ _ ⟨by omega, ?_, rfl⟩
        have e : D f + 1 - i = (D f + 1 - (i + 1)) + 1 := by omega
        rw [e, cod]
        have e2 : (fun j => fb_sm (fun k => dg p (act p (l k) (D f) (C f)) (i + (j + 1))) n % p * inv p n % p) = (fun j => fb_sm (fun k => dg p (act p (l k) (D f) (C f)) (i + 1 + j)) n % p * inv p n % p) := by
          funext j
          rw [show i + (j + 1) = i + 1 + j by omega]
        show nI _ = nI (fb_sm (fun k => dg p (act p (l k) (D f) (C f)) (i + 0)) n % p * inv p n % p + p * cod p (fun j => fb_sm (fun k => dg p (act p (l k) (D f) (C f)) (i + (j + 1))) n % p * inv p n % p) (D f + 1 - (i + 1)))
        rw [e2, show i + 0 = i from rfl, Nat.add_comm]
      · rintro t a s'' ⟨hi, rfl, rfl⟩
        show f_X7_averageOf_L129_s _ _ _ _ _ _ _
        unfold f_X7_averageOf_L129_s
        refine ⟨fun _ => ?_, fun c => absurd (show dI 0 < 0 by decide) c⟩
        have e : cod p (fun j => fb_sm (fun k => dg p (act p (l k) (D f) (C f)) (0 + j)) n % p * inv p n % p) (D f + 1 - 0) = avC p (D f) l n (C f) := by
          unfold avC
          rw [Nat.sub_zero]
          exact cod_cong (fun j _ => by rw [Nat.zero_add])
        refine ⟨fun q => ?_, fun q => ?_⟩
        · show Q (nI (cod p (fun j => fb_sm (fun k => dg p (act p (l k) (D f) (C f)) (0 + j)) n % p * inv p n % p) (D f + 1 - 0))) _
          rw [e]
          exact h1 l n _ gl (fun e0 => q (by rw [e0]; rfl)) (wA d1).2 hs'
        · exact h2 l n _ gl ((nI_eq (b := 0) (by omega) (by omega)).mp q) (wA d1).2 hs'
      · refine ⟨Nat.le_refl _, ?_, rfl⟩
        rw [Nat.sub_self]; rfl
theorem maverage_ok {p ng nf : Nat} {M D C : Nat → Nat} {a : Int32} {u : St} {Q : Int32 → St → Prop} (hC : MI p ng M nf D C u)
    (h1 : ∀ f l n v, f < nf → a = nI f → GL p ng M l n → inv p n ≠ 0 → v 0 0 = 0 → MI p ng M nf D C v → Q (nI (avC p (D f) l n (C f))) v)
    (h2 : ∀ f l n v, f < nf → a = nI f → GL p ng M l n → inv p n = 0 → v 0 0 = 0 → MI p ng M nf D C v → Q (-1) v)
    (h3 : (¬ ∃ f, f < nf ∧ a = nI f) → ∀ v, v 0 0 = 1 → MI p ng M nf D C v → Q 0 v) : f_X7_average a u Q := by
  unfold f_X7_average
  refine mform_ok hC (fun f hf e => ⟨fun q => absurd q (by decide), fun _ => ?_⟩) (fun q => ⟨fun _ => hold1 ⟨fun _ => h3 q _ (by rw [su_kk]) (hC.T 1), fun c => absurd rfl c⟩, fun c => absurd rfl c⟩)
  subst e
  refine hold0 ⟨fun q => absurd q (by decide), fun _ => averageOf_ok (hC.T 0) hf ?_ ?_⟩
  · intro l n v gl hi v0 hv
    exact h1 f l n v hf rfl gl hi (by rw [v0, su_kk]) hv
  · intro l n v gl hi v0 hv
    exact h2 f l n v hf rfl gl hi (by rw [v0, su_kk]) hv
