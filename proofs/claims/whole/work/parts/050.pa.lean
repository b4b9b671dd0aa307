/-! the reference: numbers, boundaries -/
theorem rdM {i k n : Nat} {u : St} {K : Int32 → Prop} (hi : i < k) (hk : k ≤ 4000) (h : K (u n i)) : vp_in (nI i) k ∧ ∀ v : Int32, v = u n (nI i).toNatClampNeg → K v :=
  ⟨vp_in_nI hi (by omega), fun v e => by rw [e, nI_clamp (by omega)]; exact h⟩
theorem wrM {i k n : Nat} {x : Int32} {u : St} {K : St → Prop} (hi : i < k) (hk : k ≤ 4000) (h : K (su u n i x)) : vp_in (nI i) k ∧ ∀ w : St, w = su u n (nI i).toNatClampNeg x → K w :=
  ⟨vp_in_nI hi (by omega), fun v e => by rw [e, nI_clamp (by omega)]; exact h⟩
def MP (u : St) (p : Nat) : Prop := u 0 1 = nI p ∧ isP p
theorem chg.mp {A B : List Nat} {u v : St} {p : Nat} (h : chg A B u v) (hp : MP u p) (h0 : 1 ∉ B) : MP v p := ⟨(h.1 1 h0).trans hp.1, hp.2⟩
theorem mpow_ok {p n : Nat} {u : St} {Q : Int32 → St → Prop} (hp : MP u p) (hn : n ≤ 6) (h : Q (nI (p ^ n)) u) : f_X7_power (nI n) u Q := by
  unfold f_X7_power
  refine loopU2 (fun m i a s => f_X7_power_L4 (nI n) Q (fun v5 u6 => Q v5 u6) m a i s) n (fun i a s => a = nI (p ^ i) ∧ s = u) ?_ ?_ 0 (Nat.zero_le _) 1 u ⟨rfl, rfl⟩
  · rintro m i a s hi ⟨rfl, rfl⟩ kk
    show f_X7_power_L4_s _ _ _ _ _ _ _
    unfold f_X7_power_L4_s
    refine ⟨fun c => absurd c (nI_ge hi (by omega)), fun _ v2 ev2 v3 ev3 => ?_⟩
    rw [hp.1, pk_mul, ← Nat.pow_succ] at ev2
    rw [nI_1] at ev3
    subst ev2 ev3
    exact kk _ _ ⟨rfl, rfl⟩
  · rintro m a s ⟨rfl, rfl⟩
    show f_X7_power_L4_s _ _ _ _ _ _ _
    unfold f_X7_power_L4_s
    exact ⟨fun _ => h, fun c => absurd (nI_le (Nat.le_refl _) (by omega)) c⟩
theorem mmod_ok {p : Nat} {x : Int32} {z : Int} {u : St} {Q : Int32 → St → Prop} (hp : MP u p) (hx : x = iI z) (h1 : -1000000000 < z) (h2 : z < 1000000000) (h : Q (iI (z % p)) u) : f_X7_mod x u Q := by
  have hb := isP_b hp.2
  unfold f_X7_mod
  rw [hp.1, hx]
  refine ⟨nI_ne0 (by omega) (by omega), fun v ev => ?_⟩
  rw [tm_ok (by omega) hb.2 h1 h2] at ev
  have hbb := tmod_bounds (a := z) (M := (p : Int)) (by omega)
  have hm1 := Int.emod_nonneg z (show (p : Int) ≠ 0 by omega)
  have hm2 := Int.emod_lt_of_pos z (show (0 : Int) < p by omega)
  have hmq : mq p (z.tmod p) z := by
    have he := Int.tmod_add_tdiv_mul z p
    refine ⟨-(z.tdiv p), ?_⟩
    rw [Int.mul_neg, Int.mul_comm]
    omega
  have hmq2 := mq_iff.mp hmq
  subst ev
  refine ⟨fun c => ?_, fun c => ?_⟩
  · have c2 := (iI_le (a := 0) (by omega) (by omega) (by omega) (by omega)).mp c
    rw [Int.emod_eq_of_lt c2 (by omega)] at hmq2
    rw [hmq2]; exact h
  · have c2 : ¬ 0 ≤ z.tmod p := fun q => c ((iI_le (a := 0) (by omega) (by omega) (by omega) (by omega)).mpr q)
    rw [iI_n, iI_add]
    have e : z.tmod p + p = z % p := by
      obtain ⟨k, hk⟩ := hmq
      have h3 : mq p (z.tmod p + p) z := ⟨k + 1, by rw [Int.mul_add]; omega⟩
      rw [← mq_iff.mp h3]
      exact (Int.emod_eq_of_lt (by omega) (by omega)).symm
    rw [e]; exact h
theorem mmod_n {p n : Nat} {x : Int32} {u : St} {Q : Int32 → St → Prop} (hp : MP u p) (hx : x = nI n) (h2 : n < 1000000000) (h : Q (nI (n % p)) u) : f_X7_mod x u Q := by
  refine mmod_ok hp (z := (n : Int)) (by rw [hx, iI_n]) (by omega) (by omega) ?_
  have : ((n : Int) % (p : Int)) = ((n % p : Nat) : Int) := by omega
  rw [this, ← iI_n]; exact h
theorem fig_ok {p c i : Nat} {u : St} {Q : Int32 → St → Prop} (hp : MP u p) (hc : c < 1000000000) (hi : i ≤ 5) (h : Q (nI (dg p c i)) u) : f_X7_figure (nI c) (nI i) u Q := by
  have hb := isP_b hp.2
  have hpb := pow_b hp.2 hi
  have hq := pow_pos' hp.2 i
  unfold f_X7_figure
  refine mpow_ok hp (by omega) ⟨nI_ne0 hq (by omega), fun v3 e3 => ⟨by rw [hp.1]; exact nI_ne0 (by omega) (by omega), fun v4 e4 => ?_⟩⟩
  rw [pk_div (by omega) hq (by omega)] at e3
  have hle : c / p ^ i ≤ c := Nat.div_le_self _ _
  unfold dg at h
  generalize c / p ^ i = q at h e3 hle
  rw [e3, hp.1, iI_n, tm_ok (by omega) hb.2 (by omega) (by omega)] at e4
  have : (q : Int).tmod p = ((q % p : Nat) : Int) := by
    rw [Int.tmod_eq_emod_of_nonneg (by omega)]
    rfl
  rw [e4, this, ← iI_n]; exact h
theorem isIn_ok {n : Nat} {a : Int32} {u : St} {Q : Int32 → St → Prop} (hn : n < 1000000000) (h1 : ∀ j, j < n → a = nI j → Q 1 u) (h2 : (¬ ∃ j, j < n ∧ a = nI j) → Q 0 u) : f_X7_isIn a 0 (nI n - 1) u Q := by
  have hd : nI n - 1 = iI ((n : Int) - 1) := by rw [iI_n, show (1 : Int32) = iI 1 from rfl, iI_sub]
  unfold f_X7_isIn
  rw [hd]
  refine ⟨fun c => h2 ?_, fun c => ⟨fun d => h2 ?_, fun d => ?_⟩⟩
  · rintro ⟨j, hj, rfl⟩; exact nI_pos (by omega) c
  · rintro ⟨j, hj, rfl⟩
    rw [iI_n] at d
    have := (iI_lt (by omega) (by omega) (by omega) (by omega)).mp d
    omega
  · rcases pk_ix a (n := n) (by omega) with q | q | ⟨j, hj, e⟩
    · exact absurd q c
    · rw [iI_n] at q
      exact absurd (Int32.lt_of_lt_of_le ((iI_lt (by omega) (by omega) (by omega) (by omega)).mpr (by omega : (n : Int) - 1 < n)) q) d
    · exact h1 j hj e
theorem isIn_k {n : Nat} {a b : Int32} {u : St} {Q : Int32 → St → Prop} (hb : b = nI n - 1) (hn : n < 1000000000) (h1 : ∀ j, j < n → a = nI j → Q 1 u) (h2 : (¬ ∃ j, j < n ∧ a = nI j) → Q 0 u) : f_X7_isIn a 0 b u Q := by
  rw [hb]; exact isIn_ok hn h1 h2
theorem mdeg_ok {a : Int32} {u : St} {Q : Int32 → St → Prop} (h1 : ∀ d, 1 ≤ d → d ≤ 4 → a = nI d → Q 1 u) (h2 : (¬ ∃ d, 1 ≤ d ∧ d ≤ 4 ∧ a = nI d) → Q 0 u) : f_X7_isDegree a u Q := by
  unfold f_X7_isDegree f_X7_isIn
  refine ⟨fun c => ⟨Or.inl rfl, h2 ?_⟩, fun c => ⟨fun d => ⟨Or.inl rfl, h2 ?_⟩, fun d => ⟨Or.inr rfl, ?_⟩⟩⟩
  · rintro ⟨k, hk, hk2, rfl⟩
    have := (nI_ltI (a := k) (b := 1) (by omega) (by omega)).mp c
    omega
  · rintro ⟨k, hk, hk2, rfl⟩
    have := (nI_ltI (a := 4) (b := k) (by omega) (by omega)).mp d
    omega
  · rcases pk_ix a (n := 5) (by omega) with q | q | ⟨j, hj, rfl⟩
    · exact absurd (Int32.lt_of_lt_of_le q (by decide : (0 : Int32) ≤ 1)) c
    · exact absurd (Int32.lt_of_lt_of_le (by decide : (4 : Int32) < nI 5) q) d
    · have : ¬ j < 1 := fun q => c ((nI_ltI (a := j) (b := 1) (by omega) (by omega)).mpr q)
      exact h1 j (by omega) (by omega) rfl
theorem hold0 {u : St} {Q : Int32 → St → Prop} (h : Q 1 (su u 0 0 0)) : f_X7_holds 0 u Q := by
  unfold f_X7_holds
  intro u1 e; subst e
  exact ⟨fun c => absurd rfl c, fun _ => h⟩
theorem hold1 {u : St} {Q : Int32 → St → Prop} (h : Q 0 (su u 0 0 1)) : f_X7_holds 1 u Q := by
  unfold f_X7_holds
  intro u1 e; subst e
  exact ⟨fun _ => h, fun c => absurd c (by decide)⟩
theorem hold2 {u : St} {Q : Int32 → St → Prop} (h : Q 0 (su u 0 0 2)) : f_X7_holds 2 u Q := by
  unfold f_X7_holds
  intro u1 e; subst e
  exact ⟨fun _ => h, fun c => absurd c (by decide)⟩
/-- the reference's state between calls -/
def MI (p ng : Nat) (M : Nat → Nat) (nf : Nat) (D C : Nat → Nat) (u : St) : Prop :=
  MP u p ∧ gensOk p ng M ∧ (ng ≤ 4 ∧ u 0 3 = nI ng) ∧ (∀ g, g < ng → ∀ i, i < 4 → u 3 (4 * g + i) = nI (dg p (M g) i)) ∧ (nf ≤ 20 ∧ u 0 2 = nI nf) ∧ ∀ f, f < nf → (1 ≤ D f ∧ D f ≤ 4) ∧ C f < p ^ (D f + 1) ∧ u 1 f = nI (D f) ∧ u 2 f = nI (C f)
def MA : List Nat := [4, 5, 6, 7, 8, 9, 10, 11, 12, 13, 14, 15]
def MB : List Nat := [0, 4, 5, 6]
theorem MI.chg {p ng nf : Nat} {M D C : Nat → Nat} {u v : St} (h : MI p ng M nf D C u) (c : chg MA MB u v) : MI p ng M nf D C v := by
  obtain ⟨h1, h2, h3, h4, h5, h6⟩ := h
  refine ⟨c.mp h1 (by decide), h2, ⟨h3.1, ?_⟩, fun g hg i hi => ?_, ⟨h5.1, ?_⟩, fun f hf => ?_⟩
  · rw [c.1 3 (by decide)]; exact h3.2
  · rw [c.2 3 (by decide) (by decide)]; exact h4 g hg i hi
  · rw [c.1 2 (by decide)]; exact h5.2
  · rw [c.2 1 (by decide) (by decide), c.2 2 (by decide) (by decide)]; exact h6 f hf
theorem chT (u : St) (k : Int32) : chg MA MB u (su u 0 0 k) := chg_ts0 (chg_rf _ _ _) (by decide)
theorem MI.T {p ng nf : Nat} {M D C : Nat → Nat} {u : St} (h : MI p ng M nf D C u) (k : Int32) : MI p ng M nf D C (su u 0 0 k) := h.chg (chT u k)
theorem MI.f {p ng nf f : Nat} {M D C : Nat → Nat} {u : St} (hC : MI p ng M nf D C u) (hf : f < nf) : (1 ≤ D f ∧ D f ≤ 4) ∧ C f < p ^ (D f + 1) ∧ C f < 3125 ∧ f < 20 := by
  obtain ⟨h1, _, _, _, h5, h6⟩ := hC
  have := pow_b h1.2 (n := D f + 1) (by have := (h6 f hf).1; omega)
  exact ⟨(h6 f hf).1, (h6 f hf).2.1, by have := (h6 f hf).2.1; omega, by omega⟩
theorem mform_ok {p ng nf : Nat} {M D C : Nat → Nat} {a : Int32} {u : St} {Q : Int32 → St → Prop} (hC : MI p ng M nf D C u) (h1 : ∀ f, f < nf → a = nI f → Q 1 u) (h2 : (¬ ∃ f, f < nf ∧ a = nI f) → Q 0 u) : f_X7_isForm a u Q := by
  have h5 := hC.2.2.2.2.1
  unfold f_X7_isForm
  rw [h5.2]
  exact isIn_ok (by omega) (fun j hj e => ⟨Or.inr rfl, h1 j hj e⟩) (fun q => ⟨Or.inl rfl, h2 q⟩)
theorem mnum_ok {p : Nat} {a : Int32} {u : St} {Q : Int32 → St → Prop} (hp : MP u p) (h1 : ∀ x, x < p → a = nI x → Q 1 u) (h2 : (¬ ∃ x, x < p ∧ a = nI x) → Q 0 u) : f_X7_isNumber a u Q := by
  have hb := isP_b hp.2
  unfold f_X7_isNumber
  rw [hp.1]
  exact isIn_ok (by omega) (fun j hj e => ⟨Or.inr rfl, h1 j hj e⟩) (fun q => ⟨Or.inl rfl, h2 q⟩)
theorem mrdD {p ng nf f : Nat} {M D C : Nat → Nat} {u : St} {K : Int32 → Prop} (hC : MI p ng M nf D C u) (hf : f < nf) (h : K (nI (D f))) : vp_in (nI f) 20 ∧ ∀ v : Int32, v = u 1 (nI f).toNatClampNeg → K v := by
  obtain ⟨_, _, _, _, h5, h6⟩ := hC
  refine rdM (by omega) (by omega) ?_
  rw [(h6 f hf).2.2.1]; exact h
theorem mrdC {p ng nf f : Nat} {M D C : Nat → Nat} {u : St} {K : Int32 → Prop} (hC : MI p ng M nf D C u) (hf : f < nf) (h : K (nI (C f))) : vp_in (nI f) 20 ∧ ∀ v : Int32, v = u 2 (nI f).toNatClampNeg → K v := by
  obtain ⟨_, _, _, _, h5, h6⟩ := hC
  refine rdM (by omega) (by omega) ?_
  rw [(h6 f hf).2.2.2]; exact h
theorem mprime_go {p p' ng nf : Nat} {M D C : Nat → Nat} {u : St} {Q : Int32 → St → Prop} (hC : MI p ng M nf D C u) (hp' : isP p')
    (h : ∀ v, v 0 0 = 0 → (∀ M' D' C', MI p' 0 M' 0 D' C' v) → Q (nI p) v) : ∀ v5 : Int32, v5 = (su u 0 0 0) 0 1 → ∀ u6 : St, u6 = su (su u 0 0 0) 0 1 (nI p') → ∀ u7 : St, u7 = su u6 0 2 0 → ∀ u8 : St, u8 = su u7 0 3 0 → Q v5 u8 := by
  intro v5 e5 u6 e6 u7 e7 u8 e8
  have h5 : v5 = nI p := by rw [e5, su_kn _ _ _ (by decide)]; exact hC.1.1
  rw [h5]
  refine h u8 ?_ (fun M' D' C' => ⟨⟨?_, hp'⟩, fun g hg => absurd hg (Nat.not_lt_zero _), ⟨by omega, ?_⟩, fun g hg => absurd hg (Nat.not_lt_zero _), ⟨by omega, ?_⟩, fun f hf => absurd hf (Nat.not_lt_zero _)⟩)
  · rw [e8, su_kn _ _ _ (by decide), e7, su_kn _ _ _ (by decide), e6, su_kn _ _ _ (by decide), su_kk]
  · rw [e8, su_kn _ _ _ (by decide), e7, su_kn _ _ _ (by decide), e6, su_kk]
  · rw [e8, su_kk]; rfl
  · rw [e8, su_kn _ _ _ (by decide), e7, su_kk]; rfl
theorem mprime_ok {p ng nf : Nat} {M D C : Nat → Nat} {a : Int32} {u : St} {Q : Int32 → St → Prop} (hC : MI p ng M nf D C u)
    (h1 : ∀ p' v, isP p' → a = nI p' → v 0 0 = 0 → (∀ M' D' C', MI p' 0 M' 0 D' C' v) → Q (nI p) v) (h2 : (¬ ∃ p', isP p' ∧ a = nI p') → ∀ v, v 0 0 = 1 → MI p ng M nf D C v → Q 0 v) : f_X7_prime a u Q := by
  unfold f_X7_prime
  refine ⟨fun e => ?_, fun n2 => ⟨fun e => ?_, fun n3 => ⟨fun n5 => ?_, fun e => ?_⟩⟩⟩
  · rw [e]; exact hold0 ⟨fun _ => mprime_go (p' := 2) hC (Or.inl rfl) (fun v v0 hv => h1 2 v (Or.inl rfl) e v0 hv), fun c => absurd c (by decide)⟩
  · rw [e]; exact hold0 ⟨fun _ => mprime_go (p' := 3) hC (Or.inr (Or.inl rfl)) (fun v v0 hv => h1 3 v (Or.inr (Or.inl rfl)) e v0 hv), fun c => absurd c (by decide)⟩
  · refine hold1 ⟨fun c => absurd rfl c, fun _ => h2 ?_ _ (by rw [su_kk]) (hC.T 1)⟩
    rintro ⟨p', (rfl | rfl | rfl), e⟩
    · exact n2 e
    · exact n3 e
    · exact n5 e
  · rw [e]; exact hold0 ⟨fun _ => mprime_go (p' := 5) hC (Or.inr (Or.inr rfl)) (fun v v0 hv => h1 5 v (Or.inr (Or.inr rfl)) e v0 hv), fun c => absurd c (by decide)⟩
theorem mformT_go {p ng nf d c : Nat} {M D C : Nat → Nat} {u : St} {Q : Int32 → St → Prop} (hC : MI p ng M nf D C u) (u0 : u 0 0 = 0) (hd1 : 1 ≤ d) (hd4 : d ≤ 4) (hc : c < p ^ (d + 1)) (h20 : nf < 20)
    (h : ∀ v, v 0 0 = 0 → MI p ng M (nf + 1) (nxt D nf d) (nxt C nf c) v → Q (nI nf) v) : vp_in (u 0 2) 20 ∧ ∀ u8 : St, u8 = su u 1 (u 0 2).toNatClampNeg (nI d) → (vp_in (u8 0 2) 20 ∧ ∀ u9 : St, u9 = su u8 2 (u8 0 2).toNatClampNeg (nI c) → (∀ u10 : St, u10 = su u9 0 2 ((u9 0 2) + 1) → Q ((u10 0 2) - 1) u10)) := by
  obtain ⟨h1, h2, h3, h4, h5, h6⟩ := hC
  rw [h5.2]
  refine wrM h20 (by omega) ?_
  rw [su_n _ _ _ (by decide), h5.2]
  refine wrM h20 (by omega) ?_
  intro u10 e10
  rw [su_n _ _ _ (by decide), su_n _ _ _ (by decide), h5.2, nI_1] at e10
  have h77 : u10 0 2 = nI (nf + 1) := by rw [e10, su_kk]
  rw [h77, nI_pred]
  have cc : chg [1, 2] [2] u u10 := by rw [e10]; exact chg_ts0 (chg_tsu (chg_tsu (chg_rf _ _ _) (by decide) (by decide)) (by decide) (by decide)) (by decide)
  refine h u10 (by rw [cc.1 0 (by decide)]; exact u0) ⟨cc.mp h1 (by decide), h2, ⟨h3.1, by rw [cc.1 3 (by decide)]; exact h3.2⟩, fun g hg i hi => by rw [cc.2 3 (by decide) (by decide)]; exact h4 g hg i hi, ⟨by omega, h77⟩, fun f hf => ?_⟩
  have a7 : u10 1 = upd (u 1) nf (nI d) := by
    rw [e10, su_n _ _ _ (by decide), su_n _ _ _ (by decide), su_sa, sa_k]
  have a8 : u10 2 = upd (u 2) nf (nI c) := by
    rw [e10, su_n _ _ _ (by decide), su_sa, sa_k, su_n _ _ _ (by decide)]
  rw [a7, a8]
  unfold nxt
  by_cases q2 : f = nf
  · subst q2
    rw [if_pos rfl, if_pos rfl, upd_in, upd_in]
    exact ⟨⟨hd1, hd4⟩, hc, rfl, rfl⟩
  · rw [if_neg q2, if_neg q2, upd_ne _ _ q2, upd_ne _ _ q2]
    exact h6 f (by omega)
theorem mformT_ok {p ng nf : Nat} {M D C : Nat → Nat} {a b : Int32} {u : St} {Q : Int32 → St → Prop} (hC : MI p ng M nf D C u)
    (h1 : ∀ d c v, 1 ≤ d → d ≤ 4 → a = nI d → c < p ^ (d + 1) → b = nI c → nf < 20 → v 0 0 = 0 → MI p ng M (nf + 1) (nxt D nf d) (nxt C nf c) v → Q (nI nf) v)
    (h2 : (¬ ∃ d, (1 ≤ d ∧ d ≤ 4) ∧ a = nI d ∧ ∃ c, c < p ^ (d + 1) ∧ b = nI c) → ∀ v, v 0 0 = 1 → MI p ng M nf D C v → Q 0 v)
    (h3 : ∀ d c, 1 ≤ d → d ≤ 4 → a = nI d → c < p ^ (d + 1) → b = nI c → ¬ nf < 20 → ∀ v, v 0 0 = 2 → MI p ng M nf D C v → Q 0 v) : f_X7_form a b u Q := by
  have h5 := hC.2.2.2.2.1
  unfold f_X7_form
  refine mdeg_ok (fun d hd1 hd4 e => ⟨fun c => absurd c (by decide), fun _ => ?_⟩) (fun q => ⟨fun _ => hold1 ⟨fun c => absurd rfl c, fun _ => h2 (fun ⟨d, q2, e, _⟩ => q ⟨d, q2.1, q2.2, e⟩) _ (by rw [su_kk]) (hC.T 1)⟩, fun c => absurd rfl c⟩)
  subst e
  have hpb := pow_b hC.1.2 (n := d + 1) (by omega)
  rw [nI_1]
  refine mpow_ok hC.1 (by omega) ?_
  refine isIn_ok (by omega) (fun c hc e => ⟨fun q => absurd q (by decide), fun _ => ?_⟩) (fun q => ⟨fun _ => hold1 ⟨fun c => absurd rfl c, fun _ => h2 ?_ _ (by rw [su_kk]) (hC.T 1)⟩, fun c => absurd rfl c⟩)
  · subst e
    rw [h5.2]
    refine ⟨fun q => ?_, fun q => ?_⟩
    · have h20 : nf < 20 := by
        have : nf ≠ 20 := fun e => q (by rw [e]; rfl)
        omega
      refine hold0 ⟨fun _ => mformT_go (hC.T 0) (by rw [su_kk]) hd1 hd4 hc h20 (fun v v0 hv => h1 d c v hd1 hd4 rfl hc rfl h20 v0 hv), fun c => absurd c (by decide)⟩
    · have h20 : nf = 20 := (nI_eq (b := 20) (by omega) (by omega)).mp q
      exact hold2 ⟨fun c => absurd rfl c, fun _ => h3 d c hd1 hd4 rfl hc rfl (by omega) _ (by rw [su_kk]) (hC.T 2)⟩
  · rintro ⟨d', q1, q2, q3⟩
    have := (nI_eq (by omega) (by omega)).mp q2
    subst this
    exact q q3
