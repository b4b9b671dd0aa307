/-! the class's answers about forms -/
def formR (p ng : Nat) (M : Nat → Nat) (d c : Nat) (b r : Int32) : Prop :=
  (b = 0 → r = nI d) ∧ (b = 1 → r = nI c) ∧ (b = 2 → r = nI (rts p d c)) ∧ (b = 3 → (nul p d c → r = 1) ∧ (¬ nul p d c → r = 0)) ∧ (b = 4 → r = if lvs p ng d M c = true then 1 else 0) ∧ (b = 5 → ∃ K, stopAt (fO p d M) ng c K ∧ r = nI K) ∧ (b = 6 → ∃ K, stopAt (fO p d M) ng c K ∧ r = nI (lst (wq (wout (fO p d M) ng c K)) K))
theorem formR_one {p ng d c : Nat} {M : Nat → Nat} {b r r' : Int32} (hb : ∃ w, w ≤ 6 ∧ b = nI w) (h : formR p ng M d c b r) (h' : formR p ng M d c b r') : r = r' := by
  obtain ⟨w, hw, rfl⟩ := hb
  obtain ⟨a0, a1, a2, a3, a4, a5, a6⟩ := h
  obtain ⟨b0, b1, b2, b3, b4, b5, b6⟩ := h'
  have : w = 0 ∨ w = 1 ∨ w = 2 ∨ w = 3 ∨ w = 4 ∨ w = 5 ∨ w = 6 := by omega
  rcases this with rfl | rfl | rfl | rfl | rfl | rfl | rfl
  · rw [a0 rfl, b0 rfl]
  · rw [a1 rfl, b1 rfl]
  · rw [a2 rfl, b2 rfl]
  · by_cases q : nul p d c
    · rw [(a3 rfl).1 q, (b3 rfl).1 q]
    · rw [(a3 rfl).2 q, (b3 rfl).2 q]
  · rw [a4 rfl, b4 rfl]
  · obtain ⟨K, hK, e⟩ := a5 rfl
    obtain ⟨K', hK', e'⟩ := b5 rfl
    rw [e, e', stop_one hK hK']
  · obtain ⟨K, hK, e⟩ := a6 rfl
    obtain ⟨K', hK', e'⟩ := b6 rfl
    have := stop_one hK hK'
    subst this
    rw [e, e']
theorem chg9 {u v : St} (h : chg [9] [] u v) : chg SA SB u v := h.wk (by decide) (by decide)
/-- all answers but those that b names are told by nothing -/
theorem formR_of {p ng d c : Nat} {M : Nat → Nat} {r : Int32} (w : Nat) (hw : w ≤ 6) (h : (w = 0 → r = nI d) ∧ (w = 1 → r = nI c) ∧ (w = 2 → r = nI (rts p d c)) ∧ (w = 3 → (nul p d c → r = 1) ∧ (¬ nul p d c → r = 0)) ∧ (w = 4 → r = if lvs p ng d M c = true then 1 else 0) ∧ (w = 5 → ∃ K, stopAt (fO p d M) ng c K ∧ r = nI K) ∧ (w = 6 → ∃ K, stopAt (fO p d M) ng c K ∧ r = nI (lst (wq (wout (fO p d M) ng c K)) K))) : formR p ng M d c (nI w) r := by
  obtain ⟨h0, h1, h2, h3, h4, h5, h6⟩ := h
  exact ⟨fun e => h0 ((nI_eq (b := 0) (by omega) (by omega)).mp e), fun e => h1 ((nI_eq (b := 1) (by omega) (by omega)).mp e), fun e => h2 ((nI_eq (b := 2) (by omega) (by omega)).mp e), fun e => h3 ((nI_eq (b := 3) (by omega) (by omega)).mp e), fun e => h4 ((nI_eq (b := 4) (by omega) (by omega)).mp e), fun e => h5 ((nI_eq (b := 5) (by omega) (by omega)).mp e), fun e => h6 ((nI_eq (b := 6) (by omega) (by omega)).mp e)⟩
theorem formIs_ok {al p ng nf : Nat} {M D C : Nat → Nat} {a b : Int32} {u : St} {Q : Int32 → St → Prop} {QX : String → St → Prop} (hC : CI al p ng M nf D C u)
    (h1 : ∀ f w r v, f < nf → a = nI f → w ≤ 6 → b = nI w → formR p ng M (D f) (C f) b r → CI al p ng M nf D C v → Q r v)
    (h2 : ∀ f, f < nf → a = nI f → (¬ ∃ w, w ≤ 6 ∧ b = nI w) → QX "java/lang/IllegalArgumentException" u)
    (h3 : (¬ ∃ f, f < nf ∧ a = nI f) → QX "java/lang/IndexOutOfBoundsException" u) : f_X6_formIs al a b u Q QX := by
  unfold f_X6_formIs
  refine checkF hC (fun f hf ef => ?_) h3
  subst ef
  have b1 := hC.f hf
  have hp := hC.1
  refine rdD hC hf (rdC hC hf ?_)
  refine ⟨fun e => ?_, fun e => ?_, fun e => ?_, fun e => ?_, fun e => ?_, fun e => ?_, fun e => ?_, fun e => ?_⟩
  · exact h1 f 0 _ u hf rfl (by omega) e (by subst e; exact formR_of 0 (by omega) ⟨fun _ => rfl, by omega, by omega, by omega, by omega, by omega, by omega⟩) hC
  · exact h1 f 1 _ u hf rfl (by omega) e (by subst e; exact formR_of 1 (by omega) ⟨by omega, fun _ => rfl, by omega, by omega, by omega, by omega, by omega⟩) hC
  · refine roots_ok hp b1.1.2 (by omega) ?_
    intro v cv
    exact h1 f 2 _ v hf rfl (by omega) e (by subst e; exact formR_of 2 (by omega) ⟨by omega, by omega, fun _ => rfl, by omega, by omega, by omega, by omega⟩) (hC.chg (chg9 cv))
  · refine null_ok hp b1.1.2 (by omega) (fun q v cv => ?_) (fun q v cv => ?_)
    · refine ⟨fun c => absurd c (by decide), fun _ => ?_⟩
      exact h1 f 3 _ v hf rfl (by omega) e (by subst e; exact formR_of 3 (by omega) ⟨by omega, by omega, by omega, fun _ => ⟨fun _ => rfl, fun q2 => absurd q q2⟩, by omega, by omega, by omega⟩) (hC.chg (chg9 cv))
    · refine ⟨fun _ => ?_, fun c => absurd rfl c⟩
      exact h1 f 3 _ v hf rfl (by omega) e (by subst e; exact formR_of 3 (by omega) ⟨by omega, by omega, by omega, fun _ => ⟨fun q2 => absurd q2 q, fun _ => rfl⟩, by omega, by omega, by omega⟩) (hC.chg (chg9 cv))
  · refine leaves_ok hp.2 hC.2.2.1 hC.2.2.2.1 b1.1.1 b1.1.2 b1.2.1 ?_
    have hr : ∀ r : Int32, r = (if lvs p ng (D f) M (C f) = true then 1 else 0) → Q r u := fun r hr => h1 f 4 _ u hf rfl (by omega) e (by subst e; exact formR_of 4 (by omega) ⟨by omega, by omega, by omega, by omega, fun _ => hr, by omega, by omega⟩) hC
    by_cases q : lvs p ng (D f) M (C f) = true
    · rw [if_pos q] at hr ⊢
      exact ⟨fun c => absurd c (by decide), fun _ => hr 1 rfl⟩
    · rw [if_neg q] at hr ⊢
      exact ⟨fun _ => hr 0 rfl, fun c => absurd rfl c⟩
  · refine walk_ok hC b1.1.1 b1.1.2 b1.2.1 ?_
    intro K v hK h480 hlt hv hw
    refine h1 f 5 _ v hf rfl (by omega) e ?_ hv
    subst e
    exact formR_of 5 (by omega) ⟨by omega, by omega, by omega, by omega, by omega, fun _ => ⟨K, hK, by rw [hw.1, stop_m hK]⟩, by omega⟩
  · refine walk_ok hC b1.1.1 b1.1.2 b1.2.1 ?_
    intro K v hK h480 hlt hv hw
    have hKm := stop_m hK
    refine least_ok hw (wout_WI _ _ _ _).1 (by omega) (fun k hk => hlt k (by omega)) ?_
    refine h1 f 6 _ v hf rfl (by omega) e ?_ hv
    subst e
    exact formR_of 6 (by omega) ⟨by omega, by omega, by omega, by omega, by omega, by omega, fun _ => ⟨K, hK, by rw [hKm]⟩⟩
  · refine h2 f hf rfl ?_
    rintro ⟨w, hw, rfl⟩
    have : w = 0 ∨ w = 1 ∨ w = 2 ∨ w = 3 ∨ w = 4 ∨ w = 5 ∨ w = 6 := by omega
    obtain ⟨e0, e1, e2, e3, e4, e5, e6⟩ := e
    rcases this with rfl | rfl | rfl | rfl | rfl | rfl | rfl
    · exact e0 rfl
    · exact e1 rfl
    · exact e2 rfl
    · exact e3 rfl
    · exact e4 rfl
    · exact e5 rfl
    · exact e6 rfl
/-- a form at x and y -/
def atV (p x y d : Nat) (F : Nat → Nat) : Nat := fb_sm (fun i => F i * (x ^ (d - i) % p) * (y ^ i % p)) (d + 1) % p
theorem sm_le {f : Nat → Nat} {c : Nat} (h : ∀ k, f k ≤ c) : ∀ n, fb_sm f n ≤ n * c := fun n => fb_sm_bound (fun k _ => h k)
theorem at_ok {al p ng nf : Nat} {M D C : Nat → Nat} {a b c : Int32} {u : St} {Q : Int32 → St → Prop} {QX : String → St → Prop} (hC : CI al p ng M nf D C u)
    (h1 : ∀ f x y v, f < nf → a = nI f → x < p → b = nI x → y < p → c = nI y → CI al p ng M nf D C v → Q (nI (atV p x y (D f) (dg p (C f)))) v)
    (h2 : ∀ f, f < nf → a = nI f → (¬ ((∃ x, x < p ∧ b = nI x) ∧ ∃ y, y < p ∧ c = nI y)) → QX "java/lang/IllegalArgumentException" u)
    (h3 : (¬ ∃ f, f < nf ∧ a = nI f) → QX "java/lang/IndexOutOfBoundsException" u) : f_X6_at al a b c u Q QX := by
  unfold f_X6_at
  refine checkF hC (fun f hf ef => ?_) h3
  subst ef
  have b1 := hC.f hf
  have hp := hC.1
  have hb := isP_b hp.2
  refine has_ok hp (fun ⟨x, hx, ex⟩ => ⟨fun c => absurd c (by decide), fun _ => ?_⟩) (fun q => ⟨fun _ => h2 f hf rfl (fun q2 => q q2.1), fun c => absurd rfl c⟩)
  refine has_ok hp (fun ⟨y, hy, ey⟩ => ⟨fun _ => ?_, fun c => absurd c (by decide)⟩) (fun q => ⟨fun c => absurd rfl c, fun _ => h2 f hf rfl (fun q2 => q q2.2)⟩)
  subst ex ey
  refine rdD hC hf (rdC hC hf ?_)
  refine spell_ok hp (by decide) (by decide) (by omega) ?_
  have c0 : chg [9] [] u (sa u 9 (fun j => if j < 5 then nI (dg p (C f) j) else u 9 j)) := chg_sa (by decide) (by decide)
  have hterm : ∀ i, dg p (C f) i * (x ^ (D f - i) % p) * (y ^ i % p) ≤ 125 := fun i => by
    have e1 := dg_lt (show 0 < p by omega) (C f) i
    have e2 := Nat.mod_lt (x ^ (D f - i)) (show p > 0 by omega)
    have e3 := Nat.mod_lt (y ^ i) (show p > 0 by omega)
    have e4 : dg p (C f) i * (x ^ (D f - i) % p) ≤ 5 * 5 := Nat.mul_le_mul (by omega) (by omega)
    have e5 : dg p (C f) i * (x ^ (D f - i) % p) * (y ^ i % p) ≤ 25 * 5 := Nat.mul_le_mul e4 (by omega)
    omega
  refine loopU2 (fun m i a s => f_X6_at_L72 al (nI x) (nI y) (nI (D f)) Q QX (fun v23 u24 => f_X2_rest al v23 u24 (fun v25 u26 => Q v25 u26)) m a i s) (D f + 1) (fun i a s => s = sa u 9 (fun j => if j < 5 then nI (dg p (C f) j) else u 9 j) ∧ a = nI (fb_sm (fun i => dg p (C f) i * (x ^ (D f - i) % p) * (y ^ i % p)) i)) ?_ ?_ 0 (Nat.zero_le _) 0 _ ⟨rfl, rfl⟩
  · rintro m i a s hi ⟨rfl, rfl⟩ kk
    show f_X6_at_L72_s _ _ _ _ _ _ _ _ _ _ _
    unfold f_X6_at_L72_s
    refine ⟨fun c => absurd ((nI_ltI (by omega) (by omega)).mp c) (by omega), fun _ => ?_⟩
    refine read_ok (by exact (by omega : i < 5)) ?_
    rw [sa_k, if_pos (by omega), pk_sub (by omega)]
    refine power_ok (c0.pp hp (by decide)) hx (by omega) (power_ok (c0.pp hp (by decide)) hy (by omega) ?_)
    intro v20 e20 v21 e21
    rw [nI_1] at e21
    rw [pk_mul, pk_mul, nI_add] at e20
    subst e20 e21
    exact kk _ _ ⟨rfl, by rw [fb_sm_succ]⟩
  · rintro m a s ⟨rfl, rfl⟩
    show f_X6_at_L72_s _ _ _ _ _ _ _ _ _ _ _
    unfold f_X6_at_L72_s
    refine ⟨fun _ => ?_, fun c => absurd ((nI_ltI (by omega) (by omega)).mpr (by omega)) c⟩
    have hs := sm_le hterm (D f + 1)
    have : (D f + 1) * 125 ≤ 5 * 125 := Nat.mul_le_mul (by omega) (by omega)
    refine rest_n (c0.pp hp (by decide)) rfl (by omega) ?_
    exact h1 f x y _ hf rfl hx rfl hy rfl (hC.chg (chg9 c0))
theorem mult_ok {al p ng nf : Nat} {M D C : Nat → Nat} {a b : Int32} {u : St} {Q : Int32 → St → Prop} {QX : String → St → Prop} (hC : CI al p ng M nf D C u)
    (h1 : ∀ f t v, f < nf → a = nI f → t ≤ p → b = nI t → CI al p ng M nf D C v → Q (nI (dvs p t (D f + 1) (dg p (C f)))) v)
    (h2 : (¬ ((∃ f, f < nf ∧ a = nI f) ∧ ∃ t, t ≤ p ∧ b = nI t)) → QX "java/lang/IndexOutOfBoundsException" u) : f_X6_multiplicity al a b u Q QX := by
  unfold f_X6_multiplicity
  refine checkF hC (fun f hf ef => ?_) (fun q => h2 (fun q2 => q q2.1))
  subst ef
  have b1 := hC.f hf
  have hp := hC.1
  have hb := isP_b hp.2
  rw [hp.1]
  refine ⟨fun c => h2 ?_, fun c => ⟨fun c2 => ?_, fun c2 => h2 ?_⟩⟩
  · rintro ⟨_, t, ht, rfl⟩; exact nI_pos (by omega) c
  · rcases pk_ix b (n := p + 1) (by omega) with q | q | ⟨t, ht, rfl⟩
    · exact absurd q c
    · have := Int32.lt_of_lt_of_le ((nI_ltI (a := p) (b := p + 1) (by omega) (by omega)).mpr (by omega)) q
      exact absurd c2 (Int32.not_le.mpr this)
    · refine rdD hC hf (rdC hC hf (divisions_ok hp b1.1.2 (by omega) (by omega) ?_))
      intro v cv
      exact h1 f t v hf rfl (by omega) rfl (hC.chg (chg9 cv))
  · rintro ⟨_, t, ht, rfl⟩; exact c2 (nI_le ht (by omega))
/-! told values -/
def nval (d : Nat) : Nat := if d = 2 ∨ d = 3 then 1 else if d = 4 then 2 else 0
def valZ (d w : Nat) (F : Nat → Nat) : Int :=
  if d = 2 then (F 1 : Int) * F 1 - 4 * F 0 * F 2
  else if d = 3 then (F 1 : Int) * F 1 * F 2 * F 2 - 4 * F 0 * F 2 * F 2 * F 2 - 4 * F 1 * F 1 * F 1 * F 3 - 27 * F 0 * F 0 * F 3 * F 3 + 18 * F 0 * F 1 * F 2 * F 3
  else if w = 0 then 12 * (F 0 : Int) * F 4 - 3 * F 1 * F 3 + F 2 * F 2
  else 72 * (F 0 : Int) * F 2 * F 4 + 9 * F 1 * F 2 * F 3 - 27 * F 0 * F 3 * F 3 - 27 * F 4 * F 1 * F 1 - 2 * F 2 * F 2 * F 2
theorem ib {x y : Int} {X Y : Nat} (h1 : 0 ≤ x) (h2 : x ≤ X) (h3 : 0 ≤ y) (h4 : y ≤ Y) : 0 ≤ x * y ∧ x * y ≤ ((X * Y : Nat) : Int) := by
  refine ⟨Int.mul_nonneg h1 h3, ?_⟩
  rw [Int.natCast_mul]
  exact Int.mul_le_mul h2 h4 h3 (by omega)
theorem valZ_b {p d w : Nat} {F : Nat → Nat} (hp : p ≤ 5) (hF : ∀ i, F i < p) : -1000000000 < valZ d w F ∧ valZ d w F < 1000000000 := by
  have h0 := hF 0
  have h1 := hF 1
  have h2 := hF 2
  have h3 := hF 3
  have h4 := hF 4
  have p4 : ∀ (c a b : Nat), c ≤ 100 → a < p → b < p → 0 ≤ (c : Int) * a * b ∧ (c : Int) * a * b ≤ ((100 * 4 * 4 : Nat) : Int) := fun c a b hc ha hb => by
    have e1 := ib (x := (c : Int)) (y := (a : Int)) (X := 100) (Y := 4) (by omega) (by omega) (by omega) (by omega)
    exact ib e1.1 e1.2 (by omega) (by omega)
  have p5 : ∀ (c a b e : Nat), c ≤ 100 → a < p → b < p → e < p → 0 ≤ (c : Int) * a * b * e ∧ (c : Int) * a * b * e ≤ ((100 * 4 * 4 * 4 : Nat) : Int) := fun c a b e hc ha hb he => by
    have e1 := p4 c a b hc ha hb
    exact ib e1.1 e1.2 (by omega) (by omega)
  have p6 : ∀ (c a b e f : Nat), c ≤ 100 → a < p → b < p → e < p → f < p → 0 ≤ (c : Int) * a * b * e * f ∧ (c : Int) * a * b * e * f ≤ ((100 * 4 * 4 * 4 * 4 : Nat) : Int) := fun c a b e f hc ha hb he hf => by
    have e1 := p5 c a b e hc ha hb he
    exact ib e1.1 e1.2 (by omega) (by omega)
  unfold valZ
  split
  · have e1 := p4 1 (F 1) (F 1) (by omega) h1 h1
    have e2 := p4 4 (F 0) (F 2) (by omega) h0 h2
    rw [show ((1 : Nat) : Int) = 1 from rfl, Int.one_mul] at e1
    rw [show ((4 : Nat) : Int) = 4 from rfl] at e2
    omega
  · split
    · have e1 := p6 1 (F 1) (F 1) (F 2) (F 2) (by omega) h1 h1 h2 h2
      have e2 := p6 4 (F 0) (F 2) (F 2) (F 2) (by omega) h0 h2 h2 h2
      have e3 := p6 4 (F 1) (F 1) (F 1) (F 3) (by omega) h1 h1 h1 h3
      have e4 := p6 27 (F 0) (F 0) (F 3) (F 3) (by omega) h0 h0 h3 h3
      have e5 := p6 18 (F 0) (F 1) (F 2) (F 3) (by omega) h0 h1 h2 h3
      rw [show ((1 : Nat) : Int) = 1 from rfl, Int.one_mul] at e1
      rw [show ((4 : Nat) : Int) = 4 from rfl] at e2 e3
      rw [show ((27 : Nat) : Int) = 27 from rfl] at e4
      rw [show ((18 : Nat) : Int) = 18 from rfl] at e5
      omega
    · split
      · have e1 := p4 12 (F 0) (F 4) (by omega) h0 h4
        have e2 := p4 3 (F 1) (F 3) (by omega) h1 h3
        have e3 := p4 1 (F 2) (F 2) (by omega) h2 h2
        rw [show ((12 : Nat) : Int) = 12 from rfl] at e1
        rw [show ((3 : Nat) : Int) = 3 from rfl] at e2
        rw [show ((1 : Nat) : Int) = 1 from rfl, Int.one_mul] at e3
        omega
      · have e1 := p5 72 (F 0) (F 2) (F 4) (by omega) h0 h2 h4
        have e2 := p5 9 (F 1) (F 2) (F 3) (by omega) h1 h2 h3
        have e3 := p5 27 (F 0) (F 3) (F 3) (by omega) h0 h3 h3
        have e4 := p5 27 (F 4) (F 1) (F 1) (by omega) h4 h1 h1
        have e5 := p5 2 (F 2) (F 2) (F 2) (by omega) h2 h2 h2
        rw [show ((72 : Nat) : Int) = 72 from rfl] at e1
        rw [show ((9 : Nat) : Int) = 9 from rfl] at e2
        rw [show ((27 : Nat) : Int) = 27 from rfl] at e3 e4
        rw [show ((2 : Nat) : Int) = 2 from rfl] at e5
        omega
theorem valueOf_ok {al p d c w : Nat} {u : St} {Q : Int32 → St → Prop} (hp : PP u p) (hd2 : 2 ≤ d) (hd : d ≤ 4) (hc : c < 1000000000) (hw : w < 2) (h : ∀ v, chg [9] [] u v → Q (iI (valZ d w (dg p c) % p)) v) : f_X6_valueOf al (nI d) (nI c) (nI w) u Q := by
  have hb := isP_b hp.2
  unfold f_X6_valueOf
  refine spell_ok hp (by decide) (by decide) hc ?_
  have c0 : chg [9] [] u (sa u 9 (fun j => if j < 5 then nI (dg p c j) else u 9 j)) := chg_sa (by decide) (by decide)
  have hpp := c0.pp hp (by decide)
  have hq := h _ c0
  have hbb := valZ_b (d := d) (w := w) (show p ≤ 5 by omega) (fun i => dg_lt (show 0 < p by omega) c i)
  refine read_ok (i := 0) (by decide) (read_ok (i := 1) (by decide) (read_ok (i := 2) (by decide) (read_ok (i := 3) (by decide) (read_ok (i := 4) (by decide) ?_))))
  rw [sa_k, if_pos (by decide), if_pos (by decide), if_pos (by decide), if_pos (by decide), if_pos (by decide)]
  have hde : d = 2 ∨ d = 3 ∨ d = 4 := by omega
  rcases hde with rfl | rfl | rfl
  · refine ⟨fun _ => ?_, fun e => absurd e (by decide), fun e => absurd e (by decide), fun e => absurd rfl e.1⟩
    refine rest_ok hpp (z := valZ 2 w (dg p c)) ?_ hbb.1 hbb.2 hq
    rw [show (4 : Int32) = iI 4 from rfl]
    simp only [iI_n, iI_mul, iI_sub, iI_add]
    rfl
  · refine ⟨fun e => absurd e (by decide), fun _ => ?_, fun e => absurd e (by decide), fun e => absurd rfl e.2.1⟩
    refine rest_ok hpp (z := valZ 3 w (dg p c)) ?_ hbb.1 hbb.2 hq
    rw [show (4 : Int32) = iI 4 from rfl, show (27 : Int32) = iI 27 from rfl, show (18 : Int32) = iI 18 from rfl]
    simp only [iI_n, iI_mul, iI_sub, iI_add]
    rfl
  · refine ⟨fun e => absurd e (by decide), fun e => absurd e (by decide), fun _ => ?_, fun e => absurd rfl e.2.2⟩
    have hw2 : w = 0 ∨ w = 1 := by omega
    rcases hw2 with rfl | rfl
    · refine ⟨fun e => absurd rfl e, fun _ => ?_⟩
      refine rest_ok hpp (z := valZ 4 0 (dg p c)) ?_ hbb.1 hbb.2 hq
      rw [show (12 : Int32) = iI 12 from rfl, show (3 : Int32) = iI 3 from rfl]
      simp only [iI_n, iI_mul, iI_sub, iI_add]
      rfl
    · refine ⟨fun _ => ?_, fun e => absurd e (by decide)⟩
      refine rest_ok hpp (z := valZ 4 1 (dg p c)) ?_ hbb.1 hbb.2 hq
      rw [show (72 : Int32) = iI 72 from rfl, show (9 : Int32) = iI 9 from rfl, show (27 : Int32) = iI 27 from rfl, show (2 : Int32) = iI 2 from rfl]
      simp only [iI_n, iI_mul, iI_sub, iI_add]
      rfl
theorem cval_ok {al d : Nat} {u : St} {Q : Int32 → St → Prop} (hd1 : 1 ≤ d) (hd : d ≤ 4) (h : Q (nI (nval d)) u) : f_X6_countValues al (nI d) u Q := by
  unfold f_X6_countValues
  have hde : d = 1 ∨ d = 2 ∨ d = 3 ∨ d = 4 := by omega
  rcases hde with rfl | rfl | rfl | rfl
  · exact ⟨fun e => absurd e (by decide), fun e => absurd e (by decide), fun e => absurd e (by decide), fun _ => h⟩
  · exact ⟨fun _ => h, fun e => absurd e (by decide), fun e => absurd e (by decide), fun e => absurd rfl e.1⟩
  · exact ⟨fun e => absurd e (by decide), fun _ => h, fun e => absurd e (by decide), fun e => absurd rfl e.2.1⟩
  · exact ⟨fun e => absurd e (by decide), fun e => absurd e (by decide), fun _ => h, fun e => absurd rfl e.2.2⟩
theorem nval_le (d : Nat) : nval d ≤ 2 ∧ (1 ≤ d → d ≤ 4 → 0 < nval d → 2 ≤ d) := by
  unfold nval
  refine ⟨by split <;> (try split) <;> omega, fun h1 h2 => ?_⟩
  split <;> (try split) <;> omega
theorem value_ok {al p ng nf : Nat} {M D C : Nat → Nat} {a b : Int32} {u : St} {Q : Int32 → St → Prop} {QX : String → St → Prop} (hC : CI al p ng M nf D C u)
    (h1 : ∀ f w v, f < nf → a = nI f → w < nval (D f) → b = nI w → CI al p ng M nf D C v → Q (iI (valZ (D f) w (dg p (C f)) % p)) v)
    (h2 : ∀ f, f < nf → a = nI f → (¬ ∃ w, w < nval (D f) ∧ b = nI w) → QX "java/lang/IllegalArgumentException" u)
    (h3 : (¬ ∃ f, f < nf ∧ a = nI f) → QX "java/lang/IndexOutOfBoundsException" u) : f_X6_value al a b u Q QX := by
  unfold f_X6_value
  refine checkF hC (fun f hf ef => ?_) h3
  subst ef
  have b1 := hC.f hf
  have hp := hC.1
  have hn := nval_le (D f)
  refine rdD hC hf ⟨fun c => h2 f hf rfl ?_, fun c => cval_ok b1.1.1 b1.1.2 ⟨fun c2 => ?_, fun c2 => h2 f hf rfl ?_⟩⟩
  · rintro ⟨w, hw, rfl⟩; exact nI_pos (by omega) c
  · rcases pk_ix b (n := nval (D f)) (by omega) with q | q | ⟨w, hw, rfl⟩
    · exact absurd q c
    · exact absurd c2 (Int32.not_lt.mpr q)
    · refine rdC hC hf (valueOf_ok hp (hn.2 b1.1.1 b1.1.2 (by omega)) b1.1.2 (by omega) (by omega) ?_)
      intro v cv
      exact h1 f w v hf rfl hw rfl (hC.chg (chg9 cv))
  · rintro ⟨w, hw, rfl⟩; exact c2 ((nI_ltI (by omega) (by omega)).mpr hw)
/-! weights -/
def wgt (d w : Nat) : Nat := if d = 2 then 2 else if d = 4 ∧ w = 0 then 4 else 6
def wOne (p d c m w : Nat) : Prop := valZ d w (dg p (act p m d c)) % p = (valZ d w (dg p c) % p * ((det p m ^ wgt d w % p : Nat) : Int)) % p
def wAll (p ng : Nat) (M : Nat → Nat) (nf : Nat) (D C : Nat → Nat) : Prop := ∀ f, f < nf → ∀ g, g < ng → ∀ w, w < nval (D f) → wOne p (D f) (C f) (M g) w
theorem wgt_ok {al d w : Nat} {u : St} {Q : Int32 → St → Prop} (hd2 : 2 ≤ d) (hd : d ≤ 4) (hw : w < 2) (h : Q (nI (wgt d w)) u) : f_X6_weightOf al (nI d) (nI w) u Q := by
  unfold f_X6_weightOf
  have hde : d = 2 ∨ d = 3 ∨ d = 4 := by omega
  have hw2 : w = 0 ∨ w = 1 := by omega
  rcases hde with rfl | rfl | rfl
  · exact ⟨fun _ => h, fun e => absurd e (by decide), fun e => absurd rfl e.1⟩
  · exact ⟨fun e => absurd e (by decide), fun e => absurd e (by decide), fun _ => h⟩
  · refine ⟨fun e => absurd e (by decide), fun _ => ?_, fun e => absurd rfl e.2⟩
    rcases hw2 with rfl | rfl
    · exact ⟨fun e => absurd rfl e, fun _ => h⟩
    · exact ⟨fun _ => h, fun e => absurd e (by decide)⟩
theorem det_lt {p : Nat} (hp : 0 < p) (m : Nat) : det p m < p := by
  rw [det_dz]
  exact (emod_toNat hp _).1
theorem wBy_ok {al p ng nf f g : Nat} {M D C : Nat → Nat} {u : St} {Q : Int32 → St → Prop} (hC : CI al p ng M nf D C u) (hf : f < nf) (hg : g < ng)
    (h1 : ∀ v, (∀ w, w < nval (D f) → wOne p (D f) (C f) (M g) w) → chg [9] [] u v → Q 1 v) (h0 : ∀ v, (¬ ∀ w, w < nval (D f) → wOne p (D f) (C f) (M g) w) → chg [9] [] u v → Q 0 v) : f_X6_weighsBy al (nI (D f)) (nI (C f)) (nI g) u Q := by
  have b1 := hC.f hf
  have hp := hC.1
  have hb := isP_b hp.2
  have hG := hC.2.2.1
  have h4 := hG.1
  have hal : g < al := by have := hG.2.1; omega
  have hn := nval_le (D f)
  have hMg := (hC.2.1 g hg).1
  have h625 := p4_625 hp.2
  unfold f_X6_weighsBy
  refine gmat_ok hg h4 hal hG.2.2.1 ?_
  rw [hG.2.2.2 g hg]
  refine determinant_ok hp (by omega) ?_
  refine image_ok hp.2 hg h4 hal hG.2.2.1 b1.1.1 b1.1.2 b1.2.1 (hC.2.2.2.1 g hg) ?_
  have hdl := det_lt (show 0 < p by omega) (M g)
  have hal2 := act_lt (p := p) (m := M g) (n := D f) (c := C f) hp.2 b1.1.2
  have hpb := pow_b hp.2 (n := D f + 1) (by omega)
  refine loopU (S := St) (fun m i s => f_X6_weighsBy_L32 al (nI (D f)) (nI (C f)) (nI (det p (M g))) (nI (act p (M g) (D f) (C f))) Q (fun u23 => Q 0 u23) (fun u24 => Q 1 u24) m i s) (nval (D f)) (fun i s => chg [9] [] u s ∧ ∀ w, w < i → wOne p (D f) (C f) (M g) w) ?_ ?_ 0 (Nat.zero_le _) u ⟨chg_rf _ _ _, fun w hw => absurd hw (Nat.not_lt_zero _)⟩
  · rintro m i s hi ⟨c1, c2⟩ kk
    show f_X6_weighsBy_L32_s _ _ _ _ _ _ _ _ _ _ _
    unfold f_X6_weighsBy_L32_s
    have hpp := c1.pp hp (by decide)
    refine cval_ok b1.1.1 b1.1.2 ⟨fun c => absurd c (nI_ge hi (by omega)), fun _ => ?_⟩
    have hd2 := hn.2 b1.1.1 b1.1.2 (by omega)
    refine wgt_ok hd2 b1.1.2 (by omega) ?_
    have hwl : wgt (D f) i ≤ 6 := by unfold wgt; split <;> (try split) <;> omega
    refine power_ok hpp hdl hwl ?_
    refine valueOf_ok hpp hd2 b1.1.2 (by omega) (by omega) ?_
    intro v cv
    have hpv := cv.pp hpp (by decide)
    refine valueOf_ok hpv hd2 b1.1.2 (by omega) (by omega) ?_
    intro v2 cv2
    have hpv2 := cv2.pp hpv (by decide)
    have z1 := emod_b hp.2 (valZ (D f) i (dg p (C f)))
    have z2 := emod_b hp.2 (valZ (D f) i (dg p (act p (M g) (D f) (C f))))
    have hml := Nat.mod_lt (det p (M g) ^ wgt (D f) i) (show p > 0 by omega)
    have z3 := prod_b z1.1 z1.2 (show (0 : Int) ≤ ((det p (M g) ^ wgt (D f) i % p : Nat) : Int) by omega) (by omega)
    rw [iI_n, iI_mul]
    refine rest_ok hpv2 rfl (by omega) (by omega) ?_
    have z4 := emod_b hp.2 (valZ (D f) i (dg p (C f)) % p * ((det p (M g) ^ wgt (D f) i % p : Nat) : Int))
    refine ⟨fun e v21 e21 => ?_, fun e => h0 v2 (fun q => e ?_) ((c1.tr cv).tr cv2)⟩
    · rw [nI_1] at e21
      subst e21
      have e5 := (iI_eq (by omega) (by omega) (by omega) (by omega)).mp e
      refine kk _ ⟨(c1.tr cv).tr cv2, fun w hw => ?_⟩
      by_cases q : w = i
      · subst q; exact e5
      · exact c2 w (by omega)
    · rw [show valZ (D f) i (dg p (act p (M g) (D f) (C f))) % p = _ from q i hi]
  · rintro m s ⟨c1, c2⟩
    show f_X6_weighsBy_L32_s _ _ _ _ _ _ _ _ _ _ _
    unfold f_X6_weighsBy_L32_s
    exact cval_ok b1.1.1 b1.1.2 ⟨fun _ => h1 s c2 c1, fun c => absurd (nI_le (Nat.le_refl _) (by omega)) c⟩
theorem weighs_ok {al p ng nf : Nat} {M D C : Nat → Nat} {u : St} {Q : Int32 → St → Prop} (hC : CI al p ng M nf D C u)
    (h1 : ∀ v, wAll p ng M nf D C → CI al p ng M nf D C v → Q 1 v) (h0 : ∀ v, ¬ wAll p ng M nf D C → CI al p ng M nf D C v → Q 0 v) : f_X6_weighs al u Q := by
  have h20 := hC.2.2.2.2.1.1
  unfold f_X6_weighs
  refine loopU (S := St) (fun m i s => f_X6_weighs_L2 al Q (fun u16 => Q 0 u16) (fun u17 => Q 1 u17) m i s) nf (fun i s => CI al p ng M nf D C s ∧ ∀ f, f < i → ∀ g, g < ng → ∀ w, w < nval (D f) → wOne p (D f) (C f) (M g) w) ?_ ?_ 0 (Nat.zero_le _) u ⟨hC, fun f hf => absurd hf (Nat.not_lt_zero _)⟩
  · rintro m i s hi ⟨c1, c2⟩ kk
    show f_X6_weighs_L2_s _ _ _ _ _ _ _
    unfold f_X6_weighs_L2_s
    rw [c1.2.2.2.2.1.2]
    refine ⟨fun c => absurd c (nI_ge hi (by omega)), fun _ => ?_⟩
    refine loopU (S := St) (fun m' g s' => f_X6_weighs_L12 al (nI i) Q (fun u12 => Q 0 u12) _ m' g s') ng (fun g s' => CI al p ng M nf D C s' ∧ ∀ g', g' < g → ∀ w, w < nval (D i) → wOne p (D i) (C i) (M g') w) ?_ ?_ 0 (Nat.zero_le _) s ⟨c1, fun g hg => absurd hg (Nat.not_lt_zero _)⟩
    · rintro m' g s' hg ⟨d1, d2⟩ kk2
      show f_X6_weighs_L12_s _ _ _ _ _ _ _ _
      unfold f_X6_weighs_L12_s
      have hG := d1.2.2.1
      have h4 := hG.1
      rw [hG.2.2.1]
      refine ⟨fun c => absurd c (nI_ge hg (by omega)), fun _ => rdD d1 hi (rdC d1 hi (wBy_ok d1 hi hg ?_ ?_))⟩
      · intro v hv cv
        refine ⟨fun _ v10 e10 => ?_, fun c => absurd c (by decide)⟩
        rw [nI_1] at e10
        subst e10
        refine kk2 _ ⟨d1.chg (chg9 cv), fun g' hg' => ?_⟩
        by_cases q : g' = g
        · subst q; exact hv
        · exact d2 g' (by omega)
      · intro v hv cv
        refine ⟨fun c => absurd rfl c, fun _ => h0 v (fun q => hv (q i hi g hg)) (d1.chg (chg9 cv))⟩
    · rintro m' s' ⟨d1, d2⟩
      show f_X6_weighs_L12_s _ _ _ _ _ _ _ _
      unfold f_X6_weighs_L12_s
      have hG := d1.2.2.1
      have h4 := hG.1
      rw [hG.2.2.1]
      refine ⟨fun _ v14 e14 => ?_, fun c => absurd (nI_le (Nat.le_refl _) (by omega)) c⟩
      rw [nI_1] at e14
      subst e14
      refine kk _ ⟨d1, fun f hf => ?_⟩
      by_cases q : f = i
      · subst q; exact d2
      · exact c2 f (by omega)
  · rintro m s ⟨c1, c2⟩
    show f_X6_weighs_L2_s _ _ _ _ _ _ _
    unfold f_X6_weighs_L2_s
    rw [c1.2.2.2.2.1.2]
    exact ⟨fun _ => h1 s c2 c1, fun c => absurd (nI_le (Nat.le_refl _) (by omega)) c⟩
