/-! the law's methods, as they answer -/
theorem call_0 {al : Nat} {a2 a3 a4 : Int32} {u : St} {Q : Int32 → St → Prop} {QX : String → St → Prop} (h : f_X6_prime al a2 u Q QX) : f_L_call al 0 a2 a3 a4 u Q QX := by
  unfold f_L_call
  exact ⟨fun _ => h, fun c => absurd c (by decide), fun c => absurd c (by decide), fun c => absurd c (by decide), fun c => absurd c (by decide), fun c => absurd c (by decide), fun c => absurd c (by decide), fun c => absurd c (by decide), fun c => absurd c (by decide), fun c => absurd rfl c.1⟩
theorem call_1 {al : Nat} {a2 a3 a4 : Int32} {u : St} {Q : Int32 → St → Prop} {QX : String → St → Prop} (h : f_X6_form al a2 a3 u Q QX) : f_L_call al 1 a2 a3 a4 u Q QX := by
  unfold f_L_call
  exact ⟨fun c => absurd c (by decide), fun _ => h, fun c => absurd c (by decide), fun c => absurd c (by decide), fun c => absurd c (by decide), fun c => absurd c (by decide), fun c => absurd c (by decide), fun c => absurd c (by decide), fun c => absurd c (by decide), fun c => absurd rfl c.2.1⟩
theorem call_2 {al : Nat} {a2 a3 a4 : Int32} {u : St} {Q : Int32 → St → Prop} {QX : String → St → Prop} (h : f_X6_formIs al a2 a3 u Q QX) : f_L_call al 2 a2 a3 a4 u Q QX := by
  unfold f_L_call
  exact ⟨fun c => absurd c (by decide), fun c => absurd c (by decide), fun _ => h, fun c => absurd c (by decide), fun c => absurd c (by decide), fun c => absurd c (by decide), fun c => absurd c (by decide), fun c => absurd c (by decide), fun c => absurd c (by decide), fun c => absurd rfl c.2.2.1⟩
theorem call_3 {al : Nat} {a2 a3 a4 : Int32} {u : St} {Q : Int32 → St → Prop} {QX : String → St → Prop} (h : f_X6_changed al a2 a3 u Q QX) : f_L_call al 3 a2 a3 a4 u Q QX := by
  unfold f_L_call
  exact ⟨fun c => absurd c (by decide), fun c => absurd c (by decide), fun c => absurd c (by decide), fun _ => h, fun c => absurd c (by decide), fun c => absurd c (by decide), fun c => absurd c (by decide), fun c => absurd c (by decide), fun c => absurd c (by decide), fun c => absurd rfl c.2.2.2.1⟩
theorem call_4 {al : Nat} {a2 a3 a4 : Int32} {u : St} {Q : Int32 → St → Prop} {QX : String → St → Prop} (h : f_X6_average al a2 u Q QX) : f_L_call al 4 a2 a3 a4 u Q QX := by
  unfold f_L_call
  exact ⟨fun c => absurd c (by decide), fun c => absurd c (by decide), fun c => absurd c (by decide), fun c => absurd c (by decide), fun _ => h, fun c => absurd c (by decide), fun c => absurd c (by decide), fun c => absurd c (by decide), fun c => absurd c (by decide), fun c => absurd rfl c.2.2.2.2.1⟩
theorem call_5 {al : Nat} {a2 a3 a4 : Int32} {u : St} {Q : Int32 → St → Prop} {QX : String → St → Prop} (h : f_X6_transvectant al a2 a3 a4 u Q QX) : f_L_call al 5 a2 a3 a4 u Q QX := by
  unfold f_L_call
  exact ⟨fun c => absurd c (by decide), fun c => absurd c (by decide), fun c => absurd c (by decide), fun c => absurd c (by decide), fun c => absurd c (by decide), fun _ => h, fun c => absurd c (by decide), fun c => absurd c (by decide), fun c => absurd c (by decide), fun c => absurd rfl c.2.2.2.2.2.1⟩
theorem call_6 {al : Nat} {a2 a3 a4 : Int32} {u : St} {Q : Int32 → St → Prop} {QX : String → St → Prop} (h : f_X6_value al a2 a3 u Q QX) : f_L_call al 6 a2 a3 a4 u Q QX := by
  unfold f_L_call
  exact ⟨fun c => absurd c (by decide), fun c => absurd c (by decide), fun c => absurd c (by decide), fun c => absurd c (by decide), fun c => absurd c (by decide), fun c => absurd c (by decide), fun _ => h, fun c => absurd c (by decide), fun c => absurd c (by decide), fun c => absurd rfl c.2.2.2.2.2.2.1⟩
theorem call_7 {al : Nat} {a2 a3 a4 : Int32} {u : St} {Q : Int32 → St → Prop} {QX : String → St → Prop} (h : f_X6_way al a2 a3 u Q QX) : f_L_call al 7 a2 a3 a4 u Q QX := by
  unfold f_L_call
  exact ⟨fun c => absurd c (by decide), fun c => absurd c (by decide), fun c => absurd c (by decide), fun c => absurd c (by decide), fun c => absurd c (by decide), fun c => absurd c (by decide), fun c => absurd c (by decide), fun _ => h, fun c => absurd c (by decide), fun c => absurd rfl c.2.2.2.2.2.2.2.1⟩
theorem call_8 {al : Nat} {a2 a3 a4 : Int32} {u : St} {Q : Int32 → St → Prop} {QX : String → St → Prop} (h : f_X6_step al a2 a3 a4 u Q QX) : f_L_call al 8 a2 a3 a4 u Q QX := by
  unfold f_L_call
  exact ⟨fun c => absurd c (by decide), fun c => absurd c (by decide), fun c => absurd c (by decide), fun c => absurd c (by decide), fun c => absurd c (by decide), fun c => absurd c (by decide), fun c => absurd c (by decide), fun c => absurd c (by decide), fun _ => h, fun c => absurd rfl c.2.2.2.2.2.2.2.2⟩
theorem ask_x1 {A B C : Prop} (h : A) : ("java/lang/IndexOutOfBoundsException" = "java/lang/IndexOutOfBoundsException" ∧ A) ∨ B ∨ C := Or.inl ⟨rfl, h⟩
theorem ask_x2 {A B C : Prop} (h : A) : B ∨ ("java/lang/IllegalArgumentException" = "java/lang/IllegalArgumentException" ∧ A) ∨ C := Or.inr (Or.inl ⟨rfl, h⟩)
theorem ask_x3 {A B C : Prop} (h : A) : B ∨ C ∨ ("java/lang/IllegalStateException" = "java/lang/IllegalStateException" ∧ A) := Or.inr (Or.inr ⟨rfl, h⟩)
section PL
variable {al p ng nf : Nat} {M D C : Nat → Nat} {u : St}
theorem one_f {f f' : Nat} (h20 : nf ≤ 20) (hf : f < nf) (hf' : f' < nf) (e : nI f = nI f') : f' = f := ((nI_eq (by omega) (by omega)).mp e).symm
theorem one_n {N f f' : Nat} (hN : N ≤ 1000000000) (hf : f < N) (hf' : f' < N) (e : nI f = nI f') : f' = f := ((nI_eq (by omega) (by omega)).mp e).symm
theorem fIs {f : Nat} (w : Nat) {Q : Int32 → St → Prop} (hC : CI al p ng M nf D C u) (hf : f < nf) (hw : w ≤ 6) (h : ∀ r v, formR p ng M (D f) (C f) (nI w) r → CI al p ng M nf D C v → Q r v) : f_X6_formIs al (nI f) (nI w) u Q (fun _ _ => False) := by
  have h20 := hC.2.2.2.2.1.1
  refine formIs_ok hC (fun f' w' r v hf' ef hw' ew hr hv => ?_) (fun f' hf' ef hn => hn ⟨w, hw, rfl⟩) (fun hn => hn ⟨f, hf, rfl⟩)
  have := one_f h20 hf hf' ef
  subst this
  exact h r v hr hv
theorem fI0 {f : Nat} {Q : Int32 → St → Prop} (hC : CI al p ng M nf D C u) (hf : f < nf) (h : ∀ v, CI al p ng M nf D C v → Q (nI (D f)) v) : f_X6_formIs al (nI f) 0 u Q (fun _ _ => False) :=
  fIs 0 hC hf (by decide) (fun r v hr hv => by rw [hr.1 rfl]; exact h v hv)
theorem fI1 {f : Nat} {Q : Int32 → St → Prop} (hC : CI al p ng M nf D C u) (hf : f < nf) (h : ∀ v, CI al p ng M nf D C v → Q (nI (C f)) v) : f_X6_formIs al (nI f) 1 u Q (fun _ _ => False) :=
  fIs 1 hC hf (by decide) (fun r v hr hv => by rw [hr.2.1 rfl]; exact h v hv)
theorem fI2 {f : Nat} {Q : Int32 → St → Prop} (hC : CI al p ng M nf D C u) (hf : f < nf) (h : ∀ v, CI al p ng M nf D C v → Q (nI (rts p (D f) (C f))) v) : f_X6_formIs al (nI f) 2 u Q (fun _ _ => False) :=
  fIs 2 hC hf (by decide) (fun r v hr hv => by rw [hr.2.2.1 rfl]; exact h v hv)
theorem fI3 {f : Nat} {Q : Int32 → St → Prop} (hC : CI al p ng M nf D C u) (hf : f < nf) (h : ∀ r v, (nul p (D f) (C f) → r = 1) → (¬ nul p (D f) (C f) → r = 0) → CI al p ng M nf D C v → Q r v) : f_X6_formIs al (nI f) 3 u Q (fun _ _ => False) :=
  fIs 3 hC hf (by decide) (fun r v hr hv => h r v (hr.2.2.2.1 rfl).1 (hr.2.2.2.1 rfl).2 hv)
theorem fI4 {f : Nat} {Q : Int32 → St → Prop} (hC : CI al p ng M nf D C u) (hf : f < nf) (h : ∀ v, CI al p ng M nf D C v → Q (if lvs p ng (D f) M (C f) = true then 1 else 0) v) : f_X6_formIs al (nI f) 4 u Q (fun _ _ => False) :=
  fIs 4 hC hf (by decide) (fun r v hr hv => by rw [hr.2.2.2.2.1 rfl]; exact h v hv)
theorem fI5 {f : Nat} {Q : Int32 → St → Prop} (hC : CI al p ng M nf D C u) (hf : f < nf) (h : ∀ K v, stopAt (fO p (D f) M) ng (C f) K → CI al p ng M nf D C v → Q (nI K) v) : f_X6_formIs al (nI f) 5 u Q (fun _ _ => False) :=
  fIs 5 hC hf (by decide) (fun r v hr hv => by obtain ⟨K, hK, e⟩ := hr.2.2.2.2.2.1 rfl; rw [e]; exact h K v hK hv)
theorem fI6 {f : Nat} {Q : Int32 → St → Prop} (hC : CI al p ng M nf D C u) (hf : f < nf) (h : ∀ K v, stopAt (fO p (D f) M) ng (C f) K → CI al p ng M nf D C v → Q (nI (lst (wq (wout (fO p (D f) M) ng (C f) K)) K)) v) : f_X6_formIs al (nI f) 6 u Q (fun _ _ => False) :=
  fIs 6 hC hf (by decide) (fun r v hr hv => by obtain ⟨K, hK, e⟩ := hr.2.2.2.2.2.2 rfl; rw [e]; exact h K v hK hv)
theorem fMul {f t : Nat} {Q : Int32 → St → Prop} (hC : CI al p ng M nf D C u) (hf : f < nf) (ht : t ≤ p) (h : ∀ v, CI al p ng M nf D C v → Q (nI (dvs p t (D f + 1) (dg p (C f)))) v) : f_X6_multiplicity al (nI f) (nI t) u Q (fun _ _ => False) := by
  have h20 := hC.2.2.2.2.1.1
  have hb := isP_b hC.1.2
  refine mult_ok hC (fun f' t' v hf' ef ht' et hv => ?_) (fun hn => hn ⟨⟨f, hf, rfl⟩, t, ht, rfl⟩)
  have := one_f h20 hf hf' ef
  subst this
  have := one_n (N := 6) (by omega) (show t < 6 by omega) (show t' < 6 by omega) et
  subst this
  exact h v hv
theorem fAt {f x y : Nat} {Q : Int32 → St → Prop} (hC : CI al p ng M nf D C u) (hf : f < nf) (hx : x < p) (hy : y < p) (h : ∀ v, CI al p ng M nf D C v → Q (nI (atV p x y (D f) (dg p (C f)))) v) : f_X6_at al (nI f) (nI x) (nI y) u Q (fun _ _ => False) := by
  have h20 := hC.2.2.2.2.1.1
  have hb := isP_b hC.1.2
  refine at_ok hC (fun f' x' y' v hf' ef hx' ex hy' ey hv => ?_) (fun f' hf' ef hn => hn ⟨⟨x, hx, rfl⟩, y, hy, rfl⟩) (fun hn => hn ⟨f, hf, rfl⟩)
  have := one_f h20 hf hf' ef
  subst this
  have := one_n (N := 6) (by omega) (show x < 6 by omega) (show x' < 6 by omega) ex
  subst this
  have := one_n (N := 6) (by omega) (show y < 6 by omega) (show y' < 6 by omega) ey
  subst this
  exact h v hv
theorem askPrime {p' : Nat} {a3 a4 : Int32} {Q : Int32 → St → Prop} (hC : CI al p ng M nf D C u) (hp' : isP p') (h : ∀ v, (∀ M' D' C', CI al p' 0 M' 0 D' C' v) → Q (nI p) v) : f_L_ask al 0 (nI p') a3 a4 u Q := by
  have hb := isP_b hp'
  refine call_0 (prime_ok hC (fun q v hq eq hv => ?_) (fun hn => absurd ⟨p', hp', rfl⟩ hn))
  have hbq := isP_b hq
  have := one_n (N := 6) (by omega) (show p' < 6 by omega) (show q < 6 by omega) eq
  subst this
  exact h v hv
theorem askForm {d c : Nat} {a4 : Int32} {Q : Int32 → St → Prop} (hC : CI al p ng M nf D C u) (hd1 : 1 ≤ d) (hd : d ≤ 4) (hc : c < p ^ (d + 1)) (h1 : nf < 20 → ∀ v, CI al p ng M (nf + 1) (nxt D nf d) (nxt C nf c) v → Q (nI nf) v) (h2 : ¬ nf < 20 → Q (-13) u) : f_L_ask al 1 (nI d) (nI c) a4 u Q := by
  have hpw := pow_b hC.1.2 (show d + 1 ≤ 5 by omega)
  refine call_1 (form_ok hC (fun d' c' v hd1' hd' ed hc' ec h20 hv => ?_) (fun hn => absurd ⟨d, ⟨hd1, hd⟩, rfl, c, hc, rfl⟩ hn) (fun d' c' _ _ _ _ _ hn => ask_x3 (h2 hn)))
  have := one_n (N := 6) (by omega) (show d < 6 by omega) (show d' < 6 by omega) ed
  subst this
  have := one_n (N := 3125) (by omega) (show c < 3125 by omega) (show c' < 3125 by omega) ec
  subst this
  exact h1 h20 v hv
theorem askChanged {f g : Nat} {a4 : Int32} {Q : Int32 → St → Prop} (hC : CI al p ng M nf D C u) (hf : f < nf) (hg : g < ng) (h : Q (nI (act p (M g) (D f) (C f))) u) : f_L_ask al 3 (nI f) (nI g) a4 u Q := by
  have h20 := hC.2.2.2.2.1.1
  have h4 := hC.2.2.1.1
  refine call_3 (changed_ok hC (fun f' g' hf' hg' ef eg => ?_) (fun hn => absurd ⟨⟨f, hf, rfl⟩, g, hg, rfl⟩ hn))
  have := one_f h20 hf hf' ef
  subst this
  have := one_n (N := 6) (by omega) (show g < 6 by omega) (show g' < 6 by omega) eg
  subst this
  exact h
theorem askAverage {f : Nat} {a3 a4 : Int32} {Q : Int32 → St → Prop} (hC : CI al p ng M nf D C u) (hf : f < nf) (h1 : ∀ l n K v, GL p ng M l n → inv p n ≠ 0 → stopAt (fO p (D f) M) ng (C f) K → CI al p ng M nf D C v → Q (nI (mulc p (totS p (wq (wout (fO p (D f) M) ng (C f) K)) K) (n / K * inv p n % p))) v) (h2 : ∀ l n, GL p ng M l n → inv p n = 0 → Q (-1) u) : f_L_ask al 4 (nI f) a3 a4 u Q := by
  have h20 := hC.2.2.2.2.1.1
  refine call_4 (average_ok hC (fun f' l n K v hf' ef hl hn hK hv => ?_) (fun f' l n hf' ef hl hn => h2 l n hl hn) (fun hn => absurd ⟨f, hf, rfl⟩ hn))
  have := one_f h20 hf hf' ef
  subst this
  exact h1 l n K v hl hn hK hv
theorem askTrans {f g k : Nat} {Q : Int32 → St → Prop} (hC : CI al p ng M nf D C u) (hf : f < nf) (hg : g < nf) (hk : k < 5) (h1 : k ≤ D f → k ≤ D g → 1 ≤ D f - k + (D g - k) → D f - k + (D g - k) ≤ 4 → ∀ v, CI al p ng M nf D C v → Q (nI (trC p (D f) (D g) k (dg p (C f)) (dg p (C g)))) v) (h2 : ¬ (k ≤ D f ∧ k ≤ D g ∧ 1 ≤ D f - k + (D g - k) ∧ D f - k + (D g - k) ≤ 4) → Q (-12) u) : f_L_ask al 5 (nI f) (nI g) (nI k) u Q := by
  have h20 := hC.2.2.2.2.1.1
  refine call_5 (transvectant_ok hC (fun f' g' k' v hf' hg' ef eg ek k1 k2 k3 k4 hv => ?_) (fun f' g' hf' hg' ef eg hn => ?_) (fun hn => absurd ⟨⟨f, hf, rfl⟩, g, hg, rfl⟩ hn))
  · have := one_f h20 hf hf' ef
    subst this
    have := one_f h20 hg hg' eg
    subst this
    have b1 := hC.f hf
    have := one_n (N := 6) (by omega) (show k < 6 by omega) (show k' < 6 by omega) ek
    subst this
    exact h1 k1 k2 k3 k4 v hv
  · have := one_f h20 hf hf' ef
    subst this
    have := one_f h20 hg hg' eg
    subst this
    exact ask_x2 (h2 (fun q => hn ⟨k, rfl, q⟩))
theorem askWay {f g : Nat} {a4 : Int32} {Q : Int32 → St → Prop} (hC : CI al p ng M nf D C u) (hf : f < nf) (hg : g < nf) (hD : D f = D g) (h : ∀ r v, wayR p ng M (D f) (C f) (C g) r → CI al p ng M nf D C v → Q r v) : f_L_ask al 7 (nI f) (nI g) a4 u Q := by
  have h20 := hC.2.2.2.2.1.1
  refine call_7 (way_ok hC (fun f' g' r v hf' hg' ef eg _ hr hv => ?_) (fun f' g' hf' hg' ef eg hn => ?_) (fun hn => absurd ⟨⟨f, hf, rfl⟩, g, hg, rfl⟩ hn))
  · have := one_f h20 hf hf' ef
    subst this
    have := one_f h20 hg hg' eg
    subst this
    exact h r v hr hv
  · have := one_f h20 hf hf' ef
    subst this
    have := one_f h20 hg hg' eg
    subst this
    exact absurd hD hn
theorem askWayNo {f g : Nat} {a4 : Int32} {Q : Int32 → St → Prop} (hC : CI al p ng M nf D C u) (hf : f < nf) (hg : g < nf) (hD : ¬ D f = D g) (h : Q (-12) u) : f_L_ask al 7 (nI f) (nI g) a4 u Q := by
  have h20 := hC.2.2.2.2.1.1
  refine call_7 (way_ok hC (fun f' g' r v hf' hg' ef eg e _ _ => ?_) (fun f' g' hf' hg' ef eg hn => ask_x2 h) (fun hn => absurd ⟨⟨f, hf, rfl⟩, g, hg, rfl⟩ hn))
  have := one_f h20 hf hf' ef
  subst this
  have := one_f h20 hg hg' eg
  subst this
  exact absurd e hD
theorem askStep {f g st : Nat} {Q : Int32 → St → Prop} (hC : CI al p ng M nf D C u) (hf : f < nf) (hg : g < nf) (hD : D f = D g) (hst : st < 1000000) (h : ∀ r v, stepR p ng M (D f) (C f) (C g) st r → CI al p ng M nf D C v → Q r v) : f_L_ask al 8 (nI f) (nI g) (nI st) u Q := by
  have h20 := hC.2.2.2.2.1.1
  refine call_8 (step_ok hC (fun f' g' s' r v hf' hg' ef eg _ es hs' hr hv => ?_) (fun f' g' hf' hg' ef eg hn => ?_) (fun hn => absurd ⟨⟨f, hf, rfl⟩, g, hg, rfl⟩ hn))
  · have := one_f h20 hf hf' ef
    subst this
    have := one_f h20 hg hg' eg
    subst this
    have : s' = st := ((nI_eq (by omega) (by omega)).mp es).symm
    subst this
    exact h r v hr hv
  · have := one_f h20 hf hf' ef
    subst this
    have := one_f h20 hg hg' eg
    subst this
    exact absurd ⟨hD, nI_pos' (show st < 2 ^ 31 by omega)⟩ hn
theorem askNo2 {a2 a3 a4 : Int32} {Q : Int32 → St → Prop} (hC : CI al p ng M 0 D C u) (h : Q (-11) u) : f_L_ask al 2 a2 a3 a4 u Q :=
  call_2 (formIs_ok hC (fun f w r v hf _ _ _ _ _ => absurd hf (Nat.not_lt_zero f)) (fun f hf _ _ => absurd hf (Nat.not_lt_zero f)) (fun _ => ask_x1 h))
theorem askNo7 {a2 a3 a4 : Int32} {Q : Int32 → St → Prop} (hC : CI al p ng M 0 D C u) (h : Q (-11) u) : f_L_ask al 7 a2 a3 a4 u Q :=
  call_7 (way_ok hC (fun f g r v hf _ _ _ _ _ _ => absurd hf (Nat.not_lt_zero f)) (fun f g hf _ _ _ _ => absurd hf (Nat.not_lt_zero f)) (fun _ => ask_x1 h))
theorem lpow_ok {n : Nat} {Q : Int32 → St → Prop} (hn : n < 1000000) (h : Q (nI (p ^ n)) u) : f_L_power al (nI p) (nI n) u Q := by
  unfold f_L_power
  refine loopU2 (fun m j a s => f_L_power_L4 al (nI p) (nI n) Q (fun v5 u6 => Q v5 u6) m a j s) n (fun j a s => s = u ∧ a = nI (p ^ j)) ?_ ?_ 0 (Nat.zero_le _) 1 u ⟨rfl, by rw [Nat.pow_zero]; rfl⟩
  · rintro m j a s hj ⟨rfl, rfl⟩ kk
    show f_L_power_L4_s _ _ _ _ _ _ _ _ _
    unfold f_L_power_L4_s
    refine ⟨fun c => absurd c (nI_ge hj (by omega)), fun _ v2 e2 v3 e3 => ?_⟩
    rw [pk_mul, ← Nat.pow_succ] at e2
    rw [nI_1] at e3
    subst e2 e3
    exact kk _ _ ⟨rfl, rfl⟩
  · rintro m a s ⟨rfl, rfl⟩
    show f_L_power_L4_s _ _ _ _ _ _ _ _ _
    unfold f_L_power_L4_s
    exact ⟨fun _ => h, fun c => absurd (nI_le (Nat.le_refl _) (by omega)) c⟩
theorem lplus_ok {a b : Nat} {Q : Int32 → St → Prop} (hp : isP p) (ha : a < 1000000000) (hb : b < 1000000000) (h : Q (nI (tot p a b)) u) : f_L_plus al (nI p) (nI a) (nI b) u Q := by
  have hpb := isP_b hp
  unfold f_L_plus
  refine loopD2 (fun m i v s => f_L_plus_L5 al (nI p) (nI a) (nI b) Q (fun v14 u15 => Q v14 u15) m v i s) (fun i v s => i ≤ 5 ∧ v = nI (cod p (fun j => (dg p a (i + j) + dg p b (i + j)) % p) (5 - i)) ∧ s = u) ?_ ?_ 5 0 u ⟨Nat.le_refl _, rfl, rfl⟩
  · rintro m i v s ⟨hi, rfl, rfl⟩ kk
    show f_L_plus_L5_s _ _ _ _ _ _ _ _ _ _
    unfold f_L_plus_L5_s
    try dsimp only
    rw [dI_s]
    have hpw := pow_b hp (show i ≤ 5 by omega)
    have hpp := pow_pos' hp i
    have hp0 : ¬ nI p = 0 := nI_ne0 (by omega) (by omega)
    have da : nI a / nI (p ^ i) - nI a / nI (p ^ i) / nI p * nI p = nI (dg p a i) := by
      rw [pk_div (by omega) hpp (by omega), pk_rem (by have := Nat.div_le_self a (p ^ i); omega) (by omega) (by omega)]; rfl
    have db : nI b / nI (p ^ i) - nI b / nI (p ^ i) / nI p * nI p = nI (dg p b i) := by
      rw [pk_div (by omega) hpp (by omega), pk_rem (by have := Nat.div_le_self b (p ^ i); omega) (by omega) (by omega)]; rfl
    refine ⟨fun c => absurd c (nI_pos (by omega)), fun _ => lpow_ok (by omega) ⟨nI_ne0 hpp (by omega), fun v4 e4 => ⟨hp0, fun v5 e5 => lpow_ok (by omega) ⟨nI_ne0 hpp (by omega), fun v8 e8 => ⟨hp0, fun v9 e9 => ⟨hp0, fun v10 e10 v11 e11 v12 e12 => ?_⟩⟩⟩⟩⟩⟩
    rw [e4, da] at e5
    rw [e8, db] at e9
    have l1 := dg_lt (show 0 < p by omega) a i
    have l2 := dg_lt (show 0 < p by omega) b i
    rw [e5, e9, nI_add, pk_rem (by omega) (by omega) (by omega)] at e10
    rw [e10, pk_mul, nI_add] at e11
    rw [nI_d] at e12
    subst e11 e12
    refine kk _ _ ⟨by omega, ?_, rfl⟩
    have e : 5 - i = (5 - (i + 1)) + 1 := by omega
    rw [e, cod]
    have e2 : (fun j => (dg p a (i + (j + 1)) + dg p b (i + (j + 1))) % p) = (fun j => (dg p a (i + 1 + j) + dg p b (i + 1 + j)) % p) := by
      funext j; rw [show i + (j + 1) = i + 1 + j by omega]
    show nI _ = nI ((dg p a (i + 0) + dg p b (i + 0)) % p + p * cod p (fun j => (dg p a (i + (j + 1)) + dg p b (i + (j + 1))) % p) (5 - (i + 1)))
    rw [e2]
    exact congrArg nI (Nat.add_comm _ _)
  · rintro m v s ⟨hi, rfl, rfl⟩
    show f_L_plus_L5_s _ _ _ _ _ _ _ _ _ _
    unfold f_L_plus_L5_s
    try dsimp only
    refine ⟨fun _ => ?_, fun c => absurd (show dI 0 < 0 by decide) c⟩
    have e : (fun j => (dg p a (0 + j) + dg p b (0 + j)) % p) = (fun j => (dg p a j + dg p b j) % p) := by funext j; rw [Nat.zero_add]
    rw [e]
    exact h
end PL
