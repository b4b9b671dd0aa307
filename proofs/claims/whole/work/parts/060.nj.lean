/-! both sides, call by call: what the class answers, the reference answers -/
def JJ (al : Nat) (u w : St) : Prop := ∃ p ng M nf D C, CI al p ng M nf D C u ∧ MI p ng M nf D C w
/-- what a call of the reference ends with, if the class's ended so -/
def MK (f : (Int32 → St → Prop) → Prop) (al n : Nat) (r : Int32) (u' : St) : Prop := ∀ Q' : Int32 → St → Prop, (∀ r' w', w' 0 0 = nI n → (n = 0 → r' = r) → JJ al u' w' → Q' r' w') → f Q'
theorem bad0 {n : Nat} {P : Prop} (h : n ≠ 0) : n = 0 → P := fun e => absurd e h
theorem x_prime {al : Nat} {a : Int32} {u w : St} {Q : Int32 → St → Prop} {QX : String → St → Prop} (hJ : JJ al u w) (h0 : ∀ r u', MK (f_X7_prime a w) al 0 r u' → Q r u') (h1 : ∀ u', MK (f_X7_prime a w) al 1 0 u' → QX "java/lang/IllegalArgumentException" u') : f_X6_prime al a u Q QX := by
  obtain ⟨p, ng, M, nf, D, C, hC, hM⟩ := hJ
  refine prime_ok hC (fun p' v hp' e hv => h0 _ v (fun Q' k => mprime_ok hM (fun p'' v' hp'' e' v0 hv' => ?_) (fun q => absurd ⟨p', hp', e⟩ q))) (fun q => h1 u (fun Q' k => mprime_ok hM (fun p'' v' hp'' e' _ _ => absurd ⟨p'', hp'', e'⟩ q) (fun _ v' v0 hv' => k 0 v' v0 (bad0 (by decide)) ⟨p, ng, M, nf, D, C, hC, hv'⟩)))
  have b1 := isP_b hp'
  have b2 := isP_b hp''
  have : p'' = p' := (nI_eq (by omega) (by omega)).mp (by rw [← e', e])
  subst this
  exact k _ v' v0 (fun _ => rfl) ⟨p'', 0, M, 0, D, C, hv M D C, hv' M D C⟩
theorem x_form {al : Nat} {a b : Int32} {u w : St} {Q : Int32 → St → Prop} {QX : String → St → Prop} (hJ : JJ al u w) (h0 : ∀ r u', MK (f_X7_form a b w) al 0 r u' → Q r u') (h1 : ∀ u', MK (f_X7_form a b w) al 1 0 u' → QX "java/lang/IllegalArgumentException" u') (h2 : ∀ u', MK (f_X7_form a b w) al 2 0 u' → QX "java/lang/IllegalStateException" u') : f_X6_form al a b u Q QX := by
  obtain ⟨p, ng, M, nf, D, C, hC, hM⟩ := hJ
  have one : ∀ d c d' c', d ≤ 4 → d' ≤ 4 → c < p ^ (d + 1) → c' < p ^ (d' + 1) → a = nI d → a = nI d' → b = nI c → b = nI c' → d' = d ∧ c' = c := by
    intro d c d' c' h1 h2 h3 h4 e1 e2 e3 e4
    have x1 := pow_b hC.1.2 (n := d + 1) (by omega)
    have x2 := pow_b hC.1.2 (n := d' + 1) (by omega)
    exact ⟨(nI_eq (by omega) (by omega)).mp (by rw [← e2, e1]), (nI_eq (by omega) (by omega)).mp (by rw [← e4, e3])⟩
  refine form_ok hC (fun d c v hd1 hd4 ea hc eb h20 hv => h0 _ v (fun Q' k => mformT_ok hM (fun d' c' v' hd1' hd4' ea' hc' eb' _ v0 hv' => ?_) (fun q => absurd ⟨d, ⟨hd1, hd4⟩, ea, c, hc, eb⟩ q) (fun _ _ _ _ _ _ _ q => absurd h20 q)))
    (fun q => h1 u (fun Q' k => mformT_ok hM (fun d' c' v' hd1' hd4' ea' hc' eb' _ _ _ => absurd ⟨d', ⟨hd1', hd4'⟩, ea', c', hc', eb'⟩ q) (fun _ v' v0 hv' => k 0 v' v0 (bad0 (by decide)) ⟨p, ng, M, nf, D, C, hC, hv'⟩) (fun d' c' hd1' hd4' ea' hc' eb' _ => absurd ⟨d', ⟨hd1', hd4'⟩, ea', c', hc', eb'⟩ q)))
    (fun d c hd1 hd4 ea hc eb h20 => h2 u (fun Q' k => mformT_ok hM (fun _ _ _ _ _ _ _ _ q => absurd q h20) (fun q => absurd ⟨d, ⟨hd1, hd4⟩, ea, c, hc, eb⟩ q) (fun _ _ _ _ _ _ _ _ v' v0 hv' => k 0 v' v0 (bad0 (by decide)) ⟨p, ng, M, nf, D, C, hC, hv'⟩)))
  obtain ⟨e1, e2⟩ := one d c d' c' hd4 hd4' hc hc' ea ea' eb eb'
  subst e1 e2
  exact k _ v' v0 (fun _ => rfl) ⟨p, ng, M, nf + 1, _, _, hv, hv'⟩
/-- one number of a form -/
theorem f_one {p ng nf f f' : Nat} {M D C : Nat → Nat} {a : Int32} {w : St} (hM : MI p ng M nf D C w) (hf : f < nf) (hf' : f' < nf) (e : a = nI f) (e' : a = nI f') : f' = f := by
  have := hM.2.2.2.2.1.1
  exact (nI_eq (by omega) (by omega)).mp (by rw [← e', e])
theorem g_one {p ng nf g g' : Nat} {M D C : Nat → Nat} {a : Int32} {w : St} (hM : MI p ng M nf D C w) (hf : g < ng) (hf' : g' < ng) (e : a = nI g) (e' : a = nI g') : g' = g := by
  have := hM.2.2.1.1
  exact (nI_eq (by omega) (by omega)).mp (by rw [← e', e])
theorem s_one {d d' N : Nat} {a : Int32} (hN : N ≤ 1000000000) (hf : d < N) (hf' : d' < N) (e : a = nI d) (e' : a = nI d') : d' = d := (nI_eq (by omega) (by omega)).mp (by rw [← e', e])
theorem x_formIs {al : Nat} {a b : Int32} {u w : St} {Q : Int32 → St → Prop} {QX : String → St → Prop} (hJ : JJ al u w) (h0 : ∀ r u', MK (f_X7_formIs a b w) al 0 r u' → Q r u') (h1 : ∀ u', MK (f_X7_formIs a b w) al 1 0 u' → QX "java/lang/IndexOutOfBoundsException" u') (h2 : ∀ u', MK (f_X7_formIs a b w) al 2 0 u' → QX "java/lang/IllegalArgumentException" u') : f_X6_formIs al a b u Q QX := by
  obtain ⟨p, ng, M, nf, D, C, hC, hM⟩ := hJ
  refine formIs_ok hC (fun f t r v hf ea ht eb hr hv => h0 _ v (fun Q' k => mformIs_ok hM (fun f' t' r' v' hf' ea' ht' eb' hr' v0 hv' => ?_) (fun _ _ _ q => absurd ⟨t, ht, eb⟩ q) (fun q => absurd ⟨f, hf, ea⟩ q)))
    (fun f hf ea q => h2 u (fun Q' k => mformIs_ok hM (fun _ t' _ _ _ _ ht' eb' _ _ _ => absurd ⟨t', ht', eb'⟩ q) (fun _ _ _ _ v' v0 hv' => k 0 v' v0 (bad0 (by decide)) ⟨p, ng, M, nf, D, C, hC, hv'⟩) (fun q => absurd ⟨f, hf, ea⟩ q)))
    (fun q => h1 u (fun Q' k => mformIs_ok hM (fun f' _ _ _ hf' ea' _ _ _ _ _ => absurd ⟨f', hf', ea'⟩ q) (fun f' hf' ea' _ => absurd ⟨f', hf', ea'⟩ q) (fun _ v' v0 hv' => k 0 v' v0 (bad0 (by decide)) ⟨p, ng, M, nf, D, C, hC, hv'⟩)))
  have e1 := f_one hM hf hf' ea ea'
  subst e1
  exact k _ v' v0 (fun _ => formR_one ⟨t, ht, eb⟩ hr' hr) ⟨p, ng, M, nf, D, C, hv, hv'⟩
theorem x_at {al : Nat} {a b c : Int32} {u w : St} {Q : Int32 → St → Prop} {QX : String → St → Prop} (hJ : JJ al u w) (h0 : ∀ r u', MK (f_X7_at a b c w) al 0 r u' → Q r u') (h1 : ∀ u', MK (f_X7_at a b c w) al 1 0 u' → QX "java/lang/IndexOutOfBoundsException" u') (h2 : ∀ u', MK (f_X7_at a b c w) al 2 0 u' → QX "java/lang/IllegalArgumentException" u') : f_X6_at al a b c u Q QX := by
  obtain ⟨p, ng, M, nf, D, C, hC, hM⟩ := hJ
  have hb := isP_b hC.1.2
  refine at_ok hC (fun f x y v hf ea hx eb hy ec hv => h0 _ v (fun Q' k => mat_ok hM (fun f' x' y' v' hf' ea' hx' eb' hy' ec' v0 hv' => ?_) (fun _ _ _ q => absurd ⟨⟨x, hx, eb⟩, y, hy, ec⟩ q) (fun q => absurd ⟨f, hf, ea⟩ q)))
    (fun f hf ea q => h2 u (fun Q' k => mat_ok hM (fun _ x' y' _ _ _ hx' eb' hy' ec' _ _ => absurd ⟨⟨x', hx', eb'⟩, y', hy', ec'⟩ q) (fun _ _ _ _ v' v0 hv' => k 0 v' v0 (bad0 (by decide)) ⟨p, ng, M, nf, D, C, hC, hv'⟩) (fun q => absurd ⟨f, hf, ea⟩ q)))
    (fun q => h1 u (fun Q' k => mat_ok hM (fun f' _ _ _ hf' ea' _ _ _ _ _ _ => absurd ⟨f', hf', ea'⟩ q) (fun f' hf' ea' _ => absurd ⟨f', hf', ea'⟩ q) (fun _ v' v0 hv' => k 0 v' v0 (bad0 (by decide)) ⟨p, ng, M, nf, D, C, hC, hv'⟩)))
  have e1 := f_one hM hf hf' ea ea'
  have e2 := s_one (N := p) (by omega) hx hx' eb eb'
  have e3 := s_one (N := p) (by omega) hy hy' ec ec'
  subst e1 e2 e3
  exact k _ v' v0 (fun _ => rfl) ⟨p, ng, M, nf, D, C, hv, hv'⟩
theorem x_mult {al : Nat} {a b : Int32} {u w : St} {Q : Int32 → St → Prop} {QX : String → St → Prop} (hJ : JJ al u w) (h0 : ∀ r u', MK (f_X7_multiplicity a b w) al 0 r u' → Q r u') (h1 : ∀ u', MK (f_X7_multiplicity a b w) al 1 0 u' → QX "java/lang/IndexOutOfBoundsException" u') : f_X6_multiplicity al a b u Q QX := by
  obtain ⟨p, ng, M, nf, D, C, hC, hM⟩ := hJ
  have hb := isP_b hC.1.2
  refine mult_ok hC (fun f t v hf ea ht eb hv => h0 _ v (fun Q' k => mmult_ok hM (fun f' t' v' hf' ea' ht' eb' v0 hv' => ?_) (fun q => absurd ⟨⟨f, hf, ea⟩, t, ht, eb⟩ q)))
    (fun q => h1 u (fun Q' k => mmult_ok hM (fun f' t' _ hf' ea' ht' eb' _ _ => absurd ⟨⟨f', hf', ea'⟩, t', ht', eb'⟩ q) (fun _ v' v0 hv' => k 0 v' v0 (bad0 (by decide)) ⟨p, ng, M, nf, D, C, hC, hv'⟩)))
  have e1 := f_one hM hf hf' ea ea'
  have e2 := s_one (N := p + 1) (by omega) (by omega) (by omega) eb eb'
  subst e1 e2
  exact k _ v' v0 (fun _ => rfl) ⟨p, ng, M, nf, D, C, hv, hv'⟩
theorem gen_one {p : Nat} {a b c d : Int32} {m m' : Nat} (hp : isP p) (h : genV p a b c d m) (h' : genV p a b c d m') : m' = m := by
  have hb := isP_b hp
  obtain ⟨w, x, y, z, q1, q2, q3, q4, q5, q6, q7, q8, rfl⟩ := h
  obtain ⟨w', x', y', z', r1, r2, r3, r4, r5, r6, r7, r8, rfl⟩ := h'
  rw [s_one (N := p) (by omega) q1 r1 q5 r5, s_one (N := p) (by omega) q2 r2 q6 r6, s_one (N := p) (by omega) q3 r3 q7 r7, s_one (N := p) (by omega) q4 r4 q8 r8]
theorem x_gen {al : Nat} {a b c d : Int32} {u w : St} {Q : Nat → Int32 → St → Prop} {QX : String → St → Prop} (hal : al ≤ 4) (hJ : JJ al u w) (h0 : ∀ al2 r u', al ≤ al2 → al2 ≤ 4 → MK (f_X7_generator a b c d w) al2 0 r u' → Q al2 r u') (h1 : ∀ u', MK (f_X7_generator a b c d w) al 1 0 u' → QX "java/lang/IllegalArgumentException" u') (h2 : ∀ u', MK (f_X7_generator a b c d w) al 2 0 u' → QX "java/lang/IllegalStateException" u') : f_X6_generator al a b c d u Q QX := by
  obtain ⟨p, ng, M, nf, D, C, hC, hM⟩ := hJ
  refine generator_ok hC hal (fun m al2 v hm hd h4 a1 a2 hv => h0 al2 _ v a1 a2 (fun Q' k => mgen_ok hM (fun m' v' hm' _ _ v0 hv' => ?_) (fun q => absurd ⟨m, hm, hd⟩ q) (fun _ _ _ q => absurd h4 q)))
    (fun q => h1 u (fun Q' k => mgen_ok hM (fun m' _ hm' hd' _ _ _ => absurd ⟨m', hm', hd'⟩ q) (fun _ v' v0 hv' => k 0 v' v0 (bad0 (by decide)) ⟨p, ng, M, nf, D, C, hC, hv'⟩) (fun m' hm' hd' _ => absurd ⟨m', hm', hd'⟩ q)))
    (fun m hm hd h4 => h2 u (fun Q' k => mgen_ok hM (fun _ _ _ _ q => absurd q h4) (fun q => absurd ⟨m, hm, hd⟩ q) (fun _ _ _ _ v' v0 hv' => k 0 v' v0 (bad0 (by decide)) ⟨p, ng, M, nf, D, C, hC, hv'⟩)))
  have e1 := gen_one hC.1.2 hm hm'
  subst e1
  exact k _ v' v0 (fun _ => rfl) ⟨p, ng + 1, _, nf, D, C, hv, hv'⟩
theorem x_order {al : Nat} {u w : St} {Q : Int32 → St → Prop} (hJ : JJ al u w) (h0 : ∀ r, (∀ Q' : Int32 → St → Prop, (∀ w', JJ al u w' → Q' r w') → f_X7_order w Q') → Q r u) : f_X6_order al u Q := by
  obtain ⟨p, ng, M, nf, D, C, hC, hM⟩ := hJ
  refine order_ok hC (fun l n gl => h0 _ (fun Q' k => morder_ok hM (fun l' n' v gl' hv => ?_)))
  have : n' = n := Nat.le_antisymm (GL_size gl' gl) (GL_size gl gl')
  subst this
  exact k v ⟨p, ng, M, nf, D, C, hC, hv⟩
theorem x_changed {al : Nat} {a b : Int32} {u w : St} {Q : Int32 → St → Prop} {QX : String → St → Prop} (hJ : JJ al u w) (h0 : ∀ r u', MK (f_X7_changed a b w) al 0 r u' → Q r u') (h1 : ∀ u', MK (f_X7_changed a b w) al 1 0 u' → QX "java/lang/IndexOutOfBoundsException" u') : f_X6_changed al a b u Q QX := by
  obtain ⟨p, ng, M, nf, D, C, hC, hM⟩ := hJ
  refine changed_ok hC (fun f g hf hg ea eb => h0 _ u (fun Q' k => mchanged_ok hM (fun f' g' v' hf' hg' ea' eb' v0 hv' => ?_) (fun q => absurd ⟨⟨f, hf, ea⟩, g, hg, eb⟩ q)))
    (fun q => h1 u (fun Q' k => mchanged_ok hM (fun f' g' _ hf' hg' ea' eb' _ _ => absurd ⟨⟨f', hf', ea'⟩, g', hg', eb'⟩ q) (fun _ v' v0 hv' => k 0 v' v0 (bad0 (by decide)) ⟨p, ng, M, nf, D, C, hC, hv'⟩)))
  have e1 := f_one hM hf hf' ea ea'
  have e2 := g_one hM hg hg' eb eb'
  subst e1 e2
  exact k _ v' v0 (fun _ => rfl) ⟨p, ng, M, nf, D, C, hC, hv'⟩
theorem x_average {al : Nat} {a : Int32} {u w : St} {Q : Int32 → St → Prop} {QX : String → St → Prop} (hJ : JJ al u w) (h0 : ∀ r u', MK (f_X7_average a w) al 0 r u' → Q r u') (h1 : ∀ u', MK (f_X7_average a w) al 1 0 u' → QX "java/lang/IndexOutOfBoundsException" u') : f_X6_average al a u Q QX := by
  obtain ⟨p, ng, M, nf, D, C, hC, hM⟩ := hJ
  have sz : ∀ {l l' : Nat → Nat} {n n' : Nat}, GL p ng M l n → GL p ng M l' n' → n' = n := fun h h' => Nat.le_antisymm (GL_size h' h) (GL_size h h')
  refine average_ok hC (fun f l n K v hf ea gl hi hK hv => h0 _ v (fun Q' k => maverage_ok hM (fun f' l' n' v' hf' ea' gl' hi' v0 hv' => ?_) (fun f' l' n' _ _ _ gl' hi' _ _ => absurd (by rw [← sz gl gl']; exact hi') hi) (fun q => absurd ⟨f, hf, ea⟩ q)))
    (fun f l n hf ea gl hi => h0 _ u (fun Q' k => maverage_ok hM (fun f' l' n' _ _ _ gl' hi' _ _ => absurd (by rw [sz gl gl']; exact hi) hi') (fun f' l' n' v' _ _ gl' hi' v0 hv' => k _ v' v0 (fun _ => rfl) ⟨p, ng, M, nf, D, C, hC, hv'⟩) (fun q => absurd ⟨f, hf, ea⟩ q)))
    (fun q => h1 u (fun Q' k => maverage_ok hM (fun f' _ _ _ hf' ea' _ _ _ _ => absurd ⟨f', hf', ea'⟩ q) (fun f' _ _ _ hf' ea' _ _ _ _ => absurd ⟨f', hf', ea'⟩ q) (fun _ v' v0 hv' => k 0 v' v0 (bad0 (by decide)) ⟨p, ng, M, nf, D, C, hC, hv'⟩)))
  have e1 := f_one hM hf hf' ea ea'
  have e2 := sz gl gl'
  subst e1 e2
  have b1 := hC.f hf
  exact k _ v' v0 (fun _ => by rw [av_eq hC.1.2 b1.1.2 b1.2.1 hC.2.1 gl' hK]) ⟨p, ng, M, nf, D, C, hv, hv'⟩
theorem x_dim {al : Nat} {a : Int32} {u w : St} {Q : Int32 → St → Prop} {QX : String → St → Prop} (hJ : JJ al u w) (h0 : ∀ r u', MK (f_X7_dimension a w) al 0 r u' → Q r u') (h1 : ∀ u', MK (f_X7_dimension a w) al 1 0 u' → QX "java/lang/IllegalArgumentException" u') : f_X6_dimension al a u Q QX := by
  obtain ⟨p, ng, M, nf, D, C, hC, hM⟩ := hJ
  refine dimension_ok hC (fun d f v hd1 hd4 ea e hv => h0 _ v (fun Q' k => mdim_ok hM (fun d' f' v' hd1' hd4' ea' e' v0 hv' => ?_) (fun q => absurd ⟨d, hd1, hd4, ea⟩ q)))
    (fun q => h1 u (fun Q' k => mdim_ok hM (fun d' _ _ hd1' hd4' ea' _ _ _ => absurd ⟨d', hd1', hd4', ea'⟩ q) (fun _ v' v0 hv' => k 0 v' v0 (bad0 (by decide)) ⟨p, ng, M, nf, D, C, hC, hv'⟩)))
  have e1 := s_one (N := 5) (by omega) (by omega) (by omega) ea ea'
  subst e1
  exact k _ v' v0 (fun _ => by rw [pow_one hC.1.2 (show p ^ f' = p ^ f by rw [e, e'])]) ⟨p, ng, M, nf, D, C, hv, hv'⟩
theorem x_dimA {al : Nat} {a : Int32} {u w : St} {Q : Int32 → St → Prop} {QX : String → St → Prop} (hJ : JJ al u w) (h0 : ∀ r u', MK (f_X7_dimensionAnew a w) al 0 r u' → Q r u') (h1 : ∀ u', MK (f_X7_dimensionAnew a w) al 1 0 u' → QX "java/lang/IllegalArgumentException" u') : f_X6_dimensionAnew al a u Q QX := by
  obtain ⟨p, ng, M, nf, D, C, hC, hM⟩ := hJ
  refine dimAnew_ok hC (fun d f v hd1 hd4 ea e hv => h0 _ v (fun Q' k => mdimA_ok hM (fun d' f' v' hd1' hd4' ea' e' v0 hv' => ?_) (fun q => absurd ⟨d, hd1, hd4, ea⟩ q)))
    (fun q => h1 u (fun Q' k => mdimA_ok hM (fun d' _ _ hd1' hd4' ea' _ _ _ => absurd ⟨d', hd1', hd4', ea'⟩ q) (fun _ v' v0 hv' => k 0 v' v0 (bad0 (by decide)) ⟨p, ng, M, nf, D, C, hC, hv'⟩)))
  have e1 := s_one (N := 5) (by omega) (by omega) (by omega) ea ea'
  subst e1
  exact k _ v' v0 (fun _ => by rw [pow_one hC.1.2 (show p ^ f' = p ^ f by rw [e, e'])]) ⟨p, ng, M, nf, D, C, hv, hv'⟩
theorem x_trans {al : Nat} {a b c : Int32} {u w : St} {Q : Int32 → St → Prop} {QX : String → St → Prop} (hJ : JJ al u w) (h0 : ∀ r u', MK (f_X7_transvectant a b c w) al 0 r u' → Q r u') (h1 : ∀ u', MK (f_X7_transvectant a b c w) al 1 0 u' → QX "java/lang/IndexOutOfBoundsException" u') (h2 : ∀ u', MK (f_X7_transvectant a b c w) al 2 0 u' → QX "java/lang/IllegalArgumentException" u') : f_X6_transvectant al a b c u Q QX := by
  obtain ⟨p, ng, M, nf, D, C, hC, hM⟩ := hJ
  refine transvectant_ok hC (fun f g t v hf hg ea eb ec k1 k2 k3 k4 hv => h0 _ v (fun Q' k => mtransv_ok hM (fun f' g' t' v' hf' hg' ea' eb' ec' k1' k2' _ _ v0 hv' => ?_) (fun f' g' hf' hg' ea' eb' q => ?_) (fun q => absurd ⟨⟨f, hf, ea⟩, g, hg, eb⟩ q)))
    (fun f g hf hg ea eb q => h2 u (fun Q' k => mtransv_ok hM (fun f' g' t' v' hf' hg' ea' eb' ec' k1' k2' k3' k4' _ _ => ?_) (fun f' g' hf' hg' ea' eb' _ v' v0 hv' => k 0 v' v0 (bad0 (by decide)) ⟨p, ng, M, nf, D, C, hC, hv'⟩) (fun q => absurd ⟨⟨f, hf, ea⟩, g, hg, eb⟩ q)))
    (fun q => h1 u (fun Q' k => mtransv_ok hM (fun f' g' _ _ hf' hg' ea' eb' _ _ _ _ _ _ _ => absurd ⟨⟨f', hf', ea'⟩, g', hg', eb'⟩ q) (fun f' g' hf' hg' ea' eb' _ => absurd ⟨⟨f', hf', ea'⟩, g', hg', eb'⟩ q) (fun _ v' v0 hv' => k 0 v' v0 (bad0 (by decide)) ⟨p, ng, M, nf, D, C, hC, hv'⟩)))
  · have e1 := f_one hM hf hf' ea ea'
    have e2 := f_one hM hg hg' eb eb'
    subst e1 e2
    have b1 := hC.f hf
    have e3 := s_one (N := 5) (by omega) (by omega) (by omega) ec ec'
    subst e3
    exact k _ v' v0 (fun _ => rfl) ⟨p, ng, M, nf, D, C, hv, hv'⟩
  · have e1 := f_one hM hf hf' ea ea'
    have e2 := f_one hM hg hg' eb eb'
    subst e1 e2
    exact absurd ⟨t, ec, k1, k2, k3, k4⟩ q
  · have e1 := f_one hM hf hf' ea ea'
    have e2 := f_one hM hg hg' eb eb'
    subst e1 e2
    exact absurd ⟨t', ec', k1', k2', k3', k4'⟩ q
theorem x_value {al : Nat} {a b : Int32} {u w : St} {Q : Int32 → St → Prop} {QX : String → St → Prop} (hJ : JJ al u w) (h0 : ∀ r u', MK (f_X7_value a b w) al 0 r u' → Q r u') (h1 : ∀ u', MK (f_X7_value a b w) al 1 0 u' → QX "java/lang/IndexOutOfBoundsException" u') (h2 : ∀ u', MK (f_X7_value a b w) al 2 0 u' → QX "java/lang/IllegalArgumentException" u') : f_X6_value al a b u Q QX := by
  obtain ⟨p, ng, M, nf, D, C, hC, hM⟩ := hJ
  refine value_ok hC (fun f t v hf ea ht eb hv => h0 _ v (fun Q' k => mvalue_ok hM (fun f' t' v' hf' ea' ht' eb' v0 hv' => ?_) (fun f' hf' ea' q => ?_) (fun q => absurd ⟨f, hf, ea⟩ q)))
    (fun f hf ea q => h2 u (fun Q' k => mvalue_ok hM (fun f' t' v' hf' ea' ht' eb' _ _ => ?_) (fun _ _ _ _ v' v0 hv' => k 0 v' v0 (bad0 (by decide)) ⟨p, ng, M, nf, D, C, hC, hv'⟩) (fun q => absurd ⟨f, hf, ea⟩ q)))
    (fun q => h1 u (fun Q' k => mvalue_ok hM (fun f' _ _ hf' ea' _ _ _ _ => absurd ⟨f', hf', ea'⟩ q) (fun f' hf' ea' _ => absurd ⟨f', hf', ea'⟩ q) (fun _ v' v0 hv' => k 0 v' v0 (bad0 (by decide)) ⟨p, ng, M, nf, D, C, hC, hv'⟩)))
  · have e1 := f_one hM hf hf' ea ea'
    subst e1
    have hn := (nval_le (D f')).1
    have e2 := s_one (N := nval (D f')) (by omega) ht ht' eb eb'
    subst e2
    exact k _ v' v0 (fun _ => rfl) ⟨p, ng, M, nf, D, C, hv, hv'⟩
  · have e1 := f_one hM hf hf' ea ea'
    subst e1
    exact absurd ⟨t, ht, eb⟩ q
  · have e1 := f_one hM hf hf' ea ea'
    subst e1
    exact absurd ⟨t', ht', eb'⟩ q
theorem x_weighs {al : Nat} {u w : St} {Q : Int32 → St → Prop} (hJ : JJ al u w) (h0 : ∀ r u', (∀ Q' : Int32 → St → Prop, (∀ w', JJ al u' w' → Q' r w') → f_X7_weighs_ w Q') → Q r u') : f_X6_weighs al u Q := by
  obtain ⟨p, ng, M, nf, D, C, hC, hM⟩ := hJ
  exact weighs_ok hC (fun v hw hv => h0 1 v (fun Q' k => mweighs_ok hM (fun v' _ hv' => k v' ⟨p, ng, M, nf, D, C, hv, hv'⟩) (fun _ q => absurd hw q))) (fun v hw hv => h0 0 v (fun Q' k => mweighs_ok hM (fun _ q => absurd q hw) (fun v' _ hv' => k v' ⟨p, ng, M, nf, D, C, hv, hv'⟩)))
theorem x_way {al : Nat} {a b : Int32} {u w : St} {Q : Int32 → St → Prop} {QX : String → St → Prop} (hJ : JJ al u w) (h0 : ∀ r u', MK (f_X7_way a b w) al 0 r u' → Q r u') (h1 : ∀ u', MK (f_X7_way a b w) al 1 0 u' → QX "java/lang/IndexOutOfBoundsException" u') (h2 : ∀ u', MK (f_X7_way a b w) al 2 0 u' → QX "java/lang/IllegalArgumentException" u') : f_X6_way al a b u Q QX := by
  obtain ⟨p, ng, M, nf, D, C, hC, hM⟩ := hJ
  refine way_ok hC (fun f g r v hf hg ea eb he hr hv => h0 _ v (fun Q' k => mway_ok hM (fun f' g' r' v' hf' hg' ea' eb' he' hr' v0 hv' => ?_) (fun f' g' hf' hg' ea' eb' q => ?_) (fun q => absurd ⟨⟨f, hf, ea⟩, g, hg, eb⟩ q)))
    (fun f g hf hg ea eb q => h2 u (fun Q' k => mway_ok hM (fun f' g' r' v' hf' hg' ea' eb' he' _ _ _ => ?_) (fun f' g' hf' hg' ea' eb' _ v' v0 hv' => k 0 v' v0 (bad0 (by decide)) ⟨p, ng, M, nf, D, C, hC, hv'⟩) (fun q => absurd ⟨⟨f, hf, ea⟩, g, hg, eb⟩ q)))
    (fun q => h1 u (fun Q' k => mway_ok hM (fun f' g' _ _ hf' hg' ea' eb' _ _ _ _ => absurd ⟨⟨f', hf', ea'⟩, g', hg', eb'⟩ q) (fun f' g' hf' hg' ea' eb' _ => absurd ⟨⟨f', hf', ea'⟩, g', hg', eb'⟩ q) (fun _ v' v0 hv' => k 0 v' v0 (bad0 (by decide)) ⟨p, ng, M, nf, D, C, hC, hv'⟩)))
  · have e1 := f_one hM hf hf' ea ea'
    have e2 := f_one hM hg hg' eb eb'
    subst e1 e2
    exact k _ v' v0 (fun _ => wayR_one hr' hr) ⟨p, ng, M, nf, D, C, hv, hv'⟩
  · have e1 := f_one hM hf hf' ea ea'
    have e2 := f_one hM hg hg' eb eb'
    subst e1 e2
    exact absurd he q
  · have e1 := f_one hM hf hf' ea ea'
    have e2 := f_one hM hg hg' eb eb'
    subst e1 e2
    exact absurd he' q
theorem x_step {al : Nat} {a b c : Int32} {u w : St} {Q : Int32 → St → Prop} {QX : String → St → Prop} (hJ : JJ al u w) (h0 : ∀ r u', MK (f_X7_step a b c w) al 0 r u' → Q r u') (h1 : ∀ u', MK (f_X7_step a b c w) al 1 0 u' → QX "java/lang/IndexOutOfBoundsException" u') (h2 : ∀ u', MK (f_X7_step a b c w) al 2 0 u' → QX "java/lang/IllegalArgumentException" u') : f_X6_step al a b c u Q QX := by
  obtain ⟨p, ng, M, nf, D, C, hC, hM⟩ := hJ
  have cpos : ∀ st : Nat, st < 2147483648 → c = nI st → 0 ≤ c := fun st h e => by rw [e]; exact nI_le (a := 0) (Nat.zero_le _) h
  refine step_ok hC (fun f g st r v hf hg ea eb he ec hst hr hv => h0 _ v (fun Q' k => mstep_ok hM (fun f' g' st' r' v' hf' hg' ea' eb' he' ec' hst' hr' v0 hv' => ?_) (fun f' g' hf' hg' ea' eb' q => ?_) (fun q => absurd ⟨⟨f, hf, ea⟩, g, hg, eb⟩ q)))
    (fun f g hf hg ea eb q => h2 u (fun Q' k => mstep_ok hM (fun f' g' st' r' v' hf' hg' ea' eb' he' ec' hst' _ _ _ => ?_) (fun f' g' hf' hg' ea' eb' _ v' v0 hv' => k 0 v' v0 (bad0 (by decide)) ⟨p, ng, M, nf, D, C, hC, hv'⟩) (fun q => absurd ⟨⟨f, hf, ea⟩, g, hg, eb⟩ q)))
    (fun q => h1 u (fun Q' k => mstep_ok hM (fun f' g' _ _ _ hf' hg' ea' eb' _ _ _ _ _ _ => absurd ⟨⟨f', hf', ea'⟩, g', hg', eb'⟩ q) (fun f' g' hf' hg' ea' eb' _ => absurd ⟨⟨f', hf', ea'⟩, g', hg', eb'⟩ q) (fun _ v' v0 hv' => k 0 v' v0 (bad0 (by decide)) ⟨p, ng, M, nf, D, C, hC, hv'⟩)))
  · have e1 := f_one hM hf hf' ea ea'
    have e2 := f_one hM hg hg' eb eb'
    have e3 : st' = st := (nI_eq (by omega) (by omega)).mp (by rw [← ec', ec])
    subst e1 e2 e3
    exact k _ v' v0 (fun _ => stepR_one hr' hr) ⟨p, ng, M, nf, D, C, hv, hv'⟩
  · have e1 := f_one hM hf hf' ea ea'
    have e2 := f_one hM hg hg' eb eb'
    subst e1 e2
    exact absurd ⟨he, cpos st hst ec⟩ q
  · have e1 := f_one hM hf hf' ea ea'
    have e2 := f_one hM hg hg' eb eb'
    subst e1 e2
    exact absurd ⟨he', cpos st' hst' ec'⟩ q
theorem x_orbits {al : Nat} {a : Int32} {u w : St} {Q : Int32 → St → Prop} {QX : String → St → Prop} (hJ : JJ al u w) (h0 : ∀ r u', MK (f_X7_orbits a w) al 0 r u' → Q r u') (h1 : ∀ u', MK (f_X7_orbits a w) al 1 0 u' → QX "java/lang/IllegalArgumentException" u') : f_X6_orbits al a u Q QX := by
  obtain ⟨p, ng, M, nf, D, C, hC, hM⟩ := hJ
  refine orbits_ok hC (fun d l n v hd1 hd4 ea gl hv => h0 _ v (fun Q' k => morb_ok hM (fun d' l' n' v' hd1' hd4' ea' gl' v0 hv' => ?_) (fun q => absurd ⟨d, hd1, hd4, ea⟩ q)))
    (fun q => h1 u (fun Q' k => morb_ok hM (fun d' _ _ _ hd1' hd4' ea' _ _ _ => absurd ⟨d', hd1', hd4', ea'⟩ q) (fun _ v' v0 hv' => k 0 v' v0 (bad0 (by decide)) ⟨p, ng, M, nf, D, C, hC, hv'⟩)))
  have e1 := s_one (N := 5) (by omega) (by omega) (by omega) ea ea'
  subst e1
  exact k _ v' v0 (fun _ => by rw [ob_one gl' gl]) ⟨p, ng, M, nf, D, C, hv, hv'⟩
theorem x_orbitsA {al : Nat} {a : Int32} {u w : St} {Q : Int32 → St → Prop} {QX : String → St → Prop} (hJ : JJ al u w) (h0 : ∀ r u', MK (f_X7_orbitsAnew a w) al 0 r u' → Q r u') (h1 : ∀ u', MK (f_X7_orbitsAnew a w) al 1 0 u' → QX "java/lang/IllegalArgumentException" u') : f_X6_orbitsAnew al a u Q QX := by
  obtain ⟨p, ng, M, nf, D, C, hC, hM⟩ := hJ
  refine orbitsAnew_ok hC (fun d l n v hd1 hd4 ea gl hv => h0 _ v (fun Q' k => morbA_ok hM (fun d' l' n' v' hd1' hd4' ea' gl' v0 hv' => ?_) (fun q => absurd ⟨d, hd1, hd4, ea⟩ q)))
    (fun q => h1 u (fun Q' k => morbA_ok hM (fun d' _ _ _ hd1' hd4' ea' _ _ _ => absurd ⟨d', hd1', hd4', ea'⟩ q) (fun _ v' v0 hv' => k 0 v' v0 (bad0 (by decide)) ⟨p, ng, M, nf, D, C, hC, hv'⟩)))
  have e1 := s_one (N := 5) (by omega) (by omega) (by omega) ea ea'
  subst e1
  exact k _ v' v0 (fun _ => by rw [ob_one gl' gl]) ⟨p, ng, M, nf, D, C, hv, hv'⟩
