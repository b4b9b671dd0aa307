/-! a generator told: one of before is used again, or one is made -/
def f_X4_tellgo (al g : Nat) (a1 a2 a3 a4 : Int32) (u : St) (Q : Nat → St → Prop) : Prop :=
  f_X2_table al a1 a2 a3 a4 u (fun v1 u2 => f_X3_become al g v1 u2 (fun u3 => (∀ u4 : St, u4 = su u3 0 4 ((u3 0 4) + 1) → f_X4_close al u4 (fun u5 => Q al u5))))
/-- a new object's numbers are 0 -/
def newG (al : Nat) (u : St) : St := su (sa u (23 + 2 * al) (fun _ => 0)) 0 (8 + al) 0
def f_X4_tell (al : Nat) (a1 a2 a3 a4 : Int32) (u : St) (Q : Nat → St → Prop) : Prop :=
 (((u 0 4) < 0 → Q al u) ∧ (¬ (u 0 4) < 0 → ((4 ≤ (u 0 4) → Q al u) ∧ (¬ 4 ≤ (u 0 4) → (vp_in (u 0 4) 4 ∧ (((u 0 4).toNatClampNeg < al → f_X4_tellgo al (u 0 4).toNatClampNeg a1 a2 a3 a4 u Q) ∧ (¬ (u 0 4).toNatClampNeg < al → (u 0 4).toNatClampNeg = al ∧ f_X4_tellgo (al + 1) al a1 a2 a3 a4 (newG al u) Q)))))))
def f_X6_generator (al : Nat) (a1 a2 a3 a4 : Int32) (u : St) (Q : Nat → Int32 → St → Prop) (QX : String → St → Prop) : Prop :=
  f_X2_has al a1 u (fun v1 u2 => ((v1 = 0 → QX "java/lang/IllegalArgumentException" u2) ∧ (¬ v1 = 0 → f_X2_has al a2 u2 (fun v3 u4 => ((v3 = 0 → QX "java/lang/IllegalArgumentException" u4) ∧ (¬ v3 = 0 → f_X2_has al a3 u4 (fun v5 u6 => ((v5 = 0 → QX "java/lang/IllegalArgumentException" u6) ∧ (¬ v5 = 0 → f_X2_has al a4 u6 (fun v7 u8 => ((v7 = 0 → QX "java/lang/IllegalArgumentException" u8) ∧ (¬ v7 = 0 → f_X2_rest al ((a1 * a4) - (a2 * a3)) u8 (fun v9 u10 => ((v9 = 0 → QX "java/lang/IllegalArgumentException" u10) ∧ (¬ v9 = 0 → ((4 ≤ (u10 0 4) → QX "java/lang/IllegalStateException" u10) ∧ (¬ 4 ≤ (u10 0 4) → f_X4_tell al a1 a2 a3 a4 u10 (fun al2 u11 => f_J7_fill_53178 12 0 u11 (fun u12 => Q al2 ((u12 0 4) - 1) u12)))))))))))))))))))
theorem tellgo_ok {al p ng nf w x y z : Nat} {M D C : Nat → Nat} {u : St} {Q : Nat → St → Prop} (hal : ng < al) (hp : PP u p) (hM : gensOk p ng M) (h4 : ng < 4) (h04 : u 0 4 = nI ng) (hMs : ∀ g, g < ng → u 0 (8 + g) = nI (M g)) (hI : GI p ng M u) (h5 : nf ≤ 20 ∧ u 0 7 = nI nf) (h6 : ∀ f, f < nf → (1 ≤ D f ∧ D f ≤ 4) ∧ C f < p ^ (D f + 1) ∧ u 7 f = nI (D f) ∧ u 8 f = nI (C f))
    (hw : w < p) (hx : x < p) (hy : y < p) (hz : z < p) (hd : det p (tab p w x y z) ≠ 0)
    (h : ∀ v, v 0 4 = nI (ng + 1) → (∀ v', v' = sa v 12 (fun j => if j < lenC 12 then 0 else v 12 j) → CI al p (ng + 1) (nxt M ng (tab p w x y z)) nf D C v') → Q al v) : f_X4_tellgo al ng (nI w) (nI x) (nI y) (nI z) u Q := by
  have hb := isP_b hp.2
  have h625 := p4_625 hp.2
  have htl := tab_lt hw hx hy hz
  unfold f_X4_tellgo
  refine table_ok hp ?_
  refine become_ok hp h4 (by omega) ?_
  intro v cv v8 vi u4 e4
  have hn0 : ∀ (j : Nat), j ∈ [1, 8 + ng] → j = 1 ∨ j = 8 + ng := by
    intro j hj
    simpa using hj
  have v04 : v 0 4 = nI ng := by rw [cv.1 4 (fun q => by have := hn0 4 q; omega)]; exact h04
  rw [v04, nI_1] at e4
  have hpv : PP u4 p := by
    rw [e4]
    exact (cv.pp hp (fun q => by have := hn0 0 q; omega)).su0 (by decide)
  have hM' : gensOk p (ng + 1) (nxt M ng (tab p w x y z)) := by
    intro g hg
    unfold nxt
    by_cases e : g = ng
    · rw [if_pos e]; exact ⟨htl, hd⟩
    · rw [if_neg e]; exact hM g (by omega)
  have hG' : GM al (ng + 1) (nxt M ng (tab p w x y z)) u4 := by
    refine ⟨by omega, by omega, by rw [e4, su_kk], fun g hg => ?_⟩
    rw [e4, su_kn _ _ _ (by omega)]
    unfold nxt
    by_cases e : g = ng
    · subst e; rw [if_pos rfl]; exact v8
    · rw [if_neg e, cv.1 (8 + g) (fun q => by have := hn0 _ q; omega)]; exact hMs g (by omega)
  have hI' : GI p (ng + 1) (nxt M ng (tab p w x y z)) u4 := by
    intro g hg
    rw [e4, su_n _ _ _ (by omega)]
    unfold nxt
    by_cases e : g = ng
    · subst e; rw [if_pos rfl]; exact vi
    · rw [if_neg e, cv.2 (23 + 2 * g) (by omega) (fun q => by simp at q; omega)]; exact hI g (by omega)
  refine close_ok hpv hM' hG' ?_
  intro y' l n cy gl h480 y5 y15
  have h4' : y' 0 4 = nI (ng + 1) := by rw [cy.1 4 (by decide)]; exact hG'.2.2.1
  refine h y' h4' ?_
  intro v' e'
  have c12 : chg [12] [] y' v' := by rw [e']; exact chg_sa (by decide) (by decide)
  refine ⟨c12.pp (cy.pp hpv (by decide)) (by decide), hM', (hG'.chg cy (by decide)).chg c12 (by decide), fun g hg => ?_, ⟨h5.1, ?_⟩, fun f hf => ?_, l, n, gl, h480, ?_, fun k hk => ?_, fun d d1 d2 => ?_⟩
  · rw [c12.2 (23 + 2 * g) (by omega) (by simp; omega), cy.2 (23 + 2 * g) (by omega) (by simp; omega)]; exact hI' g hg
  · rw [c12.1 7 (by decide), cy.1 7 (by decide), e4, su_kn _ _ _ (by decide), cv.1 7 (fun q => by have := hn0 7 q; omega)]; exact h5.2
  · rw [c12.2 7 (by decide) (by decide), c12.2 8 (by decide) (by decide), cy.2 7 (by decide) (by decide), cy.2 8 (by decide) (by decide), e4, su_n _ _ _ (by decide), su_n _ _ _ (by decide), cv.2 7 (by decide) (fun q => by simp at q; omega), cv.2 8 (by decide) (fun q => by simp at q; omega)]; exact h6 f hf
  · rw [c12.1 5 (by decide)]; exact y5
  · rw [c12.2 15 (by decide) (by decide)]; exact y15 k hk
  · rw [e', sa_k, if_pos (show d < lenC 12 from (show d < 5 by omega))]; exact Or.inl rfl
theorem generator_ok {al p ng nf : Nat} {M D C : Nat → Nat} {a b c d : Int32} {u : St} {Q : Nat → Int32 → St → Prop} {QX : String → St → Prop} (hC : CI al p ng M nf D C u) (hal4 : al ≤ 4)
    (h1 : ∀ m al2 v, genV p a b c d m → det p m ≠ 0 → ng < 4 → al ≤ al2 → al2 ≤ 4 → CI al2 p (ng + 1) (nxt M ng m) nf D C v → Q al2 (nI ng) v)
    (h2 : (¬ ∃ m, genV p a b c d m ∧ det p m ≠ 0) → QX "java/lang/IllegalArgumentException" u)
    (h3 : ∀ m, genV p a b c d m → det p m ≠ 0 → ¬ ng < 4 → QX "java/lang/IllegalStateException" u) : f_X6_generator al a b c d u Q QX := by
  obtain ⟨hp, hM, hG, hI, h5, h6, -⟩ := hC
  have hb := isP_b hp.2
  unfold f_X6_generator
  refine has_ok hp (fun ⟨w, hw, ew⟩ => ⟨fun q => absurd q (by decide), fun _ => ?_⟩) (fun q => ⟨fun _ => h2 (fun ⟨m, ⟨w, x, y, z, q1, q2, q3, q4, q5, q6, q7, q8, _⟩, _⟩ => q ⟨w, q1, q5⟩), fun c => absurd rfl c⟩)
  refine has_ok hp (fun ⟨x, hx, ex⟩ => ⟨fun q => absurd q (by decide), fun _ => ?_⟩) (fun q => ⟨fun _ => h2 (fun ⟨m, ⟨w, x, y, z, q1, q2, q3, q4, q5, q6, q7, q8, _⟩, _⟩ => q ⟨x, q2, q6⟩), fun c => absurd rfl c⟩)
  refine has_ok hp (fun ⟨y, hy, ey⟩ => ⟨fun q => absurd q (by decide), fun _ => ?_⟩) (fun q => ⟨fun _ => h2 (fun ⟨m, ⟨w, x, y, z, q1, q2, q3, q4, q5, q6, q7, q8, _⟩, _⟩ => q ⟨y, q3, q7⟩), fun c => absurd rfl c⟩)
  refine has_ok hp (fun ⟨z, hz, ez⟩ => ⟨fun q => absurd q (by decide), fun _ => ?_⟩) (fun q => ⟨fun _ => h2 (fun ⟨m, ⟨w, x, y, z, q1, q2, q3, q4, q5, q6, q7, q8, _⟩, _⟩ => q ⟨z, q4, q8⟩), fun c => absurd rfl c⟩)
  have hV : genV p a b c d (tab p w x y z) := ⟨w, x, y, z, hw, hx, hy, hz, ew, ex, ey, ez, rfl⟩
  have hdt := det_tab hw hx hy hz
  have m1 : w * z ≤ 4 * 4 := Nat.mul_le_mul (by omega) (by omega)
  have m2 : x * y ≤ 4 * 4 := Nat.mul_le_mul (by omega) (by omega)
  have he := emod_b hp.2 (((w * z : Nat) : Int) - ((x * y : Nat) : Int))
  subst ew ex ey ez
  refine rest_ok hp (z := ((w * z : Nat) : Int) - ((x * y : Nat) : Int)) (by rw [pk_mul, pk_mul, iI_n, iI_n, iI_sub]) (by omega) (by omega) ?_
  have hno : ∀ m, genV p (nI w) (nI x) (nI y) (nI z) m → m = tab p w x y z := by
    rintro m ⟨w', x', y', z', q1, q2, q3, q4, q5, q6, q7, q8, rfl⟩
    rw [(nI_eq (by omega) (by omega)).mp q5, (nI_eq (by omega) (by omega)).mp q6, (nI_eq (by omega) (by omega)).mp q7, (nI_eq (by omega) (by omega)).mp q8]
  refine ⟨fun q => h2 ?_, fun q => ?_⟩
  · rintro ⟨m, hm, hd⟩
    rw [hno m hm, hdt] at hd
    have := (iI_eq (b := 0) (by omega) (by omega) (by omega) (by omega)).mp q
    omega
  · have hd : det p (tab p w x y z) ≠ 0 := by
      rw [hdt]
      intro e
      refine q ?_
      rw [show (((w * z : Nat) : Int) - ((x * y : Nat) : Int)) % (p : Int) = 0 by omega]
      rfl
    rw [hG.2.2.1]
    have h4le := hG.1
    refine ⟨fun q4 => h3 _ hV hd (fun q5 => (nI_ge (b := 4) q5 (by omega)) q4), fun q4 => ?_⟩
    have h4 : ng < 4 := Nat.lt_of_not_le (fun q5 => q4 (nI_le (b := 4) (a := 4) (Nat.le_refl _) (by omega) |> fun _ => nI_le q5 (by omega)))
    unfold f_X4_tell
    rw [hG.2.2.1]
    have fin : ∀ al2 v, al ≤ al2 → al2 ≤ 4 → v 0 4 = nI (ng + 1) → (∀ v', v' = sa v 12 (fun j => if j < lenC 12 then 0 else v 12 j) → CI al2 p (ng + 1) (nxt M ng (tab p w x y z)) nf D C v') → f_J7_fill_53178 12 0 v (fun u12 => Q al2 ((u12 0 4) - 1) u12) := by
      intro al2 v hal hal2 hv4 hv
      refine fill_ok ?_
      have hci := hv _ rfl
      rw [hci.2.2.1.2.2.1, nI_pred]
      exact h1 _ al2 _ hV hd h4 hal hal2 hci
    refine ⟨fun c => absurd c (nI_pos (by omega)), fun _ => ⟨fun c => absurd c q4, fun _ => ⟨vp_in_nI h4 (by omega), fun hlt => ?_, fun hge => ?_⟩⟩⟩
    · rw [nI_clamp (by omega)] at hlt ⊢
      exact tellgo_ok hlt hp hM h4 hG.2.2.1 hG.2.2.2 hI h5 h6 hw hx hy hz hd (fun v hv4 hv => fin al v (Nat.le_refl _) hal4 hv4 hv)
    · rw [nI_clamp (by omega)] at hge ⊢
      have hle := hG.2.1
      have hea : ng = al := by omega
      subst hea
      refine ⟨rfl, ?_⟩
      have hn : ∀ k, k ≠ 0 → k ≠ 23 + 2 * ng → newG ng u k = u k := fun k k0 k1 => by
        unfold newG
        rw [su_n _ _ _ k0, sa_n _ _ k1]
      have hs : ∀ j, j ≠ 8 + ng → newG ng u 0 j = u 0 j := fun j hj => by
        unfold newG
        rw [su_kn _ _ _ hj, sa_n _ _ (by omega)]
      refine tellgo_ok (by omega) ⟨by rw [hs 0 (by omega)]; exact hp.1, hp.2⟩ hM h4 (by rw [hs 4 (by omega)]; exact hG.2.2.1) (fun g hg => by rw [hs (8 + g) (by omega)]; exact hG.2.2.2 g hg) (fun g hg => by rw [hn (23 + 2 * g) (by omega) (by omega)]; exact hI g hg) ⟨h5.1, by rw [hs 7 (by omega)]; exact h5.2⟩ (fun f hf => by rw [hn 7 (by omega) (by omega), hn 8 (by omega) (by omega)]; exact h6 f hf) hw hx hy hz hd (fun v hv4 hv => fin (ng + 1) v (by omega) (by omega) hv4 hv)
