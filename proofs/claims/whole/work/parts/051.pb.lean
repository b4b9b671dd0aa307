/-! the reference: matrices, the group, what a matrix does -/
theorem loopZ {S : Type} (P : Nat → Int32 → S → Prop) (I : Nat → S → Prop) (hs : ∀ n i s, I (i + 1) s → (∀ s', I i s' → P n (nI i) s') → P (n + 1) (nI (i + 1)) s) (hx : ∀ n s, I 0 s → P (n + 1) (nI 0) s) (N : Nat) (s : S) (h : I N s) : ∃ n, P n (nI N) s := by
  have key : ∀ k s, I k s → P (k + 1) (nI k) s := by
    intro k
    induction k with
    | zero => intro s hI; exact hx _ _ hI
    | succ k ih => intro s hI; exact hs _ _ _ hI (fun s' h' => ih s' h')
  exact ⟨_, key _ _ h⟩
theorem mkI (n : Nat) : (4 : Int32) * nI n = nI (4 * n) := by rw [show (4 : Int32) = nI 4 from rfl, pk_mul]
theorem mk5 (n : Nat) : (5 : Int32) * nI n = nI (5 * n) := by rw [show (5 : Int32) = nI 5 from rfl, pk_mul]
theorem ad1 (n : Nat) : nI n + 1 = nI (n + 1) := nI_1 n
theorem ad2 (n : Nat) : nI n + 2 = nI (n + 2) := by rw [show (2 : Int32) = nI 2 from rfl, nI_add]
theorem ad3 (n : Nat) : nI n + 3 = nI (n + 3) := by rw [show (3 : Int32) = nI 3 from rfl, nI_add]
theorem tab_n (p a b c d : Nat) : nI a + nI p * nI b + nI p * nI p * nI c + nI p * nI p * nI p * nI d = nI (tab p a b c d) := by
  simp only [pk_mul, nI_add]
  congr 1
  unfold tab
  grind
theorem tab_self {p m : Nat} (hp : 0 < p) (hm : m < p ^ 4) : tab p (dg p m 0) (dg p m 1) (dg p m 2) (dg p m 3) = m := by
  rw [tab_cod, ← cod_dg hp 4 m hm]
  refine cod_cong (fun j hj => ?_)
  rw [cod_dg hp 4 m hm]
  have : j = 0 ∨ j = 1 ∨ j = 2 ∨ j = 3 := by omega
  rcases this with rfl | rfl | rfl | rfl <;> rfl
/-- the numbers of a matrix as a row of the reference has them -/
theorem MI.m {p ng nf g : Nat} {M D C : Nat → Nat} {u : St} (hC : MI p ng M nf D C u) (hg : g < ng) : (u 3 (4 * g) = nI (dg p (M g) 0) ∧ u 3 (4 * g + 1) = nI (dg p (M g) 1) ∧ u 3 (4 * g + 2) = nI (dg p (M g) 2) ∧ u 3 (4 * g + 3) = nI (dg p (M g) 3)) ∧ g < 4 ∧ M g < p ^ 4 ∧ M g < 625 := by
  have h4 := hC.2.2.2.1 g hg
  have h3 := hC.2.2.1.1
  have hM := (hC.2.1 g hg).1
  have := p4_625 hC.1.2
  exact ⟨⟨h4 0 (by omega), h4 1 (by omega), h4 2 (by omega), h4 3 (by omega)⟩, by omega, hM, by omega⟩
def genV (p : Nat) (a b c d : Int32) (m : Nat) : Prop := ∃ w x y z, w < p ∧ x < p ∧ y < p ∧ z < p ∧ a = nI w ∧ b = nI x ∧ c = nI y ∧ d = nI z ∧ m = tab p w x y z
theorem det_tab {p w x y z : Nat} (hw : w < p) (hx : x < p) (hy : y < p) (hz : z < p) : det p (tab p w x y z) = ((((w * z : Nat) : Int) - ((x * y : Nat) : Int)) % (p : Int)).toNat := by
  obtain ⟨h0, h1, h2, h3⟩ := tab_dg hw hx hy hz
  unfold det
  rw [h0, h1, h2, h3]
theorem mgen_go {p ng nf w x y z : Nat} {M D C : Nat → Nat} {u : St} {Q : Int32 → St → Prop} (hC : MI p ng M nf D C u) (u0 : u 0 0 = 0) (hw : w < p) (hx : x < p) (hy : y < p) (hz : z < p) (hd : det p (tab p w x y z) ≠ 0) (h4 : ng < 4)
    (h : ∀ v, v 0 0 = 0 → MI p (ng + 1) (nxt M ng (tab p w x y z)) nf D C v → Q (nI ng) v) :
    ∀ v8 : Int32, v8 = (4 * (u 0 3)) → (vp_in v8 16 ∧ ∀ u9 : St, u9 = su u 3 v8.toNatClampNeg (nI w) → (vp_in (v8 + 1) 16 ∧ ∀ u10 : St, u10 = su u9 3 (v8 + 1).toNatClampNeg (nI x) → (vp_in (v8 + 2) 16 ∧ ∀ u11 : St, u11 = su u10 3 (v8 + 2).toNatClampNeg (nI y) → (vp_in (v8 + 3) 16 ∧ ∀ u12 : St, u12 = su u11 3 (v8 + 3).toNatClampNeg (nI z) → (∀ u13 : St, u13 = su u12 0 3 ((u12 0 3) + 1) → Q ((u13 0 3) - 1) u13))))) := by
  obtain ⟨h1, h2, h3, h4', h5, h6⟩ := hC
  intro v8 e8
  rw [h3.2, mkI] at e8
  subst e8
  rw [ad1, ad2, ad3]
  refine wrM (by omega) (by omega) (wrM (by omega) (by omega) (wrM (by omega) (by omega) (wrM (by omega) (by omega) ?_)))
  intro u13 e13
  rw [su_n _ _ _ (by decide), su_n _ _ _ (by decide), su_n _ _ _ (by decide), su_n _ _ _ (by decide), h3.2, nI_1] at e13
  have h33 : u13 0 3 = nI (ng + 1) := by rw [e13, su_kk]
  rw [h33, nI_pred]
  have cc : chg [3] [3] u u13 := by rw [e13]; exact chg_ts0 (chg_tsu (chg_tsu (chg_tsu (chg_tsu (chg_rf _ _ _) (by decide) (by decide)) (by decide) (by decide)) (by decide) (by decide)) (by decide) (by decide)) (by decide)
  have a3 : u13 3 = upd (upd (upd (upd (u 3) (4 * ng) (nI w)) (4 * ng + 1) (nI x)) (4 * ng + 2) (nI y)) (4 * ng + 3) (nI z) := by
    rw [e13, su_n _ _ _ (by decide), su_sa, sa_k, su_sa, sa_k, su_sa, sa_k, su_sa, sa_k]
  obtain ⟨d0, d1, d2, d3⟩ := tab_dg hw hx hy hz
  refine h u13 (by rw [cc.1 0 (by decide)]; exact u0) ⟨cc.mp h1 (by decide), fun g hg => ?_, ⟨by omega, h33⟩, fun g hg i hi => ?_, ⟨h5.1, by rw [cc.1 2 (by decide)]; exact h5.2⟩, fun f hf => by rw [cc.2 1 (by decide) (by decide), cc.2 2 (by decide) (by decide)]; exact h6 f hf⟩
  · unfold nxt
    by_cases e : g = ng
    · rw [if_pos e]; exact ⟨tab_lt hw hx hy hz, hd⟩
    · rw [if_neg e]; exact h2 g (by omega)
  · rw [a3]
    unfold nxt
    by_cases e : g = ng
    · subst e
      rw [if_pos rfl]
      have : i = 0 ∨ i = 1 ∨ i = 2 ∨ i = 3 := by omega
      rcases this with rfl | rfl | rfl | rfl
      · rw [show 4 * g + 0 = 4 * g from rfl, upd_ne _ _ (by omega), upd_ne _ _ (by omega), upd_ne _ _ (by omega), upd_in, d0]
      · rw [upd_ne _ _ (by omega), upd_ne _ _ (by omega), upd_in, d1]
      · rw [upd_ne _ _ (by omega), upd_in, d2]
      · rw [upd_in, d3]
    · rw [if_neg e, upd_ne _ _ (by omega), upd_ne _ _ (by omega), upd_ne _ _ (by omega), upd_ne _ _ (by omega)]
      exact h4' g (by omega) i hi
theorem mgen_ok {p ng nf : Nat} {M D C : Nat → Nat} {a b c d : Int32} {u : St} {Q : Int32 → St → Prop} (hC : MI p ng M nf D C u)
    (h1 : ∀ m v, genV p a b c d m → det p m ≠ 0 → ng < 4 → v 0 0 = 0 → MI p (ng + 1) (nxt M ng m) nf D C v → Q (nI ng) v)
    (h2 : (¬ ∃ m, genV p a b c d m ∧ det p m ≠ 0) → ∀ v, v 0 0 = 1 → MI p ng M nf D C v → Q 0 v)
    (h3 : ∀ m, genV p a b c d m → det p m ≠ 0 → ¬ ng < 4 → ∀ v, v 0 0 = 2 → MI p ng M nf D C v → Q 0 v) : f_X7_generator a b c d u Q := by
  have hp := hC.1
  have hb := isP_b hp.2
  have hng := hC.2.2.1
  unfold f_X7_generator
  refine mnum_ok hp (fun w hw ew => ⟨fun q => absurd q (by decide), fun _ => ?_⟩) (fun q => ⟨fun _ => hold1 ⟨fun c => absurd rfl c, fun _ => h2 (fun ⟨m, ⟨w, x, y, z, q1, q2, q3, q4, q5, q6, q7, q8, _⟩, _⟩ => q ⟨w, q1, q5⟩) _ (by rw [su_kk]) (hC.T 1)⟩, fun c => absurd rfl c⟩)
  refine mnum_ok hp (fun x hx ex => ⟨fun q => absurd q (by decide), fun _ => ?_⟩) (fun q => ⟨fun _ => hold1 ⟨fun c => absurd rfl c, fun _ => h2 (fun ⟨m, ⟨w, x, y, z, q1, q2, q3, q4, q5, q6, q7, q8, _⟩, _⟩ => q ⟨x, q2, q6⟩) _ (by rw [su_kk]) (hC.T 1)⟩, fun c => absurd rfl c⟩)
  refine mnum_ok hp (fun y hy ey => ⟨fun q => absurd q (by decide), fun _ => ?_⟩) (fun q => ⟨fun _ => hold1 ⟨fun c => absurd rfl c, fun _ => h2 (fun ⟨m, ⟨w, x, y, z, q1, q2, q3, q4, q5, q6, q7, q8, _⟩, _⟩ => q ⟨y, q3, q7⟩) _ (by rw [su_kk]) (hC.T 1)⟩, fun c => absurd rfl c⟩)
  refine mnum_ok hp (fun z hz ez => ⟨fun q => absurd q (by decide), fun _ => ?_⟩) (fun q => ⟨fun _ => hold1 ⟨fun c => absurd rfl c, fun _ => h2 (fun ⟨m, ⟨w, x, y, z, q1, q2, q3, q4, q5, q6, q7, q8, _⟩, _⟩ => q ⟨z, q4, q8⟩) _ (by rw [su_kk]) (hC.T 1)⟩, fun c => absurd rfl c⟩)
  have hV : genV p a b c d (tab p w x y z) := ⟨w, x, y, z, hw, hx, hy, hz, ew, ex, ey, ez, rfl⟩
  have hdt := det_tab hw hx hy hz
  have m1 : w * z ≤ 4 * 4 := Nat.mul_le_mul (by omega) (by omega)
  have m2 : x * y ≤ 4 * 4 := Nat.mul_le_mul (by omega) (by omega)
  have he := emod_b hp.2 (((w * z : Nat) : Int) - ((x * y : Nat) : Int))
  subst ew ex ey ez
  refine mmod_ok hp (z := ((w * z : Nat) : Int) - ((x * y : Nat) : Int)) (by rw [pk_mul, pk_mul, iI_n, iI_n, iI_sub]) (by omega) (by omega) ?_
  have hno : ∀ m, genV p (nI w) (nI x) (nI y) (nI z) m → m = tab p w x y z := by
    rintro m ⟨w', x', y', z', q1, q2, q3, q4, q5, q6, q7, q8, rfl⟩
    rw [(nI_eq (by omega) (by omega)).mp q5, (nI_eq (by omega) (by omega)).mp q6, (nI_eq (by omega) (by omega)).mp q7, (nI_eq (by omega) (by omega)).mp q8]
  refine ⟨fun q => ?_, fun q => hold1 ⟨fun c => absurd rfl c, fun _ => h2 ?_ _ (by rw [su_kk]) (hC.T 1)⟩⟩
  · have hd : det p (tab p w x y z) ≠ 0 := by
      rw [hdt]
      intro e
      refine q ?_
      rw [show (((w * z : Nat) : Int) - ((x * y : Nat) : Int)) % (p : Int) = 0 by omega]
      rfl
    rw [hng.2]
    refine ⟨fun q4 => ?_, fun q4 => ?_⟩
    · have h4 : ng < 4 := by
        have : ng ≠ 4 := fun e => q4 (by rw [e]; rfl)
        omega
      exact hold0 ⟨fun _ => mgen_go (hC.T 0) (by rw [su_kk]) hw hx hy hz hd h4 (fun v v0 hv => h1 _ v hV hd h4 v0 hv), fun c => absurd c (by decide)⟩
    · have h4 : ng = 4 := (nI_eq (b := 4) (by omega) (by omega)).mp q4
      exact hold2 ⟨fun c => absurd rfl c, fun _ => h3 _ hV hd (by omega) _ (by rw [su_kk]) (hC.T 2)⟩
  · rintro ⟨m, hm, hd⟩
    rw [hno m hm, hdt] at hd
    have := (iI_eq (b := 0) (by omega) (by omega) (by omega) (by omega)).mp q
    omega
theorem behind_ok {p ng nf g y : Nat} {M D C : Nat → Nat} {u : St} {Q : Int32 → St → Prop} (hC : MI p ng M nf D C u) (hg : g < ng) (hy : y < 1000000000) (h : Q (nI (mmul p y (M g))) u) : f_X7_behind (nI y) (nI g) u Q := by
  have hp := hC.1
  have hb := isP_b hp.2
  obtain ⟨⟨m0, m1, m2, m3⟩, hg4, -, -⟩ := hC.m hg
  have hl : ∀ c i, dg p c i < p := fun c i => dg_lt (by omega) c i
  unfold f_X7_behind
  refine fig_ok (i := 0) hp hy (by omega) (fig_ok (i := 1) hp hy (by omega) (fig_ok (i := 2) hp hy (by omega) (fig_ok (i := 3) hp hy (by omega) ?_)))
  intro v9 e9
  rw [mkI] at e9
  subst e9
  rw [ad1, ad2, ad3]
  refine rdM (by omega) (by omega) (rdM (by omega) (by omega) ?_)
  rw [m0, m2, pk_mul, pk_mul, nI_add]
  refine mmod_n hp rfl (sum_le hb.2 (hl _ _) (hl _ _) (hl _ _) (hl _ _)) ?_
  refine rdM (by omega) (by omega) (rdM (by omega) (by omega) ?_)
  rw [m1, m3, pk_mul, pk_mul, nI_add]
  refine mmod_n hp rfl (sum_le hb.2 (hl _ _) (hl _ _) (hl _ _) (hl _ _)) ?_
  refine rdM (by omega) (by omega) (rdM (by omega) (by omega) ?_)
  rw [m0, m2, pk_mul, pk_mul, nI_add]
  refine mmod_n hp rfl (sum_le hb.2 (hl _ _) (hl _ _) (hl _ _) (hl _ _)) ?_
  refine rdM (by omega) (by omega) (rdM (by omega) (by omega) ?_)
  rw [m1, m3, pk_mul, pk_mul, nI_add]
  refine mmod_n hp rfl (sum_le hb.2 (hl _ _) (hl _ _) (hl _ _) (hl _ _)) ?_
  rw [hp.1, tab_n]
  exact h
theorem gcode_ok {p ng nf g : Nat} {M D C : Nat → Nat} {u : St} {Q : Int32 → St → Prop} (hC : MI p ng M nf D C u) (hg : g < ng) (h : Q (nI (M g)) u) : f_X7_generatorCode (nI g) u Q := by
  have hp := hC.1
  have hb := isP_b hp.2
  obtain ⟨⟨m0, m1, m2, m3⟩, hg4, hM, -⟩ := hC.m hg
  unfold f_X7_generatorCode
  intro v1 e1
  rw [mkI] at e1
  subst e1
  rw [ad1, ad2, ad3]
  refine rdM (by omega) (by omega) (rdM (by omega) (by omega) (rdM (by omega) (by omega) (rdM (by omega) (by omega) ?_)))
  rw [m0, m1, m2, m3, hp.1, tab_n, tab_self (by omega) hM]
  exact h
/-- the reference's row of matrices and its marks -/
def MG (s : WS) (u : St) : Prop := u 0 4 = nI s.1 ∧ (∀ k, k < s.1 → u 5 k = nI (wq s k)) ∧ ∀ x, x < 625 → u 4 x = if wmB s x = true then 1 else 0
theorem joins_ok {x a g t : Nat} {s : WS} {u : St} {Q : St → Prop} (hx : x < 625) (hs : ¬ wm s x → s.1 < 480) (hG : MG s u) (h1 : wm s x → Q u) (h2 : ¬ wm s x → ∀ v, chg [4, 5] [4] u v → MG (psh s x a g t) v → Q v) : f_X7_joins (nI x) u Q := by
  obtain ⟨g1, g2, g3⟩ := hG
  unfold f_X7_joins
  refine rdM hx (by omega) ?_
  rw [g3 x hx]
  by_cases hm : wm s x
  · rw [if_pos (wmB_iff.mpr hm)]
    exact ⟨fun _ => h1 hm, fun c => absurd c (by decide)⟩
  · have hlt := hs hm
    rw [if_neg (fun q => hm (wmB_iff.mp q))]
    refine ⟨fun c => absurd rfl c, fun _ => ?_⟩
    refine wrM hx (by omega) ?_
    rw [su_n _ _ _ (by decide), g1]
    refine wrM hlt (by omega) ?_
    intro u7 e7
    subst e7
    refine h2 hm _ ?_ ?_
    · exact chg_ts0 (chg_tsu (chg_tsu (chg_rf _ _ _) (by decide) (by decide)) (by decide) (by decide)) (by decide)
    · refine ⟨?_, ?_, ?_⟩
      · rw [su_kk, su_n _ _ _ (by decide), su_n _ _ _ (by decide), g1, nI_1]; rfl
      · intro k hk
        have hk2 : k < s.1 + 1 := hk
        rw [su_n _ _ _ (by decide), su_sa, sa_k, su_n _ _ _ (by decide)]
        by_cases e : k = s.1
        · subst e
          rw [upd_in]
          unfold wq
          rw [psh_new]
        · rw [upd_ne _ _ e, g2 k (by omega)]
          unfold wq
          rw [psh_old _ _ _ _ _ (by omega)]
      · intro y hy
        rw [su_n _ _ _ (by decide), su_n _ _ _ (by decide), su_sa, sa_k]
        by_cases e : y = x
        · subst e
          rw [upd_in, if_pos (wmB_psh.mpr (Or.inr rfl))]; rfl
        · rw [upd_ne _ _ e, g3 y hy]
          by_cases q : wmB s y = true
          · rw [if_pos q, if_pos (wmB_psh.mpr (Or.inl q))]
          · rw [if_neg q, if_neg (fun q2 => (wmB_psh.mp q2).elim q e)]
theorem gathers_ok {p ng nf : Nat} {M D C : Nat → Nat} {u : St} {Q : St → Prop} (hC : MI p ng M nf D C u)
    (h : ∀ v l n, chg [4, 5] [4] u v → GL p ng M l n → n ≤ 480 → v 0 4 = nI n → (∀ k, k < n → v 5 k = nI (l k)) → Q v) : f_X7_gathers u Q := by
  have hC' := hC
  obtain ⟨hp, hM, hng, -⟩ := hC
  have hb := isP_b hp.2
  have h625 := p4_625 hp.2
  obtain ⟨K, hK⟩ := G_stop hp.2 hM
  have hKm := stop_m hK
  have hK480 : K ≤ 480 := by rw [← hKm]; exact G_480 hp.2 hM (wout_WI _ _ _ _)
  have w1 : ∀ {v : St}, chg [4, 5] [4] u v → chg MA MB u v := fun c => c.wk (by decide) (by decide)
  unfold f_X7_gathers
  refine loopU (S := St) (fun n i s => f_X7_gathers_L2 Q _ n i s) 625 (fun i s => chg [4, 5] [4] u s ∧ ∀ x, x < i → s 4 x = 0) ?_ ?_ 0 (Nat.zero_le _) u ⟨chg_rf _ _ _, fun x hx => absurd hx (Nat.not_lt_zero _)⟩
  · rintro n i s hi ⟨c1, c2⟩ kk
    show f_X7_gathers_L2_s _ _ _ _ _
    unfold f_X7_gathers_L2_s
    refine ⟨fun c => absurd (show nI 625 ≤ nI i from c) (nI_ge hi (by omega)), fun _ => wrM hi (by omega) ?_⟩
    intro v3 e3
    rw [nI_1] at e3
    subst e3
    refine kk _ ⟨chg_tsu c1 (by decide) (by decide), fun x hx => ?_⟩
    rw [su_sa, sa_k]
    by_cases e : x = i
    · subst e; rw [upd_in]; rfl
    · rw [upd_ne _ _ e]; exact c2 x (by omega)
  · rintro n s ⟨c1, c2⟩
    show f_X7_gathers_L2_s _ _ _ _ _
    unfold f_X7_gathers_L2_s
    refine ⟨fun _ => ?_, fun c => absurd (nI_le (Nat.le_refl 625) (by omega)) c⟩
    intro u2 e2
    have cu2 : chg [4, 5] [4] u u2 := by rw [e2]; exact chg_ts0 c1 (by decide)
    have h1lt : one p < 625 := Nat.lt_of_lt_of_le (one_lt hp.2) h625
    have hG0 : MG (0, fun _ => (0, 0, 0, 0)) u2 := by
      refine ⟨by rw [e2, su_kk]; rfl, fun k hk => absurd hk (Nat.not_lt_zero _), fun x hx => ?_⟩
      rw [e2, su_n _ _ _ (by decide), c2 x hx, if_neg (by simp [wmB])]
    rw [(cu2.mp hp (by decide)).1]
    have e1 : (1 : Int32) + nI p * nI p * nI p = nI (one p) := by
      rw [show (1 : Int32) = nI 1 from rfl, pk_mul, pk_mul, nI_add]
      congr 1
      unfold one tab
      grind
    rw [e1]
    refine joins_ok (x := one p) (a := 0) (g := 0) (t := 0) h1lt (fun _ => by decide) hG0 (fun c => by obtain ⟨k, hk, _⟩ := c; exact absurd hk (Nat.not_lt_zero _)) ?_
    intro _ u5 c5 hG5
    have hz : MG (wout (fG p M) ng (one p) 0) u5 := by
      obtain ⟨a1, a2, a3⟩ := hG5
      refine ⟨a1, fun k hk => ?_, fun x hx => ?_⟩
      · have hk2 : k < 1 := hk
        have : k = 0 := by omega
        subst this
        exact a2 0 (Nat.one_pos)
      · rw [a3 x hx]
        have : wmB (psh (0, fun _ => (0, 0, 0, 0)) (one p) 0 0 0) x = wmB (wout (fG p M) ng (one p) 0) x := by
          simp [wmB, psh, wout, wz, wq]
        rw [this]
    refine loopU (S := St) (fun n i s => f_X7_gathers_L49 Q (fun u21 => Q u21) n i s) K (fun i s => chg [4, 5] [4] u s ∧ MG (wout (fG p M) ng (one p) i) s) ?_ ?_ 0 (Nat.zero_le _) u5 ⟨cu2.tr c5, hz⟩
    · rintro n i s hi ⟨d1, d2⟩ kk
      show f_X7_gathers_L49_s _ _ _ _ _
      unfold f_X7_gathers_L49_s
      have him := hK.2 i hi
      have hm480 := G_480 hp.2 hM (wout_WI (fG p M) ng (one p) i)
      rw [d2.1]
      refine ⟨fun c => absurd c (nI_ge him (by omega)), fun _ => ?_⟩
      refine loopU (S := St) (fun n' g s' => f_X7_gathers_L59 (nI i) Q _ n' g s') ng (fun g s' => chg [4, 5] [4] u s' ∧ MG (win (fG p M) (wout (fG p M) ng (one p) i) i g) s') ?_ ?_ 0 (Nat.zero_le _) s ⟨d1, d2⟩
      · rintro n' g s' hg ⟨b1, b2⟩ kk2
        show f_X7_gathers_L59_s _ _ _ _ _ _
        unfold f_X7_gathers_L59_s
        have hCs := hC'.chg (w1 b1)
        have hWI := win_WI (wout_WI (fG p M) ng (one p) i) him g (by omega)
        have hpre := (win_pre (fG p M) (wout (fG p M) ng (one p) i) i g).1
        have hall := G_all hp.2 hM hWI i (by omega)
        have h480 := G_480 hp.2 hM hWI
        rw [hCs.2.2.1.2]
        refine ⟨fun c => absurd c (nI_ge hg (by omega)), fun _ => rdM (by omega) (by omega) ?_⟩
        rw [b2.2.1 i (by omega)]
        refine behind_ok hCs hg (by omega) ?_
        have hmm : mmul p (wq (win (fG p M) (wout (fG p M) ng (one p) i) i g) i) (M g) = fG p M g (wq (win (fG p M) (wout (fG p M) ng (one p) i) i g) i) := rfl
        have hlt := mmul_lt (show 0 < p by omega) (wq (win (fG p M) (wout (fG p M) ng (one p) i) i g) i) (M g)
        rw [hmm] at hlt ⊢
        refine joins_ok (a := i) (g := g) (t := wt (win (fG p M) (wout (fG p M) ng (one p) i) i g) i + 1) (by omega) (fun hno => ?_) b2 (fun hin => ?_) (fun hno v cv gv => ?_)
        · have := G_480 hp.2 hM (WI_psh hWI (by omega) hg hno)
          have h3 : (psh (win (fG p M) (wout (fG p M) ng (one p) i) i g) (fG p M g (wq (win (fG p M) (wout (fG p M) ng (one p) i) i g) i)) i g (wt (win (fG p M) (wout (fG p M) ng (one p) i) i g) i + 1)).1 = (win (fG p M) (wout (fG p M) ng (one p) i) i g).1 + 1 := rfl
          omega
        · intro v16 e16
          rw [nI_1] at e16
          subst e16
          refine kk2 _ ⟨b1, ?_⟩
          show MG (wst (fG p M) (win (fG p M) (wout (fG p M) ng (one p) i) i g) i g) s'
          rw [wst_in hin]; exact b2
        · intro v16 e16
          rw [nI_1] at e16
          subst e16
          refine kk2 _ ⟨b1.tr cv, ?_⟩
          show MG (wst (fG p M) (win (fG p M) (wout (fG p M) ng (one p) i) i g) i g) v
          rw [wst_no hno]; exact gv
      · rintro n' s' ⟨b1, b2⟩
        show f_X7_gathers_L59_s _ _ _ _ _ _
        unfold f_X7_gathers_L59_s
        have hCs := hC'.chg (w1 b1)
        rw [hCs.2.2.1.2]
        refine ⟨fun _ v19 e19 => ?_, fun c => absurd (nI_le (Nat.le_refl _) (by omega)) c⟩
        rw [nI_1] at e19
        subst e19
        refine kk _ ⟨b1, ?_⟩
        rw [wout_s _ _ _ _ him]; exact b2
    · rintro n s ⟨d1, d2⟩
      show f_X7_gathers_L49_s _ _ _ _ _
      unfold f_X7_gathers_L49_s
      rw [d2.1, hKm]
      refine ⟨fun _ => h s _ K d1 (G_GL hp.2 hM hK) hK480 (by rw [d2.1, hKm]) (fun k hk => d2.2.1 k (by omega)), fun c => absurd (nI_le (Nat.le_refl _) (by omega)) c⟩
theorem morder_ok {p ng nf : Nat} {M D C : Nat → Nat} {u : St} {Q : Int32 → St → Prop} (hC : MI p ng M nf D C u) (h : ∀ l n v, GL p ng M l n → MI p ng M nf D C v → Q (nI n) v) : f_X7_order u Q := by
  unfold f_X7_order
  intro u1 e1
  subst e1
  refine gathers_ok (hC.T 0) ?_
  intro v l n cv gl _ v4 _
  rw [v4]
  exact h l n v gl ((hC.T 0).chg (cv.wk (by decide) (by decide)))
