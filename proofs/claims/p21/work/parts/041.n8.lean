/-! the class's group -/
theorem chg_tsu {A B : List Nat} {u v : St} {k i : Nat} {x : Int32} (h : chg A B u v) (hk : k ∈ A) (h0 : k ≠ 0) : chg A B u (su v k i x) := by
  rw [su_sa]; exact h.tr (chg_sa hk h0)
theorem chg_tsa {A B : List Nat} {u v : St} {k : Nat} {f : Nat → Int32} (h : chg A B u v) (hk : k ∈ A) (h0 : k ≠ 0) : chg A B u (sa v k f) := h.tr (chg_sa hk h0)
theorem chg_ts0 {A B : List Nat} {u v : St} {i : Nat} {x : Int32} (h : chg A B u v) (hk : i ∈ B) : chg A B u (su v 0 i x) := h.tr (chg_su0 hk)
theorem pick_ok {al g ng : Nat} {u : St} {Q : Option Nat → St → Prop} (hg : g < ng) (h4 : ng ≤ 4) (hal : g < al) (hu : u 0 4 = nI ng) (h : Q (some g) u) : f_X4_pick al (nI g) u Q := by
  unfold f_X4_pick
  rw [hu]
  refine ⟨fun c => absurd c (nI_pos (by omega)), fun _ => ⟨fun c => absurd c (nI_ge hg (by omega)), fun _ => ⟨fun c => absurd (show nI 4 ≤ nI g from c) (nI_ge (by omega) (by omega)), fun _ => ⟨vp_in_nI (by omega) (by omega), ?_⟩⟩⟩⟩
  rw [nI_clamp (by omega), if_pos hal]
  exact h
theorem gmat_ok {al g ng : Nat} {u : St} {Q : Int32 → St → Prop} (hg : g < ng) (h4 : ng ≤ 4) (hal : g < al) (hu : u 0 4 = nI ng) (h : Q (u 0 (8 + g)) u) : f_X4_generatorMatrix al (nI g) u Q := by
  unfold f_X4_generatorMatrix
  refine pick_ok hg h4 hal hu ⟨fun c => by simp at c, ?_⟩
  intro j hj e
  have : g = j := Option.some.inj e
  subst this
  exact h
theorem image_ok {al g ng p m n c : Nat} {u : St} {Q : Int32 → St → Prop} (hp : isP p) (hg : g < ng) (h4 : ng ≤ 4) (hal : g < al) (hu : u 0 4 = nI ng) (h1 : 1 ≤ n) (hn : n ≤ 4) (hc : c < p ^ (n + 1)) (him : gimg p m (u (23 + 2 * g))) (h : Q (nI (act p m n c)) u) : f_X4_image al (nI g) (nI n) (nI c) u Q := by
  unfold f_X4_image
  refine pick_ok hg h4 hal hu ⟨fun c => by simp at c, ?_⟩
  intro j hj e
  have : g = j := Option.some.inj e
  subst this
  exact gimage_ok hp h1 hn hc him h
/-- the row of matrices and the marks of those found -/
def GR (s : WS) (u : St) : Prop := u 0 5 = nI s.1 ∧ (∀ k, k < s.1 → u 15 k = nI (wq s k)) ∧ ∀ x, x < 625 → u 16 x = if wmB s x = true then 1 else 0
theorem wmB_psh {s : WS} {x a g t y : Nat} : wmB (psh s x a g t) y = true ↔ wmB s y = true ∨ y = x := by
  rw [wmB_iff, wmB_iff]
  constructor
  · rintro ⟨k, hk, e⟩
    have hk2 : k < s.1 + 1 := hk
    by_cases q : k = s.1
    · subst q
      unfold wq at e
      rw [psh_new] at e
      exact Or.inr e.symm
    · unfold wq at e
      rw [psh_old _ _ _ _ _ (by omega)] at e
      exact Or.inl ⟨k, by omega, e⟩
  · rintro (⟨k, hk, e⟩ | rfl)
    · exact (psh_pre s x a g t).km ⟨k, hk, e⟩
    · exact ⟨s.1, Nat.lt_succ_self _, by unfold wq; rw [psh_new]⟩
theorem find_ok {al x a g t : Nat} {s : WS} {u : St} {Q : St → Prop} (hx : x < 625) (hs : ¬ wm s x → s.1 < 480) (hG : GR s u) (h1 : wm s x → Q u) (h2 : ¬ wm s x → ∀ v, chg [15, 16] [5] u v → GR (psh s x a g t) v → Q v) : f_X4_find al (nI x) u Q := by
  obtain ⟨g1, g2, g3⟩ := hG
  unfold f_X4_find
  refine read_ok (by exact hx) ?_
  rw [g3 x hx]
  by_cases hm : wm s x
  · rw [if_pos (wmB_iff.mpr hm)]
    exact ⟨fun _ => h1 hm, fun c => absurd c (by decide)⟩
  · have hlt := hs hm
    rw [if_neg (fun q => hm (wmB_iff.mp q))]
    refine ⟨fun c => absurd rfl c, fun _ => ?_⟩
    rw [g1]
    refine ⟨fun c => absurd (show nI 480 ≤ nI s.1 from c) (nI_ge hlt (by omega)), fun _ => ?_⟩
    refine write_ok (by exact hx) ?_
    rw [su_n _ _ _ (by decide), g1]
    refine write_ok (by exact hlt) ?_
    intro u7 e7
    subst e7
    refine h2 hm _ ?_ ?_
    · exact chg_ts0 (chg_tsu (chg_tsu (chg_rf _ _ _) (by decide) (by decide)) (by decide) (by decide)) (by decide)
    · refine ⟨?_, ?_, ?_⟩
      · rw [su_kk, su_n _ _ _ (by decide), su_n _ _ _ (by decide), g1, nI_1]; rfl
      · intro k hk
        have hk2 : k < s.1 + 1 := hk
        rw [su_n _ _ _ (by decide), su_sa, sa_k, su_n _ _ _ (by decide)]
        by_cases e : k = s.1
        · subst e
          rw [upd_in]
          unfold wq
          rw [psh_new]
        · rw [upd_ne _ _ e, g2 k (by omega)]
          unfold wq
          rw [psh_old _ _ _ _ _ (by omega)]
      · intro y hy
        rw [su_n _ _ _ (by decide), su_n _ _ _ (by decide), su_sa, sa_k]
        by_cases e : y = x
        · subst e
          rw [upd_in, if_pos (wmB_psh.mpr (Or.inr rfl))]
        · rw [upd_ne _ _ e, g3 y hy]
          by_cases q : wmB s y = true
          · rw [if_pos q, if_pos (wmB_psh.mpr (Or.inl q))]
          · rw [if_neg q, if_neg (fun q2 => (wmB_psh.mp q2).elim q e)]
theorem p4_625 {p : Nat} (hp : isP p) : p ^ 4 ≤ 625 := by rcases hp with rfl | rfl | rfl <;> decide
/-- what a row of generators is in a state of the class -/
def GM (al ng : Nat) (M : Nat → Nat) (u : St) : Prop := ng ≤ 4 ∧ ng ≤ al ∧ u 0 4 = nI ng ∧ ∀ g, g < ng → u 0 (8 + g) = nI (M g)
theorem GM.chg {al ng : Nat} {M : Nat → Nat} {u v : St} {A B : List Nat} (h : GM al ng M u) (c : chg A B u v) (hB : ∀ j, j ∈ B → j ≠ 4 ∧ (j < 8 ∨ 12 ≤ j)) : GM al ng M v := by
  obtain ⟨h1, h2, h3, h4⟩ := h
  refine ⟨h1, h2, ?_, fun g hg => ?_⟩
  · rw [c.1 4 (fun q => (hB 4 q).1 rfl)]; exact h3
  · rw [c.1 (8 + g) (fun q => by have := (hB _ q).2; omega)]; exact h4 g hg
theorem one_4 (p : Nat) : f_X2_table 0 1 0 0 1 = f_X2_table 0 (nI 1) (nI 0) (nI 0) (nI 1) := rfl
theorem close_ok {al p ng : Nat} {M : Nat → Nat} {u : St} {Q : St → Prop} (hp : PP u p) (hM : gensOk p ng M) (hG : GM al ng M u)
    (h : ∀ v l n, chg [15, 16] [5] u v → GL p ng M l n → n ≤ 480 → v 0 5 = nI n → (∀ k, k < n → v 15 k = nI (l k)) → Q v) : f_X4_close al u Q := by
  have hb := isP_b hp.2
  have h625 := p4_625 hp.2
  obtain ⟨K, hK⟩ := G_stop hp.2 hM
  have hKm := stop_m hK
  have hK480 : K ≤ 480 := by rw [← hKm]; exact G_480 hp.2 hM (wout_WI _ _ _ _)
  unfold f_X4_close
  refine fill_ok ?_
  intro u2 e2
  have c2 : chg [15, 16] [5] u u2 := by rw [e2]; exact chg_ts0 (chg_tsa (chg_rf _ _ _) (by decide) (by decide)) (by decide)
  refine table_ok (a := 1) (b := 0) (c := 0) (d := 1) (c2.pp hp (by decide)) ?_
  have h1lt : one p < 625 := Nat.lt_of_lt_of_le (one_lt hp.2) h625
  have hG0 : GR (0, fun _ => (0, 0, 0, 0)) u2 := by
    refine ⟨by rw [e2, su_kk]; rfl, fun k hk => absurd hk (Nat.not_lt_zero _), fun x hx => ?_⟩
    rw [e2, su_n _ _ _ (by decide), sa_k, if_pos (by exact hx), if_neg (by simp [wmB])]
  refine find_ok (x := one p) (a := 0) (g := 0) (t := 0) h1lt (fun _ => by decide) hG0 (fun c => by obtain ⟨k, hk, _⟩ := c; exact absurd hk (Nat.not_lt_zero _)) ?_
  intro _ u5 c5 hG5
  have hz : GR (wout (fG p M) ng (one p) 0) u5 := by
    obtain ⟨a1, a2, a3⟩ := hG5
    refine ⟨a1, fun k hk => ?_, fun x hx => ?_⟩
    · have hk2 : k < 1 := hk
      have : k = 0 := by omega
      subst this
      exact a2 0 (Nat.one_pos)
    · rw [a3 x hx]
      have : wmB (psh (0, fun _ => (0, 0, 0, 0)) (one p) 0 0 0) x = wmB (wout (fG p M) ng (one p) 0) x := by
        simp [wmB, psh, wout, wz, wq]
      rw [this]
  have c52 := c2.tr c5
  refine loopU (S := St) (fun n i s => f_X4_close_L30 al Q (fun u21 => Q u21) n i s) K (fun i s => chg [15, 16] [5] u s ∧ GR (wout (fG p M) ng (one p) i) s) ?_ ?_ 0 (Nat.zero_le _) u5 ⟨c52, hz⟩
  · rintro n i s hi ⟨d1, d2⟩ kk
    show f_X4_close_L30_s _ _ _ _ _ _
    unfold f_X4_close_L30_s
    have him := hK.2 i hi
    have hm480 := G_480 hp.2 hM (wout_WI (fG p M) ng (one p) i)
    rw [d2.1]
    refine ⟨fun c => absurd c (nI_ge him (by omega)), fun _ => ⟨fun c => absurd (show nI 480 ≤ nI i from c) (nI_ge (by omega) (by omega)), fun _ => ?_⟩⟩
    refine loopU (S := St) (fun n' g s' => f_X4_close_L47 al (nI i) Q _ n' g s') ng (fun g s' => chg [15, 16] [5] u s' ∧ GR (win (fG p M) (wout (fG p M) ng (one p) i) i g) s') ?_ ?_ 0 (Nat.zero_le _) s ⟨d1, d2⟩
    · rintro n' g s' hg ⟨b1, b2⟩ kk2
      show f_X4_close_L47_s _ _ _ _ _ _ _
      unfold f_X4_close_L47_s
      have hGM : GM al ng M s' := hG.chg b1 (by decide)
      have hWI := win_WI (wout_WI (fG p M) ng (one p) i) him g (by omega)
      have hpre := (win_pre (fG p M) (wout (fG p M) ng (one p) i) i g).1
      have hall := G_all hp.2 hM hWI i (by omega)
      have h480 := G_480 hp.2 hM hWI
      rw [hGM.2.2.1]
      refine ⟨fun c => absurd c (nI_ge hg (by have := hGM.1; omega)), fun _ => ?_⟩
      unfold f_X4_matrix
      refine read_ok (by exact (by omega : i < 480)) ?_
      rw [b2.2.1 i (by omega)]
      refine gmat_ok hg hGM.1 (by have := hGM.2.1; omega) hGM.2.2.1 ?_
      rw [hGM.2.2.2 g hg]
      refine product_ok (b1.pp hp (by decide)) (by omega) (by have := (hM g hg).1; omega) ?_
      have hmm : mmul p (wq (win (fG p M) (wout (fG p M) ng (one p) i) i g) i) (M g) = fG p M g (wq (win (fG p M) (wout (fG p M) ng (one p) i) i g) i) := rfl
      have hlt := mmul_lt (show 0 < p by omega) (wq (win (fG p M) (wout (fG p M) ng (one p) i) i g) i) (M g)
      rw [hmm] at hlt ⊢
      refine find_ok (a := i) (g := g) (t := wt (win (fG p M) (wout (fG p M) ng (one p) i) i g) i + 1) (by omega) (fun hno => ?_) b2 (fun hin => ?_) (fun hno v cv gv => ?_)
      · have := G_480 hp.2 hM (WI_psh hWI (by omega) hg hno)
        have h3 : (psh (win (fG p M) (wout (fG p M) ng (one p) i) i g) (fG p M g (wq (win (fG p M) (wout (fG p M) ng (one p) i) i g) i)) i g (wt (win (fG p M) (wout (fG p M) ng (one p) i) i g) i + 1)).1 = (win (fG p M) (wout (fG p M) ng (one p) i) i g).1 + 1 := rfl
        omega
      · intro v16 e16
        rw [nI_1] at e16
        subst e16
        refine kk2 _ ⟨b1, ?_⟩
        show GR (wst (fG p M) (win (fG p M) (wout (fG p M) ng (one p) i) i g) i g) s'
        rw [wst_in hin]; exact b2
      · intro v16 e16
        rw [nI_1] at e16
        subst e16
        refine kk2 _ ⟨b1.tr cv, ?_⟩
        show GR (wst (fG p M) (win (fG p M) (wout (fG p M) ng (one p) i) i g) i g) v
        rw [wst_no hno]; exact gv
    · rintro n' s' ⟨b1, b2⟩
      show f_X4_close_L47_s _ _ _ _ _ _ _
      unfold f_X4_close_L47_s
      have hGM : GM al ng M s' := hG.chg b1 (by decide)
      rw [hGM.2.2.1]
      refine ⟨fun _ v19 e19 => ?_, fun c => absurd (nI_le (Nat.le_refl _) (by have := hGM.1; omega)) c⟩
      subst e19
      rw [nI_1]
      refine kk _ ⟨b1, ?_⟩
      rw [wout_s _ _ _ _ him]; exact b2
  · rintro n s ⟨d1, d2⟩
    show f_X4_close_L30_s _ _ _ _ _ _
    unfold f_X4_close_L30_s
    rw [d2.1, hKm]
    refine ⟨fun _ => h s _ K d1 (G_GL hp.2 hM hK) hK480 (by rw [d2.1, hKm]) (fun k hk => d2.2.1 k (by omega)), fun c => absurd (nI_le (Nat.le_refl _) (by omega)) c⟩
theorem forget_ok {al p : Nat} {u : St} {Q : St → Prop} (hp : PP u p)
    (h : ∀ v l n, chg [15, 16] [4, 5] u v → v 0 4 = nI 0 → (∀ M, GL p 0 M l n) → n ≤ 480 → v 0 5 = nI n → (∀ k, k < n → v 15 k = nI (l k)) → Q v) : f_X4_forget al u Q := by
  unfold f_X4_forget
  intro u1 e1
  subst e1
  refine close_ok (M := fun _ => 0) (ng := 0) (hp.su0 (by decide)) (fun g hg => absurd hg (Nat.not_lt_zero _)) ⟨by omega, by omega, by rw [su_kk]; rfl, fun g hg => absurd hg (Nat.not_lt_zero _)⟩ ?_
  intro v l n c1 c2 c3 c4 c5
  refine h v l n ((chg_su0 (by decide)).tr (c1.wk (by simp) (by simp))) (by rw [c1.1 4 (by decide), su_kk]; rfl) (fun M => ?_) c3 c4 c5
  obtain ⟨g1, g2, g3, g4, g5, g6⟩ := c2
  exact ⟨g1, g2, g3, g4, fun i hi g hg => absurd hg (Nat.not_lt_zero _), fun i hi => fun S h1 h2 => g6 i hi S h1 (fun y hy g hg => absurd hg (Nat.not_lt_zero _))⟩
/-- the images of the generators -/
def GI (p ng : Nat) (M : Nat → Nat) (u : St) : Prop := ∀ g, g < ng → gimg p (M g) (u (23 + 2 * g))
/-- whether all generators leave a code -/
def lvs (p ng d : Nat) (M : Nat → Nat) (c : Nat) : Bool := decide (∀ g, g < ng → act p (M g) d c = c)
theorem leaves_ok {al p ng d c : Nat} {M : Nat → Nat} {u : St} {Q : Int32 → St → Prop} (hp : isP p) (hG : GM al ng M u) (hI : GI p ng M u) (h1 : 1 ≤ d) (hd : d ≤ 4) (hc : c < p ^ (d + 1)) (h : Q (if lvs p ng d M c = true then 1 else 0) u) : f_X4_leaves al (nI d) (nI c) u Q := by
  have hpb := pow_b hp (n := d + 1) (by omega)
  obtain ⟨q1, q2, q3, q4⟩ := hG
  unfold f_X4_leaves
  refine loopU (S := St) (fun n i s => f_X4_leaves_L2 al (nI d) (nI c) Q (fun u7 => Q 0 u7) (fun u8 => Q 1 u8) n i s) ng (fun i s => s = u ∧ ∀ g, g < i → act p (M g) d c = c) ?_ ?_ 0 (Nat.zero_le _) u ⟨rfl, fun g hg => absurd hg (Nat.not_lt_zero _)⟩
  · rintro n i s hi ⟨rfl, hz⟩ kk
    show f_X4_leaves_L2_s _ _ _ _ _ _ _ _ _
    unfold f_X4_leaves_L2_s
    rw [q3]
    refine ⟨fun c => absurd c (nI_ge hi (by omega)), fun _ => ?_⟩
    refine image_ok hp hi q1 (by omega) q3 h1 hd hc (hI i hi) ?_
    have hlt := act_lt (p := p) (m := M i) (n := d) (c := c) hp hd
    refine ⟨fun e v5 e5 => ?_, fun e => ?_⟩
    · subst e5
      rw [nI_1]
      have := (nI_eq (by omega) (by omega)).mp e
      refine kk _ ⟨rfl, fun g hg => ?_⟩
      by_cases q : g = i
      · rw [q]; exact this
      · exact hz g (by omega)
    · have : lvs p ng d M c = false := by
        unfold lvs
        rw [decide_eq_false_iff_not]
        intro q
        exact e (by rw [q i hi])
      rw [this] at h
      exact h
  · rintro n s ⟨rfl, hz⟩
    show f_X4_leaves_L2_s _ _ _ _ _ _ _ _ _
    unfold f_X4_leaves_L2_s
    rw [q3]
    refine ⟨fun _ => ?_, fun c => absurd (nI_le (Nat.le_refl _) (by omega)) c⟩
    have : lvs p ng d M c = true := by
      unfold lvs
      rw [decide_eq_true_iff]
      exact hz
    rw [this] at h
    exact h
