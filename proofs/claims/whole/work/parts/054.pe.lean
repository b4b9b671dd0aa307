/-! the reference's walk -/
def MR (N : Nat) (s : WS) (u : St) : Prop :=
  u 0 6 = nI s.1 ∧ (∀ k, k < s.1 → u 15 k = nI (wq s k) ∧ u 14 (wq s k) = nI (wt s k)) ∧ (∀ k, 0 < k → k < s.1 → u 12 (wq s k) = nI (wg s k) ∧ u 13 (wq s k) = nI (wq s (wf s k))) ∧ ∀ x, x < N → ¬ wm s x → u 14 x = -1
theorem nI_nm1 {n : Nat} (h : n < 1000000000) : ¬ nI n = -1 := by
  rw [iI_n, show (-1 : Int32) = iI (-1) from rfl]
  intro q
  have := (iI_eq (by omega) (by omega) (by omega) (by omega)).mp q
  omega
theorem goesOn_ok {p ng nf d c K : Nat} {M D C : Nat → Nat} {u : St} {Q : St → Prop} (hC : MI p ng M nf D C u) (hd : d ≤ 4) (hc : c < p ^ (d + 1)) (hK : stopAt (fO p d M) ng c K)
    (h : ∀ v, chg [6, 8, 12, 13, 14, 15] [6] u v → MR (p ^ (d + 1)) (wout (fO p d M) ng c K) v → Q v) : f_X7_goesOn (nI c) (nI d) u Q := by
  have hp := hC.1
  have hM := hC.2.1
  have hb := isP_b hp.2
  have hpb := pow_b hp.2 (n := d + 1) (by omega)
  have hKm := stop_m hK
  have hK480 : K ≤ 480 := by rw [← hKm]; exact O_480 hp.2 hd hc hM (wout_WI _ _ _ _)
  have w1 : ∀ {v : St}, chg [6, 8, 12, 13, 14, 15] [6] u v → chg MA MB u v := fun c => c.wk (by decide) (by decide)
  unfold f_X7_goesOn
  refine loopU (S := St) (fun n i s => f_X7_goesOn_L2 (nI c) (nI d) Q _ n i s) (p ^ (d + 1)) (fun i s => chg [6, 8, 12, 13, 14, 15] [6] u s ∧ ∀ x, x < i → s 14 x = -1) ?_ ?_ 0 (Nat.zero_le _) u ⟨chg_rf _ _ _, fun x hx => absurd hx (Nat.not_lt_zero _)⟩
  · rintro n i s hi ⟨c1, c2⟩ kk
    show f_X7_goesOn_L2_s _ _ _ _ _ _ _
    unfold f_X7_goesOn_L2_s
    rw [nI_1]
    refine mpow_ok (c1.mp hp (by decide)) (by omega) ⟨fun c => absurd c (nI_ge hi (by omega)), fun _ => wrM (by omega) (by omega) ?_⟩
    intro v5 e5
    rw [nI_1] at e5
    subst e5
    refine kk _ ⟨chg_tsu c1 (by decide) (by decide), fun x hx => ?_⟩
    rw [su_sa, sa_k]
    by_cases e : x = i
    · subst e; rw [upd_in]
    · rw [upd_ne _ _ e]; exact c2 x (by omega)
  · rintro n s ⟨c1, c2⟩
    show f_X7_goesOn_L2_s _ _ _ _ _ _ _
    unfold f_X7_goesOn_L2_s
    rw [nI_1]
    refine mpow_ok (c1.mp hp (by decide)) (by omega) ⟨fun _ => ?_, fun c => absurd (nI_le (Nat.le_refl _) (by omega)) c⟩
    refine wrM (by omega) (by omega) (wrM (i := 0) (by omega) (by omega) ?_)
    intro u10 e10
    have c10 : chg [6, 8, 12, 13, 14, 15] [6] u u10 := by rw [e10]; exact chg_ts0 (chg_tsu (chg_tsu c1 (by decide) (by decide)) (by decide) (by decide)) (by decide)
    have a14 : u10 14 = upd (s 14) c 0 := by rw [e10, su_n _ _ _ (by decide), su_n _ _ _ (by decide), su_sa, sa_k]
    have a15 : u10 15 = upd (s 15) 0 (nI c) := by rw [e10, su_n _ _ _ (by decide), su_sa, sa_k, su_n _ _ _ (by decide)]
    have hk0 : ∀ k, k < (wout (fO p d M) ng c 0).1 → k = 0 := fun k hk => by
      have : k < 1 := hk
      omega
    have hz : MR (p ^ (d + 1)) (wout (fO p d M) ng c 0) u10 := by
      refine ⟨by rw [e10, su_kk]; rfl, fun k hk => ?_, fun k h0 hk => ?_, fun x hx hno => ?_⟩
      · rw [hk0 k hk, a14, a15, upd_in]
        refine ⟨rfl, ?_⟩
        show upd (s 14) c 0 c = nI 0
        rw [upd_in]; rfl
      · have := hk0 k hk
        omega
      · have : x ≠ c := fun e => hno ⟨0, Nat.one_pos, e.symm⟩
        rw [a14, upd_ne _ _ this]; exact c2 x hx
    refine loopU (S := St) (fun n i s => f_X7_goesOn_L47 (nI d) Q (fun u35 => Q u35) n i s) K (fun i s => chg [6, 8, 12, 13, 14, 15] [6] u s ∧ MR (p ^ (d + 1)) (wout (fO p d M) ng c i) s) ?_ ?_ 0 (Nat.zero_le _) u10 ⟨c10, hz⟩
    · rintro n i s hi ⟨d1, d2⟩ kk
      show f_X7_goesOn_L47_s _ _ _ _ _ _
      unfold f_X7_goesOn_L47_s
      have him := hK.2 i hi
      have hm480 := O_480 hp.2 hd hc hM (wout_WI (fO p d M) ng c i)
      rw [d2.1]
      refine ⟨fun c => absurd c (nI_ge him (by omega)), fun _ => ?_⟩
      refine loopU (S := St) (fun n' g s' => f_X7_goesOn_L58 (nI d) (nI i) Q _ n' g s') ng (fun g s' => chg [6, 8, 12, 13, 14, 15] [6] u s' ∧ MR (p ^ (d + 1)) (win (fO p d M) (wout (fO p d M) ng c i) i g) s') ?_ ?_ 0 (Nat.zero_le _) s ⟨d1, d2⟩
      · rintro n' g s' hg ⟨b1, b2⟩ kk2
        show f_X7_goesOn_L58_s _ _ _ _ _ _ _
        unfold f_X7_goesOn_L58_s
        have hCs := hC.chg (w1 b1)
        have hng := hCs.2.2.1
        have hWI := win_WI (wout_WI (fO p d M) ng c i) him g (by omega)
        have hpre := win_pre (fO p d M) (wout (fO p d M) ng c i) i g
        have hple := hpre.1
        have h480 := O_480 hp.2 hd hc hM hWI
        obtain ⟨-, hg4, -, h625⟩ := hCs.m hg
        rw [hng.2]
        refine ⟨fun c => absurd c (nI_ge hg (by omega)), fun _ => gcode_ok hCs hg (learns_ok hCs.1 (by omega) hd ?_)⟩
        intro w cw wcol
        have cw2 : chg [6, 8, 12, 13, 14, 15] [6] u w := b1.tr (cw.wk (by decide) (by decide))
        have bw : MR (p ^ (d + 1)) (win (fO p d M) (wout (fO p d M) ng c i) i g) w := by
          obtain ⟨x1, x2, x3, x4⟩ := b2
          refine ⟨by rw [cw.1 6 (by decide)]; exact x1, fun k hk => ?_, fun k h0 hk => ?_, fun x hx hno => ?_⟩
          · rw [cw.2 15 (by decide) (by decide), cw.2 14 (by decide) (by decide)]; exact x2 k hk
          · rw [cw.2 12 (by decide) (by decide), cw.2 13 (by decide) (by decide)]; exact x3 k h0 hk
          · rw [cw.2 14 (by decide) (by decide)]; exact x4 x hx hno
        have hqi := O_lt hp.2 hd hc hWI i (by omega)
        refine rdM (by omega) (by omega) ?_
        rw [(bw.2.1 i (by omega)).1]
        refine made_ok (cw2.mp hp (by decide)) hd (by omega) wcol ?_
        have hfo : act p (M g) d (wq (win (fO p d M) (wout (fO p d M) ng c i) i g) i) = fO p d M g (wq (win (fO p d M) (wout (fO p d M) ng c i) i g) i) := rfl
        have hal := act_lt (p := p) (m := M g) (n := d) (c := wq (win (fO p d M) (wout (fO p d M) ng c i) i g) i) hp.2 hd
        rw [hfo] at hal ⊢
        refine rdM (by omega) (by omega) ?_
        have hstep : win (fO p d M) (wout (fO p d M) ng c i) i (g + 1) = wst (fO p d M) (win (fO p d M) (wout (fO p d M) ng c i) i g) i g := rfl
        by_cases hm : wm (win (fO p d M) (wout (fO p d M) ng c i) i g) (fO p d M g (wq (win (fO p d M) (wout (fO p d M) ng c i) i g) i))
        · have hm' := hm
          obtain ⟨k, hk, ek⟩ := hm
          have ht := WI_t hWI k hk
          rw [show w 14 (fO p d M g (wq (win (fO p d M) (wout (fO p d M) ng c i) i g) i)) = nI (wt (win (fO p d M) (wout (fO p d M) ng c i) i g) k) by rw [← ek]; exact (bw.2.1 k hk).2]
          refine ⟨fun _ v21 e21 => ?_, fun q => absurd q (nI_nm1 (by omega))⟩
          rw [nI_1] at e21
          subst e21
          refine kk2 _ ⟨cw2, ?_⟩
          rw [hstep, wst_in hm']; exact bw
        · have hlt : (win (fO p d M) (wout (fO p d M) ng c i) i g).1 < 480 := by
            have := O_480 hp.2 hd hc hM (WI_psh hWI (by omega) hg hm)
            have h3 : (psh (win (fO p d M) (wout (fO p d M) ng c i) i g) (fO p d M g (wq (win (fO p d M) (wout (fO p d M) ng c i) i g) i)) i g (wt (win (fO p d M) (wout (fO p d M) ng c i) i g) i + 1)).1 = (win (fO p d M) (wout (fO p d M) ng c i) i g).1 + 1 := rfl
            omega
          have hWI2 := WI_psh hWI (show i < _ by omega) hg hm
          rw [bw.2.2.2 _ hal hm]
          refine ⟨fun q => absurd rfl q, fun _ => ?_⟩
          refine rdM (by omega) (by omega) ?_
          rw [(bw.2.1 i (by omega)).1]
          refine rdM (by omega) (by omega) ?_
          rw [(bw.2.1 i (by omega)).2, nI_1]
          refine wrM (by omega) (by omega) (wrM (by omega) (by omega) (rdM (by omega) (by omega) (wrM (by omega) (by omega) ?_)))
          rw [su_n _ _ _ (by decide), su_n _ _ _ (by decide), su_n _ _ _ (by decide), su_n _ _ _ (by decide), su_n _ _ _ (by decide), (bw.2.1 i (by omega)).1, bw.1]
          refine wrM (by omega) (by omega) ?_
          intro u29 e29 v30 e30
          rw [nI_1] at e30
          subst e30
          have c29 : chg [6, 8, 12, 13, 14, 15] [6] u u29 := by rw [e29]; exact chg_ts0 (chg_tsu (chg_tsu (chg_tsu (chg_tsu cw2 (by decide) (by decide)) (by decide) (by decide)) (by decide) (by decide)) (by decide) (by decide)) (by decide)
          refine kk2 _ ⟨c29, ?_⟩
          rw [hstep, wst_no hm]
          generalize win (fO p d M) (wout (fO p d M) ng c i) i g = S at *
          generalize hx : fO p d M g (wq S i) = X at *
          have hi1 : i < S.1 := by omega
          have b14 : u29 14 = upd (w 14) X (nI (wt S i + 1)) := by
            rw [e29, su_n _ _ _ (by decide), su_n _ _ _ (by decide), su_n _ _ _ (by decide), su_n _ _ _ (by decide), su_sa, sa_k]
          have b12 : u29 12 = upd (w 12) X (nI g) := by
            rw [e29, su_n _ _ _ (by decide), su_n _ _ _ (by decide), su_n _ _ _ (by decide), su_sa, sa_k, su_n _ _ _ (by decide)]
          have b13 : u29 13 = upd (w 13) X (nI (wq S i)) := by
            rw [e29, su_n _ _ _ (by decide), su_n _ _ _ (by decide), su_sa, sa_k, su_n _ _ _ (by decide), su_n _ _ _ (by decide)]
          have b15 : u29 15 = upd (w 15) S.1 (nI X) := by
            rw [e29, su_n _ _ _ (by decide), su_sa, sa_k, su_n _ _ _ (by decide), su_n _ _ _ (by decide), su_n _ _ _ (by decide)]
          have b06 : u29 0 6 = nI (S.1 + 1) := by
            rw [e29, su_kk, su_n _ _ _ (by decide), su_n _ _ _ (by decide), su_n _ _ _ (by decide), su_n _ _ _ (by decide), bw.1, nI_1]
          have oq : ∀ k, k < S.1 → wq (psh S X i g (wt S i + 1)) k = wq S k := fun k hk => congrArg (·.1) (psh_old S X i g (wt S i + 1) hk)
          have ot : ∀ k, k < S.1 → wt (psh S X i g (wt S i + 1)) k = wt S k := fun k hk => congrArg (·.2.2.2) (psh_old S X i g (wt S i + 1) hk)
          have og : ∀ k, k < S.1 → wg (psh S X i g (wt S i + 1)) k = wg S k := fun k hk => congrArg (·.2.2.1) (psh_old S X i g (wt S i + 1) hk)
          have of_ : ∀ k, k < S.1 → wf (psh S X i g (wt S i + 1)) k = wf S k := fun k hk => congrArg (·.2.1) (psh_old S X i g (wt S i + 1) hk)
          have nq : wq (psh S X i g (wt S i + 1)) S.1 = X := congrArg (·.1) (psh_new S X i g (wt S i + 1))
          have nt : wt (psh S X i g (wt S i + 1)) S.1 = wt S i + 1 := congrArg (·.2.2.2) (psh_new S X i g (wt S i + 1))
          have ng' : wg (psh S X i g (wt S i + 1)) S.1 = g := congrArg (·.2.2.1) (psh_new S X i g (wt S i + 1))
          have nf' : wf (psh S X i g (wt S i + 1)) S.1 = i := congrArg (·.2.1) (psh_new S X i g (wt S i + 1))
          have hXne : ∀ k, k < S.1 → wq S k ≠ X := fun k hk e => hm ⟨k, hk, e⟩
          refine ⟨b06, fun k hk => ?_, fun k h0 hk => ?_, fun x hx2 hno => ?_⟩
          · have hk2 : k < S.1 + 1 := hk
            by_cases e : k = S.1
            · rw [e, nq, nt, b14, b15, upd_in, upd_in]
              exact ⟨rfl, rfl⟩
            · rw [oq k (by omega), ot k (by omega), b14, b15, upd_ne _ _ e, upd_ne _ _ (hXne k (by omega))]
              exact bw.2.1 k (by omega)
          · have hk2 : k < S.1 + 1 := hk
            by_cases e : k = S.1
            · rw [e, nq, ng', nf', oq i hi1, b12, b13, upd_in, upd_in]
              exact ⟨rfl, rfl⟩
            · have hwf := (hWI.2.2.2 k h0 (by omega)).1
              rw [oq k (by omega), og k (by omega), of_ k (by omega), oq _ (by omega), b12, b13, upd_ne _ _ (hXne k (by omega)), upd_ne _ _ (hXne k (by omega))]
              exact bw.2.2.1 k h0 (by omega)
          · have h5 : x ≠ X := fun e => hno ⟨S.1, Nat.lt_succ_self _, by rw [nq]; exact e.symm⟩
            rw [b14, upd_ne _ _ h5]
            exact bw.2.2.2 x hx2 (fun q => hno ((psh_pre S X i g (wt S i + 1)).km q))
      · rintro n' s' ⟨b1, b2⟩
        show f_X7_goesOn_L58_s _ _ _ _ _ _ _
        unfold f_X7_goesOn_L58_s
        have hCs := hC.chg (w1 b1)
        rw [hCs.2.2.1.2]
        refine ⟨fun _ v19 e19 => ?_, fun c => absurd (nI_le (Nat.le_refl _) (by have := hCs.2.2.1.1; omega)) c⟩
        rw [nI_1] at e19
        subst e19
        refine kk _ ⟨b1, ?_⟩
        rw [wout_s _ _ _ _ him]; exact b2
    · rintro n s ⟨d1, d2⟩
      show f_X7_goesOn_L47_s _ _ _ _ _ _
      unfold f_X7_goesOn_L47_s
      rw [d2.1, hKm]
      exact ⟨fun _ => h s d1 d2, fun c => absurd (nI_le (Nat.le_refl _) (by omega)) c⟩
def WCH : List Nat := [6, 8, 12, 13, 14, 15]
theorem wch {u v : St} (c : chg [6, 8, 12, 13, 14, 15] [6] u v) : chg MA MB u v := c.wk (by decide) (by decide)
theorem mwalk_ok {p ng nf f : Nat} {M D C : Nat → Nat} {u : St} {Q : St → Prop} (hC : MI p ng M nf D C u) (hf : f < nf)
    (h : ∀ K v, stopAt (fO p (D f) M) ng (C f) K → K ≤ 480 → (∀ k, k < K → wq (wout (fO p (D f) M) ng (C f) K) k < 3125) → chg [6, 8, 12, 13, 14, 15] [6] u v → MI p ng M nf D C v → MR (p ^ (D f + 1)) (wout (fO p (D f) M) ng (C f) K) v → Q v) : f_X7_goesOn (nI (C f)) (nI (D f)) u Q := by
  have b1 := hC.f hf
  have hpb := pow_b hC.1.2 (n := D f + 1) (by omega)
  obtain ⟨K, hK⟩ := O_stop (ng := ng) hC.1.2 b1.1.2 b1.2.1 hC.2.1
  have hKm := stop_m hK
  refine goesOn_ok hC b1.1.2 b1.2.1 hK ?_
  intro v cv mv
  refine h K v hK (by rw [← hKm]; exact O_480 hC.1.2 b1.1.2 b1.2.1 hC.2.1 (wout_WI _ _ _ _)) (fun k hk => ?_) cv (hC.chg (wch cv)) mv
  have := O_lt hC.1.2 b1.1.2 b1.2.1 (wout_WI (fO p (D f) M) ng (C f) K) k (by omega)
  omega
theorem mleast_ok {p ng nf f : Nat} {M D C : Nat → Nat} {u : St} {Q : Int32 → St → Prop} (hC : MI p ng M nf D C u) (hf : f < nf)
    (h : ∀ K v, stopAt (fO p (D f) M) ng (C f) K → chg MA MB u v → v 0 0 = u 0 0 → Q (nI (lst (wq (wout (fO p (D f) M) ng (C f) K)) K)) v) : f_X7_leastCode (nI f) u Q := by
  unfold f_X7_leastCode
  refine mrdC hC hf (mrdD hC hf (mwalk_ok hC hf ?_))
  intro K v hK h480 hlt cv hv mv
  have hKm := stop_m hK
  have hq0 := WI_q0 (wout_WI (fO p (D f) M) ng (C f) K)
  have h0 : 0 < K := by rw [← hKm]; exact (wout_WI _ _ _ _).1
  have b1 := hC.f hf
  refine mrdC hv hf ?_
  refine loopU2 (fun n i a s => f_X7_leastCode_L25 Q (fun v12 u13 => Q v12 u13) n a i s) K (fun i a s => s = v ∧ a = nI (lst (wq (wout (fO p (D f) M) ng (C f) K)) i)) ?_ ?_ 0 (Nat.zero_le _) (nI (C f)) v ⟨rfl, by unfold lst; rw [hq0]⟩
  · rintro n i a s hi ⟨rfl, rfl⟩ kk
    show f_X7_leastCode_L25_s _ _ _ _ _ _
    unfold f_X7_leastCode_L25_s
    have h1 := hlt i hi
    have h2 := lst_lt (hlt 0 h0) (k := i) (fun j hj => hlt j (by omega))
    have el : lst (wq (wout (fO p (D f) M) ng (C f) K)) (i + 1) = if wq (wout (fO p (D f) M) ng (C f) K) i < lst (wq (wout (fO p (D f) M) ng (C f) K)) i then wq (wout (fO p (D f) M) ng (C f) K) i else lst (wq (wout (fO p (D f) M) ng (C f) K)) i := rfl
    rw [mv.1, hKm]
    refine ⟨fun c => absurd c (nI_ge hi (by omega)), fun _ => rdM (by omega) (by omega) ?_⟩
    rw [(mv.2.1 i (by omega)).1]
    refine ⟨fun c v8 e8 => ?_, fun c => rdM (by omega) (by omega) ?_⟩
    · rw [nI_1] at e8
      subst e8
      refine kk _ _ ⟨rfl, ?_⟩
      rw [el, if_neg (fun q => (nI_ge q (by omega)) c)]
    · rw [(mv.2.1 i (by omega)).1]
      intro v10 e10
      rw [nI_1] at e10
      subst e10
      refine kk _ _ ⟨rfl, ?_⟩
      rw [el, if_pos (Nat.lt_of_not_le (fun q => c (nI_le q (by omega))))]
  · rintro n a s ⟨rfl, rfl⟩
    show f_X7_leastCode_L25_s _ _ _ _ _ _
    unfold f_X7_leastCode_L25_s
    rw [mv.1, hKm]
    exact ⟨fun _ => h K _ hK (wch cv) (by rw [cv.1 0 (by decide)]), fun c => absurd (nI_le (Nat.le_refl _) (by omega)) c⟩
theorem wayTo_ok {p ng nf f g : Nat} {M D C : Nat → Nat} {u : St} {Q : Int32 → St → Prop} (hC : MI p ng M nf D C u) (hf : f < nf) (hg : g < nf) (he : D f = D g)
    (h1 : ∀ K v k, stopAt (fO p (D f) M) ng (C f) K → k < K → wq (wout (fO p (D f) M) ng (C f) K) k = C g → chg [6, 8, 12, 13, 14, 15] [6] u v → MI p ng M nf D C v → MR (p ^ (D f + 1)) (wout (fO p (D f) M) ng (C f) K) v → Q (nI (wt (wout (fO p (D f) M) ng (C f) K) k)) v)
    (h2 : ∀ K v, stopAt (fO p (D f) M) ng (C f) K → ¬ wm (wout (fO p (D f) M) ng (C f) K) (C g) → chg [6, 8, 12, 13, 14, 15] [6] u v → MI p ng M nf D C v → Q (-1) v) : f_X7_wayTo (nI f) (nI g) u Q := by
  unfold f_X7_wayTo
  refine mrdC hC hf (mrdD hC hf (mwalk_ok hC hf ?_))
  intro K v hK h480 hlt cv hv mv
  have hKm := stop_m hK
  have b2 := hC.f hg
  refine mrdC hv hg (rdM (by omega) (by omega) ?_)
  by_cases hm : wm (wout (fO p (D f) M) ng (C f) K) (C g)
  · obtain ⟨k, hk, e⟩ := hm
    rw [← e, (mv.2.1 k hk).2]
    exact h1 K v k hK (by omega) e cv hv mv
  · rw [mv.2.2.2 (C g) (by rw [he]; exact b2.2.1) hm]
    exact h2 K v hK hm cv hv
theorem mway_ok {p ng nf : Nat} {M D C : Nat → Nat} {a b : Int32} {u : St} {Q : Int32 → St → Prop} (hC : MI p ng M nf D C u)
    (h1 : ∀ f g r v, f < nf → g < nf → a = nI f → b = nI g → D f = D g → wayR p ng M (D f) (C f) (C g) r → v 0 0 = 0 → MI p ng M nf D C v → Q r v)
    (h2 : ∀ f g, f < nf → g < nf → a = nI f → b = nI g → ¬ D f = D g → ∀ v, v 0 0 = 2 → MI p ng M nf D C v → Q 0 v)
    (h3 : (¬ ((∃ f, f < nf ∧ a = nI f) ∧ ∃ g, g < nf ∧ b = nI g)) → ∀ v, v 0 0 = 1 → MI p ng M nf D C v → Q 0 v) : f_X7_way a b u Q := by
  unfold f_X7_way
  refine mform_ok hC (fun f hf e => ⟨fun q => absurd q (by decide), fun _ => ?_⟩) (fun q => ⟨fun _ => hold1 ⟨fun _ => h3 (fun q2 => q q2.1) _ (by rw [su_kk]) (hC.T 1), fun c => absurd rfl c⟩, fun c => absurd rfl c⟩)
  refine mform_ok hC (fun g hg e2 => ⟨fun q => absurd q (by decide), fun _ => ?_⟩) (fun q => ⟨fun _ => hold1 ⟨fun _ => h3 (fun q2 => q q2.2) _ (by rw [su_kk]) (hC.T 1), fun c => absurd rfl c⟩, fun c => absurd rfl c⟩)
  subst e e2
  have b1 := hC.f hf
  have b2 := hC.f hg
  refine mrdD hC hf (mrdD hC hg ⟨fun q => ?_, fun q => ?_⟩)
  · have he := (nI_eq (by omega) (by omega)).mp q
    refine hold0 ⟨fun q => absurd q (by decide), fun _ => wayTo_ok (hC.T 0) hf hg he ?_ ?_⟩
    · intro K v k hK hk e cv hv mv
      exact h1 f g _ v hf hg rfl rfl he ⟨K, hK, Or.inl ⟨k, hk, e, rfl⟩⟩ (by rw [cv.1 0 (by decide), su_kk]) hv
    · intro K v hK hm cv hv
      exact h1 f g _ v hf hg rfl rfl he ⟨K, hK, Or.inr ⟨hm, rfl⟩⟩ (by rw [cv.1 0 (by decide), su_kk]) hv
  · refine hold2 ⟨fun _ => h2 f g hf hg rfl rfl (fun e => q (by rw [e])) _ (by rw [su_kk]) (hC.T 2), fun c => absurd rfl c⟩
theorem mback_ok {st N : Nat} {f : Nat → Nat → Nat} {ng c : Nat} {s : WS} {u : St} {Q K : Int32 → St → Prop} (hW : MR N s u) (hI : WI f ng c s) (hs : s.1 ≤ 480) (hlt : ∀ k, k < s.1 → wq s k < 3125) : ∀ (i pl : Nat), pl < s.1 → wt s pl = st + 1 + i → K (nI (wq s (bk s pl i))) u → ∃ n, f_X7_stepAt_L28 (nI st) Q K n (nI (wq s pl)) (nI (st + 1 + i)) u := by
  intro i
  induction i with
  | zero =>
    intro pl hpl ht h
    refine ⟨1, ?_⟩
    show f_X7_stepAt_L28_s _ _ _ _ _ _ _
    unfold f_X7_stepAt_L28_s
    have := WI_t hI pl hpl
    rw [nI_1]
    exact ⟨fun _ => h, fun c => absurd (nI_le (Nat.le_refl _) (by omega)) c⟩
  | succ i ih =>
    intro pl hpl ht h
    have := WI_t hI pl hpl
    have h0 : 0 < pl := by omega
    obtain ⟨b1, b2, b3, b4⟩ := hI.2.2.2 pl h0 hpl
    obtain ⟨n, hn⟩ := ih (wf s pl) (by omega) (by omega) h
    refine ⟨n + 1, ?_⟩
    show f_X7_stepAt_L28_s _ _ _ _ _ _ _
    unfold f_X7_stepAt_L28_s
    rw [nI_1]
    refine ⟨fun c => absurd c (nI_ge (by omega) (by omega)), fun _ => rdM (hlt pl hpl) (by omega) ?_⟩
    rw [(hW.2.2.1 pl h0 hpl).2]
    intro v11 e11
    rw [nI_d, show st + 1 + (i + 1) = (st + 1 + i) + 1 by omega, dI_s] at e11
    subst e11
    exact hn
theorem bk_pos {f : Nat → Nat → Nat} {ng c st : Nat} {s : WS} (hI : WI f ng c s) : ∀ (i pl : Nat), pl < s.1 → wt s pl = st + 1 + i → 0 < bk s pl i ∧ bk s pl i < s.1
  | 0, pl, hpl, ht => by
    have := WI_t hI pl hpl
    exact ⟨by show 0 < pl; omega, hpl⟩
  | i + 1, pl, hpl, ht => by
    have := WI_t hI pl hpl
    obtain ⟨b1, b2, b3, b4⟩ := hI.2.2.2 pl (by omega) hpl
    exact bk_pos (st := st) hI i (wf s pl) (by omega) (by omega)
theorem stepAt_ok {p ng nf f g st : Nat} {M D C : Nat → Nat} {u : St} {Q : Int32 → St → Prop} (hC : MI p ng M nf D C u) (hf : f < nf) (hg : g < nf) (he : D f = D g) (hst : st < 2147483648)
    (h : ∀ r v, stepR p ng M (D f) (C f) (C g) st r → v 0 0 = u 0 0 → MI p ng M nf D C v → Q r v) : f_X7_stepAt (nI f) (nI g) (nI st) u Q := by
  unfold f_X7_stepAt
  refine wayTo_ok hC hf hg he ?_ ?_
  · intro K v k hK hk e cv hv mv
    have hKm := stop_m hK
    have hI := wout_WI (fO p (D f) M) ng (C f) K
    have b1 := hC.f hf
    have hpb := pow_b hC.1.2 (n := D f + 1) (by omega)
    have h480 := O_480 hC.1.2 b1.1.2 b1.2.1 hC.2.1 hI
    have hlt : ∀ k, k < (wout (fO p (D f) M) ng (C f) K).1 → wq (wout (fO p (D f) M) ng (C f) K) k < 3125 := fun k hk => by
      have := O_lt hC.1.2 b1.1.2 b1.2.1 hI k hk
      omega
    have ht := WI_t hI k (by omega)
    have v0 : v 0 0 = u 0 0 := cv.1 0 (by decide)
    refine ⟨fun c => ?_, fun c => ?_⟩
    · have hl := (nI_ltI (by omega) (by omega)).mp c
      refine mrdC hv hg ?_
      have hbk := bk_pos hI (wt (wout (fO p (D f) M) ng (C f) K) k - 1 - st) k (by omega) (st := st) (by omega)
      have hm := mback_ok (st := st) (Q := Q) (K := fun v9 u10 => (vp_in v9 3125 ∧ ∀ v11 : Int32, v11 = u10 12 v9.toNatClampNeg → Q v11 u10)) mv hI h480 hlt (wt (wout (fO p (D f) M) ng (C f) K) k - 1 - st) k (by omega) (by omega) (by
        refine rdM (hlt _ hbk.2) (by omega) ?_
        rw [(mv.2.2.1 _ hbk.1 hbk.2).1]
        exact h _ v ⟨K, hK, Or.inl ⟨k, hk, e, hl, rfl⟩⟩ v0 hv)
      rw [show st + 1 + (wt (wout (fO p (D f) M) ng (C f) K) k - 1 - st) = wt (wout (fO p (D f) M) ng (C f) K) k by omega, e] at hm
      exact hm
    · refine h _ v ⟨K, hK, Or.inr ⟨fun k' hk' e2 => ?_, rfl⟩⟩ v0 hv
      rw [w_one hK hk' hk (by rw [e2, e])]
      exact fun q => c ((nI_ltI (by omega) (by omega)).mpr q)
  · intro K v hK hm cv hv
    have hKm := stop_m hK
    refine ⟨fun c => ?_, fun _ => h _ v ⟨K, hK, Or.inr ⟨fun k' hk' e2 => absurd ⟨k', by omega, e2⟩ hm, rfl⟩⟩ (cv.1 0 (by decide)) hv⟩
    rw [iI_n, show (-1 : Int32) = iI (-1) from rfl] at c
    have := (iI_lt (by omega) (by omega) (by omega) (by omega)).mp c
    omega
theorem mstep_ok {p ng nf : Nat} {M D C : Nat → Nat} {a b c : Int32} {u : St} {Q : Int32 → St → Prop} (hC : MI p ng M nf D C u)
    (h1 : ∀ f g st r v, f < nf → g < nf → a = nI f → b = nI g → D f = D g → c = nI st → st < 2147483648 → stepR p ng M (D f) (C f) (C g) st r → v 0 0 = 0 → MI p ng M nf D C v → Q r v)
    (h2 : ∀ f g, f < nf → g < nf → a = nI f → b = nI g → ¬ (D f = D g ∧ 0 ≤ c) → ∀ v, v 0 0 = 2 → MI p ng M nf D C v → Q 0 v)
    (h3 : (¬ ((∃ f, f < nf ∧ a = nI f) ∧ ∃ g, g < nf ∧ b = nI g)) → ∀ v, v 0 0 = 1 → MI p ng M nf D C v → Q 0 v) : f_X7_step a b c u Q := by
  unfold f_X7_step
  refine mform_ok hC (fun f hf e => ⟨fun q => absurd q (by decide), fun _ => ?_⟩) (fun q => ⟨fun _ => hold1 ⟨fun _ => h3 (fun q2 => q q2.1) _ (by rw [su_kk]) (hC.T 1), fun c => absurd rfl c⟩, fun c => absurd rfl c⟩)
  refine mform_ok hC (fun g hg e2 => ⟨fun q => absurd q (by decide), fun _ => ?_⟩) (fun q => ⟨fun _ => hold1 ⟨fun _ => h3 (fun q2 => q q2.2) _ (by rw [su_kk]) (hC.T 1), fun c => absurd rfl c⟩, fun c => absurd rfl c⟩)
  subst e e2
  have b1 := hC.f hf
  have b2 := hC.f hg
  refine mrdD hC hf (mrdD hC hg ⟨fun q => ?_, fun q => ⟨fun c0 => ?_, fun c0 => ?_⟩⟩)
  · refine hold2 ⟨fun _ => h2 f g hf hg rfl rfl (fun e => q (by rw [e.1])) _ (by rw [su_kk]) (hC.T 2), fun c => absurd rfl c⟩
  · have he := (nI_eq (by omega) (by omega)).mp q
    obtain ⟨st, hst, rfl⟩ := nI_nneg c0
    refine hold0 ⟨fun q => absurd q (by decide), fun _ => stepAt_ok (hC.T 0) hf hg he hst ?_⟩
    intro r v hr v0 hv
    exact h1 f g st r v hf hg rfl rfl he rfl hst hr (by rw [v0, su_kk]) hv
  · refine hold2 ⟨fun _ => h2 f g hf hg rfl rfl (fun e => c0 e.2) _ (by rw [su_kk]) (hC.T 2), fun c => absurd rfl c⟩
