/-! the class's walk -/
theorem win_up (f : Nat → Nat → Nat) (s : WS) (a g : Nat) : ∀ j, pre (win f s a g) (win f s a (g + j))
  | 0 => pre_rf _
  | j + 1 => (win_up f s a g j).tr (wst_pre f _ a (g + j))
theorem go_mem {f : Nat → Nat → Nat} {ng c K i g : Nat} (h : stopAt f ng c K) (hi : i < K) (hg : g < ng) : wm (wout f ng c K) (f g (wq (win f (wout f ng c i) i g) i)) := by
  have h1 := wst_has f (win f (wout f ng c i) i g) i g
  have h2 : wm (win f (wout f ng c i) i ng) (f g (wq (win f (wout f ng c i) i g) i)) := by
    have h3 := win_up f (wout f ng c i) i (g + 1) (ng - (g + 1))
    rw [show g + 1 + (ng - (g + 1)) = ng by omega] at h3
    exact h3.km h1
  rw [← wout_s f ng c i (h.2 i hi)] at h2
  have h4 := wout_up f ng c (i + 1) (K - (i + 1))
  rw [show i + 1 + (K - (i + 1)) = K by omega] at h4
  exact h4.km h2
/-- the rows of the walk in a state of the class; o is what stood at the places of the codes -/
def WR (o : Nat → Int32) (s : WS) (u : St) : Prop :=
  u 0 6 = nI s.1 ∧ (∀ k, k < s.1 → u 18 k = nI (wq s k) ∧ u 19 k = nI (wf s k) ∧ u 21 k = nI (wt s k) ∧ u 17 (wq s k) = nI (k + 1)) ∧ (∀ k, 0 < k → k < s.1 → u 20 k = nI (wg s k)) ∧ ∀ x, x < 3125 → ¬ wm s x → u 17 x = o x
theorem met_ok {al x n : Nat} {u : St} {Q : Int32 → St → Prop} (hx : x < 3125) (hn : n < 1000000000) (hu : u 17 x = nI n) (h0 : n = 0 → Q 0 u) (h1 : n ≠ 0 → Q 1 u) : f_X5_met al (nI x) u Q := by
  unfold f_X5_met
  refine read_ok (by exact hx) ?_
  rw [hu]
  refine ⟨fun c => ?_, fun c => ?_⟩
  · refine h0 ?_
    have : ¬ 0 < n := fun q => (nI_ge (a := 0) q (by omega)) c
    omega
  · exact h1 (fun e => c (by rw [e]; exact Int32.le_refl _))
theorem reach_ok {al x a g t : Nat} {y : Int32} {o : Nat → Int32} {s : WS} {u : St} {Q : St → Prop} (hx : x < 3125) (hs : s.1 ≤ 480) (hq : ∀ k, k < s.1 → wq s k < 3125) (hy : 0 < s.1 → y = nI g) (hW : WR o s u) (h480 : ¬ wm s x → s.1 < 480) (ho : ¬ wm s x → o x = 0) (h1 : wm s x → Q u) (h2 : ¬ wm s x → ∀ v, chg [17, 18, 19, 20, 21] [6] u v → WR o (psh s x a g t) v → Q v) : f_X5_reach al (nI x) (nI a) y (nI t) u Q := by
  obtain ⟨w1, w2, w3, w4⟩ := hW
  unfold f_X5_reach
  by_cases hm : wm s x
  · obtain ⟨k, hk, e⟩ := hm
    refine met_ok (n := k + 1) hx (by omega) (by rw [← e]; exact (w2 k hk).2.2.2) (fun q => absurd q (by omega)) (fun _ => ⟨fun _ => h1 ⟨k, hk, e⟩, fun c => absurd c (by decide)⟩)
  · have hlt := h480 hm
    refine met_ok (n := 0) hx (by omega) (by rw [w4 x hx hm, ho hm]; rfl) (fun _ => ?_) (fun q => absurd rfl q)
    refine ⟨fun c => absurd rfl c, fun _ => ?_⟩
    rw [w1]
    refine ⟨fun c => absurd (show nI 480 ≤ nI s.1 from c) (nI_ge hlt (by omega)), fun _ => ?_⟩
    refine write_ok (by exact hlt) ?_
    rw [su_n _ _ _ (by decide), w1]
    refine write_ok (by exact hlt) ?_
    rw [su_n _ _ _ (by decide), su_n _ _ _ (by decide), w1]
    refine write_ok (by exact hlt) ?_
    rw [su_n _ _ _ (by decide), su_n _ _ _ (by decide), su_n _ _ _ (by decide), w1]
    refine write_ok (by exact hlt) ?_
    rw [su_n _ _ _ (by decide), su_n _ _ _ (by decide), su_n _ _ _ (by decide), su_n _ _ _ (by decide), w1]
    intro u9 e9
    have hc : u9 0 6 = nI (s.1 + 1) := by rw [e9, su_kk, nI_1]
    rw [hc]
    refine write_ok (by exact hx) ?_
    have hch : chg [17, 18, 19, 20, 21] [6] u u9 := by
      rw [e9]
      exact chg_ts0 (chg_tsu (chg_tsu (chg_tsu (chg_tsu (chg_rf _ _ _) (by decide) (by decide)) (by decide) (by decide)) (by decide) (by decide)) (by decide) (by decide)) (by decide)
    refine h2 hm _ (chg_tsu hch (by decide) (by decide)) ?_
    have a18 : ∀ k, u9 18 k = if k = s.1 then nI x else u 18 k := fun k => by
      rw [e9, su_n _ _ _ (by decide), su_n _ _ _ (by decide), su_n _ _ _ (by decide), su_n _ _ _ (by decide), su_sa, sa_k]
      by_cases e : k = s.1
      · subst e; rw [upd_in, if_pos rfl]
      · rw [upd_ne _ _ e, if_neg e]
    have a19 : ∀ k, u9 19 k = if k = s.1 then nI a else u 19 k := fun k => by
      rw [e9, su_n _ _ _ (by decide), su_n _ _ _ (by decide), su_n _ _ _ (by decide), su_sa, sa_k, su_n _ _ _ (by decide)]
      by_cases e : k = s.1
      · subst e; rw [upd_in, if_pos rfl]
      · rw [upd_ne _ _ e, if_neg e]
    have a20 : ∀ k, u9 20 k = if k = s.1 then y else u 20 k := fun k => by
      rw [e9, su_n _ _ _ (by decide), su_n _ _ _ (by decide), su_sa, sa_k, su_n _ _ _ (by decide), su_n _ _ _ (by decide)]
      by_cases e : k = s.1
      · subst e; rw [upd_in, if_pos rfl]
      · rw [upd_ne _ _ e, if_neg e]
    have a21 : ∀ k, u9 21 k = if k = s.1 then nI t else u 21 k := fun k => by
      rw [e9, su_n _ _ _ (by decide), su_sa, sa_k, su_n _ _ _ (by decide), su_n _ _ _ (by decide), su_n _ _ _ (by decide)]
      by_cases e : k = s.1
      · subst e; rw [upd_in, if_pos rfl]
      · rw [upd_ne _ _ e, if_neg e]
    have a17 : u9 17 = u 17 := by
      rw [e9, su_n _ _ _ (by decide), su_n _ _ _ (by decide), su_n _ _ _ (by decide), su_n _ _ _ (by decide), su_n _ _ _ (by decide)]
    refine ⟨?_, ?_, ?_, ?_⟩
    · rw [su_n _ _ _ (by decide)]; exact hc
    · intro k hk
      have hk2 : k < s.1 + 1 := hk
      rw [su_n _ _ _ (by decide), su_n _ _ _ (by decide), su_n _ _ _ (by decide), su_sa, sa_k, a18, a19, a21, a17]
      by_cases e : k = s.1
      · subst e
        unfold wq wf wt
        rw [psh_new, if_pos rfl, if_pos rfl, if_pos rfl]
        exact ⟨rfl, rfl, rfl, upd_in _ _ _⟩
      · obtain ⟨b1, b2, b3, b4⟩ := w2 k (by omega)
        have hq2 : wq (psh s x a g t) k = wq s k := by unfold wq; rw [psh_old _ _ _ _ _ (by omega)]
        have hf2 : wf (psh s x a g t) k = wf s k := by unfold wf; rw [psh_old _ _ _ _ _ (by omega)]
        have ht2 : wt (psh s x a g t) k = wt s k := by unfold wt; rw [psh_old _ _ _ _ _ (by omega)]
        rw [hq2, hf2, ht2, if_neg e, if_neg e, if_neg e, upd_ne _ _ (fun q => hm ⟨k, by omega, q⟩)]
        exact ⟨b1, b2, b3, b4⟩
    · intro k h0 hk
      have hk2 : k < s.1 + 1 := hk
      rw [su_n _ _ _ (by decide), a20]
      by_cases e : k = s.1
      · subst e
        unfold wg
        rw [psh_new, if_pos rfl]
        exact hy h0
      · have hg2 : wg (psh s x a g t) k = wg s k := by unfold wg; rw [psh_old _ _ _ _ _ (by omega)]
        rw [hg2, if_neg e]
        exact w3 k h0 (by omega)
    · intro z hz hno
      have h5 : z ≠ x := fun q => hno ⟨s.1, Nat.lt_succ_self _, by unfold wq; rw [psh_new]; exact q.symm⟩
      rw [su_sa, sa_k, upd_ne _ _ h5, a17]
      exact w4 z hz (fun q => hno ((psh_pre s x a g t).km q))
theorem go_ok {al p ng d c K : Nat} {M : Nat → Nat} {u : St} {Q : St → Prop} (hp : PP u p) (hM : gensOk p ng M) (hG : GM al ng M u) (hI : GI p ng M u) (h1 : 1 ≤ d) (hd : d ≤ 4) (hc : c < p ^ (d + 1)) (hK : stopAt (fO p d M) ng c K)
    (ho : ∀ x, wm (wout (fO p d M) ng c K) x → u 17 x = 0) (h : ∀ v, chg [17, 18, 19, 20, 21] [6] u v → WR (u 17) (wout (fO p d M) ng c K) v → Q v) : f_X5_go al (nI d) (nI c) u Q := by
  have hb := isP_b hp.2
  have hpb := pow_b hp.2 (n := d + 1) (by omega)
  have hKm := stop_m hK
  have hK480 : K ≤ 480 := by rw [← hKm]; exact O_480 hp.2 hd hc hM (wout_WI _ _ _ _)
  have hlt : ∀ {s : WS}, WI (fO p d M) ng c s → ∀ k, k < s.1 → wq s k < 3125 := fun hs k hk => Nat.lt_of_lt_of_le (O_lt hp.2 hd hc hs k hk) hpb
  unfold f_X5_go
  intro u1 e1
  have c1 : chg [17, 18, 19, 20, 21] [6] u u1 := by rw [e1]; exact chg_ts0 (chg_rf _ _ _) (by decide)
  have h17 : u1 17 = u 17 := by rw [e1, su_n _ _ _ (by decide)]
  have hW0 : WR (u 17) (0, fun _ => (0, 0, 0, 0)) u1 := by
    refine ⟨by rw [e1, su_kk]; rfl, fun k hk => absurd hk (Nat.not_lt_zero _), fun k _ hk => absurd hk (Nat.not_lt_zero _), fun x hx _ => by rw [h17]⟩
  have hcm : wm (wout (fO p d M) ng c K) c := ⟨0, by have := (wout_WI (fO p d M) ng c K).1; exact this, WI_q0 (wout_WI _ _ _ _)⟩
  refine reach_ok (x := c) (a := 0) (g := 0) (t := 0) (o := u 17) (s := (0, fun _ => (0, 0, 0, 0))) (by omega) (Nat.zero_le _) (fun k hk => absurd hk (Nat.not_lt_zero _)) (fun q => absurd q (Nat.lt_irrefl _)) hW0 (fun _ => by decide) (fun _ => ho c hcm) (fun q => by obtain ⟨k, hk, _⟩ := q; exact absurd hk (Nat.not_lt_zero _)) ?_
  intro _ u2 c2 hW2
  have hz : WR (u 17) (wout (fO p d M) ng c 0) u2 := by
    obtain ⟨a1, a2, a3, a4⟩ := hW2
    have hk0 : ∀ k, k < (wout (fO p d M) ng c 0).1 → k = 0 := fun k hk => by
      have : k < 1 := hk
      omega
    refine ⟨a1, fun k hk => ?_, fun k h0 hk => ?_, fun x hx hno => ?_⟩
    · rw [hk0 k hk]; exact a2 0 Nat.one_pos
    · have := hk0 k hk
      omega
    · refine a4 x hx (fun q => hno ?_)
      obtain ⟨k, hk, e⟩ := q
      have hk2 : k < 1 := hk
      have : k = 0 := by omega
      subst this
      exact ⟨0, Nat.one_pos, e⟩
  refine loopU (S := St) (fun n i s => f_X5_go_L15 al (nI d) Q (fun u18 => Q u18) n i s) K (fun i s => chg [17, 18, 19, 20, 21] [6] u s ∧ WR (u 17) (wout (fO p d M) ng c i) s) ?_ ?_ 0 (Nat.zero_le _) u2 ⟨c1.tr c2, hz⟩
  · rintro n i s hi ⟨d1, d2⟩ kk
    show f_X5_go_L15_s _ _ _ _ _ _ _
    unfold f_X5_go_L15_s
    have him := hK.2 i hi
    have hm480 := O_480 hp.2 hd hc hM (wout_WI (fO p d M) ng c i)
    rw [d2.1]
    refine ⟨fun c => absurd c (nI_ge him (by omega)), fun _ => ⟨fun c => absurd (show nI 480 ≤ nI i from c) (nI_ge (by omega) (by omega)), fun _ => ?_⟩⟩
    refine read_ok (by exact (by omega : i < 480)) ?_
    rw [(d2.2.1 i him).1]
    refine loopU (S := St) (fun n' g s' => f_X5_go_L43 al (nI d) (nI i) (nI (wq (wout (fO p d M) ng c i) i)) Q _ n' g s') ng (fun g s' => chg [17, 18, 19, 20, 21] [6] u s' ∧ WR (u 17) (win (fO p d M) (wout (fO p d M) ng c i) i g) s') ?_ ?_ 0 (Nat.zero_le _) s ⟨d1, d2⟩
    · rintro n' g s' hg ⟨b1, b2⟩ kk2
      show f_X5_go_L43_s _ _ _ _ _ _ _ _ _
      unfold f_X5_go_L43_s
      have hGM : GM al ng M s' := hG.chg b1 (by decide)
      have hWI := win_WI (wout_WI (fO p d M) ng c i) him g (by omega)
      have hpre := win_pre (fO p d M) (wout (fO p d M) ng c i) i g
      have hple := hpre.1
      have h480 := O_480 hp.2 hd hc hM hWI
      have hgm := go_mem hK hi hg
      have hI' : gimg p (M g) (s' (23 + 2 * g)) := by
        rw [b1.2 (23 + 2 * g) (by omega) (by simp; omega)]; exact hI g hg
      rw [hGM.2.2.1]
      refine ⟨fun c => absurd c (nI_ge hg (by have := hGM.1; omega)), fun _ => ?_⟩
      rw [← hpre.kq him]
      refine image_ok hp.2 hg hGM.1 (by have := hGM.2.1; omega) hGM.2.2.1 h1 hd (O_lt hp.2 hd hc hWI i (by omega)) hI' ?_
      refine read_ok (by exact (by omega : i < 480)) ?_
      rw [(b2.2.1 i (by omega)).2.2.1, nI_1]
      have hfo : act p (M g) d (wq (win (fO p d M) (wout (fO p d M) ng c i) i g) i) = fO p d M g (wq (win (fO p d M) (wout (fO p d M) ng c i) i g) i) := rfl
      have hal := act_lt (p := p) (m := M g) (n := d) (c := wq (win (fO p d M) (wout (fO p d M) ng c i) i g) i) hp.2 hd
      rw [hfo] at hal ⊢
      refine reach_ok (g := g) (o := u 17) (s := win (fO p d M) (wout (fO p d M) ng c i) i g) (by omega) h480 (hlt hWI) (fun _ => rfl) b2 (fun hno => ?_) (fun _ => ho _ hgm) (fun hin => ?_) (fun hno v cv gv => ?_)
      · have := O_480 hp.2 hd hc hM (WI_psh hWI (by omega) hg hno)
        have h3 : (psh (win (fO p d M) (wout (fO p d M) ng c i) i g) (fO p d M g (wq (win (fO p d M) (wout (fO p d M) ng c i) i g) i)) i g (wt (win (fO p d M) (wout (fO p d M) ng c i) i g) i + 1)).1 = (win (fO p d M) (wout (fO p d M) ng c i) i g).1 + 1 := rfl
        omega
      · intro v16 e16
        rw [nI_1] at e16
        subst e16
        have hh := kk2 s' ⟨b1, by
          show WR _ (wst (fO p d M) (win (fO p d M) (wout (fO p d M) ng c i) i g) i g) s'
          rw [wst_in hin]; exact b2⟩
        rw [← hpre.kq him] at hh
        exact hh
      · intro v16 e16
        rw [nI_1] at e16
        subst e16
        have hh := kk2 v ⟨b1.tr cv, by
          show WR _ (wst (fO p d M) (win (fO p d M) (wout (fO p d M) ng c i) i g) i g) v
          rw [wst_no hno]; exact gv⟩
        rw [← hpre.kq him] at hh
        exact hh
    · rintro n' s' ⟨b1, b2⟩
      show f_X5_go_L43_s _ _ _ _ _ _ _ _ _
      unfold f_X5_go_L43_s
      have hGM : GM al ng M s' := hG.chg b1 (by decide)
      rw [hGM.2.2.1]
      refine ⟨fun _ v19 e19 => ?_, fun c => absurd (nI_le (Nat.le_refl _) (by have := hGM.1; omega)) c⟩
      rw [nI_1] at e19
      subst e19
      refine kk _ ⟨b1, ?_⟩
      rw [wout_s _ _ _ _ him]; exact b2
  · rintro n s ⟨d1, d2⟩
    show f_X5_go_L15_s _ _ _ _ _ _ _
    unfold f_X5_go_L15_s
    rw [d2.1, hKm]
    exact ⟨fun _ => h s d1 d2, fun c => absurd (nI_le (Nat.le_refl _) (by omega)) c⟩
theorem alone_ok {al p ng d c K : Nat} {M : Nat → Nat} {u : St} {Q : St → Prop} (hp : PP u p) (hM : gensOk p ng M) (hG : GM al ng M u) (hI : GI p ng M u) (h1 : 1 ≤ d) (hd : d ≤ 4) (hc : c < p ^ (d + 1)) (hK : stopAt (fO p d M) ng c K)
    (h : ∀ v, chg [17, 18, 19, 20, 21] [6] u v → WR (fun _ => 0) (wout (fO p d M) ng c K) v → Q v) : f_X5_alone al (nI d) (nI c) u Q := by
  have hpb := pow_b hp.2 (n := d + 1) (by omega)
  unfold f_X5_alone f_X5_clear
  refine fill_ok ?_
  have hc0 : chg [17, 18, 19, 20, 21] [6] u (sa u 17 (fun j => if j < lenC 17 then 0 else u 17 j)) := chg_sa (by decide) (by decide)
  refine go_ok (hp.sa (by decide)) hM (hG.chg hc0 (by decide)) (fun g hg => by rw [sa_n _ _ (by omega)]; exact hI g hg) h1 hd hc hK ?_ ?_
  · rintro x ⟨k, hk, e⟩
    have := O_lt hp.2 hd hc (wout_WI (fO p d M) ng c K) k hk
    rw [sa_k, if_pos (show x < lenC 17 from (show x < 3125 by omega))]
  · intro v cv wv
    obtain ⟨w1, w2, w3, w4⟩ := wv
    refine h v (hc0.tr cv) ⟨w1, w2, w3, fun x hx hno => ?_⟩
    rw [w4 x hx hno, sa_k, if_pos (show x < lenC 17 from hx)]
/-- the least of a row -/
def lst (q : Nat → Nat) : Nat → Nat
  | 0 => q 0
  | k + 1 => if q k < lst q k then q k else lst q k
theorem lst_lt {q : Nat → Nat} {N : Nat} (h0 : q 0 < N) : ∀ {k : Nat}, (∀ i, i < k → q i < N) → lst q k < N
  | 0, _ => h0
  | k + 1, h => by
    unfold lst
    have := lst_lt h0 (k := k) (fun i hi => h i (by omega))
    have := h k (by omega)
    split <;> omega
theorem least_ok {al : Nat} {o : Nat → Int32} {s : WS} {u : St} {Q : Int32 → St → Prop} (hW : WR o s u) (h0 : 0 < s.1) (hs : s.1 ≤ 480) (hq : ∀ k, k < s.1 → wq s k < 3125) (h : Q (nI (lst (wq s) s.1)) u) : f_X5_leastCode al u Q := by
  unfold f_X5_leastCode
  refine read_ok (i := 0) (by decide) ?_
  rw [(hW.2.1 0 h0).1]
  refine loopU2 (fun n i a b => f_X5_leastCode_L11 al Q (fun v9 u10 => Q v9 u10) n a i b) s.1 (fun i a b => b = u ∧ a = nI (lst (wq s) i)) ?_ ?_ 1 h0 (nI (wq s 0)) u ⟨rfl, by simp [lst]⟩
  · rintro n i a b hi ⟨rfl, rfl⟩ kk
    show f_X5_leastCode_L11_s _ _ _ _ _ _ _
    unfold f_X5_leastCode_L11_s
    rw [hW.1]
    refine ⟨fun c => absurd c (nI_ge hi (by omega)), fun _ => read_ok (by exact (by omega : i < 480)) ?_⟩
    rw [(hW.2.1 i hi).1]
    intro v6 e6 v7 e7
    rw [nI_1] at e7
    subst e7
    refine kk _ _ ⟨rfl, ?_⟩
    have h1 := hq i hi
    have h2 := lst_lt (hq 0 h0) (k := i) (fun j hj => hq j (by omega))
    have el : lst (wq s) (i + 1) = if wq s i < lst (wq s) i then wq s i else lst (wq s) i := rfl
    rw [e6, el]
    by_cases c : wq s i < lst (wq s) i
    · rw [if_pos c, if_pos ((nI_ltI (by omega) (by omega)).mpr c)]
    · rw [if_neg c, if_neg (fun q => c ((nI_ltI (by omega) (by omega)).mp q))]
  · rintro n a b ⟨rfl, rfl⟩
    show f_X5_leastCode_L11_s _ _ _ _ _ _ _
    unfold f_X5_leastCode_L11_s
    rw [hW.1]
    exact ⟨fun _ => h, fun c => absurd (nI_le (Nat.le_refl _) (by omega)) c⟩
/-- codes summed, place by place -/
def totS (p : Nat) (q : Nat → Nat) : Nat → Nat
  | 0 => 0
  | k + 1 => tot p (totS p q k) (q k)
theorem totS_lt {p : Nat} (hp : isP p) (q : Nat → Nat) : ∀ k, totS p q k < 3126
  | 0 => by unfold totS; omega
  | k + 1 => tot_lt hp
theorem sumc_ok {al p : Nat} {o : Nat → Int32} {s : WS} {u : St} {Q : Int32 → St → Prop} (hp : PP u p) (hW : WR o s u) (hs : s.1 ≤ 480) (hq : ∀ k, k < s.1 → wq s k < 3125) (h : Q (nI (totS p (wq s) s.1)) u) : f_X5_sumOfCodes al u Q := by
  unfold f_X5_sumOfCodes
  refine loopU2 (fun n i a b => f_X5_sumOfCodes_L4 al Q (fun v9 u10 => Q v9 u10) n a i b) s.1 (fun i a b => b = u ∧ a = nI (totS p (wq s) i)) ?_ ?_ 0 (Nat.zero_le _) 0 u ⟨rfl, rfl⟩
  · rintro n i a b hi ⟨rfl, rfl⟩ kk
    show f_X5_sumOfCodes_L4_s _ _ _ _ _ _ _
    unfold f_X5_sumOfCodes_L4_s
    rw [hW.1]
    refine ⟨fun c => absurd c (nI_ge hi (by omega)), fun _ => read_ok (by exact (by omega : i < 480)) ?_⟩
    rw [(hW.2.1 i hi).1]
    refine total_ok hp (by have := totS_lt hp.2 (wq s) i; omega) (by have := hq i hi; omega) ?_
    intro v7 e7
    rw [nI_1] at e7
    subst e7
    exact kk _ _ ⟨rfl, rfl⟩
  · rintro n a b ⟨rfl, rfl⟩
    show f_X5_sumOfCodes_L4_s _ _ _ _ _ _ _
    unfold f_X5_sumOfCodes_L4_s
    rw [hW.1]
    exact ⟨fun _ => h, fun c => absurd (nI_le (Nat.le_refl _) (by omega)) c⟩
theorem stepsTo_ok {al x : Nat} {s : WS} {u : St} {Q : Int32 → St → Prop} (hW : WR (fun _ => 0) s u) (hs : s.1 ≤ 480) (hx : x < 3125) (h1 : ∀ k, k < s.1 → wq s k = x → Q (nI (wt s k)) u) (h2 : ¬ wm s x → Q (-1) u) : f_X5_stepsTo al (nI x) u Q := by
  unfold f_X5_stepsTo
  by_cases hm : wm s x
  · obtain ⟨k, hk, e⟩ := hm
    have h17 : u 17 x = nI (k + 1) := by rw [← e]; exact (hW.2.1 k hk).2.2.2
    refine met_ok (n := k + 1) hx (by omega) h17 (fun q => absurd q (by omega)) (fun _ => ⟨fun c => absurd c (by decide), fun _ => ?_⟩)
    refine read_ok (by exact hx) ?_
    rw [h17, nI_pred]
    refine read_ok (by exact (by omega : k < 480)) ?_
    rw [(hW.2.1 k hk).2.2.1]
    exact h1 k hk e
  · exact met_ok (n := 0) hx (by omega) (hW.2.2.2 x hx hm) (fun _ => ⟨fun _ => h2 hm, fun c => absurd rfl c⟩) (fun q => absurd rfl q)
/-- so many steps back -/
def bk (s : WS) : Nat → Nat → Nat
  | pl, 0 => pl
  | pl, i + 1 => bk s (wf s pl) i
theorem back_ok {al st : Nat} {f : Nat → Nat → Nat} {ng c : Nat} {o : Nat → Int32} {s : WS} {u : St} {Q : Int32 → St → Prop} (hW : WR o s u) (hI : WI f ng c s) (hs : s.1 ≤ 480) : ∀ (i pl : Nat), pl < s.1 → wt s pl = st + 1 + i → (Q (nI (wg s (bk s pl i))) u) → ∃ n, f_X5_stepOnWayTo_L30 al (nI st) Q (fun v13 u14 => f_X6_read al 20 v13 u14 (fun v15 u16 => Q v15 u16)) n (nI pl) (nI (st + i)) u := by
  intro i
  induction i with
  | zero =>
    intro pl hpl ht h
    refine ⟨1, ?_⟩
    show f_X5_stepOnWayTo_L30_s _ _ _ _ _ _ _ _
    unfold f_X5_stepOnWayTo_L30_s
    have := WI_t hI pl hpl
    refine ⟨fun _ => read_ok (by exact (by omega : pl < 480)) ?_, fun c => absurd (nI_le (Nat.le_refl _) (by omega)) c⟩
    have h0 : 0 < pl := by omega
    rw [hW.2.2.1 pl h0 hpl]
    exact h
  | succ i ih =>
    intro pl hpl ht h
    have := WI_t hI pl hpl
    have h0 : 0 < pl := by omega
    obtain ⟨b1, b2, b3, b4⟩ := hI.2.2.2 pl h0 hpl
    obtain ⟨n, hn⟩ := ih (wf s pl) (by omega) (by omega) h
    refine ⟨n + 1, ?_⟩
    show f_X5_stepOnWayTo_L30_s _ _ _ _ _ _ _ _
    unfold f_X5_stepOnWayTo_L30_s
    refine ⟨fun c => absurd c (nI_ge (by omega) (by omega)), fun _ => read_ok (by exact (by omega : pl < 480)) ?_⟩
    rw [(hW.2.1 pl hpl).2.1]
    intro v11 e11
    rw [nI_d, show st + (i + 1) = (st + i) + 1 by omega, dI_s] at e11
    subst e11
    exact hn
theorem stepOn_ok {al x st : Nat} {f : Nat → Nat → Nat} {ng c : Nat} {s : WS} {u : St} {Q : Int32 → St → Prop} (hW : WR (fun _ => 0) s u) (hI : WI f ng c s) (hs : s.1 ≤ 480) (hx : x < 3125) (hst : st < 2147483648)
    (h1 : ∀ k, k < s.1 → wq s k = x → st < wt s k → Q (nI (wg s (bk s k (wt s k - 1 - st)))) u) (h2 : ∀ k, k < s.1 → wq s k = x → ¬ st < wt s k → Q (-1) u) (h3 : ¬ wm s x → Q (-1) u) : f_X5_stepOnWayTo al (nI x) (nI st) u Q := by
  unfold f_X5_stepOnWayTo
  refine stepsTo_ok hW hs hx (fun k hk e => ?_) (fun hno => ?_)
  · have ht := WI_t hI k hk
    refine ⟨fun c => ?_, fun c => h2 k hk e (fun q => c ((nI_ltI (by omega) (by omega)).mpr q))⟩
    have hlt := (nI_ltI (by omega) (by omega)).mp c
    refine read_ok (by exact hx) ?_
    have h17 : u 17 x = nI (k + 1) := by rw [← e]; exact (hW.2.1 k hk).2.2.2
    rw [h17]
    intro v6 e6 v7 e7
    rw [nI_pred] at e6
    subst e6
    rw [show nI (wt s k) = nI ((st + (wt s k - 1 - st)) + 1) by congr 1; omega, nI_pred] at e7
    subst e7
    exact back_ok hW hI hs (wt s k - 1 - st) k hk (by omega) (h1 k hk e hlt)
  · refine ⟨fun c => ?_, fun _ => h3 hno⟩
    rw [iI_n, show (-1 : Int32) = iI (-1) from rfl] at c
    have := (iI_lt (by omega) (by omega) (by omega) (by omega)).mp c
    omega
