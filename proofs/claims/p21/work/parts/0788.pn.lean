/-! isWay -/
section PN
variable {al p ng nf : Nat} {M D C : Nat → Nat} {u : St}
theorem way_tail {f : Nat} {Q : Int32 → St → Prop} (hC : CI al p ng M nf D C u) (hf : f < nf) (hQ : ∀ v, CI al p ng M nf D C v → Q 1 v) : ((nI (D f) ≤ 0 → Q 0 u) ∧ (¬ nI (D f) ≤ 0 → f_L_power al (nI p) (nI (D f) + 1) u (fun v37 u38 => f_X6_formIs al (nI f) 6 u38 (fun v39 u40 => ((v37 ≤ v39 → Q 0 u40) ∧ (¬ v37 ≤ v39 → Q 1 u40))) (fun _ _ => False)))) := by
  have hp := hC.1.2
  obtain ⟨⟨hd1, hd⟩, hcf, hc31⟩ := hC.f hf
  obtain ⟨l, n, hl, -⟩ := hC.2.2.2.2.2.2
  have hpw := pow_b hp (show D f + 1 ≤ 5 by omega)
  refine ⟨fun c => ?_, fun _ => ?_⟩
  · have := (nI_le0 (by omega)).mp c
    omega
  · rw [nI_1]
    refine lpow_ok (by omega) (fI6 hC hf (fun K v hK hv => ⟨fun c => ?_, fun _ => hQ v hv⟩))
    have h1 := least_lt hp hd hcf hC.2.1 hl hK
    exact absurd c (nI_ge h1 (by omega))
theorem neg_facts : ¬ (-1 : Int32) < -1 ∧ (-1 : Int32) < 0 ∧ ¬ (-1 : Int32) = 0 ∧ (-1 : Int32) < 1 ∧ ¬ (0 : Int32) ≤ -1 := by decide
set_option maxHeartbeats 4000000 in
theorem isWay_ok {f g : Nat} {Q : Int32 → St → Prop} (hC : CI al p ng M nf D C u) (hf : f < nf) (hg : g < nf) (hD : D f = D g) (hQ : ∀ v, CI al p ng M nf D C v → Q 1 v) : f_L_isWay al (nI p) (nI f) (nI g) u Q := by
  have hp := hC.1.2
  have hM := hC.2.1
  have h4 := hC.2.2.1.1
  obtain ⟨⟨hd1, hd⟩, hcf, hc31⟩ := hC.f hf
  obtain ⟨-, hcg, hg31⟩ := hC.f hg
  rw [← hD] at hcg
  obtain ⟨l, n, hl, -⟩ := hC.2.2.2.2.2.2
  have hpw := pow_b hp (show D f + 1 ≤ 5 by omega)
  unfold f_L_isWay
  refine fI0 hC hf (fun u2 c2 => askWay c2 hf hg hD (fun r u4 hr c4 => fI6 c4 hf (fun K6 u6 hK6 c6 => fI6 c6 hg (fun K8 u8 hK8 c8 v9 q1 q2 => ?_))))
  rw [← hD] at hK8 q1 q2
  have l6 := least_lt hp hd hcf hM hl hK6
  have l8 := least_lt hp hd hcg hM hl hK8
  have hls : nI (lst (wq (wout (fO p (D f) M) ng (C f) K6)) K6) = nI (lst (wq (wout (fO p (D f) M) ng (C g) K8)) K8) ↔ orb p (D f) l n (C f) (C g) := by
    rw [nI_eq (by omega) (by omega)]
    exact least_same hp hd hcf hcg hM hl hK6 hK8
  have hback : ∀ r2, wayR p ng M (D g) (C g) (C f) r2 → (r2 < 0 ↔ ¬ orb p (D f) l n (C f) (C g)) := by
    intro r2 hr2
    rw [← hD] at hr2
    have hsy : orb p (D f) l n (C f) (C g) ↔ orb p (D f) l n (C g) (C f) := ⟨orb_sy hp hd hl hcf, orb_sy hp hd hl hcg⟩
    obtain ⟨K, hK, h480, h9⟩ := way_cases hp hd hcg hM hl hr2
    rcases h9 with ⟨ho, k, hk, -, er, hwk⟩ | ⟨ho, er⟩
    · rw [er]
      exact ⟨fun e => absurd e (nI_pos (by omega)), fun e => absurd (hsy.mpr ho) e⟩
    · rw [er]
      exact ⟨fun _ e => ho (hsy.mp e), fun _ => neg_facts.2.1⟩
  obtain ⟨K, hK, h480, h9⟩ := way_cases hp hd hcf hM hl hr
  have hm := stop_m hK
  have hW := wout_WI (fO p (D f) M) ng (C f) K
  have hq0 := WI_q0 hW
  rcases h9 with ⟨ho, k, hk, ek, er, hwk⟩ | ⟨ho, er⟩
  · -- on one orbit
    subst er
    have hr0 : ¬ nI (wt (wout (fO p (D f) M) ng (C f) K) k) < 0 := nI_pos (by omega)
    have h3 : nI (wt (wout (fO p (D f) M) ng (C f) K) k) = 0 ↔ nI (C f) = nI (C g) := by
      rw [nI_z (by omega), nI_eq (by omega) (by omega), wt_0 hW (by omega)]
      constructor
      · intro e; subst e; rw [← ek, hq0]
      · intro e
        exact (w_one hK (show 0 < K by omega) hk (by rw [hq0, ek, e])).symm
    refine ⟨fun c => absurd c (fun c => hr0 (Int32.lt_trans c (by decide))), fun _ v12 q3 q4 => ⟨fun c => absurd (tests_eq (A := nI (lst (wq (wout (fO p (D f) M) ng (C f) K6)) K6) = nI (lst (wq (wout (fO p (D f) M) ng (C g) K8)) K8)) ⟨fun _ => hr0, fun _ => hls.mpr ho⟩ q1 q2 q3 q4).symm c, fun _ v15 q5 q6 => fI1 c8 hf (fun u18 c18 => fI1 c18 hg (fun u20 c20 v21 q7 q8 => ⟨fun c => absurd (tests_eq2 h3 q5 q6 q7 q8) c, fun _ => askWay c20 hg hf hD.symm (fun r2 u25 hr2 c25 v26 q9 q10 => ⟨fun c => absurd (tests_eq (A := nI (lst (wq (wout (fO p (D f) M) ng (C f) K6)) K6) = nI (lst (wq (wout (fO p (D f) M) ng (C g) K8)) K8)) (B := r2 < 0) ⟨fun _ e => (hback r2 hr2).mp e ho, fun _ => hls.mpr ho⟩ q1 q2 q9 q10).symm c, fun _ v29 q11 q12 => ?_⟩)⟩))⟩⟩
    rw [q11 (nI_pos' (by omega))]
    refine askStep c25 hf hg hD (by omega) (fun r3 u32 hr3 c32 => ?_)
    have e3 : r3 = -1 := step_end hK hr3 (fun k2 hk2 e2 => by
      have := w_one hK hk hk2 (ek.trans e2.symm)
      subst this
      exact Nat.lt_irrefl _)
    refine ⟨fun c => absurd e3 c, fun _ => ⟨fun s => CI al p ng M nf D C s, ⟨fun _ => c32, fun c1 => ?_⟩, fun u35 hv => way_tail hv hf hQ⟩⟩
    have ht1 : 1 ≤ wt (wout (fO p (D f) M) ng (C f) K) k := Nat.not_lt.mp (fun q => c1 (by
      have e0 : wt (wout (fO p (D f) M) ng (C f) K) k = 0 := by omega
      rw [e0]; decide))
    rw [show nI (wt (wout (fO p (D f) M) ng (C f) K) k) - 1 = nI (wt (wout (fO p (D f) M) ng (C f) K) k - 1) by
      rw [show (1 : Int32) = nI 1 from rfl, pk_sub ht1]]
    refine askStep c32 hf hg hD (by omega) (fun r4 u44 hr4 c44 => ⟨fun c => absurd c (step_goes h4 hK hk ek ht1 hr4), fun _ => fI5 c44 hf (fun K5 u47 hK5 c47 => ⟨fun c => ?_, fun _ => c47⟩)⟩)
    have := stop_one hK hK5
    subst this
    exact absurd c (nI_ge (by omega) (by omega))
  · subst er
    have h3 : (-1 : Int32) = 0 ↔ nI (C f) = nI (C g) := by
      rw [nI_eq (by omega) (by omega)]
      refine ⟨fun e => absurd e (by decide), fun e => absurd ?_ ho⟩
      rw [← e]
      exact orb_rf hp hd hl hcf
    refine ⟨fun c => absurd c neg_facts.1, fun _ v12 q3 q4 => ⟨fun c => absurd (tests_eq (A := nI (lst (wq (wout (fO p (D f) M) ng (C f) K6)) K6) = nI (lst (wq (wout (fO p (D f) M) ng (C g) K8)) K8)) ⟨fun e => absurd (hls.mp e) ho, fun e => absurd neg_facts.2.1 e⟩ q1 q2 q3 q4).symm c, fun _ v15 q5 q6 => fI1 c8 hf (fun u18 c18 => fI1 c18 hg (fun u20 c20 v21 q7 q8 => ⟨fun c => absurd (tests_eq2 h3 q5 q6 q7 q8) c, fun _ => askWay c20 hg hf hD.symm (fun r2 u25 hr2 c25 v26 q9 q10 => ⟨fun c => absurd (tests_eq (A := nI (lst (wq (wout (fO p (D f) M) ng (C f) K6)) K6) = nI (lst (wq (wout (fO p (D f) M) ng (C g) K8)) K8)) (B := r2 < 0) ⟨fun e => absurd (hls.mp e) ho, fun e => absurd ((hback r2 hr2).mpr ho) e⟩ q1 q2 q9 q10).symm c, fun _ v29 q11 q12 => ?_⟩)⟩))⟩⟩
    rw [q12 neg_facts.2.2.2.2]
    refine askStep (st := 0) c25 hf hg hD (by omega) (fun r3 u32 hr3 c32 => ?_)
    have e3 : r3 = -1 := step_end hK hr3 (fun k2 hk2 e2 => absurd ((wm_orb hp hd hcf hM hl hK).mp ⟨k2, by omega, e2⟩) ho)
    exact ⟨fun c => absurd e3 c, fun _ => ⟨fun s => CI al p ng M nf D C s, ⟨fun _ => c32, fun c1 => absurd neg_facts.2.2.2.1 c1⟩, fun u35 hv => way_tail hv hf hQ⟩⟩
end PN
