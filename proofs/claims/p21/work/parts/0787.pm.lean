/-! isForm -/
theorem sm_mod {p : Nat} {f g : Nat → Nat} : ∀ {n : Nat}, (∀ i, i < n → f i % p = g i % p) → fb_sm f n % p = fb_sm g n % p
  | 0, _ => rfl
  | n + 1, h => by
    rw [fb_sm_succ, fb_sm_succ, Nat.add_mod, sm_mod (n := n) (fun i hi => h i (by omega)), h n (by omega), ← Nat.add_mod]
theorem md1 (a t s p : Nat) : (a + t * (s % p)) % p = (t * s + a) % p := by
  rw [Nat.add_mod, Nat.mul_mod_mod, ← Nat.add_mod, Nat.add_comm]
theorem md2 (a b p : Nat) : a * (b % p) * (1 % p) % p = a * b % p := by
  rw [Nat.mul_mod_mod, Nat.mul_one, Nat.mul_mod_mod]
theorem carr_sum {p t : Nat} (F : Nat → Nat) : ∀ d, carr p t F d = fb_sm (fun i => F i * t ^ (d - i)) (d + 1) % p
  | 0 => by
    show F 0 % p = (0 + F 0 * t ^ (0 - 0)) % p
    rw [Nat.sub_self, Nat.pow_zero, Nat.mul_one, Nat.zero_add]
  | d + 1 => by
    show (F (d + 1) + t * carr p t F d) % p = (fb_sm (fun i => F i * t ^ (d + 1 - i)) (d + 1) + F (d + 1) * t ^ (d + 1 - (d + 1))) % p
    have e : fb_sm (fun i => F i * t ^ (d + 1 - i)) (d + 1) = t * fb_sm (fun i => F i * t ^ (d - i)) (d + 1) := by
      rw [← sm_scale]
      refine fb_sm_cong (fun i hi => ?_)
      rw [show d + 1 - i = d - i + 1 by omega, Nat.pow_succ, Nat.mul_comm (t ^ (d - i)) t, Nat.mul_left_comm]
    rw [carr_sum F d, Nat.sub_self, Nat.pow_zero, Nat.mul_one, e]
    exact md1 _ _ _ _
theorem atV_t {p t d : Nat} (F : Nat → Nat) : atV p t 1 d F = carr p t F d := by
  rw [carr_sum]
  unfold atV
  refine sm_mod (fun i hi => ?_)
  rw [Nat.one_pow]
  exact md2 _ _ _
theorem atV_y {p d : Nat} (hp : 2 ≤ p) (F : Nat → Nat) : atV p 1 0 d F = F 0 % p := by
  unfold atV
  rw [sm_only (F := fun i => F i * (1 ^ (d - i) % p) * (0 ^ i % p)) (r := 0) (v := F 0) (by omega) (by
    show F 0 * (1 ^ (d - 0) % p) * (0 ^ 0 % p) = F 0
    rw [Nat.one_pow, Nat.pow_zero, Nat.mod_eq_of_lt (show 1 < p by omega), Nat.mul_one, Nat.mul_one]) (fun k hk h0 => by
    show F k * (1 ^ (d - k) % p) * (0 ^ k % p) = 0
    rw [Nat.zero_pow (Nat.pos_of_ne_zero h0), Nat.zero_mod, Nat.mul_zero])]
theorem atV_0 {p d : Nat} (hd : 1 ≤ d) (F : Nat → Nat) : atV p 0 0 d F = 0 := by
  unfold atV
  rw [fb_sm_cong (g := fun _ => 0) (fun i hi => by
    by_cases q : i = 0
    · subst q
      rw [Nat.sub_zero, Nat.zero_pow (show 0 < d by omega), Nat.zero_mod, Nat.mul_zero, Nat.zero_mul]
    · rw [Nat.zero_pow (n := i) (Nat.pos_of_ne_zero q), Nat.zero_mod, Nat.mul_zero]), fb_sm_const, Nat.mul_zero, Nat.zero_mod]
theorem dvs_pos_t {p t d : Nat} (ht : t < p) (F : Nat → Nat) : 0 < dvs p t (d + 1) F ↔ carr p t F d = 0 := by
  rw [dvs_s, if_neg (by omega)]
  by_cases q : carr p t F d = 0
  · rw [if_pos q]; exact ⟨fun _ => q, fun _ => Nat.succ_pos _⟩
  · rw [if_neg q]; exact ⟨fun h => absurd h (Nat.lt_irrefl 0), fun h => absurd h q⟩
theorem dvs_pos_p {p d : Nat} (F : Nat → Nat) : 0 < dvs p p (d + 1) F ↔ F 0 = 0 := by
  rw [dvs_s, if_pos rfl]
  by_cases q : F 0 = 0
  · rw [if_pos q]; exact ⟨fun _ => q, fun _ => Nat.succ_pos _⟩
  · rw [if_neg q]; exact ⟨fun h => absurd h (Nat.lt_irrefl 0), fun h => absurd h q⟩
theorem nI_z {n : Nat} (h : n < 1000000) : nI n = 0 ↔ n = 0 := nI_eq (b := 0) (by omega) (by decide)
theorem nI_le0 {n : Nat} (h : n < 1000000) : nI n ≤ 0 ↔ n = 0 := by
  have := nI_leI (a := n) (b := 0) (by omega) (by decide)
  rw [show nI 0 = (0 : Int32) from rfl] at this
  rw [this]; omega
/-- two tests that say the same -/
theorem tests_eq {A B : Prop} {v w : Int32} (h : A ↔ ¬ B) (a0 : ¬ A → v = 0) (a1 : A → v = 1) (b0 : B → w = 0) (b1 : ¬ B → w = 1) : v = w := by
  by_cases q : A
  · rw [a1 q, b1 (h.mp q)]
  · rw [a0 q, b0 (Classical.byContradiction (fun e => q (h.mpr e)))]
theorem tests_eq2 {A B : Prop} {v w : Int32} (h : A ↔ B) (a0 : ¬ A → v = 0) (a1 : A → v = 1) (b0 : ¬ B → w = 0) (b1 : B → w = 1) : v = w := by
  by_cases q : A
  · rw [a1 q, b1 (h.mp q)]
  · rw [a0 q, b0 (fun e => q (h.mpr e))]
theorem tests_eq3 {A B : Prop} {v w : Int32} (h : A ↔ B) (a0 : A → v = 0) (a1 : ¬ A → v = 1) (b0 : B → w = 0) (b1 : ¬ B → w = 1) : v = w := by
  by_cases q : A
  · rw [a0 q, b0 (h.mp q)]
  · rw [a1 q, b1 (fun e => q (h.mpr e))]
section PM
variable {al p ng nf : Nat} {M D C : Nat → Nat} {u : St}
set_option maxHeartbeats 4000000 in
theorem isForm_ok {f hh : Nat} {Q : Int32 → St → Prop} (hC : CI al p ng M nf D C u) (hf : f < nf) (hh1 : hh ≤ 1) (hQ : ∀ v, CI al p ng M nf D C v → Q 1 v) : f_L_isForm al (nI p) (nI f) (nI hh) u Q := by
  have hp := hC.1.2
  have hb := isP_b hp
  have hp0 : 0 < p := by omega
  obtain ⟨⟨hd1, hd⟩, hcf, hc31⟩ := hC.f hf
  have hdl : ∀ i, dvs p i (D f + 1) (dg p (C f)) ≤ 5 := fun i => by have := dvs_le p i (D f + 1) (dg p (C f)); omega
  unfold f_L_isForm
  refine fI0 hC hf (fun v2 c2 => fI1 c2 hf (fun v4 c4 => ?_))
  refine loopU (S := Int32 × Int32 × Int32 × St) (fun m t s => f_L_isForm_L28 al (nI p) (nI f) (nI hh) (nI (D f)) (nI (C f)) Q _ m s.1 s.2.1 s.2.2.1 t s.2.2.2) (p + 1) (fun t s => CI al p ng M nf D C s.2.2.2 ∧ s.1 = nI (fb_ct (fun i => decide (0 < dvs p i (D f + 1) (dg p (C f)))) t) ∧ s.2.1 = nI (fb_sm (fun i => dvs p i (D f + 1) (dg p (C f))) t) ∧ ∃ m, s.2.2.1 = nI m ∧ m ≤ 5 ∧ (∀ i, i < t → dvs p i (D f + 1) (dg p (C f)) ≤ m) ∧ (m = 0 ∨ ∃ i, i < t ∧ dvs p i (D f + 1) (dg p (C f)) = m)) ?_ ?_ 0 (Nat.zero_le _) (0, 0, 0, v4) ⟨c4, rfl, rfl, 0, rfl, by omega, fun i hi => absurd hi (Nat.not_lt_zero _), Or.inl rfl⟩
  · rintro m t ⟨x6, x7, x8, s⟩ ht ⟨c1, e6, e7, mx, e8, hm5, h8, h9⟩ kk
    dsimp only at c1 e6 e7 e8
    show f_L_isForm_L28_s _ _ _ _ _ _ _ _ _ _ _ _ _ _
    unfold f_L_isForm_L28_s
    dsimp only
    subst e6 e7 e8
    refine ⟨fun c => absurd ((nI_ltI (by omega) (by omega)).mp c) (by omega), fun _ => fMul c1 hf (by omega) (fun v7 c7 v8 q1 q2 v10 e10 v11 e11 => ?_)⟩
    have hl := hdl t
    have e10' : v10 = nI (fb_ct (fun i => decide (0 < dvs p i (D f + 1) (dg p (C f)))) (t + 1)) := by
      rw [e10, fb_ct_succ]
      by_cases q : 0 < dvs p t (D f + 1) (dg p (C f))
      · rw [q2 (fun e => by have := (nI_le0 (by omega)).mp e; omega), if_pos (decide_eq_true q), nI_1]
      · rw [q1 ((nI_le0 (by omega)).mpr (by omega)), if_neg (fun e => q (of_decide_eq_true e)), Nat.add_zero]
        rw [show (0 : Int32) = nI 0 from rfl, nI_add, Nat.add_zero]
    rw [nI_add] at e11
    have e11' : v11 = nI (fb_sm (fun i => dvs p i (D f + 1) (dg p (C f))) (t + 1)) := e11
    refine ⟨fun c v13 e13 => ?_, fun c v14 e14 => ?_⟩
    · rw [nI_1] at e13
      subst e13
      have c' := (nI_leI (by omega) (by omega)).mp c
      refine kk (v10, v11, nI mx, v7) ⟨c7, e10', e11', mx, rfl, hm5, fun i hi => ?_, ?_⟩
      · by_cases q : i < t
        · exact h8 i q
        · have : i = t := by omega
          subst this; exact c'
      · rcases h9 with h9 | ⟨i, hi, e⟩
        · exact Or.inl h9
        · exact Or.inr ⟨i, by omega, e⟩
    · rw [nI_1] at e14
      subst e14
      have c' : mx < dvs p t (D f + 1) (dg p (C f)) := Nat.not_le.mp (fun q => c (nI_le q (by omega)))
      refine kk (v10, v11, nI (dvs p t (D f + 1) (dg p (C f))), v7) ⟨c7, e10', e11', _, rfl, hl, fun i hi => ?_, Or.inr ⟨t, by omega, rfl⟩⟩
      by_cases q : i < t
      · have := h8 i q; omega
      · have : i = t := by omega
        subst this; exact Nat.le_refl _
  · rintro m ⟨x6, x7, x8, s⟩ ⟨c1, e6, e7, mx, e8, hm5, h8, h9⟩
    dsimp only at c1 e6 e7 e8
    show f_L_isForm_L28_s _ _ _ _ _ _ _ _ _ _ _ _ _ _
    unfold f_L_isForm_L28_s
    dsimp only
    subst e6 e7 e8
    refine ⟨fun _ => ?_, fun c => absurd ((nI_ltI (by omega) (by omega)).mpr (by omega)) c⟩
    have hsb : fb_sm (fun i => dvs p i (D f + 1) (dg p (C f))) (p + 1) ≤ (p + 1) * 5 := fb_sm_bound (fun i _ => hdl i)
    refine fI2 c1 hf (fun v21 c21 => ⟨fun v s => v = 1 ∧ CI al p ng M nf D C s, ⟨fun c => absurd rfl c, fun _ v72 q1 q2 => fI3 c21 hf (fun r v75 n1 n2 c75 v76 q3 q4 => ?_)⟩, fun v22 u24 hv => ?_⟩)
    · have key : nul p (D f) (C f) ↔ ¬ 2 * nI mx ≤ nI (D f) := by
        rw [two_mul, nI_leI (by omega) (by omega)]
        constructor
        · rintro ⟨t, ht, h1⟩
          have := h8 t ht
          omega
        · intro h1
          rcases h9 with h9 | ⟨i, hi, e⟩
          · omega
          · exact ⟨i, hi, by omega⟩
      have hv : v72 = v76 := by
        by_cases qn : nul p (D f) (C f)
        · rw [q2 (key.mp qn), q4 (n1 qn)]
        · rw [q1 (Classical.byContradiction (fun e => qn (key.mpr e))), q3 (fun e => by rw [n2 qn] at e; exact absurd e (by decide))]
      refine ⟨fun c => absurd hv c, fun _ => ⟨fun c0 => ⟨fun c => ?_, fun _ => ⟨rfl, c75⟩⟩, fun c0 => ⟨fun c => ?_, fun _ => ⟨rfl, c75⟩⟩⟩⟩
      · have h1 := mus_le hp hd hcf (fun e => c0 ((nI_z (by omega)).mpr e))
        have h1 : fb_sm (fun i => dvs p i (D f + 1) (dg p (C f))) (p + 1) ≤ D f := h1
        have := (nI_ltI (by omega) (by omega)).mp c
        omega
      · have h0 : C f = 0 := (nI_z (by omega)).mp c0
        refine absurd ?_ c
        rw [nI_1, nI_1, pk_mul, h0]
        rw [fb_sm_cong (g := fun _ => D f + 1) (fun i _ => dvs_0 (fun j => by simp [dg])), fb_sm_const]
    · obtain ⟨rfl, c24⟩ := hv
      refine loopU (S := Int32 × St) (fun m t s => f_L_isForm_L168 al (nI p) (nI f) (nI hh) Q _ m s.1 t s.2) p (fun t s => s.1 = 1 ∧ CI al p ng M nf D C s.2) ?_ ?_ 0 (Nat.zero_le _) (1, u24) ⟨rfl, c24⟩
      · rintro m t ⟨x9, s⟩ ht ⟨e9, c1⟩ kk
        dsimp only at e9 c1
        show f_L_isForm_L168_s _ _ _ _ _ _ _ _ _ _
        unfold f_L_isForm_L168_s
        dsimp only
        subst e9
        refine ⟨fun c => absurd c (nI_ge ht (by omega)), fun _ => ⟨fun c => absurd c (by decide), fun _ => fAt c1 hf ht (show 1 < p by omega) (fun v26 c26 v27 q1 q2 => fMul c26 hf (by omega) (fun v30 c30 v31 q3 q4 => ?_))⟩⟩
        have hl := hdl t
        have ha : atV p t 1 (D f) (dg p (C f)) < p := Nat.mod_lt _ hp0
        have hv : v27 = v31 := by
          refine tests_eq (A := nI (atV p t 1 (D f) (dg p (C f))) = 0) (B := nI (dvs p t (D f + 1) (dg p (C f))) ≤ 0) ?_ q1 q2 q3 q4
          rw [nI_z (by omega), nI_le0 (by omega), atV_t, ← dvs_pos_t ht]
          omega
        refine ⟨fun c => absurd hv c, fun _ => fAt c30 hf (show 0 < p by omega) ht (fun v36 c36 => ⟨fun v s => v = nI (atV p 0 t (D f) (dg p (C f))) ∧ CI al p ng M nf D C s, ⟨fun c0 => fAt c36 hf (show 0 < p by omega) ht (fun v45 c45 => ⟨rfl, c45⟩), fun c0 => ⟨?_, c36⟩⟩, fun v37 u39 hv => ⟨fun c => absurd hv.1.symm c, fun _ v42 e42 => ?_⟩⟩)⟩
        · have : t = 0 := (nI_z (by omega)).mp c0
          subst this
          rw [atV_0 hd1]; rfl
        · rw [nI_1] at e42
          subst e42
          exact kk (1, u39) ⟨rfl, hv.2⟩
      · rintro m ⟨x9, s⟩ ⟨e9, c1⟩
        dsimp only at e9 c1
        show f_L_isForm_L168_s _ _ _ _ _ _ _ _ _ _
        unfold f_L_isForm_L168_s
        dsimp only
        subst e9
        refine ⟨fun _ => ⟨fun c => absurd c (by decide), fun _ => fAt c1 hf (show 1 < p by omega) (show 0 < p by omega) (fun v53 c53 v54 q1 q2 => fMul c53 hf (Nat.le_refl _) (fun v57 c57 v58 q3 q4 => ?_))⟩, fun c => absurd (nI_le (Nat.le_refl _) (by omega)) c⟩
        have hl := hdl p
        have ha : atV p 1 0 (D f) (dg p (C f)) < p := Nat.mod_lt _ hp0
        have hv : v54 = v58 := by
          refine tests_eq (A := nI (atV p 1 0 (D f) (dg p (C f))) = 0) (B := nI (dvs p p (D f + 1) (dg p (C f))) ≤ 0) ?_ q1 q2 q3 q4
          rw [nI_z (by omega), nI_le0 (by omega), atV_y (by omega), Nat.mod_eq_of_lt (dg_lt hp0 _ _), ← dvs_pos_p (p := p) (d := D f)]
          omega
        refine ⟨fun c => absurd hv c, fun _ => ⟨fun _ => hQ _ c57, fun _ => fI4 c57 hf (fun v63 c63 v64 q5 q6 => fI5 c63 hf (fun K v67 hK c67 v68 q7 q8 => ?_))⟩⟩
        have hK480 : K ≤ 480 := by
          have := O_480 hp hd hcf hC.2.1 (wout_WI (fO p (D f) M) ng (C f) K)
          rw [stop_m hK] at this
          exact this
        have hv2 : v64 = v68 := by
          refine tests_eq2 (A := (if lvs p ng (D f) M (C f) = true then (1 : Int32) else 0) = 1) (B := nI K = 1) ?_ q5 q6 q7 q8
          rw [show (nI K = 1) = (K = 1) from propext (nI_eq (b := 1) (by omega) (by decide)), ← lvs_stop hK]
          by_cases ql : lvs p ng (D f) M (C f) = true
          · rw [if_pos ql]; exact ⟨fun _ => ql, fun _ => rfl⟩
          · rw [if_neg ql]; exact ⟨fun e => absurd e (by decide), fun e => absurd e ql⟩
        exact ⟨fun c => absurd hv2 c, fun _ => hQ _ c67⟩
end PM
