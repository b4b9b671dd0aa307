/-! the class's primes and forms told -/
theorem prime_go {al p p' ng nf : Nat} {M D C : Nat → Nat} {u : St} {Q : Int32 → St → Prop} (hC : CI al p ng M nf D C u) (hp' : isP p')
    (h : ∀ v, (∀ M' D' C', CI al p' 0 M' 0 D' C' v) → Q (nI p) v) : ∀ v2 : Int32, v2 = u 0 0 → ∀ u3 : St, u3 = su u 0 0 (nI p') → ∀ u4 : St, u4 = su u3 0 7 0 → f_X4_forget al u4 (fun u5 => f_J7_fill_53178 12 0 u5 (fun u6 => Q v2 u6)) := by
  intro v2 e2 u3 e3 u4 e4
  have hpp : PP u4 p' := by
    refine ⟨?_, hp'⟩
    rw [e4, su_kn _ _ _ (by decide), e3, su_kk]
  have e2b : v2 = nI p := by rw [e2]; exact hC.1.1
  rw [e2b]
  refine forget_ok hpp ?_
  intro v l n cv v4 gl h480 v5 v15
  refine fill_ok ?_
  have c12 : chg [12] [] v (sa v 12 (fun j => if j < lenC 12 then 0 else v 12 j)) := chg_sa (by decide) (by decide)
  refine h _ (fun M' D' C' => ⟨?_, fun g hg => absurd hg (Nat.not_lt_zero _), ⟨by omega, by omega, ?_, fun g hg => absurd hg (Nat.not_lt_zero _)⟩, fun g hg => absurd hg (Nat.not_lt_zero _), ⟨by omega, ?_⟩, fun f hf => absurd hf (Nat.not_lt_zero _), l, n, gl M', h480, ?_, fun k hk => ?_, fun d d1 d2 => ?_⟩)
  · exact c12.pp (cv.pp hpp (by decide)) (by decide)
  · rw [c12.1 4 (by decide)]; exact v4
  · rw [c12.1 7 (by decide), cv.1 7 (by decide), e4, su_kk]; rfl
  · rw [c12.1 5 (by decide)]; exact v5
  · rw [c12.2 15 (by decide) (by decide)]; exact v15 k hk
  · rw [sa_k, if_pos (show d < lenC 12 from (show d < 5 by omega))]; exact Or.inl rfl
theorem prime_ok {al p ng nf : Nat} {M D C : Nat → Nat} {a : Int32} {u : St} {Q : Int32 → St → Prop} {QX : String → St → Prop} (hC : CI al p ng M nf D C u)
    (h1 : ∀ p' v, isP p' → a = nI p' → (∀ M' D' C', CI al p' 0 M' 0 D' C' v) → Q (nI p) v) (h2 : (¬ ∃ p', isP p' ∧ a = nI p') → QX "java/lang/IllegalArgumentException" u) : f_X6_prime al a u Q QX := by
  unfold f_X6_prime
  refine ⟨fun e => ?_, fun n2 => ⟨fun e => ?_, fun n3 => ⟨fun e => ?_, fun n5 => h2 ?_⟩⟩⟩
  · rw [e]; exact prime_go (p' := 2) hC (Or.inl rfl) (fun v hv => h1 2 v (Or.inl rfl) e hv)
  · rw [e]; exact prime_go (p' := 3) hC (Or.inr (Or.inl rfl)) (fun v hv => h1 3 v (Or.inr (Or.inl rfl)) e hv)
  · rw [e]; exact prime_go (p' := 5) hC (Or.inr (Or.inr rfl)) (fun v hv => h1 5 v (Or.inr (Or.inr rfl)) e hv)
  · rintro ⟨p', (rfl | rfl | rfl), e⟩
    · exact n2 e
    · exact n3 e
    · exact n5 e
def nxt (F : Nat → Nat) (n x : Nat) : Nat → Nat := fun i => if i = n then x else F i
theorem form_ok {al p ng nf : Nat} {M D C : Nat → Nat} {a b : Int32} {u : St} {Q : Int32 → St → Prop} {QX : String → St → Prop} (hC : CI al p ng M nf D C u)
    (h1 : ∀ d c v, 1 ≤ d → d ≤ 4 → a = nI d → c < p ^ (d + 1) → b = nI c → nf < 20 → CI al p ng M (nf + 1) (nxt D nf d) (nxt C nf c) v → Q (nI nf) v)
    (h2 : (¬ ∃ d, (1 ≤ d ∧ d ≤ 4) ∧ a = nI d ∧ ∃ c, c < p ^ (d + 1) ∧ b = nI c) → QX "java/lang/IllegalArgumentException" u)
    (h3 : ∀ d c, 1 ≤ d → d ≤ 4 → a = nI d → c < p ^ (d + 1) → b = nI c → ¬ nf < 20 → QX "java/lang/IllegalStateException" u) : f_X6_form al a b u Q QX := by
  have hC' := hC
  obtain ⟨hp, hM, hG, hI, h5, h6, l, n, g1, g2, g3, g4, g5⟩ := hC
  unfold f_X6_form
  refine isDeg_ok (fun d hd1 hd4 e => ⟨fun c => absurd c (by decide), fun _ => ?_⟩) (fun q => ⟨fun _ => h2 (fun ⟨d, q2, e, _⟩ => q ⟨d, q2.1, q2.2, e⟩), fun c => absurd rfl c⟩)
  subst e
  have hpb := pow_b hp.2 (n := d + 1) (by omega)
  have hno : ∀ P : Prop, ((∃ c, c < p ^ (d + 1) ∧ b = nI c) → P) → (∃ d', (1 ≤ d' ∧ d' ≤ 4) ∧ nI d = nI d' ∧ ∃ c, c < p ^ (d' + 1) ∧ b = nI c) → P := by
    rintro P hP ⟨d', q1, q2, q3⟩
    have := (nI_eq (by omega) (by omega)).mp q2
    subst this
    exact hP q3
  refine ⟨fun c0 => h2 (hno _ ?_), fun c0 => ?_⟩
  · rintro ⟨x, hx, rfl⟩; exact nI_pos (by omega) c0
  rw [nI_1]
  refine howMany_ok hp (by omega) ⟨fun c2 => ?_, fun c2 => h2 (hno _ ?_)⟩
  · rcases pk_ix b (n := p ^ (d + 1)) (by omega) with q | q | ⟨c, hc, rfl⟩
    · exact absurd q c0
    · exact absurd c2 (Int32.not_lt.mpr q)
    · rw [h5.2]
      refine ⟨fun q => ?_, fun q => h3 d c hd1 hd4 rfl hc rfl (fun q2 => q ((nI_ltI (b := 20) (by omega) (by omega)).mpr q2))⟩
      have h20 : nf < 20 := (nI_ltI (b := 20) (by omega) (by omega)).mp q
      refine write_ok (by exact h20) ?_
      rw [su_n _ _ _ (by decide), h5.2]
      refine write_ok (by exact h20) ?_
      intro u11 e11
      rw [su_n _ _ _ (by decide), su_n _ _ _ (by decide), h5.2, nI_1] at e11
      have h77 : u11 0 7 = nI (nf + 1) := by rw [e11, su_kk]
      rw [h77, nI_pred]
      have cc : chg [7, 8] [7] u u11 := by rw [e11]; exact chg_ts0 (chg_tsu (chg_tsu (chg_rf _ _ _) (by decide) (by decide)) (by decide) (by decide)) (by decide)
      refine h1 d c u11 hd1 hd4 rfl hc rfl h20 ⟨cc.pp hp (by decide), hM, hG.chg cc (by decide), fun g hg => ?_, ⟨by omega, h77⟩, fun f hf => ?_, l, n, g1, g2, ?_, fun k hk => ?_, fun e e1 e2 => ?_⟩
      · have := hG.1
        rw [cc.2 (23 + 2 * g) (by omega) (by simp; omega)]; exact hI g hg
      · have a7 : u11 7 = upd (u 7) nf (nI d) := by
          rw [e11, su_n _ _ _ (by decide), su_n _ _ _ (by decide), su_sa, sa_k]
        have a8 : u11 8 = upd (u 8) nf (nI c) := by
          rw [e11, su_n _ _ _ (by decide), su_sa, sa_k, su_n _ _ _ (by decide)]
        rw [a7, a8]
        unfold nxt
        by_cases q2 : f = nf
        · subst q2
          rw [if_pos rfl, if_pos rfl, upd_in, upd_in]
          exact ⟨⟨hd1, hd4⟩, hc, rfl, rfl⟩
        · rw [if_neg q2, if_neg q2, upd_ne _ _ q2, upd_ne _ _ q2]
          exact h6 f (by omega)
      · rw [cc.1 5 (by decide)]; exact g3
      · rw [cc.2 15 (by decide) (by decide)]; exact g4 k hk
      · rw [cc.2 12 (by decide) (by decide)]; exact g5 e e1 e2
  · rintro ⟨x, hx, rfl⟩; exact c2 ((nI_ltI (by omega) (by omega)).mpr hx)
