/-! the field's methods -/
theorem read_ok {al k i : Nat} {u : St} {Q : Int32 → St → Prop} (hi : i < lenC k) (h : Q (u k i) u) : f_X6_read al k (nI i) u Q := by
  have hl := lenC_le k
  unfold f_X6_read
  refine ⟨fun c => absurd c (nI_pos (by omega)), fun _ => ⟨fun c => absurd c (nI_ge hi (by omega)), fun _ => ⟨vp_in_nI hi (by omega), ?_⟩⟩⟩
  intro v ev; subst ev; rw [nI_clamp (by omega)]; exact h
theorem write_ok {al k i : Nat} {v : Int32} {u : St} {Q : St → Prop} (hi : i < lenC k) (h : Q (su u k i v)) : f_X6_write al k (nI i) v u Q := by
  have hl := lenC_le k
  unfold f_X6_write
  refine ⟨fun c => absurd c (nI_pos (by omega)), fun _ => ⟨fun c => absurd c (nI_ge hi (by omega)), fun _ => ⟨vp_in_nI hi (by omega), ?_⟩⟩⟩
  intro v ev; subst ev; rw [nI_clamp (by omega)]; exact h
theorem readS_ok {al i : Nat} {u : St} {Q : Int32 → St → Prop} (hi : i < 5) (h : Q (stS i) u) : f_X6_readS al (nI i) u Q := by
  unfold f_X6_readS
  refine ⟨fun c => absurd c (nI_pos (by omega)), fun _ => ⟨fun c => absurd (show nI 5 ≤ nI i from c) (nI_ge hi (by omega)), fun _ => ⟨vp_in_nI hi (by omega), ?_⟩⟩⟩
  intro v ev; subst ev; rw [nI_clamp (by omega)]; exact h
theorem fill_ok {k : Nat} {v : Int32} {u : St} {Q : St → Prop} (h : Q (sa u k (fun j => if j < lenC k then v else u k j))) : f_J7_fill_53178 k v u Q := by
  have hl := lenC_le k
  unfold f_J7_fill_53178
  intro v1 ev1; subst ev1
  refine loopU (S := St) (fun n i s => f_J7_fill_53178_L5 k v (nI (lenC k)) Q (fun u6 => Q u6) n i s) (lenC k) (fun i s => s = sa u k (fun j => if j < i then v else u k j)) ?_ ?_ 0 (Nat.zero_le _) u ?_
  · intro n i s hi hI kk
    show f_J7_fill_53178_L5_s _ _ _ _ _ _ _ _
    unfold f_J7_fill_53178_L5_s
    refine ⟨fun c => absurd c (nI_ge hi (by omega)), fun _ => ⟨vp_in_nI hi (by omega), ?_⟩⟩
    intro u3 eu3 v4 ev4
    subst ev4
    rw [nI_1]
    refine kk u3 ?_
    rw [eu3, nI_clamp (by omega), hI, su_sa, sa_k, sa_sa]
    congr 1
    funext j
    by_cases hj : j = i
    · subst hj; rw [upd_in, if_pos (by omega)]
    · rw [upd_ne _ _ hj]
      by_cases h2 : j < i
      · rw [if_pos h2, if_pos (by omega)]
      · rw [if_neg h2, if_neg (by omega)]
  · intro n s hI
    show f_J7_fill_53178_L5_s _ _ _ _ _ _ _ _
    unfold f_J7_fill_53178_L5_s
    refine ⟨fun _ => ?_, fun c => absurd (nI_le (Nat.le_refl _) (by omega)) c⟩
    rw [hI]; exact h
  · funext a
    by_cases ha : a = k
    · subst ha; rw [sa_k]; funext j; rw [if_neg (by omega)]
    · rw [sa_n _ _ ha]
theorem rest_ok {al p : Nat} {x : Int32} {z : Int} {u : St} {Q : Int32 → St → Prop} (hp : PP u p) (hx : x = iI z) (h1 : -1000000000 < z) (h2 : z < 1000000000) (h : Q (iI (z % p)) u) : f_X2_rest al x u Q := by
  have hb := isP_b hp.2
  unfold f_X2_rest f_J9_floorMod_7cf53
  rw [hp.1, hx]
  refine ⟨fun c => absurd c (nI_nle (by omega) (by omega)), fun _ => ⟨nI_ne0 (by omega) (by omega), fun v ev => ?_⟩⟩
  rw [tm_ok (by omega) hb.2 h1 h2] at ev
  have hz : (iI z).toInt = z := iI_toInt (by omega) (by omega)
  have hxo : 0 ≤ (iI z ^^^ nI p) ↔ 0 ≤ z := by rw [xor_s (by rw [nI_toInt (by omega)]; omega), hz]
  have hte := Int.tmod_eq_emod (a := z) (b := (p : Int))
  have hm1 := Int.emod_nonneg z (show (p : Int) ≠ 0 by omega)
  have hm2 := Int.emod_lt_of_pos z (show (0 : Int) < p by omega)
  refine ⟨fun c => ?_, fun c => ⟨fun d => ?_, fun d => ?_⟩⟩
  · rw [ev, Int.tmod_eq_emod_of_nonneg (hxo.mp c)]; exact h
  · have hz0 : z.tmod p = 0 := by
      rw [ev, show (0 : Int32) = iI 0 from rfl] at d
      have hbb := tmod_bounds (a := z) (M := (p : Int)) (by omega)
      exact (iI_eq (by omega) (by omega) (by omega) (by omega)).mp d
    have hd : (p : Int) ∣ z := Int.dvd_of_tmod_eq_zero hz0
    have : z % p = 0 := Int.emod_eq_zero_of_dvd hd
    rw [this] at h
    rw [ev, hz0]; exact h
  · have hn : ¬ 0 ≤ z := fun q => c (hxo.mpr q)
    have hnd : ¬ (p : Int) ∣ z := fun q => d (by rw [ev, Int.tmod_eq_zero_of_dvd q]; rfl)
    rw [if_neg (fun q => q.elim hn hnd), Int.natAbs_natCast] at hte
    rw [ev, hte, iI_n, iI_add]
    have : z % p - p + p = z % p := by omega
    rw [this]; exact h
theorem rest_n {al p n : Nat} {x : Int32} {u : St} {Q : Int32 → St → Prop} (hp : PP u p) (hx : x = nI n) (h2 : n < 1000000000) (h : Q (nI (n % p)) u) : f_X2_rest al x u Q := by
  refine rest_ok hp (z := (n : Int)) (by rw [hx, iI_n]) (by omega) (by omega) ?_
  have : ((n : Int) % (p : Int)) = ((n % p : Nat) : Int) := by omega
  rw [this, ← iI_n]; exact h
theorem has_ok {al p : Nat} {x : Int32} {u : St} {Q : Int32 → St → Prop} (hp : PP u p) (h1 : (∃ n : Nat, n < p ∧ x = nI n) → Q 1 u) (h2 : (¬ ∃ n : Nat, n < p ∧ x = nI n) → Q 0 u) : f_X2_has al x u Q := by
  have hb := isP_b hp.2
  unfold f_X2_has
  rw [hp.1]
  refine ⟨fun c => h2 ?_, fun c => ⟨fun d => h2 ?_, fun d => h1 ?_⟩⟩
  · rintro ⟨n, hn, rfl⟩; exact nI_pos (by omega) c
  · rintro ⟨n, hn, rfl⟩; exact nI_ge hn (by omega) d
  · rcases pk_ix x (n := p) (by omega) with q | q | ⟨j, hj, e⟩
    · exact absurd q c
    · exact absurd q d
    · exact ⟨j, hj, e⟩
theorem howMany_ok {al p n : Nat} {u : St} {Q : Int32 → St → Prop} (hp : PP u p) (hn : n ≤ 6) (h : Q (nI (p ^ n)) u) : f_X2_howMany al (nI n) u Q := by
  unfold f_X2_howMany
  refine loopU2 (fun m i a s => f_X2_howMany_L4 al (nI n) Q (fun v5 u6 => Q v5 u6) m a i s) n (fun i a s => a = nI (p ^ i) ∧ s = u) ?_ ?_ 0 (Nat.zero_le _) 1 u ⟨rfl, rfl⟩
  · rintro m i a s hi ⟨rfl, rfl⟩ kk
    show f_X2_howMany_L4_s _ _ _ _ _ _ _ _
    unfold f_X2_howMany_L4_s
    dsimp only
    refine ⟨fun c => absurd c (nI_ge hi (by omega)), fun _ v2 ev2 v3 ev3 => ?_⟩
    rw [hp.1, pk_mul, ← Nat.pow_succ] at ev2
    subst ev2 ev3
    rw [nI_1]
    exact kk _ _ ⟨rfl, rfl⟩
  · rintro m a s ⟨rfl, rfl⟩
    show f_X2_howMany_L4_s _ _ _ _ _ _ _ _
    unfold f_X2_howMany_L4_s
    dsimp only
    exact ⟨fun _ => h, fun c => absurd (nI_le (Nat.le_refl _) (by omega)) c⟩
theorem power_ok {al p x e : Nat} {u : St} {Q : Int32 → St → Prop} (hp : PP u p) (hx : x < p) (he : e ≤ 6) (h : Q (nI (x ^ e % p)) u) : f_X2_power al (nI x) (nI e) u Q := by
  have hb := isP_b hp.2
  unfold f_X2_power
  refine loopU2 (fun m i a s => f_X2_power_L5 al (nI x) (nI e) Q (fun v6 u7 => Q v6 u7) m a i s) e (fun i a s => a = nI (x ^ i % p) ∧ s = u) ?_ ?_ 0 (Nat.zero_le _) 1 u ⟨?_, rfl⟩
  · rintro m i a s hi ⟨rfl, rfl⟩ kk
    show f_X2_power_L5_s _ _ _ _ _ _ _ _ _
    unfold f_X2_power_L5_s
    dsimp only
    refine ⟨fun c => absurd c (nI_ge hi (by omega)), fun _ => ?_⟩
    have h1 : x ^ i % p < p := Nat.mod_lt _ (by omega)
    have h2 : x ^ i % p * x ≤ 4 * 4 := Nat.mul_le_mul (by omega) (by omega)
    refine rest_n hp (n := x ^ i % p * x) (pk_mul _ _) (by omega) ?_
    intro v4 ev4
    subst ev4
    rw [nI_1]
    refine kk _ _ ⟨?_, rfl⟩
    rw [Nat.pow_succ, Nat.mod_mul_mod]
  · rintro m a s ⟨rfl, rfl⟩
    show f_X2_power_L5_s _ _ _ _ _ _ _ _ _
    unfold f_X2_power_L5_s
    dsimp only
    exact ⟨fun _ => h, fun c => absurd (nI_le (Nat.le_refl _) (by omega)) c⟩
  · rw [Nat.pow_zero, Nat.mod_eq_of_lt (by omega)]; rfl
theorem digit_ok {al p c i : Nat} {u : St} {Q : Int32 → St → Prop} (hp : PP u p) (hc : c < 1000000000) (hi : i ≤ 5) (h : Q (nI (dg p c i)) u) : f_X2_digit al (nI c) (nI i) u Q := by
  have hb := pow_b hp.2 hi
  have hq := pow_pos' hp.2 i
  unfold f_X2_digit
  refine howMany_ok hp (by omega) ?_
  refine ⟨fun c => absurd c (nI_nle hq (by omega)), fun _ => ⟨nI_ne0 hq (by omega), fun v4 ev4 => ?_⟩⟩
  rw [pk_div (by omega) hq (by omega)] at ev4
  refine rest_n hp ev4 (Nat.lt_of_le_of_lt (Nat.div_le_self _ _) hc) h
theorem spell_ok {al p c k : Nat} {u : St} {Q : St → Prop} (hp : PP u p) (hk : k ≠ 0) (hl : 5 ≤ lenC k) (hc : c < 1000000000) (h : Q (sa u k (fun j => if j < 5 then nI (dg p c j) else u k j))) : f_X2_spell al (nI c) k u Q := by
  have hb := isP_b hp.2
  unfold f_X2_spell
  refine loopU2 (fun m i a s => f_X2_spell_L5 al k Q (fun u10 => Q u10) m a i s) 5 (fun i a s => a = nI (c / p ^ i) ∧ s = sa u k (fun j => if j < i then nI (dg p c j) else u k j)) ?_ ?_ 0 (Nat.zero_le _) (nI c) u ?_
  · rintro m i s1 s2 hi ⟨rfl, rfl⟩ kk
    show f_X2_spell_L5_s _ _ _ _ _ _ _ _
    unfold f_X2_spell_L5_s
    dsimp only
    have hd : c / p ^ i < 1000000000 := Nat.lt_of_le_of_lt (Nat.div_le_self _ _) hc
    refine ⟨fun c => absurd (show nI 5 ≤ nI i from c) (nI_ge hi (by omega)), fun _ => rest_n (hp.sa hk) rfl hd (write_ok (by omega) ?_)⟩
    have hp2 : PP (su (sa u k (fun j => if j < i then nI (dg p c j) else u k j)) k i (nI (c / p ^ i % p))) p := by rw [su_sa]; exact (hp.sa hk).sa hk
    rw [hp2.1]
    refine ⟨fun c => absurd c (nI_nle (by omega) (by omega)), fun _ => ⟨nI_ne0 (by omega) (by omega), fun v7 ev7 v8 ev8 => ?_⟩⟩
    subst ev7 ev8
    rw [nI_1]
    refine kk _ _ ⟨?_, ?_⟩
    · rw [pk_div (by omega) (by omega) (by omega), Nat.div_div_eq_div_mul, ← Nat.pow_succ]
    · rw [su_sa, sa_k, sa_sa]
      congr 1
      funext j
      by_cases hj : j = i
      · subst hj; rw [upd_in, if_pos (by omega)]; rfl
      · rw [upd_ne _ _ hj]
        by_cases h2 : j < i
        · rw [if_pos h2, if_pos (by omega)]
        · rw [if_neg h2, if_neg (by omega)]
  · rintro m s1 s2 ⟨rfl, rfl⟩
    show f_X2_spell_L5_s _ _ _ _ _ _ _ _
    unfold f_X2_spell_L5_s
    dsimp only
    exact ⟨fun _ => h, fun c => absurd (nI_le (Nat.le_refl 5) (by omega)) c⟩
  · refine ⟨by simp, ?_⟩
    funext a
    by_cases ha : a = k
    · subst ha; rw [sa_k]; funext j; rw [if_neg (by omega)]
    · rw [sa_n _ _ ha]
