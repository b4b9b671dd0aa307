/-! which parts of a state may have changed: arrays of A, numbers of B -/
def chg (A B : List Nat) (u v : St) : Prop := (∀ j, j ∉ B → v 0 j = u 0 j) ∧ ∀ k, k ≠ 0 → k ∉ A → v k = u k
theorem chg_rf (A B : List Nat) (u : St) : chg A B u u := ⟨fun _ _ => rfl, fun _ _ _ => rfl⟩
theorem chg.tr {A B : List Nat} {u v w : St} (h : chg A B u v) (h2 : chg A B v w) : chg A B u w := ⟨fun j hj => (h2.1 j hj).trans (h.1 j hj), fun k k0 hk => (h2.2 k k0 hk).trans (h.2 k k0 hk)⟩
theorem chg.wk {A B A' B' : List Nat} {u v : St} (h : chg A B u v) (ha : ∀ k, k ∈ A → k ∈ A') (hb : ∀ k, k ∈ B → k ∈ B') : chg A' B' u v := ⟨fun j hj => h.1 j (fun q => hj (hb j q)), fun k k0 hk => h.2 k k0 (fun q => hk (ha k q))⟩
theorem chg_sa {A B : List Nat} {u : St} {k : Nat} {f : Nat → Int32} (hk : k ∈ A) (h0 : k ≠ 0) : chg A B u (sa u k f) :=
  ⟨fun j _ => by rw [sa_n _ _ (Ne.symm h0)], fun j _ hj => sa_n _ _ (fun e => hj (e ▸ hk))⟩
theorem chg_su0 {A B : List Nat} {u : St} {j : Nat} {v : Int32} (hj : j ∈ B) : chg A B u (su u 0 j v) :=
  ⟨fun i hi => su_kn _ _ _ (fun e => hi (e ▸ hj)), fun k k0 _ => su_n _ _ _ k0⟩
theorem chg.pp {A B : List Nat} {u v : St} {p : Nat} (h : chg A B u v) (hp : PP u p) (h0 : 0 ∉ B) : PP v p := ⟨(h.1 0 h0).trans hp.1, hp.2⟩
/-! codes of rows -/
theorem code_ok {al p k n : Nat} {f : Nat → Nat} {u : St} {Q : Int32 → St → Prop} (hp : PP u p) (hl : n ≤ lenC k) (hf : ∀ j, j < n → u k j = nI (f j)) (h : Q (nI (cod p f n)) u) : f_X2_code al k (nI n) u Q := by
  have hl2 := lenC_le k
  unfold f_X2_code
  intro v1 ev1
  subst ev1
  refine loopD2 (fun m i a s => f_X2_code_L7 al k Q (fun v8 u9 => Q v8 u9) m a i s) (fun i a s => i ≤ n ∧ a = nI (cod p (fun j => f (i + j)) (n - i)) ∧ s = u) ?_ ?_ n 0 u ?_
  · rintro m i a s ⟨hi, rfl, rfl⟩ kk
    show f_X2_code_L7_s _ _ _ _ _ _ _ _
    unfold f_X2_code_L7_s
    try dsimp only
    rw [dI_s]
    refine ⟨fun c => absurd c (nI_pos (by omega)), fun _ => read_ok (by omega) ?_⟩
    intro v5 ev5 v6 ev6
    rw [hf i (by omega), hp.1, pk_mul, nI_add] at ev5
    subst ev5 ev6
    rw [nI_d]
    refine kk _ _ ⟨by omega, ?_, rfl⟩
    have e : n - i = (n - (i + 1)) + 1 := by omega
    rw [e, cod]
    have e2 : (fun j => f (i + (j + 1))) = (fun j => f (i + 1 + j)) := by funext j; congr 1; omega
    show nI _ = nI (f (i + 0) + p * cod p (fun j => f (i + (j + 1))) (n - (i + 1)))
    rw [e2, show f (i + 0) = f i from rfl, Nat.mul_comm p, Nat.add_comm (f i)]
  · rintro m a s ⟨hi, rfl, rfl⟩
    show f_X2_code_L7_s _ _ _ _ _ _ _ _
    unfold f_X2_code_L7_s
    try dsimp only
    refine ⟨fun _ => ?_, fun c => absurd (show dI 0 < 0 by decide) c⟩
    have e : (fun j => f (0 + j)) = f := by funext j; rw [Nat.zero_add]
    rw [e, Nat.sub_zero]; exact h
  · refine ⟨Nat.le_refl _, ?_, rfl⟩
    rw [Nat.sub_self]; rfl
/-- both codes added, place by place -/
def tot (p c o : Nat) : Nat := cod p (fun j => (dg p c j + dg p o j) % p) 5
theorem total_ok {al p c o : Nat} {u : St} {Q : Int32 → St → Prop} (hp : PP u p) (hc : c < 1000000000) (ho : o < 1000000000) (h : Q (nI (tot p c o)) u) : f_X2_total al (nI c) (nI o) u Q := by
  have hb := isP_b hp.2
  unfold f_X2_total
  refine loopU5 (fun m i a b c d s => f_X2_total_L14 al Q (fun v12 u13 => Q v12 u13) m a b c d i s) 5 (fun i x1 x2 x3 x4 s => x1 = nI (cod p (fun j => (dg p c j + dg p o j) % p) i) ∧ x2 = nI (c / p ^ i) ∧ x3 = nI (o / p ^ i) ∧ x4 = nI (p ^ i) ∧ s = u) ?_ ?_ 0 (Nat.zero_le _) 0 (nI c) (nI o) 1 u ?_
  · rintro m i x1 x2 x3 x4 s hi ⟨rfl, rfl, rfl, rfl, rfl⟩ kk
    show f_X2_total_L14_s _ _ _ _ _ _ _ _ _ _
    unfold f_X2_total_L14_s
    have hd : c / p ^ i < 1000000000 := Nat.lt_of_le_of_lt (Nat.div_le_self _ _) hc
    have hd2 : o / p ^ i < 1000000000 := Nat.lt_of_le_of_lt (Nat.div_le_self _ _) ho
    have m1 : c / p ^ i % p < p := Nat.mod_lt _ (by omega)
    have m2 : o / p ^ i % p < p := Nat.mod_lt _ (by omega)
    try dsimp only
    rw [hp.1]
    refine ⟨fun c => absurd (show nI 5 ≤ nI i from c) (nI_ge hi (by omega)), fun _ => ⟨fun c => absurd c (nI_nle (by omega) (by omega)), fun _ => ⟨nI_ne0 (by omega) (by omega), fun v3 ev3 => ⟨nI_ne0 (by omega) (by omega), fun v4 ev4 => ⟨nI_ne0 (by omega) (by omega), fun v5 ev5 v6 ev6 => ⟨nI_ne0 (by omega) (by omega), fun v7 ev7 => ⟨nI_ne0 (by omega) (by omega), fun v8 ev8 v9 ev9 v10 ev10 => ?_⟩⟩⟩⟩⟩⟩⟩
    rw [pk_rem (by omega) (by omega) (by omega)] at ev3 ev4
    subst ev3 ev4
    rw [nI_add, pk_rem (by omega) (by omega) (by omega)] at ev5
    subst ev5
    rw [pk_mul, nI_add] at ev6
    rw [pk_div (by omega) (by omega) (by omega), Nat.div_div_eq_div_mul, ← Nat.pow_succ] at ev7 ev8
    rw [pk_mul, ← Nat.pow_succ] at ev9
    rw [nI_1] at ev10
    subst ev6 ev7 ev8 ev9 ev10
    refine kk _ _ _ _ _ ⟨?_, rfl, rfl, rfl, rfl⟩
    rw [cod_snoc]
    rfl
  · rintro m x1 x2 x3 x4 s ⟨rfl, rfl, rfl, rfl, rfl⟩
    show f_X2_total_L14_s _ _ _ _ _ _ _ _ _ _
    unfold f_X2_total_L14_s
    try dsimp only
    exact ⟨fun _ => h, fun c => absurd (nI_le (Nat.le_refl 5) (by omega)) c⟩
  · exact ⟨rfl, by simp, by simp, rfl, rfl⟩
theorem tot_lt {p c o : Nat} (hp : isP p) : tot p c o < 3126 := by
  have h1 := cod_lt (p := p) (n := 5) (f := fun j => (dg p c j + dg p o j) % p) (by have := isP_b hp; omega) (fun j _ => Nat.mod_lt _ (by have := isP_b hp; omega))
  have h2 := pow_b hp (n := 5) (by omega)
  unfold tot; omega
/-- a code multiplied, place by place -/
def mulc (p c k : Nat) : Nat := cod p (fun j => (k * dg p c j) % p) 5
theorem mulc_s {p c k : Nat} (hp : isP p) : tot p (mulc p c k) c = mulc p c (k + 1) := by
  have hb := isP_b hp
  unfold tot
  refine cod_cong (fun j hj => ?_)
  rw [mulc, dg_cod (by omega) (fun j _ => Nat.mod_lt _ (by omega)) j hj, Nat.mod_add_mod, Nat.succ_mul]
theorem mulc_0 {p c : Nat} : mulc p c 0 = 0 := by
  have : ∀ n, cod p (fun _ => 0) n = 0 := fun n => by
    induction n with
    | zero => rfl
    | succ n ih => rw [cod, ih]; simp
  unfold mulc
  rw [cod_cong (g := fun _ => 0) (fun j _ => by simp), this]
theorem mulc_lt {p c k : Nat} (hp : isP p) : mulc p c k < 3126 := by
  have h1 := cod_lt (p := p) (n := 5) (f := fun j => (k * dg p c j) % p) (by have := isP_b hp; omega) (fun j _ => Nat.mod_lt _ (by have := isP_b hp; omega))
  have h2 := pow_b hp (n := 5) (by omega)
  unfold mulc; omega
theorem multiple_ok {al p c k : Nat} {u : St} {Q : Int32 → St → Prop} (hp : PP u p) (hc : c < 1000000000) (hk : k < 1000000000) (h : Q (nI (mulc p c k)) u) : f_X2_multiple al (nI c) (nI k) u Q := by
  unfold f_X2_multiple
  refine loopU2 (fun m i a s => f_X2_multiple_L5 al (nI c) (nI k) Q (fun v6 u7 => Q v6 u7) m a i s) k (fun i a s => a = nI (mulc p c i) ∧ s = u) ?_ ?_ 0 (Nat.zero_le _) 0 u ⟨?_, rfl⟩
  · rintro m i a s hi ⟨rfl, rfl⟩ kk
    show f_X2_multiple_L5_s _ _ _ _ _ _ _ _ _
    unfold f_X2_multiple_L5_s
    have := mulc_lt (c := c) (k := i) hp.2
    refine ⟨fun c => absurd c (nI_ge hi (by omega)), fun _ => total_ok hp (by omega) hc ?_⟩
    intro v4 ev4
    subst ev4
    rw [nI_1]
    refine kk _ _ ⟨?_, rfl⟩
    rw [mulc_s hp.2]
  · rintro m a s ⟨rfl, rfl⟩
    show f_X2_multiple_L5_s _ _ _ _ _ _ _ _ _
    unfold f_X2_multiple_L5_s
    exact ⟨fun _ => h, fun c => absurd (nI_le (Nat.le_refl _) (by omega)) c⟩
  · rw [mulc_0]; rfl
/-- the number that makes 1 with it, 0 without one -/
def inv (p a : Nat) : Nat := if a % p = 0 then 0 else (a % p) ^ (p - 2) % p
theorem inv_one {p : Nat} (hp : isP p) : ∀ a, a < p → ∀ i, i < p → a * i % p = 1 → i = inv p a := by
  rcases hp with rfl | rfl | rfl <;> decide
theorem inv_none {p : Nat} (hp : isP p) : ∀ a, a < p → (∀ i, i < p → a * i % p ≠ 1) → inv p a = 0 := by
  rcases hp with rfl | rfl | rfl <;> decide
theorem inv_mul {p : Nat} (hp : isP p) : ∀ a, a < p → a ≠ 0 → a * inv p a % p = 1 := by
  rcases hp with rfl | rfl | rfl <;> decide
theorem inv_lt {p : Nat} (hp : isP p) (a : Nat) : inv p a < p := by
  have hb := isP_b hp
  unfold inv
  split
  · omega
  · exact Nat.mod_lt _ (by omega)
theorem inv_mod {p : Nat} (a : Nat) : inv p (a % p) = inv p a := by unfold inv; rw [Nat.mod_mod]
theorem inverse_ok {al p : Nat} {x : Int32} {z : Int} {u : St} {Q : Int32 → St → Prop} (hp : PP u p) (hx : x = iI z) (h1 : -1000000000 < z) (h2 : z < 1000000000) (h : Q (nI (inv p (z % p).toNat)) u) : f_X2_inverse al x u Q := by
  have hb := isP_b hp.2
  have hm1 := Int.emod_nonneg z (show (p : Int) ≠ 0 by omega)
  have hm2 := Int.emod_lt_of_pos z (show (0 : Int) < p by omega)
  obtain ⟨a, ha⟩ : ∃ a : Nat, (a : Int) = z % p := ⟨(z % p).toNat, Int.toNat_of_nonneg hm1⟩
  have hap : a < p := by omega
  have hat : (z % p).toNat = a := by omega
  rw [hat] at h
  unfold f_X2_inverse
  refine loopU (S := St) (fun m i s => f_X2_inverse_L2 al x Q (fun v9 u10 => Q v9 u10) (fun u11 => Q 0 u11) m i s) p (fun i s => 1 ≤ i ∧ s = u ∧ ∀ k, k < i → k ≠ 0 → a * k % p ≠ 1) ?_ ?_ 1 (by omega) u ⟨Nat.le_refl _, rfl, fun k hk h0 => by omega⟩
  · rintro m i s hi ⟨hi1, rfl, hno⟩ kk
    show f_X2_inverse_L2_s _ _ _ _ _ _ _ _
    unfold f_X2_inverse_L2_s
    rw [hp.1]
    refine ⟨fun c => absurd c (nI_ge hi (by omega)), fun _ => rest_ok hp hx h1 h2 ?_⟩
    have hle : a * i ≤ 4 * 4 := Nat.mul_le_mul (by omega) (by omega)
    refine rest_n hp (n := a * i) (by rw [← ha, ← iI_n, pk_mul]) (by omega) ?_
    have hmm : a * i % p < p := Nat.mod_lt _ (by omega)
    refine ⟨fun c v7 ev7 => ?_, fun c => ?_⟩
    · subst ev7
      rw [nI_1]
      refine kk s ⟨by omega, rfl, fun k hk h0 => ?_⟩
      by_cases hki : k = i
      · subst hki
        intro e
        rw [e] at c
        exact c rfl
      · exact hno k (by omega) h0
    · have e : a * i % p = 1 := (nI_eq (by omega) (by omega)).mp (show nI (a * i % p) = nI 1 from c)
      rw [← inv_one hp.2 a hap i hi e] at h
      exact h
  · rintro m s ⟨hi1, rfl, hno⟩
    show f_X2_inverse_L2_s _ _ _ _ _ _ _ _
    unfold f_X2_inverse_L2_s
    rw [hp.1]
    refine ⟨fun _ => ?_, fun c => absurd (nI_le (Nat.le_refl _) (by omega)) c⟩
    rw [inv_none hp.2 a hap (fun i hi => by
      by_cases h0 : i = 0
      · subst h0; simp
      · exact hno i hi h0)] at h
    exact h
theorem inverse_n {al p n : Nat} {x : Int32} {u : St} {Q : Int32 → St → Prop} (hp : PP u p) (hx : x = nI n) (h2 : n < 1000000000) (h : Q (nI (inv p n)) u) : f_X2_inverse al x u Q := by
  refine inverse_ok hp (z := (n : Int)) (by rw [hx, iI_n]) (by omega) (by omega) ?_
  have : ((n : Int) % (p : Int)).toNat = n % p := by omega
  rw [this, inv_mod]; exact h
/-! matrices, by their codes -/
def tab (p a b c d : Nat) : Nat := a + p * (b + p * (c + p * d))
theorem tab_cod (p a b c d : Nat) : tab p a b c d = cod p (fun j => if j = 0 then a else if j = 1 then b else if j = 2 then c else d) 4 := by
  simp [tab, cod]
theorem tab_lt {p a b c d : Nat} (ha : a < p) (hb : b < p) (hc : c < p) (hd : d < p) : tab p a b c d < p ^ 4 := by
  rw [tab_cod]
  refine cod_lt (by omega) (fun j hj => ?_)
  try dsimp only
  split; · exact ha
  split; · exact hb
  split; · exact hc
  exact hd
theorem tab_dg {p a b c d : Nat} (ha : a < p) (hb : b < p) (hc : c < p) (hd : d < p) : dg p (tab p a b c d) 0 = a ∧ dg p (tab p a b c d) 1 = b ∧ dg p (tab p a b c d) 2 = c ∧ dg p (tab p a b c d) 3 = d := by
  have h : ∀ j, j < 4 → dg p (tab p a b c d) j = (fun j => if j = 0 then a else if j = 1 then b else if j = 2 then c else d) j := by
    rw [tab_cod]
    refine dg_cod (by omega) (fun j hj => ?_)
    try dsimp only
    split; · exact ha
    split; · exact hb
    split; · exact hc
    exact hd
  exact ⟨h 0 (by omega), h 1 (by omega), h 2 (by omega), h 3 (by omega)⟩
def mmul (p m n : Nat) : Nat := tab p ((dg p m 0 * dg p n 0 + dg p m 1 * dg p n 2) % p) ((dg p m 0 * dg p n 1 + dg p m 1 * dg p n 3) % p) ((dg p m 2 * dg p n 0 + dg p m 3 * dg p n 2) % p) ((dg p m 2 * dg p n 1 + dg p m 3 * dg p n 3) % p)
theorem mmul_lt {p : Nat} (hp : 0 < p) (m n : Nat) : mmul p m n < p ^ 4 := tab_lt (Nat.mod_lt _ hp) (Nat.mod_lt _ hp) (Nat.mod_lt _ hp) (Nat.mod_lt _ hp)
theorem table_ok {al p a b c d : Nat} {u : St} {Q : Int32 → St → Prop} (hp : PP u p) (h : Q (nI (tab p a b c d)) u) : f_X2_table al (nI a) (nI b) (nI c) (nI d) u Q := by
  unfold f_X2_table
  rw [hp.1]
  simp only [pk_mul, nI_add]
  exact h
theorem sum_le {p a b c d : Nat} (hp : p ≤ 5) (ha : a < p) (hb : b < p) (hc : c < p) (hd : d < p) : a * b + c * d < 1000000000 := by
  have h1 : a * b ≤ 4 * 4 := Nat.mul_le_mul (by omega) (by omega)
  have h2 : c * d ≤ 4 * 4 := Nat.mul_le_mul (by omega) (by omega)
  omega
theorem product_ok {al p m n : Nat} {u : St} {Q : Int32 → St → Prop} (hp : PP u p) (hm : m < 1000000000) (hn : n < 1000000000) (h : Q (nI (mmul p m n)) u) : f_X2_product al (nI m) (nI n) u Q := by
  have hb := isP_b hp.2
  have hl : ∀ c i, dg p c i < p := fun c i => dg_lt (by omega) c i
  unfold f_X2_product
  refine digit_ok (i := 0) hp hm (by omega) (digit_ok (i := 1) hp hm (by omega) (digit_ok (i := 2) hp hm (by omega) (digit_ok (i := 3) hp hm (by omega) (digit_ok (i := 0) hp hn (by omega) (digit_ok (i := 1) hp hn (by omega) (digit_ok (i := 2) hp hn (by omega) (digit_ok (i := 3) hp hn (by omega) ?_)))))))
  simp only [pk_mul, nI_add]
  refine rest_n hp rfl (sum_le hb.2 (hl _ _) (hl _ _) (hl _ _) (hl _ _)) (rest_n hp rfl (sum_le hb.2 (hl _ _) (hl _ _) (hl _ _) (hl _ _)) (rest_n hp rfl (sum_le hb.2 (hl _ _) (hl _ _) (hl _ _) (hl _ _)) (rest_n hp rfl (sum_le hb.2 (hl _ _) (hl _ _) (hl _ _) (hl _ _)) (table_ok hp h))))
def det (p m : Nat) : Nat := (((dg p m 0 * dg p m 3 : Nat) : Int) - ((dg p m 1 * dg p m 2 : Nat) : Int)) % (p : Int) |>.toNat
theorem determinant_ok {al p m : Nat} {u : St} {Q : Int32 → St → Prop} (hp : PP u p) (hm : m < 1000000000) (h : Q (nI (det p m)) u) : f_X2_determinant al (nI m) u Q := by
  have hb := isP_b hp.2
  have hl : ∀ c i, dg p c i < p := fun c i => dg_lt (by omega) c i
  unfold f_X2_determinant
  refine digit_ok (i := 0) hp hm (by omega) (digit_ok (i := 3) hp hm (by omega) (digit_ok (i := 1) hp hm (by omega) (digit_ok (i := 2) hp hm (by omega) ?_)))
  have h1 : dg p m 0 * dg p m 3 ≤ 4 * 4 := Nat.mul_le_mul (by have := hl m 0; omega) (by have := hl m 3; omega)
  have h2 : dg p m 1 * dg p m 2 ≤ 4 * 4 := Nat.mul_le_mul (by have := hl m 1; omega) (by have := hl m 2; omega)
  refine rest_ok hp (z := ((dg p m 0 * dg p m 3 : Nat) : Int) - ((dg p m 1 * dg p m 2 : Nat) : Int)) (by rw [pk_mul, pk_mul, iI_n, iI_n, iI_sub]) (by omega) (by omega) ?_
  have hz := Int.emod_nonneg (((dg p m 0 * dg p m 3 : Nat) : Int) - ((dg p m 1 * dg p m 2 : Nat) : Int)) (show (p : Int) ≠ 0 by omega)
  rw [iI_nn hz]
  exact h
