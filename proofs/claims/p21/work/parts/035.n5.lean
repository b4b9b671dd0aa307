/-! what a matrix makes of a code -/
def imz (p m n c : Nat) : Nat → Int := sb (dg p m 0) (dg p m 1) (dg p m 2) (dg p m 3) n (fun i => (dg p c i : Int))
def act (p m n c : Nat) : Nat := cod p (fun j => (imz p m n c j % p).toNat) 5
theorem emod_toNat {p : Nat} (hp : 0 < p) (z : Int) : (z % p).toNat < p ∧ (((z % p).toNat : Nat) : Int) = z % p := by
  have h1 := Int.emod_nonneg z (show (p : Int) ≠ 0 by omega)
  have h2 := Int.emod_lt_of_pos z (show (0 : Int) < p by omega)
  omega
theorem act_dg {p m n c j : Nat} (hp : 0 < p) (hj : j < 5) : dg p (act p m n c) j = (imz p m n c j % p).toNat := by
  unfold act
  exact dg_cod hp (fun j _ => (emod_toNat hp _).1) j hj
theorem sb_sup (a b c d : Int) (n : Nat) (F : Nat → Int) : sup n (sb a b c d n F) := by
  intro j hj
  refine sg_zero (fun i hi => ?_)
  rw [sup_col a b c d (show i ≤ n by omega) j hj, Int.mul_zero]
theorem cod_ext {p : Nat} {f : Nat → Nat} {n m : Nat} (h : n ≤ m) (hf : ∀ j, n ≤ j → j < m → f j = 0) : cod p f m = cod p f n := by
  induction m with
  | zero => obtain rfl : n = 0 := by omega
            rfl
  | succ m ih =>
    by_cases e : n = m + 1
    · subst e; rfl
    · rw [cod_snoc, hf m (by omega) (by omega), Nat.zero_mul, Nat.add_zero]
      exact ih (by omega) (fun j h1 h2 => hf j h1 (by omega))
theorem act_lt {p m n c : Nat} (hp : isP p) (hn : n ≤ 4) : act p m n c < p ^ (n + 1) := by
  have hb := isP_b hp
  unfold act
  rw [cod_ext (n := n + 1) (by omega) (fun j h1 h2 => by
    show (imz p m n c j % p).toNat = 0
    rw [show imz p m n c j = 0 from sb_sup _ _ _ _ n _ j (by omega)]; simp)]
  exact cod_lt (by omega) (fun j _ => (emod_toNat (by omega) _).1)
theorem act_lt5 {p m n c : Nat} (hp : isP p) : act p m n c < p ^ 5 := by
  have hb := isP_b hp
  exact cod_lt (by omega) (fun j _ => (emod_toNat (by omega) _).1)
theorem cod_add1 {p i : Nat} {f : Nat → Nat} : ∀ {n : Nat}, i < n → cod p (fun j => f j + if j = i then 1 else 0) n = cod p f n + p ^ i := by
  intro n
  induction n with
  | zero => intro h; omega
  | succ n ih =>
    intro h
    rw [cod_snoc, cod_snoc]
    by_cases e : n = i
    · subst e
      rw [if_pos rfl, cod_cong (g := f) (fun j hj => by rw [if_neg (by omega)]; rfl), Nat.add_mul, Nat.one_mul]; omega
    · rw [if_neg e, Nat.add_zero, ih (by omega)]; omega
/-- one less in one place -/
theorem dg_sub {p c i j : Nat} (hp : isP p) (hc : c < p ^ 5) (hi : i < 5) (h : 1 ≤ dg p c i) (hj : j < 5) : p ^ i ≤ c ∧ dg p (c - p ^ i) j + (if j = i then 1 else 0) = dg p c j := by
  have hb := isP_b hp
  have h1 : cod p (fun j => (fun j => dg p c j - if j = i then 1 else 0) j + if j = i then 1 else 0) 5 = cod p (fun j => dg p c j - if j = i then 1 else 0) 5 + p ^ i := cod_add1 hi
  have h2 : cod p (fun j => (fun j => dg p c j - if j = i then 1 else 0) j + if j = i then 1 else 0) 5 = c := by
    rw [cod_cong (g := dg p c) (fun j _ => by
      try dsimp only
      by_cases e : j = i
      · subst e; rw [if_pos rfl]; omega
      · rw [if_neg e]; omega)]
    exact cod_dg (by omega) 5 c hc
  rw [h2] at h1
  have h3 : c - p ^ i = cod p (fun j => dg p c j - if j = i then 1 else 0) 5 := by omega
  refine ⟨by omega, ?_⟩
  rw [h3, dg_cod (by omega) (fun j _ => by have := dg_lt (show 0 < p by omega) c j; omega) j hj]
  by_cases e : j = i
  · subst e; rw [if_pos rfl]; omega
  · rw [if_neg e]; omega
theorem sg_one {f : Nat → Int} {i : Nat} : ∀ {n : Nat}, i < n → (∀ j, j < n → j ≠ i → f j = 0) → sg f n = f i := by
  intro n
  induction n with
  | zero => intro h; omega
  | succ n ih =>
    intro h hf
    rw [sg]
    by_cases e : n = i
    · subst e
      rw [sg_zero (fun j hj => hf j (by omega) (by omega)), Int.zero_add]
    · rw [ih (by omega) (fun j hj h2 => hf j (by omega) h2), hf n (by omega) e, Int.add_zero]
theorem imz_step {p m n c i : Nat} (hp : isP p) (hc : c < p ^ 5) (hi : i ≤ n) (hn : n ≤ 4) (h : 1 ≤ dg p c i) (j : Nat) : imz p m n c j = imz p m n (c - p ^ i) j + colV p m n i j := by
  unfold imz sb colV
  have e : ∀ k, k < n + 1 → (dg p c k : Int) * colZ (dg p m 0) (dg p m 1) (dg p m 2) (dg p m 3) n k j = (dg p (c - p ^ i) k : Int) * colZ (dg p m 0) (dg p m 1) (dg p m 2) (dg p m 3) n k j + (if k = i then colZ (dg p m 0) (dg p m 1) (dg p m 2) (dg p m 3) n k j else 0) := by
    intro k hk
    have := (dg_sub hp hc (show i < 5 by omega) h (show k < 5 by omega)).2
    rw [← this]
    by_cases e : k = i
    · rw [if_pos e, if_pos e, Int.natCast_add, Int.add_mul]
      show _ + (1 : Int) * _ = _
      rw [Int.one_mul]
    · rw [if_neg e, if_neg e]; simp
  rw [sg_cong e, sg_add]
  congr 1
  rw [sg_one (i := i) (by omega) (fun k _ hk => if_neg hk), if_pos rfl]
theorem act_step {p m n c i : Nat} (hp : isP p) (hc : c < p ^ 5) (hi : i ≤ n) (hn : n ≤ 4) (h : 1 ≤ dg p c i) : act p m n c = tot p (act p m n (c - p ^ i)) (cod p (fun j => (colV p m n i j % p).toNat) (n + 1)) := by
  have hb := isP_b hp
  unfold tot
  have h0 : cod p (fun j => (colV p m n i j % p).toNat) (n + 1) = cod p (fun j => (colV p m n i j % p).toNat) 5 := (cod_ext (by omega) (fun j h1 h2 => by
    show (colV p m n i j % p).toNat = 0
    rw [show colV p m n i j = 0 from sup_col _ _ _ _ hi j (by omega)]; simp)).symm
  rw [h0]
  refine cod_cong (fun j hj => ?_)
  rw [act_dg (by omega) hj, dg_cod (by omega) (fun j _ => (emod_toNat (by omega) _).1) j hj, imz_step hp hc hi hn h]
  have a1 := emod_toNat (show 0 < p by omega) (imz p m n (c - p ^ i) j)
  have a2 := emod_toNat (show 0 < p by omega) (colV p m n i j)
  have a3 := emod_toNat (show 0 < p by omega) (imz p m n (c - p ^ i) j + colV p m n i j)
  have a4 : (imz p m n (c - p ^ i) j + colV p m n i j) % p = ((((imz p m n (c - p ^ i) j % p).toNat + (colV p m n i j % p).toNat : Nat) : Int)) % p := by
    rw [Int.natCast_add, a1.2, a2.2]
    exact mq_iff.mp (mq_add (mq_sy (mq_mod _ _)) (mq_sy (mq_mod _ _)))
  have a5 : ((((imz p m n (c - p ^ i) j % p).toNat + (colV p m n i j % p).toNat : Nat) : Int)) % p = (((imz p m n (c - p ^ i) j % p).toNat + (colV p m n i j % p).toNat) % p : Nat) := by omega
  omega
theorem act_0 {p m n : Nat} : act p m n 0 = 0 := by
  have h : ∀ j, imz p m n 0 j = 0 := fun j => sg_zero (fun i _ => by simp [dg])
  have : ∀ k, cod p (fun _ => 0) k = 0 := fun k => by
    induction k with
    | zero => rfl
    | succ k ih => rw [cod, ih]; simp
  unfold act
  rw [cod_cong (g := fun _ => 0) (fun j _ => by rw [h j]; simp), this]
/-- where the codes of a degree begin -/
def st0 (n : Nat) : Nat := if n = 2 then 25 else if n = 3 then 150 else if n = 4 then 775 else 0
theorem stS_st (n : Nat) (hn : n ≤ 4) : stS n = nI (st0 n) := by
  have : n = 0 ∨ n = 1 ∨ n = 2 ∨ n = 3 ∨ n = 4 := by omega
  rcases this with rfl | rfl | rfl | rfl | rfl <;> rfl
theorem lenC_g (g : Nat) : lenC (23 + 2 * g) = 3900 := by
  unfold lenC
  split <;> first | omega | rfl
/-- the images of the codes of a degree -/
def imgs (p m n : Nat) (f : Nat → Int32) : Prop := ∀ c, c < p ^ (n + 1) → f (st0 n + c) = nI (act p m n c)
theorem st_in {p n c : Nat} (hp : isP p) (h1 : 1 ≤ n) (hn : n ≤ 4) (hc : c < p ^ (n + 1)) : st0 n + c < 3900 ∧ ∀ k d, 1 ≤ k → k < n → d < p ^ (k + 1) → st0 k + d < st0 n := by
  have e : n = 1 ∨ n = 2 ∨ n = 3 ∨ n = 4 := by omega
  have q1 : p ^ 2 ≤ 25 := Nat.le_trans (Nat.pow_le_pow_left (isP_b hp).2 2) (by decide)
  have q2 : p ^ 3 ≤ 125 := Nat.le_trans (Nat.pow_le_pow_left (isP_b hp).2 3) (by decide)
  have q3 : p ^ 4 ≤ 625 := Nat.le_trans (Nat.pow_le_pow_left (isP_b hp).2 4) (by decide)
  have q4 : p ^ 5 ≤ 3125 := Nat.le_trans (Nat.pow_le_pow_left (isP_b hp).2 5) (by decide)
  rcases e with rfl | rfl | rfl | rfl
  · refine ⟨?_, fun k d h2 h3 => by omega⟩
    simp only [st0] at hc ⊢
    have : p ^ (1 + 1) ≤ 25 := q1
    simp; omega
  · refine ⟨?_, fun k d h2 h3 h4 => ?_⟩
    · have : p ^ (2 + 1) ≤ 125 := q2
      simp [st0]; omega
    · obtain rfl : k = 1 := by omega
      have : p ^ (1 + 1) ≤ 25 := q1
      simp [st0]; omega
  · refine ⟨?_, fun k d h2 h3 h4 => ?_⟩
    · have : p ^ (3 + 1) ≤ 625 := q3
      simp [st0]; omega
    · have ek : k = 1 ∨ k = 2 := by omega
      rcases ek with rfl | rfl
      · have : p ^ (1 + 1) ≤ 25 := q1
        simp [st0]; omega
      · have : p ^ (2 + 1) ≤ 125 := q2
        simp [st0]; omega
  · refine ⟨?_, fun k d h2 h3 h4 => ?_⟩
    · have : p ^ (4 + 1) ≤ 3125 := q4
      simp [st0]; omega
    · have ek : k = 1 ∨ k = 2 ∨ k = 3 := by omega
      rcases ek with rfl | rfl | rfl
      · have : p ^ (1 + 1) ≤ 25 := q1
        simp [st0]; omega
      · have : p ^ (2 + 1) ≤ 125 := q2
        simp [st0]; omega
      · have : p ^ (3 + 1) ≤ 625 := q3
        simp [st0]; omega
theorem div_one {p c i : Nat} (hp : 0 < p) (h1 : p ^ i ≤ c) (h2 : c < p ^ (i + 1)) : 1 ≤ dg p c i := by
  unfold dg
  have h3 : 1 ≤ c / p ^ i := (Nat.le_div_iff_mul_le (Nat.pow_pos hp)).mpr (by omega)
  have h4 : c / p ^ i < p := by
    refine Nat.div_lt_of_lt_mul ?_
    rw [← Nat.pow_succ]; exact h2
  rw [Nat.mod_eq_of_lt h4]; exact h3
theorem fillImages_ok {al g p m n : Nat} {u : St} {Q : St → Prop} (hp : PP u p) (h1 : 1 ≤ n) (hn : n ≤ 4) (hd : u 0 1 = nI n) (hcol : ∀ i j, i ≤ n → j ≤ n → u 13 (5 * i + j) = iI (colV p m n i j % p))
    (h : ∀ f : Nat → Int32, imgs p m n f → (∀ x, (x < st0 n ∨ st0 n + p ^ (n + 1) ≤ x) → f x = u (23 + 2 * g) x) → Q (sa u (23 + 2 * g) f)) : f_X3_fillImages al g (nI n) u Q := by
  have hb := isP_b hp.2
  have hk0 : 23 + 2 * g ≠ 0 := by omega
  have hk13 : (13 : Nat) ≠ 23 + 2 * g := by omega
  have hlen := lenC_g g
  have hpow5 : ∀ k, k ≤ 5 → p ^ k ≤ 3125 := fun k hk => pow_b hp.2 hk
  have hst : st0 n ≤ 775 := by unfold st0; split; · omega
                               split; · omega
                               split <;> omega
  have hin : ∀ c, c < p ^ (n + 1) → st0 n + c < 3900 := fun c hc => (st_in hp.2 h1 hn hc).1
  unfold f_X3_fillImages
  refine readS_ok (by omega) ?_
  rw [stS_st n hn]
  refine write_ok (by rw [hlen]; omega) ?_
  rw [su_sa]
  refine loopU (S := St) (fun k i s => f_X3_fillImages_L22 al g (nI n) (nI (st0 n)) Q (fun u22 => Q u22) k i s) (n + 1) (fun i s => ∃ f : Nat → Int32, s = sa u (23 + 2 * g) f ∧ (∀ c, c < p ^ i → f (st0 n + c) = nI (act p m n c)) ∧ (∀ x, (x < st0 n ∨ st0 n + p ^ i ≤ x) → f x = u (23 + 2 * g) x)) ?_ ?_ 0 (Nat.zero_le _) _ ?_
  · rintro k i s hi ⟨f, rfl, hf1, hf2⟩ kk
    show f_X3_fillImages_L22_s _ _ _ _ _ _ _ _ _
    unfold f_X3_fillImages_L22_s
    have hpp : PP (sa u (23 + 2 * g) f) p := hp.sa hk0
    refine ⟨fun c => absurd ((nI_ltI (by omega) (by omega)).mp c) (by omega), fun _ => howMany_ok hpp (by omega) ?_⟩
    rw [nI_1]
    refine howMany_ok hpp (by omega) ?_
    refine ccode_ok (n := n) (f := fun j => (colV p m n i j % p).toNat) hpp (by omega) hn (by rw [sa_n _ _ (by omega)]; exact hd) (fun j hj => by
      rw [sa_n _ _ hk13, hcol i j (by omega) hj, iI_nn (emod_b hp.2 _).1]) ?_
    have hci : cod p (fun j => (colV p m n i j % p).toNat) (n + 1) < 3126 := by
      have := cod_lt (p := p) (n := n + 1) (f := fun j => (colV p m n i j % p).toNat) (by omega) (fun j _ => (emod_toNat (by omega) _).1)
      have := hpow5 (n + 1) (by omega)
      omega
    have hp1 := hpow5 i (by omega)
    have hp2 := hpow5 (i + 1) (by omega)
    have hle : p ^ i ≤ p ^ (i + 1) := Nat.pow_le_pow_right (by omega) (by omega)
    have hle2 : p ^ (i + 1) ≤ p ^ (n + 1) := Nat.pow_le_pow_right (by omega) (by omega)
    refine loopU (S := St) (fun k' x s' => f_X3_fillImages_L58 al g (nI n) (nI (st0 n)) (nI i) (nI (p ^ i)) (nI (p ^ (i + 1))) (nI (cod p (fun j => (colV p m n i j % p).toNat) (n + 1))) Q _ k' x s') (p ^ (i + 1)) (fun x s' => ∃ f : Nat → Int32, s' = sa u (23 + 2 * g) f ∧ p ^ i ≤ x ∧ (∀ c, c < x → f (st0 n + c) = nI (act p m n c)) ∧ (∀ y, (y < st0 n ∨ st0 n + x ≤ y) → f y = u (23 + 2 * g) y)) ?_ ?_ (p ^ i) hle _ ⟨f, rfl, Nat.le_refl _, hf1, hf2⟩
    · rintro k' x s' hx ⟨f', rfl, hxi, hg1, hg2⟩ kk2
      show f_X3_fillImages_L58_s _ _ _ _ _ _ _ _ _ _ _ _ _
      unfold f_X3_fillImages_L58_s
      have hpp' : PP (sa u (23 + 2 * g) f') p := hp.sa hk0
      have hxin := hin x (by omega)
      refine ⟨fun c => absurd c (nI_ge hx (by omega)), fun _ => ?_⟩
      rw [nI_add, pk_sub (by omega)]
      refine read_ok (by rw [hlen]; omega) ?_
      rw [sa_k, show st0 n + x - p ^ i = st0 n + (x - p ^ i) by omega, hg1 (x - p ^ i) (by have := pow_pos' hp.2 i; omega)]
      have hal := act_lt5 (m := m) (n := n) (c := x - p ^ i) hp.2
      have hp55 := hpow5 5 (by omega)
      refine total_ok hpp' (by omega) (by omega) ?_
      refine write_ok (by rw [hlen]; exact hxin) ?_
      intro v17 ev17
      subst ev17
      rw [nI_1, su_sa, sa_k, sa_sa]
      have hx5 : x < p ^ 5 := by
        have := Nat.pow_le_pow_right (show 0 < p by omega) (show n + 1 ≤ 5 by omega)
        omega
      refine kk2 _ ⟨_, rfl, by omega, fun c hc => ?_, fun y hy => ?_⟩
      · by_cases e : c = x
        · subst e
          rw [upd_in, act_step hp.2 hx5 (show i ≤ n by omega) hn (div_one (by omega) hxi hx)]
        · rw [upd_ne _ _ (by omega)]; exact hg1 c (by omega)
      · rw [upd_ne _ _ (by omega)]; exact hg2 y (by omega)
    · rintro k' s' ⟨f', rfl, hxi, hg1, hg2⟩
      show f_X3_fillImages_L58_s _ _ _ _ _ _ _ _ _ _ _ _ _
      unfold f_X3_fillImages_L58_s
      refine ⟨fun _ v20 ev20 => ?_, fun c => absurd (nI_le (Nat.le_refl _) (by omega)) c⟩
      subst ev20
      exact kk _ ⟨f', rfl, hg1, hg2⟩
  · rintro k s ⟨f, rfl, hf1, hf2⟩
    show f_X3_fillImages_L22_s _ _ _ _ _ _ _ _ _
    unfold f_X3_fillImages_L22_s
    exact ⟨fun _ => h f hf1 hf2, fun c => absurd ((nI_ltI (by omega) (by omega)).mpr (by omega)) c⟩
  · refine ⟨_, rfl, fun c hc => ?_, fun x hx => ?_⟩
    · have : c = 0 := by rw [Nat.pow_zero] at hc; omega
      subst this
      rw [Nat.add_zero, upd_in, act_0]; rfl
    · rw [Nat.pow_zero] at hx
      rw [upd_ne _ _ (by omega)]
/-- all images of a generator -/
def gimg (p m : Nat) (f : Nat → Int32) : Prop := ∀ n, 1 ≤ n → n ≤ 4 → imgs p m n f
theorem become_ok {al g p m : Nat} {u : St} {Q : St → Prop} (hp : PP u p) (hg : g < 4) (hm : m < 1000000000)
    (h : ∀ v : St, chg [13, 23 + 2 * g] [1, 8 + g] u v → v 0 (8 + g) = nI m → gimg p m (v (23 + 2 * g)) → Q v) : f_X3_become al g (nI m) u Q := by
  have hb := isP_b hp.2
  unfold f_X3_become
  intro u1 eu1
  have hn0 : ∀ (j : Nat), j ∈ [1, 8 + g] → j ≠ 0 := by
    intro j hj
    simp only [List.mem_cons, List.not_mem_nil, or_false] at hj
    omega
  have c1 : chg [13, 23 + 2 * g] [1, 8 + g] u u1 := by rw [eu1]; exact chg_su0 (by simp)
  refine loopU (S := St) (fun k i s => f_X3_become_L8 al g Q (fun u7 => Q u7) k i s) 5 (fun i s => 1 ≤ i ∧ chg [13, 23 + 2 * g] [1, 8 + g] u s ∧ s 0 (8 + g) = nI m ∧ ∀ n, 1 ≤ n → n < i → imgs p m n (s (23 + 2 * g))) ?_ ?_ 1 (by omega) u1 ⟨Nat.le_refl _, c1, by rw [eu1, su_kk], fun n h1 h2 => by omega⟩
  · rintro k i s hi ⟨hi1, hc, hmat, him⟩ kk
    show f_X3_become_L8_s _ _ _ _ _ _ _
    unfold f_X3_become_L8_s
    have hpp := hc.pp hp (fun q => hn0 0 q rfl)
    refine ⟨fun c => absurd ((nI_ltI (a := 4) (by omega) (by omega)).mp c) (by omega), fun _ => ?_⟩
    rw [hmat]
    refine colfill_ok hpp hm (by omega) ?_
    intro v hv hv1 hv2
    have hpv := hv.pp hpp (by decide)
    refine fillImages_ok (m := m) hpv hi1 (by omega) hv1 hv2 ?_
    intro f hf1 hf2 v5 ev5
    subst ev5
    rw [nI_1]
    refine kk _ ⟨by omega, ?_, ?_, ?_⟩
    · refine (hc.tr (hv.wk (by simp) (by simp))).tr (chg_sa (by simp) (by omega))
    · rw [sa_n _ _ (by omega), hv.1 _ (by simp; omega)]; exact hmat
    · intro n h1 h2
      rw [sa_k]
      by_cases e : n = i
      · subst e; exact hf1
      · intro c hc2
        have hst := (st_in hp.2 (n := i) (c := 0) hi1 (by omega) (pow_pos' hp.2 _)).2 n c h1 (by omega) hc2
        rw [hf2 _ (Or.inl hst), hv.2 _ (by omega) (by simp; omega)]
        exact him n h1 (by omega) c hc2
  · rintro k s ⟨hi1, hc, hmat, him⟩
    show f_X3_become_L8_s _ _ _ _ _ _ _
    unfold f_X3_become_L8_s
    exact ⟨fun _ => h s hc hmat (fun n h1 h2 => him n h1 (by omega)), fun c => absurd ((nI_ltI (a := 4) (by omega) (by omega)).mpr (by omega)) c⟩
theorem gimage_ok {al g p m n c : Nat} {u : St} {Q : Int32 → St → Prop} (hp : isP p) (h1 : 1 ≤ n) (hn : n ≤ 4) (hc : c < p ^ (n + 1)) (him : gimg p m (u (23 + 2 * g))) (h : Q (nI (act p m n c)) u) : f_X3_image al g (nI n) (nI c) u Q := by
  unfold f_X3_image
  refine readS_ok (by omega) ?_
  rw [stS_st n hn, nI_add]
  refine read_ok (by rw [lenC_g]; exact (st_in hp h1 hn hc).1) ?_
  rw [him n h1 hn c hc]
  exact h
