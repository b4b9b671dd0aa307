/-! sums of forms, averages, transvectants the other way round -/
theorem imz_sg (p m n c j : Nat) : imz p m n c j = sg (fun i => (dg p c i : Int) * colV p m n i j) (n + 1) := rfl
theorem imz_add {p m n c c' c2 : Nat} (h : ∀ i, i ≤ n → mq p (dg p c2 i : Int) ((dg p c i : Int) + (dg p c' i : Int))) (j : Nat) : mq p (imz p m n c2 j) (imz p m n c j + imz p m n c' j) := by
  rw [imz_sg, imz_sg, imz_sg, ← sg_add]
  refine sg_mq (fun i hi => ?_)
  have h1 := mq_mul (h i (by omega)) (mq_rf p (colV p m n i j))
  rw [Int.add_mul] at h1
  exact h1
theorem tot_dg {p c o j : Nat} (hp : 0 < p) (hj : j < 5) : dg p (tot p c o) j = (dg p c j + dg p o j) % p := dg_cod hp (fun i _ => Nat.mod_lt _ hp) j hj
theorem tot_mq {p c o j : Nat} (hp : 0 < p) (hj : j < 5) : mq p (dg p (tot p c o) j : Int) ((dg p c j : Int) + (dg p o j : Int)) := by
  rw [tot_dg hp hj, Int.natCast_emod, Int.natCast_add]
  exact mq_mod p _
theorem tot_lt5 {p c o : Nat} (hp : 0 < p) : tot p c o < p ^ 5 := cod_lt hp (fun j _ => Nat.mod_lt _ hp)
theorem tot_ltd {p d c o : Nat} (hp : 0 < p) (hd : d ≤ 4) (hc : c < p ^ (d + 1)) (ho : o < p ^ (d + 1)) : tot p c o < p ^ (d + 1) := by
  unfold tot
  rw [cod_ext (n := d + 1) (m := 5) (by omega) (fun j h1 h2 => by
    show (dg p c j + dg p o j) % p = 0
    rw [dg_big hc h1 hp, dg_big ho h1 hp]; exact Nat.zero_mod p)]
  exact cod_lt hp (fun j _ => Nat.mod_lt _ hp)
theorem act_tot {p m d c o : Nat} (hp : isP p) (hd : d ≤ 4) : act p m d (tot p c o) = tot p (act p m d c) (act p m d o) := by
  have hb := isP_b hp
  have hp0 : 0 < p := by omega
  refine cod_inj hp0 (n := 5) (act_lt5 hp) (tot_lt5 hp0) (fun j hj => dg_mq (dg_lt hp0 _ _) (dg_lt hp0 _ _) ?_)
  refine mq_tr (act_mq hp0 hj) (mq_tr (imz_add (fun i hi => tot_mq hp0 (by omega)) j) ?_)
  exact mq_tr (mq_add (mq_sy (act_mq hp0 hj)) (mq_sy (act_mq hp0 hj))) (mq_sy (tot_mq hp0 hj))
theorem mulc_dg {p c k j : Nat} (hp : 0 < p) (hj : j < 5) : dg p (mulc p c k) j = k * dg p c j % p := dg_cod hp (fun i _ => Nat.mod_lt _ hp) j hj
theorem mulc_mq {p c k j : Nat} (hp : 0 < p) (hj : j < 5) : mq p (dg p (mulc p c k) j : Int) ((k : Int) * (dg p c j : Int)) := by
  rw [mulc_dg hp hj, Int.natCast_emod, Int.natCast_mul]
  exact mq_mod p _
theorem mulc_lt5 {p c k : Nat} (hp : 0 < p) : mulc p c k < p ^ 5 := cod_lt hp (fun j _ => Nat.mod_lt _ hp)
theorem mulc_ltd {p d c k : Nat} (hp : 0 < p) (hd : d ≤ 4) (hc : c < p ^ (d + 1)) : mulc p c k < p ^ (d + 1) := by
  unfold mulc
  rw [cod_ext (n := d + 1) (m := 5) (by omega) (fun j h1 h2 => by
    show k * dg p c j % p = 0
    rw [dg_big hc h1 hp, Nat.mul_zero]; exact Nat.zero_mod p)]
  exact cod_lt hp (fun j _ => Nat.mod_lt _ hp)
theorem act_mulc {p m d c k : Nat} (hp : isP p) (hd : d ≤ 4) : act p m d (mulc p c k) = mulc p (act p m d c) k := by
  have hb := isP_b hp
  have hp0 : 0 < p := by omega
  refine cod_inj hp0 (n := 5) (act_lt5 hp) (mulc_lt5 hp0) (fun j hj => dg_mq (dg_lt hp0 _ _) (dg_lt hp0 _ _) ?_)
  refine mq_tr (act_mq hp0 hj) ?_
  have h1 : mq p (imz p m d (mulc p c k) j) ((k : Int) * imz p m d c j) := by
    rw [imz_sg, imz_sg, ← sg_mul]
    refine sg_mq (fun i hi => ?_)
    have h2 := mq_mul (mulc_mq (c := c) (k := k) hp0 (show i < 5 by omega)) (mq_rf p (colV p m d i j))
    rw [Int.mul_assoc] at h2
    exact h2
  exact mq_tr h1 (mq_tr (mq_mul (mq_rf p _) (mq_sy (act_mq hp0 hj))) (mq_sy (mulc_mq hp0 hj)))
/-- a sum of codes, figure by figure -/
theorem totS_lt5 {p : Nat} (hp : isP p) (q : Nat → Nat) : ∀ k, totS p q k < p ^ 5
  | 0 => pow_pos' hp 5
  | k + 1 => tot_lt5 (by have := isP_b hp; omega)
theorem totS_ltd {p d : Nat} (hp : isP p) (hd : d ≤ 4) {q : Nat → Nat} : ∀ k, (∀ i, i < k → q i < p ^ (d + 1)) → totS p q k < p ^ (d + 1)
  | 0, _ => pow_pos' hp (d + 1)
  | k + 1, h => tot_ltd (by have := isP_b hp; omega) hd (totS_ltd hp hd k (fun i hi => h i (by omega))) (h k (by omega))
theorem totS_dg {p : Nat} (hp : isP p) (q : Nat → Nat) {j : Nat} (hj : j < 5) : ∀ k, dg p (totS p q k) j = fb_sm (fun i => dg p (q i) j) k % p
  | 0 => by show dg p 0 j = 0 % p; simp [dg]
  | k + 1 => by
    have hb := isP_b hp
    show dg p (tot p (totS p q k) (q k)) j = _
    rw [tot_dg (by omega) hj, totS_dg hp q hj k, fb_sm_succ, Nat.mod_add_mod]
theorem act_totS {p m d : Nat} (hp : isP p) (hd : d ≤ 4) (q : Nat → Nat) : ∀ k, act p m d (totS p q k) = totS p (fun i => act p m d (q i)) k
  | 0 => act_0
  | k + 1 => by
    show act p m d (tot p (totS p q k) (q k)) = tot p (totS p (fun i => act p m d (q i)) k) (act p m d (q k))
    rw [act_tot hp hd, act_totS hp hd q k]
/-- a sum in another order -/
theorem sm_perm {F q r : Nat → Nat} {K : Nat} (hd : ∀ k k', k < k' → k' < K → q k ≠ q k') (hr : ∀ k k', k < k' → k' < K → r k ≠ r k') (h : ∀ i, i < K → ∃ k, k < K ∧ q k = r i) : fb_sm (fun i => F (r i)) K = fb_sm (fun k => F (q k)) K := by
  rw [sum_fib (A := r) (q := q) (F := F) hd h]
  refine fb_sm_cong (fun k hk => ?_)
  obtain ⟨s, hs⟩ : ∃ s : Nat → Nat, ∀ i, i < K → s i < K ∧ q (s i) = r i := ⟨fun i => if hi : i < K then Classical.choose (h i hi) else 0, fun i hi => by
    simp only [dif_pos hi]
    exact Classical.choose_spec (h i hi)⟩
  have honto : ∃ i, i < K ∧ r i = q k := by
    obtain ⟨i, hi, e⟩ := fb_onto (n := K) (f := s) (fun i hi => (hs i hi).1) (fun i j hij hj e => hr i j hij hj (by rw [← (hs i (Nat.lt_trans hij hj)).2, ← (hs j hj).2, e])) hk
    exact ⟨i, hi, by rw [← (hs i hi).2, e]⟩
  obtain ⟨i, hi, ei⟩ := honto
  have h1 : fb_ct (fun i => decide (r i = q k)) K = 1 := by
    rw [ct_sm]
    refine sm_only (r := i) (v := 1) hi (by rw [if_pos (decide_eq_true ei)]) (fun j hj hne => if_neg (fun q2 => ?_))
    have e2 : r j = r i := (of_decide_eq_true q2).trans ei.symm
    rcases Nat.lt_trichotomy j i with g | g | g
    · exact hr j i g hi e2
    · exact hne g
    · exact hr i j g hj e2.symm
  rw [h1, Nat.one_mul]
/-- the sum of an orbit stays -/
theorem orb_sum_fix {p ng d c K g : Nat} {M l : Nat → Nat} {n : Nat} (hp : isP p) (hd : d ≤ 4) (hc : c < p ^ (d + 1)) (hM : gensOk p ng M) (hl : GL p ng M l n) (hK : stopAt (fO p d M) ng c K) (hg : g < ng) : act p (M g) d (totS p (wq (wout (fO p d M) ng c K)) K) = totS p (wq (wout (fO p d M) ng c K)) K := by
  have hb := isP_b hp
  have hp0 : 0 < p := by omega
  have hW := wout_WI (fO p d M) ng c K
  have hm := stop_m hK
  have hlt := O_lt hp hd hc hW
  rw [hm] at hlt
  have hdq : ∀ k k', k < k' → k' < K → wq (wout (fO p d M) ng c K) k ≠ wq (wout (fO p d M) ng c K) k' := fun k k' h1 h2 => hW.2.2.1 k k' h1 (by rw [hm]; exact h2)
  obtain ⟨jg, hjg, ejg⟩ := GL_mem hl (by
    have h1 := Rch_step (Rch_one p ng M) hg
    rw [one_mm hp (hM g hg).1] at h1
    exact h1)
  have hinj : ∀ x y, x < p ^ (d + 1) → y < p ^ (d + 1) → act p (M g) d x = act p (M g) d y → x = y := fun x y hx hy e => by
    obtain ⟨i2, hi2, e2, e3⟩ := GL_inv hp hl hjg
    rw [ejg] at e3
    have hx2 : act p (l i2) d (act p (M g) d x) = x := by rw [← act_mmul hp hd, e3, act_one hp hd hx]
    have hy2 : act p (l i2) d (act p (M g) d y) = y := by rw [← act_mmul hp hd, e3, act_one hp hd hy]
    rw [← hx2, e, hy2]
  rw [act_totS hp hd]
  refine cod_inj hp0 (n := 5) (totS_lt5 hp _ _) (totS_lt5 hp _ _) (fun j hj => ?_)
  rw [totS_dg hp _ hj, totS_dg hp _ hj]
  have h9 := sm_perm (F := fun x => dg p x j) (q := wq (wout (fO p d M) ng c K)) (r := fun i => act p (M g) d (wq (wout (fO p d M) ng c K) i)) hdq (fun k k' h1 h2 e => hdq k k' h1 h2 (hinj _ _ (hlt k (by omega)) (hlt k' h2) e)) (fun i hi => by
    obtain ⟨k, hk, e⟩ := stop_cl hK hi hg
    rw [hm] at hk
    exact ⟨k, hk, e⟩)
  exact congrArg (fun x => x % p) h9
theorem mulc_one {p c : Nat} (hp : isP p) (hc : c < p ^ 5) : mulc p c 1 = c := by
  have hb := isP_b hp
  have hp0 : 0 < p := by omega
  refine cod_inj hp0 (n := 5) (mulc_lt5 hp0) hc (fun j hj => ?_)
  rw [mulc_dg hp0 hj, Nat.one_mul]
  exact Nat.mod_eq_of_lt (dg_lt hp0 _ _)
theorem tot_zero {p c : Nat} (hp : isP p) (hc : c < p ^ 5) : tot p 0 c = c := by
  have hb := isP_b hp
  have hp0 : 0 < p := by omega
  refine cod_inj hp0 (n := 5) (tot_lt5 hp0) hc (fun j hj => ?_)
  rw [tot_dg hp0 hj, show dg p 0 j = 0 by simp [dg], Nat.zero_add]
  exact Nat.mod_eq_of_lt (dg_lt hp0 _ _)
theorem inv_n1 {p n : Nat} (hp : isP p) (h : inv p n ≠ 0) : n * inv p n % p = 1 := by
  have hb := isP_b hp
  have h0 : n % p ≠ 0 := fun q => h (by unfold inv; rw [if_pos q])
  have h1 := inv_mul hp (n % p) (Nat.mod_lt _ (by omega)) h0
  rw [inv_mod] at h1
  rw [← h1, Nat.mod_mul_mod]
theorem lvs_stop {p ng d c K : Nat} {M : Nat → Nat} (hK : stopAt (fO p d M) ng c K) : lvs p ng d M c = true ↔ K = 1 := by
  have hm := stop_m hK
  have hW := wout_WI (fO p d M) ng c K
  have q0 := WI_q0 hW
  have h1 : 0 < K := by have := hW.1; omega
  constructor
  · intro h
    have h := of_decide_eq_true h
    have hall := WI_all (S := fun x => x = c) hW rfl (fun x hx g hg => by rw [hx]; exact h g hg)
    refine Nat.le_antisymm (Nat.not_lt.mp (fun h2 => ?_)) h1
    exact hW.2.2.1 0 1 (by omega) (by omega) (by rw [hall 0 (by omega), hall 1 (by omega)])
  · intro h
    subst h
    refine decide_eq_true (fun g hg => ?_)
    obtain ⟨k, hk, e⟩ := stop_cl hK (a := 0) (by omega) hg
    have : k = 0 := by omega
    subst this
    rw [q0] at e
    exact e.symm
/-- an average is left by all, and is its own average -/
theorem avg_lvs {p ng d c K t : Nat} {M l : Nat → Nat} {n : Nat} (hp : isP p) (hd : d ≤ 4) (hc : c < p ^ (d + 1)) (hM : gensOk p ng M) (hl : GL p ng M l n) (hK : stopAt (fO p d M) ng c K) : lvs p ng d M (mulc p (totS p (wq (wout (fO p d M) ng c K)) K) t) = true :=
  decide_eq_true (fun g hg => by rw [act_mulc hp hd, orb_sum_fix hp hd hc hM hl hK hg])
theorem avg_lt {p ng d c K t : Nat} {M : Nat → Nat} (hp : isP p) (hd : d ≤ 4) (hc : c < p ^ (d + 1)) (hK : stopAt (fO p d M) ng c K) : mulc p (totS p (wq (wout (fO p d M) ng c K)) K) t < p ^ (d + 1) := by
  have hb := isP_b hp
  have hlt := O_lt hp hd hc (wout_WI (fO p d M) ng c K)
  rw [stop_m hK] at hlt
  exact mulc_ltd (by omega) hd (totS_ltd hp hd K hlt)
theorem avg_own {p ng d c K n : Nat} {M : Nat → Nat} (hp : isP p) (hd : d ≤ 4) (hc : c < p ^ (d + 1)) (hlv : lvs p ng d M c = true) (hn : inv p n ≠ 0) (hK : stopAt (fO p d M) ng c K) : mulc p (totS p (wq (wout (fO p d M) ng c K)) K) (n / K * inv p n % p) = c := by
  have hK1 := (lvs_stop hK).mp hlv
  subst hK1
  have hc5 : c < p ^ 5 := Nat.lt_of_lt_of_le hc (Nat.pow_le_pow_right (by have := isP_b hp; omega) (by omega))
  have e : totS p (wq (wout (fO p d M) ng c 1)) 1 = c := by
    show tot p 0 (wq (wout (fO p d M) ng c 1) 0) = c
    rw [WI_q0 (wout_WI (fO p d M) ng c 1), tot_zero hp hc5]
  rw [e, Nat.div_one, inv_n1 hp hn, mulc_one hp hc5]
/-! transvectants the other way round -/
theorem sg_rev (f : Nat → Int) : ∀ n, sg f (n + 1) = sg (fun i => f (n - i)) (n + 1) := by
  intro n
  induction n generalizing f with
  | zero => rfl
  | succ n ih =>
    rw [sg_head, ih (fun i => f (i + 1))]
    show f 0 + sg (fun i => f (n - i + 1)) (n + 1) = sg (fun i => f (n + 1 - i)) (n + 1) + f (n + 1 - (n + 1))
    rw [Int.add_comm, Nat.sub_self]
    congr 1
    exact sg_cong (fun i hi => by rw [show n - i + 1 = n + 1 - i by omega])
theorem cvv_sy (m n : Nat) (A B : Nat → Nat) (e : Nat) : cvv m n A B e = cvv n m B A e := by
  unfold cvv
  rw [sg_swap]
  refine sg_cong (fun j hj => sg_cong (fun i hi => ?_))
  by_cases q : i + j = e
  · rw [if_pos q, if_pos (by omega), Int.mul_comm]
  · rw [if_neg q, if_neg (by omega)]
theorem ch_sy : ∀ k, k < 4 → ∀ i, i < k + 1 → ch k (k - i) = ch k i := by decide
theorem sgn_sy : ∀ k, k < 4 → ∀ i, i < k + 1 → sgn (k - i) = sgn k * sgn i := by decide
theorem trZ_sy {p d1 d2 k : Nat} (hk : k ≤ 3) (F G : Nat → Nat) (e : Nat) : trZ p d2 d1 k G F e = sgn k * trZ p d1 d2 k F G e := by
  unfold trZ
  rw [← sg_mul, sg_rev]
  refine sg_cong (fun i hi => ?_)
  rw [show k - (k - i) = i by omega, cvv_sy, ch_sy k (by omega) i (by omega), sgn_sy k (by omega) i (by omega), Int.mul_assoc, Int.mul_assoc, Int.mul_assoc]
theorem trC_dg {p d1 d2 k j : Nat} (hp : 0 < p) {F G : Nat → Nat} (hs : d1 - k + (d2 - k) ≤ 4) (hj : j < 5) : mq p (dg p (trC p d1 d2 k F G) j : Int) (if j < d1 - k + (d2 - k) + 1 then trZ p d1 d2 k F G j else 0) := by
  have hlt : ∀ i, i < d1 - k + (d2 - k) + 1 → (fun e => (trZ p d1 d2 k F G e % (p : Int)).toNat) i < p := fun i _ => (emod_toNat hp _).1
  by_cases q : j < d1 - k + (d2 - k) + 1
  · rw [if_pos q]
    have h : dg p (trC p d1 d2 k F G) j = (trZ p d1 d2 k F G j % (p : Int)).toNat := dg_cod hp hlt j q
    rw [h, (emod_toNat hp _).2]
    exact mq_mod p _
  · rw [if_neg q]
    have h : trC p d1 d2 k F G < p ^ (d1 - k + (d2 - k) + 1) := cod_lt hp hlt
    rw [dg_big h (by omega) hp]
    exact mq_rf p 0
theorem trC_lt5 {p d1 d2 k : Nat} (hp : isP p) {F G : Nat → Nat} (hs : d1 - k + (d2 - k) ≤ 4) : trC p d1 d2 k F G < p ^ 5 := by
  have hb := isP_b hp
  have hlt : ∀ i, i < d1 - k + (d2 - k) + 1 → (fun e => (trZ p d1 d2 k F G e % (p : Int)).toNat) i < p := fun i _ => (emod_toNat (by omega) _).1
  have h : trC p d1 d2 k F G < p ^ (d1 - k + (d2 - k) + 1) := cod_lt (by omega) hlt
  exact Nat.lt_of_lt_of_le h (Nat.pow_le_pow_right (by omega) (by omega))
theorem trC_even {p d1 d2 k : Nat} (hp : isP p) (hk : k ≤ 3) (hs : d1 - k + (d2 - k) ≤ 4) (F G : Nat → Nat) (he : k % 2 = 0) : trC p d1 d2 k F G = trC p d2 d1 k G F := by
  have hb := isP_b hp
  have hp0 : 0 < p := by omega
  refine cod_inj hp0 (n := 5) (trC_lt5 hp hs) (trC_lt5 hp (by omega)) (fun j hj => dg_mq (dg_lt hp0 _ _) (dg_lt hp0 _ _) ?_)
  refine mq_tr (trC_dg hp0 hs hj) (mq_sy (mq_tr (trC_dg hp0 (by omega) hj) ?_))
  rw [show d2 - k + (d1 - k) = d1 - k + (d2 - k) by omega]
  by_cases q : j < d1 - k + (d2 - k) + 1
  · rw [if_pos q, if_pos q, trZ_sy hk, show sgn k = 1 from if_pos he, Int.one_mul]; exact mq_rf p _
  · rw [if_neg q, if_neg q]; exact mq_rf p 0
theorem trC_odd {p d1 d2 k : Nat} (hp : isP p) (hk : k ≤ 3) (hs : d1 - k + (d2 - k) ≤ 4) (F G : Nat → Nat) (ho : ¬ k % 2 = 0) : tot p (trC p d1 d2 k F G) (trC p d2 d1 k G F) = 0 := by
  have hb := isP_b hp
  have hp0 : 0 < p := by omega
  refine cod_inj hp0 (n := 5) (tot_lt5 hp0) (pow_pos' hp 5) (fun j hj => dg_mq (dg_lt hp0 _ _) (dg_lt hp0 _ _) ?_)
  refine mq_tr (tot_mq hp0 hj) (mq_tr (mq_add (trC_dg hp0 hs hj) (trC_dg hp0 (by omega) hj)) ?_)
  rw [show d2 - k + (d1 - k) = d1 - k + (d2 - k) by omega, show dg p 0 j = 0 by simp [dg]]
  by_cases q : j < d1 - k + (d2 - k) + 1
  · rw [if_pos q, if_pos q, trZ_sy hk, show sgn k = -1 from if_neg ho, Int.neg_mul, Int.one_mul, Int.add_left_neg]; exact mq_rf p 0
  · rw [if_neg q, if_neg q]; exact mq_rf p 0
