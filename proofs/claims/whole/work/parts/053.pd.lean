/-! the reference's elimination -/
def ME (u : St) (p N m : Nat) (A : Nat → Nat → Int) : Prop := ∀ k j, k < m → j < N → u 7 (5 * k + j) = iI (A k j) ∧ 0 ≤ A k j ∧ A k j < p
theorem ME.cong {u : St} {p N m : Nat} {A B : Nat → Nat → Int} (h : ME u p N m A) (hB : ∀ a b, a < m → b < N → B a b = A a b) : ME u p N m B := fun k j hk hj => by rw [hB k j hk hj]; exact h k j hk hj
theorem ME.ch {u v : St} {p N m : Nat} {A : Nat → Nat → Int} {X Y : List Nat} (h : ME u p N m A) (c : chg X Y u v) (h7 : 7 ∉ X) : ME v p N m A := fun k j hk hj => by rw [c.2 7 (by decide) h7]; exact h k j hk hj
theorem ME.put {u : St} {p N m k j : Nat} {A B : Nat → Nat → Int} {z : Int} (hp : isP p) (h : ME u p N m A) (hN : N ≤ 5) (hj : j < N) (hB : ∀ a b, a < m → b < N → B a b = if a = k ∧ b = j then z % p else A a b) : ME (su u 7 (5 * k + j) (iI (z % p))) p N m B := by
  have hb := isP_b hp
  intro a b ha hb2
  rw [su_sa, sa_k, hB a b ha hb2]
  by_cases e : a = k ∧ b = j
  · obtain ⟨rfl, rfl⟩ := e
    rw [upd_in, if_pos ⟨rfl, rfl⟩]
    exact ⟨rfl, Int.emod_nonneg _ (by omega), Int.emod_lt_of_pos _ (by omega)⟩
  · rw [upd_ne _ _ (by omega), if_neg e]
    exact h a b ha hb2
theorem lays_ok {p x n m : Nat} {A : Nat → Nat → Int} {u : St} {Q : St → Prop} (hp : MP u p) (hn : n ≤ 4) (hm : m + (n + 1) ≤ 20) (hc : u 0 5 = nI m) (hA : ME u p (n + 1) m A)
    (hcol : ∀ k i, k ≤ n → i ≤ n → u 6 (5 * k + i) = iI (colV p x n i k % p))
    (h : ∀ v, chg [7] [5] u v → v 0 5 = nI (m + (n + 1)) → ME v p (n + 1) (m + (n + 1)) (fun k j => if k < m then A k j else eqM p x n (k - m) j % p) → Q v) : f_X7_laysRows (nI n) u Q := by
  have hb := isP_b hp.2
  unfold f_X7_laysRows
  refine loopU (S := St) (fun k i s => f_X7_laysRows_L2 (nI n) Q (fun u18 => Q u18) k i s) (n + 1) (fun i s => chg [7] [5] u s ∧ s 0 5 = nI (m + i) ∧ ME s p (n + 1) (m + i) (fun k j => if k < m then A k j else eqM p x n (k - m) j % p)) ?_ ?_ 0 (Nat.zero_le _) u ⟨chg_rf _ _ _, hc, fun k j hk hj => by dsimp only; rw [if_pos (by omega)]; exact hA k j (by omega) hj⟩
  · rintro k i s hi ⟨c1, c2, c3⟩ kk
    show f_X7_laysRows_L2_s _ _ _ _ _ _
    unfold f_X7_laysRows_L2_s
    refine ⟨fun c => absurd ((nI_ltI (by omega) (by omega)).mp c) (by omega), fun _ => ?_⟩
    refine loopU (S := St) (fun k' j s' => f_X7_laysRows_L9 (nI n) (nI i) Q _ k' j s') (n + 1) (fun j s' => chg [7] [] s s' ∧ ME s' p (n + 1) (m + i) (fun k j => if k < m then A k j else eqM p x n (k - m) j % p) ∧ ∀ b, b < j → s' 7 (5 * (m + i) + b) = iI (eqM p x n i b % p)) ?_ ?_ 0 (Nat.zero_le _) s ⟨chg_rf _ _ _, c3, fun b hb => by omega⟩
    · rintro k' j s' hj ⟨d1, d3, d4⟩ kk2
      show f_X7_laysRows_L9_s _ _ _ _ _ _ _
      unfold f_X7_laysRows_L9_s
      have hpp : MP s' p := d1.mp (c1.mp hp (by decide)) (by decide)
      have s5 : s' 0 5 = nI (m + i) := by rw [d1.1 5 (by decide)]; exact c2
      have hm1 := emod_b hp.2 (colV p x n j i)
      have fin : ∀ z : Int, mq p z (eqM p x n i j) → (vp_in ((5 * (s' 0 5)) + nI j) 100 ∧ ∀ u7 : St, u7 = su s' 7 ((5 * (s' 0 5)) + nI j).toNatClampNeg (iI (z % p)) → (∀ v8 : Int32, v8 = nI j + 1 → f_X7_laysRows_L9 (nI n) (nI i) Q (fun u14 => (∀ u15 : St, u15 = su u14 0 5 ((u14 0 5) + 1) → (∀ v16 : Int32, v16 = nI i + 1 → f_X7_laysRows_L2 (nI n) Q (fun u18 => Q u18) k v16 u15))) k' v8 u7)) := by
        intro z hz
        rw [s5, mk5, nI_add]
        refine wrM (by omega) (by omega) ?_
        intro v8 e8
        rw [nI_1] at e8
        subst e8
        refine kk2 _ ⟨chg_tsu d1 (by decide) (by decide), ?_, fun b hb2 => ?_⟩
        · intro a b' ha hb'
          rw [su_sa, sa_k, upd_ne _ _ (by omega)]
          exact d3 a b' ha hb'
        · rw [su_sa, sa_k]
          by_cases e : b = j
          · subst e; rw [upd_in, mq_iff.mp hz]
          · rw [upd_ne _ _ (by omega)]; exact d4 b (by omega)
      refine ⟨fun c => absurd ((nI_ltI (by omega) (by omega)).mp c) (by omega), fun _ => ?_⟩
      rw [mk5, nI_add]
      refine rdM (by omega) (by omega) ?_
      rw [d1.2 6 (by decide) (by decide), c1.2 6 (by decide) (by decide), hcol i j (by omega) (by omega)]
      refine ⟨fun c => ?_, fun c => ?_⟩
      · have hne : ¬ i = j := fun e => c (by rw [e])
        refine mmod_ok hpp (z := colV p x n j i % p) (by rw [show (0 : Int32) = iI 0 from rfl, iI_sub, Int.sub_zero]) (by omega) (by omega) ?_
        refine fin _ ?_
        unfold eqM
        rw [if_neg hne, Int.sub_zero]
        exact mq_mod _ _
      · have he : i = j := (nI_eq (by omega) (by omega)).mp c
        refine mmod_ok hpp (z := colV p x n j i % p - 1) (by rw [show (1 : Int32) = iI 1 from rfl, iI_sub]) (by omega) (by omega) ?_
        refine fin _ ?_
        unfold eqM
        rw [if_pos he]
        exact mq_sub (mq_mod _ _) (mq_rf _ _)
    · rintro k' s' ⟨d1, d3, d4⟩
      show f_X7_laysRows_L9_s _ _ _ _ _ _ _
      unfold f_X7_laysRows_L9_s
      have s5 : s' 0 5 = nI (m + i) := by rw [d1.1 5 (by decide)]; exact c2
      refine ⟨fun _ u12 eu12 v13 ev13 => ?_, fun c => absurd ((nI_ltI (by omega) (by omega)).mpr (by omega)) c⟩
      rw [s5, nI_1] at eu12
      rw [nI_1] at ev13
      subst eu12 ev13
      refine kk _ ⟨(c1.tr (d1.wk (by decide) (by decide))).tr (chg_su0 (by decide)), by rw [su_kk, Nat.add_assoc], ?_⟩
      intro a b ha hb'
      rw [su_n _ _ _ (by decide)]
      by_cases e : a = m + i
      · subst e
        dsimp only
        rw [if_neg (by omega), show m + i - m = i by omega]
        exact ⟨d4 b hb', Int.emod_nonneg _ (by omega), Int.emod_lt_of_pos _ (by omega)⟩
      · exact d3 a b (by omega) hb'
  · rintro k s ⟨c1, c2, c3⟩
    show f_X7_laysRows_L2_s _ _ _ _ _ _
    unfold f_X7_laysRows_L2_s
    exact ⟨fun _ => h s c1 c2 c3, fun c => absurd ((nI_ltI (by omega) (by omega)).mpr (by omega)) c⟩
/-- finds the row of a pivot -/
theorem mfind_ok {p N m r i : Nat} {a1 a2 : Int32} {A : Nat → Nat → Int} {u : St} {Q : Int32 → St → Prop} {K : Int32 → St → Prop} (hp : isP p) (hN : N ≤ 5) (hm : m ≤ 20) (hc : u 0 5 = nI m) (hA : ME u p N m A) (hi : i < N) (hr : r ≤ m)
    (h1 : ∀ k, r ≤ k → k < m → ¬ A k i = 0 → K (nI k) u) (h2 : (∀ k, r ≤ k → k < m → A k i = 0) → K (nI m) u) : ∃ n, f_X7_free_L12 a1 a2 (nI i) Q K n (nI r) u := by
  have hb := isP_b hp
  refine loopU (S := St) (fun n k s => f_X7_free_L12 a1 a2 (nI i) Q K n k s) m (fun k s => s = u ∧ r ≤ k ∧ ∀ k', r ≤ k' → k' < k → A k' i = 0) ?_ ?_ r hr u ⟨rfl, Nat.le_refl _, fun k' a b => by omega⟩
  · rintro n k s hk ⟨rfl, hrk, hz⟩ kk
    show f_X7_free_L12_s _ _ _ _ _ _ _ _
    unfold f_X7_free_L12_s
    rw [hc]
    obtain ⟨ha, ha1, ha2⟩ := hA k i hk hi
    refine ⟨fun c => absurd c (nI_ge hk (by omega)), fun _ => ?_⟩
    rw [mk5, nI_add]
    refine rdM (by omega) (by omega) ?_
    rw [ha]
    refine ⟨fun c => h1 k hrk hk (fun e => c (by rw [e]; rfl)), fun c v5 ev5 => ?_⟩
    rw [nI_1] at ev5
    subst ev5
    have h0 : A k i = 0 := (iI_eq (by omega) (by omega) (by omega) (by omega)).mp (show iI (A k i) = iI 0 from c)
    refine kk _ ⟨rfl, by omega, fun k' a b => ?_⟩
    by_cases e : k' = k
    · subst e; exact h0
    · exact hz k' a (by omega)
  · rintro n s ⟨rfl, hrk, hz⟩
    show f_X7_free_L12_s _ _ _ _ _ _ _ _
    unfold f_X7_free_L12_s
    rw [hc]
    exact ⟨fun _ => h2 hz, fun c => absurd (nI_le (Nat.le_refl _) (by omega)) c⟩
/-- a pivot's row made 1 ahead, and put to its place -/
def swM (p : Nat) (A : Nat → Nat → Int) (r v t : Nat) : Nat → Nat → Int := fun k j => if k = r then (A v j * (t : Int)) % p else if k = v then A r j else A k j
theorem mswap_ok {p n m r v t : Nat} {a3 : Int32} {A : Nat → Nat → Int} {u : St} {Q : Int32 → St → Prop} {K : St → Prop} (hp : MP u p) (hn : n ≤ 4) (hm : m ≤ 20) (hA : ME u p (n + 1) m A) (hr : r < m) (hv : v < m) (ht : t < p)
    (h : ∀ w, chg [7] [] u w → ME w p (n + 1) m (swM p A r v t) → K w) : ∃ k, f_X7_free_L70 (nI n) (nI r) a3 (nI v) (nI t) Q K k 0 u := by
  have hb := isP_b hp.2
  refine loopU (S := St) (fun k j s => f_X7_free_L70 (nI n) (nI r) a3 (nI v) (nI t) Q K k j s) (n + 1) (fun j s => chg [7] [] u s ∧ ME s p (n + 1) m (fun k b => if b < j then swM p A r v t k b else A k b)) ?_ ?_ 0 (Nat.zero_le _) u ⟨chg_rf _ _ _, hA.cong (fun a b _ _ => if_neg (by omega))⟩
  · rintro k j s hj ⟨c1, c2⟩ kk
    show f_X7_free_L70_s _ _ _ _ _ _ _ _ _ _
    unfold f_X7_free_L70_s
    have hpp := c1.mp hp (by decide)
    obtain ⟨r1, r2, r3⟩ := c2 r j hr hj
    obtain ⟨v1, v2, v3⟩ := c2 v j hv hj
    dsimp only at r1 r2 r3 v1 v2 v3
    rw [if_neg (by omega)] at r1 r2 r3 v1 v2 v3
    refine ⟨fun c => absurd ((nI_ltI (by omega) (by omega)).mp c) (by omega), fun _ => ?_⟩
    rw [mk5, nI_add, mk5, nI_add]
    refine rdM (by omega) (by omega) ?_
    have hpb := prod_b v2 (by omega) (show (0 : Int) ≤ (t : Int) by omega) (by omega)
    rw [v1]
    refine mmod_ok hpp (z := A v j * (t : Int)) (by rw [iI_n, iI_mul]) (by omega) (by omega) ?_
    refine rdM (by omega) (by omega) ?_
    rw [r1]
    refine wrM (by omega) (by omega) (wrM (by omega) (by omega) ?_)
    intro v21 e21
    rw [nI_1] at e21
    subst e21
    refine kk _ ⟨chg_tsu (chg_tsu c1 (by decide) (by decide)) (by decide) (by decide), ?_⟩
    refine ME.put (A := fun k b => if k = v ∧ b = j then A r j else if b < j then swM p A r v t k b else A k b) hp.2 ?_ (by omega) hj ?_
    · rw [← Int.emod_eq_of_lt r2 r3]
      exact ME.put hp.2 c2 (by omega) hj (fun a b _ _ => by rw [Int.emod_eq_of_lt r2 r3])
    · intro a b _ _
      by_cases q1 : a = r ∧ b = j
      · obtain ⟨rfl, rfl⟩ := q1
        rw [if_pos (show b < b + 1 by omega), if_pos (show a = a ∧ b = b from ⟨rfl, rfl⟩)]
        unfold swM
        rw [if_pos rfl]
      · rw [if_neg q1]
        by_cases q2 : a = v ∧ b = j
        · obtain ⟨rfl, rfl⟩ := q2
          rw [if_pos (show b < b + 1 by omega), if_pos (show a = a ∧ b = b from ⟨rfl, rfl⟩)]
          unfold swM
          rw [if_neg (fun e => q1 ⟨e, rfl⟩), if_pos rfl]
        · rw [if_neg q2]
          by_cases q3 : b < j
          · rw [if_pos q3, if_pos (by omega)]
          · rw [if_neg q3]
            by_cases q4 : b < j + 1
            · have : b = j := by omega
              subst this
              rw [if_pos q4]
              unfold swM
              rw [if_neg (fun e => q1 ⟨e, rfl⟩), if_neg (fun e => q2 ⟨e, rfl⟩)]
            · rw [if_neg q4]
  · rintro k s ⟨c1, c2⟩
    show f_X7_free_L70_s _ _ _ _ _ _ _ _ _ _
    unfold f_X7_free_L70_s
    exact ⟨fun _ => h s c1 (c2.cong (fun a b _ hb2 => (if_pos hb2).symm)), fun c => absurd ((nI_ltI (by omega) (by omega)).mpr (by omega)) c⟩
def clM (p : Nat) (A : Nat → Nat → Int) (r i k0 j0 : Nat) : Nat → Nat → Int := fun k j => if r < k ∧ (k < k0 ∨ (k = k0 ∧ j < j0)) then (A k j - A k i * A r j) % p else A k j
theorem mclear_ok {p n m r i : Nat} {A : Nat → Nat → Int} {u : St} {Q : Int32 → St → Prop} {K : St → Prop} (hp : MP u p) (hn : n ≤ 4) (hm : m ≤ 20) (hc : u 0 5 = nI m) (hA : ME u p (n + 1) m A) (hr : r < m) (hi : i < n + 1)
    (h : ∀ w, chg [7] [] u w → ME w p (n + 1) m (clM p A r i m 0) → K w) : ∃ k, f_X7_free_L144 (nI n) (nI r) (nI i) Q K k (nI (r + 1)) u := by
  have hb := isP_b hp.2
  refine loopU (S := St) (fun t k s => f_X7_free_L144 (nI n) (nI r) (nI i) Q K t k s) m (fun k s => r < k ∧ chg [7] [] u s ∧ ME s p (n + 1) m (clM p A r i k 0)) ?_ ?_ (r + 1) (by omega) u ⟨by omega, chg_rf _ _ _, hA.cong (fun a b _ _ => if_neg (by omega))⟩
  · rintro t k s hk ⟨hrk, c1, c2⟩ kk
    show f_X7_free_L144_s _ _ _ _ _ _ _ _
    unfold f_X7_free_L144_s
    rw [show s 0 5 = nI m by rw [c1.1 5 (by decide)]; exact hc]
    obtain ⟨k1, k2, k3⟩ := c2 k i hk hi
    have hck : clM p A r i k 0 k i = A k i := if_neg (by omega)
    rw [hck] at k1 k2 k3
    refine ⟨fun c => absurd c (nI_ge hk (by omega)), fun _ => ?_⟩
    rw [mk5, nI_add]
    refine rdM (by omega) (by omega) ?_
    rw [k1]
    refine loopU (S := St) (fun t' j s' => f_X7_free_L169 (nI n) (nI r) (nI i) (nI k) (iI (A k i)) Q _ t' j s') (n + 1) (fun j s' => chg [7] [] s s' ∧ ME s' p (n + 1) m (clM p A r i k j)) ?_ ?_ 0 (Nat.zero_le _) s ⟨chg_rf _ _ _, c2⟩
    · rintro t' j s' hj ⟨d1, d2⟩ kk2
      show f_X7_free_L169_s _ _ _ _ _ _ _ _ _ _
      unfold f_X7_free_L169_s
      have hpp : MP s' p := d1.mp (c1.mp hp (by decide)) (by decide)
      obtain ⟨w1, w2, w3⟩ := d2 k j hk hj
      obtain ⟨x1, x2, x3⟩ := d2 r j hr hj
      have ek : clM p A r i k j k j = A k j := if_neg (by omega)
      have er : clM p A r i k j r j = A r j := if_neg (by omega)
      rw [ek] at w1 w2 w3
      rw [er] at x1 x2 x3
      have hpb2 := prod_b k2 (by omega) x2 (by omega)
      refine ⟨fun c => absurd ((nI_ltI (by omega) (by omega)).mp c) (by omega), fun _ => ?_⟩
      rw [mk5, nI_add, mk5, nI_add]
      refine rdM (by omega) (by omega) (rdM (by omega) (by omega) ?_)
      rw [w1, x1]
      refine mmod_ok hpp (z := A k j - A k i * A r j) (by rw [iI_mul, iI_sub]) (by omega) (by omega) ?_
      refine wrM (by omega) (by omega) ?_
      intro v33 e33
      rw [nI_1] at e33
      subst e33
      refine kk2 _ ⟨chg_tsu d1 (by decide) (by decide), ME.put hp.2 d2 (by omega) hj (fun a b ha hb2 => ?_)⟩
      unfold clM
      by_cases q : a = k ∧ b = j
      · obtain ⟨rfl, rfl⟩ := q
        rw [if_pos (by omega), if_pos ⟨rfl, rfl⟩]
      · rw [if_neg q]
        by_cases q2 : r < a ∧ (a < k ∨ (a = k ∧ b < j))
        · rw [if_pos (by omega), if_pos q2]
        · rw [if_neg (by omega), if_neg q2]
    · rintro t' s' ⟨d1, d2⟩
      show f_X7_free_L169_s _ _ _ _ _ _ _ _ _ _
      unfold f_X7_free_L169_s
      refine ⟨fun _ v36 e36 => ?_, fun c => absurd ((nI_ltI (by omega) (by omega)).mpr (by omega)) c⟩
      rw [nI_1] at e36
      subst e36
      refine kk _ ⟨by omega, c1.tr d1, d2.cong (fun a b ha hb2 => ?_)⟩
      unfold clM
      by_cases q2 : r < a ∧ (a < k ∨ (a = k ∧ b < n + 1))
      · rw [if_pos (by omega), if_pos q2]
      · rw [if_neg (by omega), if_neg q2]
  · rintro t s ⟨hrk, c1, c2⟩
    show f_X7_free_L144_s _ _ _ _ _ _ _ _
    unfold f_X7_free_L144_s
    rw [show s 0 5 = nI m by rw [c1.1 5 (by decide)]; exact hc]
    exact ⟨fun _ => h s c1 c2, fun c => absurd (nI_le (Nat.le_refl _) (by omega)) c⟩
theorem mone_pivot {p N m r v i : Nat} {A : Nat → Nat → Int} (hp : isP p) (hA : ∀ k j, k < m → j < N → 0 ≤ A k j ∧ A k j < p) (hv : r ≤ v) (hvm : v < m) (hi : i < N) (hne : ¬ A v i = 0) :
    solC p A r m i (N - i) = solC p (clM p (swM p A r v (inv p (A v i).toNat)) r i m 0) (r + 1) m (i + 1) (N - (i + 1)) := by
  have hb := isP_b hp
  have hvi := hA v i hvm hi
  have hinv := inv_mq hp hvi.1 hvi.2 hne
  have hil := inv_lt hp (A v i).toNat
  have hr0 : ∀ j, swM p A r v (inv p (A v i).toNat) r j = (A v j * (inv p (A v i).toNat : Int)) % p := fun j => if_pos rfl
  have hcl : ∀ k j, r < k → k < m → clM p (swM p A r v (inv p (A v i).toNat)) r i m 0 k j = (swM p A r v (inv p (A v i).toNat) k j - swM p A r v (inv p (A v i).toNat) k i * swM p A r v (inv p (A v i).toNat) r j) % p := fun k j h1 h2 => if_pos (by omega)
  have hcr : ∀ j, clM p (swM p A r v (inv p (A v i).toNat)) r i m 0 r j = (A v j * (inv p (A v i).toNat : Int)) % p := fun j => by
    unfold clM; rw [if_neg (by omega), hr0]
  have hsw : ∀ k, r < k → ∀ j, swM p A r v (inv p (A v i).toNat) k j = A (if k = v then r else k) j := fun k h1 j => by
    unfold swM; rw [if_neg (by omega)]; split <;> rfl
  have hone : mq p (A v i * (inv p (A v i).toNat : Int)) 1 := by rw [Int.mul_comm]; exact hinv
  have hnt : ¬ (p : Int) ∣ (inv p (A v i).toNat : Int) := by
    intro hd
    have h1 : (p : Int) ∣ A v i * (inv p (A v i).toNat : Int) := Int.dvd_mul_of_dvd_right hd
    unfold mq at hone
    have h2 : (p : Int) ∣ 1 := by
      have := Int.dvd_sub h1 hone
      rw [show A v i * (inv p (A v i).toNat : Int) - (A v i * (inv p (A v i).toNat : Int) - 1) = 1 by omega] at this
      exact this
    have := Int.le_of_dvd (by omega) h2
    omega
  have e : N - i = (N - (i + 1)) + 1 := by omega
  rw [e]
  rw [sol_step hp (B := clM p (swM p A r v (inv p (A v i).toNat)) r i m 0) (lo := r) (pv := v) (t := (inv p (A v i).toNat : Int)) (f := fun k => swM p A r v (inv p (A v i).toNat) k i) hv hvm hnt
    (fun j hj => by rw [hcr, Int.mul_comm]; exact mq_mod _ _)
    (fun k h1 h2 j hj => by
      rw [hcl k (i + j) h1 h2, hcr, hr0, ← hsw k h1]
      exact mq_mod _ _)]
  refine sol_pivot hp (by omega) ?_ ?_
  · rw [hcr]
    intro q
    have h3 := mq_tr (mq_sy (mq_tr (mq_mod _ _) hone)) q
    unfold mq at h3
    have := Int.le_of_dvd (by omega) h3
    omega
  · intro k h1 h2
    rw [hcl k i h1 h2, hr0]
    refine mq_tr (mq_mod _ _) ?_
    have h5 : mq p (swM p A r v (inv p (A v i).toNat) k i * ((A v i * (inv p (A v i).toNat : Int)) % p)) (swM p A r v (inv p (A v i).toNat) k i) := by
      have := mq_mul (mq_rf p (swM p A r v (inv p (A v i).toNat) k i)) (mq_tr (mq_mod p (A v i * (inv p (A v i).toNat : Int))) hone)
      rw [Int.mul_one] at this
      exact this
    have := mq_sub (mq_rf p (swM p A r v (inv p (A v i).toNat) k i)) h5
    rw [Int.sub_self] at this
    exact this
theorem free_ok {p n m : Nat} {A : Nat → Nat → Int} {u : St} {Q : Int32 → St → Prop} (hp : MP u p) (hn : n ≤ 4) (hm : m ≤ 20) (hc : u 0 5 = nI m) (hA : ME u p (n + 1) m A)
    (h : ∀ f w, chg [7] [] u w → f ≤ n + 1 → p ^ f = solC p A 0 m 0 (n + 1) → Q (nI f) w) : f_X7_free (nI n) u Q := by
  have hb := isP_b hp.2
  unfold f_X7_free
  refine loopU2 (fun t i a s => f_X7_free_L4 (nI n) Q (fun v42 u43 => Q ((nI n + 1) - v42) u43) t a i s) (n + 1) (fun i a s => ∃ r B, a = nI r ∧ r ≤ i ∧ r ≤ m ∧ chg [7] [] u s ∧ ME s p (n + 1) m B ∧ solC p A 0 m 0 (n + 1) = p ^ (i - r) * solC p B r m i (n + 1 - i)) ?_ ?_ 0 (Nat.zero_le _) 0 u ⟨0, A, rfl, Nat.le_refl _, Nat.zero_le _, chg_rf _ _ _, hA, by simp⟩
  · rintro t i a s hi ⟨r, B, rfl, hri, hrm, c1, c2, c3⟩ kk
    show f_X7_free_L4_s _ _ _ _ _ _ _
    unfold f_X7_free_L4_s
    have hs5 : s 0 5 = nI m := by rw [c1.1 5 (by decide)]; exact hc
    have hpp := c1.mp hp (by decide)
    refine ⟨fun c => absurd ((nI_ltI (by omega) (by omega)).mp c) (by omega), fun _ => ?_⟩
    refine mfind_ok hp.2 (by omega) hm hs5 c2 hi hrm (fun v hv1 hv2 hne => ?_) (fun hz => ?_)
    · rw [hs5]
      refine ⟨fun c => absurd c (nI_ge hv2 (by omega)), fun _ => ?_⟩
      obtain ⟨a1, a2, a3⟩ := c2 v i hv2 hi
      rw [mk5, nI_add]
      refine rdM (by omega) (by omega) ?_
      rw [a1, iI_nn a2]
      refine minv_ok hpp (by omega) ?_
      refine mswap_ok hpp hn hm c2 (by omega) hv2 (inv_lt hp.2 _) ?_
      intro w d1 d2 v24 e24
      rw [nI_1] at e24
      subst e24
      have hw5 : w 0 5 = nI m := by rw [d1.1 5 (by decide)]; exact hs5
      refine mclear_ok (d1.mp hpp (by decide)) hn hm hw5 d2 (by omega) hi ?_
      intro w2 d3 d4 v8 ev8 v9 ev9
      rw [nI_1] at ev8 ev9
      subst ev8 ev9
      refine kk _ _ ⟨r + 1, _, rfl, by omega, by omega, c1.tr (d1.tr d3), d4, ?_⟩
      rw [c3, mone_pivot hp.2 (fun k j hk hj => (c2 k j hk hj).2) hv1 hv2 hi hne, show i + 1 - (r + 1) = i - r by omega]
    · rw [hs5]
      refine ⟨fun _ v5 ev5 => ?_, fun c => absurd (nI_le (Nat.le_refl _) (by omega)) c⟩
      rw [nI_1] at ev5
      subst ev5
      refine kk _ _ ⟨r, B, rfl, by omega, hrm, c1, c2, ?_⟩
      rw [c3, show n + 1 - i = (n + 1 - (i + 1)) + 1 by omega, sol_free (show 0 < p by omega) (fun k h1 h2 => by rw [hz k h1 h2]; exact mq_rf _ _), show i + 1 - r = (i - r) + 1 by omega, Nat.pow_succ, Nat.mul_assoc]
  · rintro t a s ⟨r, B, rfl, hri, hrm, c1, c2, c3⟩
    show f_X7_free_L4_s _ _ _ _ _ _ _
    unfold f_X7_free_L4_s
    refine ⟨fun _ => ?_, fun c => absurd ((nI_ltI (by omega) (by omega)).mpr (by omega)) c⟩
    show Q ((nI n + 1) - nI r) s
    rw [nI_1, pk_sub hri]
    refine h _ s c1 (by omega) ?_
    rw [c3, Nat.sub_self, sol_end, Nat.mul_one]
theorem stk_lay {p d g : Nat} {M : Nat → Nat} {u : St} (h : ME u p (d + 1) (g * (d + 1) + (d + 1)) (fun k j => if k < g * (d + 1) then stk p M d k j else eqM p (M g) d (k - g * (d + 1)) j % p)) : ME u p (d + 1) ((g + 1) * (d + 1)) (stk p M d) := by
  rw [show (g + 1) * (d + 1) = g * (d + 1) + (d + 1) by rw [Nat.add_mul, Nat.one_mul]]
  refine h.cong (fun a b ha _ => ?_)
  by_cases c : a < g * (d + 1)
  · rw [if_pos c]
  · rw [if_neg c]
    obtain ⟨r, rfl⟩ := Nat.exists_eq_add_of_le (Nat.le_of_not_lt c)
    unfold stk
    have e1 : (g * (d + 1) + r) / (d + 1) = g := by
      rw [Nat.mul_comm, Nat.mul_add_div (by omega), Nat.div_eq_of_lt (by omega), Nat.add_zero]
    have e2 : (g * (d + 1) + r) % (d + 1) = r := by
      rw [Nat.mul_comm, Nat.mul_add_mod, Nat.mod_eq_of_lt (by omega)]
    rw [e1, e2, show g * (d + 1) + r - g * (d + 1) = r by omega]
theorem dimOf_ok {p ng nf d : Nat} {M D C : Nat → Nat} {u : St} {Q : Int32 → St → Prop} (hC : MI p ng M nf D C u) (hd4 : d ≤ 4)
    (h1 : ∀ f v, p ^ f = fb_ct (lvs p ng d M) (p ^ (d + 1)) → chg [6, 7, 8] [5] u v → Q (nI f) v) : f_X7_dimensionOf (nI d) u Q := by
  have hng := hC.2.2.1
  have hp := hC.1
  unfold f_X7_dimensionOf
  intro v e
  have cv : chg [6, 7, 8] [5] u v := by rw [e]; exact chg_su0 (by decide)
  have v5 : v 0 5 = nI 0 := by rw [e, su_kk]; rfl
  refine loopU (S := St) (fun n i s => f_X7_dimensionOf_L7 (nI d) Q (fun u9 => f_X7_free (nI d) u9 (fun v10 u11 => Q v10 u11)) n i s) ng (fun i s => chg [6, 7, 8] [5] u s ∧ s 0 5 = nI (i * (d + 1)) ∧ ME s p (d + 1) (i * (d + 1)) (stk p M d)) ?_ ?_ 0 (Nat.zero_le _) v ⟨cv, by rw [Nat.zero_mul]; exact v5, fun k j hk _ => by rw [Nat.zero_mul] at hk; exact absurd hk (Nat.not_lt_zero _)⟩
  · rintro n i s hi ⟨c1, c3, c4⟩ kk
    show f_X7_dimensionOf_L7_s _ _ _ _ _ _
    unfold f_X7_dimensionOf_L7_s
    have hs := hC.chg (c1.wk (by decide) (by decide))
    have hmul : (i + 1) * (d + 1) ≤ 4 * 5 := Nat.mul_le_mul (by omega) (by omega)
    rw [Nat.add_mul, Nat.one_mul] at hmul
    obtain ⟨-, hg4, -, h625⟩ := hC.m hi
    rw [hs.2.2.1.2]
    refine ⟨fun c => absurd c (nI_ge hi (by omega)), fun _ => gcode_ok hs hi (learns_ok hs.1 (by omega) hd4 ?_)⟩
    intro w cw wcol
    refine lays_ok (cw.mp hs.1 (by decide)) hd4 (by omega) (m := i * (d + 1)) (by rw [cw.1 5 (by decide)]; exact c3) (c4.ch cw (by decide)) wcol ?_
    intro y cy y3 yq v8 e8
    rw [nI_1] at e8
    subst e8
    refine kk _ ⟨(c1.tr (cw.wk (by decide) (by decide))).tr (cy.wk (by decide) (by decide)), by rw [y3, Nat.add_mul, Nat.one_mul], stk_lay yq⟩
  · rintro n s ⟨c1, c3, c4⟩
    show f_X7_dimensionOf_L7_s _ _ _ _ _ _
    unfold f_X7_dimensionOf_L7_s
    have hs := hC.chg (c1.wk (by decide) (by decide))
    have hmul : ng * (d + 1) ≤ 4 * 5 := Nat.mul_le_mul (by omega) (by omega)
    rw [hs.2.2.1.2]
    refine ⟨fun _ => ?_, fun c => absurd (nI_le (Nat.le_refl _) (by omega)) c⟩
    refine free_ok hs.1 hd4 (by omega) c3 c4 ?_
    intro f w cw hf e
    exact h1 f w (by rw [e]; exact sol_stk hp.2 hd4) (c1.tr (cw.wk (by decide) (by decide)))
theorem mdim_ok {p ng nf : Nat} {M D C : Nat → Nat} {a : Int32} {u : St} {Q : Int32 → St → Prop} (hC : MI p ng M nf D C u)
    (h1 : ∀ d f v, 1 ≤ d → d ≤ 4 → a = nI d → p ^ f = fb_ct (lvs p ng d M) (p ^ (d + 1)) → v 0 0 = 0 → MI p ng M nf D C v → Q (nI f) v)
    (h2 : (¬ ∃ d, 1 ≤ d ∧ d ≤ 4 ∧ a = nI d) → ∀ v, v 0 0 = 1 → MI p ng M nf D C v → Q 0 v) : f_X7_dimension a u Q := by
  unfold f_X7_dimension
  refine mdeg_ok (fun d hd1 hd4 e => ⟨fun q => absurd q (by decide), fun _ => hold0 ⟨fun q => absurd q (by decide), fun _ => ?_⟩⟩) (fun q => ⟨fun _ => hold1 ⟨fun _ => h2 q _ (by rw [su_kk]) (hC.T 1), fun c => absurd rfl c⟩, fun c => absurd rfl c⟩)
  subst e
  refine dimOf_ok (hC.T 0) hd4 ?_
  intro f v e cv
  exact h1 d f v hd1 hd4 rfl e (by rw [cv.1 0 (by decide), su_kk]) ((hC.T 0).chg (cv.wk (by decide) (by decide)))
theorem mdimA_ok {p ng nf : Nat} {M D C : Nat → Nat} {a : Int32} {u : St} {Q : Int32 → St → Prop} (hC : MI p ng M nf D C u)
    (h1 : ∀ d f v, 1 ≤ d → d ≤ 4 → a = nI d → p ^ f = fb_ct (lvs p ng d M) (p ^ (d + 1)) → v 0 0 = 0 → MI p ng M nf D C v → Q (nI f) v)
    (h2 : (¬ ∃ d, 1 ≤ d ∧ d ≤ 4 ∧ a = nI d) → ∀ v, v 0 0 = 1 → MI p ng M nf D C v → Q 0 v) : f_X7_dimensionAnew a u Q := mdim_ok hC h1 h2
theorem orbOf_ok {p ng nf d : Nat} {M D C : Nat → Nat} {u : St} {Q : Int32 → St → Prop} (hC : MI p ng M nf D C u) (hd4 : d ≤ 4)
    (h1 : ∀ l n v, GL p ng M l n → chg [4, 5, 6, 7, 8] [4, 5] u v → Q (nI (ob p d l n (p ^ (d + 1)))) v) : f_X7_orbitsOf (nI d) u Q := by
  have hp := hC.1
  have hb := isP_b hp.2
  have hpb := pow_b hp.2 (n := d + 1) (by omega)
  have h625 := p4_625 hp.2
  unfold f_X7_orbitsOf
  refine gathers_ok hC ?_
  intro v l n cv gl h480 v4 v5
  have hn0 := gl.2.1
  have hfx : ∀ k, fixN p d (l k) (p ^ (d + 1)) ≤ 3125 := fun k => by
    have : fixN p d (l k) (p ^ (d + 1)) ≤ p ^ (d + 1) := fb_ct_le _ _
    omega
  have hbig : ob p d l n (p ^ (d + 1)) * n ≤ 3125 * 480 := Nat.mul_le_mul (by have := ob_le p d l n (p ^ (d + 1)); omega) h480
  refine loopU2 (fun t i a s => f_X7_orbitsOf_L8 (nI d) Q (fun v14 u15 => (¬ (u15 0 4) = 0 ∧ (∀ v16 : Int32, v16 = (v14 / (u15 0 4)) → Q v16 u15))) t a i s) n (fun i a s => chg [6, 7, 8] [5] v s ∧ a = nI (fb_sm (fun i => fixN p d (l i) (p ^ (d + 1))) i)) ?_ ?_ 0 (Nat.zero_le _) 0 v ⟨chg_rf _ _ _, rfl⟩
  · rintro t i a s hi ⟨c1, rfl⟩ kk
    show f_X7_orbitsOf_L8_s _ _ _ _ _ _ _
    unfold f_X7_orbitsOf_L8_s
    rw [show s 0 4 = nI n by rw [c1.1 4 (by decide)]; exact v4]
    refine ⟨fun c => absurd c (nI_ge hi (by omega)), fun _ => rdM (by omega) (by omega) ?_⟩
    rw [show s 5 i = nI (l i) by rw [c1.2 5 (by decide) (by decide)]; exact v5 i hi]
    have hps : MP s p := c1.mp (cv.mp hp (by decide)) (by decide)
    refine learns_ok hps (by have := (gl.2.2.1 i hi).1; omega) hd4 ?_
    intro w cw wcol u5 e5
    have c5 : chg [6, 7, 8] [5] v u5 := by rw [e5]; exact chg_ts0 (c1.tr (cw.wk (by decide) (by decide))) (by decide)
    have hp5 : MP u5 p := c5.mp (cv.mp hp (by decide)) (by decide)
    refine lays_ok hp5 hd4 (m := 0) (by omega) (by rw [e5, su_kk]; rfl) (A := fun _ _ => 0) (fun k j hk _ => absurd hk (Nat.not_lt_zero _)) (x := l i) (fun k i' hk hi' => by rw [e5, su_n _ _ _ (by decide)]; exact wcol k i' hk hi') ?_
    intro y cy y5 yq
    have cy2 : chg [6, 7, 8] [5] v y := c5.tr (cy.wk (by decide) (by decide))
    rw [show 0 + (d + 1) = d + 1 by omega] at y5 yq
    have yq2 : ME y p (d + 1) (d + 1) (fun k j => eqM p (l i) d k j % p) := yq.cong (fun a b _ _ => by rw [if_neg (Nat.not_lt_zero _), Nat.sub_zero])
    refine free_ok (cy2.mp (cv.mp hp (by decide)) (by decide)) hd4 (by omega) y5 yq2 ?_
    intro f z cz hf e
    have cz2 : chg [6, 7, 8] [5] v z := cy2.tr (cz.wk (by decide) (by decide))
    refine mpow_ok (cz2.mp (cv.mp hp (by decide)) (by decide)) (by omega) ?_
    intro v11 e11 v12 e12
    rw [nI_1] at e12
    rw [e, sol_fix hp.2 hd4, nI_add] at e11
    subst e11 e12
    exact kk _ _ ⟨cz2, rfl⟩
  · rintro t a s ⟨c1, rfl⟩
    show f_X7_orbitsOf_L8_s _ _ _ _ _ _ _
    unfold f_X7_orbitsOf_L8_s
    have s4 : s 0 4 = nI n := by rw [c1.1 4 (by decide)]; exact v4
    rw [s4]
    refine ⟨fun _ => ⟨by rw [s4]; exact nI_ne0 hn0 (by omega), fun v16 e16 => ?_⟩, fun c => absurd (nI_le (Nat.le_refl _) (by omega)) c⟩
    rw [s4, burnside hp.2 hd4 hC.2.1 gl, pk_div (by omega) hn0 (by omega), Nat.mul_div_cancel _ hn0] at e16
    subst e16
    exact h1 l n s gl ((cv.wk (by decide) (by decide)).tr (c1.wk (by decide) (by decide)))
theorem morb_ok {p ng nf : Nat} {M D C : Nat → Nat} {a : Int32} {u : St} {Q : Int32 → St → Prop} (hC : MI p ng M nf D C u)
    (h1 : ∀ d l n v, 1 ≤ d → d ≤ 4 → a = nI d → GL p ng M l n → v 0 0 = 0 → MI p ng M nf D C v → Q (nI (ob p d l n (p ^ (d + 1)))) v)
    (h2 : (¬ ∃ d, 1 ≤ d ∧ d ≤ 4 ∧ a = nI d) → ∀ v, v 0 0 = 1 → MI p ng M nf D C v → Q 0 v) : f_X7_orbits a u Q := by
  unfold f_X7_orbits
  refine mdeg_ok (fun d hd1 hd4 e => ⟨fun q => absurd q (by decide), fun _ => hold0 ⟨fun q => absurd q (by decide), fun _ => ?_⟩⟩) (fun q => ⟨fun _ => hold1 ⟨fun _ => h2 q _ (by rw [su_kk]) (hC.T 1), fun c => absurd rfl c⟩, fun c => absurd rfl c⟩)
  subst e
  refine orbOf_ok (hC.T 0) hd4 ?_
  intro l n v gl cv
  exact h1 d l n v hd1 hd4 rfl gl (by rw [cv.1 0 (by decide), su_kk]) ((hC.T 0).chg (cv.wk (by decide) (by decide)))
theorem morbA_ok {p ng nf : Nat} {M D C : Nat → Nat} {a : Int32} {u : St} {Q : Int32 → St → Prop} (hC : MI p ng M nf D C u)
    (h1 : ∀ d l n v, 1 ≤ d → d ≤ 4 → a = nI d → GL p ng M l n → v 0 0 = 0 → MI p ng M nf D C v → Q (nI (ob p d l n (p ^ (d + 1)))) v)
    (h2 : (¬ ∃ d, 1 ≤ d ∧ d ≤ 4 ∧ a = nI d) → ∀ v, v 0 0 = 1 → MI p ng M nf D C v → Q 0 v) : f_X7_orbitsAnew a u Q := morb_ok hC h1 h2
