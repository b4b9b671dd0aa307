/-! the class's elimination -/
def EQ (u : St) (p N m : Nat) (A : Nat → Nat → Int) : Prop := ∀ k j, k < m → j < N → u 14 (5 * k + j) = iI (A k j) ∧ 0 ≤ A k j ∧ A k j < p
theorem eix (k j : Nat) : nI k * 5 + nI j = nI (5 * k + j) := by rw [show (5 : Int32) = nI 5 from rfl, pk_mul, nI_add, Nat.mul_comm]
theorem EQ.put {u : St} {p N m k j : Nat} {A B : Nat → Nat → Int} {z : Int} (hp : isP p) (h : EQ u p N m A) (hN : N ≤ 5) (hj : j < N) (hB : ∀ a b, a < m → b < N → B a b = if a = k ∧ b = j then z % p else A a b) : EQ (sa u 14 (upd (u 14) (5 * k + j) (iI (z % p)))) p N m B := by
  have hb := isP_b hp
  intro a b ha hb2
  rw [sa_k, hB a b ha hb2]
  by_cases e : a = k ∧ b = j
  · obtain ⟨rfl, rfl⟩ := e
    rw [upd_in, if_pos ⟨rfl, rfl⟩]
    exact ⟨rfl, Int.emod_nonneg _ (by omega), Int.emod_lt_of_pos _ (by omega)⟩
  · rw [upd_ne _ _ (by omega), if_neg e]
    exact h a b ha hb2
theorem EQ.cong {u : St} {p N m : Nat} {A B : Nat → Nat → Int} (h : EQ u p N m A) (hB : ∀ a b, a < m → b < N → B a b = A a b) : EQ u p N m B := fun k j hk hj => by rw [hB k j hk hj]; exact h k j hk hj
theorem cell1_ok {al k j : Nat} {u : St} {Q : Int32 → St → Prop} (h1 : 5 * k + j < 100) (h : Q (u 14 (5 * k + j)) u) : f_X1_cell al (nI k) (nI j) u Q := by
  unfold f_X1_cell
  rw [eix]
  exact read_ok (by exact h1) h
theorem put_ok {al p k j : Nat} {x : Int32} {z : Int} {u : St} {Q : St → Prop} (hp : PP u p) (h1 : 5 * k + j < 100) (hx : x = iI z) (z1 : -1000000000 < z) (z2 : z < 1000000000) (h : Q (sa u 14 (upd (u 14) (5 * k + j) (iI (z % p))))) : f_X1_put al (nI k) (nI j) x u Q := by
  unfold f_X1_put
  refine rest_ok hp hx z1 z2 ?_
  rw [eix]
  refine write_ok (by exact h1) ?_
  rw [su_sa]; exact h
theorem chg14 (u : St) (f : Nat → Int32) (B : List Nat) : chg [14] B u (sa u 14 f) := chg_sa (by decide) (by decide)
theorem begin_ok {al N : Nat} {u : St} {Q : St → Prop} (h : ∀ v, chg [14] [2, 3] u v → v 0 2 = nI N → v 0 3 = nI 0 → Q v) : f_X1_begin al (nI N) u Q := by
  unfold f_X1_begin
  intro u1 e1 u2 e2
  subst e1 e2
  refine h _ ((chg_su0 (by decide)).tr (chg_su0 (by decide))) ?_ ?_
  · rw [su_kn _ _ _ (by decide), su_kk]
  · rw [su_kk]; rfl
theorem ask_ok {al p x n m : Nat} {A : Nat → Nat → Int} {u : St} {Q : St → Prop} (hp : PP u p) (hn : n ≤ 4) (hm : m + (n + 1) ≤ 20) (hu : u 0 2 = nI (n + 1)) (hc : u 0 3 = nI m) (hA : EQ u p (n + 1) m A)
    (hcol : ∀ i j, i ≤ n → j ≤ n → u 13 (5 * i + j) = iI (colV p x n i j % p))
    (h : ∀ v, chg [14] [3] u v → v 0 3 = nI (m + (n + 1)) → EQ v p (n + 1) (m + (n + 1)) (fun k j => if k < m then A k j else eqM p x n (k - m) j % p) → Q v) : f_X1_askToLeave al u Q := by
  have hb := isP_b hp.2
  unfold f_X1_askToLeave
  refine loopU (S := St) (fun k i s => f_X1_askToLeave_L2 al Q (fun u15 => Q u15) k i s) (n + 1) (fun i s => chg [14] [3] u s ∧ s 0 3 = nI (m + i) ∧ EQ s p (n + 1) (m + i) (fun k j => if k < m then A k j else eqM p x n (k - m) j % p)) ?_ ?_ 0 (Nat.zero_le _) u ⟨chg_rf _ _ _, hc, fun k j hk hj => by dsimp only; rw [if_pos (by omega)]; exact hA k j (by omega) hj⟩
  · rintro k i s hi ⟨c1, c2, c3⟩ kk
    show f_X1_askToLeave_L2_s _ _ _ _ _ _
    unfold f_X1_askToLeave_L2_s
    have hs2 : s 0 2 = nI (n + 1) := by rw [c1.1 2 (by decide)]; exact hu
    rw [hs2]
    refine ⟨fun c => absurd c (nI_ge hi (by omega)), fun _ => ?_⟩
    refine loopU (S := St) (fun k' j s' => f_X1_askToLeave_L12 al (nI i) Q _ k' j s') (n + 1) (fun j s' => chg [14] [3] u s' ∧ s' 0 3 = nI (m + i) ∧ EQ s' p (n + 1) (m + i) (fun k j => if k < m then A k j else eqM p x n (k - m) j % p) ∧ ∀ b, b < j → s' 14 (5 * (m + i) + b) = iI (eqM p x n i b % p)) ?_ ?_ 0 (Nat.zero_le _) s ⟨c1, c2, c3, fun b hb => by omega⟩
    · rintro k' j s' hj ⟨d1, d2, d3, d4⟩ kk2
      show f_X1_askToLeave_L12_s _ _ _ _ _ _ _
      unfold f_X1_askToLeave_L12_s
      have hs2' : s' 0 2 = nI (n + 1) := by rw [d1.1 2 (by decide)]; exact hu
      have hpp := d1.pp hp (by decide)
      rw [hs2', d2]
      have hm1 := emod_b hp.2 (colV p x n j i)
      have hput : ∀ (w : Int32) (z : Int), w = iI z → -2 < z → z < 6 → mq p z (eqM p x n i j) → f_X1_put al (nI (m + i)) (nI j) w s' (fun u6 => ∀ v7 : Int32, v7 = nI j + 1 → f_X1_askToLeave_L12 al (nI i) Q (fun u11 => (∀ u12 : St, u12 = su u11 0 3 ((u11 0 3) + 1) → (∀ v13 : Int32, v13 = nI i + 1 → f_X1_askToLeave_L2 al Q (fun u15 => Q u15) k v13 u12))) k' v7 u6) := by
        intro w z hw z1 z2 hz
        refine put_ok hpp (by omega) hw (by omega) (by omega) ?_
        intro v7 ev7
        subst ev7
        rw [show nI j + 1 = nI (j + 1) by rw [nI_1]]
        refine kk2 (sa s' 14 (upd (s' 14) (5 * (m + i) + j) (iI (z % p)))) ⟨d1.tr (chg14 _ _ _), by rw [sa_n _ _ (by decide)]; exact d2, ?_, fun b hb => ?_⟩
        · intro a b' ha hb'
          rw [sa_k, upd_ne _ _ (by omega)]
          exact d3 a b' ha hb'
        · rw [sa_k]
          by_cases e : b = j
          · subst e; rw [upd_in, mq_iff.mp hz]
          · rw [upd_ne _ _ (by omega)]; exact d4 b (by omega)
      refine ⟨fun c => absurd c (nI_ge hj (by omega)), fun _ => cell0_ok (by omega) (by omega) ?_⟩
      rw [d1.2 13 (by decide) (by decide), hcol j i (by omega) (by omega)]
      refine ⟨fun c => ?_, fun c => ?_⟩
      · have hne : ¬ i = j := fun e => c (by rw [e])
        refine hput _ (colV p x n j i % p) (by rw [show (0 : Int32) = iI 0 from rfl, iI_sub, Int.sub_zero]) (by omega) (by omega) ?_
        unfold eqM
        rw [if_neg hne, Int.sub_zero]
        exact mq_mod _ _
      · have he : i = j := ((nI_eq (by omega) (by omega)).mp c).symm
        refine hput _ (colV p x n j i % p - 1) (by rw [show (1 : Int32) = iI 1 from rfl, iI_sub]) (by omega) (by omega) ?_
        unfold eqM
        rw [if_pos he]
        exact mq_sub (mq_mod _ _) (mq_rf _ _)
    · rintro k' s' ⟨d1, d2, d3, d4⟩
      show f_X1_askToLeave_L12_s _ _ _ _ _ _ _
      unfold f_X1_askToLeave_L12_s
      have hs2' : s' 0 2 = nI (n + 1) := by rw [d1.1 2 (by decide)]; exact hu
      rw [hs2']
      refine ⟨fun _ u12 eu12 v13 ev13 => ?_, fun c => absurd (nI_le (Nat.le_refl _) (by omega)) c⟩
      rw [d2, nI_1] at eu12
      subst eu12 ev13
      rw [nI_1]
      refine kk _ ⟨d1.tr (chg_su0 (by decide)), by rw [su_kk, Nat.add_assoc], ?_⟩
      intro a b ha hb'
      rw [su_n _ _ _ (by decide)]
      by_cases e : a = m + i
      · subst e
        dsimp only
        rw [if_neg (by omega), show m + i - m = i by omega]
        exact ⟨d4 b hb', Int.emod_nonneg _ (by omega), Int.emod_lt_of_pos _ (by omega)⟩
      · exact d3 a b (by omega) hb'
  · rintro k s ⟨c1, c2, c3⟩
    show f_X1_askToLeave_L2_s _ _ _ _ _ _
    unfold f_X1_askToLeave_L2_s
    have hs2 : s 0 2 = nI (n + 1) := by rw [c1.1 2 (by decide)]; exact hu
    rw [hs2]
    exact ⟨fun _ => h s c1 c2 c3, fun c => absurd (nI_le (Nat.le_refl _) (by omega)) c⟩
theorem findPivot_ok {al p N m r i : Nat} {A : Nat → Nat → Int} {u : St} {Q : Int32 → St → Prop} (hp : isP p) (hN : N ≤ 5) (hm : m ≤ 20) (hc : u 0 3 = nI m) (hA : EQ u p N m A) (hi : i < N) (hr : r ≤ m)
    (h1 : ∀ k, r ≤ k → k < m → ¬ A k i = 0 → Q (nI k) u) (h2 : (∀ k, r ≤ k → k < m → A k i = 0) → Q (-1) u) : f_X1_findPivot al (nI r) (nI i) u Q := by
  have hb := isP_b hp
  unfold f_X1_findPivot
  refine loopU (S := St) (fun n k s => f_X1_findPivot_L2 al (nI i) Q (fun v7 u8 => Q v7 u8) (fun u9 => Q (-1) u9) n k s) m (fun k s => s = u ∧ r ≤ k ∧ ∀ k', r ≤ k' → k' < k → A k' i = 0) ?_ ?_ r hr u ⟨rfl, Nat.le_refl _, fun k' a b => by omega⟩
  · rintro n k s hk ⟨rfl, hrk, hz⟩ kk
    show f_X1_findPivot_L2_s _ _ _ _ _ _ _ _
    unfold f_X1_findPivot_L2_s
    rw [hc]
    obtain ⟨ha, ha1, ha2⟩ := hA k i hk hi
    refine ⟨fun c => absurd c (nI_ge hk (by omega)), fun _ => cell1_ok (by omega) ?_⟩
    rw [ha]
    refine ⟨fun c v5 ev5 => ?_, fun c => h1 k hrk hk (fun e => c (by rw [e]; rfl))⟩
    subst ev5
    rw [nI_1]
    have h0 : A k i = 0 := (iI_eq (by omega) (by omega) (by omega) (by omega)).mp (show iI (A k i) = iI 0 from c)
    refine kk _ ⟨rfl, by omega, fun k' a b => ?_⟩
    by_cases e : k' = k
    · subst e; exact h0
    · exact hz k' a (by omega)
  · rintro n s ⟨rfl, hrk, hz⟩
    show f_X1_findPivot_L2_s _ _ _ _ _ _ _ _
    unfold f_X1_findPivot_L2_s
    rw [hc]
    exact ⟨fun _ => h2 hz, fun c => absurd (nI_le (Nat.le_refl _) (by omega)) c⟩
def swpA (A : Nat → Nat → Int) (r v : Nat) : Nat → Nat → Int := fun k j => if k = r then A v j else if k = v then A r j else A k j
theorem swap_ok {al p N m r v : Nat} {A : Nat → Nat → Int} {u : St} {Q : St → Prop} (hp : PP u p) (hN : N ≤ 5) (hm : m ≤ 20) (hu : u 0 2 = nI N) (hA : EQ u p N m A) (hr : r < m) (hv : v < m)
    (h : ∀ w, chg [14] [] u w → EQ w p N m (swpA A r v) → Q w) : f_X1_swap al (nI r) (nI v) u Q := by
  have hb := isP_b hp.2
  unfold f_X1_swap
  refine loopU (S := St) (fun n j s => f_X1_swap_L2 al (nI r) (nI v) Q (fun u10 => Q u10) n j s) N (fun j s => chg [14] [] u s ∧ EQ s p N m (fun k b => if b < j then swpA A r v k b else A k b)) ?_ ?_ 0 (Nat.zero_le _) u ⟨chg_rf _ _ _, hA.cong (fun a b _ _ => if_neg (by omega))⟩
  · rintro n j s hj ⟨c1, c2⟩ kk
    show f_X1_swap_L2_s _ _ _ _ _ _ _ _
    unfold f_X1_swap_L2_s
    have hs2 : s 0 2 = nI N := by rw [c1.1 2 (by decide)]; exact hu
    have hpp := c1.pp hp (by decide)
    rw [hs2]
    obtain ⟨r1, r2, r3⟩ := c2 r j hr hj
    obtain ⟨v1, v2, v3⟩ := c2 v j hv hj
    dsimp only at r1 r2 r3 v1 v2 v3
    rw [if_neg (by omega)] at r1 r2 r3 v1 v2 v3
    refine ⟨fun c => absurd c (nI_ge hj (by omega)), fun _ => cell1_ok (by omega) (cell1_ok (by omega) ?_)⟩
    rw [r1, v1]
    refine put_ok hpp (by omega) rfl (by omega) (by omega) ?_
    refine put_ok (hpp.sa (by decide)) (by omega) rfl (by omega) (by omega) ?_
    intro v8 ev8
    subst ev8
    rw [nI_1]
    rw [Int.emod_eq_of_lt r2 r3, Int.emod_eq_of_lt v2 v3]
    refine kk _ ⟨c1.tr ((chg14 _ _ _).tr (chg14 _ _ _)), ?_⟩
    intro a b ha hb2
    rw [sa_k, sa_k]
    dsimp only
    by_cases eb : b = j
    · subst eb
      rw [if_pos (by omega)]
      unfold swpA
      by_cases e1 : a = v
      · subst e1
        rw [upd_in]
        by_cases e2 : a = r
        · subst e2; rw [if_pos rfl]; exact ⟨rfl, r2, r3⟩
        · rw [if_neg e2, if_pos rfl]; exact ⟨rfl, r2, r3⟩
      · rw [upd_ne _ _ (by omega)]
        by_cases e2 : a = r
        · subst e2
          rw [upd_in, if_pos rfl]; exact ⟨rfl, v2, v3⟩
        · rw [upd_ne _ _ (by omega), if_neg e2, if_neg e1]
          have := c2 a b ha hb2
          dsimp only at this
          rw [if_neg (by omega)] at this
          exact this
    · rw [upd_ne _ _ (by omega), upd_ne _ _ (by omega)]
      have := c2 a b ha hb2
      dsimp only at this
      by_cases e3 : b < j
      · rw [if_pos (by omega)]; rw [if_pos e3] at this; exact this
      · rw [if_neg (by omega)]; rw [if_neg e3] at this; exact this
  · rintro n s ⟨c1, c2⟩
    show f_X1_swap_L2_s _ _ _ _ _ _ _ _
    unfold f_X1_swap_L2_s
    have hs2 : s 0 2 = nI N := by rw [c1.1 2 (by decide)]; exact hu
    rw [hs2]
    exact ⟨fun _ => h s c1 (c2.cong (fun a b _ hb2 => (if_pos hb2).symm)), fun c => absurd (nI_le (Nat.le_refl _) (by omega)) c⟩
/-- the factor by which the pivot's row is taken off a row -/
def facA (p : Nat) (A : Nat → Nat → Int) (r i k : Nat) : Int := (A k i * (inv p (A r i).toNat : Int)) % p
def clrA (p : Nat) (A : Nat → Nat → Int) (r i k0 j0 : Nat) : Nat → Nat → Int := fun k j => if r < k ∧ i ≤ j ∧ (k < k0 ∨ (k = k0 ∧ j < j0)) then (A k j - facA p A r i k * A r j) % p else A k j
theorem prod_b {a b : Int} (h1 : 0 ≤ a) (h2 : a < 5) (h3 : 0 ≤ b) (h4 : b < 5) : 0 ≤ a * b ∧ a * b ≤ 16 := by
  obtain ⟨x, rfl⟩ := Int.eq_ofNat_of_zero_le h1
  have := mul_b (a := x) (by omega) h3 h4
  exact this
theorem clear_ok {al p N m r i : Nat} {A : Nat → Nat → Int} {u : St} {Q : St → Prop} (hp : PP u p) (hN : N ≤ 5) (hm : m ≤ 20) (hu : u 0 2 = nI N) (hc : u 0 3 = nI m) (hA : EQ u p N m A) (hr : r < m) (hi : i < N)
    (h : ∀ w, chg [14] [] u w → EQ w p N m (clrA p A r i m 0) → Q w) : f_X1_clearBelow al (nI r) (nI i) u Q := by
  have hb := isP_b hp.2
  unfold f_X1_clearBelow
  refine cell1_ok (by omega) ?_
  obtain ⟨a1, a2, a3⟩ := hA r i hr hi
  rw [a1]
  refine inverse_ok hp rfl (by omega) (by omega) ?_
  rw [Int.emod_eq_of_lt a2 a3]
  intro v5 ev5
  subst ev5
  rw [nI_1]
  have hinv := inv_lt hp.2 (A r i).toNat
  refine loopU (S := St) (fun n k s => f_X1_clearBelow_L19 al (nI r) (nI i) (nI (inv p (A r i).toNat)) Q (fun u23 => Q u23) n k s) m (fun k s => r < k ∧ chg [14] [] u s ∧ EQ s p N m (clrA p A r i k 0)) ?_ ?_ (r + 1) (by omega) u ⟨by omega, chg_rf _ _ _, hA.cong (fun a b _ _ => if_neg (by omega))⟩
  · rintro n k s hk ⟨hrk, c1, c2⟩ kk
    show f_X1_clearBelow_L19_s _ _ _ _ _ _ _ _ _
    unfold f_X1_clearBelow_L19_s
    have hs3 : s 0 3 = nI m := by rw [c1.1 3 (by decide)]; exact hc
    have hpp := c1.pp hp (by decide)
    rw [hs3]
    obtain ⟨k1, k2, k3⟩ := c2 k i hk hi
    have hck : clrA p A r i k 0 k i = A k i := if_neg (by omega)
    rw [hck] at k1 k2 k3
    have hpb := prod_b k2 (by omega) (show (0 : Int) ≤ (inv p (A r i).toNat : Int) by omega) (by omega)
    refine ⟨fun c => absurd c (nI_ge hk (by omega)), fun _ => cell1_ok (by omega) ?_⟩
    rw [k1]
    refine rest_ok hpp (z := A k i * (inv p (A r i).toNat : Int)) (by rw [iI_n, iI_mul]) (by omega) (by omega) ?_
    have hf : (A k i * (inv p (A r i).toNat : Int)) % p = facA p A r i k := rfl
    rw [hf]
    have hf1 : 0 ≤ facA p A r i k := Int.emod_nonneg _ (by omega)
    have hf2 : facA p A r i k < p := Int.emod_lt_of_pos _ (by omega)
    refine loopU (S := St) (fun n' j s' => f_X1_clearBelow_L49 al (nI r) (nI i) (nI (inv p (A r i).toNat)) (nI k) (iI (facA p A r i k)) Q _ n' j s') N (fun j s' => i ≤ j ∧ chg [14] [] u s' ∧ EQ s' p N m (clrA p A r i k j)) ?_ ?_ i (by omega) s ⟨Nat.le_refl _, c1, c2.cong (fun a b _ _ => by
      unfold clrA
      by_cases q : r < a ∧ i ≤ b ∧ (a < k ∨ (a = k ∧ b < i))
      · rw [if_pos q, if_pos (by omega)]
      · rw [if_neg q, if_neg (by omega)])⟩
    · rintro n' j s' hj ⟨hij, d1, d2⟩ kk2
      show f_X1_clearBelow_L49_s _ _ _ _ _ _ _ _ _ _ _
      unfold f_X1_clearBelow_L49_s
      have hs2 : s' 0 2 = nI N := by rw [d1.1 2 (by decide)]; exact hu
      have hpp' := d1.pp hp (by decide)
      rw [hs2]
      refine ⟨fun c v21 ev21 => ?_, fun c => ⟨fun c2 => absurd c2 (nI_ge hj (by omega)), fun _ => ?_⟩⟩
      · have hz : facA p A r i k = 0 := (iI_eq (by omega) (by omega) (by omega) (by omega)).mp (show iI (facA p A r i k) = iI 0 from c)
        subst ev21
        rw [nI_1]
        refine kk _ ⟨by omega, d1, d2.cong (fun a b ha hb2 => ?_)⟩
        unfold clrA
        by_cases q : a = k ∧ i ≤ b
        · obtain ⟨rfl, q2⟩ := q
          obtain ⟨w1, w2, w3⟩ := hA a b ha hb2
          have e1 : (A a b - facA p A r i a * A r b) % p = A a b := by rw [hz, Int.zero_mul, Int.sub_zero, Int.emod_eq_of_lt w2 w3]
          rw [if_pos (by omega), e1]
          split <;> rfl
        · by_cases q2 : r < a ∧ i ≤ b ∧ a < k
          · rw [if_pos (by omega), if_pos (by omega)]
          · rw [if_neg (by omega), if_neg (by omega)]
      · obtain ⟨w1, w2, w3⟩ := d2 k j hk hj
        obtain ⟨x1, x2, x3⟩ := d2 r j hr hj
        have ek : clrA p A r i k j k j = A k j := if_neg (by omega)
        have er : clrA p A r i k j r j = A r j := if_neg (by omega)
        rw [ek] at w1 w2 w3
        rw [er] at x1 x2 x3
        have hpb2 := prod_b hf1 (by omega) x2 (by omega)
        refine cell1_ok (by omega) (cell1_ok (by omega) ?_)
        rw [w1, x1]
        refine put_ok hpp' (by omega) (z := A k j - facA p A r i k * A r j) (by rw [iI_mul, iI_sub]) (by omega) (by omega) ?_
        intro v18 ev18
        subst ev18
        rw [show nI j + 1 = nI (j + 1) by rw [nI_1]]
        refine kk2 (sa s' 14 (upd (s' 14) (5 * k + j) (iI ((A k j - facA p A r i k * A r j) % p)))) ⟨by omega, d1.tr (chg14 _ _ _), d2.put hp.2 hN hj (fun a b ha hb2 => ?_)⟩
        unfold clrA
        by_cases q : a = k ∧ b = j
        · obtain ⟨rfl, rfl⟩ := q
          rw [if_pos (by omega), if_pos ⟨rfl, rfl⟩]
        · rw [if_neg q]
          by_cases q2 : r < a ∧ i ≤ b ∧ (a < k ∨ (a = k ∧ b < j))
          · rw [if_pos (by omega), if_pos q2]
          · rw [if_neg (by omega), if_neg q2]
    · rintro n' s' ⟨hij, d1, d2⟩
      show f_X1_clearBelow_L49_s _ _ _ _ _ _ _ _ _ _ _
      unfold f_X1_clearBelow_L49_s
      have hs2 : s' 0 2 = nI N := by rw [d1.1 2 (by decide)]; exact hu
      rw [hs2]
      have fin : ∀ v21 : Int32, v21 = nI k + 1 → f_X1_clearBelow_L19 al (nI r) (nI i) (nI (inv p (A r i).toNat)) Q (fun u23 => Q u23) n v21 s' := by
        intro v21 ev21
        subst ev21
        rw [nI_1]
        refine kk _ ⟨by omega, d1, d2.cong (fun a b ha hb2 => ?_)⟩
        unfold clrA
        by_cases q2 : r < a ∧ i ≤ b ∧ (a < k ∨ (a = k ∧ b < N))
        · rw [if_pos (by omega), if_pos q2]
        · rw [if_neg (by omega), if_neg q2]
      exact ⟨fun _ => fin, fun _ => ⟨fun _ => fin, fun c => absurd (nI_le (Nat.le_refl _) (by omega)) c⟩⟩
  · rintro n s ⟨hrk, c1, c2⟩
    show f_X1_clearBelow_L19_s _ _ _ _ _ _ _ _ _
    unfold f_X1_clearBelow_L19_s
    have hs3 : s 0 3 = nI m := by rw [c1.1 3 (by decide)]; exact hc
    rw [hs3]
    exact ⟨fun _ => h s c1 c2, fun c => absurd (nI_le (Nat.le_refl _) (by omega)) c⟩
theorem inv_mq {p : Nat} (hp : isP p) {a : Int} (h1 : 0 ≤ a) (h2 : a < p) (h3 : ¬ a = 0) : mq p ((inv p a.toNat : Int) * a) 1 := by
  obtain ⟨w, rfl⟩ := Int.eq_ofNat_of_zero_le h1
  rw [Int.toNat_natCast]
  have hinv := inv_mul hp w (by omega) (by omega)
  have hb := isP_b hp
  rw [← Int.natCast_mul, mq_iff, Nat.mul_comm]
  have : ((w * inv p w : Nat) : Int) % (p : Int) = ((w * inv p w % p : Nat) : Int) := by omega
  rw [this, hinv]
  have := Int.emod_eq_of_lt (a := 1) (b := (p : Int)) (by omega) (by omega)
  omega
theorem one_pivot {p N m r v i : Nat} {A : Nat → Nat → Int} (hp : isP p) (hA : ∀ k j, k < m → j < N → 0 ≤ A k j ∧ A k j < p) (hv : r ≤ v) (hvm : v < m) (hi : i < N) (hne : ¬ A v i = 0) :
    solC p A r m i (N - i) = solC p (clrA p (swpA A r v) r i m 0) (r + 1) m (i + 1) (N - (i + 1)) := by
  have hb := isP_b hp
  have hvi := hA v i hvm hi
  have hr0 : swpA A r v r = A v := by funext j; simp [swpA]
  have hcl : ∀ k j, r < k → k < m → i ≤ j → clrA p (swpA A r v) r i m 0 k j = (swpA A r v k j - facA p (swpA A r v) r i k * swpA A r v r j) % p := fun k j h1 h2 h3 => if_pos (by omega)
  have hcr : ∀ j, clrA p (swpA A r v) r i m 0 r j = A v j := fun j => by
    unfold clrA; rw [if_neg (by omega), hr0]
  have hsw : ∀ k, r < k → ∀ j, swpA A r v k j = A (if k = v then r else k) j := fun k h1 j => by
    unfold swpA; rw [if_neg (by omega)]; split <;> rfl
  have e : N - i = (N - (i + 1)) + 1 := by omega
  rw [e]
  rw [sol_step hp (B := clrA p (swpA A r v) r i m 0) (lo := r) (pv := v) (t := 1) (f := fun k => facA p (swpA A r v) r i k) hv hvm (fun h => by have := Int.le_of_dvd (by omega) h; omega)
    (fun j hj => by rw [hcr, Int.one_mul]; exact mq_rf _ _)
    (fun k h1 h2 j hj => by
      rw [hcl k (i + j) h1 h2 (by omega), hcr, hr0, ← hsw k h1]
      exact mq_mod _ _)]
  refine sol_pivot hp (by omega) ?_ ?_
  · rw [hcr]
    intro q
    have := mq_iff.mp q
    rw [Int.zero_emod, Int.emod_eq_of_lt hvi.1 hvi.2] at this
    exact hne this
  · intro k h1 h2
    rw [hcl k i h1 h2 (Nat.le_refl _), hr0]
    refine mq_tr (mq_mod _ _) ?_
    have h3 := inv_mq hp hvi.1 hvi.2 hne
    have h5 : mq p (facA p (swpA A r v) r i k * A v i) (swpA A r v k i) := by
      unfold facA
      rw [hr0]
      refine mq_tr (mq_mul (mq_mod _ _) (mq_rf _ _)) ?_
      rw [Int.mul_assoc]
      have := mq_mul (mq_rf p (swpA A r v k i)) h3
      rw [Int.mul_one] at this
      exact this
    have := mq_sub (mq_rf p (swpA A r v k i)) h5
    rw [Int.sub_self] at this
    exact this
theorem freedom_ok {al p N m : Nat} {A : Nat → Nat → Int} {u : St} {Q : Int32 → St → Prop} (hp : PP u p) (hN : N ≤ 5) (hm : m ≤ 20) (hu : u 0 2 = nI N) (hc : u 0 3 = nI m) (hA : EQ u p N m A)
    (h : ∀ f w, chg [14] [] u w → f ≤ N → p ^ f = solC p A 0 m 0 N → Q (nI f) w) : f_X1_freedom al u Q := by
  have hb := isP_b hp.2
  unfold f_X1_freedom
  refine loopU2 (fun n i a s => f_X1_freedom_L4 al Q (fun v11 u12 => Q ((u12 0 2) - v11) u12) n a i s) N (fun i a s => ∃ r B, a = nI r ∧ r ≤ i ∧ r ≤ m ∧ chg [14] [] u s ∧ EQ s p N m B ∧ solC p A 0 m 0 N = p ^ (i - r) * solC p B r m i (N - i)) ?_ ?_ 0 (Nat.zero_le _) 0 u ⟨0, A, rfl, Nat.le_refl _, Nat.zero_le _, chg_rf _ _ _, hA, by simp⟩
  · rintro n i a s hi ⟨r, B, rfl, hri, hrm, c1, c2, c3⟩ kk
    show f_X1_freedom_L4_s _ _ _ _ _ _ _
    unfold f_X1_freedom_L4_s
    have hs2 : s 0 2 = nI N := by rw [c1.1 2 (by decide)]; exact hu
    have hs3 : s 0 3 = nI m := by rw [c1.1 3 (by decide)]; exact hc
    have hpp := c1.pp hp (by decide)
    rw [hs2]
    refine ⟨fun c => absurd c (nI_ge hi (by omega)), fun _ => ?_⟩
    refine findPivot_ok hp.2 hN hm hs3 c2 hi hrm (fun v hv1 hv2 hne => ?_) (fun hz => ?_)
    · refine ⟨fun c => absurd c ?_, fun _ => ?_⟩
      · rw [iI_n, show (-1 : Int32) = iI (-1) from rfl]
        intro q
        have := (iI_eq (by omega) (by omega) (by omega) (by omega)).mp q
        omega
      refine swap_ok hpp hN hm hs2 c2 (by omega) hv2 ?_
      intro w d1 d2
      have hw2 : w 0 2 = nI N := by rw [d1.1 2 (by decide)]; exact hs2
      have hw3 : w 0 3 = nI m := by rw [d1.1 3 (by decide)]; exact hs3
      refine clear_ok (d1.pp hpp (by decide)) hN hm hw2 hw3 d2 (by omega) hi ?_
      intro w2 d3 d4 v8 ev8 v9 ev9
      subst ev8 ev9
      rw [nI_1, nI_1]
      refine kk _ _ ⟨r + 1, _, rfl, by omega, by omega, c1.tr (d1.tr d3), d4, ?_⟩
      rw [c3, one_pivot hp.2 (fun k j hk hj => (c2 k j hk hj).2) hv1 hv2 hi hne, show i + 1 - (r + 1) = i - r by omega]
    · refine ⟨fun _ v5 ev5 => ?_, fun c => absurd rfl c⟩
      subst ev5
      rw [nI_1]
      refine kk _ _ ⟨r, B, rfl, by omega, hrm, c1, c2, ?_⟩
      rw [c3, show N - i = (N - (i + 1)) + 1 by omega, sol_free (show 0 < p by omega) (fun k h1 h2 => by rw [hz k h1 h2]; exact mq_rf _ _), show i + 1 - r = (i - r) + 1 by omega, Nat.pow_succ, Nat.mul_assoc]
  · rintro n a s ⟨r, B, rfl, hri, hrm, c1, c2, c3⟩
    show f_X1_freedom_L4_s _ _ _ _ _ _ _
    unfold f_X1_freedom_L4_s
    have hs2 : s 0 2 = nI N := by rw [c1.1 2 (by decide)]; exact hu
    rw [hs2]
    refine ⟨fun _ => ?_, fun c => absurd (nI_le (Nat.le_refl _) (by omega)) c⟩
    show Q (s 0 2 - nI r) s
    rw [hs2, pk_sub hri]
    refine h _ s c1 (by omega) ?_
    rw [c3, Nat.sub_self, sol_end, Nat.mul_one]
