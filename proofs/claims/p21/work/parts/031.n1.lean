/-! whole numbers of the machine, loops, rows of a state -/
def iI (z : Int) : Int32 := Int32.ofInt z
theorem iI_n (n : Nat) : nI n = iI n := Int32.ofInt_eq_ofNat.symm
theorem iI_add (a b : Int) : iI a + iI b = iI (a + b) := (Int32.ofInt_add a b).symm
theorem iI_sub (a b : Int) : iI a - iI b = iI (a - b) := (Int32.ofInt_sub a b).symm
theorem iI_mul (a b : Int) : iI a * iI b = iI (a * b) := (Int32.ofInt_mul a b).symm
theorem iI_neg (a : Int) : -iI a = iI (-a) := (Int32.ofInt_neg a).symm
theorem iI_toInt {z : Int} (h1 : -2147483648 ≤ z) (h2 : z < 2147483648) : (iI z).toInt = z := Int32.toInt_ofInt_of_le (by omega) (by omega)
theorem iI_le {a b : Int} (a1 : -2147483648 ≤ a) (a2 : a < 2147483648) (b1 : -2147483648 ≤ b) (b2 : b < 2147483648) : iI a ≤ iI b ↔ a ≤ b := by
  rw [Int32.le_iff_toInt_le, iI_toInt a1 a2, iI_toInt b1 b2]
theorem iI_lt {a b : Int} (a1 : -2147483648 ≤ a) (a2 : a < 2147483648) (b1 : -2147483648 ≤ b) (b2 : b < 2147483648) : iI a < iI b ↔ a < b := by
  rw [Int32.lt_iff_toInt_lt, iI_toInt a1 a2, iI_toInt b1 b2]
theorem iI_eq {a b : Int} (a1 : -2147483648 ≤ a) (a2 : a < 2147483648) (b1 : -2147483648 ≤ b) (b2 : b < 2147483648) : iI a = iI b ↔ a = b := by
  rw [← Int32.toInt_inj, iI_toInt a1 a2, iI_toInt b1 b2]
theorem iI_of (x : Int32) : x = iI x.toInt := (Int32.ofInt_toInt x).symm
theorem iI_nn {z : Int} (h : 0 ≤ z) : iI z = nI z.toNat := by rw [iI_n, Int.toNat_of_nonneg h]
theorem bm32 {z : Int} (h1 : -2147483648 ≤ z) (h2 : z < 2147483648) : z.bmod (2 ^ 32) = z := by
  rw [Int.bmod_eq_of_le (by omega) (by omega)]
theorem tm_ok {z : Int} {p : Nat} (hp : 0 < p) (hp5 : p ≤ 5) (h1 : -1000000000 < z) (h2 : z < 1000000000) : iI z - iI z / nI p * nI p = iI (z.tmod p) := by
  have hb := tmod_bounds (a := z) (M := (p : Int)) (by omega)
  have he := Int.tmod_add_tdiv_mul z p
  have hq : -2147483648 ≤ z.tdiv p ∧ z.tdiv p < 2147483648 := by
    have h3 : z.tdiv p * p = z - z.tmod p := by omega
    have h4 : p = 1 ∨ p = 2 ∨ p = 3 ∨ p = 4 ∨ p = 5 := by omega
    rcases h4 with rfl | rfl | rfl | rfl | rfl <;> constructor <;> omega
  have hb2 : (z.tdiv p * p).bmod (2 ^ 32) = z.tdiv p * p := bm32 (by omega) (by omega)
  apply Int32.toInt_inj.1
  rw [Int32.toInt_sub, Int32.toInt_mul, Int32.toInt_div, iI_toInt (z := z) (by omega) (by omega), nI_toInt (by omega), bm32 hq.1 hq.2, hb2, bm32 (by omega) (by omega), iI_toInt (by omega) (by omega)]
  omega
theorem msb_i (x : Int32) : x.toBitVec.msb = decide (x.toInt < 0) := BitVec.msb_eq_toInt
theorem xor_s {x y : Int32} (hy : 0 ≤ y.toInt) : 0 ≤ (x ^^^ y) ↔ 0 ≤ x.toInt := by
  have h : (x ^^^ y).toBitVec.msb = x.toBitVec.msb := by
    rw [Int32.toBitVec_xor, BitVec.msb_xor, msb_i y]
    have : ¬ y.toInt < 0 := by omega
    simp [this]
  rw [msb_i, msb_i] at h
  rw [Int32.le_iff_toInt_le, Int32.toInt_zero]
  have := decide_eq_decide.mp h
  omega
/-- a loop that counts up -/
theorem loopU {S : Type} (P : Nat → Int32 → S → Prop) (N : Nat) (I : Nat → S → Prop) (hs : ∀ n i s, i < N → I i s → (∀ s', I (i + 1) s' → P n (nI (i + 1)) s') → P (n + 1) (nI i) s) (hx : ∀ n s, I N s → P (n + 1) (nI N) s) (i0 : Nat) (hi : i0 ≤ N) (s : S) (h : I i0 s) : ∃ n, P n (nI i0) s := by
  have key : ∀ k i s, i + k = N → I i s → P (k + 1) (nI i) s := by
    intro k
    induction k with
    | zero => intro i s e hI; have : i = N := by omega
              subst this; exact hx _ _ hI
    | succ k ih => intro i s e hI; exact hs _ _ _ (by omega) hI (fun s' h' => ih (i + 1) s' (by omega) h')
  exact ⟨N - i0 + 1, key _ _ _ (by omega) h⟩
/-- what stands ahead of a place, for a loop that counts down -/
def dI (n : Nat) : Int32 := nI n - 1
theorem dI_0 : dI 0 = -1 := rfl
theorem dI_s (n : Nat) : dI (n + 1) = nI n := by unfold dI; exact nI_pred n
theorem nI_d (n : Nat) : nI n + (-1) = dI n := by
  unfold dI
  rw [iI_n, show (-1 : Int32) = iI (-1) from rfl, show (1 : Int32) = iI 1 from rfl, iI_add, iI_sub]; congr 1
theorem loopD {S : Type} (P : Nat → Int32 → S → Prop) (I : Nat → S → Prop) (hs : ∀ n i s, I (i + 1) s → (∀ s', I i s' → P n (dI i) s') → P (n + 1) (dI (i + 1)) s) (hx : ∀ n s, I 0 s → P (n + 1) (dI 0) s) (N : Nat) (s : S) (h : I N s) : ∃ n, P n (dI N) s := by
  have key : ∀ k s, I k s → P (k + 1) (dI k) s := by
    intro k
    induction k with
    | zero => intro s hI; exact hx _ _ hI
    | succ k ih => intro s hI; exact hs _ _ _ hI (fun s' h' => ih s' h')
  exact ⟨_, key _ _ h⟩
theorem loopU2 {A B : Type} (P : Nat → Int32 → A → B → Prop) (N : Nat) (I : Nat → A → B → Prop) (hs : ∀ n i a b, i < N → I i a b → (∀ a' b', I (i + 1) a' b' → P n (nI (i + 1)) a' b') → P (n + 1) (nI i) a b) (hx : ∀ n a b, I N a b → P (n + 1) (nI N) a b) (i0 : Nat) (hi : i0 ≤ N) (a : A) (b : B) (h : I i0 a b) : ∃ n, P n (nI i0) a b :=
  loopU (S := A × B) (fun n i s => P n i s.1 s.2) N (fun i s => I i s.1 s.2) (fun n i s h1 h2 h3 => hs n i s.1 s.2 h1 h2 (fun a' b' h4 => h3 (a', b') h4)) (fun n s h => hx n s.1 s.2 h) i0 hi (a, b) h
theorem loopU3 {A B C : Type} (P : Nat → Int32 → A → B → C → Prop) (N : Nat) (I : Nat → A → B → C → Prop) (hs : ∀ n i a b c, i < N → I i a b c → (∀ a' b' c', I (i + 1) a' b' c' → P n (nI (i + 1)) a' b' c') → P (n + 1) (nI i) a b c) (hx : ∀ n a b c, I N a b c → P (n + 1) (nI N) a b c) (i0 : Nat) (hi : i0 ≤ N) (a : A) (b : B) (c : C) (h : I i0 a b c) : ∃ n, P n (nI i0) a b c :=
  loopU (S := A × B × C) (fun n i s => P n i s.1 s.2.1 s.2.2) N (fun i s => I i s.1 s.2.1 s.2.2) (fun n i s h1 h2 h3 => hs n i s.1 s.2.1 s.2.2 h1 h2 (fun a' b' c' h4 => h3 (a', b', c') h4)) (fun n s h => hx n s.1 s.2.1 s.2.2 h) i0 hi (a, b, c) h
theorem loopU5 {A B C D E : Type} (P : Nat → Int32 → A → B → C → D → E → Prop) (N : Nat) (I : Nat → A → B → C → D → E → Prop) (hs : ∀ n i a b c d e, i < N → I i a b c d e → (∀ a' b' c' d' e', I (i + 1) a' b' c' d' e' → P n (nI (i + 1)) a' b' c' d' e') → P (n + 1) (nI i) a b c d e) (hx : ∀ n a b c d e, I N a b c d e → P (n + 1) (nI N) a b c d e) (i0 : Nat) (hi : i0 ≤ N) (a : A) (b : B) (c : C) (d : D) (e : E) (h : I i0 a b c d e) : ∃ n, P n (nI i0) a b c d e :=
  loopU (S := A × B × C × D × E) (fun n i s => P n i s.1 s.2.1 s.2.2.1 s.2.2.2.1 s.2.2.2.2) N (fun i s => I i s.1 s.2.1 s.2.2.1 s.2.2.2.1 s.2.2.2.2) (fun n i s h1 h2 h3 => hs n i s.1 s.2.1 s.2.2.1 s.2.2.2.1 s.2.2.2.2 h1 h2 (fun a' b' c' d' e' h4 => h3 (a', b', c', d', e') h4)) (fun n s h => hx n s.1 s.2.1 s.2.2.1 s.2.2.2.1 s.2.2.2.2 h) i0 hi (a, b, c, d, e) h
theorem loopD2 {A B : Type} (P : Nat → Int32 → A → B → Prop) (I : Nat → A → B → Prop) (hs : ∀ n i a b, I (i + 1) a b → (∀ a' b', I i a' b' → P n (dI i) a' b') → P (n + 1) (dI (i + 1)) a b) (hx : ∀ n a b, I 0 a b → P (n + 1) (dI 0) a b) (N : Nat) (a : A) (b : B) (h : I N a b) : ∃ n, P n (dI N) a b :=
  loopD (S := A × B) (fun n i s => P n i s.1 s.2) (fun i s => I i s.1 s.2) (fun n i s h2 h3 => hs n i s.1 s.2 h2 (fun a' b' h4 => h3 (a', b') h4)) (fun n s h => hx n s.1 s.2 h) N (a, b) h
/-- an array of a state, written anew -/
def sa (u : St) (k : Nat) (f : Nat → Int32) : St := fun a => if a = k then f else u a
theorem su_sa (u : St) (k j : Nat) (v : Int32) : su u k j v = sa u k (upd (u k) j v) := by
  funext a
  by_cases h : a = k
  · subst h; simp [su, sa]
  · simp [su, sa, h]
theorem sa_k (u : St) (k : Nat) (f : Nat → Int32) : sa u k f k = f := by simp [sa]
theorem sa_n (u : St) {k a : Nat} (f : Nat → Int32) (h : a ≠ k) : sa u k f a = u a := by simp [sa, h]
theorem sa_sa (u : St) (k : Nat) (f g : Nat → Int32) : sa (sa u k f) k g = sa u k g := by
  funext a; by_cases h : a = k <;> simp [sa, h]
theorem sa_self (u : St) (k : Nat) : sa u k (u k) = u := by
  funext a; by_cases h : a = k <;> simp [sa, h]
theorem sa_comm (u : St) {k j : Nat} (f g : Nat → Int32) (h : k ≠ j) : sa (sa u k f) j g = sa (sa u j g) k f := by
  funext a
  by_cases h1 : a = k
  · subst h1; rw [sa_k, sa_n _ _ h, sa_k]
  · by_cases h2 : a = j
    · subst h2; rw [sa_k, sa_n _ _ h1, sa_k]
    · rw [sa_n _ _ h2, sa_n _ _ h1, sa_n _ _ h1, sa_n _ _ h2]
theorem upd_in (f : Nat → Int32) (k : Nat) (v : Int32) : upd f k v k = v := by simp [upd]
theorem upd_ne (f : Nat → Int32) {k j : Nat} (v : Int32) (h : j ≠ k) : upd f k v j = f j := by simp [upd, h]
theorem lenC_le (k : Nat) : lenC k ≤ 3900 := by unfold lenC; split <;> omega
theorem lenC_pos (k : Nat) : 0 < lenC k := by unfold lenC; split <;> omega
/-- the prime -/
def isP (p : Nat) : Prop := p = 2 ∨ p = 3 ∨ p = 5
theorem isP_b {p : Nat} (h : isP p) : 2 ≤ p ∧ p ≤ 5 := by rcases h with rfl | rfl | rfl <;> omega
def PP (u : St) (p : Nat) : Prop := u 0 0 = nI p ∧ isP p
theorem PP.sa {u : St} {p k : Nat} {f : Nat → Int32} (h : PP u p) (hk : k ≠ 0) : PP (sa u k f) p := ⟨by rw [sa_n _ _ (Ne.symm hk)]; exact h.1, h.2⟩
theorem PP.su0 {u : St} {p j : Nat} {v : Int32} (h : PP u p) (hj : j ≠ 0) : PP (su u 0 j v) p := ⟨by rw [su_kn _ _ _ (Ne.symm hj)]; exact h.1, h.2⟩
/-! digits of codes -/
def dg (p c i : Nat) : Nat := c / p ^ i % p
def cod (p : Nat) (f : Nat → Nat) : Nat → Nat
  | 0 => 0
  | n + 1 => f 0 + p * cod p (fun j => f (j + 1)) n
theorem cod_cong {p : Nat} : ∀ {n : Nat} {f g : Nat → Nat}, (∀ j, j < n → f j = g j) → cod p f n = cod p g n
  | 0, _, _, _ => rfl
  | n + 1, f, g, h => by rw [cod, cod, h 0 (by omega), cod_cong (n := n) (fun j hj => h (j + 1) (by omega))]
theorem cod_lt {p : Nat} (hp : 0 < p) : ∀ {n : Nat} {f : Nat → Nat}, (∀ j, j < n → f j < p) → cod p f n < p ^ n
  | 0, _, _ => by simp [cod]
  | n + 1, f, h => by
    have h1 := cod_lt hp (n := n) (f := fun j => f (j + 1)) (fun j hj => h (j + 1) (by omega))
    have h2 := h 0 (by omega)
    rw [cod, Nat.pow_succ]
    have h3 : p * (cod p (fun j => f (j + 1)) n + 1) ≤ p * p ^ n := Nat.mul_le_mul_left p (by omega)
    rw [Nat.mul_add, Nat.mul_comm p (p ^ n)] at h3
    omega
theorem cod_snoc (p : Nat) : ∀ (n : Nat) (f : Nat → Nat), cod p f (n + 1) = cod p f n + f n * p ^ n
  | 0, f => by simp [cod]
  | n + 1, f => by
    rw [cod, cod_snoc p n (fun j => f (j + 1)), cod, Nat.mul_add, Nat.pow_succ]
    rw [show p * (f (n + 1) * p ^ n) = f (n + 1) * (p ^ n * p) by rw [Nat.mul_comm p, Nat.mul_assoc]]
    omega
theorem dg_lt {p : Nat} (hp : 0 < p) (c i : Nat) : dg p c i < p := Nat.mod_lt _ hp
theorem dg_0 (p c : Nat) : dg p c 0 = c % p := by simp [dg]
theorem dg_s (p c i : Nat) : dg p c (i + 1) = dg p (c / p) i := by
  unfold dg
  rw [Nat.pow_succ, Nat.mul_comm, ← Nat.div_div_eq_div_mul]
theorem dg_cod {p : Nat} (hp : 0 < p) : ∀ {n : Nat} {f : Nat → Nat}, (∀ j, j < n → f j < p) → ∀ j, j < n → dg p (cod p f n) j = f j
  | 0, _, _, j, hj => by omega
  | n + 1, f, h, 0, _ => by
    rw [dg_0, cod, Nat.add_mul_mod_self_left, Nat.mod_eq_of_lt (h 0 (by omega))]
  | n + 1, f, h, j + 1, hj => by
    rw [dg_s, cod, Nat.add_mul_div_left _ _ hp, Nat.div_eq_of_lt (h 0 (by omega)), Nat.zero_add]
    exact dg_cod hp (n := n) (f := fun j => f (j + 1)) (fun j hj => h (j + 1) (by omega)) j (by omega)
theorem cod_dg {p : Nat} (hp : 0 < p) : ∀ (n c : Nat), c < p ^ n → cod p (dg p c) n = c
  | 0, c, h => by simp [cod] at h ⊢; omega
  | n + 1, c, h => by
    have h1 : c / p < p ^ n := by
      rw [Nat.pow_succ] at h
      exact Nat.div_lt_of_lt_mul (by rw [Nat.mul_comm]; exact h)
    have h2 : cod p (fun j => dg p c (j + 1)) n = c / p := by
      rw [cod_cong (g := dg p (c / p)) (fun j _ => dg_s p c j)]
      exact cod_dg hp n _ h1
    rw [cod, h2, dg_0]
    have := Nat.mod_add_div c p
    omega
theorem dg_big {p : Nat} {c n i : Nat} (h : c < p ^ n) (hi : n ≤ i) (hp : 0 < p) : dg p c i = 0 := by
  unfold dg
  have h1 : p ^ n ≤ p ^ i := Nat.pow_le_pow_right hp hi
  rw [Nat.div_eq_of_lt (by omega), Nat.zero_mod]
theorem cod_inj {p : Nat} (hp : 0 < p) {n a b : Nat} (ha : a < p ^ n) (hb : b < p ^ n) (h : ∀ j, j < n → dg p a j = dg p b j) : a = b := by
  rw [← cod_dg hp n a ha, ← cod_dg hp n b hb]
  exact cod_cong h
theorem pow_b {p n : Nat} (hp : isP p) (hn : n ≤ 5) : p ^ n ≤ 3125 := by
  have h1 : p ^ n ≤ 5 ^ n := Nat.pow_le_pow_left (isP_b hp).2 n
  have h2 : 5 ^ n ≤ 5 ^ 5 := Nat.pow_le_pow_right (by omega) hn
  have h3 : 5 ^ 5 = 3125 := by decide
  omega
theorem pow_pos' {p : Nat} (hp : isP p) (n : Nat) : 0 < p ^ n := Nat.pow_pos (by have := isP_b hp; omega)
