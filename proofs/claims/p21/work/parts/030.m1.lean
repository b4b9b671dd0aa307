/-! numbers: sums, forms as rows of coefficients, what a matrix makes of them -/
def mq (p : Nat) (x y : Int) : Prop := (p : Int) ∣ x - y
theorem mq_rf (p : Nat) (x : Int) : mq p x x := by unfold mq; rw [Int.sub_self]; exact Int.dvd_zero _
theorem mq_sy {p : Nat} {x y : Int} (h : mq p x y) : mq p y x := by
  unfold mq at h ⊢
  have e : y - x = -(x - y) := by omega
  rw [e]; exact Int.dvd_neg.mpr h
theorem mq_tr {p : Nat} {x y z : Int} (h : mq p x y) (h2 : mq p y z) : mq p x z := by
  unfold mq at h h2 ⊢
  have e : x - z = (x - y) + (y - z) := by omega
  rw [e]; exact Int.dvd_add h h2
theorem mq_add {p : Nat} {x y z w : Int} (h : mq p x y) (h2 : mq p z w) : mq p (x + z) (y + w) := by
  unfold mq at h h2 ⊢
  have e : x + z - (y + w) = (x - y) + (z - w) := by omega
  rw [e]; exact Int.dvd_add h h2
theorem mq_mul {p : Nat} {x y z w : Int} (h : mq p x y) (h2 : mq p z w) : mq p (x * z) (y * w) := by
  unfold mq at h h2 ⊢
  have e : x * z - y * w = x * (z - w) + (x - y) * w := by rw [Int.mul_sub, Int.sub_mul]; omega
  rw [e]; exact Int.dvd_add (Int.dvd_mul_of_dvd_right h2) (Int.dvd_mul_of_dvd_left h)
theorem mq_neg {p : Nat} {x y : Int} (h : mq p x y) : mq p (-x) (-y) := by
  unfold mq at h ⊢
  have e : -x - -y = -(x - y) := by omega
  rw [e]; exact Int.dvd_neg.mpr h
theorem mq_sub {p : Nat} {x y z w : Int} (h : mq p x y) (h2 : mq p z w) : mq p (x - z) (y - w) := by
  have := mq_add h (mq_neg h2)
  rw [Int.sub_eq_add_neg, Int.sub_eq_add_neg]; exact this
theorem mq_mod (p : Nat) (x : Int) : mq p (x % p) x := by
  unfold mq
  have h := Int.emod_add_mul_ediv x p
  have e : x % p - x = (p : Int) * (-(x / p)) := by rw [Int.mul_neg]; omega
  rw [e]; exact Int.dvd_mul_right _ _
theorem mq_iff {p : Nat} {x y : Int} : mq p x y ↔ x % p = y % p := by
  unfold mq
  constructor
  · intro h
    exact Int.emod_eq_emod_iff_emod_sub_eq_zero.mpr (Int.emod_eq_zero_of_dvd h)
  · intro h
    exact Int.dvd_of_emod_eq_zero (Int.emod_eq_emod_iff_emod_sub_eq_zero.mp h)
def sg (f : Nat → Int) : Nat → Int
  | 0 => 0
  | n + 1 => sg f n + f n
theorem sg_cong {f g : Nat → Int} : ∀ {n : Nat}, (∀ i, i < n → f i = g i) → sg f n = sg g n
  | 0, _ => rfl
  | n + 1, h => by rw [sg, sg, sg_cong (n := n) (fun i hi => h i (by omega)), h n (by omega)]
theorem sg_mq {p : Nat} {f g : Nat → Int} : ∀ {n : Nat}, (∀ i, i < n → mq p (f i) (g i)) → mq p (sg f n) (sg g n)
  | 0, _ => mq_rf _ _
  | n + 1, h => mq_add (sg_mq (n := n) (fun i hi => h i (by omega))) (h n (by omega))
theorem sg_add (f g : Nat → Int) : ∀ n, sg (fun i => f i + g i) n = sg f n + sg g n
  | 0 => rfl
  | n + 1 => by have := sg_add f g n; simp only [sg, this]; omega
theorem sg_mul (c : Int) (f : Nat → Int) : ∀ n, sg (fun i => c * f i) n = c * sg f n
  | 0 => by simp [sg]
  | n + 1 => by have := sg_mul c f n; simp only [sg, this, Int.mul_add]
theorem sg_zero {f : Nat → Int} : ∀ {n : Nat}, (∀ i, i < n → f i = 0) → sg f n = 0
  | 0, _ => rfl
  | n + 1, h => by rw [sg, sg_zero (n := n) (fun i hi => h i (by omega)), h n (by omega)]; rfl
theorem sg_head (f : Nat → Int) : ∀ n, sg f (n + 1) = f 0 + sg (fun i => f (i + 1)) n
  | 0 => by simp [sg]
  | n + 1 => by rw [sg, sg_head f n]; simp only [sg]; omega
theorem sg_swap (f : Nat → Nat → Int) (m : Nat) : ∀ n, sg (fun i => sg (fun j => f i j) m) n = sg (fun j => sg (fun i => f i j) n) m
  | 0 => by simp only [sg]; exact (sg_zero (fun _ _ => rfl)).symm
  | n + 1 => by
    simp only [sg]
    rw [sg_swap f m n, ← sg_add]
/-- a form of two letters times u x and v y -/
def lin (u v : Int) (f : Nat → Int) : Nat → Int := fun j => match j with
  | 0 => u * f 0
  | j + 1 => u * f (j + 1) + v * f j
def itn (g : (Nat → Int) → Nat → Int) : Nat → (Nat → Int) → Nat → Int
  | 0, f => f
  | n + 1, f => g (itn g n f)
def e0 : Nat → Int := fun j => if j = 0 then 1 else 0
def colZ (a b c d : Int) (n i : Nat) : Nat → Int := itn (lin a b) (n - i) (itn (lin c d) i e0)
theorem lin_comm (a b c d : Int) (f : Nat → Int) : lin a b (lin c d f) = lin c d (lin a b f) := by
  funext j
  match j with
  | 0 => simp only [lin]; exact Int.mul_left_comm a c (f 0)
  | 1 =>
    simp only [lin, Int.mul_add]
    rw [Int.mul_left_comm a c, Int.mul_left_comm a d, Int.mul_left_comm b c]
    omega
  | j + 2 =>
    simp only [lin, Int.mul_add]
    rw [Int.mul_left_comm a c, Int.mul_left_comm a d, Int.mul_left_comm b c, Int.mul_left_comm b d]
    omega
theorem itn_comm (a b c d : Int) (f : Nat → Int) : ∀ n, itn (lin a b) n (lin c d f) = lin c d (itn (lin a b) n f)
  | 0 => rfl
  | n + 1 => by simp only [itn]; rw [itn_comm a b c d f n, lin_comm]
theorem colZ_x (a b c d : Int) {n i : Nat} (h : i ≤ n) : colZ a b c d (n + 1) i = lin a b (colZ a b c d n i) := by
  have e : n + 1 - i = (n - i) + 1 := by omega
  simp only [colZ, e, itn]
theorem colZ_y (a b c d : Int) {n i : Nat} (h : i ≤ n) : colZ a b c d (n + 1) (i + 1) = lin c d (colZ a b c d n i) := by
  have e : n + 1 - (i + 1) = n - i := by omega
  simp only [colZ, e, itn]
  rw [itn_comm]
def sup (n : Nat) (f : Nat → Int) : Prop := ∀ j, n < j → f j = 0
theorem sup_e0 : sup 0 e0 := fun j h => by
  have : ¬ j = 0 := by omega
  simp [e0, this]
theorem sup_lin {n : Nat} {f : Nat → Int} (u v : Int) (h : sup n f) : sup (n + 1) (lin u v f) := by
  intro j hj
  obtain ⟨k, rfl⟩ : ∃ k, j = k + 1 := ⟨j - 1, by omega⟩
  simp only [lin, h (k + 1) (by omega), h k (by omega), Int.mul_zero, Int.add_zero]
theorem sup_itn {n : Nat} {f : Nat → Int} (u v : Int) (h : sup n f) : ∀ k, sup (n + k) (itn (lin u v) k f)
  | 0 => h
  | k + 1 => sup_lin u v (sup_itn u v h k)
theorem sup_col (a b c d : Int) {n i : Nat} (h : i ≤ n) : sup n (colZ a b c d n i) := by
  have h1 := sup_itn c d sup_e0 i
  have h2 := sup_itn a b h1 (n - i)
  have e : 0 + i + (n - i) = n := by omega
  rw [e] at h2; exact h2
/-- what a matrix makes of a form -/
def sb (a b c d : Int) (n : Nat) (f : Nat → Int) : Nat → Int := fun j => sg (fun i => f i * colZ a b c d n i j) (n + 1)
theorem sg_lin (u v : Int) (f : Nat → Int) (g : Nat → Nat → Int) (n j : Nat) : sg (fun i => f i * lin u v (g i) j) n = lin u v (fun j => sg (fun i => f i * g i j) n) j := by
  match j with
  | 0 =>
    simp only [lin]
    rw [← sg_mul]
    exact sg_cong (fun i _ => Int.mul_left_comm _ _ _)
  | j + 1 =>
    simp only [lin]
    rw [← sg_mul, ← sg_mul, ← sg_add]
    refine sg_cong (fun i _ => ?_)
    rw [Int.mul_add, Int.mul_left_comm, Int.mul_left_comm (f i) v]
theorem sb_lin (e f g h u v : Int) {n : Nat} {F : Nat → Int} (hF : F (n + 1) = 0) : sb e f g h (n + 1) (lin u v F) = lin (u * e + v * g) (u * f + v * h) (sb e f g h n F) := by
  funext j
  have h1 : sb e f g h (n + 1) (lin u v F) j = u * sg (fun i => F i * colZ e f g h (n + 1) i j) (n + 1) + v * sg (fun i => F i * colZ e f g h (n + 1) (i + 1) j) (n + 1) := by
    unfold sb
    rw [sg_head, ← sg_mul, ← sg_mul]
    rw [sg_head (fun i => u * (F i * colZ e f g h (n + 1) i j)) n]
    have h2 : sg (fun i => lin u v F (i + 1) * colZ e f g h (n + 1) (i + 1) j) (n + 1) = sg (fun i => u * (F (i + 1) * colZ e f g h (n + 1) (i + 1) j)) (n + 1) + sg (fun i => v * (F i * colZ e f g h (n + 1) (i + 1) j)) (n + 1) := by
      rw [← sg_add]
      refine sg_cong (fun i _ => ?_)
      simp only [lin, Int.add_mul, Int.mul_assoc]
    rw [h2]
    have h3 : sg (fun i => u * (F (i + 1) * colZ e f g h (n + 1) (i + 1) j)) (n + 1) = sg (fun i => u * (F (i + 1) * colZ e f g h (n + 1) (i + 1) j)) n := by
      simp only [sg, hF, Int.zero_mul, Int.mul_zero, Int.add_zero]
    rw [h3]
    simp only [lin, Int.mul_assoc]
    omega
  rw [h1]
  have h4 : sg (fun i => F i * colZ e f g h (n + 1) i j) (n + 1) = lin e f (sb e f g h n F) j := by
    rw [show (sb e f g h n F) = (fun j => sg (fun i => F i * colZ e f g h n i j) (n + 1)) from rfl, ← sg_lin]
    exact sg_cong (fun i hi => by rw [colZ_x e f g h (show i ≤ n by omega)])
  have h5 : sg (fun i => F i * colZ e f g h (n + 1) (i + 1) j) (n + 1) = lin g h (sb e f g h n F) j := by
    rw [show (sb e f g h n F) = (fun j => sg (fun i => F i * colZ e f g h n i j) (n + 1)) from rfl, ← sg_lin]
    exact sg_cong (fun i hi => by rw [colZ_y e f g h (show i ≤ n by omega)])
  rw [h4, h5]
  match j with
  | 0 => simp only [lin, Int.add_mul, Int.mul_assoc]
  | j + 1 => simp only [lin, Int.add_mul, Int.mul_add, Int.mul_assoc]; omega
theorem sb_e0 (e f g h : Int) : sb e f g h 0 e0 = e0 := by
  funext j
  simp [sb, sg, colZ, itn, e0]
theorem sb_itn (e f g h u v : Int) {m : Nat} {G G' : Nat → Int} (hs : sup m G) (hG : sb e f g h m G = G') : ∀ k, sb e f g h (m + k) (itn (lin u v) k G) = itn (lin (u * e + v * g) (u * f + v * h)) k G'
  | 0 => hG
  | k + 1 => by
    have h1 := sb_lin e f g h u v (n := m + k) (F := itn (lin u v) k G) (sup_itn u v hs k _ (by omega))
    have h2 := sb_itn e f g h u v hs hG k
    rw [show m + (k + 1) = m + k + 1 from rfl]
    simp only [itn]
    rw [h1, h2]
theorem sb_col (a b c d e f g h : Int) {n i : Nat} (hi : i ≤ n) : sb e f g h n (colZ a b c d n i) = colZ (a * e + b * g) (a * f + b * h) (c * e + d * g) (c * f + d * h) n i := by
  have h1 := sb_itn e f g h c d sup_e0 (sb_e0 e f g h) i
  have h2 := sb_itn e f g h a b (sup_itn c d sup_e0 i) h1 (n - i)
  have e2 : 0 + i + (n - i) = n := by omega
  rw [e2] at h2
  exact h2
/-- one matrix behind another one -/
theorem sb_sb (a b c d e f g h : Int) (n : Nat) (F : Nat → Int) : sb e f g h n (sb a b c d n F) = sb (a * e + b * g) (a * f + b * h) (c * e + d * g) (c * f + d * h) n F := by
  funext j
  have h1 : sb e f g h n (sb a b c d n F) j = sg (fun i => sg (fun k => F k * (colZ a b c d n k i * colZ e f g h n i j)) (n + 1)) (n + 1) := by
    refine sg_cong (fun i _ => ?_)
    show sg (fun k => F k * colZ a b c d n k i) (n + 1) * _ = _
    rw [Int.mul_comm, ← sg_mul]
    refine sg_cong (fun k _ => ?_)
    rw [Int.mul_comm, Int.mul_assoc]
  rw [h1, sg_swap]
  refine sg_cong (fun k hk => ?_)
  rw [sg_mul, ← sb_col a b c d e f g h (show k ≤ n by omega)]
  rfl
theorem sb_cong {a b c d : Int} {n : Nat} {F G : Nat → Int} (h : ∀ i, i ≤ n → F i = G i) : sb a b c d n F = sb a b c d n G := by
  funext j
  exact sg_cong (fun i hi => by rw [h i (by omega)])
theorem lin_mq {p : Nat} {a b c d : Int} {f g : Nat → Int} (h1 : mq p a c) (h2 : mq p b d) (h : ∀ j, mq p (f j) (g j)) : ∀ j, mq p (lin a b f j) (lin c d g j) := by
  intro j
  match j with
  | 0 => exact mq_mul h1 (h 0)
  | j + 1 => exact mq_add (mq_mul h1 (h _)) (mq_mul h2 (h _))
theorem itn_mq {p : Nat} {a b c d : Int} {f g : Nat → Int} (h1 : mq p a c) (h2 : mq p b d) (h : ∀ j, mq p (f j) (g j)) : ∀ n j, mq p (itn (lin a b) n f j) (itn (lin c d) n g j)
  | 0, j => h j
  | n + 1, j => lin_mq h1 h2 (itn_mq h1 h2 h n) j
theorem col_mq {p : Nat} {a b c d a' b' c' d' : Int} (h1 : mq p a a') (h2 : mq p b b') (h3 : mq p c c') (h4 : mq p d d') (n i j : Nat) : mq p (colZ a b c d n i j) (colZ a' b' c' d' n i j) :=
  itn_mq h1 h2 (itn_mq h3 h4 (fun j => mq_rf _ _) i) (n - i) j
theorem sb_mq {p : Nat} {a b c d a' b' c' d' : Int} {n : Nat} {F G : Nat → Int} (h1 : mq p a a') (h2 : mq p b b') (h3 : mq p c c') (h4 : mq p d d') (h : ∀ i, i ≤ n → mq p (F i) (G i)) (j : Nat) : mq p (sb a b c d n F j) (sb a' b' c' d' n G j) :=
  sg_mq (fun i hi => mq_mul (h i (by omega)) (col_mq h1 h2 h3 h4 n i j))
/-- the matrix that changes nothing -/
theorem col_one (n i j : Nat) (hi : i ≤ n) : colZ 1 0 0 1 n i j = if j = i then 1 else 0 := by
  have h1 : ∀ f : Nat → Int, lin 1 0 f = f := fun f => by
    funext j
    cases j <;> simp [lin]
  have h2 : ∀ (k : Nat) (f : Nat → Int), itn (lin 1 0) k f = f := fun k f => by
    induction k with
    | zero => rfl
    | succ k ih => simp only [itn, ih, h1]
  have h3 : ∀ (k j : Nat), itn (lin 0 1) k e0 j = if j = k then 1 else 0 := fun k => by
    induction k with
    | zero => intro j; rfl
    | succ k ih =>
      intro j
      simp only [itn]
      match j with
      | 0 => simp [lin]
      | j + 1 => simp only [lin, ih, Int.zero_mul, Int.zero_add, Int.one_mul]; by_cases h : j = k <;> simp [h]
  unfold colZ
  rw [h2, h3]
theorem sb_one (n : Nat) (F : Nat → Int) (j : Nat) (hj : j ≤ n) : sb 1 0 0 1 n F j = F j := by
  have h1 : ∀ m, sg (fun i => F i * (if j = i then 1 else 0)) m = if j < m then F j else 0 := fun m => by
    induction m with
    | zero => rfl
    | succ m ih =>
      rw [sg, ih]
      by_cases h : j = m
      · subst h; simp
      · by_cases h2 : j < m
        · simp [h, h2, show j < m + 1 by omega]
        · simp [h, h2, show ¬ j < m + 1 by omega]
  have h2 : sb 1 0 0 1 n F j = sg (fun i => F i * (if j = i then 1 else 0)) (n + 1) := sg_cong (fun i hi => by rw [col_one n i j (by omega)])
  rw [h2, h1, if_pos (by omega)]
