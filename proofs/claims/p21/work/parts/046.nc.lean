/-! the class's roots, values at places, told values -/
/-- the rest and the quotient by x less t y -/
def carr (p t : Nat) (F : Nat → Nat) : Nat → Nat
  | 0 => F 0 % p
  | i + 1 => (F (i + 1) + t * carr p t F i) % p
def rowP (p t n : Nat) (F : Nat → Nat) : Nat → Nat := fun i => if i ≤ n then carr p t F i else F i
def rowY (n : Nat) (F : Nat → Nat) : Nat → Nat := fun i => if i < n then F (i + 1) else F i
theorem carr_lt {p t : Nat} (hp : 0 < p) (F : Nat → Nat) : ∀ i, carr p t F i < p
  | 0 => Nat.mod_lt _ hp
  | i + 1 => Nat.mod_lt _ hp
theorem carr_cong {p t : Nat} {F G : Nat → Nat} : ∀ {n : Nat}, (∀ i, i ≤ n → F i = G i) → carr p t F n = carr p t G n
  | 0, h => by unfold carr; rw [h 0 (by omega)]
  | n + 1, h => by unfold carr; rw [h (n + 1) (by omega), carr_cong (n := n) (fun i hi => h i (by omega))]
/-- how often a row can be divided, r places at most -/
def dvs (p t : Nat) : Nat → (Nat → Nat) → Nat
  | 0, _ => 0
  | r + 1, F => if t = p then (if F 0 = 0 then dvs p t r (rowY r F) + 1 else 0) else (if carr p t F r = 0 then dvs p t r (rowP p t r F) + 1 else 0)
theorem dvs_s (p t r : Nat) (F : Nat → Nat) : dvs p t (r + 1) F = if t = p then (if F 0 = 0 then dvs p t r (rowY r F) + 1 else 0) else (if carr p t F r = 0 then dvs p t r (rowP p t r F) + 1 else 0) := rfl
theorem dvs_le (p t : Nat) : ∀ r F, dvs p t r F ≤ r
  | 0, _ => Nat.le_refl _
  | r + 1, F => by
    unfold dvs
    have h1 := dvs_le p t r (rowY r F)
    have h2 := dvs_le p t r (rowP p t r F)
    split <;> split <;> omega
theorem dvs_cong {p t : Nat} : ∀ {r : Nat} {F G : Nat → Nat}, (∀ i, i < r → F i = G i) → dvs p t r F = dvs p t r G
  | 0, _, _, _ => rfl
  | r + 1, F, G, h => by
    unfold dvs
    rw [h 0 (by omega), carr_cong (n := r) (fun i hi => h i (by omega)), dvs_cong (r := r) (F := rowY r F) (G := rowY r G) (fun i hi => by unfold rowY; rw [if_pos hi, if_pos hi]; exact h _ (by omega)), dvs_cong (r := r) (F := rowP p t r F) (G := rowP p t r G) (fun i hi => by unfold rowP; rw [if_pos (by omega), if_pos (by omega)]; exact carr_cong (fun j hj => h j (by omega)))]
theorem carr_0 {p t : Nat} {F : Nat → Nat} (h : ∀ i, F i = 0) : ∀ n, carr p t F n = 0
  | 0 => by unfold carr; rw [h]; exact Nat.zero_mod _
  | n + 1 => by unfold carr; rw [h, carr_0 h n]; simp
theorem dvs_0 {p t : Nat} : ∀ {r : Nat} {F : Nat → Nat}, (∀ i, F i = 0) → dvs p t r F = r
  | 0, _, _ => rfl
  | r + 1, F, h => by
    unfold dvs
    rw [h 0, carr_0 h r, if_pos rfl, if_pos rfl, dvs_0 (F := rowY r F) (fun i => by unfold rowY; split <;> exact h _), dvs_0 (F := rowP p t r F) (fun i => by unfold rowP; split <;> first | exact carr_0 h _ | exact h _)]
    split <;> rfl
/-- a row of a state -/
def RW (k : Nat) (F : Nat → Nat) (u : St) : Prop := ∀ j, j < 5 → u k j = nI (F j)
theorem divY_ok {al p n : Nat} {F : Nat → Nat} {u : St} {Q : Int32 → St → Prop} (hn : n ≤ 4) (hF : ∀ j, F j < p) (hp5 : p ≤ 5) (hR : RW 9 F u) (h0 : F 0 = 0 → ∀ v, chg [9] [] u v → RW 9 (rowY n F) v → Q 1 v) (h1 : ¬ F 0 = 0 → Q 0 u) : f_X6_divideByY al (nI n) u Q := by
  have hf0 := hF 0
  unfold f_X6_divideByY
  refine read_ok (i := 0) (by decide) ?_
  rw [hR 0 (by omega)]
  refine ⟨fun c => ?_, fun c => h1 (fun e => c (by rw [e]; rfl))⟩
  have e0 := (nI_eq (b := 0) (by omega) (by omega)).mp c
  refine loopU (S := St) (fun m i s => f_X6_divideByY_L15 al (nI n) Q (fun u10 => Q 1 u10) m i s) n (fun i s => chg [9] [] u s ∧ RW 9 (fun j => if j < i then F (j + 1) else F j) s) ?_ ?_ 0 (Nat.zero_le _) u ⟨chg_rf _ _ _, fun j hj => by dsimp only; rw [if_neg (by omega)]; exact hR j hj⟩
  · rintro m i s hi ⟨c1, c2⟩ kk
    show f_X6_divideByY_L15_s _ _ _ _ _ _ _
    unfold f_X6_divideByY_L15_s
    refine ⟨fun c => absurd c (nI_ge hi (by omega)), fun _ => ?_⟩
    rw [nI_1]
    refine read_ok (by exact (by omega : i + 1 < 5)) (write_ok (by exact (by omega : i < 5)) ?_)
    intro v8 e8
    subst e8
    refine kk _ ⟨chg_tsu c1 (by decide) (by decide), fun j hj => ?_⟩
    have h2 := c2 (i + 1) (by omega)
    have h3 := c2 j hj
    dsimp only at h2 h3 ⊢
    rw [if_neg (by omega)] at h2
    rw [su_sa, sa_k]
    by_cases e : j = i
    · subst e; rw [upd_in, if_pos (by omega)]; exact h2
    · rw [upd_ne _ _ e, h3]
      by_cases q : j < i
      · rw [if_pos q, if_pos (by omega)]
      · rw [if_neg q, if_neg (by omega)]
  · rintro m s ⟨c1, c2⟩
    show f_X6_divideByY_L15_s _ _ _ _ _ _ _
    unfold f_X6_divideByY_L15_s
    exact ⟨fun _ => h0 e0 s c1 c2, fun c => absurd (nI_le (Nat.le_refl _) (by omega)) c⟩
theorem divP_ok {al p t n : Nat} {F : Nat → Nat} {u : St} {Q : Int32 → St → Prop} (hp : PP u p) (hn : n ≤ 4) (ht : t < p) (hF : ∀ j, F j < p) (hR : RW 9 F u) (h : ∀ v, chg [9] [] u v → RW 9 (rowP p t n F) v → Q (if carr p t F n = 0 then 1 else 0) v) : f_X6_divideByPoint al (nI n) (nI t) u Q := by
  have hb := isP_b hp.2
  unfold f_X6_divideByPoint
  refine loopU2 (fun m i a s => f_X6_divideByPoint_L5 al (nI n) (nI t) Q (fun v9 u10 => ((¬ v9 = 0 → Q 0 u10) ∧ (v9 = 0 → Q 1 u10))) m a i s) (n + 1) (fun i a s => chg [9] [] u s ∧ a = nI (if i = 0 then 0 else carr p t F (i - 1)) ∧ RW 9 (fun j => if j < i then carr p t F j else F j) s) ?_ ?_ 0 (Nat.zero_le _) 0 u ⟨chg_rf _ _ _, rfl, fun j hj => by dsimp only; rw [if_neg (by omega)]; exact hR j hj⟩
  · rintro m i a s hi ⟨c1, rfl, c2⟩ kk
    show f_X6_divideByPoint_L5_s _ _ _ _ _ _ _ _ _
    unfold f_X6_divideByPoint_L5_s
    refine ⟨fun c => absurd ((nI_ltI (by omega) (by omega)).mp c) (by omega), fun _ => ?_⟩
    refine read_ok (by exact (by omega : i < 5)) ?_
    have h2 := c2 i (by omega)
    dsimp only at h2
    rw [if_neg (by omega)] at h2
    rw [h2, pk_mul, nI_add]
    have hcl : (if i = 0 then 0 else carr p t F (i - 1)) < p := by
      split
      · omega
      · exact carr_lt (by omega) _ _
    have hm : t * (if i = 0 then 0 else carr p t F (i - 1)) ≤ 5 * 5 := Nat.mul_le_mul (by omega) (by omega)
    have hFi := hF i
    have hcar : (F i + t * (if i = 0 then 0 else carr p t F (i - 1))) % p = carr p t F i := by
      cases i with
      | zero => simp [carr]
      | succ i => rw [if_neg (by omega)]; rfl
    refine rest_n (c1.pp hp (by decide)) rfl (by omega) ?_
    rw [hcar]
    refine write_ok (by exact (by omega : i < 5)) ?_
    intro v7 e7
    rw [nI_1] at e7
    subst e7
    refine kk _ _ ⟨chg_tsu c1 (by decide) (by decide), by rw [if_neg (by omega), Nat.add_sub_cancel], fun j hj => ?_⟩
    have h3 := c2 j hj
    dsimp only at h3 ⊢
    rw [su_sa, sa_k]
    by_cases e : j = i
    · subst e; rw [upd_in, if_pos (by omega)]
    · rw [upd_ne _ _ e, h3]
      by_cases q : j < i
      · rw [if_pos q, if_pos (by omega)]
      · rw [if_neg q, if_neg (by omega)]
  · rintro m a s ⟨c1, rfl, c2⟩
    show f_X6_divideByPoint_L5_s _ _ _ _ _ _ _ _ _
    unfold f_X6_divideByPoint_L5_s
    refine ⟨fun _ => ?_, fun c => absurd ((nI_ltI (by omega) (by omega)).mpr (by omega)) c⟩
    rw [if_neg (by omega), Nat.add_sub_cancel]
    have hv := h s c1 (fun j hj => by
      have h3 := c2 j hj
      dsimp only at h3
      rw [h3]
      unfold rowP
      by_cases q : j ≤ n
      · rw [if_pos q, if_pos (by omega)]
      · rw [if_neg q, if_neg (by omega)])
    have hcl := carr_lt (t := t) (show 0 < p by omega) F n
    refine ⟨fun c => ?_, fun c => ?_⟩
    · rw [if_neg (fun e => c (by rw [e]; rfl))] at hv; exact hv
    · rw [if_pos ((nI_eq (b := 0) (by omega) (by omega)).mp c)] at hv; exact hv
theorem divisions_ok {al p d c t : Nat} {u : St} {Q : Int32 → St → Prop} (hp : PP u p) (hd : d ≤ 4) (hc : c < 1000000000) (ht : t ≤ p) (h : ∀ v, chg [9] [] u v → Q (nI (dvs p t (d + 1) (dg p c))) v) : f_X6_divisions al (nI d) (nI c) (nI t) u Q := by
  have hb := isP_b hp.2
  unfold f_X6_divisions
  refine spell_ok hp (by decide) (by decide) hc ?_
  have hlp := loopD2 (fun m i a s => f_X6_divisions_L18 al (nI t) Q (fun v15 u16 => Q v15 u16) (fun v17 u18 => Q v17 u18) m a i s) (fun i a s => ∃ k F, i ≤ 5 ∧ k ≤ 5 ∧ chg [9] [] u s ∧ a = nI k ∧ (∀ j, F j < p) ∧ RW 9 F s ∧ k + dvs p t i F = dvs p t (d + 1) (dg p c)) ?_ ?_ (d + 1) 0 (sa u 9 (fun j => if j < 5 then nI (dg p c j) else u 9 j)) ⟨0, dg p c, by omega, by omega, chg_sa (by decide) (by decide), rfl, fun j => dg_lt (by omega) _ _, fun j hj => by rw [sa_k, if_pos hj], by omega⟩
  · rw [dI_s] at hlp
    exact hlp
  · rintro m i a s ⟨k, F, hi, hk, c1, rfl, hF, hR, e⟩ kk
    show f_X6_divisions_L18_s _ _ _ _ _ _ _ _ _
    unfold f_X6_divisions_L18_s
    have hpp := c1.pp hp (by decide)
    have hle := dvs_le p t (d + 1) (dg p c)
    rw [dI_s]
    refine ⟨fun c => absurd c (nI_pos (by omega)), fun _ => ?_⟩
    rw [hpp.1]
    refine ⟨fun c => ?_, fun c => ?_⟩
    · have hne : ¬ t = p := fun q => c (by rw [q])
      refine divP_ok hpp (by omega) (by omega) hF hR ?_
      intro v cv rv
      rw [dvs_s p t i F] at e
      rw [if_neg hne] at e
      by_cases q : carr p t F i = 0
      · rw [if_pos q] at e ⊢
        refine ⟨fun _ v7 e7 v8 e8 => ?_, fun c => absurd c (by decide)⟩
        rw [nI_1] at e7
        rw [nI_d] at e8
        subst e7 e8
        refine kk _ _ ⟨k + 1, _, by omega, by omega, c1.tr cv, rfl, fun j => ?_, rv, by omega⟩
        unfold rowP
        split
        · exact carr_lt (by omega) _ _
        · exact hF j
      · rw [if_neg q] at e ⊢
        refine ⟨fun c => absurd rfl c, fun _ => ?_⟩
        rw [Nat.add_zero] at e
        show Q (nI k) v
        rw [e]; exact h v (c1.tr cv)
    · have he : t = p := (nI_eq (by omega) (by omega)).mp c
      rw [dvs_s p t i F] at e
      rw [if_pos he] at e
      refine divY_ok (by omega) hF (by omega) hR (fun q v cv rv => ?_) (fun q => ?_)
      · rw [if_pos q] at e
        refine ⟨fun _ v7 e7 v8 e8 => ?_, fun c => absurd c (by decide)⟩
        rw [nI_1] at e7
        rw [nI_d] at e8
        subst e7 e8
        refine kk _ _ ⟨k + 1, _, by omega, by omega, c1.tr cv, rfl, fun j => ?_, rv, by omega⟩
        unfold rowY
        split <;> exact hF _
      · rw [if_neg q] at e
        refine ⟨fun c => absurd rfl c, fun _ => ?_⟩
        rw [Nat.add_zero] at e
        show Q (nI k) s
        rw [e]; exact h s c1
  · rintro m a s ⟨k, F, hi, hk, c1, rfl, hF, hR, e⟩
    show f_X6_divisions_L18_s _ _ _ _ _ _ _ _ _
    unfold f_X6_divisions_L18_s
    refine ⟨fun _ => ?_, fun c => absurd (show dI 0 < 0 by decide) c⟩
    have : k = dvs p t (d + 1) (dg p c) := e
    show Q (nI k) s
    rw [this]; exact h s c1
/-- at how many points it can be divided -/
def rts (p d c : Nat) : Nat := fb_ct (fun t => decide (0 < dvs p t (d + 1) (dg p c))) (p + 1)
theorem roots_ok {al p d c : Nat} {u : St} {Q : Int32 → St → Prop} (hp : PP u p) (hd : d ≤ 4) (hc : c < 1000000000) (h : ∀ v, chg [9] [] u v → Q (nI (rts p d c)) v) : f_X6_countRoots al (nI d) (nI c) u Q := by
  have hb := isP_b hp.2
  unfold f_X6_countRoots
  refine loopU2 (fun m i a s => f_X6_countRoots_L5 al (nI d) (nI c) Q (fun v9 u10 => Q v9 u10) m a i s) (p + 1) (fun i a s => chg [9] [] u s ∧ a = nI (fb_ct (fun t => decide (0 < dvs p t (d + 1) (dg p c))) i)) ?_ ?_ 0 (Nat.zero_le _) 0 u ⟨chg_rf _ _ _, rfl⟩
  · rintro m i a s hi ⟨c1, rfl⟩ kk
    show f_X6_countRoots_L5_s _ _ _ _ _ _ _ _ _
    unfold f_X6_countRoots_L5_s
    have hpp := c1.pp hp (by decide)
    rw [hpp.1]
    refine ⟨fun c => absurd ((nI_ltI (by omega) (by omega)).mp c) (by omega), fun _ => divisions_ok hpp hd hc (by omega) ?_⟩
    intro v cv
    have hle := dvs_le p i (d + 1) (dg p c)
    refine ⟨fun c3 v5 e5 => ?_, fun c3 v6 e6 v7 e7 => ?_⟩
    · rw [nI_1] at e5
      subst e5
      have hz : ¬ 0 < dvs p i (d + 1) (dg p c) := fun q => (nI_nle q (by omega)) c3
      exact kk _ _ ⟨c1.tr cv, by rw [fb_ct_succ, if_neg (by simpa using hz)]; rfl⟩
    · rw [nI_1] at e6 e7
      subst e6 e7
      have hz : 0 < dvs p i (d + 1) (dg p c) := Nat.pos_of_ne_zero (fun q => c3 (by rw [q]; exact Int32.le_refl _))
      exact kk _ _ ⟨c1.tr cv, by rw [fb_ct_succ, if_pos (by simpa using hz)]⟩
  · rintro m a s ⟨c1, rfl⟩
    show f_X6_countRoots_L5_s _ _ _ _ _ _ _ _ _
    unfold f_X6_countRoots_L5_s
    have hpp := c1.pp hp (by decide)
    rw [hpp.1]
    exact ⟨fun _ => h s c1, fun c => absurd ((nI_ltI (by omega) (by omega)).mpr (by omega)) c⟩
def nul (p d c : Nat) : Prop := ∃ t, t < p + 1 ∧ d < 2 * dvs p t (d + 1) (dg p c)
theorem two_mul (n : Nat) : (2 : Int32) * nI n = nI (2 * n) := by rw [show (2 : Int32) = nI 2 from rfl, pk_mul]
theorem null_ok {al p d c : Nat} {u : St} {Q : Int32 → St → Prop} (hp : PP u p) (hd : d ≤ 4) (hc : c < 1000000000) (h1 : nul p d c → ∀ v, chg [9] [] u v → Q 1 v) (h2 : ¬ nul p d c → ∀ v, chg [9] [] u v → Q 0 v) : f_X6_isNull al (nI d) (nI c) u Q := by
  have hb := isP_b hp.2
  unfold f_X6_isNull
  refine loopU (S := St) (fun m i s => f_X6_isNull_L2 al (nI d) (nI c) Q (fun u7 => Q 1 u7) (fun u8 => Q 0 u8) m i s) (p + 1) (fun i s => chg [9] [] u s ∧ ∀ t, t < i → ¬ d < 2 * dvs p t (d + 1) (dg p c)) ?_ ?_ 0 (Nat.zero_le _) u ⟨chg_rf _ _ _, fun t ht => absurd ht (Nat.not_lt_zero _)⟩
  · rintro m i s hi ⟨c1, c2⟩ kk
    show f_X6_isNull_L2_s _ _ _ _ _ _ _ _ _
    unfold f_X6_isNull_L2_s
    have hpp := c1.pp hp (by decide)
    rw [hpp.1]
    refine ⟨fun c => absurd ((nI_ltI (by omega) (by omega)).mp c) (by omega), fun _ => divisions_ok hpp hd hc (by omega) ?_⟩
    intro v cv
    have hle := dvs_le p i (d + 1) (dg p c)
    rw [two_mul]
    refine ⟨fun c3 v5 e5 => ?_, fun c3 => h1 ⟨i, hi, ?_⟩ v (c1.tr cv)⟩
    · rw [nI_1] at e5
      subst e5
      refine kk _ ⟨c1.tr cv, fun t ht => ?_⟩
      by_cases q : t = i
      · subst q
        exact fun q2 => (nI_ge q2 (by omega)) c3
      · exact c2 t (by omega)
    · exact Nat.lt_of_not_le (fun q => c3 (nI_le q (by omega)))
  · rintro m s ⟨c1, c2⟩
    show f_X6_isNull_L2_s _ _ _ _ _ _ _ _ _
    unfold f_X6_isNull_L2_s
    have hpp := c1.pp hp (by decide)
    rw [hpp.1]
    exact ⟨fun _ => h2 (fun ⟨t, ht, q⟩ => c2 t ht q) s c1, fun c => absurd ((nI_ltI (by omega) (by omega)).mpr (by omega)) c⟩
