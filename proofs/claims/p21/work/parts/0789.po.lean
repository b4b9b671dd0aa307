/-! a turn of the law -/
/-- what a turn may end with -/
def KG (K : Nat → Int32 → Int32 → Int32 → Int32 → Int32 → Int32 → St → Prop) : Prop := ∀ (al p ng nf : Nat) (M D C : Nat → Nat) (x5 x6 : Int32) (v : St), al ≤ 4 → CI al p ng M nf D C v → K al (nI p) (nI nf) (nI ng) x5 x6 1 v
theorem nxt_n (F : Nat → Nat) (n x : Nat) : nxt F n x n = x := if_pos rfl
theorem nxt_o (F : Nat → Nat) {n i : Nat} (x : Nat) (h : i < n) : nxt F n x i = F i := if_neg (by omega)
theorem sh1 {n : Nat} (h : n < 2 ^ 31) : nI n >>> ((1 : Int32) &&& 31) = nI (n / 2) := pk_shrN h _ 1 (by decide)
theorem sh2 {n : Nat} (h : n < 2 ^ 31) : nI n >>> ((2 : Int32) &&& 31) = nI (n / 4) := pk_shrN h _ 2 (by decide)
theorem sh3 {n : Nat} (h : n < 2 ^ 31) : nI n >>> ((3 : Int32) &&& 31) = nI (n / 8) := pk_shrN h _ 3 (by decide)
theorem sh5 {n : Nat} (h : n < 2 ^ 31) : nI n >>> ((5 : Int32) &&& 31) = nI (n / 32) := pk_shrN h _ 5 (by decide)
theorem sh6 {n : Nat} (h : n < 2 ^ 31) : nI n >>> ((6 : Int32) &&& 31) = nI (n / 64) := pk_shrN h _ 6 (by decide)
theorem sh9 {n : Nat} (h : n < 2 ^ 31) : nI n >>> ((9 : Int32) &&& 31) = nI (n / 512) := pk_shrN h _ 9 (by decide)
theorem sh11 {n : Nat} (h : n < 2 ^ 31) : nI n >>> ((11 : Int32) &&& 31) = nI (n / 2048) := pk_shrN h _ 11 (by decide)
theorem rem_lit {n m : Nat} {M : Int32} (hM : M = nI m) (h : n < 2 ^ 31) (h0 : 0 < m) (hm : m < 2 ^ 31) : nI n - nI n / M * M = nI (n % m) := by subst hM; exact pk_rem h h0 hm
theorem g_back {p ng d g n : Nat} {M l : Nat → Nat} (hp : isP p) (hd : d ≤ 4) (hM : gensOk p ng M) (hl : GL p ng M l n) (hg : g < ng) : ∃ y, det p y ≠ 0 ∧ ∀ x, x < p ^ (d + 1) → act p y d (act p (M g) d x) = x := by
  obtain ⟨jg, hjg, ejg⟩ := GL_mem hl (by
    have h1 := Rch_step (Rch_one p ng M) hg
    rw [one_mm hp (hM g hg).1] at h1
    exact h1)
  obtain ⟨i2, hi2, e2, e3⟩ := GL_inv hp hl hjg
  rw [ejg] at e3
  exact ⟨l i2, (hl.2.2.1 i2 hi2).2, fun x hx => by rw [← act_mmul hp hd, e3, act_one hp hd hx]⟩
theorem gen_one {p : Nat} {w x y z m : Nat} (hp : isP p) (hw : w < p) (hx : x < p) (hy : y < p) (hz : z < p) (h : genV p (nI w) (nI x) (nI y) (nI z) m) : m = tab p w x y z := by
  have hb := isP_b hp
  obtain ⟨w', x', y', z', h1, h2, h3, h4, e1, e2, e3, e4, rfl⟩ := h
  rw [one_n (N := 6) (by omega) (by omega) (by omega) e1, one_n (N := 6) (by omega) (by omega) (by omega) e2, one_n (N := 6) (by omega) (by omega) (by omega) e3, one_n (N := 6) (by omega) (by omega) (by omega) e4]
theorem det_calc {p w x y z : Nat} (hp : isP p) (hw : w < p) (hx : x < p) (hy : y < p) (hz : z < p) {v46 v47 : Int32} (e46 : v46 = ((nI w * nI z) - (nI x * nI y)) - ((nI w * nI z) - (nI x * nI y)) / nI p * nI p) (e47 : v47 = (v46 + nI p) - (v46 + nI p) / nI p * nI p) : v47 = nI (det p (tab p w x y z)) := by
  have hb := isP_b hp
  have m1 : w * z ≤ 4 * 4 := Nat.mul_le_mul (by omega) (by omega)
  have m2 : x * y ≤ 4 * 4 := Nat.mul_le_mul (by omega) (by omega)
  have ez : (nI w * nI z) - (nI x * nI y) = iI (((w * z : Nat) : Int) - ((x * y : Nat) : Int)) := by
    rw [pk_mul, pk_mul, iI_n, iI_n, iI_sub]
  have ht := tmod_bounds (a := ((w * z : Nat) : Int) - ((x * y : Nat) : Int)) (M := (p : Int)) (by omega)
  have hq := Int.tmod_add_tdiv_mul (((w * z : Nat) : Int) - ((x * y : Nat) : Int)) p
  rw [ez, tm_ok (by omega) (by omega) (by omega) (by omega)] at e46
  subst e46
  rw [show iI ((((w * z : Nat) : Int) - ((x * y : Nat) : Int)).tmod (p : Int)) + nI p = iI ((((w * z : Nat) : Int) - ((x * y : Nat) : Int)).tmod (p : Int) + (p : Int)) by rw [iI_n, iI_add], tm_ok (by omega) (by omega) (by omega) (by omega), Int.tmod_eq_emod_of_nonneg (by omega), Int.add_emod_right] at e47
  have h5 : (((w * z : Nat) : Int) - ((x * y : Nat) : Int)).tmod (p : Int) % (p : Int) = (((w * z : Nat) : Int) - ((x * y : Nat) : Int)) % (p : Int) := by
    rw [← Int.add_mul_emod_self_right ((((w * z : Nat) : Int) - ((x * y : Nat) : Int)).tmod (p : Int)) ((((w * z : Nat) : Int) - ((x * y : Nat) : Int)).tdiv (p : Int)) (p : Int), hq]
  rw [h5, iI_nn (Int.emod_nonneg _ (by omega))] at e47
  rw [e47, det_tab hw hx hy hz]
section PO
variable {al p ng nf : Nat} {M D C : Nat → Nat} {u : St} {K : Nat → Int32 → Int32 → Int32 → Int32 → Int32 → Int32 → St → Prop}
theorem b149 {z : Nat} {a5 a6 a8 a9 : Int32} (hK : KG K) (hal : al ≤ 4) (hC : CI al p ng M nf D C u) (hz : z < 2 ^ 27) : f_L_law_B149 al (nI p) (nI nf) (nI ng) a5 a6 1 a8 a9 (nI z) K u := by
  have hp := hC.1.2
  have hb := isP_b hp
  have h20 := hC.2.2.2.2.1.1
  unfold f_L_law_B149
  intro v11 e11 v12 e12
  rw [sh2 (by omega), rem_lit (M := 4) (m := 4) rfl (by omega) (by omega) (by omega)] at e11
  rw [e11, show (1 : Int32) = nI 1 from rfl, nI_add] at e12
  obtain ⟨d, hd1, hd, ed⟩ : ∃ d, 1 ≤ d ∧ d ≤ 4 ∧ 1 + z / 4 % 4 = d := ⟨_, by omega, by omega, rfl⟩
  rw [ed] at e12
  subst e12
  rw [nI_1]
  have hpw := pow_b hp (show d + 1 ≤ 5 by omega)
  have hpp := pow_pos' hp (d + 1)
  refine lpow_ok (by omega) ⟨nI_ne0 hpp (by omega), fun v15 e15 => ?_⟩
  rw [sh5 (by omega), pk_rem (by omega) hpp (by omega)] at e15
  subst e15
  refine askForm hC hd1 hd (Nat.mod_lt _ hpp) (fun h v hv v18 q1 q2 v20 q3 q4 v22 q5 q6 v24 e24 => ?_) (fun h v18 q1 q2 v20 q3 q4 v22 q5 q6 v24 e24 => ?_)
  · have e18 : v18 = nI nf := q1 (fun e => by have := (nI_eq (b := 20) (by omega) (by decide)).mp e; omega)
    rw [q6 (nI_pos (by omega)), nI_1] at e24
    rw [q4 e18.symm, e24]
    exact hK _ _ _ _ _ _ _ _ _ _ hal hv
  · have h0 : nf = 20 := by omega
    have e18 : v18 = -13 := q2 (by rw [h0]; rfl)
    rw [q5 (by decide), show (0 : Int32) = nI 0 from rfl, nI_add, Nat.add_zero] at e24
    rw [q4 e18.symm, e24]
    exact hK _ _ _ _ _ _ _ _ _ _ hal hC
set_option maxHeartbeats 4000000 in
theorem b228 {z : Nat} {a5 a6 a8 a9 : Int32} (hK : KG K) (hal : al ≤ 4) (hC : CI al p ng M nf D C u) (hz : z < 2 ^ 27) : f_L_law_B228 al (nI p) (nI nf) (nI ng) a5 a6 1 a8 a9 (nI z) K u := by
  have hp := hC.1.2
  have hb := isP_b hp
  have h4 := hC.2.2.1.1
  have hpb : 0 < p := by omega
  have p2 : 0 < p * p := Nat.mul_pos hpb hpb
  have p3 : 0 < p * p * p := Nat.mul_pos p2 hpb
  have p2b : p * p ≤ 5 * 5 := Nat.mul_le_mul (by omega) (by omega)
  have p3b : p * p * p ≤ 5 * 5 * 5 := Nat.mul_le_mul p2b (by omega)
  have hp4 : p ^ 4 = p * p * p * p := by
    rw [Nat.pow_succ, Nat.pow_succ, Nat.pow_succ, Nat.pow_succ, Nat.pow_zero, Nat.one_mul]
  have hp0 : ¬ nI p = 0 := nI_ne0 hpb (by omega)
  have hp2 : ¬ nI p * nI p = 0 := by rw [pk_mul]; exact nI_ne0 p2 (by omega)
  have hp3 : ¬ nI p * nI p * nI p = 0 := by rw [pk_mul, pk_mul]; exact nI_ne0 p3 (by omega)
  unfold f_L_law_B228
  have hpw := pow_b hp (show 4 ≤ 5 by omega)
  have hpp := pow_pos' hp 4
  refine lpow_ok (n := 4) (by omega) ⟨nI_ne0 hpp (by omega), fun v13 e13 => ?_⟩
  rw [sh3 (by omega), pk_rem (by omega) hpp (by omega)] at e13
  obtain ⟨V, hV, eV⟩ : ∃ V, V < p ^ 4 ∧ z / 8 % p ^ 4 = V := ⟨_, Nat.mod_lt _ hpp, rfl⟩
  rw [eV] at e13
  subst e13
  have d0 : nI V - nI V / nI p * nI p = nI (V % p) := pk_rem (by omega) hpb (by omega)
  have d1 : nI V / nI p = nI (V / p) := pk_div (by omega) hpb (by omega)
  have d1' : nI (V / p) - nI (V / p) / nI p * nI p = nI (V / p % p) := pk_rem (by have := Nat.div_le_self V p; omega) hpb (by omega)
  have d2 : nI V / (nI p * nI p) = nI (V / (p * p)) := by rw [pk_mul]; exact pk_div (by omega) p2 (by omega)
  have d2' : nI (V / (p * p)) - nI (V / (p * p)) / nI p * nI p = nI (V / (p * p) % p) := pk_rem (by have := Nat.div_le_self V (p * p); omega) hpb (by omega)
  have d3 : nI V / (nI p * nI p * nI p) = nI (V / (p * p * p)) := by rw [pk_mul, pk_mul]; exact pk_div (by omega) p3 (by omega)
  have hw : V % p < p := Nat.mod_lt _ hpb
  have hx : V / p % p < p := Nat.mod_lt _ hpb
  have hy : V / (p * p) % p < p := Nat.mod_lt _ hpb
  have hz4 : V / (p * p * p) < p := Nat.div_lt_of_lt_mul (by rw [← hp4]; exact hV)
  refine ⟨hp0, fun v14 e14 => ⟨hp0, fun v15 e15 => ⟨hp0, fun v16 e16 => ⟨hp2, fun v17 e17 => ⟨hp0, fun v18 e18 => ⟨hp3, fun v19 e19 => ?_⟩⟩⟩⟩⟩⟩
  rw [d0] at e14
  rw [d1] at e15
  rw [e15, d1'] at e16
  rw [d2] at e17
  rw [e17, d2'] at e18
  rw [d3] at e19
  subst e14 e16 e18 e19
  have hgV : genV p (nI (V % p)) (nI (V / p % p)) (nI (V / (p * p) % p)) (nI (V / (p * p * p))) (tab p (V % p) (V / p % p) (V / (p * p) % p) (V / (p * p * p))) := ⟨_, _, _, _, hw, hx, hy, hz4, rfl, rfl, rfl, rfl, rfl⟩
  have hdl := det_lt hpb (tab p (V % p) (V / p % p) (V / (p * p) % p) (V / (p * p * p)))
  unfold f_L_generator
  refine generator_ok hC hal (fun m al2 v hm hdet hn4 hle hle4 hv => ?_) (fun hn => Or.inl ⟨rfl, ?_⟩) (fun m hm hdet hn4 => Or.inr ⟨rfl, ?_⟩)
  · have em := gen_one hp hw hx hy hz4 hm
    rw [em] at hdet
    refine ⟨hp0, fun v40 e40 => ⟨hp3, fun v41 e41 => ⟨hp0, fun v42 e42 => ⟨hp0, fun v43 e43 => ⟨hp2, fun v44 e44 => ⟨hp0, fun v45 e45 => ⟨hp0, fun v46 e46 => ⟨hp0, fun v47 e47 v48 q1 q2 v50 q3 q4 q5 v52 q6 q7 v54 q8 q9 v56 e56 => ?_⟩⟩⟩⟩⟩⟩⟩⟩
    rw [d0] at e40
    rw [d3] at e41
    rw [d1] at e42
    rw [e42, d1'] at e43
    rw [d2] at e44
    rw [e44, d2'] at e45
    rw [e40, e41, e43, e45] at e46
    have e47' := det_calc hp hw hx hy hz4 e46 e47
    rw [e47'] at q1 q2
    have e48 : v48 = 1 := q2 (nI_nle (Nat.pos_of_ne_zero hdet) (by omega))
    have e50 : v50 = nI ng := q3 (by rw [e48]; decide) (fun e => by have := (nI_eq (b := 4) (by omega) (by decide)).mp e; omega)
    rw [q9 (nI_pos (by omega)), nI_1] at e56
    rw [q7 e50.symm, e56]
    exact hK _ _ _ _ _ _ _ _ _ _ hle4 hv
  · have hdet : det p (tab p (V % p) (V / p % p) (V / (p * p) % p) (V / (p * p * p))) = 0 := Classical.byContradiction (fun e => hn ⟨_, hgV, e⟩)
    refine ⟨hp0, fun v40 e40 => ⟨hp3, fun v41 e41 => ⟨hp0, fun v42 e42 => ⟨hp0, fun v43 e43 => ⟨hp2, fun v44 e44 => ⟨hp0, fun v45 e45 => ⟨hp0, fun v46 e46 => ⟨hp0, fun v47 e47 v48 q1 q2 v50 q3 q4 q5 v52 q6 q7 v54 q8 q9 v56 e56 => ?_⟩⟩⟩⟩⟩⟩⟩⟩
    rw [d0] at e40
    rw [d3] at e41
    rw [d1] at e42
    rw [e42, d1'] at e43
    rw [d2] at e44
    rw [e44, d2'] at e45
    rw [e40, e41, e43, e45] at e46
    have e47' := det_calc hp hw hx hy hz4 e46 e47
    rw [e47'] at q1 q2
    have e48 : v48 = 0 := q1 (by rw [hdet]; exact (by decide : (nI 0 : Int32) ≤ 0))
    have e50 : v50 = -12 := q5 e48
    rw [q8 (by decide), show (0 : Int32) = nI 0 from rfl, nI_add, Nat.add_zero] at e56
    rw [q7 e50.symm, e56]
    exact hK _ _ _ _ _ _ _ _ _ _ hal hC
  · have em := gen_one hp hw hx hy hz4 hm
    rw [em] at hdet
    refine ⟨hp0, fun v40 e40 => ⟨hp3, fun v41 e41 => ⟨hp0, fun v42 e42 => ⟨hp0, fun v43 e43 => ⟨hp2, fun v44 e44 => ⟨hp0, fun v45 e45 => ⟨hp0, fun v46 e46 => ⟨hp0, fun v47 e47 v48 q1 q2 v50 q3 q4 q5 v52 q6 q7 v54 q8 q9 v56 e56 => ?_⟩⟩⟩⟩⟩⟩⟩⟩
    rw [d0] at e40
    rw [d3] at e41
    rw [d1] at e42
    rw [e42, d1'] at e43
    rw [d2] at e44
    rw [e44, d2'] at e45
    rw [e40, e41, e43, e45] at e46
    have e47' := det_calc hp hw hx hy hz4 e46 e47
    rw [e47'] at q1 q2
    have e48 : v48 = 1 := q2 (nI_nle (Nat.pos_of_ne_zero hdet) (by omega))
    have e50 : v50 = -13 := q4 (by rw [e48]; decide) (by rw [show ng = 4 by omega]; rfl)
    rw [q8 (by decide), show (0 : Int32) = nI 0 from rfl, nI_add, Nat.add_zero] at e56
    rw [q7 e50.symm, e56]
    exact hK _ _ _ _ _ _ _ _ _ _ hal hC
theorem b451 {a5 a6 a7 a8 a9 : Int32} (hK : KG K) (hal : al ≤ 4) (hC : CI al p ng M 0 D C u) : f_L_law_B451 al (nI p) (nI 0) (nI ng) a5 a6 a7 a8 a9 K u := by
  unfold f_L_law_B451
  exact askNo2 hC ⟨fun _ => False, ⟨fun c => absurd rfl c, fun _ => askNo7 hC ⟨fun c => absurd rfl c, fun _ => hK _ _ _ _ _ _ _ _ _ _ hal hC⟩⟩, fun _ h => h.elim⟩
theorem b495 {f : Nat} {a5 a6 a7 a8 a9 : Int32} (hK : KG K) (hal : al ≤ 4) (hC : CI al p ng M nf D C u) (hf : f < nf) : f_L_law_B495 al (nI p) (nI nf) (nI ng) a5 a6 a7 a8 a9 (nI f) K u := by
  unfold f_L_law_B495
  refine weighs_ok hC (fun v _ hv => ⟨fun _ => False, ⟨fun c => absurd c (by decide), fun _ v20 q1 q2 => ?_⟩, fun _ h => h.elim⟩) (fun v hn _ => absurd (wAll_all hC.1.2 hC.2.1) hn)
  obtain ⟨hh, hh1, e⟩ : ∃ hh, hh ≤ 1 ∧ v20 = nI hh := by
    by_cases q : (40 : Int32) ≤ a9
    · exact ⟨0, by omega, q1 q⟩
    · exact ⟨1, by omega, q2 q⟩
  subst e
  exact isForm_ok hv hf hh1 (fun w hw => ⟨fun c => absurd c (by decide), fun _ => hK _ _ _ _ _ _ _ _ _ _ hal hw⟩)
set_option maxHeartbeats 4000000 in
theorem b546 {f z : Nat} {a5 a6 a8 a9 : Int32} (hK : KG K) (hal : al ≤ 4) (hC : CI al p ng M nf D C u) (hf : f < nf) (h0 : 0 < ng) (hz : z < 2 ^ 27) : f_L_law_B546 al (nI p) (nI nf) (nI ng) a5 a6 1 a8 a9 (nI z) (nI f) K u := by
  have hp := hC.1.2
  have hb := isP_b hp
  have hM := hC.2.1
  have h4 := hC.2.2.1.1
  have h20 := hC.2.2.2.2.1.1
  obtain ⟨⟨hd1, hd⟩, hcf, hc31⟩ := hC.f hf
  obtain ⟨l, n, hl, -⟩ := hC.2.2.2.2.2.2
  have hpw := pow_b hp (show D f + 1 ≤ 5 by omega)
  unfold f_L_law_B546
  refine ⟨nI_ne0 h0 (by omega), fun v15 e15 => ?_⟩
  rw [sh11 (by omega), pk_rem (by omega) h0 (by omega)] at e15
  obtain ⟨g, hg, eg⟩ : ∃ g, g < ng ∧ z / 2048 % ng = g := ⟨_, Nat.mod_lt _ h0, rfl⟩
  rw [eg] at e15
  subst e15
  obtain ⟨y, hy, hback⟩ := g_back hp hd hM hl hg
  have hr := act_lt (p := p) (m := M g) (n := D f) (c := C f) hp hd
  refine fI0 hC hf (fun u1 c1 => askChanged c1 hf hg ⟨fun v s => v = 1 ∧ CI al p ng M nf D C s, ⟨fun c => absurd c (nI_pos (by omega)), fun _ => ?_⟩, fun v20 u22 hv => ?_⟩)
  · rw [nI_1]
    refine lpow_ok (by omega) ⟨fun c => absurd c (nI_ge hr (by omega)), fun _ => fI1 c1 hf (fun u2 c2 v56 q1 q2 v58 q3 q4 => ?_)⟩
    have hv : v56 = v58 := by
      refine tests_eq2 (A := nI (C f) = 0) (B := nI (act p (M g) (D f) (C f)) = 0) ?_ q1 q2 q3 q4
      rw [nI_z (by omega), nI_z (by omega)]
      constructor
      · intro e; rw [e]; exact act_0
      · intro e
        have h9 := hback (C f) hcf
        rw [e, act_0] at h9
        exact h9.symm
    exact ⟨fun c => absurd hv c, fun _ => ⟨rfl, c2⟩⟩
  · obtain ⟨rfl, c2⟩ := hv
    refine ⟨fun _ => hK _ _ _ _ _ _ _ _ _ _ hal c2, fun hlt => ⟨fun c => absurd c (by decide), fun _ => ?_⟩⟩
    refine askForm c2 hd1 hd hr (fun h v hv => ?_) (fun h => absurd (show (20 : Int32) ≤ nI nf by rw [show nf = 20 by omega]; decide) hlt)
    have eD := nxt_n D nf (D f)
    have eC := nxt_n C nf (act p (M g) (D f) (C f))
    have eDf := nxt_o D (D f) hf
    have eCf := nxt_o C (act p (M g) (D f) (C f)) hf
    refine ⟨fun v s => v = 1 ∧ CI al p ng M (nf + 1) (nxt D nf (D f)) (nxt C nf (act p (M g) (D f) (C f))) s, ⟨fun c => absurd rfl c, fun _ => ?_⟩, fun v27 u29 hv v30 e30 v31 e31 => ?_⟩
    · refine fI2 hv (by omega) (fun u3 c3 => fI2 c3 (f := f) (by omega) (fun u4 c4 => ?_))
      rw [eD, eC, eDf, eCf]
      refine ⟨fun c => absurd (by rw [rts_same hp hd1 hd (hM g hg).2 hy (hback _ hcf)]) c, fun _ => fI3 c4 (by omega) (fun r1 u5 n1 n2 c5 => fI3 c5 (f := f) (by omega) (fun r2 u6 n3 n4 c6 => ?_))⟩
      rw [eD, eC] at n1 n2
      rw [eDf, eCf] at n3 n4
      have hnul := nul_same hp hd hcf (hM g hg).2 hy (hback _ hcf)
      have er : r1 = r2 := by
        by_cases q : nul p (D f) (C f)
        · rw [n1 (hnul.mpr q), n3 q]
        · rw [n2 (fun e => q (hnul.mp e)), n4 q]
      refine ⟨fun c => absurd er c, fun _ => ⟨fun _ => ⟨rfl, c6⟩, fun _ => isWay_ok c6 (f := f) (by omega) (g := nf) (by omega) (by rw [eDf, eD]) (fun u7 c7 => ⟨fun c => absurd c (by decide), fun _ => askWay c7 (f := f) (by omega) (g := nf) (by omega) (by rw [eDf, eD]) (fun r3 u8 hr3 c8 => ⟨fun c => ?_, fun _ => ⟨rfl, c8⟩⟩)⟩)⟩⟩
      rw [eDf, eCf, eC] at hr3
      obtain ⟨K2, hK2, h480, h9⟩ := way_cases hp hd hcf hM hl hr3
      rcases h9 with ⟨-, k, hk, ek, er3, -⟩ | ⟨-, er3⟩
      · rw [er3] at c
        have h1 := near hK2 hg hk ek
        exact absurd (show nI (wt (wout (fO p (D f) M) ng (C f) K2) k) ≤ nI 1 from nI_le h1 (by omega)) (Int32.not_le.mpr c)
      · rw [er3] at c
        exact absurd c (by decide)
    · obtain ⟨rfl, c9⟩ := hv
      rw [nI_1] at e31
      subst e31
      exact hK _ _ _ _ _ _ _ _ _ _ hal c9
set_option maxHeartbeats 4000000 in
theorem b742 {f b z : Nat} {a5 a6 a8 a9 : Int32} (hK : KG K) (hal : al ≤ 4) (hC : CI al p ng M nf D C u) (hf : f < nf) (hb' : b < nf) (hz : z < 2 ^ 27) : f_L_law_B742 al (nI p) (nI nf) (nI ng) a5 a6 1 a8 a9 (nI z) (nI f) (nI b) K u := by
  have hp := hC.1.2
  have hb := isP_b hp
  have hp0 : 0 < p := by omega
  have h4 := hC.2.2.1.1
  have h20 := hC.2.2.2.2.1.1
  obtain ⟨⟨hd1, hd⟩, hcf, hc31⟩ := hC.f hf
  obtain ⟨⟨hb1, hbd⟩, hcb, hb31⟩ := hC.f hb'
  unfold f_L_law_B742
  refine ⟨fun _ => hK _ _ _ _ _ _ _ _ _ _ hal hC, fun hg0 => ⟨fun _ => hK _ _ _ _ _ _ _ _ _ _ hal hC, fun hlt => fI0 hC hf (fun u1 c1 => fI0 c1 hb' (fun u2 c2 => ⟨fun _ => hK _ _ _ _ _ _ _ _ _ _ hal c2, fun eDD => ?_⟩))⟩⟩
  have h0 : 0 < ng := Nat.pos_of_ne_zero (fun e => hg0 (by rw [e]; decide))
  have hD : D f = D b := (nI_eq (by omega) (by omega)).mp eDD
  rw [← hD] at hcb
  refine ⟨nI_ne0 h0 (by omega), fun v26 e26 => ?_⟩
  rw [sh11 (by omega), pk_rem (by omega) h0 (by omega)] at e26
  obtain ⟨g, hg, eg⟩ : ∃ g, g < ng ∧ z / 2048 % ng = g := ⟨_, Nat.mod_lt _ h0, rfl⟩
  rw [eg] at e26
  subst e26
  refine fI0 c2 hf (fun u3 c3 => fI1 c3 hf (fun u4 c4 => fI1 c4 hb' (fun u5 c5 => lplus_ok hp (by omega) (by omega) ?_)))
  refine askForm c5 hd1 hd (tot_ltd hp0 hd hcf hcb) (fun h v hv => ?_) (fun h => absurd (show (20 : Int32) ≤ nI nf by rw [show nf = 20 by omega]; decide) hlt)
  have eD := nxt_n D nf (D f)
  have eC := nxt_n C nf (tot p (C f) (C b))
  have eDf := nxt_o D (D f) hf
  have eCf := nxt_o C (tot p (C f) (C b)) hf
  have eDb := nxt_o D (D f) hb'
  have eCb := nxt_o C (tot p (C f) (C b)) hb'
  refine ⟨fun v s => v = 1 ∧ CI al p ng M (nf + 1) (nxt D nf (D f)) (nxt C nf (tot p (C f) (C b))) s, ⟨fun c => absurd rfl c, fun _ => ?_⟩, fun v37 u39 hv v40 e40 => ?_⟩
  · refine askChanged hv (f := nf) (by omega) hg (askChanged hv (f := f) (by omega) hg (askChanged hv (f := b) (by omega) hg ?_))
    rw [eD, eC, eDf, eCf, eDb, eCb, ← hD]
    have l1 := act_lt (p := p) (m := M g) (n := D f) (c := C f) hp hd
    have l2 := act_lt (p := p) (m := M g) (n := D f) (c := C b) hp hd
    have hpw := pow_b hp (show D f + 1 ≤ 5 by omega)
    refine lplus_ok hp (by omega) (by omega) ⟨fun c => absurd (by rw [act_tot hp hd]) c, fun _ => ⟨rfl, hv⟩⟩
  · obtain ⟨rfl, c9⟩ := hv
    rw [nI_1] at e40
    subst e40
    exact hK _ _ _ _ _ _ _ _ _ _ hal c9
theorem b871 {f b z : Nat} {a5 a6 a7 a8 a9 : Int32} (hK : KG K) (hal : al ≤ 4) (hC : CI al p ng M nf D C u) (hf : f < nf) (hb' : b < nf) (hz : z < 2 ^ 27) : f_L_law_B871 al (nI p) (nI nf) (nI ng) a5 a6 a7 a8 a9 (nI z) (nI f) (nI b) K u := by
  have hp := hC.1.2
  have hb := isP_b hp
  obtain ⟨⟨hd1, hd⟩, hcf, hc31⟩ := hC.f hf
  obtain ⟨⟨hb1, hbd⟩, hcb, hb31⟩ := hC.f hb'
  unfold f_L_law_B871
  intro v19 e19
  rw [sh11 (by omega), rem_lit (M := 5) (m := 5) rfl (by omega) (by omega) (by omega)] at e19
  obtain ⟨k, hk, ek⟩ : ∃ k, k < 5 ∧ z / 2048 % 5 = k := ⟨_, by omega, rfl⟩
  rw [ek] at e19
  subst e19
  refine askTrans hC hf hb' hk (fun k1 k2 k3 k4 v cv => ?_) (fun hn => ?_)
  · refine askTrans cv hb' hf hk (fun j1 j2 j3 j4 w cw => ?_) (fun hn => absurd ⟨k2, k1, by omega, by omega⟩ hn)
    have l1 := trC_lt5 hp (k := k) (F := dg p (C f)) (G := dg p (C b)) k4
    have l2 := trC_lt5 hp (k := k) (F := dg p (C b)) (G := dg p (C f)) j4
    have hpw := pow_b hp (show 5 ≤ 5 by omega)
    refine ⟨fun _ v25 e25 => ?_, fun c => absurd (nI_pos' (by omega)) c⟩
    rw [rem_lit (M := 2) (m := 2) rfl (by omega) (by omega) (by omega)] at e25
    subst e25
    refine ⟨fun c => ?_, fun c => ?_⟩
    · have ho : ¬ k % 2 = 0 := fun e => c (by rw [e]; rfl)
      refine lplus_ok hp (by omega) (by omega) ?_
      rw [trC_odd hp (by omega) k4 _ _ ho]
      exact ⟨fun c => absurd rfl c, fun _ => hK _ _ _ _ _ _ _ _ _ _ hal cw⟩
    · have he : k % 2 = 0 := (nI_z (by omega)).mp c
      exact ⟨fun c => absurd (by rw [trC_even hp (by omega) k4 _ _ he]) c, fun _ => hK _ _ _ _ _ _ _ _ _ _ hal cw⟩
  · refine askTrans hC hb' hf hk (fun j1 j2 j3 j4 w cw => absurd ⟨j2, j1, by omega, by omega⟩ hn) (fun hn2 => ?_)
    exact ⟨fun c => absurd c (by decide), fun _ => ⟨False, ⟨fun c => absurd rfl c, fun _ => ⟨fun c => absurd rfl c, fun _ => hK _ _ _ _ _ _ _ _ _ _ hal hC⟩⟩, fun h => h.elim⟩⟩
theorem b983 {f b : Nat} {a5 a6 a7 a8 a9 : Int32} (hK : KG K) (hal : al ≤ 4) (hC : CI al p ng M nf D C u) (hf : f < nf) (hb' : b < nf) : f_L_law_B983 al (nI p) (nI nf) (nI ng) a5 a6 a7 a8 a9 (nI f) (nI b) K u := by
  obtain ⟨⟨hd1, hd⟩, hcf, hc31⟩ := hC.f hf
  obtain ⟨⟨hb1, hbd⟩, hcb, hb31⟩ := hC.f hb'
  unfold f_L_law_B983
  intro v19 e19
  refine ⟨fun s => CI al p ng M nf D C s, ⟨fun _ => hC, fun _ => fI0 hC hf (fun u1 c1 => fI0 c1 hb' (fun u2 c2 => ⟨fun _ => False, ⟨fun c => ?_, fun c => ?_⟩, fun _ h => h.elim⟩))⟩, fun v hv => hK _ _ _ _ _ _ _ _ _ _ hal hv⟩
  · exact askWayNo c2 hf hb' (fun e => c (by rw [e])) ⟨fun c => absurd rfl c, fun _ => c2⟩
  · exact isWay_ok c2 hf hb' ((nI_eq (by omega) (by omega)).mp c) (fun v hv => ⟨fun c => absurd c (by decide), fun _ => hv⟩)
set_option maxHeartbeats 4000000 in
theorem b1058 {f : Nat} {a5 a6 a8 a9 : Int32} (hK : KG K) (hal : al ≤ 4) (hC : CI al p ng M nf D C u) (hf : f < nf) : f_L_law_B1058 al (nI p) (nI nf) (nI ng) a5 a6 1 a8 a9 (nI f) K u := by
  have hp := hC.1.2
  have hb := isP_b hp
  have hM := hC.2.1
  have h20 := hC.2.2.2.2.1.1
  obtain ⟨⟨hd1, hd⟩, hcf, hc31⟩ := hC.f hf
  have hpw := pow_b hp (show D f + 1 ≤ 5 by omega)
  unfold f_L_law_B1058
  intro v19 e19
  refine ⟨fun r s => CI al p ng M nf D C s ∧ (r = -1 ∨ ∃ c, r = nI c ∧ c < p ^ (D f + 1) ∧ lvs p ng (D f) M c = true ∧ ∀ l n, GL p ng M l n → inv p n ≠ 0), ⟨fun _ => askAverage hC hf (fun l n K2 v hl hn hK2 hv => ⟨hv, Or.inr ⟨_, rfl, avg_lt hp hd hcf hK2, avg_lvs hp hd hcf hM hl hK2, fun l' n' hl' => ?_⟩⟩) (fun l n hl hn => ⟨hC, Or.inl rfl⟩), fun _ => ⟨hC, Or.inl rfl⟩⟩, fun v20 u22 hv => ?_⟩
  · have e : n' = n := Nat.le_antisymm (GL_size hl' hl) (GL_size hl hl')
    rw [e]; exact hn
  · obtain ⟨c1, hv⟩ := hv
    rcases hv with rfl | ⟨c, rfl, hcl, hlv, hinv⟩
    · exact ⟨fun _ => hK _ _ _ _ _ _ _ _ _ _ hal c1, fun c => absurd (by decide) c⟩
    · refine ⟨fun c => absurd c (nI_pos (by omega)), fun _ => ⟨fun _ => hK _ _ _ _ _ _ _ _ _ _ hal c1, fun hlt => fI0 c1 hf (fun u2 c2 => ?_)⟩⟩
      refine askForm c2 hd1 hd hcl (fun h v hv => ?_) (fun h => absurd (show (20 : Int32) ≤ nI nf by rw [show nf = 20 by omega]; decide) hlt)
      have eD := nxt_n D nf (D f)
      have eC := nxt_n C nf c
      refine ⟨fun v s => v = 1 ∧ CI al p ng M (nf + 1) (nxt D nf (D f)) (nxt C nf c) s, ⟨fun c => absurd rfl c, fun _ => fI4 hv (f := nf) (by omega) (fun u3 c3 => ⟨fun q => ?_, fun _ => ?_⟩)⟩, fun v27 u29 hv v32 e32 => ?_⟩
      · rw [eD, eC, if_pos hlv] at q
        exact absurd rfl q
      · refine askAverage c3 (f := nf) (by omega) (fun l n K2 v2 hl hn hK2 hv2 => ?_) (fun l n hl hn => absurd hn (hinv l n hl))
        rw [eD, eC] at hK2
        rw [eD, eC, avg_own hp hd hcl hlv hn hK2]
        exact ⟨fun q => absurd rfl q, fun _ => ⟨rfl, hv2⟩⟩
      · obtain ⟨rfl, c9⟩ := hv
        rw [nI_1] at e32
        subst e32
        exact hK _ _ _ _ _ _ _ _ _ _ hal c9
theorem ob_ge {p ng d n : Nat} {M l : Nat → Nat} (hp : isP p) (hd : d ≤ 4) (hM : gensOk p ng M) (hl : GL p ng M l n) : fb_ct (lvs p ng d M) (p ^ (d + 1)) ≤ ob p d l n (p ^ (d + 1)) := by
  unfold ob
  refine fb_ct_sub (fun c hc hlv => isL_iff.mpr (fun i hi => ?_))
  obtain ⟨K2, hK2⟩ := O_stop hp hd hc hM
  have h1 := (lvs_stop hK2).mp hlv
  subst h1
  obtain ⟨k, hk, e⟩ := (O_OE hp hd hc hM hK2 hl).2.2 i hi
  have : k = 0 := by omega
  subst this
  rw [← e, WI_q0 (wout_WI (fO p d M) ng c 1)]
  exact Nat.le_refl _
theorem b1156 {z : Nat} {a5 a6 a7 a8 a9 : Int32} (hK : KG K) (hal : al ≤ 4) (hC : CI al p ng M nf D C u) (hz : z < 2 ^ 27) : f_L_law_B1156 al (nI p) (nI nf) (nI ng) a5 a6 a7 a8 a9 (nI z) K u := by
  have hp := hC.1.2
  have hb := isP_b hp
  have hM := hC.2.1
  unfold f_L_law_B1156
  intro v19 e19 v20 e20 v21 e21
  rw [sh9 (by omega), rem_lit (M := 4) (m := 4) rfl (by omega) (by omega) (by omega)] at e20
  rw [e20, show (1 : Int32) = nI 1 from rfl, nI_add] at e21
  obtain ⟨d, hd1, hd, ed⟩ : ∃ d, 1 ≤ d ∧ d ≤ 4 ∧ 1 + z / 512 % 4 = d := ⟨_, by omega, by omega, rfl⟩
  rw [ed] at e21
  subst e21
  have hpw := pow_b hp (show d + 1 ≤ 5 by omega)
  have hno : ¬ ¬ ∃ d', 1 ≤ d' ∧ d' ≤ 4 ∧ nI d = nI d' := fun q => q ⟨d, hd1, hd, rfl⟩
  have one : ∀ d', 1 ≤ d' → d' ≤ 4 → nI d = nI d' → d' = d := fun d' _ h2 e => one_n (N := 6) (by omega) (show d < 6 by omega) (show d' < 6 by omega) e
  refine ⟨fun s => CI al p ng M nf D C s, ⟨fun _ => hC, fun _ => dimension_ok hC (fun d' r1 v1 h1 h2 e1 hr1 c1 => ?_) (fun q => hno q)⟩, fun v hv => hK _ _ _ _ _ _ _ _ _ _ hal hv⟩
  have := one d' h1 h2 e1
  subst this
  refine dimAnew_ok c1 (fun d2 r2 v2 h3 h4 e2 hr2 c2 => ?_) (fun q => hno q)
  have := one d2 h3 h4 e2
  subst this
  have er : r1 = r2 := pow_one hp (hr1.trans hr2.symm)
  refine ⟨fun _ => False, ⟨fun c => absurd (by rw [er]) c, fun _ => orbits_ok c2 (fun d3 l3 n3 v3 h5 h6 e3 hl3 c3 => ?_) (fun q => hno q)⟩, fun _ h => h.elim⟩
  have := one d3 h5 h6 e3
  subst this
  refine orbitsAnew_ok c3 (fun d4 l4 n4 v4 h7 h8 e4 hl4 c4 => ?_) (fun q => hno q)
  have := one d4 h7 h8 e4
  subst this
  refine ⟨fun c => absurd (by rw [ob_one hl3 hl4]) c, fun _ => orbits_ok c4 (fun d5 l5 n5 v5 h9 h10 e5 hl5 c5 => ?_) (fun q => hno q)⟩
  have := one d5 h9 h10 e5
  subst this
  refine dimension_ok c5 (fun d6 r6 v6 h11 h12 e6 hr6 c6 => ?_) (fun q => hno q)
  have := one d6 h11 h12 e6
  subst this
  have hge := ob_ge hp h12 hM hl5
  have hle := ob_le p d6 l5 n5 (p ^ (d6 + 1))
  rw [← hr6] at hge
  have hr6b : r6 < 1000000 := by
    have h13 : 2 ^ r6 ≤ p ^ r6 := Nat.pow_le_pow_left (by omega) r6
    have h14 : r6 < 2 ^ r6 := Nat.lt_two_pow_self
    omega
  refine lpow_ok hr6b ⟨fun c => ?_, fun _ => c6⟩
  exact absurd c (nI_nlt hge (by omega))
theorem b1236 {f : Nat} {a5 a6 a7 a8 a9 : Int32} (hK : KG K) (hal : al ≤ 4) (hC : CI al p ng M nf D C u) (hf : f < nf) : f_L_law_B1236 al (nI p) (nI nf) (nI ng) a5 a6 a7 a8 a9 (nI f) K u := by
  have hp := hC.1.2
  have hM := hC.2.1
  obtain ⟨⟨hd1, hd⟩, hcf, hc31⟩ := hC.f hf
  obtain ⟨l0, n0, hl0, hn480, -⟩ := hC.2.2.2.2.2.2
  unfold f_L_law_B1236
  intro v19 e19
  refine ⟨fun s => CI al p ng M nf D C s, ⟨fun _ => hC, fun _ => order_ok hC (fun l n hl => fI5 hC hf (fun K2 v hK2 cv => ?_))⟩, fun v hv => hK _ _ _ _ _ _ _ _ _ _ hal hv⟩
  have hm := stop_m hK2
  have h1 : 0 < K2 := by have := (wout_WI (fO p (D f) M) ng (C f) K2).1; omega
  have h480 : K2 ≤ 480 := by
    have := O_480 hp hd hcf hM (wout_WI (fO p (D f) M) ng (C f) K2)
    omega
  have hn : n ≤ 480 := by have := GL_size hl hl0; omega
  have hst := orb_stab hp hd hl hcf (O_OE hp hd hcf hM hK2 hl)
  refine ⟨nI_ne0 h1 (by omega), fun v27 e27 => ?_⟩
  rw [pk_rem (by omega) h1 (by omega)] at e27
  have e0 : n % K2 = 0 := by rw [hst]; exact Nat.mul_mod_left _ _
  rw [e0] at e27
  subst e27
  exact ⟨fun c => absurd rfl c, fun _ => cv⟩
theorem b735 {f b z : Nat} {a5 a6 a8 a9 a12 : Int32} (hK : KG K) (hal : al ≤ 4) (hC : CI al p ng M nf D C u) (hf : f < nf) (hb' : b < nf) (hz : z < 2 ^ 27) : f_L_law_B735 al (nI p) (nI nf) (nI ng) a5 a6 1 a8 a9 (nI z) a12 (nI f) (nI b) K u := by
  unfold f_L_law_B735
  exact ⟨fun _ => ⟨fun _ => ⟨fun _ => ⟨fun _ => ⟨fun _ => b1236 hK hal hC hf, fun _ => b1156 hK hal hC hz⟩, fun _ => b1058 hK hal hC hf⟩, fun _ => b983 hK hal hC hf hb'⟩, fun _ => b871 hK hal hC hf hb' hz⟩, fun _ => b742 hK hal hC hf hb' hz⟩
theorem b447 {f b z : Nat} {a5 a6 a8 a9 a12 : Int32} (hK : KG K) (hal : al ≤ 4) (hC : CI al p ng M nf D C u) (hf : 0 < nf → f < nf) (hb' : 0 < nf → b < nf) (hz : z < 2 ^ 27) : f_L_law_B447 al (nI p) (nI nf) (nI ng) a5 a6 1 a8 a9 (nI z) a12 (nI f) (nI b) K u := by
  have h20 := hC.2.2.2.2.1.1
  unfold f_L_law_B447
  refine ⟨fun hn => ?_, fun h0 => ?_⟩
  · have h1 : 0 < nf := Nat.pos_of_ne_zero (fun e => hn (by rw [e]; rfl))
    exact ⟨fun _ => ⟨fun _ => b735 hK hal hC (hf h1) (hb' h1) hz, fun _ => ⟨fun _ => b735 hK hal hC (hf h1) (hb' h1) hz, fun hg => b546 hK hal hC (hf h1) (Nat.pos_of_ne_zero (fun e => hg (by rw [e]; decide))) hz⟩⟩, fun _ => b495 hK hal hC (hf h1)⟩
  · have h1 : nf = 0 := (nI_z (by omega)).mp h0
    subst h1
    exact b451 hK hal hC
theorem b376 {f b z : Nat} {a5 a6 a8 a9 a12 : Int32} (hK : KG K) (hal : al ≤ 4) (hC : CI al p ng M nf D C u) (hf : 0 < nf → f < nf) (hb' : 0 < nf → b < nf) (hz : z < 2 ^ 27) : f_L_law_B376 al (nI p) (nI nf) (nI ng) a5 a6 1 a8 a9 (nI z) a12 (nI f) (nI b) K u := by
  unfold f_L_law_B376
  refine ⟨fun _ => b447 hK hal hC hf hb' hz, fun _ v12 e12 v13 q1 q2 => ?_⟩
  rw [sh3 (by omega), rem_lit (M := 3) (m := 3) rfl (by omega) (by omega) (by omega)] at e12
  obtain ⟨q, hq, eq⟩ : ∃ q, q < 3 ∧ z / 8 % 3 = q := ⟨_, by omega, rfl⟩
  rw [eq] at e12
  subst e12
  obtain ⟨p', hp', hx⟩ : ∃ p', isP p' ∧ ∀ w : Int32, ((2 : Int32) ≤ nI q → w = 5) → (¬ (2 : Int32) ≤ nI q → w = nI q + 2) → w = nI p' := by
    match q, hq with
    | 0, _ => exact ⟨2, Or.inl rfl, fun w _ h => h (by decide)⟩
    | 1, _ => exact ⟨3, Or.inr (Or.inl rfl), fun w _ h => h (by decide)⟩
    | 2, _ => exact ⟨5, Or.inr (Or.inr rfl), fun w h _ => h (by decide)⟩
  have e13 := hx v13 q1 q2
  subst e13
  refine askPrime hC hp' (fun v hv v17 q3 q4 v19 q5 q6 => ?_)
  rw [hx v19 q5 q6, q4 rfl]
  exact hK al p' 0 0 M D C _ _ v hal (hv M D C)
theorem b79 {a5 a6 a8 a9 a10 : Int32} (hK : KG K) (hal : al ≤ 4) (hC : CI al p ng M nf D C u) : f_L_law_B79 al (nI p) (nI nf) (nI ng) a5 a6 1 a8 a9 a10 K u := by
  have h20 := hC.2.2.2.2.1.1
  unfold f_L_law_B79
  intro v1 e1
  obtain ⟨z, hz, ez⟩ := pk_andE (a10 >>> ((5 : Int32) &&& 31)) (m := 134217727) 27 (by decide)
  rw [ez] at e1
  subst e1
  refine ⟨fun _ => True, ⟨fun _ => trivial, fun _ v16 _ => trivial⟩, fun v2 _ => ⟨fun r => ∃ f, r = nI f ∧ (0 < nf → f < nf), ⟨fun hn => ?_, fun _ => ⟨0, rfl, fun h => h⟩⟩, fun v4 hv4 => ⟨fun r => ∃ f, r = nI f ∧ (0 < nf → f < nf), ⟨fun hn => ?_, fun _ => ⟨0, rfl, fun h => h⟩⟩, fun v6 hv6 => ?_⟩⟩⟩
  · have h1 : 0 < nf := Nat.pos_of_ne_zero (fun e => hn (by rw [e]; rfl))
    refine ⟨hn, fun v14 e14 => ?_⟩
    rw [sh1 (by omega), pk_rem (by omega) h1 (by omega)] at e14
    exact ⟨_, e14, fun _ => Nat.mod_lt _ h1⟩
  · have h1 : 0 < nf := Nat.pos_of_ne_zero (fun e => hn (by rw [e]; rfl))
    refine ⟨hn, fun v14 e14 => ?_⟩
    rw [sh6 (by omega), pk_rem (by omega) h1 (by omega)] at e14
    exact ⟨_, e14, fun _ => Nat.mod_lt _ h1⟩
  · obtain ⟨f, rfl, hf⟩ := hv4
    obtain ⟨b, rfl, hb'⟩ := hv6
    exact ⟨fun _ => ⟨fun _ => ⟨fun _ => b447 hK hal hC hf hb' hz, fun _ => b376 hK hal hC hf hb' hz⟩, fun _ => b228 hK hal hC hz⟩, fun _ => b149 hK hal hC hz⟩
end PO
