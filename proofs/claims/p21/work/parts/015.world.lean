/-! A state of the class (or of the reference): component 0 holds the whole numbers of the objects, the other components the arrays, by the place of the cell in its world -/
abbrev St : Type := Nat → Nat → Int32
def su (u : St) (k j : Nat) (v : Int32) : St := fun a => if a = k then upd (u a) j v else u a
theorem su_k (u : St) (k j : Nat) (v : Int32) : su u k j v k = upd (u k) j v := by simp [su]
theorem su_n (u : St) {k a : Nat} (j : Nat) (v : Int32) (h : a ≠ k) : su u k j v a = u a := by simp [su, h]
theorem su_kk (u : St) (k j : Nat) (v : Int32) : su u k j v k j = v := by simp [su, upd]
theorem su_kn (u : St) (k : Nat) {j i : Nat} (v : Int32) (h : i ≠ j) : su u k j v k i = u k i := by simp [su, upd, h]
/-- a world by places -/
def wL (L : List Nat) (ad : Nat → Nat) (f : Nat → va_E) : va_W := L.map fun q => (ad q, f q)
theorem wL_ix {L : List Nat} {q : Nat} (h : q ∈ L) : ∃ i : Nat, L[i]? = some q := List.getElem?_of_mem h
theorem wL_get {L : List Nat} {ad : Nat → Nat} {f : Nat → va_E} {i q : Nat} (h : L[i]? = some q) : (wL L ad f)[i]? = some (ad q, f q) := by simp [wL, h]
theorem wL_some {L : List Nat} {ad : Nat → Nat} {f : Nat → va_E} {i : Nat} {x : Nat × va_E} (h : (wL L ad f)[i]? = some x) : ∃ q, L[i]? = some q ∧ x = (ad q, f q) := by
  simp only [wL, List.getElem?_map, Option.map_eq_some_iff] at h
  obtain ⟨q, h1, h2⟩ := h
  exact ⟨q, h1, h2.symm⟩
def NdL (L : List Nat) : Prop := ∀ i j q : Nat, L[i]? = some q → L[j]? = some q → i = j
theorem wL_set {L : List Nat} {ad : Nat → Nat} {f g : Nat → va_E} {i q : Nat} {e : va_E} (hn : NdL L) (h : L[i]? = some q) (hg : ∀ k, (if k = q then e else f k) = g k) : (wL L ad f).set i (ad q, e) = wL L ad g := by
  apply List.ext_getElem?
  intro j
  rw [List.getElem?_set]
  by_cases hj : i = j
  · subst hj
    have hl : i < (wL L ad f).length := by simp only [wL, List.length_map]; exact (List.getElem?_eq_some_iff.mp h).1
    rw [if_pos rfl, if_pos hl, wL_get h]
    have := hg q
    rw [if_pos rfl] at this
    rw [this]
  · rw [if_neg hj]
    simp only [wL, List.getElem?_map]
    cases hx : L[j]? with
    | none => rfl
    | some r =>
      have hr : r ≠ q := fun e2 => hj (hn i j q h (by rw [hx, e2]))
      have := hg r
      rw [if_neg hr] at this
      simp only [Option.map_some, this]
theorem wL_cong {L : List Nat} {ad ad2 : Nat → Nat} {f g : Nat → va_E} (h : ∀ q ∈ L, ad q = ad2 q ∧ f q = g q) : wL L ad f = wL L ad2 g := List.map_congr_left (fun q hq => by rw [(h q hq).1, (h q hq).2])
/-- the places are apart, so are the addresses -/
def WD (L : List Nat) (ad : Nat → Nat) : Prop := NdL L ∧ ∀ q ∈ L, ∀ r ∈ L, ad q = ad r → q = r
/-- what a method may change: its world's cells, and what is made behind sz -/
def cA (L : List Nat) (ad : Nat → Nat) (sz : Nat) : Nat → Prop := fun q => (∃ k ∈ L, q = ad k) ∨ sz ≤ q
theorem cA_mono {L : List Nat} {ad : Nat → Nat} {a b : Nat} (h : a ≤ b) : ∀ q, cA L ad b q → cA L ad a q := fun q hq => hq.elim Or.inl (fun h2 => Or.inr (Nat.le_trans h h2))
theorem cD {L : List Nat} {ad : Nat → Nat} {f : Nat → va_E} {sz : Nat} (h : WD L ad) : va_D (cA L ad sz) (wL L ad f) := by
  refine ⟨fun i j p q hi hj e => ?_, fun k q hk => ?_⟩
  · obtain ⟨a, ha, rfl⟩ := wL_some hi
    obtain ⟨b, hb, rfl⟩ := wL_some hj
    have := h.2 a (List.mem_of_getElem? ha) b (List.mem_of_getElem? hb) e
    subst this
    exact h.1 i j a ha hb
  · obtain ⟨a, ha, rfl⟩ := wL_some hk
    exact Or.inl ⟨a, List.mem_of_getElem? ha, rfl⟩
/-! the class -/
def lenC : Nat → Nat := fun q => match q with
  | 7 => 20
  | 8 => 20
  | 9 => 5
  | 10 => 5
  | 11 => 5
  | 12 => 5
  | 13 => 25
  | 14 => 100
  | 15 => 480
  | 16 => 625
  | 17 => 3125
  | 18 => 480
  | 19 => 480
  | 20 => 480
  | 21 => 480
  | _ => 3900
def cE (cI cG : ClassId) (ad : Nat → Nat) (al : Nat) (s0 sq : Nat → Int32) (q : Nat) : va_E := match q with
  | 0 => .inr (6, [.ref (ad 1), .ref (ad 2), .ref (ad 3), .ref (ad 4), .ref (ad 5), .ref (ad 7), .ref (ad 8), .ref (ad 9), .ref (ad 10), .ref (ad 11), .ref (ad 12), .int (s0 7)])
  | 1 => .inr (2, [.int (s0 0)])
  | 2 => .inr (0, [.ref (ad 1), .ref (ad 13), .int (s0 1)])
  | 3 => .inr (1, [.ref (ad 1), .ref (ad 14), .int (s0 2), .int (s0 3)])
  | 4 => .inr (4, [.ref (ad 1), .ref (ad 6), .ref (ad 15), .ref (ad 16), .int (s0 4), .int (s0 5)])
  | 5 => .inr (5, [.ref (ad 4), .ref (ad 17), .ref (ad 18), .ref (ad 19), .ref (ad 20), .ref (ad 21), .int (s0 6)])
  | 6 => .inl (cG, 4, .inr (.inr (.inr (.inr (fun i => if i < al then some (ad (22 + 2 * i)) else none)))))
  | q + 7 => if q < 15 then .inl (cI, lenC (q + 7), .inl sq) else if q % 2 = 1 then .inr (3, [.ref (ad (q + 8)), .int (s0 (8 + (q - 15) / 2))]) else .inl (cI, 3900, .inl sq)
def cW (cI cG : ClassId) (L : List Nat) (ad : Nat → Nat) (al : Nat) (u : St) : va_W := wL L ad (fun q => cE cI cG ad al (u 0) (u q) q)
/-- an int array's place -/
def isA (k : Nat) : Prop := (7 ≤ k ∧ k < 22) ∨ (22 ≤ k ∧ k % 2 = 1)
theorem cE_arr {cI cG : ClassId} {ad : Nat → Nat} {al : Nat} {s0 sq : Nat → Int32} {k : Nat} (h : isA k) : cE cI cG ad al s0 sq k = .inl (cI, lenC k, .inl sq) := by
  obtain ⟨q, rfl⟩ : ∃ q, k = q + 7 := ⟨k - 7, by rcases h with h | h <;> omega⟩
  rcases h with h | h
  · have h1 : q < 15 := by omega
    simp only [cE, if_pos h1]
  · have h1 : ¬ q < 15 := by omega
    have h2 : ¬ q % 2 = 1 := by omega
    simp only [cE, if_neg h1, if_neg h2]
    have : lenC (q + 7) = 3900 := by
      unfold lenC
      split <;> first | omega | rfl
    rw [this]
theorem cE_gen {cI cG : ClassId} {ad : Nat → Nat} {al : Nat} {s0 sq : Nat → Int32} (g : Nat) : cE cI cG ad al s0 sq (22 + 2 * g) = .inr (3, [.ref (ad (23 + 2 * g)), .int (s0 (8 + g))]) := by
  have e : 22 + 2 * g = (15 + 2 * g) + 7 := by omega
  have h1 : ¬ 15 + 2 * g < 15 := by omega
  have h2 : (15 + 2 * g) % 2 = 1 := by omega
  rw [e]
  simp only [cE, if_neg h1, if_pos h2]
  have e2 : 15 + 2 * g + 8 = 23 + 2 * g := by omega
  have e3 : (15 + 2 * g - 15) / 2 = g := by omega
  rw [e2, e3]
section CG
variable {cI cG : ClassId} {L : List Nat} {ad : Nat → Nat} {al : Nat} {u : St} {i : Nat}
theorem cg_0 (h : L[i]? = some 0) : (cW cI cG L ad al u)[i]? = some (ad 0, .inr (6, [.ref (ad 1), .ref (ad 2), .ref (ad 3), .ref (ad 4), .ref (ad 5), .ref (ad 7), .ref (ad 8), .ref (ad 9), .ref (ad 10), .ref (ad 11), .ref (ad 12), .int (u 0 7)])) := wL_get h
theorem cg_1 (h : L[i]? = some 1) : (cW cI cG L ad al u)[i]? = some (ad 1, .inr (2, [.int (u 0 0)])) := wL_get h
theorem cg_2 (h : L[i]? = some 2) : (cW cI cG L ad al u)[i]? = some (ad 2, .inr (0, [.ref (ad 1), .ref (ad 13), .int (u 0 1)])) := wL_get h
theorem cg_3 (h : L[i]? = some 3) : (cW cI cG L ad al u)[i]? = some (ad 3, .inr (1, [.ref (ad 1), .ref (ad 14), .int (u 0 2), .int (u 0 3)])) := wL_get h
theorem cg_4 (h : L[i]? = some 4) : (cW cI cG L ad al u)[i]? = some (ad 4, .inr (4, [.ref (ad 1), .ref (ad 6), .ref (ad 15), .ref (ad 16), .int (u 0 4), .int (u 0 5)])) := wL_get h
theorem cg_5 (h : L[i]? = some 5) : (cW cI cG L ad al u)[i]? = some (ad 5, .inr (5, [.ref (ad 4), .ref (ad 17), .ref (ad 18), .ref (ad 19), .ref (ad 20), .ref (ad 21), .int (u 0 6)])) := wL_get h
theorem cg_6 (h : L[i]? = some 6) : (cW cI cG L ad al u)[i]? = some (ad 6, .inl (cG, 4, .inr (.inr (.inr (.inr (fun i => if i < al then some (ad (22 + 2 * i)) else none)))))) := wL_get h
theorem cg_a {k : Nat} (hk : isA k) (h : L[i]? = some k) : (cW cI cG L ad al u)[i]? = some (ad k, .inl (cI, lenC k, .inl (u k))) := by
  rw [← cE_arr (cG := cG) (ad := ad) (al := al) (s0 := u 0) hk]
  exact wL_get h
theorem cg_g {g : Nat} (h : L[i]? = some (22 + 2 * g)) : (cW cI cG L ad al u)[i]? = some (ad (22 + 2 * g), .inr (3, [.ref (ad (23 + 2 * g)), .int (u 0 (8 + g))])) := by
  rw [← cE_gen (cI := cI) (cG := cG) (al := al) (sq := u (22 + 2 * g)) g]
  exact wL_get h
theorem cE_cong {a b : Nat → Int32} {x y : Nat → Int32} {q : Nat} (h : a = b) (h2 : x = y) : cE cI cG ad al a x q = cE cI cG ad al b y q := by rw [h, h2]
theorem cu_a {D : va_G} {k j : Nat} {v : Int32} {H : Heap} (hw : WD L ad) (hk : isA k) (h : L[i]? = some k) (hP : va_P D vwCl ((cW cI cG L ad al u).set i (ad k, .inl (cI, lenC k, .inl (upd (u k) j v)))) H) : va_P D vwCl (cW cI cG L ad al (su u k j v)) H := by
  have hk0 : (0 : Nat) ≠ k := by rcases hk with q | q <;> omega
  have e : (cW cI cG L ad al u).set i (ad k, .inl (cI, lenC k, .inl (upd (u k) j v))) = cW cI cG L ad al (su u k j v) := by
    refine wL_set hw.1 h (fun q => ?_)
    by_cases hq : q = k
    · subst hq
      rw [if_pos rfl, su_k, su_n _ _ _ hk0, cE_arr hk]
    · rw [if_neg hq, su_n _ _ _ hq, su_n _ _ _ hk0]
  rw [← e]; exact hP
/-- a whole number of an object: only its own cell tells it -/
theorem cu_o {D : va_G} {q0 j : Nat} {v : Int32} {H : Heap} {e : va_E} (hw : WD L ad) (h : L[i]? = some q0) (he : e = cE cI cG ad al (upd (u 0) j v) (u q0) q0) (ho : ∀ q, q ≠ q0 → q ≠ 0 → cE cI cG ad al (u 0) (u q) q = cE cI cG ad al (upd (u 0) j v) (u q) q) (h0 : q0 ≠ 0 → j ≠ 7) (hP : va_P D vwCl ((cW cI cG L ad al u).set i (ad q0, e)) H) : va_P D vwCl (cW cI cG L ad al (su u 0 j v)) H := by
  have e2 : (cW cI cG L ad al u).set i (ad q0, e) = cW cI cG L ad al (su u 0 j v) := by
    refine wL_set hw.1 h (fun q => ?_)
    by_cases hq : q = q0
    · subst hq
      rw [if_pos rfl, su_k, he]
      by_cases h9 : q = 0
      · subst h9; rfl
      · rw [su_n _ _ _ h9]
    · rw [if_neg hq, su_k]
      by_cases h9 : q = 0
      · subst h9
        have hj : ¬ 7 = j := fun h => h0 (fun h => hq h.symm) h.symm
        simp only [cE, upd, if_neg hj]
      · rw [su_n _ _ _ h9]
        exact ho q hq h9
  rw [← e2]; exact hP
theorem cE_o {j : Nat} {v : Int32} {s0 sq : Nat → Int32} {q : Nat} (hj : j < 8) (h0 : q = 0 → j ≠ 7) (h1 : q = 1 → j ≠ 0) (h2 : q = 2 → j ≠ 1) (h3 : q = 3 → j ≠ 2 ∧ j ≠ 3) (h4 : q = 4 → j ≠ 4 ∧ j ≠ 5) (h5 : q = 5 → j ≠ 6) : cE cI cG ad al s0 sq q = cE cI cG ad al (upd s0 j v) sq q := by
  match q with
  | 0 => have := Ne.symm (h0 rfl); simp only [cE, upd, if_neg this]
  | 1 => have := Ne.symm (h1 rfl); simp only [cE, upd, if_neg this]
  | 2 => have := Ne.symm (h2 rfl); simp only [cE, upd, if_neg this]
  | 3 => have a := Ne.symm (h3 rfl).1; have b := Ne.symm (h3 rfl).2; simp only [cE, upd, if_neg a, if_neg b]
  | 4 => have a := Ne.symm (h4 rfl).1; have b := Ne.symm (h4 rfl).2; simp only [cE, upd, if_neg a, if_neg b]
  | 5 => have := Ne.symm (h5 rfl); simp only [cE, upd, if_neg this]
  | 6 => rfl
  | q + 7 =>
    have hne : ¬ 8 + (q - 15) / 2 = j := by omega
    simp only [cE, upd, if_neg hne]
theorem cu_p {D : va_G} {v : Int32} {H : Heap} (hw : WD L ad) (h : L[i]? = some 1) (hP : va_P D vwCl ((cW cI cG L ad al u).set i (ad 1, .inr (2, ([.int (u 0 0)] : List Value).set 0 (.int v)))) H) : va_P D vwCl (cW cI cG L ad al (su u 0 0 v)) H :=
  cu_o hw h (by simp [cE, upd]) (fun q a b => cE_o (by decide) (by omega) (by omega) (by omega) (by omega) (by omega) (by omega)) (by omega) hP
theorem cu_cdeg {D : va_G} {v : Int32} {H : Heap} (hw : WD L ad) (h : L[i]? = some 2) (hP : va_P D vwCl ((cW cI cG L ad al u).set i (ad 2, .inr (0, ([.ref (ad 1), .ref (ad 13), .int (u 0 1)] : List Value).set 2 (.int v)))) H) : va_P D vwCl (cW cI cG L ad al (su u 0 1 v)) H :=
  cu_o hw h (by simp [cE, upd]) (fun q a b => cE_o (by decide) (by omega) (by omega) (by omega) (by omega) (by omega) (by omega)) (by omega) hP
theorem cu_unk {D : va_G} {v : Int32} {H : Heap} (hw : WD L ad) (h : L[i]? = some 3) (hP : va_P D vwCl ((cW cI cG L ad al u).set i (ad 3, .inr (1, ([.ref (ad 1), .ref (ad 14), .int (u 0 2), .int (u 0 3)] : List Value).set 2 (.int v)))) H) : va_P D vwCl (cW cI cG L ad al (su u 0 2 v)) H :=
  cu_o hw h (by simp [cE, upd]) (fun q a b => cE_o (by decide) (by omega) (by omega) (by omega) (by omega) (by omega) (by omega)) (by omega) hP
theorem cu_ecnt {D : va_G} {v : Int32} {H : Heap} (hw : WD L ad) (h : L[i]? = some 3) (hP : va_P D vwCl ((cW cI cG L ad al u).set i (ad 3, .inr (1, ([.ref (ad 1), .ref (ad 14), .int (u 0 2), .int (u 0 3)] : List Value).set 3 (.int v)))) H) : va_P D vwCl (cW cI cG L ad al (su u 0 3 v)) H :=
  cu_o hw h (by simp [cE, upd]) (fun q a b => cE_o (by decide) (by omega) (by omega) (by omega) (by omega) (by omega) (by omega)) (by omega) hP
theorem cu_gtold {D : va_G} {v : Int32} {H : Heap} (hw : WD L ad) (h : L[i]? = some 4) (hP : va_P D vwCl ((cW cI cG L ad al u).set i (ad 4, .inr (4, ([.ref (ad 1), .ref (ad 6), .ref (ad 15), .ref (ad 16), .int (u 0 4), .int (u 0 5)] : List Value).set 4 (.int v)))) H) : va_P D vwCl (cW cI cG L ad al (su u 0 4 v)) H :=
  cu_o hw h (by simp [cE, upd]) (fun q a b => cE_o (by decide) (by omega) (by omega) (by omega) (by omega) (by omega) (by omega)) (by omega) hP
theorem cu_gsize {D : va_G} {v : Int32} {H : Heap} (hw : WD L ad) (h : L[i]? = some 4) (hP : va_P D vwCl ((cW cI cG L ad al u).set i (ad 4, .inr (4, ([.ref (ad 1), .ref (ad 6), .ref (ad 15), .ref (ad 16), .int (u 0 4), .int (u 0 5)] : List Value).set 5 (.int v)))) H) : va_P D vwCl (cW cI cG L ad al (su u 0 5 v)) H :=
  cu_o hw h (by simp [cE, upd]) (fun q a b => cE_o (by decide) (by omega) (by omega) (by omega) (by omega) (by omega) (by omega)) (by omega) hP
theorem cu_wcnt {D : va_G} {v : Int32} {H : Heap} (hw : WD L ad) (h : L[i]? = some 5) (hP : va_P D vwCl ((cW cI cG L ad al u).set i (ad 5, .inr (5, ([.ref (ad 4), .ref (ad 17), .ref (ad 18), .ref (ad 19), .ref (ad 20), .ref (ad 21), .int (u 0 6)] : List Value).set 6 (.int v)))) H) : va_P D vwCl (cW cI cG L ad al (su u 0 6 v)) H :=
  cu_o hw h (by simp [cE, upd]) (fun q a b => cE_o (by decide) (by omega) (by omega) (by omega) (by omega) (by omega) (by omega)) (by omega) hP
theorem cu_told {D : va_G} {v : Int32} {H : Heap} (hw : WD L ad) (h : L[i]? = some 0) (hP : va_P D vwCl ((cW cI cG L ad al u).set i (ad 0, .inr (6, ([.ref (ad 1), .ref (ad 2), .ref (ad 3), .ref (ad 4), .ref (ad 5), .ref (ad 7), .ref (ad 8), .ref (ad 9), .ref (ad 10), .ref (ad 11), .ref (ad 12), .int (u 0 7)] : List Value).set 11 (.int v)))) H) : va_P D vwCl (cW cI cG L ad al (su u 0 7 v)) H :=
  cu_o hw h (by simp [cE, upd]) (fun q a b => cE_o (by decide) (by omega) (by omega) (by omega) (by omega) (by omega) (by omega)) (by omega) hP
theorem cu_gmat {D : va_G} {g : Nat} {v : Int32} {H : Heap} (hw : WD L ad) (h : L[i]? = some (22 + 2 * g)) (hP : va_P D vwCl ((cW cI cG L ad al u).set i (ad (22 + 2 * g), .inr (3, ([.ref (ad (23 + 2 * g)), .int (u 0 (8 + g))] : List Value).set 1 (.int v)))) H) : va_P D vwCl (cW cI cG L ad al (su u 0 (8 + g) v)) H := by
  refine cu_o hw h ?_ (fun q a b => ?_) (by omega) hP
  · rw [cE_gen]; simp [upd]
  · match q with
    | 1 => have : ¬ 0 = 8 + g := by omega
           simp only [cE, upd, if_neg this]
    | 2 => have : ¬ 1 = 8 + g := by omega
           simp only [cE, upd, if_neg this]
    | 3 => have : ¬ 2 = 8 + g := by omega
           have b : ¬ 3 = 8 + g := by omega
           simp only [cE, upd, if_neg this, if_neg b]
    | 4 => have : ¬ 4 = 8 + g := by omega
           have b : ¬ 5 = 8 + g := by omega
           simp only [cE, upd, if_neg this, if_neg b]
    | 5 => have : ¬ 6 = 8 + g := by omega
           simp only [cE, upd, if_neg this]
    | 6 => rfl
    | q + 7 =>
      simp only [cE]
      by_cases h1 : q < 15
      · rw [if_pos h1, if_pos h1]
      · rw [if_neg h1, if_neg h1]
        by_cases h2 : q % 2 = 1
        · rw [if_pos h2, if_pos h2]
          have hne : ¬ 8 + (q - 15) / 2 = 8 + g := by omega
          simp only [upd, if_neg hne]
        · rw [if_neg h2, if_neg h2]
end CG
/-! what a run takes along: tables, texts, the class's static row, the throwables' statics -/
def nestW : List Cond := [.methodLinkNest RX4 70 ⟨RX6, "read", "([II)I"⟩ RX6, .methodLinkNest RX4 74 ⟨RX6, "write", "([III)V"⟩ RX6, .methodLinkNest RX3 32 ⟨RX6, "read", "([II)I"⟩ RX6, .methodLinkNest RX2 28 ⟨RX6, "write", "([III)V"⟩ RX6, .methodLinkNest RX5 52 ⟨RX6, "read", "([II)I"⟩ RX6, .methodLinkNest RX5 69 ⟨RX6, "write", "([III)V"⟩ RX6, .methodLinkNest RX4 35 ⟨RX3, "<init>", "()V"⟩ RX6, .methodLinkNest RX0 39 ⟨RX6, "write", "([III)V"⟩ RX6, .methodLinkNest RX0 19 ⟨RX6, "read", "([II)I"⟩ RX6, .methodLinkNest RX3 36 ⟨RX6, "write", "([III)V"⟩ RX6, .methodLinkNest RX1 36 ⟨RX6, "write", "([III)V"⟩ RX6, .methodLinkNest RX1 26 ⟨RX6, "read", "([II)I"⟩ RX6, .methodLinkNest RX2 32 ⟨RX6, "read", "([II)I"⟩ RX6]
def strW : List (String × Nat × String) := [(RX6, 75, "the prime is 2, 3 or 5"), (RX6, 100, "no such degree or code"), (RX6, 104, "there are 20 forms"), (RX6, 140, "what is 0 to 6"), (RX6, 145, "x and y are numbers of the field"), (RX6, 159, "no such point"), (RX6, 166, "a, b, c and d are numbers of the field"), (RX6, 168, "the determinant is 0"), (RX6, 171, "there are 4 generators"), (RX6, 180, "no such generator"), (RX6, 220, "no such k"), (RX6, 228, "forms of this degree do not have that value"), (RX6, 243, "a step below 0"), (RX6, 260, "no such form"), (RX6, 262, "the degrees are unlike"), (RX6, 264, "the degree is 1 to 4")]
def stS : Nat → Int32 := fun j => if j = 2 then 25 else if j = 3 then 150 else if j = 4 then 775 else 0
abbrev tyW (cI cG cZ cJ : ClassId) : List (ClassId × FieldType) := [(cI, .int), (cG, .object RX3)]
def stC : Nat → Int32 := fun j => if j = 0 then 1 else if j = 4 then 1 else if j = 5 then 1 else if j = 8 then 1 else if j = 9 then 2 else if j = 10 then 1 else if j = 12 then 1 else if j = 13 then 3 else if j = 14 then 3 else if j = 15 then 1 else 0
def CX (D : va_G) (cI cG cZ cJ : ClassId) (ts : Nat × Nat) (A : Nat → Prop) (U : State) (H : Heap) : Prop :=
  va_K D vwCl (tyW cI cG cZ cJ) U ∧ (∀ w ∈ nestW, va_Nw w U) ∧ (∀ q ∈ strW, ∃ a, vk_R q.1 q.2.1 q.2.2 a U) ∧ vx_Zq Bundle.tN "UNASSIGNED_STACK" Bundle.steD A U H ∧ vx_Zq Bundle.tN "SUPPRESSED_SENTINEL" Bundle.listD A U H ∧ va_Z RX3 "STARTS" "[I" (.ref ts.1) A U H ∧ va_T .int ts.1 5 (fun j => .int (stS j)) A U H ∧ va_Z RX6 "WAYS_TO_CHOOSE" "[I" (.ref ts.2) A U H ∧ va_T .int ts.2 16 (fun j => .int (stC j)) A U H
theorem nestW_kind : ∀ w ∈ nestW, ∃ a i x h, w = .methodLinkNest a i x h := by
  intro w hw
  simp only [nestW, List.mem_cons, List.not_mem_nil, or_false] at hw
  rcases hw with rfl | rfl | rfl | rfl | rfl | rfl | rfl | rfl | rfl | rfl | rfl | rfl | rfl <;> exact ⟨_, _, _, _, rfl⟩
section CXS
variable {D : va_G} {cI cG cZ cJ : ClassId} {ts : Nat × Nat}
/-- at a call: the callee's own start -/
theorem CX.call {A B : Nat → Prop} {s U : State} {H : Heap} {locs : List Loc} (h : CX D cI cG cZ cJ ts A s s.heap) (hS : va_S A s.heap H locs) (hAB : ∀ q, B q → A q) (hU : U.heap = H) (hW : s.WarmedH U.vm) : CX D cI cG cZ cJ ts B U U.heap := by
  obtain ⟨h1, h2, h3, h4, h5, h6, h7, h8, h9⟩ := h
  have kq : ∀ a : Nat, a < s.heap.size → ¬ A a → U.heap[a]? = s.heap[a]? := by rw [hU]; exact hS.2.1
  refine ⟨va_K.moved hW.alike h1, fun w hw => ?_, fun q hq => ?_, ?_, ?_, ?_, ?_, ?_, ?_⟩
  · obtain ⟨a, i, x, h, rfl⟩ := nestW_kind w hw
    exact va_Nw.warmM hW (h2 _ hw)
  · obtain ⟨a, ha⟩ := h3 q hq
    exact ⟨a, vk_R.warm hW ha⟩
  · exact ((h4.kept kq).moved hW.alike).narrow hAB
  · exact ((h5.kept kq).moved hW.alike).narrow hAB
  · exact ((h6.kept kq).moved hW.alike).narrow hAB
  · exact ((h7.kept kq).moved hW.alike).narrow hAB
  · exact ((h8.kept kq).moved hW.alike).narrow hAB
  · exact ((h9.kept kq).moved hW.alike).narrow hAB
theorem CX.blind {A : Nat → Prop} {U : State} {g : JFrame} {mk : MethodId} {a : Array Value} (h : CX D cI cG cZ cJ ts A U U.heap) : CX D cI cG cZ cJ ts A (U.calling g mk a) (U.calling g mk a).heap := by
  obtain ⟨h1, h2, h3, h4, h5, h6, h7, h8, h9⟩ := h
  refine ⟨va_K.moved (u := U) (U := U.calling g mk a) (Vm.Alike.refl U.vm) h1, fun w hw => ?_, fun q hq => ?_, ?_, ?_, ?_, ?_, ?_, ?_⟩
  · obtain ⟨a, i, x, h, rfl⟩ := nestW_kind w hw
    exact va_Nw.same rfl rfl (h2 _ hw)
  · obtain ⟨a, ha⟩ := h3 q hq
    exact ⟨a, vk_R.same rfl ha⟩
  · exact h4.moved (u := U) (Vm.Alike.refl U.vm)
  · exact h5.moved (u := U) (Vm.Alike.refl U.vm)
  · exact h6.moved (u := U) (Vm.Alike.refl U.vm)
  · exact h7.moved (u := U) (Vm.Alike.refl U.vm)
  · exact h8.moved (u := U) (Vm.Alike.refl U.vm)
  · exact h9.moved (u := U) (Vm.Alike.refl U.vm)
end CXS
/-- the start of a method of the class's world -/
def PC (D : va_G) (cI cG cZ cJ : ClassId) (ts : Nat × Nat) (L : List Nat) (ad : Nat → Nat) (al sz : Nat) (u : St) (U : State) : Prop :=
  U.heap.size = sz ∧ va_P D vwCl (cW cI cG L ad al u) U.heap ∧ CX D cI cG cZ cJ ts (cA L ad sz) U U.heap
/-- what stands through a whole walk -/
def FX (own : String) (ws : List Cond) (cc : ByteArray) (nL : Nat) (ret : Option FieldType) (D : va_G) (cI cG cZ cJ : ClassId) (ts : Nat × Nat) (L : List Nat) (ad : Nat → Nat) (p : Program) (s : State) (m : MethodId) (args : Array Value) (meth : Method) (c : Code) : Prop :=
  p.tables.exec = Jvm.exec ∧ c.code = cc ∧ c.maxLocals = nL ∧ s.vm.findClass own = some m.cls ∧ (∀ w ∈ ws, w.before args s = true) ∧ meth.sig.returnType = ret ∧ meth.locks = false ∧ WD L ad ∧ CX D cI cG cZ cJ ts (cA L ad s.heap.size) s s.heap
/-- the places that the group's methods need, and all places -/
def Lg (L : List Nat) (al : Nat) : Prop := 1 ∈ L ∧ 4 ∈ L ∧ 6 ∈ L ∧ 15 ∈ L ∧ 16 ∈ L ∧ ∀ g, g < al → 22 + 2 * g ∈ L ∧ 23 + 2 * g ∈ L
def Lf (L : List Nat) (al : Nat) : Prop := ∀ q, q < 22 + 2 * al → q ∈ L
theorem Lf.g {L : List Nat} {al : Nat} (h : Lf L al) : Lg L al := ⟨h 1 (by omega), h 4 (by omega), h 6 (by omega), h 15 (by omega), h 16 (by omega), fun g hg => ⟨h _ (by omega), h _ (by omega)⟩⟩
