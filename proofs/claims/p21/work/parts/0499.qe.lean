/-! ways and orbits -/
theorem wt_0 {f : Nat → Nat → Nat} {ng c : Nat} {s : WS} (h : WI f ng c s) {k : Nat} (hk : k < s.1) : wt s k = 0 ↔ k = 0 := by
  constructor
  · intro e
    refine Nat.eq_zero_of_not_pos (fun h0 => ?_)
    have := (h.2.2.2 k h0 hk).2.2.2
    omega
  · intro e
    subst e
    unfold wt
    rw [h.2.1]
theorem wst_t1 {f : Nat → Nat → Nat} {s : WS} {g : Nat} (h0 : 0 < s.1) (ht0 : wt s 0 = 0) (h : ∀ k, k < s.1 → wt s k ≤ 1) : 0 < (wst f s 0 g).1 ∧ wt (wst f s 0 g) 0 = 0 ∧ ∀ k, k < (wst f s 0 g).1 → wt (wst f s 0 g) k ≤ 1 := by
  by_cases q : wm s (f g (wq s 0))
  · rw [wst_in q]; exact ⟨h0, ht0, h⟩
  · rw [wst_no q, ht0]
    have ho : ∀ k, k < s.1 → wt (psh s (f g (wq s 0)) 0 g (0 + 1)) k = wt s k := fun k hk => by unfold wt; rw [psh_old _ _ _ _ _ hk]
    refine ⟨Nat.succ_pos _, by rw [ho 0 h0, ht0], fun k hk => ?_⟩
    have hk : k < s.1 + 1 := hk
    by_cases q2 : k < s.1
    · rw [ho k q2]; exact h k q2
    · have : k = s.1 := by omega
      subst this
      unfold wt
      rw [psh_new]
      exact Nat.le_refl 1
theorem win_t1 {f : Nat → Nat → Nat} {c : Nat} : ∀ g, 0 < (win f (wz c) 0 g).1 ∧ wt (win f (wz c) 0 g) 0 = 0 ∧ ∀ k, k < (win f (wz c) 0 g).1 → wt (win f (wz c) 0 g) k ≤ 1
  | 0 => ⟨Nat.one_pos, rfl, fun _ _ => Nat.zero_le _⟩
  | g + 1 => by
    obtain ⟨h1, h2, h3⟩ := win_t1 (f := f) (c := c) g
    exact wst_t1 h1 h2 h3
/-- what a generator makes of a form is a step away at most -/
theorem near {f : Nat → Nat → Nat} {ng c K g k : Nat} (hK : stopAt f ng c K) (hg : g < ng) (hk : k < K) (e : wq (wout f ng c K) k = f g c) : wt (wout f ng c K) k ≤ 1 := by
  have hW := wout_WI f ng c K
  have hm := stop_m hK
  have hK1 : 1 ≤ K := by omega
  have e1 : wout f ng c 1 = win f (wz c) 0 ng := wout_s f ng c 0 Nat.one_pos
  have hq0 : wq (wz c) 0 = c := rfl
  have hin : wm (wout f ng c 1) (f g c) := by
    have h9 := win_has f (wz c) 0 Nat.one_pos ng g hg
    rw [hq0] at h9
    rw [e1]; exact h9
  have hpre := wout_up f ng c 1 (K - 1)
  rw [show 1 + (K - 1) = K by omega] at hpre
  obtain ⟨j, hj, ej⟩ := hin
  have hjK : j < K := by have := hpre.1; omega
  have e2 : wq (wout f ng c K) j = f g c := by rw [hpre.kq hj, ej]
  have e3 : wt (wout f ng c K) j = wt (wout f ng c 1) j := by unfold wt; rw [hpre.2 j hj]
  have ekj : k = j := by
    rcases Nat.lt_trichotomy k j with q | q | q
    · exact absurd (e.trans e2.symm) (hW.2.2.1 k j q (by omega))
    · exact q
    · exact absurd (e2.trans e.symm) (hW.2.2.1 j k q (by omega))
  subst ekj
  rw [e3]
  have h3 := (win_t1 (f := f) (c := c) ng).2.2
  rw [← e1] at h3
  exact h3 k hj
section WY
variable {p ng d c x K K' n : Nat} {M l : Nat → Nat}
theorem wm_orb (hp : isP p) (hd : d ≤ 4) (hc : c < p ^ (d + 1)) (hM : gensOk p ng M) (hl : GL p ng M l n) (hK : stopAt (fO p d M) ng c K) : wm (wout (fO p d M) ng c K) x ↔ orb p d l n c x := by
  have h := OE_orb (x := x) (O_OE hp hd hc hM hK hl)
  unfold wm
  rw [stop_m hK]
  exact h
theorem lst_orb (hp : isP p) (hd : d ≤ 4) (hc : c < p ^ (d + 1)) (hM : gensOk p ng M) (hl : GL p ng M l n) (hK : stopAt (fO p d M) ng c K) : orb p d l n c (lst (wq (wout (fO p d M) ng c K)) K) ∧ ∀ y, orb p d l n c y → lst (wq (wout (fO p d M) ng c K)) K ≤ y := by
  have hm := stop_m hK
  have h1 : 0 < K := by have := (wout_WI (fO p d M) ng c K).1; omega
  have hO := O_OE hp hd hc hM hK hl
  constructor
  · obtain ⟨i, hi, e⟩ := lst_mem (wq (wout (fO p d M) ng c K)) K h1
    rw [e]
    exact (OE_orb hO).mp ⟨i, hi, rfl⟩
  · intro y hy
    obtain ⟨k, hk, e⟩ := (OE_orb hO).mpr hy
    rw [← e]
    exact lst_le _ _ _ hk
theorem least_same (hp : isP p) (hd : d ≤ 4) (hc : c < p ^ (d + 1)) (hx : x < p ^ (d + 1)) (hM : gensOk p ng M) (hl : GL p ng M l n) (hK : stopAt (fO p d M) ng c K) (hK' : stopAt (fO p d M) ng x K') : lst (wq (wout (fO p d M) ng c K)) K = lst (wq (wout (fO p d M) ng x K')) K' ↔ orb p d l n c x := by
  obtain ⟨a1, a2⟩ := lst_orb hp hd hc hM hl hK
  obtain ⟨b1, b2⟩ := lst_orb hp hd hx hM hl hK'
  constructor
  · intro e
    rw [e] at a1
    exact orb_tr hp hd hl a1 (orb_sy hp hd hl hx b1)
  · intro h
    exact Nat.le_antisymm (a2 _ (orb_tr hp hd hl h b1)) (b2 _ (orb_tr hp hd hl (orb_sy hp hd hl hc h) a1))
theorem least_lt (hp : isP p) (hd : d ≤ 4) (hc : c < p ^ (d + 1)) (hM : gensOk p ng M) (hl : GL p ng M l n) (hK : stopAt (fO p d M) ng c K) : lst (wq (wout (fO p d M) ng c K)) K < p ^ (d + 1) :=
  orb_lt hp hd (lst_orb hp hd hc hM hl hK).1
/-- what a way tells -/
theorem way_cases (hp : isP p) (hd : d ≤ 4) (hc : c < p ^ (d + 1)) (hM : gensOk p ng M) (hl : GL p ng M l n) {r : Int32} (h : wayR p ng M d c x r) : ∃ K, stopAt (fO p d M) ng c K ∧ K ≤ 480 ∧ ((orb p d l n c x ∧ ∃ k, k < K ∧ wq (wout (fO p d M) ng c K) k = x ∧ r = nI (wt (wout (fO p d M) ng c K) k) ∧ wt (wout (fO p d M) ng c K) k ≤ k) ∨ (¬ orb p d l n c x ∧ r = -1)) := by
  obtain ⟨K, hK, h1⟩ := h
  have hm := stop_m hK
  have hW := wout_WI (fO p d M) ng c K
  have h480 := O_480 hp hd hc hM hW
  refine ⟨K, hK, by omega, ?_⟩
  rcases h1 with ⟨k, hk, e, er⟩ | ⟨h2, er⟩
  · exact Or.inl ⟨(wm_orb hp hd hc hM hl hK).mp ⟨k, by omega, e⟩, k, hk, e, er, WI_t hW k (by omega)⟩
  · exact Or.inr ⟨fun q => h2 ((wm_orb hp hd hc hM hl hK).mpr q), er⟩
theorem step_end {st : Nat} {r : Int32} (hK : stopAt (fO p d M) ng c K) (h : stepR p ng M d c x st r) (hst : ∀ k, k < K → wq (wout (fO p d M) ng c K) k = x → ¬ st < wt (wout (fO p d M) ng c K) k) : r = -1 := by
  obtain ⟨K2, hK2, h1⟩ := h
  have := stop_one hK hK2
  subst this
  rcases h1 with ⟨k, hk, e, e2, -⟩ | ⟨-, er⟩
  · exact absurd e2 (hst k hk e)
  · exact er
theorem step_goes {k : Nat} {r : Int32} (hng : ng ≤ 4) (hK : stopAt (fO p d M) ng c K) (hk : k < K) (e : wq (wout (fO p d M) ng c K) k = x) (h1 : 1 ≤ wt (wout (fO p d M) ng c K) k) (h : stepR p ng M d c x (wt (wout (fO p d M) ng c K) k - 1) r) : ¬ r < 0 := by
  obtain ⟨K2, hK2, h2⟩ := h
  have := stop_one hK hK2
  subst this
  have hm := stop_m hK
  have hW := wout_WI (fO p d M) ng c K
  rcases h2 with ⟨k2, hk2, e2, e3, er⟩ | ⟨h3, -⟩
  · have := w_one hK hk hk2 (e.trans e2.symm)
    subst this
    rw [show wt (wout (fO p d M) ng c K) k - 1 - (wt (wout (fO p d M) ng c K) k - 1) = 0 by omega] at er
    rw [er]
    have h0 : 0 < k := Nat.pos_of_ne_zero (fun q => by have := (wt_0 hW (by omega : k < (wout (fO p d M) ng c K).1)).mpr q; omega)
    have hg := (hW.2.2.2 k h0 (by omega)).2.1
    exact nI_pos (show wg (wout (fO p d M) ng c K) k < 2 ^ 31 by omega)
  · exact absurd (by omega) (h3 k hk e)
end WY
