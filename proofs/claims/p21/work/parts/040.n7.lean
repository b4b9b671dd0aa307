/-! a walk, nearest first: what is reached, from which place, by which generator, after how many steps -/
abbrev WS := Nat × (Nat → Nat × Nat × Nat × Nat)
def wq (s : WS) (k : Nat) : Nat := (s.2 k).1
def wf (s : WS) (k : Nat) : Nat := (s.2 k).2.1
def wg (s : WS) (k : Nat) : Nat := (s.2 k).2.2.1
def wt (s : WS) (k : Nat) : Nat := (s.2 k).2.2.2
def wm (s : WS) (x : Nat) : Prop := ∃ k, k < s.1 ∧ wq s k = x
def wmB (s : WS) (x : Nat) : Bool := (List.range s.1).any (fun k => wq s k == x)
theorem wmB_iff {s : WS} {x : Nat} : wmB s x = true ↔ wm s x := by
  unfold wmB wm
  simp only [List.any_eq_true, List.mem_range, beq_iff_eq]
theorem wmB_no {s : WS} {x : Nat} (h : ¬ wm s x) : wmB s x = false := by
  cases e : wmB s x with
  | false => rfl
  | true => exact absurd (wmB_iff.mp e) h
def psh (s : WS) (x a g t : Nat) : WS := (s.1 + 1, fun k => if k = s.1 then (x, a, g, t) else s.2 k)
theorem psh_new (s : WS) (x a g t : Nat) : (psh s x a g t).2 s.1 = (x, a, g, t) := if_pos rfl
theorem psh_old (s : WS) (x a g t : Nat) {k : Nat} (h : k < s.1) : (psh s x a g t).2 k = s.2 k := if_neg (by omega)
def wst (f : Nat → Nat → Nat) (s : WS) (a g : Nat) : WS := if wmB s (f g (wq s a)) = true then s else psh s (f g (wq s a)) a g (wt s a + 1)
theorem wst_in {f : Nat → Nat → Nat} {s : WS} {a g : Nat} (h : wm s (f g (wq s a))) : wst f s a g = s := if_pos (wmB_iff.mpr h)
theorem wst_no {f : Nat → Nat → Nat} {s : WS} {a g : Nat} (h : ¬ wm s (f g (wq s a))) : wst f s a g = psh s (f g (wq s a)) a g (wt s a + 1) := if_neg (fun e => h (wmB_iff.mp e))
def win (f : Nat → Nat → Nat) (s : WS) (a : Nat) : Nat → WS
  | 0 => s
  | g + 1 => wst f (win f s a g) a g
def wz (c : Nat) : WS := (1, fun _ => (c, 0, 0, 0))
def wout (f : Nat → Nat → Nat) (ng c : Nat) : Nat → WS
  | 0 => wz c
  | k + 1 => if k < (wout f ng c k).1 then win f (wout f ng c k) k ng else wout f ng c k
def pre (s t : WS) : Prop := s.1 ≤ t.1 ∧ ∀ k, k < s.1 → t.2 k = s.2 k
theorem pre_rf (s : WS) : pre s s := ⟨Nat.le_refl _, fun _ _ => rfl⟩
theorem pre.tr {s t r : WS} (h : pre s t) (h2 : pre t r) : pre s r := ⟨Nat.le_trans h.1 h2.1, fun k hk => (h2.2 k (Nat.lt_of_lt_of_le hk h.1)).trans (h.2 k hk)⟩
theorem pre.kq {s t : WS} (h : pre s t) {k : Nat} (hk : k < s.1) : wq t k = wq s k := by unfold wq; rw [h.2 k hk]
theorem pre.km {s t : WS} (h : pre s t) {x : Nat} (hx : wm s x) : wm t x := by
  obtain ⟨k, hk, e⟩ := hx
  exact ⟨k, Nat.lt_of_lt_of_le hk h.1, by rw [h.kq hk]; exact e⟩
theorem psh_pre (s : WS) (x a g t : Nat) : pre s (psh s x a g t) := ⟨Nat.le_succ _, fun k hk => psh_old s x a g t hk⟩
theorem wst_pre (f : Nat → Nat → Nat) (s : WS) (a g : Nat) : pre s (wst f s a g) := by
  by_cases h : wm s (f g (wq s a))
  · rw [wst_in h]; exact pre_rf s
  · rw [wst_no h]; exact psh_pre _ _ _ _ _
theorem wst_has (f : Nat → Nat → Nat) (s : WS) (a g : Nat) : wm (wst f s a g) (f g (wq s a)) := by
  by_cases h : wm s (f g (wq s a))
  · rw [wst_in h]; exact h
  · rw [wst_no h]; exact ⟨s.1, Nat.lt_succ_self _, by unfold wq; rw [psh_new]⟩
/-- what holds of a walk at each time -/
def WI (f : Nat → Nat → Nat) (ng c : Nat) (s : WS) : Prop :=
  0 < s.1 ∧ s.2 0 = (c, 0, 0, 0) ∧ (∀ k k', k < k' → k' < s.1 → wq s k ≠ wq s k') ∧ ∀ k, 0 < k → k < s.1 → wf s k < k ∧ wg s k < ng ∧ wq s k = f (wg s k) (wq s (wf s k)) ∧ wt s k = wt s (wf s k) + 1
theorem WI_z (f : Nat → Nat → Nat) (ng c : Nat) : WI f ng c (wz c) := by
  refine ⟨Nat.one_pos, rfl, fun k k' h1 h2 => ?_, fun k h1 h2 => ?_⟩
  · have : k' < 1 := h2
    omega
  · have : k < 1 := h2
    omega
theorem WI_psh {f : Nat → Nat → Nat} {ng c a g : Nat} {s : WS} (h : WI f ng c s) (ha : a < s.1) (hg : g < ng) (hx : ¬ wm s (f g (wq s a))) : WI f ng c (psh s (f g (wq s a)) a g (wt s a + 1)) := by
  obtain ⟨h1, h2, h3, h4⟩ := h
  have hold : ∀ k, k < s.1 → (psh s (f g (wq s a)) a g (wt s a + 1)).2 k = s.2 k := fun k hk => psh_old _ _ _ _ _ hk
  have hnew := psh_new s (f g (wq s a)) a g (wt s a + 1)
  have oq : ∀ k, k < s.1 → wq (psh s (f g (wq s a)) a g (wt s a + 1)) k = wq s k := fun k hk => congrArg (·.1) (hold k hk)
  have ot : ∀ k, k < s.1 → wt (psh s (f g (wq s a)) a g (wt s a + 1)) k = wt s k := fun k hk => congrArg (·.2.2.2) (hold k hk)
  have og : ∀ k, k < s.1 → wg (psh s (f g (wq s a)) a g (wt s a + 1)) k = wg s k := fun k hk => congrArg (·.2.2.1) (hold k hk)
  have of_ : ∀ k, k < s.1 → wf (psh s (f g (wq s a)) a g (wt s a + 1)) k = wf s k := fun k hk => congrArg (·.2.1) (hold k hk)
  have nq : wq (psh s (f g (wq s a)) a g (wt s a + 1)) s.1 = f g (wq s a) := congrArg (·.1) hnew
  have nt : wt (psh s (f g (wq s a)) a g (wt s a + 1)) s.1 = wt s a + 1 := congrArg (·.2.2.2) hnew
  have ng' : wg (psh s (f g (wq s a)) a g (wt s a + 1)) s.1 = g := congrArg (·.2.2.1) hnew
  have nf : wf (psh s (f g (wq s a)) a g (wt s a + 1)) s.1 = a := congrArg (·.2.1) hnew
  refine ⟨Nat.succ_pos _, by rw [hold 0 h1]; exact h2, fun k k' hk hk' => ?_, fun k hk hk' => ?_⟩
  · have hk2 : k' < s.1 + 1 := hk'
    rw [oq k (by omega)]
    by_cases e : k' = s.1
    · rw [e, nq]
      exact fun q => hx ⟨k, by omega, q⟩
    · rw [oq k' (by omega)]
      exact h3 k k' hk (by omega)
  · have hk2 : k < s.1 + 1 := hk'
    by_cases e : k = s.1
    · rw [e, nq, nt, ng', nf, oq a ha, ot a ha]
      exact ⟨ha, hg, rfl, rfl⟩
    · obtain ⟨b1, b2, b3, b4⟩ := h4 k hk (by omega)
      rw [oq k (by omega), ot k (by omega), og k (by omega), of_ k (by omega), oq _ (by omega), ot _ (by omega)]
      exact ⟨b1, b2, b3, b4⟩
theorem WI_st {f : Nat → Nat → Nat} {ng c a g : Nat} {s : WS} (h : WI f ng c s) (ha : a < s.1) (hg : g < ng) : WI f ng c (wst f s a g) := by
  by_cases hx : wm s (f g (wq s a))
  · rw [wst_in hx]; exact h
  · rw [wst_no hx]; exact WI_psh h ha hg hx
theorem win_pre (f : Nat → Nat → Nat) (s : WS) (a : Nat) : ∀ g, pre s (win f s a g)
  | 0 => pre_rf s
  | g + 1 => (win_pre f s a g).tr (wst_pre f _ a g)
theorem win_WI {f : Nat → Nat → Nat} {ng c a : Nat} {s : WS} (h : WI f ng c s) (ha : a < s.1) : ∀ g, g ≤ ng → WI f ng c (win f s a g)
  | 0, _ => h
  | g + 1, hg => WI_st (win_WI h ha g (by omega)) (Nat.lt_of_lt_of_le ha (win_pre f s a g).1) (by omega)
theorem win_has (f : Nat → Nat → Nat) (s : WS) (a : Nat) (ha : a < s.1) : ∀ g, ∀ g', g' < g → wm (win f s a g) (f g' (wq s a))
  | 0, g', h => by omega
  | g + 1, g', h => by
    by_cases e : g' = g
    · subst e
      rw [← (win_pre f s a g').kq ha]
      exact wst_has f (win f s a g') a g'
    · exact (wst_pre f _ a g).km (win_has f s a ha g g' (by omega))
theorem wout_WI (f : Nat → Nat → Nat) (ng c : Nat) : ∀ k, WI f ng c (wout f ng c k)
  | 0 => WI_z f ng c
  | k + 1 => by
    unfold wout
    by_cases h : k < (wout f ng c k).1
    · rw [if_pos h]; exact win_WI (wout_WI f ng c k) h ng (Nat.le_refl _)
    · rw [if_neg h]; exact wout_WI f ng c k
theorem wout_s (f : Nat → Nat → Nat) (ng c k : Nat) (h : k < (wout f ng c k).1) : wout f ng c (k + 1) = win f (wout f ng c k) k ng := by
  show (if k < (wout f ng c k).1 then win f (wout f ng c k) k ng else wout f ng c k) = _
  rw [if_pos h]
theorem wout_pre (f : Nat → Nat → Nat) (ng c k : Nat) : pre (wout f ng c k) (wout f ng c (k + 1)) := by
  by_cases h : k < (wout f ng c k).1
  · rw [wout_s f ng c k h]; exact win_pre f _ k ng
  · show pre _ (if k < (wout f ng c k).1 then win f (wout f ng c k) k ng else wout f ng c k)
    rw [if_neg h]; exact pre_rf _
theorem wout_up (f : Nat → Nat → Nat) (ng c k : Nat) : ∀ j, pre (wout f ng c k) (wout f ng c (k + j))
  | 0 => pre_rf _
  | j + 1 => (wout_up f ng c k j).tr (wout_pre f ng c (k + j))
theorem wout_cl (f : Nat → Nat → Nat) (ng c : Nat) : ∀ k a, a < k → a < (wout f ng c k).1 → ∀ g, g < ng → wm (wout f ng c k) (f g (wq (wout f ng c k) a))
  | 0, a, h, _, _, _ => by omega
  | k + 1, a, h, ha, g, hg => by
    by_cases hk : k < (wout f ng c k).1
    · rw [wout_s f ng c k hk] at ha ⊢
      by_cases e : a = k
      · subst e
        rw [(win_pre f _ a ng).kq hk]
        exact win_has f _ a hk ng g hg
      · have ha2 : a < (wout f ng c k).1 := by omega
        rw [(win_pre f _ k ng).kq ha2]
        exact (win_pre f _ k ng).km (wout_cl f ng c k a (by omega) ha2 g hg)
    · have e : wout f ng c (k + 1) = wout f ng c k := by
        show (if k < (wout f ng c k).1 then win f (wout f ng c k) k ng else wout f ng c k) = _
        rw [if_neg hk]
      rw [e] at ha ⊢
      exact wout_cl f ng c k a (by omega) ha g hg
/-- where the walk ends -/
def stopAt (f : Nat → Nat → Nat) (ng c K : Nat) : Prop := (wout f ng c K).1 ≤ K ∧ ∀ k, k < K → k < (wout f ng c k).1
theorem stop_ex {f : Nat → Nat → Nat} {ng c B : Nat} (h : ∀ k, (wout f ng c k).1 ≤ B) : ∃ K, stopAt f ng c K := by
  have : ∀ n, (∃ K, stopAt f ng c K) ∨ ∀ k, k < n → k < (wout f ng c k).1 := by
    intro n
    induction n with
    | zero => exact Or.inr (fun k hk => by omega)
    | succ n ih =>
      rcases ih with ih | ih
      · exact Or.inl ih
      · by_cases hn : n < (wout f ng c n).1
        · refine Or.inr (fun k hk => ?_)
          by_cases e : k = n
          · rw [e]; exact hn
          · exact ih k (by omega)
        · exact Or.inl ⟨n, by omega, ih⟩
  rcases this (B + 1) with h1 | h1
  · exact h1
  · have := h1 B (by omega)
    have := h B
    omega
theorem stop_one {f : Nat → Nat → Nat} {ng c K K' : Nat} (h : stopAt f ng c K) (h' : stopAt f ng c K') : K = K' := by
  rcases Nat.lt_trichotomy K K' with e | e | e
  · have := h'.2 K e
    have := h.1
    omega
  · exact e
  · have := h.2 K' e
    have := h'.1
    omega
theorem stop_m {f : Nat → Nat → Nat} {ng c K : Nat} (h : stopAt f ng c K) : (wout f ng c K).1 = K := by
  have h1 := (wout_WI f ng c K).1
  have h2 := h.1
  have h3 := h.2 (K - 1) (by omega)
  have h4 := (wout_up f ng c (K - 1) 1).1
  rw [show K - 1 + 1 = K by omega] at h4
  omega
theorem stop_cl {f : Nat → Nat → Nat} {ng c K : Nat} (h : stopAt f ng c K) {a g : Nat} (ha : a < K) (hg : g < ng) : wm (wout f ng c K) (f g (wq (wout f ng c K) a)) :=
  wout_cl f ng c K a ha (by rw [stop_m h]; exact ha) g hg
theorem WI_all {f : Nat → Nat → Nat} {ng c : Nat} {s : WS} {S : Nat → Prop} (h : WI f ng c s) (h0 : S c) (h1 : ∀ x, S x → ∀ g, g < ng → S (f g x)) : ∀ k, k < s.1 → S (wq s k) := by
  intro k
  induction k using Nat.strongRecOn with
  | ind k ih =>
    intro hk
    by_cases e : k = 0
    · subst e
      unfold wq
      rw [h.2.1]; exact h0
    · obtain ⟨b1, b2, b3, _⟩ := h.2.2.2 k (by omega) hk
      rw [b3]
      exact h1 _ (ih _ b1 (by omega)) _ b2
theorem WI_t {f : Nat → Nat → Nat} {ng c : Nat} {s : WS} (h : WI f ng c s) : ∀ k, k < s.1 → wt s k ≤ k := by
  intro k
  induction k using Nat.strongRecOn with
  | ind k ih =>
    intro hk
    by_cases e : k = 0
    · subst e
      unfold wt
      rw [h.2.1]; exact Nat.le_refl _
    · obtain ⟨b1, _, _, b4⟩ := h.2.2.2 k (by omega) hk
      have := ih _ b1 (by omega)
      omega
theorem WI_q0 {f : Nat → Nat → Nat} {ng c : Nat} {s : WS} (h : WI f ng c s) : wq s 0 = c := by unfold wq; rw [h.2.1]
/-! the group as a walk -/
def fG (p : Nat) (M : Nat → Nat) (g x : Nat) : Nat := mmul p x (M g)
def gensOk (p ng : Nat) (M : Nat → Nat) : Prop := ∀ g, g < ng → M g < p ^ 4 ∧ det p (M g) ≠ 0
theorem G_all {p ng : Nat} (hp : isP p) {M : Nat → Nat} (hM : gensOk p ng M) {s : WS} (h : WI (fG p M) ng (one p) s) : ∀ k, k < s.1 → wq s k < p ^ 4 ∧ det p (wq s k) ≠ 0 := by
  have hb := isP_b hp
  refine WI_all (S := fun x => x < p ^ 4 ∧ det p x ≠ 0) h ⟨one_lt hp, det_one hp⟩ ?_
  intro x hx g hg
  exact ⟨mmul_lt (by omega) _ _, det_mul hp hx.2 (hM g hg).2⟩
theorem G_480 {p ng : Nat} (hp : isP p) {M : Nat → Nat} (hM : gensOk p ng M) {s : WS} (h : WI (fG p M) ng (one p) s) : s.1 ≤ 480 :=
  dist480 hp (G_all hp hM h) h.2.2.1
theorem G_GL {p ng K : Nat} (hp : isP p) {M : Nat → Nat} (hM : gensOk p ng M) (h : stopAt (fG p M) ng (one p) K) : GL p ng M (wq (wout (fG p M) ng (one p) K)) K := by
  have hw := wout_WI (fG p M) ng (one p) K
  have hm := stop_m h
  refine ⟨WI_q0 hw, by rw [← hm]; exact hw.1, fun i hi => G_all hp hM hw i (by omega), fun i j hij hj => hw.2.2.1 i j hij (by omega), fun i hi g hg => ?_, fun i hi => ?_⟩
  · obtain ⟨k, hk, e⟩ := stop_cl h hi hg
    exact ⟨k, by omega, e⟩
  · refine WI_all (S := Rch p ng M) hw (Rch_one p ng M) (fun x hx g hg => Rch_step hx hg) i (by omega)
/-! an orbit as a walk -/
def fO (p d : Nat) (M : Nat → Nat) (g x : Nat) : Nat := act p (M g) d x
theorem O_all {p ng d c : Nat} (hp : isP p) (hd : d ≤ 4) (hc : c < p ^ (d + 1)) {M : Nat → Nat} (hM : gensOk p ng M) {s : WS} (h : WI (fO p d M) ng c s) : ∀ k, k < s.1 → ∃ y, Rch p ng M y ∧ (y < p ^ 4 ∧ det p y ≠ 0) ∧ wq s k = act p y d c := by
  have hb := isP_b hp
  refine WI_all (S := fun x => ∃ y, Rch p ng M y ∧ (y < p ^ 4 ∧ det p y ≠ 0) ∧ x = act p y d c) h ⟨one p, Rch_one _ _ _, ⟨one_lt hp, det_one hp⟩, (act_one hp hd hc).symm⟩ ?_
  rintro x ⟨y, h1, h2, rfl⟩ g hg
  exact ⟨mmul p y (M g), Rch_step h1 hg, ⟨mmul_lt (by omega) _ _, det_mul hp h2.2 (hM g hg).2⟩, (act_mmul hp hd).symm⟩
theorem O_lt {p ng d c : Nat} (hp : isP p) (hd : d ≤ 4) (hc : c < p ^ (d + 1)) {M : Nat → Nat} {s : WS} (h : WI (fO p d M) ng c s) : ∀ k, k < s.1 → wq s k < p ^ (d + 1) :=
  WI_all (S := fun x => x < p ^ (d + 1)) h hc (fun _ _ _ _ => act_lt hp hd)
theorem O_480 {p ng d c : Nat} (hp : isP p) (hd : d ≤ 4) (hc : c < p ^ (d + 1)) {M : Nat → Nat} (hM : gensOk p ng M) {s : WS} (h : WI (fO p d M) ng c s) : s.1 ≤ 480 := by
  have ha := O_all hp hd hc hM h
  have hf : ∀ k, ∃ y, k < s.1 → (y < p ^ 4 ∧ det p y ≠ 0) ∧ wq s k = act p y d c := fun k => by
    by_cases hk : k < s.1
    · obtain ⟨y, _, h2, h3⟩ := ha k hk
      exact ⟨y, fun _ => ⟨h2, h3⟩⟩
    · exact ⟨0, fun q => absurd q hk⟩
  refine dist480 hp (l := fun k => Classical.choose (hf k)) (fun k hk => (Classical.choose_spec (hf k) hk).1) (fun k k' h1 h2 e => ?_)
  have e1 := (Classical.choose_spec (hf k) (by omega)).2
  have e2 := (Classical.choose_spec (hf k') h2).2
  exact h.2.2.1 k k' h1 h2 (by rw [e1, e2]; exact congrArg (fun y => act p y d c) e)
theorem O_stop {p ng d c : Nat} (hp : isP p) (hd : d ≤ 4) (hc : c < p ^ (d + 1)) {M : Nat → Nat} (hM : gensOk p ng M) : ∃ K, stopAt (fO p d M) ng c K := stop_ex (B := 480) (fun k => O_480 hp hd hc hM (wout_WI _ _ _ k))
theorem G_stop {p ng : Nat} (hp : isP p) {M : Nat → Nat} (hM : gensOk p ng M) : ∃ K, stopAt (fG p M) ng (one p) K := stop_ex (B := 480) (fun k => G_480 hp hM (wout_WI _ _ _ k))
theorem O_OE {p ng d c K n : Nat} (hp : isP p) (hd : d ≤ 4) (hc : c < p ^ (d + 1)) {M l : Nat → Nat} (hM : gensOk p ng M) (h : stopAt (fO p d M) ng c K) (hl : GL p ng M l n) : OE p d l n c (wq (wout (fO p d M) ng c K)) K := by
  have hw := wout_WI (fO p d M) ng c K
  have hm := stop_m h
  refine ⟨fun k k' h1 h2 => hw.2.2.1 k k' h1 (by omega), fun k hk => ?_, fun i hi => ?_⟩
  · obtain ⟨y, h1, _, h3⟩ := O_all hp hd hc hM hw k (by omega)
    obtain ⟨i, hi, e⟩ := GL_mem hl h1
    exact ⟨i, hi, by rw [e]; exact h3⟩
  · refine hl.2.2.2.2.2 i hi (fun y => ∃ k, k < K ∧ wq (wout (fO p d M) ng c K) k = act p y d c) ⟨0, by rw [← hm]; exact hw.1, by rw [WI_q0 hw, act_one hp hd hc]⟩ ?_
    rintro y ⟨k, hk, e⟩ g hg
    obtain ⟨k2, hk2, e2⟩ := stop_cl h hk hg
    exact ⟨k2, by omega, by rw [e2, act_mmul hp hd, ← e]; rfl⟩
