/-! rows of the law's calls: the class's world, the reference's, the long -/
def LJ (s : State) (x0 qo : Nat) (adm : Nat → Nat) (L : List Nat) (ad : Nat → Nat) (al : Nat) : Prop := WD L ad ∧ Lf L al ∧ Lb L al ∧ ad 0 = x0 ∧ ∀ k ∈ L, s.heap.size ≤ ad k ∧ ad k ≠ qo ∧ ∀ j ∈ mLs, ad k ≠ adm j
def LM (s : State) (qo : Nat) (adm : Nat → Nat) : Prop := WD mLs adm ∧ s.heap.size ≤ qo ∧ ∀ j ∈ mLs, s.heap.size ≤ adm j ∧ adm j ≠ qo
theorem cA_AL {s : State} {L : List Nat} {ad : Nat → Nat} (h : ∀ k ∈ L, s.heap.size ≤ ad k) : cA L ad s.heap.size = AL s := by
  funext q
  refine propext ⟨fun g => ?_, fun g => Or.inr g⟩
  rcases g with ⟨k, hk, rfl⟩ | g
  · exact h k hk
  · exact g
theorem cW_kept {D : va_G} {cI cG : ClassId} {L : List Nat} {ad : Nat → Nat} {al : Nat} {u : St} {H H1 : Heap} (h : va_P D vwCl (cW cI cG L ad al u) H) (hq : ∀ k ∈ L, H1[ad k]? = H[ad k]?) : va_P D vwCl (cW cI cG L ad al u) H1 := h.kept (fun k q hk => by
  obtain ⟨a, ha, rfl⟩ := wL_some hk
  exact hq a (List.mem_of_getElem? ha))
theorem mW_kept {D : va_G} {cI cZ : ClassId} {adm : Nat → Nat} {w : St} {H H1 : Heap} (h : va_P D vwCl (mW cI cZ adm w) H) (hq : ∀ k ∈ mLs, H1[adm k]? = H[adm k]?) : va_P D vwCl (mW cI cZ adm w) H1 := h.kept (fun k q hk => by
  obtain ⟨a, ha, rfl⟩ := wL_some hk
  exact hq a (List.mem_of_getElem? ha))
theorem cW_lt {D : va_G} {cI cG : ClassId} {L : List Nat} {ad : Nat → Nat} {al : Nat} {u : St} {H : Heap} (h : va_P D vwCl (cW cI cG L ad al u) H) {k : Nat} (hk : k ∈ L) : ad k < H.size := by
  obtain ⟨i, hi⟩ := wL_ix hk
  exact (h i _ (wL_get hi)).lt
theorem mW_lt {D : va_G} {cI cZ : ClassId} {adm : Nat → Nat} {w : St} {H : Heap} (h : va_P D vwCl (mW cI cZ adm w) H) {k : Nat} (hk : k ∈ mLs) : adm k < H.size := by
  obtain ⟨i, hi⟩ := wL_ix hk
  exact (h i _ (wL_get hi)).lt
/-- what a call of the law's static method ends with -/
def RM (f : (Int32 → St → Prop) → Prop) (k : Int32) (o : Int64) (al : Nat) (u : St) : Prop := al ≤ 4 ∧ ∃ (n : Nat) (r : Int32), k = nI n ∧ n ≤ 2 ∧ (n = 0 → o = r.toInt64) ∧ MK f al n r u
section LWR
variable {p : Program} {l : Launch} {e : Env} {R : Room} {s : State} {m : MethodId} {args : Array Value} {below : List Frame} {meth : Method} {c : Code} {H : Heap} {locs : List Loc} {cells slots mc ms : Nat} {Qf : State → Prop} {D : va_G} {pc : Nat} {ls : Array Slot} {st0 rest : List Value} {a : Array Value} {cI cG cZ cJ : ClassId} {ts : Nat × Nat} {L : List Nat} {ad adm : Nat → Nat} {al x0 qo : Nat} {u w : St} {o : Nat → Int64}
theorem lw_cw {Rr : Int32 → Int64 → Nat → St → Prop} (hr : va_Run p l e R s m args below meth c H locs cells slots mc ms (F0 m pc ls st0) rest (va_Qi (QW L ad H.size Rr) (BW D cI cG cJ qo) (cO L ad qo H.size) a) (cO L ad qo H.size)) (hS : va_S (AL s) s.heap H locs) (hJ : LJ s x0 qo adm L ad al) (hM : LM s qo adm) (hPo : va_P D vwCl (wOu cJ qo o) H) (hPm : va_P D vwCl (mW cI cZ adm w) H)
    (kk : ∀ (k : Int32) (L1 : List Nat) (ad1 : Nat → Nat) (al1 : Nat) (u1 : St) (o1 : Nat → Int64) (H1 : Heap) (locs1 : List Loc), LJ s x0 qo adm L1 ad1 al1 → Rr k (o1 0) al1 u1 → va_P D vwCl (cW cI cG L1 ad1 al1 u1) H1 → va_P D vwCl (wOu cJ qo o1) H1 → va_P D vwCl (mW cI cZ adm w) H1 → va_S (AL s) s.heap H1 locs1 → W p l e R s m args below meth c H1 locs1 (cells + mc) (slots + ms) Qf (F0 m (pc + 3) ls (.int k :: rest))) : W p l e R s m args below meth c H locs cells slots Qf (F0 m pc ls st0) := by
  obtain ⟨hwd, hL, hLb, e0, hd⟩ := hJ
  obtain ⟨hwm, hqs, hm⟩ := hM
  have hAL : ∀ q, cO L ad qo H.size q → AL s q := by
    intro q g
    rcases g with (⟨k, hk, rfl⟩ | g) | rfl
    · exact (hd k hk).1
    · exact Nat.le_trans hS.1 g
    · exact hqs
  have hz0 := hS.1
  have hqlt := wOu_lt hPo
  refine va_calli hr hS (fun q _ g => hAL q g) hAL (fun k z t H1 locs1 ht hvm hq hB hz1 hk1 hS1 => ?_)
  obtain ⟨⟨ad1, L1, al1, u1⟩, o1⟩ := z
  obtain ⟨hXT, hR⟩ := hq
  have hPc1 : va_P D vwCl (cW cI cG L1 ad1 al1 u1) H1 := by rw [← ht]; exact hB.1
  have hPo1 : va_P D vwCl (wOu cJ qo o1) H1 := by rw [← ht]; exact hB.2
  have hPm1 : va_P D vwCl (mW cI cZ adm w) H1 := mW_kept hPm (fun j hj => hk1 _ (mW_lt hPm hj) (fun g => by
    rcases g with (⟨k, hk, e⟩ | g) | g
    · exact (hd k hk).2.2 j hj e.symm
    · exact absurd (mW_lt hPm hj) (Nat.not_lt.mpr g)
    · exact (hm j hj).2 g))
  obtain ⟨x1, x2, x3, x4, x5⟩ := hXT
  refine kk k L1 ad1 al1 u1 o1 H1 locs1 ⟨x1, x2, x3, (x5 0 (by decide)).trans e0, fun k hk => ?_⟩ hR hPc1 hPo1 hPm1 hS1
  have g : cA L ad H.size (ad1 k) := by rw [← x4]; exact Or.inl ⟨k, hk, rfl⟩
  rcases g with ⟨k2, hk2, e⟩ | g
  · rw [e]; exact hd k2 hk2
  · have g : H.size ≤ ad1 k := g
    exact ⟨Nat.le_trans hz0 g, by omega, fun j hj => by have := mW_lt hPm hj; omega⟩
theorem lw_cm {Qp : Int32 → St → Prop} (hr : va_Run p l e R s m args below meth c H locs cells slots 0 0 (F0 m pc ls st0) rest (va_Qi Qp (fun w9 t => va_P D vwCl (mW cI cZ adm w9) t.heap) (cA mLs adm H.size) a) (cA mLs adm H.size)) (hS : va_S (AL s) s.heap H locs) (hJ : LJ s x0 qo adm L ad al) (hM : LM s qo adm) (hPc : va_P D vwCl (cW cI cG L ad al u) H) (hPo : va_P D vwCl (wOu cJ qo o) H)
    (kk : ∀ (r : Int32) (w1 : St) (H1 : Heap) (locs1 : List Loc), Qp r w1 → va_P D vwCl (mW cI cZ adm w1) H1 → va_P D vwCl (cW cI cG L ad al u) H1 → va_P D vwCl (wOu cJ qo o) H1 → va_S (AL s) s.heap H1 locs1 → W p l e R s m args below meth c H1 locs1 cells slots Qf (F0 m (pc + 3) ls (.int r :: rest))) : W p l e R s m args below meth c H locs cells slots Qf (F0 m pc ls st0) := by
  obtain ⟨hwd, hL, hLb, e0, hd⟩ := hJ
  obtain ⟨hwm, hqs, hm⟩ := hM
  have hAL : ∀ q, cA mLs adm H.size q → AL s q := by
    intro q g
    rcases g with ⟨k, hk, rfl⟩ | g
    · exact (hm k hk).1
    · exact Nat.le_trans hS.1 g
  have hqlt := wOu_lt hPo
  refine va_calli hr hS (fun q _ g => hAL q g) hAL (fun r w1 t H1 locs1 ht hvm hq hB hz1 hk1 hS1 => ?_)
  refine kk r w1 H1 locs1 hq (by rw [← ht]; exact hB) (cW_kept hPc (fun k hk => hk1 _ (cW_lt hPc hk) (fun g => ?_))) (wOu_kept hPo (hk1 _ hqlt (fun g => ?_))) hS1
  · rcases g with ⟨j, hj, e⟩ | g
    · exact (hd k hk).2.2 j hj e
    · exact absurd (cW_lt hPc hk) (Nat.not_lt.mpr g)
  · rcases g with ⟨j, hj, e⟩ | g
    · exact (hm j hj).2 e.symm
    · exact absurd hqlt (Nat.not_lt.mpr g)
theorem lw_cc {Qp : Int32 → St → Prop} (hr : va_Run p l e R s m args below meth c H locs cells slots 0 0 (F0 m pc ls st0) rest (va_Qi Qp (fun u9 t => va_P D vwCl (cW cI cG L ad al u9) t.heap) (cA L ad H.size) a) (cA L ad H.size)) (hS : va_S (AL s) s.heap H locs) (hJ : LJ s x0 qo adm L ad al) (hM : LM s qo adm) (hPm : va_P D vwCl (mW cI cZ adm w) H) (hPo : va_P D vwCl (wOu cJ qo o) H)
    (kk : ∀ (r : Int32) (u1 : St) (H1 : Heap) (locs1 : List Loc), Qp r u1 → va_P D vwCl (cW cI cG L ad al u1) H1 → va_P D vwCl (mW cI cZ adm w) H1 → va_P D vwCl (wOu cJ qo o) H1 → va_S (AL s) s.heap H1 locs1 → W p l e R s m args below meth c H1 locs1 cells slots Qf (F0 m (pc + 3) ls (.int r :: rest))) : W p l e R s m args below meth c H locs cells slots Qf (F0 m pc ls st0) := by
  obtain ⟨hwd, hL, hLb, e0, hd⟩ := hJ
  obtain ⟨hwm, hqs, hm⟩ := hM
  have hAL : ∀ q, cA L ad H.size q → AL s q := by
    intro q g
    rcases g with ⟨k, hk, rfl⟩ | g
    · exact (hd k hk).1
    · exact Nat.le_trans hS.1 g
  have hqlt := wOu_lt hPo
  refine va_calli hr hS (fun q _ g => hAL q g) hAL (fun r u1 t H1 locs1 ht hvm hq hB hz1 hk1 hS1 => ?_)
  refine kk r u1 H1 locs1 hq (by rw [← ht]; exact hB) (mW_kept hPm (fun j hj => hk1 _ (mW_lt hPm hj) (fun g => ?_))) (wOu_kept hPo (hk1 _ hqlt (fun g => ?_))) hS1
  · rcases g with ⟨k, hk, e⟩ | g
    · exact (hd k hk).2.2 j hj e.symm
    · exact absurd (mW_lt hPm hj) (Nat.not_lt.mpr g)
  · rcases g with ⟨k, hk, e⟩ | g
    · exact (hd k hk).2.1 e.symm
    · exact absurd hqlt (Nat.not_lt.mpr g)
theorem lw_pw {As : List Value} (hC : CX D cI cG cZ cJ ts (AL s) s s.heap) (hX : XW s) (hN : NCW s) (hS : va_S (AL s) s.heap H locs) (hJ : LJ s x0 qo adm L ad al) (hM : LM s qo adm) (hPc : va_P D vwCl (cW cI cG L ad al u) H) (hPo : va_P D vwCl (wOu cJ qo o) H) : PreS s H (va_Pc As (PW D cI cG cZ cJ ts L ad al H.size u qo o)) As := by
  have hAL : ∀ q, cO L ad qo H.size q → AL s q := by
    intro q g
    rcases g with (⟨k, hk, rfl⟩ | g) | rfl
    · exact (hJ.2.2.2.2 k hk).1
    · exact Nat.le_trans hS.1 g
    · exact hM.2.1
  exact ⟨fun a U g mk q => by obtain ⟨h1, h2, h3, h4, h5, h6, h7⟩ := q; exact ⟨h1, h2, h3, h4, h5.blind, XW.same rfl h6, NCW.moved (u := U) (U := U.calling g mk a) (Vm.Alike.refl U.vm) h7⟩, fun U hU hW => ⟨rfl, by rw [hU], by rw [hU]; exact hPc, by rw [hU]; exact hPo, hC.call hS hAL hU hW, hX.warm hW, hN.moved hW.alike⟩⟩
theorem lw_pm {As : List Value} (hC : CX D cI cG cZ cJ ts (AL s) s s.heap) (hS : va_S (AL s) s.heap H locs) (hM : LM s qo adm) (hPm : va_P D vwCl (mW cI cZ adm w) H) : PreV s H RX7 (adm 0) (va_Pc (.ref (adm 0) :: As) (PM D cI cG cZ cJ ts adm H.size w)) As := by
  have e : cA mLs adm s.heap.size = AL s := cA_AL (fun j hj => (hM.2.2 j hj).1)
  exact pmV (locs := locs) (by rw [e]; exact hC) hPm (by rw [e]; exact hS) (i := 0) mg_0 rfl
theorem lw_pc {As : List Value} (hC : CX D cI cG cZ cJ ts (AL s) s s.heap) (hS : va_S (AL s) s.heap H locs) (hJ : LJ s x0 qo adm L ad al) (hPc : va_P D vwCl (cW cI cG L ad al u) H) : PreV s H RX6 (ad 0) (va_Pc (.ref (ad 0) :: As) (PC D cI cG cZ cJ ts L ad al H.size u)) As := by
  have e : cA L ad s.heap.size = AL s := cA_AL (fun k hk => (hJ.2.2.2.2 k hk).1)
  obtain ⟨i0, hi0⟩ := wL_ix (hJ.2.1 0 (by omega))
  exact pcV (locs := locs) (by rw [e]; exact hC) hPc (by rw [e]; exact hS) (cg_0 hi0) rfl
end LWR
theorem lg_same (x : Int64) : lg_cmp x x = 0 := by simp [lg_cmp]
theorem nI_no0 {n : Nat} (h : n ≤ 2) (e : nI n = 0) : n = 0 := by
  match n, h with
  | 0, _ => rfl
  | 1, _ => exact absurd e (by decide)
  | 2, _ => exact absurd e (by decide)
/-- between two calls of the law -/
def LSt (D : va_G) (cI cG cZ cJ : ClassId) (s : State) (x0 qo : Nat) (adm : Nat → Nat) (H : Heap) : Prop := ∃ (L : List Nat) (ad : Nat → Nat) (al : Nat) (u w : St) (o : Nat → Int64), al ≤ 4 ∧ JJ al u w ∧ LJ s x0 qo adm L ad al ∧ va_P D vwCl (cW cI cG L ad al u) H ∧ va_P D vwCl (mW cI cZ adm w) H ∧ va_P D vwCl (wOu cJ qo o) H
def LW (p : Program) (l : Launch) (e : Env) (s : State) (m : MethodId) (b : Nat) (below : List Frame) (meth : Method) (c : Code) (D : va_G) (cI cG cZ cJ : ClassId) (x0 qo : Nat) (adm : Nat → Nat) (i : Int32) (cells slots pc : Nat) : Prop := ∀ (H : Heap) (locs : List Loc) (ls : Array Slot), LSt D cI cG cZ cJ s x0 qo adm H → va_S (AL s) s.heap H locs → lv_has ls 7 [(0, .ref b), (1, .ref x0), (2, .ref (adm 0)), (3, .ref qo), (4, .int i)] → W p l e room_1 s m #[Value.ref b] below meth c H locs cells slots (lw_Z below #[Value.ref b] s) (F0 m pc ls [])
/-- what stands through the law's walk -/
def LF (p : Program) (l : Launch) (s : State) (m : MethodId) (b Ls : Nat) (xs : Nat → Int32) (meth : Method) (c : Code) (D : va_G) (cI cG cZ cJ : ClassId) (ts : Nat × Nat) (qo : Nat) (adm : Nat → Nat) : Prop := lw_At p s m meth c b Ls xs ∧ l.stackTraces = false ∧ CX D cI cG cZ cJ ts (AL s) s s.heap ∧ XW s ∧ NCW s ∧ LM s qo adm
