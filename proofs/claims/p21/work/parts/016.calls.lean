section CC
variable {p : Program} {l : Launch} {e : Env} {R : Room} {s : State} {m : MethodId} {args : Array Value} {below : List Frame} {meth : Method} {c : Code} {H : Heap} {locs : List Loc} {cells slots : Nat} {Qf : State → Prop} {D : va_G} {pc : Nat} {ls : Array Slot} {st0 rest : List Value} {A A1 : Nat → Prop} {WW : St → va_W} {a : Array Value} {cI cG cZ cJ : ClassId} {ts : Nat × Nat} {L : List Nat} {ad : Nat → Nat} {al : Nat} {u : St}
theorem cc_i {Qp : Int32 → St → Prop} (hr : va_Run p l e R s m args below meth c H locs cells slots 0 0 (F0 m pc ls st0) rest (va_Qi Qp (fun u t => va_P D vwCl (WW u) t.heap) A1 a) A1) (hS : va_S A s.heap H locs) (hA : ∀ q, A1 q → A q)
    (kk : ∀ (r : Int32) (u : St) (H1 : Heap) (locs1 : List Loc), Qp r u → va_P D vwCl (WW u) H1 → va_S A s.heap H1 locs1 → W p l e R s m args below meth c H1 locs1 cells slots Qf (F0 m (pc + 3) ls (.int r :: rest))) : W p l e R s m args below meth c H locs cells slots Qf (F0 m pc ls st0) :=
  va_calli hr hS (fun q _ h => hA q h) hA (fun r u t H1 locs1 ht _ hw hB _ _ hS1 => kk r u H1 locs1 hw (by rw [← ht]; exact hB) hS1)
theorem cc_v {Qp : St → Prop} (hr : va_Run p l e R s m args below meth c H locs cells slots 0 0 (F0 m pc ls st0) rest (va_Qv Qp (fun u t => va_P D vwCl (WW u) t.heap) A1 a) A1) (hS : va_S A s.heap H locs) (hA : ∀ q, A1 q → A q)
    (kk : ∀ (u : St) (H1 : Heap) (locs1 : List Loc), Qp u → va_P D vwCl (WW u) H1 → va_S A s.heap H1 locs1 → W p l e R s m args below meth c H1 locs1 cells slots Qf (F0 m (pc + 3) ls rest)) : W p l e R s m args below meth c H locs cells slots Qf (F0 m pc ls st0) :=
  va_callv hr hS (fun q _ h => hA q h) hA (fun u t H1 locs1 ht _ hw hB _ _ hS1 => kk u H1 locs1 hw (by rw [← ht]; exact hB) hS1)
theorem cc_q {Qp : Option Nat → St → Prop} (hr : va_Run p l e R s m args below meth c H locs cells slots 0 0 (F0 m pc ls st0) rest (va_Qq (fun r u => ∃ o : Option Nat, r = o.map (fun j => ad (22 + 2 * j)) ∧ (∀ j, o = some j → j < al) ∧ Qp o u) (fun u t => va_P D vwCl (WW u) t.heap) A1 a) A1) (hS : va_S A s.heap H locs) (hA : ∀ q, A1 q → A q)
    (kn : ∀ (u : St) (H1 : Heap) (locs1 : List Loc), Qp none u → va_P D vwCl (WW u) H1 → va_S A s.heap H1 locs1 → W p l e R s m args below meth c H1 locs1 cells slots Qf (F0 m (pc + 3) ls (.null :: rest)))
    (kj : ∀ (j : Nat) (u : St) (H1 : Heap) (locs1 : List Loc), j < al → Qp (some j) u → va_P D vwCl (WW u) H1 → va_S A s.heap H1 locs1 → W p l e R s m args below meth c H1 locs1 cells slots Qf (F0 m (pc + 3) ls (.ref (ad (22 + 2 * j)) :: rest))) : W p l e R s m args below meth c H locs cells slots Qf (F0 m pc ls st0) := by
  refine va_callq hr hS (fun q _ h => hA q h) hA (fun r u t H1 locs1 ht _ hw hB _ _ hS1 => ?_)
  obtain ⟨o, rfl, hj, hq⟩ := hw
  rw [ht] at hB
  cases o with
  | none => exact kn u H1 locs1 hq hB hS1
  | some j => exact kj j u H1 locs1 (hj j rfl) hq hB hS1
theorem cx_i {mc ms MC MS : Nat} {Qc : Array Value → State → Outcome → State → Prop} {Qp : Int32 → St → Prop} {QX QX' : String → St → Prop} (hr : vx_Run p l e R s m args below meth c H locs cells slots mc ms (F0 m pc ls st0) rest (va_Qi Qp (fun u t => va_P D vwCl (WW u) t.heap) A1 a) (vx_X (fun _ => True) (fun E u t => QX' E u ∧ va_P D vwCl (WW u) t.heap) A1) A1) (hS : va_S A s.heap H locs) (hA : ∀ q, A1 q → A q)
    (hout : ∀ x ∈ c.exceptionTable.toList, covers x pc = false) (hlocks : meth.locks = false) (hmc : cells + mc ≤ MC) (hms : slots + ms ≤ MS) (hq : ∀ E u, QX' E u → QX E u)
    (kk : ∀ (r : Int32) (u : St) (H1 : Heap) (locs1 : List Loc), Qp r u → va_P D vwCl (WW u) H1 → va_S A s.heap H1 locs1 → W p l e R s m args below meth c H1 locs1 (cells + mc) (slots + ms) (vx_MQ below Qc (vx_X (fun _ => True) (fun E u t => QX E u ∧ va_P D vwCl (WW u) t.heap) A) args s MC MS A) (F0 m (pc + 3) ls (.int r :: rest))) : W p l e R s m args below meth c H locs cells slots (vx_MQ below Qc (vx_X (fun _ => True) (fun E u t => QX E u ∧ va_P D vwCl (WW u) t.heap) A) args s MC MS A) (F0 m pc ls st0) :=
  vx_calli hr hS (fun q _ h => hA q h) hA (fun q _ h => hA q h)
    (fun E ce q9 u t H1 locs1 ht _ _ hB _ _ hS1 hcell hv hcl => vx_out hout hlocks hcell hv hcl (fun t' ht' _ => ⟨u, trivial, ⟨hq E u hB.1, by rw [ht', ← ht]; exact hB.2⟩, hS1.F ht'⟩) hS1.2.2 hmc hms)
    (fun r u t H1 locs1 ht _ hw hB _ _ hS1 => kk r u H1 locs1 hw (by rw [← ht]; exact hB) hS1)
theorem cx_v {mc ms MC MS : Nat} {Qc : Array Value → State → Outcome → State → Prop} {Qp : St → Prop} {QX QX' : String → St → Prop} (hr : vx_Run p l e R s m args below meth c H locs cells slots mc ms (F0 m pc ls st0) rest (va_Qv Qp (fun u t => va_P D vwCl (WW u) t.heap) A1 a) (vx_X (fun _ => True) (fun E u t => QX' E u ∧ va_P D vwCl (WW u) t.heap) A1) A1) (hS : va_S A s.heap H locs) (hA : ∀ q, A1 q → A q)
    (hout : ∀ x ∈ c.exceptionTable.toList, covers x pc = false) (hlocks : meth.locks = false) (hmc : cells + mc ≤ MC) (hms : slots + ms ≤ MS) (hq : ∀ E u, QX' E u → QX E u)
    (kk : ∀ (u : St) (H1 : Heap) (locs1 : List Loc), Qp u → va_P D vwCl (WW u) H1 → va_S A s.heap H1 locs1 → W p l e R s m args below meth c H1 locs1 (cells + mc) (slots + ms) (vx_MQ below Qc (vx_X (fun _ => True) (fun E u t => QX E u ∧ va_P D vwCl (WW u) t.heap) A) args s MC MS A) (F0 m (pc + 3) ls rest)) : W p l e R s m args below meth c H locs cells slots (vx_MQ below Qc (vx_X (fun _ => True) (fun E u t => QX E u ∧ va_P D vwCl (WW u) t.heap) A) args s MC MS A) (F0 m pc ls st0) :=
  vx_callv hr hS (fun q _ h => hA q h) hA (fun q _ h => hA q h)
    (fun E ce q9 u t H1 locs1 ht _ _ hB _ _ hS1 hcell hv hcl => vx_out hout hlocks hcell hv hcl (fun t' ht' _ => ⟨u, trivial, ⟨hq E u hB.1, by rw [ht', ← ht]; exact hB.2⟩, hS1.F ht'⟩) hS1.2.2 hmc hms)
    (fun u t H1 locs1 ht _ hw hB _ _ hS1 => kk u H1 locs1 hw (by rw [← ht]; exact hB) hS1)
theorem pcV {C : String} {T : u_T} {N i ci b : Nat} {fs As : List Value} (hC : CX D cI cG cZ cJ ts (cA L ad s.heap.size) s s.heap) (hP : va_P D vwCl (cW cI cG L ad al u) H) (hS : va_S (cA L ad s.heap.size) s.heap H locs) (he : (cW cI cG L ad al u)[i]? = some (b, .inr (ci, fs))) (hc : vwCl[ci]? = some (C, T, N)) : PreV s H C b (va_Pc (.ref b :: As) (PC D cI cG cZ cJ ts L ad al H.size u)) As :=
  ⟨fun a U g mk q => by obtain ⟨h1, h2, h3, h4⟩ := q; exact ⟨h1, h2, h3, h4.blind⟩, va_recv hC.1 hP hc he, fun U hU hW => ⟨rfl, by rw [hU], by rw [hU]; exact hP, hC.call hS (cA_mono hS.1) hU hW⟩⟩
theorem pcS {As : List Value} (hC : CX D cI cG cZ cJ ts (cA L ad s.heap.size) s s.heap) (hP : va_P D vwCl (cW cI cG L ad al u) H) (hS : va_S (cA L ad s.heap.size) s.heap H locs) : PreS s H (va_Pc As (PC D cI cG cZ cJ ts L ad al H.size u)) As :=
  ⟨fun a U g mk q => by obtain ⟨h1, h2, h3, h4⟩ := q; exact ⟨h1, h2, h3, h4.blind⟩, fun U hU hW => ⟨rfl, by rw [hU], by rw [hU]; exact hP, hC.call hS (cA_mono hS.1) hU hW⟩⟩
theorem vaF_more {t : State} (hS : va_S A s.heap H locs) (hz : H.size ≤ t.heap.size) (hq : ∀ q : Nat, q < H.size → t.heap[q]? = H[q]?) : va_F A s t :=
  ⟨Nat.le_trans hS.1 hz, fun q h1 h2 => (hq q (Nat.lt_of_lt_of_le h1 hS.1)).trans (hS.2.1 q h1 h2)⟩
end CC
theorem zb {r : Int32} (h : r = 0 ∨ r = 1) : narrow .boolean (.int r) = .int r := by rcases h with rfl | rfl <;> rfl
