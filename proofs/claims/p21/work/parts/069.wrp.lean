/-! what the law's static methods share -/
/-- an exception of one kind is none of the other -/
def NCW (U : State) : Prop := va_Nc "java/lang/IllegalStateException" "java/lang/IllegalArgumentException" U ∧ va_Nc "java/lang/IllegalArgumentException" "java/lang/IndexOutOfBoundsException" U ∧ va_Nc "java/lang/IllegalStateException" "java/lang/IndexOutOfBoundsException" U
theorem NCW.moved {u U : State} (hvm : u.vm.Alike U.vm) (h : NCW u) : NCW U := ⟨va_Nc.moved hvm h.1, va_Nc.moved hvm h.2.1, va_Nc.moved hvm h.2.2⟩
def PCN (D : va_G) (cI cG cZ cJ : ClassId) (ts : Nat × Nat) (L : List Nat) (ad : Nat → Nat) (al sz : Nat) (u : St) (U : State) : Prop := PCX D cI cG cZ cJ ts L ad al sz u U ∧ NCW U
section CCN
variable {s : State} {H : Heap} {locs : List Loc} {D : va_G} {cI cG cZ cJ : ClassId} {ts : Nat × Nat} {L : List Nat} {ad : Nat → Nat} {al : Nat} {u : St}
theorem pcSN {As : List Value} (hC : CX D cI cG cZ cJ ts (cA L ad s.heap.size) s s.heap) (hX : XW s) (hN : NCW s) (hP : va_P D vwCl (cW cI cG L ad al u) H) (hS : va_S (cA L ad s.heap.size) s.heap H locs) : PreS s H (va_Pc As (PCN D cI cG cZ cJ ts L ad al H.size u)) As :=
  ⟨fun a U g mk q => by obtain ⟨h1, ⟨⟨h2, h3, h4⟩, h5⟩, h6⟩ := q; exact ⟨h1, ⟨⟨h2, h3, h4.blind⟩, XW.same rfl h5⟩, NCW.moved (u := U) (U := U.calling g mk a) (Vm.Alike.refl U.vm) h6⟩, fun U hU hW => ⟨rfl, ⟨⟨by rw [hU], by rw [hU]; exact hP, hC.call hS (cA_mono hS.1) hU hW⟩, hX.warm hW⟩, hN.moved hW.alike⟩⟩
end CCN
theorem met_ofWH {l : Launch} {y : MethodName} {ws ws' : List Cond} {rm : Room} {Pc : Array Value → State → Prop} {Qc : Array Value → State → Outcome → State → Prop} {mc ms : Nat} {free : Addr → Prop} {cc : ByteArray} {maxL : Nat} {ret : Option FieldType} {hh : List (Nat × Nat × Nat × Nat)}
    (hy : plainName y.cls = true) (hw : ws = Cond.codeWith y cc maxL ret hh :: ws')
    (body : ∀ p e s m args below meth c s₁, BodyLoose p l y (headSpec ws rm) cc maxL ret e s m args below meth c s₁ → c.maxLocals = maxL → Pc args s →
      W p l e (headSpec ws rm).room s m args below meth c s.heap [] 0 0 (MQ below Qc args s mc ms free) (entryFrame m args maxL)) : Met l y ws rm Pc Qc mc ms free := by
  refine MetFree.of_bodyS (code := cc) (maxLocals := maxL) (ret := ret) hy ?_ ?_
  · intro args s m h hn
    obtain ⟨m9, meth, c, hn9, h1, h2, h3, h4, -, h5, h6, -⟩ := Cond.codeWith_spec (atoms_spec (ws := ws) h _ (by rw [hw]; exact List.mem_cons_self))
    cases hn.symm.trans hn9
    exact ⟨meth, c, h1, h2, h3, h4, h5, h6⟩
  · intro p e s m args below meth c s₁ B hml hP _
    have hh0 : s₁.heap = s.heap := by rw [B.state]; rfl
    obtain ⟨t, a1, o, b1, b2, b3⟩ := body p e s m args below meth c s₁ B hml hP s₁ hh0 (Stand.of_body B)
    exact ⟨t, o, a1, b1, b2, ⟨b3.1, b3.2⟩⟩
section CCM
variable {p : Program} {l : Launch} {e : Env} {R : Room} {s : State} {m : MethodId} {args : Array Value} {below : List Frame} {meth : Method} {c : Code} {H : Heap} {locs : List Loc} {cells slots mc ms : Nat} {Qf : State → Prop} {D : va_G} {pc : Nat} {ls : Array Slot} {st0 rest : List Value} {A A1 : Nat → Prop} {a : Array Value} {WW : St → va_W} {cI cG cZ cJ : ClassId} {ts : Nat × Nat} {L : List Nat} {ad : Nat → Nat} {al : Nat} {u : St}
theorem cc_iM {Qp : Int32 → St → Prop} (hr : va_Run p l e R s m args below meth c H locs cells slots mc ms (F0 m pc ls st0) rest (va_Qi Qp (fun u t => va_P D vwCl (WW u) t.heap) A1 a) A1) (hS : va_S A s.heap H locs) (hA : ∀ q, A1 q → A q)
    (kk : ∀ (r : Int32) (u : St) (H1 : Heap) (locs1 : List Loc), Qp r u → va_P D vwCl (WW u) H1 → va_S A s.heap H1 locs1 → W p l e R s m args below meth c H1 locs1 (cells + mc) (slots + ms) Qf (F0 m (pc + 3) ls (.int r :: rest))) : W p l e R s m args below meth c H locs cells slots Qf (F0 m pc ls st0) :=
  va_calli hr hS (fun q _ h => hA q h) hA (fun r u t H1 locs1 ht _ hw hB _ _ hS1 => kk r u H1 locs1 hw (by rw [← ht]; exact hB) hS1)
theorem lw_g {Qg : Nat → Int32 → St → Prop} (hr : va_Run p l e R s m args below meth c H locs cells slots mc ms (F0 m pc ls st0) rest (va_Qi (QY L ad H.size Qg) (BZ D cI cG) (cA L ad H.size) a) (cA L ad H.size)) (hS : va_S (cA L ad s.heap.size) s.heap H locs) (hC : CX D cI cG cZ cJ ts (cA L ad s.heap.size) s s.heap)
    (kk : ∀ (r : Int32) (L9 : List Nat) (ad9 : Nat → Nat) (al9 : Nat) (u9 : St) (H1 : Heap) (locs1 : List Loc), XT L ad s.heap.size L9 ad9 al9 → Qg al9 r u9 → va_P D vwCl (cW cI cG L9 ad9 al9 u9) H1 → va_S (cA L9 ad9 s.heap.size) s.heap H1 locs1 → CX D cI cG cZ cJ ts (cA L9 ad9 s.heap.size) s s.heap → W p l e R s m args below meth c H1 locs1 (cells + mc) (slots + ms) Qf (F0 m (pc + 3) ls (.int r :: rest))) : W p l e R s m args below meth c H locs cells slots Qf (F0 m pc ls st0) := by
  refine va_calli hr hS (fun q _ h => cA_mono hS.1 q h) (cA_mono hS.1) (fun r z t H1 locs1 ht _ hq hB _ _ hS1 => ?_)
  obtain ⟨ad9, L9, al9, u9⟩ := z
  obtain ⟨hXT0, hR⟩ := hq
  have hXT : XT L ad s.heap.size L9 ad9 al9 := XT.mono hS.1 hXT0
  have e9 : cA L9 ad9 s.heap.size = cA L ad s.heap.size := hXT.2.2.2.1
  exact kk r L9 ad9 al9 u9 H1 locs1 hXT hR (by rw [← ht]; exact hB) (by rw [e9]; exact hS1) (by rw [e9]; exact hC)
end CCM
