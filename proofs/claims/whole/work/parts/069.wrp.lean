/-! what the law's static methods share: the class's world and the array of one long -/
def wOu (cJ : ClassId) (qo : Nat) (o : Nat → Int64) : va_W := [(qo, .inl (cJ, 1, .inr (.inl o)))]
def cO (L : List Nat) (ad : Nat → Nat) (qo sz : Nat) : Nat → Prop := fun q => cA L ad sz q ∨ q = qo
/-- an exception of one kind is none of the other -/
def NCW (U : State) : Prop := va_Nc "java/lang/IllegalStateException" "java/lang/IllegalArgumentException" U ∧ va_Nc "java/lang/IllegalArgumentException" "java/lang/IndexOutOfBoundsException" U
theorem NCW.moved {u U : State} (hvm : u.vm.Alike U.vm) (h : NCW u) : NCW U := ⟨va_Nc.moved hvm h.1, va_Nc.moved hvm h.2⟩
def PW (D : va_G) (cI cG cZ cJ : ClassId) (ts : Nat × Nat) (L : List Nat) (ad : Nat → Nat) (al sz : Nat) (u : St) (qo : Nat) (o : Nat → Int64) (U : State) : Prop :=
  U.heap.size = sz ∧ va_P D vwCl (cW cI cG L ad al u) U.heap ∧ va_P D vwCl (wOu cJ qo o) U.heap ∧ CX D cI cG cZ cJ ts (cO L ad qo sz) U U.heap ∧ XW U ∧ NCW U
def QW (L : List Nat) (ad : Nat → Nat) (sz : Nat) (R : Int32 → Int64 → Nat → St → Prop) (k : Int32) (z : ZT × (Nat → Int64)) : Prop := XT L ad sz z.1.2.1 z.1.1 z.1.2.2.1 ∧ R k (z.2 0) z.1.2.2.1 z.1.2.2.2
def BW (D : va_G) (cI cG cJ : ClassId) (qo : Nat) (z : ZT × (Nat → Int64)) (t : State) : Prop := BZ D cI cG z.1 t ∧ va_P D vwCl (wOu cJ qo z.2) t.heap
theorem va_S_w {A B : Nat → Prop} {H0 H : Heap} {locs : List Loc} (h : va_S A H0 H locs) (hAB : ∀ q, A q → B q) : va_S B H0 H locs := ⟨h.1, fun q h1 h2 => h.2.1 q h1 (fun g => h2 (hAB q g)), fun l hl => hAB _ (h.2.2 l hl)⟩
theorem wOu_kept {D : va_G} {cJ : ClassId} {qo : Nat} {o : Nat → Int64} {H H1 : Heap} (h : va_P D vwCl (wOu cJ qo o) H) (hq : H1[qo]? = H[qo]?) : va_P D vwCl (wOu cJ qo o) H1 := h.kept (fun k q hk => by
  have hk1 : k < 1 := (List.getElem?_eq_some_iff.mp hk).1
  have hk0 : k = 0 := by omega
  subst hk0
  cases hk
  exact hq)
theorem wOu_lt {D : va_G} {cJ : ClassId} {qo : Nat} {o : Nat → Int64} {H : Heap} (h : va_P D vwCl (wOu cJ qo o) H) : qo < H.size := (h 0 _ rfl).lt
theorem met_ofWH {l : Launch} {y : MethodName} {ws ws' : List Cond} {rm : Room} {Pc : Array Value → State → Prop} {Qc : Array Value → State → Outcome → State → Prop} {mc ms : Nat} {free : Addr → Prop} {cc : ByteArray} {maxL : Nat} {ret : Option FieldType} {hh : List (Nat × Nat × Nat × Nat)}
    (hy : plainName y.cls = true) (hw : ws = Cond.codeWith y cc maxL ret hh :: ws')
    (body : ∀ p e s m args below meth c s₁, BodyLoose p l y (headSpec ws rm) cc maxL ret e s m args below meth c s₁ → c.maxLocals = maxL → Pc args s →
      W p l e (headSpec ws rm).room s m args below meth c s.heap [] 0 0 (MQ below Qc args s mc ms free) (entryFrame m args maxL)) : Met l y ws rm Pc Qc mc ms free := by
  refine MetFree.of_bodyS (code := cc) (maxLocals := maxL) (ret := ret) hy ?_ ?_
  · intro args s m h hn
    obtain ⟨m9, meth, c, hn9, h1, h2, h3, h4, -, h5, h6, -⟩ := Cond.codeWith_spec (atoms_spec (ws := ws) h _ (by rw [hw]; exact List.mem_cons_self))
    cases hn.symm.trans hn9
    exact ⟨meth, c, h1, h2, h3, h4, h5, h6⟩
  · intro p e s m args below meth c s₁ B hml hP _
    have hh0 : s₁.heap = s.heap := by rw [B.state]; rfl
    obtain ⟨t, a1, o, b1, b2, b3⟩ := body p e s m args below meth c s₁ B hml hP s₁ hh0 (Stand.of_body B)
    exact ⟨t, o, a1, b1, b2, ⟨b3.1, b3.2⟩⟩
/-- the long is written, the rest stays -/
theorem out_st {p : Program} {l : Launch} {e : Env} {R : Room} {s : State} {m : MethodId} {args : Array Value} {below : List Frame} {meth : Method} {c : Code} {cc : ByteArray} {H H0 : Heap} {locs : List Loc} {cells slots : Nat} {Q : State → Prop} {D : va_G} {cI cG cZ cJ : ClassId} {Wc : va_W} {pc : Nat} {ls : Array Slot} {rest : List Value} {A : Nat → Prop} {qo : Nat} {o : Nat → Int64} {x : Int64}
    (hx : p.tables.exec = Jvm.exec) (hb : c.code = cc) (hK : va_K D vwCl (tyW cI cG cZ cJ) s) (hPc : va_P D vwCl Wc H) (hPo : va_P D vwCl (wOu cJ qo o) H) (hDc : va_D A Wc) (hA : A qo) (hne : ∀ (k : Nat) (q : Nat × va_E), Wc[k]? = some q → qo ≠ q.1) (hS : va_S A H0 H locs) (hdg : decode cc pc = .ok (.lastore, 1))
    (kk : ∀ (H1 : Heap) (locs1 : List Loc) (o1 : Nat → Int64), o1 0 = x → va_P D vwCl Wc H1 → va_P D vwCl (wOu cJ qo o1) H1 → va_S A H0 H1 locs1 → W p l e R s m args below meth c H1 locs1 cells slots Q (F0 m (pc + 1) ls rest)) : W p l e R s m args below meth c H locs cells slots Q (F0 m pc ls (.long x :: .int 0 :: .ref qo :: rest)) := by
  have one : ∀ (k : Nat) (q : Nat × va_E), (wOu cJ qo o)[k]? = some q → q.1 = qo := by
    intro k q hk
    have hk1 : k < 1 := (List.getElem?_eq_some_iff.mp hk).1
    have hk0 : k = 0 := by omega
    subst hk0
    cases hk
    rfl
  have hP : va_P D vwCl (wOu cJ qo o ++ Wc) H := va_P.app hPo hPc
  have hD : va_D A (wOu cJ qo o ++ Wc) := by
    refine va_D.app ⟨fun i j p q hi hj _ => ?_, fun k q hk => by rw [one k q hk]; exact hA⟩ hDc (fun i j p q hi hj => by rw [one i p hi]; exact hne j q hj)
    have h1 : i < 1 := (List.getElem?_eq_some_iff.mp hi).1
    have h2 : j < 1 := (List.getElem?_eq_some_iff.mp hj).1
    omega
  refine va_last (cA := cJ) (n := 1) (f := o) hx hb hK hP hD hS 0 3 rfl rfl (show ¬ ((0 : Int32) < 0 ∨ 1 ≤ (0 : Int32).toNatClampNeg) by decide) hdg (fun H1 locs1 hP1 hD1 hS1 => ?_)
  refine kk H1 locs1 (vp_updL o (0 : Int32).toNatClampNeg x) ?_ (last_P (ws := wOu cJ qo (vp_updL o (0 : Int32).toNatClampNeg x)) hP1) (fun k q hk => ?_) hS1
  · exact if_pos rfl
  · have hk1 : k < 1 := (List.getElem?_eq_some_iff.mp hk).1
    have hk0 : k = 0 := by omega
    subst hk0
    exact hP1 0 q hk
