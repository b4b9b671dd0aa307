/-! THE CLAIM OUT OF ONE WALK OF THE LAW'S BODY. Your part is whole_start (and what it stands on); all else here is the same for every law, but numbers. -/
def R_law : String := "FormForgeLaw"
def lw_P (b : Addr) (xs : List Int32) (args : Array Value) (s : State) : Prop := args = #[.ref b] ∧ s.IntsAt b xs ∧ xs.length ≤ 260 ∧ (Jvm.Cond.and given_1 narrow_1).before args s = true
def lw_Q (_ : Array Value) (s : State) (o : Outcome) (t : State) : Prop := o = .returned (some (.int 1)) ∧ Framed s o t [] 600104 7301314
def lw_Z (below : List Frame) (a : Array Value) (s : State) : State → Prop := fun t => ∃ o, t.status = .running ∧ Ended t below o ∧ lw_Q a s o t
/-- the law's own end, with 1 on the stack, nothing written that was there before, its room as the claim has it -/
theorem lw_ret {p : Program} {l : Launch} {e : Env} {s : State} {m : MethodId} {below : List Frame} {meth : Method} {c : Code} {b : Nat} (hx : p.tables.exec = Jvm.exec) (hb : c.code = code) (hr : meth.sig.returnType = ret) (hlocks : meth.locks = false) {pc : Nat} {H : Heap} {ls : Array Slot} (hdg : decode code pc = .ok (.ireturn, 1)) : W p l e room_1 s m #[Value.ref b] below meth c H [] 600104 7301314 (lw_Z below #[Value.ref b] s) (F0 m pc ls [.int 1]) := by
  intro T hT X
  obtain ⟨fs, hret, hrun, hended, hW, hframe⟩ := X.leave (v := some (.int 1)) (hlocks := hlocks) (fun h => by rw [hr] at h; cases h)
  have hmeth' : T.vm.method? m = some meth := X.method'
  refine ⟨T.setFrames fs, ?_, .returned (some (.int 1)), hrun, hended, rfl, ⟨_, rfl⟩, hW, hframe⟩
  jvm_step X.here [X.here.top, hx, hb, hdg, hmeth', hr, ret, narrow_b1]
  (try refine ⟨rfl, ?_⟩); (try refine ⟨rfl, ?_⟩)
  first | (intro acts; rw [hret _ acts rfl rfl rfl]) | rw [hret _ _ rfl rfl rfl]
  exact Steps.refl _
/-- what holds at the law's entry: the machine, the code, the tables' words (any of lw_tbl by 'hts w (by decide +kernel)'), the script of L ints xs at the cell b, what the Statement gives of the start (any of its parts by flat_of_before) -/
def lw_At (p : Program) (s : State) (m : MethodId) (meth : Method) (c : Code) (b L : Nat) (xs : Nat → Int32) : Prop :=
  p.tables.exec = Jvm.exec ∧ c.code = code ∧ meth.sig.returnType = ret ∧ c.maxLocals = 18 ∧ s.vm.findClass R_law = some m.cls ∧ (∀ w ∈ lw_tbl, w.before #[Value.ref b] s = true) ∧ va_X b L xs s s.heap ∧ b < s.heap.size ∧ meth.locks = false ∧ (Jvm.Cond.and given_1 narrow_1).before #[Value.ref b] s = true
/-! what the start gives: the classes, the arrays' classes, the statics, the texts -/
def AL (s : State) : Nat → Prop := fun q => s.heap.size ≤ q
theorem arr_K {args : Array Value} {s : State} {ty : FieldType} (h : (Cond.arrayClass ty).before args s = true) : ∃ cA : ClassId, ArrOfT s cA ty ∧ s.vm.findClass ("[" ++ ty.toString) = some cA := by
  obtain ⟨cA, kA, comp, h1, h2, h3⟩ := Cond.arrayClass_spec h
  exact ⟨cA, fun N z => ⟨(fun k h => by cases h), kA, h2, comp, h3⟩, h1⟩
theorem arr_O {args : Array Value} {s : State} {C : String} (h : (Cond.arrayOver (.object C)).before args s = true) : ∃ cA : ClassId, ArrOfT s cA (.object C) ∧ va_RA s cA (.object C) := by
  obtain ⟨comp, cA, kA, h1, h2, h3, h4, h5⟩ := Cond.arrayOver_spec h
  exact ⟨cA, fun N z => ⟨(fun k h => by cases h), kA, h3, comp, h4⟩, kA, comp, h3, h4, h1, h5⟩
theorem nestW_tb : ∀ w ∈ nestW, w ∈ lw_tbl := by decide +kernel
theorem strW_tb : ∀ q ∈ strW, Cond.stringRef q.1 q.2.1 q.2.2 ∈ lw_tbl := by decide +kernel
theorem strW_6 : ∀ q ∈ strW, q.1 = RX6 := by decide +kernel
def xwW : List Cond := [Cond.castable "java/lang/IllegalArgumentException" "java/lang/IllegalArgumentException", Cond.castable "java/lang/IllegalStateException" "java/lang/IllegalStateException", Cond.castable "java/lang/IndexOutOfBoundsException" "java/lang/IndexOutOfBoundsException", Cond.declares (Bundle.initS "java/lang/RuntimeException"), Cond.declares (Bundle.initS "java/lang/Exception"), Cond.declares (Bundle.initS Bundle.tN)]
theorem xw_tb : ∀ w ∈ xwW, w ∈ lw_tbl := by decide +kernel
def stW : List Cond := [Cond.laysStatic Bundle.tN "UNASSIGNED_STACK" Bundle.steD, Cond.laysStatic Bundle.tN "SUPPRESSED_SENTINEL" Bundle.listD, Cond.initialized Bundle.tN, Cond.laysStatic RX3 "STARTS" "[I", Cond.initialized RX3, Cond.arrayClass .int, Cond.arrayOver (.object RX3), Cond.laysStatic RX6 "WAYS_TO_CHOOSE" "[I", Cond.initialized RX6]
theorem st_tb : ∀ w ∈ stW, w ∈ lw_tbl := by decide +kernel
def narW : List Cond := [Cond.isRef (.static Bundle.tN "UNASSIGNED_STACK" Bundle.steD), Cond.isRef (.static Bundle.tN "SUPPRESSED_SENTINEL" Bundle.listD), Cond.not (.castable "java/lang/IllegalStateException" "java/lang/IllegalArgumentException"), Cond.not (.castable "java/lang/IllegalArgumentException" "java/lang/IndexOutOfBoundsException"), Cond.arrayOf (.static RX3 "STARTS" "[I") .int, Cond.eq (.length (.static RX3 "STARTS" "[I")) (.int 5), Cond.eq (.elem (.static RX3 "STARTS" "[I") (.int 0)) (.int 0), Cond.eq (.elem (.static RX3 "STARTS" "[I") (.int 1)) (.int 0), Cond.eq (.elem (.static RX3 "STARTS" "[I") (.int 2)) (.int 25), Cond.eq (.elem (.static RX3 "STARTS" "[I") (.int 3)) (.int 150), Cond.eq (.elem (.static RX3 "STARTS" "[I") (.int 4)) (.int 775), Cond.arrayOf (.static RX6 "WAYS_TO_CHOOSE" "[I") .int, Cond.eq (.length (.static RX6 "WAYS_TO_CHOOSE" "[I")) (.int 16), Cond.eq (.elem (.static RX6 "WAYS_TO_CHOOSE" "[I") (.int 0)) (.int 1), Cond.eq (.elem (.static RX6 "WAYS_TO_CHOOSE" "[I") (.int 1)) (.int 0), Cond.eq (.elem (.static RX6 "WAYS_TO_CHOOSE" "[I") (.int 2)) (.int 0), Cond.eq (.elem (.static RX6 "WAYS_TO_CHOOSE" "[I") (.int 3)) (.int 0), Cond.eq (.elem (.static RX6 "WAYS_TO_CHOOSE" "[I") (.int 4)) (.int 1), Cond.eq (.elem (.static RX6 "WAYS_TO_CHOOSE" "[I") (.int 5)) (.int 1), Cond.eq (.elem (.static RX6 "WAYS_TO_CHOOSE" "[I") (.int 6)) (.int 0), Cond.eq (.elem (.static RX6 "WAYS_TO_CHOOSE" "[I") (.int 7)) (.int 0), Cond.eq (.elem (.static RX6 "WAYS_TO_CHOOSE" "[I") (.int 8)) (.int 1), Cond.eq (.elem (.static RX6 "WAYS_TO_CHOOSE" "[I") (.int 9)) (.int 2), Cond.eq (.elem (.static RX6 "WAYS_TO_CHOOSE" "[I") (.int 10)) (.int 1), Cond.eq (.elem (.static RX6 "WAYS_TO_CHOOSE" "[I") (.int 11)) (.int 0), Cond.eq (.elem (.static RX6 "WAYS_TO_CHOOSE" "[I") (.int 12)) (.int 1), Cond.eq (.elem (.static RX6 "WAYS_TO_CHOOSE" "[I") (.int 13)) (.int 3), Cond.eq (.elem (.static RX6 "WAYS_TO_CHOOSE" "[I") (.int 14)) (.int 3), Cond.eq (.elem (.static RX6 "WAYS_TO_CHOOSE" "[I") (.int 15)) (.int 1), Cond.not (.castable "java/lang/IllegalStateException" "java/lang/IndexOutOfBoundsException")]
set_option maxRecDepth 100000 in
theorem nar_in : ∀ w ∈ narW, w ∈ flatC (Jvm.Cond.and given_1 narrow_1) := by decide +kernel
def instW : List Cond := [Cond.instantiable RX0 3, Cond.instantiable RX1 4, Cond.instantiable RX2 1, Cond.instantiable RX3 2, Cond.instantiable RX4 6, Cond.instantiable RX5 7, Cond.instantiable RX6 12]
theorem inst_tb : ∀ w ∈ instW, w ∈ lw_tbl := by decide +kernel
set_option maxRecDepth 100000 in
set_option maxHeartbeats 4000000 in
theorem law_K {s : State} {b : Nat} (hts : ∀ w ∈ lw_tbl, w.before #[Value.ref b] s = true) (hgv : (Jvm.Cond.and given_1 narrow_1).before #[Value.ref b] s = true) : ∃ (D : va_G) (cI cG cZ cJ : ClassId) (ts : Nat × Nat), CX D cI cG cZ cJ ts (AL s) s s.heap ∧ XW s ∧ NCW s ∧ va_AO RX3 s := by
  have hq := flat_of_before _ hgv
  have hn : ∀ {w : Cond}, w ∈ narW → w.before #[Value.ref b] s = true := fun {w} h => hq w (nar_in w h)
  have hs : ∀ {w : Cond}, w ∈ stW → w.before #[Value.ref b] s = true := fun {w} h => hts w (st_tb w h)
  have hi : ∀ {w : Cond}, w ∈ instW → w.before #[Value.ref b] s = true := fun {w} h => hts w (inst_tb w h)
  have hx : ∀ {w : Cond}, w ∈ xwW → w.before #[Value.ref b] s = true := fun {w} h => hts w (xw_tb w h)
  obtain ⟨c0, i0, k0⟩ := u_known (C := RX0) (T := TX0) (N := 3) (n := 3) hts inX0 (hi (List.mem_of_getElem? (i := 0) rfl))
  obtain ⟨c1, i1, k1⟩ := u_known (C := RX1) (T := TX1) (N := 4) (n := 4) hts inX1 (hi (List.mem_of_getElem? (i := 1) rfl))
  obtain ⟨c2, i2, k2⟩ := u_known (C := RX2) (T := TX2) (N := 1) (n := 1) hts inX2 (hi (List.mem_of_getElem? (i := 2) rfl))
  obtain ⟨c3, i3, k3⟩ := u_known (C := RX3) (T := TX3) (N := 2) (n := 2) hts inX3 (hi (List.mem_of_getElem? (i := 3) rfl))
  obtain ⟨c4, i4, k4⟩ := u_known (C := RX4) (T := TX4) (N := 6) (n := 6) hts inX4 (hi (List.mem_of_getElem? (i := 4) rfl))
  obtain ⟨c5, i5, k5⟩ := u_known (C := RX5) (T := TX5) (N := 7) (n := 7) hts inX5 (hi (List.mem_of_getElem? (i := 5) rfl))
  obtain ⟨c6, i6, k6⟩ := u_known (C := RX6) (T := TX6) (N := 12) (n := 12) hts inX6 (hi (List.mem_of_getElem? (i := 6) rfl))
  obtain ⟨dC, dI, hKc⟩ : ∃ (dC : Nat → ClassId) (dI : Nat → Nat → Nat), ∀ (k : Nat) (q : vw_C), vwCl[k]? = some q → u_Kn s q.1 q.2.1 q.2.2 (dC k) (dI k) := by
    refine ⟨fun k => match k with | 0 => c0 | 1 => c1 | 2 => c2 | 3 => c3 | 4 => c4 | 5 => c5 | _ => c6, fun k => match k with | 0 => i0 | 1 => i1 | 2 => i2 | 3 => i3 | 4 => i4 | 5 => i5 | _ => i6, ?_⟩
    intro k q hq
    match k, hq with
    | 0, hq => cases hq; exact k0
    | 1, hq => cases hq; exact k1
    | 2, hq => cases hq; exact k2
    | 3, hq => cases hq; exact k3
    | 4, hq => cases hq; exact k4
    | 5, hq => cases hq; exact k5
    | 6, hq => cases hq; exact k6
    | k + 7, hq => simp [vwCl] at hq
  obtain ⟨cI, aI, nI'⟩ := arr_K (hs (w := .arrayClass .int) (List.mem_of_getElem? (i := 5) rfl))
  obtain ⟨cG, aG, nG⟩ := arr_O (hs (w := .arrayOver (.object RX3)) (List.mem_of_getElem? (i := 6) rfl))
  have hA : ∀ a : Nat, a < s.heap.size → ¬ AL s a := fun a h g => absurd h (Nat.not_lt.mpr g)
  obtain ⟨ts, hev, hT⟩ := va_Tof (tm := .static RX3 "STARTS" "[I") (ty := .int) (N := 5) (f := fun j => .int (stS j)) (A := AL s) (by decide) (hn (List.mem_of_getElem? (i := 4) rfl)) (va_eqt (hn (w := Cond.eq (.length (.static RX3 "STARTS" "[I")) (.int 5)) (List.mem_of_getElem? (i := 5) rfl))) (fun j hj => by
    match j, hj with
    | 0, _ => exact va_eqt (hn (w := Cond.eq (.elem (.static RX3 "STARTS" "[I") (.int 0)) (.int 0)) (List.mem_of_getElem? (i := 6) rfl))
    | 1, _ => exact va_eqt (hn (w := Cond.eq (.elem (.static RX3 "STARTS" "[I") (.int 1)) (.int 0)) (List.mem_of_getElem? (i := 7) rfl))
    | 2, _ => exact va_eqt (hn (w := Cond.eq (.elem (.static RX3 "STARTS" "[I") (.int 2)) (.int 25)) (List.mem_of_getElem? (i := 8) rfl))
    | 3, _ => exact va_eqt (hn (w := Cond.eq (.elem (.static RX3 "STARTS" "[I") (.int 3)) (.int 150)) (List.mem_of_getElem? (i := 9) rfl))
    | 4, _ => exact va_eqt (hn (w := Cond.eq (.elem (.static RX3 "STARTS" "[I") (.int 4)) (.int 775)) (List.mem_of_getElem? (i := 10) rfl))
    | j + 5, h => omega) hA
  obtain ⟨tc, hevC, hTC⟩ := va_Tof (tm := .static RX6 "WAYS_TO_CHOOSE" "[I") (ty := .int) (N := 16) (f := fun j => .int (stC j)) (A := AL s) (by decide) (hn (List.mem_of_getElem? (i := 11) rfl)) (va_eqt (hn (w := Cond.eq (.length (.static RX6 "WAYS_TO_CHOOSE" "[I")) (.int 16)) (List.mem_of_getElem? (i := 12) rfl))) (fun j hj => by
    match j, hj with
    | 0, _ => exact va_eqt (hn (w := Cond.eq (.elem (.static RX6 "WAYS_TO_CHOOSE" "[I") (.int 0)) (.int 1)) (List.mem_of_getElem? (i := 13) rfl))
    | 1, _ => exact va_eqt (hn (w := Cond.eq (.elem (.static RX6 "WAYS_TO_CHOOSE" "[I") (.int 1)) (.int 0)) (List.mem_of_getElem? (i := 14) rfl))
    | 2, _ => exact va_eqt (hn (w := Cond.eq (.elem (.static RX6 "WAYS_TO_CHOOSE" "[I") (.int 2)) (.int 0)) (List.mem_of_getElem? (i := 15) rfl))
    | 3, _ => exact va_eqt (hn (w := Cond.eq (.elem (.static RX6 "WAYS_TO_CHOOSE" "[I") (.int 3)) (.int 0)) (List.mem_of_getElem? (i := 16) rfl))
    | 4, _ => exact va_eqt (hn (w := Cond.eq (.elem (.static RX6 "WAYS_TO_CHOOSE" "[I") (.int 4)) (.int 1)) (List.mem_of_getElem? (i := 17) rfl))
    | 5, _ => exact va_eqt (hn (w := Cond.eq (.elem (.static RX6 "WAYS_TO_CHOOSE" "[I") (.int 5)) (.int 1)) (List.mem_of_getElem? (i := 18) rfl))
    | 6, _ => exact va_eqt (hn (w := Cond.eq (.elem (.static RX6 "WAYS_TO_CHOOSE" "[I") (.int 6)) (.int 0)) (List.mem_of_getElem? (i := 19) rfl))
    | 7, _ => exact va_eqt (hn (w := Cond.eq (.elem (.static RX6 "WAYS_TO_CHOOSE" "[I") (.int 7)) (.int 0)) (List.mem_of_getElem? (i := 20) rfl))
    | 8, _ => exact va_eqt (hn (w := Cond.eq (.elem (.static RX6 "WAYS_TO_CHOOSE" "[I") (.int 8)) (.int 1)) (List.mem_of_getElem? (i := 21) rfl))
    | 9, _ => exact va_eqt (hn (w := Cond.eq (.elem (.static RX6 "WAYS_TO_CHOOSE" "[I") (.int 9)) (.int 2)) (List.mem_of_getElem? (i := 22) rfl))
    | 10, _ => exact va_eqt (hn (w := Cond.eq (.elem (.static RX6 "WAYS_TO_CHOOSE" "[I") (.int 10)) (.int 1)) (List.mem_of_getElem? (i := 23) rfl))
    | 11, _ => exact va_eqt (hn (w := Cond.eq (.elem (.static RX6 "WAYS_TO_CHOOSE" "[I") (.int 11)) (.int 0)) (List.mem_of_getElem? (i := 24) rfl))
    | 12, _ => exact va_eqt (hn (w := Cond.eq (.elem (.static RX6 "WAYS_TO_CHOOSE" "[I") (.int 12)) (.int 1)) (List.mem_of_getElem? (i := 25) rfl))
    | 13, _ => exact va_eqt (hn (w := Cond.eq (.elem (.static RX6 "WAYS_TO_CHOOSE" "[I") (.int 13)) (.int 3)) (List.mem_of_getElem? (i := 26) rfl))
    | 14, _ => exact va_eqt (hn (w := Cond.eq (.elem (.static RX6 "WAYS_TO_CHOOSE" "[I") (.int 14)) (.int 3)) (List.mem_of_getElem? (i := 27) rfl))
    | 15, _ => exact va_eqt (hn (w := Cond.eq (.elem (.static RX6 "WAYS_TO_CHOOSE" "[I") (.int 15)) (.int 1)) (List.mem_of_getElem? (i := 28) rfl))
    | j + 16, h => omega) hA
  refine ⟨(dC, dI), cI, cG, cI, cI, (ts, tc), ⟨⟨hKc, fun k q hk => ?_⟩, fun w hw => ?_, fun q hq => ?_, ?_, ?_, ?_, hT, ?_, hTC⟩, ⟨fun X hX => ?_, fun Y hY => ?_⟩, ⟨va_Nc.of (hn (List.mem_of_getElem? (i := 2) rfl)), va_Nc.of (hn (List.mem_of_getElem? (i := 3) rfl)), va_Nc.of (hn (List.mem_of_getElem? (i := 29) rfl))⟩, va_AO.of (hs (List.mem_of_getElem? (i := 6) rfl))⟩
  · match k, hk with
    | 0, hk => cases hk; exact ⟨aI, nI'⟩
    | 1, hk => cases hk; exact ⟨aG, nG⟩
    | k + 2, hk => simp [tyW] at hk
  · have hm := hts w (nestW_tb w hw)
    obtain ⟨a, i, x, h, rfl⟩ := nestW_kind w hw
    exact va_Nw.of rfl hm
  · have hm := hts _ (strW_tb q hq)
    have h6 := strW_6 q hq
    have hcur : s.vm.findClass q.1 = some c6 := by rw [h6]; exact k6.2.1
    obtain ⟨-, -, -, a, -, -, -, -, -, hev⟩ := Cond.stringRef_spec hcur hm
    exact ⟨a, vk_R.of hm hev⟩
  · exact vx_Zqof (hs (List.mem_of_getElem? (i := 0) rfl)) (hs (List.mem_of_getElem? (i := 2) rfl)) (hn (List.mem_of_getElem? (i := 0) rfl)) hA
  · exact vx_Zqof (hs (List.mem_of_getElem? (i := 1) rfl)) (hs (List.mem_of_getElem? (i := 2) rfl)) (hn (List.mem_of_getElem? (i := 1) rfl)) hA
  · exact va_Zof (hs (List.mem_of_getElem? (i := 3) rfl)) (hs (List.mem_of_getElem? (i := 4) rfl)) hev hA
  · exact va_Zof (hs (List.mem_of_getElem? (i := 7) rfl)) (hs (List.mem_of_getElem? (i := 8) rfl)) hevC hA
  · simp only [List.mem_cons, List.not_mem_nil, or_false] at hX
    rcases hX with rfl | rfl | rfl
    · exact va_Nw.of rfl (hx (List.mem_of_getElem? (i := 0) rfl))
    · exact va_Nw.of rfl (hx (List.mem_of_getElem? (i := 1) rfl))
    · exact va_Nw.of rfl (hx (List.mem_of_getElem? (i := 2) rfl))
  · simp only [List.mem_cons, List.not_mem_nil, or_false] at hY
    rcases hY with rfl | rfl | rfl
    · exact va_Nw.of rfl (hx (List.mem_of_getElem? (i := 3) rfl))
    · exact va_Nw.of rfl (hx (List.mem_of_getElem? (i := 4) rfl))
    · exact va_Nw.of rfl (hx (List.mem_of_getElem? (i := 5) rfl))
