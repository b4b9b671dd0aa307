/-! Group's constructor -/
theorem newQ {p : Program} {l : Launch} {e : Env} {R : Room} {s : State} {m : MethodId} {args : Array Value} {below : List Frame} {meth : Method} {c : Code} {cc : ByteArray} {H H0 : Heap} {locs : List Loc} {cells slots : Nat} {Q : State → Prop} {D : va_G} {cl : List vw_C} {tys : List (ClassId × FieldType)} {ws : va_W} {pc : Nat} {ls : Array Slot} {rest : List Value} {A : Nat → Prop} {cG : ClassId} {own C : String} {index : Nat} (i0 : Nat)
    (hexec : p.tables.exec = Jvm.exec) (hb : c.code = cc) (hown : s.vm.findClass own = some m.cls) (hclink : (Cond.classLink own index C).before args s = true) (hover : va_AO C s) (hI : tys[i0]? = some (cG, .object C)) (hK : va_K D cl tys s) (hP : va_P D cl ws H) (hD : va_D A ws) (hS : va_S A H0 H locs) (hA : ∀ q, H0.size ≤ q → A q)
    {n : Int32} {N' : Nat} (hn : ¬ n < 0) (hN : n.toNatClampNeg = N') (hbytes : N' * 4 ≤ 536870912) (hcells : cells + 1 ≤ R.cells) (hslots : slots + N' ≤ R.slots) (hdg : decode cc pc = .ok (.anewarray index, 3))
    (kk : ∀ (q : Nat) (H1 : Heap), va_P D cl (ws ++ [(q, .inl (cG, N', .inr (.inr (.inr (.inr (fun _ => none))))))]) H1 → va_D A (ws ++ [(q, .inl (cG, N', .inr (.inr (.inr (.inr (fun _ => none))))))]) → va_S A H0 H1 locs →
      W p l e R s m args below meth c H1 locs (cells + 1) (slots + N') Q (F0 m (pc + 3) ls (.ref q :: rest))) : W p l e R s m args below meth c H locs cells slots Q (F0 m pc ls (.int n :: rest)) := by
  refine va_newq hexec hb hown hclink hover hK hP hD hS hA hn hN hbytes hcells hslots hdg (fun q cA H1 hK2 hP2 hD2 hS2 => ?_)
  obtain ⟨_, _, _, _, _, e1⟩ := (hK2.2 tys.length (cA, .object C) (by simp)).2
  obtain ⟨_, _, _, _, _, e2⟩ := (hK.2 i0 (cG, .object C) hI).2
  have : cA = cG := Option.some.inj (e1.symm.trans e2)
  subst this
  exact kk q H1 hP2 hD2 hS2
def Lgr : List Nat := [4, 1, 6, 15, 16]
def adG (h0 f q1 q2 q3 : Nat) : Nat → Nat := fun k => if k = 4 then h0 else if k = 1 then f else if k = 6 then q1 else if k = 15 then q2 else q3
theorem ndL_of {L : List Nat} (h : va_nd L = true) : NdL L := fun i j q hi hj => va_nd_inj L h i j q hi hj
def ug (x : Int32) : St := fun a => match a with
  | 0 => fun j => if j = 0 then x else 0
  | _ => fun _ => 0
abbrev wGr (cI cG : ClassId) (h0 f q1 q2 q3 : Nat) (u : St) : va_W := [(h0, .inr (4, [.ref f, .ref q1, .ref q2, .ref q3, .int (u 0 4), .int (u 0 5)])), (f, .inr (2, [.int (u 0 0)])), (q1, .inl (cG, 4, .inr (.inr (.inr (.inr (fun _ => none)))))), (q2, .inl (cI, 480, .inl (u 15))), (q3, .inl (cI, 625, .inl (u 16)))]
theorem cW_gr {cI cG : ClassId} (h0 f q1 q2 q3 : Nat) (u : St) : cW cI cG Lgr (adG h0 f q1 q2 q3) 0 u = wGr cI cG h0 f q1 q2 q3 u := by
  have e : (fun i => if i < 0 then some (adG h0 f q1 q2 q3 (22 + 2 * i)) else none) = (fun _ => none : Nat → Option Nat) := by
    funext i
    exact if_neg (Nat.not_lt_zero i)
  show [(adG h0 f q1 q2 q3 4, cE cI cG (adG h0 f q1 q2 q3) 0 (u 0) (u 4) 4), (adG h0 f q1 q2 q3 1, cE cI cG (adG h0 f q1 q2 q3) 0 (u 0) (u 1) 1), (adG h0 f q1 q2 q3 6, cE cI cG (adG h0 f q1 q2 q3) 0 (u 0) (u 6) 6), (adG h0 f q1 q2 q3 15, cE cI cG (adG h0 f q1 q2 q3) 0 (u 0) (u 15) 15), (adG h0 f q1 q2 q3 16, cE cI cG (adG h0 f q1 q2 q3) 0 (u 0) (u 16) 16)] = _
  rw [cE_arr (k := 15) (Or.inl ⟨by decide, by decide⟩), cE_arr (k := 16) (Or.inl ⟨by decide, by decide⟩)]
  simp only [cE]
  rw [e]
  rfl
theorem CX.nar {D : va_G} {cI cG cZ cJ : ClassId} {ts : Nat × Nat} {A B : Nat → Prop} {U : State} {H : Heap} (h : CX D cI cG cZ cJ ts A U H) (hAB : ∀ q, B q → A q) : CX D cI cG cZ cJ ts B U H := by
  obtain ⟨h1, h2, h3, h4, h5, h6, h7, h8, h9⟩ := h
  exact ⟨h1, h2, h3, h4.narrow hAB, h5.narrow hAB, h6.narrow hAB, h7.narrow hAB, h8.narrow hAB, h9.narrow hAB⟩
theorem cA_eq {L : List Nat} {ad : Nat → Nat} {f : Nat → va_E} {A : Nat → Prop} {sz : Nat} (h : va_D A (wL L ad f)) (h1 : ∀ q, A q → (∃ k ∈ L, q = ad k) ∨ sz ≤ q) (h2 : ∀ q, sz ≤ q → A q) : cA L ad sz = A := by
  funext q
  refine propext ⟨fun g => ?_, h1 q⟩
  rcases g with ⟨k, hk, rfl⟩ | g
  · obtain ⟨i, hi⟩ := wL_ix hk
    exact h.2 i _ (wL_get hi)
  · exact h2 q g
set_option maxRecDepth 100000 in
set_option maxHeartbeats 4000000 in
theorem c_X4_init {l : Launch} {D : va_G} {cI cG cZ cJ : ClassId} {ts : Nat × Nat} (h0 sz f : Nat) (x : Int32) (Q : St → Prop) (h : f_X4_close 0 (ug x) Q) : Met l yX4_init wsX4_init ({ frames := 5, cells := 3, slots := 1109, locals := 118 }) (va_Pc [.ref h0, .ref f] (fun U => U.heap.size = sz ∧ va_P D vwCl [(h0, .inr (4, [.null, .null, .null, .null, .int 0, .int 0])), (f, .inr (2, [.int x]))] U.heap ∧ va_D (fun _ => True) [(h0, .inr (4, [.null, .null, .null, .null, .int 0, .int 0])), (f, .inr (2, [.int x]))] ∧ va_AO RX3 U ∧ CX D cI cG cZ cJ ts (va_A [(h0, .inr (4, [.null, .null, .null, .null, .int 0, .int 0])), (f, .inr (2, [.int x]))] sz) U U.heap)) (va_Qv (fun z : Nat × Nat × Nat × St => Q z.2.2.2) (fun z t => va_P D vwCl (wGr cI cG h0 f z.1 z.2.1 z.2.2.1 z.2.2.2) t.heap ∧ va_D (va_A [(h0, .inr (4, [.null, .null, .null, .null, .int 0, .int 0])), (f, .inr (2, [.int x]))] sz) (wGr cI cG h0 f z.1 z.2.1 z.2.2.1 z.2.2.2)) (va_A [(h0, .inr (4, [.null, .null, .null, .null, .int 0, .int 0])), (f, .inr (2, [.int x]))] sz)) 3 1109 (va_A [(h0, .inr (4, [.null, .null, .null, .null, .int 0, .int 0])), (f, .inr (2, [.int x]))] sz) := by
  refine Met.ofW (cc := cX4_init) (maxL := 2) (ret := none) (by decide) rfl ?_
  intro p e s m args below meth c s₁ B hml hv
  obtain ⟨rfl, hsz, hP, hD0, hao, hC⟩ := hv
  have hK := hC.1
  have hx := B.exec
  have hb := B.bytes
  have hr := B.returns
  have hts := atoms_spec (ws := wsX4_init) B.pre
  have hown : s.vm.findClass RX4 = some m.cls := findClass_of_methodNamed B.named
  have hlocks := B.notSynchronized
  have hin : meth.name = "<init>" := (name_of_methodNamed B.named B.method).1
  subst hsz
  have hD := hD0.self (sz := s.heap.size)
  generalize hAe : va_A [(h0, .inr (4, [.null, .null, .null, .null, .int 0, .int 0])), (f, .inr (2, [.int x]))] s.heap.size = A at hD hC ⊢
  have hA : ∀ q : Nat, s.heap.size ≤ q → A q := fun q h => by rw [← hAe]; exact Or.inr h
  have hS : va_S A s.heap s.heap [] := va_S.rf
  have hl := lv_entry ([.ref h0, .ref f]) (n := 2) (Nat.le_of_ble_eq_true rfl)
  rw [lg_entry_eq]
  generalize (lg_sl ([.ref h0, .ref f]) ++ List.replicate (2 - (lg_sl ([.ref h0, .ref f])).length) Slot.unset).toArray = ls at hl ⊢
  have hl : lv_has ls 2 [(0, .ref h0), (1, .ref f)] := hl
  refine lv_aload_n hx hb dX4_init_0 rfl (lv_at hl 0 rfl) ?_
  refine W.objInit hx hb hown (hts (.methodLink RX4 3 objectInit) (by decide +kernel)) (hts (.instanceMethod objectInit) (by decide +kernel)) (hts _ (List.mem_cons_of_mem _ (List.mem_append_left _ (List.mem_of_getElem? (i := 2) rfl)))) rfl (by rw [hml]; exact hl.1) rfl dX4_init_1 (Nat.le_of_ble_eq_true rfl) (Nat.le_of_ble_eq_true rfl) ?_
  refine W.eq (g2 := F0 m 4 ls []) rfl ?_
  refine lv_aload_n hx hb dX4_init_4 rfl (lv_at hl 0 rfl) ?_
  refine lv_iconst (v := 4) hx hb dX4_init_5 (by decide) ?_
  refine newQ (n := 4) (N' := 4) 1 hx hb hown (hts (.classLink RX4 9 RX3) (by decide +kernel)) hao rfl hK hP hD hS hA (by decide) rfl (by decide) (by decide) (by decide) dX4_init_6 (fun q1 H hP hD hS => ?_)
  have hP : va_P D vwCl [(h0, .inr (4, [.null, .null, .null, .null, .int 0, .int 0])), (f, .inr (2, [.int x])), (q1, .inl (cG, 4, .inr (.inr (.inr (.inr (fun _ => none))))))] H := hP
  have hD : va_D A [(h0, .inr (4, [.null, .null, .null, .null, .int 0, .int 0])), (f, .inr (2, [.int x])), (q1, .inl (cG, 4, .inr (.inr (.inr (.inr (fun _ => none))))))] := hD
  refine va_putF (D := D) (ci := 4) (v := .ref q1) (ty := .array (.object "FormForge$Generator")) (C := RX4) (T := TX4) (N := 6) hx hb hts (by decide +kernel) tyX4 tyX4_ok nmX4 hown hK hP hD hS 0 rfl rfl 1 (by decide) (hts (.fieldLink RX4 11 "FormForge$Group" "generators" "[LFormForge$Generator;") (by decide +kernel)) (fun _ h9 => h9) rfl hin rfl (by decide +kernel) rfl rfl (Nat.le_of_ble_eq_true rfl) dX4_init_9 (fun H locs hP hD hS => ?_)
  have hP : va_P D vwCl [(h0, .inr (4, [.null, .ref q1, .null, .null, .int 0, .int 0])), (f, .inr (2, [.int x])), (q1, .inl (cG, 4, .inr (.inr (.inr (.inr (fun _ => none))))))] H := hP
  have hD : va_D A [(h0, .inr (4, [.null, .ref q1, .null, .null, .int 0, .int 0])), (f, .inr (2, [.int x])), (q1, .inl (cG, 4, .inr (.inr (.inr (.inr (fun _ => none))))))] := hD
  refine lv_aload_n hx hb dX4_init_12 rfl (lv_at hl 0 rfl) ?_
  refine lv_sipush hx hb dX4_init_13 (v := 480) rfl ?_
  refine newI (n := 480) (N' := 480) hx hb (hts (.arrayClass .int) (by decide +kernel)) rfl hK hP hD hS hA (by decide) rfl (by decide) (by decide) (by decide) dX4_init_16 (fun q2 H hP hD hS => ?_)
  have hP : va_P D vwCl [(h0, .inr (4, [.null, .ref q1, .null, .null, .int 0, .int 0])), (f, .inr (2, [.int x])), (q1, .inl (cG, 4, .inr (.inr (.inr (.inr (fun _ => none)))))), (q2, .inl (cI, 480, .inl (fun _ => 0)))] H := hP
  have hD : va_D A [(h0, .inr (4, [.null, .ref q1, .null, .null, .int 0, .int 0])), (f, .inr (2, [.int x])), (q1, .inl (cG, 4, .inr (.inr (.inr (.inr (fun _ => none)))))), (q2, .inl (cI, 480, .inl (fun _ => 0)))] := hD
  refine va_putF (D := D) (ci := 4) (v := .ref q2) (ty := .array .int) (C := RX4) (T := TX4) (N := 6) hx hb hts (by decide +kernel) tyX4 tyX4_ok nmX4 hown hK hP hD hS 0 rfl rfl 2 (by decide) (hts (.fieldLink RX4 17 "FormForge$Group" "matrices" "[I") (by decide +kernel)) (fun _ h9 => h9) rfl hin rfl (by decide +kernel) rfl rfl (Nat.le_of_ble_eq_true rfl) dX4_init_18 (fun H locs hP hD hS => ?_)
  have hP : va_P D vwCl [(h0, .inr (4, [.null, .ref q1, .ref q2, .null, .int 0, .int 0])), (f, .inr (2, [.int x])), (q1, .inl (cG, 4, .inr (.inr (.inr (.inr (fun _ => none)))))), (q2, .inl (cI, 480, .inl (fun _ => 0)))] H := hP
  have hD : va_D A [(h0, .inr (4, [.null, .ref q1, .ref q2, .null, .int 0, .int 0])), (f, .inr (2, [.int x])), (q1, .inl (cG, 4, .inr (.inr (.inr (.inr (fun _ => none)))))), (q2, .inl (cI, 480, .inl (fun _ => 0)))] := hD
  refine lv_aload_n hx hb dX4_init_21 rfl (lv_at hl 0 rfl) ?_
  refine lv_sipush hx hb dX4_init_22 (v := 625) rfl ?_
  refine newI (n := 625) (N' := 625) hx hb (hts (.arrayClass .int) (by decide +kernel)) rfl hK hP hD hS hA (by decide) rfl (by decide) (by decide) (by decide) dX4_init_25 (fun q3 H hP hD hS => ?_)
  have hP : va_P D vwCl [(h0, .inr (4, [.null, .ref q1, .ref q2, .null, .int 0, .int 0])), (f, .inr (2, [.int x])), (q1, .inl (cG, 4, .inr (.inr (.inr (.inr (fun _ => none)))))), (q2, .inl (cI, 480, .inl (fun _ => 0))), (q3, .inl (cI, 625, .inl (fun _ => 0)))] H := hP
  have hD : va_D A [(h0, .inr (4, [.null, .ref q1, .ref q2, .null, .int 0, .int 0])), (f, .inr (2, [.int x])), (q1, .inl (cG, 4, .inr (.inr (.inr (.inr (fun _ => none)))))), (q2, .inl (cI, 480, .inl (fun _ => 0))), (q3, .inl (cI, 625, .inl (fun _ => 0)))] := hD
  refine va_putF (D := D) (ci := 4) (v := .ref q3) (ty := .array .int) (C := RX4) (T := TX4) (N := 6) hx hb hts (by decide +kernel) tyX4 tyX4_ok nmX4 hown hK hP hD hS 0 rfl rfl 3 (by decide) (hts (.fieldLink RX4 21 "FormForge$Group" "found" "[I") (by decide +kernel)) (fun _ h9 => h9) rfl hin rfl (by decide +kernel) rfl rfl (Nat.le_of_ble_eq_true rfl) dX4_init_27 (fun H locs hP hD hS => ?_)
  have hP : va_P D vwCl [(h0, .inr (4, [.null, .ref q1, .ref q2, .ref q3, .int 0, .int 0])), (f, .inr (2, [.int x])), (q1, .inl (cG, 4, .inr (.inr (.inr (.inr (fun _ => none)))))), (q2, .inl (cI, 480, .inl (fun _ => 0))), (q3, .inl (cI, 625, .inl (fun _ => 0)))] H := hP
  have hD : va_D A [(h0, .inr (4, [.null, .ref q1, .ref q2, .ref q3, .int 0, .int 0])), (f, .inr (2, [.int x])), (q1, .inl (cG, 4, .inr (.inr (.inr (.inr (fun _ => none)))))), (q2, .inl (cI, 480, .inl (fun _ => 0))), (q3, .inl (cI, 625, .inl (fun _ => 0)))] := hD
  refine lv_aload_n hx hb dX4_init_30 rfl (lv_at hl 0 rfl) ?_
  refine lv_aload_n hx hb dX4_init_31 rfl (lv_at hl 1 rfl) ?_
  refine va_putF (D := D) (ci := 4) (v := .ref f) (ty := .object "FormForge$Field") (C := RX4) (T := TX4) (N := 6) hx hb hts (by decide +kernel) tyX4 tyX4_ok nmX4 hown hK hP hD hS 0 rfl rfl 0 (by decide) (hts (.fieldLink RX4 24 "FormForge$Group" "field" "LFormForge$Field;") (by decide +kernel)) (fun _ h9 => h9) rfl hin rfl (by decide +kernel) rfl rfl (Nat.le_of_ble_eq_true rfl) dX4_init_32 (fun H locs hP hD hS => ?_)
  have hP : va_P D vwCl [(h0, .inr (4, [.ref f, .ref q1, .ref q2, .ref q3, .int 0, .int 0])), (f, .inr (2, [.int x])), (q1, .inl (cG, 4, .inr (.inr (.inr (.inr (fun _ => none)))))), (q2, .inl (cI, 480, .inl (fun _ => 0))), (q3, .inl (cI, 625, .inl (fun _ => 0)))] H := hP
  have hD : va_D A [(h0, .inr (4, [.ref f, .ref q1, .ref q2, .ref q3, .int 0, .int 0])), (f, .inr (2, [.int x])), (q1, .inl (cG, 4, .inr (.inr (.inr (.inr (fun _ => none)))))), (q2, .inl (cI, 480, .inl (fun _ => 0))), (q3, .inl (cI, 625, .inl (fun _ => 0)))] := hD
  refine lv_aload_n hx hb dX4_init_35 rfl (lv_at hl 0 rfl) ?_
  have ew : wGr cI cG h0 f q1 q2 q3 (ug x) = cW cI cG Lgr (adG h0 f q1 q2 q3) 0 (ug x) := (cW_gr h0 f q1 q2 q3 (ug x)).symm
  have hP : va_P D vwCl (wGr cI cG h0 f q1 q2 q3 (ug x)) H := hP
  have hD : va_D A (wGr cI cG h0 f q1 q2 q3 (ug x)) := hD
  rw [ew] at hP hD
  have hcA : cA Lgr (adG h0 f q1 q2 q3) s.heap.size = A := by
    refine cA_eq hD (fun q hq => ?_) hA
    rw [← hAe] at hq
    rcases hq with ⟨k, e9, hk⟩ | hq
    · match k with
      | 0 => exact Or.inl ⟨4, by decide, (congrArg Prod.fst (Option.some.inj hk)).symm⟩
      | 1 => exact Or.inl ⟨1, by decide, (congrArg Prod.fst (Option.some.inj hk)).symm⟩
      | k + 2 => cases hk
    · exact Or.inr hq
  have hwd : WD Lgr (adG h0 f q1 q2 q3) := WD_of (ndL_of rfl) hD
  have hC : CX D cI cG cZ cJ ts (cA Lgr (adG h0 f q1 q2 q3) s.heap.size) s s.heap := by rw [hcA]; exact hC
  have hS : va_S (cA Lgr (adG h0 f q1 q2 q3) s.heap.size) s.heap H locs := by rw [hcA]; exact hS
  have hLg : Lg Lgr 0 := ⟨by decide, by decide, by decide, by decide, by decide, fun g hg => absurd hg (Nat.not_lt_zero g)⟩
  refine cc_v (WW := fun u9 => cW cI cG Lgr (adG h0 f q1 q2 q3) 0 u9) (va_runV (C := RX4) (As := []) (rest := []) ⟨hx, hb, hml, hown, hts⟩ (c_X4_close hLg hwd H.size (ug x) _ h) (cwV 0 hts gX4_init_X4_close rfl rfl rfl (by decide +kernel) ⟨Nat.le_of_ble_eq_true rfl, Nat.le_of_ble_eq_true rfl⟩) (pcV hC hP hS (i := 0) (cg_4 rfl) rfl) rfl rfl hl.1 rfl (lv_room (Nat.le_of_ble_eq_true rfl)) dX4_init_36 ⟨Nat.le_of_ble_eq_true rfl, Nat.le_of_ble_eq_true rfl⟩) hS (cA_mono hS.1) (fun u5 H locs h hP hS => ?_)
  have hD : va_D A (cW cI cG Lgr (adG h0 f q1 q2 q3) 0 u5) := by rw [← hcA]; exact cD hwd
  rw [hcA] at hS
  rw [cW_gr] at hP hD
  exact W.vret hx hb hr (fun t ht hW => ⟨⟨(q1, q2, q3, u5), rfl, h, by rw [ht]; exact hP, hD⟩, hS.F ht⟩) hS.2.2 dX4_init_39
