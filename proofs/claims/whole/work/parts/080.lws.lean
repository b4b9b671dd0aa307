/-! the law's start -/
theorem newJ {p : Program} {l : Launch} {e : Env} {R : Room} {s : State} {m : MethodId} {args : Array Value} {below : List Frame} {meth : Method} {c : Code} {cc : ByteArray} {H H0 : Heap} {locs : List Loc} {cells slots : Nat} {Q : State → Prop} {D : va_G} {cl : List vw_C} {tys : List (ClassId × FieldType)} {ws : va_W} {pc : Nat} {ls : Array Slot} {rest : List Value} {A : Nat → Prop} {cJ : ClassId} (i0 : Nat)
    (hexec : p.tables.exec = Jvm.exec) (hb : c.code = cc) (harr : (Cond.arrayClass .long).before args s = true) (hI : tys[i0]? = some (cJ, .long)) (hK : va_K D cl tys s) (hP : va_P D cl ws H) (hD : va_D A ws) (hS : va_S A H0 H locs) (hA : ∀ q, H0.size ≤ q → A q)
    {n : Int32} {N' : Nat} (hn : ¬ n < 0) (hN : n.toNatClampNeg = N') (hbytes : N' * 8 ≤ 536870912) (hcells : cells + 1 ≤ R.cells) (hslots : slots + N' ≤ R.slots) (hdg : decode cc pc = .ok (.newarray .long, 2))
    (kk : ∀ (q : Nat) (H1 : Heap), va_P D cl (ws ++ [(q, .inl (cJ, N', .inr (.inl (fun _ => 0))))]) H1 → va_D A (ws ++ [(q, .inl (cJ, N', .inr (.inl (fun _ => 0))))]) → va_S A H0 H1 locs →
      W p l e R s m args below meth c H1 locs (cells + 1) (slots + N') Q (F0 m (pc + 2) ls (.ref q :: rest))) : W p l e R s m args below meth c H locs cells slots Q (F0 m pc ls (.int n :: rest)) := by
  refine va_newa (atype := .long) (ty := .long) (a0 := (N', .inr (.inl (fun _ => 0)))) hexec hb harr rfl hK hP hD hS hA (fun cA => rfl) hn hN hbytes hcells hslots hdg (fun q cA H1 hK2 hP2 hD2 hS2 => ?_)
  have e1 := (hK2.2 tys.length (cA, .long) (by simp)).2
  have e2 := (hK.2 i0 (cJ, .long) hI).2
  have : cA = cJ := Option.some.inj (e1.symm.trans e2)
  subst this
  exact kk q H1 hP2 hD2 hS2
theorem first_P {D : va_G} {cl : List vw_C} {ws w1 : va_W} {H : Heap} (h : va_P D cl (ws ++ w1) H) : va_P D cl ws H := fun k q hk => h k q (by rw [List.getElem?_append_left (List.getElem?_eq_some_iff.mp hk).1]; exact hk)
theorem first_D {A : Nat → Prop} {ws w1 : va_W} (h : va_D A (ws ++ w1)) : va_D A ws := ⟨fun i j p q hi hj e => h.1 i j p q (by rw [List.getElem?_append_left (List.getElem?_eq_some_iff.mp hi).1]; exact hi) (by rw [List.getElem?_append_left (List.getElem?_eq_some_iff.mp hj).1]; exact hj) e, fun k q hk => h.2 k q (by rw [List.getElem?_append_left (List.getElem?_eq_some_iff.mp hk).1]; exact hk)⟩
theorem cross_D {A : Nat → Prop} {ws w1 : va_W} (h : va_D A (ws ++ w1)) {i j : Nat} {p q : Nat × va_E} (hi : ws[i]? = some p) (hj : w1[j]? = some q) : p.1 ≠ q.1 := by
  intro e
  have hil := (List.getElem?_eq_some_iff.mp hi).1
  have := h.1 i (ws.length + j) p q (by rw [List.getElem?_append_left hil]; exact hi) (by rw [List.getElem?_append_right (Nat.le_add_right _ _), Nat.add_sub_cancel_left]; exact hj) e
  omega
theorem lf_x : Lf Lx 0 := by
  show ∀ q, q < 22 → q ∈ Lx
  decide
theorem lb_x : Lb Lx 0 := by
  show ∀ q ∈ Lx, q < 22
  decide
set_option maxRecDepth 100000 in
set_option maxHeartbeats 4000000 in
/-- YOUR PART: from the entry, for every script of at most 2560 ints, the law comes to its end with true -/
theorem whole_start {p : Program} {e : Env} {s : State} {m : MethodId} {below : List Frame} {meth : Method} {c : Code} (l : Launch) (hflags : l.flags = flags0) {b L : Nat} {xs : Nat → Int32} (hL : L ≤ 2560) (C0 : lw_At p s m meth c b L xs) : W p l e room_1 s m #[Value.ref b] below meth c s.heap [] 0 0 (lw_Z below #[Value.ref b] s) (entryFrame m ([Value.ref b] : List Value).toArray 7) := by
  have hflag : l.stackTraces = false := by
    unfold Launch.stackTraces
    rw [hflags]
    decide
  obtain ⟨hx, hb, hr, hml, hown0, hts0, hXs, hbl, hlocks, hgv⟩ := id C0
  obtain ⟨D, cI, cG, cZ, cJ, ts, hC, hX, hN, hao⟩ := law_K hts0 hgv
  have hown : s.vm.findClass RL = some m.cls := hown0
  have hts : ∀ w ∈ wsL_law, w.before #[Value.ref b] s = true := fun w h => hts0 w (wsL_law_in w h)
  have hK := hC.1
  have hA : ∀ q : Nat, s.heap.size ≤ q → AL s q := fun _ h => h
  have hS : va_S (AL s) s.heap s.heap [] := va_S.rf
  have hP : va_P D vwCl [] s.heap := fun k q h => by simp at h
  have hD : va_D (AL s) [] := ⟨fun i j p q h => by simp at h, fun k q h => by simp at h⟩
  have hl := lv_entry ([.ref b]) (n := 7) (Nat.le_of_ble_eq_true rfl)
  rw [lg_entry_eq]
  generalize (lg_sl ([.ref b]) ++ List.replicate (7 - (lg_sl ([.ref b])).length) Slot.unset).toArray = ls at hl ⊢
  have hl : lv_has ls 7 [(0, .ref b)] := hl
  refine va_new (ci := 6) (fs := [.null, .null, .null, .null, .null, .null, .null, .null, .null, .null, .null, .int 0]) (C := RX6) (T := TX6) (N := 12) hx hb hts inlX6 tyX6 tyX6_ok hown (hts (.classLink RL 8 RX6) (by decide +kernel)) (hts (.instantiable RX6 12) (by decide +kernel)) (hts (.initialized RX6) (by decide +kernel)) hK hP hD hS hA rfl (fun j hj => by rcases (show j = 0 ∨ j = 1 ∨ j = 2 ∨ j = 3 ∨ j = 4 ∨ j = 5 ∨ j = 6 ∨ j = 7 ∨ j = 8 ∨ j = 9 ∨ j = 10 ∨ j = 11 by omega) with rfl | rfl | rfl | rfl | rfl | rfl | rfl | rfl | rfl | rfl | rfl | rfl <;> rfl) (Nat.le_of_ble_eq_true rfl) (Nat.le_of_ble_eq_true rfl) dL_law_0 (fun x0 H hP hD hS => ?_)
  have hP : va_P D vwCl [(x0, .inr (6, [.null, .null, .null, .null, .null, .null, .null, .null, .null, .null, .null, .int 0]))] H := hP
  have hD : va_D (AL s) [(x0, .inr (6, [.null, .null, .null, .null, .null, .null, .null, .null, .null, .null, .null, .int 0]))] := hD
  refine lv_dup hx hb dL_law_3 rfl ?_
  have hFc := va_free (wc := [(x0, .inr (6, [.null, .null, .null, .null, .null, .null, .null, .null, .null, .null, .null, .int 0]))]) hD hS hA [0] rfl
  refine va_callv (va_runI (As := []) (rest := [.ref x0]) ⟨hx, hb, hml, hown, hts⟩ (c_X6_init (D := D) (cI := cI) (cG := cG) (cZ := cZ) (cJ := cJ) (ts := ts) x0 H.size (fun v => JJ 0 v mu0) (start_ok (fun v h => h))) (cwI 0 hts gL_law_X6_init rfl rfl rfl (hts (.initialized RX6) (by decide +kernel)) (hts (.methodLink RL 67 yX6_init) (by decide +kernel)) (hts (.instanceMethod yX6_init) (by decide +kernel)) rfl (by decide +kernel) ⟨Nat.le_of_ble_eq_true rfl, Nat.le_of_ble_eq_true rfl⟩) ⟨fun a U g mk q => by obtain ⟨q0, q1, qP, qD, qO, qC⟩ := q; exact ⟨q0, q1, qP, qD, va_AO.moved (u := U) (U := U.calling g mk a) (Vm.Alike.refl U.vm) qO, qC.blind⟩, fun U hU hW => ⟨rfl, by rw [hU], by rw [hU]; exact hP, hD.weaken (fun _ _ _ _ => trivial), va_AO.moved hW.alike hao, hC.call hS hFc hU hW⟩⟩ rfl rfl hl.1 rfl (lv_room (Nat.le_of_ble_eq_true rfl)) dL_law_4 ⟨Nat.le_of_ble_eq_true rfl, Nat.le_of_ble_eq_true rfl⟩) hS (fun q _ h9 => hFc q h9) hFc (fun z t H1 locs1 ht hvm hq hB hz1 hk1 hS => ?_)
  obtain ⟨ad, u⟩ := z
  obtain ⟨e0, hJJ⟩ := hq
  have e0 : ad 0 = x0 := e0
  have hJJ : JJ 0 u mu0 := hJJ
  obtain ⟨hP1, hD1⟩ := hB
  rw [ht] at hP1
  have hP1 : va_P D vwCl (cW cI cG Lx ad 0 u) H1 := hP1
  have hD : va_D (AL s) (cW cI cG Lx ad 0 u) := hD1.weaken (fun _ q _ g => hFc q.1 g)
  clear hP hFc hD1 hk1 hz1 ht hvm t
  refine W.widen (k := 22) (n := 6372) (Nat.le_of_ble_eq_true rfl) (Nat.le_of_ble_eq_true rfl) ?_
  refine lv_astore_n (lv' := [(1, .ref x0), (0, .ref b)]) hx hb dL_law_7 rfl hl (by decide) rfl (fun ls hl => ?_)
  refine va_new (ci := 7) (fs := [.int 0, .int 0, .null, .null, .int 0, .null, .int 0, .null, .null, .int 0, .null, .null, .int 0, .null, .null, .null, .null, .null, .null, .null, .null, .int 0]) (C := RX7) (T := TX7) (N := 22) hx hb hts inlX7 tyX7 tyX7_ok hown (hts (.classLink RL 68 RX7) (by decide +kernel)) (hts (.instantiable RX7 22) (by decide +kernel)) (hts (.initialized RX7) (by decide +kernel)) hK hP1 hD hS hA rfl (fun j hj => by rcases (show j = 0 ∨ j = 1 ∨ j = 2 ∨ j = 3 ∨ j = 4 ∨ j = 5 ∨ j = 6 ∨ j = 7 ∨ j = 8 ∨ j = 9 ∨ j = 10 ∨ j = 11 ∨ j = 12 ∨ j = 13 ∨ j = 14 ∨ j = 15 ∨ j = 16 ∨ j = 17 ∨ j = 18 ∨ j = 19 ∨ j = 20 ∨ j = 21 by omega) with rfl | rfl | rfl | rfl | rfl | rfl | rfl | rfl | rfl | rfl | rfl | rfl | rfl | rfl | rfl | rfl | rfl | rfl | rfl | rfl | rfl | rfl <;> rfl) (Nat.le_of_ble_eq_true rfl) (Nat.le_of_ble_eq_true rfl) dL_law_8 (fun qm H hP hD hS => ?_)
  refine lv_dup hx hb dL_law_11 rfl ?_
  have hFc : ∀ q, va_A [(qm, .inr (7, [.int 0, .int 0, .null, .null, .int 0, .null, .int 0, .null, .null, .int 0, .null, .null, .int 0, .null, .null, .null, .null, .null, .null, .null, .null, .int 0]))] H.size q → AL s q := fun q h9 => h9.elim (fun ⟨k, e, h9⟩ => (last_D hD).2 k _ h9) (fun h9 => Nat.le_trans hS.1 h9)
  refine va_callv (va_runI (As := []) (rest := [.ref qm]) ⟨hx, hb, hml, hown, hts⟩ (c_X7_init (D := D) (cI := cI) (cG := cG) (cZ := cZ) (cJ := cJ) qm H.size) (cwI 0 hts gL_law_X7_init rfl rfl rfl (hts (.initialized RX7) (by decide +kernel)) (hts (.methodLink RL 70 yX7_init) (by decide +kernel)) (hts (.instanceMethod yX7_init) (by decide +kernel)) rfl (by decide +kernel) ⟨Nat.le_of_ble_eq_true rfl, Nat.le_of_ble_eq_true rfl⟩) ⟨fun a U g mk q => by obtain ⟨q0, q1, qP, qK, qD⟩ := q; exact ⟨q0, q1, qP, va_K.moved (u := U) (U := U.calling g mk a) (Vm.Alike.refl U.vm) qK, qD⟩, fun U hU hW => ⟨rfl, by rw [hU], by rw [hU]; exact last_P hP, va_K.moved hW.alike hK, (last_D hD).weaken (fun _ _ _ _ => trivial)⟩⟩ rfl rfl hl.1 rfl (lv_room (Nat.le_of_ble_eq_true rfl)) dL_law_12 ⟨Nat.le_of_ble_eq_true rfl, Nat.le_of_ble_eq_true rfl⟩) hS (fun q _ h9 => hFc q h9) hFc (fun adm t H1 locs1 ht hvm e1 hB hz1 hk1 hS => ?_)
  have e1 : adm 0 = qm := e1
  obtain ⟨hP1, hD1⟩ := hB
  rw [ht] at hP1
  obtain ⟨hP, hD⟩ := ext_join hP hD hk1 hFc hP1 hD1
  clear hFc hP1 hD1 hk1 hz1 ht hvm t
  refine W.widen (k := 38) (n := 20204) (Nat.le_of_ble_eq_true rfl) (Nat.le_of_ble_eq_true rfl) ?_
  refine lv_astore_n (lv' := [(2, .ref qm), (1, .ref x0), (0, .ref b)]) hx hb dL_law_15 rfl hl (by decide) rfl (fun ls hl => ?_)
  refine lv_iconst (v := 1) hx hb dL_law_16 (by decide) ?_
  refine newJ (n := 1) (N' := 1) 3 hx hb (hts (.arrayClass .long) (by decide +kernel)) rfl hK hP hD hS hA (by decide) rfl (by decide) (Nat.le_of_ble_eq_true rfl) (Nat.le_of_ble_eq_true rfl) dL_law_17 (fun qo H hP hD hS => ?_)
  refine lv_astore_n (lv' := [(3, .ref qo), (2, .ref qm), (1, .ref x0), (0, .ref b)]) hx hb dL_law_19 rfl hl (by decide) rfl (fun ls hl => ?_)
  refine lv_iconst (v := 0) hx hb dL_law_20 (by decide) ?_
  refine lv_istore (lv' := [(4, .int 0), (3, .ref qo), (2, .ref qm), (1, .ref x0), (0, .ref b)]) hx hb dL_law_21 hl (by decide) rfl (fun ls hl => ?_)
  have hPo : va_P D vwCl (wOu cJ qo (fun _ => 0)) H := last_P hP
  have hPm : va_P D vwCl (mW cI cZ adm mu0) H := last_P (first_P hP)
  have hPc : va_P D vwCl (cW cI cG Lx ad 0 u) H := first_P (first_P hP)
  have hwc : WD Lx ad := WD_of (ndL_of rfl) (first_D (first_D hD))
  have hwm : WD mLs adm := WD_of (ndL_of rfl) (last_D (first_D hD))
  have gc : ∀ k ∈ Lx, ∃ (i : Nat) (E : va_E), (cW cI cG Lx ad 0 u)[i]? = some (ad k, E) := fun k hk => by
    obtain ⟨i, hi⟩ := wL_ix hk
    exact ⟨i, _, wL_get hi⟩
  have gm : ∀ k ∈ mLs, ∃ (i : Nat) (E : va_E), (mW cI cZ adm mu0)[i]? = some (adm k, E) := fun k hk => by
    obtain ⟨i, hi⟩ := wL_ix hk
    exact ⟨i, _, wL_get hi⟩
  have hM : LM s qo adm := ⟨hwm, (last_D hD).2 0 _ rfl, fun j hj => by
    obtain ⟨i, E, hi⟩ := gm j hj
    exact ⟨(last_D (first_D hD)).2 i _ hi, fun e9 => by
      have hx9 := hD.1 ((cW cI cG Lx ad 0 u).length + i) ((cW cI cG Lx ad 0 u ++ mW cI cZ adm mu0).length + 0) (adm j, E) (qo, _) (by rw [List.getElem?_append_left (by rw [List.length_append]; have := (List.getElem?_eq_some_iff.mp hi).1; omega), List.getElem?_append_right (Nat.le_add_right _ _), Nat.add_sub_cancel_left]; exact hi) (by rw [List.getElem?_append_right (Nat.le_add_right _ _), Nat.add_sub_cancel_left]; rfl) e9
      have hl9 := (List.getElem?_eq_some_iff.mp hi).1
      rw [List.length_append] at hx9
      omega⟩⟩
  have hJ : LJ s x0 qo adm Lx ad 0 := ⟨hwc, lf_x, lb_x, e0, fun k hk => by
    obtain ⟨i, E, hi⟩ := gc k hk
    refine ⟨(first_D (first_D hD)).2 i _ hi, ?_, fun j hj => ?_⟩
    · have hi2 : (cW cI cG Lx ad 0 u ++ mW cI cZ adm mu0)[i]? = some (ad k, E) := by
        rw [List.getElem?_append_left (List.getElem?_eq_some_iff.mp hi).1]; exact hi
      exact cross_D hD hi2 (j := 0) rfl
    · obtain ⟨i2, E2, hi2⟩ := gm j hj
      exact cross_D (first_D hD) hi hi2⟩
  subst e1
  refine W.widen (k := 100 + 8 * 0) (n := 30000 + 4000 * 0) (Nat.le_of_ble_eq_true rfl) (Nat.le_of_ble_eq_true rfl) ?_
  exact law_loop ⟨C0, hflag, hC, hX, hN, hM⟩ hL (L + 1) 0 (by omega) (by omega) _ _ _ ⟨Lx, ad, 0, u, mu0, fun _ => 0, Nat.zero_le _, hJJ, hJ, hPc, hPm, hPo⟩ hS (lv_sub hl [4, 3, 2, 1, 0] rfl)
