/-! the law's start -/
theorem lf_x : Lf Lx 0 := by
  show ∀ q, q < 22 → q ∈ Lx
  decide
theorem lb_x : Lb Lx 0 := by
  show ∀ q ∈ Lx, q < 22
  decide
set_option maxRecDepth 100000 in
set_option maxHeartbeats 4000000 in
/-- YOUR PART: from the entry, for every script of at most 260 ints, the law comes to its end with true -/
theorem whole_start {p : Program} {e : Env} {s : State} {m : MethodId} {below : List Frame} {meth : Method} {c : Code} (l : Launch) (hflags : l.flags = flags0) {b L : Nat} {xs : Nat → Int32} (hL : L ≤ 260) (C0 : lw_At p s m meth c b L xs) : W p l e room_1 s m #[Value.ref b] below meth c s.heap [] 0 0 (lw_Z below #[Value.ref b] s) (entryFrame m ([Value.ref b] : List Value).toArray 18) := by
  have hflag : l.stackTraces = false := by
    unfold Launch.stackTraces
    rw [hflags]
    decide
  obtain ⟨hx, hb, hr, hml, hown0, hts0, hXs, hbl, hlocks, hgv⟩ := id C0
  obtain ⟨D, cI, cG, cZ, cJ, ts, hC, hX, hN, hao⟩ := law_K hts0 hgv
  have hown : s.vm.findClass RL = some m.cls := hown0
  have hts : ∀ w ∈ wsL_law, w.before #[Value.ref b] s = true := fun w h => hts0 w (wsL_law_in w h)
  have hK := hC.1
  have hA : ∀ q : Nat, s.heap.size ≤ q → AL s q := fun _ h => h
  have hS : va_S (AL s) s.heap s.heap [] := va_S.rf
  have hP : va_P D vwCl [] s.heap := fun k q h => by simp at h
  have hD : va_D (AL s) [] := ⟨fun i j p q h => by simp at h, fun k q h => by simp at h⟩
  have hl := lv_entry ([.ref b]) (n := 18) (Nat.le_of_ble_eq_true rfl)
  rw [lg_entry_eq]
  generalize (lg_sl ([.ref b]) ++ List.replicate (18 - (lg_sl ([.ref b])).length) Slot.unset).toArray = ls at hl ⊢
  have hl : lv_has ls 18 [(0, .ref b)] := hl
  refine va_new (ci := 6) (fs := [.null, .null, .null, .null, .null, .null, .null, .null, .null, .null, .null, .int 0]) (C := RX6) (T := TX6) (N := 12) hx hb hts inlX6 tyX6 tyX6_ok hown (hts (.classLink RL 8 RX6) (by decide +kernel)) (hts (.instantiable RX6 12) (by decide +kernel)) (hts (.initialized RX6) (by decide +kernel)) hK hP hD hS hA rfl (fun j hj => by rcases (show j = 0 ∨ j = 1 ∨ j = 2 ∨ j = 3 ∨ j = 4 ∨ j = 5 ∨ j = 6 ∨ j = 7 ∨ j = 8 ∨ j = 9 ∨ j = 10 ∨ j = 11 by omega) with rfl | rfl | rfl | rfl | rfl | rfl | rfl | rfl | rfl | rfl | rfl | rfl <;> rfl) (Nat.le_of_ble_eq_true rfl) (Nat.le_of_ble_eq_true rfl) dL_law_0 (fun x0 H hP hD hS => ?_)
  have hP : va_P D vwCl [(x0, .inr (6, [.null, .null, .null, .null, .null, .null, .null, .null, .null, .null, .null, .int 0]))] H := hP
  have hD : va_D (AL s) [(x0, .inr (6, [.null, .null, .null, .null, .null, .null, .null, .null, .null, .null, .null, .int 0]))] := hD
  refine lv_dup hx hb dL_law_3 rfl ?_
  have hFc := va_free (wc := [(x0, .inr (6, [.null, .null, .null, .null, .null, .null, .null, .null, .null, .null, .null, .int 0]))]) hD hS hA [0] rfl
  refine va_callv (va_runI (As := []) (rest := [.ref x0]) ⟨hx, hb, hml, hown, hts⟩ (c_X6_init (D := D) (cI := cI) (cG := cG) (cZ := cZ) (cJ := cJ) (ts := ts) x0 H.size (fun v => CI 0 5 0 (fun _ => 0) 0 (fun _ => 0) (fun _ => 0) v) (start_ok (fun v h => h))) (cwI 0 hts gL_law_X6_init rfl rfl rfl (hts (.initialized RX6) (by decide +kernel)) (hts (.methodLink RL 69 yX6_init) (by decide +kernel)) (hts (.instanceMethod yX6_init) (by decide +kernel)) rfl (by decide +kernel) ⟨Nat.le_of_ble_eq_true rfl, Nat.le_of_ble_eq_true rfl⟩) ⟨fun a U g mk q => by obtain ⟨q0, q1, qP, qD, qO, qC⟩ := q; exact ⟨q0, q1, qP, qD, va_AO.moved (u := U) (U := U.calling g mk a) (Vm.Alike.refl U.vm) qO, qC.blind⟩, fun U hU hW => ⟨rfl, by rw [hU], by rw [hU]; exact hP, hD.weaken (fun _ _ _ _ => trivial), va_AO.moved hW.alike hao, hC.call hS hFc hU hW⟩⟩ rfl rfl hl.1 rfl (lv_room (Nat.le_of_ble_eq_true rfl)) dL_law_4 ⟨Nat.le_of_ble_eq_true rfl, Nat.le_of_ble_eq_true rfl⟩) hS (fun q _ h9 => hFc q h9) hFc (fun z t H1 locs1 ht hvm hq hB hz1 hk1 hS => ?_)
  obtain ⟨ad, u⟩ := z
  obtain ⟨e0, hJJ⟩ := hq
  have e0 : ad 0 = x0 := e0
  have hJJ : CI 0 5 0 (fun _ => 0) 0 (fun _ => 0) (fun _ => 0) u := hJJ
  obtain ⟨hP1, hD1⟩ := hB
  rw [ht] at hP1
  have hP1 : va_P D vwCl (cW cI cG Lx ad 0 u) H1 := hP1
  have hD : va_D (AL s) (cW cI cG Lx ad 0 u) := hD1.weaken (fun _ q _ g => hFc q.1 g)
  clear hP hFc hD1 hk1 hz1 ht hvm t
  refine W.widen (k := 22) (n := 6372) (Nat.le_of_ble_eq_true rfl) (Nat.le_of_ble_eq_true rfl) ?_
  refine lv_astore_n (lv' := [(1, .ref x0), (0, .ref b)]) hx hb dL_law_7 rfl hl (by decide) rfl (fun ls hl => ?_)
  refine lv_iconst (v := 5) hx hb dL_law_8 (by decide) ?_
  refine lv_istore_n (lv' := [(2, .int 5), (1, .ref x0), (0, .ref b)]) hx hb dL_law_9 rfl hl (by decide) rfl (fun ls hl => ?_)
  refine lv_iconst (v := 0) hx hb dL_law_10 (by decide) ?_
  refine lv_istore_n (lv' := [(3, .int 0), (2, .int 5), (1, .ref x0), (0, .ref b)]) hx hb dL_law_11 rfl hl (by decide) rfl (fun ls hl => ?_)
  refine lv_iconst (v := 0) hx hb dL_law_12 (by decide) ?_
  refine lv_istore (lv' := [(4, .int 0), (3, .int 0), (2, .int 5), (1, .ref x0), (0, .ref b)]) hx hb dL_law_13 hl (by decide) rfl (fun ls hl => ?_)
  refine lv_iconst (v := 0) hx hb dL_law_15 (by decide) ?_
  refine lv_istore (lv' := [(5, .int 0), (4, .int 0), (3, .int 0), (2, .int 5), (1, .ref x0), (0, .ref b)]) hx hb dL_law_16 hl (by decide) rfl (fun ls hl => ?_)
  refine lv_iconst (v := 0) hx hb dL_law_18 (by decide) ?_
  refine lv_istore (lv' := [(6, .int 0), (5, .int 0), (4, .int 0), (3, .int 0), (2, .int 5), (1, .ref x0), (0, .ref b)]) hx hb dL_law_19 hl (by decide) rfl (fun ls hl => ?_)
  refine lv_iconst (v := 1) hx hb dL_law_21 (by decide) ?_
  refine lv_istore (lv' := [(7, .int 1), (6, .int 0), (5, .int 0), (4, .int 0), (3, .int 0), (2, .int 5), (1, .ref x0), (0, .ref b)]) hx hb dL_law_22 hl (by decide) rfl (fun ls hl => ?_)
  have hA9 : cA Lx ad s.heap.size = AL s := cA_AL (fun k hk => by
    obtain ⟨i, hi⟩ := wL_ix hk
    exact hD.2 i _ (wL_get (f := _) hi))
  have hwc : WD Lx ad := WD_of (ndL_of rfl) hD
  have hbA : ¬ AL s b := Nat.not_le.mpr hbl
  have hC9 : CX D cI cG cZ cJ ts (cA Lx ad s.heap.size) s s.heap := by rw [hA9]; exact hC
  have hS9 : va_S (cA Lx ad s.heap.size) s.heap H1 locs1 := by rw [hA9]; exact hS
  subst e0
  have fin : ∀ T : Nat, T ≤ 230 → W p l e room_1 s m #[Value.ref b] below meth c H1 locs1 22 6372 (lw_Z below #[Value.ref b] s) (F0 m 54 ls [.int (nI T)]) := fun T hT => by
    refine lv_istore (lv' := [(8, .int (nI T)), (7, .int 1), (6, .int 0), (5, .int 0), (4, .int 0), (3, .int 0), (2, .int 5), (1, .ref (ad 0)), (0, .ref b)]) hx hb dL_law_54 hl (by decide) rfl (fun ls hl => ?_)
    refine lv_iconst (v := 0) hx hb dL_law_56 (by decide) ?_
    refine lv_istore (lv' := [(9, .int 0), (8, .int (nI T)), (7, .int 1), (6, .int 0), (5, .int 0), (4, .int 0), (3, .int 0), (2, .int 5), (1, .ref (ad 0)), (0, .ref b)]) hx hb dL_law_57 hl (by decide) rfl (fun ls hl => ?_)
    refine W.widen (k := 100 + 60 * 0) (n := 30000 + 6000 * 0) (Nat.le_of_ble_eq_true rfl) (Nat.le_of_ble_eq_true rfl) ?_
    exact law_loop hXs hbl hL hflag hX hN hT T 0 (by omega) Lx ad 0 5 0 0 _ _ _ 0 0 u H1 locs1 ls ⟨hx, hb, hml, hown, hts, hr, hlocks, hwc, hC9⟩ lf_x lb_x hA9 (Nat.zero_le _) hJJ hP1 hS9 (lv_sub hl [9, 8, 7, 6, 5, 4, 3, 2, 1, 0] rfl)
  refine lv_aload_n hx hb dL_law_24 rfl (lv_at hl 7 rfl) ?_
  refine va_slen hx hb hXs hbl hbA hS dL_law_25 ?_
  refine lv_bipush (v := 60) hx hb dL_law_26 (by decide) ?_
  refine lv_icmp_ge (tgt := 37) hx hb dL_law_28 (by decide) (fun q1 => ?_) (fun _ => ?_)
  · refine lv_aload_n hx hb dL_law_37 rfl (lv_at hl 7 rfl) ?_
    refine va_slen hx hb hXs hbl hbA hS dL_law_38 ?_
    refine lv_bipush (v := 110) hx hb dL_law_39 (by decide) ?_
    refine lv_icmp_ge (tgt := 51) hx hb dL_law_41 (by decide) (fun q2 => ?_) (fun q2 => ?_)
    · refine lv_sipush (v := 230) hx hb dL_law_51 (by decide) ?_
      exact fin 230 (Nat.le_refl _)
    · refine lv_iconst (v := 2) hx hb dL_law_44 (by decide) ?_
      refine lv_aload_n hx hb dL_law_45 rfl (lv_at hl 7 rfl) ?_
      refine va_slen hx hb hXs hbl hbA hS dL_law_46 ?_
      refine lv_imul hx hb dL_law_47 ?_
      refine lv_goto (tgt := 54) hx hb dL_law_48 (by decide) ?_
      have h110 : L < 110 := Nat.not_le.mp (fun g => q2 (show nI 110 ≤ nI L from nI_le g (by omega)))
      rw [show (2 : Int32) * Int32.ofNat L = nI (2 * L) from two_mul L]
      exact fin (2 * L) (by omega)
  · refine lv_sipush (v := 200) hx hb dL_law_31 (by decide) ?_
    refine lv_goto (tgt := 54) hx hb dL_law_34 (by decide) ?_
    exact fin 200 (by omega)
