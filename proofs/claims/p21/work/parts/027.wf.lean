set_option maxRecDepth 100000 in
set_option maxHeartbeats 4000000 in
theorem w_X6_prime {p : Program} {l : Launch} {e : Env} {s : State} {m : MethodId} {args : Array Value} {below : List Frame} {meth : Method} {c : Code} {D : va_G} {cI cG cZ cJ : ClassId} {ts : Nat × Nat} {L : List Nat} {ad : Nat → Nat} {al : Nat} (hflag : l.stackTraces = false) (hT : ∀ x ∈ c.exceptionTable.toList, False) (hX : XW s) (hL : Lf L al) (X : FX RX6 wsX6_prime cX6_prime 3 (some .int) D cI cG cZ cJ ts L ad p s m args meth c) (a1 : Int32) (Q : Int32 → St → Prop) (QX : String → St → Prop) (u : St) (H : Heap) (locs : List Loc) (ls : Array Slot) (h : f_X6_prime al a1 u Q QX) (hP : va_P D vwCl (cW cI cG L ad al u) H) (hS : va_S (cA L ad s.heap.size) s.heap H locs) (hl : lv_has ls 3 [(0, .ref (ad 0)), (1, .int a1)]) : W p l e (headSpec wsX6_prime { frames := 6, cells := 1, slots := 6, locals := 138 }).room s m args below meth c H locs 0 0 (vx_MQ below (va_Qi Q (fun u9 t => va_P D vwCl (cW cI cG L ad al u9) t.heap) (cA L ad s.heap.size)) (vx_X (fun _ => True) (fun E u9 t => QX E u9 ∧ va_P D vwCl (cW cI cG L ad al u9) t.heap) (cA L ad s.heap.size)) args s 1 6 (cA L ad s.heap.size)) (F0 m 0 ls []) := by
  obtain ⟨hx, hb, hml, hown, hts, hr, hlocks, hwd, hC⟩ := id X
  have hK := hC.1
  have hout : ∀ (q : Nat), ∀ x ∈ c.exceptionTable.toList, covers x q = false := fun _ x hx => (hT x hx).elim
  have m0 : 0 ∈ L := hL 0 (by omega)
  obtain ⟨i0, hi0⟩ := wL_ix m0
  have m1 : 1 ∈ L := hL 1 (by omega)
  obtain ⟨i1, hi1⟩ := wL_ix m1
  have m4 : 4 ∈ L := hL 4 (by omega)
  obtain ⟨i4, hi4⟩ := wL_ix m4
  have m12 : 12 ∈ L := hL 12 (by omega)
  obtain ⟨i12, hi12⟩ := wL_ix m12
  have lk0 := hts (.fieldLink RX6 14 "FormForge" "field" "LFormForge$Field;") (by decide +kernel)
  have lk1 := hts (.fieldLink RX6 80 "FormForge$Field" "p" "I") (by decide +kernel)
  have lk2 := hts (.fieldLink RX6 69 "FormForge" "told" "I") (by decide +kernel)
  have lk3 := hts (.fieldLink RX6 37 "FormForge" "group" "LFormForge$Group;") (by decide +kernel)
  have lk4 := hts (.fieldLink RX6 66 "FormForge" "leftForms" "[I") (by decide +kernel)
  have lk5 := hts (.classLink RX6 73 "java/lang/IllegalArgumentException") (by decide +kernel)
  have lk6 := hts (.initialized "java/lang/IllegalArgumentException") (by decide +kernel)
  have n2 : ∀ w ∈ wsX20, w ∈ wsX6_prime := by decide +kernel
  have n6 : ∀ w ∈ wsX60, w ∈ wsX6_prime := by decide +kernel
  obtain ⟨sa0, hs0⟩ := hC.2.2.1 _ (List.mem_of_getElem? (i := 0) rfl)
  unfold f_X6_prime at h
  refine lv_iload_n hx hb dX6_prime_0 rfl (lv_at hl 1 rfl) ?_
  refine lv_iconst (v := 2) hx hb dX6_prime_1 (by decide) ?_
  refine lv_icmp_eq (tgt := 25) hx hb dX6_prime_2 (by decide) (fun c1 => ?_) (fun c1 => ?_)
  · replace h := h.1 c1
    refine lv_aload_n hx hb dX6_prime_25 rfl (lv_at hl 0 rfl) ?_
    refine va_get (C := RX6) (T := TX6) (N := 12) hx hb hts n6 hown hK hP i0 (cg_0 hi0) rfl 0 (by decide) lk0 (fun _ h9 => h9) rfl dX6_prime_26 ?_
    refine va_get (C := RX2) (T := TX2) (N := 1) hx hb hts n2 hown hK hP i1 (cg_1 hi1) rfl 0 (by decide) lk1 (fun _ h9 => h9) rfl dX6_prime_29 ?_
    refine lv_topi (fun v2 ev2 => ?_)
    replace h := h v2 ev2
    refine lv_istore_n (lv' := [(2, .int v2), (0, .ref (ad 0)), (1, .int a1)]) hx hb dX6_prime_32 rfl hl (by decide) rfl (fun ls hl => ?_)
    refine lv_aload_n hx hb dX6_prime_33 rfl (lv_at hl 1 rfl) ?_
    refine va_get (C := RX6) (T := TX6) (N := 12) hx hb hts n6 hown hK hP i0 (cg_0 hi0) rfl 0 (by decide) lk0 (fun _ h9 => h9) rfl dX6_prime_34 ?_
    refine lv_iload_n hx hb dX6_prime_37 rfl (lv_at hl 2 rfl) ?_
    refine va_put (C := RX2) (T := TX2) (N := 1) (ty := .int) (v := .int a1) hx hb hts n2 tyX2 tyX2_ok nmX2 hown hK hP (cD hwd) hS i1 (cg_1 hi1) rfl 0 (by decide) lk1 (fun _ h9 => h9) rfl (by decide +kernel) rfl rfl (Nat.le_of_ble_eq_true rfl) dX6_prime_38 (fun H locs hP _ hS => ?_)
    replace hP := cu_p hwd hi1 hP
    obtain ⟨u3, eu3⟩ : ∃ y : St, y = su u 0 0 a1 := ⟨_, rfl⟩
    rw [← eu3] at hP
    replace h := h u3 eu3
    refine lv_aload_n hx hb dX6_prime_41 rfl (lv_at hl 1 rfl) ?_
    refine lv_iconst (v := 0) hx hb dX6_prime_42 (by decide) ?_
    refine va_put (C := RX6) (T := TX6) (N := 12) (ty := .int) (v := .int 0) hx hb hts n6 tyX6 tyX6_ok nmX6 hown hK hP (cD hwd) hS i0 (cg_0 hi0) rfl 11 (by decide) lk2 (fun _ h9 => h9) rfl (by decide +kernel) rfl rfl (Nat.le_of_ble_eq_true rfl) dX6_prime_43 (fun H locs hP _ hS => ?_)
    replace hP := cu_told hwd hi0 hP
    obtain ⟨u4, eu4⟩ : ∃ y : St, y = su u3 0 7 0 := ⟨_, rfl⟩
    rw [← eu4] at hP
    replace h := h u4 eu4
    refine lv_aload_n hx hb dX6_prime_46 rfl (lv_at hl 1 rfl) ?_
    refine va_get (C := RX6) (T := TX6) (N := 12) hx hb hts n6 hown hK hP i0 (cg_0 hi0) rfl 3 (by decide) lk3 (fun _ h9 => h9) rfl dX6_prime_47 ?_
    refine cc_v (va_runV (C := RX4) (As := []) (rest := []) ⟨hx, hb, hml, hown, hts⟩ (c_X4_forget hL hwd H.size u4 _ h) (cwV 0 hts gX6_prime_X4_forget rfl rfl rfl (by decide +kernel) ⟨Nat.le_of_ble_eq_true rfl, Nat.le_of_ble_eq_true rfl⟩) (pcV hC hP hS (cg_4 hi4) rfl) rfl rfl hl.1 rfl (lv_room (Nat.le_of_ble_eq_true rfl)) dX6_prime_50 ⟨Nat.le_of_ble_eq_true rfl, Nat.le_of_ble_eq_true rfl⟩) hS (cA_mono hS.1) (fun u5 H locs h hP hS => ?_)
    refine lv_aload_n hx hb dX6_prime_53 rfl (lv_at hl 1 rfl) ?_
    refine va_get (C := RX6) (T := TX6) (N := 12) hx hb hts n6 hown hK hP i0 (cg_0 hi0) rfl 10 (by decide) lk4 (fun _ h9 => h9) rfl dX6_prime_54 ?_
    refine lv_iconst (v := 0) hx hb dX6_prime_57 (by decide) ?_
    refine cc_v (va_runS (As := [.ref (ad 12), .int 0]) (rest := []) ⟨hx, hb, hml, hown, hts⟩ (c_J7_fill_53178 hL.g (Or.inl ⟨by decide, by decide⟩) m12 hwd H.size u5 0 _ h) (va_cwS 2 hts gX6_prime_J7_fill_53178 rfl rfl rfl (by decide +kernel) ⟨Nat.le_of_ble_eq_true rfl, Nat.le_of_ble_eq_true rfl⟩) (pcS hC hP hS) rfl rfl hl.1 rfl (lv_room (Nat.le_of_ble_eq_true rfl)) dX6_prime_58 ⟨Nat.le_of_ble_eq_true rfl, Nat.le_of_ble_eq_true rfl⟩) hS (cA_mono hS.1) (fun u6 H locs h hP hS => ?_)
    refine lv_iload_n hx hb dX6_prime_61 rfl (lv_at hl 0 rfl) ?_
    refine W.widen (k := 1) (n := 6) (by decide) (by decide) ?_
    exact vx_ret (W.iret (v := v2) hx hb hr (fun t ht hW => ⟨⟨_, _, rfl, h, by show va_P _ _ _ t.heap; rw [ht]; exact hP⟩, hS.F ht⟩) hS.2.2 dX6_prime_62)
  · replace h := h.2 c1
    refine lv_iload_n hx hb dX6_prime_5 rfl (lv_at hl 1 rfl) ?_
    refine lv_iconst (v := 3) hx hb dX6_prime_6 (by decide) ?_
    refine lv_icmp_eq (tgt := 25) hx hb dX6_prime_7 (by decide) (fun c7 => ?_) (fun c7 => ?_)
    · replace h := h.1 c7
      refine lv_aload_n hx hb dX6_prime_25 rfl (lv_at hl 0 rfl) ?_
      refine va_get (C := RX6) (T := TX6) (N := 12) hx hb hts n6 hown hK hP i0 (cg_0 hi0) rfl 0 (by decide) lk0 (fun _ h9 => h9) rfl dX6_prime_26 ?_
      refine va_get (C := RX2) (T := TX2) (N := 1) hx hb hts n2 hown hK hP i1 (cg_1 hi1) rfl 0 (by decide) lk1 (fun _ h9 => h9) rfl dX6_prime_29 ?_
      refine lv_topi (fun v8 ev8 => ?_)
      replace h := h v8 ev8
      refine lv_istore_n (lv' := [(2, .int v8), (0, .ref (ad 0)), (1, .int a1)]) hx hb dX6_prime_32 rfl hl (by decide) rfl (fun ls hl => ?_)
      refine lv_aload_n hx hb dX6_prime_33 rfl (lv_at hl 1 rfl) ?_
      refine va_get (C := RX6) (T := TX6) (N := 12) hx hb hts n6 hown hK hP i0 (cg_0 hi0) rfl 0 (by decide) lk0 (fun _ h9 => h9) rfl dX6_prime_34 ?_
      refine lv_iload_n hx hb dX6_prime_37 rfl (lv_at hl 2 rfl) ?_
      refine va_put (C := RX2) (T := TX2) (N := 1) (ty := .int) (v := .int a1) hx hb hts n2 tyX2 tyX2_ok nmX2 hown hK hP (cD hwd) hS i1 (cg_1 hi1) rfl 0 (by decide) lk1 (fun _ h9 => h9) rfl (by decide +kernel) rfl rfl (Nat.le_of_ble_eq_true rfl) dX6_prime_38 (fun H locs hP _ hS => ?_)
      replace hP := cu_p hwd hi1 hP
      obtain ⟨u9, eu9⟩ : ∃ y : St, y = su u 0 0 a1 := ⟨_, rfl⟩
      rw [← eu9] at hP
      replace h := h u9 eu9
      refine lv_aload_n hx hb dX6_prime_41 rfl (lv_at hl 1 rfl) ?_
      refine lv_iconst (v := 0) hx hb dX6_prime_42 (by decide) ?_
      refine va_put (C := RX6) (T := TX6) (N := 12) (ty := .int) (v := .int 0) hx hb hts n6 tyX6 tyX6_ok nmX6 hown hK hP (cD hwd) hS i0 (cg_0 hi0) rfl 11 (by decide) lk2 (fun _ h9 => h9) rfl (by decide +kernel) rfl rfl (Nat.le_of_ble_eq_true rfl) dX6_prime_43 (fun H locs hP _ hS => ?_)
      replace hP := cu_told hwd hi0 hP
      obtain ⟨u10, eu10⟩ : ∃ y : St, y = su u9 0 7 0 := ⟨_, rfl⟩
      rw [← eu10] at hP
      replace h := h u10 eu10
      refine lv_aload_n hx hb dX6_prime_46 rfl (lv_at hl 1 rfl) ?_
      refine va_get (C := RX6) (T := TX6) (N := 12) hx hb hts n6 hown hK hP i0 (cg_0 hi0) rfl 3 (by decide) lk3 (fun _ h9 => h9) rfl dX6_prime_47 ?_
      refine cc_v (va_runV (C := RX4) (As := []) (rest := []) ⟨hx, hb, hml, hown, hts⟩ (c_X4_forget hL hwd H.size u10 _ h) (cwV 0 hts gX6_prime_X4_forget rfl rfl rfl (by decide +kernel) ⟨Nat.le_of_ble_eq_true rfl, Nat.le_of_ble_eq_true rfl⟩) (pcV hC hP hS (cg_4 hi4) rfl) rfl rfl hl.1 rfl (lv_room (Nat.le_of_ble_eq_true rfl)) dX6_prime_50 ⟨Nat.le_of_ble_eq_true rfl, Nat.le_of_ble_eq_true rfl⟩) hS (cA_mono hS.1) (fun u11 H locs h hP hS => ?_)
      refine lv_aload_n hx hb dX6_prime_53 rfl (lv_at hl 1 rfl) ?_
      refine va_get (C := RX6) (T := TX6) (N := 12) hx hb hts n6 hown hK hP i0 (cg_0 hi0) rfl 10 (by decide) lk4 (fun _ h9 => h9) rfl dX6_prime_54 ?_
      refine lv_iconst (v := 0) hx hb dX6_prime_57 (by decide) ?_
      refine cc_v (va_runS (As := [.ref (ad 12), .int 0]) (rest := []) ⟨hx, hb, hml, hown, hts⟩ (c_J7_fill_53178 hL.g (Or.inl ⟨by decide, by decide⟩) m12 hwd H.size u11 0 _ h) (va_cwS 2 hts gX6_prime_J7_fill_53178 rfl rfl rfl (by decide +kernel) ⟨Nat.le_of_ble_eq_true rfl, Nat.le_of_ble_eq_true rfl⟩) (pcS hC hP hS) rfl rfl hl.1 rfl (lv_room (Nat.le_of_ble_eq_true rfl)) dX6_prime_58 ⟨Nat.le_of_ble_eq_true rfl, Nat.le_of_ble_eq_true rfl⟩) hS (cA_mono hS.1) (fun u12 H locs h hP hS => ?_)
      refine lv_iload_n hx hb dX6_prime_61 rfl (lv_at hl 0 rfl) ?_
      refine W.widen (k := 1) (n := 6) (by decide) (by decide) ?_
      exact vx_ret (W.iret (v := v8) hx hb hr (fun t ht hW => ⟨⟨_, _, rfl, h, by show va_P _ _ _ t.heap; rw [ht]; exact hP⟩, hS.F ht⟩) hS.2.2 dX6_prime_62)
    · replace h := h.2 c7
      refine lv_iload_n hx hb dX6_prime_10 rfl (lv_at hl 1 rfl) ?_
      refine lv_iconst (v := 5) hx hb dX6_prime_11 (by decide) ?_
      refine lv_icmp_eq (tgt := 25) hx hb dX6_prime_12 (by decide) (fun c13 => ?_) (fun c13 => ?_)
      · replace h := h.1 c13
        refine lv_aload_n hx hb dX6_prime_25 rfl (lv_at hl 0 rfl) ?_
        refine va_get (C := RX6) (T := TX6) (N := 12) hx hb hts n6 hown hK hP i0 (cg_0 hi0) rfl 0 (by decide) lk0 (fun _ h9 => h9) rfl dX6_prime_26 ?_
        refine va_get (C := RX2) (T := TX2) (N := 1) hx hb hts n2 hown hK hP i1 (cg_1 hi1) rfl 0 (by decide) lk1 (fun _ h9 => h9) rfl dX6_prime_29 ?_
        refine lv_topi (fun v14 ev14 => ?_)
        replace h := h v14 ev14
        refine lv_istore_n (lv' := [(2, .int v14), (0, .ref (ad 0)), (1, .int a1)]) hx hb dX6_prime_32 rfl hl (by decide) rfl (fun ls hl => ?_)
        refine lv_aload_n hx hb dX6_prime_33 rfl (lv_at hl 1 rfl) ?_
        refine va_get (C := RX6) (T := TX6) (N := 12) hx hb hts n6 hown hK hP i0 (cg_0 hi0) rfl 0 (by decide) lk0 (fun _ h9 => h9) rfl dX6_prime_34 ?_
        refine lv_iload_n hx hb dX6_prime_37 rfl (lv_at hl 2 rfl) ?_
        refine va_put (C := RX2) (T := TX2) (N := 1) (ty := .int) (v := .int a1) hx hb hts n2 tyX2 tyX2_ok nmX2 hown hK hP (cD hwd) hS i1 (cg_1 hi1) rfl 0 (by decide) lk1 (fun _ h9 => h9) rfl (by decide +kernel) rfl rfl (Nat.le_of_ble_eq_true rfl) dX6_prime_38 (fun H locs hP _ hS => ?_)
        replace hP := cu_p hwd hi1 hP
        obtain ⟨u15, eu15⟩ : ∃ y : St, y = su u 0 0 a1 := ⟨_, rfl⟩
        rw [← eu15] at hP
        replace h := h u15 eu15
        refine lv_aload_n hx hb dX6_prime_41 rfl (lv_at hl 1 rfl) ?_
        refine lv_iconst (v := 0) hx hb dX6_prime_42 (by decide) ?_
        refine va_put (C := RX6) (T := TX6) (N := 12) (ty := .int) (v := .int 0) hx hb hts n6 tyX6 tyX6_ok nmX6 hown hK hP (cD hwd) hS i0 (cg_0 hi0) rfl 11 (by decide) lk2 (fun _ h9 => h9) rfl (by decide +kernel) rfl rfl (Nat.le_of_ble_eq_true rfl) dX6_prime_43 (fun H locs hP _ hS => ?_)
        replace hP := cu_told hwd hi0 hP
        obtain ⟨u16, eu16⟩ : ∃ y : St, y = su u15 0 7 0 := ⟨_, rfl⟩
        rw [← eu16] at hP
        replace h := h u16 eu16
        refine lv_aload_n hx hb dX6_prime_46 rfl (lv_at hl 1 rfl) ?_
        refine va_get (C := RX6) (T := TX6) (N := 12) hx hb hts n6 hown hK hP i0 (cg_0 hi0) rfl 3 (by decide) lk3 (fun _ h9 => h9) rfl dX6_prime_47 ?_
        refine cc_v (va_runV (C := RX4) (As := []) (rest := []) ⟨hx, hb, hml, hown, hts⟩ (c_X4_forget hL hwd H.size u16 _ h) (cwV 0 hts gX6_prime_X4_forget rfl rfl rfl (by decide +kernel) ⟨Nat.le_of_ble_eq_true rfl, Nat.le_of_ble_eq_true rfl⟩) (pcV hC hP hS (cg_4 hi4) rfl) rfl rfl hl.1 rfl (lv_room (Nat.le_of_ble_eq_true rfl)) dX6_prime_50 ⟨Nat.le_of_ble_eq_true rfl, Nat.le_of_ble_eq_true rfl⟩) hS (cA_mono hS.1) (fun u17 H locs h hP hS => ?_)
        refine lv_aload_n hx hb dX6_prime_53 rfl (lv_at hl 1 rfl) ?_
        refine va_get (C := RX6) (T := TX6) (N := 12) hx hb hts n6 hown hK hP i0 (cg_0 hi0) rfl 10 (by decide) lk4 (fun _ h9 => h9) rfl dX6_prime_54 ?_
        refine lv_iconst (v := 0) hx hb dX6_prime_57 (by decide) ?_
        refine cc_v (va_runS (As := [.ref (ad 12), .int 0]) (rest := []) ⟨hx, hb, hml, hown, hts⟩ (c_J7_fill_53178 hL.g (Or.inl ⟨by decide, by decide⟩) m12 hwd H.size u17 0 _ h) (va_cwS 2 hts gX6_prime_J7_fill_53178 rfl rfl rfl (by decide +kernel) ⟨Nat.le_of_ble_eq_true rfl, Nat.le_of_ble_eq_true rfl⟩) (pcS hC hP hS) rfl rfl hl.1 rfl (lv_room (Nat.le_of_ble_eq_true rfl)) dX6_prime_58 ⟨Nat.le_of_ble_eq_true rfl, Nat.le_of_ble_eq_true rfl⟩) hS (cA_mono hS.1) (fun u18 H locs h hP hS => ?_)
        refine lv_iload_n hx hb dX6_prime_61 rfl (lv_at hl 0 rfl) ?_
        refine W.widen (k := 1) (n := 6) (by decide) (by decide) ?_
        exact vx_ret (W.iret (v := v14) hx hb hr (fun t ht hW => ⟨⟨_, _, rfl, h, by show va_P _ _ _ t.heap; rw [ht]; exact hP⟩, hS.F ht⟩) hS.2.2 dX6_prime_62)
      · replace h := h.2 c13
        exact vx_throwS hx hb hflag hown (by decide +kernel) (by decide +kernel) lk5 lk6 hs0 (hat_X6_prime_77 hts hX) hgood_77 hC.2.2.2.1 hC.2.2.2.2.1 hS (hl.1.trans hml.symm) dX6_prime_15 dX6_prime_18 dX6_prime_19 dX6_prime_21 dX6_prime_24 (hout _) (Nat.le_of_ble_eq_true rfl) (Nat.le_of_ble_eq_true rfl) (Nat.le_of_ble_eq_true rfl) (Nat.le_of_ble_eq_true rfl) hlocks (fun t ha hz hq => ⟨_, trivial, ⟨h, hP.kept (fun k q hk => hq _ (hP k q hk).lt)⟩, vaF_more hS hz hq⟩) hS.2.2 (by decide) (by decide)
set_option maxRecDepth 100000 in
set_option maxHeartbeats 4000000 in
theorem c_X6_prime {l : Launch} {D : va_G} {cI cG cZ cJ : ClassId} {ts : Nat × Nat} {L : List Nat} {ad : Nat → Nat} {al : Nat} (hflag : l.stackTraces = false) (hL : Lf L al) (hwd : WD L ad) (sz : Nat) (u : St) (a1 : Int32) (Q : Int32 → St → Prop) (QX : String → St → Prop) (h : f_X6_prime al a1 u Q QX) : vx_Met l yX6_prime wsX6_prime ({ frames := 6, cells := 1, slots := 6, locals := 138 }) (va_Pc [.ref (ad 0), .int a1] (PCX D cI cG cZ cJ ts L ad al sz u)) (va_Qi Q (fun u9 t => va_P D vwCl (cW cI cG L ad al u9) t.heap) (cA L ad sz)) (vx_X (fun _ => True) (fun E u9 t => QX E u9 ∧ va_P D vwCl (cW cI cG L ad al u9) t.heap) (cA L ad sz)) 1 6 (cA L ad sz) := by
  refine vx_ofW (cc := cX6_prime) (maxL := 3) (ret := (some .int)) (by decide) rfl ?_
  intro p e s m args below meth c s₁ B hml hT hv
  obtain ⟨rfl, ⟨hsz, hP, hC⟩, hX⟩ := hv
  subst hsz
  have X : FX RX6 wsX6_prime cX6_prime 3 (some .int) D cI cG cZ cJ ts L ad p s m _ meth c := ⟨B.exec, B.bytes, hml, findClass_of_methodNamed B.named, atoms_spec (ws := wsX6_prime) B.pre, B.returns, B.notSynchronized, hwd, hC⟩
  have hl := lv_entry ([.ref (ad 0), .int a1]) (n := 3) (Nat.le_of_ble_eq_true rfl)
  rw [lg_entry_eq]
  generalize (lg_sl ([.ref (ad 0), .int a1]) ++ List.replicate (3 - (lg_sl ([.ref (ad 0), .int a1])).length) Slot.unset).toArray = ls at hl ⊢
  exact w_X6_prime hflag hT hX hL X a1 Q QX u _ _ _ h hP va_S.rf hl
set_option maxRecDepth 100000 in
set_option maxHeartbeats 4000000 in
theorem w_X6_form {p : Program} {l : Launch} {e : Env} {s : State} {m : MethodId} {args : Array Value} {below : List Frame} {meth : Method} {c : Code} {D : va_G} {cI cG cZ cJ : ClassId} {ts : Nat × Nat} {L : List Nat} {ad : Nat → Nat} {al : Nat} (hflag : l.stackTraces = false) (hT : ∀ x ∈ c.exceptionTable.toList, False) (hX : XW s) (hL : Lf L al) (X : FX RX6 wsX6_form cX6_form 3 (some .int) D cI cG cZ cJ ts L ad p s m args meth c) (a1 : Int32) (a2 : Int32) (Q : Int32 → St → Prop) (QX : String → St → Prop) (u : St) (H : Heap) (locs : List Loc) (ls : Array Slot) (h : f_X6_form al a1 a2 u Q QX) (hP : va_P D vwCl (cW cI cG L ad al u) H) (hS : va_S (cA L ad s.heap.size) s.heap H locs) (hl : lv_has ls 3 [(0, .ref (ad 0)), (1, .int a1), (2, .int a2)]) : W p l e (headSpec wsX6_form { frames := 6, cells := 1, slots := 6, locals := 90 }).room s m args below meth c H locs 0 0 (vx_MQ below (va_Qi Q (fun u9 t => va_P D vwCl (cW cI cG L ad al u9) t.heap) (cA L ad s.heap.size)) (vx_X (fun _ => True) (fun E u9 t => QX E u9 ∧ va_P D vwCl (cW cI cG L ad al u9) t.heap) (cA L ad s.heap.size)) args s 1 6 (cA L ad s.heap.size)) (F0 m 0 ls []) := by
  obtain ⟨hx, hb, hml, hown, hts, hr, hlocks, hwd, hC⟩ := id X
  have hK := hC.1
  have hout : ∀ (q : Nat), ∀ x ∈ c.exceptionTable.toList, covers x q = false := fun _ x hx => (hT x hx).elim
  have m0 : 0 ∈ L := hL 0 (by omega)
  obtain ⟨i0, hi0⟩ := wL_ix m0
  have m1 : 1 ∈ L := hL 1 (by omega)
  obtain ⟨i1, hi1⟩ := wL_ix m1
  have m7 : 7 ∈ L := hL 7 (by omega)
  obtain ⟨i7, hi7⟩ := wL_ix m7
  have m8 : 8 ∈ L := hL 8 (by omega)
  obtain ⟨i8, hi8⟩ := wL_ix m8
  have lk0 := hts (.classLink RX6 73 "java/lang/IllegalArgumentException") (by decide +kernel)
  have lk1 := hts (.initialized "java/lang/IllegalArgumentException") (by decide +kernel)
  have lk2 := hts (.fieldLink RX6 14 "FormForge" "field" "LFormForge$Field;") (by decide +kernel)
  have lk3 := hts (.fieldLink RX6 69 "FormForge" "told" "I") (by decide +kernel)
  have lk4 := hts (.fieldLink RX6 50 "FormForge" "degrees" "[I") (by decide +kernel)
  have lk5 := hts (.fieldLink RX6 54 "FormForge" "codes" "[I") (by decide +kernel)
  have lk6 := hts (.classLink RX6 102 "java/lang/IllegalStateException") (by decide +kernel)
  have lk7 := hts (.initialized "java/lang/IllegalStateException") (by decide +kernel)
  have n6 : ∀ w ∈ wsX60, w ∈ wsX6_form := by decide +kernel
  obtain ⟨sa1, hs1⟩ := hC.2.2.1 _ (List.mem_of_getElem? (i := 1) rfl)
  obtain ⟨sa2, hs2⟩ := hC.2.2.1 _ (List.mem_of_getElem? (i := 2) rfl)
  unfold f_X6_form at h
  refine lv_iload_n hx hb dX6_form_0 rfl (lv_at hl 1 rfl) ?_
  refine cc_i (va_runS (As := [.int a1]) (rest := []) ⟨hx, hb, hml, hown, hts⟩ (c_X6_isDegree hL hwd H.size u a1 _ h) (va_cwS 1 hts gX6_form_X6_isDegree rfl rfl rfl (by decide +kernel) ⟨Nat.le_of_ble_eq_true rfl, Nat.le_of_ble_eq_true rfl⟩) (pcS hC hP hS) rfl rfl hl.1 rfl (lv_room (Nat.le_of_ble_eq_true rfl)) dX6_form_1 ⟨Nat.le_of_ble_eq_true rfl, Nat.le_of_ble_eq_true rfl⟩) hS (cA_mono hS.1) (fun v1 u2 H locs h hP hS => ?_)
  refine lv_if_eq (tgt := 25) hx hb dX6_form_4 (by decide) (fun c3 => ?_) (fun c3 => ?_)
  · replace h := h.1 c3
    exact vx_throwS hx hb hflag hown (by decide +kernel) (by decide +kernel) lk0 lk1 hs1 (hat_X6_form_77 hts hX) hgood_77 hC.2.2.2.1 hC.2.2.2.2.1 hS (hl.1.trans hml.symm) dX6_form_25 dX6_form_28 dX6_form_29 dX6_form_31 dX6_form_34 (hout _) (Nat.le_of_ble_eq_true rfl) (Nat.le_of_ble_eq_true rfl) (Nat.le_of_ble_eq_true rfl) (Nat.le_of_ble_eq_true rfl) hlocks (fun t ha hz hq => ⟨_, trivial, ⟨h, hP.kept (fun k q hk => hq _ (hP k q hk).lt)⟩, vaF_more hS hz hq⟩) hS.2.2 (by decide) (by decide)
  · replace h := h.2 c3
    refine lv_iload_n hx hb dX6_form_7 rfl (lv_at hl 2 rfl) ?_
    refine lv_if_lt (tgt := 25) hx hb dX6_form_8 (by decide) (fun c4 => ?_) (fun c4 => ?_)
    · replace h := h.1 c4
      exact vx_throwS hx hb hflag hown (by decide +kernel) (by decide +kernel) lk0 lk1 hs1 (hat_X6_form_77 hts hX) hgood_77 hC.2.2.2.1 hC.2.2.2.2.1 hS (hl.1.trans hml.symm) dX6_form_25 dX6_form_28 dX6_form_29 dX6_form_31 dX6_form_34 (hout _) (Nat.le_of_ble_eq_true rfl) (Nat.le_of_ble_eq_true rfl) (Nat.le_of_ble_eq_true rfl) (Nat.le_of_ble_eq_true rfl) hlocks (fun t ha hz hq => ⟨_, trivial, ⟨h, hP.kept (fun k q hk => hq _ (hP k q hk).lt)⟩, vaF_more hS hz hq⟩) hS.2.2 (by decide) (by decide)
    · replace h := h.2 c4
      refine lv_iload_n hx hb dX6_form_11 rfl (lv_at hl 2 rfl) ?_
      refine lv_aload_n hx hb dX6_form_12 rfl (lv_at hl 0 rfl) ?_
      refine va_get (C := RX6) (T := TX6) (N := 12) hx hb hts n6 hown hK hP i0 (cg_0 hi0) rfl 0 (by decide) lk2 (fun _ h9 => h9) rfl dX6_form_13 ?_
      refine lv_iload_n hx hb dX6_form_16 rfl (lv_at hl 1 rfl) ?_
      refine lv_iconst (v := 1) hx hb dX6_form_17 (by decide) ?_
      refine lv_iadd hx hb dX6_form_18 ?_
      refine cc_i (va_runV (C := RX2) (As := [.int (a1 + 1)]) (rest := [.int a2]) ⟨hx, hb, hml, hown, hts⟩ (c_X2_howMany hL.g hwd H.size u2 (a1 + 1) _ h) (cwV 1 hts gX6_form_X2_howMany rfl rfl rfl (by decide +kernel) ⟨Nat.le_of_ble_eq_true rfl, Nat.le_of_ble_eq_true rfl⟩) (pcV hC hP hS (cg_1 hi1) rfl) rfl rfl hl.1 rfl (lv_room (Nat.le_of_ble_eq_true rfl)) dX6_form_19 ⟨Nat.le_of_ble_eq_true rfl, Nat.le_of_ble_eq_true rfl⟩) hS (cA_mono hS.1) (fun v5 u6 H locs h hP hS => ?_)
      refine lv_icmp_lt (tgt := 35) hx hb dX6_form_22 (by decide) (fun c7 => ?_) (fun c7 => ?_)
      · replace h := h.1 c7
        refine lv_aload_n hx hb dX6_form_35 rfl (lv_at hl 0 rfl) ?_
        refine va_get (C := RX6) (T := TX6) (N := 12) hx hb hts n6 hown hK hP i0 (cg_0 hi0) rfl 11 (by decide) lk3 (fun _ h9 => h9) rfl dX6_form_36 ?_
        refine lv_bipush (v := 20) hx hb dX6_form_39 (by decide) ?_
        refine lv_icmp_lt (tgt := 54) hx hb dX6_form_41 (by decide) (fun c8 => ?_) (fun c8 => ?_)
        · replace h := h.1 c8
          refine lv_aload_n hx hb dX6_form_54 rfl (lv_at hl 0 rfl) ?_
          refine va_get (C := RX6) (T := TX6) (N := 12) hx hb hts n6 hown hK hP i0 (cg_0 hi0) rfl 5 (by decide) lk4 (fun _ h9 => h9) rfl dX6_form_55 ?_
          refine lv_aload_n hx hb dX6_form_58 rfl (lv_at hl 0 rfl) ?_
          refine va_get (C := RX6) (T := TX6) (N := 12) hx hb hts n6 hown hK hP i0 (cg_0 hi0) rfl 11 (by decide) lk3 (fun _ h9 => h9) rfl dX6_form_59 ?_
          refine lv_iload_n hx hb dX6_form_62 rfl (lv_at hl 1 rfl) ?_
          refine cc_v (va_runS (As := [.ref (ad 7), .int (u6 0 7), .int a1]) (rest := []) ⟨hx, hb, hml, hown, hts⟩ (c_X6_write hL.g (Or.inl ⟨by decide, by decide⟩) m7 hwd H.size u6 (u6 0 7) a1 _ h) (va_cwS 3 hts gX6_form_X6_write rfl rfl rfl (by decide +kernel) ⟨Nat.le_of_ble_eq_true rfl, Nat.le_of_ble_eq_true rfl⟩) (pcS hC hP hS) rfl rfl hl.1 rfl (lv_room (Nat.le_of_ble_eq_true rfl)) dX6_form_63 ⟨Nat.le_of_ble_eq_true rfl, Nat.le_of_ble_eq_true rfl⟩) hS (cA_mono hS.1) (fun u9 H locs h hP hS => ?_)
          refine lv_aload_n hx hb dX6_form_66 rfl (lv_at hl 0 rfl) ?_
          refine va_get (C := RX6) (T := TX6) (N := 12) hx hb hts n6 hown hK hP i0 (cg_0 hi0) rfl 6 (by decide) lk5 (fun _ h9 => h9) rfl dX6_form_67 ?_
          refine lv_aload_n hx hb dX6_form_70 rfl (lv_at hl 0 rfl) ?_
          refine va_get (C := RX6) (T := TX6) (N := 12) hx hb hts n6 hown hK hP i0 (cg_0 hi0) rfl 11 (by decide) lk3 (fun _ h9 => h9) rfl dX6_form_71 ?_
          refine lv_iload_n hx hb dX6_form_74 rfl (lv_at hl 2 rfl) ?_
          refine cc_v (va_runS (As := [.ref (ad 8), .int (u9 0 7), .int a2]) (rest := []) ⟨hx, hb, hml, hown, hts⟩ (c_X6_write hL.g (Or.inl ⟨by decide, by decide⟩) m8 hwd H.size u9 (u9 0 7) a2 _ h) (va_cwS 3 hts gX6_form_X6_write rfl rfl rfl (by decide +kernel) ⟨Nat.le_of_ble_eq_true rfl, Nat.le_of_ble_eq_true rfl⟩) (pcS hC hP hS) rfl rfl hl.1 rfl (lv_room (Nat.le_of_ble_eq_true rfl)) dX6_form_75 ⟨Nat.le_of_ble_eq_true rfl, Nat.le_of_ble_eq_true rfl⟩) hS (cA_mono hS.1) (fun u10 H locs h hP hS => ?_)
          refine lv_aload_n hx hb dX6_form_78 rfl (lv_at hl 0 rfl) ?_
          refine lv_dup hx hb dX6_form_79 rfl ?_
          refine va_get (C := RX6) (T := TX6) (N := 12) hx hb hts n6 hown hK hP i0 (cg_0 hi0) rfl 11 (by decide) lk3 (fun _ h9 => h9) rfl dX6_form_80 ?_
          refine lv_iconst (v := 1) hx hb dX6_form_83 (by decide) ?_
          refine lv_iadd hx hb dX6_form_84 ?_
          refine va_put (C := RX6) (T := TX6) (N := 12) (ty := .int) (v := .int ((u10 0 7) + 1)) hx hb hts n6 tyX6 tyX6_ok nmX6 hown hK hP (cD hwd) hS i0 (cg_0 hi0) rfl 11 (by decide) lk3 (fun _ h9 => h9) rfl (by decide +kernel) rfl rfl (Nat.le_of_ble_eq_true rfl) dX6_form_85 (fun H locs hP _ hS => ?_)
          replace hP := cu_told hwd hi0 hP
          obtain ⟨u11, eu11⟩ : ∃ y : St, y = su u10 0 7 ((u10 0 7) + 1) := ⟨_, rfl⟩
          rw [← eu11] at hP
          replace h := h u11 eu11
          refine lv_aload_n hx hb dX6_form_88 rfl (lv_at hl 0 rfl) ?_
          refine va_get (C := RX6) (T := TX6) (N := 12) hx hb hts n6 hown hK hP i0 (cg_0 hi0) rfl 11 (by decide) lk3 (fun _ h9 => h9) rfl dX6_form_89 ?_
          refine lv_iconst (v := 1) hx hb dX6_form_92 (by decide) ?_
          refine lv_isub hx hb dX6_form_93 ?_
          refine W.widen (k := 1) (n := 6) (by decide) (by decide) ?_
          exact vx_ret (W.iret (v := ((u11 0 7) - 1)) hx hb hr (fun t ht hW => ⟨⟨_, _, rfl, h, by show va_P _ _ _ t.heap; rw [ht]; exact hP⟩, hS.F ht⟩) hS.2.2 dX6_form_94)
        · replace h := h.2 c8
          exact vx_throwS hx hb hflag hown (by decide +kernel) (by decide +kernel) lk6 lk7 hs2 (hat_X6_form_106 hts hX) hgood_106 hC.2.2.2.1 hC.2.2.2.2.1 hS (hl.1.trans hml.symm) dX6_form_44 dX6_form_47 dX6_form_48 dX6_form_50 dX6_form_53 (hout _) (Nat.le_of_ble_eq_true rfl) (Nat.le_of_ble_eq_true rfl) (Nat.le_of_ble_eq_true rfl) (Nat.le_of_ble_eq_true rfl) hlocks (fun t ha hz hq => ⟨_, trivial, ⟨h, hP.kept (fun k q hk => hq _ (hP k q hk).lt)⟩, vaF_more hS hz hq⟩) hS.2.2 (by decide) (by decide)
      · replace h := h.2 c7
        exact vx_throwS hx hb hflag hown (by decide +kernel) (by decide +kernel) lk0 lk1 hs1 (hat_X6_form_77 hts hX) hgood_77 hC.2.2.2.1 hC.2.2.2.2.1 hS (hl.1.trans hml.symm) dX6_form_25 dX6_form_28 dX6_form_29 dX6_form_31 dX6_form_34 (hout _) (Nat.le_of_ble_eq_true rfl) (Nat.le_of_ble_eq_true rfl) (Nat.le_of_ble_eq_true rfl) (Nat.le_of_ble_eq_true rfl) hlocks (fun t ha hz hq => ⟨_, trivial, ⟨h, hP.kept (fun k q hk => hq _ (hP k q hk).lt)⟩, vaF_more hS hz hq⟩) hS.2.2 (by decide) (by decide)
set_option maxRecDepth 100000 in
set_option maxHeartbeats 4000000 in
theorem c_X6_form {l : Launch} {D : va_G} {cI cG cZ cJ : ClassId} {ts : Nat × Nat} {L : List Nat} {ad : Nat → Nat} {al : Nat} (hflag : l.stackTraces = false) (hL : Lf L al) (hwd : WD L ad) (sz : Nat) (u : St) (a1 : Int32) (a2 : Int32) (Q : Int32 → St → Prop) (QX : String → St → Prop) (h : f_X6_form al a1 a2 u Q QX) : vx_Met l yX6_form wsX6_form ({ frames := 6, cells := 1, slots := 6, locals := 90 }) (va_Pc [.ref (ad 0), .int a1, .int a2] (PCX D cI cG cZ cJ ts L ad al sz u)) (va_Qi Q (fun u9 t => va_P D vwCl (cW cI cG L ad al u9) t.heap) (cA L ad sz)) (vx_X (fun _ => True) (fun E u9 t => QX E u9 ∧ va_P D vwCl (cW cI cG L ad al u9) t.heap) (cA L ad sz)) 1 6 (cA L ad sz) := by
  refine vx_ofW (cc := cX6_form) (maxL := 3) (ret := (some .int)) (by decide) rfl ?_
  intro p e s m args below meth c s₁ B hml hT hv
  obtain ⟨rfl, ⟨hsz, hP, hC⟩, hX⟩ := hv
  subst hsz
  have X : FX RX6 wsX6_form cX6_form 3 (some .int) D cI cG cZ cJ ts L ad p s m _ meth c := ⟨B.exec, B.bytes, hml, findClass_of_methodNamed B.named, atoms_spec (ws := wsX6_form) B.pre, B.returns, B.notSynchronized, hwd, hC⟩
  have hl := lv_entry ([.ref (ad 0), .int a1, .int a2]) (n := 3) (Nat.le_of_ble_eq_true rfl)
  rw [lg_entry_eq]
  generalize (lg_sl ([.ref (ad 0), .int a1, .int a2]) ++ List.replicate (3 - (lg_sl ([.ref (ad 0), .int a1, .int a2])).length) Slot.unset).toArray = ls at hl ⊢
  exact w_X6_form hflag hT hX hL X a1 a2 Q QX u _ _ _ h hP va_S.rf hl
set_option maxRecDepth 100000 in
set_option maxHeartbeats 4000000 in
theorem w_X6_checkForm {p : Program} {l : Launch} {e : Env} {s : State} {m : MethodId} {args : Array Value} {below : List Frame} {meth : Method} {c : Code} {D : va_G} {cI cG cZ cJ : ClassId} {ts : Nat × Nat} {L : List Nat} {ad : Nat → Nat} {al : Nat} (hflag : l.stackTraces = false) (hT : ∀ x ∈ c.exceptionTable.toList, False) (hX : XW s) (hL : Lf L al) (X : FX RX6 wsX6_checkForm cX6_checkForm 2 none D cI cG cZ cJ ts L ad p s m args meth c) (a1 : Int32) (Q : St → Prop) (QX : String → St → Prop) (u : St) (H : Heap) (locs : List Loc) (ls : Array Slot) (h : f_X6_checkForm al a1 u Q QX) (hP : va_P D vwCl (cW cI cG L ad al u) H) (hS : va_S (cA L ad s.heap.size) s.heap H locs) (hl : lv_has ls 2 [(0, .ref (ad 0)), (1, .int a1)]) : W p l e (headSpec wsX6_checkForm { frames := 6, cells := 1, slots := 6, locals := 90 }).room s m args below meth c H locs 0 0 (vx_MQ below (va_Qv Q (fun u9 t => va_P D vwCl (cW cI cG L ad al u9) t.heap) (cA L ad s.heap.size)) (vx_X (fun _ => True) (fun E u9 t => QX E u9 ∧ va_P D vwCl (cW cI cG L ad al u9) t.heap) (cA L ad s.heap.size)) args s 1 6 (cA L ad s.heap.size)) (F0 m 0 ls []) := by
  obtain ⟨hx, hb, hml, hown, hts, hr, hlocks, hwd, hC⟩ := id X
  have hK := hC.1
  have hout : ∀ (q : Nat), ∀ x ∈ c.exceptionTable.toList, covers x q = false := fun _ x hx => (hT x hx).elim
  have m0 : 0 ∈ L := hL 0 (by omega)
  obtain ⟨i0, hi0⟩ := wL_ix m0
  have lk0 := hts (.classLink RX6 157 "java/lang/IndexOutOfBoundsException") (by decide +kernel)
  have lk1 := hts (.initialized "java/lang/IndexOutOfBoundsException") (by decide +kernel)
  have lk2 := hts (.fieldLink RX6 69 "FormForge" "told" "I") (by decide +kernel)
  have n6 : ∀ w ∈ wsX60, w ∈ wsX6_checkForm := by decide +kernel
  obtain ⟨sa13, hs13⟩ := hC.2.2.1 _ (List.mem_of_getElem? (i := 13) rfl)
  unfold f_X6_checkForm at h
  refine lv_iload_n hx hb dX6_checkForm_0 rfl (lv_at hl 1 rfl) ?_
  refine lv_if_lt (tgt := 12) hx hb dX6_checkForm_1 (by decide) (fun c1 => ?_) (fun c1 => ?_)
  · replace h := h.1 c1
    exact vx_throwSW hx hb hflag hown (by decide +kernel) (by decide +kernel) lk0 lk1 hs13 (hat_X6_checkForm_161 hts hX) hgood_161 hC.2.2.2.1 hC.2.2.2.2.1 hS (hl.1.trans hml.symm) dX6_checkForm_12 dX6_checkForm_15 dX6_checkForm_16 dX6_checkForm_19 dX6_checkForm_22 (hout _) (Nat.le_of_ble_eq_true rfl) (Nat.le_of_ble_eq_true rfl) (Nat.le_of_ble_eq_true rfl) (Nat.le_of_ble_eq_true rfl) hlocks (fun t ha hz hq => ⟨_, trivial, ⟨h, hP.kept (fun k q hk => hq _ (hP k q hk).lt)⟩, vaF_more hS hz hq⟩) hS.2.2 (by decide) (by decide)
  · replace h := h.2 c1
    refine lv_iload_n hx hb dX6_checkForm_4 rfl (lv_at hl 1 rfl) ?_
    refine lv_aload_n hx hb dX6_checkForm_5 rfl (lv_at hl 0 rfl) ?_
    refine va_get (C := RX6) (T := TX6) (N := 12) hx hb hts n6 hown hK hP i0 (cg_0 hi0) rfl 11 (by decide) lk2 (fun _ h9 => h9) rfl dX6_checkForm_6 ?_
    refine lv_icmp_lt (tgt := 23) hx hb dX6_checkForm_9 (by decide) (fun c2 => ?_) (fun c2 => ?_)
    · replace h := h.1 c2
      refine W.widen (k := 1) (n := 6) (by decide) (by decide) ?_
      exact vx_ret (W.vret hx hb hr (fun t ht hW => ⟨⟨_, rfl, h, by show va_P _ _ _ t.heap; rw [ht]; exact hP⟩, hS.F ht⟩) hS.2.2 dX6_checkForm_23)
    · replace h := h.2 c2
      exact vx_throwSW hx hb hflag hown (by decide +kernel) (by decide +kernel) lk0 lk1 hs13 (hat_X6_checkForm_161 hts hX) hgood_161 hC.2.2.2.1 hC.2.2.2.2.1 hS (hl.1.trans hml.symm) dX6_checkForm_12 dX6_checkForm_15 dX6_checkForm_16 dX6_checkForm_19 dX6_checkForm_22 (hout _) (Nat.le_of_ble_eq_true rfl) (Nat.le_of_ble_eq_true rfl) (Nat.le_of_ble_eq_true rfl) (Nat.le_of_ble_eq_true rfl) hlocks (fun t ha hz hq => ⟨_, trivial, ⟨h, hP.kept (fun k q hk => hq _ (hP k q hk).lt)⟩, vaF_more hS hz hq⟩) hS.2.2 (by decide) (by decide)
set_option maxRecDepth 100000 in
set_option maxHeartbeats 4000000 in
theorem c_X6_checkForm {l : Launch} {D : va_G} {cI cG cZ cJ : ClassId} {ts : Nat × Nat} {L : List Nat} {ad : Nat → Nat} {al : Nat} (hflag : l.stackTraces = false) (hL : Lf L al) (hwd : WD L ad) (sz : Nat) (u : St) (a1 : Int32) (Q : St → Prop) (QX : String → St → Prop) (h : f_X6_checkForm al a1 u Q QX) : vx_Met l yX6_checkForm wsX6_checkForm ({ frames := 6, cells := 1, slots := 6, locals := 90 }) (va_Pc [.ref (ad 0), .int a1] (PCX D cI cG cZ cJ ts L ad al sz u)) (va_Qv Q (fun u9 t => va_P D vwCl (cW cI cG L ad al u9) t.heap) (cA L ad sz)) (vx_X (fun _ => True) (fun E u9 t => QX E u9 ∧ va_P D vwCl (cW cI cG L ad al u9) t.heap) (cA L ad sz)) 1 6 (cA L ad sz) := by
  refine vx_ofW (cc := cX6_checkForm) (maxL := 2) (ret := none) (by decide) rfl ?_
  intro p e s m args below meth c s₁ B hml hT hv
  obtain ⟨rfl, ⟨hsz, hP, hC⟩, hX⟩ := hv
  subst hsz
  have X : FX RX6 wsX6_checkForm cX6_checkForm 2 none D cI cG cZ cJ ts L ad p s m _ meth c := ⟨B.exec, B.bytes, hml, findClass_of_methodNamed B.named, atoms_spec (ws := wsX6_checkForm) B.pre, B.returns, B.notSynchronized, hwd, hC⟩
  have hl := lv_entry ([.ref (ad 0), .int a1]) (n := 2) (Nat.le_of_ble_eq_true rfl)
  rw [lg_entry_eq]
  generalize (lg_sl ([.ref (ad 0), .int a1]) ++ List.replicate (2 - (lg_sl ([.ref (ad 0), .int a1])).length) Slot.unset).toArray = ls at hl ⊢
  exact w_X6_checkForm hflag hT hX hL X a1 Q QX u _ _ _ h hP va_S.rf hl
set_option maxRecDepth 100000 in
set_option maxHeartbeats 4000000 in
theorem w_X6_formIs {p : Program} {l : Launch} {e : Env} {s : State} {m : MethodId} {args : Array Value} {below : List Frame} {meth : Method} {c : Code} {D : va_G} {cI cG cZ cJ : ClassId} {ts : Nat × Nat} {L : List Nat} {ad : Nat → Nat} {al : Nat} (hflag : l.stackTraces = false) (hT : ∀ x ∈ c.exceptionTable.toList, False) (hX : XW s) (hL : Lf L al) (X : FX RX6 wsX6_formIs cX6_formIs 5 (some .int) D cI cG cZ cJ ts L ad p s m args meth c) (a1 : Int32) (a2 : Int32) (Q : Int32 → St → Prop) (QX : String → St → Prop) (u : St) (H : Heap) (locs : List Loc) (ls : Array Slot) (h : f_X6_formIs al a1 a2 u Q QX) (hP : va_P D vwCl (cW cI cG L ad al u) H) (hS : va_S (cA L ad s.heap.size) s.heap H locs) (hl : lv_has ls 5 [(0, .ref (ad 0)), (1, .int a1), (2, .int a2)]) : W p l e (headSpec wsX6_formIs { frames := 7, cells := 2, slots := 12, locals := 117 }).room s m args below meth c H locs 0 0 (vx_MQ below (va_Qi Q (fun u9 t => va_P D vwCl (cW cI cG L ad al u9) t.heap) (cA L ad s.heap.size)) (vx_X (fun _ => True) (fun E u9 t => QX E u9 ∧ va_P D vwCl (cW cI cG L ad al u9) t.heap) (cA L ad s.heap.size)) args s 2 12 (cA L ad s.heap.size)) (F0 m 0 ls []) := by
  obtain ⟨hx, hb, hml, hown, hts, hr, hlocks, hwd, hC⟩ := id X
  have hK := hC.1
  have hout : ∀ (q : Nat), ∀ x ∈ c.exceptionTable.toList, covers x q = false := fun _ x hx => (hT x hx).elim
  have m0 : 0 ∈ L := hL 0 (by omega)
  obtain ⟨i0, hi0⟩ := wL_ix m0
  have m4 : 4 ∈ L := hL 4 (by omega)
  obtain ⟨i4, hi4⟩ := wL_ix m4
  have m5 : 5 ∈ L := hL 5 (by omega)
  obtain ⟨i5, hi5⟩ := wL_ix m5
  have m7 : 7 ∈ L := hL 7 (by omega)
  obtain ⟨i7, hi7⟩ := wL_ix m7
  have m8 : 8 ∈ L := hL 8 (by omega)
  obtain ⟨i8, hi8⟩ := wL_ix m8
  have lk0 := hts (.fieldLink RX6 50 "FormForge" "degrees" "[I") (by decide +kernel)
  have lk1 := hts (.fieldLink RX6 54 "FormForge" "codes" "[I") (by decide +kernel)
  have lk2 := hts (.fieldLink RX6 37 "FormForge" "group" "LFormForge$Group;") (by decide +kernel)
  have lk3 := hts (.fieldLink RX6 46 "FormForge" "walk" "LFormForge$Walk;") (by decide +kernel)
  have lk4 := hts (.fieldLink RX6 133 "FormForge$Walk" "count" "I") (by decide +kernel)
  have lk5 := hts (.classLink RX6 73 "java/lang/IllegalArgumentException") (by decide +kernel)
  have lk6 := hts (.initialized "java/lang/IllegalArgumentException") (by decide +kernel)
  have n5 : ∀ w ∈ wsX50, w ∈ wsX6_formIs := by decide +kernel
  have n6 : ∀ w ∈ wsX60, w ∈ wsX6_formIs := by decide +kernel
  obtain ⟨sa3, hs3⟩ := hC.2.2.1 _ (List.mem_of_getElem? (i := 3) rfl)
  unfold f_X6_formIs at h
  refine lv_aload_n hx hb dX6_formIs_0 rfl (lv_at hl 0 rfl) ?_
  refine lv_iload_n hx hb dX6_formIs_1 rfl (lv_at hl 1 rfl) ?_
  refine cx_v (MC := 2) (MS := 12) (QX := QX) (vx_runV (C := RX6) (As := [.int a1]) (rest := []) ⟨hx, hb, hml, hown, hts⟩ (c_X6_checkForm hflag hL hwd H.size u a1 _ _ h) (cwV 1 hts gX6_formIs_X6_checkForm rfl rfl rfl (by decide +kernel) ⟨Nat.le_of_ble_eq_true rfl, Nat.le_of_ble_eq_true rfl⟩) (pcVX hC hX hP hS (cg_0 hi0) rfl) rfl rfl hl.1 rfl (lv_room (Nat.le_of_ble_eq_true rfl)) dX6_formIs_2 ⟨Nat.le_of_ble_eq_true rfl, Nat.le_of_ble_eq_true rfl⟩) hS (cA_mono hS.1) (hout _) hlocks (Nat.le_of_ble_eq_true rfl) (Nat.le_of_ble_eq_true rfl) (fun E u9 h9 => h9) (fun u1 H locs h hP hS => ?_)
  refine lv_aload_n hx hb dX6_formIs_5 rfl (lv_at hl 0 rfl) ?_
  refine va_get (C := RX6) (T := TX6) (N := 12) hx hb hts n6 hown hK hP i0 (cg_0 hi0) rfl 5 (by decide) lk0 (fun _ h9 => h9) rfl dX6_formIs_6 ?_
  refine lv_iload_n hx hb dX6_formIs_9 rfl (lv_at hl 1 rfl) ?_
  refine cc_i (va_runS (As := [.ref (ad 7), .int a1]) (rest := []) ⟨hx, hb, hml, hown, hts⟩ (c_X6_read hL.g (Or.inl ⟨by decide, by decide⟩) m7 hwd H.size u1 a1 _ h) (va_cwS 2 hts gX6_formIs_X6_read rfl rfl rfl (by decide +kernel) ⟨Nat.le_of_ble_eq_true rfl, Nat.le_of_ble_eq_true rfl⟩) (pcS hC hP hS) rfl rfl hl.1 rfl (lv_room (Nat.le_of_ble_eq_true rfl)) dX6_formIs_10 ⟨Nat.le_of_ble_eq_true rfl, Nat.le_of_ble_eq_true rfl⟩) hS (cA_mono hS.1) (fun v2 u3 H locs h hP hS => ?_)
  refine lv_istore_n (lv' := [(3, .int v2), (0, .ref (ad 0)), (1, .int a1), (2, .int a2)]) hx hb dX6_formIs_13 rfl hl (by decide) rfl (fun ls hl => ?_)
  refine lv_aload_n hx hb dX6_formIs_14 rfl (lv_at hl 1 rfl) ?_
  refine va_get (C := RX6) (T := TX6) (N := 12) hx hb hts n6 hown hK hP i0 (cg_0 hi0) rfl 6 (by decide) lk1 (fun _ h9 => h9) rfl dX6_formIs_15 ?_
  refine lv_iload_n hx hb dX6_formIs_18 rfl (lv_at hl 2 rfl) ?_
  refine cc_i (va_runS (As := [.ref (ad 8), .int a1]) (rest := []) ⟨hx, hb, hml, hown, hts⟩ (c_X6_read hL.g (Or.inl ⟨by decide, by decide⟩) m8 hwd H.size u3 a1 _ h) (va_cwS 2 hts gX6_formIs_X6_read rfl rfl rfl (by decide +kernel) ⟨Nat.le_of_ble_eq_true rfl, Nat.le_of_ble_eq_true rfl⟩) (pcS hC hP hS) rfl rfl hl.1 rfl (lv_room (Nat.le_of_ble_eq_true rfl)) dX6_formIs_19 ⟨Nat.le_of_ble_eq_true rfl, Nat.le_of_ble_eq_true rfl⟩) hS (cA_mono hS.1) (fun v4 u5 H locs h hP hS => ?_)
  refine lv_istore (lv' := [(4, .int v4), (3, .int v2), (0, .ref (ad 0)), (1, .int a1), (2, .int a2)]) hx hb dX6_formIs_22 hl (by decide) rfl (fun ls hl => ?_)
  refine lv_iload_n hx hb dX6_formIs_24 rfl (lv_at hl 4 rfl) ?_
  by_cases c6 : a2 = 0
  · replace h := h.1 c6
    refine lv_tableIn (off := 43) (tgt := 68) hx hb dX6_formIs_25 (by rw [c6]; decide) (by rw [c6]; decide) (by rw [c6]; rfl) (by decide) ?_
    refine lv_iload_n hx hb dX6_formIs_68 rfl (lv_at hl 1 rfl) ?_
    refine W.widen (k := 2) (n := 12) (by decide) (by decide) ?_
    exact vx_ret (W.iret (v := v2) hx hb hr (fun t ht hW => ⟨⟨_, _, rfl, h, by show va_P _ _ _ t.heap; rw [ht]; exact hP⟩, hS.F ht⟩) hS.2.2 dX6_formIs_69)
  by_cases c7 : a2 = 1
  · replace h := h.2.1 c7
    refine lv_tableIn (off := 45) (tgt := 70) hx hb dX6_formIs_25 (by rw [c7]; decide) (by rw [c7]; decide) (by rw [c7]; rfl) (by decide) ?_
    refine lv_iload hx hb dX6_formIs_70 (lv_at hl 0 rfl) ?_
    refine W.widen (k := 2) (n := 12) (by decide) (by decide) ?_
    exact vx_ret (W.iret (v := v4) hx hb hr (fun t ht hW => ⟨⟨_, _, rfl, h, by show va_P _ _ _ t.heap; rw [ht]; exact hP⟩, hS.F ht⟩) hS.2.2 dX6_formIs_72)
  by_cases c10 : a2 = 2
  · replace h := h.2.2.1 c10
    refine lv_tableIn (off := 48) (tgt := 73) hx hb dX6_formIs_25 (by rw [c10]; decide) (by rw [c10]; decide) (by rw [c10]; rfl) (by decide) ?_
    refine lv_aload_n hx hb dX6_formIs_73 rfl (lv_at hl 2 rfl) ?_
    refine lv_iload_n hx hb dX6_formIs_74 rfl (lv_at hl 1 rfl) ?_
    refine lv_iload hx hb dX6_formIs_75 (lv_at hl 0 rfl) ?_
    refine cc_i (va_runV (C := RX6) (As := [.int v2, .int v4]) (rest := []) ⟨hx, hb, hml, hown, hts⟩ (c_X6_countRoots hL hwd H.size u5 v2 v4 _ h) (cwV 2 hts gX6_formIs_X6_countRoots rfl rfl rfl (by decide +kernel) ⟨Nat.le_of_ble_eq_true rfl, Nat.le_of_ble_eq_true rfl⟩) (pcV hC hP hS (cg_0 hi0) rfl) rfl rfl hl.1 rfl (lv_room (Nat.le_of_ble_eq_true rfl)) dX6_formIs_77 ⟨Nat.le_of_ble_eq_true rfl, Nat.le_of_ble_eq_true rfl⟩) hS (cA_mono hS.1) (fun v8 u9 H locs h hP hS => ?_)
    refine W.widen (k := 2) (n := 12) (by decide) (by decide) ?_
    exact vx_ret (W.iret (v := v8) hx hb hr (fun t ht hW => ⟨⟨_, _, rfl, h, by show va_P _ _ _ t.heap; rw [ht]; exact hP⟩, hS.F ht⟩) hS.2.2 dX6_formIs_80)
  by_cases c14 : a2 = 3
  · replace h := h.2.2.2.1 c14
    refine lv_tableIn (off := 56) (tgt := 81) hx hb dX6_formIs_25 (by rw [c14]; decide) (by rw [c14]; decide) (by rw [c14]; rfl) (by decide) ?_
    refine lv_aload_n hx hb dX6_formIs_81 rfl (lv_at hl 2 rfl) ?_
    refine lv_iload_n hx hb dX6_formIs_82 rfl (lv_at hl 1 rfl) ?_
    refine lv_iload hx hb dX6_formIs_83 (lv_at hl 0 rfl) ?_
    refine cc_i (va_runV (C := RX6) (As := [.int v2, .int v4]) (rest := []) ⟨hx, hb, hml, hown, hts⟩ (c_X6_isNull hL hwd H.size u5 v2 v4 _ h) (cwV 2 hts gX6_formIs_X6_isNull rfl rfl rfl (by decide +kernel) ⟨Nat.le_of_ble_eq_true rfl, Nat.le_of_ble_eq_true rfl⟩) (pcV hC hP hS (cg_0 hi0) rfl) rfl rfl hl.1 rfl (lv_room (Nat.le_of_ble_eq_true rfl)) dX6_formIs_85 ⟨Nat.le_of_ble_eq_true rfl, Nat.le_of_ble_eq_true rfl⟩) hS (cA_mono hS.1) (fun v11 u12 H locs h hP hS => ?_)
    refine lv_if_eq (tgt := 95) hx hb dX6_formIs_88 (by decide) (fun c13 => ?_) (fun c13 => ?_)
    · replace h := h.1 c13
      refine lv_iconst (v := 0) hx hb dX6_formIs_95 (by decide) ?_
      refine W.widen (k := 2) (n := 12) (by decide) (by decide) ?_
      exact vx_ret (W.iret (v := 0) hx hb hr (fun t ht hW => ⟨⟨_, _, rfl, h, by show va_P _ _ _ t.heap; rw [ht]; exact hP⟩, hS.F ht⟩) hS.2.2 dX6_formIs_96)
    · replace h := h.2 c13
      refine lv_iconst (v := 1) hx hb dX6_formIs_91 (by decide) ?_
      refine lv_goto (tgt := 96) hx hb dX6_formIs_92 (by decide) ?_
      refine W.widen (k := 2) (n := 12) (by decide) (by decide) ?_
      exact vx_ret (W.iret (v := 1) hx hb hr (fun t ht hW => ⟨⟨_, _, rfl, h, by show va_P _ _ _ t.heap; rw [ht]; exact hP⟩, hS.F ht⟩) hS.2.2 dX6_formIs_96)
  by_cases c18 : a2 = 4
  · replace h := h.2.2.2.2.1 c18
    refine lv_tableIn (off := 72) (tgt := 97) hx hb dX6_formIs_25 (by rw [c18]; decide) (by rw [c18]; decide) (by rw [c18]; rfl) (by decide) ?_
    refine lv_aload_n hx hb dX6_formIs_97 rfl (lv_at hl 2 rfl) ?_
    refine va_get (C := RX6) (T := TX6) (N := 12) hx hb hts n6 hown hK hP i0 (cg_0 hi0) rfl 3 (by decide) lk2 (fun _ h9 => h9) rfl dX6_formIs_98 ?_
    refine lv_iload_n hx hb dX6_formIs_101 rfl (lv_at hl 1 rfl) ?_
    refine lv_iload hx hb dX6_formIs_102 (lv_at hl 0 rfl) ?_
    refine cc_i (va_runV (C := RX4) (As := [.int v2, .int v4]) (rest := []) ⟨hx, hb, hml, hown, hts⟩ (c_X4_leaves hL hwd H.size u5 v2 v4 _ h) (cwV 2 hts gX6_formIs_X4_leaves rfl rfl rfl (by decide +kernel) ⟨Nat.le_of_ble_eq_true rfl, Nat.le_of_ble_eq_true rfl⟩) (pcV hC hP hS (cg_4 hi4) rfl) rfl rfl hl.1 rfl (lv_room (Nat.le_of_ble_eq_true rfl)) dX6_formIs_104 ⟨Nat.le_of_ble_eq_true rfl, Nat.le_of_ble_eq_true rfl⟩) hS (cA_mono hS.1) (fun v15 u16 H locs h hP hS => ?_)
    refine lv_if_eq (tgt := 114) hx hb dX6_formIs_107 (by decide) (fun c17 => ?_) (fun c17 => ?_)
    · replace h := h.1 c17
      refine lv_iconst (v := 0) hx hb dX6_formIs_114 (by decide) ?_
      refine W.widen (k := 2) (n := 12) (by decide) (by decide) ?_
      exact vx_ret (W.iret (v := 0) hx hb hr (fun t ht hW => ⟨⟨_, _, rfl, h, by show va_P _ _ _ t.heap; rw [ht]; exact hP⟩, hS.F ht⟩) hS.2.2 dX6_formIs_115)
    · replace h := h.2 c17
      refine lv_iconst (v := 1) hx hb dX6_formIs_110 (by decide) ?_
      refine lv_goto (tgt := 115) hx hb dX6_formIs_111 (by decide) ?_
      refine W.widen (k := 2) (n := 12) (by decide) (by decide) ?_
      exact vx_ret (W.iret (v := 1) hx hb hr (fun t ht hW => ⟨⟨_, _, rfl, h, by show va_P _ _ _ t.heap; rw [ht]; exact hP⟩, hS.F ht⟩) hS.2.2 dX6_formIs_115)
  by_cases c20 : a2 = 5
  · replace h := h.2.2.2.2.2.1 c20
    refine lv_tableIn (off := 91) (tgt := 116) hx hb dX6_formIs_25 (by rw [c20]; decide) (by rw [c20]; decide) (by rw [c20]; rfl) (by decide) ?_
    refine lv_aload_n hx hb dX6_formIs_116 rfl (lv_at hl 2 rfl) ?_
    refine va_get (C := RX6) (T := TX6) (N := 12) hx hb hts n6 hown hK hP i0 (cg_0 hi0) rfl 4 (by decide) lk3 (fun _ h9 => h9) rfl dX6_formIs_117 ?_
    refine lv_iload_n hx hb dX6_formIs_120 rfl (lv_at hl 1 rfl) ?_
    refine lv_iload hx hb dX6_formIs_121 (lv_at hl 0 rfl) ?_
    refine cc_v (va_runV (C := RX5) (As := [.int v2, .int v4]) (rest := []) ⟨hx, hb, hml, hown, hts⟩ (c_X5_alone hL hwd H.size u5 v2 v4 _ h) (cwV 2 hts gX6_formIs_X5_alone rfl rfl rfl (by decide +kernel) ⟨Nat.le_of_ble_eq_true rfl, Nat.le_of_ble_eq_true rfl⟩) (pcV hC hP hS (cg_5 hi5) rfl) rfl rfl hl.1 rfl (lv_room (Nat.le_of_ble_eq_true rfl)) dX6_formIs_123 ⟨Nat.le_of_ble_eq_true rfl, Nat.le_of_ble_eq_true rfl⟩) hS (cA_mono hS.1) (fun u19 H locs h hP hS => ?_)
    refine lv_aload_n hx hb dX6_formIs_126 rfl (lv_at hl 2 rfl) ?_
    refine va_get (C := RX6) (T := TX6) (N := 12) hx hb hts n6 hown hK hP i0 (cg_0 hi0) rfl 4 (by decide) lk3 (fun _ h9 => h9) rfl dX6_formIs_127 ?_
    refine va_get (C := RX5) (T := TX5) (N := 7) hx hb hts n5 hown hK hP i5 (cg_5 hi5) rfl 6 (by decide) lk4 (fun _ h9 => h9) rfl dX6_formIs_130 ?_
    refine W.widen (k := 2) (n := 12) (by decide) (by decide) ?_
    exact vx_ret (W.iret (v := (u19 0 6)) hx hb hr (fun t ht hW => ⟨⟨_, _, rfl, h, by show va_P _ _ _ t.heap; rw [ht]; exact hP⟩, hS.F ht⟩) hS.2.2 dX6_formIs_133)
  by_cases c24 : a2 = 6
  · replace h := h.2.2.2.2.2.2.1 c24
    refine lv_tableIn (off := 109) (tgt := 134) hx hb dX6_formIs_25 (by rw [c24]; decide) (by rw [c24]; decide) (by rw [c24]; rfl) (by decide) ?_
    refine lv_aload_n hx hb dX6_formIs_134 rfl (lv_at hl 2 rfl) ?_
    refine va_get (C := RX6) (T := TX6) (N := 12) hx hb hts n6 hown hK hP i0 (cg_0 hi0) rfl 4 (by decide) lk3 (fun _ h9 => h9) rfl dX6_formIs_135 ?_
    refine lv_iload_n hx hb dX6_formIs_138 rfl (lv_at hl 1 rfl) ?_
    refine lv_iload hx hb dX6_formIs_139 (lv_at hl 0 rfl) ?_
    refine cc_v (va_runV (C := RX5) (As := [.int v2, .int v4]) (rest := []) ⟨hx, hb, hml, hown, hts⟩ (c_X5_alone hL hwd H.size u5 v2 v4 _ h) (cwV 2 hts gX6_formIs_X5_alone rfl rfl rfl (by decide +kernel) ⟨Nat.le_of_ble_eq_true rfl, Nat.le_of_ble_eq_true rfl⟩) (pcV hC hP hS (cg_5 hi5) rfl) rfl rfl hl.1 rfl (lv_room (Nat.le_of_ble_eq_true rfl)) dX6_formIs_141 ⟨Nat.le_of_ble_eq_true rfl, Nat.le_of_ble_eq_true rfl⟩) hS (cA_mono hS.1) (fun u21 H locs h hP hS => ?_)
    refine lv_aload_n hx hb dX6_formIs_144 rfl (lv_at hl 2 rfl) ?_
    refine va_get (C := RX6) (T := TX6) (N := 12) hx hb hts n6 hown hK hP i0 (cg_0 hi0) rfl 4 (by decide) lk3 (fun _ h9 => h9) rfl dX6_formIs_145 ?_
    refine cc_i (va_runV (C := RX5) (As := []) (rest := []) ⟨hx, hb, hml, hown, hts⟩ (c_X5_leastCode hL hwd H.size u21 _ h) (cwV 0 hts gX6_formIs_X5_leastCode rfl rfl rfl (by decide +kernel) ⟨Nat.le_of_ble_eq_true rfl, Nat.le_of_ble_eq_true rfl⟩) (pcV hC hP hS (cg_5 hi5) rfl) rfl rfl hl.1 rfl (lv_room (Nat.le_of_ble_eq_true rfl)) dX6_formIs_148 ⟨Nat.le_of_ble_eq_true rfl, Nat.le_of_ble_eq_true rfl⟩) hS (cA_mono hS.1) (fun v22 u23 H locs h hP hS => ?_)
    refine W.widen (k := 2) (n := 12) (by decide) (by decide) ?_
    exact vx_ret (W.iret (v := v22) hx hb hr (fun t ht hW => ⟨⟨_, _, rfl, h, by show va_P _ _ _ t.heap; rw [ht]; exact hP⟩, hS.F ht⟩) hS.2.2 dX6_formIs_151)
  replace h := h.2.2.2.2.2.2.2 ⟨c6, c7, c10, c14, c18, c20, c24⟩
  refine lv_tableOut (tgt := 152) hx hb dX6_formIs_25 (by have q0 := lv_neT (a := 0) c6 rfl; have q1 := lv_neT (a := 1) c7 rfl; have q2 := lv_neT (a := 2) c10 rfl; have q3 := lv_neT (a := 3) c14 rfl; have q4 := lv_neT (a := 4) c18 rfl; have q5 := lv_neT (a := 5) c20 rfl; have q6 := lv_neT (a := 6) c24 rfl; omega) (by decide) ?_
  exact vx_throwS hx hb hflag hown (by decide +kernel) (by decide +kernel) lk5 lk6 hs3 (hat_X6_formIs_77 hts hX) hgood_77 hC.2.2.2.1 hC.2.2.2.2.1 hS (hl.1.trans hml.symm) dX6_formIs_152 dX6_formIs_155 dX6_formIs_156 dX6_formIs_158 dX6_formIs_161 (hout _) (Nat.le_of_ble_eq_true rfl) (Nat.le_of_ble_eq_true rfl) (Nat.le_of_ble_eq_true rfl) (Nat.le_of_ble_eq_true rfl) hlocks (fun t ha hz hq => ⟨_, trivial, ⟨h, hP.kept (fun k q hk => hq _ (hP k q hk).lt)⟩, vaF_more hS hz hq⟩) hS.2.2 (by decide) (by decide)
set_option maxRecDepth 100000 in
set_option maxHeartbeats 4000000 in
theorem c_X6_formIs {l : Launch} {D : va_G} {cI cG cZ cJ : ClassId} {ts : Nat × Nat} {L : List Nat} {ad : Nat → Nat} {al : Nat} (hflag : l.stackTraces = false) (hL : Lf L al) (hwd : WD L ad) (sz : Nat) (u : St) (a1 : Int32) (a2 : Int32) (Q : Int32 → St → Prop) (QX : String → St → Prop) (h : f_X6_formIs al a1 a2 u Q QX) : vx_Met l yX6_formIs wsX6_formIs ({ frames := 7, cells := 2, slots := 12, locals := 117 }) (va_Pc [.ref (ad 0), .int a1, .int a2] (PCX D cI cG cZ cJ ts L ad al sz u)) (va_Qi Q (fun u9 t => va_P D vwCl (cW cI cG L ad al u9) t.heap) (cA L ad sz)) (vx_X (fun _ => True) (fun E u9 t => QX E u9 ∧ va_P D vwCl (cW cI cG L ad al u9) t.heap) (cA L ad sz)) 2 12 (cA L ad sz) := by
  refine vx_ofW (cc := cX6_formIs) (maxL := 5) (ret := (some .int)) (by decide) rfl ?_
  intro p e s m args below meth c s₁ B hml hT hv
  obtain ⟨rfl, ⟨hsz, hP, hC⟩, hX⟩ := hv
  subst hsz
  have X : FX RX6 wsX6_formIs cX6_formIs 5 (some .int) D cI cG cZ cJ ts L ad p s m _ meth c := ⟨B.exec, B.bytes, hml, findClass_of_methodNamed B.named, atoms_spec (ws := wsX6_formIs) B.pre, B.returns, B.notSynchronized, hwd, hC⟩
  have hl := lv_entry ([.ref (ad 0), .int a1, .int a2]) (n := 5) (Nat.le_of_ble_eq_true rfl)
  rw [lg_entry_eq]
  generalize (lg_sl ([.ref (ad 0), .int a1, .int a2]) ++ List.replicate (5 - (lg_sl ([.ref (ad 0), .int a1, .int a2])).length) Slot.unset).toArray = ls at hl ⊢
  exact w_X6_formIs hflag hT hX hL X a1 a2 Q QX u _ _ _ h hP va_S.rf hl
set_option maxRecDepth 100000 in
set_option maxHeartbeats 4000000 in
theorem w_X6_at_L72 {p : Program} {l : Launch} {e : Env} {s : State} {m : MethodId} {args : Array Value} {below : List Frame} {meth : Method} {c : Code} {D : va_G} {cI cG cZ cJ : ClassId} {ts : Nat × Nat} {L : List Nat} {ad : Nat → Nat} {al : Nat} (hflag : l.stackTraces = false) (hT : ∀ x ∈ c.exceptionTable.toList, False) (hX : XW s) (hL : Lf L al) (X : FX RX6 wsX6_at cX6_at 7 (some .int) D cI cG cZ cJ ts L ad p s m args meth c) (a2 : Int32) (a3 : Int32) (a4 : Int32) (Q : Int32 → St → Prop) (QX : String → St → Prop)
    (K0 : Int32 → St → Prop) (hk0 : ∀ (b5 : Int32) (u : St) (H : Heap) (locs : List Loc) (ls : Array Slot), K0 b5 u → va_P D vwCl (cW cI cG L ad al u) H → va_S (cA L ad s.heap.size) s.heap H locs → lv_has ls 7 [(0, .ref (ad 0)), (5, .int b5)] → W p l e (headSpec wsX6_at { frames := 7, cells := 2, slots := 12, locals := 111 }).room s m args below meth c H locs 1 6 (vx_MQ below (va_Qi Q (fun u9 t => va_P D vwCl (cW cI cG L ad al u9) t.heap) (cA L ad s.heap.size)) (vx_X (fun _ => True) (fun E u9 t => QX E u9 ∧ va_P D vwCl (cW cI cG L ad al u9) t.heap) (cA L ad s.heap.size)) args s 2 12 (cA L ad s.heap.size)) (F0 m 124 ls []))
    : ∀ (n : Nat) (a5 : Int32) (a6 : Int32) (u : St) (H : Heap) (locs : List Loc) (ls : Array Slot), f_X6_at_L72 al a2 a3 a4 Q QX K0 n a5 a6 u → va_P D vwCl (cW cI cG L ad al u) H → va_S (cA L ad s.heap.size) s.heap H locs → lv_has ls 7 [(0, .ref (ad 0)), (2, .int a2), (3, .int a3), (4, .int a4), (5, .int a5), (6, .int a6)] → W p l e (headSpec wsX6_at { frames := 7, cells := 2, slots := 12, locals := 111 }).room s m args below meth c H locs 1 6 (vx_MQ below (va_Qi Q (fun u9 t => va_P D vwCl (cW cI cG L ad al u9) t.heap) (cA L ad s.heap.size)) (vx_X (fun _ => True) (fun E u9 t => QX E u9 ∧ va_P D vwCl (cW cI cG L ad al u9) t.heap) (cA L ad s.heap.size)) args s 2 12 (cA L ad s.heap.size)) (F0 m 72 ls []) := by
  obtain ⟨hx, hb, hml, hown, hts, hr, hlocks, hwd, hC⟩ := id X
  have hK := hC.1
  have hout : ∀ (q : Nat), ∀ x ∈ c.exceptionTable.toList, covers x q = false := fun _ x hx => (hT x hx).elim
  have m0 : 0 ∈ L := hL 0 (by omega)
  obtain ⟨i0, hi0⟩ := wL_ix m0
  have m1 : 1 ∈ L := hL 1 (by omega)
  obtain ⟨i1, hi1⟩ := wL_ix m1
  have m7 : 7 ∈ L := hL 7 (by omega)
  obtain ⟨i7, hi7⟩ := wL_ix m7
  have m8 : 8 ∈ L := hL 8 (by omega)
  obtain ⟨i8, hi8⟩ := wL_ix m8
  have m9 : 9 ∈ L := hL 9 (by omega)
  obtain ⟨i9, hi9⟩ := wL_ix m9
  have lk0 := hts (.fieldLink RX6 14 "FormForge" "field" "LFormForge$Field;") (by decide +kernel)
  have lk1 := hts (.classLink RX6 73 "java/lang/IllegalArgumentException") (by decide +kernel)
  have lk2 := hts (.initialized "java/lang/IllegalArgumentException") (by decide +kernel)
  have lk3 := hts (.fieldLink RX6 50 "FormForge" "degrees" "[I") (by decide +kernel)
  have lk4 := hts (.fieldLink RX6 54 "FormForge" "codes" "[I") (by decide +kernel)
  have lk5 := hts (.fieldLink RX6 57 "FormForge" "first" "[I") (by decide +kernel)
  have n6 : ∀ w ∈ wsX60, w ∈ wsX6_at := by decide +kernel
  obtain ⟨sa4, hs4⟩ := hC.2.2.1 _ (List.mem_of_getElem? (i := 4) rfl)
  intro n
  induction n with
  | zero =>
    intro a5 a6 u H locs ls h; exact h.elim
  | succ n ih =>
    intro a5 a6 u H locs ls h hP hS hl
    replace h : f_X6_at_L72_s al a2 a3 a4 Q QX K0 (f_X6_at_L72 al a2 a3 a4 Q QX K0 n) a5 a6 u := h
    unfold f_X6_at_L72_s at h
    refine lv_iload hx hb dX6_at_72 (lv_at hl 5 rfl) ?_
    refine lv_iload hx hb dX6_at_74 (lv_at hl 3 rfl) ?_
    refine lv_icmp_gt (tgt := 124) hx hb dX6_at_76 (by decide) (fun c13 => ?_) (fun c13 => ?_)
    · replace h := h.1 c13
      exact hk0 a5 _ _ _ _ h hP hS (lv_sub hl [0, 4] rfl)
    · replace h := h.2 c13
      refine lv_iload hx hb dX6_at_79 (lv_at hl 4 rfl) ?_
      refine lv_aload_n hx hb dX6_at_81 rfl (lv_at hl 0 rfl) ?_
      refine va_get (C := RX6) (T := TX6) (N := 12) hx hb hts n6 hown hK hP i0 (cg_0 hi0) rfl 7 (by decide) lk5 (fun _ h9 => h9) rfl dX6_at_82 ?_
      refine lv_iload hx hb dX6_at_85 (lv_at hl 5 rfl) ?_
      refine cc_i (va_runS (As := [.ref (ad 9), .int a6]) (rest := [.int a5]) ⟨hx, hb, hml, hown, hts⟩ (c_X6_read hL.g (Or.inl ⟨by decide, by decide⟩) m9 hwd H.size u a6 _ h) (va_cwS 2 hts gX6_at_X6_read rfl rfl rfl (by decide +kernel) ⟨Nat.le_of_ble_eq_true rfl, Nat.le_of_ble_eq_true rfl⟩) (pcS hC hP hS) rfl rfl hl.1 rfl (lv_room (Nat.le_of_ble_eq_true rfl)) dX6_at_87 ⟨Nat.le_of_ble_eq_true rfl, Nat.le_of_ble_eq_true rfl⟩) hS (cA_mono hS.1) (fun v14 u15 H locs h hP hS => ?_)
      refine lv_aload_n hx hb dX6_at_90 rfl (lv_at hl 0 rfl) ?_
      refine va_get (C := RX6) (T := TX6) (N := 12) hx hb hts n6 hown hK hP i0 (cg_0 hi0) rfl 0 (by decide) lk0 (fun _ h9 => h9) rfl dX6_at_91 ?_
      refine lv_iload_n hx hb dX6_at_94 rfl (lv_at hl 1 rfl) ?_
      refine lv_iload hx hb dX6_at_95 (lv_at hl 3 rfl) ?_
      refine lv_iload hx hb dX6_at_97 (lv_at hl 5 rfl) ?_
      refine lv_isub hx hb dX6_at_99 ?_
      refine cc_i (va_runV (C := RX2) (As := [.int a2, .int (a4 - a6)]) (rest := [.int v14, .int a5]) ⟨hx, hb, hml, hown, hts⟩ (c_X2_power hL hwd H.size u15 a2 (a4 - a6) _ h) (cwV 2 hts gX6_at_X2_power rfl rfl rfl (by decide +kernel) ⟨Nat.le_of_ble_eq_true rfl, Nat.le_of_ble_eq_true rfl⟩) (pcV hC hP hS (cg_1 hi1) rfl) rfl rfl hl.1 rfl (lv_room (Nat.le_of_ble_eq_true rfl)) dX6_at_100 ⟨Nat.le_of_ble_eq_true rfl, Nat.le_of_ble_eq_true rfl⟩) hS (cA_mono hS.1) (fun v16 u17 H locs h hP hS => ?_)
      refine lv_imul hx hb dX6_at_103 ?_
      refine lv_aload_n hx hb dX6_at_104 rfl (lv_at hl 0 rfl) ?_
      refine va_get (C := RX6) (T := TX6) (N := 12) hx hb hts n6 hown hK hP i0 (cg_0 hi0) rfl 0 (by decide) lk0 (fun _ h9 => h9) rfl dX6_at_105 ?_
      refine lv_iload_n hx hb dX6_at_108 rfl (lv_at hl 2 rfl) ?_
      refine lv_iload hx hb dX6_at_109 (lv_at hl 5 rfl) ?_
      refine cc_i (va_runV (C := RX2) (As := [.int a3, .int a6]) (rest := [.int (v14 * v16), .int a5]) ⟨hx, hb, hml, hown, hts⟩ (c_X2_power hL hwd H.size u17 a3 a6 _ h) (cwV 2 hts gX6_at_X2_power rfl rfl rfl (by decide +kernel) ⟨Nat.le_of_ble_eq_true rfl, Nat.le_of_ble_eq_true rfl⟩) (pcV hC hP hS (cg_1 hi1) rfl) rfl rfl hl.1 rfl (lv_room (Nat.le_of_ble_eq_true rfl)) dX6_at_111 ⟨Nat.le_of_ble_eq_true rfl, Nat.le_of_ble_eq_true rfl⟩) hS (cA_mono hS.1) (fun v18 u19 H locs h hP hS => ?_)
      refine lv_imul hx hb dX6_at_114 ?_
      refine lv_iadd hx hb dX6_at_115 ?_
      refine lv_topi (fun v20 ev20 => ?_)
      replace h := h v20 ev20
      refine lv_istore (lv' := [(5, .int v20), (0, .ref (ad 0)), (2, .int a2), (3, .int a3), (4, .int a4), (6, .int a6)]) hx hb dX6_at_116 hl (by decide) rfl (fun ls hl => ?_)
      obtain ⟨v21, ev21⟩ : ∃ y : Int32, y = a6 + 1 := ⟨_, rfl⟩
      refine lv_iinc (v := v21) (lv' := [(6, .int v21), (5, .int v20), (0, .ref (ad 0)), (2, .int a2), (3, .int a3), (4, .int a4)]) hx hb dX6_at_118 hl (k := 5) rfl (by rw [ev21]; rfl) (by decide) rfl (fun ls hl => ?_)
      replace h := h v21 ev21
      refine lv_goto (tgt := 72) hx hb dX6_at_121 (by decide) ?_
      exact ih v20 v21 _ _ _ _ h hP hS (lv_sub hl [2, 3, 4, 5, 1, 0] rfl)
set_option maxRecDepth 100000 in
set_option maxHeartbeats 4000000 in
theorem w_X6_at {p : Program} {l : Launch} {e : Env} {s : State} {m : MethodId} {args : Array Value} {below : List Frame} {meth : Method} {c : Code} {D : va_G} {cI cG cZ cJ : ClassId} {ts : Nat × Nat} {L : List Nat} {ad : Nat → Nat} {al : Nat} (hflag : l.stackTraces = false) (hT : ∀ x ∈ c.exceptionTable.toList, False) (hX : XW s) (hL : Lf L al) (X : FX RX6 wsX6_at cX6_at 7 (some .int) D cI cG cZ cJ ts L ad p s m args meth c) (a1 : Int32) (a2 : Int32) (a3 : Int32) (Q : Int32 → St → Prop) (QX : String → St → Prop) (u : St) (H : Heap) (locs : List Loc) (ls : Array Slot) (h : f_X6_at al a1 a2 a3 u Q QX) (hP : va_P D vwCl (cW cI cG L ad al u) H) (hS : va_S (cA L ad s.heap.size) s.heap H locs) (hl : lv_has ls 7 [(0, .ref (ad 0)), (1, .int a1), (2, .int a2), (3, .int a3)]) : W p l e (headSpec wsX6_at { frames := 7, cells := 2, slots := 12, locals := 111 }).room s m args below meth c H locs 0 0 (vx_MQ below (va_Qi Q (fun u9 t => va_P D vwCl (cW cI cG L ad al u9) t.heap) (cA L ad s.heap.size)) (vx_X (fun _ => True) (fun E u9 t => QX E u9 ∧ va_P D vwCl (cW cI cG L ad al u9) t.heap) (cA L ad s.heap.size)) args s 2 12 (cA L ad s.heap.size)) (F0 m 0 ls []) := by
  obtain ⟨hx, hb, hml, hown, hts, hr, hlocks, hwd, hC⟩ := id X
  have hK := hC.1
  have hout : ∀ (q : Nat), ∀ x ∈ c.exceptionTable.toList, covers x q = false := fun _ x hx => (hT x hx).elim
  have m0 : 0 ∈ L := hL 0 (by omega)
  obtain ⟨i0, hi0⟩ := wL_ix m0
  have m1 : 1 ∈ L := hL 1 (by omega)
  obtain ⟨i1, hi1⟩ := wL_ix m1
  have m7 : 7 ∈ L := hL 7 (by omega)
  obtain ⟨i7, hi7⟩ := wL_ix m7
  have m8 : 8 ∈ L := hL 8 (by omega)
  obtain ⟨i8, hi8⟩ := wL_ix m8
  have m9 : 9 ∈ L := hL 9 (by omega)
  obtain ⟨i9, hi9⟩ := wL_ix m9
  have lk0 := hts (.fieldLink RX6 14 "FormForge" "field" "LFormForge$Field;") (by decide +kernel)
  have lk1 := hts (.classLink RX6 73 "java/lang/IllegalArgumentException") (by decide +kernel)
  have lk2 := hts (.initialized "java/lang/IllegalArgumentException") (by decide +kernel)
  have lk3 := hts (.fieldLink RX6 50 "FormForge" "degrees" "[I") (by decide +kernel)
  have lk4 := hts (.fieldLink RX6 54 "FormForge" "codes" "[I") (by decide +kernel)
  have lk5 := hts (.fieldLink RX6 57 "FormForge" "first" "[I") (by decide +kernel)
  have n6 : ∀ w ∈ wsX60, w ∈ wsX6_at := by decide +kernel
  obtain ⟨sa4, hs4⟩ := hC.2.2.1 _ (List.mem_of_getElem? (i := 4) rfl)
  unfold f_X6_at at h
  refine lv_aload_n hx hb dX6_at_0 rfl (lv_at hl 0 rfl) ?_
  refine lv_iload_n hx hb dX6_at_1 rfl (lv_at hl 1 rfl) ?_
  refine cx_v (MC := 2) (MS := 12) (QX := QX) (vx_runV (C := RX6) (As := [.int a1]) (rest := []) ⟨hx, hb, hml, hown, hts⟩ (c_X6_checkForm hflag hL hwd H.size u a1 _ _ h) (cwV 1 hts gX6_at_X6_checkForm rfl rfl rfl (by decide +kernel) ⟨Nat.le_of_ble_eq_true rfl, Nat.le_of_ble_eq_true rfl⟩) (pcVX hC hX hP hS (cg_0 hi0) rfl) rfl rfl hl.1 rfl (lv_room (Nat.le_of_ble_eq_true rfl)) dX6_at_2 ⟨Nat.le_of_ble_eq_true rfl, Nat.le_of_ble_eq_true rfl⟩) hS (cA_mono hS.1) (hout _) hlocks (Nat.le_of_ble_eq_true rfl) (Nat.le_of_ble_eq_true rfl) (fun E u9 h9 => h9) (fun u1 H locs h hP hS => ?_)
  refine lv_aload_n hx hb dX6_at_5 rfl (lv_at hl 0 rfl) ?_
  refine va_get (C := RX6) (T := TX6) (N := 12) hx hb hts n6 hown hK hP i0 (cg_0 hi0) rfl 0 (by decide) lk0 (fun _ h9 => h9) rfl dX6_at_6 ?_
  refine lv_iload_n hx hb dX6_at_9 rfl (lv_at hl 2 rfl) ?_
  refine cc_i (va_runV (C := RX2) (As := [.int a2]) (rest := []) ⟨hx, hb, hml, hown, hts⟩ (c_X2_has hL hwd H.size u1 a2 _ h) (cwV 1 hts gX6_at_X2_has rfl rfl rfl (by decide +kernel) ⟨Nat.le_of_ble_eq_true rfl, Nat.le_of_ble_eq_true rfl⟩) (pcV hC hP hS (cg_1 hi1) rfl) rfl rfl hl.1 rfl (lv_room (Nat.le_of_ble_eq_true rfl)) dX6_at_10 ⟨Nat.le_of_ble_eq_true rfl, Nat.le_of_ble_eq_true rfl⟩) hS (cA_mono hS.1) (fun v2 u3 H locs h hP hS => ?_)
  refine lv_if_eq (tgt := 27) hx hb dX6_at_13 (by decide) (fun c4 => ?_) (fun c4 => ?_)
  · replace h := h.1 c4
    exact vx_throwS hx hb hflag hown (by decide +kernel) (by decide +kernel) lk1 lk2 hs4 (hat_X6_at_77 hts hX) hgood_77 hC.2.2.2.1 hC.2.2.2.2.1 hS (hl.1.trans hml.symm) dX6_at_27 dX6_at_30 dX6_at_31 dX6_at_33 dX6_at_36 (hout _) (Nat.le_of_ble_eq_true rfl) (Nat.le_of_ble_eq_true rfl) (Nat.le_of_ble_eq_true rfl) (Nat.le_of_ble_eq_true rfl) hlocks (fun t ha hz hq => ⟨_, trivial, ⟨h, hP.kept (fun k q hk => hq _ (hP k q hk).lt)⟩, vaF_more hS hz hq⟩) hS.2.2 (by decide) (by decide)
  · replace h := h.2 c4
    refine lv_aload_n hx hb dX6_at_16 rfl (lv_at hl 0 rfl) ?_
    refine va_get (C := RX6) (T := TX6) (N := 12) hx hb hts n6 hown hK hP i0 (cg_0 hi0) rfl 0 (by decide) lk0 (fun _ h9 => h9) rfl dX6_at_17 ?_
    refine lv_iload_n hx hb dX6_at_20 rfl (lv_at hl 3 rfl) ?_
    refine cc_i (va_runV (C := RX2) (As := [.int a3]) (rest := []) ⟨hx, hb, hml, hown, hts⟩ (c_X2_has hL hwd H.size u3 a3 _ h) (cwV 1 hts gX6_at_X2_has rfl rfl rfl (by decide +kernel) ⟨Nat.le_of_ble_eq_true rfl, Nat.le_of_ble_eq_true rfl⟩) (pcV hC hP hS (cg_1 hi1) rfl) rfl rfl hl.1 rfl (lv_room (Nat.le_of_ble_eq_true rfl)) dX6_at_21 ⟨Nat.le_of_ble_eq_true rfl, Nat.le_of_ble_eq_true rfl⟩) hS (cA_mono hS.1) (fun v5 u6 H locs h hP hS => ?_)
    refine lv_if_ne (tgt := 37) hx hb dX6_at_24 (by decide) (fun c7 => ?_) (fun c7 => ?_)
    · replace h := h.1 c7
      refine lv_aload_n hx hb dX6_at_37 rfl (lv_at hl 0 rfl) ?_
      refine va_get (C := RX6) (T := TX6) (N := 12) hx hb hts n6 hown hK hP i0 (cg_0 hi0) rfl 5 (by decide) lk3 (fun _ h9 => h9) rfl dX6_at_38 ?_
      refine lv_iload_n hx hb dX6_at_41 rfl (lv_at hl 1 rfl) ?_
      refine cc_i (va_runS (As := [.ref (ad 7), .int a1]) (rest := []) ⟨hx, hb, hml, hown, hts⟩ (c_X6_read hL.g (Or.inl ⟨by decide, by decide⟩) m7 hwd H.size u6 a1 _ h) (va_cwS 2 hts gX6_at_X6_read rfl rfl rfl (by decide +kernel) ⟨Nat.le_of_ble_eq_true rfl, Nat.le_of_ble_eq_true rfl⟩) (pcS hC hP hS) rfl rfl hl.1 rfl (lv_room (Nat.le_of_ble_eq_true rfl)) dX6_at_42 ⟨Nat.le_of_ble_eq_true rfl, Nat.le_of_ble_eq_true rfl⟩) hS (cA_mono hS.1) (fun v8 u9 H locs h hP hS => ?_)
      refine lv_istore (lv' := [(4, .int v8), (0, .ref (ad 0)), (1, .int a1), (2, .int a2), (3, .int a3)]) hx hb dX6_at_45 hl (by decide) rfl (fun ls hl => ?_)
      refine lv_aload_n hx hb dX6_at_47 rfl (lv_at hl 1 rfl) ?_
      refine va_get (C := RX6) (T := TX6) (N := 12) hx hb hts n6 hown hK hP i0 (cg_0 hi0) rfl 0 (by decide) lk0 (fun _ h9 => h9) rfl dX6_at_48 ?_
      refine lv_aload_n hx hb dX6_at_51 rfl (lv_at hl 1 rfl) ?_
      refine va_get (C := RX6) (T := TX6) (N := 12) hx hb hts n6 hown hK hP i0 (cg_0 hi0) rfl 6 (by decide) lk4 (fun _ h9 => h9) rfl dX6_at_52 ?_
      refine lv_iload_n hx hb dX6_at_55 rfl (lv_at hl 2 rfl) ?_
      refine cc_i (va_runS (As := [.ref (ad 8), .int a1]) (rest := [.ref (ad 1)]) ⟨hx, hb, hml, hown, hts⟩ (c_X6_read hL.g (Or.inl ⟨by decide, by decide⟩) m8 hwd H.size u9 a1 _ h) (va_cwS 2 hts gX6_at_X6_read rfl rfl rfl (by decide +kernel) ⟨Nat.le_of_ble_eq_true rfl, Nat.le_of_ble_eq_true rfl⟩) (pcS hC hP hS) rfl rfl hl.1 rfl (lv_room (Nat.le_of_ble_eq_true rfl)) dX6_at_56 ⟨Nat.le_of_ble_eq_true rfl, Nat.le_of_ble_eq_true rfl⟩) hS (cA_mono hS.1) (fun v10 u11 H locs h hP hS => ?_)
      refine lv_aload_n hx hb dX6_at_59 rfl (lv_at hl 1 rfl) ?_
      refine va_get (C := RX6) (T := TX6) (N := 12) hx hb hts n6 hown hK hP i0 (cg_0 hi0) rfl 7 (by decide) lk5 (fun _ h9 => h9) rfl dX6_at_60 ?_
      refine cc_v (va_runV (C := RX2) (As := [.int v10, .ref (ad 9)]) (rest := []) ⟨hx, hb, hml, hown, hts⟩ (c_X2_spell hL (Or.inl ⟨by decide, by decide⟩) m9 hwd H.size u11 v10 _ h) (cwV 2 hts gX6_at_X2_spell rfl rfl rfl (by decide +kernel) ⟨Nat.le_of_ble_eq_true rfl, Nat.le_of_ble_eq_true rfl⟩) (pcV hC hP hS (cg_1 hi1) rfl) rfl rfl hl.1 rfl (lv_room (Nat.le_of_ble_eq_true rfl)) dX6_at_63 ⟨Nat.le_of_ble_eq_true rfl, Nat.le_of_ble_eq_true rfl⟩) hS (cA_mono hS.1) (fun u12 H locs h hP hS => ?_)
      refine lv_iconst (v := 0) hx hb dX6_at_66 (by decide) ?_
      refine lv_istore (lv' := [(5, .int 0), (4, .int v8), (0, .ref (ad 0)), (1, .int a1), (2, .int a2), (3, .int a3)]) hx hb dX6_at_67 hl (by decide) rfl (fun ls hl => ?_)
      refine lv_iconst (v := 0) hx hb dX6_at_69 (by decide) ?_
      refine lv_istore (lv' := [(6, .int 0), (5, .int 0), (4, .int v8), (0, .ref (ad 0)), (1, .int a1), (2, .int a2), (3, .int a3)]) hx hb dX6_at_70 hl (by decide) rfl (fun ls hl => ?_)
      obtain ⟨n22, h⟩ := h
      refine w_X6_at_L72 hflag hT hX hL X a2 a3 v8 _ _ _ (fun v23 u24 H locs ls h hP hS hl => ?_) n22 0 0 _ _ _ _ h hP hS (lv_sub hl [3, 5, 6, 2, 1, 0] rfl)
      refine lv_aload_n hx hb dX6_at_124 rfl (lv_at hl 0 rfl) ?_
      refine va_get (C := RX6) (T := TX6) (N := 12) hx hb hts n6 hown hK hP i0 (cg_0 hi0) rfl 0 (by decide) lk0 (fun _ h9 => h9) rfl dX6_at_125 ?_
      refine lv_iload hx hb dX6_at_128 (lv_at hl 1 rfl) ?_
      refine cc_i (va_runV (C := RX2) (As := [.int v23]) (rest := []) ⟨hx, hb, hml, hown, hts⟩ (c_X2_rest hL.g hwd H.size u24 v23 _ h) (cwV 1 hts gX6_at_X2_rest rfl rfl rfl (by decide +kernel) ⟨Nat.le_of_ble_eq_true rfl, Nat.le_of_ble_eq_true rfl⟩) (pcV hC hP hS (cg_1 hi1) rfl) rfl rfl hl.1 rfl (lv_room (Nat.le_of_ble_eq_true rfl)) dX6_at_130 ⟨Nat.le_of_ble_eq_true rfl, Nat.le_of_ble_eq_true rfl⟩) hS (cA_mono hS.1) (fun v25 u26 H locs h hP hS => ?_)
      refine W.widen (k := 2) (n := 12) (by decide) (by decide) ?_
      exact vx_ret (W.iret (v := v25) hx hb hr (fun t ht hW => ⟨⟨_, _, rfl, h, by show va_P _ _ _ t.heap; rw [ht]; exact hP⟩, hS.F ht⟩) hS.2.2 dX6_at_133)
    · replace h := h.2 c7
      exact vx_throwS hx hb hflag hown (by decide +kernel) (by decide +kernel) lk1 lk2 hs4 (hat_X6_at_77 hts hX) hgood_77 hC.2.2.2.1 hC.2.2.2.2.1 hS (hl.1.trans hml.symm) dX6_at_27 dX6_at_30 dX6_at_31 dX6_at_33 dX6_at_36 (hout _) (Nat.le_of_ble_eq_true rfl) (Nat.le_of_ble_eq_true rfl) (Nat.le_of_ble_eq_true rfl) (Nat.le_of_ble_eq_true rfl) hlocks (fun t ha hz hq => ⟨_, trivial, ⟨h, hP.kept (fun k q hk => hq _ (hP k q hk).lt)⟩, vaF_more hS hz hq⟩) hS.2.2 (by decide) (by decide)
set_option maxRecDepth 100000 in
set_option maxHeartbeats 4000000 in
theorem c_X6_at {l : Launch} {D : va_G} {cI cG cZ cJ : ClassId} {ts : Nat × Nat} {L : List Nat} {ad : Nat → Nat} {al : Nat} (hflag : l.stackTraces = false) (hL : Lf L al) (hwd : WD L ad) (sz : Nat) (u : St) (a1 : Int32) (a2 : Int32) (a3 : Int32) (Q : Int32 → St → Prop) (QX : String → St → Prop) (h : f_X6_at al a1 a2 a3 u Q QX) : vx_Met l yX6_at wsX6_at ({ frames := 7, cells := 2, slots := 12, locals := 111 }) (va_Pc [.ref (ad 0), .int a1, .int a2, .int a3] (PCX D cI cG cZ cJ ts L ad al sz u)) (va_Qi Q (fun u9 t => va_P D vwCl (cW cI cG L ad al u9) t.heap) (cA L ad sz)) (vx_X (fun _ => True) (fun E u9 t => QX E u9 ∧ va_P D vwCl (cW cI cG L ad al u9) t.heap) (cA L ad sz)) 2 12 (cA L ad sz) := by
  refine vx_ofW (cc := cX6_at) (maxL := 7) (ret := (some .int)) (by decide) rfl ?_
  intro p e s m args below meth c s₁ B hml hT hv
  obtain ⟨rfl, ⟨hsz, hP, hC⟩, hX⟩ := hv
  subst hsz
  have X : FX RX6 wsX6_at cX6_at 7 (some .int) D cI cG cZ cJ ts L ad p s m _ meth c := ⟨B.exec, B.bytes, hml, findClass_of_methodNamed B.named, atoms_spec (ws := wsX6_at) B.pre, B.returns, B.notSynchronized, hwd, hC⟩
  have hl := lv_entry ([.ref (ad 0), .int a1, .int a2, .int a3]) (n := 7) (Nat.le_of_ble_eq_true rfl)
  rw [lg_entry_eq]
  generalize (lg_sl ([.ref (ad 0), .int a1, .int a2, .int a3]) ++ List.replicate (7 - (lg_sl ([.ref (ad 0), .int a1, .int a2, .int a3])).length) Slot.unset).toArray = ls at hl ⊢
  exact w_X6_at hflag hT hX hL X a1 a2 a3 Q QX u _ _ _ h hP va_S.rf hl
set_option maxRecDepth 100000 in
set_option maxHeartbeats 4000000 in
theorem w_X6_multiplicity {p : Program} {l : Launch} {e : Env} {s : State} {m : MethodId} {args : Array Value} {below : List Frame} {meth : Method} {c : Code} {D : va_G} {cI cG cZ cJ : ClassId} {ts : Nat × Nat} {L : List Nat} {ad : Nat → Nat} {al : Nat} (hflag : l.stackTraces = false) (hT : ∀ x ∈ c.exceptionTable.toList, False) (hX : XW s) (hL : Lf L al) (X : FX RX6 wsX6_multiplicity cX6_multiplicity 3 (some .int) D cI cG cZ cJ ts L ad p s m args meth c) (a1 : Int32) (a2 : Int32) (Q : Int32 → St → Prop) (QX : String → St → Prop) (u : St) (H : Heap) (locs : List Loc) (ls : Array Slot) (h : f_X6_multiplicity al a1 a2 u Q QX) (hP : va_P D vwCl (cW cI cG L ad al u) H) (hS : va_S (cA L ad s.heap.size) s.heap H locs) (hl : lv_has ls 3 [(0, .ref (ad 0)), (1, .int a1), (2, .int a2)]) : W p l e (headSpec wsX6_multiplicity { frames := 7, cells := 2, slots := 12, locals := 111 }).room s m args below meth c H locs 0 0 (vx_MQ below (va_Qi Q (fun u9 t => va_P D vwCl (cW cI cG L ad al u9) t.heap) (cA L ad s.heap.size)) (vx_X (fun _ => True) (fun E u9 t => QX E u9 ∧ va_P D vwCl (cW cI cG L ad al u9) t.heap) (cA L ad s.heap.size)) args s 2 12 (cA L ad s.heap.size)) (F0 m 0 ls []) := by
  obtain ⟨hx, hb, hml, hown, hts, hr, hlocks, hwd, hC⟩ := id X
  have hK := hC.1
  have hout : ∀ (q : Nat), ∀ x ∈ c.exceptionTable.toList, covers x q = false := fun _ x hx => (hT x hx).elim
  have m0 : 0 ∈ L := hL 0 (by omega)
  obtain ⟨i0, hi0⟩ := wL_ix m0
  have m1 : 1 ∈ L := hL 1 (by omega)
  obtain ⟨i1, hi1⟩ := wL_ix m1
  have m7 : 7 ∈ L := hL 7 (by omega)
  obtain ⟨i7, hi7⟩ := wL_ix m7
  have m8 : 8 ∈ L := hL 8 (by omega)
  obtain ⟨i8, hi8⟩ := wL_ix m8
  have lk0 := hts (.classLink RX6 157 "java/lang/IndexOutOfBoundsException") (by decide +kernel)
  have lk1 := hts (.initialized "java/lang/IndexOutOfBoundsException") (by decide +kernel)
  have lk2 := hts (.fieldLink RX6 14 "FormForge" "field" "LFormForge$Field;") (by decide +kernel)
  have lk3 := hts (.fieldLink RX6 80 "FormForge$Field" "p" "I") (by decide +kernel)
  have lk4 := hts (.fieldLink RX6 50 "FormForge" "degrees" "[I") (by decide +kernel)
  have lk5 := hts (.fieldLink RX6 54 "FormForge" "codes" "[I") (by decide +kernel)
  have n2 : ∀ w ∈ wsX20, w ∈ wsX6_multiplicity := by decide +kernel
  have n6 : ∀ w ∈ wsX60, w ∈ wsX6_multiplicity := by decide +kernel
  obtain ⟨sa5, hs5⟩ := hC.2.2.1 _ (List.mem_of_getElem? (i := 5) rfl)
  unfold f_X6_multiplicity at h
  refine lv_aload_n hx hb dX6_multiplicity_0 rfl (lv_at hl 0 rfl) ?_
  refine lv_iload_n hx hb dX6_multiplicity_1 rfl (lv_at hl 1 rfl) ?_
  refine cx_v (MC := 2) (MS := 12) (QX := QX) (vx_runV (C := RX6) (As := [.int a1]) (rest := []) ⟨hx, hb, hml, hown, hts⟩ (c_X6_checkForm hflag hL hwd H.size u a1 _ _ h) (cwV 1 hts gX6_multiplicity_X6_checkForm rfl rfl rfl (by decide +kernel) ⟨Nat.le_of_ble_eq_true rfl, Nat.le_of_ble_eq_true rfl⟩) (pcVX hC hX hP hS (cg_0 hi0) rfl) rfl rfl hl.1 rfl (lv_room (Nat.le_of_ble_eq_true rfl)) dX6_multiplicity_2 ⟨Nat.le_of_ble_eq_true rfl, Nat.le_of_ble_eq_true rfl⟩) hS (cA_mono hS.1) (hout _) hlocks (Nat.le_of_ble_eq_true rfl) (Nat.le_of_ble_eq_true rfl) (fun E u9 h9 => h9) (fun u1 H locs h hP hS => ?_)
  refine lv_iload_n hx hb dX6_multiplicity_5 rfl (lv_at hl 2 rfl) ?_
  refine lv_if_lt (tgt := 20) hx hb dX6_multiplicity_6 (by decide) (fun c2 => ?_) (fun c2 => ?_)
  · replace h := h.1 c2
    exact vx_throwS hx hb hflag hown (by decide +kernel) (by decide +kernel) lk0 lk1 hs5 (hat_X6_multiplicity_161 hts hX) hgood_161 hC.2.2.2.1 hC.2.2.2.2.1 hS (hl.1.trans hml.symm) dX6_multiplicity_20 dX6_multiplicity_23 dX6_multiplicity_24 dX6_multiplicity_26 dX6_multiplicity_29 (hout _) (Nat.le_of_ble_eq_true rfl) (Nat.le_of_ble_eq_true rfl) (Nat.le_of_ble_eq_true rfl) (Nat.le_of_ble_eq_true rfl) hlocks (fun t ha hz hq => ⟨_, trivial, ⟨h, hP.kept (fun k q hk => hq _ (hP k q hk).lt)⟩, vaF_more hS hz hq⟩) hS.2.2 (by decide) (by decide)
  · replace h := h.2 c2
    refine lv_iload_n hx hb dX6_multiplicity_9 rfl (lv_at hl 2 rfl) ?_
    refine lv_aload_n hx hb dX6_multiplicity_10 rfl (lv_at hl 0 rfl) ?_
    refine va_get (C := RX6) (T := TX6) (N := 12) hx hb hts n6 hown hK hP i0 (cg_0 hi0) rfl 0 (by decide) lk2 (fun _ h9 => h9) rfl dX6_multiplicity_11 ?_
    refine va_get (C := RX2) (T := TX2) (N := 1) hx hb hts n2 hown hK hP i1 (cg_1 hi1) rfl 0 (by decide) lk3 (fun _ h9 => h9) rfl dX6_multiplicity_14 ?_
    refine lv_icmp_le (tgt := 30) hx hb dX6_multiplicity_17 (by decide) (fun c3 => ?_) (fun c3 => ?_)
    · replace h := h.1 c3
      refine lv_aload_n hx hb dX6_multiplicity_30 rfl (lv_at hl 0 rfl) ?_
      refine lv_aload_n hx hb dX6_multiplicity_31 rfl (lv_at hl 0 rfl) ?_
      refine va_get (C := RX6) (T := TX6) (N := 12) hx hb hts n6 hown hK hP i0 (cg_0 hi0) rfl 5 (by decide) lk4 (fun _ h9 => h9) rfl dX6_multiplicity_32 ?_
      refine lv_iload_n hx hb dX6_multiplicity_35 rfl (lv_at hl 1 rfl) ?_
      refine cc_i (va_runS (As := [.ref (ad 7), .int a1]) (rest := [.ref (ad 0)]) ⟨hx, hb, hml, hown, hts⟩ (c_X6_read hL.g (Or.inl ⟨by decide, by decide⟩) m7 hwd H.size u1 a1 _ h) (va_cwS 2 hts gX6_multiplicity_X6_read rfl rfl rfl (by decide +kernel) ⟨Nat.le_of_ble_eq_true rfl, Nat.le_of_ble_eq_true rfl⟩) (pcS hC hP hS) rfl rfl hl.1 rfl (lv_room (Nat.le_of_ble_eq_true rfl)) dX6_multiplicity_36 ⟨Nat.le_of_ble_eq_true rfl, Nat.le_of_ble_eq_true rfl⟩) hS (cA_mono hS.1) (fun v4 u5 H locs h hP hS => ?_)
      refine lv_aload_n hx hb dX6_multiplicity_39 rfl (lv_at hl 0 rfl) ?_
      refine va_get (C := RX6) (T := TX6) (N := 12) hx hb hts n6 hown hK hP i0 (cg_0 hi0) rfl 6 (by decide) lk5 (fun _ h9 => h9) rfl dX6_multiplicity_40 ?_
      refine lv_iload_n hx hb dX6_multiplicity_43 rfl (lv_at hl 1 rfl) ?_
      refine cc_i (va_runS (As := [.ref (ad 8), .int a1]) (rest := [.int v4, .ref (ad 0)]) ⟨hx, hb, hml, hown, hts⟩ (c_X6_read hL.g (Or.inl ⟨by decide, by decide⟩) m8 hwd H.size u5 a1 _ h) (va_cwS 2 hts gX6_multiplicity_X6_read rfl rfl rfl (by decide +kernel) ⟨Nat.le_of_ble_eq_true rfl, Nat.le_of_ble_eq_true rfl⟩) (pcS hC hP hS) rfl rfl hl.1 rfl (lv_room (Nat.le_of_ble_eq_true rfl)) dX6_multiplicity_44 ⟨Nat.le_of_ble_eq_true rfl, Nat.le_of_ble_eq_true rfl⟩) hS (cA_mono hS.1) (fun v6 u7 H locs h hP hS => ?_)
      refine lv_iload_n hx hb dX6_multiplicity_47 rfl (lv_at hl 2 rfl) ?_
      refine cc_i (va_runV (C := RX6) (As := [.int v4, .int v6, .int a2]) (rest := []) ⟨hx, hb, hml, hown, hts⟩ (c_X6_divisions hL hwd H.size u7 v4 v6 a2 _ h) (cwV 3 hts gX6_multiplicity_X6_divisions rfl rfl rfl (by decide +kernel) ⟨Nat.le_of_ble_eq_true rfl, Nat.le_of_ble_eq_true rfl⟩) (pcV hC hP hS (cg_0 hi0) rfl) rfl rfl hl.1 rfl (lv_room (Nat.le_of_ble_eq_true rfl)) dX6_multiplicity_48 ⟨Nat.le_of_ble_eq_true rfl, Nat.le_of_ble_eq_true rfl⟩) hS (cA_mono hS.1) (fun v8 u9 H locs h hP hS => ?_)
      refine W.widen (k := 2) (n := 12) (by decide) (by decide) ?_
      exact vx_ret (W.iret (v := v8) hx hb hr (fun t ht hW => ⟨⟨_, _, rfl, h, by show va_P _ _ _ t.heap; rw [ht]; exact hP⟩, hS.F ht⟩) hS.2.2 dX6_multiplicity_51)
    · replace h := h.2 c3
      exact vx_throwS hx hb hflag hown (by decide +kernel) (by decide +kernel) lk0 lk1 hs5 (hat_X6_multiplicity_161 hts hX) hgood_161 hC.2.2.2.1 hC.2.2.2.2.1 hS (hl.1.trans hml.symm) dX6_multiplicity_20 dX6_multiplicity_23 dX6_multiplicity_24 dX6_multiplicity_26 dX6_multiplicity_29 (hout _) (Nat.le_of_ble_eq_true rfl) (Nat.le_of_ble_eq_true rfl) (Nat.le_of_ble_eq_true rfl) (Nat.le_of_ble_eq_true rfl) hlocks (fun t ha hz hq => ⟨_, trivial, ⟨h, hP.kept (fun k q hk => hq _ (hP k q hk).lt)⟩, vaF_more hS hz hq⟩) hS.2.2 (by decide) (by decide)
set_option maxRecDepth 100000 in
set_option maxHeartbeats 4000000 in
theorem c_X6_multiplicity {l : Launch} {D : va_G} {cI cG cZ cJ : ClassId} {ts : Nat × Nat} {L : List Nat} {ad : Nat → Nat} {al : Nat} (hflag : l.stackTraces = false) (hL : Lf L al) (hwd : WD L ad) (sz : Nat) (u : St) (a1 : Int32) (a2 : Int32) (Q : Int32 → St → Prop) (QX : String → St → Prop) (h : f_X6_multiplicity al a1 a2 u Q QX) : vx_Met l yX6_multiplicity wsX6_multiplicity ({ frames := 7, cells := 2, slots := 12, locals := 111 }) (va_Pc [.ref (ad 0), .int a1, .int a2] (PCX D cI cG cZ cJ ts L ad al sz u)) (va_Qi Q (fun u9 t => va_P D vwCl (cW cI cG L ad al u9) t.heap) (cA L ad sz)) (vx_X (fun _ => True) (fun E u9 t => QX E u9 ∧ va_P D vwCl (cW cI cG L ad al u9) t.heap) (cA L ad sz)) 2 12 (cA L ad sz) := by
  refine vx_ofW (cc := cX6_multiplicity) (maxL := 3) (ret := (some .int)) (by decide) rfl ?_
  intro p e s m args below meth c s₁ B hml hT hv
  obtain ⟨rfl, ⟨hsz, hP, hC⟩, hX⟩ := hv
  subst hsz
  have X : FX RX6 wsX6_multiplicity cX6_multiplicity 3 (some .int) D cI cG cZ cJ ts L ad p s m _ meth c := ⟨B.exec, B.bytes, hml, findClass_of_methodNamed B.named, atoms_spec (ws := wsX6_multiplicity) B.pre, B.returns, B.notSynchronized, hwd, hC⟩
  have hl := lv_entry ([.ref (ad 0), .int a1, .int a2]) (n := 3) (Nat.le_of_ble_eq_true rfl)
  rw [lg_entry_eq]
  generalize (lg_sl ([.ref (ad 0), .int a1, .int a2]) ++ List.replicate (3 - (lg_sl ([.ref (ad 0), .int a1, .int a2])).length) Slot.unset).toArray = ls at hl ⊢
  exact w_X6_multiplicity hflag hT hX hL X a1 a2 Q QX u _ _ _ h hP va_S.rf hl
set_option maxRecDepth 100000 in
set_option maxHeartbeats 4000000 in
theorem w_X6_changed {p : Program} {l : Launch} {e : Env} {s : State} {m : MethodId} {args : Array Value} {below : List Frame} {meth : Method} {c : Code} {D : va_G} {cI cG cZ cJ : ClassId} {ts : Nat × Nat} {L : List Nat} {ad : Nat → Nat} {al : Nat} (hflag : l.stackTraces = false) (hT : ∀ x ∈ c.exceptionTable.toList, False) (hX : XW s) (hL : Lf L al) (X : FX RX6 wsX6_changed cX6_changed 3 (some .int) D cI cG cZ cJ ts L ad p s m args meth c) (a1 : Int32) (a2 : Int32) (Q : Int32 → St → Prop) (QX : String → St → Prop) (u : St) (H : Heap) (locs : List Loc) (ls : Array Slot) (h : f_X6_changed al a1 a2 u Q QX) (hP : va_P D vwCl (cW cI cG L ad al u) H) (hS : va_S (cA L ad s.heap.size) s.heap H locs) (hl : lv_has ls 3 [(0, .ref (ad 0)), (1, .int a1), (2, .int a2)]) : W p l e (headSpec wsX6_changed { frames := 7, cells := 2, slots := 12, locals := 111 }).room s m args below meth c H locs 0 0 (vx_MQ below (va_Qi Q (fun u9 t => va_P D vwCl (cW cI cG L ad al u9) t.heap) (cA L ad s.heap.size)) (vx_X (fun _ => True) (fun E u9 t => QX E u9 ∧ va_P D vwCl (cW cI cG L ad al u9) t.heap) (cA L ad s.heap.size)) args s 2 12 (cA L ad s.heap.size)) (F0 m 0 ls []) := by
  obtain ⟨hx, hb, hml, hown, hts, hr, hlocks, hwd, hC⟩ := id X
  have hK := hC.1
  have hout : ∀ (q : Nat), ∀ x ∈ c.exceptionTable.toList, covers x q = false := fun _ x hx => (hT x hx).elim
  have m0 : 0 ∈ L := hL 0 (by omega)
  obtain ⟨i0, hi0⟩ := wL_ix m0
  have m4 : 4 ∈ L := hL 4 (by omega)
  obtain ⟨i4, hi4⟩ := wL_ix m4
  have m7 : 7 ∈ L := hL 7 (by omega)
  obtain ⟨i7, hi7⟩ := wL_ix m7
  have m8 : 8 ∈ L := hL 8 (by omega)
  obtain ⟨i8, hi8⟩ := wL_ix m8
  have lk0 := hts (.classLink RX6 157 "java/lang/IndexOutOfBoundsException") (by decide +kernel)
  have lk1 := hts (.initialized "java/lang/IndexOutOfBoundsException") (by decide +kernel)
  have lk2 := hts (.fieldLink RX6 37 "FormForge" "group" "LFormForge$Group;") (by decide +kernel)
  have lk3 := hts (.fieldLink RX6 170 "FormForge$Group" "told" "I") (by decide +kernel)
  have lk4 := hts (.fieldLink RX6 50 "FormForge" "degrees" "[I") (by decide +kernel)
  have lk5 := hts (.fieldLink RX6 54 "FormForge" "codes" "[I") (by decide +kernel)
  have n4 : ∀ w ∈ wsX40, w ∈ wsX6_changed := by decide +kernel
  have n6 : ∀ w ∈ wsX60, w ∈ wsX6_changed := by decide +kernel
  obtain ⟨sa9, hs9⟩ := hC.2.2.1 _ (List.mem_of_getElem? (i := 9) rfl)
  unfold f_X6_changed at h
  refine lv_aload_n hx hb dX6_changed_0 rfl (lv_at hl 0 rfl) ?_
  refine lv_iload_n hx hb dX6_changed_1 rfl (lv_at hl 1 rfl) ?_
  refine cx_v (MC := 2) (MS := 12) (QX := QX) (vx_runV (C := RX6) (As := [.int a1]) (rest := []) ⟨hx, hb, hml, hown, hts⟩ (c_X6_checkForm hflag hL hwd H.size u a1 _ _ h) (cwV 1 hts gX6_changed_X6_checkForm rfl rfl rfl (by decide +kernel) ⟨Nat.le_of_ble_eq_true rfl, Nat.le_of_ble_eq_true rfl⟩) (pcVX hC hX hP hS (cg_0 hi0) rfl) rfl rfl hl.1 rfl (lv_room (Nat.le_of_ble_eq_true rfl)) dX6_changed_2 ⟨Nat.le_of_ble_eq_true rfl, Nat.le_of_ble_eq_true rfl⟩) hS (cA_mono hS.1) (hout _) hlocks (Nat.le_of_ble_eq_true rfl) (Nat.le_of_ble_eq_true rfl) (fun E u9 h9 => h9) (fun u1 H locs h hP hS => ?_)
  refine lv_iload_n hx hb dX6_changed_5 rfl (lv_at hl 2 rfl) ?_
  refine lv_if_lt (tgt := 20) hx hb dX6_changed_6 (by decide) (fun c2 => ?_) (fun c2 => ?_)
  · replace h := h.1 c2
    exact vx_throwS hx hb hflag hown (by decide +kernel) (by decide +kernel) lk0 lk1 hs9 (hat_X6_changed_161 hts hX) hgood_161 hC.2.2.2.1 hC.2.2.2.2.1 hS (hl.1.trans hml.symm) dX6_changed_20 dX6_changed_23 dX6_changed_24 dX6_changed_26 dX6_changed_29 (hout _) (Nat.le_of_ble_eq_true rfl) (Nat.le_of_ble_eq_true rfl) (Nat.le_of_ble_eq_true rfl) (Nat.le_of_ble_eq_true rfl) hlocks (fun t ha hz hq => ⟨_, trivial, ⟨h, hP.kept (fun k q hk => hq _ (hP k q hk).lt)⟩, vaF_more hS hz hq⟩) hS.2.2 (by decide) (by decide)
  · replace h := h.2 c2
    refine lv_iload_n hx hb dX6_changed_9 rfl (lv_at hl 2 rfl) ?_
    refine lv_aload_n hx hb dX6_changed_10 rfl (lv_at hl 0 rfl) ?_
    refine va_get (C := RX6) (T := TX6) (N := 12) hx hb hts n6 hown hK hP i0 (cg_0 hi0) rfl 3 (by decide) lk2 (fun _ h9 => h9) rfl dX6_changed_11 ?_
    refine va_get (C := RX4) (T := TX4) (N := 6) hx hb hts n4 hown hK hP i4 (cg_4 hi4) rfl 4 (by decide) lk3 (fun _ h9 => h9) rfl dX6_changed_14 ?_
    refine lv_icmp_lt (tgt := 30) hx hb dX6_changed_17 (by decide) (fun c3 => ?_) (fun c3 => ?_)
    · replace h := h.1 c3
      refine lv_aload_n hx hb dX6_changed_30 rfl (lv_at hl 0 rfl) ?_
      refine va_get (C := RX6) (T := TX6) (N := 12) hx hb hts n6 hown hK hP i0 (cg_0 hi0) rfl 3 (by decide) lk2 (fun _ h9 => h9) rfl dX6_changed_31 ?_
      refine lv_iload_n hx hb dX6_changed_34 rfl (lv_at hl 2 rfl) ?_
      refine lv_aload_n hx hb dX6_changed_35 rfl (lv_at hl 0 rfl) ?_
      refine va_get (C := RX6) (T := TX6) (N := 12) hx hb hts n6 hown hK hP i0 (cg_0 hi0) rfl 5 (by decide) lk4 (fun _ h9 => h9) rfl dX6_changed_36 ?_
      refine lv_iload_n hx hb dX6_changed_39 rfl (lv_at hl 1 rfl) ?_
      refine cc_i (va_runS (As := [.ref (ad 7), .int a1]) (rest := [.int a2, .ref (ad 4)]) ⟨hx, hb, hml, hown, hts⟩ (c_X6_read hL.g (Or.inl ⟨by decide, by decide⟩) m7 hwd H.size u1 a1 _ h) (va_cwS 2 hts gX6_changed_X6_read rfl rfl rfl (by decide +kernel) ⟨Nat.le_of_ble_eq_true rfl, Nat.le_of_ble_eq_true rfl⟩) (pcS hC hP hS) rfl rfl hl.1 rfl (lv_room (Nat.le_of_ble_eq_true rfl)) dX6_changed_40 ⟨Nat.le_of_ble_eq_true rfl, Nat.le_of_ble_eq_true rfl⟩) hS (cA_mono hS.1) (fun v4 u5 H locs h hP hS => ?_)
      refine lv_aload_n hx hb dX6_changed_43 rfl (lv_at hl 0 rfl) ?_
      refine va_get (C := RX6) (T := TX6) (N := 12) hx hb hts n6 hown hK hP i0 (cg_0 hi0) rfl 6 (by decide) lk5 (fun _ h9 => h9) rfl dX6_changed_44 ?_
      refine lv_iload_n hx hb dX6_changed_47 rfl (lv_at hl 1 rfl) ?_
      refine cc_i (va_runS (As := [.ref (ad 8), .int a1]) (rest := [.int v4, .int a2, .ref (ad 4)]) ⟨hx, hb, hml, hown, hts⟩ (c_X6_read hL.g (Or.inl ⟨by decide, by decide⟩) m8 hwd H.size u5 a1 _ h) (va_cwS 2 hts gX6_changed_X6_read rfl rfl rfl (by decide +kernel) ⟨Nat.le_of_ble_eq_true rfl, Nat.le_of_ble_eq_true rfl⟩) (pcS hC hP hS) rfl rfl hl.1 rfl (lv_room (Nat.le_of_ble_eq_true rfl)) dX6_changed_48 ⟨Nat.le_of_ble_eq_true rfl, Nat.le_of_ble_eq_true rfl⟩) hS (cA_mono hS.1) (fun v6 u7 H locs h hP hS => ?_)
      refine cc_i (va_runV (C := RX4) (As := [.int a2, .int v4, .int v6]) (rest := []) ⟨hx, hb, hml, hown, hts⟩ (c_X4_image hL hwd H.size u7 a2 v4 v6 _ h) (cwV 3 hts gX6_changed_X4_image rfl rfl rfl (by decide +kernel) ⟨Nat.le_of_ble_eq_true rfl, Nat.le_of_ble_eq_true rfl⟩) (pcV hC hP hS (cg_4 hi4) rfl) rfl rfl hl.1 rfl (lv_room (Nat.le_of_ble_eq_true rfl)) dX6_changed_51 ⟨Nat.le_of_ble_eq_true rfl, Nat.le_of_ble_eq_true rfl⟩) hS (cA_mono hS.1) (fun v8 u9 H locs h hP hS => ?_)
      refine W.widen (k := 2) (n := 12) (by decide) (by decide) ?_
      exact vx_ret (W.iret (v := v8) hx hb hr (fun t ht hW => ⟨⟨_, _, rfl, h, by show va_P _ _ _ t.heap; rw [ht]; exact hP⟩, hS.F ht⟩) hS.2.2 dX6_changed_54)
    · replace h := h.2 c3
      exact vx_throwS hx hb hflag hown (by decide +kernel) (by decide +kernel) lk0 lk1 hs9 (hat_X6_changed_161 hts hX) hgood_161 hC.2.2.2.1 hC.2.2.2.2.1 hS (hl.1.trans hml.symm) dX6_changed_20 dX6_changed_23 dX6_changed_24 dX6_changed_26 dX6_changed_29 (hout _) (Nat.le_of_ble_eq_true rfl) (Nat.le_of_ble_eq_true rfl) (Nat.le_of_ble_eq_true rfl) (Nat.le_of_ble_eq_true rfl) hlocks (fun t ha hz hq => ⟨_, trivial, ⟨h, hP.kept (fun k q hk => hq _ (hP k q hk).lt)⟩, vaF_more hS hz hq⟩) hS.2.2 (by decide) (by decide)
set_option maxRecDepth 100000 in
set_option maxHeartbeats 4000000 in
theorem c_X6_changed {l : Launch} {D : va_G} {cI cG cZ cJ : ClassId} {ts : Nat × Nat} {L : List Nat} {ad : Nat → Nat} {al : Nat} (hflag : l.stackTraces = false) (hL : Lf L al) (hwd : WD L ad) (sz : Nat) (u : St) (a1 : Int32) (a2 : Int32) (Q : Int32 → St → Prop) (QX : String → St → Prop) (h : f_X6_changed al a1 a2 u Q QX) : vx_Met l yX6_changed wsX6_changed ({ frames := 7, cells := 2, slots := 12, locals := 111 }) (va_Pc [.ref (ad 0), .int a1, .int a2] (PCX D cI cG cZ cJ ts L ad al sz u)) (va_Qi Q (fun u9 t => va_P D vwCl (cW cI cG L ad al u9) t.heap) (cA L ad sz)) (vx_X (fun _ => True) (fun E u9 t => QX E u9 ∧ va_P D vwCl (cW cI cG L ad al u9) t.heap) (cA L ad sz)) 2 12 (cA L ad sz) := by
  refine vx_ofW (cc := cX6_changed) (maxL := 3) (ret := (some .int)) (by decide) rfl ?_
  intro p e s m args below meth c s₁ B hml hT hv
  obtain ⟨rfl, ⟨hsz, hP, hC⟩, hX⟩ := hv
  subst hsz
  have X : FX RX6 wsX6_changed cX6_changed 3 (some .int) D cI cG cZ cJ ts L ad p s m _ meth c := ⟨B.exec, B.bytes, hml, findClass_of_methodNamed B.named, atoms_spec (ws := wsX6_changed) B.pre, B.returns, B.notSynchronized, hwd, hC⟩
  have hl := lv_entry ([.ref (ad 0), .int a1, .int a2]) (n := 3) (Nat.le_of_ble_eq_true rfl)
  rw [lg_entry_eq]
  generalize (lg_sl ([.ref (ad 0), .int a1, .int a2]) ++ List.replicate (3 - (lg_sl ([.ref (ad 0), .int a1, .int a2])).length) Slot.unset).toArray = ls at hl ⊢
  exact w_X6_changed hflag hT hX hL X a1 a2 Q QX u _ _ _ h hP va_S.rf hl
set_option maxRecDepth 100000 in
set_option maxHeartbeats 4000000 in
theorem w_X6_average {p : Program} {l : Launch} {e : Env} {s : State} {m : MethodId} {args : Array Value} {below : List Frame} {meth : Method} {c : Code} {D : va_G} {cI cG cZ cJ : ClassId} {ts : Nat × Nat} {L : List Nat} {ad : Nat → Nat} {al : Nat} (hflag : l.stackTraces = false) (hT : ∀ x ∈ c.exceptionTable.toList, False) (hX : XW s) (hL : Lf L al) (X : FX RX6 wsX6_average cX6_average 4 (some .int) D cI cG cZ cJ ts L ad p s m args meth c) (a1 : Int32) (Q : Int32 → St → Prop) (QX : String → St → Prop) (u : St) (H : Heap) (locs : List Loc) (ls : Array Slot) (h : f_X6_average al a1 u Q QX) (hP : va_P D vwCl (cW cI cG L ad al u) H) (hS : va_S (cA L ad s.heap.size) s.heap H locs) (hl : lv_has ls 4 [(0, .ref (ad 0)), (1, .int a1)]) : W p l e (headSpec wsX6_average { frames := 7, cells := 1, slots := 6, locals := 114 }).room s m args below meth c H locs 0 0 (vx_MQ below (va_Qi Q (fun u9 t => va_P D vwCl (cW cI cG L ad al u9) t.heap) (cA L ad s.heap.size)) (vx_X (fun _ => True) (fun E u9 t => QX E u9 ∧ va_P D vwCl (cW cI cG L ad al u9) t.heap) (cA L ad s.heap.size)) args s 1 6 (cA L ad s.heap.size)) (F0 m 0 ls []) := by
  obtain ⟨hx, hb, hml, hown, hts, hr, hlocks, hwd, hC⟩ := id X
  have hK := hC.1
  have hout : ∀ (q : Nat), ∀ x ∈ c.exceptionTable.toList, covers x q = false := fun _ x hx => (hT x hx).elim
  have m0 : 0 ∈ L := hL 0 (by omega)
  obtain ⟨i0, hi0⟩ := wL_ix m0
  have m1 : 1 ∈ L := hL 1 (by omega)
  obtain ⟨i1, hi1⟩ := wL_ix m1
  have m4 : 4 ∈ L := hL 4 (by omega)
  obtain ⟨i4, hi4⟩ := wL_ix m4
  have m5 : 5 ∈ L := hL 5 (by omega)
  obtain ⟨i5, hi5⟩ := wL_ix m5
  have m7 : 7 ∈ L := hL 7 (by omega)
  obtain ⟨i7, hi7⟩ := wL_ix m7
  have m8 : 8 ∈ L := hL 8 (by omega)
  obtain ⟨i8, hi8⟩ := wL_ix m8
  have lk0 := hts (.fieldLink RX6 14 "FormForge" "field" "LFormForge$Field;") (by decide +kernel)
  have lk1 := hts (.fieldLink RX6 37 "FormForge" "group" "LFormForge$Group;") (by decide +kernel)
  have lk2 := hts (.fieldLink RX6 177 "FormForge$Group" "size" "I") (by decide +kernel)
  have lk3 := hts (.fieldLink RX6 46 "FormForge" "walk" "LFormForge$Walk;") (by decide +kernel)
  have lk4 := hts (.fieldLink RX6 50 "FormForge" "degrees" "[I") (by decide +kernel)
  have lk5 := hts (.fieldLink RX6 54 "FormForge" "codes" "[I") (by decide +kernel)
  have lk6 := hts (.fieldLink RX6 133 "FormForge$Walk" "count" "I") (by decide +kernel)
  have n4 : ∀ w ∈ wsX40, w ∈ wsX6_average := by decide +kernel
  have n5 : ∀ w ∈ wsX50, w ∈ wsX6_average := by decide +kernel
  have n6 : ∀ w ∈ wsX60, w ∈ wsX6_average := by decide +kernel
  unfold f_X6_average at h
  refine lv_aload_n hx hb dX6_average_0 rfl (lv_at hl 0 rfl) ?_
  refine lv_iload_n hx hb dX6_average_1 rfl (lv_at hl 1 rfl) ?_
  refine cx_v (MC := 1) (MS := 6) (QX := QX) (vx_runV (C := RX6) (As := [.int a1]) (rest := []) ⟨hx, hb, hml, hown, hts⟩ (c_X6_checkForm hflag hL hwd H.size u a1 _ _ h) (cwV 1 hts gX6_average_X6_checkForm rfl rfl rfl (by decide +kernel) ⟨Nat.le_of_ble_eq_true rfl, Nat.le_of_ble_eq_true rfl⟩) (pcVX hC hX hP hS (cg_0 hi0) rfl) rfl rfl hl.1 rfl (lv_room (Nat.le_of_ble_eq_true rfl)) dX6_average_2 ⟨Nat.le_of_ble_eq_true rfl, Nat.le_of_ble_eq_true rfl⟩) hS (cA_mono hS.1) (hout _) hlocks (Nat.le_of_ble_eq_true rfl) (Nat.le_of_ble_eq_true rfl) (fun E u9 h9 => h9) (fun u1 H locs h hP hS => ?_)
  refine lv_aload_n hx hb dX6_average_5 rfl (lv_at hl 0 rfl) ?_
  refine va_get (C := RX6) (T := TX6) (N := 12) hx hb hts n6 hown hK hP i0 (cg_0 hi0) rfl 0 (by decide) lk0 (fun _ h9 => h9) rfl dX6_average_6 ?_
  refine lv_aload_n hx hb dX6_average_9 rfl (lv_at hl 0 rfl) ?_
  refine va_get (C := RX6) (T := TX6) (N := 12) hx hb hts n6 hown hK hP i0 (cg_0 hi0) rfl 3 (by decide) lk1 (fun _ h9 => h9) rfl dX6_average_10 ?_
  refine va_get (C := RX4) (T := TX4) (N := 6) hx hb hts n4 hown hK hP i4 (cg_4 hi4) rfl 5 (by decide) lk2 (fun _ h9 => h9) rfl dX6_average_13 ?_
  refine cc_i (va_runV (C := RX2) (As := [.int (u1 0 5)]) (rest := []) ⟨hx, hb, hml, hown, hts⟩ (c_X2_inverse hL hwd H.size u1 (u1 0 5) _ h) (cwV 1 hts gX6_average_X2_inverse rfl rfl rfl (by decide +kernel) ⟨Nat.le_of_ble_eq_true rfl, Nat.le_of_ble_eq_true rfl⟩) (pcV hC hP hS (cg_1 hi1) rfl) rfl rfl hl.1 rfl (lv_room (Nat.le_of_ble_eq_true rfl)) dX6_average_16 ⟨Nat.le_of_ble_eq_true rfl, Nat.le_of_ble_eq_true rfl⟩) hS (cA_mono hS.1) (fun v2 u3 H locs h hP hS => ?_)
  refine lv_istore_n (lv' := [(2, .int v2), (0, .ref (ad 0)), (1, .int a1)]) hx hb dX6_average_19 rfl hl (by decide) rfl (fun ls hl => ?_)
  refine lv_iload_n hx hb dX6_average_20 rfl (lv_at hl 0 rfl) ?_
  refine lv_if_ne (tgt := 26) hx hb dX6_average_21 (by decide) (fun c4 => ?_) (fun c4 => ?_)
  · replace h := h.1 c4
    refine lv_aload_n hx hb dX6_average_26 rfl (lv_at hl 1 rfl) ?_
    refine va_get (C := RX6) (T := TX6) (N := 12) hx hb hts n6 hown hK hP i0 (cg_0 hi0) rfl 4 (by decide) lk3 (fun _ h9 => h9) rfl dX6_average_27 ?_
    refine lv_aload_n hx hb dX6_average_30 rfl (lv_at hl 1 rfl) ?_
    refine va_get (C := RX6) (T := TX6) (N := 12) hx hb hts n6 hown hK hP i0 (cg_0 hi0) rfl 5 (by decide) lk4 (fun _ h9 => h9) rfl dX6_average_31 ?_
    refine lv_iload_n hx hb dX6_average_34 rfl (lv_at hl 2 rfl) ?_
    refine cc_i (va_runS (As := [.ref (ad 7), .int a1]) (rest := [.ref (ad 5)]) ⟨hx, hb, hml, hown, hts⟩ (c_X6_read hL.g (Or.inl ⟨by decide, by decide⟩) m7 hwd H.size u3 a1 _ h) (va_cwS 2 hts gX6_average_X6_read rfl rfl rfl (by decide +kernel) ⟨Nat.le_of_ble_eq_true rfl, Nat.le_of_ble_eq_true rfl⟩) (pcS hC hP hS) rfl rfl hl.1 rfl (lv_room (Nat.le_of_ble_eq_true rfl)) dX6_average_35 ⟨Nat.le_of_ble_eq_true rfl, Nat.le_of_ble_eq_true rfl⟩) hS (cA_mono hS.1) (fun v5 u6 H locs h hP hS => ?_)
    refine lv_aload_n hx hb dX6_average_38 rfl (lv_at hl 1 rfl) ?_
    refine va_get (C := RX6) (T := TX6) (N := 12) hx hb hts n6 hown hK hP i0 (cg_0 hi0) rfl 6 (by decide) lk5 (fun _ h9 => h9) rfl dX6_average_39 ?_
    refine lv_iload_n hx hb dX6_average_42 rfl (lv_at hl 2 rfl) ?_
    refine cc_i (va_runS (As := [.ref (ad 8), .int a1]) (rest := [.int v5, .ref (ad 5)]) ⟨hx, hb, hml, hown, hts⟩ (c_X6_read hL.g (Or.inl ⟨by decide, by decide⟩) m8 hwd H.size u6 a1 _ h) (va_cwS 2 hts gX6_average_X6_read rfl rfl rfl (by decide +kernel) ⟨Nat.le_of_ble_eq_true rfl, Nat.le_of_ble_eq_true rfl⟩) (pcS hC hP hS) rfl rfl hl.1 rfl (lv_room (Nat.le_of_ble_eq_true rfl)) dX6_average_43 ⟨Nat.le_of_ble_eq_true rfl, Nat.le_of_ble_eq_true rfl⟩) hS (cA_mono hS.1) (fun v7 u8 H locs h hP hS => ?_)
    refine cc_v (va_runV (C := RX5) (As := [.int v5, .int v7]) (rest := []) ⟨hx, hb, hml, hown, hts⟩ (c_X5_alone hL hwd H.size u8 v5 v7 _ h) (cwV 2 hts gX6_average_X5_alone rfl rfl rfl (by decide +kernel) ⟨Nat.le_of_ble_eq_true rfl, Nat.le_of_ble_eq_true rfl⟩) (pcV hC hP hS (cg_5 hi5) rfl) rfl rfl hl.1 rfl (lv_room (Nat.le_of_ble_eq_true rfl)) dX6_average_46 ⟨Nat.le_of_ble_eq_true rfl, Nat.le_of_ble_eq_true rfl⟩) hS (cA_mono hS.1) (fun u9 H locs h hP hS => ?_)
    refine lv_aload_n hx hb dX6_average_49 rfl (lv_at hl 1 rfl) ?_
    refine va_get (C := RX6) (T := TX6) (N := 12) hx hb hts n6 hown hK hP i0 (cg_0 hi0) rfl 4 (by decide) lk3 (fun _ h9 => h9) rfl dX6_average_50 ?_
    refine va_get (C := RX5) (T := TX5) (N := 7) hx hb hts n5 hown hK hP i5 (cg_5 hi5) rfl 6 (by decide) lk6 (fun _ h9 => h9) rfl dX6_average_53 ?_
    refine lv_if_le (tgt := 77) hx hb dX6_average_56 (by decide) (fun c10 => ?_) (fun c10 => ?_)
    · replace h := h.1 c10
      refine lv_iconst (v := 0) hx hb dX6_average_77 (by decide) ?_
      refine lv_istore_n (lv' := [(3, .int 0), (2, .int v2), (0, .ref (ad 0)), (1, .int a1)]) hx hb dX6_average_78 rfl hl (by decide) rfl (fun ls hl => ?_)
      refine lv_aload_n hx hb dX6_average_79 rfl (lv_at hl 2 rfl) ?_
      refine va_get (C := RX6) (T := TX6) (N := 12) hx hb hts n6 hown hK hP i0 (cg_0 hi0) rfl 0 (by decide) lk0 (fun _ h9 => h9) rfl dX6_average_80 ?_
      refine lv_aload_n hx hb dX6_average_83 rfl (lv_at hl 2 rfl) ?_
      refine va_get (C := RX6) (T := TX6) (N := 12) hx hb hts n6 hown hK hP i0 (cg_0 hi0) rfl 4 (by decide) lk3 (fun _ h9 => h9) rfl dX6_average_84 ?_
      refine cc_i (va_runV (C := RX5) (As := []) (rest := [.ref (ad 1)]) ⟨hx, hb, hml, hown, hts⟩ (c_X5_sumOfCodes hL hwd H.size u9 _ h) (cwV 0 hts gX6_average_X5_sumOfCodes rfl rfl rfl (by decide +kernel) ⟨Nat.le_of_ble_eq_true rfl, Nat.le_of_ble_eq_true rfl⟩) (pcV hC hP hS (cg_5 hi5) rfl) rfl rfl hl.1 rfl (lv_room (Nat.le_of_ble_eq_true rfl)) dX6_average_87 ⟨Nat.le_of_ble_eq_true rfl, Nat.le_of_ble_eq_true rfl⟩) hS (cA_mono hS.1) (fun v11 u12 H locs h hP hS => ?_)
      refine lv_aload_n hx hb dX6_average_90 rfl (lv_at hl 2 rfl) ?_
      refine va_get (C := RX6) (T := TX6) (N := 12) hx hb hts n6 hown hK hP i0 (cg_0 hi0) rfl 0 (by decide) lk0 (fun _ h9 => h9) rfl dX6_average_91 ?_
      refine lv_iload_n hx hb dX6_average_94 rfl (lv_at hl 0 rfl) ?_
      refine lv_iload_n hx hb dX6_average_95 rfl (lv_at hl 1 rfl) ?_
      refine lv_imul hx hb dX6_average_96 ?_
      refine cc_i (va_runV (C := RX2) (As := [.int (0 * v2)]) (rest := [.int v11, .ref (ad 1)]) ⟨hx, hb, hml, hown, hts⟩ (c_X2_rest hL.g hwd H.size u12 (0 * v2) _ h) (cwV 1 hts gX6_average_X2_rest rfl rfl rfl (by decide +kernel) ⟨Nat.le_of_ble_eq_true rfl, Nat.le_of_ble_eq_true rfl⟩) (pcV hC hP hS (cg_1 hi1) rfl) rfl rfl hl.1 rfl (lv_room (Nat.le_of_ble_eq_true rfl)) dX6_average_97 ⟨Nat.le_of_ble_eq_true rfl, Nat.le_of_ble_eq_true rfl⟩) hS (cA_mono hS.1) (fun v13 u14 H locs h hP hS => ?_)
      refine cc_i (va_runV (C := RX2) (As := [.int v11, .int v13]) (rest := []) ⟨hx, hb, hml, hown, hts⟩ (c_X2_multiple hL hwd H.size u14 v11 v13 _ h) (cwV 2 hts gX6_average_X2_multiple rfl rfl rfl (by decide +kernel) ⟨Nat.le_of_ble_eq_true rfl, Nat.le_of_ble_eq_true rfl⟩) (pcV hC hP hS (cg_1 hi1) rfl) rfl rfl hl.1 rfl (lv_room (Nat.le_of_ble_eq_true rfl)) dX6_average_100 ⟨Nat.le_of_ble_eq_true rfl, Nat.le_of_ble_eq_true rfl⟩) hS (cA_mono hS.1) (fun v15 u16 H locs h hP hS => ?_)
      refine W.widen (k := 1) (n := 6) (by decide) (by decide) ?_
      exact vx_ret (W.iret (v := v15) hx hb hr (fun t ht hW => ⟨⟨_, _, rfl, h, by show va_P _ _ _ t.heap; rw [ht]; exact hP⟩, hS.F ht⟩) hS.2.2 dX6_average_103)
    · replace h := h.2 c10
      refine lv_aload_n hx hb dX6_average_59 rfl (lv_at hl 1 rfl) ?_
      refine va_get (C := RX6) (T := TX6) (N := 12) hx hb hts n6 hown hK hP i0 (cg_0 hi0) rfl 3 (by decide) lk1 (fun _ h9 => h9) rfl dX6_average_60 ?_
      refine va_get (C := RX4) (T := TX4) (N := 6) hx hb hts n4 hown hK hP i4 (cg_4 hi4) rfl 5 (by decide) lk2 (fun _ h9 => h9) rfl dX6_average_63 ?_
      refine lv_aload_n hx hb dX6_average_66 rfl (lv_at hl 1 rfl) ?_
      refine va_get (C := RX6) (T := TX6) (N := 12) hx hb hts n6 hown hK hP i0 (cg_0 hi0) rfl 4 (by decide) lk3 (fun _ h9 => h9) rfl dX6_average_67 ?_
      refine va_get (C := RX5) (T := TX5) (N := 7) hx hb hts n5 hown hK hP i5 (cg_5 hi5) rfl 6 (by decide) lk6 (fun _ h9 => h9) rfl dX6_average_70 ?_
      refine lv_idiv hx hb dX6_average_73 h.1 ?_
      replace h := h.2
      refine lv_topi (fun v17 ev17 => ?_)
      replace h := h v17 ev17
      refine lv_goto (tgt := 78) hx hb dX6_average_74 (by decide) ?_
      refine lv_istore_n (lv' := [(3, .int v17), (2, .int v2), (0, .ref (ad 0)), (1, .int a1)]) hx hb dX6_average_78 rfl hl (by decide) rfl (fun ls hl => ?_)
      refine lv_aload_n hx hb dX6_average_79 rfl (lv_at hl 2 rfl) ?_
      refine va_get (C := RX6) (T := TX6) (N := 12) hx hb hts n6 hown hK hP i0 (cg_0 hi0) rfl 0 (by decide) lk0 (fun _ h9 => h9) rfl dX6_average_80 ?_
      refine lv_aload_n hx hb dX6_average_83 rfl (lv_at hl 2 rfl) ?_
      refine va_get (C := RX6) (T := TX6) (N := 12) hx hb hts n6 hown hK hP i0 (cg_0 hi0) rfl 4 (by decide) lk3 (fun _ h9 => h9) rfl dX6_average_84 ?_
      refine cc_i (va_runV (C := RX5) (As := []) (rest := [.ref (ad 1)]) ⟨hx, hb, hml, hown, hts⟩ (c_X5_sumOfCodes hL hwd H.size u9 _ h) (cwV 0 hts gX6_average_X5_sumOfCodes rfl rfl rfl (by decide +kernel) ⟨Nat.le_of_ble_eq_true rfl, Nat.le_of_ble_eq_true rfl⟩) (pcV hC hP hS (cg_5 hi5) rfl) rfl rfl hl.1 rfl (lv_room (Nat.le_of_ble_eq_true rfl)) dX6_average_87 ⟨Nat.le_of_ble_eq_true rfl, Nat.le_of_ble_eq_true rfl⟩) hS (cA_mono hS.1) (fun v18 u19 H locs h hP hS => ?_)
      refine lv_aload_n hx hb dX6_average_90 rfl (lv_at hl 2 rfl) ?_
      refine va_get (C := RX6) (T := TX6) (N := 12) hx hb hts n6 hown hK hP i0 (cg_0 hi0) rfl 0 (by decide) lk0 (fun _ h9 => h9) rfl dX6_average_91 ?_
      refine lv_iload_n hx hb dX6_average_94 rfl (lv_at hl 0 rfl) ?_
      refine lv_iload_n hx hb dX6_average_95 rfl (lv_at hl 1 rfl) ?_
      refine lv_imul hx hb dX6_average_96 ?_
      refine cc_i (va_runV (C := RX2) (As := [.int (v17 * v2)]) (rest := [.int v18, .ref (ad 1)]) ⟨hx, hb, hml, hown, hts⟩ (c_X2_rest hL.g hwd H.size u19 (v17 * v2) _ h) (cwV 1 hts gX6_average_X2_rest rfl rfl rfl (by decide +kernel) ⟨Nat.le_of_ble_eq_true rfl, Nat.le_of_ble_eq_true rfl⟩) (pcV hC hP hS (cg_1 hi1) rfl) rfl rfl hl.1 rfl (lv_room (Nat.le_of_ble_eq_true rfl)) dX6_average_97 ⟨Nat.le_of_ble_eq_true rfl, Nat.le_of_ble_eq_true rfl⟩) hS (cA_mono hS.1) (fun v20 u21 H locs h hP hS => ?_)
      refine cc_i (va_runV (C := RX2) (As := [.int v18, .int v20]) (rest := []) ⟨hx, hb, hml, hown, hts⟩ (c_X2_multiple hL hwd H.size u21 v18 v20 _ h) (cwV 2 hts gX6_average_X2_multiple rfl rfl rfl (by decide +kernel) ⟨Nat.le_of_ble_eq_true rfl, Nat.le_of_ble_eq_true rfl⟩) (pcV hC hP hS (cg_1 hi1) rfl) rfl rfl hl.1 rfl (lv_room (Nat.le_of_ble_eq_true rfl)) dX6_average_100 ⟨Nat.le_of_ble_eq_true rfl, Nat.le_of_ble_eq_true rfl⟩) hS (cA_mono hS.1) (fun v22 u23 H locs h hP hS => ?_)
      refine W.widen (k := 1) (n := 6) (by decide) (by decide) ?_
      exact vx_ret (W.iret (v := v22) hx hb hr (fun t ht hW => ⟨⟨_, _, rfl, h, by show va_P _ _ _ t.heap; rw [ht]; exact hP⟩, hS.F ht⟩) hS.2.2 dX6_average_103)
  · replace h := h.2 c4
    refine lv_iconst (v := (-1)) hx hb dX6_average_24 (by decide) ?_
    refine W.widen (k := 1) (n := 6) (by decide) (by decide) ?_
    exact vx_ret (W.iret (v := (-1)) hx hb hr (fun t ht hW => ⟨⟨_, _, rfl, h, by show va_P _ _ _ t.heap; rw [ht]; exact hP⟩, hS.F ht⟩) hS.2.2 dX6_average_25)
set_option maxRecDepth 100000 in
set_option maxHeartbeats 4000000 in
theorem c_X6_average {l : Launch} {D : va_G} {cI cG cZ cJ : ClassId} {ts : Nat × Nat} {L : List Nat} {ad : Nat → Nat} {al : Nat} (hflag : l.stackTraces = false) (hL : Lf L al) (hwd : WD L ad) (sz : Nat) (u : St) (a1 : Int32) (Q : Int32 → St → Prop) (QX : String → St → Prop) (h : f_X6_average al a1 u Q QX) : vx_Met l yX6_average wsX6_average ({ frames := 7, cells := 1, slots := 6, locals := 114 }) (va_Pc [.ref (ad 0), .int a1] (PCX D cI cG cZ cJ ts L ad al sz u)) (va_Qi Q (fun u9 t => va_P D vwCl (cW cI cG L ad al u9) t.heap) (cA L ad sz)) (vx_X (fun _ => True) (fun E u9 t => QX E u9 ∧ va_P D vwCl (cW cI cG L ad al u9) t.heap) (cA L ad sz)) 1 6 (cA L ad sz) := by
  refine vx_ofW (cc := cX6_average) (maxL := 4) (ret := (some .int)) (by decide) rfl ?_
  intro p e s m args below meth c s₁ B hml hT hv
  obtain ⟨rfl, ⟨hsz, hP, hC⟩, hX⟩ := hv
  subst hsz
  have X : FX RX6 wsX6_average cX6_average 4 (some .int) D cI cG cZ cJ ts L ad p s m _ meth c := ⟨B.exec, B.bytes, hml, findClass_of_methodNamed B.named, atoms_spec (ws := wsX6_average) B.pre, B.returns, B.notSynchronized, hwd, hC⟩
  have hl := lv_entry ([.ref (ad 0), .int a1]) (n := 4) (Nat.le_of_ble_eq_true rfl)
  rw [lg_entry_eq]
  generalize (lg_sl ([.ref (ad 0), .int a1]) ++ List.replicate (4 - (lg_sl ([.ref (ad 0), .int a1])).length) Slot.unset).toArray = ls at hl ⊢
  exact w_X6_average hflag hT hX hL X a1 Q QX u _ _ _ h hP va_S.rf hl
set_option maxRecDepth 100000 in
set_option maxHeartbeats 4000000 in
theorem w_X6_checkDegree {p : Program} {l : Launch} {e : Env} {s : State} {m : MethodId} {args : Array Value} {below : List Frame} {meth : Method} {c : Code} {D : va_G} {cI cG cZ cJ : ClassId} {ts : Nat × Nat} {L : List Nat} {ad : Nat → Nat} {al : Nat} (hflag : l.stackTraces = false) (hT : ∀ x ∈ c.exceptionTable.toList, False) (hX : XW s) (hL : Lf L al) (X : FX RX6 wsX6_checkDegree cX6_checkDegree 1 none D cI cG cZ cJ ts L ad p s m args meth c) (a0 : Int32) (Q : St → Prop) (QX : String → St → Prop) (u : St) (H : Heap) (locs : List Loc) (ls : Array Slot) (h : f_X6_checkDegree al a0 u Q QX) (hP : va_P D vwCl (cW cI cG L ad al u) H) (hS : va_S (cA L ad s.heap.size) s.heap H locs) (hl : lv_has ls 1 [(0, .int a0)]) : W p l e (headSpec wsX6_checkDegree { frames := 6, cells := 1, slots := 6, locals := 90 }).room s m args below meth c H locs 0 0 (vx_MQ below (va_Qv Q (fun u9 t => va_P D vwCl (cW cI cG L ad al u9) t.heap) (cA L ad s.heap.size)) (vx_X (fun _ => True) (fun E u9 t => QX E u9 ∧ va_P D vwCl (cW cI cG L ad al u9) t.heap) (cA L ad s.heap.size)) args s 1 6 (cA L ad s.heap.size)) (F0 m 0 ls []) := by
  obtain ⟨hx, hb, hml, hown, hts, hr, hlocks, hwd, hC⟩ := id X
  have hK := hC.1
  have hout : ∀ (q : Nat), ∀ x ∈ c.exceptionTable.toList, covers x q = false := fun _ x hx => (hT x hx).elim
  have lk0 := hts (.classLink RX6 73 "java/lang/IllegalArgumentException") (by decide +kernel)
  have lk1 := hts (.initialized "java/lang/IllegalArgumentException") (by decide +kernel)
  obtain ⟨sa15, hs15⟩ := hC.2.2.1 _ (List.mem_of_getElem? (i := 15) rfl)
  unfold f_X6_checkDegree at h
  refine lv_iload_n hx hb dX6_checkDegree_0 rfl (lv_at hl 0 rfl) ?_
  refine cc_i (va_runS (As := [.int a0]) (rest := []) ⟨hx, hb, hml, hown, hts⟩ (c_X6_isDegree hL hwd H.size u a0 _ h) (va_cwS 1 hts gX6_checkDegree_X6_isDegree rfl rfl rfl (by decide +kernel) ⟨Nat.le_of_ble_eq_true rfl, Nat.le_of_ble_eq_true rfl⟩) (pcS hC hP hS) rfl rfl hl.1 rfl (lv_room (Nat.le_of_ble_eq_true rfl)) dX6_checkDegree_1 ⟨Nat.le_of_ble_eq_true rfl, Nat.le_of_ble_eq_true rfl⟩) hS (cA_mono hS.1) (fun v1 u2 H locs h hP hS => ?_)
  refine lv_if_ne (tgt := 18) hx hb dX6_checkDegree_4 (by decide) (fun c3 => ?_) (fun c3 => ?_)
  · replace h := h.1 c3
    refine W.widen (k := 1) (n := 6) (by decide) (by decide) ?_
    exact vx_ret (W.vret hx hb hr (fun t ht hW => ⟨⟨_, rfl, h, by show va_P _ _ _ t.heap; rw [ht]; exact hP⟩, hS.F ht⟩) hS.2.2 dX6_checkDegree_18)
  · replace h := h.2 c3
    exact vx_throwSW hx hb hflag hown (by decide +kernel) (by decide +kernel) lk0 lk1 hs15 (hat_X6_checkDegree_77 hts hX) hgood_77 hC.2.2.2.1 hC.2.2.2.2.1 hS (hl.1.trans hml.symm) dX6_checkDegree_7 dX6_checkDegree_10 dX6_checkDegree_11 dX6_checkDegree_14 dX6_checkDegree_17 (hout _) (Nat.le_of_ble_eq_true rfl) (Nat.le_of_ble_eq_true rfl) (Nat.le_of_ble_eq_true rfl) (Nat.le_of_ble_eq_true rfl) hlocks (fun t ha hz hq => ⟨_, trivial, ⟨h, hP.kept (fun k q hk => hq _ (hP k q hk).lt)⟩, vaF_more hS hz hq⟩) hS.2.2 (by decide) (by decide)
set_option maxRecDepth 100000 in
set_option maxHeartbeats 4000000 in
theorem c_X6_checkDegree {l : Launch} {D : va_G} {cI cG cZ cJ : ClassId} {ts : Nat × Nat} {L : List Nat} {ad : Nat → Nat} {al : Nat} (hflag : l.stackTraces = false) (hL : Lf L al) (hwd : WD L ad) (sz : Nat) (u : St) (a0 : Int32) (Q : St → Prop) (QX : String → St → Prop) (h : f_X6_checkDegree al a0 u Q QX) : vx_Met l yX6_checkDegree wsX6_checkDegree ({ frames := 6, cells := 1, slots := 6, locals := 90 }) (va_Pc [.int a0] (PCX D cI cG cZ cJ ts L ad al sz u)) (va_Qv Q (fun u9 t => va_P D vwCl (cW cI cG L ad al u9) t.heap) (cA L ad sz)) (vx_X (fun _ => True) (fun E u9 t => QX E u9 ∧ va_P D vwCl (cW cI cG L ad al u9) t.heap) (cA L ad sz)) 1 6 (cA L ad sz) := by
  refine vx_ofW (cc := cX6_checkDegree) (maxL := 1) (ret := none) (by decide) rfl ?_
  intro p e s m args below meth c s₁ B hml hT hv
  obtain ⟨rfl, ⟨hsz, hP, hC⟩, hX⟩ := hv
  subst hsz
  have X : FX RX6 wsX6_checkDegree cX6_checkDegree 1 none D cI cG cZ cJ ts L ad p s m _ meth c := ⟨B.exec, B.bytes, hml, findClass_of_methodNamed B.named, atoms_spec (ws := wsX6_checkDegree) B.pre, B.returns, B.notSynchronized, hwd, hC⟩
  have hl := lv_entry ([.int a0]) (n := 1) (Nat.le_of_ble_eq_true rfl)
  rw [lg_entry_eq]
  generalize (lg_sl ([.int a0]) ++ List.replicate (1 - (lg_sl ([.int a0])).length) Slot.unset).toArray = ls at hl ⊢
  exact w_X6_checkDegree hflag hT hX hL X a0 Q QX u _ _ _ h hP va_S.rf hl
set_option maxRecDepth 100000 in
set_option maxHeartbeats 4000000 in
theorem w_X6_dimension_L16 {p : Program} {l : Launch} {e : Env} {s : State} {m : MethodId} {args : Array Value} {below : List Frame} {meth : Method} {c : Code} {D : va_G} {cI cG cZ cJ : ClassId} {ts : Nat × Nat} {L : List Nat} {ad : Nat → Nat} {al : Nat} (hflag : l.stackTraces = false) (hT : ∀ x ∈ c.exceptionTable.toList, False) (hX : XW s) (hL : Lf L al) (X : FX RX6 wsX6_dimension cX6_dimension 3 (some .int) D cI cG cZ cJ ts L ad p s m args meth c) (a1 : Int32) (Q : Int32 → St → Prop) (QX : String → St → Prop)
    (K0 : St → Prop) (hk0 : ∀ (u : St) (H : Heap) (locs : List Loc) (ls : Array Slot), K0 u → va_P D vwCl (cW cI cG L ad al u) H → va_S (cA L ad s.heap.size) s.heap H locs → lv_has ls 3 [(0, .ref (ad 0))] → W p l e (headSpec wsX6_dimension { frames := 7, cells := 1, slots := 6, locals := 115 }).room s m args below meth c H locs 1 6 (vx_MQ below (va_Qi Q (fun u9 t => va_P D vwCl (cW cI cG L ad al u9) t.heap) (cA L ad s.heap.size)) (vx_X (fun _ => True) (fun E u9 t => QX E u9 ∧ va_P D vwCl (cW cI cG L ad al u9) t.heap) (cA L ad s.heap.size)) args s 1 6 (cA L ad s.heap.size)) (F0 m 60 ls []))
    : ∀ (n : Nat) (a2 : Int32) (u : St) (H : Heap) (locs : List Loc) (ls : Array Slot), f_X6_dimension_L16 al a1 Q QX K0 n a2 u → va_P D vwCl (cW cI cG L ad al u) H → va_S (cA L ad s.heap.size) s.heap H locs → lv_has ls 3 [(0, .ref (ad 0)), (1, .int a1), (2, .int a2)] → W p l e (headSpec wsX6_dimension { frames := 7, cells := 1, slots := 6, locals := 115 }).room s m args below meth c H locs 1 6 (vx_MQ below (va_Qi Q (fun u9 t => va_P D vwCl (cW cI cG L ad al u9) t.heap) (cA L ad s.heap.size)) (vx_X (fun _ => True) (fun E u9 t => QX E u9 ∧ va_P D vwCl (cW cI cG L ad al u9) t.heap) (cA L ad s.heap.size)) args s 1 6 (cA L ad s.heap.size)) (F0 m 16 ls []) := by
  obtain ⟨hx, hb, hml, hown, hts, hr, hlocks, hwd, hC⟩ := id X
  have hK := hC.1
  have hout : ∀ (q : Nat), ∀ x ∈ c.exceptionTable.toList, covers x q = false := fun _ x hx => (hT x hx).elim
  have m0 : 0 ∈ L := hL 0 (by omega)
  obtain ⟨i0, hi0⟩ := wL_ix m0
  have m2 : 2 ∈ L := hL 2 (by omega)
  obtain ⟨i2, hi2⟩ := wL_ix m2
  have m3 : 3 ∈ L := hL 3 (by omega)
  obtain ⟨i3, hi3⟩ := wL_ix m3
  have m4 : 4 ∈ L := hL 4 (by omega)
  obtain ⟨i4, hi4⟩ := wL_ix m4
  have lk0 := hts (.fieldLink RX6 30 "FormForge" "equations" "LFormForge$Equations;") (by decide +kernel)
  have lk1 := hts (.fieldLink RX6 37 "FormForge" "group" "LFormForge$Group;") (by decide +kernel)
  have lk2 := hts (.fieldLink RX6 170 "FormForge$Group" "told" "I") (by decide +kernel)
  have lk3 := hts (.fieldLink RX6 23 "FormForge" "columns" "LFormForge$Columns;") (by decide +kernel)
  have n4 : ∀ w ∈ wsX40, w ∈ wsX6_dimension := by decide +kernel
  have n6 : ∀ w ∈ wsX60, w ∈ wsX6_dimension := by decide +kernel
  intro n
  induction n with
  | zero =>
    intro a2 u H locs ls h; exact h.elim
  | succ n ih =>
    intro a2 u H locs ls h hP hS hl
    replace h : f_X6_dimension_L16_s al a1 Q QX K0 (f_X6_dimension_L16 al a1 Q QX K0 n) a2 u := h
    unfold f_X6_dimension_L16_s at h
    refine lv_iload_n hx hb dX6_dimension_16 rfl (lv_at hl 2 rfl) ?_
    refine lv_aload_n hx hb dX6_dimension_17 rfl (lv_at hl 0 rfl) ?_
    refine va_get (C := RX6) (T := TX6) (N := 12) hx hb hts n6 hown hK hP i0 (cg_0 hi0) rfl 3 (by decide) lk1 (fun _ h9 => h9) rfl dX6_dimension_18 ?_
    refine va_get (C := RX4) (T := TX4) (N := 6) hx hb hts n4 hown hK hP i4 (cg_4 hi4) rfl 4 (by decide) lk2 (fun _ h9 => h9) rfl dX6_dimension_21 ?_
    refine lv_icmp_ge (tgt := 60) hx hb dX6_dimension_24 (by decide) (fun c3 => ?_) (fun c3 => ?_)
    · replace h := h.1 c3
      exact hk0  _ _ _ _ h hP hS (lv_sub hl [0] rfl)
    · replace h := h.2 c3
      refine lv_aload_n hx hb dX6_dimension_27 rfl (lv_at hl 0 rfl) ?_
      refine va_get (C := RX6) (T := TX6) (N := 12) hx hb hts n6 hown hK hP i0 (cg_0 hi0) rfl 1 (by decide) lk3 (fun _ h9 => h9) rfl dX6_dimension_28 ?_
      refine lv_aload_n hx hb dX6_dimension_31 rfl (lv_at hl 0 rfl) ?_
      refine va_get (C := RX6) (T := TX6) (N := 12) hx hb hts n6 hown hK hP i0 (cg_0 hi0) rfl 3 (by decide) lk1 (fun _ h9 => h9) rfl dX6_dimension_32 ?_
      refine lv_iload_n hx hb dX6_dimension_35 rfl (lv_at hl 2 rfl) ?_
      refine cc_i (va_runV (C := RX4) (As := [.int a2]) (rest := [.ref (ad 2)]) ⟨hx, hb, hml, hown, hts⟩ (c_X4_generatorMatrix hL.g hwd H.size u a2 _ h) (cwV 1 hts gX6_dimension_X4_generatorMatrix rfl rfl rfl (by decide +kernel) ⟨Nat.le_of_ble_eq_true rfl, Nat.le_of_ble_eq_true rfl⟩) (pcV hC hP hS (cg_4 hi4) rfl) rfl rfl hl.1 rfl (lv_room (Nat.le_of_ble_eq_true rfl)) dX6_dimension_36 ⟨Nat.le_of_ble_eq_true rfl, Nat.le_of_ble_eq_true rfl⟩) hS (cA_mono hS.1) (fun v4 u5 H locs h hP hS => ?_)
      refine lv_iload_n hx hb dX6_dimension_39 rfl (lv_at hl 1 rfl) ?_
      refine cc_v (va_runV (C := RX0) (As := [.int v4, .int a1]) (rest := []) ⟨hx, hb, hml, hown, hts⟩ (c_X0_fill hL hwd H.size u5 v4 a1 _ h) (cwV 2 hts gX6_dimension_X0_fill rfl rfl rfl (by decide +kernel) ⟨Nat.le_of_ble_eq_true rfl, Nat.le_of_ble_eq_true rfl⟩) (pcV hC hP hS (cg_2 hi2) rfl) rfl rfl hl.1 rfl (lv_room (Nat.le_of_ble_eq_true rfl)) dX6_dimension_40 ⟨Nat.le_of_ble_eq_true rfl, Nat.le_of_ble_eq_true rfl⟩) hS (cA_mono hS.1) (fun u6 H locs h hP hS => ?_)
      refine lv_aload_n hx hb dX6_dimension_43 rfl (lv_at hl 0 rfl) ?_
      refine va_get (C := RX6) (T := TX6) (N := 12) hx hb hts n6 hown hK hP i0 (cg_0 hi0) rfl 2 (by decide) lk0 (fun _ h9 => h9) rfl dX6_dimension_44 ?_
      refine lv_aload_n hx hb dX6_dimension_47 rfl (lv_at hl 0 rfl) ?_
      refine va_get (C := RX6) (T := TX6) (N := 12) hx hb hts n6 hown hK hP i0 (cg_0 hi0) rfl 1 (by decide) lk3 (fun _ h9 => h9) rfl dX6_dimension_48 ?_
      refine cc_v (va_runV (C := RX1) (As := [.ref (ad 2)]) (rest := []) ⟨hx, hb, hml, hown, hts⟩ (c_X1_askToLeave hL hwd H.size u6 _ h) (cwV 1 hts gX6_dimension_X1_askToLeave rfl rfl rfl (by decide +kernel) ⟨Nat.le_of_ble_eq_true rfl, Nat.le_of_ble_eq_true rfl⟩) (pcV hC hP hS (cg_3 hi3) rfl) rfl rfl hl.1 rfl (lv_room (Nat.le_of_ble_eq_true rfl)) dX6_dimension_51 ⟨Nat.le_of_ble_eq_true rfl, Nat.le_of_ble_eq_true rfl⟩) hS (cA_mono hS.1) (fun u7 H locs h hP hS => ?_)
      obtain ⟨v8, ev8⟩ : ∃ y : Int32, y = a2 + 1 := ⟨_, rfl⟩
      refine lv_iinc (v := v8) (lv' := [(2, .int v8), (0, .ref (ad 0)), (1, .int a1)]) hx hb dX6_dimension_54 hl (k := 2) rfl (by rw [ev8]; rfl) (by decide) rfl (fun ls hl => ?_)
      replace h := h v8 ev8
      refine lv_goto (tgt := 16) hx hb dX6_dimension_57 (by decide) ?_
      exact ih v8 _ _ _ _ h hP hS (lv_sub hl [1, 2, 0] rfl)
set_option maxRecDepth 100000 in
set_option maxHeartbeats 4000000 in
theorem w_X6_dimension {p : Program} {l : Launch} {e : Env} {s : State} {m : MethodId} {args : Array Value} {below : List Frame} {meth : Method} {c : Code} {D : va_G} {cI cG cZ cJ : ClassId} {ts : Nat × Nat} {L : List Nat} {ad : Nat → Nat} {al : Nat} (hflag : l.stackTraces = false) (hT : ∀ x ∈ c.exceptionTable.toList, False) (hX : XW s) (hL : Lf L al) (X : FX RX6 wsX6_dimension cX6_dimension 3 (some .int) D cI cG cZ cJ ts L ad p s m args meth c) (a1 : Int32) (Q : Int32 → St → Prop) (QX : String → St → Prop) (u : St) (H : Heap) (locs : List Loc) (ls : Array Slot) (h : f_X6_dimension al a1 u Q QX) (hP : va_P D vwCl (cW cI cG L ad al u) H) (hS : va_S (cA L ad s.heap.size) s.heap H locs) (hl : lv_has ls 3 [(0, .ref (ad 0)), (1, .int a1)]) : W p l e (headSpec wsX6_dimension { frames := 7, cells := 1, slots := 6, locals := 115 }).room s m args below meth c H locs 0 0 (vx_MQ below (va_Qi Q (fun u9 t => va_P D vwCl (cW cI cG L ad al u9) t.heap) (cA L ad s.heap.size)) (vx_X (fun _ => True) (fun E u9 t => QX E u9 ∧ va_P D vwCl (cW cI cG L ad al u9) t.heap) (cA L ad s.heap.size)) args s 1 6 (cA L ad s.heap.size)) (F0 m 0 ls []) := by
  obtain ⟨hx, hb, hml, hown, hts, hr, hlocks, hwd, hC⟩ := id X
  have hK := hC.1
  have hout : ∀ (q : Nat), ∀ x ∈ c.exceptionTable.toList, covers x q = false := fun _ x hx => (hT x hx).elim
  have m0 : 0 ∈ L := hL 0 (by omega)
  obtain ⟨i0, hi0⟩ := wL_ix m0
  have m2 : 2 ∈ L := hL 2 (by omega)
  obtain ⟨i2, hi2⟩ := wL_ix m2
  have m3 : 3 ∈ L := hL 3 (by omega)
  obtain ⟨i3, hi3⟩ := wL_ix m3
  have m4 : 4 ∈ L := hL 4 (by omega)
  obtain ⟨i4, hi4⟩ := wL_ix m4
  have lk0 := hts (.fieldLink RX6 30 "FormForge" "equations" "LFormForge$Equations;") (by decide +kernel)
  have lk1 := hts (.fieldLink RX6 37 "FormForge" "group" "LFormForge$Group;") (by decide +kernel)
  have lk2 := hts (.fieldLink RX6 170 "FormForge$Group" "told" "I") (by decide +kernel)
  have lk3 := hts (.fieldLink RX6 23 "FormForge" "columns" "LFormForge$Columns;") (by decide +kernel)
  have n4 : ∀ w ∈ wsX40, w ∈ wsX6_dimension := by decide +kernel
  have n6 : ∀ w ∈ wsX60, w ∈ wsX6_dimension := by decide +kernel
  unfold f_X6_dimension at h
  refine lv_iload_n hx hb dX6_dimension_0 rfl (lv_at hl 1 rfl) ?_
  refine cx_v (MC := 1) (MS := 6) (QX := QX) (vx_runS (As := [.int a1]) (rest := []) ⟨hx, hb, hml, hown, hts⟩ (c_X6_checkDegree hflag hL hwd H.size u a1 _ _ h) (va_cwS 1 hts gX6_dimension_X6_checkDegree rfl rfl rfl (by decide +kernel) ⟨Nat.le_of_ble_eq_true rfl, Nat.le_of_ble_eq_true rfl⟩) (pcSX hC hX hP hS) rfl rfl hl.1 rfl (lv_room (Nat.le_of_ble_eq_true rfl)) dX6_dimension_1 ⟨Nat.le_of_ble_eq_true rfl, Nat.le_of_ble_eq_true rfl⟩) hS (cA_mono hS.1) (hout _) hlocks (Nat.le_of_ble_eq_true rfl) (Nat.le_of_ble_eq_true rfl) (fun E u9 h9 => h9) (fun u1 H locs h hP hS => ?_)
  refine lv_aload_n hx hb dX6_dimension_4 rfl (lv_at hl 0 rfl) ?_
  refine va_get (C := RX6) (T := TX6) (N := 12) hx hb hts n6 hown hK hP i0 (cg_0 hi0) rfl 2 (by decide) lk0 (fun _ h9 => h9) rfl dX6_dimension_5 ?_
  refine lv_iload_n hx hb dX6_dimension_8 rfl (lv_at hl 1 rfl) ?_
  refine lv_iconst (v := 1) hx hb dX6_dimension_9 (by decide) ?_
  refine lv_iadd hx hb dX6_dimension_10 ?_
  refine cc_v (va_runV (C := RX1) (As := [.int (a1 + 1)]) (rest := []) ⟨hx, hb, hml, hown, hts⟩ (c_X1_begin hL hwd H.size u1 (a1 + 1) _ h) (cwV 1 hts gX6_dimension_X1_begin rfl rfl rfl (by decide +kernel) ⟨Nat.le_of_ble_eq_true rfl, Nat.le_of_ble_eq_true rfl⟩) (pcV hC hP hS (cg_3 hi3) rfl) rfl rfl hl.1 rfl (lv_room (Nat.le_of_ble_eq_true rfl)) dX6_dimension_11 ⟨Nat.le_of_ble_eq_true rfl, Nat.le_of_ble_eq_true rfl⟩) hS (cA_mono hS.1) (fun u2 H locs h hP hS => ?_)
  refine lv_iconst (v := 0) hx hb dX6_dimension_14 (by decide) ?_
  refine lv_istore_n (lv' := [(2, .int 0), (0, .ref (ad 0)), (1, .int a1)]) hx hb dX6_dimension_15 rfl hl (by decide) rfl (fun ls hl => ?_)
  obtain ⟨n9, h⟩ := h
  refine w_X6_dimension_L16 hflag hT hX hL X a1 _ _ _ (fun u10 H locs ls h hP hS hl => ?_) n9 0 _ _ _ _ h hP hS (lv_sub hl [1, 2, 0] rfl)
  refine lv_aload_n hx hb dX6_dimension_60 rfl (lv_at hl 0 rfl) ?_
  refine va_get (C := RX6) (T := TX6) (N := 12) hx hb hts n6 hown hK hP i0 (cg_0 hi0) rfl 2 (by decide) lk0 (fun _ h9 => h9) rfl dX6_dimension_61 ?_
  refine cc_i (va_runV (C := RX1) (As := []) (rest := []) ⟨hx, hb, hml, hown, hts⟩ (c_X1_freedom hL hwd H.size u10 _ h) (cwV 0 hts gX6_dimension_X1_freedom rfl rfl rfl (by decide +kernel) ⟨Nat.le_of_ble_eq_true rfl, Nat.le_of_ble_eq_true rfl⟩) (pcV hC hP hS (cg_3 hi3) rfl) rfl rfl hl.1 rfl (lv_room (Nat.le_of_ble_eq_true rfl)) dX6_dimension_64 ⟨Nat.le_of_ble_eq_true rfl, Nat.le_of_ble_eq_true rfl⟩) hS (cA_mono hS.1) (fun v11 u12 H locs h hP hS => ?_)
  refine W.widen (k := 1) (n := 6) (by decide) (by decide) ?_
  exact vx_ret (W.iret (v := v11) hx hb hr (fun t ht hW => ⟨⟨_, _, rfl, h, by show va_P _ _ _ t.heap; rw [ht]; exact hP⟩, hS.F ht⟩) hS.2.2 dX6_dimension_67)
set_option maxRecDepth 100000 in
set_option maxHeartbeats 4000000 in
theorem c_X6_dimension {l : Launch} {D : va_G} {cI cG cZ cJ : ClassId} {ts : Nat × Nat} {L : List Nat} {ad : Nat → Nat} {al : Nat} (hflag : l.stackTraces = false) (hL : Lf L al) (hwd : WD L ad) (sz : Nat) (u : St) (a1 : Int32) (Q : Int32 → St → Prop) (QX : String → St → Prop) (h : f_X6_dimension al a1 u Q QX) : vx_Met l yX6_dimension wsX6_dimension ({ frames := 7, cells := 1, slots := 6, locals := 115 }) (va_Pc [.ref (ad 0), .int a1] (PCX D cI cG cZ cJ ts L ad al sz u)) (va_Qi Q (fun u9 t => va_P D vwCl (cW cI cG L ad al u9) t.heap) (cA L ad sz)) (vx_X (fun _ => True) (fun E u9 t => QX E u9 ∧ va_P D vwCl (cW cI cG L ad al u9) t.heap) (cA L ad sz)) 1 6 (cA L ad sz) := by
  refine vx_ofW (cc := cX6_dimension) (maxL := 3) (ret := (some .int)) (by decide) rfl ?_
  intro p e s m args below meth c s₁ B hml hT hv
  obtain ⟨rfl, ⟨hsz, hP, hC⟩, hX⟩ := hv
  subst hsz
  have X : FX RX6 wsX6_dimension cX6_dimension 3 (some .int) D cI cG cZ cJ ts L ad p s m _ meth c := ⟨B.exec, B.bytes, hml, findClass_of_methodNamed B.named, atoms_spec (ws := wsX6_dimension) B.pre, B.returns, B.notSynchronized, hwd, hC⟩
  have hl := lv_entry ([.ref (ad 0), .int a1]) (n := 3) (Nat.le_of_ble_eq_true rfl)
  rw [lg_entry_eq]
  generalize (lg_sl ([.ref (ad 0), .int a1]) ++ List.replicate (3 - (lg_sl ([.ref (ad 0), .int a1])).length) Slot.unset).toArray = ls at hl ⊢
  exact w_X6_dimension hflag hT hX hL X a1 Q QX u _ _ _ h hP va_S.rf hl
set_option maxRecDepth 100000 in
set_option maxHeartbeats 4000000 in
theorem w_X6_dimensionAnew_L20 {p : Program} {l : Launch} {e : Env} {s : State} {m : MethodId} {args : Array Value} {below : List Frame} {meth : Method} {c : Code} {D : va_G} {cI cG cZ cJ : ClassId} {ts : Nat × Nat} {L : List Nat} {ad : Nat → Nat} {al : Nat} (hflag : l.stackTraces = false) (hT : ∀ x ∈ c.exceptionTable.toList, False) (hX : XW s) (hL : Lf L al) (X : FX RX6 wsX6_dimensionAnew cX6_dimensionAnew 5 (some .int) D cI cG cZ cJ ts L ad p s m args meth c) (a1 : Int32) (a2 : Int32) (Q : Int32 → St → Prop) (QX : String → St → Prop)
    (K0 : Int32 → St → Prop) (hk0 : ∀ (b3 : Int32) (u : St) (H : Heap) (locs : List Loc) (ls : Array Slot), K0 b3 u → va_P D vwCl (cW cI cG L ad al u) H → va_S (cA L ad s.heap.size) s.heap H locs → lv_has ls 5 [(0, .ref (ad 0)), (3, .int b3)] → W p l e (headSpec wsX6_dimensionAnew { frames := 7, cells := 1, slots := 6, locals := 110 }).room s m args below meth c H locs 1 6 (vx_MQ below (va_Qi Q (fun u9 t => va_P D vwCl (cW cI cG L ad al u9) t.heap) (cA L ad s.heap.size)) (vx_X (fun _ => True) (fun E u9 t => QX E u9 ∧ va_P D vwCl (cW cI cG L ad al u9) t.heap) (cA L ad s.heap.size)) args s 1 6 (cA L ad s.heap.size)) (F0 m 48 ls []))
    : ∀ (n : Nat) (a3 : Int32) (a4 : Int32) (u : St) (H : Heap) (locs : List Loc) (ls : Array Slot), f_X6_dimensionAnew_L20 al a1 a2 Q QX K0 n a3 a4 u → va_P D vwCl (cW cI cG L ad al u) H → va_S (cA L ad s.heap.size) s.heap H locs → lv_has ls 5 [(0, .ref (ad 0)), (1, .int a1), (2, .int a2), (3, .int a3), (4, .int a4)] → W p l e (headSpec wsX6_dimensionAnew { frames := 7, cells := 1, slots := 6, locals := 110 }).room s m args below meth c H locs 1 6 (vx_MQ below (va_Qi Q (fun u9 t => va_P D vwCl (cW cI cG L ad al u9) t.heap) (cA L ad s.heap.size)) (vx_X (fun _ => True) (fun E u9 t => QX E u9 ∧ va_P D vwCl (cW cI cG L ad al u9) t.heap) (cA L ad s.heap.size)) args s 1 6 (cA L ad s.heap.size)) (F0 m 20 ls []) := by
  obtain ⟨hx, hb, hml, hown, hts, hr, hlocks, hwd, hC⟩ := id X
  have hK := hC.1
  have hout : ∀ (q : Nat), ∀ x ∈ c.exceptionTable.toList, covers x q = false := fun _ x hx => (hT x hx).elim
  have m0 : 0 ∈ L := hL 0 (by omega)
  obtain ⟨i0, hi0⟩ := wL_ix m0
  have m1 : 1 ∈ L := hL 1 (by omega)
  obtain ⟨i1, hi1⟩ := wL_ix m1
  have m4 : 4 ∈ L := hL 4 (by omega)
  obtain ⟨i4, hi4⟩ := wL_ix m4
  have lk0 := hts (.fieldLink RX6 14 "FormForge" "field" "LFormForge$Field;") (by decide +kernel)
  have lk1 := hts (.fieldLink RX6 37 "FormForge" "group" "LFormForge$Group;") (by decide +kernel)
  have n6 : ∀ w ∈ wsX60, w ∈ wsX6_dimensionAnew := by decide +kernel
  intro n
  induction n with
  | zero =>
    intro a3 a4 u H locs ls h; exact h.elim
  | succ n ih =>
    intro a3 a4 u H locs ls h hP hS hl
    replace h : f_X6_dimensionAnew_L20_s al a1 a2 Q QX K0 (f_X6_dimensionAnew_L20 al a1 a2 Q QX K0 n) a3 a4 u := h
    unfold f_X6_dimensionAnew_L20_s at h
    refine lv_iload hx hb dX6_dimensionAnew_20 (lv_at hl 4 rfl) ?_
    refine lv_iload_n hx hb dX6_dimensionAnew_22 rfl (lv_at hl 2 rfl) ?_
    refine lv_icmp_ge (tgt := 48) hx hb dX6_dimensionAnew_23 (by decide) (fun c4 => ?_) (fun c4 => ?_)
    · replace h := h.1 c4
      exact hk0 a3 _ _ _ _ h hP hS (lv_sub hl [0, 3] rfl)
    · replace h := h.2 c4
      refine lv_aload_n hx hb dX6_dimensionAnew_26 rfl (lv_at hl 0 rfl) ?_
      refine va_get (C := RX6) (T := TX6) (N := 12) hx hb hts n6 hown hK hP i0 (cg_0 hi0) rfl 3 (by decide) lk1 (fun _ h9 => h9) rfl dX6_dimensionAnew_27 ?_
      refine lv_iload_n hx hb dX6_dimensionAnew_30 rfl (lv_at hl 1 rfl) ?_
      refine lv_iload hx hb dX6_dimensionAnew_31 (lv_at hl 4 rfl) ?_
      refine cc_i (va_runV (C := RX4) (As := [.int a1, .int a4]) (rest := []) ⟨hx, hb, hml, hown, hts⟩ (c_X4_leaves hL hwd H.size u a1 a4 _ h) (cwV 2 hts gX6_dimensionAnew_X4_leaves rfl rfl rfl (by decide +kernel) ⟨Nat.le_of_ble_eq_true rfl, Nat.le_of_ble_eq_true rfl⟩) (pcV hC hP hS (cg_4 hi4) rfl) rfl rfl hl.1 rfl (lv_room (Nat.le_of_ble_eq_true rfl)) dX6_dimensionAnew_33 ⟨Nat.le_of_ble_eq_true rfl, Nat.le_of_ble_eq_true rfl⟩) hS (cA_mono hS.1) (fun v5 u6 H locs h hP hS => ?_)
      refine lv_if_eq (tgt := 42) hx hb dX6_dimensionAnew_36 (by decide) (fun c7 => ?_) (fun c7 => ?_)
      · replace h := h.1 c7
        obtain ⟨v8, ev8⟩ : ∃ y : Int32, y = a4 + 1 := ⟨_, rfl⟩
        refine lv_iinc (v := v8) (lv' := [(4, .int v8), (0, .ref (ad 0)), (1, .int a1), (2, .int a2), (3, .int a3)]) hx hb dX6_dimensionAnew_42 hl (k := 4) rfl (by rw [ev8]; rfl) (by decide) rfl (fun ls hl => ?_)
        replace h := h v8 ev8
        refine lv_goto (tgt := 20) hx hb dX6_dimensionAnew_45 (by decide) ?_
        exact ih a3 v8 _ _ _ _ h hP hS (lv_sub hl [1, 2, 3, 4, 0] rfl)
      · replace h := h.2 c7
        obtain ⟨v9, ev9⟩ : ∃ y : Int32, y = a3 + 1 := ⟨_, rfl⟩
        refine lv_iinc (v := v9) (lv' := [(3, .int v9), (0, .ref (ad 0)), (1, .int a1), (2, .int a2), (4, .int a4)]) hx hb dX6_dimensionAnew_39 hl (k := 3) rfl (by rw [ev9]; rfl) (by decide) rfl (fun ls hl => ?_)
        replace h := h v9 ev9
        obtain ⟨v10, ev10⟩ : ∃ y : Int32, y = a4 + 1 := ⟨_, rfl⟩
        refine lv_iinc (v := v10) (lv' := [(4, .int v10), (3, .int v9), (0, .ref (ad 0)), (1, .int a1), (2, .int a2)]) hx hb dX6_dimensionAnew_42 hl (k := 4) rfl (by rw [ev10]; rfl) (by decide) rfl (fun ls hl => ?_)
        replace h := h v10 ev10
        refine lv_goto (tgt := 20) hx hb dX6_dimensionAnew_45 (by decide) ?_
        exact ih v9 v10 _ _ _ _ h hP hS (lv_sub hl [2, 3, 4, 1, 0] rfl)
set_option maxRecDepth 100000 in
set_option maxHeartbeats 4000000 in
theorem w_X6_dimensionAnew {p : Program} {l : Launch} {e : Env} {s : State} {m : MethodId} {args : Array Value} {below : List Frame} {meth : Method} {c : Code} {D : va_G} {cI cG cZ cJ : ClassId} {ts : Nat × Nat} {L : List Nat} {ad : Nat → Nat} {al : Nat} (hflag : l.stackTraces = false) (hT : ∀ x ∈ c.exceptionTable.toList, False) (hX : XW s) (hL : Lf L al) (X : FX RX6 wsX6_dimensionAnew cX6_dimensionAnew 5 (some .int) D cI cG cZ cJ ts L ad p s m args meth c) (a1 : Int32) (Q : Int32 → St → Prop) (QX : String → St → Prop) (u : St) (H : Heap) (locs : List Loc) (ls : Array Slot) (h : f_X6_dimensionAnew al a1 u Q QX) (hP : va_P D vwCl (cW cI cG L ad al u) H) (hS : va_S (cA L ad s.heap.size) s.heap H locs) (hl : lv_has ls 5 [(0, .ref (ad 0)), (1, .int a1)]) : W p l e (headSpec wsX6_dimensionAnew { frames := 7, cells := 1, slots := 6, locals := 110 }).room s m args below meth c H locs 0 0 (vx_MQ below (va_Qi Q (fun u9 t => va_P D vwCl (cW cI cG L ad al u9) t.heap) (cA L ad s.heap.size)) (vx_X (fun _ => True) (fun E u9 t => QX E u9 ∧ va_P D vwCl (cW cI cG L ad al u9) t.heap) (cA L ad s.heap.size)) args s 1 6 (cA L ad s.heap.size)) (F0 m 0 ls []) := by
  obtain ⟨hx, hb, hml, hown, hts, hr, hlocks, hwd, hC⟩ := id X
  have hK := hC.1
  have hout : ∀ (q : Nat), ∀ x ∈ c.exceptionTable.toList, covers x q = false := fun _ x hx => (hT x hx).elim
  have m0 : 0 ∈ L := hL 0 (by omega)
  obtain ⟨i0, hi0⟩ := wL_ix m0
  have m1 : 1 ∈ L := hL 1 (by omega)
  obtain ⟨i1, hi1⟩ := wL_ix m1
  have m4 : 4 ∈ L := hL 4 (by omega)
  obtain ⟨i4, hi4⟩ := wL_ix m4
  have lk0 := hts (.fieldLink RX6 14 "FormForge" "field" "LFormForge$Field;") (by decide +kernel)
  have lk1 := hts (.fieldLink RX6 37 "FormForge" "group" "LFormForge$Group;") (by decide +kernel)
  have n6 : ∀ w ∈ wsX60, w ∈ wsX6_dimensionAnew := by decide +kernel
  unfold f_X6_dimensionAnew at h
  refine lv_iload_n hx hb dX6_dimensionAnew_0 rfl (lv_at hl 1 rfl) ?_
  refine cx_v (MC := 1) (MS := 6) (QX := QX) (vx_runS (As := [.int a1]) (rest := []) ⟨hx, hb, hml, hown, hts⟩ (c_X6_checkDegree hflag hL hwd H.size u a1 _ _ h) (va_cwS 1 hts gX6_dimensionAnew_X6_checkDegree rfl rfl rfl (by decide +kernel) ⟨Nat.le_of_ble_eq_true rfl, Nat.le_of_ble_eq_true rfl⟩) (pcSX hC hX hP hS) rfl rfl hl.1 rfl (lv_room (Nat.le_of_ble_eq_true rfl)) dX6_dimensionAnew_1 ⟨Nat.le_of_ble_eq_true rfl, Nat.le_of_ble_eq_true rfl⟩) hS (cA_mono hS.1) (hout _) hlocks (Nat.le_of_ble_eq_true rfl) (Nat.le_of_ble_eq_true rfl) (fun E u9 h9 => h9) (fun u1 H locs h hP hS => ?_)
  refine lv_aload_n hx hb dX6_dimensionAnew_4 rfl (lv_at hl 0 rfl) ?_
  refine va_get (C := RX6) (T := TX6) (N := 12) hx hb hts n6 hown hK hP i0 (cg_0 hi0) rfl 0 (by decide) lk0 (fun _ h9 => h9) rfl dX6_dimensionAnew_5 ?_
  refine lv_iload_n hx hb dX6_dimensionAnew_8 rfl (lv_at hl 1 rfl) ?_
  refine lv_iconst (v := 1) hx hb dX6_dimensionAnew_9 (by decide) ?_
  refine lv_iadd hx hb dX6_dimensionAnew_10 ?_
  refine cc_i (va_runV (C := RX2) (As := [.int (a1 + 1)]) (rest := []) ⟨hx, hb, hml, hown, hts⟩ (c_X2_howMany hL.g hwd H.size u1 (a1 + 1) _ h) (cwV 1 hts gX6_dimensionAnew_X2_howMany rfl rfl rfl (by decide +kernel) ⟨Nat.le_of_ble_eq_true rfl, Nat.le_of_ble_eq_true rfl⟩) (pcV hC hP hS (cg_1 hi1) rfl) rfl rfl hl.1 rfl (lv_room (Nat.le_of_ble_eq_true rfl)) dX6_dimensionAnew_11 ⟨Nat.le_of_ble_eq_true rfl, Nat.le_of_ble_eq_true rfl⟩) hS (cA_mono hS.1) (fun v2 u3 H locs h hP hS => ?_)
  refine lv_istore_n (lv' := [(2, .int v2), (0, .ref (ad 0)), (1, .int a1)]) hx hb dX6_dimensionAnew_14 rfl hl (by decide) rfl (fun ls hl => ?_)
  refine lv_iconst (v := 0) hx hb dX6_dimensionAnew_15 (by decide) ?_
  refine lv_istore_n (lv' := [(3, .int 0), (2, .int v2), (0, .ref (ad 0)), (1, .int a1)]) hx hb dX6_dimensionAnew_16 rfl hl (by decide) rfl (fun ls hl => ?_)
  refine lv_iconst (v := 0) hx hb dX6_dimensionAnew_17 (by decide) ?_
  refine lv_istore (lv' := [(4, .int 0), (3, .int 0), (2, .int v2), (0, .ref (ad 0)), (1, .int a1)]) hx hb dX6_dimensionAnew_18 hl (by decide) rfl (fun ls hl => ?_)
  obtain ⟨n11, h⟩ := h
  refine w_X6_dimensionAnew_L20 hflag hT hX hL X a1 v2 _ _ _ (fun v12 u13 H locs ls h hP hS hl => ?_) n11 0 0 _ _ _ _ h hP hS (lv_sub hl [3, 4, 2, 1, 0] rfl)
  refine lv_aload_n hx hb dX6_dimensionAnew_48 rfl (lv_at hl 0 rfl) ?_
  refine va_get (C := RX6) (T := TX6) (N := 12) hx hb hts n6 hown hK hP i0 (cg_0 hi0) rfl 0 (by decide) lk0 (fun _ h9 => h9) rfl dX6_dimensionAnew_49 ?_
  refine lv_iload_n hx hb dX6_dimensionAnew_52 rfl (lv_at hl 1 rfl) ?_
  refine cc_i (va_runV (C := RX2) (As := [.int v12]) (rest := []) ⟨hx, hb, hml, hown, hts⟩ (c_X2_exponent hL hwd H.size u13 v12 _ h) (cwV 1 hts gX6_dimensionAnew_X2_exponent rfl rfl rfl (by decide +kernel) ⟨Nat.le_of_ble_eq_true rfl, Nat.le_of_ble_eq_true rfl⟩) (pcV hC hP hS (cg_1 hi1) rfl) rfl rfl hl.1 rfl (lv_room (Nat.le_of_ble_eq_true rfl)) dX6_dimensionAnew_53 ⟨Nat.le_of_ble_eq_true rfl, Nat.le_of_ble_eq_true rfl⟩) hS (cA_mono hS.1) (fun v14 u15 H locs h hP hS => ?_)
  refine W.widen (k := 1) (n := 6) (by decide) (by decide) ?_
  exact vx_ret (W.iret (v := v14) hx hb hr (fun t ht hW => ⟨⟨_, _, rfl, h, by show va_P _ _ _ t.heap; rw [ht]; exact hP⟩, hS.F ht⟩) hS.2.2 dX6_dimensionAnew_56)
set_option maxRecDepth 100000 in
set_option maxHeartbeats 4000000 in
theorem c_X6_dimensionAnew {l : Launch} {D : va_G} {cI cG cZ cJ : ClassId} {ts : Nat × Nat} {L : List Nat} {ad : Nat → Nat} {al : Nat} (hflag : l.stackTraces = false) (hL : Lf L al) (hwd : WD L ad) (sz : Nat) (u : St) (a1 : Int32) (Q : Int32 → St → Prop) (QX : String → St → Prop) (h : f_X6_dimensionAnew al a1 u Q QX) : vx_Met l yX6_dimensionAnew wsX6_dimensionAnew ({ frames := 7, cells := 1, slots := 6, locals := 110 }) (va_Pc [.ref (ad 0), .int a1] (PCX D cI cG cZ cJ ts L ad al sz u)) (va_Qi Q (fun u9 t => va_P D vwCl (cW cI cG L ad al u9) t.heap) (cA L ad sz)) (vx_X (fun _ => True) (fun E u9 t => QX E u9 ∧ va_P D vwCl (cW cI cG L ad al u9) t.heap) (cA L ad sz)) 1 6 (cA L ad sz) := by
  refine vx_ofW (cc := cX6_dimensionAnew) (maxL := 5) (ret := (some .int)) (by decide) rfl ?_
  intro p e s m args below meth c s₁ B hml hT hv
  obtain ⟨rfl, ⟨hsz, hP, hC⟩, hX⟩ := hv
  subst hsz
  have X : FX RX6 wsX6_dimensionAnew cX6_dimensionAnew 5 (some .int) D cI cG cZ cJ ts L ad p s m _ meth c := ⟨B.exec, B.bytes, hml, findClass_of_methodNamed B.named, atoms_spec (ws := wsX6_dimensionAnew) B.pre, B.returns, B.notSynchronized, hwd, hC⟩
  have hl := lv_entry ([.ref (ad 0), .int a1]) (n := 5) (Nat.le_of_ble_eq_true rfl)
  rw [lg_entry_eq]
  generalize (lg_sl ([.ref (ad 0), .int a1]) ++ List.replicate (5 - (lg_sl ([.ref (ad 0), .int a1])).length) Slot.unset).toArray = ls at hl ⊢
  exact w_X6_dimensionAnew hflag hT hX hL X a1 Q QX u _ _ _ h hP va_S.rf hl
set_option maxRecDepth 100000 in
set_option maxHeartbeats 4000000 in
theorem w_X6_transvectant {p : Program} {l : Launch} {e : Env} {s : State} {m : MethodId} {args : Array Value} {below : List Frame} {meth : Method} {c : Code} {D : va_G} {cI cG cZ cJ : ClassId} {ts : Nat × Nat} {L : List Nat} {ad : Nat → Nat} {al : Nat} (hflag : l.stackTraces = false) (hT : ∀ x ∈ c.exceptionTable.toList, False) (hX : XW s) (hL : Lf L al) (X : FX RX6 wsX6_transvectant cX6_transvectant 5 (some .int) D cI cG cZ cJ ts L ad p s m args meth c) (a1 : Int32) (a2 : Int32) (a3 : Int32) (Q : Int32 → St → Prop) (QX : String → St → Prop) (u : St) (H : Heap) (locs : List Loc) (ls : Array Slot) (h : f_X6_transvectant al a1 a2 a3 u Q QX) (hP : va_P D vwCl (cW cI cG L ad al u) H) (hS : va_S (cA L ad s.heap.size) s.heap H locs) (hl : lv_has ls 5 [(0, .ref (ad 0)), (1, .int a1), (2, .int a2), (3, .int a3)]) : W p l e (headSpec wsX6_transvectant { frames := 7, cells := 3, slots := 18, locals := 121 }).room s m args below meth c H locs 0 0 (vx_MQ below (va_Qi Q (fun u9 t => va_P D vwCl (cW cI cG L ad al u9) t.heap) (cA L ad s.heap.size)) (vx_X (fun _ => True) (fun E u9 t => QX E u9 ∧ va_P D vwCl (cW cI cG L ad al u9) t.heap) (cA L ad s.heap.size)) args s 3 18 (cA L ad s.heap.size)) (F0 m 0 ls []) := by
  obtain ⟨hx, hb, hml, hown, hts, hr, hlocks, hwd, hC⟩ := id X
  have hK := hC.1
  have hout : ∀ (q : Nat), ∀ x ∈ c.exceptionTable.toList, covers x q = false := fun _ x hx => (hT x hx).elim
  have m0 : 0 ∈ L := hL 0 (by omega)
  obtain ⟨i0, hi0⟩ := wL_ix m0
  have m7 : 7 ∈ L := hL 7 (by omega)
  obtain ⟨i7, hi7⟩ := wL_ix m7
  have lk0 := hts (.fieldLink RX6 50 "FormForge" "degrees" "[I") (by decide +kernel)
  have lk1 := hts (.methodLink RX6 215 Lib.Math.min.name) (by decide +kernel)
  have lk2 := hts (.static Lib.Math.min.name) (by decide +kernel)
  have lk3 := hts (.initialized "java/lang/Math") (by decide +kernel)
  have lk4 := hts (.code Lib.Math.min.name Lib.Math.min.code 2 (some .int)) (by decide +kernel)
  have lk5 := hts (.classLink RX6 73 "java/lang/IllegalArgumentException") (by decide +kernel)
  have lk6 := hts (.initialized "java/lang/IllegalArgumentException") (by decide +kernel)
  have n6 : ∀ w ∈ wsX60, w ∈ wsX6_transvectant := by decide +kernel
  obtain ⟨sa10, hs10⟩ := hC.2.2.1 _ (List.mem_of_getElem? (i := 10) rfl)
  unfold f_X6_transvectant at h
  refine lv_aload_n hx hb dX6_transvectant_0 rfl (lv_at hl 0 rfl) ?_
  refine lv_iload_n hx hb dX6_transvectant_1 rfl (lv_at hl 1 rfl) ?_
  refine cx_v (MC := 3) (MS := 18) (QX := QX) (vx_runV (C := RX6) (As := [.int a1]) (rest := []) ⟨hx, hb, hml, hown, hts⟩ (c_X6_checkForm hflag hL hwd H.size u a1 _ _ h) (cwV 1 hts gX6_transvectant_X6_checkForm rfl rfl rfl (by decide +kernel) ⟨Nat.le_of_ble_eq_true rfl, Nat.le_of_ble_eq_true rfl⟩) (pcVX hC hX hP hS (cg_0 hi0) rfl) rfl rfl hl.1 rfl (lv_room (Nat.le_of_ble_eq_true rfl)) dX6_transvectant_2 ⟨Nat.le_of_ble_eq_true rfl, Nat.le_of_ble_eq_true rfl⟩) hS (cA_mono hS.1) (hout _) hlocks (Nat.le_of_ble_eq_true rfl) (Nat.le_of_ble_eq_true rfl) (fun E u9 h9 => h9) (fun u1 H locs h hP hS => ?_)
  refine lv_aload_n hx hb dX6_transvectant_5 rfl (lv_at hl 0 rfl) ?_
  refine lv_iload_n hx hb dX6_transvectant_6 rfl (lv_at hl 2 rfl) ?_
  refine cx_v (MC := 3) (MS := 18) (QX := QX) (vx_runV (C := RX6) (As := [.int a2]) (rest := []) ⟨hx, hb, hml, hown, hts⟩ (c_X6_checkForm hflag hL hwd H.size u1 a2 _ _ h) (cwV 1 hts gX6_transvectant_X6_checkForm rfl rfl rfl (by decide +kernel) ⟨Nat.le_of_ble_eq_true rfl, Nat.le_of_ble_eq_true rfl⟩) (pcVX hC hX hP hS (cg_0 hi0) rfl) rfl rfl hl.1 rfl (lv_room (Nat.le_of_ble_eq_true rfl)) dX6_transvectant_7 ⟨Nat.le_of_ble_eq_true rfl, Nat.le_of_ble_eq_true rfl⟩) hS (cA_mono hS.1) (hout _) hlocks (Nat.le_of_ble_eq_true rfl) (Nat.le_of_ble_eq_true rfl) (fun E u9 h9 => h9) (fun u2 H locs h hP hS => ?_)
  refine lv_aload_n hx hb dX6_transvectant_10 rfl (lv_at hl 0 rfl) ?_
  refine va_get (C := RX6) (T := TX6) (N := 12) hx hb hts n6 hown hK hP i0 (cg_0 hi0) rfl 5 (by decide) lk0 (fun _ h9 => h9) rfl dX6_transvectant_11 ?_
  refine lv_iload_n hx hb dX6_transvectant_14 rfl (lv_at hl 1 rfl) ?_
  refine cc_i (va_runS (As := [.ref (ad 7), .int a1]) (rest := []) ⟨hx, hb, hml, hown, hts⟩ (c_X6_read hL.g (Or.inl ⟨by decide, by decide⟩) m7 hwd H.size u2 a1 _ h) (va_cwS 2 hts gX6_transvectant_X6_read rfl rfl rfl (by decide +kernel) ⟨Nat.le_of_ble_eq_true rfl, Nat.le_of_ble_eq_true rfl⟩) (pcS hC hP hS) rfl rfl hl.1 rfl (lv_room (Nat.le_of_ble_eq_true rfl)) dX6_transvectant_15 ⟨Nat.le_of_ble_eq_true rfl, Nat.le_of_ble_eq_true rfl⟩) hS (cA_mono hS.1) (fun v3 u4 H locs h hP hS => ?_)
  refine lv_aload_n hx hb dX6_transvectant_18 rfl (lv_at hl 0 rfl) ?_
  refine va_get (C := RX6) (T := TX6) (N := 12) hx hb hts n6 hown hK hP i0 (cg_0 hi0) rfl 5 (by decide) lk0 (fun _ h9 => h9) rfl dX6_transvectant_19 ?_
  refine lv_iload_n hx hb dX6_transvectant_22 rfl (lv_at hl 2 rfl) ?_
  refine cc_i (va_runS (As := [.ref (ad 7), .int a2]) (rest := [.int v3]) ⟨hx, hb, hml, hown, hts⟩ (c_X6_read hL.g (Or.inl ⟨by decide, by decide⟩) m7 hwd H.size u4 a2 _ h) (va_cwS 2 hts gX6_transvectant_X6_read rfl rfl rfl (by decide +kernel) ⟨Nat.le_of_ble_eq_true rfl, Nat.le_of_ble_eq_true rfl⟩) (pcS hC hP hS) rfl rfl hl.1 rfl (lv_room (Nat.le_of_ble_eq_true rfl)) dX6_transvectant_23 ⟨Nat.le_of_ble_eq_true rfl, Nat.le_of_ble_eq_true rfl⟩) hS (cA_mono hS.1) (fun v5 u6 H locs h hP hS => ?_)
  refine va_mmin hx hb (hml.trans hl.1.symm) hown lk1 lk2 lk3 lk4 (Nat.le_of_ble_eq_true rfl) (Nat.le_of_ble_eq_true rfl) (Nat.le_of_ble_eq_true rfl) (Nat.le_of_ble_eq_true rfl) dX6_transvectant_26 ?_
  refine lv_topi (fun v7 ev7 => ?_)
  replace h := h v7 ev7
  refine lv_istore (lv' := [(4, .int v7), (0, .ref (ad 0)), (1, .int a1), (2, .int a2), (3, .int a3)]) hx hb dX6_transvectant_29 hl (by decide) rfl (fun ls hl => ?_)
  refine lv_iload_n hx hb dX6_transvectant_31 rfl (lv_at hl 4 rfl) ?_
  refine lv_if_lt (tgt := 68) hx hb dX6_transvectant_32 (by decide) (fun c8 => ?_) (fun c8 => ?_)
  · replace h := h.1 c8
    exact vx_throwS hx hb hflag hown (by decide +kernel) (by decide +kernel) lk5 lk6 hs10 (hat_X6_transvectant_77 hts hX) hgood_77 hC.2.2.2.1 hC.2.2.2.2.1 hS (hl.1.trans hml.symm) dX6_transvectant_68 dX6_transvectant_71 dX6_transvectant_72 dX6_transvectant_74 dX6_transvectant_77 (hout _) (Nat.le_of_ble_eq_true rfl) (Nat.le_of_ble_eq_true rfl) (Nat.le_of_ble_eq_true rfl) (Nat.le_of_ble_eq_true rfl) hlocks (fun t ha hz hq => ⟨_, trivial, ⟨h, hP.kept (fun k q hk => hq _ (hP k q hk).lt)⟩, vaF_more hS hz hq⟩) hS.2.2 (by decide) (by decide)
  · replace h := h.2 c8
    refine lv_iload_n hx hb dX6_transvectant_35 rfl (lv_at hl 4 rfl) ?_
    refine lv_iload hx hb dX6_transvectant_36 (lv_at hl 0 rfl) ?_
    refine lv_icmp_gt (tgt := 68) hx hb dX6_transvectant_38 (by decide) (fun c9 => ?_) (fun c9 => ?_)
    · replace h := h.1 c9
      exact vx_throwS hx hb hflag hown (by decide +kernel) (by decide +kernel) lk5 lk6 hs10 (hat_X6_transvectant_77 hts hX) hgood_77 hC.2.2.2.1 hC.2.2.2.2.1 hS (hl.1.trans hml.symm) dX6_transvectant_68 dX6_transvectant_71 dX6_transvectant_72 dX6_transvectant_74 dX6_transvectant_77 (hout _) (Nat.le_of_ble_eq_true rfl) (Nat.le_of_ble_eq_true rfl) (Nat.le_of_ble_eq_true rfl) (Nat.le_of_ble_eq_true rfl) hlocks (fun t ha hz hq => ⟨_, trivial, ⟨h, hP.kept (fun k q hk => hq _ (hP k q hk).lt)⟩, vaF_more hS hz hq⟩) hS.2.2 (by decide) (by decide)
    · replace h := h.2 c9
      refine lv_aload_n hx hb dX6_transvectant_41 rfl (lv_at hl 1 rfl) ?_
      refine va_get (C := RX6) (T := TX6) (N := 12) hx hb hts n6 hown hK hP i0 (cg_0 hi0) rfl 5 (by decide) lk0 (fun _ h9 => h9) rfl dX6_transvectant_42 ?_
      refine lv_iload_n hx hb dX6_transvectant_45 rfl (lv_at hl 2 rfl) ?_
      refine cc_i (va_runS (As := [.ref (ad 7), .int a1]) (rest := []) ⟨hx, hb, hml, hown, hts⟩ (c_X6_read hL.g (Or.inl ⟨by decide, by decide⟩) m7 hwd H.size u6 a1 _ h) (va_cwS 2 hts gX6_transvectant_X6_read rfl rfl rfl (by decide +kernel) ⟨Nat.le_of_ble_eq_true rfl, Nat.le_of_ble_eq_true rfl⟩) (pcS hC hP hS) rfl rfl hl.1 rfl (lv_room (Nat.le_of_ble_eq_true rfl)) dX6_transvectant_46 ⟨Nat.le_of_ble_eq_true rfl, Nat.le_of_ble_eq_true rfl⟩) hS (cA_mono hS.1) (fun v10 u11 H locs h hP hS => ?_)
      refine lv_aload_n hx hb dX6_transvectant_49 rfl (lv_at hl 1 rfl) ?_
      refine va_get (C := RX6) (T := TX6) (N := 12) hx hb hts n6 hown hK hP i0 (cg_0 hi0) rfl 5 (by decide) lk0 (fun _ h9 => h9) rfl dX6_transvectant_50 ?_
      refine lv_iload_n hx hb dX6_transvectant_53 rfl (lv_at hl 3 rfl) ?_
      refine cc_i (va_runS (As := [.ref (ad 7), .int a2]) (rest := [.int v10]) ⟨hx, hb, hml, hown, hts⟩ (c_X6_read hL.g (Or.inl ⟨by decide, by decide⟩) m7 hwd H.size u11 a2 _ h) (va_cwS 2 hts gX6_transvectant_X6_read rfl rfl rfl (by decide +kernel) ⟨Nat.le_of_ble_eq_true rfl, Nat.le_of_ble_eq_true rfl⟩) (pcS hC hP hS) rfl rfl hl.1 rfl (lv_room (Nat.le_of_ble_eq_true rfl)) dX6_transvectant_54 ⟨Nat.le_of_ble_eq_true rfl, Nat.le_of_ble_eq_true rfl⟩) hS (cA_mono hS.1) (fun v12 u13 H locs h hP hS => ?_)
      refine lv_iadd hx hb dX6_transvectant_57 ?_
      refine lv_iconst (v := 2) hx hb dX6_transvectant_58 (by decide) ?_
      refine lv_iload_n hx hb dX6_transvectant_59 rfl (lv_at hl 4 rfl) ?_
      refine lv_imul hx hb dX6_transvectant_60 ?_
      refine lv_isub hx hb dX6_transvectant_61 ?_
      refine cc_i (va_runS (As := [.int ((v10 + v12) - (2 * a3))]) (rest := []) ⟨hx, hb, hml, hown, hts⟩ (c_X6_isDegree hL hwd H.size u13 ((v10 + v12) - (2 * a3)) _ h) (va_cwS 1 hts gX6_transvectant_X6_isDegree rfl rfl rfl (by decide +kernel) ⟨Nat.le_of_ble_eq_true rfl, Nat.le_of_ble_eq_true rfl⟩) (pcS hC hP hS) rfl rfl hl.1 rfl (lv_room (Nat.le_of_ble_eq_true rfl)) dX6_transvectant_62 ⟨Nat.le_of_ble_eq_true rfl, Nat.le_of_ble_eq_true rfl⟩) hS (cA_mono hS.1) (fun v14 u15 H locs h hP hS => ?_)
      refine lv_if_ne (tgt := 78) hx hb dX6_transvectant_65 (by decide) (fun c16 => ?_) (fun c16 => ?_)
      · replace h := h.1 c16
        refine lv_aload_n hx hb dX6_transvectant_78 rfl (lv_at hl 1 rfl) ?_
        refine lv_iload_n hx hb dX6_transvectant_79 rfl (lv_at hl 2 rfl) ?_
        refine lv_iload_n hx hb dX6_transvectant_80 rfl (lv_at hl 3 rfl) ?_
        refine lv_iload_n hx hb dX6_transvectant_81 rfl (lv_at hl 4 rfl) ?_
        refine cc_i (va_runV (C := RX6) (As := [.int a1, .int a2, .int a3]) (rest := []) ⟨hx, hb, hml, hown, hts⟩ (c_X6_transvectantCode hL hwd H.size u15 a1 a2 a3 _ h) (cwV 3 hts gX6_transvectant_X6_transvectantCode rfl rfl rfl (by decide +kernel) ⟨Nat.le_of_ble_eq_true rfl, Nat.le_of_ble_eq_true rfl⟩) (pcV hC hP hS (cg_0 hi0) rfl) rfl rfl hl.1 rfl (lv_room (Nat.le_of_ble_eq_true rfl)) dX6_transvectant_82 ⟨Nat.le_of_ble_eq_true rfl, Nat.le_of_ble_eq_true rfl⟩) hS (cA_mono hS.1) (fun v17 u18 H locs h hP hS => ?_)
        refine W.widen (k := 3) (n := 18) (by decide) (by decide) ?_
        exact vx_ret (W.iret (v := v17) hx hb hr (fun t ht hW => ⟨⟨_, _, rfl, h, by show va_P _ _ _ t.heap; rw [ht]; exact hP⟩, hS.F ht⟩) hS.2.2 dX6_transvectant_85)
      · replace h := h.2 c16
        exact vx_throwS hx hb hflag hown (by decide +kernel) (by decide +kernel) lk5 lk6 hs10 (hat_X6_transvectant_77 hts hX) hgood_77 hC.2.2.2.1 hC.2.2.2.2.1 hS (hl.1.trans hml.symm) dX6_transvectant_68 dX6_transvectant_71 dX6_transvectant_72 dX6_transvectant_74 dX6_transvectant_77 (hout _) (Nat.le_of_ble_eq_true rfl) (Nat.le_of_ble_eq_true rfl) (Nat.le_of_ble_eq_true rfl) (Nat.le_of_ble_eq_true rfl) hlocks (fun t ha hz hq => ⟨_, trivial, ⟨h, hP.kept (fun k q hk => hq _ (hP k q hk).lt)⟩, vaF_more hS hz hq⟩) hS.2.2 (by decide) (by decide)
set_option maxRecDepth 100000 in
set_option maxHeartbeats 4000000 in
theorem c_X6_transvectant {l : Launch} {D : va_G} {cI cG cZ cJ : ClassId} {ts : Nat × Nat} {L : List Nat} {ad : Nat → Nat} {al : Nat} (hflag : l.stackTraces = false) (hL : Lf L al) (hwd : WD L ad) (sz : Nat) (u : St) (a1 : Int32) (a2 : Int32) (a3 : Int32) (Q : Int32 → St → Prop) (QX : String → St → Prop) (h : f_X6_transvectant al a1 a2 a3 u Q QX) : vx_Met l yX6_transvectant wsX6_transvectant ({ frames := 7, cells := 3, slots := 18, locals := 121 }) (va_Pc [.ref (ad 0), .int a1, .int a2, .int a3] (PCX D cI cG cZ cJ ts L ad al sz u)) (va_Qi Q (fun u9 t => va_P D vwCl (cW cI cG L ad al u9) t.heap) (cA L ad sz)) (vx_X (fun _ => True) (fun E u9 t => QX E u9 ∧ va_P D vwCl (cW cI cG L ad al u9) t.heap) (cA L ad sz)) 3 18 (cA L ad sz) := by
  refine vx_ofW (cc := cX6_transvectant) (maxL := 5) (ret := (some .int)) (by decide) rfl ?_
  intro p e s m args below meth c s₁ B hml hT hv
  obtain ⟨rfl, ⟨hsz, hP, hC⟩, hX⟩ := hv
  subst hsz
  have X : FX RX6 wsX6_transvectant cX6_transvectant 5 (some .int) D cI cG cZ cJ ts L ad p s m _ meth c := ⟨B.exec, B.bytes, hml, findClass_of_methodNamed B.named, atoms_spec (ws := wsX6_transvectant) B.pre, B.returns, B.notSynchronized, hwd, hC⟩
  have hl := lv_entry ([.ref (ad 0), .int a1, .int a2, .int a3]) (n := 5) (Nat.le_of_ble_eq_true rfl)
  rw [lg_entry_eq]
  generalize (lg_sl ([.ref (ad 0), .int a1, .int a2, .int a3]) ++ List.replicate (5 - (lg_sl ([.ref (ad 0), .int a1, .int a2, .int a3])).length) Slot.unset).toArray = ls at hl ⊢
  exact w_X6_transvectant hflag hT hX hL X a1 a2 a3 Q QX u _ _ _ h hP va_S.rf hl
set_option maxRecDepth 100000 in
set_option maxHeartbeats 4000000 in
theorem w_X6_value {p : Program} {l : Launch} {e : Env} {s : State} {m : MethodId} {args : Array Value} {below : List Frame} {meth : Method} {c : Code} {D : va_G} {cI cG cZ cJ : ClassId} {ts : Nat × Nat} {L : List Nat} {ad : Nat → Nat} {al : Nat} (hflag : l.stackTraces = false) (hT : ∀ x ∈ c.exceptionTable.toList, False) (hX : XW s) (hL : Lf L al) (X : FX RX6 wsX6_value cX6_value 4 (some .int) D cI cG cZ cJ ts L ad p s m args meth c) (a1 : Int32) (a2 : Int32) (Q : Int32 → St → Prop) (QX : String → St → Prop) (u : St) (H : Heap) (locs : List Loc) (ls : Array Slot) (h : f_X6_value al a1 a2 u Q QX) (hP : va_P D vwCl (cW cI cG L ad al u) H) (hS : va_S (cA L ad s.heap.size) s.heap H locs) (hl : lv_has ls 4 [(0, .ref (ad 0)), (1, .int a1), (2, .int a2)]) : W p l e (headSpec wsX6_value { frames := 7, cells := 2, slots := 12, locals := 111 }).room s m args below meth c H locs 0 0 (vx_MQ below (va_Qi Q (fun u9 t => va_P D vwCl (cW cI cG L ad al u9) t.heap) (cA L ad s.heap.size)) (vx_X (fun _ => True) (fun E u9 t => QX E u9 ∧ va_P D vwCl (cW cI cG L ad al u9) t.heap) (cA L ad s.heap.size)) args s 2 12 (cA L ad s.heap.size)) (F0 m 0 ls []) := by
  obtain ⟨hx, hb, hml, hown, hts, hr, hlocks, hwd, hC⟩ := id X
  have hK := hC.1
  have hout : ∀ (q : Nat), ∀ x ∈ c.exceptionTable.toList, covers x q = false := fun _ x hx => (hT x hx).elim
  have m0 : 0 ∈ L := hL 0 (by omega)
  obtain ⟨i0, hi0⟩ := wL_ix m0
  have m7 : 7 ∈ L := hL 7 (by omega)
  obtain ⟨i7, hi7⟩ := wL_ix m7
  have m8 : 8 ∈ L := hL 8 (by omega)
  obtain ⟨i8, hi8⟩ := wL_ix m8
  have lk0 := hts (.fieldLink RX6 50 "FormForge" "degrees" "[I") (by decide +kernel)
  have lk1 := hts (.classLink RX6 73 "java/lang/IllegalArgumentException") (by decide +kernel)
  have lk2 := hts (.initialized "java/lang/IllegalArgumentException") (by decide +kernel)
  have lk3 := hts (.fieldLink RX6 54 "FormForge" "codes" "[I") (by decide +kernel)
  have n6 : ∀ w ∈ wsX60, w ∈ wsX6_value := by decide +kernel
  obtain ⟨sa11, hs11⟩ := hC.2.2.1 _ (List.mem_of_getElem? (i := 11) rfl)
  unfold f_X6_value at h
  refine lv_aload_n hx hb dX6_value_0 rfl (lv_at hl 0 rfl) ?_
  refine lv_iload_n hx hb dX6_value_1 rfl (lv_at hl 1 rfl) ?_
  refine cx_v (MC := 2) (MS := 12) (QX := QX) (vx_runV (C := RX6) (As := [.int a1]) (rest := []) ⟨hx, hb, hml, hown, hts⟩ (c_X6_checkForm hflag hL hwd H.size u a1 _ _ h) (cwV 1 hts gX6_value_X6_checkForm rfl rfl rfl (by decide +kernel) ⟨Nat.le_of_ble_eq_true rfl, Nat.le_of_ble_eq_true rfl⟩) (pcVX hC hX hP hS (cg_0 hi0) rfl) rfl rfl hl.1 rfl (lv_room (Nat.le_of_ble_eq_true rfl)) dX6_value_2 ⟨Nat.le_of_ble_eq_true rfl, Nat.le_of_ble_eq_true rfl⟩) hS (cA_mono hS.1) (hout _) hlocks (Nat.le_of_ble_eq_true rfl) (Nat.le_of_ble_eq_true rfl) (fun E u9 h9 => h9) (fun u1 H locs h hP hS => ?_)
  refine lv_aload_n hx hb dX6_value_5 rfl (lv_at hl 0 rfl) ?_
  refine va_get (C := RX6) (T := TX6) (N := 12) hx hb hts n6 hown hK hP i0 (cg_0 hi0) rfl 5 (by decide) lk0 (fun _ h9 => h9) rfl dX6_value_6 ?_
  refine lv_iload_n hx hb dX6_value_9 rfl (lv_at hl 1 rfl) ?_
  refine cc_i (va_runS (As := [.ref (ad 7), .int a1]) (rest := []) ⟨hx, hb, hml, hown, hts⟩ (c_X6_read hL.g (Or.inl ⟨by decide, by decide⟩) m7 hwd H.size u1 a1 _ h) (va_cwS 2 hts gX6_value_X6_read rfl rfl rfl (by decide +kernel) ⟨Nat.le_of_ble_eq_true rfl, Nat.le_of_ble_eq_true rfl⟩) (pcS hC hP hS) rfl rfl hl.1 rfl (lv_room (Nat.le_of_ble_eq_true rfl)) dX6_value_10 ⟨Nat.le_of_ble_eq_true rfl, Nat.le_of_ble_eq_true rfl⟩) hS (cA_mono hS.1) (fun v2 u3 H locs h hP hS => ?_)
  refine lv_istore_n (lv' := [(3, .int v2), (0, .ref (ad 0)), (1, .int a1), (2, .int a2)]) hx hb dX6_value_13 rfl hl (by decide) rfl (fun ls hl => ?_)
  refine lv_iload_n hx hb dX6_value_14 rfl (lv_at hl 3 rfl) ?_
  refine lv_if_lt (tgt := 26) hx hb dX6_value_15 (by decide) (fun c4 => ?_) (fun c4 => ?_)
  · replace h := h.1 c4
    exact vx_throwS hx hb hflag hown (by decide +kernel) (by decide +kernel) lk1 lk2 hs11 (hat_X6_value_77 hts hX) hgood_77 hC.2.2.2.1 hC.2.2.2.2.1 hS (hl.1.trans hml.symm) dX6_value_26 dX6_value_29 dX6_value_30 dX6_value_32 dX6_value_35 (hout _) (Nat.le_of_ble_eq_true rfl) (Nat.le_of_ble_eq_true rfl) (Nat.le_of_ble_eq_true rfl) (Nat.le_of_ble_eq_true rfl) hlocks (fun t ha hz hq => ⟨_, trivial, ⟨h, hP.kept (fun k q hk => hq _ (hP k q hk).lt)⟩, vaF_more hS hz hq⟩) hS.2.2 (by decide) (by decide)
  · replace h := h.2 c4
    refine lv_iload_n hx hb dX6_value_18 rfl (lv_at hl 3 rfl) ?_
    refine lv_iload_n hx hb dX6_value_19 rfl (lv_at hl 0 rfl) ?_
    refine cc_i (va_runS (As := [.int v2]) (rest := [.int a2]) ⟨hx, hb, hml, hown, hts⟩ (c_X6_countValues hL hwd H.size u3 v2 _ h) (va_cwS 1 hts gX6_value_X6_countValues rfl rfl rfl (by decide +kernel) ⟨Nat.le_of_ble_eq_true rfl, Nat.le_of_ble_eq_true rfl⟩) (pcS hC hP hS) rfl rfl hl.1 rfl (lv_room (Nat.le_of_ble_eq_true rfl)) dX6_value_20 ⟨Nat.le_of_ble_eq_true rfl, Nat.le_of_ble_eq_true rfl⟩) hS (cA_mono hS.1) (fun v5 u6 H locs h hP hS => ?_)
    refine lv_icmp_lt (tgt := 36) hx hb dX6_value_23 (by decide) (fun c7 => ?_) (fun c7 => ?_)
    · replace h := h.1 c7
      refine lv_aload_n hx hb dX6_value_36 rfl (lv_at hl 1 rfl) ?_
      refine lv_iload_n hx hb dX6_value_37 rfl (lv_at hl 0 rfl) ?_
      refine lv_aload_n hx hb dX6_value_38 rfl (lv_at hl 1 rfl) ?_
      refine va_get (C := RX6) (T := TX6) (N := 12) hx hb hts n6 hown hK hP i0 (cg_0 hi0) rfl 6 (by decide) lk3 (fun _ h9 => h9) rfl dX6_value_39 ?_
      refine lv_iload_n hx hb dX6_value_42 rfl (lv_at hl 2 rfl) ?_
      refine cc_i (va_runS (As := [.ref (ad 8), .int a1]) (rest := [.int v2, .ref (ad 0)]) ⟨hx, hb, hml, hown, hts⟩ (c_X6_read hL.g (Or.inl ⟨by decide, by decide⟩) m8 hwd H.size u6 a1 _ h) (va_cwS 2 hts gX6_value_X6_read rfl rfl rfl (by decide +kernel) ⟨Nat.le_of_ble_eq_true rfl, Nat.le_of_ble_eq_true rfl⟩) (pcS hC hP hS) rfl rfl hl.1 rfl (lv_room (Nat.le_of_ble_eq_true rfl)) dX6_value_43 ⟨Nat.le_of_ble_eq_true rfl, Nat.le_of_ble_eq_true rfl⟩) hS (cA_mono hS.1) (fun v8 u9 H locs h hP hS => ?_)
      refine lv_iload_n hx hb dX6_value_46 rfl (lv_at hl 3 rfl) ?_
      refine cc_i (va_runV (C := RX6) (As := [.int v2, .int v8, .int a2]) (rest := []) ⟨hx, hb, hml, hown, hts⟩ (c_X6_valueOf hL hwd H.size u9 v2 v8 a2 _ h) (cwV 3 hts gX6_value_X6_valueOf rfl rfl rfl (by decide +kernel) ⟨Nat.le_of_ble_eq_true rfl, Nat.le_of_ble_eq_true rfl⟩) (pcV hC hP hS (cg_0 hi0) rfl) rfl rfl hl.1 rfl (lv_room (Nat.le_of_ble_eq_true rfl)) dX6_value_47 ⟨Nat.le_of_ble_eq_true rfl, Nat.le_of_ble_eq_true rfl⟩) hS (cA_mono hS.1) (fun v10 u11 H locs h hP hS => ?_)
      refine W.widen (k := 2) (n := 12) (by decide) (by decide) ?_
      exact vx_ret (W.iret (v := v10) hx hb hr (fun t ht hW => ⟨⟨_, _, rfl, h, by show va_P _ _ _ t.heap; rw [ht]; exact hP⟩, hS.F ht⟩) hS.2.2 dX6_value_50)
    · replace h := h.2 c7
      exact vx_throwS hx hb hflag hown (by decide +kernel) (by decide +kernel) lk1 lk2 hs11 (hat_X6_value_77 hts hX) hgood_77 hC.2.2.2.1 hC.2.2.2.2.1 hS (hl.1.trans hml.symm) dX6_value_26 dX6_value_29 dX6_value_30 dX6_value_32 dX6_value_35 (hout _) (Nat.le_of_ble_eq_true rfl) (Nat.le_of_ble_eq_true rfl) (Nat.le_of_ble_eq_true rfl) (Nat.le_of_ble_eq_true rfl) hlocks (fun t ha hz hq => ⟨_, trivial, ⟨h, hP.kept (fun k q hk => hq _ (hP k q hk).lt)⟩, vaF_more hS hz hq⟩) hS.2.2 (by decide) (by decide)
set_option maxRecDepth 100000 in
set_option maxHeartbeats 4000000 in
theorem c_X6_value {l : Launch} {D : va_G} {cI cG cZ cJ : ClassId} {ts : Nat × Nat} {L : List Nat} {ad : Nat → Nat} {al : Nat} (hflag : l.stackTraces = false) (hL : Lf L al) (hwd : WD L ad) (sz : Nat) (u : St) (a1 : Int32) (a2 : Int32) (Q : Int32 → St → Prop) (QX : String → St → Prop) (h : f_X6_value al a1 a2 u Q QX) : vx_Met l yX6_value wsX6_value ({ frames := 7, cells := 2, slots := 12, locals := 111 }) (va_Pc [.ref (ad 0), .int a1, .int a2] (PCX D cI cG cZ cJ ts L ad al sz u)) (va_Qi Q (fun u9 t => va_P D vwCl (cW cI cG L ad al u9) t.heap) (cA L ad sz)) (vx_X (fun _ => True) (fun E u9 t => QX E u9 ∧ va_P D vwCl (cW cI cG L ad al u9) t.heap) (cA L ad sz)) 2 12 (cA L ad sz) := by
  refine vx_ofW (cc := cX6_value) (maxL := 4) (ret := (some .int)) (by decide) rfl ?_
  intro p e s m args below meth c s₁ B hml hT hv
  obtain ⟨rfl, ⟨hsz, hP, hC⟩, hX⟩ := hv
  subst hsz
  have X : FX RX6 wsX6_value cX6_value 4 (some .int) D cI cG cZ cJ ts L ad p s m _ meth c := ⟨B.exec, B.bytes, hml, findClass_of_methodNamed B.named, atoms_spec (ws := wsX6_value) B.pre, B.returns, B.notSynchronized, hwd, hC⟩
  have hl := lv_entry ([.ref (ad 0), .int a1, .int a2]) (n := 4) (Nat.le_of_ble_eq_true rfl)
  rw [lg_entry_eq]
  generalize (lg_sl ([.ref (ad 0), .int a1, .int a2]) ++ List.replicate (4 - (lg_sl ([.ref (ad 0), .int a1, .int a2])).length) Slot.unset).toArray = ls at hl ⊢
  exact w_X6_value hflag hT hX hL X a1 a2 Q QX u _ _ _ h hP va_S.rf hl
set_option maxRecDepth 100000 in
set_option maxHeartbeats 4000000 in
theorem w_X6_checkAlike {p : Program} {l : Launch} {e : Env} {s : State} {m : MethodId} {args : Array Value} {below : List Frame} {meth : Method} {c : Code} {D : va_G} {cI cG cZ cJ : ClassId} {ts : Nat × Nat} {L : List Nat} {ad : Nat → Nat} {al : Nat} (hflag : l.stackTraces = false) (hT : ∀ x ∈ c.exceptionTable.toList, False) (hX : XW s) (hL : Lf L al) (X : FX RX6 wsX6_checkAlike cX6_checkAlike 3 none D cI cG cZ cJ ts L ad p s m args meth c) (a1 : Int32) (a2 : Int32) (Q : St → Prop) (QX : String → St → Prop) (u : St) (H : Heap) (locs : List Loc) (ls : Array Slot) (h : f_X6_checkAlike al a1 a2 u Q QX) (hP : va_P D vwCl (cW cI cG L ad al u) H) (hS : va_S (cA L ad s.heap.size) s.heap H locs) (hl : lv_has ls 3 [(0, .ref (ad 0)), (1, .int a1), (2, .int a2)]) : W p l e (headSpec wsX6_checkAlike { frames := 6, cells := 1, slots := 6, locals := 90 }).room s m args below meth c H locs 0 0 (vx_MQ below (va_Qv Q (fun u9 t => va_P D vwCl (cW cI cG L ad al u9) t.heap) (cA L ad s.heap.size)) (vx_X (fun _ => True) (fun E u9 t => QX E u9 ∧ va_P D vwCl (cW cI cG L ad al u9) t.heap) (cA L ad s.heap.size)) args s 1 6 (cA L ad s.heap.size)) (F0 m 0 ls []) := by
  obtain ⟨hx, hb, hml, hown, hts, hr, hlocks, hwd, hC⟩ := id X
  have hK := hC.1
  have hout : ∀ (q : Nat), ∀ x ∈ c.exceptionTable.toList, covers x q = false := fun _ x hx => (hT x hx).elim
  have m0 : 0 ∈ L := hL 0 (by omega)
  obtain ⟨i0, hi0⟩ := wL_ix m0
  have m7 : 7 ∈ L := hL 7 (by omega)
  obtain ⟨i7, hi7⟩ := wL_ix m7
  have lk0 := hts (.fieldLink RX6 50 "FormForge" "degrees" "[I") (by decide +kernel)
  have lk1 := hts (.classLink RX6 73 "java/lang/IllegalArgumentException") (by decide +kernel)
  have lk2 := hts (.initialized "java/lang/IllegalArgumentException") (by decide +kernel)
  have n6 : ∀ w ∈ wsX60, w ∈ wsX6_checkAlike := by decide +kernel
  obtain ⟨sa14, hs14⟩ := hC.2.2.1 _ (List.mem_of_getElem? (i := 14) rfl)
  unfold f_X6_checkAlike at h
  refine lv_aload_n hx hb dX6_checkAlike_0 rfl (lv_at hl 0 rfl) ?_
  refine va_get (C := RX6) (T := TX6) (N := 12) hx hb hts n6 hown hK hP i0 (cg_0 hi0) rfl 5 (by decide) lk0 (fun _ h9 => h9) rfl dX6_checkAlike_1 ?_
  refine lv_iload_n hx hb dX6_checkAlike_4 rfl (lv_at hl 1 rfl) ?_
  refine cc_i (va_runS (As := [.ref (ad 7), .int a1]) (rest := []) ⟨hx, hb, hml, hown, hts⟩ (c_X6_read hL.g (Or.inl ⟨by decide, by decide⟩) m7 hwd H.size u a1 _ h) (va_cwS 2 hts gX6_checkAlike_X6_read rfl rfl rfl (by decide +kernel) ⟨Nat.le_of_ble_eq_true rfl, Nat.le_of_ble_eq_true rfl⟩) (pcS hC hP hS) rfl rfl hl.1 rfl (lv_room (Nat.le_of_ble_eq_true rfl)) dX6_checkAlike_5 ⟨Nat.le_of_ble_eq_true rfl, Nat.le_of_ble_eq_true rfl⟩) hS (cA_mono hS.1) (fun v1 u2 H locs h hP hS => ?_)
  refine lv_aload_n hx hb dX6_checkAlike_8 rfl (lv_at hl 0 rfl) ?_
  refine va_get (C := RX6) (T := TX6) (N := 12) hx hb hts n6 hown hK hP i0 (cg_0 hi0) rfl 5 (by decide) lk0 (fun _ h9 => h9) rfl dX6_checkAlike_9 ?_
  refine lv_iload_n hx hb dX6_checkAlike_12 rfl (lv_at hl 2 rfl) ?_
  refine cc_i (va_runS (As := [.ref (ad 7), .int a2]) (rest := [.int v1]) ⟨hx, hb, hml, hown, hts⟩ (c_X6_read hL.g (Or.inl ⟨by decide, by decide⟩) m7 hwd H.size u2 a2 _ h) (va_cwS 2 hts gX6_checkAlike_X6_read rfl rfl rfl (by decide +kernel) ⟨Nat.le_of_ble_eq_true rfl, Nat.le_of_ble_eq_true rfl⟩) (pcS hC hP hS) rfl rfl hl.1 rfl (lv_room (Nat.le_of_ble_eq_true rfl)) dX6_checkAlike_13 ⟨Nat.le_of_ble_eq_true rfl, Nat.le_of_ble_eq_true rfl⟩) hS (cA_mono hS.1) (fun v3 u4 H locs h hP hS => ?_)
  refine lv_icmp_eq (tgt := 30) hx hb dX6_checkAlike_16 (by decide) (fun c5 => ?_) (fun c5 => ?_)
  · replace h := h.1 c5
    refine W.widen (k := 1) (n := 6) (by decide) (by decide) ?_
    exact vx_ret (W.vret hx hb hr (fun t ht hW => ⟨⟨_, rfl, h, by show va_P _ _ _ t.heap; rw [ht]; exact hP⟩, hS.F ht⟩) hS.2.2 dX6_checkAlike_30)
  · replace h := h.2 c5
    exact vx_throwSW hx hb hflag hown (by decide +kernel) (by decide +kernel) lk1 lk2 hs14 (hat_X6_checkAlike_77 hts hX) hgood_77 hC.2.2.2.1 hC.2.2.2.2.1 hS (hl.1.trans hml.symm) dX6_checkAlike_19 dX6_checkAlike_22 dX6_checkAlike_23 dX6_checkAlike_26 dX6_checkAlike_29 (hout _) (Nat.le_of_ble_eq_true rfl) (Nat.le_of_ble_eq_true rfl) (Nat.le_of_ble_eq_true rfl) (Nat.le_of_ble_eq_true rfl) hlocks (fun t ha hz hq => ⟨_, trivial, ⟨h, hP.kept (fun k q hk => hq _ (hP k q hk).lt)⟩, vaF_more hS hz hq⟩) hS.2.2 (by decide) (by decide)
set_option maxRecDepth 100000 in
set_option maxHeartbeats 4000000 in
theorem c_X6_checkAlike {l : Launch} {D : va_G} {cI cG cZ cJ : ClassId} {ts : Nat × Nat} {L : List Nat} {ad : Nat → Nat} {al : Nat} (hflag : l.stackTraces = false) (hL : Lf L al) (hwd : WD L ad) (sz : Nat) (u : St) (a1 : Int32) (a2 : Int32) (Q : St → Prop) (QX : String → St → Prop) (h : f_X6_checkAlike al a1 a2 u Q QX) : vx_Met l yX6_checkAlike wsX6_checkAlike ({ frames := 6, cells := 1, slots := 6, locals := 90 }) (va_Pc [.ref (ad 0), .int a1, .int a2] (PCX D cI cG cZ cJ ts L ad al sz u)) (va_Qv Q (fun u9 t => va_P D vwCl (cW cI cG L ad al u9) t.heap) (cA L ad sz)) (vx_X (fun _ => True) (fun E u9 t => QX E u9 ∧ va_P D vwCl (cW cI cG L ad al u9) t.heap) (cA L ad sz)) 1 6 (cA L ad sz) := by
  refine vx_ofW (cc := cX6_checkAlike) (maxL := 3) (ret := none) (by decide) rfl ?_
  intro p e s m args below meth c s₁ B hml hT hv
  obtain ⟨rfl, ⟨hsz, hP, hC⟩, hX⟩ := hv
  subst hsz
  have X : FX RX6 wsX6_checkAlike cX6_checkAlike 3 none D cI cG cZ cJ ts L ad p s m _ meth c := ⟨B.exec, B.bytes, hml, findClass_of_methodNamed B.named, atoms_spec (ws := wsX6_checkAlike) B.pre, B.returns, B.notSynchronized, hwd, hC⟩
  have hl := lv_entry ([.ref (ad 0), .int a1, .int a2]) (n := 3) (Nat.le_of_ble_eq_true rfl)
  rw [lg_entry_eq]
  generalize (lg_sl ([.ref (ad 0), .int a1, .int a2]) ++ List.replicate (3 - (lg_sl ([.ref (ad 0), .int a1, .int a2])).length) Slot.unset).toArray = ls at hl ⊢
  exact w_X6_checkAlike hflag hT hX hL X a1 a2 Q QX u _ _ _ h hP va_S.rf hl
set_option maxRecDepth 100000 in
set_option maxHeartbeats 4000000 in
theorem w_X6_way {p : Program} {l : Launch} {e : Env} {s : State} {m : MethodId} {args : Array Value} {below : List Frame} {meth : Method} {c : Code} {D : va_G} {cI cG cZ cJ : ClassId} {ts : Nat × Nat} {L : List Nat} {ad : Nat → Nat} {al : Nat} (hflag : l.stackTraces = false) (hT : ∀ x ∈ c.exceptionTable.toList, False) (hX : XW s) (hL : Lf L al) (X : FX RX6 wsX6_way cX6_way 3 (some .int) D cI cG cZ cJ ts L ad p s m args meth c) (a1 : Int32) (a2 : Int32) (Q : Int32 → St → Prop) (QX : String → St → Prop) (u : St) (H : Heap) (locs : List Loc) (ls : Array Slot) (h : f_X6_way al a1 a2 u Q QX) (hP : va_P D vwCl (cW cI cG L ad al u) H) (hS : va_S (cA L ad s.heap.size) s.heap H locs) (hl : lv_has ls 3 [(0, .ref (ad 0)), (1, .int a1), (2, .int a2)]) : W p l e (headSpec wsX6_way { frames := 7, cells := 3, slots := 18, locals := 114 }).room s m args below meth c H locs 0 0 (vx_MQ below (va_Qi Q (fun u9 t => va_P D vwCl (cW cI cG L ad al u9) t.heap) (cA L ad s.heap.size)) (vx_X (fun _ => True) (fun E u9 t => QX E u9 ∧ va_P D vwCl (cW cI cG L ad al u9) t.heap) (cA L ad s.heap.size)) args s 3 18 (cA L ad s.heap.size)) (F0 m 0 ls []) := by
  obtain ⟨hx, hb, hml, hown, hts, hr, hlocks, hwd, hC⟩ := id X
  have hK := hC.1
  have hout : ∀ (q : Nat), ∀ x ∈ c.exceptionTable.toList, covers x q = false := fun _ x hx => (hT x hx).elim
  have m0 : 0 ∈ L := hL 0 (by omega)
  obtain ⟨i0, hi0⟩ := wL_ix m0
  have m5 : 5 ∈ L := hL 5 (by omega)
  obtain ⟨i5, hi5⟩ := wL_ix m5
  have m7 : 7 ∈ L := hL 7 (by omega)
  obtain ⟨i7, hi7⟩ := wL_ix m7
  have m8 : 8 ∈ L := hL 8 (by omega)
  obtain ⟨i8, hi8⟩ := wL_ix m8
  have lk0 := hts (.fieldLink RX6 46 "FormForge" "walk" "LFormForge$Walk;") (by decide +kernel)
  have lk1 := hts (.fieldLink RX6 50 "FormForge" "degrees" "[I") (by decide +kernel)
  have lk2 := hts (.fieldLink RX6 54 "FormForge" "codes" "[I") (by decide +kernel)
  have n6 : ∀ w ∈ wsX60, w ∈ wsX6_way := by decide +kernel
  unfold f_X6_way at h
  refine lv_aload_n hx hb dX6_way_0 rfl (lv_at hl 0 rfl) ?_
  refine lv_iload_n hx hb dX6_way_1 rfl (lv_at hl 1 rfl) ?_
  refine cx_v (MC := 3) (MS := 18) (QX := QX) (vx_runV (C := RX6) (As := [.int a1]) (rest := []) ⟨hx, hb, hml, hown, hts⟩ (c_X6_checkForm hflag hL hwd H.size u a1 _ _ h) (cwV 1 hts gX6_way_X6_checkForm rfl rfl rfl (by decide +kernel) ⟨Nat.le_of_ble_eq_true rfl, Nat.le_of_ble_eq_true rfl⟩) (pcVX hC hX hP hS (cg_0 hi0) rfl) rfl rfl hl.1 rfl (lv_room (Nat.le_of_ble_eq_true rfl)) dX6_way_2 ⟨Nat.le_of_ble_eq_true rfl, Nat.le_of_ble_eq_true rfl⟩) hS (cA_mono hS.1) (hout _) hlocks (Nat.le_of_ble_eq_true rfl) (Nat.le_of_ble_eq_true rfl) (fun E u9 h9 => h9) (fun u1 H locs h hP hS => ?_)
  refine lv_aload_n hx hb dX6_way_5 rfl (lv_at hl 0 rfl) ?_
  refine lv_iload_n hx hb dX6_way_6 rfl (lv_at hl 2 rfl) ?_
  refine cx_v (MC := 3) (MS := 18) (QX := QX) (vx_runV (C := RX6) (As := [.int a2]) (rest := []) ⟨hx, hb, hml, hown, hts⟩ (c_X6_checkForm hflag hL hwd H.size u1 a2 _ _ h) (cwV 1 hts gX6_way_X6_checkForm rfl rfl rfl (by decide +kernel) ⟨Nat.le_of_ble_eq_true rfl, Nat.le_of_ble_eq_true rfl⟩) (pcVX hC hX hP hS (cg_0 hi0) rfl) rfl rfl hl.1 rfl (lv_room (Nat.le_of_ble_eq_true rfl)) dX6_way_7 ⟨Nat.le_of_ble_eq_true rfl, Nat.le_of_ble_eq_true rfl⟩) hS (cA_mono hS.1) (hout _) hlocks (Nat.le_of_ble_eq_true rfl) (Nat.le_of_ble_eq_true rfl) (fun E u9 h9 => h9) (fun u2 H locs h hP hS => ?_)
  refine lv_aload_n hx hb dX6_way_10 rfl (lv_at hl 0 rfl) ?_
  refine lv_iload_n hx hb dX6_way_11 rfl (lv_at hl 1 rfl) ?_
  refine lv_iload_n hx hb dX6_way_12 rfl (lv_at hl 2 rfl) ?_
  refine cx_v (MC := 3) (MS := 18) (QX := QX) (vx_runV (C := RX6) (As := [.int a1, .int a2]) (rest := []) ⟨hx, hb, hml, hown, hts⟩ (c_X6_checkAlike hflag hL hwd H.size u2 a1 a2 _ _ h) (cwV 2 hts gX6_way_X6_checkAlike rfl rfl rfl (by decide +kernel) ⟨Nat.le_of_ble_eq_true rfl, Nat.le_of_ble_eq_true rfl⟩) (pcVX hC hX hP hS (cg_0 hi0) rfl) rfl rfl hl.1 rfl (lv_room (Nat.le_of_ble_eq_true rfl)) dX6_way_13 ⟨Nat.le_of_ble_eq_true rfl, Nat.le_of_ble_eq_true rfl⟩) hS (cA_mono hS.1) (hout _) hlocks (Nat.le_of_ble_eq_true rfl) (Nat.le_of_ble_eq_true rfl) (fun E u9 h9 => h9) (fun u3 H locs h hP hS => ?_)
  refine lv_aload_n hx hb dX6_way_16 rfl (lv_at hl 0 rfl) ?_
  refine va_get (C := RX6) (T := TX6) (N := 12) hx hb hts n6 hown hK hP i0 (cg_0 hi0) rfl 4 (by decide) lk0 (fun _ h9 => h9) rfl dX6_way_17 ?_
  refine lv_aload_n hx hb dX6_way_20 rfl (lv_at hl 0 rfl) ?_
  refine va_get (C := RX6) (T := TX6) (N := 12) hx hb hts n6 hown hK hP i0 (cg_0 hi0) rfl 5 (by decide) lk1 (fun _ h9 => h9) rfl dX6_way_21 ?_
  refine lv_iload_n hx hb dX6_way_24 rfl (lv_at hl 1 rfl) ?_
  refine cc_i (va_runS (As := [.ref (ad 7), .int a1]) (rest := [.ref (ad 5)]) ⟨hx, hb, hml, hown, hts⟩ (c_X6_read hL.g (Or.inl ⟨by decide, by decide⟩) m7 hwd H.size u3 a1 _ h) (va_cwS 2 hts gX6_way_X6_read rfl rfl rfl (by decide +kernel) ⟨Nat.le_of_ble_eq_true rfl, Nat.le_of_ble_eq_true rfl⟩) (pcS hC hP hS) rfl rfl hl.1 rfl (lv_room (Nat.le_of_ble_eq_true rfl)) dX6_way_25 ⟨Nat.le_of_ble_eq_true rfl, Nat.le_of_ble_eq_true rfl⟩) hS (cA_mono hS.1) (fun v4 u5 H locs h hP hS => ?_)
  refine lv_aload_n hx hb dX6_way_28 rfl (lv_at hl 0 rfl) ?_
  refine va_get (C := RX6) (T := TX6) (N := 12) hx hb hts n6 hown hK hP i0 (cg_0 hi0) rfl 6 (by decide) lk2 (fun _ h9 => h9) rfl dX6_way_29 ?_
  refine lv_iload_n hx hb dX6_way_32 rfl (lv_at hl 1 rfl) ?_
  refine cc_i (va_runS (As := [.ref (ad 8), .int a1]) (rest := [.int v4, .ref (ad 5)]) ⟨hx, hb, hml, hown, hts⟩ (c_X6_read hL.g (Or.inl ⟨by decide, by decide⟩) m8 hwd H.size u5 a1 _ h) (va_cwS 2 hts gX6_way_X6_read rfl rfl rfl (by decide +kernel) ⟨Nat.le_of_ble_eq_true rfl, Nat.le_of_ble_eq_true rfl⟩) (pcS hC hP hS) rfl rfl hl.1 rfl (lv_room (Nat.le_of_ble_eq_true rfl)) dX6_way_33 ⟨Nat.le_of_ble_eq_true rfl, Nat.le_of_ble_eq_true rfl⟩) hS (cA_mono hS.1) (fun v6 u7 H locs h hP hS => ?_)
  refine cc_v (va_runV (C := RX5) (As := [.int v4, .int v6]) (rest := []) ⟨hx, hb, hml, hown, hts⟩ (c_X5_alone hL hwd H.size u7 v4 v6 _ h) (cwV 2 hts gX6_way_X5_alone rfl rfl rfl (by decide +kernel) ⟨Nat.le_of_ble_eq_true rfl, Nat.le_of_ble_eq_true rfl⟩) (pcV hC hP hS (cg_5 hi5) rfl) rfl rfl hl.1 rfl (lv_room (Nat.le_of_ble_eq_true rfl)) dX6_way_36 ⟨Nat.le_of_ble_eq_true rfl, Nat.le_of_ble_eq_true rfl⟩) hS (cA_mono hS.1) (fun u8 H locs h hP hS => ?_)
  refine lv_aload_n hx hb dX6_way_39 rfl (lv_at hl 0 rfl) ?_
  refine va_get (C := RX6) (T := TX6) (N := 12) hx hb hts n6 hown hK hP i0 (cg_0 hi0) rfl 4 (by decide) lk0 (fun _ h9 => h9) rfl dX6_way_40 ?_
  refine lv_aload_n hx hb dX6_way_43 rfl (lv_at hl 0 rfl) ?_
  refine va_get (C := RX6) (T := TX6) (N := 12) hx hb hts n6 hown hK hP i0 (cg_0 hi0) rfl 6 (by decide) lk2 (fun _ h9 => h9) rfl dX6_way_44 ?_
  refine lv_iload_n hx hb dX6_way_47 rfl (lv_at hl 2 rfl) ?_
  refine cc_i (va_runS (As := [.ref (ad 8), .int a2]) (rest := [.ref (ad 5)]) ⟨hx, hb, hml, hown, hts⟩ (c_X6_read hL.g (Or.inl ⟨by decide, by decide⟩) m8 hwd H.size u8 a2 _ h) (va_cwS 2 hts gX6_way_X6_read rfl rfl rfl (by decide +kernel) ⟨Nat.le_of_ble_eq_true rfl, Nat.le_of_ble_eq_true rfl⟩) (pcS hC hP hS) rfl rfl hl.1 rfl (lv_room (Nat.le_of_ble_eq_true rfl)) dX6_way_48 ⟨Nat.le_of_ble_eq_true rfl, Nat.le_of_ble_eq_true rfl⟩) hS (cA_mono hS.1) (fun v9 u10 H locs h hP hS => ?_)
  refine cc_i (va_runV (C := RX5) (As := [.int v9]) (rest := []) ⟨hx, hb, hml, hown, hts⟩ (c_X5_stepsTo hL hwd H.size u10 v9 _ h) (cwV 1 hts gX6_way_X5_stepsTo rfl rfl rfl (by decide +kernel) ⟨Nat.le_of_ble_eq_true rfl, Nat.le_of_ble_eq_true rfl⟩) (pcV hC hP hS (cg_5 hi5) rfl) rfl rfl hl.1 rfl (lv_room (Nat.le_of_ble_eq_true rfl)) dX6_way_51 ⟨Nat.le_of_ble_eq_true rfl, Nat.le_of_ble_eq_true rfl⟩) hS (cA_mono hS.1) (fun v11 u12 H locs h hP hS => ?_)
  refine W.widen (k := 3) (n := 18) (by decide) (by decide) ?_
  exact vx_ret (W.iret (v := v11) hx hb hr (fun t ht hW => ⟨⟨_, _, rfl, h, by show va_P _ _ _ t.heap; rw [ht]; exact hP⟩, hS.F ht⟩) hS.2.2 dX6_way_54)
set_option maxRecDepth 100000 in
set_option maxHeartbeats 4000000 in
theorem c_X6_way {l : Launch} {D : va_G} {cI cG cZ cJ : ClassId} {ts : Nat × Nat} {L : List Nat} {ad : Nat → Nat} {al : Nat} (hflag : l.stackTraces = false) (hL : Lf L al) (hwd : WD L ad) (sz : Nat) (u : St) (a1 : Int32) (a2 : Int32) (Q : Int32 → St → Prop) (QX : String → St → Prop) (h : f_X6_way al a1 a2 u Q QX) : vx_Met l yX6_way wsX6_way ({ frames := 7, cells := 3, slots := 18, locals := 114 }) (va_Pc [.ref (ad 0), .int a1, .int a2] (PCX D cI cG cZ cJ ts L ad al sz u)) (va_Qi Q (fun u9 t => va_P D vwCl (cW cI cG L ad al u9) t.heap) (cA L ad sz)) (vx_X (fun _ => True) (fun E u9 t => QX E u9 ∧ va_P D vwCl (cW cI cG L ad al u9) t.heap) (cA L ad sz)) 3 18 (cA L ad sz) := by
  refine vx_ofW (cc := cX6_way) (maxL := 3) (ret := (some .int)) (by decide) rfl ?_
  intro p e s m args below meth c s₁ B hml hT hv
  obtain ⟨rfl, ⟨hsz, hP, hC⟩, hX⟩ := hv
  subst hsz
  have X : FX RX6 wsX6_way cX6_way 3 (some .int) D cI cG cZ cJ ts L ad p s m _ meth c := ⟨B.exec, B.bytes, hml, findClass_of_methodNamed B.named, atoms_spec (ws := wsX6_way) B.pre, B.returns, B.notSynchronized, hwd, hC⟩
  have hl := lv_entry ([.ref (ad 0), .int a1, .int a2]) (n := 3) (Nat.le_of_ble_eq_true rfl)
  rw [lg_entry_eq]
  generalize (lg_sl ([.ref (ad 0), .int a1, .int a2]) ++ List.replicate (3 - (lg_sl ([.ref (ad 0), .int a1, .int a2])).length) Slot.unset).toArray = ls at hl ⊢
  exact w_X6_way hflag hT hX hL X a1 a2 Q QX u _ _ _ h hP va_S.rf hl
set_option maxRecDepth 100000 in
set_option maxHeartbeats 4000000 in
theorem w_X6_step {p : Program} {l : Launch} {e : Env} {s : State} {m : MethodId} {args : Array Value} {below : List Frame} {meth : Method} {c : Code} {D : va_G} {cI cG cZ cJ : ClassId} {ts : Nat × Nat} {L : List Nat} {ad : Nat → Nat} {al : Nat} (hflag : l.stackTraces = false) (hT : ∀ x ∈ c.exceptionTable.toList, False) (hX : XW s) (hL : Lf L al) (X : FX RX6 wsX6_step cX6_step 4 (some .int) D cI cG cZ cJ ts L ad p s m args meth c) (a1 : Int32) (a2 : Int32) (a3 : Int32) (Q : Int32 → St → Prop) (QX : String → St → Prop) (u : St) (H : Heap) (locs : List Loc) (ls : Array Slot) (h : f_X6_step al a1 a2 a3 u Q QX) (hP : va_P D vwCl (cW cI cG L ad al u) H) (hS : va_S (cA L ad s.heap.size) s.heap H locs) (hl : lv_has ls 4 [(0, .ref (ad 0)), (1, .int a1), (2, .int a2), (3, .int a3)]) : W p l e (headSpec wsX6_step { frames := 7, cells := 4, slots := 24, locals := 114 }).room s m args below meth c H locs 0 0 (vx_MQ below (va_Qi Q (fun u9 t => va_P D vwCl (cW cI cG L ad al u9) t.heap) (cA L ad s.heap.size)) (vx_X (fun _ => True) (fun E u9 t => QX E u9 ∧ va_P D vwCl (cW cI cG L ad al u9) t.heap) (cA L ad s.heap.size)) args s 4 24 (cA L ad s.heap.size)) (F0 m 0 ls []) := by
  obtain ⟨hx, hb, hml, hown, hts, hr, hlocks, hwd, hC⟩ := id X
  have hK := hC.1
  have hout : ∀ (q : Nat), ∀ x ∈ c.exceptionTable.toList, covers x q = false := fun _ x hx => (hT x hx).elim
  have m0 : 0 ∈ L := hL 0 (by omega)
  obtain ⟨i0, hi0⟩ := wL_ix m0
  have m5 : 5 ∈ L := hL 5 (by omega)
  obtain ⟨i5, hi5⟩ := wL_ix m5
  have m7 : 7 ∈ L := hL 7 (by omega)
  obtain ⟨i7, hi7⟩ := wL_ix m7
  have m8 : 8 ∈ L := hL 8 (by omega)
  obtain ⟨i8, hi8⟩ := wL_ix m8
  have lk0 := hts (.fieldLink RX6 46 "FormForge" "walk" "LFormForge$Walk;") (by decide +kernel)
  have lk1 := hts (.fieldLink RX6 50 "FormForge" "degrees" "[I") (by decide +kernel)
  have lk2 := hts (.fieldLink RX6 54 "FormForge" "codes" "[I") (by decide +kernel)
  have lk3 := hts (.classLink RX6 73 "java/lang/IllegalArgumentException") (by decide +kernel)
  have lk4 := hts (.initialized "java/lang/IllegalArgumentException") (by decide +kernel)
  have n6 : ∀ w ∈ wsX60, w ∈ wsX6_step := by decide +kernel
  obtain ⟨sa12, hs12⟩ := hC.2.2.1 _ (List.mem_of_getElem? (i := 12) rfl)
  unfold f_X6_step at h
  refine lv_aload_n hx hb dX6_step_0 rfl (lv_at hl 0 rfl) ?_
  refine lv_iload_n hx hb dX6_step_1 rfl (lv_at hl 1 rfl) ?_
  refine cx_v (MC := 4) (MS := 24) (QX := QX) (vx_runV (C := RX6) (As := [.int a1]) (rest := []) ⟨hx, hb, hml, hown, hts⟩ (c_X6_checkForm hflag hL hwd H.size u a1 _ _ h) (cwV 1 hts gX6_step_X6_checkForm rfl rfl rfl (by decide +kernel) ⟨Nat.le_of_ble_eq_true rfl, Nat.le_of_ble_eq_true rfl⟩) (pcVX hC hX hP hS (cg_0 hi0) rfl) rfl rfl hl.1 rfl (lv_room (Nat.le_of_ble_eq_true rfl)) dX6_step_2 ⟨Nat.le_of_ble_eq_true rfl, Nat.le_of_ble_eq_true rfl⟩) hS (cA_mono hS.1) (hout _) hlocks (Nat.le_of_ble_eq_true rfl) (Nat.le_of_ble_eq_true rfl) (fun E u9 h9 => h9) (fun u1 H locs h hP hS => ?_)
  refine lv_aload_n hx hb dX6_step_5 rfl (lv_at hl 0 rfl) ?_
  refine lv_iload_n hx hb dX6_step_6 rfl (lv_at hl 2 rfl) ?_
  refine cx_v (MC := 4) (MS := 24) (QX := QX) (vx_runV (C := RX6) (As := [.int a2]) (rest := []) ⟨hx, hb, hml, hown, hts⟩ (c_X6_checkForm hflag hL hwd H.size u1 a2 _ _ h) (cwV 1 hts gX6_step_X6_checkForm rfl rfl rfl (by decide +kernel) ⟨Nat.le_of_ble_eq_true rfl, Nat.le_of_ble_eq_true rfl⟩) (pcVX hC hX hP hS (cg_0 hi0) rfl) rfl rfl hl.1 rfl (lv_room (Nat.le_of_ble_eq_true rfl)) dX6_step_7 ⟨Nat.le_of_ble_eq_true rfl, Nat.le_of_ble_eq_true rfl⟩) hS (cA_mono hS.1) (hout _) hlocks (Nat.le_of_ble_eq_true rfl) (Nat.le_of_ble_eq_true rfl) (fun E u9 h9 => h9) (fun u2 H locs h hP hS => ?_)
  refine lv_aload_n hx hb dX6_step_10 rfl (lv_at hl 0 rfl) ?_
  refine lv_iload_n hx hb dX6_step_11 rfl (lv_at hl 1 rfl) ?_
  refine lv_iload_n hx hb dX6_step_12 rfl (lv_at hl 2 rfl) ?_
  refine cx_v (MC := 4) (MS := 24) (QX := QX) (vx_runV (C := RX6) (As := [.int a1, .int a2]) (rest := []) ⟨hx, hb, hml, hown, hts⟩ (c_X6_checkAlike hflag hL hwd H.size u2 a1 a2 _ _ h) (cwV 2 hts gX6_step_X6_checkAlike rfl rfl rfl (by decide +kernel) ⟨Nat.le_of_ble_eq_true rfl, Nat.le_of_ble_eq_true rfl⟩) (pcVX hC hX hP hS (cg_0 hi0) rfl) rfl rfl hl.1 rfl (lv_room (Nat.le_of_ble_eq_true rfl)) dX6_step_13 ⟨Nat.le_of_ble_eq_true rfl, Nat.le_of_ble_eq_true rfl⟩) hS (cA_mono hS.1) (hout _) hlocks (Nat.le_of_ble_eq_true rfl) (Nat.le_of_ble_eq_true rfl) (fun E u9 h9 => h9) (fun u3 H locs h hP hS => ?_)
  refine lv_iload_n hx hb dX6_step_16 rfl (lv_at hl 3 rfl) ?_
  refine lv_if_ge (tgt := 30) hx hb dX6_step_17 (by decide) (fun c4 => ?_) (fun c4 => ?_)
  · replace h := h.1 c4
    refine lv_aload_n hx hb dX6_step_30 rfl (lv_at hl 0 rfl) ?_
    refine va_get (C := RX6) (T := TX6) (N := 12) hx hb hts n6 hown hK hP i0 (cg_0 hi0) rfl 4 (by decide) lk0 (fun _ h9 => h9) rfl dX6_step_31 ?_
    refine lv_aload_n hx hb dX6_step_34 rfl (lv_at hl 0 rfl) ?_
    refine va_get (C := RX6) (T := TX6) (N := 12) hx hb hts n6 hown hK hP i0 (cg_0 hi0) rfl 5 (by decide) lk1 (fun _ h9 => h9) rfl dX6_step_35 ?_
    refine lv_iload_n hx hb dX6_step_38 rfl (lv_at hl 1 rfl) ?_
    refine cc_i (va_runS (As := [.ref (ad 7), .int a1]) (rest := [.ref (ad 5)]) ⟨hx, hb, hml, hown, hts⟩ (c_X6_read hL.g (Or.inl ⟨by decide, by decide⟩) m7 hwd H.size u3 a1 _ h) (va_cwS 2 hts gX6_step_X6_read rfl rfl rfl (by decide +kernel) ⟨Nat.le_of_ble_eq_true rfl, Nat.le_of_ble_eq_true rfl⟩) (pcS hC hP hS) rfl rfl hl.1 rfl (lv_room (Nat.le_of_ble_eq_true rfl)) dX6_step_39 ⟨Nat.le_of_ble_eq_true rfl, Nat.le_of_ble_eq_true rfl⟩) hS (cA_mono hS.1) (fun v5 u6 H locs h hP hS => ?_)
    refine lv_aload_n hx hb dX6_step_42 rfl (lv_at hl 0 rfl) ?_
    refine va_get (C := RX6) (T := TX6) (N := 12) hx hb hts n6 hown hK hP i0 (cg_0 hi0) rfl 6 (by decide) lk2 (fun _ h9 => h9) rfl dX6_step_43 ?_
    refine lv_iload_n hx hb dX6_step_46 rfl (lv_at hl 1 rfl) ?_
    refine cc_i (va_runS (As := [.ref (ad 8), .int a1]) (rest := [.int v5, .ref (ad 5)]) ⟨hx, hb, hml, hown, hts⟩ (c_X6_read hL.g (Or.inl ⟨by decide, by decide⟩) m8 hwd H.size u6 a1 _ h) (va_cwS 2 hts gX6_step_X6_read rfl rfl rfl (by decide +kernel) ⟨Nat.le_of_ble_eq_true rfl, Nat.le_of_ble_eq_true rfl⟩) (pcS hC hP hS) rfl rfl hl.1 rfl (lv_room (Nat.le_of_ble_eq_true rfl)) dX6_step_47 ⟨Nat.le_of_ble_eq_true rfl, Nat.le_of_ble_eq_true rfl⟩) hS (cA_mono hS.1) (fun v7 u8 H locs h hP hS => ?_)
    refine cc_v (va_runV (C := RX5) (As := [.int v5, .int v7]) (rest := []) ⟨hx, hb, hml, hown, hts⟩ (c_X5_alone hL hwd H.size u8 v5 v7 _ h) (cwV 2 hts gX6_step_X5_alone rfl rfl rfl (by decide +kernel) ⟨Nat.le_of_ble_eq_true rfl, Nat.le_of_ble_eq_true rfl⟩) (pcV hC hP hS (cg_5 hi5) rfl) rfl rfl hl.1 rfl (lv_room (Nat.le_of_ble_eq_true rfl)) dX6_step_50 ⟨Nat.le_of_ble_eq_true rfl, Nat.le_of_ble_eq_true rfl⟩) hS (cA_mono hS.1) (fun u9 H locs h hP hS => ?_)
    refine lv_aload_n hx hb dX6_step_53 rfl (lv_at hl 0 rfl) ?_
    refine va_get (C := RX6) (T := TX6) (N := 12) hx hb hts n6 hown hK hP i0 (cg_0 hi0) rfl 4 (by decide) lk0 (fun _ h9 => h9) rfl dX6_step_54 ?_
    refine lv_aload_n hx hb dX6_step_57 rfl (lv_at hl 0 rfl) ?_
    refine va_get (C := RX6) (T := TX6) (N := 12) hx hb hts n6 hown hK hP i0 (cg_0 hi0) rfl 6 (by decide) lk2 (fun _ h9 => h9) rfl dX6_step_58 ?_
    refine lv_iload_n hx hb dX6_step_61 rfl (lv_at hl 2 rfl) ?_
    refine cc_i (va_runS (As := [.ref (ad 8), .int a2]) (rest := [.ref (ad 5)]) ⟨hx, hb, hml, hown, hts⟩ (c_X6_read hL.g (Or.inl ⟨by decide, by decide⟩) m8 hwd H.size u9 a2 _ h) (va_cwS 2 hts gX6_step_X6_read rfl rfl rfl (by decide +kernel) ⟨Nat.le_of_ble_eq_true rfl, Nat.le_of_ble_eq_true rfl⟩) (pcS hC hP hS) rfl rfl hl.1 rfl (lv_room (Nat.le_of_ble_eq_true rfl)) dX6_step_62 ⟨Nat.le_of_ble_eq_true rfl, Nat.le_of_ble_eq_true rfl⟩) hS (cA_mono hS.1) (fun v10 u11 H locs h hP hS => ?_)
    refine lv_iload_n hx hb dX6_step_65 rfl (lv_at hl 3 rfl) ?_
    refine cc_i (va_runV (C := RX5) (As := [.int v10, .int a3]) (rest := []) ⟨hx, hb, hml, hown, hts⟩ (c_X5_stepOnWayTo hL hwd H.size u11 v10 a3 _ h) (cwV 2 hts gX6_step_X5_stepOnWayTo rfl rfl rfl (by decide +kernel) ⟨Nat.le_of_ble_eq_true rfl, Nat.le_of_ble_eq_true rfl⟩) (pcV hC hP hS (cg_5 hi5) rfl) rfl rfl hl.1 rfl (lv_room (Nat.le_of_ble_eq_true rfl)) dX6_step_66 ⟨Nat.le_of_ble_eq_true rfl, Nat.le_of_ble_eq_true rfl⟩) hS (cA_mono hS.1) (fun v12 u13 H locs h hP hS => ?_)
    refine W.widen (k := 4) (n := 24) (by decide) (by decide) ?_
    exact vx_ret (W.iret (v := v12) hx hb hr (fun t ht hW => ⟨⟨_, _, rfl, h, by show va_P _ _ _ t.heap; rw [ht]; exact hP⟩, hS.F ht⟩) hS.2.2 dX6_step_69)
  · replace h := h.2 c4
    exact vx_throwS hx hb hflag hown (by decide +kernel) (by decide +kernel) lk3 lk4 hs12 (hat_X6_step_77 hts hX) hgood_77 hC.2.2.2.1 hC.2.2.2.2.1 hS (hl.1.trans hml.symm) dX6_step_20 dX6_step_23 dX6_step_24 dX6_step_26 dX6_step_29 (hout _) (Nat.le_of_ble_eq_true rfl) (Nat.le_of_ble_eq_true rfl) (Nat.le_of_ble_eq_true rfl) (Nat.le_of_ble_eq_true rfl) hlocks (fun t ha hz hq => ⟨_, trivial, ⟨h, hP.kept (fun k q hk => hq _ (hP k q hk).lt)⟩, vaF_more hS hz hq⟩) hS.2.2 (by decide) (by decide)
set_option maxRecDepth 100000 in
set_option maxHeartbeats 4000000 in
theorem c_X6_step {l : Launch} {D : va_G} {cI cG cZ cJ : ClassId} {ts : Nat × Nat} {L : List Nat} {ad : Nat → Nat} {al : Nat} (hflag : l.stackTraces = false) (hL : Lf L al) (hwd : WD L ad) (sz : Nat) (u : St) (a1 : Int32) (a2 : Int32) (a3 : Int32) (Q : Int32 → St → Prop) (QX : String → St → Prop) (h : f_X6_step al a1 a2 a3 u Q QX) : vx_Met l yX6_step wsX6_step ({ frames := 7, cells := 4, slots := 24, locals := 114 }) (va_Pc [.ref (ad 0), .int a1, .int a2, .int a3] (PCX D cI cG cZ cJ ts L ad al sz u)) (va_Qi Q (fun u9 t => va_P D vwCl (cW cI cG L ad al u9) t.heap) (cA L ad sz)) (vx_X (fun _ => True) (fun E u9 t => QX E u9 ∧ va_P D vwCl (cW cI cG L ad al u9) t.heap) (cA L ad sz)) 4 24 (cA L ad sz) := by
  refine vx_ofW (cc := cX6_step) (maxL := 4) (ret := (some .int)) (by decide) rfl ?_
  intro p e s m args below meth c s₁ B hml hT hv
  obtain ⟨rfl, ⟨hsz, hP, hC⟩, hX⟩ := hv
  subst hsz
  have X : FX RX6 wsX6_step cX6_step 4 (some .int) D cI cG cZ cJ ts L ad p s m _ meth c := ⟨B.exec, B.bytes, hml, findClass_of_methodNamed B.named, atoms_spec (ws := wsX6_step) B.pre, B.returns, B.notSynchronized, hwd, hC⟩
  have hl := lv_entry ([.ref (ad 0), .int a1, .int a2, .int a3]) (n := 4) (Nat.le_of_ble_eq_true rfl)
  rw [lg_entry_eq]
  generalize (lg_sl ([.ref (ad 0), .int a1, .int a2, .int a3]) ++ List.replicate (4 - (lg_sl ([.ref (ad 0), .int a1, .int a2, .int a3])).length) Slot.unset).toArray = ls at hl ⊢
  exact w_X6_step hflag hT hX hL X a1 a2 a3 Q QX u _ _ _ h hP va_S.rf hl
set_option maxRecDepth 100000 in
set_option maxHeartbeats 4000000 in
theorem w_X6_orbits_L27 {p : Program} {l : Launch} {e : Env} {s : State} {m : MethodId} {args : Array Value} {below : List Frame} {meth : Method} {c : Code} {D : va_G} {cI cG cZ cJ : ClassId} {ts : Nat × Nat} {L : List Nat} {ad : Nat → Nat} {al : Nat} (hflag : l.stackTraces = false) (hT : ∀ x ∈ c.exceptionTable.toList, False) (hX : XW s) (hL : Lf L al) (X : FX RX6 wsX6_orbits cX6_orbits 5 (some .int) D cI cG cZ cJ ts L ad p s m args meth c) (a1 : Int32) (a2 : Int32) (Q : Int32 → St → Prop) (QX : String → St → Prop)
    (K0 : Int32 → St → Prop) (hk0 : ∀ (b3 : Int32) (u : St) (H : Heap) (locs : List Loc) (ls : Array Slot), K0 b3 u → va_P D vwCl (cW cI cG L ad al u) H → va_S (cA L ad s.heap.size) s.heap H locs → lv_has ls 5 [(3, .int b3)] → W p l e (headSpec wsX6_orbits { frames := 7, cells := 1, slots := 6, locals := 110 }).room s m args below meth c H locs 1 6 (vx_MQ below (va_Qi Q (fun u9 t => va_P D vwCl (cW cI cG L ad al u9) t.heap) (cA L ad s.heap.size)) (vx_X (fun _ => True) (fun E u9 t => QX E u9 ∧ va_P D vwCl (cW cI cG L ad al u9) t.heap) (cA L ad s.heap.size)) args s 1 6 (cA L ad s.heap.size)) (F0 m 64 ls []))
    : ∀ (n : Nat) (a3 : Int32) (a4 : Int32) (u : St) (H : Heap) (locs : List Loc) (ls : Array Slot), f_X6_orbits_L27 al a1 a2 Q QX K0 n a3 a4 u → va_P D vwCl (cW cI cG L ad al u) H → va_S (cA L ad s.heap.size) s.heap H locs → lv_has ls 5 [(0, .ref (ad 0)), (1, .int a1), (2, .int a2), (3, .int a3), (4, .int a4)] → W p l e (headSpec wsX6_orbits { frames := 7, cells := 1, slots := 6, locals := 110 }).room s m args below meth c H locs 1 6 (vx_MQ below (va_Qi Q (fun u9 t => va_P D vwCl (cW cI cG L ad al u9) t.heap) (cA L ad s.heap.size)) (vx_X (fun _ => True) (fun E u9 t => QX E u9 ∧ va_P D vwCl (cW cI cG L ad al u9) t.heap) (cA L ad s.heap.size)) args s 1 6 (cA L ad s.heap.size)) (F0 m 27 ls []) := by
  obtain ⟨hx, hb, hml, hown, hts, hr, hlocks, hwd, hC⟩ := id X
  have hK := hC.1
  have hout : ∀ (q : Nat), ∀ x ∈ c.exceptionTable.toList, covers x q = false := fun _ x hx => (hT x hx).elim
  have m0 : 0 ∈ L := hL 0 (by omega)
  obtain ⟨i0, hi0⟩ := wL_ix m0
  have m1 : 1 ∈ L := hL 1 (by omega)
  obtain ⟨i1, hi1⟩ := wL_ix m1
  have m5 : 5 ∈ L := hL 5 (by omega)
  obtain ⟨i5, hi5⟩ := wL_ix m5
  have lk0 := hts (.fieldLink RX6 14 "FormForge" "field" "LFormForge$Field;") (by decide +kernel)
  have lk1 := hts (.fieldLink RX6 46 "FormForge" "walk" "LFormForge$Walk;") (by decide +kernel)
  have n6 : ∀ w ∈ wsX60, w ∈ wsX6_orbits := by decide +kernel
  intro n
  induction n with
  | zero =>
    intro a3 a4 u H locs ls h; exact h.elim
  | succ n ih =>
    intro a3 a4 u H locs ls h hP hS hl
    replace h : f_X6_orbits_L27_s al a1 a2 Q QX K0 (f_X6_orbits_L27 al a1 a2 Q QX K0 n) a3 a4 u := h
    unfold f_X6_orbits_L27_s at h
    refine lv_iload hx hb dX6_orbits_27 (lv_at hl 4 rfl) ?_
    refine lv_iload_n hx hb dX6_orbits_29 rfl (lv_at hl 2 rfl) ?_
    refine lv_icmp_ge (tgt := 64) hx hb dX6_orbits_30 (by decide) (fun c5 => ?_) (fun c5 => ?_)
    · replace h := h.1 c5
      exact hk0 a3 _ _ _ _ h hP hS (lv_sub hl [3] rfl)
    · replace h := h.2 c5
      refine lv_aload_n hx hb dX6_orbits_33 rfl (lv_at hl 0 rfl) ?_
      refine va_get (C := RX6) (T := TX6) (N := 12) hx hb hts n6 hown hK hP i0 (cg_0 hi0) rfl 4 (by decide) lk1 (fun _ h9 => h9) rfl dX6_orbits_34 ?_
      refine lv_iload hx hb dX6_orbits_37 (lv_at hl 4 rfl) ?_
      refine cc_i (va_runV (C := RX5) (As := [.int a4]) (rest := []) ⟨hx, hb, hml, hown, hts⟩ (c_X5_met hL hwd H.size u a4 _ h) (cwV 1 hts gX6_orbits_X5_met rfl rfl rfl (by decide +kernel) ⟨Nat.le_of_ble_eq_true rfl, Nat.le_of_ble_eq_true rfl⟩) (pcV hC hP hS (cg_5 hi5) rfl) rfl rfl hl.1 rfl (lv_room (Nat.le_of_ble_eq_true rfl)) dX6_orbits_39 ⟨Nat.le_of_ble_eq_true rfl, Nat.le_of_ble_eq_true rfl⟩) hS (cA_mono hS.1) (fun v6 u7 H locs h hP hS => ?_)
      refine lv_if_ne (tgt := 58) hx hb dX6_orbits_42 (by decide) (fun c8 => ?_) (fun c8 => ?_)
      · replace h := h.1 c8
        obtain ⟨v9, ev9⟩ : ∃ y : Int32, y = a4 + 1 := ⟨_, rfl⟩
        refine lv_iinc (v := v9) (lv' := [(4, .int v9), (0, .ref (ad 0)), (1, .int a1), (2, .int a2), (3, .int a3)]) hx hb dX6_orbits_58 hl (k := 4) rfl (by rw [ev9]; rfl) (by decide) rfl (fun ls hl => ?_)
        replace h := h v9 ev9
        refine lv_goto (tgt := 27) hx hb dX6_orbits_61 (by decide) ?_
        exact ih a3 v9 _ _ _ _ h hP hS (lv_sub hl [1, 2, 3, 4, 0] rfl)
      · replace h := h.2 c8
        refine lv_aload_n hx hb dX6_orbits_45 rfl (lv_at hl 0 rfl) ?_
        refine va_get (C := RX6) (T := TX6) (N := 12) hx hb hts n6 hown hK hP i0 (cg_0 hi0) rfl 4 (by decide) lk1 (fun _ h9 => h9) rfl dX6_orbits_46 ?_
        refine lv_iload_n hx hb dX6_orbits_49 rfl (lv_at hl 1 rfl) ?_
        refine lv_iload hx hb dX6_orbits_50 (lv_at hl 4 rfl) ?_
        refine cc_v (va_runV (C := RX5) (As := [.int a1, .int a4]) (rest := []) ⟨hx, hb, hml, hown, hts⟩ (c_X5_go hL hwd H.size u7 a1 a4 _ h) (cwV 2 hts gX6_orbits_X5_go rfl rfl rfl (by decide +kernel) ⟨Nat.le_of_ble_eq_true rfl, Nat.le_of_ble_eq_true rfl⟩) (pcV hC hP hS (cg_5 hi5) rfl) rfl rfl hl.1 rfl (lv_room (Nat.le_of_ble_eq_true rfl)) dX6_orbits_52 ⟨Nat.le_of_ble_eq_true rfl, Nat.le_of_ble_eq_true rfl⟩) hS (cA_mono hS.1) (fun u10 H locs h hP hS => ?_)
        obtain ⟨v11, ev11⟩ : ∃ y : Int32, y = a3 + 1 := ⟨_, rfl⟩
        refine lv_iinc (v := v11) (lv' := [(3, .int v11), (0, .ref (ad 0)), (1, .int a1), (2, .int a2), (4, .int a4)]) hx hb dX6_orbits_55 hl (k := 3) rfl (by rw [ev11]; rfl) (by decide) rfl (fun ls hl => ?_)
        replace h := h v11 ev11
        obtain ⟨v12, ev12⟩ : ∃ y : Int32, y = a4 + 1 := ⟨_, rfl⟩
        refine lv_iinc (v := v12) (lv' := [(4, .int v12), (3, .int v11), (0, .ref (ad 0)), (1, .int a1), (2, .int a2)]) hx hb dX6_orbits_58 hl (k := 4) rfl (by rw [ev12]; rfl) (by decide) rfl (fun ls hl => ?_)
        replace h := h v12 ev12
        refine lv_goto (tgt := 27) hx hb dX6_orbits_61 (by decide) ?_
        exact ih v11 v12 _ _ _ _ h hP hS (lv_sub hl [2, 3, 4, 1, 0] rfl)
set_option maxRecDepth 100000 in
set_option maxHeartbeats 4000000 in
theorem w_X6_orbits {p : Program} {l : Launch} {e : Env} {s : State} {m : MethodId} {args : Array Value} {below : List Frame} {meth : Method} {c : Code} {D : va_G} {cI cG cZ cJ : ClassId} {ts : Nat × Nat} {L : List Nat} {ad : Nat → Nat} {al : Nat} (hflag : l.stackTraces = false) (hT : ∀ x ∈ c.exceptionTable.toList, False) (hX : XW s) (hL : Lf L al) (X : FX RX6 wsX6_orbits cX6_orbits 5 (some .int) D cI cG cZ cJ ts L ad p s m args meth c) (a1 : Int32) (Q : Int32 → St → Prop) (QX : String → St → Prop) (u : St) (H : Heap) (locs : List Loc) (ls : Array Slot) (h : f_X6_orbits al a1 u Q QX) (hP : va_P D vwCl (cW cI cG L ad al u) H) (hS : va_S (cA L ad s.heap.size) s.heap H locs) (hl : lv_has ls 5 [(0, .ref (ad 0)), (1, .int a1)]) : W p l e (headSpec wsX6_orbits { frames := 7, cells := 1, slots := 6, locals := 110 }).room s m args below meth c H locs 0 0 (vx_MQ below (va_Qi Q (fun u9 t => va_P D vwCl (cW cI cG L ad al u9) t.heap) (cA L ad s.heap.size)) (vx_X (fun _ => True) (fun E u9 t => QX E u9 ∧ va_P D vwCl (cW cI cG L ad al u9) t.heap) (cA L ad s.heap.size)) args s 1 6 (cA L ad s.heap.size)) (F0 m 0 ls []) := by
  obtain ⟨hx, hb, hml, hown, hts, hr, hlocks, hwd, hC⟩ := id X
  have hK := hC.1
  have hout : ∀ (q : Nat), ∀ x ∈ c.exceptionTable.toList, covers x q = false := fun _ x hx => (hT x hx).elim
  have m0 : 0 ∈ L := hL 0 (by omega)
  obtain ⟨i0, hi0⟩ := wL_ix m0
  have m1 : 1 ∈ L := hL 1 (by omega)
  obtain ⟨i1, hi1⟩ := wL_ix m1
  have m5 : 5 ∈ L := hL 5 (by omega)
  obtain ⟨i5, hi5⟩ := wL_ix m5
  have lk0 := hts (.fieldLink RX6 14 "FormForge" "field" "LFormForge$Field;") (by decide +kernel)
  have lk1 := hts (.fieldLink RX6 46 "FormForge" "walk" "LFormForge$Walk;") (by decide +kernel)
  have n6 : ∀ w ∈ wsX60, w ∈ wsX6_orbits := by decide +kernel
  unfold f_X6_orbits at h
  refine lv_iload_n hx hb dX6_orbits_0 rfl (lv_at hl 1 rfl) ?_
  refine cx_v (MC := 1) (MS := 6) (QX := QX) (vx_runS (As := [.int a1]) (rest := []) ⟨hx, hb, hml, hown, hts⟩ (c_X6_checkDegree hflag hL hwd H.size u a1 _ _ h) (va_cwS 1 hts gX6_orbits_X6_checkDegree rfl rfl rfl (by decide +kernel) ⟨Nat.le_of_ble_eq_true rfl, Nat.le_of_ble_eq_true rfl⟩) (pcSX hC hX hP hS) rfl rfl hl.1 rfl (lv_room (Nat.le_of_ble_eq_true rfl)) dX6_orbits_1 ⟨Nat.le_of_ble_eq_true rfl, Nat.le_of_ble_eq_true rfl⟩) hS (cA_mono hS.1) (hout _) hlocks (Nat.le_of_ble_eq_true rfl) (Nat.le_of_ble_eq_true rfl) (fun E u9 h9 => h9) (fun u1 H locs h hP hS => ?_)
  refine lv_aload_n hx hb dX6_orbits_4 rfl (lv_at hl 0 rfl) ?_
  refine va_get (C := RX6) (T := TX6) (N := 12) hx hb hts n6 hown hK hP i0 (cg_0 hi0) rfl 0 (by decide) lk0 (fun _ h9 => h9) rfl dX6_orbits_5 ?_
  refine lv_iload_n hx hb dX6_orbits_8 rfl (lv_at hl 1 rfl) ?_
  refine lv_iconst (v := 1) hx hb dX6_orbits_9 (by decide) ?_
  refine lv_iadd hx hb dX6_orbits_10 ?_
  refine cc_i (va_runV (C := RX2) (As := [.int (a1 + 1)]) (rest := []) ⟨hx, hb, hml, hown, hts⟩ (c_X2_howMany hL.g hwd H.size u1 (a1 + 1) _ h) (cwV 1 hts gX6_orbits_X2_howMany rfl rfl rfl (by decide +kernel) ⟨Nat.le_of_ble_eq_true rfl, Nat.le_of_ble_eq_true rfl⟩) (pcV hC hP hS (cg_1 hi1) rfl) rfl rfl hl.1 rfl (lv_room (Nat.le_of_ble_eq_true rfl)) dX6_orbits_11 ⟨Nat.le_of_ble_eq_true rfl, Nat.le_of_ble_eq_true rfl⟩) hS (cA_mono hS.1) (fun v2 u3 H locs h hP hS => ?_)
  refine lv_istore_n (lv' := [(2, .int v2), (0, .ref (ad 0)), (1, .int a1)]) hx hb dX6_orbits_14 rfl hl (by decide) rfl (fun ls hl => ?_)
  refine lv_iconst (v := 0) hx hb dX6_orbits_15 (by decide) ?_
  refine lv_istore_n (lv' := [(3, .int 0), (2, .int v2), (0, .ref (ad 0)), (1, .int a1)]) hx hb dX6_orbits_16 rfl hl (by decide) rfl (fun ls hl => ?_)
  refine lv_aload_n hx hb dX6_orbits_17 rfl (lv_at hl 2 rfl) ?_
  refine va_get (C := RX6) (T := TX6) (N := 12) hx hb hts n6 hown hK hP i0 (cg_0 hi0) rfl 4 (by decide) lk1 (fun _ h9 => h9) rfl dX6_orbits_18 ?_
  refine cc_v (va_runV (C := RX5) (As := []) (rest := []) ⟨hx, hb, hml, hown, hts⟩ (c_X5_clear hL hwd H.size u3 _ h) (cwV 0 hts gX6_orbits_X5_clear rfl rfl rfl (by decide +kernel) ⟨Nat.le_of_ble_eq_true rfl, Nat.le_of_ble_eq_true rfl⟩) (pcV hC hP hS (cg_5 hi5) rfl) rfl rfl hl.1 rfl (lv_room (Nat.le_of_ble_eq_true rfl)) dX6_orbits_21 ⟨Nat.le_of_ble_eq_true rfl, Nat.le_of_ble_eq_true rfl⟩) hS (cA_mono hS.1) (fun u4 H locs h hP hS => ?_)
  refine lv_iconst (v := 0) hx hb dX6_orbits_24 (by decide) ?_
  refine lv_istore (lv' := [(4, .int 0), (3, .int 0), (2, .int v2), (0, .ref (ad 0)), (1, .int a1)]) hx hb dX6_orbits_25 hl (by decide) rfl (fun ls hl => ?_)
  obtain ⟨n13, h⟩ := h
  refine w_X6_orbits_L27 hflag hT hX hL X a1 v2 _ _ _ (fun v14 u15 H locs ls h hP hS hl => ?_) n13 0 0 _ _ _ _ h hP hS (lv_sub hl [3, 4, 2, 1, 0] rfl)
  refine lv_iload_n hx hb dX6_orbits_64 rfl (lv_at hl 0 rfl) ?_
  refine W.widen (k := 1) (n := 6) (by decide) (by decide) ?_
  exact vx_ret (W.iret (v := v14) hx hb hr (fun t ht hW => ⟨⟨_, _, rfl, h, by show va_P _ _ _ t.heap; rw [ht]; exact hP⟩, hS.F ht⟩) hS.2.2 dX6_orbits_65)
set_option maxRecDepth 100000 in
set_option maxHeartbeats 4000000 in
theorem c_X6_orbits {l : Launch} {D : va_G} {cI cG cZ cJ : ClassId} {ts : Nat × Nat} {L : List Nat} {ad : Nat → Nat} {al : Nat} (hflag : l.stackTraces = false) (hL : Lf L al) (hwd : WD L ad) (sz : Nat) (u : St) (a1 : Int32) (Q : Int32 → St → Prop) (QX : String → St → Prop) (h : f_X6_orbits al a1 u Q QX) : vx_Met l yX6_orbits wsX6_orbits ({ frames := 7, cells := 1, slots := 6, locals := 110 }) (va_Pc [.ref (ad 0), .int a1] (PCX D cI cG cZ cJ ts L ad al sz u)) (va_Qi Q (fun u9 t => va_P D vwCl (cW cI cG L ad al u9) t.heap) (cA L ad sz)) (vx_X (fun _ => True) (fun E u9 t => QX E u9 ∧ va_P D vwCl (cW cI cG L ad al u9) t.heap) (cA L ad sz)) 1 6 (cA L ad sz) := by
  refine vx_ofW (cc := cX6_orbits) (maxL := 5) (ret := (some .int)) (by decide) rfl ?_
  intro p e s m args below meth c s₁ B hml hT hv
  obtain ⟨rfl, ⟨hsz, hP, hC⟩, hX⟩ := hv
  subst hsz
  have X : FX RX6 wsX6_orbits cX6_orbits 5 (some .int) D cI cG cZ cJ ts L ad p s m _ meth c := ⟨B.exec, B.bytes, hml, findClass_of_methodNamed B.named, atoms_spec (ws := wsX6_orbits) B.pre, B.returns, B.notSynchronized, hwd, hC⟩
  have hl := lv_entry ([.ref (ad 0), .int a1]) (n := 5) (Nat.le_of_ble_eq_true rfl)
  rw [lg_entry_eq]
  generalize (lg_sl ([.ref (ad 0), .int a1]) ++ List.replicate (5 - (lg_sl ([.ref (ad 0), .int a1])).length) Slot.unset).toArray = ls at hl ⊢
  exact w_X6_orbits hflag hT hX hL X a1 Q QX u _ _ _ h hP va_S.rf hl
set_option maxRecDepth 100000 in
set_option maxHeartbeats 4000000 in
theorem w_X6_orbitsAnew {p : Program} {l : Launch} {e : Env} {s : State} {m : MethodId} {args : Array Value} {below : List Frame} {meth : Method} {c : Code} {D : va_G} {cI cG cZ cJ : ClassId} {ts : Nat × Nat} {L : List Nat} {ad : Nat → Nat} {al : Nat} (hflag : l.stackTraces = false) (hT : ∀ x ∈ c.exceptionTable.toList, False) (hX : XW s) (hL : Lf L al) (X : FX RX6 wsX6_orbitsAnew cX6_orbitsAnew 2 (some .int) D cI cG cZ cJ ts L ad p s m args meth c) (a1 : Int32) (Q : Int32 → St → Prop) (QX : String → St → Prop) (u : St) (H : Heap) (locs : List Loc) (ls : Array Slot) (h : f_X6_orbitsAnew al a1 u Q QX) (hP : va_P D vwCl (cW cI cG L ad al u) H) (hS : va_S (cA L ad s.heap.size) s.heap H locs) (hl : lv_has ls 2 [(0, .ref (ad 0)), (1, .int a1)]) : W p l e (headSpec wsX6_orbitsAnew { frames := 7, cells := 1, slots := 6, locals := 138 }).room s m args below meth c H locs 0 0 (vx_MQ below (va_Qi Q (fun u9 t => va_P D vwCl (cW cI cG L ad al u9) t.heap) (cA L ad s.heap.size)) (vx_X (fun _ => True) (fun E u9 t => QX E u9 ∧ va_P D vwCl (cW cI cG L ad al u9) t.heap) (cA L ad s.heap.size)) args s 1 6 (cA L ad s.heap.size)) (F0 m 0 ls []) := by
  obtain ⟨hx, hb, hml, hown, hts, hr, hlocks, hwd, hC⟩ := id X
  have hK := hC.1
  have hout : ∀ (q : Nat), ∀ x ∈ c.exceptionTable.toList, covers x q = false := fun _ x hx => (hT x hx).elim
  have m0 : 0 ∈ L := hL 0 (by omega)
  obtain ⟨i0, hi0⟩ := wL_ix m0
  have m4 : 4 ∈ L := hL 4 (by omega)
  obtain ⟨i4, hi4⟩ := wL_ix m4
  have m12 : 12 ∈ L := hL 12 (by omega)
  obtain ⟨i12, hi12⟩ := wL_ix m12
  have lk0 := hts (.fieldLink RX6 66 "FormForge" "leftForms" "[I") (by decide +kernel)
  have lk1 := hts (.fieldLink RX6 37 "FormForge" "group" "LFormForge$Group;") (by decide +kernel)
  have lk2 := hts (.fieldLink RX6 177 "FormForge$Group" "size" "I") (by decide +kernel)
  have n4 : ∀ w ∈ wsX40, w ∈ wsX6_orbitsAnew := by decide +kernel
  have n6 : ∀ w ∈ wsX60, w ∈ wsX6_orbitsAnew := by decide +kernel
  unfold f_X6_orbitsAnew at h
  refine lv_iload_n hx hb dX6_orbitsAnew_0 rfl (lv_at hl 1 rfl) ?_
  refine cx_v (MC := 1) (MS := 6) (QX := QX) (vx_runS (As := [.int a1]) (rest := []) ⟨hx, hb, hml, hown, hts⟩ (c_X6_checkDegree hflag hL hwd H.size u a1 _ _ h) (va_cwS 1 hts gX6_orbitsAnew_X6_checkDegree rfl rfl rfl (by decide +kernel) ⟨Nat.le_of_ble_eq_true rfl, Nat.le_of_ble_eq_true rfl⟩) (pcSX hC hX hP hS) rfl rfl hl.1 rfl (lv_room (Nat.le_of_ble_eq_true rfl)) dX6_orbitsAnew_1 ⟨Nat.le_of_ble_eq_true rfl, Nat.le_of_ble_eq_true rfl⟩) hS (cA_mono hS.1) (hout _) hlocks (Nat.le_of_ble_eq_true rfl) (Nat.le_of_ble_eq_true rfl) (fun E u9 h9 => h9) (fun u1 H locs h hP hS => ?_)
  refine lv_aload_n hx hb dX6_orbitsAnew_4 rfl (lv_at hl 0 rfl) ?_
  refine va_get (C := RX6) (T := TX6) (N := 12) hx hb hts n6 hown hK hP i0 (cg_0 hi0) rfl 10 (by decide) lk0 (fun _ h9 => h9) rfl dX6_orbitsAnew_5 ?_
  refine lv_iload_n hx hb dX6_orbitsAnew_8 rfl (lv_at hl 1 rfl) ?_
  refine cc_i (va_runS (As := [.ref (ad 12), .int a1]) (rest := []) ⟨hx, hb, hml, hown, hts⟩ (c_X6_read hL.g (Or.inl ⟨by decide, by decide⟩) m12 hwd H.size u1 a1 _ h) (va_cwS 2 hts gX6_orbitsAnew_X6_read rfl rfl rfl (by decide +kernel) ⟨Nat.le_of_ble_eq_true rfl, Nat.le_of_ble_eq_true rfl⟩) (pcS hC hP hS) rfl rfl hl.1 rfl (lv_room (Nat.le_of_ble_eq_true rfl)) dX6_orbitsAnew_9 ⟨Nat.le_of_ble_eq_true rfl, Nat.le_of_ble_eq_true rfl⟩) hS (cA_mono hS.1) (fun v2 u3 H locs h hP hS => ?_)
  refine lv_if_ne (tgt := 28) hx hb dX6_orbitsAnew_12 (by decide) (fun c4 => ?_) (fun c4 => ?_)
  · replace h := h.1 c4
    refine lv_aload_n hx hb dX6_orbitsAnew_28 rfl (lv_at hl 0 rfl) ?_
    refine va_get (C := RX6) (T := TX6) (N := 12) hx hb hts n6 hown hK hP i0 (cg_0 hi0) rfl 3 (by decide) lk1 (fun _ h9 => h9) rfl dX6_orbitsAnew_29 ?_
    refine va_get (C := RX4) (T := TX4) (N := 6) hx hb hts n4 hown hK hP i4 (cg_4 hi4) rfl 5 (by decide) lk2 (fun _ h9 => h9) rfl dX6_orbitsAnew_32 ?_
    refine lv_if_le (tgt := 57) hx hb dX6_orbitsAnew_35 (by decide) (fun c5 => ?_) (fun c5 => ?_)
    · replace h := h.1 c5
      refine lv_iconst (v := 0) hx hb dX6_orbitsAnew_57 (by decide) ?_
      refine W.widen (k := 1) (n := 6) (by decide) (by decide) ?_
      exact vx_ret (W.iret (v := 0) hx hb hr (fun t ht hW => ⟨⟨_, _, rfl, h, by show va_P _ _ _ t.heap; rw [ht]; exact hP⟩, hS.F ht⟩) hS.2.2 dX6_orbitsAnew_58)
    · replace h := h.2 c5
      refine lv_aload_n hx hb dX6_orbitsAnew_38 rfl (lv_at hl 0 rfl) ?_
      refine va_get (C := RX6) (T := TX6) (N := 12) hx hb hts n6 hown hK hP i0 (cg_0 hi0) rfl 10 (by decide) lk0 (fun _ h9 => h9) rfl dX6_orbitsAnew_39 ?_
      refine lv_iload_n hx hb dX6_orbitsAnew_42 rfl (lv_at hl 1 rfl) ?_
      refine cc_i (va_runS (As := [.ref (ad 12), .int a1]) (rest := []) ⟨hx, hb, hml, hown, hts⟩ (c_X6_read hL.g (Or.inl ⟨by decide, by decide⟩) m12 hwd H.size u3 a1 _ h) (va_cwS 2 hts gX6_orbitsAnew_X6_read rfl rfl rfl (by decide +kernel) ⟨Nat.le_of_ble_eq_true rfl, Nat.le_of_ble_eq_true rfl⟩) (pcS hC hP hS) rfl rfl hl.1 rfl (lv_room (Nat.le_of_ble_eq_true rfl)) dX6_orbitsAnew_43 ⟨Nat.le_of_ble_eq_true rfl, Nat.le_of_ble_eq_true rfl⟩) hS (cA_mono hS.1) (fun v6 u7 H locs h hP hS => ?_)
      refine lv_aload_n hx hb dX6_orbitsAnew_46 rfl (lv_at hl 0 rfl) ?_
      refine va_get (C := RX6) (T := TX6) (N := 12) hx hb hts n6 hown hK hP i0 (cg_0 hi0) rfl 3 (by decide) lk1 (fun _ h9 => h9) rfl dX6_orbitsAnew_47 ?_
      refine va_get (C := RX4) (T := TX4) (N := 6) hx hb hts n4 hown hK hP i4 (cg_4 hi4) rfl 5 (by decide) lk2 (fun _ h9 => h9) rfl dX6_orbitsAnew_50 ?_
      refine lv_idiv hx hb dX6_orbitsAnew_53 h.1 ?_
      replace h := h.2
      refine lv_topi (fun v8 ev8 => ?_)
      replace h := h v8 ev8
      refine lv_goto (tgt := 58) hx hb dX6_orbitsAnew_54 (by decide) ?_
      refine W.widen (k := 1) (n := 6) (by decide) (by decide) ?_
      exact vx_ret (W.iret (v := v8) hx hb hr (fun t ht hW => ⟨⟨_, _, rfl, h, by show va_P _ _ _ t.heap; rw [ht]; exact hP⟩, hS.F ht⟩) hS.2.2 dX6_orbitsAnew_58)
  · replace h := h.2 c4
    refine lv_aload_n hx hb dX6_orbitsAnew_15 rfl (lv_at hl 0 rfl) ?_
    refine va_get (C := RX6) (T := TX6) (N := 12) hx hb hts n6 hown hK hP i0 (cg_0 hi0) rfl 10 (by decide) lk0 (fun _ h9 => h9) rfl dX6_orbitsAnew_16 ?_
    refine lv_iload_n hx hb dX6_orbitsAnew_19 rfl (lv_at hl 1 rfl) ?_
    refine lv_aload_n hx hb dX6_orbitsAnew_20 rfl (lv_at hl 0 rfl) ?_
    refine lv_iload_n hx hb dX6_orbitsAnew_21 rfl (lv_at hl 1 rfl) ?_
    refine cc_i (va_runV (C := RX6) (As := [.int a1]) (rest := [.int a1, .ref (ad 12)]) ⟨hx, hb, hml, hown, hts⟩ (c_X6_countLeftForms hL hwd H.size u3 a1 _ h) (cwV 1 hts gX6_orbitsAnew_X6_countLeftForms rfl rfl rfl (by decide +kernel) ⟨Nat.le_of_ble_eq_true rfl, Nat.le_of_ble_eq_true rfl⟩) (pcV hC hP hS (cg_0 hi0) rfl) rfl rfl hl.1 rfl (lv_room (Nat.le_of_ble_eq_true rfl)) dX6_orbitsAnew_22 ⟨Nat.le_of_ble_eq_true rfl, Nat.le_of_ble_eq_true rfl⟩) hS (cA_mono hS.1) (fun v9 u10 H locs h hP hS => ?_)
    refine cc_v (va_runS (As := [.ref (ad 12), .int a1, .int v9]) (rest := []) ⟨hx, hb, hml, hown, hts⟩ (c_X6_write hL.g (Or.inl ⟨by decide, by decide⟩) m12 hwd H.size u10 a1 v9 _ h) (va_cwS 3 hts gX6_orbitsAnew_X6_write rfl rfl rfl (by decide +kernel) ⟨Nat.le_of_ble_eq_true rfl, Nat.le_of_ble_eq_true rfl⟩) (pcS hC hP hS) rfl rfl hl.1 rfl (lv_room (Nat.le_of_ble_eq_true rfl)) dX6_orbitsAnew_25 ⟨Nat.le_of_ble_eq_true rfl, Nat.le_of_ble_eq_true rfl⟩) hS (cA_mono hS.1) (fun u11 H locs h hP hS => ?_)
    refine lv_aload_n hx hb dX6_orbitsAnew_28 rfl (lv_at hl 0 rfl) ?_
    refine va_get (C := RX6) (T := TX6) (N := 12) hx hb hts n6 hown hK hP i0 (cg_0 hi0) rfl 3 (by decide) lk1 (fun _ h9 => h9) rfl dX6_orbitsAnew_29 ?_
    refine va_get (C := RX4) (T := TX4) (N := 6) hx hb hts n4 hown hK hP i4 (cg_4 hi4) rfl 5 (by decide) lk2 (fun _ h9 => h9) rfl dX6_orbitsAnew_32 ?_
    refine lv_if_le (tgt := 57) hx hb dX6_orbitsAnew_35 (by decide) (fun c12 => ?_) (fun c12 => ?_)
    · replace h := h.1 c12
      refine lv_iconst (v := 0) hx hb dX6_orbitsAnew_57 (by decide) ?_
      refine W.widen (k := 1) (n := 6) (by decide) (by decide) ?_
      exact vx_ret (W.iret (v := 0) hx hb hr (fun t ht hW => ⟨⟨_, _, rfl, h, by show va_P _ _ _ t.heap; rw [ht]; exact hP⟩, hS.F ht⟩) hS.2.2 dX6_orbitsAnew_58)
    · replace h := h.2 c12
      refine lv_aload_n hx hb dX6_orbitsAnew_38 rfl (lv_at hl 0 rfl) ?_
      refine va_get (C := RX6) (T := TX6) (N := 12) hx hb hts n6 hown hK hP i0 (cg_0 hi0) rfl 10 (by decide) lk0 (fun _ h9 => h9) rfl dX6_orbitsAnew_39 ?_
      refine lv_iload_n hx hb dX6_orbitsAnew_42 rfl (lv_at hl 1 rfl) ?_
      refine cc_i (va_runS (As := [.ref (ad 12), .int a1]) (rest := []) ⟨hx, hb, hml, hown, hts⟩ (c_X6_read hL.g (Or.inl ⟨by decide, by decide⟩) m12 hwd H.size u11 a1 _ h) (va_cwS 2 hts gX6_orbitsAnew_X6_read rfl rfl rfl (by decide +kernel) ⟨Nat.le_of_ble_eq_true rfl, Nat.le_of_ble_eq_true rfl⟩) (pcS hC hP hS) rfl rfl hl.1 rfl (lv_room (Nat.le_of_ble_eq_true rfl)) dX6_orbitsAnew_43 ⟨Nat.le_of_ble_eq_true rfl, Nat.le_of_ble_eq_true rfl⟩) hS (cA_mono hS.1) (fun v13 u14 H locs h hP hS => ?_)
      refine lv_aload_n hx hb dX6_orbitsAnew_46 rfl (lv_at hl 0 rfl) ?_
      refine va_get (C := RX6) (T := TX6) (N := 12) hx hb hts n6 hown hK hP i0 (cg_0 hi0) rfl 3 (by decide) lk1 (fun _ h9 => h9) rfl dX6_orbitsAnew_47 ?_
      refine va_get (C := RX4) (T := TX4) (N := 6) hx hb hts n4 hown hK hP i4 (cg_4 hi4) rfl 5 (by decide) lk2 (fun _ h9 => h9) rfl dX6_orbitsAnew_50 ?_
      refine lv_idiv hx hb dX6_orbitsAnew_53 h.1 ?_
      replace h := h.2
      refine lv_topi (fun v15 ev15 => ?_)
      replace h := h v15 ev15
      refine lv_goto (tgt := 58) hx hb dX6_orbitsAnew_54 (by decide) ?_
      refine W.widen (k := 1) (n := 6) (by decide) (by decide) ?_
      exact vx_ret (W.iret (v := v15) hx hb hr (fun t ht hW => ⟨⟨_, _, rfl, h, by show va_P _ _ _ t.heap; rw [ht]; exact hP⟩, hS.F ht⟩) hS.2.2 dX6_orbitsAnew_58)
set_option maxRecDepth 100000 in
set_option maxHeartbeats 4000000 in
theorem c_X6_orbitsAnew {l : Launch} {D : va_G} {cI cG cZ cJ : ClassId} {ts : Nat × Nat} {L : List Nat} {ad : Nat → Nat} {al : Nat} (hflag : l.stackTraces = false) (hL : Lf L al) (hwd : WD L ad) (sz : Nat) (u : St) (a1 : Int32) (Q : Int32 → St → Prop) (QX : String → St → Prop) (h : f_X6_orbitsAnew al a1 u Q QX) : vx_Met l yX6_orbitsAnew wsX6_orbitsAnew ({ frames := 7, cells := 1, slots := 6, locals := 138 }) (va_Pc [.ref (ad 0), .int a1] (PCX D cI cG cZ cJ ts L ad al sz u)) (va_Qi Q (fun u9 t => va_P D vwCl (cW cI cG L ad al u9) t.heap) (cA L ad sz)) (vx_X (fun _ => True) (fun E u9 t => QX E u9 ∧ va_P D vwCl (cW cI cG L ad al u9) t.heap) (cA L ad sz)) 1 6 (cA L ad sz) := by
  refine vx_ofW (cc := cX6_orbitsAnew) (maxL := 2) (ret := (some .int)) (by decide) rfl ?_
  intro p e s m args below meth c s₁ B hml hT hv
  obtain ⟨rfl, ⟨hsz, hP, hC⟩, hX⟩ := hv
  subst hsz
  have X : FX RX6 wsX6_orbitsAnew cX6_orbitsAnew 2 (some .int) D cI cG cZ cJ ts L ad p s m _ meth c := ⟨B.exec, B.bytes, hml, findClass_of_methodNamed B.named, atoms_spec (ws := wsX6_orbitsAnew) B.pre, B.returns, B.notSynchronized, hwd, hC⟩
  have hl := lv_entry ([.ref (ad 0), .int a1]) (n := 2) (Nat.le_of_ble_eq_true rfl)
  rw [lg_entry_eq]
  generalize (lg_sl ([.ref (ad 0), .int a1]) ++ List.replicate (2 - (lg_sl ([.ref (ad 0), .int a1])).length) Slot.unset).toArray = ls at hl ⊢
  exact w_X6_orbitsAnew hflag hT hX hL X a1 Q QX u _ _ _ h hP va_S.rf hl
