/-- what generator ends with -/
def QY (L : List Nat) (ad : Nat → Nat) (sz : Nat) (Q : Nat → Int32 → St → Prop) (r : Int32) (z : ZT) : Prop := XT L ad sz z.2.1 z.1 z.2.2.1 ∧ Q z.2.2.1 r z.2.2.2
set_option maxRecDepth 100000 in
set_option maxHeartbeats 4000000 in
theorem w_X6_genEnd {p : Program} {l : Launch} {e : Env} {s : State} {m : MethodId} {args : Array Value} {below : List Frame} {meth : Method} {c : Code} {D : va_G} {cI cG cZ cJ : ClassId} {ts : Nat × Nat} {L : List Nat} {ad : Nat → Nat} {al : Nat} {L0 : List Nat} {ad0 : Nat → Nat} {XC9 : String → State → State → Prop} (hXT : XT L0 ad0 s.heap.size L ad al) (X : FX RX6 wsX6_generator cX6_generator 5 (some .int) D cI cG cZ cJ ts L ad p s m args meth c) (a1 a2 a3 a4 : Int32) (Q : Nat → Int32 → St → Prop) (u : St) (H : Heap) (locs : List Loc) (ls : Array Slot) (h : f_J7_fill_53178 12 0 u (fun u12 => Q al ((u12 0 4) - 1) u12)) (hP : va_P D vwCl (cW cI cG L ad al u) H) (hS : va_S (cA L ad s.heap.size) s.heap H locs) (hl : lv_has ls 5 [(0, .ref (ad 0)), (1, .int a1), (2, .int a2), (3, .int a3), (4, .int a4)]) : W p l e (headSpec wsX6_generator { frames := 6, cells := 2, slots := 3902, locals := 148 }).room s m args below meth c H locs 2 3902 (vx_MQ below (va_Qi (QY L0 ad0 s.heap.size Q) (BZ D cI cG) (cA L0 ad0 s.heap.size)) XC9 args s 2 3902 (cA L0 ad0 s.heap.size)) (F0 m 120 ls []) := by
  obtain ⟨hx, hb, hml, hown, hts, hr, hlocks, hwd, hC⟩ := id X
  have hK := hC.1
  have hL := hXT.2.1
  obtain ⟨i0, hi0⟩ := wL_ix (hL 0 (by omega))
  obtain ⟨i4, hi4⟩ := wL_ix (hL 4 (by omega))
  have lk0 := hts (.fieldLink RX6 14 "FormForge" "field" "LFormForge$Field;") (by decide +kernel)
  have lk1 := hts (.classLink RX6 73 "java/lang/IllegalArgumentException") (by decide +kernel)
  have lk2 := hts (.initialized "java/lang/IllegalArgumentException") (by decide +kernel)
  have lk3 := hts (.classLink RX6 102 "java/lang/IllegalStateException") (by decide +kernel)
  have lk4 := hts (.initialized "java/lang/IllegalStateException") (by decide +kernel)
  have lk5 := hts (.fieldLink RX6 37 "FormForge" "group" "LFormForge$Group;") (by decide +kernel)
  have lk6 := hts (.fieldLink RX6 170 "FormForge$Group" "told" "I") (by decide +kernel)
  have lk7 := hts (.fieldLink RX6 23 "FormForge" "columns" "LFormForge$Columns;") (by decide +kernel)
  have lk8 := hts (.fieldLink RX6 66 "FormForge" "leftForms" "[I") (by decide +kernel)
  have n6 : ∀ w ∈ wsX60, w ∈ wsX6_generator := by decide +kernel
  have n4 : ∀ w ∈ wsX40, w ∈ wsX6_generator := by decide +kernel
  refine lv_aload_n hx hb dX6_generator_120 rfl (lv_at hl 0 rfl) ?_
  refine va_get (C := RX6) (T := TX6) (N := 12) hx hb hts n6 hown hK hP i0 (cg_0 hi0) rfl 10 (by decide) lk8 (fun _ h9 => h9) rfl dX6_generator_121 ?_
  refine lv_iconst (v := 0) hx hb dX6_generator_124 (by decide) ?_
  refine cc_v (va_runS (As := [.ref (ad 12), .int 0]) (rest := []) ⟨hx, hb, hml, hown, hts⟩ (c_J7_fill_53178 hL.g (Or.inl ⟨by decide, by decide⟩) (hL 12 (by omega)) hwd H.size u 0 _ h) (va_cwS 2 hts gX6_generator_J7_fill_53178 rfl rfl rfl (by decide +kernel) ⟨Nat.le_of_ble_eq_true rfl, Nat.le_of_ble_eq_true rfl⟩) (pcS hC hP hS) rfl rfl hl.1 rfl (lv_room (Nat.le_of_ble_eq_true rfl)) dX6_generator_125 ⟨Nat.le_of_ble_eq_true rfl, Nat.le_of_ble_eq_true rfl⟩) hS (cA_mono hS.1) (fun u12 H locs h hP hS => ?_)
  refine lv_aload_n hx hb dX6_generator_128 rfl (lv_at hl 0 rfl) ?_
  refine va_get (C := RX6) (T := TX6) (N := 12) hx hb hts n6 hown hK hP i0 (cg_0 hi0) rfl 3 (by decide) lk5 (fun _ h9 => h9) rfl dX6_generator_129 ?_
  refine va_get (C := RX4) (T := TX4) (N := 6) hx hb hts n4 hown hK hP i4 (cg_4 hi4) rfl 4 (by decide) lk6 (fun _ h9 => h9) rfl dX6_generator_132 ?_
  refine lv_iconst (v := 1) hx hb dX6_generator_135 (by decide) ?_
  refine lv_isub hx hb dX6_generator_136 ?_
  have hS : va_S (cA L0 ad0 s.heap.size) s.heap H locs := by rw [← hXT.2.2.2.1]; exact hS
  exact vx_ret (W.iret (v := u12 0 4 - 1) hx hb hr (fun t ht hW => ⟨⟨_, (ad, L, al, u12), rfl, ⟨hXT, h⟩, by show va_P _ _ _ t.heap; rw [ht]; exact hP⟩, hS.F ht⟩) hS.2.2 dX6_generator_137)
set_option maxRecDepth 100000 in
set_option maxHeartbeats 4000000 in
theorem w_X6_generator {p : Program} {l : Launch} {e : Env} {s : State} {m : MethodId} {args : Array Value} {below : List Frame} {meth : Method} {c : Code} {D : va_G} {cI cG cZ cJ : ClassId} {ts : Nat × Nat} {L : List Nat} {ad : Nat → Nat} {al : Nat} (hflag : l.stackTraces = false) (hT : ∀ x ∈ c.exceptionTable.toList, False) (hX : XW s) (hL : Lf L al) (hLb : Lb L al) (X : FX RX6 wsX6_generator cX6_generator 5 (some .int) D cI cG cZ cJ ts L ad p s m args meth c) (a1 a2 a3 a4 : Int32) (Q : Nat → Int32 → St → Prop) (QX : String → St → Prop) (u : St) (H : Heap) (locs : List Loc) (ls : Array Slot) (h : f_X6_generator al a1 a2 a3 a4 u Q QX) (hP : va_P D vwCl (cW cI cG L ad al u) H) (hS : va_S (cA L ad s.heap.size) s.heap H locs) (hl : lv_has ls 5 [(0, .ref (ad 0)), (1, .int a1), (2, .int a2), (3, .int a3), (4, .int a4)]) : W p l e (headSpec wsX6_generator { frames := 6, cells := 2, slots := 3902, locals := 148 }).room s m args below meth c H locs 0 0 (vx_MQ below (va_Qi (QY L ad s.heap.size Q) (BZ D cI cG) (cA L ad s.heap.size)) (vx_X (fun _ => True) (fun E u9 t => QX E u9 ∧ va_P D vwCl (cW cI cG L ad al u9) t.heap) (cA L ad s.heap.size)) args s 2 3902 (cA L ad s.heap.size)) (F0 m 0 ls []) := by
  obtain ⟨hx, hb, hml, hown, hts, hr, hlocks, hwd, hC⟩ := id X
  have hK := hC.1
  have hout : ∀ (q : Nat), ∀ x ∈ c.exceptionTable.toList, covers x q = false := fun _ x hx => (hT x hx).elim
  obtain ⟨i0, hi0⟩ := wL_ix (hL 0 (by omega))
  obtain ⟨i1, hi1⟩ := wL_ix (hL 1 (by omega))
  obtain ⟨i4, hi4⟩ := wL_ix (hL 4 (by omega))
  have lk0 := hts (.fieldLink RX6 14 "FormForge" "field" "LFormForge$Field;") (by decide +kernel)
  have lk1 := hts (.classLink RX6 73 "java/lang/IllegalArgumentException") (by decide +kernel)
  have lk2 := hts (.initialized "java/lang/IllegalArgumentException") (by decide +kernel)
  have lk3 := hts (.classLink RX6 102 "java/lang/IllegalStateException") (by decide +kernel)
  have lk4 := hts (.initialized "java/lang/IllegalStateException") (by decide +kernel)
  have lk5 := hts (.fieldLink RX6 37 "FormForge" "group" "LFormForge$Group;") (by decide +kernel)
  have lk6 := hts (.fieldLink RX6 170 "FormForge$Group" "told" "I") (by decide +kernel)
  have lk7 := hts (.fieldLink RX6 23 "FormForge" "columns" "LFormForge$Columns;") (by decide +kernel)
  have lk8 := hts (.fieldLink RX6 66 "FormForge" "leftForms" "[I") (by decide +kernel)
  have n6 : ∀ w ∈ wsX60, w ∈ wsX6_generator := by decide +kernel
  have n4 : ∀ w ∈ wsX40, w ∈ wsX6_generator := by decide +kernel
  obtain ⟨sa6, hs6⟩ := hC.2.2.1 _ (List.mem_of_getElem? (i := 6) rfl)
  obtain ⟨sa7, hs7⟩ := hC.2.2.1 _ (List.mem_of_getElem? (i := 7) rfl)
  obtain ⟨sa8, hs8⟩ := hC.2.2.1 _ (List.mem_of_getElem? (i := 8) rfl)
  unfold f_X6_generator at h
  refine lv_aload_n hx hb dX6_generator_0 rfl (lv_at hl 0 rfl) ?_
  refine va_get (C := RX6) (T := TX6) (N := 12) hx hb hts n6 hown hK hP i0 (cg_0 hi0) rfl 0 (by decide) lk0 (fun _ h9 => h9) rfl dX6_generator_1 ?_
  refine lv_iload_n hx hb dX6_generator_4 rfl (lv_at hl 1 rfl) ?_
  refine cc_i (va_runV (C := RX2) (As := [.int a1]) (rest := []) ⟨hx, hb, hml, hown, hts⟩ (c_X2_has hL hwd H.size u a1 _ h) (cwV 1 hts gX6_generator_X2_has rfl rfl rfl (by decide +kernel) ⟨Nat.le_of_ble_eq_true rfl, Nat.le_of_ble_eq_true rfl⟩) (pcV hC hP hS (cg_1 hi1) rfl) rfl rfl hl.1 rfl (lv_room (Nat.le_of_ble_eq_true rfl)) dX6_generator_5 ⟨Nat.le_of_ble_eq_true rfl, Nat.le_of_ble_eq_true rfl⟩) hS (cA_mono hS.1) (fun v1 u1 H locs h hP hS => ?_)
  refine lv_if_eq (tgt := 45) hx hb dX6_generator_8 (by decide) (fun c1 => ?_) (fun c1 => ?_)
  · replace h := h.1 c1
    exact vx_throwS hx hb hflag hown (by decide +kernel) (by decide +kernel) lk1 lk2 hs6 (hat_X6_generator_77 hts hX) hgood_77 hC.2.2.2.1 hC.2.2.2.2.1 hS (hl.1.trans hml.symm) dX6_generator_45 dX6_generator_48 dX6_generator_49 dX6_generator_51 dX6_generator_54 (hout _) (Nat.le_of_ble_eq_true rfl) (Nat.le_of_ble_eq_true rfl) (Nat.le_of_ble_eq_true rfl) (Nat.le_of_ble_eq_true rfl) hlocks (fun t ha hz hq => ⟨_, trivial, ⟨h, hP.kept (fun k q hk => hq _ (hP k q hk).lt)⟩, vaF_more hS hz hq⟩) hS.2.2 (Nat.le_of_ble_eq_true rfl) (Nat.le_of_ble_eq_true rfl)
  replace h := h.2 c1
  refine lv_aload_n hx hb dX6_generator_11 rfl (lv_at hl 0 rfl) ?_
  refine va_get (C := RX6) (T := TX6) (N := 12) hx hb hts n6 hown hK hP i0 (cg_0 hi0) rfl 0 (by decide) lk0 (fun _ h9 => h9) rfl dX6_generator_12 ?_
  refine lv_iload_n hx hb dX6_generator_15 rfl (lv_at hl 2 rfl) ?_
  refine cc_i (va_runV (C := RX2) (As := [.int a2]) (rest := []) ⟨hx, hb, hml, hown, hts⟩ (c_X2_has hL hwd H.size u1 a2 _ h) (cwV 1 hts gX6_generator_X2_has rfl rfl rfl (by decide +kernel) ⟨Nat.le_of_ble_eq_true rfl, Nat.le_of_ble_eq_true rfl⟩) (pcV hC hP hS (cg_1 hi1) rfl) rfl rfl hl.1 rfl (lv_room (Nat.le_of_ble_eq_true rfl)) dX6_generator_16 ⟨Nat.le_of_ble_eq_true rfl, Nat.le_of_ble_eq_true rfl⟩) hS (cA_mono hS.1) (fun v2 u2 H locs h hP hS => ?_)
  refine lv_if_eq (tgt := 45) hx hb dX6_generator_19 (by decide) (fun c2 => ?_) (fun c2 => ?_)
  · replace h := h.1 c2
    exact vx_throwS hx hb hflag hown (by decide +kernel) (by decide +kernel) lk1 lk2 hs6 (hat_X6_generator_77 hts hX) hgood_77 hC.2.2.2.1 hC.2.2.2.2.1 hS (hl.1.trans hml.symm) dX6_generator_45 dX6_generator_48 dX6_generator_49 dX6_generator_51 dX6_generator_54 (hout _) (Nat.le_of_ble_eq_true rfl) (Nat.le_of_ble_eq_true rfl) (Nat.le_of_ble_eq_true rfl) (Nat.le_of_ble_eq_true rfl) hlocks (fun t ha hz hq => ⟨_, trivial, ⟨h, hP.kept (fun k q hk => hq _ (hP k q hk).lt)⟩, vaF_more hS hz hq⟩) hS.2.2 (Nat.le_of_ble_eq_true rfl) (Nat.le_of_ble_eq_true rfl)
  replace h := h.2 c2
  refine lv_aload_n hx hb dX6_generator_22 rfl (lv_at hl 0 rfl) ?_
  refine va_get (C := RX6) (T := TX6) (N := 12) hx hb hts n6 hown hK hP i0 (cg_0 hi0) rfl 0 (by decide) lk0 (fun _ h9 => h9) rfl dX6_generator_23 ?_
  refine lv_iload_n hx hb dX6_generator_26 rfl (lv_at hl 3 rfl) ?_
  refine cc_i (va_runV (C := RX2) (As := [.int a3]) (rest := []) ⟨hx, hb, hml, hown, hts⟩ (c_X2_has hL hwd H.size u2 a3 _ h) (cwV 1 hts gX6_generator_X2_has rfl rfl rfl (by decide +kernel) ⟨Nat.le_of_ble_eq_true rfl, Nat.le_of_ble_eq_true rfl⟩) (pcV hC hP hS (cg_1 hi1) rfl) rfl rfl hl.1 rfl (lv_room (Nat.le_of_ble_eq_true rfl)) dX6_generator_27 ⟨Nat.le_of_ble_eq_true rfl, Nat.le_of_ble_eq_true rfl⟩) hS (cA_mono hS.1) (fun v3 u3 H locs h hP hS => ?_)
  refine lv_if_eq (tgt := 45) hx hb dX6_generator_30 (by decide) (fun c3 => ?_) (fun c3 => ?_)
  · replace h := h.1 c3
    exact vx_throwS hx hb hflag hown (by decide +kernel) (by decide +kernel) lk1 lk2 hs6 (hat_X6_generator_77 hts hX) hgood_77 hC.2.2.2.1 hC.2.2.2.2.1 hS (hl.1.trans hml.symm) dX6_generator_45 dX6_generator_48 dX6_generator_49 dX6_generator_51 dX6_generator_54 (hout _) (Nat.le_of_ble_eq_true rfl) (Nat.le_of_ble_eq_true rfl) (Nat.le_of_ble_eq_true rfl) (Nat.le_of_ble_eq_true rfl) hlocks (fun t ha hz hq => ⟨_, trivial, ⟨h, hP.kept (fun k q hk => hq _ (hP k q hk).lt)⟩, vaF_more hS hz hq⟩) hS.2.2 (Nat.le_of_ble_eq_true rfl) (Nat.le_of_ble_eq_true rfl)
  replace h := h.2 c3
  refine lv_aload_n hx hb dX6_generator_33 rfl (lv_at hl 0 rfl) ?_
  refine va_get (C := RX6) (T := TX6) (N := 12) hx hb hts n6 hown hK hP i0 (cg_0 hi0) rfl 0 (by decide) lk0 (fun _ h9 => h9) rfl dX6_generator_34 ?_
  refine lv_iload hx hb dX6_generator_37 (lv_at hl 4 rfl) ?_
  refine cc_i (va_runV (C := RX2) (As := [.int a4]) (rest := []) ⟨hx, hb, hml, hown, hts⟩ (c_X2_has hL hwd H.size u3 a4 _ h) (cwV 1 hts gX6_generator_X2_has rfl rfl rfl (by decide +kernel) ⟨Nat.le_of_ble_eq_true rfl, Nat.le_of_ble_eq_true rfl⟩) (pcV hC hP hS (cg_1 hi1) rfl) rfl rfl hl.1 rfl (lv_room (Nat.le_of_ble_eq_true rfl)) dX6_generator_39 ⟨Nat.le_of_ble_eq_true rfl, Nat.le_of_ble_eq_true rfl⟩) hS (cA_mono hS.1) (fun v4 u4 H locs h hP hS => ?_)
  refine lv_if_ne (tgt := 55) hx hb dX6_generator_42 (by decide) (fun c4 => ?_) (fun c4 => ?_)
  rotate_left
  · replace h := h.1 c4
    exact vx_throwS hx hb hflag hown (by decide +kernel) (by decide +kernel) lk1 lk2 hs6 (hat_X6_generator_77 hts hX) hgood_77 hC.2.2.2.1 hC.2.2.2.2.1 hS (hl.1.trans hml.symm) dX6_generator_45 dX6_generator_48 dX6_generator_49 dX6_generator_51 dX6_generator_54 (hout _) (Nat.le_of_ble_eq_true rfl) (Nat.le_of_ble_eq_true rfl) (Nat.le_of_ble_eq_true rfl) (Nat.le_of_ble_eq_true rfl) hlocks (fun t ha hz hq => ⟨_, trivial, ⟨h, hP.kept (fun k q hk => hq _ (hP k q hk).lt)⟩, vaF_more hS hz hq⟩) hS.2.2 (Nat.le_of_ble_eq_true rfl) (Nat.le_of_ble_eq_true rfl)
  replace h := h.2 c4
  refine lv_aload_n hx hb dX6_generator_55 rfl (lv_at hl 0 rfl) ?_
  refine va_get (C := RX6) (T := TX6) (N := 12) hx hb hts n6 hown hK hP i0 (cg_0 hi0) rfl 0 (by decide) lk0 (fun _ h9 => h9) rfl dX6_generator_56 ?_
  refine lv_iload_n hx hb dX6_generator_59 rfl (lv_at hl 1 rfl) ?_
  refine lv_iload hx hb dX6_generator_60 (lv_at hl 4 rfl) ?_
  refine lv_imul hx hb dX6_generator_62 ?_
  refine lv_iload_n hx hb dX6_generator_63 rfl (lv_at hl 2 rfl) ?_
  refine lv_iload_n hx hb dX6_generator_64 rfl (lv_at hl 3 rfl) ?_
  refine lv_imul hx hb dX6_generator_65 ?_
  refine lv_isub hx hb dX6_generator_66 ?_
  refine cc_i (va_runV (C := RX2) (As := [.int ((a1 * a4) - (a2 * a3))]) (rest := []) ⟨hx, hb, hml, hown, hts⟩ (c_X2_rest hL.g hwd H.size u4 ((a1 * a4) - (a2 * a3)) _ h) (cwV 1 hts gX6_generator_X2_rest rfl rfl rfl (by decide +kernel) ⟨Nat.le_of_ble_eq_true rfl, Nat.le_of_ble_eq_true rfl⟩) (pcV hC hP hS (cg_1 hi1) rfl) rfl rfl hl.1 rfl (lv_room (Nat.le_of_ble_eq_true rfl)) dX6_generator_67 ⟨Nat.le_of_ble_eq_true rfl, Nat.le_of_ble_eq_true rfl⟩) hS (cA_mono hS.1) (fun v9 u10 H locs h hP hS => ?_)
  refine lv_if_ne (tgt := 83) hx hb dX6_generator_70 (by decide) (fun c9 => ?_) (fun c9 => ?_)
  rotate_left
  · replace h := h.1 c9
    exact vx_throwS hx hb hflag hown (by decide +kernel) (by decide +kernel) lk1 lk2 hs7 (hat_X6_generator_77 hts hX) hgood_77 hC.2.2.2.1 hC.2.2.2.2.1 hS (hl.1.trans hml.symm) dX6_generator_73 dX6_generator_76 dX6_generator_77 dX6_generator_79 dX6_generator_82 (hout _) (Nat.le_of_ble_eq_true rfl) (Nat.le_of_ble_eq_true rfl) (Nat.le_of_ble_eq_true rfl) (Nat.le_of_ble_eq_true rfl) hlocks (fun t ha hz hq => ⟨_, trivial, ⟨h, hP.kept (fun k q hk => hq _ (hP k q hk).lt)⟩, vaF_more hS hz hq⟩) hS.2.2 (Nat.le_of_ble_eq_true rfl) (Nat.le_of_ble_eq_true rfl)
  replace h := h.2 c9
  refine lv_aload_n hx hb dX6_generator_83 rfl (lv_at hl 0 rfl) ?_
  refine va_get (C := RX6) (T := TX6) (N := 12) hx hb hts n6 hown hK hP i0 (cg_0 hi0) rfl 3 (by decide) lk5 (fun _ h9 => h9) rfl dX6_generator_84 ?_
  refine va_get (C := RX4) (T := TX4) (N := 6) hx hb hts n4 hown hK hP i4 (cg_4 hi4) rfl 4 (by decide) lk6 (fun _ h9 => h9) rfl dX6_generator_87 ?_
  refine lv_iconst (v := 4) hx hb dX6_generator_90 (by decide) ?_
  refine lv_icmp_lt (tgt := 104) hx hb dX6_generator_91 (by decide) (fun c10 => ?_) (fun c10 => ?_)
  rotate_left
  · replace h := h.1 (Int32.not_lt.mp c10)
    exact vx_throwS hx hb hflag hown (by decide +kernel) (by decide +kernel) lk3 lk4 hs8 (hat_X6_generator_106 hts hX) hgood_106 hC.2.2.2.1 hC.2.2.2.2.1 hS (hl.1.trans hml.symm) dX6_generator_94 dX6_generator_97 dX6_generator_98 dX6_generator_100 dX6_generator_103 (hout _) (Nat.le_of_ble_eq_true rfl) (Nat.le_of_ble_eq_true rfl) (Nat.le_of_ble_eq_true rfl) (Nat.le_of_ble_eq_true rfl) hlocks (fun t ha hz hq => ⟨_, trivial, ⟨h, hP.kept (fun k q hk => hq _ (hP k q hk).lt)⟩, vaF_more hS hz hq⟩) hS.2.2 (Nat.le_of_ble_eq_true rfl) (Nat.le_of_ble_eq_true rfl)
  replace h := h.2 (Int32.not_le.mpr c10)
  refine lv_aload_n hx hb dX6_generator_104 rfl (lv_at hl 0 rfl) ?_
  refine va_get (C := RX6) (T := TX6) (N := 12) hx hb hts n6 hown hK hP i0 (cg_0 hi0) rfl 3 (by decide) lk5 (fun _ h9 => h9) rfl dX6_generator_105 ?_
  refine lv_iload_n hx hb dX6_generator_108 rfl (lv_at hl 1 rfl) ?_
  refine lv_iload_n hx hb dX6_generator_109 rfl (lv_at hl 2 rfl) ?_
  refine lv_iload_n hx hb dX6_generator_110 rfl (lv_at hl 3 rfl) ?_
  refine lv_iload hx hb dX6_generator_111 (lv_at hl 4 rfl) ?_
  refine lv_aload_n hx hb dX6_generator_113 rfl (lv_at hl 0 rfl) ?_
  refine va_get (C := RX6) (T := TX6) (N := 12) hx hb hts n6 hown hK hP i0 (cg_0 hi0) rfl 1 (by decide) lk7 (fun _ h9 => h9) rfl dX6_generator_114 ?_
  have hz0 := hS.1
  refine va_callv (va_runV (C := RX4) (As := [.int a1, .int a2, .int a3, .int a4, .ref (ad 2)]) (rest := []) ⟨hx, hb, hml, hown, hts⟩ (c_X4_tell hL hLb hwd H.size u10 a1 a2 a3 a4 _ h) (cwV 5 hts gX6_generator_X4_tell rfl rfl rfl (by decide +kernel) ⟨Nat.le_of_ble_eq_true rfl, Nat.le_of_ble_eq_true rfl⟩) (pcV hC hP hS (cg_4 hi4) rfl) rfl rfl hl.1 rfl (lv_room (Nat.le_of_ble_eq_true rfl)) dX6_generator_117 ⟨Nat.le_of_ble_eq_true rfl, Nat.le_of_ble_eq_true rfl⟩) hS (fun q _ h9 => cA_mono hS.1 q h9) (cA_mono hS.1) (fun z t H1 locs1 ht hvm hq hB hz1 hk1 hS => ?_)
  obtain ⟨ad9, L9, al9, u11⟩ := z
  obtain ⟨hXT0, h⟩ := hq
  have hXT : XT L ad s.heap.size L9 ad9 al9 := XT.mono hz0 hXT0
  have hP : va_P D vwCl (cW cI cG L9 ad9 al9 u11) H1 := by rw [← ht]; exact hB
  have hC9 : CX D cI cG cZ cJ ts (cA L9 ad9 s.heap.size) s s.heap := by rw [hXT.2.2.2.1]; exact hC
  have hS9 : va_S (cA L9 ad9 s.heap.size) s.heap H1 locs1 := by rw [hXT.2.2.2.1]; exact hS
  have e0 : ad9 0 = ad 0 := hXT.2.2.2.2 0 (by decide)
  rw [← e0] at hl
  exact w_X6_genEnd hXT (⟨hx, hb, hml, hown, hts, hr, hlocks, hXT.1, hC9⟩) a1 a2 a3 a4 Q u11 _ _ _ h hP hS9 hl
set_option maxRecDepth 100000 in
set_option maxHeartbeats 4000000 in
theorem c_X6_generator {l : Launch} {D : va_G} {cI cG cZ cJ : ClassId} {ts : Nat × Nat} {L : List Nat} {ad : Nat → Nat} {al : Nat} (hflag : l.stackTraces = false) (hL : Lf L al) (hLb : Lb L al) (hwd : WD L ad) (sz : Nat) (u : St) (a1 a2 a3 a4 : Int32) (Q : Nat → Int32 → St → Prop) (QX : String → St → Prop) (h : f_X6_generator al a1 a2 a3 a4 u Q QX) : vx_Met l yX6_generator wsX6_generator ({ frames := 6, cells := 2, slots := 3902, locals := 148 }) (va_Pc [.ref (ad 0), .int a1, .int a2, .int a3, .int a4] (PCX D cI cG cZ cJ ts L ad al sz u)) (va_Qi (QY L ad sz Q) (BZ D cI cG) (cA L ad sz)) (vx_X (fun _ => True) (fun E u9 t => QX E u9 ∧ va_P D vwCl (cW cI cG L ad al u9) t.heap) (cA L ad sz)) 2 3902 (cA L ad sz) := by
  refine vx_ofW (cc := cX6_generator) (maxL := 5) (ret := (some .int)) (by decide) rfl ?_
  intro p e s m args below meth c s₁ B hml hT hv
  obtain ⟨rfl, ⟨hsz, hP, hC⟩, hX⟩ := hv
  subst hsz
  have X : FX RX6 wsX6_generator cX6_generator 5 (some .int) D cI cG cZ cJ ts L ad p s m _ meth c := ⟨B.exec, B.bytes, hml, findClass_of_methodNamed B.named, atoms_spec (ws := wsX6_generator) B.pre, B.returns, B.notSynchronized, hwd, hC⟩
  have hl := lv_entry ([.ref (ad 0), .int a1, .int a2, .int a3, .int a4]) (n := 5) (Nat.le_of_ble_eq_true rfl)
  rw [lg_entry_eq]
  generalize (lg_sl ([.ref (ad 0), .int a1, .int a2, .int a3, .int a4]) ++ List.replicate (5 - (lg_sl ([.ref (ad 0), .int a1, .int a2, .int a3, .int a4])).length) Slot.unset).toArray = ls at hl ⊢
  exact w_X6_generator hflag hT hX hL hLb X a1 a2 a3 a4 Q QX u _ _ _ h hP va_S.rf hl
