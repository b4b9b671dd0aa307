set_option maxRecDepth 100000 in
set_option maxHeartbeats 4000000 in
theorem w_X6_isDegree {p : Program} {l : Launch} {e : Env} {s : State} {m : MethodId} {args : Array Value} {below : List Frame} {meth : Method} {c : Code} {D : va_G} {cI cG cZ cJ : ClassId} {ts : Nat × Nat} {L : List Nat} {ad : Nat → Nat} {al : Nat} (hL : Lf L al) (X : FX RX6 wsX6_isDegree cX6_isDegree 1 (some .boolean) D cI cG cZ cJ ts L ad p s m args meth c) (a0 : Int32) (Q : Int32 → St → Prop) (u : St) (H : Heap) (locs : List Loc) (ls : Array Slot) (h : f_X6_isDegree al a0 u Q) (hP : va_P D vwCl (cW cI cG L ad al u) H) (hS : va_S (cA L ad s.heap.size) s.heap H locs) (hl : lv_has ls 1 [(0, .int a0)]) : W p l e (headSpec wsX6_isDegree { frames := 0, cells := 0, slots := 0, locals := 0 }).room s m args below meth c H locs 0 0 (MQ below (va_Qi Q (fun u9 t => va_P D vwCl (cW cI cG L ad al u9) t.heap) (cA L ad s.heap.size)) args s 0 0 (cA L ad s.heap.size)) (F0 m 0 ls []) := by
  obtain ⟨hx, hb, hml, hown, hts, hr, hlocks, hwd, hC⟩ := id X
  have hK := hC.1
  unfold f_X6_isDegree at h
  refine lv_iload_n hx hb dX6_isDegree_0 rfl (lv_at hl 0 rfl) ?_
  refine lv_iconst (v := 1) hx hb dX6_isDegree_1 (by decide) ?_
  refine lv_icmp_lt (tgt := 14) hx hb dX6_isDegree_2 (by decide) (fun c1 => ?_) (fun c1 => ?_)
  · replace h := h.1 c1
    refine lv_iconst (v := 0) hx hb dX6_isDegree_14 (by decide) ?_
    exact W.zret (ty := .boolean) (v := 0) hx hb hr rfl (fun t ht hW => ⟨⟨_, _, rfl, h, by show va_P _ _ _ t.heap; rw [ht]; exact hP⟩, hS.F ht⟩) hS.2.2 dX6_isDegree_15
  · replace h := h.2 c1
    refine lv_iload_n hx hb dX6_isDegree_5 rfl (lv_at hl 0 rfl) ?_
    refine lv_iconst (v := 4) hx hb dX6_isDegree_6 (by decide) ?_
    refine lv_icmp_gt (tgt := 14) hx hb dX6_isDegree_7 (by decide) (fun c2 => ?_) (fun c2 => ?_)
    · replace h := h.1 c2
      refine lv_iconst (v := 0) hx hb dX6_isDegree_14 (by decide) ?_
      exact W.zret (ty := .boolean) (v := 0) hx hb hr rfl (fun t ht hW => ⟨⟨_, _, rfl, h, by show va_P _ _ _ t.heap; rw [ht]; exact hP⟩, hS.F ht⟩) hS.2.2 dX6_isDegree_15
    · replace h := h.2 c2
      refine lv_iconst (v := 1) hx hb dX6_isDegree_10 (by decide) ?_
      refine lv_goto (tgt := 15) hx hb dX6_isDegree_11 (by decide) ?_
      exact W.zret (ty := .boolean) (v := 1) hx hb hr rfl (fun t ht hW => ⟨⟨_, _, rfl, h, by show va_P _ _ _ t.heap; rw [ht]; exact hP⟩, hS.F ht⟩) hS.2.2 dX6_isDegree_15
set_option maxRecDepth 100000 in
set_option maxHeartbeats 4000000 in
theorem c_X6_isDegree {l : Launch} {D : va_G} {cI cG cZ cJ : ClassId} {ts : Nat × Nat} {L : List Nat} {ad : Nat → Nat} {al : Nat} (hL : Lf L al) (hwd : WD L ad) (sz : Nat) (u : St) (a0 : Int32) (Q : Int32 → St → Prop) (h : f_X6_isDegree al a0 u Q) : Met l yX6_isDegree wsX6_isDegree ({ frames := 0, cells := 0, slots := 0, locals := 0 }) (va_Pc [.int a0] (PC D cI cG cZ cJ ts L ad al sz u)) (va_Qi Q (fun u9 t => va_P D vwCl (cW cI cG L ad al u9) t.heap) (cA L ad sz)) 0 0 (cA L ad sz) := by
  refine Met.ofW (cc := cX6_isDegree) (maxL := 1) (ret := (some .boolean)) (by decide) rfl ?_
  intro p e s m args below meth c s₁ B hml hv
  obtain ⟨rfl, hsz, hP, hC⟩ := hv
  subst hsz
  have X : FX RX6 wsX6_isDegree cX6_isDegree 1 (some .boolean) D cI cG cZ cJ ts L ad p s m _ meth c := ⟨B.exec, B.bytes, hml, findClass_of_methodNamed B.named, atoms_spec (ws := wsX6_isDegree) B.pre, B.returns, B.notSynchronized, hwd, hC⟩
  have hl := lv_entry ([.int a0]) (n := 1) (Nat.le_of_ble_eq_true rfl)
  rw [lg_entry_eq]
  generalize (lg_sl ([.int a0]) ++ List.replicate (1 - (lg_sl ([.int a0])).length) Slot.unset).toArray = ls at hl ⊢
  exact w_X6_isDegree hL X a0 Q u _ _ _ h hP va_S.rf hl
set_option maxRecDepth 100000 in
set_option maxHeartbeats 4000000 in
theorem w_X6_divideByY_L15 {p : Program} {l : Launch} {e : Env} {s : State} {m : MethodId} {args : Array Value} {below : List Frame} {meth : Method} {c : Code} {D : va_G} {cI cG cZ cJ : ClassId} {ts : Nat × Nat} {L : List Nat} {ad : Nat → Nat} {al : Nat} (hL : Lf L al) (X : FX RX6 wsX6_divideByY cX6_divideByY 3 (some .boolean) D cI cG cZ cJ ts L ad p s m args meth c) (a1 : Int32) (Q : Int32 → St → Prop)
    (K0 : St → Prop) (hk0 : ∀ (u : St) (H : Heap) (locs : List Loc) (ls : Array Slot), K0 u → va_P D vwCl (cW cI cG L ad al u) H → va_S (cA L ad s.heap.size) s.heap H locs → lv_has ls 3 [] → W p l e (headSpec wsX6_divideByY { frames := 1, cells := 0, slots := 0, locals := 22 }).room s m args below meth c H locs 0 0 (MQ below (va_Qi Q (fun u9 t => va_P D vwCl (cW cI cG L ad al u9) t.heap) (cA L ad s.heap.size)) args s 0 0 (cA L ad s.heap.size)) (F0 m 44 ls []))
    : ∀ (n : Nat) (a2 : Int32) (u : St) (H : Heap) (locs : List Loc) (ls : Array Slot), f_X6_divideByY_L15 al a1 Q K0 n a2 u → va_P D vwCl (cW cI cG L ad al u) H → va_S (cA L ad s.heap.size) s.heap H locs → lv_has ls 3 [(0, .ref (ad 0)), (1, .int a1), (2, .int a2)] → W p l e (headSpec wsX6_divideByY { frames := 1, cells := 0, slots := 0, locals := 22 }).room s m args below meth c H locs 0 0 (MQ below (va_Qi Q (fun u9 t => va_P D vwCl (cW cI cG L ad al u9) t.heap) (cA L ad s.heap.size)) args s 0 0 (cA L ad s.heap.size)) (F0 m 15 ls []) := by
  obtain ⟨hx, hb, hml, hown, hts, hr, hlocks, hwd, hC⟩ := id X
  have hK := hC.1
  have m0 : 0 ∈ L := hL 0 (by omega)
  obtain ⟨i0, hi0⟩ := wL_ix m0
  have m9 : 9 ∈ L := hL 9 (by omega)
  obtain ⟨i9, hi9⟩ := wL_ix m9
  have lk0 := hts (.fieldLink RX6 57 "FormForge" "first" "[I") (by decide +kernel)
  have n6 : ∀ w ∈ wsX60, w ∈ wsX6_divideByY := by decide +kernel
  intro n
  induction n with
  | zero =>
    intro a2 u H locs ls h; exact h.elim
  | succ n ih =>
    intro a2 u H locs ls h hP hS hl
    replace h : f_X6_divideByY_L15_s al a1 Q K0 (f_X6_divideByY_L15 al a1 Q K0 n) a2 u := h
    unfold f_X6_divideByY_L15_s at h
    refine lv_iload_n hx hb dX6_divideByY_15 rfl (lv_at hl 2 rfl) ?_
    refine lv_iload_n hx hb dX6_divideByY_16 rfl (lv_at hl 1 rfl) ?_
    refine lv_icmp_ge (tgt := 44) hx hb dX6_divideByY_17 (by decide) (fun c4 => ?_) (fun c4 => ?_)
    · replace h := h.1 c4
      exact hk0  _ _ _ _ h hP hS (lv_sub hl [] rfl)
    · replace h := h.2 c4
      refine lv_aload_n hx hb dX6_divideByY_20 rfl (lv_at hl 0 rfl) ?_
      refine va_get (C := RX6) (T := TX6) (N := 12) hx hb hts n6 hown hK hP i0 (cg_0 hi0) rfl 7 (by decide) lk0 (fun _ h9 => h9) rfl dX6_divideByY_21 ?_
      refine lv_iload_n hx hb dX6_divideByY_24 rfl (lv_at hl 2 rfl) ?_
      refine lv_aload_n hx hb dX6_divideByY_25 rfl (lv_at hl 0 rfl) ?_
      refine va_get (C := RX6) (T := TX6) (N := 12) hx hb hts n6 hown hK hP i0 (cg_0 hi0) rfl 7 (by decide) lk0 (fun _ h9 => h9) rfl dX6_divideByY_26 ?_
      refine lv_iload_n hx hb dX6_divideByY_29 rfl (lv_at hl 2 rfl) ?_
      refine lv_iconst (v := 1) hx hb dX6_divideByY_30 (by decide) ?_
      refine lv_iadd hx hb dX6_divideByY_31 ?_
      refine cc_i (va_runS (As := [.ref (ad 9), .int (a2 + 1)]) (rest := [.int a2, .ref (ad 9)]) ⟨hx, hb, hml, hown, hts⟩ (c_X6_read hL.g (Or.inl ⟨by decide, by decide⟩) m9 hwd H.size u (a2 + 1) _ h) (va_cwS 2 hts gX6_divideByY_X6_read rfl rfl rfl (by decide +kernel) ⟨Nat.le_of_ble_eq_true rfl, Nat.le_of_ble_eq_true rfl⟩) (pcS hC hP hS) rfl rfl hl.1 rfl (lv_room (Nat.le_of_ble_eq_true rfl)) dX6_divideByY_32 ⟨Nat.zero_le _, Nat.zero_le _⟩) hS (cA_mono hS.1) (fun v5 u6 H locs h hP hS => ?_)
      refine cc_v (va_runS (As := [.ref (ad 9), .int a2, .int v5]) (rest := []) ⟨hx, hb, hml, hown, hts⟩ (c_X6_write hL.g (Or.inl ⟨by decide, by decide⟩) m9 hwd H.size u6 a2 v5 _ h) (va_cwS 3 hts gX6_divideByY_X6_write rfl rfl rfl (by decide +kernel) ⟨Nat.le_of_ble_eq_true rfl, Nat.le_of_ble_eq_true rfl⟩) (pcS hC hP hS) rfl rfl hl.1 rfl (lv_room (Nat.le_of_ble_eq_true rfl)) dX6_divideByY_35 ⟨Nat.zero_le _, Nat.zero_le _⟩) hS (cA_mono hS.1) (fun u7 H locs h hP hS => ?_)
      obtain ⟨v8, ev8⟩ : ∃ y : Int32, y = a2 + 1 := ⟨_, rfl⟩
      refine lv_iinc (v := v8) (lv' := [(2, .int v8), (0, .ref (ad 0)), (1, .int a1)]) hx hb dX6_divideByY_38 hl (k := 2) rfl (by rw [ev8]; rfl) (by decide) rfl (fun ls hl => ?_)
      replace h := h v8 ev8
      refine lv_goto (tgt := 15) hx hb dX6_divideByY_41 (by decide) ?_
      exact ih v8 _ _ _ _ h hP hS (lv_sub hl [1, 2, 0] rfl)
set_option maxRecDepth 100000 in
set_option maxHeartbeats 4000000 in
theorem w_X6_divideByY {p : Program} {l : Launch} {e : Env} {s : State} {m : MethodId} {args : Array Value} {below : List Frame} {meth : Method} {c : Code} {D : va_G} {cI cG cZ cJ : ClassId} {ts : Nat × Nat} {L : List Nat} {ad : Nat → Nat} {al : Nat} (hL : Lf L al) (X : FX RX6 wsX6_divideByY cX6_divideByY 3 (some .boolean) D cI cG cZ cJ ts L ad p s m args meth c) (a1 : Int32) (Q : Int32 → St → Prop) (u : St) (H : Heap) (locs : List Loc) (ls : Array Slot) (h : f_X6_divideByY al a1 u Q) (hP : va_P D vwCl (cW cI cG L ad al u) H) (hS : va_S (cA L ad s.heap.size) s.heap H locs) (hl : lv_has ls 3 [(0, .ref (ad 0)), (1, .int a1)]) : W p l e (headSpec wsX6_divideByY { frames := 1, cells := 0, slots := 0, locals := 22 }).room s m args below meth c H locs 0 0 (MQ below (va_Qi Q (fun u9 t => va_P D vwCl (cW cI cG L ad al u9) t.heap) (cA L ad s.heap.size)) args s 0 0 (cA L ad s.heap.size)) (F0 m 0 ls []) := by
  obtain ⟨hx, hb, hml, hown, hts, hr, hlocks, hwd, hC⟩ := id X
  have hK := hC.1
  have m0 : 0 ∈ L := hL 0 (by omega)
  obtain ⟨i0, hi0⟩ := wL_ix m0
  have m9 : 9 ∈ L := hL 9 (by omega)
  obtain ⟨i9, hi9⟩ := wL_ix m9
  have lk0 := hts (.fieldLink RX6 57 "FormForge" "first" "[I") (by decide +kernel)
  have n6 : ∀ w ∈ wsX60, w ∈ wsX6_divideByY := by decide +kernel
  unfold f_X6_divideByY at h
  refine lv_aload_n hx hb dX6_divideByY_0 rfl (lv_at hl 0 rfl) ?_
  refine va_get (C := RX6) (T := TX6) (N := 12) hx hb hts n6 hown hK hP i0 (cg_0 hi0) rfl 7 (by decide) lk0 (fun _ h9 => h9) rfl dX6_divideByY_1 ?_
  refine lv_iconst (v := 0) hx hb dX6_divideByY_4 (by decide) ?_
  refine cc_i (va_runS (As := [.ref (ad 9), .int 0]) (rest := []) ⟨hx, hb, hml, hown, hts⟩ (c_X6_read hL.g (Or.inl ⟨by decide, by decide⟩) m9 hwd H.size u 0 _ h) (va_cwS 2 hts gX6_divideByY_X6_read rfl rfl rfl (by decide +kernel) ⟨Nat.le_of_ble_eq_true rfl, Nat.le_of_ble_eq_true rfl⟩) (pcS hC hP hS) rfl rfl hl.1 rfl (lv_room (Nat.le_of_ble_eq_true rfl)) dX6_divideByY_5 ⟨Nat.zero_le _, Nat.zero_le _⟩) hS (cA_mono hS.1) (fun v1 u2 H locs h hP hS => ?_)
  refine lv_if_eq (tgt := 13) hx hb dX6_divideByY_8 (by decide) (fun c3 => ?_) (fun c3 => ?_)
  · replace h := h.1 c3
    refine lv_iconst (v := 0) hx hb dX6_divideByY_13 (by decide) ?_
    refine lv_istore_n (lv' := [(2, .int 0), (0, .ref (ad 0)), (1, .int a1)]) hx hb dX6_divideByY_14 rfl hl (by decide) rfl (fun ls hl => ?_)
    obtain ⟨n9, h⟩ := h
    refine w_X6_divideByY_L15 hL X a1 _ _ (fun u10 H locs ls h hP hS hl => ?_) n9 0 _ _ _ _ h hP hS (lv_sub hl [1, 2, 0] rfl)
    refine lv_iconst (v := 1) hx hb dX6_divideByY_44 (by decide) ?_
    exact W.zret (ty := .boolean) (v := 1) hx hb hr rfl (fun t ht hW => ⟨⟨_, _, rfl, h, by show va_P _ _ _ t.heap; rw [ht]; exact hP⟩, hS.F ht⟩) hS.2.2 dX6_divideByY_45
  · replace h := h.2 c3
    refine lv_iconst (v := 0) hx hb dX6_divideByY_11 (by decide) ?_
    exact W.zret (ty := .boolean) (v := 0) hx hb hr rfl (fun t ht hW => ⟨⟨_, _, rfl, h, by show va_P _ _ _ t.heap; rw [ht]; exact hP⟩, hS.F ht⟩) hS.2.2 dX6_divideByY_12
set_option maxRecDepth 100000 in
set_option maxHeartbeats 4000000 in
theorem c_X6_divideByY {l : Launch} {D : va_G} {cI cG cZ cJ : ClassId} {ts : Nat × Nat} {L : List Nat} {ad : Nat → Nat} {al : Nat} (hL : Lf L al) (hwd : WD L ad) (sz : Nat) (u : St) (a1 : Int32) (Q : Int32 → St → Prop) (h : f_X6_divideByY al a1 u Q) : Met l yX6_divideByY wsX6_divideByY ({ frames := 1, cells := 0, slots := 0, locals := 22 }) (va_Pc [.ref (ad 0), .int a1] (PC D cI cG cZ cJ ts L ad al sz u)) (va_Qi Q (fun u9 t => va_P D vwCl (cW cI cG L ad al u9) t.heap) (cA L ad sz)) 0 0 (cA L ad sz) := by
  refine Met.ofW (cc := cX6_divideByY) (maxL := 3) (ret := (some .boolean)) (by decide) rfl ?_
  intro p e s m args below meth c s₁ B hml hv
  obtain ⟨rfl, hsz, hP, hC⟩ := hv
  subst hsz
  have X : FX RX6 wsX6_divideByY cX6_divideByY 3 (some .boolean) D cI cG cZ cJ ts L ad p s m _ meth c := ⟨B.exec, B.bytes, hml, findClass_of_methodNamed B.named, atoms_spec (ws := wsX6_divideByY) B.pre, B.returns, B.notSynchronized, hwd, hC⟩
  have hl := lv_entry ([.ref (ad 0), .int a1]) (n := 3) (Nat.le_of_ble_eq_true rfl)
  rw [lg_entry_eq]
  generalize (lg_sl ([.ref (ad 0), .int a1]) ++ List.replicate (3 - (lg_sl ([.ref (ad 0), .int a1])).length) Slot.unset).toArray = ls at hl ⊢
  exact w_X6_divideByY hL X a1 Q u _ _ _ h hP va_S.rf hl
set_option maxRecDepth 100000 in
set_option maxHeartbeats 4000000 in
theorem w_X6_divideByPoint_L5 {p : Program} {l : Launch} {e : Env} {s : State} {m : MethodId} {args : Array Value} {below : List Frame} {meth : Method} {c : Code} {D : va_G} {cI cG cZ cJ : ClassId} {ts : Nat × Nat} {L : List Nat} {ad : Nat → Nat} {al : Nat} (hL : Lf L al) (X : FX RX6 wsX6_divideByPoint cX6_divideByPoint 5 (some .boolean) D cI cG cZ cJ ts L ad p s m args meth c) (a1 : Int32) (a2 : Int32) (Q : Int32 → St → Prop)
    (K0 : Int32 → St → Prop) (hk0 : ∀ (b3 : Int32) (u : St) (H : Heap) (locs : List Loc) (ls : Array Slot), K0 b3 u → va_P D vwCl (cW cI cG L ad al u) H → va_S (cA L ad s.heap.size) s.heap H locs → lv_has ls 5 [(3, .int b3)] → W p l e (headSpec wsX6_divideByPoint { frames := 2, cells := 0, slots := 0, locals := 43 }).room s m args below meth c H locs 0 0 (MQ below (va_Qi Q (fun u9 t => va_P D vwCl (cW cI cG L ad al u9) t.heap) (cA L ad s.heap.size)) args s 0 0 (cA L ad s.heap.size)) (F0 m 48 ls []))
    : ∀ (n : Nat) (a3 : Int32) (a4 : Int32) (u : St) (H : Heap) (locs : List Loc) (ls : Array Slot), f_X6_divideByPoint_L5 al a1 a2 Q K0 n a3 a4 u → va_P D vwCl (cW cI cG L ad al u) H → va_S (cA L ad s.heap.size) s.heap H locs → lv_has ls 5 [(0, .ref (ad 0)), (1, .int a1), (2, .int a2), (3, .int a3), (4, .int a4)] → W p l e (headSpec wsX6_divideByPoint { frames := 2, cells := 0, slots := 0, locals := 43 }).room s m args below meth c H locs 0 0 (MQ below (va_Qi Q (fun u9 t => va_P D vwCl (cW cI cG L ad al u9) t.heap) (cA L ad s.heap.size)) args s 0 0 (cA L ad s.heap.size)) (F0 m 5 ls []) := by
  obtain ⟨hx, hb, hml, hown, hts, hr, hlocks, hwd, hC⟩ := id X
  have hK := hC.1
  have m0 : 0 ∈ L := hL 0 (by omega)
  obtain ⟨i0, hi0⟩ := wL_ix m0
  have m1 : 1 ∈ L := hL 1 (by omega)
  obtain ⟨i1, hi1⟩ := wL_ix m1
  have m9 : 9 ∈ L := hL 9 (by omega)
  obtain ⟨i9, hi9⟩ := wL_ix m9
  have lk0 := hts (.fieldLink RX6 14 "FormForge" "field" "LFormForge$Field;") (by decide +kernel)
  have lk1 := hts (.fieldLink RX6 57 "FormForge" "first" "[I") (by decide +kernel)
  have n6 : ∀ w ∈ wsX60, w ∈ wsX6_divideByPoint := by decide +kernel
  intro n
  induction n with
  | zero =>
    intro a3 a4 u H locs ls h; exact h.elim
  | succ n ih =>
    intro a3 a4 u H locs ls h hP hS hl
    replace h : f_X6_divideByPoint_L5_s al a1 a2 Q K0 (f_X6_divideByPoint_L5 al a1 a2 Q K0 n) a3 a4 u := h
    unfold f_X6_divideByPoint_L5_s at h
    refine lv_iload hx hb dX6_divideByPoint_5 (lv_at hl 4 rfl) ?_
    refine lv_iload_n hx hb dX6_divideByPoint_7 rfl (lv_at hl 1 rfl) ?_
    refine lv_icmp_gt (tgt := 48) hx hb dX6_divideByPoint_8 (by decide) (fun c1 => ?_) (fun c1 => ?_)
    · replace h := h.1 c1
      exact hk0 a3 _ _ _ _ h hP hS (lv_sub hl [3] rfl)
    · replace h := h.2 c1
      refine lv_aload_n hx hb dX6_divideByPoint_11 rfl (lv_at hl 0 rfl) ?_
      refine va_get (C := RX6) (T := TX6) (N := 12) hx hb hts n6 hown hK hP i0 (cg_0 hi0) rfl 0 (by decide) lk0 (fun _ h9 => h9) rfl dX6_divideByPoint_12 ?_
      refine lv_aload_n hx hb dX6_divideByPoint_15 rfl (lv_at hl 0 rfl) ?_
      refine va_get (C := RX6) (T := TX6) (N := 12) hx hb hts n6 hown hK hP i0 (cg_0 hi0) rfl 7 (by decide) lk1 (fun _ h9 => h9) rfl dX6_divideByPoint_16 ?_
      refine lv_iload hx hb dX6_divideByPoint_19 (lv_at hl 4 rfl) ?_
      refine cc_i (va_runS (As := [.ref (ad 9), .int a4]) (rest := [.ref (ad 1)]) ⟨hx, hb, hml, hown, hts⟩ (c_X6_read hL.g (Or.inl ⟨by decide, by decide⟩) m9 hwd H.size u a4 _ h) (va_cwS 2 hts gX6_divideByPoint_X6_read rfl rfl rfl (by decide +kernel) ⟨Nat.le_of_ble_eq_true rfl, Nat.le_of_ble_eq_true rfl⟩) (pcS hC hP hS) rfl rfl hl.1 rfl (lv_room (Nat.le_of_ble_eq_true rfl)) dX6_divideByPoint_21 ⟨Nat.zero_le _, Nat.zero_le _⟩) hS (cA_mono hS.1) (fun v2 u3 H locs h hP hS => ?_)
      refine lv_iload_n hx hb dX6_divideByPoint_24 rfl (lv_at hl 2 rfl) ?_
      refine lv_iload_n hx hb dX6_divideByPoint_25 rfl (lv_at hl 3 rfl) ?_
      refine lv_imul hx hb dX6_divideByPoint_26 ?_
      refine lv_iadd hx hb dX6_divideByPoint_27 ?_
      refine cc_i (va_runV (C := RX2) (As := [.int (v2 + (a2 * a3))]) (rest := []) ⟨hx, hb, hml, hown, hts⟩ (c_X2_rest hL.g hwd H.size u3 (v2 + (a2 * a3)) _ h) (cwV 1 hts gX6_divideByPoint_X2_rest rfl rfl rfl (by decide +kernel) ⟨Nat.le_of_ble_eq_true rfl, Nat.le_of_ble_eq_true rfl⟩) (pcV hC hP hS (cg_1 hi1) rfl) rfl rfl hl.1 rfl (lv_room (Nat.le_of_ble_eq_true rfl)) dX6_divideByPoint_28 ⟨Nat.zero_le _, Nat.zero_le _⟩) hS (cA_mono hS.1) (fun v4 u5 H locs h hP hS => ?_)
      refine lv_istore_n (lv' := [(3, .int v4), (0, .ref (ad 0)), (1, .int a1), (2, .int a2), (4, .int a4)]) hx hb dX6_divideByPoint_31 rfl hl (by decide) rfl (fun ls hl => ?_)
      refine lv_aload_n hx hb dX6_divideByPoint_32 rfl (lv_at hl 1 rfl) ?_
      refine va_get (C := RX6) (T := TX6) (N := 12) hx hb hts n6 hown hK hP i0 (cg_0 hi0) rfl 7 (by decide) lk1 (fun _ h9 => h9) rfl dX6_divideByPoint_33 ?_
      refine lv_iload hx hb dX6_divideByPoint_36 (lv_at hl 4 rfl) ?_
      refine lv_iload_n hx hb dX6_divideByPoint_38 rfl (lv_at hl 0 rfl) ?_
      refine cc_v (va_runS (As := [.ref (ad 9), .int a4, .int v4]) (rest := []) ⟨hx, hb, hml, hown, hts⟩ (c_X6_write hL.g (Or.inl ⟨by decide, by decide⟩) m9 hwd H.size u5 a4 v4 _ h) (va_cwS 3 hts gX6_divideByPoint_X6_write rfl rfl rfl (by decide +kernel) ⟨Nat.le_of_ble_eq_true rfl, Nat.le_of_ble_eq_true rfl⟩) (pcS hC hP hS) rfl rfl hl.1 rfl (lv_room (Nat.le_of_ble_eq_true rfl)) dX6_divideByPoint_39 ⟨Nat.zero_le _, Nat.zero_le _⟩) hS (cA_mono hS.1) (fun u6 H locs h hP hS => ?_)
      obtain ⟨v7, ev7⟩ : ∃ y : Int32, y = a4 + 1 := ⟨_, rfl⟩
      refine lv_iinc (v := v7) (lv' := [(4, .int v7), (3, .int v4), (0, .ref (ad 0)), (1, .int a1), (2, .int a2)]) hx hb dX6_divideByPoint_42 hl (k := 4) rfl (by rw [ev7]; rfl) (by decide) rfl (fun ls hl => ?_)
      replace h := h v7 ev7
      refine lv_goto (tgt := 5) hx hb dX6_divideByPoint_45 (by decide) ?_
      exact ih v4 v7 _ _ _ _ h hP hS (lv_sub hl [2, 3, 4, 1, 0] rfl)
set_option maxRecDepth 100000 in
set_option maxHeartbeats 4000000 in
theorem w_X6_divideByPoint {p : Program} {l : Launch} {e : Env} {s : State} {m : MethodId} {args : Array Value} {below : List Frame} {meth : Method} {c : Code} {D : va_G} {cI cG cZ cJ : ClassId} {ts : Nat × Nat} {L : List Nat} {ad : Nat → Nat} {al : Nat} (hL : Lf L al) (X : FX RX6 wsX6_divideByPoint cX6_divideByPoint 5 (some .boolean) D cI cG cZ cJ ts L ad p s m args meth c) (a1 : Int32) (a2 : Int32) (Q : Int32 → St → Prop) (u : St) (H : Heap) (locs : List Loc) (ls : Array Slot) (h : f_X6_divideByPoint al a1 a2 u Q) (hP : va_P D vwCl (cW cI cG L ad al u) H) (hS : va_S (cA L ad s.heap.size) s.heap H locs) (hl : lv_has ls 5 [(0, .ref (ad 0)), (1, .int a1), (2, .int a2)]) : W p l e (headSpec wsX6_divideByPoint { frames := 2, cells := 0, slots := 0, locals := 43 }).room s m args below meth c H locs 0 0 (MQ below (va_Qi Q (fun u9 t => va_P D vwCl (cW cI cG L ad al u9) t.heap) (cA L ad s.heap.size)) args s 0 0 (cA L ad s.heap.size)) (F0 m 0 ls []) := by
  obtain ⟨hx, hb, hml, hown, hts, hr, hlocks, hwd, hC⟩ := id X
  have hK := hC.1
  have m0 : 0 ∈ L := hL 0 (by omega)
  obtain ⟨i0, hi0⟩ := wL_ix m0
  have m1 : 1 ∈ L := hL 1 (by omega)
  obtain ⟨i1, hi1⟩ := wL_ix m1
  have m9 : 9 ∈ L := hL 9 (by omega)
  obtain ⟨i9, hi9⟩ := wL_ix m9
  have lk0 := hts (.fieldLink RX6 14 "FormForge" "field" "LFormForge$Field;") (by decide +kernel)
  have lk1 := hts (.fieldLink RX6 57 "FormForge" "first" "[I") (by decide +kernel)
  have n6 : ∀ w ∈ wsX60, w ∈ wsX6_divideByPoint := by decide +kernel
  unfold f_X6_divideByPoint at h
  refine lv_iconst (v := 0) hx hb dX6_divideByPoint_0 (by decide) ?_
  refine lv_istore_n (lv' := [(3, .int 0), (0, .ref (ad 0)), (1, .int a1), (2, .int a2)]) hx hb dX6_divideByPoint_1 rfl hl (by decide) rfl (fun ls hl => ?_)
  refine lv_iconst (v := 0) hx hb dX6_divideByPoint_2 (by decide) ?_
  refine lv_istore (lv' := [(4, .int 0), (3, .int 0), (0, .ref (ad 0)), (1, .int a1), (2, .int a2)]) hx hb dX6_divideByPoint_3 hl (by decide) rfl (fun ls hl => ?_)
  obtain ⟨n8, h⟩ := h
  refine w_X6_divideByPoint_L5 hL X a1 a2 _ _ (fun v9 u10 H locs ls h hP hS hl => ?_) n8 0 0 _ _ _ _ h hP hS (lv_sub hl [2, 3, 4, 1, 0] rfl)
  refine lv_iload_n hx hb dX6_divideByPoint_48 rfl (lv_at hl 0 rfl) ?_
  refine lv_if_ne (tgt := 56) hx hb dX6_divideByPoint_49 (by decide) (fun c11 => ?_) (fun c11 => ?_)
  · replace h := h.1 c11
    refine lv_iconst (v := 0) hx hb dX6_divideByPoint_56 (by decide) ?_
    exact W.zret (ty := .boolean) (v := 0) hx hb hr rfl (fun t ht hW => ⟨⟨_, _, rfl, h, by show va_P _ _ _ t.heap; rw [ht]; exact hP⟩, hS.F ht⟩) hS.2.2 dX6_divideByPoint_57
  · replace h := h.2 c11
    refine lv_iconst (v := 1) hx hb dX6_divideByPoint_52 (by decide) ?_
    refine lv_goto (tgt := 57) hx hb dX6_divideByPoint_53 (by decide) ?_
    exact W.zret (ty := .boolean) (v := 1) hx hb hr rfl (fun t ht hW => ⟨⟨_, _, rfl, h, by show va_P _ _ _ t.heap; rw [ht]; exact hP⟩, hS.F ht⟩) hS.2.2 dX6_divideByPoint_57
set_option maxRecDepth 100000 in
set_option maxHeartbeats 4000000 in
theorem c_X6_divideByPoint {l : Launch} {D : va_G} {cI cG cZ cJ : ClassId} {ts : Nat × Nat} {L : List Nat} {ad : Nat → Nat} {al : Nat} (hL : Lf L al) (hwd : WD L ad) (sz : Nat) (u : St) (a1 : Int32) (a2 : Int32) (Q : Int32 → St → Prop) (h : f_X6_divideByPoint al a1 a2 u Q) : Met l yX6_divideByPoint wsX6_divideByPoint ({ frames := 2, cells := 0, slots := 0, locals := 43 }) (va_Pc [.ref (ad 0), .int a1, .int a2] (PC D cI cG cZ cJ ts L ad al sz u)) (va_Qi Q (fun u9 t => va_P D vwCl (cW cI cG L ad al u9) t.heap) (cA L ad sz)) 0 0 (cA L ad sz) := by
  refine Met.ofW (cc := cX6_divideByPoint) (maxL := 5) (ret := (some .boolean)) (by decide) rfl ?_
  intro p e s m args below meth c s₁ B hml hv
  obtain ⟨rfl, hsz, hP, hC⟩ := hv
  subst hsz
  have X : FX RX6 wsX6_divideByPoint cX6_divideByPoint 5 (some .boolean) D cI cG cZ cJ ts L ad p s m _ meth c := ⟨B.exec, B.bytes, hml, findClass_of_methodNamed B.named, atoms_spec (ws := wsX6_divideByPoint) B.pre, B.returns, B.notSynchronized, hwd, hC⟩
  have hl := lv_entry ([.ref (ad 0), .int a1, .int a2]) (n := 5) (Nat.le_of_ble_eq_true rfl)
  rw [lg_entry_eq]
  generalize (lg_sl ([.ref (ad 0), .int a1, .int a2]) ++ List.replicate (5 - (lg_sl ([.ref (ad 0), .int a1, .int a2])).length) Slot.unset).toArray = ls at hl ⊢
  exact w_X6_divideByPoint hL X a1 a2 Q u _ _ _ h hP va_S.rf hl
set_option maxRecDepth 100000 in
set_option maxHeartbeats 4000000 in
theorem w_X6_divisions_L18 {p : Program} {l : Launch} {e : Env} {s : State} {m : MethodId} {args : Array Value} {below : List Frame} {meth : Method} {c : Code} {D : va_G} {cI cG cZ cJ : ClassId} {ts : Nat × Nat} {L : List Nat} {ad : Nat → Nat} {al : Nat} (hL : Lf L al) (X : FX RX6 wsX6_divisions cX6_divisions 7 (some .int) D cI cG cZ cJ ts L ad p s m args meth c) (a3 : Int32) (Q : Int32 → St → Prop)
    (K0 : Int32 → St → Prop) (hk0 : ∀ (b4 : Int32) (u : St) (H : Heap) (locs : List Loc) (ls : Array Slot), K0 b4 u → va_P D vwCl (cW cI cG L ad al u) H → va_S (cA L ad s.heap.size) s.heap H locs → lv_has ls 7 [(4, .int b4)] → W p l e (headSpec wsX6_divisions { frames := 3, cells := 0, slots := 0, locals := 67 }).room s m args below meth c H locs 0 0 (MQ below (va_Qi Q (fun u9 t => va_P D vwCl (cW cI cG L ad al u9) t.heap) (cA L ad s.heap.size)) args s 0 0 (cA L ad s.heap.size)) (F0 m 57 ls []))
    (K1 : Int32 → St → Prop) (hk1 : ∀ (b4 : Int32) (u : St) (H : Heap) (locs : List Loc) (ls : Array Slot), K1 b4 u → va_P D vwCl (cW cI cG L ad al u) H → va_S (cA L ad s.heap.size) s.heap H locs → lv_has ls 7 [(4, .int b4)] → W p l e (headSpec wsX6_divisions { frames := 3, cells := 0, slots := 0, locals := 67 }).room s m args below meth c H locs 0 0 (MQ below (va_Qi Q (fun u9 t => va_P D vwCl (cW cI cG L ad al u9) t.heap) (cA L ad s.heap.size)) args s 0 0 (cA L ad s.heap.size)) (F0 m 69 ls []))
    : ∀ (n : Nat) (a4 : Int32) (a5 : Int32) (u : St) (H : Heap) (locs : List Loc) (ls : Array Slot), f_X6_divisions_L18 al a3 Q K0 K1 n a4 a5 u → va_P D vwCl (cW cI cG L ad al u) H → va_S (cA L ad s.heap.size) s.heap H locs → lv_has ls 7 [(0, .ref (ad 0)), (3, .int a3), (4, .int a4), (5, .int a5)] → W p l e (headSpec wsX6_divisions { frames := 3, cells := 0, slots := 0, locals := 67 }).room s m args below meth c H locs 0 0 (MQ below (va_Qi Q (fun u9 t => va_P D vwCl (cW cI cG L ad al u9) t.heap) (cA L ad s.heap.size)) args s 0 0 (cA L ad s.heap.size)) (F0 m 18 ls []) := by
  obtain ⟨hx, hb, hml, hown, hts, hr, hlocks, hwd, hC⟩ := id X
  have hK := hC.1
  have m0 : 0 ∈ L := hL 0 (by omega)
  obtain ⟨i0, hi0⟩ := wL_ix m0
  have m1 : 1 ∈ L := hL 1 (by omega)
  obtain ⟨i1, hi1⟩ := wL_ix m1
  have m9 : 9 ∈ L := hL 9 (by omega)
  obtain ⟨i9, hi9⟩ := wL_ix m9
  have lk0 := hts (.fieldLink RX6 14 "FormForge" "field" "LFormForge$Field;") (by decide +kernel)
  have lk1 := hts (.fieldLink RX6 57 "FormForge" "first" "[I") (by decide +kernel)
  have lk2 := hts (.fieldLink RX6 80 "FormForge$Field" "p" "I") (by decide +kernel)
  have n2 : ∀ w ∈ wsX20, w ∈ wsX6_divisions := by decide +kernel
  have n6 : ∀ w ∈ wsX60, w ∈ wsX6_divisions := by decide +kernel
  intro n
  induction n with
  | zero =>
    intro a4 a5 u H locs ls h; exact h.elim
  | succ n ih =>
    intro a4 a5 u H locs ls h hP hS hl
    replace h : f_X6_divisions_L18_s al a3 Q K0 K1 (f_X6_divisions_L18 al a3 Q K0 K1 n) a4 a5 u := h
    unfold f_X6_divisions_L18_s at h
    refine lv_iload hx hb dX6_divisions_18 (lv_at hl 3 rfl) ?_
    refine lv_if_lt (tgt := 69) hx hb dX6_divisions_20 (by decide) (fun c2 => ?_) (fun c2 => ?_)
    · replace h := h.1 c2
      exact hk1 a4 _ _ _ _ h hP hS (lv_sub hl [2] rfl)
    · replace h := h.2 c2
      refine lv_iload_n hx hb dX6_divisions_23 rfl (lv_at hl 1 rfl) ?_
      refine lv_aload_n hx hb dX6_divisions_24 rfl (lv_at hl 0 rfl) ?_
      refine va_get (C := RX6) (T := TX6) (N := 12) hx hb hts n6 hown hK hP i0 (cg_0 hi0) rfl 0 (by decide) lk0 (fun _ h9 => h9) rfl dX6_divisions_25 ?_
      refine va_get (C := RX2) (T := TX2) (N := 1) hx hb hts n2 hown hK hP i1 (cg_1 hi1) rfl 0 (by decide) lk2 (fun _ h9 => h9) rfl dX6_divisions_28 ?_
      refine lv_icmp_ne (tgt := 43) hx hb dX6_divisions_31 (by decide) (fun c3 => ?_) (fun c3 => ?_)
      · replace h := h.1 c3
        refine lv_aload_n hx hb dX6_divisions_43 rfl (lv_at hl 0 rfl) ?_
        refine lv_iload hx hb dX6_divisions_44 (lv_at hl 3 rfl) ?_
        refine lv_iload_n hx hb dX6_divisions_46 rfl (lv_at hl 1 rfl) ?_
        refine cc_i (va_runV (C := RX6) (As := [.int a5, .int a3]) (rest := []) ⟨hx, hb, hml, hown, hts⟩ (c_X6_divideByPoint hL hwd H.size u a5 a3 _ h) (cwV 2 hts gX6_divisions_X6_divideByPoint rfl rfl rfl (by decide +kernel) ⟨Nat.le_of_ble_eq_true rfl, Nat.le_of_ble_eq_true rfl⟩) (pcV hC hP hS (cg_0 hi0) rfl) rfl rfl hl.1 rfl (lv_room (Nat.le_of_ble_eq_true rfl)) dX6_divisions_47 ⟨Nat.zero_le _, Nat.zero_le _⟩) hS (cA_mono hS.1) (fun v4 u5 H locs h hP hS => ?_)
        refine lv_istore (lv' := [(6, .int v4), (0, .ref (ad 0)), (3, .int a3), (4, .int a4), (5, .int a5)]) hx hb dX6_divisions_50 hl (by decide) rfl (fun ls hl => ?_)
        refine lv_iload hx hb dX6_divisions_52 (lv_at hl 0 rfl) ?_
        refine lv_if_ne (tgt := 60) hx hb dX6_divisions_54 (by decide) (fun c6 => ?_) (fun c6 => ?_)
        · replace h := h.1 c6
          obtain ⟨v7, ev7⟩ : ∃ y : Int32, y = a4 + 1 := ⟨_, rfl⟩
          refine lv_iinc (v := v7) (lv' := [(4, .int v7), (6, .int v4), (0, .ref (ad 0)), (3, .int a3), (5, .int a5)]) hx hb dX6_divisions_60 hl (k := 3) rfl (by rw [ev7]; rfl) (by decide) rfl (fun ls hl => ?_)
          replace h := h v7 ev7
          obtain ⟨v8, ev8⟩ : ∃ y : Int32, y = a5 + (-1) := ⟨_, rfl⟩
          refine lv_iinc (v := v8) (lv' := [(5, .int v8), (4, .int v7), (6, .int v4), (0, .ref (ad 0)), (3, .int a3)]) hx hb dX6_divisions_63 hl (k := 4) rfl (by rw [ev8]; rfl) (by decide) rfl (fun ls hl => ?_)
          replace h := h v8 ev8
          refine lv_goto (tgt := 18) hx hb dX6_divisions_66 (by decide) ?_
          exact ih v7 v8 _ _ _ _ h hP hS (lv_sub hl [3, 4, 1, 0] rfl)
        · replace h := h.2 c6
          exact hk0 a4 _ _ _ _ h hP hS (lv_sub hl [3] rfl)
      · replace h := h.2 c3
        refine lv_aload_n hx hb dX6_divisions_34 rfl (lv_at hl 0 rfl) ?_
        refine lv_iload hx hb dX6_divisions_35 (lv_at hl 3 rfl) ?_
        refine cc_i (va_runV (C := RX6) (As := [.int a5]) (rest := []) ⟨hx, hb, hml, hown, hts⟩ (c_X6_divideByY hL hwd H.size u a5 _ h) (cwV 1 hts gX6_divisions_X6_divideByY rfl rfl rfl (by decide +kernel) ⟨Nat.le_of_ble_eq_true rfl, Nat.le_of_ble_eq_true rfl⟩) (pcV hC hP hS (cg_0 hi0) rfl) rfl rfl hl.1 rfl (lv_room (Nat.le_of_ble_eq_true rfl)) dX6_divisions_37 ⟨Nat.zero_le _, Nat.zero_le _⟩) hS (cA_mono hS.1) (fun v9 u10 H locs h hP hS => ?_)
        refine lv_goto (tgt := 50) hx hb dX6_divisions_40 (by decide) ?_
        refine lv_istore (lv' := [(6, .int v9), (0, .ref (ad 0)), (3, .int a3), (4, .int a4), (5, .int a5)]) hx hb dX6_divisions_50 hl (by decide) rfl (fun ls hl => ?_)
        refine lv_iload hx hb dX6_divisions_52 (lv_at hl 0 rfl) ?_
        refine lv_if_ne (tgt := 60) hx hb dX6_divisions_54 (by decide) (fun c11 => ?_) (fun c11 => ?_)
        · replace h := h.1 c11
          obtain ⟨v12, ev12⟩ : ∃ y : Int32, y = a4 + 1 := ⟨_, rfl⟩
          refine lv_iinc (v := v12) (lv' := [(4, .int v12), (6, .int v9), (0, .ref (ad 0)), (3, .int a3), (5, .int a5)]) hx hb dX6_divisions_60 hl (k := 3) rfl (by rw [ev12]; rfl) (by decide) rfl (fun ls hl => ?_)
          replace h := h v12 ev12
          obtain ⟨v13, ev13⟩ : ∃ y : Int32, y = a5 + (-1) := ⟨_, rfl⟩
          refine lv_iinc (v := v13) (lv' := [(5, .int v13), (4, .int v12), (6, .int v9), (0, .ref (ad 0)), (3, .int a3)]) hx hb dX6_divisions_63 hl (k := 4) rfl (by rw [ev13]; rfl) (by decide) rfl (fun ls hl => ?_)
          replace h := h v13 ev13
          refine lv_goto (tgt := 18) hx hb dX6_divisions_66 (by decide) ?_
          exact ih v12 v13 _ _ _ _ h hP hS (lv_sub hl [3, 4, 1, 0] rfl)
        · replace h := h.2 c11
          exact hk0 a4 _ _ _ _ h hP hS (lv_sub hl [3] rfl)
set_option maxRecDepth 100000 in
set_option maxHeartbeats 4000000 in
theorem w_X6_divisions {p : Program} {l : Launch} {e : Env} {s : State} {m : MethodId} {args : Array Value} {below : List Frame} {meth : Method} {c : Code} {D : va_G} {cI cG cZ cJ : ClassId} {ts : Nat × Nat} {L : List Nat} {ad : Nat → Nat} {al : Nat} (hL : Lf L al) (X : FX RX6 wsX6_divisions cX6_divisions 7 (some .int) D cI cG cZ cJ ts L ad p s m args meth c) (a1 : Int32) (a2 : Int32) (a3 : Int32) (Q : Int32 → St → Prop) (u : St) (H : Heap) (locs : List Loc) (ls : Array Slot) (h : f_X6_divisions al a1 a2 a3 u Q) (hP : va_P D vwCl (cW cI cG L ad al u) H) (hS : va_S (cA L ad s.heap.size) s.heap H locs) (hl : lv_has ls 7 [(0, .ref (ad 0)), (1, .int a1), (2, .int a2), (3, .int a3)]) : W p l e (headSpec wsX6_divisions { frames := 3, cells := 0, slots := 0, locals := 67 }).room s m args below meth c H locs 0 0 (MQ below (va_Qi Q (fun u9 t => va_P D vwCl (cW cI cG L ad al u9) t.heap) (cA L ad s.heap.size)) args s 0 0 (cA L ad s.heap.size)) (F0 m 0 ls []) := by
  obtain ⟨hx, hb, hml, hown, hts, hr, hlocks, hwd, hC⟩ := id X
  have hK := hC.1
  have m0 : 0 ∈ L := hL 0 (by omega)
  obtain ⟨i0, hi0⟩ := wL_ix m0
  have m1 : 1 ∈ L := hL 1 (by omega)
  obtain ⟨i1, hi1⟩ := wL_ix m1
  have m9 : 9 ∈ L := hL 9 (by omega)
  obtain ⟨i9, hi9⟩ := wL_ix m9
  have lk0 := hts (.fieldLink RX6 14 "FormForge" "field" "LFormForge$Field;") (by decide +kernel)
  have lk1 := hts (.fieldLink RX6 57 "FormForge" "first" "[I") (by decide +kernel)
  have lk2 := hts (.fieldLink RX6 80 "FormForge$Field" "p" "I") (by decide +kernel)
  have n2 : ∀ w ∈ wsX20, w ∈ wsX6_divisions := by decide +kernel
  have n6 : ∀ w ∈ wsX60, w ∈ wsX6_divisions := by decide +kernel
  unfold f_X6_divisions at h
  refine lv_aload_n hx hb dX6_divisions_0 rfl (lv_at hl 0 rfl) ?_
  refine va_get (C := RX6) (T := TX6) (N := 12) hx hb hts n6 hown hK hP i0 (cg_0 hi0) rfl 0 (by decide) lk0 (fun _ h9 => h9) rfl dX6_divisions_1 ?_
  refine lv_iload_n hx hb dX6_divisions_4 rfl (lv_at hl 2 rfl) ?_
  refine lv_aload_n hx hb dX6_divisions_5 rfl (lv_at hl 0 rfl) ?_
  refine va_get (C := RX6) (T := TX6) (N := 12) hx hb hts n6 hown hK hP i0 (cg_0 hi0) rfl 7 (by decide) lk1 (fun _ h9 => h9) rfl dX6_divisions_6 ?_
  refine cc_v (va_runV (C := RX2) (As := [.int a2, .ref (ad 9)]) (rest := []) ⟨hx, hb, hml, hown, hts⟩ (c_X2_spell hL (Or.inl ⟨by decide, by decide⟩) m9 hwd H.size u a2 _ h) (cwV 2 hts gX6_divisions_X2_spell rfl rfl rfl (by decide +kernel) ⟨Nat.le_of_ble_eq_true rfl, Nat.le_of_ble_eq_true rfl⟩) (pcV hC hP hS (cg_1 hi1) rfl) rfl rfl hl.1 rfl (lv_room (Nat.le_of_ble_eq_true rfl)) dX6_divisions_9 ⟨Nat.zero_le _, Nat.zero_le _⟩) hS (cA_mono hS.1) (fun u1 H locs h hP hS => ?_)
  refine lv_iconst (v := 0) hx hb dX6_divisions_12 (by decide) ?_
  refine lv_istore (lv' := [(4, .int 0), (0, .ref (ad 0)), (1, .int a1), (2, .int a2), (3, .int a3)]) hx hb dX6_divisions_13 hl (by decide) rfl (fun ls hl => ?_)
  refine lv_iload_n hx hb dX6_divisions_15 rfl (lv_at hl 2 rfl) ?_
  refine lv_istore (lv' := [(5, .int a1), (4, .int 0), (0, .ref (ad 0)), (1, .int a1), (2, .int a2), (3, .int a3)]) hx hb dX6_divisions_16 hl (by decide) rfl (fun ls hl => ?_)
  obtain ⟨n14, h⟩ := h
  refine w_X6_divisions_L18 hL X a3 _ _ (fun v15 u16 H locs ls h hP hS hl => ?_) _ (fun v17 u18 H locs ls h hP hS hl => ?_) n14 0 a1 _ _ _ _ h hP hS (lv_sub hl [2, 5, 1, 0] rfl)
  · refine lv_iload hx hb dX6_divisions_57 (lv_at hl 0 rfl) ?_
    exact W.iret (v := v15) hx hb hr (fun t ht hW => ⟨⟨_, _, rfl, h, by show va_P _ _ _ t.heap; rw [ht]; exact hP⟩, hS.F ht⟩) hS.2.2 dX6_divisions_59
  · refine lv_iload hx hb dX6_divisions_69 (lv_at hl 0 rfl) ?_
    exact W.iret (v := v17) hx hb hr (fun t ht hW => ⟨⟨_, _, rfl, h, by show va_P _ _ _ t.heap; rw [ht]; exact hP⟩, hS.F ht⟩) hS.2.2 dX6_divisions_71
set_option maxRecDepth 100000 in
set_option maxHeartbeats 4000000 in
theorem c_X6_divisions {l : Launch} {D : va_G} {cI cG cZ cJ : ClassId} {ts : Nat × Nat} {L : List Nat} {ad : Nat → Nat} {al : Nat} (hL : Lf L al) (hwd : WD L ad) (sz : Nat) (u : St) (a1 : Int32) (a2 : Int32) (a3 : Int32) (Q : Int32 → St → Prop) (h : f_X6_divisions al a1 a2 a3 u Q) : Met l yX6_divisions wsX6_divisions ({ frames := 3, cells := 0, slots := 0, locals := 67 }) (va_Pc [.ref (ad 0), .int a1, .int a2, .int a3] (PC D cI cG cZ cJ ts L ad al sz u)) (va_Qi Q (fun u9 t => va_P D vwCl (cW cI cG L ad al u9) t.heap) (cA L ad sz)) 0 0 (cA L ad sz) := by
  refine Met.ofW (cc := cX6_divisions) (maxL := 7) (ret := (some .int)) (by decide) rfl ?_
  intro p e s m args below meth c s₁ B hml hv
  obtain ⟨rfl, hsz, hP, hC⟩ := hv
  subst hsz
  have X : FX RX6 wsX6_divisions cX6_divisions 7 (some .int) D cI cG cZ cJ ts L ad p s m _ meth c := ⟨B.exec, B.bytes, hml, findClass_of_methodNamed B.named, atoms_spec (ws := wsX6_divisions) B.pre, B.returns, B.notSynchronized, hwd, hC⟩
  have hl := lv_entry ([.ref (ad 0), .int a1, .int a2, .int a3]) (n := 7) (Nat.le_of_ble_eq_true rfl)
  rw [lg_entry_eq]
  generalize (lg_sl ([.ref (ad 0), .int a1, .int a2, .int a3]) ++ List.replicate (7 - (lg_sl ([.ref (ad 0), .int a1, .int a2, .int a3])).length) Slot.unset).toArray = ls at hl ⊢
  exact w_X6_divisions hL X a1 a2 a3 Q u _ _ _ h hP va_S.rf hl
set_option maxRecDepth 100000 in
set_option maxHeartbeats 4000000 in
theorem w_X6_countRoots_L5 {p : Program} {l : Launch} {e : Env} {s : State} {m : MethodId} {args : Array Value} {below : List Frame} {meth : Method} {c : Code} {D : va_G} {cI cG cZ cJ : ClassId} {ts : Nat × Nat} {L : List Nat} {ad : Nat → Nat} {al : Nat} (hL : Lf L al) (X : FX RX6 wsX6_countRoots cX6_countRoots 5 (some .int) D cI cG cZ cJ ts L ad p s m args meth c) (a1 : Int32) (a2 : Int32) (Q : Int32 → St → Prop)
    (K0 : Int32 → St → Prop) (hk0 : ∀ (b3 : Int32) (u : St) (H : Heap) (locs : List Loc) (ls : Array Slot), K0 b3 u → va_P D vwCl (cW cI cG L ad al u) H → va_S (cA L ad s.heap.size) s.heap H locs → lv_has ls 5 [(3, .int b3)] → W p l e (headSpec wsX6_countRoots { frames := 4, cells := 0, slots := 0, locals := 93 }).room s m args below meth c H locs 0 0 (MQ below (va_Qi Q (fun u9 t => va_P D vwCl (cW cI cG L ad al u9) t.heap) (cA L ad s.heap.size)) args s 0 0 (cA L ad s.heap.size)) (F0 m 37 ls []))
    : ∀ (n : Nat) (a3 : Int32) (a4 : Int32) (u : St) (H : Heap) (locs : List Loc) (ls : Array Slot), f_X6_countRoots_L5 al a1 a2 Q K0 n a3 a4 u → va_P D vwCl (cW cI cG L ad al u) H → va_S (cA L ad s.heap.size) s.heap H locs → lv_has ls 5 [(0, .ref (ad 0)), (1, .int a1), (2, .int a2), (3, .int a3), (4, .int a4)] → W p l e (headSpec wsX6_countRoots { frames := 4, cells := 0, slots := 0, locals := 93 }).room s m args below meth c H locs 0 0 (MQ below (va_Qi Q (fun u9 t => va_P D vwCl (cW cI cG L ad al u9) t.heap) (cA L ad s.heap.size)) args s 0 0 (cA L ad s.heap.size)) (F0 m 5 ls []) := by
  obtain ⟨hx, hb, hml, hown, hts, hr, hlocks, hwd, hC⟩ := id X
  have hK := hC.1
  have m0 : 0 ∈ L := hL 0 (by omega)
  obtain ⟨i0, hi0⟩ := wL_ix m0
  have m1 : 1 ∈ L := hL 1 (by omega)
  obtain ⟨i1, hi1⟩ := wL_ix m1
  have lk0 := hts (.fieldLink RX6 14 "FormForge" "field" "LFormForge$Field;") (by decide +kernel)
  have lk1 := hts (.fieldLink RX6 80 "FormForge$Field" "p" "I") (by decide +kernel)
  have n2 : ∀ w ∈ wsX20, w ∈ wsX6_countRoots := by decide +kernel
  have n6 : ∀ w ∈ wsX60, w ∈ wsX6_countRoots := by decide +kernel
  intro n
  induction n with
  | zero =>
    intro a3 a4 u H locs ls h; exact h.elim
  | succ n ih =>
    intro a3 a4 u H locs ls h hP hS hl
    replace h : f_X6_countRoots_L5_s al a1 a2 Q K0 (f_X6_countRoots_L5 al a1 a2 Q K0 n) a3 a4 u := h
    unfold f_X6_countRoots_L5_s at h
    refine lv_iload hx hb dX6_countRoots_5 (lv_at hl 4 rfl) ?_
    refine lv_aload_n hx hb dX6_countRoots_7 rfl (lv_at hl 0 rfl) ?_
    refine va_get (C := RX6) (T := TX6) (N := 12) hx hb hts n6 hown hK hP i0 (cg_0 hi0) rfl 0 (by decide) lk0 (fun _ h9 => h9) rfl dX6_countRoots_8 ?_
    refine va_get (C := RX2) (T := TX2) (N := 1) hx hb hts n2 hown hK hP i1 (cg_1 hi1) rfl 0 (by decide) lk1 (fun _ h9 => h9) rfl dX6_countRoots_11 ?_
    refine lv_icmp_gt (tgt := 37) hx hb dX6_countRoots_14 (by decide) (fun c1 => ?_) (fun c1 => ?_)
    · replace h := h.1 c1
      exact hk0 a3 _ _ _ _ h hP hS (lv_sub hl [3] rfl)
    · replace h := h.2 c1
      refine lv_aload_n hx hb dX6_countRoots_17 rfl (lv_at hl 0 rfl) ?_
      refine lv_iload_n hx hb dX6_countRoots_18 rfl (lv_at hl 1 rfl) ?_
      refine lv_iload_n hx hb dX6_countRoots_19 rfl (lv_at hl 2 rfl) ?_
      refine lv_iload hx hb dX6_countRoots_20 (lv_at hl 4 rfl) ?_
      refine cc_i (va_runV (C := RX6) (As := [.int a1, .int a2, .int a4]) (rest := []) ⟨hx, hb, hml, hown, hts⟩ (c_X6_divisions hL hwd H.size u a1 a2 a4 _ h) (cwV 3 hts gX6_countRoots_X6_divisions rfl rfl rfl (by decide +kernel) ⟨Nat.le_of_ble_eq_true rfl, Nat.le_of_ble_eq_true rfl⟩) (pcV hC hP hS (cg_0 hi0) rfl) rfl rfl hl.1 rfl (lv_room (Nat.le_of_ble_eq_true rfl)) dX6_countRoots_22 ⟨Nat.zero_le _, Nat.zero_le _⟩) hS (cA_mono hS.1) (fun v2 u3 H locs h hP hS => ?_)
      refine lv_if_le (tgt := 31) hx hb dX6_countRoots_25 (by decide) (fun c4 => ?_) (fun c4 => ?_)
      · replace h := h.1 c4
        obtain ⟨v5, ev5⟩ : ∃ y : Int32, y = a4 + 1 := ⟨_, rfl⟩
        refine lv_iinc (v := v5) (lv' := [(4, .int v5), (0, .ref (ad 0)), (1, .int a1), (2, .int a2), (3, .int a3)]) hx hb dX6_countRoots_31 hl (k := 4) rfl (by rw [ev5]; rfl) (by decide) rfl (fun ls hl => ?_)
        replace h := h v5 ev5
        refine lv_goto (tgt := 5) hx hb dX6_countRoots_34 (by decide) ?_
        exact ih a3 v5 _ _ _ _ h hP hS (lv_sub hl [1, 2, 3, 4, 0] rfl)
      · replace h := h.2 c4
        obtain ⟨v6, ev6⟩ : ∃ y : Int32, y = a3 + 1 := ⟨_, rfl⟩
        refine lv_iinc (v := v6) (lv' := [(3, .int v6), (0, .ref (ad 0)), (1, .int a1), (2, .int a2), (4, .int a4)]) hx hb dX6_countRoots_28 hl (k := 3) rfl (by rw [ev6]; rfl) (by decide) rfl (fun ls hl => ?_)
        replace h := h v6 ev6
        obtain ⟨v7, ev7⟩ : ∃ y : Int32, y = a4 + 1 := ⟨_, rfl⟩
        refine lv_iinc (v := v7) (lv' := [(4, .int v7), (3, .int v6), (0, .ref (ad 0)), (1, .int a1), (2, .int a2)]) hx hb dX6_countRoots_31 hl (k := 4) rfl (by rw [ev7]; rfl) (by decide) rfl (fun ls hl => ?_)
        replace h := h v7 ev7
        refine lv_goto (tgt := 5) hx hb dX6_countRoots_34 (by decide) ?_
        exact ih v6 v7 _ _ _ _ h hP hS (lv_sub hl [2, 3, 4, 1, 0] rfl)
set_option maxRecDepth 100000 in
set_option maxHeartbeats 4000000 in
theorem w_X6_countRoots {p : Program} {l : Launch} {e : Env} {s : State} {m : MethodId} {args : Array Value} {below : List Frame} {meth : Method} {c : Code} {D : va_G} {cI cG cZ cJ : ClassId} {ts : Nat × Nat} {L : List Nat} {ad : Nat → Nat} {al : Nat} (hL : Lf L al) (X : FX RX6 wsX6_countRoots cX6_countRoots 5 (some .int) D cI cG cZ cJ ts L ad p s m args meth c) (a1 : Int32) (a2 : Int32) (Q : Int32 → St → Prop) (u : St) (H : Heap) (locs : List Loc) (ls : Array Slot) (h : f_X6_countRoots al a1 a2 u Q) (hP : va_P D vwCl (cW cI cG L ad al u) H) (hS : va_S (cA L ad s.heap.size) s.heap H locs) (hl : lv_has ls 5 [(0, .ref (ad 0)), (1, .int a1), (2, .int a2)]) : W p l e (headSpec wsX6_countRoots { frames := 4, cells := 0, slots := 0, locals := 93 }).room s m args below meth c H locs 0 0 (MQ below (va_Qi Q (fun u9 t => va_P D vwCl (cW cI cG L ad al u9) t.heap) (cA L ad s.heap.size)) args s 0 0 (cA L ad s.heap.size)) (F0 m 0 ls []) := by
  obtain ⟨hx, hb, hml, hown, hts, hr, hlocks, hwd, hC⟩ := id X
  have hK := hC.1
  have m0 : 0 ∈ L := hL 0 (by omega)
  obtain ⟨i0, hi0⟩ := wL_ix m0
  have m1 : 1 ∈ L := hL 1 (by omega)
  obtain ⟨i1, hi1⟩ := wL_ix m1
  have lk0 := hts (.fieldLink RX6 14 "FormForge" "field" "LFormForge$Field;") (by decide +kernel)
  have lk1 := hts (.fieldLink RX6 80 "FormForge$Field" "p" "I") (by decide +kernel)
  have n2 : ∀ w ∈ wsX20, w ∈ wsX6_countRoots := by decide +kernel
  have n6 : ∀ w ∈ wsX60, w ∈ wsX6_countRoots := by decide +kernel
  unfold f_X6_countRoots at h
  refine lv_iconst (v := 0) hx hb dX6_countRoots_0 (by decide) ?_
  refine lv_istore_n (lv' := [(3, .int 0), (0, .ref (ad 0)), (1, .int a1), (2, .int a2)]) hx hb dX6_countRoots_1 rfl hl (by decide) rfl (fun ls hl => ?_)
  refine lv_iconst (v := 0) hx hb dX6_countRoots_2 (by decide) ?_
  refine lv_istore (lv' := [(4, .int 0), (3, .int 0), (0, .ref (ad 0)), (1, .int a1), (2, .int a2)]) hx hb dX6_countRoots_3 hl (by decide) rfl (fun ls hl => ?_)
  obtain ⟨n8, h⟩ := h
  refine w_X6_countRoots_L5 hL X a1 a2 _ _ (fun v9 u10 H locs ls h hP hS hl => ?_) n8 0 0 _ _ _ _ h hP hS (lv_sub hl [2, 3, 4, 1, 0] rfl)
  refine lv_iload_n hx hb dX6_countRoots_37 rfl (lv_at hl 0 rfl) ?_
  exact W.iret (v := v9) hx hb hr (fun t ht hW => ⟨⟨_, _, rfl, h, by show va_P _ _ _ t.heap; rw [ht]; exact hP⟩, hS.F ht⟩) hS.2.2 dX6_countRoots_38
set_option maxRecDepth 100000 in
set_option maxHeartbeats 4000000 in
theorem c_X6_countRoots {l : Launch} {D : va_G} {cI cG cZ cJ : ClassId} {ts : Nat × Nat} {L : List Nat} {ad : Nat → Nat} {al : Nat} (hL : Lf L al) (hwd : WD L ad) (sz : Nat) (u : St) (a1 : Int32) (a2 : Int32) (Q : Int32 → St → Prop) (h : f_X6_countRoots al a1 a2 u Q) : Met l yX6_countRoots wsX6_countRoots ({ frames := 4, cells := 0, slots := 0, locals := 93 }) (va_Pc [.ref (ad 0), .int a1, .int a2] (PC D cI cG cZ cJ ts L ad al sz u)) (va_Qi Q (fun u9 t => va_P D vwCl (cW cI cG L ad al u9) t.heap) (cA L ad sz)) 0 0 (cA L ad sz) := by
  refine Met.ofW (cc := cX6_countRoots) (maxL := 5) (ret := (some .int)) (by decide) rfl ?_
  intro p e s m args below meth c s₁ B hml hv
  obtain ⟨rfl, hsz, hP, hC⟩ := hv
  subst hsz
  have X : FX RX6 wsX6_countRoots cX6_countRoots 5 (some .int) D cI cG cZ cJ ts L ad p s m _ meth c := ⟨B.exec, B.bytes, hml, findClass_of_methodNamed B.named, atoms_spec (ws := wsX6_countRoots) B.pre, B.returns, B.notSynchronized, hwd, hC⟩
  have hl := lv_entry ([.ref (ad 0), .int a1, .int a2]) (n := 5) (Nat.le_of_ble_eq_true rfl)
  rw [lg_entry_eq]
  generalize (lg_sl ([.ref (ad 0), .int a1, .int a2]) ++ List.replicate (5 - (lg_sl ([.ref (ad 0), .int a1, .int a2])).length) Slot.unset).toArray = ls at hl ⊢
  exact w_X6_countRoots hL X a1 a2 Q u _ _ _ h hP va_S.rf hl
set_option maxRecDepth 100000 in
set_option maxHeartbeats 4000000 in
theorem w_X6_isNull_L2 {p : Program} {l : Launch} {e : Env} {s : State} {m : MethodId} {args : Array Value} {below : List Frame} {meth : Method} {c : Code} {D : va_G} {cI cG cZ cJ : ClassId} {ts : Nat × Nat} {L : List Nat} {ad : Nat → Nat} {al : Nat} (hL : Lf L al) (X : FX RX6 wsX6_isNull cX6_isNull 4 (some .boolean) D cI cG cZ cJ ts L ad p s m args meth c) (a1 : Int32) (a2 : Int32) (Q : Int32 → St → Prop)
    (K0 : St → Prop) (hk0 : ∀ (u : St) (H : Heap) (locs : List Loc) (ls : Array Slot), K0 u → va_P D vwCl (cW cI cG L ad al u) H → va_S (cA L ad s.heap.size) s.heap H locs → lv_has ls 4 [] → W p l e (headSpec wsX6_isNull { frames := 4, cells := 0, slots := 0, locals := 93 }).room s m args below meth c H locs 0 0 (MQ below (va_Qi Q (fun u9 t => va_P D vwCl (cW cI cG L ad al u9) t.heap) (cA L ad s.heap.size)) args s 0 0 (cA L ad s.heap.size)) (F0 m 26 ls []))
    (K1 : St → Prop) (hk1 : ∀ (u : St) (H : Heap) (locs : List Loc) (ls : Array Slot), K1 u → va_P D vwCl (cW cI cG L ad al u) H → va_S (cA L ad s.heap.size) s.heap H locs → lv_has ls 4 [] → W p l e (headSpec wsX6_isNull { frames := 4, cells := 0, slots := 0, locals := 93 }).room s m args below meth c H locs 0 0 (MQ below (va_Qi Q (fun u9 t => va_P D vwCl (cW cI cG L ad al u9) t.heap) (cA L ad s.heap.size)) args s 0 0 (cA L ad s.heap.size)) (F0 m 34 ls []))
    : ∀ (n : Nat) (a3 : Int32) (u : St) (H : Heap) (locs : List Loc) (ls : Array Slot), f_X6_isNull_L2 al a1 a2 Q K0 K1 n a3 u → va_P D vwCl (cW cI cG L ad al u) H → va_S (cA L ad s.heap.size) s.heap H locs → lv_has ls 4 [(0, .ref (ad 0)), (1, .int a1), (2, .int a2), (3, .int a3)] → W p l e (headSpec wsX6_isNull { frames := 4, cells := 0, slots := 0, locals := 93 }).room s m args below meth c H locs 0 0 (MQ below (va_Qi Q (fun u9 t => va_P D vwCl (cW cI cG L ad al u9) t.heap) (cA L ad s.heap.size)) args s 0 0 (cA L ad s.heap.size)) (F0 m 2 ls []) := by
  obtain ⟨hx, hb, hml, hown, hts, hr, hlocks, hwd, hC⟩ := id X
  have hK := hC.1
  have m0 : 0 ∈ L := hL 0 (by omega)
  obtain ⟨i0, hi0⟩ := wL_ix m0
  have m1 : 1 ∈ L := hL 1 (by omega)
  obtain ⟨i1, hi1⟩ := wL_ix m1
  have lk0 := hts (.fieldLink RX6 14 "FormForge" "field" "LFormForge$Field;") (by decide +kernel)
  have lk1 := hts (.fieldLink RX6 80 "FormForge$Field" "p" "I") (by decide +kernel)
  have n2 : ∀ w ∈ wsX20, w ∈ wsX6_isNull := by decide +kernel
  have n6 : ∀ w ∈ wsX60, w ∈ wsX6_isNull := by decide +kernel
  intro n
  induction n with
  | zero =>
    intro a3 u H locs ls h; exact h.elim
  | succ n ih =>
    intro a3 u H locs ls h hP hS hl
    replace h : f_X6_isNull_L2_s al a1 a2 Q K0 K1 (f_X6_isNull_L2 al a1 a2 Q K0 K1 n) a3 u := h
    unfold f_X6_isNull_L2_s at h
    refine lv_iload_n hx hb dX6_isNull_2 rfl (lv_at hl 3 rfl) ?_
    refine lv_aload_n hx hb dX6_isNull_3 rfl (lv_at hl 0 rfl) ?_
    refine va_get (C := RX6) (T := TX6) (N := 12) hx hb hts n6 hown hK hP i0 (cg_0 hi0) rfl 0 (by decide) lk0 (fun _ h9 => h9) rfl dX6_isNull_4 ?_
    refine va_get (C := RX2) (T := TX2) (N := 1) hx hb hts n2 hown hK hP i1 (cg_1 hi1) rfl 0 (by decide) lk1 (fun _ h9 => h9) rfl dX6_isNull_7 ?_
    refine lv_icmp_gt (tgt := 34) hx hb dX6_isNull_10 (by decide) (fun c1 => ?_) (fun c1 => ?_)
    · replace h := h.1 c1
      exact hk1  _ _ _ _ h hP hS (lv_sub hl [] rfl)
    · replace h := h.2 c1
      refine lv_iconst (v := 2) hx hb dX6_isNull_13 (by decide) ?_
      refine lv_aload_n hx hb dX6_isNull_14 rfl (lv_at hl 0 rfl) ?_
      refine lv_iload_n hx hb dX6_isNull_15 rfl (lv_at hl 1 rfl) ?_
      refine lv_iload_n hx hb dX6_isNull_16 rfl (lv_at hl 2 rfl) ?_
      refine lv_iload_n hx hb dX6_isNull_17 rfl (lv_at hl 3 rfl) ?_
      refine cc_i (va_runV (C := RX6) (As := [.int a1, .int a2, .int a3]) (rest := [.int 2]) ⟨hx, hb, hml, hown, hts⟩ (c_X6_divisions hL hwd H.size u a1 a2 a3 _ h) (cwV 3 hts gX6_isNull_X6_divisions rfl rfl rfl (by decide +kernel) ⟨Nat.le_of_ble_eq_true rfl, Nat.le_of_ble_eq_true rfl⟩) (pcV hC hP hS (cg_0 hi0) rfl) rfl rfl hl.1 rfl (lv_room (Nat.le_of_ble_eq_true rfl)) dX6_isNull_18 ⟨Nat.zero_le _, Nat.zero_le _⟩) hS (cA_mono hS.1) (fun v2 u3 H locs h hP hS => ?_)
      refine lv_imul hx hb dX6_isNull_21 ?_
      refine lv_iload_n hx hb dX6_isNull_22 rfl (lv_at hl 1 rfl) ?_
      refine lv_icmp_le (tgt := 28) hx hb dX6_isNull_23 (by decide) (fun c4 => ?_) (fun c4 => ?_)
      · replace h := h.1 c4
        obtain ⟨v5, ev5⟩ : ∃ y : Int32, y = a3 + 1 := ⟨_, rfl⟩
        refine lv_iinc (v := v5) (lv' := [(3, .int v5), (0, .ref (ad 0)), (1, .int a1), (2, .int a2)]) hx hb dX6_isNull_28 hl (k := 3) rfl (by rw [ev5]; rfl) (by decide) rfl (fun ls hl => ?_)
        replace h := h v5 ev5
        refine lv_goto (tgt := 2) hx hb dX6_isNull_31 (by decide) ?_
        exact ih v5 _ _ _ _ h hP hS (lv_sub hl [1, 2, 3, 0] rfl)
      · replace h := h.2 c4
        exact hk0  _ _ _ _ h hP hS (lv_sub hl [] rfl)
set_option maxRecDepth 100000 in
set_option maxHeartbeats 4000000 in
theorem w_X6_isNull {p : Program} {l : Launch} {e : Env} {s : State} {m : MethodId} {args : Array Value} {below : List Frame} {meth : Method} {c : Code} {D : va_G} {cI cG cZ cJ : ClassId} {ts : Nat × Nat} {L : List Nat} {ad : Nat → Nat} {al : Nat} (hL : Lf L al) (X : FX RX6 wsX6_isNull cX6_isNull 4 (some .boolean) D cI cG cZ cJ ts L ad p s m args meth c) (a1 : Int32) (a2 : Int32) (Q : Int32 → St → Prop) (u : St) (H : Heap) (locs : List Loc) (ls : Array Slot) (h : f_X6_isNull al a1 a2 u Q) (hP : va_P D vwCl (cW cI cG L ad al u) H) (hS : va_S (cA L ad s.heap.size) s.heap H locs) (hl : lv_has ls 4 [(0, .ref (ad 0)), (1, .int a1), (2, .int a2)]) : W p l e (headSpec wsX6_isNull { frames := 4, cells := 0, slots := 0, locals := 93 }).room s m args below meth c H locs 0 0 (MQ below (va_Qi Q (fun u9 t => va_P D vwCl (cW cI cG L ad al u9) t.heap) (cA L ad s.heap.size)) args s 0 0 (cA L ad s.heap.size)) (F0 m 0 ls []) := by
  obtain ⟨hx, hb, hml, hown, hts, hr, hlocks, hwd, hC⟩ := id X
  have hK := hC.1
  have m0 : 0 ∈ L := hL 0 (by omega)
  obtain ⟨i0, hi0⟩ := wL_ix m0
  have m1 : 1 ∈ L := hL 1 (by omega)
  obtain ⟨i1, hi1⟩ := wL_ix m1
  have lk0 := hts (.fieldLink RX6 14 "FormForge" "field" "LFormForge$Field;") (by decide +kernel)
  have lk1 := hts (.fieldLink RX6 80 "FormForge$Field" "p" "I") (by decide +kernel)
  have n2 : ∀ w ∈ wsX20, w ∈ wsX6_isNull := by decide +kernel
  have n6 : ∀ w ∈ wsX60, w ∈ wsX6_isNull := by decide +kernel
  unfold f_X6_isNull at h
  refine lv_iconst (v := 0) hx hb dX6_isNull_0 (by decide) ?_
  refine lv_istore_n (lv' := [(3, .int 0), (0, .ref (ad 0)), (1, .int a1), (2, .int a2)]) hx hb dX6_isNull_1 rfl hl (by decide) rfl (fun ls hl => ?_)
  obtain ⟨n6, h⟩ := h
  refine w_X6_isNull_L2 hL X a1 a2 _ _ (fun u7 H locs ls h hP hS hl => ?_) _ (fun u8 H locs ls h hP hS hl => ?_) n6 0 _ _ _ _ h hP hS (lv_sub hl [1, 2, 3, 0] rfl)
  · refine lv_iconst (v := 1) hx hb dX6_isNull_26 (by decide) ?_
    exact W.zret (ty := .boolean) (v := 1) hx hb hr rfl (fun t ht hW => ⟨⟨_, _, rfl, h, by show va_P _ _ _ t.heap; rw [ht]; exact hP⟩, hS.F ht⟩) hS.2.2 dX6_isNull_27
  · refine lv_iconst (v := 0) hx hb dX6_isNull_34 (by decide) ?_
    exact W.zret (ty := .boolean) (v := 0) hx hb hr rfl (fun t ht hW => ⟨⟨_, _, rfl, h, by show va_P _ _ _ t.heap; rw [ht]; exact hP⟩, hS.F ht⟩) hS.2.2 dX6_isNull_35
set_option maxRecDepth 100000 in
set_option maxHeartbeats 4000000 in
theorem c_X6_isNull {l : Launch} {D : va_G} {cI cG cZ cJ : ClassId} {ts : Nat × Nat} {L : List Nat} {ad : Nat → Nat} {al : Nat} (hL : Lf L al) (hwd : WD L ad) (sz : Nat) (u : St) (a1 : Int32) (a2 : Int32) (Q : Int32 → St → Prop) (h : f_X6_isNull al a1 a2 u Q) : Met l yX6_isNull wsX6_isNull ({ frames := 4, cells := 0, slots := 0, locals := 93 }) (va_Pc [.ref (ad 0), .int a1, .int a2] (PC D cI cG cZ cJ ts L ad al sz u)) (va_Qi Q (fun u9 t => va_P D vwCl (cW cI cG L ad al u9) t.heap) (cA L ad sz)) 0 0 (cA L ad sz) := by
  refine Met.ofW (cc := cX6_isNull) (maxL := 4) (ret := (some .boolean)) (by decide) rfl ?_
  intro p e s m args below meth c s₁ B hml hv
  obtain ⟨rfl, hsz, hP, hC⟩ := hv
  subst hsz
  have X : FX RX6 wsX6_isNull cX6_isNull 4 (some .boolean) D cI cG cZ cJ ts L ad p s m _ meth c := ⟨B.exec, B.bytes, hml, findClass_of_methodNamed B.named, atoms_spec (ws := wsX6_isNull) B.pre, B.returns, B.notSynchronized, hwd, hC⟩
  have hl := lv_entry ([.ref (ad 0), .int a1, .int a2]) (n := 4) (Nat.le_of_ble_eq_true rfl)
  rw [lg_entry_eq]
  generalize (lg_sl ([.ref (ad 0), .int a1, .int a2]) ++ List.replicate (4 - (lg_sl ([.ref (ad 0), .int a1, .int a2])).length) Slot.unset).toArray = ls at hl ⊢
  exact w_X6_isNull hL X a1 a2 Q u _ _ _ h hP va_S.rf hl
set_option maxRecDepth 100000 in
set_option maxHeartbeats 4000000 in
theorem w_X6_order {p : Program} {l : Launch} {e : Env} {s : State} {m : MethodId} {args : Array Value} {below : List Frame} {meth : Method} {c : Code} {D : va_G} {cI cG cZ cJ : ClassId} {ts : Nat × Nat} {L : List Nat} {ad : Nat → Nat} {al : Nat} (hL : Lf L al) (X : FX RX6 wsX6_order cX6_order 1 (some .int) D cI cG cZ cJ ts L ad p s m args meth c)  (Q : Int32 → St → Prop) (u : St) (H : Heap) (locs : List Loc) (ls : Array Slot) (h : f_X6_order al u Q) (hP : va_P D vwCl (cW cI cG L ad al u) H) (hS : va_S (cA L ad s.heap.size) s.heap H locs) (hl : lv_has ls 1 [(0, .ref (ad 0))]) : W p l e (headSpec wsX6_order { frames := 0, cells := 0, slots := 0, locals := 0 }).room s m args below meth c H locs 0 0 (MQ below (va_Qi Q (fun u9 t => va_P D vwCl (cW cI cG L ad al u9) t.heap) (cA L ad s.heap.size)) args s 0 0 (cA L ad s.heap.size)) (F0 m 0 ls []) := by
  obtain ⟨hx, hb, hml, hown, hts, hr, hlocks, hwd, hC⟩ := id X
  have hK := hC.1
  have m0 : 0 ∈ L := hL 0 (by omega)
  obtain ⟨i0, hi0⟩ := wL_ix m0
  have m4 : 4 ∈ L := hL 4 (by omega)
  obtain ⟨i4, hi4⟩ := wL_ix m4
  have lk0 := hts (.fieldLink RX6 37 "FormForge" "group" "LFormForge$Group;") (by decide +kernel)
  have lk1 := hts (.fieldLink RX6 177 "FormForge$Group" "size" "I") (by decide +kernel)
  have n4 : ∀ w ∈ wsX40, w ∈ wsX6_order := by decide +kernel
  have n6 : ∀ w ∈ wsX60, w ∈ wsX6_order := by decide +kernel
  unfold f_X6_order at h
  refine lv_aload_n hx hb dX6_order_0 rfl (lv_at hl 0 rfl) ?_
  refine va_get (C := RX6) (T := TX6) (N := 12) hx hb hts n6 hown hK hP i0 (cg_0 hi0) rfl 3 (by decide) lk0 (fun _ h9 => h9) rfl dX6_order_1 ?_
  refine va_get (C := RX4) (T := TX4) (N := 6) hx hb hts n4 hown hK hP i4 (cg_4 hi4) rfl 5 (by decide) lk1 (fun _ h9 => h9) rfl dX6_order_4 ?_
  exact W.iret (v := (u 0 5)) hx hb hr (fun t ht hW => ⟨⟨_, _, rfl, h, by show va_P _ _ _ t.heap; rw [ht]; exact hP⟩, hS.F ht⟩) hS.2.2 dX6_order_7
set_option maxRecDepth 100000 in
set_option maxHeartbeats 4000000 in
theorem c_X6_order {l : Launch} {D : va_G} {cI cG cZ cJ : ClassId} {ts : Nat × Nat} {L : List Nat} {ad : Nat → Nat} {al : Nat} (hL : Lf L al) (hwd : WD L ad) (sz : Nat) (u : St) (Q : Int32 → St → Prop) (h : f_X6_order al u Q) : Met l yX6_order wsX6_order ({ frames := 0, cells := 0, slots := 0, locals := 0 }) (va_Pc [.ref (ad 0)] (PC D cI cG cZ cJ ts L ad al sz u)) (va_Qi Q (fun u9 t => va_P D vwCl (cW cI cG L ad al u9) t.heap) (cA L ad sz)) 0 0 (cA L ad sz) := by
  refine Met.ofW (cc := cX6_order) (maxL := 1) (ret := (some .int)) (by decide) rfl ?_
  intro p e s m args below meth c s₁ B hml hv
  obtain ⟨rfl, hsz, hP, hC⟩ := hv
  subst hsz
  have X : FX RX6 wsX6_order cX6_order 1 (some .int) D cI cG cZ cJ ts L ad p s m _ meth c := ⟨B.exec, B.bytes, hml, findClass_of_methodNamed B.named, atoms_spec (ws := wsX6_order) B.pre, B.returns, B.notSynchronized, hwd, hC⟩
  have hl := lv_entry ([.ref (ad 0)]) (n := 1) (Nat.le_of_ble_eq_true rfl)
  rw [lg_entry_eq]
  generalize (lg_sl ([.ref (ad 0)]) ++ List.replicate (1 - (lg_sl ([.ref (ad 0)])).length) Slot.unset).toArray = ls at hl ⊢
  exact w_X6_order hL X Q u _ _ _ h hP va_S.rf hl
set_option maxRecDepth 100000 in
set_option maxHeartbeats 4000000 in
theorem w_X6_falling_L4 {p : Program} {l : Launch} {e : Env} {s : State} {m : MethodId} {args : Array Value} {below : List Frame} {meth : Method} {c : Code} {D : va_G} {cI cG cZ cJ : ClassId} {ts : Nat × Nat} {L : List Nat} {ad : Nat → Nat} {al : Nat} (hL : Lf L al) (X : FX RX6 wsX6_falling cX6_falling 4 (some .int) D cI cG cZ cJ ts L ad p s m args meth c) (a0 : Int32) (a1 : Int32) (Q : Int32 → St → Prop)
    (K0 : Int32 → St → Prop) (hk0 : ∀ (b2 : Int32) (u : St) (H : Heap) (locs : List Loc) (ls : Array Slot), K0 b2 u → va_P D vwCl (cW cI cG L ad al u) H → va_S (cA L ad s.heap.size) s.heap H locs → lv_has ls 4 [(2, .int b2)] → W p l e (headSpec wsX6_falling { frames := 0, cells := 0, slots := 0, locals := 0 }).room s m args below meth c H locs 0 0 (MQ below (va_Qi Q (fun u9 t => va_P D vwCl (cW cI cG L ad al u9) t.heap) (cA L ad s.heap.size)) args s 0 0 (cA L ad s.heap.size)) (F0 m 21 ls []))
    : ∀ (n : Nat) (a2 : Int32) (a3 : Int32) (u : St) (H : Heap) (locs : List Loc) (ls : Array Slot), f_X6_falling_L4 al a0 a1 Q K0 n a2 a3 u → va_P D vwCl (cW cI cG L ad al u) H → va_S (cA L ad s.heap.size) s.heap H locs → lv_has ls 4 [(0, .int a0), (1, .int a1), (2, .int a2), (3, .int a3)] → W p l e (headSpec wsX6_falling { frames := 0, cells := 0, slots := 0, locals := 0 }).room s m args below meth c H locs 0 0 (MQ below (va_Qi Q (fun u9 t => va_P D vwCl (cW cI cG L ad al u9) t.heap) (cA L ad s.heap.size)) args s 0 0 (cA L ad s.heap.size)) (F0 m 4 ls []) := by
  obtain ⟨hx, hb, hml, hown, hts, hr, hlocks, hwd, hC⟩ := id X
  have hK := hC.1
  intro n
  induction n with
  | zero =>
    intro a2 a3 u H locs ls h; exact h.elim
  | succ n ih =>
    intro a2 a3 u H locs ls h hP hS hl
    replace h : f_X6_falling_L4_s al a0 a1 Q K0 (f_X6_falling_L4 al a0 a1 Q K0 n) a2 a3 u := h
    unfold f_X6_falling_L4_s at h
    refine lv_iload_n hx hb dX6_falling_4 rfl (lv_at hl 3 rfl) ?_
    refine lv_iload_n hx hb dX6_falling_5 rfl (lv_at hl 1 rfl) ?_
    refine lv_icmp_ge (tgt := 21) hx hb dX6_falling_6 (by decide) (fun c1 => ?_) (fun c1 => ?_)
    · replace h := h.1 c1
      exact hk0 a2 _ _ _ _ h hP hS (lv_sub hl [2] rfl)
    · replace h := h.2 c1
      refine lv_iload_n hx hb dX6_falling_9 rfl (lv_at hl 2 rfl) ?_
      refine lv_iload_n hx hb dX6_falling_10 rfl (lv_at hl 0 rfl) ?_
      refine lv_iload_n hx hb dX6_falling_11 rfl (lv_at hl 3 rfl) ?_
      refine lv_isub hx hb dX6_falling_12 ?_
      refine lv_imul hx hb dX6_falling_13 ?_
      refine lv_topi (fun v2 ev2 => ?_)
      replace h := h v2 ev2
      refine lv_istore_n (lv' := [(2, .int v2), (0, .int a0), (1, .int a1), (3, .int a3)]) hx hb dX6_falling_14 rfl hl (by decide) rfl (fun ls hl => ?_)
      obtain ⟨v3, ev3⟩ : ∃ y : Int32, y = a3 + 1 := ⟨_, rfl⟩
      refine lv_iinc (v := v3) (lv' := [(3, .int v3), (2, .int v2), (0, .int a0), (1, .int a1)]) hx hb dX6_falling_15 hl (k := 3) rfl (by rw [ev3]; rfl) (by decide) rfl (fun ls hl => ?_)
      replace h := h v3 ev3
      refine lv_goto (tgt := 4) hx hb dX6_falling_18 (by decide) ?_
      exact ih v2 v3 _ _ _ _ h hP hS (lv_sub hl [2, 3, 1, 0] rfl)
set_option maxRecDepth 100000 in
set_option maxHeartbeats 4000000 in
theorem w_X6_falling {p : Program} {l : Launch} {e : Env} {s : State} {m : MethodId} {args : Array Value} {below : List Frame} {meth : Method} {c : Code} {D : va_G} {cI cG cZ cJ : ClassId} {ts : Nat × Nat} {L : List Nat} {ad : Nat → Nat} {al : Nat} (hL : Lf L al) (X : FX RX6 wsX6_falling cX6_falling 4 (some .int) D cI cG cZ cJ ts L ad p s m args meth c) (a0 : Int32) (a1 : Int32) (Q : Int32 → St → Prop) (u : St) (H : Heap) (locs : List Loc) (ls : Array Slot) (h : f_X6_falling al a0 a1 u Q) (hP : va_P D vwCl (cW cI cG L ad al u) H) (hS : va_S (cA L ad s.heap.size) s.heap H locs) (hl : lv_has ls 4 [(0, .int a0), (1, .int a1)]) : W p l e (headSpec wsX6_falling { frames := 0, cells := 0, slots := 0, locals := 0 }).room s m args below meth c H locs 0 0 (MQ below (va_Qi Q (fun u9 t => va_P D vwCl (cW cI cG L ad al u9) t.heap) (cA L ad s.heap.size)) args s 0 0 (cA L ad s.heap.size)) (F0 m 0 ls []) := by
  obtain ⟨hx, hb, hml, hown, hts, hr, hlocks, hwd, hC⟩ := id X
  have hK := hC.1
  unfold f_X6_falling at h
  refine lv_iconst (v := 1) hx hb dX6_falling_0 (by decide) ?_
  refine lv_istore_n (lv' := [(2, .int 1), (0, .int a0), (1, .int a1)]) hx hb dX6_falling_1 rfl hl (by decide) rfl (fun ls hl => ?_)
  refine lv_iconst (v := 0) hx hb dX6_falling_2 (by decide) ?_
  refine lv_istore_n (lv' := [(3, .int 0), (2, .int 1), (0, .int a0), (1, .int a1)]) hx hb dX6_falling_3 rfl hl (by decide) rfl (fun ls hl => ?_)
  obtain ⟨n4, h⟩ := h
  refine w_X6_falling_L4 hL X a0 a1 _ _ (fun v5 u6 H locs ls h hP hS hl => ?_) n4 1 0 _ _ _ _ h hP hS (lv_sub hl [2, 3, 1, 0] rfl)
  refine lv_iload_n hx hb dX6_falling_21 rfl (lv_at hl 0 rfl) ?_
  exact W.iret (v := v5) hx hb hr (fun t ht hW => ⟨⟨_, _, rfl, h, by show va_P _ _ _ t.heap; rw [ht]; exact hP⟩, hS.F ht⟩) hS.2.2 dX6_falling_22
set_option maxRecDepth 100000 in
set_option maxHeartbeats 4000000 in
theorem c_X6_falling {l : Launch} {D : va_G} {cI cG cZ cJ : ClassId} {ts : Nat × Nat} {L : List Nat} {ad : Nat → Nat} {al : Nat} (hL : Lf L al) (hwd : WD L ad) (sz : Nat) (u : St) (a0 : Int32) (a1 : Int32) (Q : Int32 → St → Prop) (h : f_X6_falling al a0 a1 u Q) : Met l yX6_falling wsX6_falling ({ frames := 0, cells := 0, slots := 0, locals := 0 }) (va_Pc [.int a0, .int a1] (PC D cI cG cZ cJ ts L ad al sz u)) (va_Qi Q (fun u9 t => va_P D vwCl (cW cI cG L ad al u9) t.heap) (cA L ad sz)) 0 0 (cA L ad sz) := by
  refine Met.ofW (cc := cX6_falling) (maxL := 4) (ret := (some .int)) (by decide) rfl ?_
  intro p e s m args below meth c s₁ B hml hv
  obtain ⟨rfl, hsz, hP, hC⟩ := hv
  subst hsz
  have X : FX RX6 wsX6_falling cX6_falling 4 (some .int) D cI cG cZ cJ ts L ad p s m _ meth c := ⟨B.exec, B.bytes, hml, findClass_of_methodNamed B.named, atoms_spec (ws := wsX6_falling) B.pre, B.returns, B.notSynchronized, hwd, hC⟩
  have hl := lv_entry ([.int a0, .int a1]) (n := 4) (Nat.le_of_ble_eq_true rfl)
  rw [lg_entry_eq]
  generalize (lg_sl ([.int a0, .int a1]) ++ List.replicate (4 - (lg_sl ([.int a0, .int a1])).length) Slot.unset).toArray = ls at hl ⊢
  exact w_X6_falling hL X a0 a1 Q u _ _ _ h hP va_S.rf hl
set_option maxRecDepth 100000 in
set_option maxHeartbeats 4000000 in
theorem w_X6_derive_L30 {p : Program} {l : Launch} {e : Env} {s : State} {m : MethodId} {args : Array Value} {below : List Frame} {meth : Method} {c : Code} {D : va_G} {cI cG cZ cJ : ClassId} {ts : Nat × Nat} {L : List Nat} {ad : Nat → Nat} {al : Nat} {k4 : Nat} (hL : Lf L al) (hka4 : isA k4) (hm4 : k4 ∈ L) (X : FX RX6 wsX6_derive cX6_derive 8 none D cI cG cZ cJ ts L ad p s m args meth c) (a2 : Int32) (a3 : Int32) (a5 : Int32) (Q : St → Prop)
    (K0 : St → Prop) (hk0 : ∀ (u : St) (H : Heap) (locs : List Loc) (ls : Array Slot), K0 u → va_P D vwCl (cW cI cG L ad al u) H → va_S (cA L ad s.heap.size) s.heap H locs → lv_has ls 8 [] → W p l e (headSpec wsX6_derive { frames := 3, cells := 0, slots := 0, locals := 67 }).room s m args below meth c H locs 0 0 (MQ below (va_Qv Q (fun u9 t => va_P D vwCl (cW cI cG L ad al u9) t.heap) (cA L ad s.heap.size)) args s 0 0 (cA L ad s.heap.size)) (F0 m 89 ls []))
    : ∀ (n : Nat) (a6 : Int32) (u : St) (H : Heap) (locs : List Loc) (ls : Array Slot), f_X6_derive_L30 al k4 a2 a3 a5 Q K0 n a6 u → va_P D vwCl (cW cI cG L ad al u) H → va_S (cA L ad s.heap.size) s.heap H locs → lv_has ls 8 [(0, .ref (ad 0)), (2, .int a2), (3, .int a3), (4, .ref (ad k4)), (5, .int a5), (6, .int a6)] → W p l e (headSpec wsX6_derive { frames := 3, cells := 0, slots := 0, locals := 67 }).room s m args below meth c H locs 0 0 (MQ below (va_Qv Q (fun u9 t => va_P D vwCl (cW cI cG L ad al u9) t.heap) (cA L ad s.heap.size)) args s 0 0 (cA L ad s.heap.size)) (F0 m 30 ls []) := by
  obtain ⟨hx, hb, hml, hown, hts, hr, hlocks, hwd, hC⟩ := id X
  have hK := hC.1
  have m0 : 0 ∈ L := hL 0 (by omega)
  obtain ⟨i0, hi0⟩ := wL_ix m0
  have m1 : 1 ∈ L := hL 1 (by omega)
  obtain ⟨i1, hi1⟩ := wL_ix m1
  have m7 : 7 ∈ L := hL 7 (by omega)
  obtain ⟨i7, hi7⟩ := wL_ix m7
  have m8 : 8 ∈ L := hL 8 (by omega)
  obtain ⟨i8, hi8⟩ := wL_ix m8
  obtain ⟨ik4, hik4⟩ := wL_ix hm4
  have lk0 := hts (.fieldLink RX6 50 "FormForge" "degrees" "[I") (by decide +kernel)
  have lk1 := hts (.fieldLink RX6 14 "FormForge" "field" "LFormForge$Field;") (by decide +kernel)
  have lk2 := hts (.fieldLink RX6 54 "FormForge" "codes" "[I") (by decide +kernel)
  have n6 : ∀ w ∈ wsX60, w ∈ wsX6_derive := by decide +kernel
  intro n
  induction n with
  | zero =>
    intro a6 u H locs ls h; exact h.elim
  | succ n ih =>
    intro a6 u H locs ls h hP hS hl
    replace h : f_X6_derive_L30_s al k4 a2 a3 a5 Q K0 (f_X6_derive_L30 al k4 a2 a3 a5 Q K0 n) a6 u := h
    unfold f_X6_derive_L30_s at h
    refine lv_iload hx hb dX6_derive_30 (lv_at hl 5 rfl) ?_
    refine lv_iload hx hb dX6_derive_32 (lv_at hl 4 rfl) ?_
    refine lv_iload_n hx hb dX6_derive_34 rfl (lv_at hl 1 rfl) ?_
    refine lv_isub hx hb dX6_derive_35 ?_
    refine lv_icmp_gt (tgt := 89) hx hb dX6_derive_36 (by decide) (fun c6 => ?_) (fun c6 => ?_)
    · replace h := h.1 c6
      exact hk0  _ _ _ _ h hP hS (lv_sub hl [] rfl)
    · replace h := h.2 c6
      refine lv_iload hx hb dX6_derive_39 (lv_at hl 4 rfl) ?_
      refine lv_iload hx hb dX6_derive_41 (lv_at hl 5 rfl) ?_
      refine lv_isub hx hb dX6_derive_43 ?_
      refine lv_iload_n hx hb dX6_derive_44 rfl (lv_at hl 1 rfl) ?_
      refine cc_i (va_runS (As := [.int (a5 - a6), .int a2]) (rest := []) ⟨hx, hb, hml, hown, hts⟩ (c_X6_falling hL hwd H.size u (a5 - a6) a2 _ h) (va_cwS 2 hts gX6_derive_X6_falling rfl rfl rfl (by decide +kernel) ⟨Nat.le_of_ble_eq_true rfl, Nat.le_of_ble_eq_true rfl⟩) (pcS hC hP hS) rfl rfl hl.1 rfl (lv_room (Nat.le_of_ble_eq_true rfl)) dX6_derive_45 ⟨Nat.zero_le _, Nat.zero_le _⟩) hS (cA_mono hS.1) (fun v7 u8 H locs h hP hS => ?_)
      refine lv_iload hx hb dX6_derive_48 (lv_at hl 5 rfl) ?_
      refine lv_iload_n hx hb dX6_derive_50 rfl (lv_at hl 2 rfl) ?_
      refine cc_i (va_runS (As := [.int a6, .int a3]) (rest := [.int v7]) ⟨hx, hb, hml, hown, hts⟩ (c_X6_falling hL hwd H.size u8 a6 a3 _ h) (va_cwS 2 hts gX6_derive_X6_falling rfl rfl rfl (by decide +kernel) ⟨Nat.le_of_ble_eq_true rfl, Nat.le_of_ble_eq_true rfl⟩) (pcS hC hP hS) rfl rfl hl.1 rfl (lv_room (Nat.le_of_ble_eq_true rfl)) dX6_derive_51 ⟨Nat.zero_le _, Nat.zero_le _⟩) hS (cA_mono hS.1) (fun v9 u10 H locs h hP hS => ?_)
      refine lv_imul hx hb dX6_derive_54 ?_
      refine lv_topi (fun v11 ev11 => ?_)
      replace h := h v11 ev11
      refine lv_istore (lv' := [(7, .int v11), (0, .ref (ad 0)), (2, .int a2), (3, .int a3), (4, .ref (ad k4)), (5, .int a5), (6, .int a6)]) hx hb dX6_derive_55 hl (by decide) rfl (fun ls hl => ?_)
      refine lv_aload hx hb dX6_derive_57 (lv_at hl 4 rfl) ?_
      refine lv_iload hx hb dX6_derive_59 (lv_at hl 6 rfl) ?_
      refine lv_iload_n hx hb dX6_derive_61 rfl (lv_at hl 3 rfl) ?_
      refine lv_isub hx hb dX6_derive_62 ?_
      refine lv_aload_n hx hb dX6_derive_63 rfl (lv_at hl 1 rfl) ?_
      refine va_get (C := RX6) (T := TX6) (N := 12) hx hb hts n6 hown hK hP i0 (cg_0 hi0) rfl 0 (by decide) lk1 (fun _ h9 => h9) rfl dX6_derive_64 ?_
      refine lv_aload hx hb dX6_derive_67 (lv_at hl 4 rfl) ?_
      refine lv_iload hx hb dX6_derive_69 (lv_at hl 6 rfl) ?_
      refine cc_i (va_runS (As := [.ref (ad k4), .int a6]) (rest := [.ref (ad 1), .int (a6 - a3), .ref (ad k4)]) ⟨hx, hb, hml, hown, hts⟩ (c_X6_read hL.g hka4 hm4 hwd H.size u10 a6 _ h) (va_cwS 2 hts gX6_derive_X6_read rfl rfl rfl (by decide +kernel) ⟨Nat.le_of_ble_eq_true rfl, Nat.le_of_ble_eq_true rfl⟩) (pcS hC hP hS) rfl rfl hl.1 rfl (lv_room (Nat.le_of_ble_eq_true rfl)) dX6_derive_71 ⟨Nat.zero_le _, Nat.zero_le _⟩) hS (cA_mono hS.1) (fun v12 u13 H locs h hP hS => ?_)
      refine lv_iload hx hb dX6_derive_74 (lv_at hl 0 rfl) ?_
      refine lv_imul hx hb dX6_derive_76 ?_
      refine cc_i (va_runV (C := RX2) (As := [.int (v12 * v11)]) (rest := [.int (a6 - a3), .ref (ad k4)]) ⟨hx, hb, hml, hown, hts⟩ (c_X2_rest hL.g hwd H.size u13 (v12 * v11) _ h) (cwV 1 hts gX6_derive_X2_rest rfl rfl rfl (by decide +kernel) ⟨Nat.le_of_ble_eq_true rfl, Nat.le_of_ble_eq_true rfl⟩) (pcV hC hP hS (cg_1 hi1) rfl) rfl rfl hl.1 rfl (lv_room (Nat.le_of_ble_eq_true rfl)) dX6_derive_77 ⟨Nat.zero_le _, Nat.zero_le _⟩) hS (cA_mono hS.1) (fun v14 u15 H locs h hP hS => ?_)
      refine cc_v (va_runS (As := [.ref (ad k4), .int (a6 - a3), .int v14]) (rest := []) ⟨hx, hb, hml, hown, hts⟩ (c_X6_write hL.g hka4 hm4 hwd H.size u15 (a6 - a3) v14 _ h) (va_cwS 3 hts gX6_derive_X6_write rfl rfl rfl (by decide +kernel) ⟨Nat.le_of_ble_eq_true rfl, Nat.le_of_ble_eq_true rfl⟩) (pcS hC hP hS) rfl rfl hl.1 rfl (lv_room (Nat.le_of_ble_eq_true rfl)) dX6_derive_80 ⟨Nat.zero_le _, Nat.zero_le _⟩) hS (cA_mono hS.1) (fun u16 H locs h hP hS => ?_)
      obtain ⟨v17, ev17⟩ : ∃ y : Int32, y = a6 + 1 := ⟨_, rfl⟩
      refine lv_iinc (v := v17) (lv' := [(6, .int v17), (7, .int v11), (0, .ref (ad 0)), (2, .int a2), (3, .int a3), (4, .ref (ad k4)), (5, .int a5)]) hx hb dX6_derive_83 hl (k := 6) rfl (by rw [ev17]; rfl) (by decide) rfl (fun ls hl => ?_)
      replace h := h v17 ev17
      refine lv_goto (tgt := 30) hx hb dX6_derive_86 (by decide) ?_
      exact ih v17 _ _ _ _ h hP hS (lv_sub hl [2, 3, 4, 5, 6, 0] rfl)
set_option maxRecDepth 100000 in
set_option maxHeartbeats 4000000 in
theorem w_X6_derive {p : Program} {l : Launch} {e : Env} {s : State} {m : MethodId} {args : Array Value} {below : List Frame} {meth : Method} {c : Code} {D : va_G} {cI cG cZ cJ : ClassId} {ts : Nat × Nat} {L : List Nat} {ad : Nat → Nat} {al : Nat} {k4 : Nat} (hL : Lf L al) (hka4 : isA k4) (hm4 : k4 ∈ L) (X : FX RX6 wsX6_derive cX6_derive 8 none D cI cG cZ cJ ts L ad p s m args meth c) (a1 : Int32) (a2 : Int32) (a3 : Int32) (Q : St → Prop) (u : St) (H : Heap) (locs : List Loc) (ls : Array Slot) (h : f_X6_derive al a1 a2 a3 k4 u Q) (hP : va_P D vwCl (cW cI cG L ad al u) H) (hS : va_S (cA L ad s.heap.size) s.heap H locs) (hl : lv_has ls 8 [(0, .ref (ad 0)), (1, .int a1), (2, .int a2), (3, .int a3), (4, .ref (ad k4))]) : W p l e (headSpec wsX6_derive { frames := 3, cells := 0, slots := 0, locals := 67 }).room s m args below meth c H locs 0 0 (MQ below (va_Qv Q (fun u9 t => va_P D vwCl (cW cI cG L ad al u9) t.heap) (cA L ad s.heap.size)) args s 0 0 (cA L ad s.heap.size)) (F0 m 0 ls []) := by
  obtain ⟨hx, hb, hml, hown, hts, hr, hlocks, hwd, hC⟩ := id X
  have hK := hC.1
  have m0 : 0 ∈ L := hL 0 (by omega)
  obtain ⟨i0, hi0⟩ := wL_ix m0
  have m1 : 1 ∈ L := hL 1 (by omega)
  obtain ⟨i1, hi1⟩ := wL_ix m1
  have m7 : 7 ∈ L := hL 7 (by omega)
  obtain ⟨i7, hi7⟩ := wL_ix m7
  have m8 : 8 ∈ L := hL 8 (by omega)
  obtain ⟨i8, hi8⟩ := wL_ix m8
  obtain ⟨ik4, hik4⟩ := wL_ix hm4
  have lk0 := hts (.fieldLink RX6 50 "FormForge" "degrees" "[I") (by decide +kernel)
  have lk1 := hts (.fieldLink RX6 14 "FormForge" "field" "LFormForge$Field;") (by decide +kernel)
  have lk2 := hts (.fieldLink RX6 54 "FormForge" "codes" "[I") (by decide +kernel)
  have n6 : ∀ w ∈ wsX60, w ∈ wsX6_derive := by decide +kernel
  unfold f_X6_derive at h
  refine lv_aload_n hx hb dX6_derive_0 rfl (lv_at hl 0 rfl) ?_
  refine va_get (C := RX6) (T := TX6) (N := 12) hx hb hts n6 hown hK hP i0 (cg_0 hi0) rfl 5 (by decide) lk0 (fun _ h9 => h9) rfl dX6_derive_1 ?_
  refine lv_iload_n hx hb dX6_derive_4 rfl (lv_at hl 1 rfl) ?_
  refine cc_i (va_runS (As := [.ref (ad 7), .int a1]) (rest := []) ⟨hx, hb, hml, hown, hts⟩ (c_X6_read hL.g (Or.inl ⟨by decide, by decide⟩) m7 hwd H.size u a1 _ h) (va_cwS 2 hts gX6_derive_X6_read rfl rfl rfl (by decide +kernel) ⟨Nat.le_of_ble_eq_true rfl, Nat.le_of_ble_eq_true rfl⟩) (pcS hC hP hS) rfl rfl hl.1 rfl (lv_room (Nat.le_of_ble_eq_true rfl)) dX6_derive_5 ⟨Nat.zero_le _, Nat.zero_le _⟩) hS (cA_mono hS.1) (fun v1 u2 H locs h hP hS => ?_)
  refine lv_istore (lv' := [(5, .int v1), (0, .ref (ad 0)), (1, .int a1), (2, .int a2), (3, .int a3), (4, .ref (ad k4))]) hx hb dX6_derive_8 hl (by decide) rfl (fun ls hl => ?_)
  refine lv_aload_n hx hb dX6_derive_10 rfl (lv_at hl 1 rfl) ?_
  refine va_get (C := RX6) (T := TX6) (N := 12) hx hb hts n6 hown hK hP i0 (cg_0 hi0) rfl 0 (by decide) lk1 (fun _ h9 => h9) rfl dX6_derive_11 ?_
  refine lv_aload_n hx hb dX6_derive_14 rfl (lv_at hl 1 rfl) ?_
  refine va_get (C := RX6) (T := TX6) (N := 12) hx hb hts n6 hown hK hP i0 (cg_0 hi0) rfl 6 (by decide) lk2 (fun _ h9 => h9) rfl dX6_derive_15 ?_
  refine lv_iload_n hx hb dX6_derive_18 rfl (lv_at hl 2 rfl) ?_
  refine cc_i (va_runS (As := [.ref (ad 8), .int a1]) (rest := [.ref (ad 1)]) ⟨hx, hb, hml, hown, hts⟩ (c_X6_read hL.g (Or.inl ⟨by decide, by decide⟩) m8 hwd H.size u2 a1 _ h) (va_cwS 2 hts gX6_derive_X6_read rfl rfl rfl (by decide +kernel) ⟨Nat.le_of_ble_eq_true rfl, Nat.le_of_ble_eq_true rfl⟩) (pcS hC hP hS) rfl rfl hl.1 rfl (lv_room (Nat.le_of_ble_eq_true rfl)) dX6_derive_19 ⟨Nat.zero_le _, Nat.zero_le _⟩) hS (cA_mono hS.1) (fun v3 u4 H locs h hP hS => ?_)
  refine lv_aload hx hb dX6_derive_22 (lv_at hl 5 rfl) ?_
  refine cc_v (va_runV (C := RX2) (As := [.int v3, .ref (ad k4)]) (rest := []) ⟨hx, hb, hml, hown, hts⟩ (c_X2_spell hL hka4 hm4 hwd H.size u4 v3 _ h) (cwV 2 hts gX6_derive_X2_spell rfl rfl rfl (by decide +kernel) ⟨Nat.le_of_ble_eq_true rfl, Nat.le_of_ble_eq_true rfl⟩) (pcV hC hP hS (cg_1 hi1) rfl) rfl rfl hl.1 rfl (lv_room (Nat.le_of_ble_eq_true rfl)) dX6_derive_24 ⟨Nat.zero_le _, Nat.zero_le _⟩) hS (cA_mono hS.1) (fun u5 H locs h hP hS => ?_)
  refine lv_iload_n hx hb dX6_derive_27 rfl (lv_at hl 4 rfl) ?_
  refine lv_istore (lv' := [(6, .int a3), (5, .int v1), (0, .ref (ad 0)), (1, .int a1), (2, .int a2), (3, .int a3), (4, .ref (ad k4))]) hx hb dX6_derive_28 hl (by decide) rfl (fun ls hl => ?_)
  obtain ⟨n18, h⟩ := h
  refine w_X6_derive_L30 hL hka4 hm4 X a2 a3 v1 _ _ (fun u19 H locs ls h hP hS hl => ?_) n18 a3 _ _ _ _ h hP hS (lv_sub hl [2, 4, 5, 6, 1, 0] rfl)
  exact W.vret hx hb hr (fun t ht hW => ⟨⟨_, rfl, h, by show va_P _ _ _ t.heap; rw [ht]; exact hP⟩, hS.F ht⟩) hS.2.2 dX6_derive_89
set_option maxRecDepth 100000 in
set_option maxHeartbeats 4000000 in
theorem c_X6_derive {l : Launch} {D : va_G} {cI cG cZ cJ : ClassId} {ts : Nat × Nat} {L : List Nat} {ad : Nat → Nat} {al : Nat} {k4 : Nat} (hL : Lf L al) (hka4 : isA k4) (hm4 : k4 ∈ L) (hwd : WD L ad) (sz : Nat) (u : St) (a1 : Int32) (a2 : Int32) (a3 : Int32) (Q : St → Prop) (h : f_X6_derive al a1 a2 a3 k4 u Q) : Met l yX6_derive wsX6_derive ({ frames := 3, cells := 0, slots := 0, locals := 67 }) (va_Pc [.ref (ad 0), .int a1, .int a2, .int a3, .ref (ad k4)] (PC D cI cG cZ cJ ts L ad al sz u)) (va_Qv Q (fun u9 t => va_P D vwCl (cW cI cG L ad al u9) t.heap) (cA L ad sz)) 0 0 (cA L ad sz) := by
  refine Met.ofW (cc := cX6_derive) (maxL := 8) (ret := none) (by decide) rfl ?_
  intro p e s m args below meth c s₁ B hml hv
  obtain ⟨rfl, hsz, hP, hC⟩ := hv
  subst hsz
  have X : FX RX6 wsX6_derive cX6_derive 8 none D cI cG cZ cJ ts L ad p s m _ meth c := ⟨B.exec, B.bytes, hml, findClass_of_methodNamed B.named, atoms_spec (ws := wsX6_derive) B.pre, B.returns, B.notSynchronized, hwd, hC⟩
  have hl := lv_entry ([.ref (ad 0), .int a1, .int a2, .int a3, .ref (ad k4)]) (n := 8) (Nat.le_of_ble_eq_true rfl)
  rw [lg_entry_eq]
  generalize (lg_sl ([.ref (ad 0), .int a1, .int a2, .int a3, .ref (ad k4)]) ++ List.replicate (8 - (lg_sl ([.ref (ad 0), .int a1, .int a2, .int a3, .ref (ad k4)])).length) Slot.unset).toArray = ls at hl ⊢
  exact w_X6_derive hL hka4 hm4 X a1 a2 a3 Q u _ _ _ h hP va_S.rf hl
set_option maxRecDepth 100000 in
set_option maxHeartbeats 4000000 in
theorem w_X6_choose {p : Program} {l : Launch} {e : Env} {s : State} {m : MethodId} {args : Array Value} {below : List Frame} {meth : Method} {c : Code} {D : va_G} {cI cG cZ cJ : ClassId} {ts : Nat × Nat} {L : List Nat} {ad : Nat → Nat} {al : Nat} (hL : Lf L al) (X : FX RX6 wsX6_choose cX6_choose 2 (some .int) D cI cG cZ cJ ts L ad p s m args meth c) (a0 : Int32) (a1 : Int32) (Q : Int32 → St → Prop) (u : St) (H : Heap) (locs : List Loc) (ls : Array Slot) (h : f_X6_choose al a0 a1 u Q) (hP : va_P D vwCl (cW cI cG L ad al u) H) (hS : va_S (cA L ad s.heap.size) s.heap H locs) (hl : lv_has ls 2 [(0, .int a0), (1, .int a1)]) : W p l e (headSpec wsX6_choose { frames := 1, cells := 0, slots := 0, locals := 21 }).room s m args below meth c H locs 0 0 (MQ below (va_Qi Q (fun u9 t => va_P D vwCl (cW cI cG L ad al u9) t.heap) (cA L ad s.heap.size)) args s 0 0 (cA L ad s.heap.size)) (F0 m 0 ls []) := by
  obtain ⟨hx, hb, hml, hown, hts, hr, hlocks, hwd, hC⟩ := id X
  have hK := hC.1
  have lk0 := hts (.fieldLink RX6 292 "FormForge" "WAYS_TO_CHOOSE" "[I") (by decide +kernel)
  unfold f_X6_choose at h
  refine va_gets hx hb hC.2.2.2.2.2.2.2.1 hS hown lk0 (fun _ h9 => h9) dX6_choose_0 ?_
  refine lv_iload_n hx hb dX6_choose_3 rfl (lv_at hl 0 rfl) ?_
  refine lv_iconst (v := 4) hx hb dX6_choose_4 (by decide) ?_
  refine lv_imul hx hb dX6_choose_5 ?_
  refine lv_iload_n hx hb dX6_choose_6 rfl (lv_at hl 1 rfl) ?_
  refine lv_iadd hx hb dX6_choose_7 ?_
  refine cc_i (va_runS (As := [.ref ts.2, .int ((a0 * 4) + a1)]) (rest := []) ⟨hx, hb, hml, hown, hts⟩ (c_X6_readC hL.g hwd H.size u ((a0 * 4) + a1) _ h) (va_cwS 2 hts gX6_choose_X6_read rfl rfl rfl (by decide +kernel) ⟨Nat.le_of_ble_eq_true rfl, Nat.le_of_ble_eq_true rfl⟩) (pcS hC hP hS) rfl rfl hl.1 rfl (lv_room (Nat.le_of_ble_eq_true rfl)) dX6_choose_8 ⟨Nat.zero_le _, Nat.zero_le _⟩) hS (cA_mono hS.1) (fun v1 u2 H locs h hP hS => ?_)
  exact W.iret (v := v1) hx hb hr (fun t ht hW => ⟨⟨_, _, rfl, h, by show va_P _ _ _ t.heap; rw [ht]; exact hP⟩, hS.F ht⟩) hS.2.2 dX6_choose_11
set_option maxRecDepth 100000 in
set_option maxHeartbeats 4000000 in
theorem c_X6_choose {l : Launch} {D : va_G} {cI cG cZ cJ : ClassId} {ts : Nat × Nat} {L : List Nat} {ad : Nat → Nat} {al : Nat} (hL : Lf L al) (hwd : WD L ad) (sz : Nat) (u : St) (a0 : Int32) (a1 : Int32) (Q : Int32 → St → Prop) (h : f_X6_choose al a0 a1 u Q) : Met l yX6_choose wsX6_choose ({ frames := 1, cells := 0, slots := 0, locals := 21 }) (va_Pc [.int a0, .int a1] (PC D cI cG cZ cJ ts L ad al sz u)) (va_Qi Q (fun u9 t => va_P D vwCl (cW cI cG L ad al u9) t.heap) (cA L ad sz)) 0 0 (cA L ad sz) := by
  refine Met.ofW (cc := cX6_choose) (maxL := 2) (ret := (some .int)) (by decide) rfl ?_
  intro p e s m args below meth c s₁ B hml hv
  obtain ⟨rfl, hsz, hP, hC⟩ := hv
  subst hsz
  have X : FX RX6 wsX6_choose cX6_choose 2 (some .int) D cI cG cZ cJ ts L ad p s m _ meth c := ⟨B.exec, B.bytes, hml, findClass_of_methodNamed B.named, atoms_spec (ws := wsX6_choose) B.pre, B.returns, B.notSynchronized, hwd, hC⟩
  have hl := lv_entry ([.int a0, .int a1]) (n := 2) (Nat.le_of_ble_eq_true rfl)
  rw [lg_entry_eq]
  generalize (lg_sl ([.int a0, .int a1]) ++ List.replicate (2 - (lg_sl ([.int a0, .int a1])).length) Slot.unset).toArray = ls at hl ⊢
  exact w_X6_choose hL X a0 a1 Q u _ _ _ h hP va_S.rf hl
set_option maxRecDepth 100000 in
set_option maxHeartbeats 4000000 in
theorem w_X6_addProduct_L12 {p : Program} {l : Launch} {e : Env} {s : State} {m : MethodId} {args : Array Value} {below : List Frame} {meth : Method} {c : Code} {D : va_G} {cI cG cZ cJ : ClassId} {ts : Nat × Nat} {L : List Nat} {ad : Nat → Nat} {al : Nat} (hL : Lf L al) (X : FX RX6 wsX6_addProduct cX6_addProduct 7 none D cI cG cZ cJ ts L ad p s m args meth c) (a1 : Int32) (a2 : Int32) (a3 : Int32) (a4 : Int32) (Q : St → Prop)
    (K0 : St → Prop) (hk0 : ∀ (u : St) (H : Heap) (locs : List Loc) (ls : Array Slot), K0 u → va_P D vwCl (cW cI cG L ad al u) H → va_S (cA L ad s.heap.size) s.heap H locs → lv_has ls 7 [(0, .ref (ad 0)), (1, .int a1), (2, .int a2), (3, .int a3), (4, .int a4)] → W p l e (headSpec wsX6_addProduct { frames := 2, cells := 0, slots := 0, locals := 43 }).room s m args below meth c H locs 0 0 (MQ below (va_Qv Q (fun u9 t => va_P D vwCl (cW cI cG L ad al u9) t.heap) (cA L ad s.heap.size)) args s 0 0 (cA L ad s.heap.size)) (F0 m 81 ls []))
    : ∀ (n : Nat) (a5 : Int32) (u : St) (H : Heap) (locs : List Loc) (ls : Array Slot), f_X6_addProduct_L12 al a1 a2 a3 a4 Q K0 n a5 u → va_P D vwCl (cW cI cG L ad al u) H → va_S (cA L ad s.heap.size) s.heap H locs → lv_has ls 7 [(0, .ref (ad 0)), (1, .int a1), (2, .int a2), (3, .int a3), (4, .int a4), (5, .int a5)] → W p l e (headSpec wsX6_addProduct { frames := 2, cells := 0, slots := 0, locals := 43 }).room s m args below meth c H locs 0 0 (MQ below (va_Qv Q (fun u9 t => va_P D vwCl (cW cI cG L ad al u9) t.heap) (cA L ad s.heap.size)) args s 0 0 (cA L ad s.heap.size)) (F0 m 12 ls []) := by
  obtain ⟨hx, hb, hml, hown, hts, hr, hlocks, hwd, hC⟩ := id X
  have hK := hC.1
  have m0 : 0 ∈ L := hL 0 (by omega)
  obtain ⟨i0, hi0⟩ := wL_ix m0
  have m1 : 1 ∈ L := hL 1 (by omega)
  obtain ⟨i1, hi1⟩ := wL_ix m1
  have m9 : 9 ∈ L := hL 9 (by omega)
  obtain ⟨i9, hi9⟩ := wL_ix m9
  have m10 : 10 ∈ L := hL 10 (by omega)
  obtain ⟨i10, hi10⟩ := wL_ix m10
  have m11 : 11 ∈ L := hL 11 (by omega)
  obtain ⟨i11, hi11⟩ := wL_ix m11
  have lk0 := hts (.fieldLink RX6 57 "FormForge" "first" "[I") (by decide +kernel)
  have lk1 := hts (.fieldLink RX6 60 "FormForge" "second" "[I") (by decide +kernel)
  have lk2 := hts (.fieldLink RX6 63 "FormForge" "sum" "[I") (by decide +kernel)
  have lk3 := hts (.fieldLink RX6 14 "FormForge" "field" "LFormForge$Field;") (by decide +kernel)
  have n6 : ∀ w ∈ wsX60, w ∈ wsX6_addProduct := by decide +kernel
  intro n
  induction n with
  | zero =>
    intro a5 u H locs ls h; exact h.elim
  | succ n ih =>
    intro a5 u H locs ls h hP hS hl
    replace h : f_X6_addProduct_L12_s al a1 a2 a3 a4 Q K0 (f_X6_addProduct_L12 al a1 a2 a3 a4 Q K0 n) a5 u := h
    unfold f_X6_addProduct_L12_s at h
    refine lv_iload hx hb dX6_addProduct_12 (lv_at hl 5 rfl) ?_
    refine lv_iload_n hx hb dX6_addProduct_14 rfl (lv_at hl 3 rfl) ?_
    refine lv_icmp_gt (tgt := 81) hx hb dX6_addProduct_15 (by decide) (fun c2 => ?_) (fun c2 => ?_)
    · replace h := h.1 c2
      exact hk0  _ _ _ _ h hP hS (lv_sub hl [0, 1, 2, 3, 4] rfl)
    · replace h := h.2 c2
      refine lv_iload_n hx hb dX6_addProduct_18 rfl (lv_at hl 1 rfl) ?_
      refine lv_aload_n hx hb dX6_addProduct_19 rfl (lv_at hl 0 rfl) ?_
      refine va_get (C := RX6) (T := TX6) (N := 12) hx hb hts n6 hown hK hP i0 (cg_0 hi0) rfl 7 (by decide) lk0 (fun _ h9 => h9) rfl dX6_addProduct_20 ?_
      refine lv_iload hx hb dX6_addProduct_23 (lv_at hl 4 rfl) ?_
      refine cc_i (va_runS (As := [.ref (ad 9), .int a4]) (rest := [.int a1]) ⟨hx, hb, hml, hown, hts⟩ (c_X6_read hL.g (Or.inl ⟨by decide, by decide⟩) m9 hwd H.size u a4 _ h) (va_cwS 2 hts gX6_addProduct_X6_read rfl rfl rfl (by decide +kernel) ⟨Nat.le_of_ble_eq_true rfl, Nat.le_of_ble_eq_true rfl⟩) (pcS hC hP hS) rfl rfl hl.1 rfl (lv_room (Nat.le_of_ble_eq_true rfl)) dX6_addProduct_25 ⟨Nat.zero_le _, Nat.zero_le _⟩) hS (cA_mono hS.1) (fun v3 u4 H locs h hP hS => ?_)
      refine lv_imul hx hb dX6_addProduct_28 ?_
      refine lv_aload_n hx hb dX6_addProduct_29 rfl (lv_at hl 0 rfl) ?_
      refine va_get (C := RX6) (T := TX6) (N := 12) hx hb hts n6 hown hK hP i0 (cg_0 hi0) rfl 8 (by decide) lk1 (fun _ h9 => h9) rfl dX6_addProduct_30 ?_
      refine lv_iload hx hb dX6_addProduct_33 (lv_at hl 5 rfl) ?_
      refine cc_i (va_runS (As := [.ref (ad 10), .int a5]) (rest := [.int (a1 * v3)]) ⟨hx, hb, hml, hown, hts⟩ (c_X6_read hL.g (Or.inl ⟨by decide, by decide⟩) m10 hwd H.size u4 a5 _ h) (va_cwS 2 hts gX6_addProduct_X6_read rfl rfl rfl (by decide +kernel) ⟨Nat.le_of_ble_eq_true rfl, Nat.le_of_ble_eq_true rfl⟩) (pcS hC hP hS) rfl rfl hl.1 rfl (lv_room (Nat.le_of_ble_eq_true rfl)) dX6_addProduct_35 ⟨Nat.zero_le _, Nat.zero_le _⟩) hS (cA_mono hS.1) (fun v5 u6 H locs h hP hS => ?_)
      refine lv_imul hx hb dX6_addProduct_38 ?_
      refine lv_topi (fun v7 ev7 => ?_)
      replace h := h v7 ev7
      refine lv_istore (lv' := [(6, .int v7), (0, .ref (ad 0)), (1, .int a1), (2, .int a2), (3, .int a3), (4, .int a4), (5, .int a5)]) hx hb dX6_addProduct_39 hl (by decide) rfl (fun ls hl => ?_)
      refine lv_aload_n hx hb dX6_addProduct_41 rfl (lv_at hl 1 rfl) ?_
      refine va_get (C := RX6) (T := TX6) (N := 12) hx hb hts n6 hown hK hP i0 (cg_0 hi0) rfl 9 (by decide) lk2 (fun _ h9 => h9) rfl dX6_addProduct_42 ?_
      refine lv_iload hx hb dX6_addProduct_45 (lv_at hl 5 rfl) ?_
      refine lv_iload hx hb dX6_addProduct_47 (lv_at hl 6 rfl) ?_
      refine lv_iadd hx hb dX6_addProduct_49 ?_
      refine lv_aload_n hx hb dX6_addProduct_50 rfl (lv_at hl 1 rfl) ?_
      refine va_get (C := RX6) (T := TX6) (N := 12) hx hb hts n6 hown hK hP i0 (cg_0 hi0) rfl 0 (by decide) lk3 (fun _ h9 => h9) rfl dX6_addProduct_51 ?_
      refine lv_aload_n hx hb dX6_addProduct_54 rfl (lv_at hl 1 rfl) ?_
      refine va_get (C := RX6) (T := TX6) (N := 12) hx hb hts n6 hown hK hP i0 (cg_0 hi0) rfl 9 (by decide) lk2 (fun _ h9 => h9) rfl dX6_addProduct_55 ?_
      refine lv_iload hx hb dX6_addProduct_58 (lv_at hl 5 rfl) ?_
      refine lv_iload hx hb dX6_addProduct_60 (lv_at hl 6 rfl) ?_
      refine lv_iadd hx hb dX6_addProduct_62 ?_
      refine cc_i (va_runS (As := [.ref (ad 11), .int (a4 + a5)]) (rest := [.ref (ad 1), .int (a4 + a5), .ref (ad 11)]) ⟨hx, hb, hml, hown, hts⟩ (c_X6_read hL.g (Or.inl ⟨by decide, by decide⟩) m11 hwd H.size u6 (a4 + a5) _ h) (va_cwS 2 hts gX6_addProduct_X6_read rfl rfl rfl (by decide +kernel) ⟨Nat.le_of_ble_eq_true rfl, Nat.le_of_ble_eq_true rfl⟩) (pcS hC hP hS) rfl rfl hl.1 rfl (lv_room (Nat.le_of_ble_eq_true rfl)) dX6_addProduct_63 ⟨Nat.zero_le _, Nat.zero_le _⟩) hS (cA_mono hS.1) (fun v8 u9 H locs h hP hS => ?_)
      refine lv_iload hx hb dX6_addProduct_66 (lv_at hl 0 rfl) ?_
      refine lv_iadd hx hb dX6_addProduct_68 ?_
      refine cc_i (va_runV (C := RX2) (As := [.int (v8 + v7)]) (rest := [.int (a4 + a5), .ref (ad 11)]) ⟨hx, hb, hml, hown, hts⟩ (c_X2_rest hL.g hwd H.size u9 (v8 + v7) _ h) (cwV 1 hts gX6_addProduct_X2_rest rfl rfl rfl (by decide +kernel) ⟨Nat.le_of_ble_eq_true rfl, Nat.le_of_ble_eq_true rfl⟩) (pcV hC hP hS (cg_1 hi1) rfl) rfl rfl hl.1 rfl (lv_room (Nat.le_of_ble_eq_true rfl)) dX6_addProduct_69 ⟨Nat.zero_le _, Nat.zero_le _⟩) hS (cA_mono hS.1) (fun v10 u11 H locs h hP hS => ?_)
      refine cc_v (va_runS (As := [.ref (ad 11), .int (a4 + a5), .int v10]) (rest := []) ⟨hx, hb, hml, hown, hts⟩ (c_X6_write hL.g (Or.inl ⟨by decide, by decide⟩) m11 hwd H.size u11 (a4 + a5) v10 _ h) (va_cwS 3 hts gX6_addProduct_X6_write rfl rfl rfl (by decide +kernel) ⟨Nat.le_of_ble_eq_true rfl, Nat.le_of_ble_eq_true rfl⟩) (pcS hC hP hS) rfl rfl hl.1 rfl (lv_room (Nat.le_of_ble_eq_true rfl)) dX6_addProduct_72 ⟨Nat.zero_le _, Nat.zero_le _⟩) hS (cA_mono hS.1) (fun u12 H locs h hP hS => ?_)
      obtain ⟨v13, ev13⟩ : ∃ y : Int32, y = a5 + 1 := ⟨_, rfl⟩
      refine lv_iinc (v := v13) (lv' := [(5, .int v13), (6, .int v7), (0, .ref (ad 0)), (1, .int a1), (2, .int a2), (3, .int a3), (4, .int a4)]) hx hb dX6_addProduct_75 hl (k := 6) rfl (by rw [ev13]; rfl) (by decide) rfl (fun ls hl => ?_)
      replace h := h v13 ev13
      refine lv_goto (tgt := 12) hx hb dX6_addProduct_78 (by decide) ?_
      exact ih v13 _ _ _ _ h hP hS (lv_sub hl [2, 3, 4, 5, 6, 0] rfl)
set_option maxRecDepth 100000 in
set_option maxHeartbeats 4000000 in
theorem w_X6_addProduct_L3 {p : Program} {l : Launch} {e : Env} {s : State} {m : MethodId} {args : Array Value} {below : List Frame} {meth : Method} {c : Code} {D : va_G} {cI cG cZ cJ : ClassId} {ts : Nat × Nat} {L : List Nat} {ad : Nat → Nat} {al : Nat} (hL : Lf L al) (X : FX RX6 wsX6_addProduct cX6_addProduct 7 none D cI cG cZ cJ ts L ad p s m args meth c) (a1 : Int32) (a2 : Int32) (a3 : Int32) (Q : St → Prop)
    (K0 : St → Prop) (hk0 : ∀ (u : St) (H : Heap) (locs : List Loc) (ls : Array Slot), K0 u → va_P D vwCl (cW cI cG L ad al u) H → va_S (cA L ad s.heap.size) s.heap H locs → lv_has ls 7 [] → W p l e (headSpec wsX6_addProduct { frames := 2, cells := 0, slots := 0, locals := 43 }).room s m args below meth c H locs 0 0 (MQ below (va_Qv Q (fun u9 t => va_P D vwCl (cW cI cG L ad al u9) t.heap) (cA L ad s.heap.size)) args s 0 0 (cA L ad s.heap.size)) (F0 m 87 ls []))
    : ∀ (n : Nat) (a4 : Int32) (u : St) (H : Heap) (locs : List Loc) (ls : Array Slot), f_X6_addProduct_L3 al a1 a2 a3 Q K0 n a4 u → va_P D vwCl (cW cI cG L ad al u) H → va_S (cA L ad s.heap.size) s.heap H locs → lv_has ls 7 [(0, .ref (ad 0)), (1, .int a1), (2, .int a2), (3, .int a3), (4, .int a4)] → W p l e (headSpec wsX6_addProduct { frames := 2, cells := 0, slots := 0, locals := 43 }).room s m args below meth c H locs 0 0 (MQ below (va_Qv Q (fun u9 t => va_P D vwCl (cW cI cG L ad al u9) t.heap) (cA L ad s.heap.size)) args s 0 0 (cA L ad s.heap.size)) (F0 m 3 ls []) := by
  obtain ⟨hx, hb, hml, hown, hts, hr, hlocks, hwd, hC⟩ := id X
  have hK := hC.1
  have m0 : 0 ∈ L := hL 0 (by omega)
  obtain ⟨i0, hi0⟩ := wL_ix m0
  have m1 : 1 ∈ L := hL 1 (by omega)
  obtain ⟨i1, hi1⟩ := wL_ix m1
  have m9 : 9 ∈ L := hL 9 (by omega)
  obtain ⟨i9, hi9⟩ := wL_ix m9
  have m10 : 10 ∈ L := hL 10 (by omega)
  obtain ⟨i10, hi10⟩ := wL_ix m10
  have m11 : 11 ∈ L := hL 11 (by omega)
  obtain ⟨i11, hi11⟩ := wL_ix m11
  have lk0 := hts (.fieldLink RX6 57 "FormForge" "first" "[I") (by decide +kernel)
  have lk1 := hts (.fieldLink RX6 60 "FormForge" "second" "[I") (by decide +kernel)
  have lk2 := hts (.fieldLink RX6 63 "FormForge" "sum" "[I") (by decide +kernel)
  have lk3 := hts (.fieldLink RX6 14 "FormForge" "field" "LFormForge$Field;") (by decide +kernel)
  have n6 : ∀ w ∈ wsX60, w ∈ wsX6_addProduct := by decide +kernel
  intro n
  induction n with
  | zero =>
    intro a4 u H locs ls h; exact h.elim
  | succ n ih =>
    intro a4 u H locs ls h hP hS hl
    replace h : f_X6_addProduct_L3_s al a1 a2 a3 Q K0 (f_X6_addProduct_L3 al a1 a2 a3 Q K0 n) a4 u := h
    unfold f_X6_addProduct_L3_s at h
    refine lv_iload hx hb dX6_addProduct_3 (lv_at hl 4 rfl) ?_
    refine lv_iload_n hx hb dX6_addProduct_5 rfl (lv_at hl 2 rfl) ?_
    refine lv_icmp_gt (tgt := 87) hx hb dX6_addProduct_6 (by decide) (fun c1 => ?_) (fun c1 => ?_)
    · replace h := h.1 c1
      exact hk0  _ _ _ _ h hP hS (lv_sub hl [] rfl)
    · replace h := h.2 c1
      refine lv_iconst (v := 0) hx hb dX6_addProduct_9 (by decide) ?_
      refine lv_istore (lv' := [(5, .int 0), (0, .ref (ad 0)), (1, .int a1), (2, .int a2), (3, .int a3), (4, .int a4)]) hx hb dX6_addProduct_10 hl (by decide) rfl (fun ls hl => ?_)
      obtain ⟨n14, h⟩ := h
      refine w_X6_addProduct_L12 hL X a1 a2 a3 a4 _ _ (fun u15 H locs ls h hP hS hl => ?_) n14 0 _ _ _ _ h hP hS (lv_sub hl [1, 2, 3, 4, 5, 0] rfl)
      obtain ⟨v16, ev16⟩ : ∃ y : Int32, y = a4 + 1 := ⟨_, rfl⟩
      refine lv_iinc (v := v16) (lv' := [(4, .int v16), (0, .ref (ad 0)), (1, .int a1), (2, .int a2), (3, .int a3)]) hx hb dX6_addProduct_81 hl (k := 4) rfl (by rw [ev16]; rfl) (by decide) rfl (fun ls hl => ?_)
      replace h := h v16 ev16
      refine lv_goto (tgt := 3) hx hb dX6_addProduct_84 (by decide) ?_
      exact ih v16 _ _ _ _ h hP hS (lv_sub hl [1, 2, 3, 4, 0] rfl)
set_option maxRecDepth 100000 in
set_option maxHeartbeats 4000000 in
theorem w_X6_addProduct {p : Program} {l : Launch} {e : Env} {s : State} {m : MethodId} {args : Array Value} {below : List Frame} {meth : Method} {c : Code} {D : va_G} {cI cG cZ cJ : ClassId} {ts : Nat × Nat} {L : List Nat} {ad : Nat → Nat} {al : Nat} (hL : Lf L al) (X : FX RX6 wsX6_addProduct cX6_addProduct 7 none D cI cG cZ cJ ts L ad p s m args meth c) (a1 : Int32) (a2 : Int32) (a3 : Int32) (Q : St → Prop) (u : St) (H : Heap) (locs : List Loc) (ls : Array Slot) (h : f_X6_addProduct al a1 a2 a3 u Q) (hP : va_P D vwCl (cW cI cG L ad al u) H) (hS : va_S (cA L ad s.heap.size) s.heap H locs) (hl : lv_has ls 7 [(0, .ref (ad 0)), (1, .int a1), (2, .int a2), (3, .int a3)]) : W p l e (headSpec wsX6_addProduct { frames := 2, cells := 0, slots := 0, locals := 43 }).room s m args below meth c H locs 0 0 (MQ below (va_Qv Q (fun u9 t => va_P D vwCl (cW cI cG L ad al u9) t.heap) (cA L ad s.heap.size)) args s 0 0 (cA L ad s.heap.size)) (F0 m 0 ls []) := by
  obtain ⟨hx, hb, hml, hown, hts, hr, hlocks, hwd, hC⟩ := id X
  have hK := hC.1
  have m0 : 0 ∈ L := hL 0 (by omega)
  obtain ⟨i0, hi0⟩ := wL_ix m0
  have m1 : 1 ∈ L := hL 1 (by omega)
  obtain ⟨i1, hi1⟩ := wL_ix m1
  have m9 : 9 ∈ L := hL 9 (by omega)
  obtain ⟨i9, hi9⟩ := wL_ix m9
  have m10 : 10 ∈ L := hL 10 (by omega)
  obtain ⟨i10, hi10⟩ := wL_ix m10
  have m11 : 11 ∈ L := hL 11 (by omega)
  obtain ⟨i11, hi11⟩ := wL_ix m11
  have lk0 := hts (.fieldLink RX6 57 "FormForge" "first" "[I") (by decide +kernel)
  have lk1 := hts (.fieldLink RX6 60 "FormForge" "second" "[I") (by decide +kernel)
  have lk2 := hts (.fieldLink RX6 63 "FormForge" "sum" "[I") (by decide +kernel)
  have lk3 := hts (.fieldLink RX6 14 "FormForge" "field" "LFormForge$Field;") (by decide +kernel)
  have n6 : ∀ w ∈ wsX60, w ∈ wsX6_addProduct := by decide +kernel
  unfold f_X6_addProduct at h
  refine lv_iconst (v := 0) hx hb dX6_addProduct_0 (by decide) ?_
  refine lv_istore (lv' := [(4, .int 0), (0, .ref (ad 0)), (1, .int a1), (2, .int a2), (3, .int a3)]) hx hb dX6_addProduct_1 hl (by decide) rfl (fun ls hl => ?_)
  obtain ⟨n17, h⟩ := h
  refine w_X6_addProduct_L3 hL X a1 a2 a3 _ _ (fun u18 H locs ls h hP hS hl => ?_) n17 0 _ _ _ _ h hP hS (lv_sub hl [1, 2, 3, 4, 0] rfl)
  exact W.vret hx hb hr (fun t ht hW => ⟨⟨_, rfl, h, by show va_P _ _ _ t.heap; rw [ht]; exact hP⟩, hS.F ht⟩) hS.2.2 dX6_addProduct_87
set_option maxRecDepth 100000 in
set_option maxHeartbeats 4000000 in
theorem c_X6_addProduct {l : Launch} {D : va_G} {cI cG cZ cJ : ClassId} {ts : Nat × Nat} {L : List Nat} {ad : Nat → Nat} {al : Nat} (hL : Lf L al) (hwd : WD L ad) (sz : Nat) (u : St) (a1 : Int32) (a2 : Int32) (a3 : Int32) (Q : St → Prop) (h : f_X6_addProduct al a1 a2 a3 u Q) : Met l yX6_addProduct wsX6_addProduct ({ frames := 2, cells := 0, slots := 0, locals := 43 }) (va_Pc [.ref (ad 0), .int a1, .int a2, .int a3] (PC D cI cG cZ cJ ts L ad al sz u)) (va_Qv Q (fun u9 t => va_P D vwCl (cW cI cG L ad al u9) t.heap) (cA L ad sz)) 0 0 (cA L ad sz) := by
  refine Met.ofW (cc := cX6_addProduct) (maxL := 7) (ret := none) (by decide) rfl ?_
  intro p e s m args below meth c s₁ B hml hv
  obtain ⟨rfl, hsz, hP, hC⟩ := hv
  subst hsz
  have X : FX RX6 wsX6_addProduct cX6_addProduct 7 none D cI cG cZ cJ ts L ad p s m _ meth c := ⟨B.exec, B.bytes, hml, findClass_of_methodNamed B.named, atoms_spec (ws := wsX6_addProduct) B.pre, B.returns, B.notSynchronized, hwd, hC⟩
  have hl := lv_entry ([.ref (ad 0), .int a1, .int a2, .int a3]) (n := 7) (Nat.le_of_ble_eq_true rfl)
  rw [lg_entry_eq]
  generalize (lg_sl ([.ref (ad 0), .int a1, .int a2, .int a3]) ++ List.replicate (7 - (lg_sl ([.ref (ad 0), .int a1, .int a2, .int a3])).length) Slot.unset).toArray = ls at hl ⊢
  exact w_X6_addProduct hL X a1 a2 a3 Q u _ _ _ h hP va_S.rf hl
set_option maxRecDepth 100000 in
set_option maxHeartbeats 4000000 in
theorem w_X6_transvectantCode_L35 {p : Program} {l : Launch} {e : Env} {s : State} {m : MethodId} {args : Array Value} {below : List Frame} {meth : Method} {c : Code} {D : va_G} {cI cG cZ cJ : ClassId} {ts : Nat × Nat} {L : List Nat} {ad : Nat → Nat} {al : Nat} (hL : Lf L al) (X : FX RX6 wsX6_transvectantCode cX6_transvectantCode 8 (some .int) D cI cG cZ cJ ts L ad p s m args meth c) (a1 : Int32) (a2 : Int32) (a3 : Int32) (a4 : Int32) (a5 : Int32) (Q : Int32 → St → Prop)
    (K0 : St → Prop) (hk0 : ∀ (u : St) (H : Heap) (locs : List Loc) (ls : Array Slot), K0 u → va_P D vwCl (cW cI cG L ad al u) H → va_S (cA L ad s.heap.size) s.heap H locs → lv_has ls 8 [(0, .ref (ad 0)), (4, .int a4), (5, .int a5)] → W p l e (headSpec wsX6_transvectantCode { frames := 4, cells := 0, slots := 0, locals := 94 }).room s m args below meth c H locs 0 0 (MQ below (va_Qi Q (fun u9 t => va_P D vwCl (cW cI cG L ad al u9) t.heap) (cA L ad s.heap.size)) args s 0 0 (cA L ad s.heap.size)) (F0 m 112 ls []))
    : ∀ (n : Nat) (a6 : Int32) (u : St) (H : Heap) (locs : List Loc) (ls : Array Slot), f_X6_transvectantCode_L35 al a1 a2 a3 a4 a5 Q K0 n a6 u → va_P D vwCl (cW cI cG L ad al u) H → va_S (cA L ad s.heap.size) s.heap H locs → lv_has ls 8 [(0, .ref (ad 0)), (1, .int a1), (2, .int a2), (3, .int a3), (4, .int a4), (5, .int a5), (6, .int a6)] → W p l e (headSpec wsX6_transvectantCode { frames := 4, cells := 0, slots := 0, locals := 94 }).room s m args below meth c H locs 0 0 (MQ below (va_Qi Q (fun u9 t => va_P D vwCl (cW cI cG L ad al u9) t.heap) (cA L ad s.heap.size)) args s 0 0 (cA L ad s.heap.size)) (F0 m 35 ls []) := by
  obtain ⟨hx, hb, hml, hown, hts, hr, hlocks, hwd, hC⟩ := id X
  have hK := hC.1
  have m0 : 0 ∈ L := hL 0 (by omega)
  obtain ⟨i0, hi0⟩ := wL_ix m0
  have m1 : 1 ∈ L := hL 1 (by omega)
  obtain ⟨i1, hi1⟩ := wL_ix m1
  have m7 : 7 ∈ L := hL 7 (by omega)
  obtain ⟨i7, hi7⟩ := wL_ix m7
  have m9 : 9 ∈ L := hL 9 (by omega)
  obtain ⟨i9, hi9⟩ := wL_ix m9
  have m10 : 10 ∈ L := hL 10 (by omega)
  obtain ⟨i10, hi10⟩ := wL_ix m10
  have m11 : 11 ∈ L := hL 11 (by omega)
  obtain ⟨i11, hi11⟩ := wL_ix m11
  have lk0 := hts (.fieldLink RX6 50 "FormForge" "degrees" "[I") (by decide +kernel)
  have lk1 := hts (.fieldLink RX6 63 "FormForge" "sum" "[I") (by decide +kernel)
  have lk2 := hts (.fieldLink RX6 57 "FormForge" "first" "[I") (by decide +kernel)
  have lk3 := hts (.fieldLink RX6 60 "FormForge" "second" "[I") (by decide +kernel)
  have lk4 := hts (.fieldLink RX6 14 "FormForge" "field" "LFormForge$Field;") (by decide +kernel)
  have n6 : ∀ w ∈ wsX60, w ∈ wsX6_transvectantCode := by decide +kernel
  intro n
  induction n with
  | zero =>
    intro a6 u H locs ls h; exact h.elim
  | succ n ih =>
    intro a6 u H locs ls h hP hS hl
    replace h : f_X6_transvectantCode_L35_s al a1 a2 a3 a4 a5 Q K0 (f_X6_transvectantCode_L35 al a1 a2 a3 a4 a5 Q K0 n) a6 u := h
    unfold f_X6_transvectantCode_L35_s at h
    refine lv_iload hx hb dX6_transvectantCode_35 (lv_at hl 6 rfl) ?_
    refine lv_iload_n hx hb dX6_transvectantCode_37 rfl (lv_at hl 3 rfl) ?_
    refine lv_icmp_gt (tgt := 112) hx hb dX6_transvectantCode_38 (by decide) (fun c8 => ?_) (fun c8 => ?_)
    · replace h := h.1 c8
      exact hk0  _ _ _ _ h hP hS (lv_sub hl [0, 4, 5] rfl)
    · replace h := h.2 c8
      refine lv_aload_n hx hb dX6_transvectantCode_41 rfl (lv_at hl 0 rfl) ?_
      refine lv_iload_n hx hb dX6_transvectantCode_42 rfl (lv_at hl 1 rfl) ?_
      refine lv_iload_n hx hb dX6_transvectantCode_43 rfl (lv_at hl 3 rfl) ?_
      refine lv_iload hx hb dX6_transvectantCode_44 (lv_at hl 6 rfl) ?_
      refine lv_isub hx hb dX6_transvectantCode_46 ?_
      refine lv_iload hx hb dX6_transvectantCode_47 (lv_at hl 6 rfl) ?_
      refine lv_aload_n hx hb dX6_transvectantCode_49 rfl (lv_at hl 0 rfl) ?_
      refine va_get (C := RX6) (T := TX6) (N := 12) hx hb hts n6 hown hK hP i0 (cg_0 hi0) rfl 7 (by decide) lk2 (fun _ h9 => h9) rfl dX6_transvectantCode_50 ?_
      refine cc_v (va_runV (C := RX6) (As := [.int a1, .int (a3 - a6), .int a6, .ref (ad 9)]) (rest := []) ⟨hx, hb, hml, hown, hts⟩ (c_X6_derive hL (Or.inl ⟨by decide, by decide⟩) m9 hwd H.size u a1 (a3 - a6) a6 _ h) (cwV 4 hts gX6_transvectantCode_X6_derive rfl rfl rfl (by decide +kernel) ⟨Nat.le_of_ble_eq_true rfl, Nat.le_of_ble_eq_true rfl⟩) (pcV hC hP hS (cg_0 hi0) rfl) rfl rfl hl.1 rfl (lv_room (Nat.le_of_ble_eq_true rfl)) dX6_transvectantCode_53 ⟨Nat.zero_le _, Nat.zero_le _⟩) hS (cA_mono hS.1) (fun u9 H locs h hP hS => ?_)
      refine lv_aload_n hx hb dX6_transvectantCode_56 rfl (lv_at hl 0 rfl) ?_
      refine lv_iload_n hx hb dX6_transvectantCode_57 rfl (lv_at hl 2 rfl) ?_
      refine lv_iload hx hb dX6_transvectantCode_58 (lv_at hl 6 rfl) ?_
      refine lv_iload_n hx hb dX6_transvectantCode_60 rfl (lv_at hl 3 rfl) ?_
      refine lv_iload hx hb dX6_transvectantCode_61 (lv_at hl 6 rfl) ?_
      refine lv_isub hx hb dX6_transvectantCode_63 ?_
      refine lv_aload_n hx hb dX6_transvectantCode_64 rfl (lv_at hl 0 rfl) ?_
      refine va_get (C := RX6) (T := TX6) (N := 12) hx hb hts n6 hown hK hP i0 (cg_0 hi0) rfl 8 (by decide) lk3 (fun _ h9 => h9) rfl dX6_transvectantCode_65 ?_
      refine cc_v (va_runV (C := RX6) (As := [.int a2, .int a6, .int (a3 - a6), .ref (ad 10)]) (rest := []) ⟨hx, hb, hml, hown, hts⟩ (c_X6_derive hL (Or.inl ⟨by decide, by decide⟩) m10 hwd H.size u9 a2 a6 (a3 - a6) _ h) (cwV 4 hts gX6_transvectantCode_X6_derive rfl rfl rfl (by decide +kernel) ⟨Nat.le_of_ble_eq_true rfl, Nat.le_of_ble_eq_true rfl⟩) (pcV hC hP hS (cg_0 hi0) rfl) rfl rfl hl.1 rfl (lv_room (Nat.le_of_ble_eq_true rfl)) dX6_transvectantCode_68 ⟨Nat.zero_le _, Nat.zero_le _⟩) hS (cA_mono hS.1) (fun u10 H locs h hP hS => ?_)
      refine lv_iload hx hb dX6_transvectantCode_71 (lv_at hl 6 rfl) ?_
      refine lv_iconst (v := 2) hx hb dX6_transvectantCode_73 (by decide) ?_
      refine lv_irem hx hb dX6_transvectantCode_74 (by decide) ?_
      refine lv_topi (fun v11 ev11 => ?_)
      replace h := h v11 ev11
      refine lv_if_ne (tgt := 87) hx hb dX6_transvectantCode_75 (by decide) (fun c12 => ?_) (fun c12 => ?_)
      · replace h := h.1 c12
        refine lv_iload_n hx hb dX6_transvectantCode_87 rfl (lv_at hl 3 rfl) ?_
        refine lv_iload hx hb dX6_transvectantCode_88 (lv_at hl 6 rfl) ?_
        refine cc_i (va_runS (As := [.int a3, .int a6]) (rest := []) ⟨hx, hb, hml, hown, hts⟩ (c_X6_choose hL hwd H.size u10 a3 a6 _ h) (va_cwS 2 hts gX6_transvectantCode_X6_choose rfl rfl rfl (by decide +kernel) ⟨Nat.le_of_ble_eq_true rfl, Nat.le_of_ble_eq_true rfl⟩) (pcS hC hP hS) rfl rfl hl.1 rfl (lv_room (Nat.le_of_ble_eq_true rfl)) dX6_transvectantCode_90 ⟨Nat.zero_le _, Nat.zero_le _⟩) hS (cA_mono hS.1) (fun v13 u14 H locs h hP hS => ?_)
        refine lv_ineg hx hb dX6_transvectantCode_93 ?_
        refine lv_topi (fun v15 ev15 => ?_)
        replace h := h v15 ev15
        refine lv_istore (lv' := [(7, .int v15), (0, .ref (ad 0)), (1, .int a1), (2, .int a2), (3, .int a3), (4, .int a4), (5, .int a5), (6, .int a6)]) hx hb dX6_transvectantCode_94 hl (by decide) rfl (fun ls hl => ?_)
        refine lv_aload_n hx hb dX6_transvectantCode_96 rfl (lv_at hl 1 rfl) ?_
        refine lv_iload hx hb dX6_transvectantCode_97 (lv_at hl 0 rfl) ?_
        refine lv_iload hx hb dX6_transvectantCode_99 (lv_at hl 5 rfl) ?_
        refine lv_iload hx hb dX6_transvectantCode_101 (lv_at hl 6 rfl) ?_
        refine cc_v (va_runV (C := RX6) (As := [.int v15, .int a4, .int a5]) (rest := []) ⟨hx, hb, hml, hown, hts⟩ (c_X6_addProduct hL hwd H.size u14 v15 a4 a5 _ h) (cwV 3 hts gX6_transvectantCode_X6_addProduct rfl rfl rfl (by decide +kernel) ⟨Nat.le_of_ble_eq_true rfl, Nat.le_of_ble_eq_true rfl⟩) (pcV hC hP hS (cg_0 hi0) rfl) rfl rfl hl.1 rfl (lv_room (Nat.le_of_ble_eq_true rfl)) dX6_transvectantCode_103 ⟨Nat.zero_le _, Nat.zero_le _⟩) hS (cA_mono hS.1) (fun u16 H locs h hP hS => ?_)
        obtain ⟨v17, ev17⟩ : ∃ y : Int32, y = a6 + 1 := ⟨_, rfl⟩
        refine lv_iinc (v := v17) (lv' := [(6, .int v17), (7, .int v15), (0, .ref (ad 0)), (1, .int a1), (2, .int a2), (3, .int a3), (4, .int a4), (5, .int a5)]) hx hb dX6_transvectantCode_106 hl (k := 7) rfl (by rw [ev17]; rfl) (by decide) rfl (fun ls hl => ?_)
        replace h := h v17 ev17
        refine lv_goto (tgt := 35) hx hb dX6_transvectantCode_109 (by decide) ?_
        exact ih v17 _ _ _ _ h hP hS (lv_sub hl [2, 3, 4, 5, 6, 7, 0] rfl)
      · replace h := h.2 c12
        refine lv_iload_n hx hb dX6_transvectantCode_78 rfl (lv_at hl 3 rfl) ?_
        refine lv_iload hx hb dX6_transvectantCode_79 (lv_at hl 6 rfl) ?_
        refine cc_i (va_runS (As := [.int a3, .int a6]) (rest := []) ⟨hx, hb, hml, hown, hts⟩ (c_X6_choose hL hwd H.size u10 a3 a6 _ h) (va_cwS 2 hts gX6_transvectantCode_X6_choose rfl rfl rfl (by decide +kernel) ⟨Nat.le_of_ble_eq_true rfl, Nat.le_of_ble_eq_true rfl⟩) (pcS hC hP hS) rfl rfl hl.1 rfl (lv_room (Nat.le_of_ble_eq_true rfl)) dX6_transvectantCode_81 ⟨Nat.zero_le _, Nat.zero_le _⟩) hS (cA_mono hS.1) (fun v18 u19 H locs h hP hS => ?_)
        refine lv_goto (tgt := 94) hx hb dX6_transvectantCode_84 (by decide) ?_
        refine lv_istore (lv' := [(7, .int v18), (0, .ref (ad 0)), (1, .int a1), (2, .int a2), (3, .int a3), (4, .int a4), (5, .int a5), (6, .int a6)]) hx hb dX6_transvectantCode_94 hl (by decide) rfl (fun ls hl => ?_)
        refine lv_aload_n hx hb dX6_transvectantCode_96 rfl (lv_at hl 1 rfl) ?_
        refine lv_iload hx hb dX6_transvectantCode_97 (lv_at hl 0 rfl) ?_
        refine lv_iload hx hb dX6_transvectantCode_99 (lv_at hl 5 rfl) ?_
        refine lv_iload hx hb dX6_transvectantCode_101 (lv_at hl 6 rfl) ?_
        refine cc_v (va_runV (C := RX6) (As := [.int v18, .int a4, .int a5]) (rest := []) ⟨hx, hb, hml, hown, hts⟩ (c_X6_addProduct hL hwd H.size u19 v18 a4 a5 _ h) (cwV 3 hts gX6_transvectantCode_X6_addProduct rfl rfl rfl (by decide +kernel) ⟨Nat.le_of_ble_eq_true rfl, Nat.le_of_ble_eq_true rfl⟩) (pcV hC hP hS (cg_0 hi0) rfl) rfl rfl hl.1 rfl (lv_room (Nat.le_of_ble_eq_true rfl)) dX6_transvectantCode_103 ⟨Nat.zero_le _, Nat.zero_le _⟩) hS (cA_mono hS.1) (fun u20 H locs h hP hS => ?_)
        obtain ⟨v21, ev21⟩ : ∃ y : Int32, y = a6 + 1 := ⟨_, rfl⟩
        refine lv_iinc (v := v21) (lv' := [(6, .int v21), (7, .int v18), (0, .ref (ad 0)), (1, .int a1), (2, .int a2), (3, .int a3), (4, .int a4), (5, .int a5)]) hx hb dX6_transvectantCode_106 hl (k := 7) rfl (by rw [ev21]; rfl) (by decide) rfl (fun ls hl => ?_)
        replace h := h v21 ev21
        refine lv_goto (tgt := 35) hx hb dX6_transvectantCode_109 (by decide) ?_
        exact ih v21 _ _ _ _ h hP hS (lv_sub hl [2, 3, 4, 5, 6, 7, 0] rfl)
set_option maxRecDepth 100000 in
set_option maxHeartbeats 4000000 in
theorem w_X6_transvectantCode {p : Program} {l : Launch} {e : Env} {s : State} {m : MethodId} {args : Array Value} {below : List Frame} {meth : Method} {c : Code} {D : va_G} {cI cG cZ cJ : ClassId} {ts : Nat × Nat} {L : List Nat} {ad : Nat → Nat} {al : Nat} (hL : Lf L al) (X : FX RX6 wsX6_transvectantCode cX6_transvectantCode 8 (some .int) D cI cG cZ cJ ts L ad p s m args meth c) (a1 : Int32) (a2 : Int32) (a3 : Int32) (Q : Int32 → St → Prop) (u : St) (H : Heap) (locs : List Loc) (ls : Array Slot) (h : f_X6_transvectantCode al a1 a2 a3 u Q) (hP : va_P D vwCl (cW cI cG L ad al u) H) (hS : va_S (cA L ad s.heap.size) s.heap H locs) (hl : lv_has ls 8 [(0, .ref (ad 0)), (1, .int a1), (2, .int a2), (3, .int a3)]) : W p l e (headSpec wsX6_transvectantCode { frames := 4, cells := 0, slots := 0, locals := 94 }).room s m args below meth c H locs 0 0 (MQ below (va_Qi Q (fun u9 t => va_P D vwCl (cW cI cG L ad al u9) t.heap) (cA L ad s.heap.size)) args s 0 0 (cA L ad s.heap.size)) (F0 m 0 ls []) := by
  obtain ⟨hx, hb, hml, hown, hts, hr, hlocks, hwd, hC⟩ := id X
  have hK := hC.1
  have m0 : 0 ∈ L := hL 0 (by omega)
  obtain ⟨i0, hi0⟩ := wL_ix m0
  have m1 : 1 ∈ L := hL 1 (by omega)
  obtain ⟨i1, hi1⟩ := wL_ix m1
  have m7 : 7 ∈ L := hL 7 (by omega)
  obtain ⟨i7, hi7⟩ := wL_ix m7
  have m9 : 9 ∈ L := hL 9 (by omega)
  obtain ⟨i9, hi9⟩ := wL_ix m9
  have m10 : 10 ∈ L := hL 10 (by omega)
  obtain ⟨i10, hi10⟩ := wL_ix m10
  have m11 : 11 ∈ L := hL 11 (by omega)
  obtain ⟨i11, hi11⟩ := wL_ix m11
  have lk0 := hts (.fieldLink RX6 50 "FormForge" "degrees" "[I") (by decide +kernel)
  have lk1 := hts (.fieldLink RX6 63 "FormForge" "sum" "[I") (by decide +kernel)
  have lk2 := hts (.fieldLink RX6 57 "FormForge" "first" "[I") (by decide +kernel)
  have lk3 := hts (.fieldLink RX6 60 "FormForge" "second" "[I") (by decide +kernel)
  have lk4 := hts (.fieldLink RX6 14 "FormForge" "field" "LFormForge$Field;") (by decide +kernel)
  have n6 : ∀ w ∈ wsX60, w ∈ wsX6_transvectantCode := by decide +kernel
  unfold f_X6_transvectantCode at h
  refine lv_aload_n hx hb dX6_transvectantCode_0 rfl (lv_at hl 0 rfl) ?_
  refine va_get (C := RX6) (T := TX6) (N := 12) hx hb hts n6 hown hK hP i0 (cg_0 hi0) rfl 5 (by decide) lk0 (fun _ h9 => h9) rfl dX6_transvectantCode_1 ?_
  refine lv_iload_n hx hb dX6_transvectantCode_4 rfl (lv_at hl 1 rfl) ?_
  refine cc_i (va_runS (As := [.ref (ad 7), .int a1]) (rest := []) ⟨hx, hb, hml, hown, hts⟩ (c_X6_read hL.g (Or.inl ⟨by decide, by decide⟩) m7 hwd H.size u a1 _ h) (va_cwS 2 hts gX6_transvectantCode_X6_read rfl rfl rfl (by decide +kernel) ⟨Nat.le_of_ble_eq_true rfl, Nat.le_of_ble_eq_true rfl⟩) (pcS hC hP hS) rfl rfl hl.1 rfl (lv_room (Nat.le_of_ble_eq_true rfl)) dX6_transvectantCode_5 ⟨Nat.zero_le _, Nat.zero_le _⟩) hS (cA_mono hS.1) (fun v1 u2 H locs h hP hS => ?_)
  refine lv_iload_n hx hb dX6_transvectantCode_8 rfl (lv_at hl 3 rfl) ?_
  refine lv_isub hx hb dX6_transvectantCode_9 ?_
  refine lv_topi (fun v3 ev3 => ?_)
  replace h := h v3 ev3
  refine lv_istore (lv' := [(4, .int v3), (0, .ref (ad 0)), (1, .int a1), (2, .int a2), (3, .int a3)]) hx hb dX6_transvectantCode_10 hl (by decide) rfl (fun ls hl => ?_)
  refine lv_aload_n hx hb dX6_transvectantCode_12 rfl (lv_at hl 1 rfl) ?_
  refine va_get (C := RX6) (T := TX6) (N := 12) hx hb hts n6 hown hK hP i0 (cg_0 hi0) rfl 5 (by decide) lk0 (fun _ h9 => h9) rfl dX6_transvectantCode_13 ?_
  refine lv_iload_n hx hb dX6_transvectantCode_16 rfl (lv_at hl 3 rfl) ?_
  refine cc_i (va_runS (As := [.ref (ad 7), .int a2]) (rest := []) ⟨hx, hb, hml, hown, hts⟩ (c_X6_read hL.g (Or.inl ⟨by decide, by decide⟩) m7 hwd H.size u2 a2 _ h) (va_cwS 2 hts gX6_transvectantCode_X6_read rfl rfl rfl (by decide +kernel) ⟨Nat.le_of_ble_eq_true rfl, Nat.le_of_ble_eq_true rfl⟩) (pcS hC hP hS) rfl rfl hl.1 rfl (lv_room (Nat.le_of_ble_eq_true rfl)) dX6_transvectantCode_17 ⟨Nat.zero_le _, Nat.zero_le _⟩) hS (cA_mono hS.1) (fun v4 u5 H locs h hP hS => ?_)
  refine lv_iload_n hx hb dX6_transvectantCode_20 rfl (lv_at hl 4 rfl) ?_
  refine lv_isub hx hb dX6_transvectantCode_21 ?_
  refine lv_topi (fun v6 ev6 => ?_)
  replace h := h v6 ev6
  refine lv_istore (lv' := [(5, .int v6), (4, .int v3), (0, .ref (ad 0)), (1, .int a1), (2, .int a2), (3, .int a3)]) hx hb dX6_transvectantCode_22 hl (by decide) rfl (fun ls hl => ?_)
  refine lv_aload_n hx hb dX6_transvectantCode_24 rfl (lv_at hl 2 rfl) ?_
  refine va_get (C := RX6) (T := TX6) (N := 12) hx hb hts n6 hown hK hP i0 (cg_0 hi0) rfl 9 (by decide) lk1 (fun _ h9 => h9) rfl dX6_transvectantCode_25 ?_
  refine lv_iconst (v := 0) hx hb dX6_transvectantCode_28 (by decide) ?_
  refine cc_v (va_runS (As := [.ref (ad 11), .int 0]) (rest := []) ⟨hx, hb, hml, hown, hts⟩ (c_J7_fill_53178 hL.g (Or.inl ⟨by decide, by decide⟩) m11 hwd H.size u5 0 _ h) (va_cwS 2 hts gX6_transvectantCode_J7_fill_53178 rfl rfl rfl (by decide +kernel) ⟨Nat.le_of_ble_eq_true rfl, Nat.le_of_ble_eq_true rfl⟩) (pcS hC hP hS) rfl rfl hl.1 rfl (lv_room (Nat.le_of_ble_eq_true rfl)) dX6_transvectantCode_29 ⟨Nat.zero_le _, Nat.zero_le _⟩) hS (cA_mono hS.1) (fun u7 H locs h hP hS => ?_)
  refine lv_iconst (v := 0) hx hb dX6_transvectantCode_32 (by decide) ?_
  refine lv_istore (lv' := [(6, .int 0), (5, .int v6), (4, .int v3), (0, .ref (ad 0)), (1, .int a1), (2, .int a2), (3, .int a3)]) hx hb dX6_transvectantCode_33 hl (by decide) rfl (fun ls hl => ?_)
  obtain ⟨n22, h⟩ := h
  refine w_X6_transvectantCode_L35 hL X a1 a2 a3 v3 v6 _ _ (fun u23 H locs ls h hP hS hl => ?_) n22 0 _ _ _ _ h hP hS (lv_sub hl [3, 4, 5, 6, 2, 1, 0] rfl)
  refine lv_aload_n hx hb dX6_transvectantCode_112 rfl (lv_at hl 0 rfl) ?_
  refine va_get (C := RX6) (T := TX6) (N := 12) hx hb hts n6 hown hK hP i0 (cg_0 hi0) rfl 0 (by decide) lk4 (fun _ h9 => h9) rfl dX6_transvectantCode_113 ?_
  refine lv_aload_n hx hb dX6_transvectantCode_116 rfl (lv_at hl 0 rfl) ?_
  refine va_get (C := RX6) (T := TX6) (N := 12) hx hb hts n6 hown hK hP i0 (cg_0 hi0) rfl 9 (by decide) lk1 (fun _ h9 => h9) rfl dX6_transvectantCode_117 ?_
  refine lv_iload hx hb dX6_transvectantCode_120 (lv_at hl 1 rfl) ?_
  refine lv_iload hx hb dX6_transvectantCode_122 (lv_at hl 2 rfl) ?_
  refine lv_iadd hx hb dX6_transvectantCode_124 ?_
  refine lv_iconst (v := 1) hx hb dX6_transvectantCode_125 (by decide) ?_
  refine lv_iadd hx hb dX6_transvectantCode_126 ?_
  refine cc_i (va_runV (C := RX2) (As := [.ref (ad 11), .int ((v3 + v6) + 1)]) (rest := []) ⟨hx, hb, hml, hown, hts⟩ (c_X2_code hL (Or.inl ⟨by decide, by decide⟩) m11 hwd H.size u23 ((v3 + v6) + 1) _ h) (cwV 2 hts gX6_transvectantCode_X2_code rfl rfl rfl (by decide +kernel) ⟨Nat.le_of_ble_eq_true rfl, Nat.le_of_ble_eq_true rfl⟩) (pcV hC hP hS (cg_1 hi1) rfl) rfl rfl hl.1 rfl (lv_room (Nat.le_of_ble_eq_true rfl)) dX6_transvectantCode_127 ⟨Nat.zero_le _, Nat.zero_le _⟩) hS (cA_mono hS.1) (fun v24 u25 H locs h hP hS => ?_)
  exact W.iret (v := v24) hx hb hr (fun t ht hW => ⟨⟨_, _, rfl, h, by show va_P _ _ _ t.heap; rw [ht]; exact hP⟩, hS.F ht⟩) hS.2.2 dX6_transvectantCode_130
set_option maxRecDepth 100000 in
set_option maxHeartbeats 4000000 in
theorem c_X6_transvectantCode {l : Launch} {D : va_G} {cI cG cZ cJ : ClassId} {ts : Nat × Nat} {L : List Nat} {ad : Nat → Nat} {al : Nat} (hL : Lf L al) (hwd : WD L ad) (sz : Nat) (u : St) (a1 : Int32) (a2 : Int32) (a3 : Int32) (Q : Int32 → St → Prop) (h : f_X6_transvectantCode al a1 a2 a3 u Q) : Met l yX6_transvectantCode wsX6_transvectantCode ({ frames := 4, cells := 0, slots := 0, locals := 94 }) (va_Pc [.ref (ad 0), .int a1, .int a2, .int a3] (PC D cI cG cZ cJ ts L ad al sz u)) (va_Qi Q (fun u9 t => va_P D vwCl (cW cI cG L ad al u9) t.heap) (cA L ad sz)) 0 0 (cA L ad sz) := by
  refine Met.ofW (cc := cX6_transvectantCode) (maxL := 8) (ret := (some .int)) (by decide) rfl ?_
  intro p e s m args below meth c s₁ B hml hv
  obtain ⟨rfl, hsz, hP, hC⟩ := hv
  subst hsz
  have X : FX RX6 wsX6_transvectantCode cX6_transvectantCode 8 (some .int) D cI cG cZ cJ ts L ad p s m _ meth c := ⟨B.exec, B.bytes, hml, findClass_of_methodNamed B.named, atoms_spec (ws := wsX6_transvectantCode) B.pre, B.returns, B.notSynchronized, hwd, hC⟩
  have hl := lv_entry ([.ref (ad 0), .int a1, .int a2, .int a3]) (n := 8) (Nat.le_of_ble_eq_true rfl)
  rw [lg_entry_eq]
  generalize (lg_sl ([.ref (ad 0), .int a1, .int a2, .int a3]) ++ List.replicate (8 - (lg_sl ([.ref (ad 0), .int a1, .int a2, .int a3])).length) Slot.unset).toArray = ls at hl ⊢
  exact w_X6_transvectantCode hL X a1 a2 a3 Q u _ _ _ h hP va_S.rf hl
set_option maxRecDepth 100000 in
set_option maxHeartbeats 4000000 in
theorem w_X6_countValues {p : Program} {l : Launch} {e : Env} {s : State} {m : MethodId} {args : Array Value} {below : List Frame} {meth : Method} {c : Code} {D : va_G} {cI cG cZ cJ : ClassId} {ts : Nat × Nat} {L : List Nat} {ad : Nat → Nat} {al : Nat} (hL : Lf L al) (X : FX RX6 wsX6_countValues cX6_countValues 1 (some .int) D cI cG cZ cJ ts L ad p s m args meth c) (a0 : Int32) (Q : Int32 → St → Prop) (u : St) (H : Heap) (locs : List Loc) (ls : Array Slot) (h : f_X6_countValues al a0 u Q) (hP : va_P D vwCl (cW cI cG L ad al u) H) (hS : va_S (cA L ad s.heap.size) s.heap H locs) (hl : lv_has ls 1 [(0, .int a0)]) : W p l e (headSpec wsX6_countValues { frames := 0, cells := 0, slots := 0, locals := 0 }).room s m args below meth c H locs 0 0 (MQ below (va_Qi Q (fun u9 t => va_P D vwCl (cW cI cG L ad al u9) t.heap) (cA L ad s.heap.size)) args s 0 0 (cA L ad s.heap.size)) (F0 m 0 ls []) := by
  obtain ⟨hx, hb, hml, hown, hts, hr, hlocks, hwd, hC⟩ := id X
  have hK := hC.1
  unfold f_X6_countValues at h
  refine lv_iload_n hx hb dX6_countValues_0 rfl (lv_at hl 0 rfl) ?_
  by_cases c1 : a0 = 2
  · replace h := h.1 c1
    refine lv_tableIn (off := 27) (tgt := 28) hx hb dX6_countValues_1 (by rw [c1]; decide) (by rw [c1]; decide) (by rw [c1]; rfl) (by decide) ?_
    refine lv_iconst (v := 1) hx hb dX6_countValues_28 (by decide) ?_
    exact W.iret (v := 1) hx hb hr (fun t ht hW => ⟨⟨_, _, rfl, h, by show va_P _ _ _ t.heap; rw [ht]; exact hP⟩, hS.F ht⟩) hS.2.2 dX6_countValues_29
  by_cases c2 : a0 = 3
  · replace h := h.2.1 c2
    refine lv_tableIn (off := 27) (tgt := 28) hx hb dX6_countValues_1 (by rw [c2]; decide) (by rw [c2]; decide) (by rw [c2]; rfl) (by decide) ?_
    refine lv_iconst (v := 1) hx hb dX6_countValues_28 (by decide) ?_
    exact W.iret (v := 1) hx hb hr (fun t ht hW => ⟨⟨_, _, rfl, h, by show va_P _ _ _ t.heap; rw [ht]; exact hP⟩, hS.F ht⟩) hS.2.2 dX6_countValues_29
  by_cases c3 : a0 = 4
  · replace h := h.2.2.1 c3
    refine lv_tableIn (off := 29) (tgt := 30) hx hb dX6_countValues_1 (by rw [c3]; decide) (by rw [c3]; decide) (by rw [c3]; rfl) (by decide) ?_
    refine lv_iconst (v := 2) hx hb dX6_countValues_30 (by decide) ?_
    exact W.iret (v := 2) hx hb hr (fun t ht hW => ⟨⟨_, _, rfl, h, by show va_P _ _ _ t.heap; rw [ht]; exact hP⟩, hS.F ht⟩) hS.2.2 dX6_countValues_31
  replace h := h.2.2.2 ⟨c1, c2, c3⟩
  refine lv_tableOut (tgt := 32) hx hb dX6_countValues_1 (by have q0 := lv_neT (a := 2) c1 rfl; have q1 := lv_neT (a := 3) c2 rfl; have q2 := lv_neT (a := 4) c3 rfl; omega) (by decide) ?_
  refine lv_iconst (v := 0) hx hb dX6_countValues_32 (by decide) ?_
  exact W.iret (v := 0) hx hb hr (fun t ht hW => ⟨⟨_, _, rfl, h, by show va_P _ _ _ t.heap; rw [ht]; exact hP⟩, hS.F ht⟩) hS.2.2 dX6_countValues_33
set_option maxRecDepth 100000 in
set_option maxHeartbeats 4000000 in
theorem c_X6_countValues {l : Launch} {D : va_G} {cI cG cZ cJ : ClassId} {ts : Nat × Nat} {L : List Nat} {ad : Nat → Nat} {al : Nat} (hL : Lf L al) (hwd : WD L ad) (sz : Nat) (u : St) (a0 : Int32) (Q : Int32 → St → Prop) (h : f_X6_countValues al a0 u Q) : Met l yX6_countValues wsX6_countValues ({ frames := 0, cells := 0, slots := 0, locals := 0 }) (va_Pc [.int a0] (PC D cI cG cZ cJ ts L ad al sz u)) (va_Qi Q (fun u9 t => va_P D vwCl (cW cI cG L ad al u9) t.heap) (cA L ad sz)) 0 0 (cA L ad sz) := by
  refine Met.ofW (cc := cX6_countValues) (maxL := 1) (ret := (some .int)) (by decide) rfl ?_
  intro p e s m args below meth c s₁ B hml hv
  obtain ⟨rfl, hsz, hP, hC⟩ := hv
  subst hsz
  have X : FX RX6 wsX6_countValues cX6_countValues 1 (some .int) D cI cG cZ cJ ts L ad p s m _ meth c := ⟨B.exec, B.bytes, hml, findClass_of_methodNamed B.named, atoms_spec (ws := wsX6_countValues) B.pre, B.returns, B.notSynchronized, hwd, hC⟩
  have hl := lv_entry ([.int a0]) (n := 1) (Nat.le_of_ble_eq_true rfl)
  rw [lg_entry_eq]
  generalize (lg_sl ([.int a0]) ++ List.replicate (1 - (lg_sl ([.int a0])).length) Slot.unset).toArray = ls at hl ⊢
  exact w_X6_countValues hL X a0 Q u _ _ _ h hP va_S.rf hl
set_option maxRecDepth 100000 in
set_option maxHeartbeats 4000000 in
theorem w_X6_valueOf {p : Program} {l : Launch} {e : Env} {s : State} {m : MethodId} {args : Array Value} {below : List Frame} {meth : Method} {c : Code} {D : va_G} {cI cG cZ cJ : ClassId} {ts : Nat × Nat} {L : List Nat} {ad : Nat → Nat} {al : Nat} (hL : Lf L al) (X : FX RX6 wsX6_valueOf cX6_valueOf 9 (some .int) D cI cG cZ cJ ts L ad p s m args meth c) (a1 : Int32) (a2 : Int32) (a3 : Int32) (Q : Int32 → St → Prop) (u : St) (H : Heap) (locs : List Loc) (ls : Array Slot) (h : f_X6_valueOf al a1 a2 a3 u Q) (hP : va_P D vwCl (cW cI cG L ad al u) H) (hS : va_S (cA L ad s.heap.size) s.heap H locs) (hl : lv_has ls 9 [(0, .ref (ad 0)), (1, .int a1), (2, .int a2), (3, .int a3)]) : W p l e (headSpec wsX6_valueOf { frames := 3, cells := 0, slots := 0, locals := 67 }).room s m args below meth c H locs 0 0 (MQ below (va_Qi Q (fun u9 t => va_P D vwCl (cW cI cG L ad al u9) t.heap) (cA L ad s.heap.size)) args s 0 0 (cA L ad s.heap.size)) (F0 m 0 ls []) := by
  obtain ⟨hx, hb, hml, hown, hts, hr, hlocks, hwd, hC⟩ := id X
  have hK := hC.1
  have m0 : 0 ∈ L := hL 0 (by omega)
  obtain ⟨i0, hi0⟩ := wL_ix m0
  have m1 : 1 ∈ L := hL 1 (by omega)
  obtain ⟨i1, hi1⟩ := wL_ix m1
  have m9 : 9 ∈ L := hL 9 (by omega)
  obtain ⟨i9, hi9⟩ := wL_ix m9
  have lk0 := hts (.fieldLink RX6 14 "FormForge" "field" "LFormForge$Field;") (by decide +kernel)
  have lk1 := hts (.fieldLink RX6 57 "FormForge" "first" "[I") (by decide +kernel)
  have n6 : ∀ w ∈ wsX60, w ∈ wsX6_valueOf := by decide +kernel
  unfold f_X6_valueOf at h
  refine lv_aload_n hx hb dX6_valueOf_0 rfl (lv_at hl 0 rfl) ?_
  refine va_get (C := RX6) (T := TX6) (N := 12) hx hb hts n6 hown hK hP i0 (cg_0 hi0) rfl 0 (by decide) lk0 (fun _ h9 => h9) rfl dX6_valueOf_1 ?_
  refine lv_iload_n hx hb dX6_valueOf_4 rfl (lv_at hl 2 rfl) ?_
  refine lv_aload_n hx hb dX6_valueOf_5 rfl (lv_at hl 0 rfl) ?_
  refine va_get (C := RX6) (T := TX6) (N := 12) hx hb hts n6 hown hK hP i0 (cg_0 hi0) rfl 7 (by decide) lk1 (fun _ h9 => h9) rfl dX6_valueOf_6 ?_
  refine cc_v (va_runV (C := RX2) (As := [.int a2, .ref (ad 9)]) (rest := []) ⟨hx, hb, hml, hown, hts⟩ (c_X2_spell hL (Or.inl ⟨by decide, by decide⟩) m9 hwd H.size u a2 _ h) (cwV 2 hts gX6_valueOf_X2_spell rfl rfl rfl (by decide +kernel) ⟨Nat.le_of_ble_eq_true rfl, Nat.le_of_ble_eq_true rfl⟩) (pcV hC hP hS (cg_1 hi1) rfl) rfl rfl hl.1 rfl (lv_room (Nat.le_of_ble_eq_true rfl)) dX6_valueOf_9 ⟨Nat.zero_le _, Nat.zero_le _⟩) hS (cA_mono hS.1) (fun u1 H locs h hP hS => ?_)
  refine lv_aload_n hx hb dX6_valueOf_12 rfl (lv_at hl 0 rfl) ?_
  refine va_get (C := RX6) (T := TX6) (N := 12) hx hb hts n6 hown hK hP i0 (cg_0 hi0) rfl 7 (by decide) lk1 (fun _ h9 => h9) rfl dX6_valueOf_13 ?_
  refine lv_iconst (v := 0) hx hb dX6_valueOf_16 (by decide) ?_
  refine cc_i (va_runS (As := [.ref (ad 9), .int 0]) (rest := []) ⟨hx, hb, hml, hown, hts⟩ (c_X6_read hL.g (Or.inl ⟨by decide, by decide⟩) m9 hwd H.size u1 0 _ h) (va_cwS 2 hts gX6_valueOf_X6_read rfl rfl rfl (by decide +kernel) ⟨Nat.le_of_ble_eq_true rfl, Nat.le_of_ble_eq_true rfl⟩) (pcS hC hP hS) rfl rfl hl.1 rfl (lv_room (Nat.le_of_ble_eq_true rfl)) dX6_valueOf_17 ⟨Nat.zero_le _, Nat.zero_le _⟩) hS (cA_mono hS.1) (fun v2 u3 H locs h hP hS => ?_)
  refine lv_istore (lv' := [(4, .int v2), (0, .ref (ad 0)), (1, .int a1), (2, .int a2), (3, .int a3)]) hx hb dX6_valueOf_20 hl (by decide) rfl (fun ls hl => ?_)
  refine lv_aload_n hx hb dX6_valueOf_22 rfl (lv_at hl 1 rfl) ?_
  refine va_get (C := RX6) (T := TX6) (N := 12) hx hb hts n6 hown hK hP i0 (cg_0 hi0) rfl 7 (by decide) lk1 (fun _ h9 => h9) rfl dX6_valueOf_23 ?_
  refine lv_iconst (v := 1) hx hb dX6_valueOf_26 (by decide) ?_
  refine cc_i (va_runS (As := [.ref (ad 9), .int 1]) (rest := []) ⟨hx, hb, hml, hown, hts⟩ (c_X6_read hL.g (Or.inl ⟨by decide, by decide⟩) m9 hwd H.size u3 1 _ h) (va_cwS 2 hts gX6_valueOf_X6_read rfl rfl rfl (by decide +kernel) ⟨Nat.le_of_ble_eq_true rfl, Nat.le_of_ble_eq_true rfl⟩) (pcS hC hP hS) rfl rfl hl.1 rfl (lv_room (Nat.le_of_ble_eq_true rfl)) dX6_valueOf_27 ⟨Nat.zero_le _, Nat.zero_le _⟩) hS (cA_mono hS.1) (fun v4 u5 H locs h hP hS => ?_)
  refine lv_istore (lv' := [(5, .int v4), (4, .int v2), (0, .ref (ad 0)), (1, .int a1), (2, .int a2), (3, .int a3)]) hx hb dX6_valueOf_30 hl (by decide) rfl (fun ls hl => ?_)
  refine lv_aload_n hx hb dX6_valueOf_32 rfl (lv_at hl 2 rfl) ?_
  refine va_get (C := RX6) (T := TX6) (N := 12) hx hb hts n6 hown hK hP i0 (cg_0 hi0) rfl 7 (by decide) lk1 (fun _ h9 => h9) rfl dX6_valueOf_33 ?_
  refine lv_iconst (v := 2) hx hb dX6_valueOf_36 (by decide) ?_
  refine cc_i (va_runS (As := [.ref (ad 9), .int 2]) (rest := []) ⟨hx, hb, hml, hown, hts⟩ (c_X6_read hL.g (Or.inl ⟨by decide, by decide⟩) m9 hwd H.size u5 2 _ h) (va_cwS 2 hts gX6_valueOf_X6_read rfl rfl rfl (by decide +kernel) ⟨Nat.le_of_ble_eq_true rfl, Nat.le_of_ble_eq_true rfl⟩) (pcS hC hP hS) rfl rfl hl.1 rfl (lv_room (Nat.le_of_ble_eq_true rfl)) dX6_valueOf_37 ⟨Nat.zero_le _, Nat.zero_le _⟩) hS (cA_mono hS.1) (fun v6 u7 H locs h hP hS => ?_)
  refine lv_istore (lv' := [(6, .int v6), (5, .int v4), (4, .int v2), (0, .ref (ad 0)), (1, .int a1), (2, .int a2), (3, .int a3)]) hx hb dX6_valueOf_40 hl (by decide) rfl (fun ls hl => ?_)
  refine lv_aload_n hx hb dX6_valueOf_42 rfl (lv_at hl 3 rfl) ?_
  refine va_get (C := RX6) (T := TX6) (N := 12) hx hb hts n6 hown hK hP i0 (cg_0 hi0) rfl 7 (by decide) lk1 (fun _ h9 => h9) rfl dX6_valueOf_43 ?_
  refine lv_iconst (v := 3) hx hb dX6_valueOf_46 (by decide) ?_
  refine cc_i (va_runS (As := [.ref (ad 9), .int 3]) (rest := []) ⟨hx, hb, hml, hown, hts⟩ (c_X6_read hL.g (Or.inl ⟨by decide, by decide⟩) m9 hwd H.size u7 3 _ h) (va_cwS 2 hts gX6_valueOf_X6_read rfl rfl rfl (by decide +kernel) ⟨Nat.le_of_ble_eq_true rfl, Nat.le_of_ble_eq_true rfl⟩) (pcS hC hP hS) rfl rfl hl.1 rfl (lv_room (Nat.le_of_ble_eq_true rfl)) dX6_valueOf_47 ⟨Nat.zero_le _, Nat.zero_le _⟩) hS (cA_mono hS.1) (fun v8 u9 H locs h hP hS => ?_)
  refine lv_istore (lv' := [(7, .int v8), (6, .int v6), (5, .int v4), (4, .int v2), (0, .ref (ad 0)), (1, .int a1), (2, .int a2), (3, .int a3)]) hx hb dX6_valueOf_50 hl (by decide) rfl (fun ls hl => ?_)
  refine lv_aload_n hx hb dX6_valueOf_52 rfl (lv_at hl 4 rfl) ?_
  refine va_get (C := RX6) (T := TX6) (N := 12) hx hb hts n6 hown hK hP i0 (cg_0 hi0) rfl 7 (by decide) lk1 (fun _ h9 => h9) rfl dX6_valueOf_53 ?_
  refine lv_iconst (v := 4) hx hb dX6_valueOf_56 (by decide) ?_
  refine cc_i (va_runS (As := [.ref (ad 9), .int 4]) (rest := []) ⟨hx, hb, hml, hown, hts⟩ (c_X6_read hL.g (Or.inl ⟨by decide, by decide⟩) m9 hwd H.size u9 4 _ h) (va_cwS 2 hts gX6_valueOf_X6_read rfl rfl rfl (by decide +kernel) ⟨Nat.le_of_ble_eq_true rfl, Nat.le_of_ble_eq_true rfl⟩) (pcS hC hP hS) rfl rfl hl.1 rfl (lv_room (Nat.le_of_ble_eq_true rfl)) dX6_valueOf_57 ⟨Nat.zero_le _, Nat.zero_le _⟩) hS (cA_mono hS.1) (fun v10 u11 H locs h hP hS => ?_)
  refine lv_istore (lv' := [(8, .int v10), (7, .int v8), (6, .int v6), (5, .int v4), (4, .int v2), (0, .ref (ad 0)), (1, .int a1), (2, .int a2), (3, .int a3)]) hx hb dX6_valueOf_60 hl (by decide) rfl (fun ls hl => ?_)
  refine lv_iload_n hx hb dX6_valueOf_62 rfl (lv_at hl 6 rfl) ?_
  by_cases c14 : a1 = 2
  · replace h := h.1 c14
    refine lv_tableIn (off := 25) (tgt := 88) hx hb dX6_valueOf_63 (by rw [c14]; decide) (by rw [c14]; decide) (by rw [c14]; rfl) (by decide) ?_
    refine lv_aload_n hx hb dX6_valueOf_88 rfl (lv_at hl 5 rfl) ?_
    refine va_get (C := RX6) (T := TX6) (N := 12) hx hb hts n6 hown hK hP i0 (cg_0 hi0) rfl 0 (by decide) lk0 (fun _ h9 => h9) rfl dX6_valueOf_89 ?_
    refine lv_iload hx hb dX6_valueOf_92 (lv_at hl 3 rfl) ?_
    refine lv_iload hx hb dX6_valueOf_94 (lv_at hl 3 rfl) ?_
    refine lv_imul hx hb dX6_valueOf_96 ?_
    refine lv_iconst (v := 4) hx hb dX6_valueOf_97 (by decide) ?_
    refine lv_iload hx hb dX6_valueOf_98 (lv_at hl 4 rfl) ?_
    refine lv_imul hx hb dX6_valueOf_100 ?_
    refine lv_iload hx hb dX6_valueOf_101 (lv_at hl 2 rfl) ?_
    refine lv_imul hx hb dX6_valueOf_103 ?_
    refine lv_isub hx hb dX6_valueOf_104 ?_
    refine cc_i (va_runV (C := RX2) (As := [.int ((v4 * v4) - ((4 * v2) * v6))]) (rest := []) ⟨hx, hb, hml, hown, hts⟩ (c_X2_rest hL.g hwd H.size u11 ((v4 * v4) - ((4 * v2) * v6)) _ h) (cwV 1 hts gX6_valueOf_X2_rest rfl rfl rfl (by decide +kernel) ⟨Nat.le_of_ble_eq_true rfl, Nat.le_of_ble_eq_true rfl⟩) (pcV hC hP hS (cg_1 hi1) rfl) rfl rfl hl.1 rfl (lv_room (Nat.le_of_ble_eq_true rfl)) dX6_valueOf_105 ⟨Nat.zero_le _, Nat.zero_le _⟩) hS (cA_mono hS.1) (fun v12 u13 H locs h hP hS => ?_)
    exact W.iret (v := v12) hx hb hr (fun t ht hW => ⟨⟨_, _, rfl, h, by show va_P _ _ _ t.heap; rw [ht]; exact hP⟩, hS.F ht⟩) hS.2.2 dX6_valueOf_108
  by_cases c17 : a1 = 3
  · replace h := h.2.1 c17
    refine lv_tableIn (off := 46) (tgt := 109) hx hb dX6_valueOf_63 (by rw [c17]; decide) (by rw [c17]; decide) (by rw [c17]; rfl) (by decide) ?_
    refine lv_aload_n hx hb dX6_valueOf_109 rfl (lv_at hl 5 rfl) ?_
    refine va_get (C := RX6) (T := TX6) (N := 12) hx hb hts n6 hown hK hP i0 (cg_0 hi0) rfl 0 (by decide) lk0 (fun _ h9 => h9) rfl dX6_valueOf_110 ?_
    refine lv_iload hx hb dX6_valueOf_113 (lv_at hl 3 rfl) ?_
    refine lv_iload hx hb dX6_valueOf_115 (lv_at hl 3 rfl) ?_
    refine lv_imul hx hb dX6_valueOf_117 ?_
    refine lv_iload hx hb dX6_valueOf_118 (lv_at hl 2 rfl) ?_
    refine lv_imul hx hb dX6_valueOf_120 ?_
    refine lv_iload hx hb dX6_valueOf_121 (lv_at hl 2 rfl) ?_
    refine lv_imul hx hb dX6_valueOf_123 ?_
    refine lv_iconst (v := 4) hx hb dX6_valueOf_124 (by decide) ?_
    refine lv_iload hx hb dX6_valueOf_125 (lv_at hl 4 rfl) ?_
    refine lv_imul hx hb dX6_valueOf_127 ?_
    refine lv_iload hx hb dX6_valueOf_128 (lv_at hl 2 rfl) ?_
    refine lv_imul hx hb dX6_valueOf_130 ?_
    refine lv_iload hx hb dX6_valueOf_131 (lv_at hl 2 rfl) ?_
    refine lv_imul hx hb dX6_valueOf_133 ?_
    refine lv_iload hx hb dX6_valueOf_134 (lv_at hl 2 rfl) ?_
    refine lv_imul hx hb dX6_valueOf_136 ?_
    refine lv_isub hx hb dX6_valueOf_137 ?_
    refine lv_iconst (v := 4) hx hb dX6_valueOf_138 (by decide) ?_
    refine lv_iload hx hb dX6_valueOf_139 (lv_at hl 3 rfl) ?_
    refine lv_imul hx hb dX6_valueOf_141 ?_
    refine lv_iload hx hb dX6_valueOf_142 (lv_at hl 3 rfl) ?_
    refine lv_imul hx hb dX6_valueOf_144 ?_
    refine lv_iload hx hb dX6_valueOf_145 (lv_at hl 3 rfl) ?_
    refine lv_imul hx hb dX6_valueOf_147 ?_
    refine lv_iload hx hb dX6_valueOf_148 (lv_at hl 1 rfl) ?_
    refine lv_imul hx hb dX6_valueOf_150 ?_
    refine lv_isub hx hb dX6_valueOf_151 ?_
    refine lv_bipush (v := 27) hx hb dX6_valueOf_152 (by decide) ?_
    refine lv_iload hx hb dX6_valueOf_154 (lv_at hl 4 rfl) ?_
    refine lv_imul hx hb dX6_valueOf_156 ?_
    refine lv_iload hx hb dX6_valueOf_157 (lv_at hl 4 rfl) ?_
    refine lv_imul hx hb dX6_valueOf_159 ?_
    refine lv_iload hx hb dX6_valueOf_160 (lv_at hl 1 rfl) ?_
    refine lv_imul hx hb dX6_valueOf_162 ?_
    refine lv_iload hx hb dX6_valueOf_163 (lv_at hl 1 rfl) ?_
    refine lv_imul hx hb dX6_valueOf_165 ?_
    refine lv_isub hx hb dX6_valueOf_166 ?_
    refine lv_bipush (v := 18) hx hb dX6_valueOf_167 (by decide) ?_
    refine lv_iload hx hb dX6_valueOf_169 (lv_at hl 4 rfl) ?_
    refine lv_imul hx hb dX6_valueOf_171 ?_
    refine lv_iload hx hb dX6_valueOf_172 (lv_at hl 3 rfl) ?_
    refine lv_imul hx hb dX6_valueOf_174 ?_
    refine lv_iload hx hb dX6_valueOf_175 (lv_at hl 2 rfl) ?_
    refine lv_imul hx hb dX6_valueOf_177 ?_
    refine lv_iload hx hb dX6_valueOf_178 (lv_at hl 1 rfl) ?_
    refine lv_imul hx hb dX6_valueOf_180 ?_
    refine lv_iadd hx hb dX6_valueOf_181 ?_
    refine cc_i (va_runV (C := RX2) (As := [.int (((((((v4 * v4) * v6) * v6) - ((((4 * v2) * v6) * v6) * v6)) - ((((4 * v4) * v4) * v4) * v8)) - ((((27 * v2) * v2) * v8) * v8)) + ((((18 * v2) * v4) * v6) * v8))]) (rest := []) ⟨hx, hb, hml, hown, hts⟩ (c_X2_rest hL.g hwd H.size u11 (((((((v4 * v4) * v6) * v6) - ((((4 * v2) * v6) * v6) * v6)) - ((((4 * v4) * v4) * v4) * v8)) - ((((27 * v2) * v2) * v8) * v8)) + ((((18 * v2) * v4) * v6) * v8)) _ h) (cwV 1 hts gX6_valueOf_X2_rest rfl rfl rfl (by decide +kernel) ⟨Nat.le_of_ble_eq_true rfl, Nat.le_of_ble_eq_true rfl⟩) (pcV hC hP hS (cg_1 hi1) rfl) rfl rfl hl.1 rfl (lv_room (Nat.le_of_ble_eq_true rfl)) dX6_valueOf_182 ⟨Nat.zero_le _, Nat.zero_le _⟩) hS (cA_mono hS.1) (fun v15 u16 H locs h hP hS => ?_)
    exact W.iret (v := v15) hx hb hr (fun t ht hW => ⟨⟨_, _, rfl, h, by show va_P _ _ _ t.heap; rw [ht]; exact hP⟩, hS.F ht⟩) hS.2.2 dX6_valueOf_185
  by_cases c23 : a1 = 4
  · replace h := h.2.2.1 c23
    refine lv_tableIn (off := 123) (tgt := 186) hx hb dX6_valueOf_63 (by rw [c23]; decide) (by rw [c23]; decide) (by rw [c23]; rfl) (by decide) ?_
    refine lv_iload_n hx hb dX6_valueOf_186 rfl (lv_at hl 8 rfl) ?_
    refine lv_if_ne (tgt := 222) hx hb dX6_valueOf_187 (by decide) (fun c18 => ?_) (fun c18 => ?_)
    · replace h := h.1 c18
      refine lv_aload_n hx hb dX6_valueOf_222 rfl (lv_at hl 5 rfl) ?_
      refine va_get (C := RX6) (T := TX6) (N := 12) hx hb hts n6 hown hK hP i0 (cg_0 hi0) rfl 0 (by decide) lk0 (fun _ h9 => h9) rfl dX6_valueOf_223 ?_
      refine lv_bipush (v := 72) hx hb dX6_valueOf_226 (by decide) ?_
      refine lv_iload hx hb dX6_valueOf_228 (lv_at hl 4 rfl) ?_
      refine lv_imul hx hb dX6_valueOf_230 ?_
      refine lv_iload hx hb dX6_valueOf_231 (lv_at hl 2 rfl) ?_
      refine lv_imul hx hb dX6_valueOf_233 ?_
      refine lv_iload hx hb dX6_valueOf_234 (lv_at hl 0 rfl) ?_
      refine lv_imul hx hb dX6_valueOf_236 ?_
      refine lv_bipush (v := 9) hx hb dX6_valueOf_237 (by decide) ?_
      refine lv_iload hx hb dX6_valueOf_239 (lv_at hl 3 rfl) ?_
      refine lv_imul hx hb dX6_valueOf_241 ?_
      refine lv_iload hx hb dX6_valueOf_242 (lv_at hl 2 rfl) ?_
      refine lv_imul hx hb dX6_valueOf_244 ?_
      refine lv_iload hx hb dX6_valueOf_245 (lv_at hl 1 rfl) ?_
      refine lv_imul hx hb dX6_valueOf_247 ?_
      refine lv_iadd hx hb dX6_valueOf_248 ?_
      refine lv_bipush (v := 27) hx hb dX6_valueOf_249 (by decide) ?_
      refine lv_iload hx hb dX6_valueOf_251 (lv_at hl 4 rfl) ?_
      refine lv_imul hx hb dX6_valueOf_253 ?_
      refine lv_iload hx hb dX6_valueOf_254 (lv_at hl 1 rfl) ?_
      refine lv_imul hx hb dX6_valueOf_256 ?_
      refine lv_iload hx hb dX6_valueOf_257 (lv_at hl 1 rfl) ?_
      refine lv_imul hx hb dX6_valueOf_259 ?_
      refine lv_isub hx hb dX6_valueOf_260 ?_
      refine lv_bipush (v := 27) hx hb dX6_valueOf_261 (by decide) ?_
      refine lv_iload hx hb dX6_valueOf_263 (lv_at hl 0 rfl) ?_
      refine lv_imul hx hb dX6_valueOf_265 ?_
      refine lv_iload hx hb dX6_valueOf_266 (lv_at hl 3 rfl) ?_
      refine lv_imul hx hb dX6_valueOf_268 ?_
      refine lv_iload hx hb dX6_valueOf_269 (lv_at hl 3 rfl) ?_
      refine lv_imul hx hb dX6_valueOf_271 ?_
      refine lv_isub hx hb dX6_valueOf_272 ?_
      refine lv_iconst (v := 2) hx hb dX6_valueOf_273 (by decide) ?_
      refine lv_iload hx hb dX6_valueOf_274 (lv_at hl 2 rfl) ?_
      refine lv_imul hx hb dX6_valueOf_276 ?_
      refine lv_iload hx hb dX6_valueOf_277 (lv_at hl 2 rfl) ?_
      refine lv_imul hx hb dX6_valueOf_279 ?_
      refine lv_iload hx hb dX6_valueOf_280 (lv_at hl 2 rfl) ?_
      refine lv_imul hx hb dX6_valueOf_282 ?_
      refine lv_isub hx hb dX6_valueOf_283 ?_
      refine cc_i (va_runV (C := RX2) (As := [.int (((((((72 * v2) * v6) * v10) + (((9 * v4) * v6) * v8)) - (((27 * v2) * v8) * v8)) - (((27 * v10) * v4) * v4)) - (((2 * v6) * v6) * v6))]) (rest := []) ⟨hx, hb, hml, hown, hts⟩ (c_X2_rest hL.g hwd H.size u11 (((((((72 * v2) * v6) * v10) + (((9 * v4) * v6) * v8)) - (((27 * v2) * v8) * v8)) - (((27 * v10) * v4) * v4)) - (((2 * v6) * v6) * v6)) _ h) (cwV 1 hts gX6_valueOf_X2_rest rfl rfl rfl (by decide +kernel) ⟨Nat.le_of_ble_eq_true rfl, Nat.le_of_ble_eq_true rfl⟩) (pcV hC hP hS (cg_1 hi1) rfl) rfl rfl hl.1 rfl (lv_room (Nat.le_of_ble_eq_true rfl)) dX6_valueOf_284 ⟨Nat.zero_le _, Nat.zero_le _⟩) hS (cA_mono hS.1) (fun v19 u20 H locs h hP hS => ?_)
      exact W.iret (v := v19) hx hb hr (fun t ht hW => ⟨⟨_, _, rfl, h, by show va_P _ _ _ t.heap; rw [ht]; exact hP⟩, hS.F ht⟩) hS.2.2 dX6_valueOf_287
    · replace h := h.2 c18
      refine lv_aload_n hx hb dX6_valueOf_190 rfl (lv_at hl 5 rfl) ?_
      refine va_get (C := RX6) (T := TX6) (N := 12) hx hb hts n6 hown hK hP i0 (cg_0 hi0) rfl 0 (by decide) lk0 (fun _ h9 => h9) rfl dX6_valueOf_191 ?_
      refine lv_bipush (v := 12) hx hb dX6_valueOf_194 (by decide) ?_
      refine lv_iload hx hb dX6_valueOf_196 (lv_at hl 4 rfl) ?_
      refine lv_imul hx hb dX6_valueOf_198 ?_
      refine lv_iload hx hb dX6_valueOf_199 (lv_at hl 0 rfl) ?_
      refine lv_imul hx hb dX6_valueOf_201 ?_
      refine lv_iconst (v := 3) hx hb dX6_valueOf_202 (by decide) ?_
      refine lv_iload hx hb dX6_valueOf_203 (lv_at hl 3 rfl) ?_
      refine lv_imul hx hb dX6_valueOf_205 ?_
      refine lv_iload hx hb dX6_valueOf_206 (lv_at hl 1 rfl) ?_
      refine lv_imul hx hb dX6_valueOf_208 ?_
      refine lv_isub hx hb dX6_valueOf_209 ?_
      refine lv_iload hx hb dX6_valueOf_210 (lv_at hl 2 rfl) ?_
      refine lv_iload hx hb dX6_valueOf_212 (lv_at hl 2 rfl) ?_
      refine lv_imul hx hb dX6_valueOf_214 ?_
      refine lv_iadd hx hb dX6_valueOf_215 ?_
      refine cc_i (va_runV (C := RX2) (As := [.int ((((12 * v2) * v10) - ((3 * v4) * v8)) + (v6 * v6))]) (rest := []) ⟨hx, hb, hml, hown, hts⟩ (c_X2_rest hL.g hwd H.size u11 ((((12 * v2) * v10) - ((3 * v4) * v8)) + (v6 * v6)) _ h) (cwV 1 hts gX6_valueOf_X2_rest rfl rfl rfl (by decide +kernel) ⟨Nat.le_of_ble_eq_true rfl, Nat.le_of_ble_eq_true rfl⟩) (pcV hC hP hS (cg_1 hi1) rfl) rfl rfl hl.1 rfl (lv_room (Nat.le_of_ble_eq_true rfl)) dX6_valueOf_216 ⟨Nat.zero_le _, Nat.zero_le _⟩) hS (cA_mono hS.1) (fun v21 u22 H locs h hP hS => ?_)
      refine lv_goto (tgt := 287) hx hb dX6_valueOf_219 (by decide) ?_
      exact W.iret (v := v21) hx hb hr (fun t ht hW => ⟨⟨_, _, rfl, h, by show va_P _ _ _ t.heap; rw [ht]; exact hP⟩, hS.F ht⟩) hS.2.2 dX6_valueOf_287
  replace h := h.2.2.2 ⟨c14, c17, c23⟩
  refine lv_tableOut (tgt := 288) hx hb dX6_valueOf_63 (by have q0 := lv_neT (a := 2) c14 rfl; have q1 := lv_neT (a := 3) c17 rfl; have q2 := lv_neT (a := 4) c23 rfl; omega) (by decide) ?_
  refine lv_iconst (v := 0) hx hb dX6_valueOf_288 (by decide) ?_
  exact W.iret (v := 0) hx hb hr (fun t ht hW => ⟨⟨_, _, rfl, h, by show va_P _ _ _ t.heap; rw [ht]; exact hP⟩, hS.F ht⟩) hS.2.2 dX6_valueOf_289
set_option maxRecDepth 100000 in
set_option maxHeartbeats 4000000 in
theorem c_X6_valueOf {l : Launch} {D : va_G} {cI cG cZ cJ : ClassId} {ts : Nat × Nat} {L : List Nat} {ad : Nat → Nat} {al : Nat} (hL : Lf L al) (hwd : WD L ad) (sz : Nat) (u : St) (a1 : Int32) (a2 : Int32) (a3 : Int32) (Q : Int32 → St → Prop) (h : f_X6_valueOf al a1 a2 a3 u Q) : Met l yX6_valueOf wsX6_valueOf ({ frames := 3, cells := 0, slots := 0, locals := 67 }) (va_Pc [.ref (ad 0), .int a1, .int a2, .int a3] (PC D cI cG cZ cJ ts L ad al sz u)) (va_Qi Q (fun u9 t => va_P D vwCl (cW cI cG L ad al u9) t.heap) (cA L ad sz)) 0 0 (cA L ad sz) := by
  refine Met.ofW (cc := cX6_valueOf) (maxL := 9) (ret := (some .int)) (by decide) rfl ?_
  intro p e s m args below meth c s₁ B hml hv
  obtain ⟨rfl, hsz, hP, hC⟩ := hv
  subst hsz
  have X : FX RX6 wsX6_valueOf cX6_valueOf 9 (some .int) D cI cG cZ cJ ts L ad p s m _ meth c := ⟨B.exec, B.bytes, hml, findClass_of_methodNamed B.named, atoms_spec (ws := wsX6_valueOf) B.pre, B.returns, B.notSynchronized, hwd, hC⟩
  have hl := lv_entry ([.ref (ad 0), .int a1, .int a2, .int a3]) (n := 9) (Nat.le_of_ble_eq_true rfl)
  rw [lg_entry_eq]
  generalize (lg_sl ([.ref (ad 0), .int a1, .int a2, .int a3]) ++ List.replicate (9 - (lg_sl ([.ref (ad 0), .int a1, .int a2, .int a3])).length) Slot.unset).toArray = ls at hl ⊢
  exact w_X6_valueOf hL X a1 a2 a3 Q u _ _ _ h hP va_S.rf hl
set_option maxRecDepth 100000 in
set_option maxHeartbeats 4000000 in
theorem w_X6_weightOf {p : Program} {l : Launch} {e : Env} {s : State} {m : MethodId} {args : Array Value} {below : List Frame} {meth : Method} {c : Code} {D : va_G} {cI cG cZ cJ : ClassId} {ts : Nat × Nat} {L : List Nat} {ad : Nat → Nat} {al : Nat} (hL : Lf L al) (X : FX RX6 wsX6_weightOf cX6_weightOf 2 (some .int) D cI cG cZ cJ ts L ad p s m args meth c) (a0 : Int32) (a1 : Int32) (Q : Int32 → St → Prop) (u : St) (H : Heap) (locs : List Loc) (ls : Array Slot) (h : f_X6_weightOf al a0 a1 u Q) (hP : va_P D vwCl (cW cI cG L ad al u) H) (hS : va_S (cA L ad s.heap.size) s.heap H locs) (hl : lv_has ls 2 [(0, .int a0), (1, .int a1)]) : W p l e (headSpec wsX6_weightOf { frames := 0, cells := 0, slots := 0, locals := 0 }).room s m args below meth c H locs 0 0 (MQ below (va_Qi Q (fun u9 t => va_P D vwCl (cW cI cG L ad al u9) t.heap) (cA L ad s.heap.size)) args s 0 0 (cA L ad s.heap.size)) (F0 m 0 ls []) := by
  obtain ⟨hx, hb, hml, hown, hts, hr, hlocks, hwd, hC⟩ := id X
  have hK := hC.1
  unfold f_X6_weightOf at h
  refine lv_iload_n hx hb dX6_weightOf_0 rfl (lv_at hl 0 rfl) ?_
  by_cases c1 : a0 = 2
  · replace h := h.1 c1
    refine lv_lookup (off := 27) (tgt := 28) hx hb dX6_weightOf_1 (by decide) (by rw [c1]; rfl) (by decide) ?_
    refine lv_iconst (v := 2) hx hb dX6_weightOf_28 (by decide) ?_
    exact W.iret (v := 2) hx hb hr (fun t ht hW => ⟨⟨_, _, rfl, h, by show va_P _ _ _ t.heap; rw [ht]; exact hP⟩, hS.F ht⟩) hS.2.2 dX6_weightOf_29
  by_cases c3 : a0 = 4
  · replace h := h.2.1 c3
    refine lv_lookup (off := 29) (tgt := 30) hx hb dX6_weightOf_1 (by decide) (by rw [c3]; rfl) (by decide) ?_
    refine lv_iload_n hx hb dX6_weightOf_30 rfl (lv_at hl 1 rfl) ?_
    refine lv_if_ne (tgt := 38) hx hb dX6_weightOf_31 (by decide) (fun c2 => ?_) (fun c2 => ?_)
    · replace h := h.1 c2
      refine lv_bipush (v := 6) hx hb dX6_weightOf_38 (by decide) ?_
      exact W.iret (v := 6) hx hb hr (fun t ht hW => ⟨⟨_, _, rfl, h, by show va_P _ _ _ t.heap; rw [ht]; exact hP⟩, hS.F ht⟩) hS.2.2 dX6_weightOf_40
    · replace h := h.2 c2
      refine lv_iconst (v := 4) hx hb dX6_weightOf_34 (by decide) ?_
      refine lv_goto (tgt := 40) hx hb dX6_weightOf_35 (by decide) ?_
      exact W.iret (v := 4) hx hb hr (fun t ht hW => ⟨⟨_, _, rfl, h, by show va_P _ _ _ t.heap; rw [ht]; exact hP⟩, hS.F ht⟩) hS.2.2 dX6_weightOf_40
  replace h := h.2.2 ⟨c1, c3⟩
  refine lv_lookup (off := 40) (tgt := 41) hx hb dX6_weightOf_1 (by decide) (by show Op.lookupswitch.offset [(2, 27), (4, 29)] 40 _ = _;rw [lv_osw (a := 2) c1 rfl]; rw [lv_osw (a := 4) c3 rfl]; rfl) (by decide) ?_
  refine lv_bipush (v := 6) hx hb dX6_weightOf_41 (by decide) ?_
  exact W.iret (v := 6) hx hb hr (fun t ht hW => ⟨⟨_, _, rfl, h, by show va_P _ _ _ t.heap; rw [ht]; exact hP⟩, hS.F ht⟩) hS.2.2 dX6_weightOf_43
set_option maxRecDepth 100000 in
set_option maxHeartbeats 4000000 in
theorem c_X6_weightOf {l : Launch} {D : va_G} {cI cG cZ cJ : ClassId} {ts : Nat × Nat} {L : List Nat} {ad : Nat → Nat} {al : Nat} (hL : Lf L al) (hwd : WD L ad) (sz : Nat) (u : St) (a0 : Int32) (a1 : Int32) (Q : Int32 → St → Prop) (h : f_X6_weightOf al a0 a1 u Q) : Met l yX6_weightOf wsX6_weightOf ({ frames := 0, cells := 0, slots := 0, locals := 0 }) (va_Pc [.int a0, .int a1] (PC D cI cG cZ cJ ts L ad al sz u)) (va_Qi Q (fun u9 t => va_P D vwCl (cW cI cG L ad al u9) t.heap) (cA L ad sz)) 0 0 (cA L ad sz) := by
  refine Met.ofW (cc := cX6_weightOf) (maxL := 2) (ret := (some .int)) (by decide) rfl ?_
  intro p e s m args below meth c s₁ B hml hv
  obtain ⟨rfl, hsz, hP, hC⟩ := hv
  subst hsz
  have X : FX RX6 wsX6_weightOf cX6_weightOf 2 (some .int) D cI cG cZ cJ ts L ad p s m _ meth c := ⟨B.exec, B.bytes, hml, findClass_of_methodNamed B.named, atoms_spec (ws := wsX6_weightOf) B.pre, B.returns, B.notSynchronized, hwd, hC⟩
  have hl := lv_entry ([.int a0, .int a1]) (n := 2) (Nat.le_of_ble_eq_true rfl)
  rw [lg_entry_eq]
  generalize (lg_sl ([.int a0, .int a1]) ++ List.replicate (2 - (lg_sl ([.int a0, .int a1])).length) Slot.unset).toArray = ls at hl ⊢
  exact w_X6_weightOf hL X a0 a1 Q u _ _ _ h hP va_S.rf hl
set_option maxRecDepth 100000 in
set_option maxHeartbeats 4000000 in
theorem w_X6_weighsBy_L32 {p : Program} {l : Launch} {e : Env} {s : State} {m : MethodId} {args : Array Value} {below : List Frame} {meth : Method} {c : Code} {D : va_G} {cI cG cZ cJ : ClassId} {ts : Nat × Nat} {L : List Nat} {ad : Nat → Nat} {al : Nat} (hL : Lf L al) (X : FX RX6 wsX6_weighsBy cX6_weighsBy 8 (some .boolean) D cI cG cZ cJ ts L ad p s m args meth c) (a1 : Int32) (a2 : Int32) (a4 : Int32) (a5 : Int32) (Q : Int32 → St → Prop)
    (K0 : St → Prop) (hk0 : ∀ (u : St) (H : Heap) (locs : List Loc) (ls : Array Slot), K0 u → va_P D vwCl (cW cI cG L ad al u) H → va_S (cA L ad s.heap.size) s.heap H locs → lv_has ls 8 [] → W p l e (headSpec wsX6_weighsBy { frames := 4, cells := 0, slots := 0, locals := 95 }).room s m args below meth c H locs 0 0 (MQ below (va_Qi Q (fun u9 t => va_P D vwCl (cW cI cG L ad al u9) t.heap) (cA L ad s.heap.size)) args s 0 0 (cA L ad s.heap.size)) (F0 m 88 ls []))
    (K1 : St → Prop) (hk1 : ∀ (u : St) (H : Heap) (locs : List Loc) (ls : Array Slot), K1 u → va_P D vwCl (cW cI cG L ad al u) H → va_S (cA L ad s.heap.size) s.heap H locs → lv_has ls 8 [] → W p l e (headSpec wsX6_weighsBy { frames := 4, cells := 0, slots := 0, locals := 95 }).room s m args below meth c H locs 0 0 (MQ below (va_Qi Q (fun u9 t => va_P D vwCl (cW cI cG L ad al u9) t.heap) (cA L ad s.heap.size)) args s 0 0 (cA L ad s.heap.size)) (F0 m 96 ls []))
    : ∀ (n : Nat) (a6 : Int32) (u : St) (H : Heap) (locs : List Loc) (ls : Array Slot), f_X6_weighsBy_L32 al a1 a2 a4 a5 Q K0 K1 n a6 u → va_P D vwCl (cW cI cG L ad al u) H → va_S (cA L ad s.heap.size) s.heap H locs → lv_has ls 8 [(0, .ref (ad 0)), (1, .int a1), (2, .int a2), (4, .int a4), (5, .int a5), (6, .int a6)] → W p l e (headSpec wsX6_weighsBy { frames := 4, cells := 0, slots := 0, locals := 95 }).room s m args below meth c H locs 0 0 (MQ below (va_Qi Q (fun u9 t => va_P D vwCl (cW cI cG L ad al u9) t.heap) (cA L ad s.heap.size)) args s 0 0 (cA L ad s.heap.size)) (F0 m 32 ls []) := by
  obtain ⟨hx, hb, hml, hown, hts, hr, hlocks, hwd, hC⟩ := id X
  have hK := hC.1
  have m0 : 0 ∈ L := hL 0 (by omega)
  obtain ⟨i0, hi0⟩ := wL_ix m0
  have m1 : 1 ∈ L := hL 1 (by omega)
  obtain ⟨i1, hi1⟩ := wL_ix m1
  have m4 : 4 ∈ L := hL 4 (by omega)
  obtain ⟨i4, hi4⟩ := wL_ix m4
  have lk0 := hts (.fieldLink RX6 14 "FormForge" "field" "LFormForge$Field;") (by decide +kernel)
  have lk1 := hts (.fieldLink RX6 37 "FormForge" "group" "LFormForge$Group;") (by decide +kernel)
  have n6 : ∀ w ∈ wsX60, w ∈ wsX6_weighsBy := by decide +kernel
  intro n
  induction n with
  | zero =>
    intro a6 u H locs ls h; exact h.elim
  | succ n ih =>
    intro a6 u H locs ls h hP hS hl
    replace h : f_X6_weighsBy_L32_s al a1 a2 a4 a5 Q K0 K1 (f_X6_weighsBy_L32 al a1 a2 a4 a5 Q K0 K1 n) a6 u := h
    unfold f_X6_weighsBy_L32_s at h
    refine lv_iload hx hb dX6_weighsBy_32 (lv_at hl 5 rfl) ?_
    refine lv_iload_n hx hb dX6_weighsBy_34 rfl (lv_at hl 1 rfl) ?_
    refine cc_i (va_runS (As := [.int a1]) (rest := [.int a6]) ⟨hx, hb, hml, hown, hts⟩ (c_X6_countValues hL hwd H.size u a1 _ h) (va_cwS 1 hts gX6_weighsBy_X6_countValues rfl rfl rfl (by decide +kernel) ⟨Nat.le_of_ble_eq_true rfl, Nat.le_of_ble_eq_true rfl⟩) (pcS hC hP hS) rfl rfl hl.1 rfl (lv_room (Nat.le_of_ble_eq_true rfl)) dX6_weighsBy_35 ⟨Nat.zero_le _, Nat.zero_le _⟩) hS (cA_mono hS.1) (fun v7 u8 H locs h hP hS => ?_)
    refine lv_icmp_ge (tgt := 96) hx hb dX6_weighsBy_38 (by decide) (fun c9 => ?_) (fun c9 => ?_)
    · replace h := h.1 c9
      exact hk1  _ _ _ _ h hP hS (lv_sub hl [] rfl)
    · replace h := h.2 c9
      refine lv_aload_n hx hb dX6_weighsBy_41 rfl (lv_at hl 0 rfl) ?_
      refine va_get (C := RX6) (T := TX6) (N := 12) hx hb hts n6 hown hK hP i0 (cg_0 hi0) rfl 0 (by decide) lk0 (fun _ h9 => h9) rfl dX6_weighsBy_42 ?_
      refine lv_iload hx hb dX6_weighsBy_45 (lv_at hl 3 rfl) ?_
      refine lv_iload_n hx hb dX6_weighsBy_47 rfl (lv_at hl 1 rfl) ?_
      refine lv_iload hx hb dX6_weighsBy_48 (lv_at hl 5 rfl) ?_
      refine cc_i (va_runS (As := [.int a1, .int a6]) (rest := [.int a4, .ref (ad 1)]) ⟨hx, hb, hml, hown, hts⟩ (c_X6_weightOf hL hwd H.size u8 a1 a6 _ h) (va_cwS 2 hts gX6_weighsBy_X6_weightOf rfl rfl rfl (by decide +kernel) ⟨Nat.le_of_ble_eq_true rfl, Nat.le_of_ble_eq_true rfl⟩) (pcS hC hP hS) rfl rfl hl.1 rfl (lv_room (Nat.le_of_ble_eq_true rfl)) dX6_weighsBy_50 ⟨Nat.zero_le _, Nat.zero_le _⟩) hS (cA_mono hS.1) (fun v10 u11 H locs h hP hS => ?_)
      refine cc_i (va_runV (C := RX2) (As := [.int a4, .int v10]) (rest := []) ⟨hx, hb, hml, hown, hts⟩ (c_X2_power hL hwd H.size u11 a4 v10 _ h) (cwV 2 hts gX6_weighsBy_X2_power rfl rfl rfl (by decide +kernel) ⟨Nat.le_of_ble_eq_true rfl, Nat.le_of_ble_eq_true rfl⟩) (pcV hC hP hS (cg_1 hi1) rfl) rfl rfl hl.1 rfl (lv_room (Nat.le_of_ble_eq_true rfl)) dX6_weighsBy_53 ⟨Nat.zero_le _, Nat.zero_le _⟩) hS (cA_mono hS.1) (fun v12 u13 H locs h hP hS => ?_)
      refine lv_istore (lv' := [(7, .int v12), (0, .ref (ad 0)), (1, .int a1), (2, .int a2), (4, .int a4), (5, .int a5), (6, .int a6)]) hx hb dX6_weighsBy_56 hl (by decide) rfl (fun ls hl => ?_)
      refine lv_aload_n hx hb dX6_weighsBy_58 rfl (lv_at hl 1 rfl) ?_
      refine lv_iload_n hx hb dX6_weighsBy_59 rfl (lv_at hl 2 rfl) ?_
      refine lv_iload hx hb dX6_weighsBy_60 (lv_at hl 5 rfl) ?_
      refine lv_iload hx hb dX6_weighsBy_62 (lv_at hl 6 rfl) ?_
      refine cc_i (va_runV (C := RX6) (As := [.int a1, .int a5, .int a6]) (rest := []) ⟨hx, hb, hml, hown, hts⟩ (c_X6_valueOf hL hwd H.size u13 a1 a5 a6 _ h) (cwV 3 hts gX6_weighsBy_X6_valueOf rfl rfl rfl (by decide +kernel) ⟨Nat.le_of_ble_eq_true rfl, Nat.le_of_ble_eq_true rfl⟩) (pcV hC hP hS (cg_0 hi0) rfl) rfl rfl hl.1 rfl (lv_room (Nat.le_of_ble_eq_true rfl)) dX6_weighsBy_64 ⟨Nat.zero_le _, Nat.zero_le _⟩) hS (cA_mono hS.1) (fun v14 u15 H locs h hP hS => ?_)
      refine lv_aload_n hx hb dX6_weighsBy_67 rfl (lv_at hl 1 rfl) ?_
      refine va_get (C := RX6) (T := TX6) (N := 12) hx hb hts n6 hown hK hP i0 (cg_0 hi0) rfl 0 (by decide) lk0 (fun _ h9 => h9) rfl dX6_weighsBy_68 ?_
      refine lv_aload_n hx hb dX6_weighsBy_71 rfl (lv_at hl 1 rfl) ?_
      refine lv_iload_n hx hb dX6_weighsBy_72 rfl (lv_at hl 2 rfl) ?_
      refine lv_iload_n hx hb dX6_weighsBy_73 rfl (lv_at hl 3 rfl) ?_
      refine lv_iload hx hb dX6_weighsBy_74 (lv_at hl 6 rfl) ?_
      refine cc_i (va_runV (C := RX6) (As := [.int a1, .int a2, .int a6]) (rest := [.ref (ad 1), .int v14]) ⟨hx, hb, hml, hown, hts⟩ (c_X6_valueOf hL hwd H.size u15 a1 a2 a6 _ h) (cwV 3 hts gX6_weighsBy_X6_valueOf rfl rfl rfl (by decide +kernel) ⟨Nat.le_of_ble_eq_true rfl, Nat.le_of_ble_eq_true rfl⟩) (pcV hC hP hS (cg_0 hi0) rfl) rfl rfl hl.1 rfl (lv_room (Nat.le_of_ble_eq_true rfl)) dX6_weighsBy_76 ⟨Nat.zero_le _, Nat.zero_le _⟩) hS (cA_mono hS.1) (fun v16 u17 H locs h hP hS => ?_)
      refine lv_iload hx hb dX6_weighsBy_79 (lv_at hl 0 rfl) ?_
      refine lv_imul hx hb dX6_weighsBy_81 ?_
      refine cc_i (va_runV (C := RX2) (As := [.int (v16 * v12)]) (rest := [.int v14]) ⟨hx, hb, hml, hown, hts⟩ (c_X2_rest hL.g hwd H.size u17 (v16 * v12) _ h) (cwV 1 hts gX6_weighsBy_X2_rest rfl rfl rfl (by decide +kernel) ⟨Nat.le_of_ble_eq_true rfl, Nat.le_of_ble_eq_true rfl⟩) (pcV hC hP hS (cg_1 hi1) rfl) rfl rfl hl.1 rfl (lv_room (Nat.le_of_ble_eq_true rfl)) dX6_weighsBy_82 ⟨Nat.zero_le _, Nat.zero_le _⟩) hS (cA_mono hS.1) (fun v18 u19 H locs h hP hS => ?_)
      refine lv_icmp_eq (tgt := 90) hx hb dX6_weighsBy_85 (by decide) (fun c20 => ?_) (fun c20 => ?_)
      · replace h := h.1 c20
        obtain ⟨v21, ev21⟩ : ∃ y : Int32, y = a6 + 1 := ⟨_, rfl⟩
        refine lv_iinc (v := v21) (lv' := [(6, .int v21), (7, .int v12), (0, .ref (ad 0)), (1, .int a1), (2, .int a2), (4, .int a4), (5, .int a5)]) hx hb dX6_weighsBy_90 hl (k := 6) rfl (by rw [ev21]; rfl) (by decide) rfl (fun ls hl => ?_)
        replace h := h v21 ev21
        refine lv_goto (tgt := 32) hx hb dX6_weighsBy_93 (by decide) ?_
        exact ih v21 _ _ _ _ h hP hS (lv_sub hl [2, 3, 4, 5, 6, 0] rfl)
      · replace h := h.2 c20
        exact hk0  _ _ _ _ h hP hS (lv_sub hl [] rfl)
set_option maxRecDepth 100000 in
set_option maxHeartbeats 4000000 in
theorem w_X6_weighsBy {p : Program} {l : Launch} {e : Env} {s : State} {m : MethodId} {args : Array Value} {below : List Frame} {meth : Method} {c : Code} {D : va_G} {cI cG cZ cJ : ClassId} {ts : Nat × Nat} {L : List Nat} {ad : Nat → Nat} {al : Nat} (hL : Lf L al) (X : FX RX6 wsX6_weighsBy cX6_weighsBy 8 (some .boolean) D cI cG cZ cJ ts L ad p s m args meth c) (a1 : Int32) (a2 : Int32) (a3 : Int32) (Q : Int32 → St → Prop) (u : St) (H : Heap) (locs : List Loc) (ls : Array Slot) (h : f_X6_weighsBy al a1 a2 a3 u Q) (hP : va_P D vwCl (cW cI cG L ad al u) H) (hS : va_S (cA L ad s.heap.size) s.heap H locs) (hl : lv_has ls 8 [(0, .ref (ad 0)), (1, .int a1), (2, .int a2), (3, .int a3)]) : W p l e (headSpec wsX6_weighsBy { frames := 4, cells := 0, slots := 0, locals := 95 }).room s m args below meth c H locs 0 0 (MQ below (va_Qi Q (fun u9 t => va_P D vwCl (cW cI cG L ad al u9) t.heap) (cA L ad s.heap.size)) args s 0 0 (cA L ad s.heap.size)) (F0 m 0 ls []) := by
  obtain ⟨hx, hb, hml, hown, hts, hr, hlocks, hwd, hC⟩ := id X
  have hK := hC.1
  have m0 : 0 ∈ L := hL 0 (by omega)
  obtain ⟨i0, hi0⟩ := wL_ix m0
  have m1 : 1 ∈ L := hL 1 (by omega)
  obtain ⟨i1, hi1⟩ := wL_ix m1
  have m4 : 4 ∈ L := hL 4 (by omega)
  obtain ⟨i4, hi4⟩ := wL_ix m4
  have lk0 := hts (.fieldLink RX6 14 "FormForge" "field" "LFormForge$Field;") (by decide +kernel)
  have lk1 := hts (.fieldLink RX6 37 "FormForge" "group" "LFormForge$Group;") (by decide +kernel)
  have n6 : ∀ w ∈ wsX60, w ∈ wsX6_weighsBy := by decide +kernel
  unfold f_X6_weighsBy at h
  refine lv_aload_n hx hb dX6_weighsBy_0 rfl (lv_at hl 0 rfl) ?_
  refine va_get (C := RX6) (T := TX6) (N := 12) hx hb hts n6 hown hK hP i0 (cg_0 hi0) rfl 0 (by decide) lk0 (fun _ h9 => h9) rfl dX6_weighsBy_1 ?_
  refine lv_aload_n hx hb dX6_weighsBy_4 rfl (lv_at hl 0 rfl) ?_
  refine va_get (C := RX6) (T := TX6) (N := 12) hx hb hts n6 hown hK hP i0 (cg_0 hi0) rfl 3 (by decide) lk1 (fun _ h9 => h9) rfl dX6_weighsBy_5 ?_
  refine lv_iload_n hx hb dX6_weighsBy_8 rfl (lv_at hl 3 rfl) ?_
  refine cc_i (va_runV (C := RX4) (As := [.int a3]) (rest := [.ref (ad 1)]) ⟨hx, hb, hml, hown, hts⟩ (c_X4_generatorMatrix hL.g hwd H.size u a3 _ h) (cwV 1 hts gX6_weighsBy_X4_generatorMatrix rfl rfl rfl (by decide +kernel) ⟨Nat.le_of_ble_eq_true rfl, Nat.le_of_ble_eq_true rfl⟩) (pcV hC hP hS (cg_4 hi4) rfl) rfl rfl hl.1 rfl (lv_room (Nat.le_of_ble_eq_true rfl)) dX6_weighsBy_9 ⟨Nat.zero_le _, Nat.zero_le _⟩) hS (cA_mono hS.1) (fun v1 u2 H locs h hP hS => ?_)
  refine cc_i (va_runV (C := RX2) (As := [.int v1]) (rest := []) ⟨hx, hb, hml, hown, hts⟩ (c_X2_determinant hL hwd H.size u2 v1 _ h) (cwV 1 hts gX6_weighsBy_X2_determinant rfl rfl rfl (by decide +kernel) ⟨Nat.le_of_ble_eq_true rfl, Nat.le_of_ble_eq_true rfl⟩) (pcV hC hP hS (cg_1 hi1) rfl) rfl rfl hl.1 rfl (lv_room (Nat.le_of_ble_eq_true rfl)) dX6_weighsBy_12 ⟨Nat.zero_le _, Nat.zero_le _⟩) hS (cA_mono hS.1) (fun v3 u4 H locs h hP hS => ?_)
  refine lv_istore (lv' := [(4, .int v3), (0, .ref (ad 0)), (1, .int a1), (2, .int a2), (3, .int a3)]) hx hb dX6_weighsBy_15 hl (by decide) rfl (fun ls hl => ?_)
  refine lv_aload_n hx hb dX6_weighsBy_17 rfl (lv_at hl 1 rfl) ?_
  refine va_get (C := RX6) (T := TX6) (N := 12) hx hb hts n6 hown hK hP i0 (cg_0 hi0) rfl 3 (by decide) lk1 (fun _ h9 => h9) rfl dX6_weighsBy_18 ?_
  refine lv_iload_n hx hb dX6_weighsBy_21 rfl (lv_at hl 4 rfl) ?_
  refine lv_iload_n hx hb dX6_weighsBy_22 rfl (lv_at hl 2 rfl) ?_
  refine lv_iload_n hx hb dX6_weighsBy_23 rfl (lv_at hl 3 rfl) ?_
  refine cc_i (va_runV (C := RX4) (As := [.int a3, .int a1, .int a2]) (rest := []) ⟨hx, hb, hml, hown, hts⟩ (c_X4_image hL hwd H.size u4 a3 a1 a2 _ h) (cwV 3 hts gX6_weighsBy_X4_image rfl rfl rfl (by decide +kernel) ⟨Nat.le_of_ble_eq_true rfl, Nat.le_of_ble_eq_true rfl⟩) (pcV hC hP hS (cg_4 hi4) rfl) rfl rfl hl.1 rfl (lv_room (Nat.le_of_ble_eq_true rfl)) dX6_weighsBy_24 ⟨Nat.zero_le _, Nat.zero_le _⟩) hS (cA_mono hS.1) (fun v5 u6 H locs h hP hS => ?_)
  refine lv_istore (lv' := [(5, .int v5), (4, .int v3), (0, .ref (ad 0)), (1, .int a1), (2, .int a2), (3, .int a3)]) hx hb dX6_weighsBy_27 hl (by decide) rfl (fun ls hl => ?_)
  refine lv_iconst (v := 0) hx hb dX6_weighsBy_29 (by decide) ?_
  refine lv_istore (lv' := [(6, .int 0), (5, .int v5), (4, .int v3), (0, .ref (ad 0)), (1, .int a1), (2, .int a2), (3, .int a3)]) hx hb dX6_weighsBy_30 hl (by decide) rfl (fun ls hl => ?_)
  obtain ⟨n22, h⟩ := h
  refine w_X6_weighsBy_L32 hL X a1 a2 v3 v5 _ _ (fun u23 H locs ls h hP hS hl => ?_) _ (fun u24 H locs ls h hP hS hl => ?_) n22 0 _ _ _ _ h hP hS (lv_sub hl [3, 4, 5, 2, 1, 0] rfl)
  · refine lv_iconst (v := 0) hx hb dX6_weighsBy_88 (by decide) ?_
    exact W.zret (ty := .boolean) (v := 0) hx hb hr rfl (fun t ht hW => ⟨⟨_, _, rfl, h, by show va_P _ _ _ t.heap; rw [ht]; exact hP⟩, hS.F ht⟩) hS.2.2 dX6_weighsBy_89
  · refine lv_iconst (v := 1) hx hb dX6_weighsBy_96 (by decide) ?_
    exact W.zret (ty := .boolean) (v := 1) hx hb hr rfl (fun t ht hW => ⟨⟨_, _, rfl, h, by show va_P _ _ _ t.heap; rw [ht]; exact hP⟩, hS.F ht⟩) hS.2.2 dX6_weighsBy_97
set_option maxRecDepth 100000 in
set_option maxHeartbeats 4000000 in
theorem c_X6_weighsBy {l : Launch} {D : va_G} {cI cG cZ cJ : ClassId} {ts : Nat × Nat} {L : List Nat} {ad : Nat → Nat} {al : Nat} (hL : Lf L al) (hwd : WD L ad) (sz : Nat) (u : St) (a1 : Int32) (a2 : Int32) (a3 : Int32) (Q : Int32 → St → Prop) (h : f_X6_weighsBy al a1 a2 a3 u Q) : Met l yX6_weighsBy wsX6_weighsBy ({ frames := 4, cells := 0, slots := 0, locals := 95 }) (va_Pc [.ref (ad 0), .int a1, .int a2, .int a3] (PC D cI cG cZ cJ ts L ad al sz u)) (va_Qi Q (fun u9 t => va_P D vwCl (cW cI cG L ad al u9) t.heap) (cA L ad sz)) 0 0 (cA L ad sz) := by
  refine Met.ofW (cc := cX6_weighsBy) (maxL := 8) (ret := (some .boolean)) (by decide) rfl ?_
  intro p e s m args below meth c s₁ B hml hv
  obtain ⟨rfl, hsz, hP, hC⟩ := hv
  subst hsz
  have X : FX RX6 wsX6_weighsBy cX6_weighsBy 8 (some .boolean) D cI cG cZ cJ ts L ad p s m _ meth c := ⟨B.exec, B.bytes, hml, findClass_of_methodNamed B.named, atoms_spec (ws := wsX6_weighsBy) B.pre, B.returns, B.notSynchronized, hwd, hC⟩
  have hl := lv_entry ([.ref (ad 0), .int a1, .int a2, .int a3]) (n := 8) (Nat.le_of_ble_eq_true rfl)
  rw [lg_entry_eq]
  generalize (lg_sl ([.ref (ad 0), .int a1, .int a2, .int a3]) ++ List.replicate (8 - (lg_sl ([.ref (ad 0), .int a1, .int a2, .int a3])).length) Slot.unset).toArray = ls at hl ⊢
  exact w_X6_weighsBy hL X a1 a2 a3 Q u _ _ _ h hP va_S.rf hl
set_option maxRecDepth 100000 in
set_option maxHeartbeats 4000000 in
theorem w_X6_weighs_L12 {p : Program} {l : Launch} {e : Env} {s : State} {m : MethodId} {args : Array Value} {below : List Frame} {meth : Method} {c : Code} {D : va_G} {cI cG cZ cJ : ClassId} {ts : Nat × Nat} {L : List Nat} {ad : Nat → Nat} {al : Nat} (hL : Lf L al) (X : FX RX6 wsX6_weighs cX6_weighs 3 (some .boolean) D cI cG cZ cJ ts L ad p s m args meth c) (a1 : Int32) (Q : Int32 → St → Prop)
    (K0 : St → Prop) (hk0 : ∀ (u : St) (H : Heap) (locs : List Loc) (ls : Array Slot), K0 u → va_P D vwCl (cW cI cG L ad al u) H → va_S (cA L ad s.heap.size) s.heap H locs → lv_has ls 3 [] → W p l e (headSpec wsX6_weighs { frames := 5, cells := 0, slots := 0, locals := 122 }).room s m args below meth c H locs 0 0 (MQ below (va_Qi Q (fun u9 t => va_P D vwCl (cW cI cG L ad al u9) t.heap) (cA L ad s.heap.size)) args s 0 0 (cA L ad s.heap.size)) (F0 m 47 ls []))
    (K1 : St → Prop) (hk1 : ∀ (u : St) (H : Heap) (locs : List Loc) (ls : Array Slot), K1 u → va_P D vwCl (cW cI cG L ad al u) H → va_S (cA L ad s.heap.size) s.heap H locs → lv_has ls 3 [(0, .ref (ad 0)), (1, .int a1)] → W p l e (headSpec wsX6_weighs { frames := 5, cells := 0, slots := 0, locals := 122 }).room s m args below meth c H locs 0 0 (MQ below (va_Qi Q (fun u9 t => va_P D vwCl (cW cI cG L ad al u9) t.heap) (cA L ad s.heap.size)) args s 0 0 (cA L ad s.heap.size)) (F0 m 55 ls []))
    : ∀ (n : Nat) (a2 : Int32) (u : St) (H : Heap) (locs : List Loc) (ls : Array Slot), f_X6_weighs_L12 al a1 Q K0 K1 n a2 u → va_P D vwCl (cW cI cG L ad al u) H → va_S (cA L ad s.heap.size) s.heap H locs → lv_has ls 3 [(0, .ref (ad 0)), (1, .int a1), (2, .int a2)] → W p l e (headSpec wsX6_weighs { frames := 5, cells := 0, slots := 0, locals := 122 }).room s m args below meth c H locs 0 0 (MQ below (va_Qi Q (fun u9 t => va_P D vwCl (cW cI cG L ad al u9) t.heap) (cA L ad s.heap.size)) args s 0 0 (cA L ad s.heap.size)) (F0 m 12 ls []) := by
  obtain ⟨hx, hb, hml, hown, hts, hr, hlocks, hwd, hC⟩ := id X
  have hK := hC.1
  have m0 : 0 ∈ L := hL 0 (by omega)
  obtain ⟨i0, hi0⟩ := wL_ix m0
  have m4 : 4 ∈ L := hL 4 (by omega)
  obtain ⟨i4, hi4⟩ := wL_ix m4
  have m7 : 7 ∈ L := hL 7 (by omega)
  obtain ⟨i7, hi7⟩ := wL_ix m7
  have m8 : 8 ∈ L := hL 8 (by omega)
  obtain ⟨i8, hi8⟩ := wL_ix m8
  have lk0 := hts (.fieldLink RX6 69 "FormForge" "told" "I") (by decide +kernel)
  have lk1 := hts (.fieldLink RX6 37 "FormForge" "group" "LFormForge$Group;") (by decide +kernel)
  have lk2 := hts (.fieldLink RX6 170 "FormForge$Group" "told" "I") (by decide +kernel)
  have lk3 := hts (.fieldLink RX6 50 "FormForge" "degrees" "[I") (by decide +kernel)
  have lk4 := hts (.fieldLink RX6 54 "FormForge" "codes" "[I") (by decide +kernel)
  have n4 : ∀ w ∈ wsX40, w ∈ wsX6_weighs := by decide +kernel
  have n6 : ∀ w ∈ wsX60, w ∈ wsX6_weighs := by decide +kernel
  intro n
  induction n with
  | zero =>
    intro a2 u H locs ls h; exact h.elim
  | succ n ih =>
    intro a2 u H locs ls h hP hS hl
    replace h : f_X6_weighs_L12_s al a1 Q K0 K1 (f_X6_weighs_L12 al a1 Q K0 K1 n) a2 u := h
    unfold f_X6_weighs_L12_s at h
    refine lv_iload_n hx hb dX6_weighs_12 rfl (lv_at hl 2 rfl) ?_
    refine lv_aload_n hx hb dX6_weighs_13 rfl (lv_at hl 0 rfl) ?_
    refine va_get (C := RX6) (T := TX6) (N := 12) hx hb hts n6 hown hK hP i0 (cg_0 hi0) rfl 3 (by decide) lk1 (fun _ h9 => h9) rfl dX6_weighs_14 ?_
    refine va_get (C := RX4) (T := TX4) (N := 6) hx hb hts n4 hown hK hP i4 (cg_4 hi4) rfl 4 (by decide) lk2 (fun _ h9 => h9) rfl dX6_weighs_17 ?_
    refine lv_icmp_ge (tgt := 55) hx hb dX6_weighs_20 (by decide) (fun c2 => ?_) (fun c2 => ?_)
    · replace h := h.1 c2
      exact hk1  _ _ _ _ h hP hS (lv_sub hl [0, 1] rfl)
    · replace h := h.2 c2
      refine lv_aload_n hx hb dX6_weighs_23 rfl (lv_at hl 0 rfl) ?_
      refine lv_aload_n hx hb dX6_weighs_24 rfl (lv_at hl 0 rfl) ?_
      refine va_get (C := RX6) (T := TX6) (N := 12) hx hb hts n6 hown hK hP i0 (cg_0 hi0) rfl 5 (by decide) lk3 (fun _ h9 => h9) rfl dX6_weighs_25 ?_
      refine lv_iload_n hx hb dX6_weighs_28 rfl (lv_at hl 1 rfl) ?_
      refine cc_i (va_runS (As := [.ref (ad 7), .int a1]) (rest := [.ref (ad 0)]) ⟨hx, hb, hml, hown, hts⟩ (c_X6_read hL.g (Or.inl ⟨by decide, by decide⟩) m7 hwd H.size u a1 _ h) (va_cwS 2 hts gX6_weighs_X6_read rfl rfl rfl (by decide +kernel) ⟨Nat.le_of_ble_eq_true rfl, Nat.le_of_ble_eq_true rfl⟩) (pcS hC hP hS) rfl rfl hl.1 rfl (lv_room (Nat.le_of_ble_eq_true rfl)) dX6_weighs_29 ⟨Nat.zero_le _, Nat.zero_le _⟩) hS (cA_mono hS.1) (fun v3 u4 H locs h hP hS => ?_)
      refine lv_aload_n hx hb dX6_weighs_32 rfl (lv_at hl 0 rfl) ?_
      refine va_get (C := RX6) (T := TX6) (N := 12) hx hb hts n6 hown hK hP i0 (cg_0 hi0) rfl 6 (by decide) lk4 (fun _ h9 => h9) rfl dX6_weighs_33 ?_
      refine lv_iload_n hx hb dX6_weighs_36 rfl (lv_at hl 1 rfl) ?_
      refine cc_i (va_runS (As := [.ref (ad 8), .int a1]) (rest := [.int v3, .ref (ad 0)]) ⟨hx, hb, hml, hown, hts⟩ (c_X6_read hL.g (Or.inl ⟨by decide, by decide⟩) m8 hwd H.size u4 a1 _ h) (va_cwS 2 hts gX6_weighs_X6_read rfl rfl rfl (by decide +kernel) ⟨Nat.le_of_ble_eq_true rfl, Nat.le_of_ble_eq_true rfl⟩) (pcS hC hP hS) rfl rfl hl.1 rfl (lv_room (Nat.le_of_ble_eq_true rfl)) dX6_weighs_37 ⟨Nat.zero_le _, Nat.zero_le _⟩) hS (cA_mono hS.1) (fun v5 u6 H locs h hP hS => ?_)
      refine lv_iload_n hx hb dX6_weighs_40 rfl (lv_at hl 2 rfl) ?_
      refine cc_i (va_runV (C := RX6) (As := [.int v3, .int v5, .int a2]) (rest := []) ⟨hx, hb, hml, hown, hts⟩ (c_X6_weighsBy hL hwd H.size u6 v3 v5 a2 _ h) (cwV 3 hts gX6_weighs_X6_weighsBy rfl rfl rfl (by decide +kernel) ⟨Nat.le_of_ble_eq_true rfl, Nat.le_of_ble_eq_true rfl⟩) (pcV hC hP hS (cg_0 hi0) rfl) rfl rfl hl.1 rfl (lv_room (Nat.le_of_ble_eq_true rfl)) dX6_weighs_41 ⟨Nat.zero_le _, Nat.zero_le _⟩) hS (cA_mono hS.1) (fun v7 u8 H locs h hP hS => ?_)
      refine lv_if_ne (tgt := 49) hx hb dX6_weighs_44 (by decide) (fun c9 => ?_) (fun c9 => ?_)
      · replace h := h.1 c9
        obtain ⟨v10, ev10⟩ : ∃ y : Int32, y = a2 + 1 := ⟨_, rfl⟩
        refine lv_iinc (v := v10) (lv' := [(2, .int v10), (0, .ref (ad 0)), (1, .int a1)]) hx hb dX6_weighs_49 hl (k := 2) rfl (by rw [ev10]; rfl) (by decide) rfl (fun ls hl => ?_)
        replace h := h v10 ev10
        refine lv_goto (tgt := 12) hx hb dX6_weighs_52 (by decide) ?_
        exact ih v10 _ _ _ _ h hP hS (lv_sub hl [1, 2, 0] rfl)
      · replace h := h.2 c9
        exact hk0  _ _ _ _ h hP hS (lv_sub hl [] rfl)
set_option maxRecDepth 100000 in
set_option maxHeartbeats 4000000 in
theorem w_X6_weighs_L2 {p : Program} {l : Launch} {e : Env} {s : State} {m : MethodId} {args : Array Value} {below : List Frame} {meth : Method} {c : Code} {D : va_G} {cI cG cZ cJ : ClassId} {ts : Nat × Nat} {L : List Nat} {ad : Nat → Nat} {al : Nat} (hL : Lf L al) (X : FX RX6 wsX6_weighs cX6_weighs 3 (some .boolean) D cI cG cZ cJ ts L ad p s m args meth c)  (Q : Int32 → St → Prop)
    (K0 : St → Prop) (hk0 : ∀ (u : St) (H : Heap) (locs : List Loc) (ls : Array Slot), K0 u → va_P D vwCl (cW cI cG L ad al u) H → va_S (cA L ad s.heap.size) s.heap H locs → lv_has ls 3 [] → W p l e (headSpec wsX6_weighs { frames := 5, cells := 0, slots := 0, locals := 122 }).room s m args below meth c H locs 0 0 (MQ below (va_Qi Q (fun u9 t => va_P D vwCl (cW cI cG L ad al u9) t.heap) (cA L ad s.heap.size)) args s 0 0 (cA L ad s.heap.size)) (F0 m 47 ls []))
    (K1 : St → Prop) (hk1 : ∀ (u : St) (H : Heap) (locs : List Loc) (ls : Array Slot), K1 u → va_P D vwCl (cW cI cG L ad al u) H → va_S (cA L ad s.heap.size) s.heap H locs → lv_has ls 3 [] → W p l e (headSpec wsX6_weighs { frames := 5, cells := 0, slots := 0, locals := 122 }).room s m args below meth c H locs 0 0 (MQ below (va_Qi Q (fun u9 t => va_P D vwCl (cW cI cG L ad al u9) t.heap) (cA L ad s.heap.size)) args s 0 0 (cA L ad s.heap.size)) (F0 m 61 ls []))
    : ∀ (n : Nat) (a1 : Int32) (u : St) (H : Heap) (locs : List Loc) (ls : Array Slot), f_X6_weighs_L2 al Q K0 K1 n a1 u → va_P D vwCl (cW cI cG L ad al u) H → va_S (cA L ad s.heap.size) s.heap H locs → lv_has ls 3 [(0, .ref (ad 0)), (1, .int a1)] → W p l e (headSpec wsX6_weighs { frames := 5, cells := 0, slots := 0, locals := 122 }).room s m args below meth c H locs 0 0 (MQ below (va_Qi Q (fun u9 t => va_P D vwCl (cW cI cG L ad al u9) t.heap) (cA L ad s.heap.size)) args s 0 0 (cA L ad s.heap.size)) (F0 m 2 ls []) := by
  obtain ⟨hx, hb, hml, hown, hts, hr, hlocks, hwd, hC⟩ := id X
  have hK := hC.1
  have m0 : 0 ∈ L := hL 0 (by omega)
  obtain ⟨i0, hi0⟩ := wL_ix m0
  have m4 : 4 ∈ L := hL 4 (by omega)
  obtain ⟨i4, hi4⟩ := wL_ix m4
  have m7 : 7 ∈ L := hL 7 (by omega)
  obtain ⟨i7, hi7⟩ := wL_ix m7
  have m8 : 8 ∈ L := hL 8 (by omega)
  obtain ⟨i8, hi8⟩ := wL_ix m8
  have lk0 := hts (.fieldLink RX6 69 "FormForge" "told" "I") (by decide +kernel)
  have lk1 := hts (.fieldLink RX6 37 "FormForge" "group" "LFormForge$Group;") (by decide +kernel)
  have lk2 := hts (.fieldLink RX6 170 "FormForge$Group" "told" "I") (by decide +kernel)
  have lk3 := hts (.fieldLink RX6 50 "FormForge" "degrees" "[I") (by decide +kernel)
  have lk4 := hts (.fieldLink RX6 54 "FormForge" "codes" "[I") (by decide +kernel)
  have n4 : ∀ w ∈ wsX40, w ∈ wsX6_weighs := by decide +kernel
  have n6 : ∀ w ∈ wsX60, w ∈ wsX6_weighs := by decide +kernel
  intro n
  induction n with
  | zero =>
    intro a1 u H locs ls h; exact h.elim
  | succ n ih =>
    intro a1 u H locs ls h hP hS hl
    replace h : f_X6_weighs_L2_s al Q K0 K1 (f_X6_weighs_L2 al Q K0 K1 n) a1 u := h
    unfold f_X6_weighs_L2_s at h
    refine lv_iload_n hx hb dX6_weighs_2 rfl (lv_at hl 1 rfl) ?_
    refine lv_aload_n hx hb dX6_weighs_3 rfl (lv_at hl 0 rfl) ?_
    refine va_get (C := RX6) (T := TX6) (N := 12) hx hb hts n6 hown hK hP i0 (cg_0 hi0) rfl 11 (by decide) lk0 (fun _ h9 => h9) rfl dX6_weighs_4 ?_
    refine lv_icmp_ge (tgt := 61) hx hb dX6_weighs_7 (by decide) (fun c1 => ?_) (fun c1 => ?_)
    · replace h := h.1 c1
      exact hk1  _ _ _ _ h hP hS (lv_sub hl [] rfl)
    · replace h := h.2 c1
      refine lv_iconst (v := 0) hx hb dX6_weighs_10 (by decide) ?_
      refine lv_istore_n (lv' := [(2, .int 0), (0, .ref (ad 0)), (1, .int a1)]) hx hb dX6_weighs_11 rfl hl (by decide) rfl (fun ls hl => ?_)
      obtain ⟨n11, h⟩ := h
      refine w_X6_weighs_L12 hL X a1 _ _ (fun u12 H locs ls h hP hS hl => ?_) _ (fun u13 H locs ls h hP hS hl => ?_) n11 0 _ _ _ _ h hP hS (lv_sub hl [1, 2, 0] rfl)
      · exact hk0  _ _ _ _ h hP hS (lv_sub hl [] rfl)
      · obtain ⟨v14, ev14⟩ : ∃ y : Int32, y = a1 + 1 := ⟨_, rfl⟩
        refine lv_iinc (v := v14) (lv' := [(1, .int v14), (0, .ref (ad 0))]) hx hb dX6_weighs_55 hl (k := 1) rfl (by rw [ev14]; rfl) (by decide) rfl (fun ls hl => ?_)
        replace h := h v14 ev14
        refine lv_goto (tgt := 2) hx hb dX6_weighs_58 (by decide) ?_
        exact ih v14 _ _ _ _ h hP hS (lv_sub hl [1, 0] rfl)
set_option maxRecDepth 100000 in
set_option maxHeartbeats 4000000 in
theorem w_X6_weighs {p : Program} {l : Launch} {e : Env} {s : State} {m : MethodId} {args : Array Value} {below : List Frame} {meth : Method} {c : Code} {D : va_G} {cI cG cZ cJ : ClassId} {ts : Nat × Nat} {L : List Nat} {ad : Nat → Nat} {al : Nat} (hL : Lf L al) (X : FX RX6 wsX6_weighs cX6_weighs 3 (some .boolean) D cI cG cZ cJ ts L ad p s m args meth c)  (Q : Int32 → St → Prop) (u : St) (H : Heap) (locs : List Loc) (ls : Array Slot) (h : f_X6_weighs al u Q) (hP : va_P D vwCl (cW cI cG L ad al u) H) (hS : va_S (cA L ad s.heap.size) s.heap H locs) (hl : lv_has ls 3 [(0, .ref (ad 0))]) : W p l e (headSpec wsX6_weighs { frames := 5, cells := 0, slots := 0, locals := 122 }).room s m args below meth c H locs 0 0 (MQ below (va_Qi Q (fun u9 t => va_P D vwCl (cW cI cG L ad al u9) t.heap) (cA L ad s.heap.size)) args s 0 0 (cA L ad s.heap.size)) (F0 m 0 ls []) := by
  obtain ⟨hx, hb, hml, hown, hts, hr, hlocks, hwd, hC⟩ := id X
  have hK := hC.1
  have m0 : 0 ∈ L := hL 0 (by omega)
  obtain ⟨i0, hi0⟩ := wL_ix m0
  have m4 : 4 ∈ L := hL 4 (by omega)
  obtain ⟨i4, hi4⟩ := wL_ix m4
  have m7 : 7 ∈ L := hL 7 (by omega)
  obtain ⟨i7, hi7⟩ := wL_ix m7
  have m8 : 8 ∈ L := hL 8 (by omega)
  obtain ⟨i8, hi8⟩ := wL_ix m8
  have lk0 := hts (.fieldLink RX6 69 "FormForge" "told" "I") (by decide +kernel)
  have lk1 := hts (.fieldLink RX6 37 "FormForge" "group" "LFormForge$Group;") (by decide +kernel)
  have lk2 := hts (.fieldLink RX6 170 "FormForge$Group" "told" "I") (by decide +kernel)
  have lk3 := hts (.fieldLink RX6 50 "FormForge" "degrees" "[I") (by decide +kernel)
  have lk4 := hts (.fieldLink RX6 54 "FormForge" "codes" "[I") (by decide +kernel)
  have n4 : ∀ w ∈ wsX40, w ∈ wsX6_weighs := by decide +kernel
  have n6 : ∀ w ∈ wsX60, w ∈ wsX6_weighs := by decide +kernel
  unfold f_X6_weighs at h
  refine lv_iconst (v := 0) hx hb dX6_weighs_0 (by decide) ?_
  refine lv_istore_n (lv' := [(1, .int 0), (0, .ref (ad 0))]) hx hb dX6_weighs_1 rfl hl (by decide) rfl (fun ls hl => ?_)
  obtain ⟨n15, h⟩ := h
  refine w_X6_weighs_L2 hL X _ _ (fun u16 H locs ls h hP hS hl => ?_) _ (fun u17 H locs ls h hP hS hl => ?_) n15 0 _ _ _ _ h hP hS (lv_sub hl [1, 0] rfl)
  · refine lv_iconst (v := 0) hx hb dX6_weighs_47 (by decide) ?_
    exact W.zret (ty := .boolean) (v := 0) hx hb hr rfl (fun t ht hW => ⟨⟨_, _, rfl, h, by show va_P _ _ _ t.heap; rw [ht]; exact hP⟩, hS.F ht⟩) hS.2.2 dX6_weighs_48
  · refine lv_iconst (v := 1) hx hb dX6_weighs_61 (by decide) ?_
    exact W.zret (ty := .boolean) (v := 1) hx hb hr rfl (fun t ht hW => ⟨⟨_, _, rfl, h, by show va_P _ _ _ t.heap; rw [ht]; exact hP⟩, hS.F ht⟩) hS.2.2 dX6_weighs_62
set_option maxRecDepth 100000 in
set_option maxHeartbeats 4000000 in
theorem c_X6_weighs {l : Launch} {D : va_G} {cI cG cZ cJ : ClassId} {ts : Nat × Nat} {L : List Nat} {ad : Nat → Nat} {al : Nat} (hL : Lf L al) (hwd : WD L ad) (sz : Nat) (u : St) (Q : Int32 → St → Prop) (h : f_X6_weighs al u Q) : Met l yX6_weighs wsX6_weighs ({ frames := 5, cells := 0, slots := 0, locals := 122 }) (va_Pc [.ref (ad 0)] (PC D cI cG cZ cJ ts L ad al sz u)) (va_Qi Q (fun u9 t => va_P D vwCl (cW cI cG L ad al u9) t.heap) (cA L ad sz)) 0 0 (cA L ad sz) := by
  refine Met.ofW (cc := cX6_weighs) (maxL := 3) (ret := (some .boolean)) (by decide) rfl ?_
  intro p e s m args below meth c s₁ B hml hv
  obtain ⟨rfl, hsz, hP, hC⟩ := hv
  subst hsz
  have X : FX RX6 wsX6_weighs cX6_weighs 3 (some .boolean) D cI cG cZ cJ ts L ad p s m _ meth c := ⟨B.exec, B.bytes, hml, findClass_of_methodNamed B.named, atoms_spec (ws := wsX6_weighs) B.pre, B.returns, B.notSynchronized, hwd, hC⟩
  have hl := lv_entry ([.ref (ad 0)]) (n := 3) (Nat.le_of_ble_eq_true rfl)
  rw [lg_entry_eq]
  generalize (lg_sl ([.ref (ad 0)]) ++ List.replicate (3 - (lg_sl ([.ref (ad 0)])).length) Slot.unset).toArray = ls at hl ⊢
  exact w_X6_weighs hL X Q u _ _ _ h hP va_S.rf hl
set_option maxRecDepth 100000 in
set_option maxHeartbeats 4000000 in
theorem w_X6_countLeftForms_L4 {p : Program} {l : Launch} {e : Env} {s : State} {m : MethodId} {args : Array Value} {below : List Frame} {meth : Method} {c : Code} {D : va_G} {cI cG cZ cJ : ClassId} {ts : Nat × Nat} {L : List Nat} {ad : Nat → Nat} {al : Nat} (hL : Lf L al) (X : FX RX6 wsX6_countLeftForms cX6_countLeftForms 4 (some .int) D cI cG cZ cJ ts L ad p s m args meth c) (a1 : Int32) (Q : Int32 → St → Prop)
    (K0 : Int32 → St → Prop) (hk0 : ∀ (b2 : Int32) (u : St) (H : Heap) (locs : List Loc) (ls : Array Slot), K0 b2 u → va_P D vwCl (cW cI cG L ad al u) H → va_S (cA L ad s.heap.size) s.heap H locs → lv_has ls 4 [(2, .int b2)] → W p l e (headSpec wsX6_countLeftForms { frames := 5, cells := 0, slots := 0, locals := 115 }).room s m args below meth c H locs 0 0 (MQ below (va_Qi Q (fun u9 t => va_P D vwCl (cW cI cG L ad al u9) t.heap) (cA L ad s.heap.size)) args s 0 0 (cA L ad s.heap.size)) (F0 m 75 ls []))
    : ∀ (n : Nat) (a2 : Int32) (a3 : Int32) (u : St) (H : Heap) (locs : List Loc) (ls : Array Slot), f_X6_countLeftForms_L4 al a1 Q K0 n a2 a3 u → va_P D vwCl (cW cI cG L ad al u) H → va_S (cA L ad s.heap.size) s.heap H locs → lv_has ls 4 [(0, .ref (ad 0)), (1, .int a1), (2, .int a2), (3, .int a3)] → W p l e (headSpec wsX6_countLeftForms { frames := 5, cells := 0, slots := 0, locals := 115 }).room s m args below meth c H locs 0 0 (MQ below (va_Qi Q (fun u9 t => va_P D vwCl (cW cI cG L ad al u9) t.heap) (cA L ad s.heap.size)) args s 0 0 (cA L ad s.heap.size)) (F0 m 4 ls []) := by
  obtain ⟨hx, hb, hml, hown, hts, hr, hlocks, hwd, hC⟩ := id X
  have hK := hC.1
  have m0 : 0 ∈ L := hL 0 (by omega)
  obtain ⟨i0, hi0⟩ := wL_ix m0
  have m1 : 1 ∈ L := hL 1 (by omega)
  obtain ⟨i1, hi1⟩ := wL_ix m1
  have m2 : 2 ∈ L := hL 2 (by omega)
  obtain ⟨i2, hi2⟩ := wL_ix m2
  have m3 : 3 ∈ L := hL 3 (by omega)
  obtain ⟨i3, hi3⟩ := wL_ix m3
  have m4 : 4 ∈ L := hL 4 (by omega)
  obtain ⟨i4, hi4⟩ := wL_ix m4
  have lk0 := hts (.fieldLink RX6 37 "FormForge" "group" "LFormForge$Group;") (by decide +kernel)
  have lk1 := hts (.fieldLink RX6 177 "FormForge$Group" "size" "I") (by decide +kernel)
  have lk2 := hts (.fieldLink RX6 23 "FormForge" "columns" "LFormForge$Columns;") (by decide +kernel)
  have lk3 := hts (.fieldLink RX6 30 "FormForge" "equations" "LFormForge$Equations;") (by decide +kernel)
  have lk4 := hts (.fieldLink RX6 14 "FormForge" "field" "LFormForge$Field;") (by decide +kernel)
  have n4 : ∀ w ∈ wsX40, w ∈ wsX6_countLeftForms := by decide +kernel
  have n6 : ∀ w ∈ wsX60, w ∈ wsX6_countLeftForms := by decide +kernel
  intro n
  induction n with
  | zero =>
    intro a2 a3 u H locs ls h; exact h.elim
  | succ n ih =>
    intro a2 a3 u H locs ls h hP hS hl
    replace h : f_X6_countLeftForms_L4_s al a1 Q K0 (f_X6_countLeftForms_L4 al a1 Q K0 n) a2 a3 u := h
    unfold f_X6_countLeftForms_L4_s at h
    refine lv_iload_n hx hb dX6_countLeftForms_4 rfl (lv_at hl 3 rfl) ?_
    refine lv_aload_n hx hb dX6_countLeftForms_5 rfl (lv_at hl 0 rfl) ?_
    refine va_get (C := RX6) (T := TX6) (N := 12) hx hb hts n6 hown hK hP i0 (cg_0 hi0) rfl 3 (by decide) lk0 (fun _ h9 => h9) rfl dX6_countLeftForms_6 ?_
    refine va_get (C := RX4) (T := TX4) (N := 6) hx hb hts n4 hown hK hP i4 (cg_4 hi4) rfl 5 (by decide) lk1 (fun _ h9 => h9) rfl dX6_countLeftForms_9 ?_
    refine lv_icmp_ge (tgt := 75) hx hb dX6_countLeftForms_12 (by decide) (fun c1 => ?_) (fun c1 => ?_)
    · replace h := h.1 c1
      exact hk0 a2 _ _ _ _ h hP hS (lv_sub hl [2] rfl)
    · replace h := h.2 c1
      refine lv_aload_n hx hb dX6_countLeftForms_15 rfl (lv_at hl 0 rfl) ?_
      refine va_get (C := RX6) (T := TX6) (N := 12) hx hb hts n6 hown hK hP i0 (cg_0 hi0) rfl 1 (by decide) lk2 (fun _ h9 => h9) rfl dX6_countLeftForms_16 ?_
      refine lv_aload_n hx hb dX6_countLeftForms_19 rfl (lv_at hl 0 rfl) ?_
      refine va_get (C := RX6) (T := TX6) (N := 12) hx hb hts n6 hown hK hP i0 (cg_0 hi0) rfl 3 (by decide) lk0 (fun _ h9 => h9) rfl dX6_countLeftForms_20 ?_
      refine lv_iload_n hx hb dX6_countLeftForms_23 rfl (lv_at hl 3 rfl) ?_
      refine cc_i (va_runV (C := RX4) (As := [.int a3]) (rest := [.ref (ad 2)]) ⟨hx, hb, hml, hown, hts⟩ (c_X4_matrix hL.g hwd H.size u a3 _ h) (cwV 1 hts gX6_countLeftForms_X4_matrix rfl rfl rfl (by decide +kernel) ⟨Nat.le_of_ble_eq_true rfl, Nat.le_of_ble_eq_true rfl⟩) (pcV hC hP hS (cg_4 hi4) rfl) rfl rfl hl.1 rfl (lv_room (Nat.le_of_ble_eq_true rfl)) dX6_countLeftForms_24 ⟨Nat.zero_le _, Nat.zero_le _⟩) hS (cA_mono hS.1) (fun v2 u3 H locs h hP hS => ?_)
      refine lv_iload_n hx hb dX6_countLeftForms_27 rfl (lv_at hl 1 rfl) ?_
      refine cc_v (va_runV (C := RX0) (As := [.int v2, .int a1]) (rest := []) ⟨hx, hb, hml, hown, hts⟩ (c_X0_fill hL hwd H.size u3 v2 a1 _ h) (cwV 2 hts gX6_countLeftForms_X0_fill rfl rfl rfl (by decide +kernel) ⟨Nat.le_of_ble_eq_true rfl, Nat.le_of_ble_eq_true rfl⟩) (pcV hC hP hS (cg_2 hi2) rfl) rfl rfl hl.1 rfl (lv_room (Nat.le_of_ble_eq_true rfl)) dX6_countLeftForms_28 ⟨Nat.zero_le _, Nat.zero_le _⟩) hS (cA_mono hS.1) (fun u4 H locs h hP hS => ?_)
      refine lv_aload_n hx hb dX6_countLeftForms_31 rfl (lv_at hl 0 rfl) ?_
      refine va_get (C := RX6) (T := TX6) (N := 12) hx hb hts n6 hown hK hP i0 (cg_0 hi0) rfl 2 (by decide) lk3 (fun _ h9 => h9) rfl dX6_countLeftForms_32 ?_
      refine lv_iload_n hx hb dX6_countLeftForms_35 rfl (lv_at hl 1 rfl) ?_
      refine lv_iconst (v := 1) hx hb dX6_countLeftForms_36 (by decide) ?_
      refine lv_iadd hx hb dX6_countLeftForms_37 ?_
      refine cc_v (va_runV (C := RX1) (As := [.int (a1 + 1)]) (rest := []) ⟨hx, hb, hml, hown, hts⟩ (c_X1_begin hL hwd H.size u4 (a1 + 1) _ h) (cwV 1 hts gX6_countLeftForms_X1_begin rfl rfl rfl (by decide +kernel) ⟨Nat.le_of_ble_eq_true rfl, Nat.le_of_ble_eq_true rfl⟩) (pcV hC hP hS (cg_3 hi3) rfl) rfl rfl hl.1 rfl (lv_room (Nat.le_of_ble_eq_true rfl)) dX6_countLeftForms_38 ⟨Nat.zero_le _, Nat.zero_le _⟩) hS (cA_mono hS.1) (fun u5 H locs h hP hS => ?_)
      refine lv_aload_n hx hb dX6_countLeftForms_41 rfl (lv_at hl 0 rfl) ?_
      refine va_get (C := RX6) (T := TX6) (N := 12) hx hb hts n6 hown hK hP i0 (cg_0 hi0) rfl 2 (by decide) lk3 (fun _ h9 => h9) rfl dX6_countLeftForms_42 ?_
      refine lv_aload_n hx hb dX6_countLeftForms_45 rfl (lv_at hl 0 rfl) ?_
      refine va_get (C := RX6) (T := TX6) (N := 12) hx hb hts n6 hown hK hP i0 (cg_0 hi0) rfl 1 (by decide) lk2 (fun _ h9 => h9) rfl dX6_countLeftForms_46 ?_
      refine cc_v (va_runV (C := RX1) (As := [.ref (ad 2)]) (rest := []) ⟨hx, hb, hml, hown, hts⟩ (c_X1_askToLeave hL hwd H.size u5 _ h) (cwV 1 hts gX6_countLeftForms_X1_askToLeave rfl rfl rfl (by decide +kernel) ⟨Nat.le_of_ble_eq_true rfl, Nat.le_of_ble_eq_true rfl⟩) (pcV hC hP hS (cg_3 hi3) rfl) rfl rfl hl.1 rfl (lv_room (Nat.le_of_ble_eq_true rfl)) dX6_countLeftForms_49 ⟨Nat.zero_le _, Nat.zero_le _⟩) hS (cA_mono hS.1) (fun u6 H locs h hP hS => ?_)
      refine lv_iload_n hx hb dX6_countLeftForms_52 rfl (lv_at hl 2 rfl) ?_
      refine lv_aload_n hx hb dX6_countLeftForms_53 rfl (lv_at hl 0 rfl) ?_
      refine va_get (C := RX6) (T := TX6) (N := 12) hx hb hts n6 hown hK hP i0 (cg_0 hi0) rfl 0 (by decide) lk4 (fun _ h9 => h9) rfl dX6_countLeftForms_54 ?_
      refine lv_aload_n hx hb dX6_countLeftForms_57 rfl (lv_at hl 0 rfl) ?_
      refine va_get (C := RX6) (T := TX6) (N := 12) hx hb hts n6 hown hK hP i0 (cg_0 hi0) rfl 2 (by decide) lk3 (fun _ h9 => h9) rfl dX6_countLeftForms_58 ?_
      refine cc_i (va_runV (C := RX1) (As := []) (rest := [.ref (ad 1), .int a2]) ⟨hx, hb, hml, hown, hts⟩ (c_X1_freedom hL hwd H.size u6 _ h) (cwV 0 hts gX6_countLeftForms_X1_freedom rfl rfl rfl (by decide +kernel) ⟨Nat.le_of_ble_eq_true rfl, Nat.le_of_ble_eq_true rfl⟩) (pcV hC hP hS (cg_3 hi3) rfl) rfl rfl hl.1 rfl (lv_room (Nat.le_of_ble_eq_true rfl)) dX6_countLeftForms_61 ⟨Nat.zero_le _, Nat.zero_le _⟩) hS (cA_mono hS.1) (fun v7 u8 H locs h hP hS => ?_)
      refine cc_i (va_runV (C := RX2) (As := [.int v7]) (rest := [.int a2]) ⟨hx, hb, hml, hown, hts⟩ (c_X2_howMany hL.g hwd H.size u8 v7 _ h) (cwV 1 hts gX6_countLeftForms_X2_howMany rfl rfl rfl (by decide +kernel) ⟨Nat.le_of_ble_eq_true rfl, Nat.le_of_ble_eq_true rfl⟩) (pcV hC hP hS (cg_1 hi1) rfl) rfl rfl hl.1 rfl (lv_room (Nat.le_of_ble_eq_true rfl)) dX6_countLeftForms_64 ⟨Nat.zero_le _, Nat.zero_le _⟩) hS (cA_mono hS.1) (fun v9 u10 H locs h hP hS => ?_)
      refine lv_iadd hx hb dX6_countLeftForms_67 ?_
      refine lv_topi (fun v11 ev11 => ?_)
      replace h := h v11 ev11
      refine lv_istore_n (lv' := [(2, .int v11), (0, .ref (ad 0)), (1, .int a1), (3, .int a3)]) hx hb dX6_countLeftForms_68 rfl hl (by decide) rfl (fun ls hl => ?_)
      obtain ⟨v12, ev12⟩ : ∃ y : Int32, y = a3 + 1 := ⟨_, rfl⟩
      refine lv_iinc (v := v12) (lv' := [(3, .int v12), (2, .int v11), (0, .ref (ad 0)), (1, .int a1)]) hx hb dX6_countLeftForms_69 hl (k := 3) rfl (by rw [ev12]; rfl) (by decide) rfl (fun ls hl => ?_)
      replace h := h v12 ev12
      refine lv_goto (tgt := 4) hx hb dX6_countLeftForms_72 (by decide) ?_
      exact ih v11 v12 _ _ _ _ h hP hS (lv_sub hl [2, 3, 1, 0] rfl)
set_option maxRecDepth 100000 in
set_option maxHeartbeats 4000000 in
theorem w_X6_countLeftForms {p : Program} {l : Launch} {e : Env} {s : State} {m : MethodId} {args : Array Value} {below : List Frame} {meth : Method} {c : Code} {D : va_G} {cI cG cZ cJ : ClassId} {ts : Nat × Nat} {L : List Nat} {ad : Nat → Nat} {al : Nat} (hL : Lf L al) (X : FX RX6 wsX6_countLeftForms cX6_countLeftForms 4 (some .int) D cI cG cZ cJ ts L ad p s m args meth c) (a1 : Int32) (Q : Int32 → St → Prop) (u : St) (H : Heap) (locs : List Loc) (ls : Array Slot) (h : f_X6_countLeftForms al a1 u Q) (hP : va_P D vwCl (cW cI cG L ad al u) H) (hS : va_S (cA L ad s.heap.size) s.heap H locs) (hl : lv_has ls 4 [(0, .ref (ad 0)), (1, .int a1)]) : W p l e (headSpec wsX6_countLeftForms { frames := 5, cells := 0, slots := 0, locals := 115 }).room s m args below meth c H locs 0 0 (MQ below (va_Qi Q (fun u9 t => va_P D vwCl (cW cI cG L ad al u9) t.heap) (cA L ad s.heap.size)) args s 0 0 (cA L ad s.heap.size)) (F0 m 0 ls []) := by
  obtain ⟨hx, hb, hml, hown, hts, hr, hlocks, hwd, hC⟩ := id X
  have hK := hC.1
  have m0 : 0 ∈ L := hL 0 (by omega)
  obtain ⟨i0, hi0⟩ := wL_ix m0
  have m1 : 1 ∈ L := hL 1 (by omega)
  obtain ⟨i1, hi1⟩ := wL_ix m1
  have m2 : 2 ∈ L := hL 2 (by omega)
  obtain ⟨i2, hi2⟩ := wL_ix m2
  have m3 : 3 ∈ L := hL 3 (by omega)
  obtain ⟨i3, hi3⟩ := wL_ix m3
  have m4 : 4 ∈ L := hL 4 (by omega)
  obtain ⟨i4, hi4⟩ := wL_ix m4
  have lk0 := hts (.fieldLink RX6 37 "FormForge" "group" "LFormForge$Group;") (by decide +kernel)
  have lk1 := hts (.fieldLink RX6 177 "FormForge$Group" "size" "I") (by decide +kernel)
  have lk2 := hts (.fieldLink RX6 23 "FormForge" "columns" "LFormForge$Columns;") (by decide +kernel)
  have lk3 := hts (.fieldLink RX6 30 "FormForge" "equations" "LFormForge$Equations;") (by decide +kernel)
  have lk4 := hts (.fieldLink RX6 14 "FormForge" "field" "LFormForge$Field;") (by decide +kernel)
  have n4 : ∀ w ∈ wsX40, w ∈ wsX6_countLeftForms := by decide +kernel
  have n6 : ∀ w ∈ wsX60, w ∈ wsX6_countLeftForms := by decide +kernel
  unfold f_X6_countLeftForms at h
  refine lv_iconst (v := 0) hx hb dX6_countLeftForms_0 (by decide) ?_
  refine lv_istore_n (lv' := [(2, .int 0), (0, .ref (ad 0)), (1, .int a1)]) hx hb dX6_countLeftForms_1 rfl hl (by decide) rfl (fun ls hl => ?_)
  refine lv_iconst (v := 0) hx hb dX6_countLeftForms_2 (by decide) ?_
  refine lv_istore_n (lv' := [(3, .int 0), (2, .int 0), (0, .ref (ad 0)), (1, .int a1)]) hx hb dX6_countLeftForms_3 rfl hl (by decide) rfl (fun ls hl => ?_)
  obtain ⟨n13, h⟩ := h
  refine w_X6_countLeftForms_L4 hL X a1 _ _ (fun v14 u15 H locs ls h hP hS hl => ?_) n13 0 0 _ _ _ _ h hP hS (lv_sub hl [2, 3, 1, 0] rfl)
  refine lv_iload_n hx hb dX6_countLeftForms_75 rfl (lv_at hl 0 rfl) ?_
  exact W.iret (v := v14) hx hb hr (fun t ht hW => ⟨⟨_, _, rfl, h, by show va_P _ _ _ t.heap; rw [ht]; exact hP⟩, hS.F ht⟩) hS.2.2 dX6_countLeftForms_76
set_option maxRecDepth 100000 in
set_option maxHeartbeats 4000000 in
theorem c_X6_countLeftForms {l : Launch} {D : va_G} {cI cG cZ cJ : ClassId} {ts : Nat × Nat} {L : List Nat} {ad : Nat → Nat} {al : Nat} (hL : Lf L al) (hwd : WD L ad) (sz : Nat) (u : St) (a1 : Int32) (Q : Int32 → St → Prop) (h : f_X6_countLeftForms al a1 u Q) : Met l yX6_countLeftForms wsX6_countLeftForms ({ frames := 5, cells := 0, slots := 0, locals := 115 }) (va_Pc [.ref (ad 0), .int a1] (PC D cI cG cZ cJ ts L ad al sz u)) (va_Qi Q (fun u9 t => va_P D vwCl (cW cI cG L ad al u9) t.heap) (cA L ad sz)) 0 0 (cA L ad sz) := by
  refine Met.ofW (cc := cX6_countLeftForms) (maxL := 4) (ret := (some .int)) (by decide) rfl ?_
  intro p e s m args below meth c s₁ B hml hv
  obtain ⟨rfl, hsz, hP, hC⟩ := hv
  subst hsz
  have X : FX RX6 wsX6_countLeftForms cX6_countLeftForms 4 (some .int) D cI cG cZ cJ ts L ad p s m _ meth c := ⟨B.exec, B.bytes, hml, findClass_of_methodNamed B.named, atoms_spec (ws := wsX6_countLeftForms) B.pre, B.returns, B.notSynchronized, hwd, hC⟩
  have hl := lv_entry ([.ref (ad 0), .int a1]) (n := 4) (Nat.le_of_ble_eq_true rfl)
  rw [lg_entry_eq]
  generalize (lg_sl ([.ref (ad 0), .int a1]) ++ List.replicate (4 - (lg_sl ([.ref (ad 0), .int a1])).length) Slot.unset).toArray = ls at hl ⊢
  exact w_X6_countLeftForms hL X a1 Q u _ _ _ h hP va_S.rf hl
