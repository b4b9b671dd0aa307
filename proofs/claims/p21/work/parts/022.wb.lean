set_option maxRecDepth 100000 in
set_option maxHeartbeats 4000000 in
theorem w_X5_leastCode_L11 {p : Program} {l : Launch} {e : Env} {s : State} {m : MethodId} {args : Array Value} {below : List Frame} {meth : Method} {c : Code} {D : va_G} {cI cG cZ cJ : ClassId} {ts : Nat × Nat} {L : List Nat} {ad : Nat → Nat} {al : Nat} (hL : Lf L al) (X : FX RX5 wsX5_leastCode cX5_leastCode 3 (some .int) D cI cG cZ cJ ts L ad p s m args meth c)  (Q : Int32 → St → Prop)
    (K0 : Int32 → St → Prop) (hk0 : ∀ (b1 : Int32) (u : St) (H : Heap) (locs : List Loc) (ls : Array Slot), K0 b1 u → va_P D vwCl (cW cI cG L ad al u) H → va_S (cA L ad s.heap.size) s.heap H locs → lv_has ls 3 [(1, .int b1)] → W p l e (headSpec wsX5_leastCode { frames := 1, cells := 0, slots := 0, locals := 21 }).room s m args below meth c H locs 0 0 (MQ below (va_Qi Q (fun u9 t => va_P D vwCl (cW cI cG L ad al u9) t.heap) (cA L ad s.heap.size)) args s 0 0 (cA L ad s.heap.size)) (F0 m 38 ls []))
    : ∀ (n : Nat) (a1 : Int32) (a2 : Int32) (u : St) (H : Heap) (locs : List Loc) (ls : Array Slot), f_X5_leastCode_L11 al Q K0 n a1 a2 u → va_P D vwCl (cW cI cG L ad al u) H → va_S (cA L ad s.heap.size) s.heap H locs → lv_has ls 3 [(0, .ref (ad 5)), (1, .int a1), (2, .int a2)] → W p l e (headSpec wsX5_leastCode { frames := 1, cells := 0, slots := 0, locals := 21 }).room s m args below meth c H locs 0 0 (MQ below (va_Qi Q (fun u9 t => va_P D vwCl (cW cI cG L ad al u9) t.heap) (cA L ad s.heap.size)) args s 0 0 (cA L ad s.heap.size)) (F0 m 11 ls []) := by
  obtain ⟨hx, hb, hml, hown, hts, hr, hlocks, hwd, hC⟩ := id X
  have hK := hC.1
  have m5 : 5 ∈ L := hL 5 (by omega)
  obtain ⟨i5, hi5⟩ := wL_ix m5
  have m18 : 18 ∈ L := hL 18 (by omega)
  obtain ⟨i18, hi18⟩ := wL_ix m18
  have lk0 := hts (.fieldLink RX5 15 "FormForge$Walk" "reached" "[I") (by decide +kernel)
  have lk1 := hts (.initialized RX6) (by decide +kernel)
  have lk2 := hts (.static yX6_read) (by decide +kernel)
  have lk3 := hts (.fieldLink RX5 44 "FormForge$Walk" "count" "I") (by decide +kernel)
  have lk4 := hts (.methodLink RX5 73 Lib.Math.min.name) (by decide +kernel)
  have lk5 := hts (.static Lib.Math.min.name) (by decide +kernel)
  have lk6 := hts (.initialized "java/lang/Math") (by decide +kernel)
  have lk7 := hts (.code Lib.Math.min.name Lib.Math.min.code 2 (some .int)) (by decide +kernel)
  have n5 : ∀ w ∈ wsX50, w ∈ wsX5_leastCode := by decide +kernel
  have hN4 := hC.2.1 _ (List.mem_of_getElem? (i := 4) rfl)
  intro n
  induction n with
  | zero =>
    intro a1 a2 u H locs ls h; exact h.elim
  | succ n ih =>
    intro a1 a2 u H locs ls h hP hS hl
    replace h : f_X5_leastCode_L11_s al Q K0 (f_X5_leastCode_L11 al Q K0 n) a1 a2 u := h
    unfold f_X5_leastCode_L11_s at h
    refine lv_iload_n hx hb dX5_leastCode_11 rfl (lv_at hl 2 rfl) ?_
    refine lv_aload_n hx hb dX5_leastCode_12 rfl (lv_at hl 0 rfl) ?_
    refine va_get (C := RX5) (T := TX5) (N := 7) hx hb hts n5 hown hK hP i5 (cg_5 hi5) rfl 6 (by decide) lk3 (fun _ h9 => h9) rfl dX5_leastCode_13 ?_
    refine lv_icmp_ge (tgt := 38) hx hb dX5_leastCode_16 (by decide) (fun c3 => ?_) (fun c3 => ?_)
    · replace h := h.1 c3
      exact hk0 a1 _ _ _ _ h hP hS (lv_sub hl [1] rfl)
    · replace h := h.2 c3
      refine lv_iload_n hx hb dX5_leastCode_19 rfl (lv_at hl 1 rfl) ?_
      refine lv_aload_n hx hb dX5_leastCode_20 rfl (lv_at hl 0 rfl) ?_
      refine va_get (C := RX5) (T := TX5) (N := 7) hx hb hts n5 hown hK hP i5 (cg_5 hi5) rfl 2 (by decide) lk0 (fun _ h9 => h9) rfl dX5_leastCode_21 ?_
      refine lv_iload_n hx hb dX5_leastCode_24 rfl (lv_at hl 2 rfl) ?_
      refine cc_i (va_runSN (As := [.ref (ad 18), .int a2]) (rest := [.int a1]) ⟨hx, hb, hml, hown, hts⟩ (c_X6_read hL.g (Or.inl ⟨by decide, by decide⟩) m18 hwd H.size u a2 _ h) ⟨va_cnB (host := RX6) 2 hts gX5_leastCode_X6_read_n52 rfl rfl rfl hN4 lk1 (by decide +kernel) ⟨Nat.le_of_ble_eq_true rfl, Nat.le_of_ble_eq_true rfl⟩, lk2, trivial⟩ (pcS hC hP hS) rfl rfl hl.1 rfl (lv_room (Nat.le_of_ble_eq_true rfl)) dX5_leastCode_25 ⟨Nat.zero_le _, Nat.zero_le _⟩) hS (cA_mono hS.1) (fun v4 u5 H locs h hP hS => ?_)
      refine va_mmin hx hb (hml.trans hl.1.symm) hown lk4 lk5 lk6 lk7 (Nat.le_of_ble_eq_true rfl) (Nat.le_of_ble_eq_true rfl) (Nat.le_of_ble_eq_true rfl) (Nat.le_of_ble_eq_true rfl) dX5_leastCode_28 ?_
      refine lv_topi (fun v6 ev6 => ?_)
      replace h := h v6 ev6
      refine lv_istore_n (lv' := [(1, .int v6), (0, .ref (ad 5)), (2, .int a2)]) hx hb dX5_leastCode_31 rfl hl (by decide) rfl (fun ls hl => ?_)
      obtain ⟨v7, ev7⟩ : ∃ y : Int32, y = a2 + 1 := ⟨_, rfl⟩
      refine lv_iinc (v := v7) (lv' := [(2, .int v7), (1, .int v6), (0, .ref (ad 5))]) hx hb dX5_leastCode_32 hl (k := 2) rfl (by rw [ev7]; rfl) (by decide) rfl (fun ls hl => ?_)
      replace h := h v7 ev7
      refine lv_goto (tgt := 11) hx hb dX5_leastCode_35 (by decide) ?_
      exact ih v6 v7 _ _ _ _ h hP hS (lv_sub hl [2, 1, 0] rfl)
set_option maxRecDepth 100000 in
set_option maxHeartbeats 4000000 in
theorem w_X5_leastCode {p : Program} {l : Launch} {e : Env} {s : State} {m : MethodId} {args : Array Value} {below : List Frame} {meth : Method} {c : Code} {D : va_G} {cI cG cZ cJ : ClassId} {ts : Nat × Nat} {L : List Nat} {ad : Nat → Nat} {al : Nat} (hL : Lf L al) (X : FX RX5 wsX5_leastCode cX5_leastCode 3 (some .int) D cI cG cZ cJ ts L ad p s m args meth c)  (Q : Int32 → St → Prop) (u : St) (H : Heap) (locs : List Loc) (ls : Array Slot) (h : f_X5_leastCode al u Q) (hP : va_P D vwCl (cW cI cG L ad al u) H) (hS : va_S (cA L ad s.heap.size) s.heap H locs) (hl : lv_has ls 3 [(0, .ref (ad 5))]) : W p l e (headSpec wsX5_leastCode { frames := 1, cells := 0, slots := 0, locals := 21 }).room s m args below meth c H locs 0 0 (MQ below (va_Qi Q (fun u9 t => va_P D vwCl (cW cI cG L ad al u9) t.heap) (cA L ad s.heap.size)) args s 0 0 (cA L ad s.heap.size)) (F0 m 0 ls []) := by
  obtain ⟨hx, hb, hml, hown, hts, hr, hlocks, hwd, hC⟩ := id X
  have hK := hC.1
  have m5 : 5 ∈ L := hL 5 (by omega)
  obtain ⟨i5, hi5⟩ := wL_ix m5
  have m18 : 18 ∈ L := hL 18 (by omega)
  obtain ⟨i18, hi18⟩ := wL_ix m18
  have lk0 := hts (.fieldLink RX5 15 "FormForge$Walk" "reached" "[I") (by decide +kernel)
  have lk1 := hts (.initialized RX6) (by decide +kernel)
  have lk2 := hts (.static yX6_read) (by decide +kernel)
  have lk3 := hts (.fieldLink RX5 44 "FormForge$Walk" "count" "I") (by decide +kernel)
  have lk4 := hts (.methodLink RX5 73 Lib.Math.min.name) (by decide +kernel)
  have lk5 := hts (.static Lib.Math.min.name) (by decide +kernel)
  have lk6 := hts (.initialized "java/lang/Math") (by decide +kernel)
  have lk7 := hts (.code Lib.Math.min.name Lib.Math.min.code 2 (some .int)) (by decide +kernel)
  have n5 : ∀ w ∈ wsX50, w ∈ wsX5_leastCode := by decide +kernel
  have hN4 := hC.2.1 _ (List.mem_of_getElem? (i := 4) rfl)
  unfold f_X5_leastCode at h
  refine lv_aload_n hx hb dX5_leastCode_0 rfl (lv_at hl 0 rfl) ?_
  refine va_get (C := RX5) (T := TX5) (N := 7) hx hb hts n5 hown hK hP i5 (cg_5 hi5) rfl 2 (by decide) lk0 (fun _ h9 => h9) rfl dX5_leastCode_1 ?_
  refine lv_iconst (v := 0) hx hb dX5_leastCode_4 (by decide) ?_
  refine cc_i (va_runSN (As := [.ref (ad 18), .int 0]) (rest := []) ⟨hx, hb, hml, hown, hts⟩ (c_X6_read hL.g (Or.inl ⟨by decide, by decide⟩) m18 hwd H.size u 0 _ h) ⟨va_cnB (host := RX6) 2 hts gX5_leastCode_X6_read_n52 rfl rfl rfl hN4 lk1 (by decide +kernel) ⟨Nat.le_of_ble_eq_true rfl, Nat.le_of_ble_eq_true rfl⟩, lk2, trivial⟩ (pcS hC hP hS) rfl rfl hl.1 rfl (lv_room (Nat.le_of_ble_eq_true rfl)) dX5_leastCode_5 ⟨Nat.zero_le _, Nat.zero_le _⟩) hS (cA_mono hS.1) (fun v1 u2 H locs h hP hS => ?_)
  refine lv_istore_n (lv' := [(1, .int v1), (0, .ref (ad 5))]) hx hb dX5_leastCode_8 rfl hl (by decide) rfl (fun ls hl => ?_)
  refine lv_iconst (v := 1) hx hb dX5_leastCode_9 (by decide) ?_
  refine lv_istore_n (lv' := [(2, .int 1), (1, .int v1), (0, .ref (ad 5))]) hx hb dX5_leastCode_10 rfl hl (by decide) rfl (fun ls hl => ?_)
  obtain ⟨n8, h⟩ := h
  refine w_X5_leastCode_L11 hL X _ _ (fun v9 u10 H locs ls h hP hS hl => ?_) n8 v1 1 _ _ _ _ h hP hS (lv_sub hl [2, 1, 0] rfl)
  refine lv_iload_n hx hb dX5_leastCode_38 rfl (lv_at hl 0 rfl) ?_
  exact W.iret (v := v9) hx hb hr (fun t ht hW => ⟨⟨_, _, rfl, h, by show va_P _ _ _ t.heap; rw [ht]; exact hP⟩, hS.F ht⟩) hS.2.2 dX5_leastCode_39
set_option maxRecDepth 100000 in
set_option maxHeartbeats 4000000 in
theorem c_X5_leastCode {l : Launch} {D : va_G} {cI cG cZ cJ : ClassId} {ts : Nat × Nat} {L : List Nat} {ad : Nat → Nat} {al : Nat} (hL : Lf L al) (hwd : WD L ad) (sz : Nat) (u : St) (Q : Int32 → St → Prop) (h : f_X5_leastCode al u Q) : Met l yX5_leastCode wsX5_leastCode ({ frames := 1, cells := 0, slots := 0, locals := 21 }) (va_Pc [.ref (ad 5)] (PC D cI cG cZ cJ ts L ad al sz u)) (va_Qi Q (fun u9 t => va_P D vwCl (cW cI cG L ad al u9) t.heap) (cA L ad sz)) 0 0 (cA L ad sz) := by
  refine Met.ofW (cc := cX5_leastCode) (maxL := 3) (ret := (some .int)) (by decide) rfl ?_
  intro p e s m args below meth c s₁ B hml hv
  obtain ⟨rfl, hsz, hP, hC⟩ := hv
  subst hsz
  have X : FX RX5 wsX5_leastCode cX5_leastCode 3 (some .int) D cI cG cZ cJ ts L ad p s m _ meth c := ⟨B.exec, B.bytes, hml, findClass_of_methodNamed B.named, atoms_spec (ws := wsX5_leastCode) B.pre, B.returns, B.notSynchronized, hwd, hC⟩
  have hl := lv_entry ([.ref (ad 5)]) (n := 3) (Nat.le_of_ble_eq_true rfl)
  rw [lg_entry_eq]
  generalize (lg_sl ([.ref (ad 5)]) ++ List.replicate (3 - (lg_sl ([.ref (ad 5)])).length) Slot.unset).toArray = ls at hl ⊢
  exact w_X5_leastCode hL X Q u _ _ _ h hP va_S.rf hl
set_option maxRecDepth 100000 in
set_option maxHeartbeats 4000000 in
theorem w_X2_has {p : Program} {l : Launch} {e : Env} {s : State} {m : MethodId} {args : Array Value} {below : List Frame} {meth : Method} {c : Code} {D : va_G} {cI cG cZ cJ : ClassId} {ts : Nat × Nat} {L : List Nat} {ad : Nat → Nat} {al : Nat} (hL : Lf L al) (X : FX RX2 wsX2_has cX2_has 2 (some .boolean) D cI cG cZ cJ ts L ad p s m args meth c) (a1 : Int32) (Q : Int32 → St → Prop) (u : St) (H : Heap) (locs : List Loc) (ls : Array Slot) (h : f_X2_has al a1 u Q) (hP : va_P D vwCl (cW cI cG L ad al u) H) (hS : va_S (cA L ad s.heap.size) s.heap H locs) (hl : lv_has ls 2 [(0, .ref (ad 1)), (1, .int a1)]) : W p l e (headSpec wsX2_has { frames := 0, cells := 0, slots := 0, locals := 0 }).room s m args below meth c H locs 0 0 (MQ below (va_Qi Q (fun u9 t => va_P D vwCl (cW cI cG L ad al u9) t.heap) (cA L ad s.heap.size)) args s 0 0 (cA L ad s.heap.size)) (F0 m 0 ls []) := by
  obtain ⟨hx, hb, hml, hown, hts, hr, hlocks, hwd, hC⟩ := id X
  have hK := hC.1
  have m1 : 1 ∈ L := hL 1 (by omega)
  obtain ⟨i1, hi1⟩ := wL_ix m1
  have lk0 := hts (.fieldLink RX2 9 "FormForge$Field" "p" "I") (by decide +kernel)
  have n2 : ∀ w ∈ wsX20, w ∈ wsX2_has := by decide +kernel
  unfold f_X2_has at h
  refine lv_iload_n hx hb dX2_has_0 rfl (lv_at hl 1 rfl) ?_
  refine lv_if_lt (tgt := 16) hx hb dX2_has_1 (by decide) (fun c1 => ?_) (fun c1 => ?_)
  · replace h := h.1 c1
    refine lv_iconst (v := 0) hx hb dX2_has_16 (by decide) ?_
    exact W.zret (ty := .boolean) (v := 0) hx hb hr rfl (fun t ht hW => ⟨⟨_, _, rfl, h, by show va_P _ _ _ t.heap; rw [ht]; exact hP⟩, hS.F ht⟩) hS.2.2 dX2_has_17
  · replace h := h.2 c1
    refine lv_iload_n hx hb dX2_has_4 rfl (lv_at hl 1 rfl) ?_
    refine lv_aload_n hx hb dX2_has_5 rfl (lv_at hl 0 rfl) ?_
    refine va_get (C := RX2) (T := TX2) (N := 1) hx hb hts n2 hown hK hP i1 (cg_1 hi1) rfl 0 (by decide) lk0 (fun _ h9 => h9) rfl dX2_has_6 ?_
    refine lv_icmp_ge (tgt := 16) hx hb dX2_has_9 (by decide) (fun c2 => ?_) (fun c2 => ?_)
    · replace h := h.1 c2
      refine lv_iconst (v := 0) hx hb dX2_has_16 (by decide) ?_
      exact W.zret (ty := .boolean) (v := 0) hx hb hr rfl (fun t ht hW => ⟨⟨_, _, rfl, h, by show va_P _ _ _ t.heap; rw [ht]; exact hP⟩, hS.F ht⟩) hS.2.2 dX2_has_17
    · replace h := h.2 c2
      refine lv_iconst (v := 1) hx hb dX2_has_12 (by decide) ?_
      refine lv_goto (tgt := 17) hx hb dX2_has_13 (by decide) ?_
      exact W.zret (ty := .boolean) (v := 1) hx hb hr rfl (fun t ht hW => ⟨⟨_, _, rfl, h, by show va_P _ _ _ t.heap; rw [ht]; exact hP⟩, hS.F ht⟩) hS.2.2 dX2_has_17
set_option maxRecDepth 100000 in
set_option maxHeartbeats 4000000 in
theorem c_X2_has {l : Launch} {D : va_G} {cI cG cZ cJ : ClassId} {ts : Nat × Nat} {L : List Nat} {ad : Nat → Nat} {al : Nat} (hL : Lf L al) (hwd : WD L ad) (sz : Nat) (u : St) (a1 : Int32) (Q : Int32 → St → Prop) (h : f_X2_has al a1 u Q) : Met l yX2_has wsX2_has ({ frames := 0, cells := 0, slots := 0, locals := 0 }) (va_Pc [.ref (ad 1), .int a1] (PC D cI cG cZ cJ ts L ad al sz u)) (va_Qi Q (fun u9 t => va_P D vwCl (cW cI cG L ad al u9) t.heap) (cA L ad sz)) 0 0 (cA L ad sz) := by
  refine Met.ofW (cc := cX2_has) (maxL := 2) (ret := (some .boolean)) (by decide) rfl ?_
  intro p e s m args below meth c s₁ B hml hv
  obtain ⟨rfl, hsz, hP, hC⟩ := hv
  subst hsz
  have X : FX RX2 wsX2_has cX2_has 2 (some .boolean) D cI cG cZ cJ ts L ad p s m _ meth c := ⟨B.exec, B.bytes, hml, findClass_of_methodNamed B.named, atoms_spec (ws := wsX2_has) B.pre, B.returns, B.notSynchronized, hwd, hC⟩
  have hl := lv_entry ([.ref (ad 1), .int a1]) (n := 2) (Nat.le_of_ble_eq_true rfl)
  rw [lg_entry_eq]
  generalize (lg_sl ([.ref (ad 1), .int a1]) ++ List.replicate (2 - (lg_sl ([.ref (ad 1), .int a1])).length) Slot.unset).toArray = ls at hl ⊢
  exact w_X2_has hL X a1 Q u _ _ _ h hP va_S.rf hl
set_option maxRecDepth 100000 in
set_option maxHeartbeats 4000000 in
theorem w_X2_power_L5 {p : Program} {l : Launch} {e : Env} {s : State} {m : MethodId} {args : Array Value} {below : List Frame} {meth : Method} {c : Code} {D : va_G} {cI cG cZ cJ : ClassId} {ts : Nat × Nat} {L : List Nat} {ad : Nat → Nat} {al : Nat} (hL : Lf L al) (X : FX RX2 wsX2_power cX2_power 5 (some .int) D cI cG cZ cJ ts L ad p s m args meth c) (a1 : Int32) (a2 : Int32) (Q : Int32 → St → Prop)
    (K0 : Int32 → St → Prop) (hk0 : ∀ (b3 : Int32) (u : St) (H : Heap) (locs : List Loc) (ls : Array Slot), K0 b3 u → va_P D vwCl (cW cI cG L ad al u) H → va_S (cA L ad s.heap.size) s.heap H locs → lv_has ls 5 [(3, .int b3)] → W p l e (headSpec wsX2_power { frames := 2, cells := 0, slots := 0, locals := 43 }).room s m args below meth c H locs 0 0 (MQ below (va_Qi Q (fun u9 t => va_P D vwCl (cW cI cG L ad al u9) t.heap) (cA L ad s.heap.size)) args s 0 0 (cA L ad s.heap.size)) (F0 m 25 ls []))
    : ∀ (n : Nat) (a3 : Int32) (a4 : Int32) (u : St) (H : Heap) (locs : List Loc) (ls : Array Slot), f_X2_power_L5 al a1 a2 Q K0 n a3 a4 u → va_P D vwCl (cW cI cG L ad al u) H → va_S (cA L ad s.heap.size) s.heap H locs → lv_has ls 5 [(0, .ref (ad 1)), (1, .int a1), (2, .int a2), (3, .int a3), (4, .int a4)] → W p l e (headSpec wsX2_power { frames := 2, cells := 0, slots := 0, locals := 43 }).room s m args below meth c H locs 0 0 (MQ below (va_Qi Q (fun u9 t => va_P D vwCl (cW cI cG L ad al u9) t.heap) (cA L ad s.heap.size)) args s 0 0 (cA L ad s.heap.size)) (F0 m 5 ls []) := by
  obtain ⟨hx, hb, hml, hown, hts, hr, hlocks, hwd, hC⟩ := id X
  have hK := hC.1
  have m1 : 1 ∈ L := hL 1 (by omega)
  obtain ⟨i1, hi1⟩ := wL_ix m1
  intro n
  induction n with
  | zero =>
    intro a3 a4 u H locs ls h; exact h.elim
  | succ n ih =>
    intro a3 a4 u H locs ls h hP hS hl
    replace h : f_X2_power_L5_s al a1 a2 Q K0 (f_X2_power_L5 al a1 a2 Q K0 n) a3 a4 u := h
    unfold f_X2_power_L5_s at h
    refine lv_iload hx hb dX2_power_5 (lv_at hl 4 rfl) ?_
    refine lv_iload_n hx hb dX2_power_7 rfl (lv_at hl 2 rfl) ?_
    refine lv_icmp_ge (tgt := 25) hx hb dX2_power_8 (by decide) (fun c1 => ?_) (fun c1 => ?_)
    · replace h := h.1 c1
      exact hk0 a3 _ _ _ _ h hP hS (lv_sub hl [3] rfl)
    · replace h := h.2 c1
      refine lv_aload_n hx hb dX2_power_11 rfl (lv_at hl 0 rfl) ?_
      refine lv_iload_n hx hb dX2_power_12 rfl (lv_at hl 3 rfl) ?_
      refine lv_iload_n hx hb dX2_power_13 rfl (lv_at hl 1 rfl) ?_
      refine lv_imul hx hb dX2_power_14 ?_
      refine cc_i (va_runV (C := RX2) (As := [.int (a3 * a1)]) (rest := []) ⟨hx, hb, hml, hown, hts⟩ (c_X2_rest hL.g hwd H.size u (a3 * a1) _ h) (cwV 1 hts gX2_power_X2_rest rfl rfl rfl (by decide +kernel) ⟨Nat.le_of_ble_eq_true rfl, Nat.le_of_ble_eq_true rfl⟩) (pcV hC hP hS (cg_1 hi1) rfl) rfl rfl hl.1 rfl (lv_room (Nat.le_of_ble_eq_true rfl)) dX2_power_15 ⟨Nat.zero_le _, Nat.zero_le _⟩) hS (cA_mono hS.1) (fun v2 u3 H locs h hP hS => ?_)
      refine lv_istore_n (lv' := [(3, .int v2), (0, .ref (ad 1)), (1, .int a1), (2, .int a2), (4, .int a4)]) hx hb dX2_power_18 rfl hl (by decide) rfl (fun ls hl => ?_)
      obtain ⟨v4, ev4⟩ : ∃ y : Int32, y = a4 + 1 := ⟨_, rfl⟩
      refine lv_iinc (v := v4) (lv' := [(4, .int v4), (3, .int v2), (0, .ref (ad 1)), (1, .int a1), (2, .int a2)]) hx hb dX2_power_19 hl (k := 4) rfl (by rw [ev4]; rfl) (by decide) rfl (fun ls hl => ?_)
      replace h := h v4 ev4
      refine lv_goto (tgt := 5) hx hb dX2_power_22 (by decide) ?_
      exact ih v2 v4 _ _ _ _ h hP hS (lv_sub hl [2, 3, 4, 1, 0] rfl)
set_option maxRecDepth 100000 in
set_option maxHeartbeats 4000000 in
theorem w_X2_power {p : Program} {l : Launch} {e : Env} {s : State} {m : MethodId} {args : Array Value} {below : List Frame} {meth : Method} {c : Code} {D : va_G} {cI cG cZ cJ : ClassId} {ts : Nat × Nat} {L : List Nat} {ad : Nat → Nat} {al : Nat} (hL : Lf L al) (X : FX RX2 wsX2_power cX2_power 5 (some .int) D cI cG cZ cJ ts L ad p s m args meth c) (a1 : Int32) (a2 : Int32) (Q : Int32 → St → Prop) (u : St) (H : Heap) (locs : List Loc) (ls : Array Slot) (h : f_X2_power al a1 a2 u Q) (hP : va_P D vwCl (cW cI cG L ad al u) H) (hS : va_S (cA L ad s.heap.size) s.heap H locs) (hl : lv_has ls 5 [(0, .ref (ad 1)), (1, .int a1), (2, .int a2)]) : W p l e (headSpec wsX2_power { frames := 2, cells := 0, slots := 0, locals := 43 }).room s m args below meth c H locs 0 0 (MQ below (va_Qi Q (fun u9 t => va_P D vwCl (cW cI cG L ad al u9) t.heap) (cA L ad s.heap.size)) args s 0 0 (cA L ad s.heap.size)) (F0 m 0 ls []) := by
  obtain ⟨hx, hb, hml, hown, hts, hr, hlocks, hwd, hC⟩ := id X
  have hK := hC.1
  have m1 : 1 ∈ L := hL 1 (by omega)
  obtain ⟨i1, hi1⟩ := wL_ix m1
  unfold f_X2_power at h
  refine lv_iconst (v := 1) hx hb dX2_power_0 (by decide) ?_
  refine lv_istore_n (lv' := [(3, .int 1), (0, .ref (ad 1)), (1, .int a1), (2, .int a2)]) hx hb dX2_power_1 rfl hl (by decide) rfl (fun ls hl => ?_)
  refine lv_iconst (v := 0) hx hb dX2_power_2 (by decide) ?_
  refine lv_istore (lv' := [(4, .int 0), (3, .int 1), (0, .ref (ad 1)), (1, .int a1), (2, .int a2)]) hx hb dX2_power_3 hl (by decide) rfl (fun ls hl => ?_)
  obtain ⟨n5, h⟩ := h
  refine w_X2_power_L5 hL X a1 a2 _ _ (fun v6 u7 H locs ls h hP hS hl => ?_) n5 1 0 _ _ _ _ h hP hS (lv_sub hl [2, 3, 4, 1, 0] rfl)
  refine lv_iload_n hx hb dX2_power_25 rfl (lv_at hl 0 rfl) ?_
  exact W.iret (v := v6) hx hb hr (fun t ht hW => ⟨⟨_, _, rfl, h, by show va_P _ _ _ t.heap; rw [ht]; exact hP⟩, hS.F ht⟩) hS.2.2 dX2_power_26
set_option maxRecDepth 100000 in
set_option maxHeartbeats 4000000 in
theorem c_X2_power {l : Launch} {D : va_G} {cI cG cZ cJ : ClassId} {ts : Nat × Nat} {L : List Nat} {ad : Nat → Nat} {al : Nat} (hL : Lf L al) (hwd : WD L ad) (sz : Nat) (u : St) (a1 : Int32) (a2 : Int32) (Q : Int32 → St → Prop) (h : f_X2_power al a1 a2 u Q) : Met l yX2_power wsX2_power ({ frames := 2, cells := 0, slots := 0, locals := 43 }) (va_Pc [.ref (ad 1), .int a1, .int a2] (PC D cI cG cZ cJ ts L ad al sz u)) (va_Qi Q (fun u9 t => va_P D vwCl (cW cI cG L ad al u9) t.heap) (cA L ad sz)) 0 0 (cA L ad sz) := by
  refine Met.ofW (cc := cX2_power) (maxL := 5) (ret := (some .int)) (by decide) rfl ?_
  intro p e s m args below meth c s₁ B hml hv
  obtain ⟨rfl, hsz, hP, hC⟩ := hv
  subst hsz
  have X : FX RX2 wsX2_power cX2_power 5 (some .int) D cI cG cZ cJ ts L ad p s m _ meth c := ⟨B.exec, B.bytes, hml, findClass_of_methodNamed B.named, atoms_spec (ws := wsX2_power) B.pre, B.returns, B.notSynchronized, hwd, hC⟩
  have hl := lv_entry ([.ref (ad 1), .int a1, .int a2]) (n := 5) (Nat.le_of_ble_eq_true rfl)
  rw [lg_entry_eq]
  generalize (lg_sl ([.ref (ad 1), .int a1, .int a2]) ++ List.replicate (5 - (lg_sl ([.ref (ad 1), .int a1, .int a2])).length) Slot.unset).toArray = ls at hl ⊢
  exact w_X2_power hL X a1 a2 Q u _ _ _ h hP va_S.rf hl
set_option maxRecDepth 100000 in
set_option maxHeartbeats 4000000 in
theorem w_X2_inverse_L2 {p : Program} {l : Launch} {e : Env} {s : State} {m : MethodId} {args : Array Value} {below : List Frame} {meth : Method} {c : Code} {D : va_G} {cI cG cZ cJ : ClassId} {ts : Nat × Nat} {L : List Nat} {ad : Nat → Nat} {al : Nat} (hL : Lf L al) (X : FX RX2 wsX2_inverse cX2_inverse 3 (some .int) D cI cG cZ cJ ts L ad p s m args meth c) (a1 : Int32) (Q : Int32 → St → Prop)
    (K0 : Int32 → St → Prop) (hk0 : ∀ (b2 : Int32) (u : St) (H : Heap) (locs : List Loc) (ls : Array Slot), K0 b2 u → va_P D vwCl (cW cI cG L ad al u) H → va_S (cA L ad s.heap.size) s.heap H locs → lv_has ls 3 [(2, .int b2)] → W p l e (headSpec wsX2_inverse { frames := 2, cells := 0, slots := 0, locals := 43 }).room s m args below meth c H locs 0 0 (MQ below (va_Qi Q (fun u9 t => va_P D vwCl (cW cI cG L ad al u9) t.heap) (cA L ad s.heap.size)) args s 0 0 (cA L ad s.heap.size)) (F0 m 25 ls []))
    (K1 : St → Prop) (hk1 : ∀ (u : St) (H : Heap) (locs : List Loc) (ls : Array Slot), K1 u → va_P D vwCl (cW cI cG L ad al u) H → va_S (cA L ad s.heap.size) s.heap H locs → lv_has ls 3 [] → W p l e (headSpec wsX2_inverse { frames := 2, cells := 0, slots := 0, locals := 43 }).room s m args below meth c H locs 0 0 (MQ below (va_Qi Q (fun u9 t => va_P D vwCl (cW cI cG L ad al u9) t.heap) (cA L ad s.heap.size)) args s 0 0 (cA L ad s.heap.size)) (F0 m 33 ls []))
    : ∀ (n : Nat) (a2 : Int32) (u : St) (H : Heap) (locs : List Loc) (ls : Array Slot), f_X2_inverse_L2 al a1 Q K0 K1 n a2 u → va_P D vwCl (cW cI cG L ad al u) H → va_S (cA L ad s.heap.size) s.heap H locs → lv_has ls 3 [(0, .ref (ad 1)), (1, .int a1), (2, .int a2)] → W p l e (headSpec wsX2_inverse { frames := 2, cells := 0, slots := 0, locals := 43 }).room s m args below meth c H locs 0 0 (MQ below (va_Qi Q (fun u9 t => va_P D vwCl (cW cI cG L ad al u9) t.heap) (cA L ad s.heap.size)) args s 0 0 (cA L ad s.heap.size)) (F0 m 2 ls []) := by
  obtain ⟨hx, hb, hml, hown, hts, hr, hlocks, hwd, hC⟩ := id X
  have hK := hC.1
  have m1 : 1 ∈ L := hL 1 (by omega)
  obtain ⟨i1, hi1⟩ := wL_ix m1
  have lk0 := hts (.fieldLink RX2 9 "FormForge$Field" "p" "I") (by decide +kernel)
  have n2 : ∀ w ∈ wsX20, w ∈ wsX2_inverse := by decide +kernel
  intro n
  induction n with
  | zero =>
    intro a2 u H locs ls h; exact h.elim
  | succ n ih =>
    intro a2 u H locs ls h hP hS hl
    replace h : f_X2_inverse_L2_s al a1 Q K0 K1 (f_X2_inverse_L2 al a1 Q K0 K1 n) a2 u := h
    unfold f_X2_inverse_L2_s at h
    refine lv_iload_n hx hb dX2_inverse_2 rfl (lv_at hl 2 rfl) ?_
    refine lv_aload_n hx hb dX2_inverse_3 rfl (lv_at hl 0 rfl) ?_
    refine va_get (C := RX2) (T := TX2) (N := 1) hx hb hts n2 hown hK hP i1 (cg_1 hi1) rfl 0 (by decide) lk0 (fun _ h9 => h9) rfl dX2_inverse_4 ?_
    refine lv_icmp_ge (tgt := 33) hx hb dX2_inverse_7 (by decide) (fun c1 => ?_) (fun c1 => ?_)
    · replace h := h.1 c1
      exact hk1  _ _ _ _ h hP hS (lv_sub hl [] rfl)
    · replace h := h.2 c1
      refine lv_aload_n hx hb dX2_inverse_10 rfl (lv_at hl 0 rfl) ?_
      refine lv_aload_n hx hb dX2_inverse_11 rfl (lv_at hl 0 rfl) ?_
      refine lv_iload_n hx hb dX2_inverse_12 rfl (lv_at hl 1 rfl) ?_
      refine cc_i (va_runV (C := RX2) (As := [.int a1]) (rest := [.ref (ad 1)]) ⟨hx, hb, hml, hown, hts⟩ (c_X2_rest hL.g hwd H.size u a1 _ h) (cwV 1 hts gX2_inverse_X2_rest rfl rfl rfl (by decide +kernel) ⟨Nat.le_of_ble_eq_true rfl, Nat.le_of_ble_eq_true rfl⟩) (pcV hC hP hS (cg_1 hi1) rfl) rfl rfl hl.1 rfl (lv_room (Nat.le_of_ble_eq_true rfl)) dX2_inverse_13 ⟨Nat.zero_le _, Nat.zero_le _⟩) hS (cA_mono hS.1) (fun v2 u3 H locs h hP hS => ?_)
      refine lv_iload_n hx hb dX2_inverse_16 rfl (lv_at hl 2 rfl) ?_
      refine lv_imul hx hb dX2_inverse_17 ?_
      refine cc_i (va_runV (C := RX2) (As := [.int (v2 * a2)]) (rest := []) ⟨hx, hb, hml, hown, hts⟩ (c_X2_rest hL.g hwd H.size u3 (v2 * a2) _ h) (cwV 1 hts gX2_inverse_X2_rest rfl rfl rfl (by decide +kernel) ⟨Nat.le_of_ble_eq_true rfl, Nat.le_of_ble_eq_true rfl⟩) (pcV hC hP hS (cg_1 hi1) rfl) rfl rfl hl.1 rfl (lv_room (Nat.le_of_ble_eq_true rfl)) dX2_inverse_18 ⟨Nat.zero_le _, Nat.zero_le _⟩) hS (cA_mono hS.1) (fun v4 u5 H locs h hP hS => ?_)
      refine lv_iconst (v := 1) hx hb dX2_inverse_21 (by decide) ?_
      refine lv_icmp_ne (tgt := 27) hx hb dX2_inverse_22 (by decide) (fun c6 => ?_) (fun c6 => ?_)
      · replace h := h.1 c6
        obtain ⟨v7, ev7⟩ : ∃ y : Int32, y = a2 + 1 := ⟨_, rfl⟩
        refine lv_iinc (v := v7) (lv' := [(2, .int v7), (0, .ref (ad 1)), (1, .int a1)]) hx hb dX2_inverse_27 hl (k := 2) rfl (by rw [ev7]; rfl) (by decide) rfl (fun ls hl => ?_)
        replace h := h v7 ev7
        refine lv_goto (tgt := 2) hx hb dX2_inverse_30 (by decide) ?_
        exact ih v7 _ _ _ _ h hP hS (lv_sub hl [1, 2, 0] rfl)
      · replace h := h.2 c6
        exact hk0 a2 _ _ _ _ h hP hS (lv_sub hl [2] rfl)
set_option maxRecDepth 100000 in
set_option maxHeartbeats 4000000 in
theorem w_X2_inverse {p : Program} {l : Launch} {e : Env} {s : State} {m : MethodId} {args : Array Value} {below : List Frame} {meth : Method} {c : Code} {D : va_G} {cI cG cZ cJ : ClassId} {ts : Nat × Nat} {L : List Nat} {ad : Nat → Nat} {al : Nat} (hL : Lf L al) (X : FX RX2 wsX2_inverse cX2_inverse 3 (some .int) D cI cG cZ cJ ts L ad p s m args meth c) (a1 : Int32) (Q : Int32 → St → Prop) (u : St) (H : Heap) (locs : List Loc) (ls : Array Slot) (h : f_X2_inverse al a1 u Q) (hP : va_P D vwCl (cW cI cG L ad al u) H) (hS : va_S (cA L ad s.heap.size) s.heap H locs) (hl : lv_has ls 3 [(0, .ref (ad 1)), (1, .int a1)]) : W p l e (headSpec wsX2_inverse { frames := 2, cells := 0, slots := 0, locals := 43 }).room s m args below meth c H locs 0 0 (MQ below (va_Qi Q (fun u9 t => va_P D vwCl (cW cI cG L ad al u9) t.heap) (cA L ad s.heap.size)) args s 0 0 (cA L ad s.heap.size)) (F0 m 0 ls []) := by
  obtain ⟨hx, hb, hml, hown, hts, hr, hlocks, hwd, hC⟩ := id X
  have hK := hC.1
  have m1 : 1 ∈ L := hL 1 (by omega)
  obtain ⟨i1, hi1⟩ := wL_ix m1
  have lk0 := hts (.fieldLink RX2 9 "FormForge$Field" "p" "I") (by decide +kernel)
  have n2 : ∀ w ∈ wsX20, w ∈ wsX2_inverse := by decide +kernel
  unfold f_X2_inverse at h
  refine lv_iconst (v := 1) hx hb dX2_inverse_0 (by decide) ?_
  refine lv_istore_n (lv' := [(2, .int 1), (0, .ref (ad 1)), (1, .int a1)]) hx hb dX2_inverse_1 rfl hl (by decide) rfl (fun ls hl => ?_)
  obtain ⟨n8, h⟩ := h
  refine w_X2_inverse_L2 hL X a1 _ _ (fun v9 u10 H locs ls h hP hS hl => ?_) _ (fun u11 H locs ls h hP hS hl => ?_) n8 1 _ _ _ _ h hP hS (lv_sub hl [1, 2, 0] rfl)
  · refine lv_iload_n hx hb dX2_inverse_25 rfl (lv_at hl 0 rfl) ?_
    exact W.iret (v := v9) hx hb hr (fun t ht hW => ⟨⟨_, _, rfl, h, by show va_P _ _ _ t.heap; rw [ht]; exact hP⟩, hS.F ht⟩) hS.2.2 dX2_inverse_26
  · refine lv_iconst (v := 0) hx hb dX2_inverse_33 (by decide) ?_
    exact W.iret (v := 0) hx hb hr (fun t ht hW => ⟨⟨_, _, rfl, h, by show va_P _ _ _ t.heap; rw [ht]; exact hP⟩, hS.F ht⟩) hS.2.2 dX2_inverse_34
set_option maxRecDepth 100000 in
set_option maxHeartbeats 4000000 in
theorem c_X2_inverse {l : Launch} {D : va_G} {cI cG cZ cJ : ClassId} {ts : Nat × Nat} {L : List Nat} {ad : Nat → Nat} {al : Nat} (hL : Lf L al) (hwd : WD L ad) (sz : Nat) (u : St) (a1 : Int32) (Q : Int32 → St → Prop) (h : f_X2_inverse al a1 u Q) : Met l yX2_inverse wsX2_inverse ({ frames := 2, cells := 0, slots := 0, locals := 43 }) (va_Pc [.ref (ad 1), .int a1] (PC D cI cG cZ cJ ts L ad al sz u)) (va_Qi Q (fun u9 t => va_P D vwCl (cW cI cG L ad al u9) t.heap) (cA L ad sz)) 0 0 (cA L ad sz) := by
  refine Met.ofW (cc := cX2_inverse) (maxL := 3) (ret := (some .int)) (by decide) rfl ?_
  intro p e s m args below meth c s₁ B hml hv
  obtain ⟨rfl, hsz, hP, hC⟩ := hv
  subst hsz
  have X : FX RX2 wsX2_inverse cX2_inverse 3 (some .int) D cI cG cZ cJ ts L ad p s m _ meth c := ⟨B.exec, B.bytes, hml, findClass_of_methodNamed B.named, atoms_spec (ws := wsX2_inverse) B.pre, B.returns, B.notSynchronized, hwd, hC⟩
  have hl := lv_entry ([.ref (ad 1), .int a1]) (n := 3) (Nat.le_of_ble_eq_true rfl)
  rw [lg_entry_eq]
  generalize (lg_sl ([.ref (ad 1), .int a1]) ++ List.replicate (3 - (lg_sl ([.ref (ad 1), .int a1])).length) Slot.unset).toArray = ls at hl ⊢
  exact w_X2_inverse hL X a1 Q u _ _ _ h hP va_S.rf hl
set_option maxRecDepth 100000 in
set_option maxHeartbeats 4000000 in
theorem w_X2_total_L14 {p : Program} {l : Launch} {e : Env} {s : State} {m : MethodId} {args : Array Value} {below : List Frame} {meth : Method} {c : Code} {D : va_G} {cI cG cZ cJ : ClassId} {ts : Nat × Nat} {L : List Nat} {ad : Nat → Nat} {al : Nat} (hL : Lf L al) (X : FX RX2 wsX2_total cX2_total 8 (some .int) D cI cG cZ cJ ts L ad p s m args meth c)  (Q : Int32 → St → Prop)
    (K0 : Int32 → St → Prop) (hk0 : ∀ (b3 : Int32) (u : St) (H : Heap) (locs : List Loc) (ls : Array Slot), K0 b3 u → va_P D vwCl (cW cI cG L ad al u) H → va_S (cA L ad s.heap.size) s.heap H locs → lv_has ls 8 [(3, .int b3)] → W p l e (headSpec wsX2_total { frames := 0, cells := 0, slots := 0, locals := 0 }).room s m args below meth c H locs 0 0 (MQ below (va_Qi Q (fun u9 t => va_P D vwCl (cW cI cG L ad al u9) t.heap) (cA L ad s.heap.size)) args s 0 0 (cA L ad s.heap.size)) (F0 m 86 ls []))
    : ∀ (n : Nat) (a3 : Int32) (a4 : Int32) (a5 : Int32) (a6 : Int32) (a7 : Int32) (u : St) (H : Heap) (locs : List Loc) (ls : Array Slot), f_X2_total_L14 al Q K0 n a3 a4 a5 a6 a7 u → va_P D vwCl (cW cI cG L ad al u) H → va_S (cA L ad s.heap.size) s.heap H locs → lv_has ls 8 [(0, .ref (ad 1)), (3, .int a3), (4, .int a4), (5, .int a5), (6, .int a6), (7, .int a7)] → W p l e (headSpec wsX2_total { frames := 0, cells := 0, slots := 0, locals := 0 }).room s m args below meth c H locs 0 0 (MQ below (va_Qi Q (fun u9 t => va_P D vwCl (cW cI cG L ad al u9) t.heap) (cA L ad s.heap.size)) args s 0 0 (cA L ad s.heap.size)) (F0 m 14 ls []) := by
  obtain ⟨hx, hb, hml, hown, hts, hr, hlocks, hwd, hC⟩ := id X
  have hK := hC.1
  have m1 : 1 ∈ L := hL 1 (by omega)
  obtain ⟨i1, hi1⟩ := wL_ix m1
  have lk0 := hts (.fieldLink RX2 9 "FormForge$Field" "p" "I") (by decide +kernel)
  have n2 : ∀ w ∈ wsX20, w ∈ wsX2_total := by decide +kernel
  intro n
  induction n with
  | zero =>
    intro a3 a4 a5 a6 a7 u H locs ls h; exact h.elim
  | succ n ih =>
    intro a3 a4 a5 a6 a7 u H locs ls h hP hS hl
    replace h : f_X2_total_L14_s al Q K0 (f_X2_total_L14 al Q K0 n) a3 a4 a5 a6 a7 u := h
    unfold f_X2_total_L14_s at h
    refine lv_iload hx hb dX2_total_14 (lv_at hl 5 rfl) ?_
    refine lv_iconst (v := 5) hx hb dX2_total_16 (by decide) ?_
    refine lv_icmp_ge (tgt := 86) hx hb dX2_total_17 (by decide) (fun c1 => ?_) (fun c1 => ?_)
    · replace h := h.1 c1
      exact hk0 a3 _ _ _ _ h hP hS (lv_sub hl [1] rfl)
    · replace h := h.2 c1
      refine lv_aload_n hx hb dX2_total_20 rfl (lv_at hl 0 rfl) ?_
      refine va_get (C := RX2) (T := TX2) (N := 1) hx hb hts n2 hown hK hP i1 (cg_1 hi1) rfl 0 (by decide) lk0 (fun _ h9 => h9) rfl dX2_total_21 ?_
      refine lv_if_le (tgt := 86) hx hb dX2_total_24 (by decide) (fun c2 => ?_) (fun c2 => ?_)
      · replace h := h.1 c2
        exact hk0 a3 _ _ _ _ h hP hS (lv_sub hl [1] rfl)
      · replace h := h.2 c2
        refine lv_iload_n hx hb dX2_total_27 rfl (lv_at hl 1 rfl) ?_
        refine lv_iload hx hb dX2_total_28 (lv_at hl 2 rfl) ?_
        refine lv_aload_n hx hb dX2_total_30 rfl (lv_at hl 0 rfl) ?_
        refine va_get (C := RX2) (T := TX2) (N := 1) hx hb hts n2 hown hK hP i1 (cg_1 hi1) rfl 0 (by decide) lk0 (fun _ h9 => h9) rfl dX2_total_31 ?_
        refine lv_irem hx hb dX2_total_34 h.1 ?_
        replace h := h.2
        refine lv_topi (fun v3 ev3 => ?_)
        replace h := h v3 ev3
        refine lv_iload hx hb dX2_total_35 (lv_at hl 3 rfl) ?_
        refine lv_aload_n hx hb dX2_total_37 rfl (lv_at hl 0 rfl) ?_
        refine va_get (C := RX2) (T := TX2) (N := 1) hx hb hts n2 hown hK hP i1 (cg_1 hi1) rfl 0 (by decide) lk0 (fun _ h9 => h9) rfl dX2_total_38 ?_
        refine lv_irem hx hb dX2_total_41 h.1 ?_
        replace h := h.2
        refine lv_topi (fun v4 ev4 => ?_)
        replace h := h v4 ev4
        refine lv_iadd hx hb dX2_total_42 ?_
        refine lv_aload_n hx hb dX2_total_43 rfl (lv_at hl 0 rfl) ?_
        refine va_get (C := RX2) (T := TX2) (N := 1) hx hb hts n2 hown hK hP i1 (cg_1 hi1) rfl 0 (by decide) lk0 (fun _ h9 => h9) rfl dX2_total_44 ?_
        refine lv_irem hx hb dX2_total_47 h.1 ?_
        replace h := h.2
        refine lv_topi (fun v5 ev5 => ?_)
        replace h := h v5 ev5
        refine lv_iload hx hb dX2_total_48 (lv_at hl 4 rfl) ?_
        refine lv_imul hx hb dX2_total_50 ?_
        refine lv_iadd hx hb dX2_total_51 ?_
        refine lv_topi (fun v6 ev6 => ?_)
        replace h := h v6 ev6
        refine lv_istore_n (lv' := [(3, .int v6), (0, .ref (ad 1)), (4, .int a4), (5, .int a5), (6, .int a6), (7, .int a7)]) hx hb dX2_total_52 rfl hl (by decide) rfl (fun ls hl => ?_)
        refine lv_iload hx hb dX2_total_53 (lv_at hl 2 rfl) ?_
        refine lv_aload_n hx hb dX2_total_55 rfl (lv_at hl 1 rfl) ?_
        refine va_get (C := RX2) (T := TX2) (N := 1) hx hb hts n2 hown hK hP i1 (cg_1 hi1) rfl 0 (by decide) lk0 (fun _ h9 => h9) rfl dX2_total_56 ?_
        refine lv_idiv hx hb dX2_total_59 h.1 ?_
        replace h := h.2
        refine lv_topi (fun v7 ev7 => ?_)
        replace h := h v7 ev7
        refine lv_istore (lv' := [(4, .int v7), (3, .int v6), (0, .ref (ad 1)), (5, .int a5), (6, .int a6), (7, .int a7)]) hx hb dX2_total_60 hl (by decide) rfl (fun ls hl => ?_)
        refine lv_iload hx hb dX2_total_62 (lv_at hl 3 rfl) ?_
        refine lv_aload_n hx hb dX2_total_64 rfl (lv_at hl 2 rfl) ?_
        refine va_get (C := RX2) (T := TX2) (N := 1) hx hb hts n2 hown hK hP i1 (cg_1 hi1) rfl 0 (by decide) lk0 (fun _ h9 => h9) rfl dX2_total_65 ?_
        refine lv_idiv hx hb dX2_total_68 h.1 ?_
        replace h := h.2
        refine lv_topi (fun v8 ev8 => ?_)
        replace h := h v8 ev8
        refine lv_istore (lv' := [(5, .int v8), (4, .int v7), (3, .int v6), (0, .ref (ad 1)), (6, .int a6), (7, .int a7)]) hx hb dX2_total_69 hl (by decide) rfl (fun ls hl => ?_)
        refine lv_iload hx hb dX2_total_71 (lv_at hl 4 rfl) ?_
        refine lv_aload_n hx hb dX2_total_73 rfl (lv_at hl 3 rfl) ?_
        refine va_get (C := RX2) (T := TX2) (N := 1) hx hb hts n2 hown hK hP i1 (cg_1 hi1) rfl 0 (by decide) lk0 (fun _ h9 => h9) rfl dX2_total_74 ?_
        refine lv_imul hx hb dX2_total_77 ?_
        refine lv_topi (fun v9 ev9 => ?_)
        replace h := h v9 ev9
        refine lv_istore (lv' := [(6, .int v9), (5, .int v8), (4, .int v7), (3, .int v6), (0, .ref (ad 1)), (7, .int a7)]) hx hb dX2_total_78 hl (by decide) rfl (fun ls hl => ?_)
        obtain ⟨v10, ev10⟩ : ∃ y : Int32, y = a7 + 1 := ⟨_, rfl⟩
        refine lv_iinc (v := v10) (lv' := [(7, .int v10), (6, .int v9), (5, .int v8), (4, .int v7), (3, .int v6), (0, .ref (ad 1))]) hx hb dX2_total_80 hl (k := 5) rfl (by rw [ev10]; rfl) (by decide) rfl (fun ls hl => ?_)
        replace h := h v10 ev10
        refine lv_goto (tgt := 14) hx hb dX2_total_83 (by decide) ?_
        exact ih v6 v7 v8 v9 v10 _ _ _ _ h hP hS (lv_sub hl [5, 4, 3, 2, 1, 0] rfl)
set_option maxRecDepth 100000 in
set_option maxHeartbeats 4000000 in
theorem w_X2_total {p : Program} {l : Launch} {e : Env} {s : State} {m : MethodId} {args : Array Value} {below : List Frame} {meth : Method} {c : Code} {D : va_G} {cI cG cZ cJ : ClassId} {ts : Nat × Nat} {L : List Nat} {ad : Nat → Nat} {al : Nat} (hL : Lf L al) (X : FX RX2 wsX2_total cX2_total 8 (some .int) D cI cG cZ cJ ts L ad p s m args meth c) (a1 : Int32) (a2 : Int32) (Q : Int32 → St → Prop) (u : St) (H : Heap) (locs : List Loc) (ls : Array Slot) (h : f_X2_total al a1 a2 u Q) (hP : va_P D vwCl (cW cI cG L ad al u) H) (hS : va_S (cA L ad s.heap.size) s.heap H locs) (hl : lv_has ls 8 [(0, .ref (ad 1)), (1, .int a1), (2, .int a2)]) : W p l e (headSpec wsX2_total { frames := 0, cells := 0, slots := 0, locals := 0 }).room s m args below meth c H locs 0 0 (MQ below (va_Qi Q (fun u9 t => va_P D vwCl (cW cI cG L ad al u9) t.heap) (cA L ad s.heap.size)) args s 0 0 (cA L ad s.heap.size)) (F0 m 0 ls []) := by
  obtain ⟨hx, hb, hml, hown, hts, hr, hlocks, hwd, hC⟩ := id X
  have hK := hC.1
  have m1 : 1 ∈ L := hL 1 (by omega)
  obtain ⟨i1, hi1⟩ := wL_ix m1
  have lk0 := hts (.fieldLink RX2 9 "FormForge$Field" "p" "I") (by decide +kernel)
  have n2 : ∀ w ∈ wsX20, w ∈ wsX2_total := by decide +kernel
  unfold f_X2_total at h
  refine lv_iconst (v := 0) hx hb dX2_total_0 (by decide) ?_
  refine lv_istore_n (lv' := [(3, .int 0), (0, .ref (ad 1)), (1, .int a1), (2, .int a2)]) hx hb dX2_total_1 rfl hl (by decide) rfl (fun ls hl => ?_)
  refine lv_iload_n hx hb dX2_total_2 rfl (lv_at hl 2 rfl) ?_
  refine lv_istore (lv' := [(4, .int a1), (3, .int 0), (0, .ref (ad 1)), (1, .int a1), (2, .int a2)]) hx hb dX2_total_3 hl (by decide) rfl (fun ls hl => ?_)
  refine lv_iload_n hx hb dX2_total_5 rfl (lv_at hl 4 rfl) ?_
  refine lv_istore (lv' := [(5, .int a2), (4, .int a1), (3, .int 0), (0, .ref (ad 1)), (1, .int a1), (2, .int a2)]) hx hb dX2_total_6 hl (by decide) rfl (fun ls hl => ?_)
  refine lv_iconst (v := 1) hx hb dX2_total_8 (by decide) ?_
  refine lv_istore (lv' := [(6, .int 1), (5, .int a2), (4, .int a1), (3, .int 0), (0, .ref (ad 1)), (1, .int a1), (2, .int a2)]) hx hb dX2_total_9 hl (by decide) rfl (fun ls hl => ?_)
  refine lv_iconst (v := 0) hx hb dX2_total_11 (by decide) ?_
  refine lv_istore (lv' := [(7, .int 0), (6, .int 1), (5, .int a2), (4, .int a1), (3, .int 0), (0, .ref (ad 1)), (1, .int a1), (2, .int a2)]) hx hb dX2_total_12 hl (by decide) rfl (fun ls hl => ?_)
  obtain ⟨n11, h⟩ := h
  refine w_X2_total_L14 hL X _ _ (fun v12 u13 H locs ls h hP hS hl => ?_) n11 0 a1 a2 1 0 _ _ _ _ h hP hS (lv_sub hl [5, 4, 3, 2, 1, 0] rfl)
  refine lv_iload_n hx hb dX2_total_86 rfl (lv_at hl 0 rfl) ?_
  exact W.iret (v := v12) hx hb hr (fun t ht hW => ⟨⟨_, _, rfl, h, by show va_P _ _ _ t.heap; rw [ht]; exact hP⟩, hS.F ht⟩) hS.2.2 dX2_total_87
set_option maxRecDepth 100000 in
set_option maxHeartbeats 4000000 in
theorem c_X2_total {l : Launch} {D : va_G} {cI cG cZ cJ : ClassId} {ts : Nat × Nat} {L : List Nat} {ad : Nat → Nat} {al : Nat} (hL : Lf L al) (hwd : WD L ad) (sz : Nat) (u : St) (a1 : Int32) (a2 : Int32) (Q : Int32 → St → Prop) (h : f_X2_total al a1 a2 u Q) : Met l yX2_total wsX2_total ({ frames := 0, cells := 0, slots := 0, locals := 0 }) (va_Pc [.ref (ad 1), .int a1, .int a2] (PC D cI cG cZ cJ ts L ad al sz u)) (va_Qi Q (fun u9 t => va_P D vwCl (cW cI cG L ad al u9) t.heap) (cA L ad sz)) 0 0 (cA L ad sz) := by
  refine Met.ofW (cc := cX2_total) (maxL := 8) (ret := (some .int)) (by decide) rfl ?_
  intro p e s m args below meth c s₁ B hml hv
  obtain ⟨rfl, hsz, hP, hC⟩ := hv
  subst hsz
  have X : FX RX2 wsX2_total cX2_total 8 (some .int) D cI cG cZ cJ ts L ad p s m _ meth c := ⟨B.exec, B.bytes, hml, findClass_of_methodNamed B.named, atoms_spec (ws := wsX2_total) B.pre, B.returns, B.notSynchronized, hwd, hC⟩
  have hl := lv_entry ([.ref (ad 1), .int a1, .int a2]) (n := 8) (Nat.le_of_ble_eq_true rfl)
  rw [lg_entry_eq]
  generalize (lg_sl ([.ref (ad 1), .int a1, .int a2]) ++ List.replicate (8 - (lg_sl ([.ref (ad 1), .int a1, .int a2])).length) Slot.unset).toArray = ls at hl ⊢
  exact w_X2_total hL X a1 a2 Q u _ _ _ h hP va_S.rf hl
set_option maxRecDepth 100000 in
set_option maxHeartbeats 4000000 in
theorem w_X5_sumOfCodes_L4 {p : Program} {l : Launch} {e : Env} {s : State} {m : MethodId} {args : Array Value} {below : List Frame} {meth : Method} {c : Code} {D : va_G} {cI cG cZ cJ : ClassId} {ts : Nat × Nat} {L : List Nat} {ad : Nat → Nat} {al : Nat} (hL : Lf L al) (X : FX RX5 wsX5_sumOfCodes cX5_sumOfCodes 3 (some .int) D cI cG cZ cJ ts L ad p s m args meth c)  (Q : Int32 → St → Prop)
    (K0 : Int32 → St → Prop) (hk0 : ∀ (b1 : Int32) (u : St) (H : Heap) (locs : List Loc) (ls : Array Slot), K0 b1 u → va_P D vwCl (cW cI cG L ad al u) H → va_S (cA L ad s.heap.size) s.heap H locs → lv_has ls 3 [(1, .int b1)] → W p l e (headSpec wsX5_sumOfCodes { frames := 1, cells := 0, slots := 0, locals := 27 }).room s m args below meth c H locs 0 0 (MQ below (va_Qi Q (fun u9 t => va_P D vwCl (cW cI cG L ad al u9) t.heap) (cA L ad s.heap.size)) args s 0 0 (cA L ad s.heap.size)) (F0 m 38 ls []))
    : ∀ (n : Nat) (a1 : Int32) (a2 : Int32) (u : St) (H : Heap) (locs : List Loc) (ls : Array Slot), f_X5_sumOfCodes_L4 al Q K0 n a1 a2 u → va_P D vwCl (cW cI cG L ad al u) H → va_S (cA L ad s.heap.size) s.heap H locs → lv_has ls 3 [(0, .ref (ad 5)), (1, .int a1), (2, .int a2)] → W p l e (headSpec wsX5_sumOfCodes { frames := 1, cells := 0, slots := 0, locals := 27 }).room s m args below meth c H locs 0 0 (MQ below (va_Qi Q (fun u9 t => va_P D vwCl (cW cI cG L ad al u9) t.heap) (cA L ad s.heap.size)) args s 0 0 (cA L ad s.heap.size)) (F0 m 4 ls []) := by
  obtain ⟨hx, hb, hml, hown, hts, hr, hlocks, hwd, hC⟩ := id X
  have hK := hC.1
  have m1 : 1 ∈ L := hL 1 (by omega)
  obtain ⟨i1, hi1⟩ := wL_ix m1
  have m4 : 4 ∈ L := hL 4 (by omega)
  obtain ⟨i4, hi4⟩ := wL_ix m4
  have m5 : 5 ∈ L := hL 5 (by omega)
  obtain ⟨i5, hi5⟩ := wL_ix m5
  have m18 : 18 ∈ L := hL 18 (by omega)
  obtain ⟨i18, hi18⟩ := wL_ix m18
  have lk0 := hts (.fieldLink RX5 44 "FormForge$Walk" "count" "I") (by decide +kernel)
  have lk1 := hts (.fieldLink RX5 27 "FormForge$Walk" "group" "LFormForge$Group;") (by decide +kernel)
  have lk2 := hts (.fieldLink RX5 79 "FormForge$Group" "field" "LFormForge$Field;") (by decide +kernel)
  have lk3 := hts (.fieldLink RX5 15 "FormForge$Walk" "reached" "[I") (by decide +kernel)
  have lk4 := hts (.initialized RX6) (by decide +kernel)
  have lk5 := hts (.static yX6_read) (by decide +kernel)
  have n4 : ∀ w ∈ wsX40, w ∈ wsX5_sumOfCodes := by decide +kernel
  have n5 : ∀ w ∈ wsX50, w ∈ wsX5_sumOfCodes := by decide +kernel
  have hN4 := hC.2.1 _ (List.mem_of_getElem? (i := 4) rfl)
  intro n
  induction n with
  | zero =>
    intro a1 a2 u H locs ls h; exact h.elim
  | succ n ih =>
    intro a1 a2 u H locs ls h hP hS hl
    replace h : f_X5_sumOfCodes_L4_s al Q K0 (f_X5_sumOfCodes_L4 al Q K0 n) a1 a2 u := h
    unfold f_X5_sumOfCodes_L4_s at h
    refine lv_iload_n hx hb dX5_sumOfCodes_4 rfl (lv_at hl 2 rfl) ?_
    refine lv_aload_n hx hb dX5_sumOfCodes_5 rfl (lv_at hl 0 rfl) ?_
    refine va_get (C := RX5) (T := TX5) (N := 7) hx hb hts n5 hown hK hP i5 (cg_5 hi5) rfl 6 (by decide) lk0 (fun _ h9 => h9) rfl dX5_sumOfCodes_6 ?_
    refine lv_icmp_ge (tgt := 38) hx hb dX5_sumOfCodes_9 (by decide) (fun c1 => ?_) (fun c1 => ?_)
    · replace h := h.1 c1
      exact hk0 a1 _ _ _ _ h hP hS (lv_sub hl [1] rfl)
    · replace h := h.2 c1
      refine lv_aload_n hx hb dX5_sumOfCodes_12 rfl (lv_at hl 0 rfl) ?_
      refine va_get (C := RX5) (T := TX5) (N := 7) hx hb hts n5 hown hK hP i5 (cg_5 hi5) rfl 0 (by decide) lk1 (fun _ h9 => h9) rfl dX5_sumOfCodes_13 ?_
      refine va_get (C := RX4) (T := TX4) (N := 6) hx hb hts n4 hown hK hP i4 (cg_4 hi4) rfl 0 (by decide) lk2 (fun _ h9 => h9) rfl dX5_sumOfCodes_16 ?_
      refine lv_iload_n hx hb dX5_sumOfCodes_19 rfl (lv_at hl 1 rfl) ?_
      refine lv_aload_n hx hb dX5_sumOfCodes_20 rfl (lv_at hl 0 rfl) ?_
      refine va_get (C := RX5) (T := TX5) (N := 7) hx hb hts n5 hown hK hP i5 (cg_5 hi5) rfl 2 (by decide) lk3 (fun _ h9 => h9) rfl dX5_sumOfCodes_21 ?_
      refine lv_iload_n hx hb dX5_sumOfCodes_24 rfl (lv_at hl 2 rfl) ?_
      refine cc_i (va_runSN (As := [.ref (ad 18), .int a2]) (rest := [.int a1, .ref (ad 1)]) ⟨hx, hb, hml, hown, hts⟩ (c_X6_read hL.g (Or.inl ⟨by decide, by decide⟩) m18 hwd H.size u a2 _ h) ⟨va_cnB (host := RX6) 2 hts gX5_sumOfCodes_X6_read_n52 rfl rfl rfl hN4 lk4 (by decide +kernel) ⟨Nat.le_of_ble_eq_true rfl, Nat.le_of_ble_eq_true rfl⟩, lk5, trivial⟩ (pcS hC hP hS) rfl rfl hl.1 rfl (lv_room (Nat.le_of_ble_eq_true rfl)) dX5_sumOfCodes_25 ⟨Nat.zero_le _, Nat.zero_le _⟩) hS (cA_mono hS.1) (fun v2 u3 H locs h hP hS => ?_)
      refine cc_i (va_runV (C := RX2) (As := [.int a1, .int v2]) (rest := []) ⟨hx, hb, hml, hown, hts⟩ (c_X2_total hL hwd H.size u3 a1 v2 _ h) (cwV 2 hts gX5_sumOfCodes_X2_total rfl rfl rfl (by decide +kernel) ⟨Nat.le_of_ble_eq_true rfl, Nat.le_of_ble_eq_true rfl⟩) (pcV hC hP hS (cg_1 hi1) rfl) rfl rfl hl.1 rfl (lv_room (Nat.le_of_ble_eq_true rfl)) dX5_sumOfCodes_28 ⟨Nat.zero_le _, Nat.zero_le _⟩) hS (cA_mono hS.1) (fun v4 u5 H locs h hP hS => ?_)
      refine lv_istore_n (lv' := [(1, .int v4), (0, .ref (ad 5)), (2, .int a2)]) hx hb dX5_sumOfCodes_31 rfl hl (by decide) rfl (fun ls hl => ?_)
      obtain ⟨v6, ev6⟩ : ∃ y : Int32, y = a2 + 1 := ⟨_, rfl⟩
      refine lv_iinc (v := v6) (lv' := [(2, .int v6), (1, .int v4), (0, .ref (ad 5))]) hx hb dX5_sumOfCodes_32 hl (k := 2) rfl (by rw [ev6]; rfl) (by decide) rfl (fun ls hl => ?_)
      replace h := h v6 ev6
      refine lv_goto (tgt := 4) hx hb dX5_sumOfCodes_35 (by decide) ?_
      exact ih v4 v6 _ _ _ _ h hP hS (lv_sub hl [2, 1, 0] rfl)
set_option maxRecDepth 100000 in
set_option maxHeartbeats 4000000 in
theorem w_X5_sumOfCodes {p : Program} {l : Launch} {e : Env} {s : State} {m : MethodId} {args : Array Value} {below : List Frame} {meth : Method} {c : Code} {D : va_G} {cI cG cZ cJ : ClassId} {ts : Nat × Nat} {L : List Nat} {ad : Nat → Nat} {al : Nat} (hL : Lf L al) (X : FX RX5 wsX5_sumOfCodes cX5_sumOfCodes 3 (some .int) D cI cG cZ cJ ts L ad p s m args meth c)  (Q : Int32 → St → Prop) (u : St) (H : Heap) (locs : List Loc) (ls : Array Slot) (h : f_X5_sumOfCodes al u Q) (hP : va_P D vwCl (cW cI cG L ad al u) H) (hS : va_S (cA L ad s.heap.size) s.heap H locs) (hl : lv_has ls 3 [(0, .ref (ad 5))]) : W p l e (headSpec wsX5_sumOfCodes { frames := 1, cells := 0, slots := 0, locals := 27 }).room s m args below meth c H locs 0 0 (MQ below (va_Qi Q (fun u9 t => va_P D vwCl (cW cI cG L ad al u9) t.heap) (cA L ad s.heap.size)) args s 0 0 (cA L ad s.heap.size)) (F0 m 0 ls []) := by
  obtain ⟨hx, hb, hml, hown, hts, hr, hlocks, hwd, hC⟩ := id X
  have hK := hC.1
  have m1 : 1 ∈ L := hL 1 (by omega)
  obtain ⟨i1, hi1⟩ := wL_ix m1
  have m4 : 4 ∈ L := hL 4 (by omega)
  obtain ⟨i4, hi4⟩ := wL_ix m4
  have m5 : 5 ∈ L := hL 5 (by omega)
  obtain ⟨i5, hi5⟩ := wL_ix m5
  have m18 : 18 ∈ L := hL 18 (by omega)
  obtain ⟨i18, hi18⟩ := wL_ix m18
  have lk0 := hts (.fieldLink RX5 44 "FormForge$Walk" "count" "I") (by decide +kernel)
  have lk1 := hts (.fieldLink RX5 27 "FormForge$Walk" "group" "LFormForge$Group;") (by decide +kernel)
  have lk2 := hts (.fieldLink RX5 79 "FormForge$Group" "field" "LFormForge$Field;") (by decide +kernel)
  have lk3 := hts (.fieldLink RX5 15 "FormForge$Walk" "reached" "[I") (by decide +kernel)
  have lk4 := hts (.initialized RX6) (by decide +kernel)
  have lk5 := hts (.static yX6_read) (by decide +kernel)
  have n4 : ∀ w ∈ wsX40, w ∈ wsX5_sumOfCodes := by decide +kernel
  have n5 : ∀ w ∈ wsX50, w ∈ wsX5_sumOfCodes := by decide +kernel
  have hN4 := hC.2.1 _ (List.mem_of_getElem? (i := 4) rfl)
  unfold f_X5_sumOfCodes at h
  refine lv_iconst (v := 0) hx hb dX5_sumOfCodes_0 (by decide) ?_
  refine lv_istore_n (lv' := [(1, .int 0), (0, .ref (ad 5))]) hx hb dX5_sumOfCodes_1 rfl hl (by decide) rfl (fun ls hl => ?_)
  refine lv_iconst (v := 0) hx hb dX5_sumOfCodes_2 (by decide) ?_
  refine lv_istore_n (lv' := [(2, .int 0), (1, .int 0), (0, .ref (ad 5))]) hx hb dX5_sumOfCodes_3 rfl hl (by decide) rfl (fun ls hl => ?_)
  obtain ⟨n7, h⟩ := h
  refine w_X5_sumOfCodes_L4 hL X _ _ (fun v8 u9 H locs ls h hP hS hl => ?_) n7 0 0 _ _ _ _ h hP hS (lv_sub hl [2, 1, 0] rfl)
  refine lv_iload_n hx hb dX5_sumOfCodes_38 rfl (lv_at hl 0 rfl) ?_
  exact W.iret (v := v8) hx hb hr (fun t ht hW => ⟨⟨_, _, rfl, h, by show va_P _ _ _ t.heap; rw [ht]; exact hP⟩, hS.F ht⟩) hS.2.2 dX5_sumOfCodes_39
set_option maxRecDepth 100000 in
set_option maxHeartbeats 4000000 in
theorem c_X5_sumOfCodes {l : Launch} {D : va_G} {cI cG cZ cJ : ClassId} {ts : Nat × Nat} {L : List Nat} {ad : Nat → Nat} {al : Nat} (hL : Lf L al) (hwd : WD L ad) (sz : Nat) (u : St) (Q : Int32 → St → Prop) (h : f_X5_sumOfCodes al u Q) : Met l yX5_sumOfCodes wsX5_sumOfCodes ({ frames := 1, cells := 0, slots := 0, locals := 27 }) (va_Pc [.ref (ad 5)] (PC D cI cG cZ cJ ts L ad al sz u)) (va_Qi Q (fun u9 t => va_P D vwCl (cW cI cG L ad al u9) t.heap) (cA L ad sz)) 0 0 (cA L ad sz) := by
  refine Met.ofW (cc := cX5_sumOfCodes) (maxL := 3) (ret := (some .int)) (by decide) rfl ?_
  intro p e s m args below meth c s₁ B hml hv
  obtain ⟨rfl, hsz, hP, hC⟩ := hv
  subst hsz
  have X : FX RX5 wsX5_sumOfCodes cX5_sumOfCodes 3 (some .int) D cI cG cZ cJ ts L ad p s m _ meth c := ⟨B.exec, B.bytes, hml, findClass_of_methodNamed B.named, atoms_spec (ws := wsX5_sumOfCodes) B.pre, B.returns, B.notSynchronized, hwd, hC⟩
  have hl := lv_entry ([.ref (ad 5)]) (n := 3) (Nat.le_of_ble_eq_true rfl)
  rw [lg_entry_eq]
  generalize (lg_sl ([.ref (ad 5)]) ++ List.replicate (3 - (lg_sl ([.ref (ad 5)])).length) Slot.unset).toArray = ls at hl ⊢
  exact w_X5_sumOfCodes hL X Q u _ _ _ h hP va_S.rf hl
set_option maxRecDepth 100000 in
set_option maxHeartbeats 4000000 in
theorem w_X2_multiple_L5 {p : Program} {l : Launch} {e : Env} {s : State} {m : MethodId} {args : Array Value} {below : List Frame} {meth : Method} {c : Code} {D : va_G} {cI cG cZ cJ : ClassId} {ts : Nat × Nat} {L : List Nat} {ad : Nat → Nat} {al : Nat} (hL : Lf L al) (X : FX RX2 wsX2_multiple cX2_multiple 5 (some .int) D cI cG cZ cJ ts L ad p s m args meth c) (a1 : Int32) (a2 : Int32) (Q : Int32 → St → Prop)
    (K0 : Int32 → St → Prop) (hk0 : ∀ (b3 : Int32) (u : St) (H : Heap) (locs : List Loc) (ls : Array Slot), K0 b3 u → va_P D vwCl (cW cI cG L ad al u) H → va_S (cA L ad s.heap.size) s.heap H locs → lv_has ls 5 [(3, .int b3)] → W p l e (headSpec wsX2_multiple { frames := 1, cells := 0, slots := 0, locals := 27 }).room s m args below meth c H locs 0 0 (MQ below (va_Qi Q (fun u9 t => va_P D vwCl (cW cI cG L ad al u9) t.heap) (cA L ad s.heap.size)) args s 0 0 (cA L ad s.heap.size)) (F0 m 24 ls []))
    : ∀ (n : Nat) (a3 : Int32) (a4 : Int32) (u : St) (H : Heap) (locs : List Loc) (ls : Array Slot), f_X2_multiple_L5 al a1 a2 Q K0 n a3 a4 u → va_P D vwCl (cW cI cG L ad al u) H → va_S (cA L ad s.heap.size) s.heap H locs → lv_has ls 5 [(0, .ref (ad 1)), (1, .int a1), (2, .int a2), (3, .int a3), (4, .int a4)] → W p l e (headSpec wsX2_multiple { frames := 1, cells := 0, slots := 0, locals := 27 }).room s m args below meth c H locs 0 0 (MQ below (va_Qi Q (fun u9 t => va_P D vwCl (cW cI cG L ad al u9) t.heap) (cA L ad s.heap.size)) args s 0 0 (cA L ad s.heap.size)) (F0 m 5 ls []) := by
  obtain ⟨hx, hb, hml, hown, hts, hr, hlocks, hwd, hC⟩ := id X
  have hK := hC.1
  have m1 : 1 ∈ L := hL 1 (by omega)
  obtain ⟨i1, hi1⟩ := wL_ix m1
  intro n
  induction n with
  | zero =>
    intro a3 a4 u H locs ls h; exact h.elim
  | succ n ih =>
    intro a3 a4 u H locs ls h hP hS hl
    replace h : f_X2_multiple_L5_s al a1 a2 Q K0 (f_X2_multiple_L5 al a1 a2 Q K0 n) a3 a4 u := h
    unfold f_X2_multiple_L5_s at h
    refine lv_iload hx hb dX2_multiple_5 (lv_at hl 4 rfl) ?_
    refine lv_iload_n hx hb dX2_multiple_7 rfl (lv_at hl 2 rfl) ?_
    refine lv_icmp_ge (tgt := 24) hx hb dX2_multiple_8 (by decide) (fun c1 => ?_) (fun c1 => ?_)
    · replace h := h.1 c1
      exact hk0 a3 _ _ _ _ h hP hS (lv_sub hl [3] rfl)
    · replace h := h.2 c1
      refine lv_aload_n hx hb dX2_multiple_11 rfl (lv_at hl 0 rfl) ?_
      refine lv_iload_n hx hb dX2_multiple_12 rfl (lv_at hl 3 rfl) ?_
      refine lv_iload_n hx hb dX2_multiple_13 rfl (lv_at hl 1 rfl) ?_
      refine cc_i (va_runV (C := RX2) (As := [.int a3, .int a1]) (rest := []) ⟨hx, hb, hml, hown, hts⟩ (c_X2_total hL hwd H.size u a3 a1 _ h) (cwV 2 hts gX2_multiple_X2_total rfl rfl rfl (by decide +kernel) ⟨Nat.le_of_ble_eq_true rfl, Nat.le_of_ble_eq_true rfl⟩) (pcV hC hP hS (cg_1 hi1) rfl) rfl rfl hl.1 rfl (lv_room (Nat.le_of_ble_eq_true rfl)) dX2_multiple_14 ⟨Nat.zero_le _, Nat.zero_le _⟩) hS (cA_mono hS.1) (fun v2 u3 H locs h hP hS => ?_)
      refine lv_istore_n (lv' := [(3, .int v2), (0, .ref (ad 1)), (1, .int a1), (2, .int a2), (4, .int a4)]) hx hb dX2_multiple_17 rfl hl (by decide) rfl (fun ls hl => ?_)
      obtain ⟨v4, ev4⟩ : ∃ y : Int32, y = a4 + 1 := ⟨_, rfl⟩
      refine lv_iinc (v := v4) (lv' := [(4, .int v4), (3, .int v2), (0, .ref (ad 1)), (1, .int a1), (2, .int a2)]) hx hb dX2_multiple_18 hl (k := 4) rfl (by rw [ev4]; rfl) (by decide) rfl (fun ls hl => ?_)
      replace h := h v4 ev4
      refine lv_goto (tgt := 5) hx hb dX2_multiple_21 (by decide) ?_
      exact ih v2 v4 _ _ _ _ h hP hS (lv_sub hl [2, 3, 4, 1, 0] rfl)
set_option maxRecDepth 100000 in
set_option maxHeartbeats 4000000 in
theorem w_X2_multiple {p : Program} {l : Launch} {e : Env} {s : State} {m : MethodId} {args : Array Value} {below : List Frame} {meth : Method} {c : Code} {D : va_G} {cI cG cZ cJ : ClassId} {ts : Nat × Nat} {L : List Nat} {ad : Nat → Nat} {al : Nat} (hL : Lf L al) (X : FX RX2 wsX2_multiple cX2_multiple 5 (some .int) D cI cG cZ cJ ts L ad p s m args meth c) (a1 : Int32) (a2 : Int32) (Q : Int32 → St → Prop) (u : St) (H : Heap) (locs : List Loc) (ls : Array Slot) (h : f_X2_multiple al a1 a2 u Q) (hP : va_P D vwCl (cW cI cG L ad al u) H) (hS : va_S (cA L ad s.heap.size) s.heap H locs) (hl : lv_has ls 5 [(0, .ref (ad 1)), (1, .int a1), (2, .int a2)]) : W p l e (headSpec wsX2_multiple { frames := 1, cells := 0, slots := 0, locals := 27 }).room s m args below meth c H locs 0 0 (MQ below (va_Qi Q (fun u9 t => va_P D vwCl (cW cI cG L ad al u9) t.heap) (cA L ad s.heap.size)) args s 0 0 (cA L ad s.heap.size)) (F0 m 0 ls []) := by
  obtain ⟨hx, hb, hml, hown, hts, hr, hlocks, hwd, hC⟩ := id X
  have hK := hC.1
  have m1 : 1 ∈ L := hL 1 (by omega)
  obtain ⟨i1, hi1⟩ := wL_ix m1
  unfold f_X2_multiple at h
  refine lv_iconst (v := 0) hx hb dX2_multiple_0 (by decide) ?_
  refine lv_istore_n (lv' := [(3, .int 0), (0, .ref (ad 1)), (1, .int a1), (2, .int a2)]) hx hb dX2_multiple_1 rfl hl (by decide) rfl (fun ls hl => ?_)
  refine lv_iconst (v := 0) hx hb dX2_multiple_2 (by decide) ?_
  refine lv_istore (lv' := [(4, .int 0), (3, .int 0), (0, .ref (ad 1)), (1, .int a1), (2, .int a2)]) hx hb dX2_multiple_3 hl (by decide) rfl (fun ls hl => ?_)
  obtain ⟨n5, h⟩ := h
  refine w_X2_multiple_L5 hL X a1 a2 _ _ (fun v6 u7 H locs ls h hP hS hl => ?_) n5 0 0 _ _ _ _ h hP hS (lv_sub hl [2, 3, 4, 1, 0] rfl)
  refine lv_iload_n hx hb dX2_multiple_24 rfl (lv_at hl 0 rfl) ?_
  exact W.iret (v := v6) hx hb hr (fun t ht hW => ⟨⟨_, _, rfl, h, by show va_P _ _ _ t.heap; rw [ht]; exact hP⟩, hS.F ht⟩) hS.2.2 dX2_multiple_25
set_option maxRecDepth 100000 in
set_option maxHeartbeats 4000000 in
theorem c_X2_multiple {l : Launch} {D : va_G} {cI cG cZ cJ : ClassId} {ts : Nat × Nat} {L : List Nat} {ad : Nat → Nat} {al : Nat} (hL : Lf L al) (hwd : WD L ad) (sz : Nat) (u : St) (a1 : Int32) (a2 : Int32) (Q : Int32 → St → Prop) (h : f_X2_multiple al a1 a2 u Q) : Met l yX2_multiple wsX2_multiple ({ frames := 1, cells := 0, slots := 0, locals := 27 }) (va_Pc [.ref (ad 1), .int a1, .int a2] (PC D cI cG cZ cJ ts L ad al sz u)) (va_Qi Q (fun u9 t => va_P D vwCl (cW cI cG L ad al u9) t.heap) (cA L ad sz)) 0 0 (cA L ad sz) := by
  refine Met.ofW (cc := cX2_multiple) (maxL := 5) (ret := (some .int)) (by decide) rfl ?_
  intro p e s m args below meth c s₁ B hml hv
  obtain ⟨rfl, hsz, hP, hC⟩ := hv
  subst hsz
  have X : FX RX2 wsX2_multiple cX2_multiple 5 (some .int) D cI cG cZ cJ ts L ad p s m _ meth c := ⟨B.exec, B.bytes, hml, findClass_of_methodNamed B.named, atoms_spec (ws := wsX2_multiple) B.pre, B.returns, B.notSynchronized, hwd, hC⟩
  have hl := lv_entry ([.ref (ad 1), .int a1, .int a2]) (n := 5) (Nat.le_of_ble_eq_true rfl)
  rw [lg_entry_eq]
  generalize (lg_sl ([.ref (ad 1), .int a1, .int a2]) ++ List.replicate (5 - (lg_sl ([.ref (ad 1), .int a1, .int a2])).length) Slot.unset).toArray = ls at hl ⊢
  exact w_X2_multiple hL X a1 a2 Q u _ _ _ h hP va_S.rf hl
set_option maxRecDepth 100000 in
set_option maxHeartbeats 4000000 in
theorem w_X1_begin {p : Program} {l : Launch} {e : Env} {s : State} {m : MethodId} {args : Array Value} {below : List Frame} {meth : Method} {c : Code} {D : va_G} {cI cG cZ cJ : ClassId} {ts : Nat × Nat} {L : List Nat} {ad : Nat → Nat} {al : Nat} (hL : Lf L al) (X : FX RX1 wsX1_begin cX1_begin 2 none D cI cG cZ cJ ts L ad p s m args meth c) (a1 : Int32) (Q : St → Prop) (u : St) (H : Heap) (locs : List Loc) (ls : Array Slot) (h : f_X1_begin al a1 u Q) (hP : va_P D vwCl (cW cI cG L ad al u) H) (hS : va_S (cA L ad s.heap.size) s.heap H locs) (hl : lv_has ls 2 [(0, .ref (ad 3)), (1, .int a1)]) : W p l e (headSpec wsX1_begin { frames := 0, cells := 0, slots := 0, locals := 0 }).room s m args below meth c H locs 0 0 (MQ below (va_Qv Q (fun u9 t => va_P D vwCl (cW cI cG L ad al u9) t.heap) (cA L ad s.heap.size)) args s 0 0 (cA L ad s.heap.size)) (F0 m 0 ls []) := by
  obtain ⟨hx, hb, hml, hown, hts, hr, hlocks, hwd, hC⟩ := id X
  have hK := hC.1
  have m3 : 3 ∈ L := hL 3 (by omega)
  obtain ⟨i3, hi3⟩ := wL_ix m3
  have lk0 := hts (.fieldLink RX1 19 "FormForge$Equations" "unknowns" "I") (by decide +kernel)
  have lk1 := hts (.fieldLink RX1 23 "FormForge$Equations" "count" "I") (by decide +kernel)
  have n1 : ∀ w ∈ wsX10, w ∈ wsX1_begin := by decide +kernel
  unfold f_X1_begin at h
  refine lv_aload_n hx hb dX1_begin_0 rfl (lv_at hl 0 rfl) ?_
  refine lv_iload_n hx hb dX1_begin_1 rfl (lv_at hl 1 rfl) ?_
  refine va_put (C := RX1) (T := TX1) (N := 4) (ty := .int) (v := .int a1) hx hb hts n1 tyX1 tyX1_ok nmX1 hown hK hP (cD hwd) hS i3 (cg_3 hi3) rfl 2 (by decide) lk0 (fun _ h9 => h9) rfl (by decide +kernel) rfl rfl (Nat.le_of_ble_eq_true rfl) dX1_begin_2 (fun H locs hP _ hS => ?_)
  replace hP := cu_unk hwd hi3 hP
  obtain ⟨u1, eu1⟩ : ∃ y : St, y = su u 0 2 a1 := ⟨_, rfl⟩
  rw [← eu1] at hP
  replace h := h u1 eu1
  refine lv_aload_n hx hb dX1_begin_5 rfl (lv_at hl 0 rfl) ?_
  refine lv_iconst (v := 0) hx hb dX1_begin_6 (by decide) ?_
  refine va_put (C := RX1) (T := TX1) (N := 4) (ty := .int) (v := .int 0) hx hb hts n1 tyX1 tyX1_ok nmX1 hown hK hP (cD hwd) hS i3 (cg_3 hi3) rfl 3 (by decide) lk1 (fun _ h9 => h9) rfl (by decide +kernel) rfl rfl (Nat.le_of_ble_eq_true rfl) dX1_begin_7 (fun H locs hP _ hS => ?_)
  replace hP := cu_ecnt hwd hi3 hP
  obtain ⟨u2, eu2⟩ : ∃ y : St, y = su u1 0 3 0 := ⟨_, rfl⟩
  rw [← eu2] at hP
  replace h := h u2 eu2
  exact W.vret hx hb hr (fun t ht hW => ⟨⟨_, rfl, h, by show va_P _ _ _ t.heap; rw [ht]; exact hP⟩, hS.F ht⟩) hS.2.2 dX1_begin_10
set_option maxRecDepth 100000 in
set_option maxHeartbeats 4000000 in
theorem c_X1_begin {l : Launch} {D : va_G} {cI cG cZ cJ : ClassId} {ts : Nat × Nat} {L : List Nat} {ad : Nat → Nat} {al : Nat} (hL : Lf L al) (hwd : WD L ad) (sz : Nat) (u : St) (a1 : Int32) (Q : St → Prop) (h : f_X1_begin al a1 u Q) : Met l yX1_begin wsX1_begin ({ frames := 0, cells := 0, slots := 0, locals := 0 }) (va_Pc [.ref (ad 3), .int a1] (PC D cI cG cZ cJ ts L ad al sz u)) (va_Qv Q (fun u9 t => va_P D vwCl (cW cI cG L ad al u9) t.heap) (cA L ad sz)) 0 0 (cA L ad sz) := by
  refine Met.ofW (cc := cX1_begin) (maxL := 2) (ret := none) (by decide) rfl ?_
  intro p e s m args below meth c s₁ B hml hv
  obtain ⟨rfl, hsz, hP, hC⟩ := hv
  subst hsz
  have X : FX RX1 wsX1_begin cX1_begin 2 none D cI cG cZ cJ ts L ad p s m _ meth c := ⟨B.exec, B.bytes, hml, findClass_of_methodNamed B.named, atoms_spec (ws := wsX1_begin) B.pre, B.returns, B.notSynchronized, hwd, hC⟩
  have hl := lv_entry ([.ref (ad 3), .int a1]) (n := 2) (Nat.le_of_ble_eq_true rfl)
  rw [lg_entry_eq]
  generalize (lg_sl ([.ref (ad 3), .int a1]) ++ List.replicate (2 - (lg_sl ([.ref (ad 3), .int a1])).length) Slot.unset).toArray = ls at hl ⊢
  exact w_X1_begin hL X a1 Q u _ _ _ h hP va_S.rf hl
set_option maxRecDepth 100000 in
set_option maxHeartbeats 4000000 in
theorem w_X0_cell {p : Program} {l : Launch} {e : Env} {s : State} {m : MethodId} {args : Array Value} {below : List Frame} {meth : Method} {c : Code} {D : va_G} {cI cG cZ cJ : ClassId} {ts : Nat × Nat} {L : List Nat} {ad : Nat → Nat} {al : Nat} (hL : Lf L al) (X : FX RX0 wsX0_cell cX0_cell 3 (some .int) D cI cG cZ cJ ts L ad p s m args meth c) (a1 : Int32) (a2 : Int32) (Q : Int32 → St → Prop) (u : St) (H : Heap) (locs : List Loc) (ls : Array Slot) (h : f_X0_cell al a1 a2 u Q) (hP : va_P D vwCl (cW cI cG L ad al u) H) (hS : va_S (cA L ad s.heap.size) s.heap H locs) (hl : lv_has ls 3 [(0, .ref (ad 2)), (1, .int a1), (2, .int a2)]) : W p l e (headSpec wsX0_cell { frames := 1, cells := 0, slots := 0, locals := 21 }).room s m args below meth c H locs 0 0 (MQ below (va_Qi Q (fun u9 t => va_P D vwCl (cW cI cG L ad al u9) t.heap) (cA L ad s.heap.size)) args s 0 0 (cA L ad s.heap.size)) (F0 m 0 ls []) := by
  obtain ⟨hx, hb, hml, hown, hts, hr, hlocks, hwd, hC⟩ := id X
  have hK := hC.1
  have m2 : 2 ∈ L := hL 2 (by omega)
  obtain ⟨i2, hi2⟩ := wL_ix m2
  have m13 : 13 ∈ L := hL 13 (by omega)
  obtain ⟨i13, hi13⟩ := wL_ix m13
  have lk0 := hts (.fieldLink RX0 9 "FormForge$Columns" "cells" "[I") (by decide +kernel)
  have lk1 := hts (.initialized RX6) (by decide +kernel)
  have lk2 := hts (.static yX6_read) (by decide +kernel)
  have n0 : ∀ w ∈ wsX00, w ∈ wsX0_cell := by decide +kernel
  have hN8 := hC.2.1 _ (List.mem_of_getElem? (i := 8) rfl)
  unfold f_X0_cell at h
  refine lv_aload_n hx hb dX0_cell_0 rfl (lv_at hl 0 rfl) ?_
  refine va_get (C := RX0) (T := TX0) (N := 3) hx hb hts n0 hown hK hP i2 (cg_2 hi2) rfl 1 (by decide) lk0 (fun _ h9 => h9) rfl dX0_cell_1 ?_
  refine lv_iload_n hx hb dX0_cell_4 rfl (lv_at hl 1 rfl) ?_
  refine lv_iconst (v := 5) hx hb dX0_cell_5 (by decide) ?_
  refine lv_imul hx hb dX0_cell_6 ?_
  refine lv_iload_n hx hb dX0_cell_7 rfl (lv_at hl 2 rfl) ?_
  refine lv_iadd hx hb dX0_cell_8 ?_
  refine cc_i (va_runSN (As := [.ref (ad 13), .int ((a1 * 5) + a2)]) (rest := []) ⟨hx, hb, hml, hown, hts⟩ (c_X6_read hL.g (Or.inl ⟨by decide, by decide⟩) m13 hwd H.size u ((a1 * 5) + a2) _ h) ⟨va_cnB (host := RX6) 2 hts gX0_cell_X6_read_n19 rfl rfl rfl hN8 lk1 (by decide +kernel) ⟨Nat.le_of_ble_eq_true rfl, Nat.le_of_ble_eq_true rfl⟩, lk2, trivial⟩ (pcS hC hP hS) rfl rfl hl.1 rfl (lv_room (Nat.le_of_ble_eq_true rfl)) dX0_cell_9 ⟨Nat.zero_le _, Nat.zero_le _⟩) hS (cA_mono hS.1) (fun v1 u2 H locs h hP hS => ?_)
  exact W.iret (v := v1) hx hb hr (fun t ht hW => ⟨⟨_, _, rfl, h, by show va_P _ _ _ t.heap; rw [ht]; exact hP⟩, hS.F ht⟩) hS.2.2 dX0_cell_12
set_option maxRecDepth 100000 in
set_option maxHeartbeats 4000000 in
theorem c_X0_cell {l : Launch} {D : va_G} {cI cG cZ cJ : ClassId} {ts : Nat × Nat} {L : List Nat} {ad : Nat → Nat} {al : Nat} (hL : Lf L al) (hwd : WD L ad) (sz : Nat) (u : St) (a1 : Int32) (a2 : Int32) (Q : Int32 → St → Prop) (h : f_X0_cell al a1 a2 u Q) : Met l yX0_cell wsX0_cell ({ frames := 1, cells := 0, slots := 0, locals := 21 }) (va_Pc [.ref (ad 2), .int a1, .int a2] (PC D cI cG cZ cJ ts L ad al sz u)) (va_Qi Q (fun u9 t => va_P D vwCl (cW cI cG L ad al u9) t.heap) (cA L ad sz)) 0 0 (cA L ad sz) := by
  refine Met.ofW (cc := cX0_cell) (maxL := 3) (ret := (some .int)) (by decide) rfl ?_
  intro p e s m args below meth c s₁ B hml hv
  obtain ⟨rfl, hsz, hP, hC⟩ := hv
  subst hsz
  have X : FX RX0 wsX0_cell cX0_cell 3 (some .int) D cI cG cZ cJ ts L ad p s m _ meth c := ⟨B.exec, B.bytes, hml, findClass_of_methodNamed B.named, atoms_spec (ws := wsX0_cell) B.pre, B.returns, B.notSynchronized, hwd, hC⟩
  have hl := lv_entry ([.ref (ad 2), .int a1, .int a2]) (n := 3) (Nat.le_of_ble_eq_true rfl)
  rw [lg_entry_eq]
  generalize (lg_sl ([.ref (ad 2), .int a1, .int a2]) ++ List.replicate (3 - (lg_sl ([.ref (ad 2), .int a1, .int a2])).length) Slot.unset).toArray = ls at hl ⊢
  exact w_X0_cell hL X a1 a2 Q u _ _ _ h hP va_S.rf hl
set_option maxRecDepth 100000 in
set_option maxHeartbeats 4000000 in
theorem w_X0_multiply_L8 {p : Program} {l : Launch} {e : Env} {s : State} {m : MethodId} {args : Array Value} {below : List Frame} {meth : Method} {c : Code} {D : va_G} {cI cG cZ cJ : ClassId} {ts : Nat × Nat} {L : List Nat} {ad : Nat → Nat} {al : Nat} (hL : Lf L al) (X : FX RX0 wsX0_multiply cX0_multiply 8 none D cI cG cZ cJ ts L ad p s m args meth c) (a1 : Int32) (a2 : Int32) (a3 : Int32) (a4 : Int32) (Q : St → Prop)
    (K0 : St → Prop) (hk0 : ∀ (u : St) (H : Heap) (locs : List Loc) (ls : Array Slot), K0 u → va_P D vwCl (cW cI cG L ad al u) H → va_S (cA L ad s.heap.size) s.heap H locs → lv_has ls 8 [] → W p l e (headSpec wsX0_multiply { frames := 2, cells := 0, slots := 0, locals := 43 }).room s m args below meth c H locs 0 0 (MQ below (va_Qv Q (fun u9 t => va_P D vwCl (cW cI cG L ad al u9) t.heap) (cA L ad s.heap.size)) args s 0 0 (cA L ad s.heap.size)) (F0 m 91 ls []))
    : ∀ (n : Nat) (a5 : Int32) (u : St) (H : Heap) (locs : List Loc) (ls : Array Slot), f_X0_multiply_L8 al a1 a2 a3 a4 Q K0 n a5 u → va_P D vwCl (cW cI cG L ad al u) H → va_S (cA L ad s.heap.size) s.heap H locs → lv_has ls 8 [(0, .ref (ad 2)), (1, .int a1), (2, .int a2), (3, .int a3), (4, .int a4), (5, .int a5)] → W p l e (headSpec wsX0_multiply { frames := 2, cells := 0, slots := 0, locals := 43 }).room s m args below meth c H locs 0 0 (MQ below (va_Qv Q (fun u9 t => va_P D vwCl (cW cI cG L ad al u9) t.heap) (cA L ad s.heap.size)) args s 0 0 (cA L ad s.heap.size)) (F0 m 8 ls []) := by
  obtain ⟨hx, hb, hml, hown, hts, hr, hlocks, hwd, hC⟩ := id X
  have hK := hC.1
  have m1 : 1 ∈ L := hL 1 (by omega)
  obtain ⟨i1, hi1⟩ := wL_ix m1
  have m2 : 2 ∈ L := hL 2 (by omega)
  obtain ⟨i2, hi2⟩ := wL_ix m2
  have m13 : 13 ∈ L := hL 13 (by omega)
  obtain ⟨i13, hi13⟩ := wL_ix m13
  have lk0 := hts (.fieldLink RX0 23 "FormForge$Columns" "degree" "I") (by decide +kernel)
  have lk1 := hts (.fieldLink RX0 9 "FormForge$Columns" "cells" "[I") (by decide +kernel)
  have lk2 := hts (.fieldLink RX0 15 "FormForge$Columns" "field" "LFormForge$Field;") (by decide +kernel)
  have lk3 := hts (.initialized RX6) (by decide +kernel)
  have lk4 := hts (.static yX6_write) (by decide +kernel)
  have n0 : ∀ w ∈ wsX00, w ∈ wsX0_multiply := by decide +kernel
  have hN7 := hC.2.1 _ (List.mem_of_getElem? (i := 7) rfl)
  intro n
  induction n with
  | zero =>
    intro a5 u H locs ls h; exact h.elim
  | succ n ih =>
    intro a5 u H locs ls h hP hS hl
    replace h : f_X0_multiply_L8_s al a1 a2 a3 a4 Q K0 (f_X0_multiply_L8 al a1 a2 a3 a4 Q K0 n) a5 u := h
    unfold f_X0_multiply_L8_s at h
    refine lv_iload hx hb dX0_multiply_8 (lv_at hl 5 rfl) ?_
    refine lv_if_lt (tgt := 91) hx hb dX0_multiply_10 (by decide) (fun c2 => ?_) (fun c2 => ?_)
    · replace h := h.1 c2
      exact hk0  _ _ _ _ h hP hS (lv_sub hl [] rfl)
    · replace h := h.2 c2
      refine lv_iload hx hb dX0_multiply_13 (lv_at hl 5 rfl) ?_
      refine lv_aload_n hx hb dX0_multiply_15 rfl (lv_at hl 0 rfl) ?_
      refine va_get (C := RX0) (T := TX0) (N := 3) hx hb hts n0 hown hK hP i2 (cg_2 hi2) rfl 2 (by decide) lk0 (fun _ h9 => h9) rfl dX0_multiply_16 ?_
      refine lv_icmp_gt (tgt := 34) hx hb dX0_multiply_19 (by decide) (fun c3 => ?_) (fun c3 => ?_)
      · replace h := h.1 c3
        refine lv_iconst (v := 0) hx hb dX0_multiply_34 (by decide) ?_
        refine lv_istore (lv' := [(6, .int 0), (0, .ref (ad 2)), (1, .int a1), (2, .int a2), (3, .int a3), (4, .int a4), (5, .int a5)]) hx hb dX0_multiply_35 hl (by decide) rfl (fun ls hl => ?_)
        refine lv_iload hx hb dX0_multiply_37 (lv_at hl 6 rfl) ?_
        refine lv_if_le (tgt := 57) hx hb dX0_multiply_39 (by decide) (fun c4 => ?_) (fun c4 => ?_)
        · replace h := h.1 c4
          refine lv_iconst (v := 0) hx hb dX0_multiply_57 (by decide) ?_
          refine lv_istore (lv' := [(7, .int 0), (6, .int 0), (0, .ref (ad 2)), (1, .int a1), (2, .int a2), (3, .int a3), (4, .int a4), (5, .int a5)]) hx hb dX0_multiply_58 hl (by decide) rfl (fun ls hl => ?_)
          refine lv_aload_n hx hb dX0_multiply_60 rfl (lv_at hl 2 rfl) ?_
          refine va_get (C := RX0) (T := TX0) (N := 3) hx hb hts n0 hown hK hP i2 (cg_2 hi2) rfl 1 (by decide) lk1 (fun _ h9 => h9) rfl dX0_multiply_61 ?_
          refine lv_iload_n hx hb dX0_multiply_64 rfl (lv_at hl 4 rfl) ?_
          refine lv_iconst (v := 5) hx hb dX0_multiply_65 (by decide) ?_
          refine lv_imul hx hb dX0_multiply_66 ?_
          refine lv_iload hx hb dX0_multiply_67 (lv_at hl 7 rfl) ?_
          refine lv_iadd hx hb dX0_multiply_69 ?_
          refine lv_aload_n hx hb dX0_multiply_70 rfl (lv_at hl 2 rfl) ?_
          refine va_get (C := RX0) (T := TX0) (N := 3) hx hb hts n0 hown hK hP i2 (cg_2 hi2) rfl 0 (by decide) lk2 (fun _ h9 => h9) rfl dX0_multiply_71 ?_
          refine lv_iload hx hb dX0_multiply_74 (lv_at hl 1 rfl) ?_
          refine lv_iload hx hb dX0_multiply_76 (lv_at hl 0 rfl) ?_
          refine lv_iadd hx hb dX0_multiply_78 ?_
          refine cc_i (va_runV (C := RX2) (As := [.int (0 + 0)]) (rest := [.int ((a2 * 5) + a5), .ref (ad 13)]) ⟨hx, hb, hml, hown, hts⟩ (c_X2_rest hL.g hwd H.size u (0 + 0) _ h) (cwV 1 hts gX0_multiply_X2_rest rfl rfl rfl (by decide +kernel) ⟨Nat.le_of_ble_eq_true rfl, Nat.le_of_ble_eq_true rfl⟩) (pcV hC hP hS (cg_1 hi1) rfl) rfl rfl hl.1 rfl (lv_room (Nat.le_of_ble_eq_true rfl)) dX0_multiply_79 ⟨Nat.zero_le _, Nat.zero_le _⟩) hS (cA_mono hS.1) (fun v5 u6 H locs h hP hS => ?_)
          refine cc_v (va_runSN (As := [.ref (ad 13), .int ((a2 * 5) + a5), .int v5]) (rest := []) ⟨hx, hb, hml, hown, hts⟩ (c_X6_write hL.g (Or.inl ⟨by decide, by decide⟩) m13 hwd H.size u6 ((a2 * 5) + a5) v5 _ h) ⟨va_cnB (host := RX6) 3 hts gX0_multiply_X6_write_n39 rfl rfl rfl hN7 lk3 (by decide +kernel) ⟨Nat.le_of_ble_eq_true rfl, Nat.le_of_ble_eq_true rfl⟩, lk4, trivial⟩ (pcS hC hP hS) rfl rfl hl.1 rfl (lv_room (Nat.le_of_ble_eq_true rfl)) dX0_multiply_82 ⟨Nat.zero_le _, Nat.zero_le _⟩) hS (cA_mono hS.1) (fun u7 H locs h hP hS => ?_)
          obtain ⟨v8, ev8⟩ : ∃ y : Int32, y = a5 + (-1) := ⟨_, rfl⟩
          refine lv_iinc (v := v8) (lv' := [(5, .int v8), (7, .int 0), (6, .int 0), (0, .ref (ad 2)), (1, .int a1), (2, .int a2), (3, .int a3), (4, .int a4)]) hx hb dX0_multiply_85 hl (k := 7) rfl (by rw [ev8]; rfl) (by decide) rfl (fun ls hl => ?_)
          replace h := h v8 ev8
          refine lv_goto (tgt := 8) hx hb dX0_multiply_88 (by decide) ?_
          exact ih v8 _ _ _ _ h hP hS (lv_sub hl [3, 4, 5, 6, 7, 0] rfl)
        · replace h := h.2 c4
          refine lv_iload hx hb dX0_multiply_42 (lv_at hl 5 rfl) ?_
          refine lv_aload_n hx hb dX0_multiply_44 rfl (lv_at hl 1 rfl) ?_
          refine lv_iload_n hx hb dX0_multiply_45 rfl (lv_at hl 2 rfl) ?_
          refine lv_iload hx hb dX0_multiply_46 (lv_at hl 6 rfl) ?_
          refine lv_iconst (v := 1) hx hb dX0_multiply_48 (by decide) ?_
          refine lv_isub hx hb dX0_multiply_49 ?_
          refine cc_i (va_runV (C := RX0) (As := [.int a1, .int (a5 - 1)]) (rest := [.int a4]) ⟨hx, hb, hml, hown, hts⟩ (c_X0_cell hL hwd H.size u a1 (a5 - 1) _ h) (cwV 2 hts gX0_multiply_X0_cell rfl rfl rfl (by decide +kernel) ⟨Nat.le_of_ble_eq_true rfl, Nat.le_of_ble_eq_true rfl⟩) (pcV hC hP hS (cg_2 hi2) rfl) rfl rfl hl.1 rfl (lv_room (Nat.le_of_ble_eq_true rfl)) dX0_multiply_50 ⟨Nat.zero_le _, Nat.zero_le _⟩) hS (cA_mono hS.1) (fun v9 u10 H locs h hP hS => ?_)
          refine lv_imul hx hb dX0_multiply_53 ?_
          refine lv_goto (tgt := 58) hx hb dX0_multiply_54 (by decide) ?_
          refine lv_topi (fun v11 ev11 => ?_)
          replace h := h v11 ev11
          refine lv_istore (lv' := [(7, .int v11), (6, .int 0), (0, .ref (ad 2)), (1, .int a1), (2, .int a2), (3, .int a3), (4, .int a4), (5, .int a5)]) hx hb dX0_multiply_58 hl (by decide) rfl (fun ls hl => ?_)
          refine lv_aload_n hx hb dX0_multiply_60 rfl (lv_at hl 2 rfl) ?_
          refine va_get (C := RX0) (T := TX0) (N := 3) hx hb hts n0 hown hK hP i2 (cg_2 hi2) rfl 1 (by decide) lk1 (fun _ h9 => h9) rfl dX0_multiply_61 ?_
          refine lv_iload_n hx hb dX0_multiply_64 rfl (lv_at hl 4 rfl) ?_
          refine lv_iconst (v := 5) hx hb dX0_multiply_65 (by decide) ?_
          refine lv_imul hx hb dX0_multiply_66 ?_
          refine lv_iload hx hb dX0_multiply_67 (lv_at hl 7 rfl) ?_
          refine lv_iadd hx hb dX0_multiply_69 ?_
          refine lv_aload_n hx hb dX0_multiply_70 rfl (lv_at hl 2 rfl) ?_
          refine va_get (C := RX0) (T := TX0) (N := 3) hx hb hts n0 hown hK hP i2 (cg_2 hi2) rfl 0 (by decide) lk2 (fun _ h9 => h9) rfl dX0_multiply_71 ?_
          refine lv_iload hx hb dX0_multiply_74 (lv_at hl 1 rfl) ?_
          refine lv_iload hx hb dX0_multiply_76 (lv_at hl 0 rfl) ?_
          refine lv_iadd hx hb dX0_multiply_78 ?_
          refine cc_i (va_runV (C := RX2) (As := [.int (0 + v11)]) (rest := [.int ((a2 * 5) + a5), .ref (ad 13)]) ⟨hx, hb, hml, hown, hts⟩ (c_X2_rest hL.g hwd H.size u10 (0 + v11) _ h) (cwV 1 hts gX0_multiply_X2_rest rfl rfl rfl (by decide +kernel) ⟨Nat.le_of_ble_eq_true rfl, Nat.le_of_ble_eq_true rfl⟩) (pcV hC hP hS (cg_1 hi1) rfl) rfl rfl hl.1 rfl (lv_room (Nat.le_of_ble_eq_true rfl)) dX0_multiply_79 ⟨Nat.zero_le _, Nat.zero_le _⟩) hS (cA_mono hS.1) (fun v12 u13 H locs h hP hS => ?_)
          refine cc_v (va_runSN (As := [.ref (ad 13), .int ((a2 * 5) + a5), .int v12]) (rest := []) ⟨hx, hb, hml, hown, hts⟩ (c_X6_write hL.g (Or.inl ⟨by decide, by decide⟩) m13 hwd H.size u13 ((a2 * 5) + a5) v12 _ h) ⟨va_cnB (host := RX6) 3 hts gX0_multiply_X6_write_n39 rfl rfl rfl hN7 lk3 (by decide +kernel) ⟨Nat.le_of_ble_eq_true rfl, Nat.le_of_ble_eq_true rfl⟩, lk4, trivial⟩ (pcS hC hP hS) rfl rfl hl.1 rfl (lv_room (Nat.le_of_ble_eq_true rfl)) dX0_multiply_82 ⟨Nat.zero_le _, Nat.zero_le _⟩) hS (cA_mono hS.1) (fun u14 H locs h hP hS => ?_)
          obtain ⟨v15, ev15⟩ : ∃ y : Int32, y = a5 + (-1) := ⟨_, rfl⟩
          refine lv_iinc (v := v15) (lv' := [(5, .int v15), (7, .int v11), (6, .int 0), (0, .ref (ad 2)), (1, .int a1), (2, .int a2), (3, .int a3), (4, .int a4)]) hx hb dX0_multiply_85 hl (k := 7) rfl (by rw [ev15]; rfl) (by decide) rfl (fun ls hl => ?_)
          replace h := h v15 ev15
          refine lv_goto (tgt := 8) hx hb dX0_multiply_88 (by decide) ?_
          exact ih v15 _ _ _ _ h hP hS (lv_sub hl [3, 4, 5, 6, 7, 0] rfl)
      · replace h := h.2 c3
        refine lv_iload_n hx hb dX0_multiply_22 rfl (lv_at hl 3 rfl) ?_
        refine lv_aload_n hx hb dX0_multiply_23 rfl (lv_at hl 0 rfl) ?_
        refine lv_iload_n hx hb dX0_multiply_24 rfl (lv_at hl 1 rfl) ?_
        refine lv_iload hx hb dX0_multiply_25 (lv_at hl 5 rfl) ?_
        refine cc_i (va_runV (C := RX0) (As := [.int a1, .int a5]) (rest := [.int a3]) ⟨hx, hb, hml, hown, hts⟩ (c_X0_cell hL hwd H.size u a1 a5 _ h) (cwV 2 hts gX0_multiply_X0_cell rfl rfl rfl (by decide +kernel) ⟨Nat.le_of_ble_eq_true rfl, Nat.le_of_ble_eq_true rfl⟩) (pcV hC hP hS (cg_2 hi2) rfl) rfl rfl hl.1 rfl (lv_room (Nat.le_of_ble_eq_true rfl)) dX0_multiply_27 ⟨Nat.zero_le _, Nat.zero_le _⟩) hS (cA_mono hS.1) (fun v16 u17 H locs h hP hS => ?_)
        refine lv_imul hx hb dX0_multiply_30 ?_
        refine lv_goto (tgt := 35) hx hb dX0_multiply_31 (by decide) ?_
        refine lv_topi (fun v18 ev18 => ?_)
        replace h := h v18 ev18
        refine lv_istore (lv' := [(6, .int v18), (0, .ref (ad 2)), (1, .int a1), (2, .int a2), (3, .int a3), (4, .int a4), (5, .int a5)]) hx hb dX0_multiply_35 hl (by decide) rfl (fun ls hl => ?_)
        refine lv_iload hx hb dX0_multiply_37 (lv_at hl 6 rfl) ?_
        refine lv_if_le (tgt := 57) hx hb dX0_multiply_39 (by decide) (fun c19 => ?_) (fun c19 => ?_)
        · replace h := h.1 c19
          refine lv_iconst (v := 0) hx hb dX0_multiply_57 (by decide) ?_
          refine lv_istore (lv' := [(7, .int 0), (6, .int v18), (0, .ref (ad 2)), (1, .int a1), (2, .int a2), (3, .int a3), (4, .int a4), (5, .int a5)]) hx hb dX0_multiply_58 hl (by decide) rfl (fun ls hl => ?_)
          refine lv_aload_n hx hb dX0_multiply_60 rfl (lv_at hl 2 rfl) ?_
          refine va_get (C := RX0) (T := TX0) (N := 3) hx hb hts n0 hown hK hP i2 (cg_2 hi2) rfl 1 (by decide) lk1 (fun _ h9 => h9) rfl dX0_multiply_61 ?_
          refine lv_iload_n hx hb dX0_multiply_64 rfl (lv_at hl 4 rfl) ?_
          refine lv_iconst (v := 5) hx hb dX0_multiply_65 (by decide) ?_
          refine lv_imul hx hb dX0_multiply_66 ?_
          refine lv_iload hx hb dX0_multiply_67 (lv_at hl 7 rfl) ?_
          refine lv_iadd hx hb dX0_multiply_69 ?_
          refine lv_aload_n hx hb dX0_multiply_70 rfl (lv_at hl 2 rfl) ?_
          refine va_get (C := RX0) (T := TX0) (N := 3) hx hb hts n0 hown hK hP i2 (cg_2 hi2) rfl 0 (by decide) lk2 (fun _ h9 => h9) rfl dX0_multiply_71 ?_
          refine lv_iload hx hb dX0_multiply_74 (lv_at hl 1 rfl) ?_
          refine lv_iload hx hb dX0_multiply_76 (lv_at hl 0 rfl) ?_
          refine lv_iadd hx hb dX0_multiply_78 ?_
          refine cc_i (va_runV (C := RX2) (As := [.int (v18 + 0)]) (rest := [.int ((a2 * 5) + a5), .ref (ad 13)]) ⟨hx, hb, hml, hown, hts⟩ (c_X2_rest hL.g hwd H.size u17 (v18 + 0) _ h) (cwV 1 hts gX0_multiply_X2_rest rfl rfl rfl (by decide +kernel) ⟨Nat.le_of_ble_eq_true rfl, Nat.le_of_ble_eq_true rfl⟩) (pcV hC hP hS (cg_1 hi1) rfl) rfl rfl hl.1 rfl (lv_room (Nat.le_of_ble_eq_true rfl)) dX0_multiply_79 ⟨Nat.zero_le _, Nat.zero_le _⟩) hS (cA_mono hS.1) (fun v20 u21 H locs h hP hS => ?_)
          refine cc_v (va_runSN (As := [.ref (ad 13), .int ((a2 * 5) + a5), .int v20]) (rest := []) ⟨hx, hb, hml, hown, hts⟩ (c_X6_write hL.g (Or.inl ⟨by decide, by decide⟩) m13 hwd H.size u21 ((a2 * 5) + a5) v20 _ h) ⟨va_cnB (host := RX6) 3 hts gX0_multiply_X6_write_n39 rfl rfl rfl hN7 lk3 (by decide +kernel) ⟨Nat.le_of_ble_eq_true rfl, Nat.le_of_ble_eq_true rfl⟩, lk4, trivial⟩ (pcS hC hP hS) rfl rfl hl.1 rfl (lv_room (Nat.le_of_ble_eq_true rfl)) dX0_multiply_82 ⟨Nat.zero_le _, Nat.zero_le _⟩) hS (cA_mono hS.1) (fun u22 H locs h hP hS => ?_)
          obtain ⟨v23, ev23⟩ : ∃ y : Int32, y = a5 + (-1) := ⟨_, rfl⟩
          refine lv_iinc (v := v23) (lv' := [(5, .int v23), (7, .int 0), (6, .int v18), (0, .ref (ad 2)), (1, .int a1), (2, .int a2), (3, .int a3), (4, .int a4)]) hx hb dX0_multiply_85 hl (k := 7) rfl (by rw [ev23]; rfl) (by decide) rfl (fun ls hl => ?_)
          replace h := h v23 ev23
          refine lv_goto (tgt := 8) hx hb dX0_multiply_88 (by decide) ?_
          exact ih v23 _ _ _ _ h hP hS (lv_sub hl [3, 4, 5, 6, 7, 0] rfl)
        · replace h := h.2 c19
          refine lv_iload hx hb dX0_multiply_42 (lv_at hl 5 rfl) ?_
          refine lv_aload_n hx hb dX0_multiply_44 rfl (lv_at hl 1 rfl) ?_
          refine lv_iload_n hx hb dX0_multiply_45 rfl (lv_at hl 2 rfl) ?_
          refine lv_iload hx hb dX0_multiply_46 (lv_at hl 6 rfl) ?_
          refine lv_iconst (v := 1) hx hb dX0_multiply_48 (by decide) ?_
          refine lv_isub hx hb dX0_multiply_49 ?_
          refine cc_i (va_runV (C := RX0) (As := [.int a1, .int (a5 - 1)]) (rest := [.int a4]) ⟨hx, hb, hml, hown, hts⟩ (c_X0_cell hL hwd H.size u17 a1 (a5 - 1) _ h) (cwV 2 hts gX0_multiply_X0_cell rfl rfl rfl (by decide +kernel) ⟨Nat.le_of_ble_eq_true rfl, Nat.le_of_ble_eq_true rfl⟩) (pcV hC hP hS (cg_2 hi2) rfl) rfl rfl hl.1 rfl (lv_room (Nat.le_of_ble_eq_true rfl)) dX0_multiply_50 ⟨Nat.zero_le _, Nat.zero_le _⟩) hS (cA_mono hS.1) (fun v24 u25 H locs h hP hS => ?_)
          refine lv_imul hx hb dX0_multiply_53 ?_
          refine lv_goto (tgt := 58) hx hb dX0_multiply_54 (by decide) ?_
          refine lv_topi (fun v26 ev26 => ?_)
          replace h := h v26 ev26
          refine lv_istore (lv' := [(7, .int v26), (6, .int v18), (0, .ref (ad 2)), (1, .int a1), (2, .int a2), (3, .int a3), (4, .int a4), (5, .int a5)]) hx hb dX0_multiply_58 hl (by decide) rfl (fun ls hl => ?_)
          refine lv_aload_n hx hb dX0_multiply_60 rfl (lv_at hl 2 rfl) ?_
          refine va_get (C := RX0) (T := TX0) (N := 3) hx hb hts n0 hown hK hP i2 (cg_2 hi2) rfl 1 (by decide) lk1 (fun _ h9 => h9) rfl dX0_multiply_61 ?_
          refine lv_iload_n hx hb dX0_multiply_64 rfl (lv_at hl 4 rfl) ?_
          refine lv_iconst (v := 5) hx hb dX0_multiply_65 (by decide) ?_
          refine lv_imul hx hb dX0_multiply_66 ?_
          refine lv_iload hx hb dX0_multiply_67 (lv_at hl 7 rfl) ?_
          refine lv_iadd hx hb dX0_multiply_69 ?_
          refine lv_aload_n hx hb dX0_multiply_70 rfl (lv_at hl 2 rfl) ?_
          refine va_get (C := RX0) (T := TX0) (N := 3) hx hb hts n0 hown hK hP i2 (cg_2 hi2) rfl 0 (by decide) lk2 (fun _ h9 => h9) rfl dX0_multiply_71 ?_
          refine lv_iload hx hb dX0_multiply_74 (lv_at hl 1 rfl) ?_
          refine lv_iload hx hb dX0_multiply_76 (lv_at hl 0 rfl) ?_
          refine lv_iadd hx hb dX0_multiply_78 ?_
          refine cc_i (va_runV (C := RX2) (As := [.int (v18 + v26)]) (rest := [.int ((a2 * 5) + a5), .ref (ad 13)]) ⟨hx, hb, hml, hown, hts⟩ (c_X2_rest hL.g hwd H.size u25 (v18 + v26) _ h) (cwV 1 hts gX0_multiply_X2_rest rfl rfl rfl (by decide +kernel) ⟨Nat.le_of_ble_eq_true rfl, Nat.le_of_ble_eq_true rfl⟩) (pcV hC hP hS (cg_1 hi1) rfl) rfl rfl hl.1 rfl (lv_room (Nat.le_of_ble_eq_true rfl)) dX0_multiply_79 ⟨Nat.zero_le _, Nat.zero_le _⟩) hS (cA_mono hS.1) (fun v27 u28 H locs h hP hS => ?_)
          refine cc_v (va_runSN (As := [.ref (ad 13), .int ((a2 * 5) + a5), .int v27]) (rest := []) ⟨hx, hb, hml, hown, hts⟩ (c_X6_write hL.g (Or.inl ⟨by decide, by decide⟩) m13 hwd H.size u28 ((a2 * 5) + a5) v27 _ h) ⟨va_cnB (host := RX6) 3 hts gX0_multiply_X6_write_n39 rfl rfl rfl hN7 lk3 (by decide +kernel) ⟨Nat.le_of_ble_eq_true rfl, Nat.le_of_ble_eq_true rfl⟩, lk4, trivial⟩ (pcS hC hP hS) rfl rfl hl.1 rfl (lv_room (Nat.le_of_ble_eq_true rfl)) dX0_multiply_82 ⟨Nat.zero_le _, Nat.zero_le _⟩) hS (cA_mono hS.1) (fun u29 H locs h hP hS => ?_)
          obtain ⟨v30, ev30⟩ : ∃ y : Int32, y = a5 + (-1) := ⟨_, rfl⟩
          refine lv_iinc (v := v30) (lv' := [(5, .int v30), (7, .int v26), (6, .int v18), (0, .ref (ad 2)), (1, .int a1), (2, .int a2), (3, .int a3), (4, .int a4)]) hx hb dX0_multiply_85 hl (k := 7) rfl (by rw [ev30]; rfl) (by decide) rfl (fun ls hl => ?_)
          replace h := h v30 ev30
          refine lv_goto (tgt := 8) hx hb dX0_multiply_88 (by decide) ?_
          exact ih v30 _ _ _ _ h hP hS (lv_sub hl [3, 4, 5, 6, 7, 0] rfl)
set_option maxRecDepth 100000 in
set_option maxHeartbeats 4000000 in
theorem w_X0_multiply {p : Program} {l : Launch} {e : Env} {s : State} {m : MethodId} {args : Array Value} {below : List Frame} {meth : Method} {c : Code} {D : va_G} {cI cG cZ cJ : ClassId} {ts : Nat × Nat} {L : List Nat} {ad : Nat → Nat} {al : Nat} (hL : Lf L al) (X : FX RX0 wsX0_multiply cX0_multiply 8 none D cI cG cZ cJ ts L ad p s m args meth c) (a1 : Int32) (a2 : Int32) (a3 : Int32) (a4 : Int32) (Q : St → Prop) (u : St) (H : Heap) (locs : List Loc) (ls : Array Slot) (h : f_X0_multiply al a1 a2 a3 a4 u Q) (hP : va_P D vwCl (cW cI cG L ad al u) H) (hS : va_S (cA L ad s.heap.size) s.heap H locs) (hl : lv_has ls 8 [(0, .ref (ad 2)), (1, .int a1), (2, .int a2), (3, .int a3), (4, .int a4)]) : W p l e (headSpec wsX0_multiply { frames := 2, cells := 0, slots := 0, locals := 43 }).room s m args below meth c H locs 0 0 (MQ below (va_Qv Q (fun u9 t => va_P D vwCl (cW cI cG L ad al u9) t.heap) (cA L ad s.heap.size)) args s 0 0 (cA L ad s.heap.size)) (F0 m 0 ls []) := by
  obtain ⟨hx, hb, hml, hown, hts, hr, hlocks, hwd, hC⟩ := id X
  have hK := hC.1
  have m1 : 1 ∈ L := hL 1 (by omega)
  obtain ⟨i1, hi1⟩ := wL_ix m1
  have m2 : 2 ∈ L := hL 2 (by omega)
  obtain ⟨i2, hi2⟩ := wL_ix m2
  have m13 : 13 ∈ L := hL 13 (by omega)
  obtain ⟨i13, hi13⟩ := wL_ix m13
  have lk0 := hts (.fieldLink RX0 23 "FormForge$Columns" "degree" "I") (by decide +kernel)
  have lk1 := hts (.fieldLink RX0 9 "FormForge$Columns" "cells" "[I") (by decide +kernel)
  have lk2 := hts (.fieldLink RX0 15 "FormForge$Columns" "field" "LFormForge$Field;") (by decide +kernel)
  have lk3 := hts (.initialized RX6) (by decide +kernel)
  have lk4 := hts (.static yX6_write) (by decide +kernel)
  have n0 : ∀ w ∈ wsX00, w ∈ wsX0_multiply := by decide +kernel
  have hN7 := hC.2.1 _ (List.mem_of_getElem? (i := 7) rfl)
  unfold f_X0_multiply at h
  refine lv_aload_n hx hb dX0_multiply_0 rfl (lv_at hl 0 rfl) ?_
  refine va_get (C := RX0) (T := TX0) (N := 3) hx hb hts n0 hown hK hP i2 (cg_2 hi2) rfl 2 (by decide) lk0 (fun _ h9 => h9) rfl dX0_multiply_1 ?_
  refine lv_iconst (v := 1) hx hb dX0_multiply_4 (by decide) ?_
  refine lv_iadd hx hb dX0_multiply_5 ?_
  refine lv_topi (fun v1 ev1 => ?_)
  replace h := h v1 ev1
  refine lv_istore (lv' := [(5, .int v1), (0, .ref (ad 2)), (1, .int a1), (2, .int a2), (3, .int a3), (4, .int a4)]) hx hb dX0_multiply_6 hl (by decide) rfl (fun ls hl => ?_)
  obtain ⟨n31, h⟩ := h
  refine w_X0_multiply_L8 hL X a1 a2 a3 a4 _ _ (fun u32 H locs ls h hP hS hl => ?_) n31 v1 _ _ _ _ h hP hS (lv_sub hl [1, 2, 3, 4, 5, 0] rfl)
  exact W.vret hx hb hr (fun t ht hW => ⟨⟨_, rfl, h, by show va_P _ _ _ t.heap; rw [ht]; exact hP⟩, hS.F ht⟩) hS.2.2 dX0_multiply_91
set_option maxRecDepth 100000 in
set_option maxHeartbeats 4000000 in
theorem c_X0_multiply {l : Launch} {D : va_G} {cI cG cZ cJ : ClassId} {ts : Nat × Nat} {L : List Nat} {ad : Nat → Nat} {al : Nat} (hL : Lf L al) (hwd : WD L ad) (sz : Nat) (u : St) (a1 : Int32) (a2 : Int32) (a3 : Int32) (a4 : Int32) (Q : St → Prop) (h : f_X0_multiply al a1 a2 a3 a4 u Q) : Met l yX0_multiply wsX0_multiply ({ frames := 2, cells := 0, slots := 0, locals := 43 }) (va_Pc [.ref (ad 2), .int a1, .int a2, .int a3, .int a4] (PC D cI cG cZ cJ ts L ad al sz u)) (va_Qv Q (fun u9 t => va_P D vwCl (cW cI cG L ad al u9) t.heap) (cA L ad sz)) 0 0 (cA L ad sz) := by
  refine Met.ofW (cc := cX0_multiply) (maxL := 8) (ret := none) (by decide) rfl ?_
  intro p e s m args below meth c s₁ B hml hv
  obtain ⟨rfl, hsz, hP, hC⟩ := hv
  subst hsz
  have X : FX RX0 wsX0_multiply cX0_multiply 8 none D cI cG cZ cJ ts L ad p s m _ meth c := ⟨B.exec, B.bytes, hml, findClass_of_methodNamed B.named, atoms_spec (ws := wsX0_multiply) B.pre, B.returns, B.notSynchronized, hwd, hC⟩
  have hl := lv_entry ([.ref (ad 2), .int a1, .int a2, .int a3, .int a4]) (n := 8) (Nat.le_of_ble_eq_true rfl)
  rw [lg_entry_eq]
  generalize (lg_sl ([.ref (ad 2), .int a1, .int a2, .int a3, .int a4]) ++ List.replicate (8 - (lg_sl ([.ref (ad 2), .int a1, .int a2, .int a3, .int a4])).length) Slot.unset).toArray = ls at hl ⊢
  exact w_X0_multiply hL X a1 a2 a3 a4 Q u _ _ _ h hP va_S.rf hl
set_option maxRecDepth 100000 in
set_option maxHeartbeats 4000000 in
theorem w_X0_fill_L84 {p : Program} {l : Launch} {e : Env} {s : State} {m : MethodId} {args : Array Value} {below : List Frame} {meth : Method} {c : Code} {D : va_G} {cI cG cZ cJ : ClassId} {ts : Nat × Nat} {L : List Nat} {ad : Nat → Nat} {al : Nat} (hL : Lf L al) (X : FX RX0 wsX0_fill cX0_fill 9 none D cI cG cZ cJ ts L ad p s m args meth c) (a2 : Int32) (a3 : Int32) (a4 : Int32) (a5 : Int32) (a6 : Int32) (a7 : Int32) (Q : St → Prop)
    (K0 : St → Prop) (hk0 : ∀ (u : St) (H : Heap) (locs : List Loc) (ls : Array Slot), K0 u → va_P D vwCl (cW cI cG L ad al u) H → va_S (cA L ad s.heap.size) s.heap H locs → lv_has ls 9 [(0, .ref (ad 2)), (2, .int a2), (3, .int a3), (4, .int a4), (5, .int a5), (6, .int a6), (7, .int a7)] → W p l e (headSpec wsX0_fill { frames := 3, cells := 0, slots := 0, locals := 70 }).room s m args below meth c H locs 0 0 (MQ below (va_Qv Q (fun u9 t => va_P D vwCl (cW cI cG L ad al u9) t.heap) (cA L ad s.heap.size)) args s 0 0 (cA L ad s.heap.size)) (F0 m 108 ls []))
    : ∀ (n : Nat) (a8 : Int32) (u : St) (H : Heap) (locs : List Loc) (ls : Array Slot), f_X0_fill_L84 al a2 a3 a4 a5 a6 a7 Q K0 n a8 u → va_P D vwCl (cW cI cG L ad al u) H → va_S (cA L ad s.heap.size) s.heap H locs → lv_has ls 9 [(0, .ref (ad 2)), (2, .int a2), (3, .int a3), (4, .int a4), (5, .int a5), (6, .int a6), (7, .int a7), (8, .int a8)] → W p l e (headSpec wsX0_fill { frames := 3, cells := 0, slots := 0, locals := 70 }).room s m args below meth c H locs 0 0 (MQ below (va_Qv Q (fun u9 t => va_P D vwCl (cW cI cG L ad al u9) t.heap) (cA L ad s.heap.size)) args s 0 0 (cA L ad s.heap.size)) (F0 m 84 ls []) := by
  obtain ⟨hx, hb, hml, hown, hts, hr, hlocks, hwd, hC⟩ := id X
  have hK := hC.1
  have m1 : 1 ∈ L := hL 1 (by omega)
  obtain ⟨i1, hi1⟩ := wL_ix m1
  have m2 : 2 ∈ L := hL 2 (by omega)
  obtain ⟨i2, hi2⟩ := wL_ix m2
  have m13 : 13 ∈ L := hL 13 (by omega)
  obtain ⟨i13, hi13⟩ := wL_ix m13
  have lk0 := hts (.fieldLink RX0 15 "FormForge$Columns" "field" "LFormForge$Field;") (by decide +kernel)
  have lk1 := hts (.fieldLink RX0 9 "FormForge$Columns" "cells" "[I") (by decide +kernel)
  have lk2 := hts (.initialized RX6) (by decide +kernel)
  have lk3 := hts (.static yX6_write) (by decide +kernel)
  have lk4 := hts (.fieldLink RX0 23 "FormForge$Columns" "degree" "I") (by decide +kernel)
  have n0 : ∀ w ∈ wsX00, w ∈ wsX0_fill := by decide +kernel
  have hN7 := hC.2.1 _ (List.mem_of_getElem? (i := 7) rfl)
  intro n
  induction n with
  | zero =>
    intro a8 u H locs ls h; exact h.elim
  | succ n ih =>
    intro a8 u H locs ls h hP hS hl
    replace h : f_X0_fill_L84_s al a2 a3 a4 a5 a6 a7 Q K0 (f_X0_fill_L84 al a2 a3 a4 a5 a6 a7 Q K0 n) a8 u := h
    unfold f_X0_fill_L84_s at h
    refine lv_iload hx hb dX0_fill_84 (lv_at hl 7 rfl) ?_
    refine lv_iload hx hb dX0_fill_86 (lv_at hl 6 rfl) ?_
    refine lv_icmp_gt (tgt := 108) hx hb dX0_fill_88 (by decide) (fun c13 => ?_) (fun c13 => ?_)
    · replace h := h.1 c13
      exact hk0  _ _ _ _ h hP hS (lv_sub hl [0, 1, 2, 3, 4, 5, 6] rfl)
    · replace h := h.2 c13
      refine lv_aload_n hx hb dX0_fill_91 rfl (lv_at hl 0 rfl) ?_
      refine lv_iload hx hb dX0_fill_92 (lv_at hl 7 rfl) ?_
      refine lv_iload hx hb dX0_fill_94 (lv_at hl 7 rfl) ?_
      refine lv_iload_n hx hb dX0_fill_96 rfl (lv_at hl 2 rfl) ?_
      refine lv_iload hx hb dX0_fill_97 (lv_at hl 3 rfl) ?_
      refine cc_v (va_runV (C := RX0) (As := [.int a8, .int a8, .int a3, .int a4]) (rest := []) ⟨hx, hb, hml, hown, hts⟩ (c_X0_multiply hL hwd H.size u a8 a8 a3 a4 _ h) (cwV 4 hts gX0_fill_X0_multiply rfl rfl rfl (by decide +kernel) ⟨Nat.le_of_ble_eq_true rfl, Nat.le_of_ble_eq_true rfl⟩) (pcV hC hP hS (cg_2 hi2) rfl) rfl rfl hl.1 rfl (lv_room (Nat.le_of_ble_eq_true rfl)) dX0_fill_99 ⟨Nat.zero_le _, Nat.zero_le _⟩) hS (cA_mono hS.1) (fun u14 H locs h hP hS => ?_)
      obtain ⟨v15, ev15⟩ : ∃ y : Int32, y = a8 + 1 := ⟨_, rfl⟩
      refine lv_iinc (v := v15) (lv' := [(8, .int v15), (0, .ref (ad 2)), (2, .int a2), (3, .int a3), (4, .int a4), (5, .int a5), (6, .int a6), (7, .int a7)]) hx hb dX0_fill_102 hl (k := 7) rfl (by rw [ev15]; rfl) (by decide) rfl (fun ls hl => ?_)
      replace h := h v15 ev15
      refine lv_goto (tgt := 84) hx hb dX0_fill_105 (by decide) ?_
      exact ih v15 _ _ _ _ h hP hS (lv_sub hl [1, 2, 3, 4, 5, 6, 7, 0] rfl)
set_option maxRecDepth 100000 in
set_option maxHeartbeats 4000000 in
theorem w_X0_fill_L55 {p : Program} {l : Launch} {e : Env} {s : State} {m : MethodId} {args : Array Value} {below : List Frame} {meth : Method} {c : Code} {D : va_G} {cI cG cZ cJ : ClassId} {ts : Nat × Nat} {L : List Nat} {ad : Nat → Nat} {al : Nat} (hL : Lf L al) (X : FX RX0 wsX0_fill cX0_fill 9 none D cI cG cZ cJ ts L ad p s m args meth c) (a2 : Int32) (a3 : Int32) (a4 : Int32) (a5 : Int32) (a6 : Int32) (Q : St → Prop)
    (K0 : St → Prop) (hk0 : ∀ (u : St) (H : Heap) (locs : List Loc) (ls : Array Slot), K0 u → va_P D vwCl (cW cI cG L ad al u) H → va_S (cA L ad s.heap.size) s.heap H locs → lv_has ls 9 [(0, .ref (ad 2)), (2, .int a2)] → W p l e (headSpec wsX0_fill { frames := 3, cells := 0, slots := 0, locals := 70 }).room s m args below meth c H locs 0 0 (MQ below (va_Qv Q (fun u9 t => va_P D vwCl (cW cI cG L ad al u9) t.heap) (cA L ad s.heap.size)) args s 0 0 (cA L ad s.heap.size)) (F0 m 114 ls []))
    : ∀ (n : Nat) (a7 : Int32) (u : St) (H : Heap) (locs : List Loc) (ls : Array Slot), f_X0_fill_L55 al a2 a3 a4 a5 a6 Q K0 n a7 u → va_P D vwCl (cW cI cG L ad al u) H → va_S (cA L ad s.heap.size) s.heap H locs → lv_has ls 9 [(0, .ref (ad 2)), (2, .int a2), (3, .int a3), (4, .int a4), (5, .int a5), (6, .int a6), (7, .int a7)] → W p l e (headSpec wsX0_fill { frames := 3, cells := 0, slots := 0, locals := 70 }).room s m args below meth c H locs 0 0 (MQ below (va_Qv Q (fun u9 t => va_P D vwCl (cW cI cG L ad al u9) t.heap) (cA L ad s.heap.size)) args s 0 0 (cA L ad s.heap.size)) (F0 m 55 ls []) := by
  obtain ⟨hx, hb, hml, hown, hts, hr, hlocks, hwd, hC⟩ := id X
  have hK := hC.1
  have m1 : 1 ∈ L := hL 1 (by omega)
  obtain ⟨i1, hi1⟩ := wL_ix m1
  have m2 : 2 ∈ L := hL 2 (by omega)
  obtain ⟨i2, hi2⟩ := wL_ix m2
  have m13 : 13 ∈ L := hL 13 (by omega)
  obtain ⟨i13, hi13⟩ := wL_ix m13
  have lk0 := hts (.fieldLink RX0 15 "FormForge$Columns" "field" "LFormForge$Field;") (by decide +kernel)
  have lk1 := hts (.fieldLink RX0 9 "FormForge$Columns" "cells" "[I") (by decide +kernel)
  have lk2 := hts (.initialized RX6) (by decide +kernel)
  have lk3 := hts (.static yX6_write) (by decide +kernel)
  have lk4 := hts (.fieldLink RX0 23 "FormForge$Columns" "degree" "I") (by decide +kernel)
  have n0 : ∀ w ∈ wsX00, w ∈ wsX0_fill := by decide +kernel
  have hN7 := hC.2.1 _ (List.mem_of_getElem? (i := 7) rfl)
  intro n
  induction n with
  | zero =>
    intro a7 u H locs ls h; exact h.elim
  | succ n ih =>
    intro a7 u H locs ls h hP hS hl
    replace h : f_X0_fill_L55_s al a2 a3 a4 a5 a6 Q K0 (f_X0_fill_L55 al a2 a3 a4 a5 a6 Q K0 n) a7 u := h
    unfold f_X0_fill_L55_s at h
    refine lv_iload hx hb dX0_fill_55 (lv_at hl 6 rfl) ?_
    refine lv_iload_n hx hb dX0_fill_57 rfl (lv_at hl 1 rfl) ?_
    refine lv_icmp_ge (tgt := 114) hx hb dX0_fill_58 (by decide) (fun c10 => ?_) (fun c10 => ?_)
    · replace h := h.1 c10
      exact hk0  _ _ _ _ h hP hS (lv_sub hl [0, 1] rfl)
    · replace h := h.2 c10
      refine lv_aload_n hx hb dX0_fill_61 rfl (lv_at hl 0 rfl) ?_
      refine lv_iload hx hb dX0_fill_62 (lv_at hl 6 rfl) ?_
      refine va_put (C := RX0) (T := TX0) (N := 3) (ty := .int) (v := .int a7) hx hb hts n0 tyX0 tyX0_ok nmX0 hown hK hP (cD hwd) hS i2 (cg_2 hi2) rfl 2 (by decide) lk4 (fun _ h9 => h9) rfl (by decide +kernel) rfl rfl (Nat.le_of_ble_eq_true rfl) dX0_fill_64 (fun H locs hP _ hS => ?_)
      replace hP := cu_cdeg hwd hi2 hP
      obtain ⟨u11, eu11⟩ : ∃ y : St, y = su u 0 1 a7 := ⟨_, rfl⟩
      rw [← eu11] at hP
      replace h := h u11 eu11
      refine lv_aload_n hx hb dX0_fill_67 rfl (lv_at hl 0 rfl) ?_
      refine lv_iload hx hb dX0_fill_68 (lv_at hl 6 rfl) ?_
      refine lv_iload hx hb dX0_fill_70 (lv_at hl 6 rfl) ?_
      refine lv_iconst (v := 1) hx hb dX0_fill_72 (by decide) ?_
      refine lv_iadd hx hb dX0_fill_73 ?_
      refine lv_iload hx hb dX0_fill_74 (lv_at hl 4 rfl) ?_
      refine lv_iload hx hb dX0_fill_76 (lv_at hl 5 rfl) ?_
      refine cc_v (va_runV (C := RX0) (As := [.int a7, .int (a7 + 1), .int a5, .int a6]) (rest := []) ⟨hx, hb, hml, hown, hts⟩ (c_X0_multiply hL hwd H.size u11 a7 (a7 + 1) a5 a6 _ h) (cwV 4 hts gX0_fill_X0_multiply rfl rfl rfl (by decide +kernel) ⟨Nat.le_of_ble_eq_true rfl, Nat.le_of_ble_eq_true rfl⟩) (pcV hC hP hS (cg_2 hi2) rfl) rfl rfl hl.1 rfl (lv_room (Nat.le_of_ble_eq_true rfl)) dX0_fill_78 ⟨Nat.zero_le _, Nat.zero_le _⟩) hS (cA_mono hS.1) (fun u12 H locs h hP hS => ?_)
      refine lv_iconst (v := 0) hx hb dX0_fill_81 (by decide) ?_
      refine lv_istore (lv' := [(8, .int 0), (0, .ref (ad 2)), (2, .int a2), (3, .int a3), (4, .int a4), (5, .int a5), (6, .int a6), (7, .int a7)]) hx hb dX0_fill_82 hl (by decide) rfl (fun ls hl => ?_)
      obtain ⟨n16, h⟩ := h
      refine w_X0_fill_L84 hL X a2 a3 a4 a5 a6 a7 _ _ (fun u17 H locs ls h hP hS hl => ?_) n16 0 _ _ _ _ h hP hS (lv_sub hl [1, 2, 3, 4, 5, 6, 7, 0] rfl)
      obtain ⟨v18, ev18⟩ : ∃ y : Int32, y = a7 + 1 := ⟨_, rfl⟩
      refine lv_iinc (v := v18) (lv' := [(7, .int v18), (0, .ref (ad 2)), (2, .int a2), (3, .int a3), (4, .int a4), (5, .int a5), (6, .int a6)]) hx hb dX0_fill_108 hl (k := 6) rfl (by rw [ev18]; rfl) (by decide) rfl (fun ls hl => ?_)
      replace h := h v18 ev18
      refine lv_goto (tgt := 55) hx hb dX0_fill_111 (by decide) ?_
      exact ih v18 _ _ _ _ h hP hS (lv_sub hl [1, 2, 3, 4, 5, 6, 0] rfl)
set_option maxRecDepth 100000 in
set_option maxHeartbeats 4000000 in
theorem w_X0_fill {p : Program} {l : Launch} {e : Env} {s : State} {m : MethodId} {args : Array Value} {below : List Frame} {meth : Method} {c : Code} {D : va_G} {cI cG cZ cJ : ClassId} {ts : Nat × Nat} {L : List Nat} {ad : Nat → Nat} {al : Nat} (hL : Lf L al) (X : FX RX0 wsX0_fill cX0_fill 9 none D cI cG cZ cJ ts L ad p s m args meth c) (a1 : Int32) (a2 : Int32) (Q : St → Prop) (u : St) (H : Heap) (locs : List Loc) (ls : Array Slot) (h : f_X0_fill al a1 a2 u Q) (hP : va_P D vwCl (cW cI cG L ad al u) H) (hS : va_S (cA L ad s.heap.size) s.heap H locs) (hl : lv_has ls 9 [(0, .ref (ad 2)), (1, .int a1), (2, .int a2)]) : W p l e (headSpec wsX0_fill { frames := 3, cells := 0, slots := 0, locals := 70 }).room s m args below meth c H locs 0 0 (MQ below (va_Qv Q (fun u9 t => va_P D vwCl (cW cI cG L ad al u9) t.heap) (cA L ad s.heap.size)) args s 0 0 (cA L ad s.heap.size)) (F0 m 0 ls []) := by
  obtain ⟨hx, hb, hml, hown, hts, hr, hlocks, hwd, hC⟩ := id X
  have hK := hC.1
  have m1 : 1 ∈ L := hL 1 (by omega)
  obtain ⟨i1, hi1⟩ := wL_ix m1
  have m2 : 2 ∈ L := hL 2 (by omega)
  obtain ⟨i2, hi2⟩ := wL_ix m2
  have m13 : 13 ∈ L := hL 13 (by omega)
  obtain ⟨i13, hi13⟩ := wL_ix m13
  have lk0 := hts (.fieldLink RX0 15 "FormForge$Columns" "field" "LFormForge$Field;") (by decide +kernel)
  have lk1 := hts (.fieldLink RX0 9 "FormForge$Columns" "cells" "[I") (by decide +kernel)
  have lk2 := hts (.initialized RX6) (by decide +kernel)
  have lk3 := hts (.static yX6_write) (by decide +kernel)
  have lk4 := hts (.fieldLink RX0 23 "FormForge$Columns" "degree" "I") (by decide +kernel)
  have n0 : ∀ w ∈ wsX00, w ∈ wsX0_fill := by decide +kernel
  have hN7 := hC.2.1 _ (List.mem_of_getElem? (i := 7) rfl)
  unfold f_X0_fill at h
  refine lv_aload_n hx hb dX0_fill_0 rfl (lv_at hl 0 rfl) ?_
  refine va_get (C := RX0) (T := TX0) (N := 3) hx hb hts n0 hown hK hP i2 (cg_2 hi2) rfl 0 (by decide) lk0 (fun _ h9 => h9) rfl dX0_fill_1 ?_
  refine lv_iload_n hx hb dX0_fill_4 rfl (lv_at hl 1 rfl) ?_
  refine lv_iconst (v := 0) hx hb dX0_fill_5 (by decide) ?_
  refine cc_i (va_runV (C := RX2) (As := [.int a1, .int 0]) (rest := []) ⟨hx, hb, hml, hown, hts⟩ (c_X2_digit hL.g hwd H.size u a1 0 _ h) (cwV 2 hts gX0_fill_X2_digit rfl rfl rfl (by decide +kernel) ⟨Nat.le_of_ble_eq_true rfl, Nat.le_of_ble_eq_true rfl⟩) (pcV hC hP hS (cg_1 hi1) rfl) rfl rfl hl.1 rfl (lv_room (Nat.le_of_ble_eq_true rfl)) dX0_fill_6 ⟨Nat.zero_le _, Nat.zero_le _⟩) hS (cA_mono hS.1) (fun v1 u2 H locs h hP hS => ?_)
  refine lv_istore_n (lv' := [(3, .int v1), (0, .ref (ad 2)), (1, .int a1), (2, .int a2)]) hx hb dX0_fill_9 rfl hl (by decide) rfl (fun ls hl => ?_)
  refine lv_aload_n hx hb dX0_fill_10 rfl (lv_at hl 1 rfl) ?_
  refine va_get (C := RX0) (T := TX0) (N := 3) hx hb hts n0 hown hK hP i2 (cg_2 hi2) rfl 0 (by decide) lk0 (fun _ h9 => h9) rfl dX0_fill_11 ?_
  refine lv_iload_n hx hb dX0_fill_14 rfl (lv_at hl 2 rfl) ?_
  refine lv_iconst (v := 1) hx hb dX0_fill_15 (by decide) ?_
  refine cc_i (va_runV (C := RX2) (As := [.int a1, .int 1]) (rest := []) ⟨hx, hb, hml, hown, hts⟩ (c_X2_digit hL.g hwd H.size u2 a1 1 _ h) (cwV 2 hts gX0_fill_X2_digit rfl rfl rfl (by decide +kernel) ⟨Nat.le_of_ble_eq_true rfl, Nat.le_of_ble_eq_true rfl⟩) (pcV hC hP hS (cg_1 hi1) rfl) rfl rfl hl.1 rfl (lv_room (Nat.le_of_ble_eq_true rfl)) dX0_fill_16 ⟨Nat.zero_le _, Nat.zero_le _⟩) hS (cA_mono hS.1) (fun v3 u4 H locs h hP hS => ?_)
  refine lv_istore (lv' := [(4, .int v3), (3, .int v1), (0, .ref (ad 2)), (1, .int a1), (2, .int a2)]) hx hb dX0_fill_19 hl (by decide) rfl (fun ls hl => ?_)
  refine lv_aload_n hx hb dX0_fill_21 rfl (lv_at hl 2 rfl) ?_
  refine va_get (C := RX0) (T := TX0) (N := 3) hx hb hts n0 hown hK hP i2 (cg_2 hi2) rfl 0 (by decide) lk0 (fun _ h9 => h9) rfl dX0_fill_22 ?_
  refine lv_iload_n hx hb dX0_fill_25 rfl (lv_at hl 3 rfl) ?_
  refine lv_iconst (v := 2) hx hb dX0_fill_26 (by decide) ?_
  refine cc_i (va_runV (C := RX2) (As := [.int a1, .int 2]) (rest := []) ⟨hx, hb, hml, hown, hts⟩ (c_X2_digit hL.g hwd H.size u4 a1 2 _ h) (cwV 2 hts gX0_fill_X2_digit rfl rfl rfl (by decide +kernel) ⟨Nat.le_of_ble_eq_true rfl, Nat.le_of_ble_eq_true rfl⟩) (pcV hC hP hS (cg_1 hi1) rfl) rfl rfl hl.1 rfl (lv_room (Nat.le_of_ble_eq_true rfl)) dX0_fill_27 ⟨Nat.zero_le _, Nat.zero_le _⟩) hS (cA_mono hS.1) (fun v5 u6 H locs h hP hS => ?_)
  refine lv_istore (lv' := [(5, .int v5), (4, .int v3), (3, .int v1), (0, .ref (ad 2)), (1, .int a1), (2, .int a2)]) hx hb dX0_fill_30 hl (by decide) rfl (fun ls hl => ?_)
  refine lv_aload_n hx hb dX0_fill_32 rfl (lv_at hl 3 rfl) ?_
  refine va_get (C := RX0) (T := TX0) (N := 3) hx hb hts n0 hown hK hP i2 (cg_2 hi2) rfl 0 (by decide) lk0 (fun _ h9 => h9) rfl dX0_fill_33 ?_
  refine lv_iload_n hx hb dX0_fill_36 rfl (lv_at hl 4 rfl) ?_
  refine lv_iconst (v := 3) hx hb dX0_fill_37 (by decide) ?_
  refine cc_i (va_runV (C := RX2) (As := [.int a1, .int 3]) (rest := []) ⟨hx, hb, hml, hown, hts⟩ (c_X2_digit hL.g hwd H.size u6 a1 3 _ h) (cwV 2 hts gX0_fill_X2_digit rfl rfl rfl (by decide +kernel) ⟨Nat.le_of_ble_eq_true rfl, Nat.le_of_ble_eq_true rfl⟩) (pcV hC hP hS (cg_1 hi1) rfl) rfl rfl hl.1 rfl (lv_room (Nat.le_of_ble_eq_true rfl)) dX0_fill_38 ⟨Nat.zero_le _, Nat.zero_le _⟩) hS (cA_mono hS.1) (fun v7 u8 H locs h hP hS => ?_)
  refine lv_istore (lv' := [(6, .int v7), (5, .int v5), (4, .int v3), (3, .int v1), (0, .ref (ad 2)), (1, .int a1), (2, .int a2)]) hx hb dX0_fill_41 hl (by decide) rfl (fun ls hl => ?_)
  refine lv_aload_n hx hb dX0_fill_43 rfl (lv_at hl 4 rfl) ?_
  refine va_get (C := RX0) (T := TX0) (N := 3) hx hb hts n0 hown hK hP i2 (cg_2 hi2) rfl 1 (by decide) lk1 (fun _ h9 => h9) rfl dX0_fill_44 ?_
  refine lv_iconst (v := 0) hx hb dX0_fill_47 (by decide) ?_
  refine lv_iconst (v := 1) hx hb dX0_fill_48 (by decide) ?_
  refine cc_v (va_runSN (As := [.ref (ad 13), .int 0, .int 1]) (rest := []) ⟨hx, hb, hml, hown, hts⟩ (c_X6_write hL.g (Or.inl ⟨by decide, by decide⟩) m13 hwd H.size u8 0 1 _ h) ⟨va_cnB (host := RX6) 3 hts gX0_fill_X6_write_n39 rfl rfl rfl hN7 lk2 (by decide +kernel) ⟨Nat.le_of_ble_eq_true rfl, Nat.le_of_ble_eq_true rfl⟩, lk3, trivial⟩ (pcS hC hP hS) rfl rfl hl.1 rfl (lv_room (Nat.le_of_ble_eq_true rfl)) dX0_fill_49 ⟨Nat.zero_le _, Nat.zero_le _⟩) hS (cA_mono hS.1) (fun u9 H locs h hP hS => ?_)
  refine lv_iconst (v := 0) hx hb dX0_fill_52 (by decide) ?_
  refine lv_istore (lv' := [(7, .int 0), (6, .int v7), (5, .int v5), (4, .int v3), (3, .int v1), (0, .ref (ad 2)), (1, .int a1), (2, .int a2)]) hx hb dX0_fill_53 hl (by decide) rfl (fun ls hl => ?_)
  obtain ⟨n19, h⟩ := h
  refine w_X0_fill_L55 hL X a2 v1 v3 v5 v7 _ _ (fun u20 H locs ls h hP hS hl => ?_) n19 0 _ _ _ _ h hP hS (lv_sub hl [5, 7, 4, 3, 2, 1, 0] rfl)
  refine lv_aload_n hx hb dX0_fill_114 rfl (lv_at hl 0 rfl) ?_
  refine lv_iload_n hx hb dX0_fill_115 rfl (lv_at hl 1 rfl) ?_
  refine va_put (C := RX0) (T := TX0) (N := 3) (ty := .int) (v := .int a2) hx hb hts n0 tyX0 tyX0_ok nmX0 hown hK hP (cD hwd) hS i2 (cg_2 hi2) rfl 2 (by decide) lk4 (fun _ h9 => h9) rfl (by decide +kernel) rfl rfl (Nat.le_of_ble_eq_true rfl) dX0_fill_116 (fun H locs hP _ hS => ?_)
  replace hP := cu_cdeg hwd hi2 hP
  obtain ⟨u21, eu21⟩ : ∃ y : St, y = su u20 0 1 a2 := ⟨_, rfl⟩
  rw [← eu21] at hP
  replace h := h u21 eu21
  exact W.vret hx hb hr (fun t ht hW => ⟨⟨_, rfl, h, by show va_P _ _ _ t.heap; rw [ht]; exact hP⟩, hS.F ht⟩) hS.2.2 dX0_fill_119
set_option maxRecDepth 100000 in
set_option maxHeartbeats 4000000 in
theorem c_X0_fill {l : Launch} {D : va_G} {cI cG cZ cJ : ClassId} {ts : Nat × Nat} {L : List Nat} {ad : Nat → Nat} {al : Nat} (hL : Lf L al) (hwd : WD L ad) (sz : Nat) (u : St) (a1 : Int32) (a2 : Int32) (Q : St → Prop) (h : f_X0_fill al a1 a2 u Q) : Met l yX0_fill wsX0_fill ({ frames := 3, cells := 0, slots := 0, locals := 70 }) (va_Pc [.ref (ad 2), .int a1, .int a2] (PC D cI cG cZ cJ ts L ad al sz u)) (va_Qv Q (fun u9 t => va_P D vwCl (cW cI cG L ad al u9) t.heap) (cA L ad sz)) 0 0 (cA L ad sz) := by
  refine Met.ofW (cc := cX0_fill) (maxL := 9) (ret := none) (by decide) rfl ?_
  intro p e s m args below meth c s₁ B hml hv
  obtain ⟨rfl, hsz, hP, hC⟩ := hv
  subst hsz
  have X : FX RX0 wsX0_fill cX0_fill 9 none D cI cG cZ cJ ts L ad p s m _ meth c := ⟨B.exec, B.bytes, hml, findClass_of_methodNamed B.named, atoms_spec (ws := wsX0_fill) B.pre, B.returns, B.notSynchronized, hwd, hC⟩
  have hl := lv_entry ([.ref (ad 2), .int a1, .int a2]) (n := 9) (Nat.le_of_ble_eq_true rfl)
  rw [lg_entry_eq]
  generalize (lg_sl ([.ref (ad 2), .int a1, .int a2]) ++ List.replicate (9 - (lg_sl ([.ref (ad 2), .int a1, .int a2])).length) Slot.unset).toArray = ls at hl ⊢
  exact w_X0_fill hL X a1 a2 Q u _ _ _ h hP va_S.rf hl
set_option maxRecDepth 100000 in
set_option maxHeartbeats 4000000 in
theorem w_X1_put {p : Program} {l : Launch} {e : Env} {s : State} {m : MethodId} {args : Array Value} {below : List Frame} {meth : Method} {c : Code} {D : va_G} {cI cG cZ cJ : ClassId} {ts : Nat × Nat} {L : List Nat} {ad : Nat → Nat} {al : Nat} (hL : Lf L al) (X : FX RX1 wsX1_put cX1_put 4 none D cI cG cZ cJ ts L ad p s m args meth c) (a1 : Int32) (a2 : Int32) (a3 : Int32) (Q : St → Prop) (u : St) (H : Heap) (locs : List Loc) (ls : Array Slot) (h : f_X1_put al a1 a2 a3 u Q) (hP : va_P D vwCl (cW cI cG L ad al u) H) (hS : va_S (cA L ad s.heap.size) s.heap H locs) (hl : lv_has ls 4 [(0, .ref (ad 3)), (1, .int a1), (2, .int a2), (3, .int a3)]) : W p l e (headSpec wsX1_put { frames := 2, cells := 0, slots := 0, locals := 43 }).room s m args below meth c H locs 0 0 (MQ below (va_Qv Q (fun u9 t => va_P D vwCl (cW cI cG L ad al u9) t.heap) (cA L ad s.heap.size)) args s 0 0 (cA L ad s.heap.size)) (F0 m 0 ls []) := by
  obtain ⟨hx, hb, hml, hown, hts, hr, hlocks, hwd, hC⟩ := id X
  have hK := hC.1
  have m1 : 1 ∈ L := hL 1 (by omega)
  obtain ⟨i1, hi1⟩ := wL_ix m1
  have m3 : 3 ∈ L := hL 3 (by omega)
  obtain ⟨i3, hi3⟩ := wL_ix m3
  have m14 : 14 ∈ L := hL 14 (by omega)
  obtain ⟨i14, hi14⟩ := wL_ix m14
  have lk0 := hts (.fieldLink RX1 9 "FormForge$Equations" "cells" "[I") (by decide +kernel)
  have lk1 := hts (.fieldLink RX1 15 "FormForge$Equations" "field" "LFormForge$Field;") (by decide +kernel)
  have lk2 := hts (.initialized RX6) (by decide +kernel)
  have lk3 := hts (.static yX6_write) (by decide +kernel)
  have n1 : ∀ w ∈ wsX10, w ∈ wsX1_put := by decide +kernel
  have hN10 := hC.2.1 _ (List.mem_of_getElem? (i := 10) rfl)
  unfold f_X1_put at h
  refine lv_aload_n hx hb dX1_put_0 rfl (lv_at hl 0 rfl) ?_
  refine va_get (C := RX1) (T := TX1) (N := 4) hx hb hts n1 hown hK hP i3 (cg_3 hi3) rfl 1 (by decide) lk0 (fun _ h9 => h9) rfl dX1_put_1 ?_
  refine lv_iload_n hx hb dX1_put_4 rfl (lv_at hl 1 rfl) ?_
  refine lv_iconst (v := 5) hx hb dX1_put_5 (by decide) ?_
  refine lv_imul hx hb dX1_put_6 ?_
  refine lv_iload_n hx hb dX1_put_7 rfl (lv_at hl 2 rfl) ?_
  refine lv_iadd hx hb dX1_put_8 ?_
  refine lv_aload_n hx hb dX1_put_9 rfl (lv_at hl 0 rfl) ?_
  refine va_get (C := RX1) (T := TX1) (N := 4) hx hb hts n1 hown hK hP i3 (cg_3 hi3) rfl 0 (by decide) lk1 (fun _ h9 => h9) rfl dX1_put_10 ?_
  refine lv_iload_n hx hb dX1_put_13 rfl (lv_at hl 3 rfl) ?_
  refine cc_i (va_runV (C := RX2) (As := [.int a3]) (rest := [.int ((a1 * 5) + a2), .ref (ad 14)]) ⟨hx, hb, hml, hown, hts⟩ (c_X2_rest hL.g hwd H.size u a3 _ h) (cwV 1 hts gX1_put_X2_rest rfl rfl rfl (by decide +kernel) ⟨Nat.le_of_ble_eq_true rfl, Nat.le_of_ble_eq_true rfl⟩) (pcV hC hP hS (cg_1 hi1) rfl) rfl rfl hl.1 rfl (lv_room (Nat.le_of_ble_eq_true rfl)) dX1_put_14 ⟨Nat.zero_le _, Nat.zero_le _⟩) hS (cA_mono hS.1) (fun v1 u2 H locs h hP hS => ?_)
  refine cc_v (va_runSN (As := [.ref (ad 14), .int ((a1 * 5) + a2), .int v1]) (rest := []) ⟨hx, hb, hml, hown, hts⟩ (c_X6_write hL.g (Or.inl ⟨by decide, by decide⟩) m14 hwd H.size u2 ((a1 * 5) + a2) v1 _ h) ⟨va_cnB (host := RX6) 3 hts gX1_put_X6_write_n36 rfl rfl rfl hN10 lk2 (by decide +kernel) ⟨Nat.le_of_ble_eq_true rfl, Nat.le_of_ble_eq_true rfl⟩, lk3, trivial⟩ (pcS hC hP hS) rfl rfl hl.1 rfl (lv_room (Nat.le_of_ble_eq_true rfl)) dX1_put_17 ⟨Nat.zero_le _, Nat.zero_le _⟩) hS (cA_mono hS.1) (fun u3 H locs h hP hS => ?_)
  exact W.vret hx hb hr (fun t ht hW => ⟨⟨_, rfl, h, by show va_P _ _ _ t.heap; rw [ht]; exact hP⟩, hS.F ht⟩) hS.2.2 dX1_put_20
set_option maxRecDepth 100000 in
set_option maxHeartbeats 4000000 in
theorem c_X1_put {l : Launch} {D : va_G} {cI cG cZ cJ : ClassId} {ts : Nat × Nat} {L : List Nat} {ad : Nat → Nat} {al : Nat} (hL : Lf L al) (hwd : WD L ad) (sz : Nat) (u : St) (a1 : Int32) (a2 : Int32) (a3 : Int32) (Q : St → Prop) (h : f_X1_put al a1 a2 a3 u Q) : Met l yX1_put wsX1_put ({ frames := 2, cells := 0, slots := 0, locals := 43 }) (va_Pc [.ref (ad 3), .int a1, .int a2, .int a3] (PC D cI cG cZ cJ ts L ad al sz u)) (va_Qv Q (fun u9 t => va_P D vwCl (cW cI cG L ad al u9) t.heap) (cA L ad sz)) 0 0 (cA L ad sz) := by
  refine Met.ofW (cc := cX1_put) (maxL := 4) (ret := none) (by decide) rfl ?_
  intro p e s m args below meth c s₁ B hml hv
  obtain ⟨rfl, hsz, hP, hC⟩ := hv
  subst hsz
  have X : FX RX1 wsX1_put cX1_put 4 none D cI cG cZ cJ ts L ad p s m _ meth c := ⟨B.exec, B.bytes, hml, findClass_of_methodNamed B.named, atoms_spec (ws := wsX1_put) B.pre, B.returns, B.notSynchronized, hwd, hC⟩
  have hl := lv_entry ([.ref (ad 3), .int a1, .int a2, .int a3]) (n := 4) (Nat.le_of_ble_eq_true rfl)
  rw [lg_entry_eq]
  generalize (lg_sl ([.ref (ad 3), .int a1, .int a2, .int a3]) ++ List.replicate (4 - (lg_sl ([.ref (ad 3), .int a1, .int a2, .int a3])).length) Slot.unset).toArray = ls at hl ⊢
  exact w_X1_put hL X a1 a2 a3 Q u _ _ _ h hP va_S.rf hl
set_option maxRecDepth 100000 in
set_option maxHeartbeats 4000000 in
theorem w_X1_askToLeave_L12 {p : Program} {l : Launch} {e : Env} {s : State} {m : MethodId} {args : Array Value} {below : List Frame} {meth : Method} {c : Code} {D : va_G} {cI cG cZ cJ : ClassId} {ts : Nat × Nat} {L : List Nat} {ad : Nat → Nat} {al : Nat} (hL : Lf L al) (X : FX RX1 wsX1_askToLeave cX1_askToLeave 4 none D cI cG cZ cJ ts L ad p s m args meth c) (a2 : Int32) (Q : St → Prop)
    (K0 : St → Prop) (hk0 : ∀ (u : St) (H : Heap) (locs : List Loc) (ls : Array Slot), K0 u → va_P D vwCl (cW cI cG L ad al u) H → va_S (cA L ad s.heap.size) s.heap H locs → lv_has ls 4 [(0, .ref (ad 3)), (1, .ref (ad 2)), (2, .int a2)] → W p l e (headSpec wsX1_askToLeave { frames := 3, cells := 0, slots := 0, locals := 66 }).room s m args below meth c H locs 0 0 (MQ below (va_Qv Q (fun u9 t => va_P D vwCl (cW cI cG L ad al u9) t.heap) (cA L ad s.heap.size)) args s 0 0 (cA L ad s.heap.size)) (F0 m 52 ls []))
    : ∀ (n : Nat) (a3 : Int32) (u : St) (H : Heap) (locs : List Loc) (ls : Array Slot), f_X1_askToLeave_L12 al a2 Q K0 n a3 u → va_P D vwCl (cW cI cG L ad al u) H → va_S (cA L ad s.heap.size) s.heap H locs → lv_has ls 4 [(0, .ref (ad 3)), (1, .ref (ad 2)), (2, .int a2), (3, .int a3)] → W p l e (headSpec wsX1_askToLeave { frames := 3, cells := 0, slots := 0, locals := 66 }).room s m args below meth c H locs 0 0 (MQ below (va_Qv Q (fun u9 t => va_P D vwCl (cW cI cG L ad al u9) t.heap) (cA L ad s.heap.size)) args s 0 0 (cA L ad s.heap.size)) (F0 m 12 ls []) := by
  obtain ⟨hx, hb, hml, hown, hts, hr, hlocks, hwd, hC⟩ := id X
  have hK := hC.1
  have m2 : 2 ∈ L := hL 2 (by omega)
  obtain ⟨i2, hi2⟩ := wL_ix m2
  have m3 : 3 ∈ L := hL 3 (by omega)
  obtain ⟨i3, hi3⟩ := wL_ix m3
  have lk0 := hts (.fieldLink RX1 19 "FormForge$Equations" "unknowns" "I") (by decide +kernel)
  have lk1 := hts (.fieldLink RX1 23 "FormForge$Equations" "count" "I") (by decide +kernel)
  have n1 : ∀ w ∈ wsX10, w ∈ wsX1_askToLeave := by decide +kernel
  intro n
  induction n with
  | zero =>
    intro a3 u H locs ls h; exact h.elim
  | succ n ih =>
    intro a3 u H locs ls h hP hS hl
    replace h : f_X1_askToLeave_L12_s al a2 Q K0 (f_X1_askToLeave_L12 al a2 Q K0 n) a3 u := h
    unfold f_X1_askToLeave_L12_s at h
    refine lv_iload_n hx hb dX1_askToLeave_12 rfl (lv_at hl 3 rfl) ?_
    refine lv_aload_n hx hb dX1_askToLeave_13 rfl (lv_at hl 0 rfl) ?_
    refine va_get (C := RX1) (T := TX1) (N := 4) hx hb hts n1 hown hK hP i3 (cg_3 hi3) rfl 2 (by decide) lk0 (fun _ h9 => h9) rfl dX1_askToLeave_14 ?_
    refine lv_icmp_ge (tgt := 52) hx hb dX1_askToLeave_17 (by decide) (fun c2 => ?_) (fun c2 => ?_)
    · replace h := h.1 c2
      exact hk0  _ _ _ _ h hP hS (lv_sub hl [0, 1, 2] rfl)
    · replace h := h.2 c2
      refine lv_aload_n hx hb dX1_askToLeave_20 rfl (lv_at hl 0 rfl) ?_
      refine lv_aload_n hx hb dX1_askToLeave_21 rfl (lv_at hl 0 rfl) ?_
      refine va_get (C := RX1) (T := TX1) (N := 4) hx hb hts n1 hown hK hP i3 (cg_3 hi3) rfl 3 (by decide) lk1 (fun _ h9 => h9) rfl dX1_askToLeave_22 ?_
      refine lv_iload_n hx hb dX1_askToLeave_25 rfl (lv_at hl 3 rfl) ?_
      refine lv_aload_n hx hb dX1_askToLeave_26 rfl (lv_at hl 1 rfl) ?_
      refine lv_iload_n hx hb dX1_askToLeave_27 rfl (lv_at hl 3 rfl) ?_
      refine lv_iload_n hx hb dX1_askToLeave_28 rfl (lv_at hl 2 rfl) ?_
      refine cc_i (va_runV (C := RX0) (As := [.int a3, .int a2]) (rest := [.int a3, .int (u 0 3), .ref (ad 3)]) ⟨hx, hb, hml, hown, hts⟩ (c_X0_cell hL hwd H.size u a3 a2 _ h) (cwV 2 hts gX1_askToLeave_X0_cell rfl rfl rfl (by decide +kernel) ⟨Nat.le_of_ble_eq_true rfl, Nat.le_of_ble_eq_true rfl⟩) (pcV hC hP hS (cg_2 hi2) rfl) rfl rfl hl.1 rfl (lv_room (Nat.le_of_ble_eq_true rfl)) dX1_askToLeave_29 ⟨Nat.zero_le _, Nat.zero_le _⟩) hS (cA_mono hS.1) (fun v3 u4 H locs h hP hS => ?_)
      refine lv_iload_n hx hb dX1_askToLeave_32 rfl (lv_at hl 3 rfl) ?_
      refine lv_iload_n hx hb dX1_askToLeave_33 rfl (lv_at hl 2 rfl) ?_
      refine lv_icmp_ne (tgt := 41) hx hb dX1_askToLeave_34 (by decide) (fun c5 => ?_) (fun c5 => ?_)
      · replace h := h.1 c5
        refine lv_iconst (v := 0) hx hb dX1_askToLeave_41 (by decide) ?_
        refine lv_isub hx hb dX1_askToLeave_42 ?_
        refine cc_v (va_runV (C := RX1) (As := [.int (u 0 3), .int a3, .int (v3 - 0)]) (rest := []) ⟨hx, hb, hml, hown, hts⟩ (c_X1_put hL hwd H.size u4 (u 0 3) a3 (v3 - 0) _ h) (cwV 3 hts gX1_askToLeave_X1_put rfl rfl rfl (by decide +kernel) ⟨Nat.le_of_ble_eq_true rfl, Nat.le_of_ble_eq_true rfl⟩) (pcV hC hP hS (cg_3 hi3) rfl) rfl rfl hl.1 rfl (lv_room (Nat.le_of_ble_eq_true rfl)) dX1_askToLeave_43 ⟨Nat.zero_le _, Nat.zero_le _⟩) hS (cA_mono hS.1) (fun u6 H locs h hP hS => ?_)
        obtain ⟨v7, ev7⟩ : ∃ y : Int32, y = a3 + 1 := ⟨_, rfl⟩
        refine lv_iinc (v := v7) (lv' := [(3, .int v7), (0, .ref (ad 3)), (1, .ref (ad 2)), (2, .int a2)]) hx hb dX1_askToLeave_46 hl (k := 3) rfl (by rw [ev7]; rfl) (by decide) rfl (fun ls hl => ?_)
        replace h := h v7 ev7
        refine lv_goto (tgt := 12) hx hb dX1_askToLeave_49 (by decide) ?_
        exact ih v7 _ _ _ _ h hP hS (lv_sub hl [1, 2, 3, 0] rfl)
      · replace h := h.2 c5
        refine lv_iconst (v := 1) hx hb dX1_askToLeave_37 (by decide) ?_
        refine lv_goto (tgt := 42) hx hb dX1_askToLeave_38 (by decide) ?_
        refine lv_isub hx hb dX1_askToLeave_42 ?_
        refine cc_v (va_runV (C := RX1) (As := [.int (u 0 3), .int a3, .int (v3 - 1)]) (rest := []) ⟨hx, hb, hml, hown, hts⟩ (c_X1_put hL hwd H.size u4 (u 0 3) a3 (v3 - 1) _ h) (cwV 3 hts gX1_askToLeave_X1_put rfl rfl rfl (by decide +kernel) ⟨Nat.le_of_ble_eq_true rfl, Nat.le_of_ble_eq_true rfl⟩) (pcV hC hP hS (cg_3 hi3) rfl) rfl rfl hl.1 rfl (lv_room (Nat.le_of_ble_eq_true rfl)) dX1_askToLeave_43 ⟨Nat.zero_le _, Nat.zero_le _⟩) hS (cA_mono hS.1) (fun u8 H locs h hP hS => ?_)
        obtain ⟨v9, ev9⟩ : ∃ y : Int32, y = a3 + 1 := ⟨_, rfl⟩
        refine lv_iinc (v := v9) (lv' := [(3, .int v9), (0, .ref (ad 3)), (1, .ref (ad 2)), (2, .int a2)]) hx hb dX1_askToLeave_46 hl (k := 3) rfl (by rw [ev9]; rfl) (by decide) rfl (fun ls hl => ?_)
        replace h := h v9 ev9
        refine lv_goto (tgt := 12) hx hb dX1_askToLeave_49 (by decide) ?_
        exact ih v9 _ _ _ _ h hP hS (lv_sub hl [1, 2, 3, 0] rfl)
set_option maxRecDepth 100000 in
set_option maxHeartbeats 4000000 in
theorem w_X1_askToLeave_L2 {p : Program} {l : Launch} {e : Env} {s : State} {m : MethodId} {args : Array Value} {below : List Frame} {meth : Method} {c : Code} {D : va_G} {cI cG cZ cJ : ClassId} {ts : Nat × Nat} {L : List Nat} {ad : Nat → Nat} {al : Nat} (hL : Lf L al) (X : FX RX1 wsX1_askToLeave cX1_askToLeave 4 none D cI cG cZ cJ ts L ad p s m args meth c)  (Q : St → Prop)
    (K0 : St → Prop) (hk0 : ∀ (u : St) (H : Heap) (locs : List Loc) (ls : Array Slot), K0 u → va_P D vwCl (cW cI cG L ad al u) H → va_S (cA L ad s.heap.size) s.heap H locs → lv_has ls 4 [] → W p l e (headSpec wsX1_askToLeave { frames := 3, cells := 0, slots := 0, locals := 66 }).room s m args below meth c H locs 0 0 (MQ below (va_Qv Q (fun u9 t => va_P D vwCl (cW cI cG L ad al u9) t.heap) (cA L ad s.heap.size)) args s 0 0 (cA L ad s.heap.size)) (F0 m 68 ls []))
    : ∀ (n : Nat) (a2 : Int32) (u : St) (H : Heap) (locs : List Loc) (ls : Array Slot), f_X1_askToLeave_L2 al Q K0 n a2 u → va_P D vwCl (cW cI cG L ad al u) H → va_S (cA L ad s.heap.size) s.heap H locs → lv_has ls 4 [(0, .ref (ad 3)), (1, .ref (ad 2)), (2, .int a2)] → W p l e (headSpec wsX1_askToLeave { frames := 3, cells := 0, slots := 0, locals := 66 }).room s m args below meth c H locs 0 0 (MQ below (va_Qv Q (fun u9 t => va_P D vwCl (cW cI cG L ad al u9) t.heap) (cA L ad s.heap.size)) args s 0 0 (cA L ad s.heap.size)) (F0 m 2 ls []) := by
  obtain ⟨hx, hb, hml, hown, hts, hr, hlocks, hwd, hC⟩ := id X
  have hK := hC.1
  have m2 : 2 ∈ L := hL 2 (by omega)
  obtain ⟨i2, hi2⟩ := wL_ix m2
  have m3 : 3 ∈ L := hL 3 (by omega)
  obtain ⟨i3, hi3⟩ := wL_ix m3
  have lk0 := hts (.fieldLink RX1 19 "FormForge$Equations" "unknowns" "I") (by decide +kernel)
  have lk1 := hts (.fieldLink RX1 23 "FormForge$Equations" "count" "I") (by decide +kernel)
  have n1 : ∀ w ∈ wsX10, w ∈ wsX1_askToLeave := by decide +kernel
  intro n
  induction n with
  | zero =>
    intro a2 u H locs ls h; exact h.elim
  | succ n ih =>
    intro a2 u H locs ls h hP hS hl
    replace h : f_X1_askToLeave_L2_s al Q K0 (f_X1_askToLeave_L2 al Q K0 n) a2 u := h
    unfold f_X1_askToLeave_L2_s at h
    refine lv_iload_n hx hb dX1_askToLeave_2 rfl (lv_at hl 2 rfl) ?_
    refine lv_aload_n hx hb dX1_askToLeave_3 rfl (lv_at hl 0 rfl) ?_
    refine va_get (C := RX1) (T := TX1) (N := 4) hx hb hts n1 hown hK hP i3 (cg_3 hi3) rfl 2 (by decide) lk0 (fun _ h9 => h9) rfl dX1_askToLeave_4 ?_
    refine lv_icmp_ge (tgt := 68) hx hb dX1_askToLeave_7 (by decide) (fun c1 => ?_) (fun c1 => ?_)
    · replace h := h.1 c1
      exact hk0  _ _ _ _ h hP hS (lv_sub hl [] rfl)
    · replace h := h.2 c1
      refine lv_iconst (v := 0) hx hb dX1_askToLeave_10 (by decide) ?_
      refine lv_istore_n (lv' := [(3, .int 0), (0, .ref (ad 3)), (1, .ref (ad 2)), (2, .int a2)]) hx hb dX1_askToLeave_11 rfl hl (by decide) rfl (fun ls hl => ?_)
      obtain ⟨n10, h⟩ := h
      refine w_X1_askToLeave_L12 hL X a2 _ _ (fun u11 H locs ls h hP hS hl => ?_) n10 0 _ _ _ _ h hP hS (lv_sub hl [1, 2, 3, 0] rfl)
      refine lv_aload_n hx hb dX1_askToLeave_52 rfl (lv_at hl 0 rfl) ?_
      refine lv_dup hx hb dX1_askToLeave_53 rfl ?_
      refine va_get (C := RX1) (T := TX1) (N := 4) hx hb hts n1 hown hK hP i3 (cg_3 hi3) rfl 3 (by decide) lk1 (fun _ h9 => h9) rfl dX1_askToLeave_54 ?_
      refine lv_iconst (v := 1) hx hb dX1_askToLeave_57 (by decide) ?_
      refine lv_iadd hx hb dX1_askToLeave_58 ?_
      refine va_put (C := RX1) (T := TX1) (N := 4) (ty := .int) (v := .int ((u11 0 3) + 1)) hx hb hts n1 tyX1 tyX1_ok nmX1 hown hK hP (cD hwd) hS i3 (cg_3 hi3) rfl 3 (by decide) lk1 (fun _ h9 => h9) rfl (by decide +kernel) rfl rfl (Nat.le_of_ble_eq_true rfl) dX1_askToLeave_59 (fun H locs hP _ hS => ?_)
      replace hP := cu_ecnt hwd hi3 hP
      obtain ⟨u12, eu12⟩ : ∃ y : St, y = su u11 0 3 ((u11 0 3) + 1) := ⟨_, rfl⟩
      rw [← eu12] at hP
      replace h := h u12 eu12
      obtain ⟨v13, ev13⟩ : ∃ y : Int32, y = a2 + 1 := ⟨_, rfl⟩
      refine lv_iinc (v := v13) (lv' := [(2, .int v13), (0, .ref (ad 3)), (1, .ref (ad 2))]) hx hb dX1_askToLeave_62 hl (k := 2) rfl (by rw [ev13]; rfl) (by decide) rfl (fun ls hl => ?_)
      replace h := h v13 ev13
      refine lv_goto (tgt := 2) hx hb dX1_askToLeave_65 (by decide) ?_
      exact ih v13 _ _ _ _ h hP hS (lv_sub hl [1, 2, 0] rfl)
set_option maxRecDepth 100000 in
set_option maxHeartbeats 4000000 in
theorem w_X1_askToLeave {p : Program} {l : Launch} {e : Env} {s : State} {m : MethodId} {args : Array Value} {below : List Frame} {meth : Method} {c : Code} {D : va_G} {cI cG cZ cJ : ClassId} {ts : Nat × Nat} {L : List Nat} {ad : Nat → Nat} {al : Nat} (hL : Lf L al) (X : FX RX1 wsX1_askToLeave cX1_askToLeave 4 none D cI cG cZ cJ ts L ad p s m args meth c)  (Q : St → Prop) (u : St) (H : Heap) (locs : List Loc) (ls : Array Slot) (h : f_X1_askToLeave al u Q) (hP : va_P D vwCl (cW cI cG L ad al u) H) (hS : va_S (cA L ad s.heap.size) s.heap H locs) (hl : lv_has ls 4 [(0, .ref (ad 3)), (1, .ref (ad 2))]) : W p l e (headSpec wsX1_askToLeave { frames := 3, cells := 0, slots := 0, locals := 66 }).room s m args below meth c H locs 0 0 (MQ below (va_Qv Q (fun u9 t => va_P D vwCl (cW cI cG L ad al u9) t.heap) (cA L ad s.heap.size)) args s 0 0 (cA L ad s.heap.size)) (F0 m 0 ls []) := by
  obtain ⟨hx, hb, hml, hown, hts, hr, hlocks, hwd, hC⟩ := id X
  have hK := hC.1
  have m2 : 2 ∈ L := hL 2 (by omega)
  obtain ⟨i2, hi2⟩ := wL_ix m2
  have m3 : 3 ∈ L := hL 3 (by omega)
  obtain ⟨i3, hi3⟩ := wL_ix m3
  have lk0 := hts (.fieldLink RX1 19 "FormForge$Equations" "unknowns" "I") (by decide +kernel)
  have lk1 := hts (.fieldLink RX1 23 "FormForge$Equations" "count" "I") (by decide +kernel)
  have n1 : ∀ w ∈ wsX10, w ∈ wsX1_askToLeave := by decide +kernel
  unfold f_X1_askToLeave at h
  refine lv_iconst (v := 0) hx hb dX1_askToLeave_0 (by decide) ?_
  refine lv_istore_n (lv' := [(2, .int 0), (0, .ref (ad 3)), (1, .ref (ad 2))]) hx hb dX1_askToLeave_1 rfl hl (by decide) rfl (fun ls hl => ?_)
  obtain ⟨n14, h⟩ := h
  refine w_X1_askToLeave_L2 hL X _ _ (fun u15 H locs ls h hP hS hl => ?_) n14 0 _ _ _ _ h hP hS (lv_sub hl [1, 2, 0] rfl)
  exact W.vret hx hb hr (fun t ht hW => ⟨⟨_, rfl, h, by show va_P _ _ _ t.heap; rw [ht]; exact hP⟩, hS.F ht⟩) hS.2.2 dX1_askToLeave_68
set_option maxRecDepth 100000 in
set_option maxHeartbeats 4000000 in
theorem c_X1_askToLeave {l : Launch} {D : va_G} {cI cG cZ cJ : ClassId} {ts : Nat × Nat} {L : List Nat} {ad : Nat → Nat} {al : Nat} (hL : Lf L al) (hwd : WD L ad) (sz : Nat) (u : St) (Q : St → Prop) (h : f_X1_askToLeave al u Q) : Met l yX1_askToLeave wsX1_askToLeave ({ frames := 3, cells := 0, slots := 0, locals := 66 }) (va_Pc [.ref (ad 3), .ref (ad 2)] (PC D cI cG cZ cJ ts L ad al sz u)) (va_Qv Q (fun u9 t => va_P D vwCl (cW cI cG L ad al u9) t.heap) (cA L ad sz)) 0 0 (cA L ad sz) := by
  refine Met.ofW (cc := cX1_askToLeave) (maxL := 4) (ret := none) (by decide) rfl ?_
  intro p e s m args below meth c s₁ B hml hv
  obtain ⟨rfl, hsz, hP, hC⟩ := hv
  subst hsz
  have X : FX RX1 wsX1_askToLeave cX1_askToLeave 4 none D cI cG cZ cJ ts L ad p s m _ meth c := ⟨B.exec, B.bytes, hml, findClass_of_methodNamed B.named, atoms_spec (ws := wsX1_askToLeave) B.pre, B.returns, B.notSynchronized, hwd, hC⟩
  have hl := lv_entry ([.ref (ad 3), .ref (ad 2)]) (n := 4) (Nat.le_of_ble_eq_true rfl)
  rw [lg_entry_eq]
  generalize (lg_sl ([.ref (ad 3), .ref (ad 2)]) ++ List.replicate (4 - (lg_sl ([.ref (ad 3), .ref (ad 2)])).length) Slot.unset).toArray = ls at hl ⊢
  exact w_X1_askToLeave hL X Q u _ _ _ h hP va_S.rf hl
set_option maxRecDepth 100000 in
set_option maxHeartbeats 4000000 in
theorem w_X1_cell {p : Program} {l : Launch} {e : Env} {s : State} {m : MethodId} {args : Array Value} {below : List Frame} {meth : Method} {c : Code} {D : va_G} {cI cG cZ cJ : ClassId} {ts : Nat × Nat} {L : List Nat} {ad : Nat → Nat} {al : Nat} (hL : Lf L al) (X : FX RX1 wsX1_cell cX1_cell 3 (some .int) D cI cG cZ cJ ts L ad p s m args meth c) (a1 : Int32) (a2 : Int32) (Q : Int32 → St → Prop) (u : St) (H : Heap) (locs : List Loc) (ls : Array Slot) (h : f_X1_cell al a1 a2 u Q) (hP : va_P D vwCl (cW cI cG L ad al u) H) (hS : va_S (cA L ad s.heap.size) s.heap H locs) (hl : lv_has ls 3 [(0, .ref (ad 3)), (1, .int a1), (2, .int a2)]) : W p l e (headSpec wsX1_cell { frames := 1, cells := 0, slots := 0, locals := 21 }).room s m args below meth c H locs 0 0 (MQ below (va_Qi Q (fun u9 t => va_P D vwCl (cW cI cG L ad al u9) t.heap) (cA L ad s.heap.size)) args s 0 0 (cA L ad s.heap.size)) (F0 m 0 ls []) := by
  obtain ⟨hx, hb, hml, hown, hts, hr, hlocks, hwd, hC⟩ := id X
  have hK := hC.1
  have m3 : 3 ∈ L := hL 3 (by omega)
  obtain ⟨i3, hi3⟩ := wL_ix m3
  have m14 : 14 ∈ L := hL 14 (by omega)
  obtain ⟨i14, hi14⟩ := wL_ix m14
  have lk0 := hts (.fieldLink RX1 9 "FormForge$Equations" "cells" "[I") (by decide +kernel)
  have lk1 := hts (.initialized RX6) (by decide +kernel)
  have lk2 := hts (.static yX6_read) (by decide +kernel)
  have n1 : ∀ w ∈ wsX10, w ∈ wsX1_cell := by decide +kernel
  have hN11 := hC.2.1 _ (List.mem_of_getElem? (i := 11) rfl)
  unfold f_X1_cell at h
  refine lv_aload_n hx hb dX1_cell_0 rfl (lv_at hl 0 rfl) ?_
  refine va_get (C := RX1) (T := TX1) (N := 4) hx hb hts n1 hown hK hP i3 (cg_3 hi3) rfl 1 (by decide) lk0 (fun _ h9 => h9) rfl dX1_cell_1 ?_
  refine lv_iload_n hx hb dX1_cell_4 rfl (lv_at hl 1 rfl) ?_
  refine lv_iconst (v := 5) hx hb dX1_cell_5 (by decide) ?_
  refine lv_imul hx hb dX1_cell_6 ?_
  refine lv_iload_n hx hb dX1_cell_7 rfl (lv_at hl 2 rfl) ?_
  refine lv_iadd hx hb dX1_cell_8 ?_
  refine cc_i (va_runSN (As := [.ref (ad 14), .int ((a1 * 5) + a2)]) (rest := []) ⟨hx, hb, hml, hown, hts⟩ (c_X6_read hL.g (Or.inl ⟨by decide, by decide⟩) m14 hwd H.size u ((a1 * 5) + a2) _ h) ⟨va_cnB (host := RX6) 2 hts gX1_cell_X6_read_n26 rfl rfl rfl hN11 lk1 (by decide +kernel) ⟨Nat.le_of_ble_eq_true rfl, Nat.le_of_ble_eq_true rfl⟩, lk2, trivial⟩ (pcS hC hP hS) rfl rfl hl.1 rfl (lv_room (Nat.le_of_ble_eq_true rfl)) dX1_cell_9 ⟨Nat.zero_le _, Nat.zero_le _⟩) hS (cA_mono hS.1) (fun v1 u2 H locs h hP hS => ?_)
  exact W.iret (v := v1) hx hb hr (fun t ht hW => ⟨⟨_, _, rfl, h, by show va_P _ _ _ t.heap; rw [ht]; exact hP⟩, hS.F ht⟩) hS.2.2 dX1_cell_12
set_option maxRecDepth 100000 in
set_option maxHeartbeats 4000000 in
theorem c_X1_cell {l : Launch} {D : va_G} {cI cG cZ cJ : ClassId} {ts : Nat × Nat} {L : List Nat} {ad : Nat → Nat} {al : Nat} (hL : Lf L al) (hwd : WD L ad) (sz : Nat) (u : St) (a1 : Int32) (a2 : Int32) (Q : Int32 → St → Prop) (h : f_X1_cell al a1 a2 u Q) : Met l yX1_cell wsX1_cell ({ frames := 1, cells := 0, slots := 0, locals := 21 }) (va_Pc [.ref (ad 3), .int a1, .int a2] (PC D cI cG cZ cJ ts L ad al sz u)) (va_Qi Q (fun u9 t => va_P D vwCl (cW cI cG L ad al u9) t.heap) (cA L ad sz)) 0 0 (cA L ad sz) := by
  refine Met.ofW (cc := cX1_cell) (maxL := 3) (ret := (some .int)) (by decide) rfl ?_
  intro p e s m args below meth c s₁ B hml hv
  obtain ⟨rfl, hsz, hP, hC⟩ := hv
  subst hsz
  have X : FX RX1 wsX1_cell cX1_cell 3 (some .int) D cI cG cZ cJ ts L ad p s m _ meth c := ⟨B.exec, B.bytes, hml, findClass_of_methodNamed B.named, atoms_spec (ws := wsX1_cell) B.pre, B.returns, B.notSynchronized, hwd, hC⟩
  have hl := lv_entry ([.ref (ad 3), .int a1, .int a2]) (n := 3) (Nat.le_of_ble_eq_true rfl)
  rw [lg_entry_eq]
  generalize (lg_sl ([.ref (ad 3), .int a1, .int a2]) ++ List.replicate (3 - (lg_sl ([.ref (ad 3), .int a1, .int a2])).length) Slot.unset).toArray = ls at hl ⊢
  exact w_X1_cell hL X a1 a2 Q u _ _ _ h hP va_S.rf hl
set_option maxRecDepth 100000 in
set_option maxHeartbeats 4000000 in
theorem w_X1_findPivot_L2 {p : Program} {l : Launch} {e : Env} {s : State} {m : MethodId} {args : Array Value} {below : List Frame} {meth : Method} {c : Code} {D : va_G} {cI cG cZ cJ : ClassId} {ts : Nat × Nat} {L : List Nat} {ad : Nat → Nat} {al : Nat} (hL : Lf L al) (X : FX RX1 wsX1_findPivot cX1_findPivot 4 (some .int) D cI cG cZ cJ ts L ad p s m args meth c) (a2 : Int32) (Q : Int32 → St → Prop)
    (K0 : Int32 → St → Prop) (hk0 : ∀ (b3 : Int32) (u : St) (H : Heap) (locs : List Loc) (ls : Array Slot), K0 b3 u → va_P D vwCl (cW cI cG L ad al u) H → va_S (cA L ad s.heap.size) s.heap H locs → lv_has ls 4 [(3, .int b3)] → W p l e (headSpec wsX1_findPivot { frames := 2, cells := 0, slots := 0, locals := 43 }).room s m args below meth c H locs 0 0 (MQ below (va_Qi Q (fun u9 t => va_P D vwCl (cW cI cG L ad al u9) t.heap) (cA L ad s.heap.size)) args s 0 0 (cA L ad s.heap.size)) (F0 m 19 ls []))
    (K1 : St → Prop) (hk1 : ∀ (u : St) (H : Heap) (locs : List Loc) (ls : Array Slot), K1 u → va_P D vwCl (cW cI cG L ad al u) H → va_S (cA L ad s.heap.size) s.heap H locs → lv_has ls 4 [] → W p l e (headSpec wsX1_findPivot { frames := 2, cells := 0, slots := 0, locals := 43 }).room s m args below meth c H locs 0 0 (MQ below (va_Qi Q (fun u9 t => va_P D vwCl (cW cI cG L ad al u9) t.heap) (cA L ad s.heap.size)) args s 0 0 (cA L ad s.heap.size)) (F0 m 27 ls []))
    : ∀ (n : Nat) (a3 : Int32) (u : St) (H : Heap) (locs : List Loc) (ls : Array Slot), f_X1_findPivot_L2 al a2 Q K0 K1 n a3 u → va_P D vwCl (cW cI cG L ad al u) H → va_S (cA L ad s.heap.size) s.heap H locs → lv_has ls 4 [(0, .ref (ad 3)), (2, .int a2), (3, .int a3)] → W p l e (headSpec wsX1_findPivot { frames := 2, cells := 0, slots := 0, locals := 43 }).room s m args below meth c H locs 0 0 (MQ below (va_Qi Q (fun u9 t => va_P D vwCl (cW cI cG L ad al u9) t.heap) (cA L ad s.heap.size)) args s 0 0 (cA L ad s.heap.size)) (F0 m 2 ls []) := by
  obtain ⟨hx, hb, hml, hown, hts, hr, hlocks, hwd, hC⟩ := id X
  have hK := hC.1
  have m3 : 3 ∈ L := hL 3 (by omega)
  obtain ⟨i3, hi3⟩ := wL_ix m3
  have lk0 := hts (.fieldLink RX1 23 "FormForge$Equations" "count" "I") (by decide +kernel)
  have n1 : ∀ w ∈ wsX10, w ∈ wsX1_findPivot := by decide +kernel
  intro n
  induction n with
  | zero =>
    intro a3 u H locs ls h; exact h.elim
  | succ n ih =>
    intro a3 u H locs ls h hP hS hl
    replace h : f_X1_findPivot_L2_s al a2 Q K0 K1 (f_X1_findPivot_L2 al a2 Q K0 K1 n) a3 u := h
    unfold f_X1_findPivot_L2_s at h
    refine lv_iload_n hx hb dX1_findPivot_2 rfl (lv_at hl 2 rfl) ?_
    refine lv_aload_n hx hb dX1_findPivot_3 rfl (lv_at hl 0 rfl) ?_
    refine va_get (C := RX1) (T := TX1) (N := 4) hx hb hts n1 hown hK hP i3 (cg_3 hi3) rfl 3 (by decide) lk0 (fun _ h9 => h9) rfl dX1_findPivot_4 ?_
    refine lv_icmp_ge (tgt := 27) hx hb dX1_findPivot_7 (by decide) (fun c1 => ?_) (fun c1 => ?_)
    · replace h := h.1 c1
      exact hk1  _ _ _ _ h hP hS (lv_sub hl [] rfl)
    · replace h := h.2 c1
      refine lv_aload_n hx hb dX1_findPivot_10 rfl (lv_at hl 0 rfl) ?_
      refine lv_iload_n hx hb dX1_findPivot_11 rfl (lv_at hl 2 rfl) ?_
      refine lv_iload_n hx hb dX1_findPivot_12 rfl (lv_at hl 1 rfl) ?_
      refine cc_i (va_runV (C := RX1) (As := [.int a3, .int a2]) (rest := []) ⟨hx, hb, hml, hown, hts⟩ (c_X1_cell hL hwd H.size u a3 a2 _ h) (cwV 2 hts gX1_findPivot_X1_cell rfl rfl rfl (by decide +kernel) ⟨Nat.le_of_ble_eq_true rfl, Nat.le_of_ble_eq_true rfl⟩) (pcV hC hP hS (cg_3 hi3) rfl) rfl rfl hl.1 rfl (lv_room (Nat.le_of_ble_eq_true rfl)) dX1_findPivot_13 ⟨Nat.zero_le _, Nat.zero_le _⟩) hS (cA_mono hS.1) (fun v2 u3 H locs h hP hS => ?_)
      refine lv_if_eq (tgt := 21) hx hb dX1_findPivot_16 (by decide) (fun c4 => ?_) (fun c4 => ?_)
      · replace h := h.1 c4
        obtain ⟨v5, ev5⟩ : ∃ y : Int32, y = a3 + 1 := ⟨_, rfl⟩
        refine lv_iinc (v := v5) (lv' := [(3, .int v5), (0, .ref (ad 3)), (2, .int a2)]) hx hb dX1_findPivot_21 hl (k := 2) rfl (by rw [ev5]; rfl) (by decide) rfl (fun ls hl => ?_)
        replace h := h v5 ev5
        refine lv_goto (tgt := 2) hx hb dX1_findPivot_24 (by decide) ?_
        exact ih v5 _ _ _ _ h hP hS (lv_sub hl [1, 2, 0] rfl)
      · replace h := h.2 c4
        exact hk0 a3 _ _ _ _ h hP hS (lv_sub hl [2] rfl)
set_option maxRecDepth 100000 in
set_option maxHeartbeats 4000000 in
theorem w_X1_findPivot {p : Program} {l : Launch} {e : Env} {s : State} {m : MethodId} {args : Array Value} {below : List Frame} {meth : Method} {c : Code} {D : va_G} {cI cG cZ cJ : ClassId} {ts : Nat × Nat} {L : List Nat} {ad : Nat → Nat} {al : Nat} (hL : Lf L al) (X : FX RX1 wsX1_findPivot cX1_findPivot 4 (some .int) D cI cG cZ cJ ts L ad p s m args meth c) (a1 : Int32) (a2 : Int32) (Q : Int32 → St → Prop) (u : St) (H : Heap) (locs : List Loc) (ls : Array Slot) (h : f_X1_findPivot al a1 a2 u Q) (hP : va_P D vwCl (cW cI cG L ad al u) H) (hS : va_S (cA L ad s.heap.size) s.heap H locs) (hl : lv_has ls 4 [(0, .ref (ad 3)), (1, .int a1), (2, .int a2)]) : W p l e (headSpec wsX1_findPivot { frames := 2, cells := 0, slots := 0, locals := 43 }).room s m args below meth c H locs 0 0 (MQ below (va_Qi Q (fun u9 t => va_P D vwCl (cW cI cG L ad al u9) t.heap) (cA L ad s.heap.size)) args s 0 0 (cA L ad s.heap.size)) (F0 m 0 ls []) := by
  obtain ⟨hx, hb, hml, hown, hts, hr, hlocks, hwd, hC⟩ := id X
  have hK := hC.1
  have m3 : 3 ∈ L := hL 3 (by omega)
  obtain ⟨i3, hi3⟩ := wL_ix m3
  have lk0 := hts (.fieldLink RX1 23 "FormForge$Equations" "count" "I") (by decide +kernel)
  have n1 : ∀ w ∈ wsX10, w ∈ wsX1_findPivot := by decide +kernel
  unfold f_X1_findPivot at h
  refine lv_iload_n hx hb dX1_findPivot_0 rfl (lv_at hl 1 rfl) ?_
  refine lv_istore_n (lv' := [(3, .int a1), (0, .ref (ad 3)), (1, .int a1), (2, .int a2)]) hx hb dX1_findPivot_1 rfl hl (by decide) rfl (fun ls hl => ?_)
  obtain ⟨n6, h⟩ := h
  refine w_X1_findPivot_L2 hL X a2 _ _ (fun v7 u8 H locs ls h hP hS hl => ?_) _ (fun u9 H locs ls h hP hS hl => ?_) n6 a1 _ _ _ _ h hP hS (lv_sub hl [1, 3, 0] rfl)
  · refine lv_iload_n hx hb dX1_findPivot_19 rfl (lv_at hl 0 rfl) ?_
    exact W.iret (v := v7) hx hb hr (fun t ht hW => ⟨⟨_, _, rfl, h, by show va_P _ _ _ t.heap; rw [ht]; exact hP⟩, hS.F ht⟩) hS.2.2 dX1_findPivot_20
  · refine lv_iconst (v := (-1)) hx hb dX1_findPivot_27 (by decide) ?_
    exact W.iret (v := (-1)) hx hb hr (fun t ht hW => ⟨⟨_, _, rfl, h, by show va_P _ _ _ t.heap; rw [ht]; exact hP⟩, hS.F ht⟩) hS.2.2 dX1_findPivot_28
set_option maxRecDepth 100000 in
set_option maxHeartbeats 4000000 in
theorem c_X1_findPivot {l : Launch} {D : va_G} {cI cG cZ cJ : ClassId} {ts : Nat × Nat} {L : List Nat} {ad : Nat → Nat} {al : Nat} (hL : Lf L al) (hwd : WD L ad) (sz : Nat) (u : St) (a1 : Int32) (a2 : Int32) (Q : Int32 → St → Prop) (h : f_X1_findPivot al a1 a2 u Q) : Met l yX1_findPivot wsX1_findPivot ({ frames := 2, cells := 0, slots := 0, locals := 43 }) (va_Pc [.ref (ad 3), .int a1, .int a2] (PC D cI cG cZ cJ ts L ad al sz u)) (va_Qi Q (fun u9 t => va_P D vwCl (cW cI cG L ad al u9) t.heap) (cA L ad sz)) 0 0 (cA L ad sz) := by
  refine Met.ofW (cc := cX1_findPivot) (maxL := 4) (ret := (some .int)) (by decide) rfl ?_
  intro p e s m args below meth c s₁ B hml hv
  obtain ⟨rfl, hsz, hP, hC⟩ := hv
  subst hsz
  have X : FX RX1 wsX1_findPivot cX1_findPivot 4 (some .int) D cI cG cZ cJ ts L ad p s m _ meth c := ⟨B.exec, B.bytes, hml, findClass_of_methodNamed B.named, atoms_spec (ws := wsX1_findPivot) B.pre, B.returns, B.notSynchronized, hwd, hC⟩
  have hl := lv_entry ([.ref (ad 3), .int a1, .int a2]) (n := 4) (Nat.le_of_ble_eq_true rfl)
  rw [lg_entry_eq]
  generalize (lg_sl ([.ref (ad 3), .int a1, .int a2]) ++ List.replicate (4 - (lg_sl ([.ref (ad 3), .int a1, .int a2])).length) Slot.unset).toArray = ls at hl ⊢
  exact w_X1_findPivot hL X a1 a2 Q u _ _ _ h hP va_S.rf hl
set_option maxRecDepth 100000 in
set_option maxHeartbeats 4000000 in
theorem w_X1_swap_L2 {p : Program} {l : Launch} {e : Env} {s : State} {m : MethodId} {args : Array Value} {below : List Frame} {meth : Method} {c : Code} {D : va_G} {cI cG cZ cJ : ClassId} {ts : Nat × Nat} {L : List Nat} {ad : Nat → Nat} {al : Nat} (hL : Lf L al) (X : FX RX1 wsX1_swap cX1_swap 5 none D cI cG cZ cJ ts L ad p s m args meth c) (a1 : Int32) (a2 : Int32) (Q : St → Prop)
    (K0 : St → Prop) (hk0 : ∀ (u : St) (H : Heap) (locs : List Loc) (ls : Array Slot), K0 u → va_P D vwCl (cW cI cG L ad al u) H → va_S (cA L ad s.heap.size) s.heap H locs → lv_has ls 5 [] → W p l e (headSpec wsX1_swap { frames := 3, cells := 0, slots := 0, locals := 66 }).room s m args below meth c H locs 0 0 (MQ below (va_Qv Q (fun u9 t => va_P D vwCl (cW cI cG L ad al u9) t.heap) (cA L ad s.heap.size)) args s 0 0 (cA L ad s.heap.size)) (F0 m 44 ls []))
    : ∀ (n : Nat) (a3 : Int32) (u : St) (H : Heap) (locs : List Loc) (ls : Array Slot), f_X1_swap_L2 al a1 a2 Q K0 n a3 u → va_P D vwCl (cW cI cG L ad al u) H → va_S (cA L ad s.heap.size) s.heap H locs → lv_has ls 5 [(0, .ref (ad 3)), (1, .int a1), (2, .int a2), (3, .int a3)] → W p l e (headSpec wsX1_swap { frames := 3, cells := 0, slots := 0, locals := 66 }).room s m args below meth c H locs 0 0 (MQ below (va_Qv Q (fun u9 t => va_P D vwCl (cW cI cG L ad al u9) t.heap) (cA L ad s.heap.size)) args s 0 0 (cA L ad s.heap.size)) (F0 m 2 ls []) := by
  obtain ⟨hx, hb, hml, hown, hts, hr, hlocks, hwd, hC⟩ := id X
  have hK := hC.1
  have m3 : 3 ∈ L := hL 3 (by omega)
  obtain ⟨i3, hi3⟩ := wL_ix m3
  have lk0 := hts (.fieldLink RX1 19 "FormForge$Equations" "unknowns" "I") (by decide +kernel)
  have n1 : ∀ w ∈ wsX10, w ∈ wsX1_swap := by decide +kernel
  intro n
  induction n with
  | zero =>
    intro a3 u H locs ls h; exact h.elim
  | succ n ih =>
    intro a3 u H locs ls h hP hS hl
    replace h : f_X1_swap_L2_s al a1 a2 Q K0 (f_X1_swap_L2 al a1 a2 Q K0 n) a3 u := h
    unfold f_X1_swap_L2_s at h
    refine lv_iload_n hx hb dX1_swap_2 rfl (lv_at hl 3 rfl) ?_
    refine lv_aload_n hx hb dX1_swap_3 rfl (lv_at hl 0 rfl) ?_
    refine va_get (C := RX1) (T := TX1) (N := 4) hx hb hts n1 hown hK hP i3 (cg_3 hi3) rfl 2 (by decide) lk0 (fun _ h9 => h9) rfl dX1_swap_4 ?_
    refine lv_icmp_ge (tgt := 44) hx hb dX1_swap_7 (by decide) (fun c1 => ?_) (fun c1 => ?_)
    · replace h := h.1 c1
      exact hk0  _ _ _ _ h hP hS (lv_sub hl [] rfl)
    · replace h := h.2 c1
      refine lv_aload_n hx hb dX1_swap_10 rfl (lv_at hl 0 rfl) ?_
      refine lv_iload_n hx hb dX1_swap_11 rfl (lv_at hl 1 rfl) ?_
      refine lv_iload_n hx hb dX1_swap_12 rfl (lv_at hl 3 rfl) ?_
      refine cc_i (va_runV (C := RX1) (As := [.int a1, .int a3]) (rest := []) ⟨hx, hb, hml, hown, hts⟩ (c_X1_cell hL hwd H.size u a1 a3 _ h) (cwV 2 hts gX1_swap_X1_cell rfl rfl rfl (by decide +kernel) ⟨Nat.le_of_ble_eq_true rfl, Nat.le_of_ble_eq_true rfl⟩) (pcV hC hP hS (cg_3 hi3) rfl) rfl rfl hl.1 rfl (lv_room (Nat.le_of_ble_eq_true rfl)) dX1_swap_13 ⟨Nat.zero_le _, Nat.zero_le _⟩) hS (cA_mono hS.1) (fun v2 u3 H locs h hP hS => ?_)
      refine lv_istore (lv' := [(4, .int v2), (0, .ref (ad 3)), (1, .int a1), (2, .int a2), (3, .int a3)]) hx hb dX1_swap_16 hl (by decide) rfl (fun ls hl => ?_)
      refine lv_aload_n hx hb dX1_swap_18 rfl (lv_at hl 1 rfl) ?_
      refine lv_iload_n hx hb dX1_swap_19 rfl (lv_at hl 2 rfl) ?_
      refine lv_iload_n hx hb dX1_swap_20 rfl (lv_at hl 4 rfl) ?_
      refine lv_aload_n hx hb dX1_swap_21 rfl (lv_at hl 1 rfl) ?_
      refine lv_iload_n hx hb dX1_swap_22 rfl (lv_at hl 3 rfl) ?_
      refine lv_iload_n hx hb dX1_swap_23 rfl (lv_at hl 4 rfl) ?_
      refine cc_i (va_runV (C := RX1) (As := [.int a2, .int a3]) (rest := [.int a3, .int a1, .ref (ad 3)]) ⟨hx, hb, hml, hown, hts⟩ (c_X1_cell hL hwd H.size u3 a2 a3 _ h) (cwV 2 hts gX1_swap_X1_cell rfl rfl rfl (by decide +kernel) ⟨Nat.le_of_ble_eq_true rfl, Nat.le_of_ble_eq_true rfl⟩) (pcV hC hP hS (cg_3 hi3) rfl) rfl rfl hl.1 rfl (lv_room (Nat.le_of_ble_eq_true rfl)) dX1_swap_24 ⟨Nat.zero_le _, Nat.zero_le _⟩) hS (cA_mono hS.1) (fun v4 u5 H locs h hP hS => ?_)
      refine cc_v (va_runV (C := RX1) (As := [.int a1, .int a3, .int v4]) (rest := []) ⟨hx, hb, hml, hown, hts⟩ (c_X1_put hL hwd H.size u5 a1 a3 v4 _ h) (cwV 3 hts gX1_swap_X1_put rfl rfl rfl (by decide +kernel) ⟨Nat.le_of_ble_eq_true rfl, Nat.le_of_ble_eq_true rfl⟩) (pcV hC hP hS (cg_3 hi3) rfl) rfl rfl hl.1 rfl (lv_room (Nat.le_of_ble_eq_true rfl)) dX1_swap_27 ⟨Nat.zero_le _, Nat.zero_le _⟩) hS (cA_mono hS.1) (fun u6 H locs h hP hS => ?_)
      refine lv_aload_n hx hb dX1_swap_30 rfl (lv_at hl 1 rfl) ?_
      refine lv_iload_n hx hb dX1_swap_31 rfl (lv_at hl 3 rfl) ?_
      refine lv_iload_n hx hb dX1_swap_32 rfl (lv_at hl 4 rfl) ?_
      refine lv_iload hx hb dX1_swap_33 (lv_at hl 0 rfl) ?_
      refine cc_v (va_runV (C := RX1) (As := [.int a2, .int a3, .int v2]) (rest := []) ⟨hx, hb, hml, hown, hts⟩ (c_X1_put hL hwd H.size u6 a2 a3 v2 _ h) (cwV 3 hts gX1_swap_X1_put rfl rfl rfl (by decide +kernel) ⟨Nat.le_of_ble_eq_true rfl, Nat.le_of_ble_eq_true rfl⟩) (pcV hC hP hS (cg_3 hi3) rfl) rfl rfl hl.1 rfl (lv_room (Nat.le_of_ble_eq_true rfl)) dX1_swap_35 ⟨Nat.zero_le _, Nat.zero_le _⟩) hS (cA_mono hS.1) (fun u7 H locs h hP hS => ?_)
      obtain ⟨v8, ev8⟩ : ∃ y : Int32, y = a3 + 1 := ⟨_, rfl⟩
      refine lv_iinc (v := v8) (lv' := [(3, .int v8), (4, .int v2), (0, .ref (ad 3)), (1, .int a1), (2, .int a2)]) hx hb dX1_swap_38 hl (k := 4) rfl (by rw [ev8]; rfl) (by decide) rfl (fun ls hl => ?_)
      replace h := h v8 ev8
      refine lv_goto (tgt := 2) hx hb dX1_swap_41 (by decide) ?_
      exact ih v8 _ _ _ _ h hP hS (lv_sub hl [2, 3, 4, 0] rfl)
set_option maxRecDepth 100000 in
set_option maxHeartbeats 4000000 in
theorem w_X1_swap {p : Program} {l : Launch} {e : Env} {s : State} {m : MethodId} {args : Array Value} {below : List Frame} {meth : Method} {c : Code} {D : va_G} {cI cG cZ cJ : ClassId} {ts : Nat × Nat} {L : List Nat} {ad : Nat → Nat} {al : Nat} (hL : Lf L al) (X : FX RX1 wsX1_swap cX1_swap 5 none D cI cG cZ cJ ts L ad p s m args meth c) (a1 : Int32) (a2 : Int32) (Q : St → Prop) (u : St) (H : Heap) (locs : List Loc) (ls : Array Slot) (h : f_X1_swap al a1 a2 u Q) (hP : va_P D vwCl (cW cI cG L ad al u) H) (hS : va_S (cA L ad s.heap.size) s.heap H locs) (hl : lv_has ls 5 [(0, .ref (ad 3)), (1, .int a1), (2, .int a2)]) : W p l e (headSpec wsX1_swap { frames := 3, cells := 0, slots := 0, locals := 66 }).room s m args below meth c H locs 0 0 (MQ below (va_Qv Q (fun u9 t => va_P D vwCl (cW cI cG L ad al u9) t.heap) (cA L ad s.heap.size)) args s 0 0 (cA L ad s.heap.size)) (F0 m 0 ls []) := by
  obtain ⟨hx, hb, hml, hown, hts, hr, hlocks, hwd, hC⟩ := id X
  have hK := hC.1
  have m3 : 3 ∈ L := hL 3 (by omega)
  obtain ⟨i3, hi3⟩ := wL_ix m3
  have lk0 := hts (.fieldLink RX1 19 "FormForge$Equations" "unknowns" "I") (by decide +kernel)
  have n1 : ∀ w ∈ wsX10, w ∈ wsX1_swap := by decide +kernel
  unfold f_X1_swap at h
  refine lv_iconst (v := 0) hx hb dX1_swap_0 (by decide) ?_
  refine lv_istore_n (lv' := [(3, .int 0), (0, .ref (ad 3)), (1, .int a1), (2, .int a2)]) hx hb dX1_swap_1 rfl hl (by decide) rfl (fun ls hl => ?_)
  obtain ⟨n9, h⟩ := h
  refine w_X1_swap_L2 hL X a1 a2 _ _ (fun u10 H locs ls h hP hS hl => ?_) n9 0 _ _ _ _ h hP hS (lv_sub hl [1, 2, 3, 0] rfl)
  exact W.vret hx hb hr (fun t ht hW => ⟨⟨_, rfl, h, by show va_P _ _ _ t.heap; rw [ht]; exact hP⟩, hS.F ht⟩) hS.2.2 dX1_swap_44
set_option maxRecDepth 100000 in
set_option maxHeartbeats 4000000 in
theorem c_X1_swap {l : Launch} {D : va_G} {cI cG cZ cJ : ClassId} {ts : Nat × Nat} {L : List Nat} {ad : Nat → Nat} {al : Nat} (hL : Lf L al) (hwd : WD L ad) (sz : Nat) (u : St) (a1 : Int32) (a2 : Int32) (Q : St → Prop) (h : f_X1_swap al a1 a2 u Q) : Met l yX1_swap wsX1_swap ({ frames := 3, cells := 0, slots := 0, locals := 66 }) (va_Pc [.ref (ad 3), .int a1, .int a2] (PC D cI cG cZ cJ ts L ad al sz u)) (va_Qv Q (fun u9 t => va_P D vwCl (cW cI cG L ad al u9) t.heap) (cA L ad sz)) 0 0 (cA L ad sz) := by
  refine Met.ofW (cc := cX1_swap) (maxL := 5) (ret := none) (by decide) rfl ?_
  intro p e s m args below meth c s₁ B hml hv
  obtain ⟨rfl, hsz, hP, hC⟩ := hv
  subst hsz
  have X : FX RX1 wsX1_swap cX1_swap 5 none D cI cG cZ cJ ts L ad p s m _ meth c := ⟨B.exec, B.bytes, hml, findClass_of_methodNamed B.named, atoms_spec (ws := wsX1_swap) B.pre, B.returns, B.notSynchronized, hwd, hC⟩
  have hl := lv_entry ([.ref (ad 3), .int a1, .int a2]) (n := 5) (Nat.le_of_ble_eq_true rfl)
  rw [lg_entry_eq]
  generalize (lg_sl ([.ref (ad 3), .int a1, .int a2]) ++ List.replicate (5 - (lg_sl ([.ref (ad 3), .int a1, .int a2])).length) Slot.unset).toArray = ls at hl ⊢
  exact w_X1_swap hL X a1 a2 Q u _ _ _ h hP va_S.rf hl
set_option maxRecDepth 100000 in
set_option maxHeartbeats 4000000 in
theorem w_X1_clearBelow_L49 {p : Program} {l : Launch} {e : Env} {s : State} {m : MethodId} {args : Array Value} {below : List Frame} {meth : Method} {c : Code} {D : va_G} {cI cG cZ cJ : ClassId} {ts : Nat × Nat} {L : List Nat} {ad : Nat → Nat} {al : Nat} (hL : Lf L al) (X : FX RX1 wsX1_clearBelow cX1_clearBelow 7 none D cI cG cZ cJ ts L ad p s m args meth c) (a1 : Int32) (a2 : Int32) (a3 : Int32) (a4 : Int32) (a5 : Int32) (Q : St → Prop)
    (K0 : St → Prop) (hk0 : ∀ (u : St) (H : Heap) (locs : List Loc) (ls : Array Slot), K0 u → va_P D vwCl (cW cI cG L ad al u) H → va_S (cA L ad s.heap.size) s.heap H locs → lv_has ls 7 [(0, .ref (ad 3)), (1, .int a1), (2, .int a2), (3, .int a3), (4, .int a4)] → W p l e (headSpec wsX1_clearBelow { frames := 3, cells := 0, slots := 0, locals := 66 }).room s m args below meth c H locs 0 0 (MQ below (va_Qv Q (fun u9 t => va_P D vwCl (cW cI cG L ad al u9) t.heap) (cA L ad s.heap.size)) args s 0 0 (cA L ad s.heap.size)) (F0 m 96 ls []))
    : ∀ (n : Nat) (a6 : Int32) (u : St) (H : Heap) (locs : List Loc) (ls : Array Slot), f_X1_clearBelow_L49 al a1 a2 a3 a4 a5 Q K0 n a6 u → va_P D vwCl (cW cI cG L ad al u) H → va_S (cA L ad s.heap.size) s.heap H locs → lv_has ls 7 [(0, .ref (ad 3)), (1, .int a1), (2, .int a2), (3, .int a3), (4, .int a4), (5, .int a5), (6, .int a6)] → W p l e (headSpec wsX1_clearBelow { frames := 3, cells := 0, slots := 0, locals := 66 }).room s m args below meth c H locs 0 0 (MQ below (va_Qv Q (fun u9 t => va_P D vwCl (cW cI cG L ad al u9) t.heap) (cA L ad s.heap.size)) args s 0 0 (cA L ad s.heap.size)) (F0 m 49 ls []) := by
  obtain ⟨hx, hb, hml, hown, hts, hr, hlocks, hwd, hC⟩ := id X
  have hK := hC.1
  have m1 : 1 ∈ L := hL 1 (by omega)
  obtain ⟨i1, hi1⟩ := wL_ix m1
  have m3 : 3 ∈ L := hL 3 (by omega)
  obtain ⟨i3, hi3⟩ := wL_ix m3
  have lk0 := hts (.fieldLink RX1 15 "FormForge$Equations" "field" "LFormForge$Field;") (by decide +kernel)
  have lk1 := hts (.fieldLink RX1 23 "FormForge$Equations" "count" "I") (by decide +kernel)
  have lk2 := hts (.fieldLink RX1 19 "FormForge$Equations" "unknowns" "I") (by decide +kernel)
  have n1 : ∀ w ∈ wsX10, w ∈ wsX1_clearBelow := by decide +kernel
  intro n
  induction n with
  | zero =>
    intro a6 u H locs ls h; exact h.elim
  | succ n ih =>
    intro a6 u H locs ls h hP hS hl
    replace h : f_X1_clearBelow_L49_s al a1 a2 a3 a4 a5 Q K0 (f_X1_clearBelow_L49 al a1 a2 a3 a4 a5 Q K0 n) a6 u := h
    unfold f_X1_clearBelow_L49_s at h
    refine lv_iload hx hb dX1_clearBelow_49 (lv_at hl 5 rfl) ?_
    refine lv_if_eq (tgt := 96) hx hb dX1_clearBelow_51 (by decide) (fun c11 => ?_) (fun c11 => ?_)
    · replace h := h.1 c11
      exact hk0  _ _ _ _ h hP hS (lv_sub hl [0, 1, 2, 3, 4] rfl)
    · replace h := h.2 c11
      refine lv_iload hx hb dX1_clearBelow_54 (lv_at hl 6 rfl) ?_
      refine lv_aload_n hx hb dX1_clearBelow_56 rfl (lv_at hl 0 rfl) ?_
      refine va_get (C := RX1) (T := TX1) (N := 4) hx hb hts n1 hown hK hP i3 (cg_3 hi3) rfl 2 (by decide) lk2 (fun _ h9 => h9) rfl dX1_clearBelow_57 ?_
      refine lv_icmp_ge (tgt := 96) hx hb dX1_clearBelow_60 (by decide) (fun c12 => ?_) (fun c12 => ?_)
      · replace h := h.1 c12
        exact hk0  _ _ _ _ h hP hS (lv_sub hl [0, 1, 2, 3, 4] rfl)
      · replace h := h.2 c12
        refine lv_aload_n hx hb dX1_clearBelow_63 rfl (lv_at hl 0 rfl) ?_
        refine lv_iload hx hb dX1_clearBelow_64 (lv_at hl 4 rfl) ?_
        refine lv_iload hx hb dX1_clearBelow_66 (lv_at hl 6 rfl) ?_
        refine lv_aload_n hx hb dX1_clearBelow_68 rfl (lv_at hl 0 rfl) ?_
        refine lv_iload hx hb dX1_clearBelow_69 (lv_at hl 4 rfl) ?_
        refine lv_iload hx hb dX1_clearBelow_71 (lv_at hl 6 rfl) ?_
        refine cc_i (va_runV (C := RX1) (As := [.int a4, .int a6]) (rest := [.int a6, .int a4, .ref (ad 3)]) ⟨hx, hb, hml, hown, hts⟩ (c_X1_cell hL hwd H.size u a4 a6 _ h) (cwV 2 hts gX1_clearBelow_X1_cell rfl rfl rfl (by decide +kernel) ⟨Nat.le_of_ble_eq_true rfl, Nat.le_of_ble_eq_true rfl⟩) (pcV hC hP hS (cg_3 hi3) rfl) rfl rfl hl.1 rfl (lv_room (Nat.le_of_ble_eq_true rfl)) dX1_clearBelow_73 ⟨Nat.zero_le _, Nat.zero_le _⟩) hS (cA_mono hS.1) (fun v13 u14 H locs h hP hS => ?_)
        refine lv_iload hx hb dX1_clearBelow_76 (lv_at hl 5 rfl) ?_
        refine lv_aload_n hx hb dX1_clearBelow_78 rfl (lv_at hl 0 rfl) ?_
        refine lv_iload_n hx hb dX1_clearBelow_79 rfl (lv_at hl 1 rfl) ?_
        refine lv_iload hx hb dX1_clearBelow_80 (lv_at hl 6 rfl) ?_
        refine cc_i (va_runV (C := RX1) (As := [.int a1, .int a6]) (rest := [.int a5, .int v13, .int a6, .int a4, .ref (ad 3)]) ⟨hx, hb, hml, hown, hts⟩ (c_X1_cell hL hwd H.size u14 a1 a6 _ h) (cwV 2 hts gX1_clearBelow_X1_cell rfl rfl rfl (by decide +kernel) ⟨Nat.le_of_ble_eq_true rfl, Nat.le_of_ble_eq_true rfl⟩) (pcV hC hP hS (cg_3 hi3) rfl) rfl rfl hl.1 rfl (lv_room (Nat.le_of_ble_eq_true rfl)) dX1_clearBelow_82 ⟨Nat.zero_le _, Nat.zero_le _⟩) hS (cA_mono hS.1) (fun v15 u16 H locs h hP hS => ?_)
        refine lv_imul hx hb dX1_clearBelow_85 ?_
        refine lv_isub hx hb dX1_clearBelow_86 ?_
        refine cc_v (va_runV (C := RX1) (As := [.int a4, .int a6, .int (v13 - (a5 * v15))]) (rest := []) ⟨hx, hb, hml, hown, hts⟩ (c_X1_put hL hwd H.size u16 a4 a6 (v13 - (a5 * v15)) _ h) (cwV 3 hts gX1_clearBelow_X1_put rfl rfl rfl (by decide +kernel) ⟨Nat.le_of_ble_eq_true rfl, Nat.le_of_ble_eq_true rfl⟩) (pcV hC hP hS (cg_3 hi3) rfl) rfl rfl hl.1 rfl (lv_room (Nat.le_of_ble_eq_true rfl)) dX1_clearBelow_87 ⟨Nat.zero_le _, Nat.zero_le _⟩) hS (cA_mono hS.1) (fun u17 H locs h hP hS => ?_)
        obtain ⟨v18, ev18⟩ : ∃ y : Int32, y = a6 + 1 := ⟨_, rfl⟩
        refine lv_iinc (v := v18) (lv' := [(6, .int v18), (0, .ref (ad 3)), (1, .int a1), (2, .int a2), (3, .int a3), (4, .int a4), (5, .int a5)]) hx hb dX1_clearBelow_90 hl (k := 6) rfl (by rw [ev18]; rfl) (by decide) rfl (fun ls hl => ?_)
        replace h := h v18 ev18
        refine lv_goto (tgt := 49) hx hb dX1_clearBelow_93 (by decide) ?_
        exact ih v18 _ _ _ _ h hP hS (lv_sub hl [1, 2, 3, 4, 5, 6, 0] rfl)
set_option maxRecDepth 100000 in
set_option maxHeartbeats 4000000 in
theorem w_X1_clearBelow_L19 {p : Program} {l : Launch} {e : Env} {s : State} {m : MethodId} {args : Array Value} {below : List Frame} {meth : Method} {c : Code} {D : va_G} {cI cG cZ cJ : ClassId} {ts : Nat × Nat} {L : List Nat} {ad : Nat → Nat} {al : Nat} (hL : Lf L al) (X : FX RX1 wsX1_clearBelow cX1_clearBelow 7 none D cI cG cZ cJ ts L ad p s m args meth c) (a1 : Int32) (a2 : Int32) (a3 : Int32) (Q : St → Prop)
    (K0 : St → Prop) (hk0 : ∀ (u : St) (H : Heap) (locs : List Loc) (ls : Array Slot), K0 u → va_P D vwCl (cW cI cG L ad al u) H → va_S (cA L ad s.heap.size) s.heap H locs → lv_has ls 7 [] → W p l e (headSpec wsX1_clearBelow { frames := 3, cells := 0, slots := 0, locals := 66 }).room s m args below meth c H locs 0 0 (MQ below (va_Qv Q (fun u9 t => va_P D vwCl (cW cI cG L ad al u9) t.heap) (cA L ad s.heap.size)) args s 0 0 (cA L ad s.heap.size)) (F0 m 102 ls []))
    : ∀ (n : Nat) (a4 : Int32) (u : St) (H : Heap) (locs : List Loc) (ls : Array Slot), f_X1_clearBelow_L19 al a1 a2 a3 Q K0 n a4 u → va_P D vwCl (cW cI cG L ad al u) H → va_S (cA L ad s.heap.size) s.heap H locs → lv_has ls 7 [(0, .ref (ad 3)), (1, .int a1), (2, .int a2), (3, .int a3), (4, .int a4)] → W p l e (headSpec wsX1_clearBelow { frames := 3, cells := 0, slots := 0, locals := 66 }).room s m args below meth c H locs 0 0 (MQ below (va_Qv Q (fun u9 t => va_P D vwCl (cW cI cG L ad al u9) t.heap) (cA L ad s.heap.size)) args s 0 0 (cA L ad s.heap.size)) (F0 m 19 ls []) := by
  obtain ⟨hx, hb, hml, hown, hts, hr, hlocks, hwd, hC⟩ := id X
  have hK := hC.1
  have m1 : 1 ∈ L := hL 1 (by omega)
  obtain ⟨i1, hi1⟩ := wL_ix m1
  have m3 : 3 ∈ L := hL 3 (by omega)
  obtain ⟨i3, hi3⟩ := wL_ix m3
  have lk0 := hts (.fieldLink RX1 15 "FormForge$Equations" "field" "LFormForge$Field;") (by decide +kernel)
  have lk1 := hts (.fieldLink RX1 23 "FormForge$Equations" "count" "I") (by decide +kernel)
  have lk2 := hts (.fieldLink RX1 19 "FormForge$Equations" "unknowns" "I") (by decide +kernel)
  have n1 : ∀ w ∈ wsX10, w ∈ wsX1_clearBelow := by decide +kernel
  intro n
  induction n with
  | zero =>
    intro a4 u H locs ls h; exact h.elim
  | succ n ih =>
    intro a4 u H locs ls h hP hS hl
    replace h : f_X1_clearBelow_L19_s al a1 a2 a3 Q K0 (f_X1_clearBelow_L19 al a1 a2 a3 Q K0 n) a4 u := h
    unfold f_X1_clearBelow_L19_s at h
    refine lv_iload hx hb dX1_clearBelow_19 (lv_at hl 4 rfl) ?_
    refine lv_aload_n hx hb dX1_clearBelow_21 rfl (lv_at hl 0 rfl) ?_
    refine va_get (C := RX1) (T := TX1) (N := 4) hx hb hts n1 hown hK hP i3 (cg_3 hi3) rfl 3 (by decide) lk1 (fun _ h9 => h9) rfl dX1_clearBelow_22 ?_
    refine lv_icmp_ge (tgt := 102) hx hb dX1_clearBelow_25 (by decide) (fun c6 => ?_) (fun c6 => ?_)
    · replace h := h.1 c6
      exact hk0  _ _ _ _ h hP hS (lv_sub hl [] rfl)
    · replace h := h.2 c6
      refine lv_aload_n hx hb dX1_clearBelow_28 rfl (lv_at hl 0 rfl) ?_
      refine va_get (C := RX1) (T := TX1) (N := 4) hx hb hts n1 hown hK hP i3 (cg_3 hi3) rfl 0 (by decide) lk0 (fun _ h9 => h9) rfl dX1_clearBelow_29 ?_
      refine lv_aload_n hx hb dX1_clearBelow_32 rfl (lv_at hl 0 rfl) ?_
      refine lv_iload hx hb dX1_clearBelow_33 (lv_at hl 4 rfl) ?_
      refine lv_iload_n hx hb dX1_clearBelow_35 rfl (lv_at hl 2 rfl) ?_
      refine cc_i (va_runV (C := RX1) (As := [.int a4, .int a2]) (rest := [.ref (ad 1)]) ⟨hx, hb, hml, hown, hts⟩ (c_X1_cell hL hwd H.size u a4 a2 _ h) (cwV 2 hts gX1_clearBelow_X1_cell rfl rfl rfl (by decide +kernel) ⟨Nat.le_of_ble_eq_true rfl, Nat.le_of_ble_eq_true rfl⟩) (pcV hC hP hS (cg_3 hi3) rfl) rfl rfl hl.1 rfl (lv_room (Nat.le_of_ble_eq_true rfl)) dX1_clearBelow_36 ⟨Nat.zero_le _, Nat.zero_le _⟩) hS (cA_mono hS.1) (fun v7 u8 H locs h hP hS => ?_)
      refine lv_iload_n hx hb dX1_clearBelow_39 rfl (lv_at hl 3 rfl) ?_
      refine lv_imul hx hb dX1_clearBelow_40 ?_
      refine cc_i (va_runV (C := RX2) (As := [.int (v7 * a3)]) (rest := []) ⟨hx, hb, hml, hown, hts⟩ (c_X2_rest hL.g hwd H.size u8 (v7 * a3) _ h) (cwV 1 hts gX1_clearBelow_X2_rest rfl rfl rfl (by decide +kernel) ⟨Nat.le_of_ble_eq_true rfl, Nat.le_of_ble_eq_true rfl⟩) (pcV hC hP hS (cg_1 hi1) rfl) rfl rfl hl.1 rfl (lv_room (Nat.le_of_ble_eq_true rfl)) dX1_clearBelow_41 ⟨Nat.zero_le _, Nat.zero_le _⟩) hS (cA_mono hS.1) (fun v9 u10 H locs h hP hS => ?_)
      refine lv_istore (lv' := [(5, .int v9), (0, .ref (ad 3)), (1, .int a1), (2, .int a2), (3, .int a3), (4, .int a4)]) hx hb dX1_clearBelow_44 hl (by decide) rfl (fun ls hl => ?_)
      refine lv_iload_n hx hb dX1_clearBelow_46 rfl (lv_at hl 3 rfl) ?_
      refine lv_istore (lv' := [(6, .int a2), (5, .int v9), (0, .ref (ad 3)), (1, .int a1), (2, .int a2), (3, .int a3), (4, .int a4)]) hx hb dX1_clearBelow_47 hl (by decide) rfl (fun ls hl => ?_)
      obtain ⟨n19, h⟩ := h
      refine w_X1_clearBelow_L49 hL X a1 a2 a3 a4 v9 _ _ (fun u20 H locs ls h hP hS hl => ?_) n19 a2 _ _ _ _ h hP hS (lv_sub hl [2, 3, 4, 5, 6, 1, 0] rfl)
      obtain ⟨v21, ev21⟩ : ∃ y : Int32, y = a4 + 1 := ⟨_, rfl⟩
      refine lv_iinc (v := v21) (lv' := [(4, .int v21), (0, .ref (ad 3)), (1, .int a1), (2, .int a2), (3, .int a3)]) hx hb dX1_clearBelow_96 hl (k := 4) rfl (by rw [ev21]; rfl) (by decide) rfl (fun ls hl => ?_)
      replace h := h v21 ev21
      refine lv_goto (tgt := 19) hx hb dX1_clearBelow_99 (by decide) ?_
      exact ih v21 _ _ _ _ h hP hS (lv_sub hl [1, 2, 3, 4, 0] rfl)
set_option maxRecDepth 100000 in
set_option maxHeartbeats 4000000 in
theorem w_X1_clearBelow {p : Program} {l : Launch} {e : Env} {s : State} {m : MethodId} {args : Array Value} {below : List Frame} {meth : Method} {c : Code} {D : va_G} {cI cG cZ cJ : ClassId} {ts : Nat × Nat} {L : List Nat} {ad : Nat → Nat} {al : Nat} (hL : Lf L al) (X : FX RX1 wsX1_clearBelow cX1_clearBelow 7 none D cI cG cZ cJ ts L ad p s m args meth c) (a1 : Int32) (a2 : Int32) (Q : St → Prop) (u : St) (H : Heap) (locs : List Loc) (ls : Array Slot) (h : f_X1_clearBelow al a1 a2 u Q) (hP : va_P D vwCl (cW cI cG L ad al u) H) (hS : va_S (cA L ad s.heap.size) s.heap H locs) (hl : lv_has ls 7 [(0, .ref (ad 3)), (1, .int a1), (2, .int a2)]) : W p l e (headSpec wsX1_clearBelow { frames := 3, cells := 0, slots := 0, locals := 66 }).room s m args below meth c H locs 0 0 (MQ below (va_Qv Q (fun u9 t => va_P D vwCl (cW cI cG L ad al u9) t.heap) (cA L ad s.heap.size)) args s 0 0 (cA L ad s.heap.size)) (F0 m 0 ls []) := by
  obtain ⟨hx, hb, hml, hown, hts, hr, hlocks, hwd, hC⟩ := id X
  have hK := hC.1
  have m1 : 1 ∈ L := hL 1 (by omega)
  obtain ⟨i1, hi1⟩ := wL_ix m1
  have m3 : 3 ∈ L := hL 3 (by omega)
  obtain ⟨i3, hi3⟩ := wL_ix m3
  have lk0 := hts (.fieldLink RX1 15 "FormForge$Equations" "field" "LFormForge$Field;") (by decide +kernel)
  have lk1 := hts (.fieldLink RX1 23 "FormForge$Equations" "count" "I") (by decide +kernel)
  have lk2 := hts (.fieldLink RX1 19 "FormForge$Equations" "unknowns" "I") (by decide +kernel)
  have n1 : ∀ w ∈ wsX10, w ∈ wsX1_clearBelow := by decide +kernel
  unfold f_X1_clearBelow at h
  refine lv_aload_n hx hb dX1_clearBelow_0 rfl (lv_at hl 0 rfl) ?_
  refine va_get (C := RX1) (T := TX1) (N := 4) hx hb hts n1 hown hK hP i3 (cg_3 hi3) rfl 0 (by decide) lk0 (fun _ h9 => h9) rfl dX1_clearBelow_1 ?_
  refine lv_aload_n hx hb dX1_clearBelow_4 rfl (lv_at hl 0 rfl) ?_
  refine lv_iload_n hx hb dX1_clearBelow_5 rfl (lv_at hl 1 rfl) ?_
  refine lv_iload_n hx hb dX1_clearBelow_6 rfl (lv_at hl 2 rfl) ?_
  refine cc_i (va_runV (C := RX1) (As := [.int a1, .int a2]) (rest := [.ref (ad 1)]) ⟨hx, hb, hml, hown, hts⟩ (c_X1_cell hL hwd H.size u a1 a2 _ h) (cwV 2 hts gX1_clearBelow_X1_cell rfl rfl rfl (by decide +kernel) ⟨Nat.le_of_ble_eq_true rfl, Nat.le_of_ble_eq_true rfl⟩) (pcV hC hP hS (cg_3 hi3) rfl) rfl rfl hl.1 rfl (lv_room (Nat.le_of_ble_eq_true rfl)) dX1_clearBelow_7 ⟨Nat.zero_le _, Nat.zero_le _⟩) hS (cA_mono hS.1) (fun v1 u2 H locs h hP hS => ?_)
  refine cc_i (va_runV (C := RX2) (As := [.int v1]) (rest := []) ⟨hx, hb, hml, hown, hts⟩ (c_X2_inverse hL hwd H.size u2 v1 _ h) (cwV 1 hts gX1_clearBelow_X2_inverse rfl rfl rfl (by decide +kernel) ⟨Nat.le_of_ble_eq_true rfl, Nat.le_of_ble_eq_true rfl⟩) (pcV hC hP hS (cg_1 hi1) rfl) rfl rfl hl.1 rfl (lv_room (Nat.le_of_ble_eq_true rfl)) dX1_clearBelow_10 ⟨Nat.zero_le _, Nat.zero_le _⟩) hS (cA_mono hS.1) (fun v3 u4 H locs h hP hS => ?_)
  refine lv_istore_n (lv' := [(3, .int v3), (0, .ref (ad 3)), (1, .int a1), (2, .int a2)]) hx hb dX1_clearBelow_13 rfl hl (by decide) rfl (fun ls hl => ?_)
  refine lv_iload_n hx hb dX1_clearBelow_14 rfl (lv_at hl 2 rfl) ?_
  refine lv_iconst (v := 1) hx hb dX1_clearBelow_15 (by decide) ?_
  refine lv_iadd hx hb dX1_clearBelow_16 ?_
  refine lv_topi (fun v5 ev5 => ?_)
  replace h := h v5 ev5
  refine lv_istore (lv' := [(4, .int v5), (3, .int v3), (0, .ref (ad 3)), (1, .int a1), (2, .int a2)]) hx hb dX1_clearBelow_17 hl (by decide) rfl (fun ls hl => ?_)
  obtain ⟨n22, h⟩ := h
  refine w_X1_clearBelow_L19 hL X a1 a2 v3 _ _ (fun u23 H locs ls h hP hS hl => ?_) n22 v5 _ _ _ _ h hP hS (lv_sub hl [2, 3, 4, 1, 0] rfl)
  exact W.vret hx hb hr (fun t ht hW => ⟨⟨_, rfl, h, by show va_P _ _ _ t.heap; rw [ht]; exact hP⟩, hS.F ht⟩) hS.2.2 dX1_clearBelow_102
set_option maxRecDepth 100000 in
set_option maxHeartbeats 4000000 in
theorem c_X1_clearBelow {l : Launch} {D : va_G} {cI cG cZ cJ : ClassId} {ts : Nat × Nat} {L : List Nat} {ad : Nat → Nat} {al : Nat} (hL : Lf L al) (hwd : WD L ad) (sz : Nat) (u : St) (a1 : Int32) (a2 : Int32) (Q : St → Prop) (h : f_X1_clearBelow al a1 a2 u Q) : Met l yX1_clearBelow wsX1_clearBelow ({ frames := 3, cells := 0, slots := 0, locals := 66 }) (va_Pc [.ref (ad 3), .int a1, .int a2] (PC D cI cG cZ cJ ts L ad al sz u)) (va_Qv Q (fun u9 t => va_P D vwCl (cW cI cG L ad al u9) t.heap) (cA L ad sz)) 0 0 (cA L ad sz) := by
  refine Met.ofW (cc := cX1_clearBelow) (maxL := 7) (ret := none) (by decide) rfl ?_
  intro p e s m args below meth c s₁ B hml hv
  obtain ⟨rfl, hsz, hP, hC⟩ := hv
  subst hsz
  have X : FX RX1 wsX1_clearBelow cX1_clearBelow 7 none D cI cG cZ cJ ts L ad p s m _ meth c := ⟨B.exec, B.bytes, hml, findClass_of_methodNamed B.named, atoms_spec (ws := wsX1_clearBelow) B.pre, B.returns, B.notSynchronized, hwd, hC⟩
  have hl := lv_entry ([.ref (ad 3), .int a1, .int a2]) (n := 7) (Nat.le_of_ble_eq_true rfl)
  rw [lg_entry_eq]
  generalize (lg_sl ([.ref (ad 3), .int a1, .int a2]) ++ List.replicate (7 - (lg_sl ([.ref (ad 3), .int a1, .int a2])).length) Slot.unset).toArray = ls at hl ⊢
  exact w_X1_clearBelow hL X a1 a2 Q u _ _ _ h hP va_S.rf hl
set_option maxRecDepth 100000 in
set_option maxHeartbeats 4000000 in
theorem w_X1_freedom_L4 {p : Program} {l : Launch} {e : Env} {s : State} {m : MethodId} {args : Array Value} {below : List Frame} {meth : Method} {c : Code} {D : va_G} {cI cG cZ cJ : ClassId} {ts : Nat × Nat} {L : List Nat} {ad : Nat → Nat} {al : Nat} (hL : Lf L al) (X : FX RX1 wsX1_freedom cX1_freedom 4 (some .int) D cI cG cZ cJ ts L ad p s m args meth c)  (Q : Int32 → St → Prop)
    (K0 : Int32 → St → Prop) (hk0 : ∀ (b1 : Int32) (u : St) (H : Heap) (locs : List Loc) (ls : Array Slot), K0 b1 u → va_P D vwCl (cW cI cG L ad al u) H → va_S (cA L ad s.heap.size) s.heap H locs → lv_has ls 4 [(0, .ref (ad 3)), (1, .int b1)] → W p l e (headSpec wsX1_freedom { frames := 4, cells := 0, slots := 0, locals := 92 }).room s m args below meth c H locs 0 0 (MQ below (va_Qi Q (fun u9 t => va_P D vwCl (cW cI cG L ad al u9) t.heap) (cA L ad s.heap.size)) args s 0 0 (cA L ad s.heap.size)) (F0 m 45 ls []))
    : ∀ (n : Nat) (a1 : Int32) (a2 : Int32) (u : St) (H : Heap) (locs : List Loc) (ls : Array Slot), f_X1_freedom_L4 al Q K0 n a1 a2 u → va_P D vwCl (cW cI cG L ad al u) H → va_S (cA L ad s.heap.size) s.heap H locs → lv_has ls 4 [(0, .ref (ad 3)), (1, .int a1), (2, .int a2)] → W p l e (headSpec wsX1_freedom { frames := 4, cells := 0, slots := 0, locals := 92 }).room s m args below meth c H locs 0 0 (MQ below (va_Qi Q (fun u9 t => va_P D vwCl (cW cI cG L ad al u9) t.heap) (cA L ad s.heap.size)) args s 0 0 (cA L ad s.heap.size)) (F0 m 4 ls []) := by
  obtain ⟨hx, hb, hml, hown, hts, hr, hlocks, hwd, hC⟩ := id X
  have hK := hC.1
  have m3 : 3 ∈ L := hL 3 (by omega)
  obtain ⟨i3, hi3⟩ := wL_ix m3
  have lk0 := hts (.fieldLink RX1 19 "FormForge$Equations" "unknowns" "I") (by decide +kernel)
  have n1 : ∀ w ∈ wsX10, w ∈ wsX1_freedom := by decide +kernel
  intro n
  induction n with
  | zero =>
    intro a1 a2 u H locs ls h; exact h.elim
  | succ n ih =>
    intro a1 a2 u H locs ls h hP hS hl
    replace h : f_X1_freedom_L4_s al Q K0 (f_X1_freedom_L4 al Q K0 n) a1 a2 u := h
    unfold f_X1_freedom_L4_s at h
    refine lv_iload_n hx hb dX1_freedom_4 rfl (lv_at hl 2 rfl) ?_
    refine lv_aload_n hx hb dX1_freedom_5 rfl (lv_at hl 0 rfl) ?_
    refine va_get (C := RX1) (T := TX1) (N := 4) hx hb hts n1 hown hK hP i3 (cg_3 hi3) rfl 2 (by decide) lk0 (fun _ h9 => h9) rfl dX1_freedom_6 ?_
    refine lv_icmp_ge (tgt := 45) hx hb dX1_freedom_9 (by decide) (fun c1 => ?_) (fun c1 => ?_)
    · replace h := h.1 c1
      exact hk0 a1 _ _ _ _ h hP hS (lv_sub hl [0, 1] rfl)
    · replace h := h.2 c1
      refine lv_aload_n hx hb dX1_freedom_12 rfl (lv_at hl 0 rfl) ?_
      refine lv_iload_n hx hb dX1_freedom_13 rfl (lv_at hl 1 rfl) ?_
      refine lv_iload_n hx hb dX1_freedom_14 rfl (lv_at hl 2 rfl) ?_
      refine cc_i (va_runV (C := RX1) (As := [.int a1, .int a2]) (rest := []) ⟨hx, hb, hml, hown, hts⟩ (c_X1_findPivot hL hwd H.size u a1 a2 _ h) (cwV 2 hts gX1_freedom_X1_findPivot rfl rfl rfl (by decide +kernel) ⟨Nat.le_of_ble_eq_true rfl, Nat.le_of_ble_eq_true rfl⟩) (pcV hC hP hS (cg_3 hi3) rfl) rfl rfl hl.1 rfl (lv_room (Nat.le_of_ble_eq_true rfl)) dX1_freedom_15 ⟨Nat.zero_le _, Nat.zero_le _⟩) hS (cA_mono hS.1) (fun v2 u3 H locs h hP hS => ?_)
      refine lv_istore_n (lv' := [(3, .int v2), (0, .ref (ad 3)), (1, .int a1), (2, .int a2)]) hx hb dX1_freedom_18 rfl hl (by decide) rfl (fun ls hl => ?_)
      refine lv_iload_n hx hb dX1_freedom_19 rfl (lv_at hl 0 rfl) ?_
      refine lv_iconst (v := (-1)) hx hb dX1_freedom_20 (by decide) ?_
      refine lv_icmp_eq (tgt := 39) hx hb dX1_freedom_21 (by decide) (fun c4 => ?_) (fun c4 => ?_)
      · replace h := h.1 c4
        obtain ⟨v5, ev5⟩ : ∃ y : Int32, y = a2 + 1 := ⟨_, rfl⟩
        refine lv_iinc (v := v5) (lv' := [(2, .int v5), (3, .int v2), (0, .ref (ad 3)), (1, .int a1)]) hx hb dX1_freedom_39 hl (k := 3) rfl (by rw [ev5]; rfl) (by decide) rfl (fun ls hl => ?_)
        replace h := h v5 ev5
        refine lv_goto (tgt := 4) hx hb dX1_freedom_42 (by decide) ?_
        exact ih a1 v5 _ _ _ _ h hP hS (lv_sub hl [2, 3, 0] rfl)
      · replace h := h.2 c4
        refine lv_aload_n hx hb dX1_freedom_24 rfl (lv_at hl 1 rfl) ?_
        refine lv_iload_n hx hb dX1_freedom_25 rfl (lv_at hl 2 rfl) ?_
        refine lv_iload_n hx hb dX1_freedom_26 rfl (lv_at hl 0 rfl) ?_
        refine cc_v (va_runV (C := RX1) (As := [.int a1, .int v2]) (rest := []) ⟨hx, hb, hml, hown, hts⟩ (c_X1_swap hL hwd H.size u3 a1 v2 _ h) (cwV 2 hts gX1_freedom_X1_swap rfl rfl rfl (by decide +kernel) ⟨Nat.le_of_ble_eq_true rfl, Nat.le_of_ble_eq_true rfl⟩) (pcV hC hP hS (cg_3 hi3) rfl) rfl rfl hl.1 rfl (lv_room (Nat.le_of_ble_eq_true rfl)) dX1_freedom_27 ⟨Nat.zero_le _, Nat.zero_le _⟩) hS (cA_mono hS.1) (fun u6 H locs h hP hS => ?_)
        refine lv_aload_n hx hb dX1_freedom_30 rfl (lv_at hl 1 rfl) ?_
        refine lv_iload_n hx hb dX1_freedom_31 rfl (lv_at hl 2 rfl) ?_
        refine lv_iload_n hx hb dX1_freedom_32 rfl (lv_at hl 3 rfl) ?_
        refine cc_v (va_runV (C := RX1) (As := [.int a1, .int a2]) (rest := []) ⟨hx, hb, hml, hown, hts⟩ (c_X1_clearBelow hL hwd H.size u6 a1 a2 _ h) (cwV 2 hts gX1_freedom_X1_clearBelow rfl rfl rfl (by decide +kernel) ⟨Nat.le_of_ble_eq_true rfl, Nat.le_of_ble_eq_true rfl⟩) (pcV hC hP hS (cg_3 hi3) rfl) rfl rfl hl.1 rfl (lv_room (Nat.le_of_ble_eq_true rfl)) dX1_freedom_33 ⟨Nat.zero_le _, Nat.zero_le _⟩) hS (cA_mono hS.1) (fun u7 H locs h hP hS => ?_)
        obtain ⟨v8, ev8⟩ : ∃ y : Int32, y = a1 + 1 := ⟨_, rfl⟩
        refine lv_iinc (v := v8) (lv' := [(1, .int v8), (3, .int v2), (0, .ref (ad 3)), (2, .int a2)]) hx hb dX1_freedom_36 hl (k := 2) rfl (by rw [ev8]; rfl) (by decide) rfl (fun ls hl => ?_)
        replace h := h v8 ev8
        obtain ⟨v9, ev9⟩ : ∃ y : Int32, y = a2 + 1 := ⟨_, rfl⟩
        refine lv_iinc (v := v9) (lv' := [(2, .int v9), (1, .int v8), (3, .int v2), (0, .ref (ad 3))]) hx hb dX1_freedom_39 hl (k := 3) rfl (by rw [ev9]; rfl) (by decide) rfl (fun ls hl => ?_)
        replace h := h v9 ev9
        refine lv_goto (tgt := 4) hx hb dX1_freedom_42 (by decide) ?_
        exact ih v8 v9 _ _ _ _ h hP hS (lv_sub hl [3, 1, 0] rfl)
set_option maxRecDepth 100000 in
set_option maxHeartbeats 4000000 in
theorem w_X1_freedom {p : Program} {l : Launch} {e : Env} {s : State} {m : MethodId} {args : Array Value} {below : List Frame} {meth : Method} {c : Code} {D : va_G} {cI cG cZ cJ : ClassId} {ts : Nat × Nat} {L : List Nat} {ad : Nat → Nat} {al : Nat} (hL : Lf L al) (X : FX RX1 wsX1_freedom cX1_freedom 4 (some .int) D cI cG cZ cJ ts L ad p s m args meth c)  (Q : Int32 → St → Prop) (u : St) (H : Heap) (locs : List Loc) (ls : Array Slot) (h : f_X1_freedom al u Q) (hP : va_P D vwCl (cW cI cG L ad al u) H) (hS : va_S (cA L ad s.heap.size) s.heap H locs) (hl : lv_has ls 4 [(0, .ref (ad 3))]) : W p l e (headSpec wsX1_freedom { frames := 4, cells := 0, slots := 0, locals := 92 }).room s m args below meth c H locs 0 0 (MQ below (va_Qi Q (fun u9 t => va_P D vwCl (cW cI cG L ad al u9) t.heap) (cA L ad s.heap.size)) args s 0 0 (cA L ad s.heap.size)) (F0 m 0 ls []) := by
  obtain ⟨hx, hb, hml, hown, hts, hr, hlocks, hwd, hC⟩ := id X
  have hK := hC.1
  have m3 : 3 ∈ L := hL 3 (by omega)
  obtain ⟨i3, hi3⟩ := wL_ix m3
  have lk0 := hts (.fieldLink RX1 19 "FormForge$Equations" "unknowns" "I") (by decide +kernel)
  have n1 : ∀ w ∈ wsX10, w ∈ wsX1_freedom := by decide +kernel
  unfold f_X1_freedom at h
  refine lv_iconst (v := 0) hx hb dX1_freedom_0 (by decide) ?_
  refine lv_istore_n (lv' := [(1, .int 0), (0, .ref (ad 3))]) hx hb dX1_freedom_1 rfl hl (by decide) rfl (fun ls hl => ?_)
  refine lv_iconst (v := 0) hx hb dX1_freedom_2 (by decide) ?_
  refine lv_istore_n (lv' := [(2, .int 0), (1, .int 0), (0, .ref (ad 3))]) hx hb dX1_freedom_3 rfl hl (by decide) rfl (fun ls hl => ?_)
  obtain ⟨n10, h⟩ := h
  refine w_X1_freedom_L4 hL X _ _ (fun v11 u12 H locs ls h hP hS hl => ?_) n10 0 0 _ _ _ _ h hP hS (lv_sub hl [2, 1, 0] rfl)
  refine lv_aload_n hx hb dX1_freedom_45 rfl (lv_at hl 0 rfl) ?_
  refine va_get (C := RX1) (T := TX1) (N := 4) hx hb hts n1 hown hK hP i3 (cg_3 hi3) rfl 2 (by decide) lk0 (fun _ h9 => h9) rfl dX1_freedom_46 ?_
  refine lv_iload_n hx hb dX1_freedom_49 rfl (lv_at hl 1 rfl) ?_
  refine lv_isub hx hb dX1_freedom_50 ?_
  exact W.iret (v := ((u12 0 2) - v11)) hx hb hr (fun t ht hW => ⟨⟨_, _, rfl, h, by show va_P _ _ _ t.heap; rw [ht]; exact hP⟩, hS.F ht⟩) hS.2.2 dX1_freedom_51
set_option maxRecDepth 100000 in
set_option maxHeartbeats 4000000 in
theorem c_X1_freedom {l : Launch} {D : va_G} {cI cG cZ cJ : ClassId} {ts : Nat × Nat} {L : List Nat} {ad : Nat → Nat} {al : Nat} (hL : Lf L al) (hwd : WD L ad) (sz : Nat) (u : St) (Q : Int32 → St → Prop) (h : f_X1_freedom al u Q) : Met l yX1_freedom wsX1_freedom ({ frames := 4, cells := 0, slots := 0, locals := 92 }) (va_Pc [.ref (ad 3)] (PC D cI cG cZ cJ ts L ad al sz u)) (va_Qi Q (fun u9 t => va_P D vwCl (cW cI cG L ad al u9) t.heap) (cA L ad sz)) 0 0 (cA L ad sz) := by
  refine Met.ofW (cc := cX1_freedom) (maxL := 4) (ret := (some .int)) (by decide) rfl ?_
  intro p e s m args below meth c s₁ B hml hv
  obtain ⟨rfl, hsz, hP, hC⟩ := hv
  subst hsz
  have X : FX RX1 wsX1_freedom cX1_freedom 4 (some .int) D cI cG cZ cJ ts L ad p s m _ meth c := ⟨B.exec, B.bytes, hml, findClass_of_methodNamed B.named, atoms_spec (ws := wsX1_freedom) B.pre, B.returns, B.notSynchronized, hwd, hC⟩
  have hl := lv_entry ([.ref (ad 3)]) (n := 4) (Nat.le_of_ble_eq_true rfl)
  rw [lg_entry_eq]
  generalize (lg_sl ([.ref (ad 3)]) ++ List.replicate (4 - (lg_sl ([.ref (ad 3)])).length) Slot.unset).toArray = ls at hl ⊢
  exact w_X1_freedom hL X Q u _ _ _ h hP va_S.rf hl
set_option maxRecDepth 100000 in
set_option maxHeartbeats 4000000 in
theorem w_X2_exponent_L2 {p : Program} {l : Launch} {e : Env} {s : State} {m : MethodId} {args : Array Value} {below : List Frame} {meth : Method} {c : Code} {D : va_G} {cI cG cZ cJ : ClassId} {ts : Nat × Nat} {L : List Nat} {ad : Nat → Nat} {al : Nat} (hL : Lf L al) (X : FX RX2 wsX2_exponent cX2_exponent 3 (some .int) D cI cG cZ cJ ts L ad p s m args meth c) (a1 : Int32) (Q : Int32 → St → Prop)
    (K0 : Int32 → St → Prop) (hk0 : ∀ (b2 : Int32) (u : St) (H : Heap) (locs : List Loc) (ls : Array Slot), K0 b2 u → va_P D vwCl (cW cI cG L ad al u) H → va_S (cA L ad s.heap.size) s.heap H locs → lv_has ls 3 [(2, .int b2)] → W p l e (headSpec wsX2_exponent { frames := 1, cells := 0, slots := 0, locals := 23 }).room s m args below meth c H locs 0 0 (MQ below (va_Qi Q (fun u9 t => va_P D vwCl (cW cI cG L ad al u9) t.heap) (cA L ad s.heap.size)) args s 0 0 (cA L ad s.heap.size)) (F0 m 22 ls []))
    : ∀ (n : Nat) (a2 : Int32) (u : St) (H : Heap) (locs : List Loc) (ls : Array Slot), f_X2_exponent_L2 al a1 Q K0 n a2 u → va_P D vwCl (cW cI cG L ad al u) H → va_S (cA L ad s.heap.size) s.heap H locs → lv_has ls 3 [(0, .ref (ad 1)), (1, .int a1), (2, .int a2)] → W p l e (headSpec wsX2_exponent { frames := 1, cells := 0, slots := 0, locals := 23 }).room s m args below meth c H locs 0 0 (MQ below (va_Qi Q (fun u9 t => va_P D vwCl (cW cI cG L ad al u9) t.heap) (cA L ad s.heap.size)) args s 0 0 (cA L ad s.heap.size)) (F0 m 2 ls []) := by
  obtain ⟨hx, hb, hml, hown, hts, hr, hlocks, hwd, hC⟩ := id X
  have hK := hC.1
  have m1 : 1 ∈ L := hL 1 (by omega)
  obtain ⟨i1, hi1⟩ := wL_ix m1
  intro n
  induction n with
  | zero =>
    intro a2 u H locs ls h; exact h.elim
  | succ n ih =>
    intro a2 u H locs ls h hP hS hl
    replace h : f_X2_exponent_L2_s al a1 Q K0 (f_X2_exponent_L2 al a1 Q K0 n) a2 u := h
    unfold f_X2_exponent_L2_s at h
    refine lv_iload_n hx hb dX2_exponent_2 rfl (lv_at hl 2 rfl) ?_
    refine lv_iconst (v := 5) hx hb dX2_exponent_3 (by decide) ?_
    refine lv_icmp_ge (tgt := 22) hx hb dX2_exponent_4 (by decide) (fun c1 => ?_) (fun c1 => ?_)
    · replace h := h.1 c1
      exact hk0 a2 _ _ _ _ h hP hS (lv_sub hl [2] rfl)
    · replace h := h.2 c1
      refine lv_aload_n hx hb dX2_exponent_7 rfl (lv_at hl 0 rfl) ?_
      refine lv_iload_n hx hb dX2_exponent_8 rfl (lv_at hl 2 rfl) ?_
      refine cc_i (va_runV (C := RX2) (As := [.int a2]) (rest := []) ⟨hx, hb, hml, hown, hts⟩ (c_X2_howMany hL.g hwd H.size u a2 _ h) (cwV 1 hts gX2_exponent_X2_howMany rfl rfl rfl (by decide +kernel) ⟨Nat.le_of_ble_eq_true rfl, Nat.le_of_ble_eq_true rfl⟩) (pcV hC hP hS (cg_1 hi1) rfl) rfl rfl hl.1 rfl (lv_room (Nat.le_of_ble_eq_true rfl)) dX2_exponent_9 ⟨Nat.zero_le _, Nat.zero_le _⟩) hS (cA_mono hS.1) (fun v2 u3 H locs h hP hS => ?_)
      refine lv_iload_n hx hb dX2_exponent_12 rfl (lv_at hl 1 rfl) ?_
      refine lv_icmp_ge (tgt := 22) hx hb dX2_exponent_13 (by decide) (fun c4 => ?_) (fun c4 => ?_)
      · replace h := h.1 c4
        exact hk0 a2 _ _ _ _ h hP hS (lv_sub hl [2] rfl)
      · replace h := h.2 c4
        obtain ⟨v5, ev5⟩ : ∃ y : Int32, y = a2 + 1 := ⟨_, rfl⟩
        refine lv_iinc (v := v5) (lv' := [(2, .int v5), (0, .ref (ad 1)), (1, .int a1)]) hx hb dX2_exponent_16 hl (k := 2) rfl (by rw [ev5]; rfl) (by decide) rfl (fun ls hl => ?_)
        replace h := h v5 ev5
        refine lv_goto (tgt := 2) hx hb dX2_exponent_19 (by decide) ?_
        exact ih v5 _ _ _ _ h hP hS (lv_sub hl [1, 2, 0] rfl)
set_option maxRecDepth 100000 in
set_option maxHeartbeats 4000000 in
theorem w_X2_exponent {p : Program} {l : Launch} {e : Env} {s : State} {m : MethodId} {args : Array Value} {below : List Frame} {meth : Method} {c : Code} {D : va_G} {cI cG cZ cJ : ClassId} {ts : Nat × Nat} {L : List Nat} {ad : Nat → Nat} {al : Nat} (hL : Lf L al) (X : FX RX2 wsX2_exponent cX2_exponent 3 (some .int) D cI cG cZ cJ ts L ad p s m args meth c) (a1 : Int32) (Q : Int32 → St → Prop) (u : St) (H : Heap) (locs : List Loc) (ls : Array Slot) (h : f_X2_exponent al a1 u Q) (hP : va_P D vwCl (cW cI cG L ad al u) H) (hS : va_S (cA L ad s.heap.size) s.heap H locs) (hl : lv_has ls 3 [(0, .ref (ad 1)), (1, .int a1)]) : W p l e (headSpec wsX2_exponent { frames := 1, cells := 0, slots := 0, locals := 23 }).room s m args below meth c H locs 0 0 (MQ below (va_Qi Q (fun u9 t => va_P D vwCl (cW cI cG L ad al u9) t.heap) (cA L ad s.heap.size)) args s 0 0 (cA L ad s.heap.size)) (F0 m 0 ls []) := by
  obtain ⟨hx, hb, hml, hown, hts, hr, hlocks, hwd, hC⟩ := id X
  have hK := hC.1
  have m1 : 1 ∈ L := hL 1 (by omega)
  obtain ⟨i1, hi1⟩ := wL_ix m1
  unfold f_X2_exponent at h
  refine lv_iconst (v := 0) hx hb dX2_exponent_0 (by decide) ?_
  refine lv_istore_n (lv' := [(2, .int 0), (0, .ref (ad 1)), (1, .int a1)]) hx hb dX2_exponent_1 rfl hl (by decide) rfl (fun ls hl => ?_)
  obtain ⟨n6, h⟩ := h
  refine w_X2_exponent_L2 hL X a1 _ _ (fun v7 u8 H locs ls h hP hS hl => ?_) n6 0 _ _ _ _ h hP hS (lv_sub hl [1, 2, 0] rfl)
  refine lv_iload_n hx hb dX2_exponent_22 rfl (lv_at hl 0 rfl) ?_
  exact W.iret (v := v7) hx hb hr (fun t ht hW => ⟨⟨_, _, rfl, h, by show va_P _ _ _ t.heap; rw [ht]; exact hP⟩, hS.F ht⟩) hS.2.2 dX2_exponent_23
set_option maxRecDepth 100000 in
set_option maxHeartbeats 4000000 in
theorem c_X2_exponent {l : Launch} {D : va_G} {cI cG cZ cJ : ClassId} {ts : Nat × Nat} {L : List Nat} {ad : Nat → Nat} {al : Nat} (hL : Lf L al) (hwd : WD L ad) (sz : Nat) (u : St) (a1 : Int32) (Q : Int32 → St → Prop) (h : f_X2_exponent al a1 u Q) : Met l yX2_exponent wsX2_exponent ({ frames := 1, cells := 0, slots := 0, locals := 23 }) (va_Pc [.ref (ad 1), .int a1] (PC D cI cG cZ cJ ts L ad al sz u)) (va_Qi Q (fun u9 t => va_P D vwCl (cW cI cG L ad al u9) t.heap) (cA L ad sz)) 0 0 (cA L ad sz) := by
  refine Met.ofW (cc := cX2_exponent) (maxL := 3) (ret := (some .int)) (by decide) rfl ?_
  intro p e s m args below meth c s₁ B hml hv
  obtain ⟨rfl, hsz, hP, hC⟩ := hv
  subst hsz
  have X : FX RX2 wsX2_exponent cX2_exponent 3 (some .int) D cI cG cZ cJ ts L ad p s m _ meth c := ⟨B.exec, B.bytes, hml, findClass_of_methodNamed B.named, atoms_spec (ws := wsX2_exponent) B.pre, B.returns, B.notSynchronized, hwd, hC⟩
  have hl := lv_entry ([.ref (ad 1), .int a1]) (n := 3) (Nat.le_of_ble_eq_true rfl)
  rw [lg_entry_eq]
  generalize (lg_sl ([.ref (ad 1), .int a1]) ++ List.replicate (3 - (lg_sl ([.ref (ad 1), .int a1])).length) Slot.unset).toArray = ls at hl ⊢
  exact w_X2_exponent hL X a1 Q u _ _ _ h hP va_S.rf hl
set_option maxRecDepth 100000 in
set_option maxHeartbeats 4000000 in
theorem w_X2_code_L7 {p : Program} {l : Launch} {e : Env} {s : State} {m : MethodId} {args : Array Value} {below : List Frame} {meth : Method} {c : Code} {D : va_G} {cI cG cZ cJ : ClassId} {ts : Nat × Nat} {L : List Nat} {ad : Nat → Nat} {al : Nat} {k1 : Nat} (hL : Lf L al) (hka1 : isA k1) (hm1 : k1 ∈ L) (X : FX RX2 wsX2_code cX2_code 5 (some .int) D cI cG cZ cJ ts L ad p s m args meth c)  (Q : Int32 → St → Prop)
    (K0 : Int32 → St → Prop) (hk0 : ∀ (b3 : Int32) (u : St) (H : Heap) (locs : List Loc) (ls : Array Slot), K0 b3 u → va_P D vwCl (cW cI cG L ad al u) H → va_S (cA L ad s.heap.size) s.heap H locs → lv_has ls 5 [(3, .int b3)] → W p l e (headSpec wsX2_code { frames := 1, cells := 0, slots := 0, locals := 21 }).room s m args below meth c H locs 0 0 (MQ below (va_Qi Q (fun u9 t => va_P D vwCl (cW cI cG L ad al u9) t.heap) (cA L ad s.heap.size)) args s 0 0 (cA L ad s.heap.size)) (F0 m 32 ls []))
    : ∀ (n : Nat) (a3 : Int32) (a4 : Int32) (u : St) (H : Heap) (locs : List Loc) (ls : Array Slot), f_X2_code_L7 al k1 Q K0 n a3 a4 u → va_P D vwCl (cW cI cG L ad al u) H → va_S (cA L ad s.heap.size) s.heap H locs → lv_has ls 5 [(0, .ref (ad 1)), (1, .ref (ad k1)), (3, .int a3), (4, .int a4)] → W p l e (headSpec wsX2_code { frames := 1, cells := 0, slots := 0, locals := 21 }).room s m args below meth c H locs 0 0 (MQ below (va_Qi Q (fun u9 t => va_P D vwCl (cW cI cG L ad al u9) t.heap) (cA L ad s.heap.size)) args s 0 0 (cA L ad s.heap.size)) (F0 m 7 ls []) := by
  obtain ⟨hx, hb, hml, hown, hts, hr, hlocks, hwd, hC⟩ := id X
  have hK := hC.1
  have m1 : 1 ∈ L := hL 1 (by omega)
  obtain ⟨i1, hi1⟩ := wL_ix m1
  obtain ⟨ik1, hik1⟩ := wL_ix hm1
  have lk0 := hts (.fieldLink RX2 9 "FormForge$Field" "p" "I") (by decide +kernel)
  have lk1 := hts (.initialized RX6) (by decide +kernel)
  have lk2 := hts (.static yX6_read) (by decide +kernel)
  have n2 : ∀ w ∈ wsX20, w ∈ wsX2_code := by decide +kernel
  have hN12 := hC.2.1 _ (List.mem_of_getElem? (i := 12) rfl)
  intro n
  induction n with
  | zero =>
    intro a3 a4 u H locs ls h; exact h.elim
  | succ n ih =>
    intro a3 a4 u H locs ls h hP hS hl
    replace h : f_X2_code_L7_s al k1 Q K0 (f_X2_code_L7 al k1 Q K0 n) a3 a4 u := h
    unfold f_X2_code_L7_s at h
    refine lv_iload hx hb dX2_code_7 (lv_at hl 3 rfl) ?_
    refine lv_if_lt (tgt := 32) hx hb dX2_code_9 (by decide) (fun c2 => ?_) (fun c2 => ?_)
    · replace h := h.1 c2
      exact hk0 a3 _ _ _ _ h hP hS (lv_sub hl [2] rfl)
    · replace h := h.2 c2
      refine lv_iload_n hx hb dX2_code_12 rfl (lv_at hl 2 rfl) ?_
      refine lv_aload_n hx hb dX2_code_13 rfl (lv_at hl 0 rfl) ?_
      refine va_get (C := RX2) (T := TX2) (N := 1) hx hb hts n2 hown hK hP i1 (cg_1 hi1) rfl 0 (by decide) lk0 (fun _ h9 => h9) rfl dX2_code_14 ?_
      refine lv_imul hx hb dX2_code_17 ?_
      refine lv_aload_n hx hb dX2_code_18 rfl (lv_at hl 1 rfl) ?_
      refine lv_iload hx hb dX2_code_19 (lv_at hl 3 rfl) ?_
      refine cc_i (va_runSN (As := [.ref (ad k1), .int a4]) (rest := [.int (a3 * (u 0 0))]) ⟨hx, hb, hml, hown, hts⟩ (c_X6_read hL.g hka1 hm1 hwd H.size u a4 _ h) ⟨va_cnB (host := RX6) 2 hts gX2_code_X6_read_n32 rfl rfl rfl hN12 lk1 (by decide +kernel) ⟨Nat.le_of_ble_eq_true rfl, Nat.le_of_ble_eq_true rfl⟩, lk2, trivial⟩ (pcS hC hP hS) rfl rfl hl.1 rfl (lv_room (Nat.le_of_ble_eq_true rfl)) dX2_code_21 ⟨Nat.zero_le _, Nat.zero_le _⟩) hS (cA_mono hS.1) (fun v3 u4 H locs h hP hS => ?_)
      refine lv_iadd hx hb dX2_code_24 ?_
      refine lv_topi (fun v5 ev5 => ?_)
      replace h := h v5 ev5
      refine lv_istore_n (lv' := [(3, .int v5), (0, .ref (ad 1)), (1, .ref (ad k1)), (4, .int a4)]) hx hb dX2_code_25 rfl hl (by decide) rfl (fun ls hl => ?_)
      obtain ⟨v6, ev6⟩ : ∃ y : Int32, y = a4 + (-1) := ⟨_, rfl⟩
      refine lv_iinc (v := v6) (lv' := [(4, .int v6), (3, .int v5), (0, .ref (ad 1)), (1, .ref (ad k1))]) hx hb dX2_code_26 hl (k := 3) rfl (by rw [ev6]; rfl) (by decide) rfl (fun ls hl => ?_)
      replace h := h v6 ev6
      refine lv_goto (tgt := 7) hx hb dX2_code_29 (by decide) ?_
      exact ih v5 v6 _ _ _ _ h hP hS (lv_sub hl [2, 3, 1, 0] rfl)
set_option maxRecDepth 100000 in
set_option maxHeartbeats 4000000 in
theorem w_X2_code {p : Program} {l : Launch} {e : Env} {s : State} {m : MethodId} {args : Array Value} {below : List Frame} {meth : Method} {c : Code} {D : va_G} {cI cG cZ cJ : ClassId} {ts : Nat × Nat} {L : List Nat} {ad : Nat → Nat} {al : Nat} {k1 : Nat} (hL : Lf L al) (hka1 : isA k1) (hm1 : k1 ∈ L) (X : FX RX2 wsX2_code cX2_code 5 (some .int) D cI cG cZ cJ ts L ad p s m args meth c) (a2 : Int32) (Q : Int32 → St → Prop) (u : St) (H : Heap) (locs : List Loc) (ls : Array Slot) (h : f_X2_code al k1 a2 u Q) (hP : va_P D vwCl (cW cI cG L ad al u) H) (hS : va_S (cA L ad s.heap.size) s.heap H locs) (hl : lv_has ls 5 [(0, .ref (ad 1)), (1, .ref (ad k1)), (2, .int a2)]) : W p l e (headSpec wsX2_code { frames := 1, cells := 0, slots := 0, locals := 21 }).room s m args below meth c H locs 0 0 (MQ below (va_Qi Q (fun u9 t => va_P D vwCl (cW cI cG L ad al u9) t.heap) (cA L ad s.heap.size)) args s 0 0 (cA L ad s.heap.size)) (F0 m 0 ls []) := by
  obtain ⟨hx, hb, hml, hown, hts, hr, hlocks, hwd, hC⟩ := id X
  have hK := hC.1
  have m1 : 1 ∈ L := hL 1 (by omega)
  obtain ⟨i1, hi1⟩ := wL_ix m1
  obtain ⟨ik1, hik1⟩ := wL_ix hm1
  have lk0 := hts (.fieldLink RX2 9 "FormForge$Field" "p" "I") (by decide +kernel)
  have lk1 := hts (.initialized RX6) (by decide +kernel)
  have lk2 := hts (.static yX6_read) (by decide +kernel)
  have n2 : ∀ w ∈ wsX20, w ∈ wsX2_code := by decide +kernel
  have hN12 := hC.2.1 _ (List.mem_of_getElem? (i := 12) rfl)
  unfold f_X2_code at h
  refine lv_iconst (v := 0) hx hb dX2_code_0 (by decide) ?_
  refine lv_istore_n (lv' := [(3, .int 0), (0, .ref (ad 1)), (1, .ref (ad k1)), (2, .int a2)]) hx hb dX2_code_1 rfl hl (by decide) rfl (fun ls hl => ?_)
  refine lv_iload_n hx hb dX2_code_2 rfl (lv_at hl 3 rfl) ?_
  refine lv_iconst (v := 1) hx hb dX2_code_3 (by decide) ?_
  refine lv_isub hx hb dX2_code_4 ?_
  refine lv_topi (fun v1 ev1 => ?_)
  replace h := h v1 ev1
  refine lv_istore (lv' := [(4, .int v1), (3, .int 0), (0, .ref (ad 1)), (1, .ref (ad k1)), (2, .int a2)]) hx hb dX2_code_5 hl (by decide) rfl (fun ls hl => ?_)
  obtain ⟨n7, h⟩ := h
  refine w_X2_code_L7 hL hka1 hm1 X _ _ (fun v8 u9 H locs ls h hP hS hl => ?_) n7 0 v1 _ _ _ _ h hP hS (lv_sub hl [2, 3, 1, 0] rfl)
  refine lv_iload_n hx hb dX2_code_32 rfl (lv_at hl 0 rfl) ?_
  exact W.iret (v := v8) hx hb hr (fun t ht hW => ⟨⟨_, _, rfl, h, by show va_P _ _ _ t.heap; rw [ht]; exact hP⟩, hS.F ht⟩) hS.2.2 dX2_code_33
set_option maxRecDepth 100000 in
set_option maxHeartbeats 4000000 in
theorem c_X2_code {l : Launch} {D : va_G} {cI cG cZ cJ : ClassId} {ts : Nat × Nat} {L : List Nat} {ad : Nat → Nat} {al : Nat} {k1 : Nat} (hL : Lf L al) (hka1 : isA k1) (hm1 : k1 ∈ L) (hwd : WD L ad) (sz : Nat) (u : St) (a2 : Int32) (Q : Int32 → St → Prop) (h : f_X2_code al k1 a2 u Q) : Met l yX2_code wsX2_code ({ frames := 1, cells := 0, slots := 0, locals := 21 }) (va_Pc [.ref (ad 1), .ref (ad k1), .int a2] (PC D cI cG cZ cJ ts L ad al sz u)) (va_Qi Q (fun u9 t => va_P D vwCl (cW cI cG L ad al u9) t.heap) (cA L ad sz)) 0 0 (cA L ad sz) := by
  refine Met.ofW (cc := cX2_code) (maxL := 5) (ret := (some .int)) (by decide) rfl ?_
  intro p e s m args below meth c s₁ B hml hv
  obtain ⟨rfl, hsz, hP, hC⟩ := hv
  subst hsz
  have X : FX RX2 wsX2_code cX2_code 5 (some .int) D cI cG cZ cJ ts L ad p s m _ meth c := ⟨B.exec, B.bytes, hml, findClass_of_methodNamed B.named, atoms_spec (ws := wsX2_code) B.pre, B.returns, B.notSynchronized, hwd, hC⟩
  have hl := lv_entry ([.ref (ad 1), .ref (ad k1), .int a2]) (n := 5) (Nat.le_of_ble_eq_true rfl)
  rw [lg_entry_eq]
  generalize (lg_sl ([.ref (ad 1), .ref (ad k1), .int a2]) ++ List.replicate (5 - (lg_sl ([.ref (ad 1), .ref (ad k1), .int a2])).length) Slot.unset).toArray = ls at hl ⊢
  exact w_X2_code hL hka1 hm1 X a2 Q u _ _ _ h hP va_S.rf hl
set_option maxRecDepth 100000 in
set_option maxHeartbeats 4000000 in
theorem w_X2_determinant {p : Program} {l : Launch} {e : Env} {s : State} {m : MethodId} {args : Array Value} {below : List Frame} {meth : Method} {c : Code} {D : va_G} {cI cG cZ cJ : ClassId} {ts : Nat × Nat} {L : List Nat} {ad : Nat → Nat} {al : Nat} (hL : Lf L al) (X : FX RX2 wsX2_determinant cX2_determinant 2 (some .int) D cI cG cZ cJ ts L ad p s m args meth c) (a1 : Int32) (Q : Int32 → St → Prop) (u : St) (H : Heap) (locs : List Loc) (ls : Array Slot) (h : f_X2_determinant al a1 u Q) (hP : va_P D vwCl (cW cI cG L ad al u) H) (hS : va_S (cA L ad s.heap.size) s.heap H locs) (hl : lv_has ls 2 [(0, .ref (ad 1)), (1, .int a1)]) : W p l e (headSpec wsX2_determinant { frames := 3, cells := 0, slots := 0, locals := 66 }).room s m args below meth c H locs 0 0 (MQ below (va_Qi Q (fun u9 t => va_P D vwCl (cW cI cG L ad al u9) t.heap) (cA L ad s.heap.size)) args s 0 0 (cA L ad s.heap.size)) (F0 m 0 ls []) := by
  obtain ⟨hx, hb, hml, hown, hts, hr, hlocks, hwd, hC⟩ := id X
  have hK := hC.1
  have m1 : 1 ∈ L := hL 1 (by omega)
  obtain ⟨i1, hi1⟩ := wL_ix m1
  unfold f_X2_determinant at h
  refine lv_aload_n hx hb dX2_determinant_0 rfl (lv_at hl 0 rfl) ?_
  refine lv_aload_n hx hb dX2_determinant_1 rfl (lv_at hl 0 rfl) ?_
  refine lv_iload_n hx hb dX2_determinant_2 rfl (lv_at hl 1 rfl) ?_
  refine lv_iconst (v := 0) hx hb dX2_determinant_3 (by decide) ?_
  refine cc_i (va_runV (C := RX2) (As := [.int a1, .int 0]) (rest := [.ref (ad 1)]) ⟨hx, hb, hml, hown, hts⟩ (c_X2_digit hL.g hwd H.size u a1 0 _ h) (cwV 2 hts gX2_determinant_X2_digit rfl rfl rfl (by decide +kernel) ⟨Nat.le_of_ble_eq_true rfl, Nat.le_of_ble_eq_true rfl⟩) (pcV hC hP hS (cg_1 hi1) rfl) rfl rfl hl.1 rfl (lv_room (Nat.le_of_ble_eq_true rfl)) dX2_determinant_4 ⟨Nat.zero_le _, Nat.zero_le _⟩) hS (cA_mono hS.1) (fun v1 u2 H locs h hP hS => ?_)
  refine lv_aload_n hx hb dX2_determinant_7 rfl (lv_at hl 0 rfl) ?_
  refine lv_iload_n hx hb dX2_determinant_8 rfl (lv_at hl 1 rfl) ?_
  refine lv_iconst (v := 3) hx hb dX2_determinant_9 (by decide) ?_
  refine cc_i (va_runV (C := RX2) (As := [.int a1, .int 3]) (rest := [.int v1, .ref (ad 1)]) ⟨hx, hb, hml, hown, hts⟩ (c_X2_digit hL.g hwd H.size u2 a1 3 _ h) (cwV 2 hts gX2_determinant_X2_digit rfl rfl rfl (by decide +kernel) ⟨Nat.le_of_ble_eq_true rfl, Nat.le_of_ble_eq_true rfl⟩) (pcV hC hP hS (cg_1 hi1) rfl) rfl rfl hl.1 rfl (lv_room (Nat.le_of_ble_eq_true rfl)) dX2_determinant_10 ⟨Nat.zero_le _, Nat.zero_le _⟩) hS (cA_mono hS.1) (fun v3 u4 H locs h hP hS => ?_)
  refine lv_imul hx hb dX2_determinant_13 ?_
  refine lv_aload_n hx hb dX2_determinant_14 rfl (lv_at hl 0 rfl) ?_
  refine lv_iload_n hx hb dX2_determinant_15 rfl (lv_at hl 1 rfl) ?_
  refine lv_iconst (v := 1) hx hb dX2_determinant_16 (by decide) ?_
  refine cc_i (va_runV (C := RX2) (As := [.int a1, .int 1]) (rest := [.int (v1 * v3), .ref (ad 1)]) ⟨hx, hb, hml, hown, hts⟩ (c_X2_digit hL.g hwd H.size u4 a1 1 _ h) (cwV 2 hts gX2_determinant_X2_digit rfl rfl rfl (by decide +kernel) ⟨Nat.le_of_ble_eq_true rfl, Nat.le_of_ble_eq_true rfl⟩) (pcV hC hP hS (cg_1 hi1) rfl) rfl rfl hl.1 rfl (lv_room (Nat.le_of_ble_eq_true rfl)) dX2_determinant_17 ⟨Nat.zero_le _, Nat.zero_le _⟩) hS (cA_mono hS.1) (fun v5 u6 H locs h hP hS => ?_)
  refine lv_aload_n hx hb dX2_determinant_20 rfl (lv_at hl 0 rfl) ?_
  refine lv_iload_n hx hb dX2_determinant_21 rfl (lv_at hl 1 rfl) ?_
  refine lv_iconst (v := 2) hx hb dX2_determinant_22 (by decide) ?_
  refine cc_i (va_runV (C := RX2) (As := [.int a1, .int 2]) (rest := [.int v5, .int (v1 * v3), .ref (ad 1)]) ⟨hx, hb, hml, hown, hts⟩ (c_X2_digit hL.g hwd H.size u6 a1 2 _ h) (cwV 2 hts gX2_determinant_X2_digit rfl rfl rfl (by decide +kernel) ⟨Nat.le_of_ble_eq_true rfl, Nat.le_of_ble_eq_true rfl⟩) (pcV hC hP hS (cg_1 hi1) rfl) rfl rfl hl.1 rfl (lv_room (Nat.le_of_ble_eq_true rfl)) dX2_determinant_23 ⟨Nat.zero_le _, Nat.zero_le _⟩) hS (cA_mono hS.1) (fun v7 u8 H locs h hP hS => ?_)
  refine lv_imul hx hb dX2_determinant_26 ?_
  refine lv_isub hx hb dX2_determinant_27 ?_
  refine cc_i (va_runV (C := RX2) (As := [.int ((v1 * v3) - (v5 * v7))]) (rest := []) ⟨hx, hb, hml, hown, hts⟩ (c_X2_rest hL.g hwd H.size u8 ((v1 * v3) - (v5 * v7)) _ h) (cwV 1 hts gX2_determinant_X2_rest rfl rfl rfl (by decide +kernel) ⟨Nat.le_of_ble_eq_true rfl, Nat.le_of_ble_eq_true rfl⟩) (pcV hC hP hS (cg_1 hi1) rfl) rfl rfl hl.1 rfl (lv_room (Nat.le_of_ble_eq_true rfl)) dX2_determinant_28 ⟨Nat.zero_le _, Nat.zero_le _⟩) hS (cA_mono hS.1) (fun v9 u10 H locs h hP hS => ?_)
  exact W.iret (v := v9) hx hb hr (fun t ht hW => ⟨⟨_, _, rfl, h, by show va_P _ _ _ t.heap; rw [ht]; exact hP⟩, hS.F ht⟩) hS.2.2 dX2_determinant_31
set_option maxRecDepth 100000 in
set_option maxHeartbeats 4000000 in
theorem c_X2_determinant {l : Launch} {D : va_G} {cI cG cZ cJ : ClassId} {ts : Nat × Nat} {L : List Nat} {ad : Nat → Nat} {al : Nat} (hL : Lf L al) (hwd : WD L ad) (sz : Nat) (u : St) (a1 : Int32) (Q : Int32 → St → Prop) (h : f_X2_determinant al a1 u Q) : Met l yX2_determinant wsX2_determinant ({ frames := 3, cells := 0, slots := 0, locals := 66 }) (va_Pc [.ref (ad 1), .int a1] (PC D cI cG cZ cJ ts L ad al sz u)) (va_Qi Q (fun u9 t => va_P D vwCl (cW cI cG L ad al u9) t.heap) (cA L ad sz)) 0 0 (cA L ad sz) := by
  refine Met.ofW (cc := cX2_determinant) (maxL := 2) (ret := (some .int)) (by decide) rfl ?_
  intro p e s m args below meth c s₁ B hml hv
  obtain ⟨rfl, hsz, hP, hC⟩ := hv
  subst hsz
  have X : FX RX2 wsX2_determinant cX2_determinant 2 (some .int) D cI cG cZ cJ ts L ad p s m _ meth c := ⟨B.exec, B.bytes, hml, findClass_of_methodNamed B.named, atoms_spec (ws := wsX2_determinant) B.pre, B.returns, B.notSynchronized, hwd, hC⟩
  have hl := lv_entry ([.ref (ad 1), .int a1]) (n := 2) (Nat.le_of_ble_eq_true rfl)
  rw [lg_entry_eq]
  generalize (lg_sl ([.ref (ad 1), .int a1]) ++ List.replicate (2 - (lg_sl ([.ref (ad 1), .int a1])).length) Slot.unset).toArray = ls at hl ⊢
  exact w_X2_determinant hL X a1 Q u _ _ _ h hP va_S.rf hl
set_option maxRecDepth 100000 in
set_option maxHeartbeats 4000000 in
theorem w_X5_stepsTo {p : Program} {l : Launch} {e : Env} {s : State} {m : MethodId} {args : Array Value} {below : List Frame} {meth : Method} {c : Code} {D : va_G} {cI cG cZ cJ : ClassId} {ts : Nat × Nat} {L : List Nat} {ad : Nat → Nat} {al : Nat} (hL : Lf L al) (X : FX RX5 wsX5_stepsTo cX5_stepsTo 2 (some .int) D cI cG cZ cJ ts L ad p s m args meth c) (a1 : Int32) (Q : Int32 → St → Prop) (u : St) (H : Heap) (locs : List Loc) (ls : Array Slot) (h : f_X5_stepsTo al a1 u Q) (hP : va_P D vwCl (cW cI cG L ad al u) H) (hS : va_S (cA L ad s.heap.size) s.heap H locs) (hl : lv_has ls 2 [(0, .ref (ad 5)), (1, .int a1)]) : W p l e (headSpec wsX5_stepsTo { frames := 2, cells := 0, slots := 0, locals := 42 }).room s m args below meth c H locs 0 0 (MQ below (va_Qi Q (fun u9 t => va_P D vwCl (cW cI cG L ad al u9) t.heap) (cA L ad s.heap.size)) args s 0 0 (cA L ad s.heap.size)) (F0 m 0 ls []) := by
  obtain ⟨hx, hb, hml, hown, hts, hr, hlocks, hwd, hC⟩ := id X
  have hK := hC.1
  have m5 : 5 ∈ L := hL 5 (by omega)
  obtain ⟨i5, hi5⟩ := wL_ix m5
  have m17 : 17 ∈ L := hL 17 (by omega)
  obtain ⟨i17, hi17⟩ := wL_ix m17
  have m21 : 21 ∈ L := hL 21 (by omega)
  obtain ⟨i21, hi21⟩ := wL_ix m21
  have lk0 := hts (.fieldLink RX5 24 "FormForge$Walk" "steps" "[I") (by decide +kernel)
  have lk1 := hts (.fieldLink RX5 9 "FormForge$Walk" "places" "[I") (by decide +kernel)
  have lk2 := hts (.initialized RX6) (by decide +kernel)
  have lk3 := hts (.static yX6_read) (by decide +kernel)
  have n5 : ∀ w ∈ wsX50, w ∈ wsX5_stepsTo := by decide +kernel
  have hN4 := hC.2.1 _ (List.mem_of_getElem? (i := 4) rfl)
  unfold f_X5_stepsTo at h
  refine lv_aload_n hx hb dX5_stepsTo_0 rfl (lv_at hl 0 rfl) ?_
  refine lv_iload_n hx hb dX5_stepsTo_1 rfl (lv_at hl 1 rfl) ?_
  refine cc_i (va_runV (C := RX5) (As := [.int a1]) (rest := []) ⟨hx, hb, hml, hown, hts⟩ (c_X5_met hL hwd H.size u a1 _ h) (cwV 1 hts gX5_stepsTo_X5_met rfl rfl rfl (by decide +kernel) ⟨Nat.le_of_ble_eq_true rfl, Nat.le_of_ble_eq_true rfl⟩) (pcV hC hP hS (cg_5 hi5) rfl) rfl rfl hl.1 rfl (lv_room (Nat.le_of_ble_eq_true rfl)) dX5_stepsTo_2 ⟨Nat.zero_le _, Nat.zero_le _⟩) hS (cA_mono hS.1) (fun v1 u2 H locs h hP hS => ?_)
  refine lv_if_eq (tgt := 28) hx hb dX5_stepsTo_5 (by decide) (fun c3 => ?_) (fun c3 => ?_)
  · replace h := h.1 c3
    refine lv_iconst (v := (-1)) hx hb dX5_stepsTo_28 (by decide) ?_
    exact W.iret (v := (-1)) hx hb hr (fun t ht hW => ⟨⟨_, _, rfl, h, by show va_P _ _ _ t.heap; rw [ht]; exact hP⟩, hS.F ht⟩) hS.2.2 dX5_stepsTo_29
  · replace h := h.2 c3
    refine lv_aload_n hx hb dX5_stepsTo_8 rfl (lv_at hl 0 rfl) ?_
    refine va_get (C := RX5) (T := TX5) (N := 7) hx hb hts n5 hown hK hP i5 (cg_5 hi5) rfl 5 (by decide) lk0 (fun _ h9 => h9) rfl dX5_stepsTo_9 ?_
    refine lv_aload_n hx hb dX5_stepsTo_12 rfl (lv_at hl 0 rfl) ?_
    refine va_get (C := RX5) (T := TX5) (N := 7) hx hb hts n5 hown hK hP i5 (cg_5 hi5) rfl 1 (by decide) lk1 (fun _ h9 => h9) rfl dX5_stepsTo_13 ?_
    refine lv_iload_n hx hb dX5_stepsTo_16 rfl (lv_at hl 1 rfl) ?_
    refine cc_i (va_runSN (As := [.ref (ad 17), .int a1]) (rest := [.ref (ad 21)]) ⟨hx, hb, hml, hown, hts⟩ (c_X6_read hL.g (Or.inl ⟨by decide, by decide⟩) m17 hwd H.size u2 a1 _ h) ⟨va_cnB (host := RX6) 2 hts gX5_stepsTo_X6_read_n52 rfl rfl rfl hN4 lk2 (by decide +kernel) ⟨Nat.le_of_ble_eq_true rfl, Nat.le_of_ble_eq_true rfl⟩, lk3, trivial⟩ (pcS hC hP hS) rfl rfl hl.1 rfl (lv_room (Nat.le_of_ble_eq_true rfl)) dX5_stepsTo_17 ⟨Nat.zero_le _, Nat.zero_le _⟩) hS (cA_mono hS.1) (fun v4 u5 H locs h hP hS => ?_)
    refine lv_iconst (v := 1) hx hb dX5_stepsTo_20 (by decide) ?_
    refine lv_isub hx hb dX5_stepsTo_21 ?_
    refine cc_i (va_runSN (As := [.ref (ad 21), .int (v4 - 1)]) (rest := []) ⟨hx, hb, hml, hown, hts⟩ (c_X6_read hL.g (Or.inl ⟨by decide, by decide⟩) m21 hwd H.size u5 (v4 - 1) _ h) ⟨va_cnB (host := RX6) 2 hts gX5_stepsTo_X6_read_n52 rfl rfl rfl hN4 lk2 (by decide +kernel) ⟨Nat.le_of_ble_eq_true rfl, Nat.le_of_ble_eq_true rfl⟩, lk3, trivial⟩ (pcS hC hP hS) rfl rfl hl.1 rfl (lv_room (Nat.le_of_ble_eq_true rfl)) dX5_stepsTo_22 ⟨Nat.zero_le _, Nat.zero_le _⟩) hS (cA_mono hS.1) (fun v6 u7 H locs h hP hS => ?_)
    refine lv_goto (tgt := 29) hx hb dX5_stepsTo_25 (by decide) ?_
    exact W.iret (v := v6) hx hb hr (fun t ht hW => ⟨⟨_, _, rfl, h, by show va_P _ _ _ t.heap; rw [ht]; exact hP⟩, hS.F ht⟩) hS.2.2 dX5_stepsTo_29
set_option maxRecDepth 100000 in
set_option maxHeartbeats 4000000 in
theorem c_X5_stepsTo {l : Launch} {D : va_G} {cI cG cZ cJ : ClassId} {ts : Nat × Nat} {L : List Nat} {ad : Nat → Nat} {al : Nat} (hL : Lf L al) (hwd : WD L ad) (sz : Nat) (u : St) (a1 : Int32) (Q : Int32 → St → Prop) (h : f_X5_stepsTo al a1 u Q) : Met l yX5_stepsTo wsX5_stepsTo ({ frames := 2, cells := 0, slots := 0, locals := 42 }) (va_Pc [.ref (ad 5), .int a1] (PC D cI cG cZ cJ ts L ad al sz u)) (va_Qi Q (fun u9 t => va_P D vwCl (cW cI cG L ad al u9) t.heap) (cA L ad sz)) 0 0 (cA L ad sz) := by
  refine Met.ofW (cc := cX5_stepsTo) (maxL := 2) (ret := (some .int)) (by decide) rfl ?_
  intro p e s m args below meth c s₁ B hml hv
  obtain ⟨rfl, hsz, hP, hC⟩ := hv
  subst hsz
  have X : FX RX5 wsX5_stepsTo cX5_stepsTo 2 (some .int) D cI cG cZ cJ ts L ad p s m _ meth c := ⟨B.exec, B.bytes, hml, findClass_of_methodNamed B.named, atoms_spec (ws := wsX5_stepsTo) B.pre, B.returns, B.notSynchronized, hwd, hC⟩
  have hl := lv_entry ([.ref (ad 5), .int a1]) (n := 2) (Nat.le_of_ble_eq_true rfl)
  rw [lg_entry_eq]
  generalize (lg_sl ([.ref (ad 5), .int a1]) ++ List.replicate (2 - (lg_sl ([.ref (ad 5), .int a1])).length) Slot.unset).toArray = ls at hl ⊢
  exact w_X5_stepsTo hL X a1 Q u _ _ _ h hP va_S.rf hl
set_option maxRecDepth 100000 in
set_option maxHeartbeats 4000000 in
theorem w_X5_stepOnWayTo_L30 {p : Program} {l : Launch} {e : Env} {s : State} {m : MethodId} {args : Array Value} {below : List Frame} {meth : Method} {c : Code} {D : va_G} {cI cG cZ cJ : ClassId} {ts : Nat × Nat} {L : List Nat} {ad : Nat → Nat} {al : Nat} (hL : Lf L al) (X : FX RX5 wsX5_stepOnWayTo cX5_stepOnWayTo 6 (some .int) D cI cG cZ cJ ts L ad p s m args meth c) (a2 : Int32) (Q : Int32 → St → Prop)
    (K0 : Int32 → St → Prop) (hk0 : ∀ (b4 : Int32) (u : St) (H : Heap) (locs : List Loc) (ls : Array Slot), K0 b4 u → va_P D vwCl (cW cI cG L ad al u) H → va_S (cA L ad s.heap.size) s.heap H locs → lv_has ls 6 [(0, .ref (ad 5)), (4, .int b4)] → W p l e (headSpec wsX5_stepOnWayTo { frames := 3, cells := 0, slots := 0, locals := 63 }).room s m args below meth c H locs 0 0 (MQ below (va_Qi Q (fun u9 t => va_P D vwCl (cW cI cG L ad al u9) t.heap) (cA L ad s.heap.size)) args s 0 0 (cA L ad s.heap.size)) (F0 m 53 ls []))
    : ∀ (n : Nat) (a4 : Int32) (a5 : Int32) (u : St) (H : Heap) (locs : List Loc) (ls : Array Slot), f_X5_stepOnWayTo_L30 al a2 Q K0 n a4 a5 u → va_P D vwCl (cW cI cG L ad al u) H → va_S (cA L ad s.heap.size) s.heap H locs → lv_has ls 6 [(0, .ref (ad 5)), (2, .int a2), (4, .int a4), (5, .int a5)] → W p l e (headSpec wsX5_stepOnWayTo { frames := 3, cells := 0, slots := 0, locals := 63 }).room s m args below meth c H locs 0 0 (MQ below (va_Qi Q (fun u9 t => va_P D vwCl (cW cI cG L ad al u9) t.heap) (cA L ad s.heap.size)) args s 0 0 (cA L ad s.heap.size)) (F0 m 30 ls []) := by
  obtain ⟨hx, hb, hml, hown, hts, hr, hlocks, hwd, hC⟩ := id X
  have hK := hC.1
  have m5 : 5 ∈ L := hL 5 (by omega)
  obtain ⟨i5, hi5⟩ := wL_ix m5
  have m17 : 17 ∈ L := hL 17 (by omega)
  obtain ⟨i17, hi17⟩ := wL_ix m17
  have m19 : 19 ∈ L := hL 19 (by omega)
  obtain ⟨i19, hi19⟩ := wL_ix m19
  have m20 : 20 ∈ L := hL 20 (by omega)
  obtain ⟨i20, hi20⟩ := wL_ix m20
  have lk0 := hts (.fieldLink RX5 9 "FormForge$Walk" "places" "[I") (by decide +kernel)
  have lk1 := hts (.initialized RX6) (by decide +kernel)
  have lk2 := hts (.static yX6_read) (by decide +kernel)
  have lk3 := hts (.fieldLink RX5 18 "FormForge$Walk" "sources" "[I") (by decide +kernel)
  have lk4 := hts (.fieldLink RX5 21 "FormForge$Walk" "generators" "[I") (by decide +kernel)
  have n5 : ∀ w ∈ wsX50, w ∈ wsX5_stepOnWayTo := by decide +kernel
  have hN4 := hC.2.1 _ (List.mem_of_getElem? (i := 4) rfl)
  intro n
  induction n with
  | zero =>
    intro a4 a5 u H locs ls h; exact h.elim
  | succ n ih =>
    intro a4 a5 u H locs ls h hP hS hl
    replace h : f_X5_stepOnWayTo_L30_s al a2 Q K0 (f_X5_stepOnWayTo_L30 al a2 Q K0 n) a4 a5 u := h
    unfold f_X5_stepOnWayTo_L30_s at h
    refine lv_iload hx hb dX5_stepOnWayTo_30 (lv_at hl 3 rfl) ?_
    refine lv_iload_n hx hb dX5_stepOnWayTo_32 rfl (lv_at hl 1 rfl) ?_
    refine lv_icmp_le (tgt := 53) hx hb dX5_stepOnWayTo_33 (by decide) (fun c8 => ?_) (fun c8 => ?_)
    · replace h := h.1 c8
      exact hk0 a4 _ _ _ _ h hP hS (lv_sub hl [0, 2] rfl)
    · replace h := h.2 c8
      refine lv_aload_n hx hb dX5_stepOnWayTo_36 rfl (lv_at hl 0 rfl) ?_
      refine va_get (C := RX5) (T := TX5) (N := 7) hx hb hts n5 hown hK hP i5 (cg_5 hi5) rfl 3 (by decide) lk3 (fun _ h9 => h9) rfl dX5_stepOnWayTo_37 ?_
      refine lv_iload hx hb dX5_stepOnWayTo_40 (lv_at hl 2 rfl) ?_
      refine cc_i (va_runSN (As := [.ref (ad 19), .int a4]) (rest := []) ⟨hx, hb, hml, hown, hts⟩ (c_X6_read hL.g (Or.inl ⟨by decide, by decide⟩) m19 hwd H.size u a4 _ h) ⟨va_cnB (host := RX6) 2 hts gX5_stepOnWayTo_X6_read_n52 rfl rfl rfl hN4 lk1 (by decide +kernel) ⟨Nat.le_of_ble_eq_true rfl, Nat.le_of_ble_eq_true rfl⟩, lk2, trivial⟩ (pcS hC hP hS) rfl rfl hl.1 rfl (lv_room (Nat.le_of_ble_eq_true rfl)) dX5_stepOnWayTo_42 ⟨Nat.zero_le _, Nat.zero_le _⟩) hS (cA_mono hS.1) (fun v9 u10 H locs h hP hS => ?_)
      refine lv_istore (lv' := [(4, .int v9), (0, .ref (ad 5)), (2, .int a2), (5, .int a5)]) hx hb dX5_stepOnWayTo_45 hl (by decide) rfl (fun ls hl => ?_)
      obtain ⟨v11, ev11⟩ : ∃ y : Int32, y = a5 + (-1) := ⟨_, rfl⟩
      refine lv_iinc (v := v11) (lv' := [(5, .int v11), (4, .int v9), (0, .ref (ad 5)), (2, .int a2)]) hx hb dX5_stepOnWayTo_47 hl (k := 3) rfl (by rw [ev11]; rfl) (by decide) rfl (fun ls hl => ?_)
      replace h := h v11 ev11
      refine lv_goto (tgt := 30) hx hb dX5_stepOnWayTo_50 (by decide) ?_
      exact ih v9 v11 _ _ _ _ h hP hS (lv_sub hl [2, 3, 1, 0] rfl)
set_option maxRecDepth 100000 in
set_option maxHeartbeats 4000000 in
theorem w_X5_stepOnWayTo {p : Program} {l : Launch} {e : Env} {s : State} {m : MethodId} {args : Array Value} {below : List Frame} {meth : Method} {c : Code} {D : va_G} {cI cG cZ cJ : ClassId} {ts : Nat × Nat} {L : List Nat} {ad : Nat → Nat} {al : Nat} (hL : Lf L al) (X : FX RX5 wsX5_stepOnWayTo cX5_stepOnWayTo 6 (some .int) D cI cG cZ cJ ts L ad p s m args meth c) (a1 : Int32) (a2 : Int32) (Q : Int32 → St → Prop) (u : St) (H : Heap) (locs : List Loc) (ls : Array Slot) (h : f_X5_stepOnWayTo al a1 a2 u Q) (hP : va_P D vwCl (cW cI cG L ad al u) H) (hS : va_S (cA L ad s.heap.size) s.heap H locs) (hl : lv_has ls 6 [(0, .ref (ad 5)), (1, .int a1), (2, .int a2)]) : W p l e (headSpec wsX5_stepOnWayTo { frames := 3, cells := 0, slots := 0, locals := 63 }).room s m args below meth c H locs 0 0 (MQ below (va_Qi Q (fun u9 t => va_P D vwCl (cW cI cG L ad al u9) t.heap) (cA L ad s.heap.size)) args s 0 0 (cA L ad s.heap.size)) (F0 m 0 ls []) := by
  obtain ⟨hx, hb, hml, hown, hts, hr, hlocks, hwd, hC⟩ := id X
  have hK := hC.1
  have m5 : 5 ∈ L := hL 5 (by omega)
  obtain ⟨i5, hi5⟩ := wL_ix m5
  have m17 : 17 ∈ L := hL 17 (by omega)
  obtain ⟨i17, hi17⟩ := wL_ix m17
  have m19 : 19 ∈ L := hL 19 (by omega)
  obtain ⟨i19, hi19⟩ := wL_ix m19
  have m20 : 20 ∈ L := hL 20 (by omega)
  obtain ⟨i20, hi20⟩ := wL_ix m20
  have lk0 := hts (.fieldLink RX5 9 "FormForge$Walk" "places" "[I") (by decide +kernel)
  have lk1 := hts (.initialized RX6) (by decide +kernel)
  have lk2 := hts (.static yX6_read) (by decide +kernel)
  have lk3 := hts (.fieldLink RX5 18 "FormForge$Walk" "sources" "[I") (by decide +kernel)
  have lk4 := hts (.fieldLink RX5 21 "FormForge$Walk" "generators" "[I") (by decide +kernel)
  have n5 : ∀ w ∈ wsX50, w ∈ wsX5_stepOnWayTo := by decide +kernel
  have hN4 := hC.2.1 _ (List.mem_of_getElem? (i := 4) rfl)
  unfold f_X5_stepOnWayTo at h
  refine lv_aload_n hx hb dX5_stepOnWayTo_0 rfl (lv_at hl 0 rfl) ?_
  refine lv_iload_n hx hb dX5_stepOnWayTo_1 rfl (lv_at hl 1 rfl) ?_
  refine cc_i (va_runV (C := RX5) (As := [.int a1]) (rest := []) ⟨hx, hb, hml, hown, hts⟩ (c_X5_stepsTo hL hwd H.size u a1 _ h) (cwV 1 hts gX5_stepOnWayTo_X5_stepsTo rfl rfl rfl (by decide +kernel) ⟨Nat.le_of_ble_eq_true rfl, Nat.le_of_ble_eq_true rfl⟩) (pcV hC hP hS (cg_5 hi5) rfl) rfl rfl hl.1 rfl (lv_room (Nat.le_of_ble_eq_true rfl)) dX5_stepOnWayTo_2 ⟨Nat.zero_le _, Nat.zero_le _⟩) hS (cA_mono hS.1) (fun v1 u2 H locs h hP hS => ?_)
  refine lv_istore_n (lv' := [(3, .int v1), (0, .ref (ad 5)), (1, .int a1), (2, .int a2)]) hx hb dX5_stepOnWayTo_5 rfl hl (by decide) rfl (fun ls hl => ?_)
  refine lv_iload_n hx hb dX5_stepOnWayTo_6 rfl (lv_at hl 3 rfl) ?_
  refine lv_iload_n hx hb dX5_stepOnWayTo_7 rfl (lv_at hl 0 rfl) ?_
  refine lv_icmp_lt (tgt := 13) hx hb dX5_stepOnWayTo_8 (by decide) (fun c3 => ?_) (fun c3 => ?_)
  · replace h := h.1 c3
    refine lv_aload_n hx hb dX5_stepOnWayTo_13 rfl (lv_at hl 1 rfl) ?_
    refine va_get (C := RX5) (T := TX5) (N := 7) hx hb hts n5 hown hK hP i5 (cg_5 hi5) rfl 1 (by decide) lk0 (fun _ h9 => h9) rfl dX5_stepOnWayTo_14 ?_
    refine lv_iload_n hx hb dX5_stepOnWayTo_17 rfl (lv_at hl 2 rfl) ?_
    refine cc_i (va_runSN (As := [.ref (ad 17), .int a1]) (rest := []) ⟨hx, hb, hml, hown, hts⟩ (c_X6_read hL.g (Or.inl ⟨by decide, by decide⟩) m17 hwd H.size u2 a1 _ h) ⟨va_cnB (host := RX6) 2 hts gX5_stepOnWayTo_X6_read_n52 rfl rfl rfl hN4 lk1 (by decide +kernel) ⟨Nat.le_of_ble_eq_true rfl, Nat.le_of_ble_eq_true rfl⟩, lk2, trivial⟩ (pcS hC hP hS) rfl rfl hl.1 rfl (lv_room (Nat.le_of_ble_eq_true rfl)) dX5_stepOnWayTo_18 ⟨Nat.zero_le _, Nat.zero_le _⟩) hS (cA_mono hS.1) (fun v4 u5 H locs h hP hS => ?_)
    refine lv_iconst (v := 1) hx hb dX5_stepOnWayTo_21 (by decide) ?_
    refine lv_isub hx hb dX5_stepOnWayTo_22 ?_
    refine lv_topi (fun v6 ev6 => ?_)
    replace h := h v6 ev6
    refine lv_istore (lv' := [(4, .int v6), (3, .int v1), (0, .ref (ad 5)), (1, .int a1), (2, .int a2)]) hx hb dX5_stepOnWayTo_23 hl (by decide) rfl (fun ls hl => ?_)
    refine lv_iload_n hx hb dX5_stepOnWayTo_25 rfl (lv_at hl 1 rfl) ?_
    refine lv_iconst (v := 1) hx hb dX5_stepOnWayTo_26 (by decide) ?_
    refine lv_isub hx hb dX5_stepOnWayTo_27 ?_
    refine lv_topi (fun v7 ev7 => ?_)
    replace h := h v7 ev7
    refine lv_istore (lv' := [(5, .int v7), (4, .int v6), (3, .int v1), (0, .ref (ad 5)), (1, .int a1), (2, .int a2)]) hx hb dX5_stepOnWayTo_28 hl (by decide) rfl (fun ls hl => ?_)
    obtain ⟨n12, h⟩ := h
    refine w_X5_stepOnWayTo_L30 hL X a2 _ _ (fun v13 u14 H locs ls h hP hS hl => ?_) n12 v6 v7 _ _ _ _ h hP hS (lv_sub hl [3, 5, 1, 0] rfl)
    refine lv_aload_n hx hb dX5_stepOnWayTo_53 rfl (lv_at hl 0 rfl) ?_
    refine va_get (C := RX5) (T := TX5) (N := 7) hx hb hts n5 hown hK hP i5 (cg_5 hi5) rfl 4 (by decide) lk4 (fun _ h9 => h9) rfl dX5_stepOnWayTo_54 ?_
    refine lv_iload hx hb dX5_stepOnWayTo_57 (lv_at hl 1 rfl) ?_
    refine cc_i (va_runSN (As := [.ref (ad 20), .int v13]) (rest := []) ⟨hx, hb, hml, hown, hts⟩ (c_X6_read hL.g (Or.inl ⟨by decide, by decide⟩) m20 hwd H.size u14 v13 _ h) ⟨va_cnB (host := RX6) 2 hts gX5_stepOnWayTo_X6_read_n52 rfl rfl rfl hN4 lk1 (by decide +kernel) ⟨Nat.le_of_ble_eq_true rfl, Nat.le_of_ble_eq_true rfl⟩, lk2, trivial⟩ (pcS hC hP hS) rfl rfl hl.1 rfl (lv_room (Nat.le_of_ble_eq_true rfl)) dX5_stepOnWayTo_59 ⟨Nat.zero_le _, Nat.zero_le _⟩) hS (cA_mono hS.1) (fun v15 u16 H locs h hP hS => ?_)
    exact W.iret (v := v15) hx hb hr (fun t ht hW => ⟨⟨_, _, rfl, h, by show va_P _ _ _ t.heap; rw [ht]; exact hP⟩, hS.F ht⟩) hS.2.2 dX5_stepOnWayTo_62
  · replace h := h.2 c3
    refine lv_iconst (v := (-1)) hx hb dX5_stepOnWayTo_11 (by decide) ?_
    exact W.iret (v := (-1)) hx hb hr (fun t ht hW => ⟨⟨_, _, rfl, h, by show va_P _ _ _ t.heap; rw [ht]; exact hP⟩, hS.F ht⟩) hS.2.2 dX5_stepOnWayTo_12
set_option maxRecDepth 100000 in
set_option maxHeartbeats 4000000 in
theorem c_X5_stepOnWayTo {l : Launch} {D : va_G} {cI cG cZ cJ : ClassId} {ts : Nat × Nat} {L : List Nat} {ad : Nat → Nat} {al : Nat} (hL : Lf L al) (hwd : WD L ad) (sz : Nat) (u : St) (a1 : Int32) (a2 : Int32) (Q : Int32 → St → Prop) (h : f_X5_stepOnWayTo al a1 a2 u Q) : Met l yX5_stepOnWayTo wsX5_stepOnWayTo ({ frames := 3, cells := 0, slots := 0, locals := 63 }) (va_Pc [.ref (ad 5), .int a1, .int a2] (PC D cI cG cZ cJ ts L ad al sz u)) (va_Qi Q (fun u9 t => va_P D vwCl (cW cI cG L ad al u9) t.heap) (cA L ad sz)) 0 0 (cA L ad sz) := by
  refine Met.ofW (cc := cX5_stepOnWayTo) (maxL := 6) (ret := (some .int)) (by decide) rfl ?_
  intro p e s m args below meth c s₁ B hml hv
  obtain ⟨rfl, hsz, hP, hC⟩ := hv
  subst hsz
  have X : FX RX5 wsX5_stepOnWayTo cX5_stepOnWayTo 6 (some .int) D cI cG cZ cJ ts L ad p s m _ meth c := ⟨B.exec, B.bytes, hml, findClass_of_methodNamed B.named, atoms_spec (ws := wsX5_stepOnWayTo) B.pre, B.returns, B.notSynchronized, hwd, hC⟩
  have hl := lv_entry ([.ref (ad 5), .int a1, .int a2]) (n := 6) (Nat.le_of_ble_eq_true rfl)
  rw [lg_entry_eq]
  generalize (lg_sl ([.ref (ad 5), .int a1, .int a2]) ++ List.replicate (6 - (lg_sl ([.ref (ad 5), .int a1, .int a2])).length) Slot.unset).toArray = ls at hl ⊢
  exact w_X5_stepOnWayTo hL X a1 a2 Q u _ _ _ h hP va_S.rf hl
set_option maxRecDepth 100000 in
set_option maxHeartbeats 4000000 in
theorem w_X0_code_L7 {p : Program} {l : Launch} {e : Env} {s : State} {m : MethodId} {args : Array Value} {below : List Frame} {meth : Method} {c : Code} {D : va_G} {cI cG cZ cJ : ClassId} {ts : Nat × Nat} {L : List Nat} {ad : Nat → Nat} {al : Nat} (hL : Lf L al) (X : FX RX0 wsX0_code cX0_code 4 (some .int) D cI cG cZ cJ ts L ad p s m args meth c) (a1 : Int32) (Q : Int32 → St → Prop)
    (K0 : Int32 → St → Prop) (hk0 : ∀ (b2 : Int32) (u : St) (H : Heap) (locs : List Loc) (ls : Array Slot), K0 b2 u → va_P D vwCl (cW cI cG L ad al u) H → va_S (cA L ad s.heap.size) s.heap H locs → lv_has ls 4 [(2, .int b2)] → W p l e (headSpec wsX0_code { frames := 2, cells := 0, slots := 0, locals := 43 }).room s m args below meth c H locs 0 0 (MQ below (va_Qi Q (fun u9 t => va_P D vwCl (cW cI cG L ad al u9) t.heap) (cA L ad s.heap.size)) args s 0 0 (cA L ad s.heap.size)) (F0 m 34 ls []))
    : ∀ (n : Nat) (a2 : Int32) (a3 : Int32) (u : St) (H : Heap) (locs : List Loc) (ls : Array Slot), f_X0_code_L7 al a1 Q K0 n a2 a3 u → va_P D vwCl (cW cI cG L ad al u) H → va_S (cA L ad s.heap.size) s.heap H locs → lv_has ls 4 [(0, .ref (ad 2)), (1, .int a1), (2, .int a2), (3, .int a3)] → W p l e (headSpec wsX0_code { frames := 2, cells := 0, slots := 0, locals := 43 }).room s m args below meth c H locs 0 0 (MQ below (va_Qi Q (fun u9 t => va_P D vwCl (cW cI cG L ad al u9) t.heap) (cA L ad s.heap.size)) args s 0 0 (cA L ad s.heap.size)) (F0 m 7 ls []) := by
  obtain ⟨hx, hb, hml, hown, hts, hr, hlocks, hwd, hC⟩ := id X
  have hK := hC.1
  have m1 : 1 ∈ L := hL 1 (by omega)
  obtain ⟨i1, hi1⟩ := wL_ix m1
  have m2 : 2 ∈ L := hL 2 (by omega)
  obtain ⟨i2, hi2⟩ := wL_ix m2
  have lk0 := hts (.fieldLink RX0 23 "FormForge$Columns" "degree" "I") (by decide +kernel)
  have lk1 := hts (.fieldLink RX0 15 "FormForge$Columns" "field" "LFormForge$Field;") (by decide +kernel)
  have lk2 := hts (.fieldLink RX0 27 "FormForge$Field" "p" "I") (by decide +kernel)
  have n0 : ∀ w ∈ wsX00, w ∈ wsX0_code := by decide +kernel
  have n2 : ∀ w ∈ wsX20, w ∈ wsX0_code := by decide +kernel
  intro n
  induction n with
  | zero =>
    intro a2 a3 u H locs ls h; exact h.elim
  | succ n ih =>
    intro a2 a3 u H locs ls h hP hS hl
    replace h : f_X0_code_L7_s al a1 Q K0 (f_X0_code_L7 al a1 Q K0 n) a2 a3 u := h
    unfold f_X0_code_L7_s at h
    refine lv_iload_n hx hb dX0_code_7 rfl (lv_at hl 3 rfl) ?_
    refine lv_if_lt (tgt := 34) hx hb dX0_code_8 (by decide) (fun c2 => ?_) (fun c2 => ?_)
    · replace h := h.1 c2
      exact hk0 a2 _ _ _ _ h hP hS (lv_sub hl [2] rfl)
    · replace h := h.2 c2
      refine lv_iload_n hx hb dX0_code_11 rfl (lv_at hl 2 rfl) ?_
      refine lv_aload_n hx hb dX0_code_12 rfl (lv_at hl 0 rfl) ?_
      refine va_get (C := RX0) (T := TX0) (N := 3) hx hb hts n0 hown hK hP i2 (cg_2 hi2) rfl 0 (by decide) lk1 (fun _ h9 => h9) rfl dX0_code_13 ?_
      refine va_get (C := RX2) (T := TX2) (N := 1) hx hb hts n2 hown hK hP i1 (cg_1 hi1) rfl 0 (by decide) lk2 (fun _ h9 => h9) rfl dX0_code_16 ?_
      refine lv_imul hx hb dX0_code_19 ?_
      refine lv_aload_n hx hb dX0_code_20 rfl (lv_at hl 0 rfl) ?_
      refine lv_iload_n hx hb dX0_code_21 rfl (lv_at hl 1 rfl) ?_
      refine lv_iload_n hx hb dX0_code_22 rfl (lv_at hl 3 rfl) ?_
      refine cc_i (va_runV (C := RX0) (As := [.int a1, .int a3]) (rest := [.int (a2 * (u 0 0))]) ⟨hx, hb, hml, hown, hts⟩ (c_X0_cell hL hwd H.size u a1 a3 _ h) (cwV 2 hts gX0_code_X0_cell rfl rfl rfl (by decide +kernel) ⟨Nat.le_of_ble_eq_true rfl, Nat.le_of_ble_eq_true rfl⟩) (pcV hC hP hS (cg_2 hi2) rfl) rfl rfl hl.1 rfl (lv_room (Nat.le_of_ble_eq_true rfl)) dX0_code_23 ⟨Nat.zero_le _, Nat.zero_le _⟩) hS (cA_mono hS.1) (fun v3 u4 H locs h hP hS => ?_)
      refine lv_iadd hx hb dX0_code_26 ?_
      refine lv_topi (fun v5 ev5 => ?_)
      replace h := h v5 ev5
      refine lv_istore_n (lv' := [(2, .int v5), (0, .ref (ad 2)), (1, .int a1), (3, .int a3)]) hx hb dX0_code_27 rfl hl (by decide) rfl (fun ls hl => ?_)
      obtain ⟨v6, ev6⟩ : ∃ y : Int32, y = a3 + (-1) := ⟨_, rfl⟩
      refine lv_iinc (v := v6) (lv' := [(3, .int v6), (2, .int v5), (0, .ref (ad 2)), (1, .int a1)]) hx hb dX0_code_28 hl (k := 3) rfl (by rw [ev6]; rfl) (by decide) rfl (fun ls hl => ?_)
      replace h := h v6 ev6
      refine lv_goto (tgt := 7) hx hb dX0_code_31 (by decide) ?_
      exact ih v5 v6 _ _ _ _ h hP hS (lv_sub hl [2, 3, 1, 0] rfl)
set_option maxRecDepth 100000 in
set_option maxHeartbeats 4000000 in
theorem w_X0_code {p : Program} {l : Launch} {e : Env} {s : State} {m : MethodId} {args : Array Value} {below : List Frame} {meth : Method} {c : Code} {D : va_G} {cI cG cZ cJ : ClassId} {ts : Nat × Nat} {L : List Nat} {ad : Nat → Nat} {al : Nat} (hL : Lf L al) (X : FX RX0 wsX0_code cX0_code 4 (some .int) D cI cG cZ cJ ts L ad p s m args meth c) (a1 : Int32) (Q : Int32 → St → Prop) (u : St) (H : Heap) (locs : List Loc) (ls : Array Slot) (h : f_X0_code al a1 u Q) (hP : va_P D vwCl (cW cI cG L ad al u) H) (hS : va_S (cA L ad s.heap.size) s.heap H locs) (hl : lv_has ls 4 [(0, .ref (ad 2)), (1, .int a1)]) : W p l e (headSpec wsX0_code { frames := 2, cells := 0, slots := 0, locals := 43 }).room s m args below meth c H locs 0 0 (MQ below (va_Qi Q (fun u9 t => va_P D vwCl (cW cI cG L ad al u9) t.heap) (cA L ad s.heap.size)) args s 0 0 (cA L ad s.heap.size)) (F0 m 0 ls []) := by
  obtain ⟨hx, hb, hml, hown, hts, hr, hlocks, hwd, hC⟩ := id X
  have hK := hC.1
  have m1 : 1 ∈ L := hL 1 (by omega)
  obtain ⟨i1, hi1⟩ := wL_ix m1
  have m2 : 2 ∈ L := hL 2 (by omega)
  obtain ⟨i2, hi2⟩ := wL_ix m2
  have lk0 := hts (.fieldLink RX0 23 "FormForge$Columns" "degree" "I") (by decide +kernel)
  have lk1 := hts (.fieldLink RX0 15 "FormForge$Columns" "field" "LFormForge$Field;") (by decide +kernel)
  have lk2 := hts (.fieldLink RX0 27 "FormForge$Field" "p" "I") (by decide +kernel)
  have n0 : ∀ w ∈ wsX00, w ∈ wsX0_code := by decide +kernel
  have n2 : ∀ w ∈ wsX20, w ∈ wsX0_code := by decide +kernel
  unfold f_X0_code at h
  refine lv_iconst (v := 0) hx hb dX0_code_0 (by decide) ?_
  refine lv_istore_n (lv' := [(2, .int 0), (0, .ref (ad 2)), (1, .int a1)]) hx hb dX0_code_1 rfl hl (by decide) rfl (fun ls hl => ?_)
  refine lv_aload_n hx hb dX0_code_2 rfl (lv_at hl 1 rfl) ?_
  refine va_get (C := RX0) (T := TX0) (N := 3) hx hb hts n0 hown hK hP i2 (cg_2 hi2) rfl 2 (by decide) lk0 (fun _ h9 => h9) rfl dX0_code_3 ?_
  refine lv_topi (fun v1 ev1 => ?_)
  replace h := h v1 ev1
  refine lv_istore_n (lv' := [(3, .int v1), (2, .int 0), (0, .ref (ad 2)), (1, .int a1)]) hx hb dX0_code_6 rfl hl (by decide) rfl (fun ls hl => ?_)
  obtain ⟨n7, h⟩ := h
  refine w_X0_code_L7 hL X a1 _ _ (fun v8 u9 H locs ls h hP hS hl => ?_) n7 0 v1 _ _ _ _ h hP hS (lv_sub hl [2, 3, 1, 0] rfl)
  refine lv_iload_n hx hb dX0_code_34 rfl (lv_at hl 0 rfl) ?_
  exact W.iret (v := v8) hx hb hr (fun t ht hW => ⟨⟨_, _, rfl, h, by show va_P _ _ _ t.heap; rw [ht]; exact hP⟩, hS.F ht⟩) hS.2.2 dX0_code_35
set_option maxRecDepth 100000 in
set_option maxHeartbeats 4000000 in
theorem c_X0_code {l : Launch} {D : va_G} {cI cG cZ cJ : ClassId} {ts : Nat × Nat} {L : List Nat} {ad : Nat → Nat} {al : Nat} (hL : Lf L al) (hwd : WD L ad) (sz : Nat) (u : St) (a1 : Int32) (Q : Int32 → St → Prop) (h : f_X0_code al a1 u Q) : Met l yX0_code wsX0_code ({ frames := 2, cells := 0, slots := 0, locals := 43 }) (va_Pc [.ref (ad 2), .int a1] (PC D cI cG cZ cJ ts L ad al sz u)) (va_Qi Q (fun u9 t => va_P D vwCl (cW cI cG L ad al u9) t.heap) (cA L ad sz)) 0 0 (cA L ad sz) := by
  refine Met.ofW (cc := cX0_code) (maxL := 4) (ret := (some .int)) (by decide) rfl ?_
  intro p e s m args below meth c s₁ B hml hv
  obtain ⟨rfl, hsz, hP, hC⟩ := hv
  subst hsz
  have X : FX RX0 wsX0_code cX0_code 4 (some .int) D cI cG cZ cJ ts L ad p s m _ meth c := ⟨B.exec, B.bytes, hml, findClass_of_methodNamed B.named, atoms_spec (ws := wsX0_code) B.pre, B.returns, B.notSynchronized, hwd, hC⟩
  have hl := lv_entry ([.ref (ad 2), .int a1]) (n := 4) (Nat.le_of_ble_eq_true rfl)
  rw [lg_entry_eq]
  generalize (lg_sl ([.ref (ad 2), .int a1]) ++ List.replicate (4 - (lg_sl ([.ref (ad 2), .int a1])).length) Slot.unset).toArray = ls at hl ⊢
  exact w_X0_code hL X a1 Q u _ _ _ h hP va_S.rf hl
set_option maxRecDepth 100000 in
set_option maxHeartbeats 4000000 in
theorem w_X3_fillImages_L58 {p : Program} {l : Launch} {e : Env} {s : State} {m : MethodId} {args : Array Value} {below : List Frame} {meth : Method} {c : Code} {D : va_G} {cI cG cZ cJ : ClassId} {ts : Nat × Nat} {L : List Nat} {ad : Nat → Nat} {al : Nat} {g : Nat} (hL : Lf L al) (hg : g < al) (X : FX RX3 wsX3_fillImages cX3_fillImages 10 none D cI cG cZ cJ ts L ad p s m args meth c) (a1 : Int32) (a4 : Int32) (a5 : Int32) (a6 : Int32) (a7 : Int32) (a8 : Int32) (Q : St → Prop)
    (K0 : St → Prop) (hk0 : ∀ (u : St) (H : Heap) (locs : List Loc) (ls : Array Slot), K0 u → va_P D vwCl (cW cI cG L ad al u) H → va_S (cA L ad s.heap.size) s.heap H locs → lv_has ls 10 [(0, .ref (ad (22 + 2 * g))), (1, .int a1), (2, .ref (ad 1)), (3, .ref (ad 2)), (4, .int a4), (5, .int a5)] → W p l e (headSpec wsX3_fillImages { frames := 3, cells := 0, slots := 0, locals := 66 }).room s m args below meth c H locs 0 0 (MQ below (va_Qv Q (fun u9 t => va_P D vwCl (cW cI cG L ad al u9) t.heap) (cA L ad s.heap.size)) args s 0 0 (cA L ad s.heap.size)) (F0 m 104 ls []))
    : ∀ (n : Nat) (a9 : Int32) (u : St) (H : Heap) (locs : List Loc) (ls : Array Slot), f_X3_fillImages_L58 al g a1 a4 a5 a6 a7 a8 Q K0 n a9 u → va_P D vwCl (cW cI cG L ad al u) H → va_S (cA L ad s.heap.size) s.heap H locs → lv_has ls 10 [(0, .ref (ad (22 + 2 * g))), (1, .int a1), (2, .ref (ad 1)), (3, .ref (ad 2)), (4, .int a4), (5, .int a5), (6, .int a6), (7, .int a7), (8, .int a8), (9, .int a9)] → W p l e (headSpec wsX3_fillImages { frames := 3, cells := 0, slots := 0, locals := 66 }).room s m args below meth c H locs 0 0 (MQ below (va_Qv Q (fun u9 t => va_P D vwCl (cW cI cG L ad al u9) t.heap) (cA L ad s.heap.size)) args s 0 0 (cA L ad s.heap.size)) (F0 m 58 ls []) := by
  obtain ⟨hx, hb, hml, hown, hts, hr, hlocks, hwd, hC⟩ := id X
  have hK := hC.1
  have m1 : 1 ∈ L := hL 1 (by omega)
  obtain ⟨i1, hi1⟩ := wL_ix m1
  have m2 : 2 ∈ L := hL 2 (by omega)
  obtain ⟨i2, hi2⟩ := wL_ix m2
  have mg : 22 + 2 * g ∈ L := hL _ (by omega)
  have mm : 23 + 2 * g ∈ L := hL _ (by omega)
  obtain ⟨ig, hig⟩ := wL_ix mg
  obtain ⟨im, him⟩ := wL_ix mm
  have lk0 := hts (.fieldLink RX3 29 "FormForge$Generator" "STARTS" "[I") (by decide +kernel)
  have lk1 := hts (.initialized RX6) (by decide +kernel)
  have lk2 := hts (.static yX6_read) (by decide +kernel)
  have lk3 := hts (.fieldLink RX3 11 "FormForge$Generator" "images" "[I") (by decide +kernel)
  have lk4 := hts (.static yX6_write) (by decide +kernel)
  have n3 : ∀ w ∈ wsX30, w ∈ wsX3_fillImages := by decide +kernel
  have hN2 := hC.2.1 _ (List.mem_of_getElem? (i := 2) rfl)
  have hN9 := hC.2.1 _ (List.mem_of_getElem? (i := 9) rfl)
  intro n
  induction n with
  | zero =>
    intro a9 u H locs ls h; exact h.elim
  | succ n ih =>
    intro a9 u H locs ls h hP hS hl
    replace h : f_X3_fillImages_L58_s al g a1 a4 a5 a6 a7 a8 Q K0 (f_X3_fillImages_L58 al g a1 a4 a5 a6 a7 a8 Q K0 n) a9 u := h
    unfold f_X3_fillImages_L58_s at h
    refine lv_iload hx hb dX3_fillImages_58 (lv_at hl 9 rfl) ?_
    refine lv_iload hx hb dX3_fillImages_60 (lv_at hl 7 rfl) ?_
    refine lv_icmp_ge (tgt := 104) hx hb dX3_fillImages_62 (by decide) (fun c11 => ?_) (fun c11 => ?_)
    · replace h := h.1 c11
      exact hk0  _ _ _ _ h hP hS (lv_sub hl [0, 1, 2, 3, 4, 5] rfl)
    · replace h := h.2 c11
      refine lv_aload_n hx hb dX3_fillImages_65 rfl (lv_at hl 0 rfl) ?_
      refine va_get (C := RX3) (T := TX3) (N := 2) hx hb hts n3 hown hK hP ig (cg_g hig) rfl 0 (by decide) lk3 (fun _ h9 => h9) rfl dX3_fillImages_66 ?_
      refine lv_iload hx hb dX3_fillImages_69 (lv_at hl 4 rfl) ?_
      refine lv_iload hx hb dX3_fillImages_71 (lv_at hl 9 rfl) ?_
      refine lv_iadd hx hb dX3_fillImages_73 ?_
      refine lv_aload_n hx hb dX3_fillImages_74 rfl (lv_at hl 2 rfl) ?_
      refine lv_aload_n hx hb dX3_fillImages_75 rfl (lv_at hl 0 rfl) ?_
      refine va_get (C := RX3) (T := TX3) (N := 2) hx hb hts n3 hown hK hP ig (cg_g hig) rfl 0 (by decide) lk3 (fun _ h9 => h9) rfl dX3_fillImages_76 ?_
      refine lv_iload hx hb dX3_fillImages_79 (lv_at hl 4 rfl) ?_
      refine lv_iload hx hb dX3_fillImages_81 (lv_at hl 9 rfl) ?_
      refine lv_iadd hx hb dX3_fillImages_83 ?_
      refine lv_iload hx hb dX3_fillImages_84 (lv_at hl 6 rfl) ?_
      refine lv_isub hx hb dX3_fillImages_86 ?_
      refine cc_i (va_runSN (As := [.ref (ad (23 + 2 * g)), .int ((a4 + a9) - a6)]) (rest := [.ref (ad 1), .int (a4 + a9), .ref (ad (23 + 2 * g))]) ⟨hx, hb, hml, hown, hts⟩ (c_X6_read hL.g (Or.inr ⟨by omega, by omega⟩) mm hwd H.size u ((a4 + a9) - a6) _ h) ⟨va_cnB (host := RX6) 2 hts gX3_fillImages_X6_read_n32 rfl rfl rfl hN2 lk1 (by decide +kernel) ⟨Nat.le_of_ble_eq_true rfl, Nat.le_of_ble_eq_true rfl⟩, lk2, trivial⟩ (pcS hC hP hS) rfl rfl hl.1 rfl (lv_room (Nat.le_of_ble_eq_true rfl)) dX3_fillImages_87 ⟨Nat.zero_le _, Nat.zero_le _⟩) hS (cA_mono hS.1) (fun v12 u13 H locs h hP hS => ?_)
      refine lv_iload hx hb dX3_fillImages_90 (lv_at hl 8 rfl) ?_
      refine cc_i (va_runV (C := RX2) (As := [.int v12, .int a8]) (rest := [.int (a4 + a9), .ref (ad (23 + 2 * g))]) ⟨hx, hb, hml, hown, hts⟩ (c_X2_total hL hwd H.size u13 v12 a8 _ h) (cwV 2 hts gX3_fillImages_X2_total rfl rfl rfl (by decide +kernel) ⟨Nat.le_of_ble_eq_true rfl, Nat.le_of_ble_eq_true rfl⟩) (pcV hC hP hS (cg_1 hi1) rfl) rfl rfl hl.1 rfl (lv_room (Nat.le_of_ble_eq_true rfl)) dX3_fillImages_92 ⟨Nat.zero_le _, Nat.zero_le _⟩) hS (cA_mono hS.1) (fun v14 u15 H locs h hP hS => ?_)
      refine cc_v (va_runSN (As := [.ref (ad (23 + 2 * g)), .int (a4 + a9), .int v14]) (rest := []) ⟨hx, hb, hml, hown, hts⟩ (c_X6_write hL.g (Or.inr ⟨by omega, by omega⟩) mm hwd H.size u15 (a4 + a9) v14 _ h) ⟨va_cnB (host := RX6) 3 hts gX3_fillImages_X6_write_n36 rfl rfl rfl hN9 lk1 (by decide +kernel) ⟨Nat.le_of_ble_eq_true rfl, Nat.le_of_ble_eq_true rfl⟩, lk4, trivial⟩ (pcS hC hP hS) rfl rfl hl.1 rfl (lv_room (Nat.le_of_ble_eq_true rfl)) dX3_fillImages_95 ⟨Nat.zero_le _, Nat.zero_le _⟩) hS (cA_mono hS.1) (fun u16 H locs h hP hS => ?_)
      obtain ⟨v17, ev17⟩ : ∃ y : Int32, y = a9 + 1 := ⟨_, rfl⟩
      refine lv_iinc (v := v17) (lv' := [(9, .int v17), (0, .ref (ad (22 + 2 * g))), (1, .int a1), (2, .ref (ad 1)), (3, .ref (ad 2)), (4, .int a4), (5, .int a5), (6, .int a6), (7, .int a7), (8, .int a8)]) hx hb dX3_fillImages_98 hl (k := 9) rfl (by rw [ev17]; rfl) (by decide) rfl (fun ls hl => ?_)
      replace h := h v17 ev17
      refine lv_goto (tgt := 58) hx hb dX3_fillImages_101 (by decide) ?_
      exact ih v17 _ _ _ _ h hP hS (lv_sub hl [1, 2, 3, 4, 5, 6, 7, 8, 9, 0] rfl)
set_option maxRecDepth 100000 in
set_option maxHeartbeats 4000000 in
theorem w_X3_fillImages_L22 {p : Program} {l : Launch} {e : Env} {s : State} {m : MethodId} {args : Array Value} {below : List Frame} {meth : Method} {c : Code} {D : va_G} {cI cG cZ cJ : ClassId} {ts : Nat × Nat} {L : List Nat} {ad : Nat → Nat} {al : Nat} {g : Nat} (hL : Lf L al) (hg : g < al) (X : FX RX3 wsX3_fillImages cX3_fillImages 10 none D cI cG cZ cJ ts L ad p s m args meth c) (a1 : Int32) (a4 : Int32) (Q : St → Prop)
    (K0 : St → Prop) (hk0 : ∀ (u : St) (H : Heap) (locs : List Loc) (ls : Array Slot), K0 u → va_P D vwCl (cW cI cG L ad al u) H → va_S (cA L ad s.heap.size) s.heap H locs → lv_has ls 10 [] → W p l e (headSpec wsX3_fillImages { frames := 3, cells := 0, slots := 0, locals := 66 }).room s m args below meth c H locs 0 0 (MQ below (va_Qv Q (fun u9 t => va_P D vwCl (cW cI cG L ad al u9) t.heap) (cA L ad s.heap.size)) args s 0 0 (cA L ad s.heap.size)) (F0 m 110 ls []))
    : ∀ (n : Nat) (a5 : Int32) (u : St) (H : Heap) (locs : List Loc) (ls : Array Slot), f_X3_fillImages_L22 al g a1 a4 Q K0 n a5 u → va_P D vwCl (cW cI cG L ad al u) H → va_S (cA L ad s.heap.size) s.heap H locs → lv_has ls 10 [(0, .ref (ad (22 + 2 * g))), (1, .int a1), (2, .ref (ad 1)), (3, .ref (ad 2)), (4, .int a4), (5, .int a5)] → W p l e (headSpec wsX3_fillImages { frames := 3, cells := 0, slots := 0, locals := 66 }).room s m args below meth c H locs 0 0 (MQ below (va_Qv Q (fun u9 t => va_P D vwCl (cW cI cG L ad al u9) t.heap) (cA L ad s.heap.size)) args s 0 0 (cA L ad s.heap.size)) (F0 m 22 ls []) := by
  obtain ⟨hx, hb, hml, hown, hts, hr, hlocks, hwd, hC⟩ := id X
  have hK := hC.1
  have m1 : 1 ∈ L := hL 1 (by omega)
  obtain ⟨i1, hi1⟩ := wL_ix m1
  have m2 : 2 ∈ L := hL 2 (by omega)
  obtain ⟨i2, hi2⟩ := wL_ix m2
  have mg : 22 + 2 * g ∈ L := hL _ (by omega)
  have mm : 23 + 2 * g ∈ L := hL _ (by omega)
  obtain ⟨ig, hig⟩ := wL_ix mg
  obtain ⟨im, him⟩ := wL_ix mm
  have lk0 := hts (.fieldLink RX3 29 "FormForge$Generator" "STARTS" "[I") (by decide +kernel)
  have lk1 := hts (.initialized RX6) (by decide +kernel)
  have lk2 := hts (.static yX6_read) (by decide +kernel)
  have lk3 := hts (.fieldLink RX3 11 "FormForge$Generator" "images" "[I") (by decide +kernel)
  have lk4 := hts (.static yX6_write) (by decide +kernel)
  have n3 : ∀ w ∈ wsX30, w ∈ wsX3_fillImages := by decide +kernel
  have hN2 := hC.2.1 _ (List.mem_of_getElem? (i := 2) rfl)
  have hN9 := hC.2.1 _ (List.mem_of_getElem? (i := 9) rfl)
  intro n
  induction n with
  | zero =>
    intro a5 u H locs ls h; exact h.elim
  | succ n ih =>
    intro a5 u H locs ls h hP hS hl
    replace h : f_X3_fillImages_L22_s al g a1 a4 Q K0 (f_X3_fillImages_L22 al g a1 a4 Q K0 n) a5 u := h
    unfold f_X3_fillImages_L22_s at h
    refine lv_iload hx hb dX3_fillImages_22 (lv_at hl 5 rfl) ?_
    refine lv_iload_n hx hb dX3_fillImages_24 rfl (lv_at hl 1 rfl) ?_
    refine lv_icmp_gt (tgt := 110) hx hb dX3_fillImages_25 (by decide) (fun c4 => ?_) (fun c4 => ?_)
    · replace h := h.1 c4
      exact hk0  _ _ _ _ h hP hS (lv_sub hl [] rfl)
    · replace h := h.2 c4
      refine lv_aload_n hx hb dX3_fillImages_28 rfl (lv_at hl 2 rfl) ?_
      refine lv_iload hx hb dX3_fillImages_29 (lv_at hl 5 rfl) ?_
      refine cc_i (va_runV (C := RX2) (As := [.int a5]) (rest := []) ⟨hx, hb, hml, hown, hts⟩ (c_X2_howMany hL.g hwd H.size u a5 _ h) (cwV 1 hts gX3_fillImages_X2_howMany rfl rfl rfl (by decide +kernel) ⟨Nat.le_of_ble_eq_true rfl, Nat.le_of_ble_eq_true rfl⟩) (pcV hC hP hS (cg_1 hi1) rfl) rfl rfl hl.1 rfl (lv_room (Nat.le_of_ble_eq_true rfl)) dX3_fillImages_31 ⟨Nat.zero_le _, Nat.zero_le _⟩) hS (cA_mono hS.1) (fun v5 u6 H locs h hP hS => ?_)
      refine lv_istore (lv' := [(6, .int v5), (0, .ref (ad (22 + 2 * g))), (1, .int a1), (2, .ref (ad 1)), (3, .ref (ad 2)), (4, .int a4), (5, .int a5)]) hx hb dX3_fillImages_34 hl (by decide) rfl (fun ls hl => ?_)
      refine lv_aload_n hx hb dX3_fillImages_36 rfl (lv_at hl 3 rfl) ?_
      refine lv_iload hx hb dX3_fillImages_37 (lv_at hl 6 rfl) ?_
      refine lv_iconst (v := 1) hx hb dX3_fillImages_39 (by decide) ?_
      refine lv_iadd hx hb dX3_fillImages_40 ?_
      refine cc_i (va_runV (C := RX2) (As := [.int (a5 + 1)]) (rest := []) ⟨hx, hb, hml, hown, hts⟩ (c_X2_howMany hL.g hwd H.size u6 (a5 + 1) _ h) (cwV 1 hts gX3_fillImages_X2_howMany rfl rfl rfl (by decide +kernel) ⟨Nat.le_of_ble_eq_true rfl, Nat.le_of_ble_eq_true rfl⟩) (pcV hC hP hS (cg_1 hi1) rfl) rfl rfl hl.1 rfl (lv_room (Nat.le_of_ble_eq_true rfl)) dX3_fillImages_41 ⟨Nat.zero_le _, Nat.zero_le _⟩) hS (cA_mono hS.1) (fun v7 u8 H locs h hP hS => ?_)
      refine lv_istore (lv' := [(7, .int v7), (6, .int v5), (0, .ref (ad (22 + 2 * g))), (1, .int a1), (2, .ref (ad 1)), (3, .ref (ad 2)), (4, .int a4), (5, .int a5)]) hx hb dX3_fillImages_44 hl (by decide) rfl (fun ls hl => ?_)
      refine lv_aload_n hx hb dX3_fillImages_46 rfl (lv_at hl 5 rfl) ?_
      refine lv_iload hx hb dX3_fillImages_47 (lv_at hl 7 rfl) ?_
      refine cc_i (va_runV (C := RX0) (As := [.int a5]) (rest := []) ⟨hx, hb, hml, hown, hts⟩ (c_X0_code hL hwd H.size u8 a5 _ h) (cwV 1 hts gX3_fillImages_X0_code rfl rfl rfl (by decide +kernel) ⟨Nat.le_of_ble_eq_true rfl, Nat.le_of_ble_eq_true rfl⟩) (pcV hC hP hS (cg_2 hi2) rfl) rfl rfl hl.1 rfl (lv_room (Nat.le_of_ble_eq_true rfl)) dX3_fillImages_49 ⟨Nat.zero_le _, Nat.zero_le _⟩) hS (cA_mono hS.1) (fun v9 u10 H locs h hP hS => ?_)
      refine lv_istore (lv' := [(8, .int v9), (7, .int v7), (6, .int v5), (0, .ref (ad (22 + 2 * g))), (1, .int a1), (2, .ref (ad 1)), (3, .ref (ad 2)), (4, .int a4), (5, .int a5)]) hx hb dX3_fillImages_52 hl (by decide) rfl (fun ls hl => ?_)
      refine lv_iload hx hb dX3_fillImages_54 (lv_at hl 2 rfl) ?_
      refine lv_istore (lv' := [(9, .int v5), (8, .int v9), (7, .int v7), (6, .int v5), (0, .ref (ad (22 + 2 * g))), (1, .int a1), (2, .ref (ad 1)), (3, .ref (ad 2)), (4, .int a4), (5, .int a5)]) hx hb dX3_fillImages_56 hl (by decide) rfl (fun ls hl => ?_)
      obtain ⟨n18, h⟩ := h
      refine w_X3_fillImages_L58 hL hg X a1 a4 a5 v5 v7 v9 _ _ (fun u19 H locs ls h hP hS hl => ?_) n18 v5 _ _ _ _ h hP hS (lv_sub hl [4, 5, 6, 7, 8, 9, 3, 2, 1, 0] rfl)
      obtain ⟨v20, ev20⟩ : ∃ y : Int32, y = a5 + 1 := ⟨_, rfl⟩
      refine lv_iinc (v := v20) (lv' := [(5, .int v20), (0, .ref (ad (22 + 2 * g))), (1, .int a1), (2, .ref (ad 1)), (3, .ref (ad 2)), (4, .int a4)]) hx hb dX3_fillImages_104 hl (k := 5) rfl (by rw [ev20]; rfl) (by decide) rfl (fun ls hl => ?_)
      replace h := h v20 ev20
      refine lv_goto (tgt := 22) hx hb dX3_fillImages_107 (by decide) ?_
      exact ih v20 _ _ _ _ h hP hS (lv_sub hl [1, 2, 3, 4, 5, 0] rfl)
set_option maxRecDepth 100000 in
set_option maxHeartbeats 4000000 in
theorem w_X3_fillImages {p : Program} {l : Launch} {e : Env} {s : State} {m : MethodId} {args : Array Value} {below : List Frame} {meth : Method} {c : Code} {D : va_G} {cI cG cZ cJ : ClassId} {ts : Nat × Nat} {L : List Nat} {ad : Nat → Nat} {al : Nat} {g : Nat} (hL : Lf L al) (hg : g < al) (X : FX RX3 wsX3_fillImages cX3_fillImages 10 none D cI cG cZ cJ ts L ad p s m args meth c) (a1 : Int32) (Q : St → Prop) (u : St) (H : Heap) (locs : List Loc) (ls : Array Slot) (h : f_X3_fillImages al g a1 u Q) (hP : va_P D vwCl (cW cI cG L ad al u) H) (hS : va_S (cA L ad s.heap.size) s.heap H locs) (hl : lv_has ls 10 [(0, .ref (ad (22 + 2 * g))), (1, .int a1), (2, .ref (ad 1)), (3, .ref (ad 2))]) : W p l e (headSpec wsX3_fillImages { frames := 3, cells := 0, slots := 0, locals := 66 }).room s m args below meth c H locs 0 0 (MQ below (va_Qv Q (fun u9 t => va_P D vwCl (cW cI cG L ad al u9) t.heap) (cA L ad s.heap.size)) args s 0 0 (cA L ad s.heap.size)) (F0 m 0 ls []) := by
  obtain ⟨hx, hb, hml, hown, hts, hr, hlocks, hwd, hC⟩ := id X
  have hK := hC.1
  have m1 : 1 ∈ L := hL 1 (by omega)
  obtain ⟨i1, hi1⟩ := wL_ix m1
  have m2 : 2 ∈ L := hL 2 (by omega)
  obtain ⟨i2, hi2⟩ := wL_ix m2
  have mg : 22 + 2 * g ∈ L := hL _ (by omega)
  have mm : 23 + 2 * g ∈ L := hL _ (by omega)
  obtain ⟨ig, hig⟩ := wL_ix mg
  obtain ⟨im, him⟩ := wL_ix mm
  have lk0 := hts (.fieldLink RX3 29 "FormForge$Generator" "STARTS" "[I") (by decide +kernel)
  have lk1 := hts (.initialized RX6) (by decide +kernel)
  have lk2 := hts (.static yX6_read) (by decide +kernel)
  have lk3 := hts (.fieldLink RX3 11 "FormForge$Generator" "images" "[I") (by decide +kernel)
  have lk4 := hts (.static yX6_write) (by decide +kernel)
  have n3 : ∀ w ∈ wsX30, w ∈ wsX3_fillImages := by decide +kernel
  have hN2 := hC.2.1 _ (List.mem_of_getElem? (i := 2) rfl)
  have hN9 := hC.2.1 _ (List.mem_of_getElem? (i := 9) rfl)
  unfold f_X3_fillImages at h
  refine va_gets hx hb hC.2.2.2.2.2.1 hS hown lk0 (fun _ h9 => h9) dX3_fillImages_0 ?_
  refine lv_iload_n hx hb dX3_fillImages_3 rfl (lv_at hl 1 rfl) ?_
  refine cc_i (va_runSN (As := [.ref ts.1, .int a1]) (rest := []) ⟨hx, hb, hml, hown, hts⟩ (c_X6_readS hL.g hwd H.size u a1 _ h) ⟨va_cnB (host := RX6) 2 hts gX3_fillImages_X6_read_n32 rfl rfl rfl hN2 lk1 (by decide +kernel) ⟨Nat.le_of_ble_eq_true rfl, Nat.le_of_ble_eq_true rfl⟩, lk2, trivial⟩ (pcS hC hP hS) rfl rfl hl.1 rfl (lv_room (Nat.le_of_ble_eq_true rfl)) dX3_fillImages_4 ⟨Nat.zero_le _, Nat.zero_le _⟩) hS (cA_mono hS.1) (fun v1 u2 H locs h hP hS => ?_)
  refine lv_istore (lv' := [(4, .int v1), (0, .ref (ad (22 + 2 * g))), (1, .int a1), (2, .ref (ad 1)), (3, .ref (ad 2))]) hx hb dX3_fillImages_7 hl (by decide) rfl (fun ls hl => ?_)
  refine lv_aload_n hx hb dX3_fillImages_9 rfl (lv_at hl 1 rfl) ?_
  refine va_get (C := RX3) (T := TX3) (N := 2) hx hb hts n3 hown hK hP ig (cg_g hig) rfl 0 (by decide) lk3 (fun _ h9 => h9) rfl dX3_fillImages_10 ?_
  refine lv_iload hx hb dX3_fillImages_13 (lv_at hl 0 rfl) ?_
  refine lv_iconst (v := 0) hx hb dX3_fillImages_15 (by decide) ?_
  refine cc_v (va_runSN (As := [.ref (ad (23 + 2 * g)), .int v1, .int 0]) (rest := []) ⟨hx, hb, hml, hown, hts⟩ (c_X6_write hL.g (Or.inr ⟨by omega, by omega⟩) mm hwd H.size u2 v1 0 _ h) ⟨va_cnB (host := RX6) 3 hts gX3_fillImages_X6_write_n36 rfl rfl rfl hN9 lk1 (by decide +kernel) ⟨Nat.le_of_ble_eq_true rfl, Nat.le_of_ble_eq_true rfl⟩, lk4, trivial⟩ (pcS hC hP hS) rfl rfl hl.1 rfl (lv_room (Nat.le_of_ble_eq_true rfl)) dX3_fillImages_16 ⟨Nat.zero_le _, Nat.zero_le _⟩) hS (cA_mono hS.1) (fun u3 H locs h hP hS => ?_)
  refine lv_iconst (v := 0) hx hb dX3_fillImages_19 (by decide) ?_
  refine lv_istore (lv' := [(5, .int 0), (4, .int v1), (0, .ref (ad (22 + 2 * g))), (1, .int a1), (2, .ref (ad 1)), (3, .ref (ad 2))]) hx hb dX3_fillImages_20 hl (by decide) rfl (fun ls hl => ?_)
  obtain ⟨n21, h⟩ := h
  refine w_X3_fillImages_L22 hL hg X a1 v1 _ _ (fun u22 H locs ls h hP hS hl => ?_) n21 0 _ _ _ _ h hP hS (lv_sub hl [2, 3, 4, 5, 1, 0] rfl)
  exact W.vret hx hb hr (fun t ht hW => ⟨⟨_, rfl, h, by show va_P _ _ _ t.heap; rw [ht]; exact hP⟩, hS.F ht⟩) hS.2.2 dX3_fillImages_110
set_option maxRecDepth 100000 in
set_option maxHeartbeats 4000000 in
theorem c_X3_fillImages {l : Launch} {D : va_G} {cI cG cZ cJ : ClassId} {ts : Nat × Nat} {L : List Nat} {ad : Nat → Nat} {al : Nat} {g : Nat} (hL : Lf L al) (hg : g < al) (hwd : WD L ad) (sz : Nat) (u : St) (a1 : Int32) (Q : St → Prop) (h : f_X3_fillImages al g a1 u Q) : Met l yX3_fillImages wsX3_fillImages ({ frames := 3, cells := 0, slots := 0, locals := 66 }) (va_Pc [.ref (ad (22 + 2 * g)), .int a1, .ref (ad 1), .ref (ad 2)] (PC D cI cG cZ cJ ts L ad al sz u)) (va_Qv Q (fun u9 t => va_P D vwCl (cW cI cG L ad al u9) t.heap) (cA L ad sz)) 0 0 (cA L ad sz) := by
  refine Met.ofW (cc := cX3_fillImages) (maxL := 10) (ret := none) (by decide) rfl ?_
  intro p e s m args below meth c s₁ B hml hv
  obtain ⟨rfl, hsz, hP, hC⟩ := hv
  subst hsz
  have X : FX RX3 wsX3_fillImages cX3_fillImages 10 none D cI cG cZ cJ ts L ad p s m _ meth c := ⟨B.exec, B.bytes, hml, findClass_of_methodNamed B.named, atoms_spec (ws := wsX3_fillImages) B.pre, B.returns, B.notSynchronized, hwd, hC⟩
  have hl := lv_entry ([.ref (ad (22 + 2 * g)), .int a1, .ref (ad 1), .ref (ad 2)]) (n := 10) (Nat.le_of_ble_eq_true rfl)
  rw [lg_entry_eq]
  generalize (lg_sl ([.ref (ad (22 + 2 * g)), .int a1, .ref (ad 1), .ref (ad 2)]) ++ List.replicate (10 - (lg_sl ([.ref (ad (22 + 2 * g)), .int a1, .ref (ad 1), .ref (ad 2)])).length) Slot.unset).toArray = ls at hl ⊢
  exact w_X3_fillImages hL hg X a1 Q u _ _ _ h hP va_S.rf hl
set_option maxRecDepth 100000 in
set_option maxHeartbeats 4000000 in
theorem w_X3_become_L8 {p : Program} {l : Launch} {e : Env} {s : State} {m : MethodId} {args : Array Value} {below : List Frame} {meth : Method} {c : Code} {D : va_G} {cI cG cZ cJ : ClassId} {ts : Nat × Nat} {L : List Nat} {ad : Nat → Nat} {al : Nat} {g : Nat} (hL : Lf L al) (hg : g < al) (X : FX RX3 wsX3_become cX3_become 5 none D cI cG cZ cJ ts L ad p s m args meth c)  (Q : St → Prop)
    (K0 : St → Prop) (hk0 : ∀ (u : St) (H : Heap) (locs : List Loc) (ls : Array Slot), K0 u → va_P D vwCl (cW cI cG L ad al u) H → va_S (cA L ad s.heap.size) s.heap H locs → lv_has ls 5 [] → W p l e (headSpec wsX3_become { frames := 4, cells := 0, slots := 0, locals := 98 }).room s m args below meth c H locs 0 0 (MQ below (va_Qv Q (fun u9 t => va_P D vwCl (cW cI cG L ad al u9) t.heap) (cA L ad s.heap.size)) args s 0 0 (cA L ad s.heap.size)) (F0 m 38 ls []))
    : ∀ (n : Nat) (a4 : Int32) (u : St) (H : Heap) (locs : List Loc) (ls : Array Slot), f_X3_become_L8 al g Q K0 n a4 u → va_P D vwCl (cW cI cG L ad al u) H → va_S (cA L ad s.heap.size) s.heap H locs → lv_has ls 5 [(0, .ref (ad (22 + 2 * g))), (2, .ref (ad 1)), (3, .ref (ad 2)), (4, .int a4)] → W p l e (headSpec wsX3_become { frames := 4, cells := 0, slots := 0, locals := 98 }).room s m args below meth c H locs 0 0 (MQ below (va_Qv Q (fun u9 t => va_P D vwCl (cW cI cG L ad al u9) t.heap) (cA L ad s.heap.size)) args s 0 0 (cA L ad s.heap.size)) (F0 m 8 ls []) := by
  obtain ⟨hx, hb, hml, hown, hts, hr, hlocks, hwd, hC⟩ := id X
  have hK := hC.1
  have m2 : 2 ∈ L := hL 2 (by omega)
  obtain ⟨i2, hi2⟩ := wL_ix m2
  have mg : 22 + 2 * g ∈ L := hL _ (by omega)
  have mm : 23 + 2 * g ∈ L := hL _ (by omega)
  obtain ⟨ig, hig⟩ := wL_ix mg
  obtain ⟨im, him⟩ := wL_ix mm
  have lk0 := hts (.fieldLink RX3 15 "FormForge$Generator" "matrix" "I") (by decide +kernel)
  have n3 : ∀ w ∈ wsX30, w ∈ wsX3_become := by decide +kernel
  intro n
  induction n with
  | zero =>
    intro a4 u H locs ls h; exact h.elim
  | succ n ih =>
    intro a4 u H locs ls h hP hS hl
    replace h : f_X3_become_L8_s al g Q K0 (f_X3_become_L8 al g Q K0 n) a4 u := h
    unfold f_X3_become_L8_s at h
    refine lv_iload hx hb dX3_become_8 (lv_at hl 3 rfl) ?_
    refine lv_iconst (v := 4) hx hb dX3_become_10 (by decide) ?_
    refine lv_icmp_gt (tgt := 38) hx hb dX3_become_11 (by decide) (fun c2 => ?_) (fun c2 => ?_)
    · replace h := h.1 c2
      exact hk0  _ _ _ _ h hP hS (lv_sub hl [] rfl)
    · replace h := h.2 c2
      refine lv_aload_n hx hb dX3_become_14 rfl (lv_at hl 2 rfl) ?_
      refine lv_aload_n hx hb dX3_become_15 rfl (lv_at hl 0 rfl) ?_
      refine va_get (C := RX3) (T := TX3) (N := 2) hx hb hts n3 hown hK hP ig (cg_g hig) rfl 1 (by decide) lk0 (fun _ h9 => h9) rfl dX3_become_16 ?_
      refine lv_iload hx hb dX3_become_19 (lv_at hl 3 rfl) ?_
      refine cc_v (va_runV (C := RX0) (As := [.int (u 0 (8 + g)), .int a4]) (rest := []) ⟨hx, hb, hml, hown, hts⟩ (c_X0_fill hL hwd H.size u (u 0 (8 + g)) a4 _ h) (cwV 2 hts gX3_become_X0_fill rfl rfl rfl (by decide +kernel) ⟨Nat.le_of_ble_eq_true rfl, Nat.le_of_ble_eq_true rfl⟩) (pcV hC hP hS (cg_2 hi2) rfl) rfl rfl hl.1 rfl (lv_room (Nat.le_of_ble_eq_true rfl)) dX3_become_21 ⟨Nat.zero_le _, Nat.zero_le _⟩) hS (cA_mono hS.1) (fun u3 H locs h hP hS => ?_)
      refine lv_aload_n hx hb dX3_become_24 rfl (lv_at hl 0 rfl) ?_
      refine lv_iload hx hb dX3_become_25 (lv_at hl 3 rfl) ?_
      refine lv_aload_n hx hb dX3_become_27 rfl (lv_at hl 1 rfl) ?_
      refine lv_aload_n hx hb dX3_become_28 rfl (lv_at hl 2 rfl) ?_
      refine cc_v (va_runV (C := RX3) (As := [.int a4, .ref (ad 1), .ref (ad 2)]) (rest := []) ⟨hx, hb, hml, hown, hts⟩ (c_X3_fillImages hL hg hwd H.size u3 a4 _ h) (cwV 3 hts gX3_become_X3_fillImages rfl rfl rfl (by decide +kernel) ⟨Nat.le_of_ble_eq_true rfl, Nat.le_of_ble_eq_true rfl⟩) (pcV hC hP hS (cg_g hig) rfl) rfl rfl hl.1 rfl (lv_room (Nat.le_of_ble_eq_true rfl)) dX3_become_29 ⟨Nat.zero_le _, Nat.zero_le _⟩) hS (cA_mono hS.1) (fun u4 H locs h hP hS => ?_)
      obtain ⟨v5, ev5⟩ : ∃ y : Int32, y = a4 + 1 := ⟨_, rfl⟩
      refine lv_iinc (v := v5) (lv' := [(4, .int v5), (0, .ref (ad (22 + 2 * g))), (2, .ref (ad 1)), (3, .ref (ad 2))]) hx hb dX3_become_32 hl (k := 3) rfl (by rw [ev5]; rfl) (by decide) rfl (fun ls hl => ?_)
      replace h := h v5 ev5
      refine lv_goto (tgt := 8) hx hb dX3_become_35 (by decide) ?_
      exact ih v5 _ _ _ _ h hP hS (lv_sub hl [1, 2, 3, 0] rfl)
set_option maxRecDepth 100000 in
set_option maxHeartbeats 4000000 in
theorem w_X3_become {p : Program} {l : Launch} {e : Env} {s : State} {m : MethodId} {args : Array Value} {below : List Frame} {meth : Method} {c : Code} {D : va_G} {cI cG cZ cJ : ClassId} {ts : Nat × Nat} {L : List Nat} {ad : Nat → Nat} {al : Nat} {g : Nat} (hL : Lf L al) (hg : g < al) (X : FX RX3 wsX3_become cX3_become 5 none D cI cG cZ cJ ts L ad p s m args meth c) (a1 : Int32) (Q : St → Prop) (u : St) (H : Heap) (locs : List Loc) (ls : Array Slot) (h : f_X3_become al g a1 u Q) (hP : va_P D vwCl (cW cI cG L ad al u) H) (hS : va_S (cA L ad s.heap.size) s.heap H locs) (hl : lv_has ls 5 [(0, .ref (ad (22 + 2 * g))), (1, .int a1), (2, .ref (ad 1)), (3, .ref (ad 2))]) : W p l e (headSpec wsX3_become { frames := 4, cells := 0, slots := 0, locals := 98 }).room s m args below meth c H locs 0 0 (MQ below (va_Qv Q (fun u9 t => va_P D vwCl (cW cI cG L ad al u9) t.heap) (cA L ad s.heap.size)) args s 0 0 (cA L ad s.heap.size)) (F0 m 0 ls []) := by
  obtain ⟨hx, hb, hml, hown, hts, hr, hlocks, hwd, hC⟩ := id X
  have hK := hC.1
  have m2 : 2 ∈ L := hL 2 (by omega)
  obtain ⟨i2, hi2⟩ := wL_ix m2
  have mg : 22 + 2 * g ∈ L := hL _ (by omega)
  have mm : 23 + 2 * g ∈ L := hL _ (by omega)
  obtain ⟨ig, hig⟩ := wL_ix mg
  obtain ⟨im, him⟩ := wL_ix mm
  have lk0 := hts (.fieldLink RX3 15 "FormForge$Generator" "matrix" "I") (by decide +kernel)
  have n3 : ∀ w ∈ wsX30, w ∈ wsX3_become := by decide +kernel
  unfold f_X3_become at h
  refine lv_aload_n hx hb dX3_become_0 rfl (lv_at hl 0 rfl) ?_
  refine lv_iload_n hx hb dX3_become_1 rfl (lv_at hl 1 rfl) ?_
  refine va_put (C := RX3) (T := TX3) (N := 2) (ty := .int) (v := .int a1) hx hb hts n3 tyX3 tyX3_ok nmX3 hown hK hP (cD hwd) hS ig (cg_g hig) rfl 1 (by decide) lk0 (fun _ h9 => h9) rfl (by decide +kernel) rfl rfl (Nat.le_of_ble_eq_true rfl) dX3_become_2 (fun H locs hP _ hS => ?_)
  replace hP := cu_gmat hwd hig hP
  obtain ⟨u1, eu1⟩ : ∃ y : St, y = su u 0 (8 + g) a1 := ⟨_, rfl⟩
  rw [← eu1] at hP
  replace h := h u1 eu1
  refine lv_iconst (v := 1) hx hb dX3_become_5 (by decide) ?_
  refine lv_istore (lv' := [(4, .int 1), (0, .ref (ad (22 + 2 * g))), (1, .int a1), (2, .ref (ad 1)), (3, .ref (ad 2))]) hx hb dX3_become_6 hl (by decide) rfl (fun ls hl => ?_)
  obtain ⟨n6, h⟩ := h
  refine w_X3_become_L8 hL hg X _ _ (fun u7 H locs ls h hP hS hl => ?_) n6 1 _ _ _ _ h hP hS (lv_sub hl [1, 3, 4, 0] rfl)
  exact W.vret hx hb hr (fun t ht hW => ⟨⟨_, rfl, h, by show va_P _ _ _ t.heap; rw [ht]; exact hP⟩, hS.F ht⟩) hS.2.2 dX3_become_38
set_option maxRecDepth 100000 in
set_option maxHeartbeats 4000000 in
theorem c_X3_become {l : Launch} {D : va_G} {cI cG cZ cJ : ClassId} {ts : Nat × Nat} {L : List Nat} {ad : Nat → Nat} {al : Nat} {g : Nat} (hL : Lf L al) (hg : g < al) (hwd : WD L ad) (sz : Nat) (u : St) (a1 : Int32) (Q : St → Prop) (h : f_X3_become al g a1 u Q) : Met l yX3_become wsX3_become ({ frames := 4, cells := 0, slots := 0, locals := 98 }) (va_Pc [.ref (ad (22 + 2 * g)), .int a1, .ref (ad 1), .ref (ad 2)] (PC D cI cG cZ cJ ts L ad al sz u)) (va_Qv Q (fun u9 t => va_P D vwCl (cW cI cG L ad al u9) t.heap) (cA L ad sz)) 0 0 (cA L ad sz) := by
  refine Met.ofW (cc := cX3_become) (maxL := 5) (ret := none) (by decide) rfl ?_
  intro p e s m args below meth c s₁ B hml hv
  obtain ⟨rfl, hsz, hP, hC⟩ := hv
  subst hsz
  have X : FX RX3 wsX3_become cX3_become 5 none D cI cG cZ cJ ts L ad p s m _ meth c := ⟨B.exec, B.bytes, hml, findClass_of_methodNamed B.named, atoms_spec (ws := wsX3_become) B.pre, B.returns, B.notSynchronized, hwd, hC⟩
  have hl := lv_entry ([.ref (ad (22 + 2 * g)), .int a1, .ref (ad 1), .ref (ad 2)]) (n := 5) (Nat.le_of_ble_eq_true rfl)
  rw [lg_entry_eq]
  generalize (lg_sl ([.ref (ad (22 + 2 * g)), .int a1, .ref (ad 1), .ref (ad 2)]) ++ List.replicate (5 - (lg_sl ([.ref (ad (22 + 2 * g)), .int a1, .ref (ad 1), .ref (ad 2)])).length) Slot.unset).toArray = ls at hl ⊢
  exact w_X3_become hL hg X a1 Q u _ _ _ h hP va_S.rf hl
