/-! the law's static methods -/
set_option maxRecDepth 100000 in
set_option maxHeartbeats 4000000 in
theorem w_L_power_L4 {p : Program} {l : Launch} {e : Env} {s : State} {m : MethodId} {args : Array Value} {below : List Frame} {meth : Method} {c : Code} {D : va_G} {cI cG cZ cJ : ClassId} {ts : Nat × Nat} {L : List Nat} {ad : Nat → Nat} {al : Nat} (hL : Lf L al) (X : FX RL wsL_power cL_power 4 (some .int) D cI cG cZ cJ ts L ad p s m args meth c) (a0 : Int32) (a1 : Int32) (Q : Int32 → St → Prop)
    (K0 : Int32 → St → Prop) (hk0 : ∀ (b2 : Int32) (u : St) (H : Heap) (locs : List Loc) (ls : Array Slot), K0 b2 u → va_P D vwCl (cW cI cG L ad al u) H → va_S (cA L ad s.heap.size) s.heap H locs → lv_has ls 4 [(2, .int b2)] → W p l e (headSpec wsL_power { frames := 0, cells := 0, slots := 0, locals := 0 }).room s m args below meth c H locs 0 0 (MQ below (va_Qi Q (fun u9 t => va_P D vwCl (cW cI cG L ad al u9) t.heap) (cA L ad s.heap.size)) args s 0 0 (cA L ad s.heap.size)) (F0 m 19 ls []))
    : ∀ (n : Nat) (a2 : Int32) (a3 : Int32) (u : St) (H : Heap) (locs : List Loc) (ls : Array Slot), f_L_power_L4 al a0 a1 Q K0 n a2 a3 u → va_P D vwCl (cW cI cG L ad al u) H → va_S (cA L ad s.heap.size) s.heap H locs → lv_has ls 4 [(0, .int a0), (1, .int a1), (2, .int a2), (3, .int a3)] → W p l e (headSpec wsL_power { frames := 0, cells := 0, slots := 0, locals := 0 }).room s m args below meth c H locs 0 0 (MQ below (va_Qi Q (fun u9 t => va_P D vwCl (cW cI cG L ad al u9) t.heap) (cA L ad s.heap.size)) args s 0 0 (cA L ad s.heap.size)) (F0 m 4 ls []) := by
  obtain ⟨hx, hb, hml, hown, hts, hr, hlocks, hwd, hC⟩ := id X
  have hK := hC.1
  intro n
  induction n with
  | zero =>
    intro a2 a3 u H locs ls h; exact h.elim
  | succ n ih =>
    intro a2 a3 u H locs ls h hP hS hl
    replace h : f_L_power_L4_s al a0 a1 Q K0 (f_L_power_L4 al a0 a1 Q K0 n) a2 a3 u := h
    unfold f_L_power_L4_s at h
    refine lv_iload_n hx hb dL_power_4 rfl (lv_at hl 3 rfl) ?_
    refine lv_iload_n hx hb dL_power_5 rfl (lv_at hl 1 rfl) ?_
    refine lv_icmp_ge (tgt := 19) hx hb dL_power_6 (by decide) (fun c1 => ?_) (fun c1 => ?_)
    · replace h := h.1 c1
      exact hk0 a2 _ _ _ _ h hP hS (lv_sub hl [2] rfl)
    · replace h := h.2 c1
      refine lv_iload_n hx hb dL_power_9 rfl (lv_at hl 2 rfl) ?_
      refine lv_iload_n hx hb dL_power_10 rfl (lv_at hl 0 rfl) ?_
      refine lv_imul hx hb dL_power_11 ?_
      refine lv_topi (fun v2 ev2 => ?_)
      replace h := h v2 ev2
      refine lv_istore_n (lv' := [(2, .int v2), (0, .int a0), (1, .int a1), (3, .int a3)]) hx hb dL_power_12 rfl hl (by decide) rfl (fun ls hl => ?_)
      obtain ⟨v3, ev3⟩ : ∃ y : Int32, y = a3 + 1 := ⟨_, rfl⟩
      refine lv_iinc (v := v3) (lv' := [(3, .int v3), (2, .int v2), (0, .int a0), (1, .int a1)]) hx hb dL_power_13 hl (k := 3) rfl (by rw [ev3]; rfl) (by decide) rfl (fun ls hl => ?_)
      replace h := h v3 ev3
      refine lv_goto (tgt := 4) hx hb dL_power_16 (by decide) ?_
      exact ih v2 v3 _ _ _ _ h hP hS (lv_sub hl [2, 3, 1, 0] rfl)
set_option maxRecDepth 100000 in
set_option maxHeartbeats 4000000 in
theorem w_L_power {p : Program} {l : Launch} {e : Env} {s : State} {m : MethodId} {args : Array Value} {below : List Frame} {meth : Method} {c : Code} {D : va_G} {cI cG cZ cJ : ClassId} {ts : Nat × Nat} {L : List Nat} {ad : Nat → Nat} {al : Nat} (hL : Lf L al) (X : FX RL wsL_power cL_power 4 (some .int) D cI cG cZ cJ ts L ad p s m args meth c) (a0 : Int32) (a1 : Int32) (Q : Int32 → St → Prop) (u : St) (H : Heap) (locs : List Loc) (ls : Array Slot) (h : f_L_power al a0 a1 u Q) (hP : va_P D vwCl (cW cI cG L ad al u) H) (hS : va_S (cA L ad s.heap.size) s.heap H locs) (hl : lv_has ls 4 [(0, .int a0), (1, .int a1)]) : W p l e (headSpec wsL_power { frames := 0, cells := 0, slots := 0, locals := 0 }).room s m args below meth c H locs 0 0 (MQ below (va_Qi Q (fun u9 t => va_P D vwCl (cW cI cG L ad al u9) t.heap) (cA L ad s.heap.size)) args s 0 0 (cA L ad s.heap.size)) (F0 m 0 ls []) := by
  obtain ⟨hx, hb, hml, hown, hts, hr, hlocks, hwd, hC⟩ := id X
  have hK := hC.1
  unfold f_L_power at h
  refine lv_iconst (v := 1) hx hb dL_power_0 (by decide) ?_
  refine lv_istore_n (lv' := [(2, .int 1), (0, .int a0), (1, .int a1)]) hx hb dL_power_1 rfl hl (by decide) rfl (fun ls hl => ?_)
  refine lv_iconst (v := 0) hx hb dL_power_2 (by decide) ?_
  refine lv_istore_n (lv' := [(3, .int 0), (2, .int 1), (0, .int a0), (1, .int a1)]) hx hb dL_power_3 rfl hl (by decide) rfl (fun ls hl => ?_)
  obtain ⟨n4, h⟩ := h
  refine w_L_power_L4 hL X a0 a1 _ _ (fun v5 u6 H locs ls h hP hS hl => ?_) n4 1 0 _ _ _ _ h hP hS (lv_sub hl [2, 3, 1, 0] rfl)
  refine lv_iload_n hx hb dL_power_19 rfl (lv_at hl 0 rfl) ?_
  exact W.iret (v := v5) hx hb hr (fun t ht hW => ⟨⟨_, _, rfl, h, by show va_P _ _ _ t.heap; rw [ht]; exact hP⟩, hS.F ht⟩) hS.2.2 dL_power_20
set_option maxRecDepth 100000 in
set_option maxHeartbeats 4000000 in
theorem c_L_power {l : Launch} {D : va_G} {cI cG cZ cJ : ClassId} {ts : Nat × Nat} {L : List Nat} {ad : Nat → Nat} {al : Nat} (hL : Lf L al) (hwd : WD L ad) (sz : Nat) (u : St) (a0 : Int32) (a1 : Int32) (Q : Int32 → St → Prop) (h : f_L_power al a0 a1 u Q) : Met l yL_power wsL_power ({ frames := 0, cells := 0, slots := 0, locals := 0 }) (va_Pc [.int a0, .int a1] (PC D cI cG cZ cJ ts L ad al sz u)) (va_Qi Q (fun u9 t => va_P D vwCl (cW cI cG L ad al u9) t.heap) (cA L ad sz)) 0 0 (cA L ad sz) := by
  refine Met.ofW (cc := cL_power) (maxL := 4) (ret := (some .int)) (by decide) rfl ?_
  intro p e s m args below meth c s₁ B hml hv
  obtain ⟨rfl, hsz, hP, hC⟩ := hv
  subst hsz
  have X : FX RL wsL_power cL_power 4 (some .int) D cI cG cZ cJ ts L ad p s m _ meth c := ⟨B.exec, B.bytes, hml, findClass_of_methodNamed B.named, atoms_spec (ws := wsL_power) B.pre, B.returns, B.notSynchronized, hwd, hC⟩
  have hl := lv_entry ([.int a0, .int a1]) (n := 4) (Nat.le_of_ble_eq_true rfl)
  rw [lg_entry_eq]
  generalize (lg_sl ([.int a0, .int a1]) ++ List.replicate (4 - (lg_sl ([.int a0, .int a1])).length) Slot.unset).toArray = ls at hl ⊢
  exact w_L_power hL X a0 a1 Q u _ _ _ h hP va_S.rf hl
set_option maxRecDepth 100000 in
set_option maxHeartbeats 4000000 in
theorem w_L_plus_L5 {p : Program} {l : Launch} {e : Env} {s : State} {m : MethodId} {args : Array Value} {below : List Frame} {meth : Method} {c : Code} {D : va_G} {cI cG cZ cJ : ClassId} {ts : Nat × Nat} {L : List Nat} {ad : Nat → Nat} {al : Nat} (hL : Lf L al) (X : FX RL wsL_plus cL_plus 5 (some .int) D cI cG cZ cJ ts L ad p s m args meth c) (a0 : Int32) (a1 : Int32) (a2 : Int32) (Q : Int32 → St → Prop)
    (K0 : Int32 → St → Prop) (hk0 : ∀ (b3 : Int32) (u : St) (H : Heap) (locs : List Loc) (ls : Array Slot), K0 b3 u → va_P D vwCl (cW cI cG L ad al u) H → va_S (cA L ad s.heap.size) s.heap H locs → lv_has ls 5 [(3, .int b3)] → W p l e (headSpec wsL_plus { frames := 1, cells := 0, slots := 0, locals := 23 }).room s m args below meth c H locs 0 0 (MQ below (va_Qi Q (fun u9 t => va_P D vwCl (cW cI cG L ad al u9) t.heap) (cA L ad s.heap.size)) args s 0 0 (cA L ad s.heap.size)) (F0 m 44 ls []))
    : ∀ (n : Nat) (a3 : Int32) (a4 : Int32) (u : St) (H : Heap) (locs : List Loc) (ls : Array Slot), f_L_plus_L5 al a0 a1 a2 Q K0 n a3 a4 u → va_P D vwCl (cW cI cG L ad al u) H → va_S (cA L ad s.heap.size) s.heap H locs → lv_has ls 5 [(0, .int a0), (1, .int a1), (2, .int a2), (3, .int a3), (4, .int a4)] → W p l e (headSpec wsL_plus { frames := 1, cells := 0, slots := 0, locals := 23 }).room s m args below meth c H locs 0 0 (MQ below (va_Qi Q (fun u9 t => va_P D vwCl (cW cI cG L ad al u9) t.heap) (cA L ad s.heap.size)) args s 0 0 (cA L ad s.heap.size)) (F0 m 5 ls []) := by
  obtain ⟨hx, hb, hml, hown, hts, hr, hlocks, hwd, hC⟩ := id X
  have hK := hC.1
  intro n
  induction n with
  | zero =>
    intro a3 a4 u H locs ls h; exact h.elim
  | succ n ih =>
    intro a3 a4 u H locs ls h hP hS hl
    replace h : f_L_plus_L5_s al a0 a1 a2 Q K0 (f_L_plus_L5 al a0 a1 a2 Q K0 n) a3 a4 u := h
    unfold f_L_plus_L5_s at h
    refine lv_iload hx hb dL_plus_5 (lv_at hl 4 rfl) ?_
    refine lv_if_lt (tgt := 44) hx hb dL_plus_7 (by decide) (fun c1 => ?_) (fun c1 => ?_)
    · replace h := h.1 c1
      exact hk0 a3 _ _ _ _ h hP hS (lv_sub hl [3] rfl)
    · replace h := h.2 c1
      refine lv_iload_n hx hb dL_plus_10 rfl (lv_at hl 0 rfl) ?_
      refine lv_iload_n hx hb dL_plus_11 rfl (lv_at hl 3 rfl) ?_
      refine lv_imul hx hb dL_plus_12 ?_
      refine lv_iload_n hx hb dL_plus_13 rfl (lv_at hl 1 rfl) ?_
      refine lv_iload_n hx hb dL_plus_14 rfl (lv_at hl 0 rfl) ?_
      refine lv_iload hx hb dL_plus_15 (lv_at hl 4 rfl) ?_
      refine cc_i (va_runS (As := [.int a0, .int a4]) (rest := [.int a1, .int (a0 * a3)]) ⟨hx, hb, hml, hown, hts⟩ (c_L_power hL hwd H.size u a0 a4 _ h) (va_cwS 2 hts gL_plus_L_power rfl rfl rfl (by decide +kernel) ⟨Nat.le_of_ble_eq_true rfl, Nat.le_of_ble_eq_true rfl⟩) (pcS hC hP hS) rfl rfl hl.1 rfl (lv_room (Nat.le_of_ble_eq_true rfl)) dL_plus_17 ⟨Nat.zero_le _, Nat.zero_le _⟩) hS (cA_mono hS.1) (fun v2 u3 H locs h hP hS => ?_)
      refine lv_idiv hx hb dL_plus_20 h.1 ?_
      replace h := h.2
      refine lv_topi (fun v4 ev4 => ?_)
      replace h := h v4 ev4
      refine lv_iload_n hx hb dL_plus_21 rfl (lv_at hl 0 rfl) ?_
      refine lv_irem hx hb dL_plus_22 h.1 ?_
      replace h := h.2
      refine lv_topi (fun v5 ev5 => ?_)
      replace h := h v5 ev5
      refine lv_iload_n hx hb dL_plus_23 rfl (lv_at hl 2 rfl) ?_
      refine lv_iload_n hx hb dL_plus_24 rfl (lv_at hl 0 rfl) ?_
      refine lv_iload hx hb dL_plus_25 (lv_at hl 4 rfl) ?_
      refine cc_i (va_runS (As := [.int a0, .int a4]) (rest := [.int a2, .int v5, .int (a0 * a3)]) ⟨hx, hb, hml, hown, hts⟩ (c_L_power hL hwd H.size u3 a0 a4 _ h) (va_cwS 2 hts gL_plus_L_power rfl rfl rfl (by decide +kernel) ⟨Nat.le_of_ble_eq_true rfl, Nat.le_of_ble_eq_true rfl⟩) (pcS hC hP hS) rfl rfl hl.1 rfl (lv_room (Nat.le_of_ble_eq_true rfl)) dL_plus_27 ⟨Nat.zero_le _, Nat.zero_le _⟩) hS (cA_mono hS.1) (fun v6 u7 H locs h hP hS => ?_)
      refine lv_idiv hx hb dL_plus_30 h.1 ?_
      replace h := h.2
      refine lv_topi (fun v8 ev8 => ?_)
      replace h := h v8 ev8
      refine lv_iload_n hx hb dL_plus_31 rfl (lv_at hl 0 rfl) ?_
      refine lv_irem hx hb dL_plus_32 h.1 ?_
      replace h := h.2
      refine lv_topi (fun v9 ev9 => ?_)
      replace h := h v9 ev9
      refine lv_iadd hx hb dL_plus_33 ?_
      refine lv_iload_n hx hb dL_plus_34 rfl (lv_at hl 0 rfl) ?_
      refine lv_irem hx hb dL_plus_35 h.1 ?_
      replace h := h.2
      refine lv_topi (fun v10 ev10 => ?_)
      replace h := h v10 ev10
      refine lv_iadd hx hb dL_plus_36 ?_
      refine lv_topi (fun v11 ev11 => ?_)
      replace h := h v11 ev11
      refine lv_istore_n (lv' := [(3, .int v11), (0, .int a0), (1, .int a1), (2, .int a2), (4, .int a4)]) hx hb dL_plus_37 rfl hl (by decide) rfl (fun ls hl => ?_)
      obtain ⟨v12, ev12⟩ : ∃ y : Int32, y = a4 + (-1) := ⟨_, rfl⟩
      refine lv_iinc (v := v12) (lv' := [(4, .int v12), (3, .int v11), (0, .int a0), (1, .int a1), (2, .int a2)]) hx hb dL_plus_38 hl (k := 4) rfl (by rw [ev12]; rfl) (by decide) rfl (fun ls hl => ?_)
      replace h := h v12 ev12
      refine lv_goto (tgt := 5) hx hb dL_plus_41 (by decide) ?_
      exact ih v11 v12 _ _ _ _ h hP hS (lv_sub hl [2, 3, 4, 1, 0] rfl)
set_option maxRecDepth 100000 in
set_option maxHeartbeats 4000000 in
theorem w_L_plus {p : Program} {l : Launch} {e : Env} {s : State} {m : MethodId} {args : Array Value} {below : List Frame} {meth : Method} {c : Code} {D : va_G} {cI cG cZ cJ : ClassId} {ts : Nat × Nat} {L : List Nat} {ad : Nat → Nat} {al : Nat} (hL : Lf L al) (X : FX RL wsL_plus cL_plus 5 (some .int) D cI cG cZ cJ ts L ad p s m args meth c) (a0 : Int32) (a1 : Int32) (a2 : Int32) (Q : Int32 → St → Prop) (u : St) (H : Heap) (locs : List Loc) (ls : Array Slot) (h : f_L_plus al a0 a1 a2 u Q) (hP : va_P D vwCl (cW cI cG L ad al u) H) (hS : va_S (cA L ad s.heap.size) s.heap H locs) (hl : lv_has ls 5 [(0, .int a0), (1, .int a1), (2, .int a2)]) : W p l e (headSpec wsL_plus { frames := 1, cells := 0, slots := 0, locals := 23 }).room s m args below meth c H locs 0 0 (MQ below (va_Qi Q (fun u9 t => va_P D vwCl (cW cI cG L ad al u9) t.heap) (cA L ad s.heap.size)) args s 0 0 (cA L ad s.heap.size)) (F0 m 0 ls []) := by
  obtain ⟨hx, hb, hml, hown, hts, hr, hlocks, hwd, hC⟩ := id X
  have hK := hC.1
  unfold f_L_plus at h
  refine lv_iconst (v := 0) hx hb dL_plus_0 (by decide) ?_
  refine lv_istore_n (lv' := [(3, .int 0), (0, .int a0), (1, .int a1), (2, .int a2)]) hx hb dL_plus_1 rfl hl (by decide) rfl (fun ls hl => ?_)
  refine lv_iconst (v := 4) hx hb dL_plus_2 (by decide) ?_
  refine lv_istore (lv' := [(4, .int 4), (3, .int 0), (0, .int a0), (1, .int a1), (2, .int a2)]) hx hb dL_plus_3 hl (by decide) rfl (fun ls hl => ?_)
  obtain ⟨n13, h⟩ := h
  refine w_L_plus_L5 hL X a0 a1 a2 _ _ (fun v14 u15 H locs ls h hP hS hl => ?_) n13 0 4 _ _ _ _ h hP hS (lv_sub hl [2, 3, 4, 1, 0] rfl)
  refine lv_iload_n hx hb dL_plus_44 rfl (lv_at hl 0 rfl) ?_
  exact W.iret (v := v14) hx hb hr (fun t ht hW => ⟨⟨_, _, rfl, h, by show va_P _ _ _ t.heap; rw [ht]; exact hP⟩, hS.F ht⟩) hS.2.2 dL_plus_45
set_option maxRecDepth 100000 in
set_option maxHeartbeats 4000000 in
theorem c_L_plus {l : Launch} {D : va_G} {cI cG cZ cJ : ClassId} {ts : Nat × Nat} {L : List Nat} {ad : Nat → Nat} {al : Nat} (hL : Lf L al) (hwd : WD L ad) (sz : Nat) (u : St) (a0 : Int32) (a1 : Int32) (a2 : Int32) (Q : Int32 → St → Prop) (h : f_L_plus al a0 a1 a2 u Q) : Met l yL_plus wsL_plus ({ frames := 1, cells := 0, slots := 0, locals := 23 }) (va_Pc [.int a0, .int a1, .int a2] (PC D cI cG cZ cJ ts L ad al sz u)) (va_Qi Q (fun u9 t => va_P D vwCl (cW cI cG L ad al u9) t.heap) (cA L ad sz)) 0 0 (cA L ad sz) := by
  refine Met.ofW (cc := cL_plus) (maxL := 5) (ret := (some .int)) (by decide) rfl ?_
  intro p e s m args below meth c s₁ B hml hv
  obtain ⟨rfl, hsz, hP, hC⟩ := hv
  subst hsz
  have X : FX RL wsL_plus cL_plus 5 (some .int) D cI cG cZ cJ ts L ad p s m _ meth c := ⟨B.exec, B.bytes, hml, findClass_of_methodNamed B.named, atoms_spec (ws := wsL_plus) B.pre, B.returns, B.notSynchronized, hwd, hC⟩
  have hl := lv_entry ([.int a0, .int a1, .int a2]) (n := 5) (Nat.le_of_ble_eq_true rfl)
  rw [lg_entry_eq]
  generalize (lg_sl ([.int a0, .int a1, .int a2]) ++ List.replicate (5 - (lg_sl ([.int a0, .int a1, .int a2])).length) Slot.unset).toArray = ls at hl ⊢
  exact w_L_plus hL X a0 a1 a2 Q u _ _ _ h hP va_S.rf hl
set_option maxRecDepth 100000 in
set_option maxHeartbeats 4000000 in
theorem w_L_call {p : Program} {l : Launch} {e : Env} {s : State} {m : MethodId} {args : Array Value} {below : List Frame} {meth : Method} {c : Code} {D : va_G} {cI cG cZ cJ : ClassId} {ts : Nat × Nat} {L : List Nat} {ad : Nat → Nat} {al : Nat} (hflag : l.stackTraces = false) (hT : ∀ x ∈ c.exceptionTable.toList, False) (hX : XW s) (hL : Lf L al) (X : FX RL wsL_call cL_call 5 (some .int) D cI cG cZ cJ ts L ad p s m args meth c) (a1 : Int32) (a2 : Int32) (a3 : Int32) (a4 : Int32) (Q : Int32 → St → Prop) (QX : String → St → Prop) (u : St) (H : Heap) (locs : List Loc) (ls : Array Slot) (h : f_L_call al a1 a2 a3 a4 u Q QX) (hP : va_P D vwCl (cW cI cG L ad al u) H) (hS : va_S (cA L ad s.heap.size) s.heap H locs) (hl : lv_has ls 5 [(0, .ref (ad 0)), (1, .int a1), (2, .int a2), (3, .int a3), (4, .int a4)]) : W p l e (headSpec wsL_call { frames := 8, cells := 4, slots := 24, locals := 160 }).room s m args below meth c H locs 0 0 (vx_MQ below (va_Qi Q (fun u9 t => va_P D vwCl (cW cI cG L ad al u9) t.heap) (cA L ad s.heap.size)) (vx_X (fun _ => True) (fun E u9 t => QX E u9 ∧ va_P D vwCl (cW cI cG L ad al u9) t.heap) (cA L ad s.heap.size)) args s 4 24 (cA L ad s.heap.size)) (F0 m 0 ls []) := by
  obtain ⟨hx, hb, hml, hown, hts, hr, hlocks, hwd, hC⟩ := id X
  have hK := hC.1
  have hout : ∀ (q : Nat), ∀ x ∈ c.exceptionTable.toList, covers x q = false := fun _ x hx => (hT x hx).elim
  have m0 : 0 ∈ L := hL 0 (by omega)
  obtain ⟨i0, hi0⟩ := wL_ix m0
  unfold f_L_call at h
  refine lv_iload_n hx hb dL_call_0 rfl (lv_at hl 1 rfl) ?_
  by_cases c3 : a1 = 0
  · replace h := h.1 c3
    refine lv_tableIn (off := 51) (tgt := 52) hx hb dL_call_1 (by rw [c3]; decide) (by rw [c3]; decide) (by rw [c3]; rfl) (by decide) ?_
    refine lv_aload_n hx hb dL_call_52 rfl (lv_at hl 0 rfl) ?_
    refine lv_iload_n hx hb dL_call_53 rfl (lv_at hl 2 rfl) ?_
    refine cx_i (MC := 4) (MS := 24) (QX := QX) (vx_runV (C := RX6) (As := [.int a2]) (rest := []) ⟨hx, hb, hml, hown, hts⟩ (c_X6_prime hflag hL hwd H.size u a2 _ _ h) (cwV 1 hts gL_call_X6_prime rfl rfl rfl (by decide +kernel) ⟨Nat.le_of_ble_eq_true rfl, Nat.le_of_ble_eq_true rfl⟩) (pcVX hC hX hP hS (cg_0 hi0) rfl) rfl rfl hl.1 rfl (lv_room (Nat.le_of_ble_eq_true rfl)) dL_call_54 ⟨Nat.le_of_ble_eq_true rfl, Nat.le_of_ble_eq_true rfl⟩) hS (cA_mono hS.1) (hout _) hlocks (Nat.le_of_ble_eq_true rfl) (Nat.le_of_ble_eq_true rfl) (fun E u9 h9 => h9) (fun v1 u2 H locs h hP hS => ?_)
    refine W.widen (k := 4) (n := 24) (by decide) (by decide) ?_
    exact vx_ret (W.iret (v := v1) hx hb hr (fun t ht hW => ⟨⟨_, _, rfl, h, by show va_P _ _ _ t.heap; rw [ht]; exact hP⟩, hS.F ht⟩) hS.2.2 dL_call_57)
  by_cases c6 : a1 = 1
  · replace h := h.2.1 c6
    refine lv_tableIn (off := 57) (tgt := 58) hx hb dL_call_1 (by rw [c6]; decide) (by rw [c6]; decide) (by rw [c6]; rfl) (by decide) ?_
    refine lv_aload_n hx hb dL_call_58 rfl (lv_at hl 0 rfl) ?_
    refine lv_iload_n hx hb dL_call_59 rfl (lv_at hl 2 rfl) ?_
    refine lv_iload_n hx hb dL_call_60 rfl (lv_at hl 3 rfl) ?_
    refine cx_i (MC := 4) (MS := 24) (QX := QX) (vx_runV (C := RX6) (As := [.int a2, .int a3]) (rest := []) ⟨hx, hb, hml, hown, hts⟩ (c_X6_form hflag hL hwd H.size u a2 a3 _ _ h) (cwV 2 hts gL_call_X6_form rfl rfl rfl (by decide +kernel) ⟨Nat.le_of_ble_eq_true rfl, Nat.le_of_ble_eq_true rfl⟩) (pcVX hC hX hP hS (cg_0 hi0) rfl) rfl rfl hl.1 rfl (lv_room (Nat.le_of_ble_eq_true rfl)) dL_call_61 ⟨Nat.le_of_ble_eq_true rfl, Nat.le_of_ble_eq_true rfl⟩) hS (cA_mono hS.1) (hout _) hlocks (Nat.le_of_ble_eq_true rfl) (Nat.le_of_ble_eq_true rfl) (fun E u9 h9 => h9) (fun v4 u5 H locs h hP hS => ?_)
    refine W.widen (k := 4) (n := 24) (by decide) (by decide) ?_
    exact vx_ret (W.iret (v := v4) hx hb hr (fun t ht hW => ⟨⟨_, _, rfl, h, by show va_P _ _ _ t.heap; rw [ht]; exact hP⟩, hS.F ht⟩) hS.2.2 dL_call_64)
  by_cases c9 : a1 = 2
  · replace h := h.2.2.1 c9
    refine lv_tableIn (off := 64) (tgt := 65) hx hb dL_call_1 (by rw [c9]; decide) (by rw [c9]; decide) (by rw [c9]; rfl) (by decide) ?_
    refine lv_aload_n hx hb dL_call_65 rfl (lv_at hl 0 rfl) ?_
    refine lv_iload_n hx hb dL_call_66 rfl (lv_at hl 2 rfl) ?_
    refine lv_iload_n hx hb dL_call_67 rfl (lv_at hl 3 rfl) ?_
    refine cx_i (MC := 4) (MS := 24) (QX := QX) (vx_runV (C := RX6) (As := [.int a2, .int a3]) (rest := []) ⟨hx, hb, hml, hown, hts⟩ (c_X6_formIs hflag hL hwd H.size u a2 a3 _ _ h) (cwV 2 hts gL_call_X6_formIs rfl rfl rfl (by decide +kernel) ⟨Nat.le_of_ble_eq_true rfl, Nat.le_of_ble_eq_true rfl⟩) (pcVX hC hX hP hS (cg_0 hi0) rfl) rfl rfl hl.1 rfl (lv_room (Nat.le_of_ble_eq_true rfl)) dL_call_68 ⟨Nat.le_of_ble_eq_true rfl, Nat.le_of_ble_eq_true rfl⟩) hS (cA_mono hS.1) (hout _) hlocks (Nat.le_of_ble_eq_true rfl) (Nat.le_of_ble_eq_true rfl) (fun E u9 h9 => h9) (fun v7 u8 H locs h hP hS => ?_)
    refine W.widen (k := 4) (n := 24) (by decide) (by decide) ?_
    exact vx_ret (W.iret (v := v7) hx hb hr (fun t ht hW => ⟨⟨_, _, rfl, h, by show va_P _ _ _ t.heap; rw [ht]; exact hP⟩, hS.F ht⟩) hS.2.2 dL_call_71)
  by_cases c12 : a1 = 3
  · replace h := h.2.2.2.1 c12
    refine lv_tableIn (off := 71) (tgt := 72) hx hb dL_call_1 (by rw [c12]; decide) (by rw [c12]; decide) (by rw [c12]; rfl) (by decide) ?_
    refine lv_aload_n hx hb dL_call_72 rfl (lv_at hl 0 rfl) ?_
    refine lv_iload_n hx hb dL_call_73 rfl (lv_at hl 2 rfl) ?_
    refine lv_iload_n hx hb dL_call_74 rfl (lv_at hl 3 rfl) ?_
    refine cx_i (MC := 4) (MS := 24) (QX := QX) (vx_runV (C := RX6) (As := [.int a2, .int a3]) (rest := []) ⟨hx, hb, hml, hown, hts⟩ (c_X6_changed hflag hL hwd H.size u a2 a3 _ _ h) (cwV 2 hts gL_call_X6_changed rfl rfl rfl (by decide +kernel) ⟨Nat.le_of_ble_eq_true rfl, Nat.le_of_ble_eq_true rfl⟩) (pcVX hC hX hP hS (cg_0 hi0) rfl) rfl rfl hl.1 rfl (lv_room (Nat.le_of_ble_eq_true rfl)) dL_call_75 ⟨Nat.le_of_ble_eq_true rfl, Nat.le_of_ble_eq_true rfl⟩) hS (cA_mono hS.1) (hout _) hlocks (Nat.le_of_ble_eq_true rfl) (Nat.le_of_ble_eq_true rfl) (fun E u9 h9 => h9) (fun v10 u11 H locs h hP hS => ?_)
    refine W.widen (k := 4) (n := 24) (by decide) (by decide) ?_
    exact vx_ret (W.iret (v := v10) hx hb hr (fun t ht hW => ⟨⟨_, _, rfl, h, by show va_P _ _ _ t.heap; rw [ht]; exact hP⟩, hS.F ht⟩) hS.2.2 dL_call_78)
  by_cases c15 : a1 = 4
  · replace h := h.2.2.2.2.1 c15
    refine lv_tableIn (off := 78) (tgt := 79) hx hb dL_call_1 (by rw [c15]; decide) (by rw [c15]; decide) (by rw [c15]; rfl) (by decide) ?_
    refine lv_aload_n hx hb dL_call_79 rfl (lv_at hl 0 rfl) ?_
    refine lv_iload_n hx hb dL_call_80 rfl (lv_at hl 2 rfl) ?_
    refine cx_i (MC := 4) (MS := 24) (QX := QX) (vx_runV (C := RX6) (As := [.int a2]) (rest := []) ⟨hx, hb, hml, hown, hts⟩ (c_X6_average hflag hL hwd H.size u a2 _ _ h) (cwV 1 hts gL_call_X6_average rfl rfl rfl (by decide +kernel) ⟨Nat.le_of_ble_eq_true rfl, Nat.le_of_ble_eq_true rfl⟩) (pcVX hC hX hP hS (cg_0 hi0) rfl) rfl rfl hl.1 rfl (lv_room (Nat.le_of_ble_eq_true rfl)) dL_call_81 ⟨Nat.le_of_ble_eq_true rfl, Nat.le_of_ble_eq_true rfl⟩) hS (cA_mono hS.1) (hout _) hlocks (Nat.le_of_ble_eq_true rfl) (Nat.le_of_ble_eq_true rfl) (fun E u9 h9 => h9) (fun v13 u14 H locs h hP hS => ?_)
    refine W.widen (k := 4) (n := 24) (by decide) (by decide) ?_
    exact vx_ret (W.iret (v := v13) hx hb hr (fun t ht hW => ⟨⟨_, _, rfl, h, by show va_P _ _ _ t.heap; rw [ht]; exact hP⟩, hS.F ht⟩) hS.2.2 dL_call_84)
  by_cases c18 : a1 = 5
  · replace h := h.2.2.2.2.2.1 c18
    refine lv_tableIn (off := 84) (tgt := 85) hx hb dL_call_1 (by rw [c18]; decide) (by rw [c18]; decide) (by rw [c18]; rfl) (by decide) ?_
    refine lv_aload_n hx hb dL_call_85 rfl (lv_at hl 0 rfl) ?_
    refine lv_iload_n hx hb dL_call_86 rfl (lv_at hl 2 rfl) ?_
    refine lv_iload_n hx hb dL_call_87 rfl (lv_at hl 3 rfl) ?_
    refine lv_iload hx hb dL_call_88 (lv_at hl 4 rfl) ?_
    refine cx_i (MC := 4) (MS := 24) (QX := QX) (vx_runV (C := RX6) (As := [.int a2, .int a3, .int a4]) (rest := []) ⟨hx, hb, hml, hown, hts⟩ (c_X6_transvectant hflag hL hwd H.size u a2 a3 a4 _ _ h) (cwV 3 hts gL_call_X6_transvectant rfl rfl rfl (by decide +kernel) ⟨Nat.le_of_ble_eq_true rfl, Nat.le_of_ble_eq_true rfl⟩) (pcVX hC hX hP hS (cg_0 hi0) rfl) rfl rfl hl.1 rfl (lv_room (Nat.le_of_ble_eq_true rfl)) dL_call_90 ⟨Nat.le_of_ble_eq_true rfl, Nat.le_of_ble_eq_true rfl⟩) hS (cA_mono hS.1) (hout _) hlocks (Nat.le_of_ble_eq_true rfl) (Nat.le_of_ble_eq_true rfl) (fun E u9 h9 => h9) (fun v16 u17 H locs h hP hS => ?_)
    refine W.widen (k := 4) (n := 24) (by decide) (by decide) ?_
    exact vx_ret (W.iret (v := v16) hx hb hr (fun t ht hW => ⟨⟨_, _, rfl, h, by show va_P _ _ _ t.heap; rw [ht]; exact hP⟩, hS.F ht⟩) hS.2.2 dL_call_93)
  by_cases c21 : a1 = 6
  · replace h := h.2.2.2.2.2.2.1 c21
    refine lv_tableIn (off := 93) (tgt := 94) hx hb dL_call_1 (by rw [c21]; decide) (by rw [c21]; decide) (by rw [c21]; rfl) (by decide) ?_
    refine lv_aload_n hx hb dL_call_94 rfl (lv_at hl 0 rfl) ?_
    refine lv_iload_n hx hb dL_call_95 rfl (lv_at hl 2 rfl) ?_
    refine lv_iload_n hx hb dL_call_96 rfl (lv_at hl 3 rfl) ?_
    refine cx_i (MC := 4) (MS := 24) (QX := QX) (vx_runV (C := RX6) (As := [.int a2, .int a3]) (rest := []) ⟨hx, hb, hml, hown, hts⟩ (c_X6_value hflag hL hwd H.size u a2 a3 _ _ h) (cwV 2 hts gL_call_X6_value rfl rfl rfl (by decide +kernel) ⟨Nat.le_of_ble_eq_true rfl, Nat.le_of_ble_eq_true rfl⟩) (pcVX hC hX hP hS (cg_0 hi0) rfl) rfl rfl hl.1 rfl (lv_room (Nat.le_of_ble_eq_true rfl)) dL_call_97 ⟨Nat.le_of_ble_eq_true rfl, Nat.le_of_ble_eq_true rfl⟩) hS (cA_mono hS.1) (hout _) hlocks (Nat.le_of_ble_eq_true rfl) (Nat.le_of_ble_eq_true rfl) (fun E u9 h9 => h9) (fun v19 u20 H locs h hP hS => ?_)
    refine W.widen (k := 4) (n := 24) (by decide) (by decide) ?_
    exact vx_ret (W.iret (v := v19) hx hb hr (fun t ht hW => ⟨⟨_, _, rfl, h, by show va_P _ _ _ t.heap; rw [ht]; exact hP⟩, hS.F ht⟩) hS.2.2 dL_call_100)
  by_cases c24 : a1 = 7
  · replace h := h.2.2.2.2.2.2.2.1 c24
    refine lv_tableIn (off := 100) (tgt := 101) hx hb dL_call_1 (by rw [c24]; decide) (by rw [c24]; decide) (by rw [c24]; rfl) (by decide) ?_
    refine lv_aload_n hx hb dL_call_101 rfl (lv_at hl 0 rfl) ?_
    refine lv_iload_n hx hb dL_call_102 rfl (lv_at hl 2 rfl) ?_
    refine lv_iload_n hx hb dL_call_103 rfl (lv_at hl 3 rfl) ?_
    refine cx_i (MC := 4) (MS := 24) (QX := QX) (vx_runV (C := RX6) (As := [.int a2, .int a3]) (rest := []) ⟨hx, hb, hml, hown, hts⟩ (c_X6_way hflag hL hwd H.size u a2 a3 _ _ h) (cwV 2 hts gL_call_X6_way rfl rfl rfl (by decide +kernel) ⟨Nat.le_of_ble_eq_true rfl, Nat.le_of_ble_eq_true rfl⟩) (pcVX hC hX hP hS (cg_0 hi0) rfl) rfl rfl hl.1 rfl (lv_room (Nat.le_of_ble_eq_true rfl)) dL_call_104 ⟨Nat.le_of_ble_eq_true rfl, Nat.le_of_ble_eq_true rfl⟩) hS (cA_mono hS.1) (hout _) hlocks (Nat.le_of_ble_eq_true rfl) (Nat.le_of_ble_eq_true rfl) (fun E u9 h9 => h9) (fun v22 u23 H locs h hP hS => ?_)
    refine W.widen (k := 4) (n := 24) (by decide) (by decide) ?_
    exact vx_ret (W.iret (v := v22) hx hb hr (fun t ht hW => ⟨⟨_, _, rfl, h, by show va_P _ _ _ t.heap; rw [ht]; exact hP⟩, hS.F ht⟩) hS.2.2 dL_call_107)
  by_cases c27 : a1 = 8
  · replace h := h.2.2.2.2.2.2.2.2.1 c27
    refine lv_tableIn (off := 107) (tgt := 108) hx hb dL_call_1 (by rw [c27]; decide) (by rw [c27]; decide) (by rw [c27]; rfl) (by decide) ?_
    refine lv_aload_n hx hb dL_call_108 rfl (lv_at hl 0 rfl) ?_
    refine lv_iload_n hx hb dL_call_109 rfl (lv_at hl 2 rfl) ?_
    refine lv_iload_n hx hb dL_call_110 rfl (lv_at hl 3 rfl) ?_
    refine lv_iload hx hb dL_call_111 (lv_at hl 4 rfl) ?_
    refine cx_i (MC := 4) (MS := 24) (QX := QX) (vx_runV (C := RX6) (As := [.int a2, .int a3, .int a4]) (rest := []) ⟨hx, hb, hml, hown, hts⟩ (c_X6_step hflag hL hwd H.size u a2 a3 a4 _ _ h) (cwV 3 hts gL_call_X6_step rfl rfl rfl (by decide +kernel) ⟨Nat.le_of_ble_eq_true rfl, Nat.le_of_ble_eq_true rfl⟩) (pcVX hC hX hP hS (cg_0 hi0) rfl) rfl rfl hl.1 rfl (lv_room (Nat.le_of_ble_eq_true rfl)) dL_call_113 ⟨Nat.le_of_ble_eq_true rfl, Nat.le_of_ble_eq_true rfl⟩) hS (cA_mono hS.1) (hout _) hlocks (Nat.le_of_ble_eq_true rfl) (Nat.le_of_ble_eq_true rfl) (fun E u9 h9 => h9) (fun v25 u26 H locs h hP hS => ?_)
    refine W.widen (k := 4) (n := 24) (by decide) (by decide) ?_
    exact vx_ret (W.iret (v := v25) hx hb hr (fun t ht hW => ⟨⟨_, _, rfl, h, by show va_P _ _ _ t.heap; rw [ht]; exact hP⟩, hS.F ht⟩) hS.2.2 dL_call_116)
  replace h := h.2.2.2.2.2.2.2.2.2 ⟨c3, c6, c9, c12, c15, c18, c21, c24, c27⟩
  refine lv_tableOut (tgt := 117) hx hb dL_call_1 (by have q0 := lv_neT (a := 0) c3 rfl; have q1 := lv_neT (a := 1) c6 rfl; have q2 := lv_neT (a := 2) c9 rfl; have q3 := lv_neT (a := 3) c12 rfl; have q4 := lv_neT (a := 4) c15 rfl; have q5 := lv_neT (a := 5) c18 rfl; have q6 := lv_neT (a := 6) c21 rfl; have q7 := lv_neT (a := 7) c24 rfl; have q8 := lv_neT (a := 8) c27 rfl; omega) (by decide) ?_
  refine lv_aload_n hx hb dL_call_117 rfl (lv_at hl 0 rfl) ?_
  refine lv_iload_n hx hb dL_call_118 rfl (lv_at hl 2 rfl) ?_
  refine lv_iload_n hx hb dL_call_119 rfl (lv_at hl 3 rfl) ?_
  refine cx_i (MC := 4) (MS := 24) (QX := QX) (vx_runV (C := RX6) (As := [.int a2, .int a3]) (rest := []) ⟨hx, hb, hml, hown, hts⟩ (c_X6_multiplicity hflag hL hwd H.size u a2 a3 _ _ h) (cwV 2 hts gL_call_X6_multiplicity rfl rfl rfl (by decide +kernel) ⟨Nat.le_of_ble_eq_true rfl, Nat.le_of_ble_eq_true rfl⟩) (pcVX hC hX hP hS (cg_0 hi0) rfl) rfl rfl hl.1 rfl (lv_room (Nat.le_of_ble_eq_true rfl)) dL_call_120 ⟨Nat.le_of_ble_eq_true rfl, Nat.le_of_ble_eq_true rfl⟩) hS (cA_mono hS.1) (hout _) hlocks (Nat.le_of_ble_eq_true rfl) (Nat.le_of_ble_eq_true rfl) (fun E u9 h9 => h9) (fun v28 u29 H locs h hP hS => ?_)
  refine W.widen (k := 4) (n := 24) (by decide) (by decide) ?_
  exact vx_ret (W.iret (v := v28) hx hb hr (fun t ht hW => ⟨⟨_, _, rfl, h, by show va_P _ _ _ t.heap; rw [ht]; exact hP⟩, hS.F ht⟩) hS.2.2 dL_call_123)
set_option maxRecDepth 100000 in
set_option maxHeartbeats 4000000 in
theorem c_L_call {l : Launch} {D : va_G} {cI cG cZ cJ : ClassId} {ts : Nat × Nat} {L : List Nat} {ad : Nat → Nat} {al : Nat} (hflag : l.stackTraces = false) (hL : Lf L al) (hwd : WD L ad) (sz : Nat) (u : St) (a1 : Int32) (a2 : Int32) (a3 : Int32) (a4 : Int32) (Q : Int32 → St → Prop) (QX : String → St → Prop) (h : f_L_call al a1 a2 a3 a4 u Q QX) : vx_Met l yL_call wsL_call ({ frames := 8, cells := 4, slots := 24, locals := 160 }) (va_Pc [.ref (ad 0), .int a1, .int a2, .int a3, .int a4] (PCX D cI cG cZ cJ ts L ad al sz u)) (va_Qi Q (fun u9 t => va_P D vwCl (cW cI cG L ad al u9) t.heap) (cA L ad sz)) (vx_X (fun _ => True) (fun E u9 t => QX E u9 ∧ va_P D vwCl (cW cI cG L ad al u9) t.heap) (cA L ad sz)) 4 24 (cA L ad sz) := by
  refine vx_ofW (cc := cL_call) (maxL := 5) (ret := (some .int)) (by decide) rfl ?_
  intro p e s m args below meth c s₁ B hml hT hv
  obtain ⟨rfl, ⟨hsz, hP, hC⟩, hX⟩ := hv
  subst hsz
  have X : FX RL wsL_call cL_call 5 (some .int) D cI cG cZ cJ ts L ad p s m _ meth c := ⟨B.exec, B.bytes, hml, findClass_of_methodNamed B.named, atoms_spec (ws := wsL_call) B.pre, B.returns, B.notSynchronized, hwd, hC⟩
  have hl := lv_entry ([.ref (ad 0), .int a1, .int a2, .int a3, .int a4]) (n := 5) (Nat.le_of_ble_eq_true rfl)
  rw [lg_entry_eq]
  generalize (lg_sl ([.ref (ad 0), .int a1, .int a2, .int a3, .int a4]) ++ List.replicate (5 - (lg_sl ([.ref (ad 0), .int a1, .int a2, .int a3, .int a4])).length) Slot.unset).toArray = ls at hl ⊢
  exact w_L_call hflag hT hX hL X a1 a2 a3 a4 Q QX u _ _ _ h hP va_S.rf hl
set_option maxRecDepth 100000 in
set_option maxHeartbeats 4000000 in
theorem c_L_ask {l : Launch} {D : va_G} {cI cG cZ cJ : ClassId} {ts : Nat × Nat} {L : List Nat} {ad : Nat → Nat} {al : Nat} (hflag : l.stackTraces = false) (hL : Lf L al) (hwd : WD L ad) (sz : Nat) (u : St) (a1 a2 a3 a4 : Int32) (Q : Int32 → St → Prop) (h : f_L_ask al a1 a2 a3 a4 u Q) : Met l yL_ask wsL_ask ({ frames := 9, cells := 4, slots := 24, locals := 184 }) (va_Pc [.ref (ad 0), .int a1, .int a2, .int a3, .int a4] (PCN D cI cG cZ cJ ts L ad al sz u)) (va_Qi Q (fun u9 t => va_P D vwCl (cW cI cG L ad al u9) t.heap) (cA L ad sz)) 4 24 (cA L ad sz) := by
  refine met_ofWH (cc := cL_ask) (maxL := 6) (ret := (some .int)) (hh := [(0, 9, 10, 48), (0, 9, 15, 50), (0, 9, 20, 52)]) (by decide) rfl ?_
  intro p e s m args below meth c s₁ B hml hv
  obtain ⟨rfl, ⟨⟨hsz, hP, hC⟩, hX⟩, hN⟩ := hv
  have hx := B.exec
  have hb := B.bytes
  have hr := B.returns
  have hts := atoms_spec (ws := wsL_ask) B.pre
  have hown : s.vm.findClass RL = some m.cls := findClass_of_methodNamed B.named
  have hlocks := B.notSynchronized
  have htab := vx_table (x := yL_ask) B (hts _ List.mem_cons_self)
  subst hsz
  have hK := hC.1
  obtain ⟨i0, hi0⟩ := wL_ix (hL 0 (by omega))
  have hS : va_S (cA L ad s.heap.size) s.heap s.heap [] := va_S.rf
  have hl := lv_entry ([.ref (ad 0), .int a1, .int a2, .int a3, .int a4]) (n := 6) (Nat.le_of_ble_eq_true rfl)
  rw [lg_entry_eq]
  generalize (lg_sl ([.ref (ad 0), .int a1, .int a2, .int a3, .int a4]) ++ List.replicate (6 - (lg_sl ([.ref (ad 0), .int a1, .int a2, .int a3, .int a4])).length) Slot.unset).toArray = ls at hl ⊢
  have hl : lv_has ls 6 [(0, .ref (ad 0)), (1, .int a1), (2, .int a2), (3, .int a3), (4, .int a4)] := hl
  refine lv_aload_n hx hb dL_ask_0 rfl (lv_at hl 0 rfl) ?_
  refine lv_iload_n hx hb dL_ask_1 rfl (lv_at hl 1 rfl) ?_
  refine lv_iload_n hx hb dL_ask_2 rfl (lv_at hl 2 rfl) ?_
  refine lv_iload_n hx hb dL_ask_3 rfl (lv_at hl 3 rfl) ?_
  refine lv_iload hx hb dL_ask_4 (lv_at hl 4 rfl) ?_
  refine vx_calli (vx_runS (As := [.ref (ad 0), .int a1, .int a2, .int a3, .int a4]) (rest := []) ⟨hx, hb, hml, hown, hts⟩ (c_L_call hflag hL hwd s.heap.size u a1 a2 a3 a4 _ _ h) (va_cwS 5 hts gL_ask_L_call rfl rfl rfl (by decide +kernel) ⟨Nat.le_of_ble_eq_true rfl, Nat.le_of_ble_eq_true rfl⟩) (pcSX hC hX hP hS) rfl rfl hl.1 rfl (lv_room (Nat.le_of_ble_eq_true rfl)) dL_ask_6 ⟨Nat.le_of_ble_eq_true rfl, Nat.le_of_ble_eq_true rfl⟩) hS (fun q _ h9 => h9) (fun q h9 => h9) (fun q _ h9 => h9) ?_ ?_
  · intro E ce q9 u9 t H1 locs1 ht hvm _ hB hz hk hS2 hcell hv9 hcl
    obtain ⟨hqx, hP1⟩ := hB
    rw [ht] at hP1
    refine vx_widen (k := 4) (n := 24) (Nat.le_of_ble_eq_true rfl) (Nat.le_of_ble_eq_true rfl) ?_
    rcases hqx with ⟨rfl, hR0⟩ | ⟨rfl, hR0⟩ | ⟨rfl, hR0⟩
    · refine vx_catch (name := "java/lang/IndexOutOfBoundsException") hown [] ⟨0, 9, 10, 48⟩ [⟨0, 9, 15, 50⟩, ⟨0, 9, 20, 52⟩] htab (fun z hz => absurd hz List.not_mem_nil) rfl (by decide) (hts (.classLink RL 48 "java/lang/IndexOutOfBoundsException") (by decide +kernel)) (va_Nw.use rfl (hX.1 _ (by simp))) hcell hv9 hcl ?_
      refine W.eq (g2 := F0 m 10 ls [.ref q9]) rfl ?_
      refine lv_astore (lv' := [(5, .ref q9), (0, .ref (ad 0)), (1, .int a1), (2, .int a2), (3, .int a3), (4, .int a4)]) hx hb dL_ask_10 hl (by decide) rfl (fun ls hl => ?_)
      refine lv_bipush (v := (-11)) hx hb dL_ask_12 (by decide) ?_
      exact W.iret (v := (-11)) hx hb hr (fun t ht hW => ⟨⟨_, u9, rfl, hR0, by show va_P _ _ _ t.heap; rw [ht]; exact hP1⟩, hS2.F ht⟩) hS2.2.2 dL_ask_14
    · refine vx_catch (name := "java/lang/IllegalArgumentException") hown [⟨0, 9, 10, 48⟩] ⟨0, 9, 15, 50⟩ [⟨0, 9, 20, 52⟩] htab (fun z hz => by rw [List.mem_singleton.mp hz]; exact Or.inr ⟨by decide, "java/lang/IndexOutOfBoundsException", hts (.classLink RL 48 "java/lang/IndexOutOfBoundsException") (by decide +kernel), hN.2.1⟩) rfl (by decide) (hts (.classLink RL 50 "java/lang/IllegalArgumentException") (by decide +kernel)) (va_Nw.use rfl (hX.1 _ (by simp))) hcell hv9 hcl ?_
      refine W.eq (g2 := F0 m 15 ls [.ref q9]) rfl ?_
      refine lv_astore (lv' := [(5, .ref q9), (0, .ref (ad 0)), (1, .int a1), (2, .int a2), (3, .int a3), (4, .int a4)]) hx hb dL_ask_15 hl (by decide) rfl (fun ls hl => ?_)
      refine lv_bipush (v := (-12)) hx hb dL_ask_17 (by decide) ?_
      exact W.iret (v := (-12)) hx hb hr (fun t ht hW => ⟨⟨_, u9, rfl, hR0, by show va_P _ _ _ t.heap; rw [ht]; exact hP1⟩, hS2.F ht⟩) hS2.2.2 dL_ask_19
    · refine vx_catch (name := "java/lang/IllegalStateException") hown [⟨0, 9, 10, 48⟩, ⟨0, 9, 15, 50⟩] ⟨0, 9, 20, 52⟩ [] htab (fun z hz => by
        simp only [List.mem_cons, List.not_mem_nil, or_false] at hz
        rcases hz with rfl | rfl
        · exact Or.inr ⟨by decide, "java/lang/IndexOutOfBoundsException", hts (.classLink RL 48 "java/lang/IndexOutOfBoundsException") (by decide +kernel), hN.2.2⟩
        · exact Or.inr ⟨by decide, "java/lang/IllegalArgumentException", hts (.classLink RL 50 "java/lang/IllegalArgumentException") (by decide +kernel), hN.1⟩
        ) rfl (by decide) (hts (.classLink RL 52 "java/lang/IllegalStateException") (by decide +kernel)) (va_Nw.use rfl (hX.1 _ (by simp))) hcell hv9 hcl ?_
      refine W.eq (g2 := F0 m 20 ls [.ref q9]) rfl ?_
      refine lv_astore (lv' := [(5, .ref q9), (0, .ref (ad 0)), (1, .int a1), (2, .int a2), (3, .int a3), (4, .int a4)]) hx hb dL_ask_20 hl (by decide) rfl (fun ls hl => ?_)
      refine lv_bipush (v := (-13)) hx hb dL_ask_22 (by decide) ?_
      exact W.iret (v := (-13)) hx hb hr (fun t ht hW => ⟨⟨_, u9, rfl, hR0, by show va_P _ _ _ t.heap; rw [ht]; exact hP1⟩, hS2.F ht⟩) hS2.2.2 dL_ask_24
  · intro r u9 t H1 locs1 ht hvm hR hB hz hk hS2
    have hP1 : va_P D vwCl (cW cI cG L ad al u9) H1 := by rw [← ht]; exact hB
    refine W.widen (k := 4) (n := 24) (Nat.le_of_ble_eq_true rfl) (Nat.le_of_ble_eq_true rfl) ?_
    exact W.iret (v := r) hx hb hr (fun t ht hW => ⟨⟨_, _, rfl, hR, by show va_P _ _ _ t.heap; rw [ht]; exact hP1⟩, hS2.F ht⟩) hS2.2.2 dL_ask_9
set_option maxRecDepth 100000 in
set_option maxHeartbeats 4000000 in
theorem c_L_generator {l : Launch} {D : va_G} {cI cG cZ cJ : ClassId} {ts : Nat × Nat} {L : List Nat} {ad : Nat → Nat} {al : Nat} (hflag : l.stackTraces = false) (hL : Lf L al) (hLb : Lb L al) (hwd : WD L ad) (sz : Nat) (u : St) (a1 a2 a3 a4 : Int32) (Q : Nat → Int32 → St → Prop) (h : f_L_generator al a1 a2 a3 a4 u Q) : Met l yL_generator wsL_generator ({ frames := 7, cells := 2, slots := 3902, locals := 172 }) (va_Pc [.ref (ad 0), .int a1, .int a2, .int a3, .int a4] (PCN D cI cG cZ cJ ts L ad al sz u)) (va_Qi (QY L ad sz Q) (BZ D cI cG) (cA L ad sz)) 2 3902 (cA L ad sz) := by
  refine met_ofWH (cc := cL_generator) (maxL := 6) (ret := (some .int)) (hh := [(0, 9, 10, 50), (0, 9, 15, 52)]) (by decide) rfl ?_
  intro p e s m args below meth c s₁ B hml hv
  obtain ⟨rfl, ⟨⟨hsz, hP, hC⟩, hX⟩, hN⟩ := hv
  have hx := B.exec
  have hb := B.bytes
  have hr := B.returns
  have hts := atoms_spec (ws := wsL_generator) B.pre
  have hown : s.vm.findClass RL = some m.cls := findClass_of_methodNamed B.named
  have hlocks := B.notSynchronized
  have htab := vx_table (x := yL_generator) B (hts _ List.mem_cons_self)
  subst hsz
  have hK := hC.1
  obtain ⟨i0, hi0⟩ := wL_ix (hL 0 (by omega))
  have hS : va_S (cA L ad s.heap.size) s.heap s.heap [] := va_S.rf
  have hl := lv_entry ([.ref (ad 0), .int a1, .int a2, .int a3, .int a4]) (n := 6) (Nat.le_of_ble_eq_true rfl)
  rw [lg_entry_eq]
  generalize (lg_sl ([.ref (ad 0), .int a1, .int a2, .int a3, .int a4]) ++ List.replicate (6 - (lg_sl ([.ref (ad 0), .int a1, .int a2, .int a3, .int a4])).length) Slot.unset).toArray = ls at hl ⊢
  have hl : lv_has ls 6 [(0, .ref (ad 0)), (1, .int a1), (2, .int a2), (3, .int a3), (4, .int a4)] := hl
  refine lv_aload_n hx hb dL_generator_0 rfl (lv_at hl 0 rfl) ?_
  refine lv_iload_n hx hb dL_generator_1 rfl (lv_at hl 1 rfl) ?_
  refine lv_iload_n hx hb dL_generator_2 rfl (lv_at hl 2 rfl) ?_
  refine lv_iload_n hx hb dL_generator_3 rfl (lv_at hl 3 rfl) ?_
  refine lv_iload hx hb dL_generator_4 (lv_at hl 4 rfl) ?_
  refine vx_calli (vx_runV (C := RX6) (As := [.int a1, .int a2, .int a3, .int a4]) (rest := []) ⟨hx, hb, hml, hown, hts⟩ (c_X6_generator hflag hL hLb hwd s.heap.size u a1 a2 a3 a4 _ _ h) (cwV 4 hts gL_generator_X6_generator rfl rfl rfl (by decide +kernel) ⟨Nat.le_of_ble_eq_true rfl, Nat.le_of_ble_eq_true rfl⟩) (pcVX hC hX hP hS (cg_0 hi0) rfl) rfl rfl hl.1 rfl (lv_room (Nat.le_of_ble_eq_true rfl)) dL_generator_6 ⟨Nat.le_of_ble_eq_true rfl, Nat.le_of_ble_eq_true rfl⟩) hS (fun q _ h9 => h9) (fun q h9 => h9) (fun q _ h9 => h9) ?_ ?_
  · intro E ce q9 u9 t H1 locs1 ht hvm _ hB hz hk hS2 hcell hv9 hcl
    obtain ⟨hqx, hP1⟩ := hB
    rw [ht] at hP1
    refine vx_widen (k := 2) (n := 3902) (Nat.le_of_ble_eq_true rfl) (Nat.le_of_ble_eq_true rfl) ?_
    rcases hqx with ⟨rfl, hR⟩ | ⟨rfl, hR⟩
    · refine vx_catch (name := "java/lang/IllegalArgumentException") hown [] ⟨0, 9, 10, 50⟩ [⟨0, 9, 15, 52⟩] htab (fun z hz => absurd hz List.not_mem_nil) rfl (by decide) (hts (.classLink RL 50 "java/lang/IllegalArgumentException") (by decide +kernel)) (va_Nw.use rfl (hX.1 _ (by simp))) hcell hv9 hcl ?_
      refine W.eq (g2 := F0 m 10 ls [.ref q9]) rfl ?_
      refine lv_astore (lv' := [(5, .ref q9), (0, .ref (ad 0)), (1, .int a1), (2, .int a2), (3, .int a3), (4, .int a4)]) hx hb dL_generator_10 hl (by decide) rfl (fun ls hl => ?_)
      refine lv_bipush (v := (-12)) hx hb dL_generator_12 (by decide) ?_
      exact W.iret (v := (-12)) hx hb hr (fun t ht hW => ⟨⟨_, (ad, L, al, u9), rfl, ⟨XT.rf hwd hL hLb, hR⟩, by show va_P _ _ _ t.heap; rw [ht]; exact hP1⟩, hS2.F ht⟩) hS2.2.2 dL_generator_14
    · refine vx_catch (name := "java/lang/IllegalStateException") hown [⟨0, 9, 10, 50⟩] ⟨0, 9, 15, 52⟩ [] htab (fun z hz => by rw [List.mem_singleton.mp hz]; exact Or.inr ⟨by decide, "java/lang/IllegalArgumentException", hts (.classLink RL 50 "java/lang/IllegalArgumentException") (by decide +kernel), hN.1⟩) rfl (by decide) (hts (.classLink RL 52 "java/lang/IllegalStateException") (by decide +kernel)) (va_Nw.use rfl (hX.1 _ (by simp))) hcell hv9 hcl ?_
      refine W.eq (g2 := F0 m 15 ls [.ref q9]) rfl ?_
      refine lv_astore (lv' := [(5, .ref q9), (0, .ref (ad 0)), (1, .int a1), (2, .int a2), (3, .int a3), (4, .int a4)]) hx hb dL_generator_15 hl (by decide) rfl (fun ls hl => ?_)
      refine lv_bipush (v := (-13)) hx hb dL_generator_17 (by decide) ?_
      exact W.iret (v := (-13)) hx hb hr (fun t ht hW => ⟨⟨_, (ad, L, al, u9), rfl, ⟨XT.rf hwd hL hLb, hR⟩, by show va_P _ _ _ t.heap; rw [ht]; exact hP1⟩, hS2.F ht⟩) hS2.2.2 dL_generator_19
  · intro r z t H1 locs1 ht hvm hR hB hz hk hS2
    obtain ⟨ad9, L9, al9, u9⟩ := z
    have hP1 : va_P D vwCl (cW cI cG L9 ad9 al9 u9) H1 := by rw [← ht]; exact hB
    refine W.widen (k := 2) (n := 3902) (Nat.le_of_ble_eq_true rfl) (Nat.le_of_ble_eq_true rfl) ?_
    exact W.iret (v := r) hx hb hr (fun t ht hW => ⟨⟨_, (ad9, L9, al9, u9), rfl, hR, by show va_P _ _ _ t.heap; rw [ht]; exact hP1⟩, hS2.F ht⟩) hS2.2.2 dL_generator_9
set_option maxRecDepth 100000 in
set_option maxHeartbeats 4000000 in
theorem c_L_draw {l : Launch} {b Ls : Nat} {xs : Nat → Int32} (sz : Nat) (a1 : Int32) (hin : ¬ Int32.ofNat Ls ≤ a1 → vp_in a1 Ls) : Met l yL_draw wsL_draw ({ frames := 0, cells := 0, slots := 0, locals := 0 }) (va_Pc [.ref b, .int a1] (fun U => U.heap.size = sz ∧ va_X b Ls xs U U.heap ∧ b < sz)) (va_Qi (fun _ (_ : Unit) => True) (fun _ _ => True) (fun q => sz ≤ q)) 0 0 (fun q => sz ≤ q) := by
  refine Met.ofW (cc := cL_draw) (maxL := 2) (ret := (some .int)) (by decide) rfl ?_
  intro p e s m args below meth c s₁ B hml hv
  obtain ⟨rfl, hsz, hXs, hbl⟩ := hv
  subst hsz
  have hx := B.exec
  have hb := B.bytes
  have hr := B.returns
  have hts := atoms_spec (ws := wsL_draw) B.pre
  have hown : s.vm.findClass RL = some m.cls := findClass_of_methodNamed B.named
  have k1 := hts (.constant RL 58 (3840017)) (by decide +kernel)
  have k2 := hts (.constant RL 59 (170081)) (by decide +kernel)
  have hS : va_S (fun q => s.heap.size ≤ q) s.heap s.heap [] := va_S.rf
  have hbA : ¬ (fun q => s.heap.size ≤ q) b := Nat.not_le.mpr hbl
  have hl := lv_entry ([.ref b, .int a1]) (n := 2) (Nat.le_of_ble_eq_true rfl)
  rw [lg_entry_eq]
  generalize (lg_sl ([.ref b, .int a1]) ++ List.replicate (2 - (lg_sl ([.ref b, .int a1])).length) Slot.unset).toArray = ls at hl ⊢
  refine lv_iload_n hx hb dL_draw_0 rfl (lv_at hl 1 rfl) ?_
  refine lv_aload_n hx hb dL_draw_1 rfl (lv_at hl 0 rfl) ?_
  refine va_slen hx hb hXs hbl hbA hS dL_draw_2 ?_
  refine lv_icmp_ge (tgt := 12) hx hb dL_draw_3 (by decide) (fun c1 => ?_) (fun c1 => ?_)
  · refine lv_ldc (v := 3840017) hx hb hown k1 dL_draw_12 ?_
    refine lv_iload_n hx hb dL_draw_14 rfl (lv_at hl 1 rfl) ?_
    refine lv_imul hx hb dL_draw_15 ?_
    refine lv_iload_n hx hb dL_draw_16 rfl (lv_at hl 1 rfl) ?_
    refine lv_imul hx hb dL_draw_17 ?_
    refine lv_ldc (v := 170081) hx hb hown k2 dL_draw_18 ?_
    refine lv_iload_n hx hb dL_draw_20 rfl (lv_at hl 1 rfl) ?_
    refine lv_imul hx hb dL_draw_21 ?_
    refine lv_iadd hx hb dL_draw_22 ?_
    refine lv_sipush (v := 361) hx hb dL_draw_23 (by decide) ?_
    refine lv_iadd hx hb dL_draw_26 ?_
    exact W.iret hx hb hr (fun t ht hW => ⟨⟨_, (), rfl, trivial, trivial⟩, hS.F ht⟩) hS.2.2 dL_draw_27
  · refine lv_aload_n hx hb dL_draw_6 rfl (lv_at hl 0 rfl) ?_
    refine lv_iload_n hx hb dL_draw_7 rfl (lv_at hl 1 rfl) ?_
    refine va_sld hx hb hXs hbl hbA hS (hin c1) dL_draw_8 ?_
    refine lv_goto (tgt := 27) hx hb dL_draw_9 (by decide) ?_
    exact W.iret hx hb hr (fun t ht hW => ⟨⟨_, (), rfl, trivial, trivial⟩, hS.F ht⟩) hS.2.2 dL_draw_27
set_option maxRecDepth 100000 in
set_option maxHeartbeats 4000000 in
theorem w_L_isForm_L28 {p : Program} {l : Launch} {e : Env} {s : State} {m : MethodId} {args : Array Value} {below : List Frame} {meth : Method} {c : Code} {D : va_G} {cI cG cZ cJ : ClassId} {ts : Nat × Nat} {L : List Nat} {ad : Nat → Nat} {al : Nat} (hL : Lf L al) (X : FX RL wsL_isForm cL_isForm 11 (some .boolean) D cI cG cZ cJ ts L ad p s m args meth c) (a1 : Int32) (a2 : Int32) (a3 : Int32) (a4 : Int32) (a5 : Int32) (Q : Int32 → St → Prop)
    (K0 : Int32 → Int32 → Int32 → St → Prop) (hk0 : ∀ (b6 b7 b8 : Int32) (u : St) (H : Heap) (locs : List Loc) (ls : Array Slot), K0 b6 b7 b8 u → va_P D vwCl (cW cI cG L ad al u) H → va_S (cA L ad s.heap.size) s.heap H locs → lv_has ls 11 [(0, .ref (ad 0)), (1, .int a1), (2, .int a2), (3, .int a3), (4, .int a4), (5, .int a5), (6, .int b6), (7, .int b7), (8, .int b8)] → W p l e (headSpec wsL_isForm { frames := 8, cells := 0, slots := 0, locals := 141 }).room s m args below meth c H locs 0 0 (MQ below (va_Qi Q (fun u9 t => va_P D vwCl (cW cI cG L ad al u9) t.heap) (cA L ad s.heap.size)) args s 0 0 (cA L ad s.heap.size)) (F0 m 87 ls []))
    : ∀ (n : Nat) (a6 : Int32) (a7 : Int32) (a8 : Int32) (a9 : Int32) (u : St) (H : Heap) (locs : List Loc) (ls : Array Slot), f_L_isForm_L28 al a1 a2 a3 a4 a5 Q K0 n a6 a7 a8 a9 u → va_P D vwCl (cW cI cG L ad al u) H → va_S (cA L ad s.heap.size) s.heap H locs → lv_has ls 11 [(0, .ref (ad 0)), (1, .int a1), (2, .int a2), (3, .int a3), (4, .int a4), (5, .int a5), (6, .int a6), (7, .int a7), (8, .int a8), (9, .int a9)] → W p l e (headSpec wsL_isForm { frames := 8, cells := 0, slots := 0, locals := 141 }).room s m args below meth c H locs 0 0 (MQ below (va_Qi Q (fun u9 t => va_P D vwCl (cW cI cG L ad al u9) t.heap) (cA L ad s.heap.size)) args s 0 0 (cA L ad s.heap.size)) (F0 m 28 ls []) := by
  obtain ⟨hx, hb, hml, hown, hts, hr, hlocks, hwd, hC⟩ := id X
  have hK := hC.1
  have m0 : 0 ∈ L := hL 0 (by omega)
  obtain ⟨i0, hi0⟩ := wL_ix m0
  intro n
  induction n with
  | zero =>
    intro a6 a7 a8 a9 u H locs ls h; exact h.elim
  | succ n ih =>
    intro a6 a7 a8 a9 u H locs ls h hP hS hl
    replace h : f_L_isForm_L28_s al a1 a2 a3 a4 a5 Q K0 (f_L_isForm_L28 al a1 a2 a3 a4 a5 Q K0 n) a6 a7 a8 a9 u := h
    unfold f_L_isForm_L28_s at h
    refine lv_iload hx hb dL_isForm_28 (lv_at hl 9 rfl) ?_
    refine lv_iload_n hx hb dL_isForm_30 rfl (lv_at hl 1 rfl) ?_
    refine lv_icmp_gt (tgt := 87) hx hb dL_isForm_31 (by decide) (fun c5 => ?_) (fun c5 => ?_)
    · replace h := h.1 c5
      exact hk0 a6 a7 a8 _ _ _ _ h hP hS (lv_sub hl [0, 1, 2, 3, 4, 5, 6, 7, 8] rfl)
    · replace h := h.2 c5
      refine lv_aload_n hx hb dL_isForm_34 rfl (lv_at hl 0 rfl) ?_
      refine lv_iload_n hx hb dL_isForm_35 rfl (lv_at hl 2 rfl) ?_
      refine lv_iload hx hb dL_isForm_36 (lv_at hl 9 rfl) ?_
      refine cc_i (va_runV (C := RX6) (As := [.int a2, .int a9]) (rest := []) ⟨hx, hb, hml, hown, hts⟩ (cN_X6_multiplicity hL hwd H.size u a2 a9 _ h) (cwV 2 hts gL_isForm_X6_multiplicity rfl rfl rfl (by decide +kernel) ⟨Nat.le_of_ble_eq_true rfl, Nat.le_of_ble_eq_true rfl⟩) (pcV hC hP hS (cg_0 hi0) rfl) rfl rfl hl.1 rfl (lv_room (Nat.le_of_ble_eq_true rfl)) dL_isForm_38 ⟨Nat.zero_le _, Nat.zero_le _⟩) hS (cA_mono hS.1) (fun v6 u7 H locs h hP hS => ?_)
      refine lv_istore (lv' := [(10, .int v6), (0, .ref (ad 0)), (1, .int a1), (2, .int a2), (3, .int a3), (4, .int a4), (5, .int a5), (6, .int a6), (7, .int a7), (8, .int a8), (9, .int a9)]) hx hb dL_isForm_41 hl (by decide) rfl (fun ls hl => ?_)
      refine lv_iload hx hb dL_isForm_43 (lv_at hl 7 rfl) ?_
      refine lv_iload hx hb dL_isForm_45 (lv_at hl 0 rfl) ?_
      have key9 : ∀ v8 : Int32, ((v6 ≤ 0) → v8 = 0) → ((¬ v6 ≤ 0) → v8 = 1) → W p l e (headSpec wsL_isForm { frames := 8, cells := 0, slots := 0, locals := 141 }).room s m args below meth c H locs 0 0 (MQ below (va_Qi Q (fun u9 t => va_P D vwCl (cW cI cG L ad al u9) t.heap) (cA L ad s.heap.size)) args s 0 0 (cA L ad s.heap.size)) (F0 m 55 ls [.int v8, .int a6]) := by
        intro v8 q9_0 q9_1
        replace h := h v8 q9_0 q9_1
        refine lv_iadd hx hb dL_isForm_55 ?_
        refine lv_topi (fun v10 ev10 => ?_)
        replace h := h v10 ev10
        refine lv_istore (lv' := [(6, .int v10), (10, .int v6), (0, .ref (ad 0)), (1, .int a1), (2, .int a2), (3, .int a3), (4, .int a4), (5, .int a5), (7, .int a7), (8, .int a8), (9, .int a9)]) hx hb dL_isForm_56 hl (by decide) rfl (fun ls hl => ?_)
        refine lv_iload hx hb dL_isForm_58 (lv_at hl 8 rfl) ?_
        refine lv_iload hx hb dL_isForm_60 (lv_at hl 1 rfl) ?_
        refine lv_iadd hx hb dL_isForm_62 ?_
        refine lv_topi (fun v11 ev11 => ?_)
        replace h := h v11 ev11
        refine lv_istore (lv' := [(7, .int v11), (6, .int v10), (10, .int v6), (0, .ref (ad 0)), (1, .int a1), (2, .int a2), (3, .int a3), (4, .int a4), (5, .int a5), (8, .int a8), (9, .int a9)]) hx hb dL_isForm_63 hl (by decide) rfl (fun ls hl => ?_)
        refine lv_iload hx hb dL_isForm_65 (lv_at hl 2 rfl) ?_
        refine lv_iload hx hb dL_isForm_67 (lv_at hl 9 rfl) ?_
        refine lv_icmp_le (tgt := 77) hx hb dL_isForm_69 (by decide) (fun c12 => ?_) (fun c12 => ?_)
        · replace h := h.1 c12
          refine lv_iload hx hb dL_isForm_77 (lv_at hl 9 rfl) ?_
          refine lv_istore (lv' := [(8, .int a8), (7, .int v11), (6, .int v10), (10, .int v6), (0, .ref (ad 0)), (1, .int a1), (2, .int a2), (3, .int a3), (4, .int a4), (5, .int a5), (9, .int a9)]) hx hb dL_isForm_79 hl (by decide) rfl (fun ls hl => ?_)
          obtain ⟨v13, ev13⟩ : ∃ y : Int32, y = a9 + 1 := ⟨_, rfl⟩
          refine lv_iinc (v := v13) (lv' := [(9, .int v13), (8, .int a8), (7, .int v11), (6, .int v10), (10, .int v6), (0, .ref (ad 0)), (1, .int a1), (2, .int a2), (3, .int a3), (4, .int a4), (5, .int a5)]) hx hb dL_isForm_81 hl (k := 10) rfl (by rw [ev13]; rfl) (by decide) rfl (fun ls hl => ?_)
          replace h := h v13 ev13
          refine lv_goto (tgt := 28) hx hb dL_isForm_84 (by decide) ?_
          exact ih v10 v11 a8 v13 _ _ _ _ h hP hS (lv_sub hl [5, 6, 7, 8, 9, 10, 3, 2, 1, 0] rfl)
        · replace h := h.2 c12
          refine lv_iload hx hb dL_isForm_72 (lv_at hl 2 rfl) ?_
          refine lv_goto (tgt := 79) hx hb dL_isForm_74 (by decide) ?_
          refine lv_istore (lv' := [(8, .int v6), (7, .int v11), (6, .int v10), (10, .int v6), (0, .ref (ad 0)), (1, .int a1), (2, .int a2), (3, .int a3), (4, .int a4), (5, .int a5), (9, .int a9)]) hx hb dL_isForm_79 hl (by decide) rfl (fun ls hl => ?_)
          obtain ⟨v14, ev14⟩ : ∃ y : Int32, y = a9 + 1 := ⟨_, rfl⟩
          refine lv_iinc (v := v14) (lv' := [(9, .int v14), (8, .int v6), (7, .int v11), (6, .int v10), (10, .int v6), (0, .ref (ad 0)), (1, .int a1), (2, .int a2), (3, .int a3), (4, .int a4), (5, .int a5)]) hx hb dL_isForm_81 hl (k := 10) rfl (by rw [ev14]; rfl) (by decide) rfl (fun ls hl => ?_)
          replace h := h v14 ev14
          refine lv_goto (tgt := 28) hx hb dL_isForm_84 (by decide) ?_
          exact ih v10 v11 v6 v14 _ _ _ _ h hP hS (lv_sub hl [5, 6, 7, 8, 9, 10, 3, 2, 1, 0] rfl)
      clear h
      refine lv_if_le (tgt := 54) hx hb dL_isForm_47 (by decide) (fun c8 => ?_) (fun c8 => ?_)
      · skip
        refine lv_iconst (v := 0) hx hb dL_isForm_54 (by decide) ?_
        exact key9 0 (fun _ => rfl) (fun n9 => absurd c8 n9)
      · skip
        refine lv_iconst (v := 1) hx hb dL_isForm_50 (by decide) ?_
        refine lv_goto (tgt := 55) hx hb dL_isForm_51 (by decide) ?_
        exact key9 1 (fun n9 => absurd n9 c8) (fun _ => rfl)
set_option maxRecDepth 100000 in
set_option maxHeartbeats 4000000 in
theorem w_L_isForm_L168 {p : Program} {l : Launch} {e : Env} {s : State} {m : MethodId} {args : Array Value} {below : List Frame} {meth : Method} {c : Code} {D : va_G} {cI cG cZ cJ : ClassId} {ts : Nat × Nat} {L : List Nat} {ad : Nat → Nat} {al : Nat} (hL : Lf L al) (X : FX RL wsL_isForm cL_isForm 11 (some .boolean) D cI cG cZ cJ ts L ad p s m args meth c) (a1 : Int32) (a2 : Int32) (a3 : Int32) (Q : Int32 → St → Prop)
    (K0 : Int32 → St → Prop) (hk0 : ∀ (b9 : Int32) (u : St) (H : Heap) (locs : List Loc) (ls : Array Slot), K0 b9 u → va_P D vwCl (cW cI cG L ad al u) H → va_S (cA L ad s.heap.size) s.heap H locs → lv_has ls 11 [(0, .ref (ad 0)), (1, .int a1), (2, .int a2), (3, .int a3), (9, .int b9)] → W p l e (headSpec wsL_isForm { frames := 8, cells := 0, slots := 0, locals := 141 }).room s m args below meth c H locs 0 0 (MQ below (va_Qi Q (fun u9 t => va_P D vwCl (cW cI cG L ad al u9) t.heap) (cA L ad s.heap.size)) args s 0 0 (cA L ad s.heap.size)) (F0 m 254 ls []))
    : ∀ (n : Nat) (a9 : Int32) (a10 : Int32) (u : St) (H : Heap) (locs : List Loc) (ls : Array Slot), f_L_isForm_L168 al a1 a2 a3 Q K0 n a9 a10 u → va_P D vwCl (cW cI cG L ad al u) H → va_S (cA L ad s.heap.size) s.heap H locs → lv_has ls 11 [(0, .ref (ad 0)), (1, .int a1), (2, .int a2), (3, .int a3), (9, .int a9), (10, .int a10)] → W p l e (headSpec wsL_isForm { frames := 8, cells := 0, slots := 0, locals := 141 }).room s m args below meth c H locs 0 0 (MQ below (va_Qi Q (fun u9 t => va_P D vwCl (cW cI cG L ad al u9) t.heap) (cA L ad s.heap.size)) args s 0 0 (cA L ad s.heap.size)) (F0 m 168 ls []) := by
  obtain ⟨hx, hb, hml, hown, hts, hr, hlocks, hwd, hC⟩ := id X
  have hK := hC.1
  have m0 : 0 ∈ L := hL 0 (by omega)
  obtain ⟨i0, hi0⟩ := wL_ix m0
  intro n
  induction n with
  | zero =>
    intro a9 a10 u H locs ls h; exact h.elim
  | succ n ih =>
    intro a9 a10 u H locs ls h hP hS hl
    replace h : f_L_isForm_L168_s al a1 a2 a3 Q K0 (f_L_isForm_L168 al a1 a2 a3 Q K0 n) a9 a10 u := h
    unfold f_L_isForm_L168_s at h
    refine lv_iload hx hb dL_isForm_168 (lv_at hl 5 rfl) ?_
    refine lv_iload_n hx hb dL_isForm_170 rfl (lv_at hl 1 rfl) ?_
    refine lv_icmp_ge (tgt := 254) hx hb dL_isForm_171 (by decide) (fun c25 => ?_) (fun c25 => ?_)
    · replace h := h.1 c25
      exact hk0 a9 _ _ _ _ h hP hS (lv_sub hl [0, 1, 2, 3, 4] rfl)
    · replace h := h.2 c25
      refine lv_iload hx hb dL_isForm_174 (lv_at hl 4 rfl) ?_
      refine lv_if_eq (tgt := 254) hx hb dL_isForm_176 (by decide) (fun c26 => ?_) (fun c26 => ?_)
      · replace h := h.1 c26
        exact hk0 a9 _ _ _ _ h hP hS (lv_sub hl [0, 1, 2, 3, 4] rfl)
      · replace h := h.2 c26
        refine lv_aload_n hx hb dL_isForm_179 rfl (lv_at hl 0 rfl) ?_
        refine lv_iload_n hx hb dL_isForm_180 rfl (lv_at hl 2 rfl) ?_
        refine lv_iload hx hb dL_isForm_181 (lv_at hl 5 rfl) ?_
        refine lv_iconst (v := 1) hx hb dL_isForm_183 (by decide) ?_
        refine cc_i (va_runV (C := RX6) (As := [.int a2, .int a10, .int 1]) (rest := []) ⟨hx, hb, hml, hown, hts⟩ (cN_X6_at hL hwd H.size u a2 a10 1 _ h) (cwV 3 hts gL_isForm_X6_at rfl rfl rfl (by decide +kernel) ⟨Nat.le_of_ble_eq_true rfl, Nat.le_of_ble_eq_true rfl⟩) (pcV hC hP hS (cg_0 hi0) rfl) rfl rfl hl.1 rfl (lv_room (Nat.le_of_ble_eq_true rfl)) dL_isForm_184 ⟨Nat.zero_le _, Nat.zero_le _⟩) hS (cA_mono hS.1) (fun v27 u28 H locs h hP hS => ?_)
        have key30 : ∀ v29 : Int32, ((¬ v27 = 0) → v29 = 0) → ((v27 = 0) → v29 = 1) → W p l e (headSpec wsL_isForm { frames := 8, cells := 0, slots := 0, locals := 141 }).room s m args below meth c H locs 0 0 (MQ below (va_Qi Q (fun u9 t => va_P D vwCl (cW cI cG L ad al u9) t.heap) (cA L ad s.heap.size)) args s 0 0 (cA L ad s.heap.size)) (F0 m 195 ls [.int v29]) := by
          intro v29 q30_0 q30_1
          replace h := h v29 q30_0 q30_1
          refine lv_aload_n hx hb dL_isForm_195 rfl (lv_at hl 0 rfl) ?_
          refine lv_iload_n hx hb dL_isForm_196 rfl (lv_at hl 2 rfl) ?_
          refine lv_iload hx hb dL_isForm_197 (lv_at hl 5 rfl) ?_
          refine cc_i (va_runV (C := RX6) (As := [.int a2, .int a10]) (rest := [.int v29]) ⟨hx, hb, hml, hown, hts⟩ (cN_X6_multiplicity hL hwd H.size u28 a2 a10 _ h) (cwV 2 hts gL_isForm_X6_multiplicity rfl rfl rfl (by decide +kernel) ⟨Nat.le_of_ble_eq_true rfl, Nat.le_of_ble_eq_true rfl⟩) (pcV hC hP hS (cg_0 hi0) rfl) rfl rfl hl.1 rfl (lv_room (Nat.le_of_ble_eq_true rfl)) dL_isForm_199 ⟨Nat.zero_le _, Nat.zero_le _⟩) hS (cA_mono hS.1) (fun v31 u32 H locs h hP hS => ?_)
          have key34 : ∀ v33 : Int32, ((v31 ≤ 0) → v33 = 0) → ((¬ v31 ≤ 0) → v33 = 1) → W p l e (headSpec wsL_isForm { frames := 8, cells := 0, slots := 0, locals := 141 }).room s m args below meth c H locs 0 0 (MQ below (va_Qi Q (fun u9 t => va_P D vwCl (cW cI cG L ad al u9) t.heap) (cA L ad s.heap.size)) args s 0 0 (cA L ad s.heap.size)) (F0 m 210 ls [.int v33, .int v29]) := by
            intro v33 q34_0 q34_1
            replace h := h v33 q34_0 q34_1
            refine lv_icmp_ne (tgt := 245) hx hb dL_isForm_210 (by decide) (fun c35 => ?_) (fun c35 => ?_)
            · replace h := h.1 c35
              refine lv_iconst (v := 0) hx hb dL_isForm_245 (by decide) ?_
              refine lv_istore (lv' := [(9, .int 0), (0, .ref (ad 0)), (1, .int a1), (2, .int a2), (3, .int a3), (10, .int a10)]) hx hb dL_isForm_246 hl (by decide) rfl (fun ls hl => ?_)
              obtain ⟨v36, ev36⟩ : ∃ y : Int32, y = a10 + 1 := ⟨_, rfl⟩
              refine lv_iinc (v := v36) (lv' := [(10, .int v36), (9, .int 0), (0, .ref (ad 0)), (1, .int a1), (2, .int a2), (3, .int a3)]) hx hb dL_isForm_248 hl (k := 5) rfl (by rw [ev36]; rfl) (by decide) rfl (fun ls hl => ?_)
              replace h := h v36 ev36
              refine lv_goto (tgt := 168) hx hb dL_isForm_251 (by decide) ?_
              exact ih 0 v36 _ _ _ _ h hP hS (lv_sub hl [2, 3, 4, 5, 1, 0] rfl)
            · replace h := h.2 c35
              refine lv_aload_n hx hb dL_isForm_213 rfl (lv_at hl 0 rfl) ?_
              refine lv_iload_n hx hb dL_isForm_214 rfl (lv_at hl 2 rfl) ?_
              refine lv_iconst (v := 0) hx hb dL_isForm_215 (by decide) ?_
              refine lv_iload hx hb dL_isForm_216 (lv_at hl 5 rfl) ?_
              refine cc_i (va_runV (C := RX6) (As := [.int a2, .int 0, .int a10]) (rest := []) ⟨hx, hb, hml, hown, hts⟩ (cN_X6_at hL hwd H.size u32 a2 0 a10 _ h) (cwV 3 hts gL_isForm_X6_at rfl rfl rfl (by decide +kernel) ⟨Nat.le_of_ble_eq_true rfl, Nat.le_of_ble_eq_true rfl⟩) (pcV hC hP hS (cg_0 hi0) rfl) rfl rfl hl.1 rfl (lv_room (Nat.le_of_ble_eq_true rfl)) dL_isForm_218 ⟨Nat.zero_le _, Nat.zero_le _⟩) hS (cA_mono hS.1) (fun v37 u38 H locs h hP hS => ?_)
              refine lv_iload hx hb dL_isForm_221 (lv_at hl 5 rfl) ?_
              obtain ⟨R40, h, hR40⟩ := h
              have key40 : ∀ (v39 : Int32) (u41 : St) (H : Heap) (locs : List Loc), R40 v39 u41 → va_P D vwCl (cW cI cG L ad al u41) H → va_S (cA L ad s.heap.size) s.heap H locs → W p l e (headSpec wsL_isForm { frames := 8, cells := 0, slots := 0, locals := 141 }).room s m args below meth c H locs 0 0 (MQ below (va_Qi Q (fun u9 t => va_P D vwCl (cW cI cG L ad al u9) t.heap) (cA L ad s.heap.size)) args s 0 0 (cA L ad s.heap.size)) (F0 m 238 ls [.int v39, .int v37]) := by
                intro v39 u41 H locs h hP hS
                replace h := hR40 v39 u41 h
                refine lv_icmp_ne (tgt := 245) hx hb dL_isForm_238 (by decide) (fun c42 => ?_) (fun c42 => ?_)
                · replace h := h.1 c42
                  refine lv_iconst (v := 0) hx hb dL_isForm_245 (by decide) ?_
                  refine lv_istore (lv' := [(9, .int 0), (0, .ref (ad 0)), (1, .int a1), (2, .int a2), (3, .int a3), (10, .int a10)]) hx hb dL_isForm_246 hl (by decide) rfl (fun ls hl => ?_)
                  obtain ⟨v43, ev43⟩ : ∃ y : Int32, y = a10 + 1 := ⟨_, rfl⟩
                  refine lv_iinc (v := v43) (lv' := [(10, .int v43), (9, .int 0), (0, .ref (ad 0)), (1, .int a1), (2, .int a2), (3, .int a3)]) hx hb dL_isForm_248 hl (k := 5) rfl (by rw [ev43]; rfl) (by decide) rfl (fun ls hl => ?_)
                  replace h := h v43 ev43
                  refine lv_goto (tgt := 168) hx hb dL_isForm_251 (by decide) ?_
                  exact ih 0 v43 _ _ _ _ h hP hS (lv_sub hl [2, 3, 4, 5, 1, 0] rfl)
                · replace h := h.2 c42
                  refine lv_iconst (v := 1) hx hb dL_isForm_241 (by decide) ?_
                  refine lv_goto (tgt := 246) hx hb dL_isForm_242 (by decide) ?_
                  refine lv_istore (lv' := [(9, .int 1), (0, .ref (ad 0)), (1, .int a1), (2, .int a2), (3, .int a3), (10, .int a10)]) hx hb dL_isForm_246 hl (by decide) rfl (fun ls hl => ?_)
                  obtain ⟨v44, ev44⟩ : ∃ y : Int32, y = a10 + 1 := ⟨_, rfl⟩
                  refine lv_iinc (v := v44) (lv' := [(10, .int v44), (9, .int 1), (0, .ref (ad 0)), (1, .int a1), (2, .int a2), (3, .int a3)]) hx hb dL_isForm_248 hl (k := 5) rfl (by rw [ev44]; rfl) (by decide) rfl (fun ls hl => ?_)
                  replace h := h v44 ev44
                  refine lv_goto (tgt := 168) hx hb dL_isForm_251 (by decide) ?_
                  exact ih 1 v44 _ _ _ _ h hP hS (lv_sub hl [2, 3, 4, 5, 1, 0] rfl)
              clear hR40
              refine lv_if_ne (tgt := 230) hx hb dL_isForm_223 (by decide) (fun c45 => ?_) (fun c45 => ?_)
              · replace h := h.1 c45
                refine lv_aload_n hx hb dL_isForm_230 rfl (lv_at hl 0 rfl) ?_
                refine lv_iload_n hx hb dL_isForm_231 rfl (lv_at hl 2 rfl) ?_
                refine lv_iconst (v := 0) hx hb dL_isForm_232 (by decide) ?_
                refine lv_iload hx hb dL_isForm_233 (lv_at hl 5 rfl) ?_
                refine cc_i (va_runV (C := RX6) (As := [.int a2, .int 0, .int a10]) (rest := [.int v37]) ⟨hx, hb, hml, hown, hts⟩ (cN_X6_at hL hwd H.size u38 a2 0 a10 _ h) (cwV 3 hts gL_isForm_X6_at rfl rfl rfl (by decide +kernel) ⟨Nat.le_of_ble_eq_true rfl, Nat.le_of_ble_eq_true rfl⟩) (pcV hC hP hS (cg_0 hi0) rfl) rfl rfl hl.1 rfl (lv_room (Nat.le_of_ble_eq_true rfl)) dL_isForm_235 ⟨Nat.zero_le _, Nat.zero_le _⟩) hS (cA_mono hS.1) (fun v46 u47 H locs h hP hS => ?_)
                exact key40 v46 _ _ _ h hP hS
              · replace h := h.2 c45
                refine lv_iconst (v := 0) hx hb dL_isForm_226 (by decide) ?_
                refine lv_goto (tgt := 238) hx hb dL_isForm_227 (by decide) ?_
                exact key40 0 _ _ _ h hP hS
          clear h
          refine lv_if_le (tgt := 209) hx hb dL_isForm_202 (by decide) (fun c33 => ?_) (fun c33 => ?_)
          · skip
            refine lv_iconst (v := 0) hx hb dL_isForm_209 (by decide) ?_
            exact key34 0 (fun _ => rfl) (fun n9 => absurd c33 n9)
          · skip
            refine lv_iconst (v := 1) hx hb dL_isForm_205 (by decide) ?_
            refine lv_goto (tgt := 210) hx hb dL_isForm_206 (by decide) ?_
            exact key34 1 (fun n9 => absurd n9 c33) (fun _ => rfl)
        clear h
        refine lv_if_ne (tgt := 194) hx hb dL_isForm_187 (by decide) (fun c29 => ?_) (fun c29 => ?_)
        · skip
          refine lv_iconst (v := 0) hx hb dL_isForm_194 (by decide) ?_
          exact key30 0 (fun _ => rfl) (fun n9 => absurd n9 c29)
        · skip
          refine lv_iconst (v := 1) hx hb dL_isForm_190 (by decide) ?_
          refine lv_goto (tgt := 195) hx hb dL_isForm_191 (by decide) ?_
          exact key30 1 (fun n9 => absurd c29 n9) (fun _ => rfl)
set_option maxRecDepth 100000 in
set_option maxHeartbeats 4000000 in
theorem w_L_isForm {p : Program} {l : Launch} {e : Env} {s : State} {m : MethodId} {args : Array Value} {below : List Frame} {meth : Method} {c : Code} {D : va_G} {cI cG cZ cJ : ClassId} {ts : Nat × Nat} {L : List Nat} {ad : Nat → Nat} {al : Nat} (hL : Lf L al) (X : FX RL wsL_isForm cL_isForm 11 (some .boolean) D cI cG cZ cJ ts L ad p s m args meth c) (a1 : Int32) (a2 : Int32) (a3 : Int32) (Q : Int32 → St → Prop) (u : St) (H : Heap) (locs : List Loc) (ls : Array Slot) (h : f_L_isForm al a1 a2 a3 u Q) (hP : va_P D vwCl (cW cI cG L ad al u) H) (hS : va_S (cA L ad s.heap.size) s.heap H locs) (hl : lv_has ls 11 [(0, .ref (ad 0)), (1, .int a1), (2, .int a2), (3, .int a3)]) : W p l e (headSpec wsL_isForm { frames := 8, cells := 0, slots := 0, locals := 141 }).room s m args below meth c H locs 0 0 (MQ below (va_Qi Q (fun u9 t => va_P D vwCl (cW cI cG L ad al u9) t.heap) (cA L ad s.heap.size)) args s 0 0 (cA L ad s.heap.size)) (F0 m 0 ls []) := by
  obtain ⟨hx, hb, hml, hown, hts, hr, hlocks, hwd, hC⟩ := id X
  have hK := hC.1
  have m0 : 0 ∈ L := hL 0 (by omega)
  obtain ⟨i0, hi0⟩ := wL_ix m0
  unfold f_L_isForm at h
  refine lv_aload_n hx hb dL_isForm_0 rfl (lv_at hl 0 rfl) ?_
  refine lv_iload_n hx hb dL_isForm_1 rfl (lv_at hl 2 rfl) ?_
  refine lv_iconst (v := 0) hx hb dL_isForm_2 (by decide) ?_
  refine cc_i (va_runV (C := RX6) (As := [.int a2, .int 0]) (rest := []) ⟨hx, hb, hml, hown, hts⟩ (cN_X6_formIs hL hwd H.size u a2 0 _ h) (cwV 2 hts gL_isForm_X6_formIs rfl rfl rfl (by decide +kernel) ⟨Nat.le_of_ble_eq_true rfl, Nat.le_of_ble_eq_true rfl⟩) (pcV hC hP hS (cg_0 hi0) rfl) rfl rfl hl.1 rfl (lv_room (Nat.le_of_ble_eq_true rfl)) dL_isForm_3 ⟨Nat.zero_le _, Nat.zero_le _⟩) hS (cA_mono hS.1) (fun v1 u2 H locs h hP hS => ?_)
  refine lv_istore (lv' := [(4, .int v1), (0, .ref (ad 0)), (1, .int a1), (2, .int a2), (3, .int a3)]) hx hb dL_isForm_6 hl (by decide) rfl (fun ls hl => ?_)
  refine lv_aload_n hx hb dL_isForm_8 rfl (lv_at hl 1 rfl) ?_
  refine lv_iload_n hx hb dL_isForm_9 rfl (lv_at hl 3 rfl) ?_
  refine lv_iconst (v := 1) hx hb dL_isForm_10 (by decide) ?_
  refine cc_i (va_runV (C := RX6) (As := [.int a2, .int 1]) (rest := []) ⟨hx, hb, hml, hown, hts⟩ (cN_X6_formIs hL hwd H.size u2 a2 1 _ h) (cwV 2 hts gL_isForm_X6_formIs rfl rfl rfl (by decide +kernel) ⟨Nat.le_of_ble_eq_true rfl, Nat.le_of_ble_eq_true rfl⟩) (pcV hC hP hS (cg_0 hi0) rfl) rfl rfl hl.1 rfl (lv_room (Nat.le_of_ble_eq_true rfl)) dL_isForm_11 ⟨Nat.zero_le _, Nat.zero_le _⟩) hS (cA_mono hS.1) (fun v3 u4 H locs h hP hS => ?_)
  refine lv_istore (lv' := [(5, .int v3), (4, .int v1), (0, .ref (ad 0)), (1, .int a1), (2, .int a2), (3, .int a3)]) hx hb dL_isForm_14 hl (by decide) rfl (fun ls hl => ?_)
  refine lv_iconst (v := 0) hx hb dL_isForm_16 (by decide) ?_
  refine lv_istore (lv' := [(6, .int 0), (5, .int v3), (4, .int v1), (0, .ref (ad 0)), (1, .int a1), (2, .int a2), (3, .int a3)]) hx hb dL_isForm_17 hl (by decide) rfl (fun ls hl => ?_)
  refine lv_iconst (v := 0) hx hb dL_isForm_19 (by decide) ?_
  refine lv_istore (lv' := [(7, .int 0), (6, .int 0), (5, .int v3), (4, .int v1), (0, .ref (ad 0)), (1, .int a1), (2, .int a2), (3, .int a3)]) hx hb dL_isForm_20 hl (by decide) rfl (fun ls hl => ?_)
  refine lv_iconst (v := 0) hx hb dL_isForm_22 (by decide) ?_
  refine lv_istore (lv' := [(8, .int 0), (7, .int 0), (6, .int 0), (5, .int v3), (4, .int v1), (0, .ref (ad 0)), (1, .int a1), (2, .int a2), (3, .int a3)]) hx hb dL_isForm_23 hl (by decide) rfl (fun ls hl => ?_)
  refine lv_iconst (v := 0) hx hb dL_isForm_25 (by decide) ?_
  refine lv_istore (lv' := [(9, .int 0), (8, .int 0), (7, .int 0), (6, .int 0), (5, .int v3), (4, .int v1), (0, .ref (ad 0)), (1, .int a1), (2, .int a2), (3, .int a3)]) hx hb dL_isForm_26 hl (by decide) rfl (fun ls hl => ?_)
  obtain ⟨n15, h⟩ := h
  refine w_L_isForm_L28 hL X a1 a2 a3 v1 v3 _ _ (fun v16 v17 v18 u19 H locs ls h hP hS hl => ?_) n15 0 0 0 0 _ _ _ _ h hP hS (lv_sub hl [6, 7, 8, 9, 5, 4, 3, 2, 1, 0] rfl)
  refine lv_iload hx hb dL_isForm_87 (lv_at hl 6 rfl) ?_
  refine lv_aload_n hx hb dL_isForm_89 rfl (lv_at hl 0 rfl) ?_
  refine lv_iload_n hx hb dL_isForm_90 rfl (lv_at hl 2 rfl) ?_
  refine lv_iconst (v := 2) hx hb dL_isForm_91 (by decide) ?_
  refine cc_i (va_runV (C := RX6) (As := [.int a2, .int 2]) (rest := [.int v16]) ⟨hx, hb, hml, hown, hts⟩ (cN_X6_formIs hL hwd H.size u19 a2 2 _ h) (cwV 2 hts gL_isForm_X6_formIs rfl rfl rfl (by decide +kernel) ⟨Nat.le_of_ble_eq_true rfl, Nat.le_of_ble_eq_true rfl⟩) (pcV hC hP hS (cg_0 hi0) rfl) rfl rfl hl.1 rfl (lv_room (Nat.le_of_ble_eq_true rfl)) dL_isForm_92 ⟨Nat.zero_le _, Nat.zero_le _⟩) hS (cA_mono hS.1) (fun v20 u21 H locs h hP hS => ?_)
  obtain ⟨R23, h, hR23⟩ := h
  have key23 : ∀ (v22 : Int32) (u24 : St) (H : Heap) (locs : List Loc), R23 v22 u24 → va_P D vwCl (cW cI cG L ad al u24) H → va_S (cA L ad s.heap.size) s.heap H locs → W p l e (headSpec wsL_isForm { frames := 8, cells := 0, slots := 0, locals := 141 }).room s m args below meth c H locs 0 0 (MQ below (va_Qi Q (fun u9 t => va_P D vwCl (cW cI cG L ad al u9) t.heap) (cA L ad s.heap.size)) args s 0 0 (cA L ad s.heap.size)) (F0 m 163 ls [.int v22]) := by
    intro v22 u24 H locs h hP hS
    replace h := hR23 v22 u24 h
    refine lv_istore (lv' := [(9, .int v22), (0, .ref (ad 0)), (1, .int a1), (2, .int a2), (3, .int a3), (4, .int v1), (5, .int v3), (6, .int v16), (7, .int v17), (8, .int v18)]) hx hb dL_isForm_163 hl (by decide) rfl (fun ls hl => ?_)
    refine lv_iconst (v := 0) hx hb dL_isForm_165 (by decide) ?_
    refine lv_istore (lv' := [(10, .int 0), (9, .int v22), (0, .ref (ad 0)), (1, .int a1), (2, .int a2), (3, .int a3), (4, .int v1), (5, .int v3), (6, .int v16), (7, .int v17), (8, .int v18)]) hx hb dL_isForm_166 hl (by decide) rfl (fun ls hl => ?_)
    obtain ⟨n48, h⟩ := h
    refine w_L_isForm_L168 hL X a1 a2 a3 _ _ (fun v49 u50 H locs ls h hP hS hl => ?_) n48 v22 0 _ _ _ _ h hP hS (lv_sub hl [2, 3, 4, 5, 1, 0] rfl)
    refine lv_iload hx hb dL_isForm_254 (lv_at hl 4 rfl) ?_
    refine lv_if_eq (tgt := 332) hx hb dL_isForm_256 (by decide) (fun c51 => ?_) (fun c51 => ?_)
    · replace h := h.1 c51
      refine lv_iconst (v := 0) hx hb dL_isForm_332 (by decide) ?_
      exact W.zret (ty := .boolean) (v := 0) hx hb hr rfl (fun t ht hW => ⟨⟨_, _, rfl, h, by show va_P _ _ _ t.heap; rw [ht]; exact hP⟩, hS.F ht⟩) hS.2.2 dL_isForm_333
    · replace h := h.2 c51
      refine lv_aload_n hx hb dL_isForm_259 rfl (lv_at hl 0 rfl) ?_
      refine lv_iload_n hx hb dL_isForm_260 rfl (lv_at hl 2 rfl) ?_
      refine lv_iconst (v := 1) hx hb dL_isForm_261 (by decide) ?_
      refine lv_iconst (v := 0) hx hb dL_isForm_262 (by decide) ?_
      refine cc_i (va_runV (C := RX6) (As := [.int a2, .int 1, .int 0]) (rest := []) ⟨hx, hb, hml, hown, hts⟩ (cN_X6_at hL hwd H.size u50 a2 1 0 _ h) (cwV 3 hts gL_isForm_X6_at rfl rfl rfl (by decide +kernel) ⟨Nat.le_of_ble_eq_true rfl, Nat.le_of_ble_eq_true rfl⟩) (pcV hC hP hS (cg_0 hi0) rfl) rfl rfl hl.1 rfl (lv_room (Nat.le_of_ble_eq_true rfl)) dL_isForm_263 ⟨Nat.zero_le _, Nat.zero_le _⟩) hS (cA_mono hS.1) (fun v52 u53 H locs h hP hS => ?_)
      have key55 : ∀ v54 : Int32, ((¬ v52 = 0) → v54 = 0) → ((v52 = 0) → v54 = 1) → W p l e (headSpec wsL_isForm { frames := 8, cells := 0, slots := 0, locals := 141 }).room s m args below meth c H locs 0 0 (MQ below (va_Qi Q (fun u9 t => va_P D vwCl (cW cI cG L ad al u9) t.heap) (cA L ad s.heap.size)) args s 0 0 (cA L ad s.heap.size)) (F0 m 274 ls [.int v54]) := by
        intro v54 q55_0 q55_1
        replace h := h v54 q55_0 q55_1
        refine lv_aload_n hx hb dL_isForm_274 rfl (lv_at hl 0 rfl) ?_
        refine lv_iload_n hx hb dL_isForm_275 rfl (lv_at hl 2 rfl) ?_
        refine lv_iload_n hx hb dL_isForm_276 rfl (lv_at hl 1 rfl) ?_
        refine cc_i (va_runV (C := RX6) (As := [.int a2, .int a1]) (rest := [.int v54]) ⟨hx, hb, hml, hown, hts⟩ (cN_X6_multiplicity hL hwd H.size u53 a2 a1 _ h) (cwV 2 hts gL_isForm_X6_multiplicity rfl rfl rfl (by decide +kernel) ⟨Nat.le_of_ble_eq_true rfl, Nat.le_of_ble_eq_true rfl⟩) (pcV hC hP hS (cg_0 hi0) rfl) rfl rfl hl.1 rfl (lv_room (Nat.le_of_ble_eq_true rfl)) dL_isForm_277 ⟨Nat.zero_le _, Nat.zero_le _⟩) hS (cA_mono hS.1) (fun v56 u57 H locs h hP hS => ?_)
        have key59 : ∀ v58 : Int32, ((v56 ≤ 0) → v58 = 0) → ((¬ v56 ≤ 0) → v58 = 1) → W p l e (headSpec wsL_isForm { frames := 8, cells := 0, slots := 0, locals := 141 }).room s m args below meth c H locs 0 0 (MQ below (va_Qi Q (fun u9 t => va_P D vwCl (cW cI cG L ad al u9) t.heap) (cA L ad s.heap.size)) args s 0 0 (cA L ad s.heap.size)) (F0 m 288 ls [.int v58, .int v54]) := by
          intro v58 q59_0 q59_1
          replace h := h v58 q59_0 q59_1
          refine lv_icmp_ne (tgt := 332) hx hb dL_isForm_288 (by decide) (fun c60 => ?_) (fun c60 => ?_)
          · replace h := h.1 c60
            refine lv_iconst (v := 0) hx hb dL_isForm_332 (by decide) ?_
            exact W.zret (ty := .boolean) (v := 0) hx hb hr rfl (fun t ht hW => ⟨⟨_, _, rfl, h, by show va_P _ _ _ t.heap; rw [ht]; exact hP⟩, hS.F ht⟩) hS.2.2 dL_isForm_333
          · replace h := h.2 c60
            refine lv_iload_n hx hb dL_isForm_291 rfl (lv_at hl 3 rfl) ?_
            refine lv_if_eq (tgt := 328) hx hb dL_isForm_292 (by decide) (fun c61 => ?_) (fun c61 => ?_)
            · replace h := h.1 c61
              refine lv_iconst (v := 1) hx hb dL_isForm_328 (by decide) ?_
              refine lv_goto (tgt := 333) hx hb dL_isForm_329 (by decide) ?_
              exact W.zret (ty := .boolean) (v := 1) hx hb hr rfl (fun t ht hW => ⟨⟨_, _, rfl, h, by show va_P _ _ _ t.heap; rw [ht]; exact hP⟩, hS.F ht⟩) hS.2.2 dL_isForm_333
            · replace h := h.2 c61
              refine lv_aload_n hx hb dL_isForm_295 rfl (lv_at hl 0 rfl) ?_
              refine lv_iload_n hx hb dL_isForm_296 rfl (lv_at hl 2 rfl) ?_
              refine lv_iconst (v := 4) hx hb dL_isForm_297 (by decide) ?_
              refine cc_i (va_runV (C := RX6) (As := [.int a2, .int 4]) (rest := []) ⟨hx, hb, hml, hown, hts⟩ (cN_X6_formIs hL hwd H.size u57 a2 4 _ h) (cwV 2 hts gL_isForm_X6_formIs rfl rfl rfl (by decide +kernel) ⟨Nat.le_of_ble_eq_true rfl, Nat.le_of_ble_eq_true rfl⟩) (pcV hC hP hS (cg_0 hi0) rfl) rfl rfl hl.1 rfl (lv_room (Nat.le_of_ble_eq_true rfl)) dL_isForm_298 ⟨Nat.zero_le _, Nat.zero_le _⟩) hS (cA_mono hS.1) (fun v62 u63 H locs h hP hS => ?_)
              refine lv_iconst (v := 1) hx hb dL_isForm_301 (by decide) ?_
              have key65 : ∀ v64 : Int32, ((¬ v62 = 1) → v64 = 0) → ((v62 = 1) → v64 = 1) → W p l e (headSpec wsL_isForm { frames := 8, cells := 0, slots := 0, locals := 141 }).room s m args below meth c H locs 0 0 (MQ below (va_Qi Q (fun u9 t => va_P D vwCl (cW cI cG L ad al u9) t.heap) (cA L ad s.heap.size)) args s 0 0 (cA L ad s.heap.size)) (F0 m 310 ls [.int v64]) := by
                intro v64 q65_0 q65_1
                replace h := h v64 q65_0 q65_1
                refine lv_aload_n hx hb dL_isForm_310 rfl (lv_at hl 0 rfl) ?_
                refine lv_iload_n hx hb dL_isForm_311 rfl (lv_at hl 2 rfl) ?_
                refine lv_iconst (v := 5) hx hb dL_isForm_312 (by decide) ?_
                refine cc_i (va_runV (C := RX6) (As := [.int a2, .int 5]) (rest := [.int v64]) ⟨hx, hb, hml, hown, hts⟩ (cN_X6_formIs hL hwd H.size u63 a2 5 _ h) (cwV 2 hts gL_isForm_X6_formIs rfl rfl rfl (by decide +kernel) ⟨Nat.le_of_ble_eq_true rfl, Nat.le_of_ble_eq_true rfl⟩) (pcV hC hP hS (cg_0 hi0) rfl) rfl rfl hl.1 rfl (lv_room (Nat.le_of_ble_eq_true rfl)) dL_isForm_313 ⟨Nat.zero_le _, Nat.zero_le _⟩) hS (cA_mono hS.1) (fun v66 u67 H locs h hP hS => ?_)
                refine lv_iconst (v := 1) hx hb dL_isForm_316 (by decide) ?_
                have key69 : ∀ v68 : Int32, ((¬ v66 = 1) → v68 = 0) → ((v66 = 1) → v68 = 1) → W p l e (headSpec wsL_isForm { frames := 8, cells := 0, slots := 0, locals := 141 }).room s m args below meth c H locs 0 0 (MQ below (va_Qi Q (fun u9 t => va_P D vwCl (cW cI cG L ad al u9) t.heap) (cA L ad s.heap.size)) args s 0 0 (cA L ad s.heap.size)) (F0 m 325 ls [.int v68, .int v64]) := by
                  intro v68 q69_0 q69_1
                  replace h := h v68 q69_0 q69_1
                  refine lv_icmp_ne (tgt := 332) hx hb dL_isForm_325 (by decide) (fun c70 => ?_) (fun c70 => ?_)
                  · replace h := h.1 c70
                    refine lv_iconst (v := 0) hx hb dL_isForm_332 (by decide) ?_
                    exact W.zret (ty := .boolean) (v := 0) hx hb hr rfl (fun t ht hW => ⟨⟨_, _, rfl, h, by show va_P _ _ _ t.heap; rw [ht]; exact hP⟩, hS.F ht⟩) hS.2.2 dL_isForm_333
                  · replace h := h.2 c70
                    refine lv_iconst (v := 1) hx hb dL_isForm_328 (by decide) ?_
                    refine lv_goto (tgt := 333) hx hb dL_isForm_329 (by decide) ?_
                    exact W.zret (ty := .boolean) (v := 1) hx hb hr rfl (fun t ht hW => ⟨⟨_, _, rfl, h, by show va_P _ _ _ t.heap; rw [ht]; exact hP⟩, hS.F ht⟩) hS.2.2 dL_isForm_333
                clear h
                refine lv_icmp_ne (tgt := 324) hx hb dL_isForm_317 (by decide) (fun c68 => ?_) (fun c68 => ?_)
                · skip
                  refine lv_iconst (v := 0) hx hb dL_isForm_324 (by decide) ?_
                  exact key69 0 (fun _ => rfl) (fun n9 => absurd n9 c68)
                · skip
                  refine lv_iconst (v := 1) hx hb dL_isForm_320 (by decide) ?_
                  refine lv_goto (tgt := 325) hx hb dL_isForm_321 (by decide) ?_
                  exact key69 1 (fun n9 => absurd c68 n9) (fun _ => rfl)
              clear h
              refine lv_icmp_ne (tgt := 309) hx hb dL_isForm_302 (by decide) (fun c64 => ?_) (fun c64 => ?_)
              · skip
                refine lv_iconst (v := 0) hx hb dL_isForm_309 (by decide) ?_
                exact key65 0 (fun _ => rfl) (fun n9 => absurd n9 c64)
              · skip
                refine lv_iconst (v := 1) hx hb dL_isForm_305 (by decide) ?_
                refine lv_goto (tgt := 310) hx hb dL_isForm_306 (by decide) ?_
                exact key65 1 (fun n9 => absurd c64 n9) (fun _ => rfl)
        clear h
        refine lv_if_le (tgt := 287) hx hb dL_isForm_280 (by decide) (fun c58 => ?_) (fun c58 => ?_)
        · skip
          refine lv_iconst (v := 0) hx hb dL_isForm_287 (by decide) ?_
          exact key59 0 (fun _ => rfl) (fun n9 => absurd c58 n9)
        · skip
          refine lv_iconst (v := 1) hx hb dL_isForm_283 (by decide) ?_
          refine lv_goto (tgt := 288) hx hb dL_isForm_284 (by decide) ?_
          exact key59 1 (fun n9 => absurd n9 c58) (fun _ => rfl)
      clear h
      refine lv_if_ne (tgt := 273) hx hb dL_isForm_266 (by decide) (fun c54 => ?_) (fun c54 => ?_)
      · skip
        refine lv_iconst (v := 0) hx hb dL_isForm_273 (by decide) ?_
        exact key55 0 (fun _ => rfl) (fun n9 => absurd n9 c54)
      · skip
        refine lv_iconst (v := 1) hx hb dL_isForm_269 (by decide) ?_
        refine lv_goto (tgt := 274) hx hb dL_isForm_270 (by decide) ?_
        exact key55 1 (fun n9 => absurd c54 n9) (fun _ => rfl)
  clear hR23
  refine lv_icmp_ne (tgt := 162) hx hb dL_isForm_95 (by decide) (fun c71 => ?_) (fun c71 => ?_)
  · replace h := h.1 c71
    refine lv_iconst (v := 0) hx hb dL_isForm_162 (by decide) ?_
    exact key23 0 _ _ _ h hP hS
  · replace h := h.2 c71
    refine lv_iconst (v := 2) hx hb dL_isForm_98 (by decide) ?_
    refine lv_iload hx hb dL_isForm_99 (lv_at hl 8 rfl) ?_
    refine lv_imul hx hb dL_isForm_101 ?_
    refine lv_iload hx hb dL_isForm_102 (lv_at hl 4 rfl) ?_
    have key73 : ∀ v72 : Int32, (((2 * v18) ≤ v1) → v72 = 0) → ((¬ (2 * v18) ≤ v1) → v72 = 1) → W p l e (headSpec wsL_isForm { frames := 8, cells := 0, slots := 0, locals := 141 }).room s m args below meth c H locs 0 0 (MQ below (va_Qi Q (fun u9 t => va_P D vwCl (cW cI cG L ad al u9) t.heap) (cA L ad s.heap.size)) args s 0 0 (cA L ad s.heap.size)) (F0 m 112 ls [.int v72]) := by
      intro v72 q73_0 q73_1
      replace h := h v72 q73_0 q73_1
      refine lv_aload_n hx hb dL_isForm_112 rfl (lv_at hl 0 rfl) ?_
      refine lv_iload_n hx hb dL_isForm_113 rfl (lv_at hl 2 rfl) ?_
      refine lv_iconst (v := 3) hx hb dL_isForm_114 (by decide) ?_
      refine cc_i (va_runV (C := RX6) (As := [.int a2, .int 3]) (rest := [.int v72]) ⟨hx, hb, hml, hown, hts⟩ (cN_X6_formIs hL hwd H.size u21 a2 3 _ h) (cwV 2 hts gL_isForm_X6_formIs rfl rfl rfl (by decide +kernel) ⟨Nat.le_of_ble_eq_true rfl, Nat.le_of_ble_eq_true rfl⟩) (pcV hC hP hS (cg_0 hi0) rfl) rfl rfl hl.1 rfl (lv_room (Nat.le_of_ble_eq_true rfl)) dL_isForm_115 ⟨Nat.zero_le _, Nat.zero_le _⟩) hS (cA_mono hS.1) (fun v74 u75 H locs h hP hS => ?_)
      refine lv_iconst (v := 1) hx hb dL_isForm_118 (by decide) ?_
      have key77 : ∀ v76 : Int32, ((¬ v74 = 1) → v76 = 0) → ((v74 = 1) → v76 = 1) → W p l e (headSpec wsL_isForm { frames := 8, cells := 0, slots := 0, locals := 141 }).room s m args below meth c H locs 0 0 (MQ below (va_Qi Q (fun u9 t => va_P D vwCl (cW cI cG L ad al u9) t.heap) (cA L ad s.heap.size)) args s 0 0 (cA L ad s.heap.size)) (F0 m 127 ls [.int v76, .int v72]) := by
        intro v76 q77_0 q77_1
        replace h := h v76 q77_0 q77_1
        refine lv_icmp_ne (tgt := 162) hx hb dL_isForm_127 (by decide) (fun c78 => ?_) (fun c78 => ?_)
        · replace h := h.1 c78
          refine lv_iconst (v := 0) hx hb dL_isForm_162 (by decide) ?_
          exact key23 0 _ _ _ h hP hS
        · replace h := h.2 c78
          refine lv_iload hx hb dL_isForm_130 (lv_at hl 5 rfl) ?_
          refine lv_if_ne (tgt := 151) hx hb dL_isForm_132 (by decide) (fun c79 => ?_) (fun c79 => ?_)
          · replace h := h.1 c79
            refine lv_iload hx hb dL_isForm_151 (lv_at hl 7 rfl) ?_
            refine lv_iload hx hb dL_isForm_153 (lv_at hl 4 rfl) ?_
            refine lv_icmp_gt (tgt := 162) hx hb dL_isForm_155 (by decide) (fun c80 => ?_) (fun c80 => ?_)
            · replace h := h.1 c80
              refine lv_iconst (v := 0) hx hb dL_isForm_162 (by decide) ?_
              exact key23 0 _ _ _ h hP hS
            · replace h := h.2 c80
              refine lv_iconst (v := 1) hx hb dL_isForm_158 (by decide) ?_
              refine lv_goto (tgt := 163) hx hb dL_isForm_159 (by decide) ?_
              exact key23 1 _ _ _ h hP hS
          · replace h := h.2 c79
            refine lv_iload hx hb dL_isForm_135 (lv_at hl 7 rfl) ?_
            refine lv_iload_n hx hb dL_isForm_137 rfl (lv_at hl 1 rfl) ?_
            refine lv_iconst (v := 1) hx hb dL_isForm_138 (by decide) ?_
            refine lv_iadd hx hb dL_isForm_139 ?_
            refine lv_iload hx hb dL_isForm_140 (lv_at hl 4 rfl) ?_
            refine lv_iconst (v := 1) hx hb dL_isForm_142 (by decide) ?_
            refine lv_iadd hx hb dL_isForm_143 ?_
            refine lv_imul hx hb dL_isForm_144 ?_
            refine lv_icmp_ne (tgt := 162) hx hb dL_isForm_145 (by decide) (fun c81 => ?_) (fun c81 => ?_)
            · replace h := h.1 c81
              refine lv_iconst (v := 0) hx hb dL_isForm_162 (by decide) ?_
              exact key23 0 _ _ _ h hP hS
            · replace h := h.2 c81
              refine lv_goto (tgt := 158) hx hb dL_isForm_148 (by decide) ?_
              refine lv_iconst (v := 1) hx hb dL_isForm_158 (by decide) ?_
              refine lv_goto (tgt := 163) hx hb dL_isForm_159 (by decide) ?_
              exact key23 1 _ _ _ h hP hS
      clear h
      refine lv_icmp_ne (tgt := 126) hx hb dL_isForm_119 (by decide) (fun c76 => ?_) (fun c76 => ?_)
      · skip
        refine lv_iconst (v := 0) hx hb dL_isForm_126 (by decide) ?_
        exact key77 0 (fun _ => rfl) (fun n9 => absurd n9 c76)
      · skip
        refine lv_iconst (v := 1) hx hb dL_isForm_122 (by decide) ?_
        refine lv_goto (tgt := 127) hx hb dL_isForm_123 (by decide) ?_
        exact key77 1 (fun n9 => absurd c76 n9) (fun _ => rfl)
    clear h
    refine lv_icmp_le (tgt := 111) hx hb dL_isForm_104 (by decide) (fun c72 => ?_) (fun c72 => ?_)
    · skip
      refine lv_iconst (v := 0) hx hb dL_isForm_111 (by decide) ?_
      exact key73 0 (fun _ => rfl) (fun n9 => absurd c72 n9)
    · skip
      refine lv_iconst (v := 1) hx hb dL_isForm_107 (by decide) ?_
      refine lv_goto (tgt := 112) hx hb dL_isForm_108 (by decide) ?_
      exact key73 1 (fun n9 => absurd n9 c72) (fun _ => rfl)
set_option maxRecDepth 100000 in
set_option maxHeartbeats 4000000 in
theorem c_L_isForm {l : Launch} {D : va_G} {cI cG cZ cJ : ClassId} {ts : Nat × Nat} {L : List Nat} {ad : Nat → Nat} {al : Nat} (hL : Lf L al) (hwd : WD L ad) (sz : Nat) (u : St) (a1 : Int32) (a2 : Int32) (a3 : Int32) (Q : Int32 → St → Prop) (h : f_L_isForm al a1 a2 a3 u Q) : Met l yL_isForm wsL_isForm ({ frames := 8, cells := 0, slots := 0, locals := 141 }) (va_Pc [.ref (ad 0), .int a1, .int a2, .int a3] (PC D cI cG cZ cJ ts L ad al sz u)) (va_Qi Q (fun u9 t => va_P D vwCl (cW cI cG L ad al u9) t.heap) (cA L ad sz)) 0 0 (cA L ad sz) := by
  refine Met.ofW (cc := cL_isForm) (maxL := 11) (ret := (some .boolean)) (by decide) rfl ?_
  intro p e s m args below meth c s₁ B hml hv
  obtain ⟨rfl, hsz, hP, hC⟩ := hv
  subst hsz
  have X : FX RL wsL_isForm cL_isForm 11 (some .boolean) D cI cG cZ cJ ts L ad p s m _ meth c := ⟨B.exec, B.bytes, hml, findClass_of_methodNamed B.named, atoms_spec (ws := wsL_isForm) B.pre, B.returns, B.notSynchronized, hwd, hC⟩
  have hl := lv_entry ([.ref (ad 0), .int a1, .int a2, .int a3]) (n := 11) (Nat.le_of_ble_eq_true rfl)
  rw [lg_entry_eq]
  generalize (lg_sl ([.ref (ad 0), .int a1, .int a2, .int a3]) ++ List.replicate (11 - (lg_sl ([.ref (ad 0), .int a1, .int a2, .int a3])).length) Slot.unset).toArray = ls at hl ⊢
  exact w_L_isForm hL X a1 a2 a3 Q u _ _ _ h hP va_S.rf hl
set_option maxRecDepth 100000 in
set_option maxHeartbeats 4000000 in
theorem w_L_isWay {p : Program} {l : Launch} {e : Env} {s : State} {m : MethodId} {args : Array Value} {below : List Frame} {meth : Method} {c : Code} {D : va_G} {cI cG cZ cJ : ClassId} {ts : Nat × Nat} {L : List Nat} {ad : Nat → Nat} {al : Nat} (hflag : l.stackTraces = false) (hX : XW s) (hN : NCW s) (hL : Lf L al) (X : FX RL wsL_isWay cL_isWay 7 (some .boolean) D cI cG cZ cJ ts L ad p s m args meth c) (a1 : Int32) (a2 : Int32) (a3 : Int32) (Q : Int32 → St → Prop) (u : St) (H : Heap) (locs : List Loc) (ls : Array Slot) (h : f_L_isWay al a1 a2 a3 u Q) (hP : va_P D vwCl (cW cI cG L ad al u) H) (hS : va_S (cA L ad s.heap.size) s.heap H locs) (hl : lv_has ls 7 [(0, .ref (ad 0)), (1, .int a1), (2, .int a2), (3, .int a3)]) : W p l e (headSpec wsL_isWay { frames := 10, cells := 16, slots := 96, locals := 209 }).room s m args below meth c H locs 0 0 (MQ below (va_Qi Q (fun u9 t => va_P D vwCl (cW cI cG L ad al u9) t.heap) (cA L ad s.heap.size)) args s 16 96 (cA L ad s.heap.size)) (F0 m 0 ls []) := by
  obtain ⟨hx, hb, hml, hown, hts, hr, hlocks, hwd, hC⟩ := id X
  have hK := hC.1
  have m0 : 0 ∈ L := hL 0 (by omega)
  obtain ⟨i0, hi0⟩ := wL_ix m0
  unfold f_L_isWay at h
  refine lv_aload_n hx hb dL_isWay_0 rfl (lv_at hl 0 rfl) ?_
  refine lv_iload_n hx hb dL_isWay_1 rfl (lv_at hl 2 rfl) ?_
  refine lv_iconst (v := 0) hx hb dL_isWay_2 (by decide) ?_
  refine cc_i (va_runV (C := RX6) (As := [.int a2, .int 0]) (rest := []) ⟨hx, hb, hml, hown, hts⟩ (cN_X6_formIs hL hwd H.size u a2 0 _ h) (cwV 2 hts gL_isWay_X6_formIs rfl rfl rfl (by decide +kernel) ⟨Nat.le_of_ble_eq_true rfl, Nat.le_of_ble_eq_true rfl⟩) (pcV hC hP hS (cg_0 hi0) rfl) rfl rfl hl.1 rfl (lv_room (Nat.le_of_ble_eq_true rfl)) dL_isWay_3 ⟨Nat.le_of_ble_eq_true rfl, Nat.le_of_ble_eq_true rfl⟩) hS (cA_mono hS.1) (fun v1 u2 H locs h hP hS => ?_)
  refine lv_istore (lv' := [(4, .int v1), (0, .ref (ad 0)), (1, .int a1), (2, .int a2), (3, .int a3)]) hx hb dL_isWay_6 hl (by decide) rfl (fun ls hl => ?_)
  refine lv_aload_n hx hb dL_isWay_8 rfl (lv_at hl 1 rfl) ?_
  refine lv_bipush (v := 7) hx hb dL_isWay_9 (by decide) ?_
  refine lv_iload_n hx hb dL_isWay_11 rfl (lv_at hl 3 rfl) ?_
  refine lv_iload_n hx hb dL_isWay_12 rfl (lv_at hl 4 rfl) ?_
  refine lv_iconst (v := 0) hx hb dL_isWay_13 (by decide) ?_
  refine cc_iM (vx_runSW (As := [.ref (ad 0), .int 7, .int a2, .int a3, .int 0]) (rest := []) ⟨hx, hb, hml, hown, hts⟩ (c_L_ask hflag hL hwd H.size u2 7 a2 a3 0 _ h) (vx_cwSW 5 hts gL_isWay_L_ask rfl rfl rfl (by decide +kernel) ⟨Nat.le_of_ble_eq_true rfl, Nat.le_of_ble_eq_true rfl⟩) (pcSN hC hX hN hP hS) rfl rfl hl.1 rfl (lv_room (Nat.le_of_ble_eq_true rfl)) dL_isWay_14 ⟨Nat.le_of_ble_eq_true rfl, Nat.le_of_ble_eq_true rfl⟩) hS (cA_mono hS.1) (fun v3 u4 H locs h hP hS => ?_)
  refine lv_istore (lv' := [(5, .int v3), (4, .int v1), (0, .ref (ad 0)), (1, .int a1), (2, .int a2), (3, .int a3)]) hx hb dL_isWay_17 hl (by decide) rfl (fun ls hl => ?_)
  refine lv_aload_n hx hb dL_isWay_19 rfl (lv_at hl 2 rfl) ?_
  refine lv_iload_n hx hb dL_isWay_20 rfl (lv_at hl 4 rfl) ?_
  refine lv_bipush (v := 6) hx hb dL_isWay_21 (by decide) ?_
  refine cc_i (va_runV (C := RX6) (As := [.int a2, .int 6]) (rest := []) ⟨hx, hb, hml, hown, hts⟩ (cN_X6_formIs hL hwd H.size u4 a2 6 _ h) (cwV 2 hts gL_isWay_X6_formIs rfl rfl rfl (by decide +kernel) ⟨Nat.le_of_ble_eq_true rfl, Nat.le_of_ble_eq_true rfl⟩) (pcV hC hP hS (cg_0 hi0) rfl) rfl rfl hl.1 rfl (lv_room (Nat.le_of_ble_eq_true rfl)) dL_isWay_23 ⟨Nat.le_of_ble_eq_true rfl, Nat.le_of_ble_eq_true rfl⟩) hS (cA_mono hS.1) (fun v5 u6 H locs h hP hS => ?_)
  refine lv_aload_n hx hb dL_isWay_26 rfl (lv_at hl 2 rfl) ?_
  refine lv_iload_n hx hb dL_isWay_27 rfl (lv_at hl 5 rfl) ?_
  refine lv_bipush (v := 6) hx hb dL_isWay_28 (by decide) ?_
  refine cc_i (va_runV (C := RX6) (As := [.int a3, .int 6]) (rest := [.int v5]) ⟨hx, hb, hml, hown, hts⟩ (cN_X6_formIs hL hwd H.size u6 a3 6 _ h) (cwV 2 hts gL_isWay_X6_formIs rfl rfl rfl (by decide +kernel) ⟨Nat.le_of_ble_eq_true rfl, Nat.le_of_ble_eq_true rfl⟩) (pcV hC hP hS (cg_0 hi0) rfl) rfl rfl hl.1 rfl (lv_room (Nat.le_of_ble_eq_true rfl)) dL_isWay_30 ⟨Nat.le_of_ble_eq_true rfl, Nat.le_of_ble_eq_true rfl⟩) hS (cA_mono hS.1) (fun v7 u8 H locs h hP hS => ?_)
  have key10 : ∀ v9 : Int32, ((¬ v5 = v7) → v9 = 0) → ((v5 = v7) → v9 = 1) → W p l e (headSpec wsL_isWay { frames := 10, cells := 16, slots := 96, locals := 209 }).room s m args below meth c H locs 4 24 (MQ below (va_Qi Q (fun u9 t => va_P D vwCl (cW cI cG L ad al u9) t.heap) (cA L ad s.heap.size)) args s 16 96 (cA L ad s.heap.size)) (F0 m 41 ls [.int v9]) := by
    intro v9 q10_0 q10_1
    replace h := h v9 q10_0 q10_1
    refine lv_istore (lv' := [(6, .int v9), (5, .int v3), (4, .int v1), (0, .ref (ad 0)), (1, .int a1), (2, .int a2), (3, .int a3)]) hx hb dL_isWay_41 hl (by decide) rfl (fun ls hl => ?_)
    refine lv_iload hx hb dL_isWay_43 (lv_at hl 1 rfl) ?_
    refine lv_iconst (v := (-1)) hx hb dL_isWay_45 (by decide) ?_
    refine lv_icmp_lt (tgt := 201) hx hb dL_isWay_46 (by decide) (fun c11 => ?_) (fun c11 => ?_)
    · replace h := h.1 c11
      refine lv_iconst (v := 0) hx hb dL_isWay_201 (by decide) ?_
      refine W.widen (k := 16) (n := 96) (by decide) (by decide) ?_
      exact W.zret (ty := .boolean) (v := 0) hx hb hr rfl (fun t ht hW => ⟨⟨_, _, rfl, h, by show va_P _ _ _ t.heap; rw [ht]; exact hP⟩, hS.F ht⟩) hS.2.2 dL_isWay_202
    · replace h := h.2 c11
      refine lv_iload hx hb dL_isWay_49 (lv_at hl 1 rfl) ?_
      have key13 : ∀ v12 : Int32, ((v3 < 0) → v12 = 0) → ((¬ v3 < 0) → v12 = 1) → W p l e (headSpec wsL_isWay { frames := 10, cells := 16, slots := 96, locals := 209 }).room s m args below meth c H locs 4 24 (MQ below (va_Qi Q (fun u9 t => va_P D vwCl (cW cI cG L ad al u9) t.heap) (cA L ad s.heap.size)) args s 16 96 (cA L ad s.heap.size)) (F0 m 59 ls [.int v12]) := by
        intro v12 q13_0 q13_1
        replace h := h v12 q13_0 q13_1
        refine lv_iload hx hb dL_isWay_59 (lv_at hl 0 rfl) ?_
        refine lv_icmp_ne (tgt := 201) hx hb dL_isWay_61 (by decide) (fun c14 => ?_) (fun c14 => ?_)
        · replace h := h.1 c14
          refine lv_iconst (v := 0) hx hb dL_isWay_201 (by decide) ?_
          refine W.widen (k := 16) (n := 96) (by decide) (by decide) ?_
          exact W.zret (ty := .boolean) (v := 0) hx hb hr rfl (fun t ht hW => ⟨⟨_, _, rfl, h, by show va_P _ _ _ t.heap; rw [ht]; exact hP⟩, hS.F ht⟩) hS.2.2 dL_isWay_202
        · replace h := h.2 c14
          refine lv_iload hx hb dL_isWay_64 (lv_at hl 1 rfl) ?_
          have key16 : ∀ v15 : Int32, ((¬ v3 = 0) → v15 = 0) → ((v3 = 0) → v15 = 1) → W p l e (headSpec wsL_isWay { frames := 10, cells := 16, slots := 96, locals := 209 }).room s m args below meth c H locs 4 24 (MQ below (va_Qi Q (fun u9 t => va_P D vwCl (cW cI cG L ad al u9) t.heap) (cA L ad s.heap.size)) args s 16 96 (cA L ad s.heap.size)) (F0 m 74 ls [.int v15]) := by
            intro v15 q16_0 q16_1
            replace h := h v15 q16_0 q16_1
            refine lv_aload_n hx hb dL_isWay_74 rfl (lv_at hl 3 rfl) ?_
            refine lv_iload_n hx hb dL_isWay_75 rfl (lv_at hl 5 rfl) ?_
            refine lv_iconst (v := 1) hx hb dL_isWay_76 (by decide) ?_
            refine cc_i (va_runV (C := RX6) (As := [.int a2, .int 1]) (rest := [.int v15]) ⟨hx, hb, hml, hown, hts⟩ (cN_X6_formIs hL hwd H.size u8 a2 1 _ h) (cwV 2 hts gL_isWay_X6_formIs rfl rfl rfl (by decide +kernel) ⟨Nat.le_of_ble_eq_true rfl, Nat.le_of_ble_eq_true rfl⟩) (pcV hC hP hS (cg_0 hi0) rfl) rfl rfl hl.1 rfl (lv_room (Nat.le_of_ble_eq_true rfl)) dL_isWay_77 ⟨Nat.le_of_ble_eq_true rfl, Nat.le_of_ble_eq_true rfl⟩) hS (cA_mono hS.1) (fun v17 u18 H locs h hP hS => ?_)
            refine lv_aload_n hx hb dL_isWay_80 rfl (lv_at hl 3 rfl) ?_
            refine lv_iload_n hx hb dL_isWay_81 rfl (lv_at hl 6 rfl) ?_
            refine lv_iconst (v := 1) hx hb dL_isWay_82 (by decide) ?_
            refine cc_i (va_runV (C := RX6) (As := [.int a3, .int 1]) (rest := [.int v17, .int v15]) ⟨hx, hb, hml, hown, hts⟩ (cN_X6_formIs hL hwd H.size u18 a3 1 _ h) (cwV 2 hts gL_isWay_X6_formIs rfl rfl rfl (by decide +kernel) ⟨Nat.le_of_ble_eq_true rfl, Nat.le_of_ble_eq_true rfl⟩) (pcV hC hP hS (cg_0 hi0) rfl) rfl rfl hl.1 rfl (lv_room (Nat.le_of_ble_eq_true rfl)) dL_isWay_83 ⟨Nat.le_of_ble_eq_true rfl, Nat.le_of_ble_eq_true rfl⟩) hS (cA_mono hS.1) (fun v19 u20 H locs h hP hS => ?_)
            have key22 : ∀ v21 : Int32, ((¬ v17 = v19) → v21 = 0) → ((v17 = v19) → v21 = 1) → W p l e (headSpec wsL_isWay { frames := 10, cells := 16, slots := 96, locals := 209 }).room s m args below meth c H locs 4 24 (MQ below (va_Qi Q (fun u9 t => va_P D vwCl (cW cI cG L ad al u9) t.heap) (cA L ad s.heap.size)) args s 16 96 (cA L ad s.heap.size)) (F0 m 94 ls [.int v21, .int v15]) := by
              intro v21 q22_0 q22_1
              replace h := h v21 q22_0 q22_1
              refine lv_icmp_ne (tgt := 201) hx hb dL_isWay_94 (by decide) (fun c23 => ?_) (fun c23 => ?_)
              · replace h := h.1 c23
                refine lv_iconst (v := 0) hx hb dL_isWay_201 (by decide) ?_
                refine W.widen (k := 16) (n := 96) (by decide) (by decide) ?_
                exact W.zret (ty := .boolean) (v := 0) hx hb hr rfl (fun t ht hW => ⟨⟨_, _, rfl, h, by show va_P _ _ _ t.heap; rw [ht]; exact hP⟩, hS.F ht⟩) hS.2.2 dL_isWay_202
              · replace h := h.2 c23
                refine lv_aload_n hx hb dL_isWay_97 rfl (lv_at hl 3 rfl) ?_
                refine lv_bipush (v := 7) hx hb dL_isWay_98 (by decide) ?_
                refine lv_iload_n hx hb dL_isWay_100 rfl (lv_at hl 6 rfl) ?_
                refine lv_iload_n hx hb dL_isWay_101 rfl (lv_at hl 5 rfl) ?_
                refine lv_iconst (v := 0) hx hb dL_isWay_102 (by decide) ?_
                refine cc_iM (vx_runSW (As := [.ref (ad 0), .int 7, .int a3, .int a2, .int 0]) (rest := []) ⟨hx, hb, hml, hown, hts⟩ (c_L_ask hflag hL hwd H.size u20 7 a3 a2 0 _ h) (vx_cwSW 5 hts gL_isWay_L_ask rfl rfl rfl (by decide +kernel) ⟨Nat.le_of_ble_eq_true rfl, Nat.le_of_ble_eq_true rfl⟩) (pcSN hC hX hN hP hS) rfl rfl hl.1 rfl (lv_room (Nat.le_of_ble_eq_true rfl)) dL_isWay_103 ⟨Nat.le_of_ble_eq_true rfl, Nat.le_of_ble_eq_true rfl⟩) hS (cA_mono hS.1) (fun v24 u25 H locs h hP hS => ?_)
                have key27 : ∀ v26 : Int32, ((v24 < 0) → v26 = 0) → ((¬ v24 < 0) → v26 = 1) → W p l e (headSpec wsL_isWay { frames := 10, cells := 16, slots := 96, locals := 209 }).room s m args below meth c H locs 8 48 (MQ below (va_Qi Q (fun u9 t => va_P D vwCl (cW cI cG L ad al u9) t.heap) (cA L ad s.heap.size)) args s 16 96 (cA L ad s.heap.size)) (F0 m 114 ls [.int v26]) := by
                  intro v26 q27_0 q27_1
                  replace h := h v26 q27_0 q27_1
                  refine lv_iload hx hb dL_isWay_114 (lv_at hl 0 rfl) ?_
                  refine lv_icmp_ne (tgt := 201) hx hb dL_isWay_116 (by decide) (fun c28 => ?_) (fun c28 => ?_)
                  · replace h := h.1 c28
                    refine lv_iconst (v := 0) hx hb dL_isWay_201 (by decide) ?_
                    refine W.widen (k := 16) (n := 96) (by decide) (by decide) ?_
                    exact W.zret (ty := .boolean) (v := 0) hx hb hr rfl (fun t ht hW => ⟨⟨_, _, rfl, h, by show va_P _ _ _ t.heap; rw [ht]; exact hP⟩, hS.F ht⟩) hS.2.2 dL_isWay_202
                  · replace h := h.2 c28
                    refine lv_aload_n hx hb dL_isWay_119 rfl (lv_at hl 3 rfl) ?_
                    refine lv_bipush (v := 8) hx hb dL_isWay_120 (by decide) ?_
                    refine lv_iload_n hx hb dL_isWay_122 rfl (lv_at hl 5 rfl) ?_
                    refine lv_iload_n hx hb dL_isWay_123 rfl (lv_at hl 6 rfl) ?_
                    refine lv_iload hx hb dL_isWay_124 (lv_at hl 1 rfl) ?_
                    have key30 : ∀ v29 : Int32, ((0 ≤ v3) → v29 = v3) → ((¬ 0 ≤ v3) → v29 = 0) → W p l e (headSpec wsL_isWay { frames := 10, cells := 16, slots := 96, locals := 209 }).room s m args below meth c H locs 8 48 (MQ below (va_Qi Q (fun u9 t => va_P D vwCl (cW cI cG L ad al u9) t.heap) (cA L ad s.heap.size)) args s 16 96 (cA L ad s.heap.size)) (F0 m 135 ls [.int v29, .int a3, .int a2, .int 8, .ref (ad 0)]) := by
                      intro v29 q30_0 q30_1
                      replace h := h v29 q30_0 q30_1
                      refine cc_iM (vx_runSW (As := [.ref (ad 0), .int 8, .int a2, .int a3, .int v29]) (rest := []) ⟨hx, hb, hml, hown, hts⟩ (c_L_ask hflag hL hwd H.size u25 8 a2 a3 v29 _ h) (vx_cwSW 5 hts gL_isWay_L_ask rfl rfl rfl (by decide +kernel) ⟨Nat.le_of_ble_eq_true rfl, Nat.le_of_ble_eq_true rfl⟩) (pcSN hC hX hN hP hS) rfl rfl hl.1 rfl (lv_room (Nat.le_of_ble_eq_true rfl)) dL_isWay_135 ⟨Nat.le_of_ble_eq_true rfl, Nat.le_of_ble_eq_true rfl⟩) hS (cA_mono hS.1) (fun v31 u32 H locs h hP hS => ?_)
                      refine lv_iconst (v := (-1)) hx hb dL_isWay_138 (by decide) ?_
                      refine lv_icmp_ne (tgt := 201) hx hb dL_isWay_139 (by decide) (fun c33 => ?_) (fun c33 => ?_)
                      · replace h := h.1 c33
                        refine lv_iconst (v := 0) hx hb dL_isWay_201 (by decide) ?_
                        refine W.widen (k := 16) (n := 96) (by decide) (by decide) ?_
                        exact W.zret (ty := .boolean) (v := 0) hx hb hr rfl (fun t ht hW => ⟨⟨_, _, rfl, h, by show va_P _ _ _ t.heap; rw [ht]; exact hP⟩, hS.F ht⟩) hS.2.2 dL_isWay_202
                      · replace h := h.2 c33
                        refine lv_iload hx hb dL_isWay_142 (lv_at hl 1 rfl) ?_
                        refine lv_iconst (v := 1) hx hb dL_isWay_144 (by decide) ?_
                        obtain ⟨R34, h, hR34⟩ := h
                        have key34 : ∀  (u35 : St) (H : Heap) (locs : List Loc), R34 u35 → va_P D vwCl (cW cI cG L ad al u35) H → va_S (cA L ad s.heap.size) s.heap H locs → W p l e (headSpec wsL_isWay { frames := 10, cells := 16, slots := 96, locals := 209 }).room s m args below meth c H locs 16 96 (MQ below (va_Qi Q (fun u9 t => va_P D vwCl (cW cI cG L ad al u9) t.heap) (cA L ad s.heap.size)) args s 16 96 (cA L ad s.heap.size)) (F0 m 174 ls []) := by
                          intro  u35 H locs h hP hS
                          replace h := hR34 u35 h
                          refine lv_iload hx hb dL_isWay_174 (lv_at hl 2 rfl) ?_
                          refine lv_if_le (tgt := 201) hx hb dL_isWay_176 (by decide) (fun c36 => ?_) (fun c36 => ?_)
                          · replace h := h.1 c36
                            refine lv_iconst (v := 0) hx hb dL_isWay_201 (by decide) ?_
                            refine W.widen (k := 16) (n := 96) (by decide) (by decide) ?_
                            exact W.zret (ty := .boolean) (v := 0) hx hb hr rfl (fun t ht hW => ⟨⟨_, _, rfl, h, by show va_P _ _ _ t.heap; rw [ht]; exact hP⟩, hS.F ht⟩) hS.2.2 dL_isWay_202
                          · replace h := h.2 c36
                            refine lv_iload_n hx hb dL_isWay_179 rfl (lv_at hl 4 rfl) ?_
                            refine lv_iload hx hb dL_isWay_180 (lv_at hl 2 rfl) ?_
                            refine lv_iconst (v := 1) hx hb dL_isWay_182 (by decide) ?_
                            refine lv_iadd hx hb dL_isWay_183 ?_
                            refine cc_i (va_runS (As := [.int a1, .int (v1 + 1)]) (rest := []) ⟨hx, hb, hml, hown, hts⟩ (c_L_power hL hwd H.size u35 a1 (v1 + 1) _ h) (va_cwS 2 hts gL_isWay_L_power rfl rfl rfl (by decide +kernel) ⟨Nat.le_of_ble_eq_true rfl, Nat.le_of_ble_eq_true rfl⟩) (pcS hC hP hS) rfl rfl hl.1 rfl (lv_room (Nat.le_of_ble_eq_true rfl)) dL_isWay_184 ⟨Nat.le_of_ble_eq_true rfl, Nat.le_of_ble_eq_true rfl⟩) hS (cA_mono hS.1) (fun v37 u38 H locs h hP hS => ?_)
                            refine lv_aload_n hx hb dL_isWay_187 rfl (lv_at hl 3 rfl) ?_
                            refine lv_iload_n hx hb dL_isWay_188 rfl (lv_at hl 5 rfl) ?_
                            refine lv_bipush (v := 6) hx hb dL_isWay_189 (by decide) ?_
                            refine cc_i (va_runV (C := RX6) (As := [.int a2, .int 6]) (rest := [.int v37]) ⟨hx, hb, hml, hown, hts⟩ (cN_X6_formIs hL hwd H.size u38 a2 6 _ h) (cwV 2 hts gL_isWay_X6_formIs rfl rfl rfl (by decide +kernel) ⟨Nat.le_of_ble_eq_true rfl, Nat.le_of_ble_eq_true rfl⟩) (pcV hC hP hS (cg_0 hi0) rfl) rfl rfl hl.1 rfl (lv_room (Nat.le_of_ble_eq_true rfl)) dL_isWay_191 ⟨Nat.le_of_ble_eq_true rfl, Nat.le_of_ble_eq_true rfl⟩) hS (cA_mono hS.1) (fun v39 u40 H locs h hP hS => ?_)
                            refine lv_icmp_le (tgt := 201) hx hb dL_isWay_194 (by decide) (fun c41 => ?_) (fun c41 => ?_)
                            · replace h := h.1 c41
                              refine lv_iconst (v := 0) hx hb dL_isWay_201 (by decide) ?_
                              refine W.widen (k := 16) (n := 96) (by decide) (by decide) ?_
                              exact W.zret (ty := .boolean) (v := 0) hx hb hr rfl (fun t ht hW => ⟨⟨_, _, rfl, h, by show va_P _ _ _ t.heap; rw [ht]; exact hP⟩, hS.F ht⟩) hS.2.2 dL_isWay_202
                            · replace h := h.2 c41
                              refine lv_iconst (v := 1) hx hb dL_isWay_197 (by decide) ?_
                              refine lv_goto (tgt := 202) hx hb dL_isWay_198 (by decide) ?_
                              refine W.widen (k := 16) (n := 96) (by decide) (by decide) ?_
                              exact W.zret (ty := .boolean) (v := 1) hx hb hr rfl (fun t ht hW => ⟨⟨_, _, rfl, h, by show va_P _ _ _ t.heap; rw [ht]; exact hP⟩, hS.F ht⟩) hS.2.2 dL_isWay_202
                        clear hR34
                        refine lv_icmp_lt (tgt := 174) hx hb dL_isWay_145 (by decide) (fun c42 => ?_) (fun c42 => ?_)
                        · replace h := h.1 c42
                          refine W.widen (k := 16) (n := 96) (by decide) (by decide) ?_
                          exact key34  _ _ _ h hP hS
                        · replace h := h.2 c42
                          refine lv_aload_n hx hb dL_isWay_148 rfl (lv_at hl 3 rfl) ?_
                          refine lv_bipush (v := 8) hx hb dL_isWay_149 (by decide) ?_
                          refine lv_iload_n hx hb dL_isWay_151 rfl (lv_at hl 5 rfl) ?_
                          refine lv_iload_n hx hb dL_isWay_152 rfl (lv_at hl 6 rfl) ?_
                          refine lv_iload hx hb dL_isWay_153 (lv_at hl 1 rfl) ?_
                          refine lv_iconst (v := 1) hx hb dL_isWay_155 (by decide) ?_
                          refine lv_isub hx hb dL_isWay_156 ?_
                          refine cc_iM (vx_runSW (As := [.ref (ad 0), .int 8, .int a2, .int a3, .int (v3 - 1)]) (rest := []) ⟨hx, hb, hml, hown, hts⟩ (c_L_ask hflag hL hwd H.size u32 8 a2 a3 (v3 - 1) _ h) (vx_cwSW 5 hts gL_isWay_L_ask rfl rfl rfl (by decide +kernel) ⟨Nat.le_of_ble_eq_true rfl, Nat.le_of_ble_eq_true rfl⟩) (pcSN hC hX hN hP hS) rfl rfl hl.1 rfl (lv_room (Nat.le_of_ble_eq_true rfl)) dL_isWay_157 ⟨Nat.le_of_ble_eq_true rfl, Nat.le_of_ble_eq_true rfl⟩) hS (cA_mono hS.1) (fun v43 u44 H locs h hP hS => ?_)
                          refine lv_if_lt (tgt := 201) hx hb dL_isWay_160 (by decide) (fun c45 => ?_) (fun c45 => ?_)
                          · replace h := h.1 c45
                            refine lv_iconst (v := 0) hx hb dL_isWay_201 (by decide) ?_
                            refine W.widen (k := 16) (n := 96) (by decide) (by decide) ?_
                            exact W.zret (ty := .boolean) (v := 0) hx hb hr rfl (fun t ht hW => ⟨⟨_, _, rfl, h, by show va_P _ _ _ t.heap; rw [ht]; exact hP⟩, hS.F ht⟩) hS.2.2 dL_isWay_202
                          · replace h := h.2 c45
                            refine lv_iload hx hb dL_isWay_163 (lv_at hl 1 rfl) ?_
                            refine lv_aload_n hx hb dL_isWay_165 rfl (lv_at hl 3 rfl) ?_
                            refine lv_iload_n hx hb dL_isWay_166 rfl (lv_at hl 5 rfl) ?_
                            refine lv_iconst (v := 5) hx hb dL_isWay_167 (by decide) ?_
                            refine cc_i (va_runV (C := RX6) (As := [.int a2, .int 5]) (rest := [.int v3]) ⟨hx, hb, hml, hown, hts⟩ (cN_X6_formIs hL hwd H.size u44 a2 5 _ h) (cwV 2 hts gL_isWay_X6_formIs rfl rfl rfl (by decide +kernel) ⟨Nat.le_of_ble_eq_true rfl, Nat.le_of_ble_eq_true rfl⟩) (pcV hC hP hS (cg_0 hi0) rfl) rfl rfl hl.1 rfl (lv_room (Nat.le_of_ble_eq_true rfl)) dL_isWay_168 ⟨Nat.le_of_ble_eq_true rfl, Nat.le_of_ble_eq_true rfl⟩) hS (cA_mono hS.1) (fun v46 u47 H locs h hP hS => ?_)
                            refine lv_icmp_ge (tgt := 201) hx hb dL_isWay_171 (by decide) (fun c48 => ?_) (fun c48 => ?_)
                            · replace h := h.1 c48
                              refine lv_iconst (v := 0) hx hb dL_isWay_201 (by decide) ?_
                              refine W.widen (k := 16) (n := 96) (by decide) (by decide) ?_
                              exact W.zret (ty := .boolean) (v := 0) hx hb hr rfl (fun t ht hW => ⟨⟨_, _, rfl, h, by show va_P _ _ _ t.heap; rw [ht]; exact hP⟩, hS.F ht⟩) hS.2.2 dL_isWay_202
                            · replace h := h.2 c48
                              exact key34  _ _ _ h hP hS
                    clear h
                    refine lv_if_ge (tgt := 133) hx hb dL_isWay_126 (by decide) (fun c29 => ?_) (fun c29 => ?_)
                    · skip
                      refine lv_iload hx hb dL_isWay_133 (lv_at hl 1 rfl) ?_
                      exact key30 v3 (fun _ => rfl) (fun n9 => absurd c29 n9)
                    · skip
                      refine lv_iconst (v := 0) hx hb dL_isWay_129 (by decide) ?_
                      refine lv_goto (tgt := 135) hx hb dL_isWay_130 (by decide) ?_
                      exact key30 0 (fun n9 => absurd n9 c29) (fun _ => rfl)
                clear h
                refine lv_if_lt (tgt := 113) hx hb dL_isWay_106 (by decide) (fun c26 => ?_) (fun c26 => ?_)
                · skip
                  refine lv_iconst (v := 0) hx hb dL_isWay_113 (by decide) ?_
                  exact key27 0 (fun _ => rfl) (fun n9 => absurd c26 n9)
                · skip
                  refine lv_iconst (v := 1) hx hb dL_isWay_109 (by decide) ?_
                  refine lv_goto (tgt := 114) hx hb dL_isWay_110 (by decide) ?_
                  exact key27 1 (fun n9 => absurd n9 c26) (fun _ => rfl)
            clear h
            refine lv_icmp_ne (tgt := 93) hx hb dL_isWay_86 (by decide) (fun c21 => ?_) (fun c21 => ?_)
            · skip
              refine lv_iconst (v := 0) hx hb dL_isWay_93 (by decide) ?_
              exact key22 0 (fun _ => rfl) (fun n9 => absurd n9 c21)
            · skip
              refine lv_iconst (v := 1) hx hb dL_isWay_89 (by decide) ?_
              refine lv_goto (tgt := 94) hx hb dL_isWay_90 (by decide) ?_
              exact key22 1 (fun n9 => absurd c21 n9) (fun _ => rfl)
          clear h
          refine lv_if_ne (tgt := 73) hx hb dL_isWay_66 (by decide) (fun c15 => ?_) (fun c15 => ?_)
          · skip
            refine lv_iconst (v := 0) hx hb dL_isWay_73 (by decide) ?_
            exact key16 0 (fun _ => rfl) (fun n9 => absurd n9 c15)
          · skip
            refine lv_iconst (v := 1) hx hb dL_isWay_69 (by decide) ?_
            refine lv_goto (tgt := 74) hx hb dL_isWay_70 (by decide) ?_
            exact key16 1 (fun n9 => absurd c15 n9) (fun _ => rfl)
      clear h
      refine lv_if_lt (tgt := 58) hx hb dL_isWay_51 (by decide) (fun c12 => ?_) (fun c12 => ?_)
      · skip
        refine lv_iconst (v := 0) hx hb dL_isWay_58 (by decide) ?_
        exact key13 0 (fun _ => rfl) (fun n9 => absurd c12 n9)
      · skip
        refine lv_iconst (v := 1) hx hb dL_isWay_54 (by decide) ?_
        refine lv_goto (tgt := 59) hx hb dL_isWay_55 (by decide) ?_
        exact key13 1 (fun n9 => absurd n9 c12) (fun _ => rfl)
  clear h
  refine lv_icmp_ne (tgt := 40) hx hb dL_isWay_33 (by decide) (fun c9 => ?_) (fun c9 => ?_)
  · skip
    refine lv_iconst (v := 0) hx hb dL_isWay_40 (by decide) ?_
    exact key10 0 (fun _ => rfl) (fun n9 => absurd n9 c9)
  · skip
    refine lv_iconst (v := 1) hx hb dL_isWay_36 (by decide) ?_
    refine lv_goto (tgt := 41) hx hb dL_isWay_37 (by decide) ?_
    exact key10 1 (fun n9 => absurd c9 n9) (fun _ => rfl)
set_option maxRecDepth 100000 in
set_option maxHeartbeats 4000000 in
theorem c_L_isWay {l : Launch} {D : va_G} {cI cG cZ cJ : ClassId} {ts : Nat × Nat} {L : List Nat} {ad : Nat → Nat} {al : Nat} (hflag : l.stackTraces = false) (hL : Lf L al) (hwd : WD L ad) (sz : Nat) (u : St) (a1 : Int32) (a2 : Int32) (a3 : Int32) (Q : Int32 → St → Prop) (h : f_L_isWay al a1 a2 a3 u Q) : Met l yL_isWay wsL_isWay ({ frames := 10, cells := 16, slots := 96, locals := 209 }) (va_Pc [.ref (ad 0), .int a1, .int a2, .int a3] (PCN D cI cG cZ cJ ts L ad al sz u)) (va_Qi Q (fun u9 t => va_P D vwCl (cW cI cG L ad al u9) t.heap) (cA L ad sz)) 16 96 (cA L ad sz) := by
  refine Met.ofW (cc := cL_isWay) (maxL := 7) (ret := (some .boolean)) (by decide) rfl ?_
  intro p e s m args below meth c s₁ B hml hv
  obtain ⟨rfl, ⟨⟨hsz, hP, hC⟩, hX⟩, hN⟩ := hv
  subst hsz
  have X : FX RL wsL_isWay cL_isWay 7 (some .boolean) D cI cG cZ cJ ts L ad p s m _ meth c := ⟨B.exec, B.bytes, hml, findClass_of_methodNamed B.named, atoms_spec (ws := wsL_isWay) B.pre, B.returns, B.notSynchronized, hwd, hC⟩
  have hl := lv_entry ([.ref (ad 0), .int a1, .int a2, .int a3]) (n := 7) (Nat.le_of_ble_eq_true rfl)
  rw [lg_entry_eq]
  generalize (lg_sl ([.ref (ad 0), .int a1, .int a2, .int a3]) ++ List.replicate (7 - (lg_sl ([.ref (ad 0), .int a1, .int a2, .int a3])).length) Slot.unset).toArray = ls at hl ⊢
  exact w_L_isWay hflag hX hN hL X a1 a2 a3 Q u _ _ _ h hP va_S.rf hl
