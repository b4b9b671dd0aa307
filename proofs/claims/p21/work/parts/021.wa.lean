set_option maxRecDepth 100000 in
set_option maxHeartbeats 4000000 in
theorem w_J7_fill_53178_L5 {p : Program} {l : Launch} {e : Env} {s : State} {m : MethodId} {args : Array Value} {below : List Frame} {meth : Method} {c : Code} {D : va_G} {cI cG cZ cJ : ClassId} {ts : Nat × Nat} {L : List Nat} {ad : Nat → Nat} {al : Nat} {k0 : Nat} (hL : Lg L al) (hka0 : isA k0) (hm0 : k0 ∈ L) (X : FX RJ7 wsJ7_fill_53178 cJ7_fill_53178 4 none D cI cG cZ cJ ts L ad p s m args meth c) (a1 : Int32) (a3 : Int32) (Q : St → Prop)
    (K0 : St → Prop) (hk0 : ∀ (u : St) (H : Heap) (locs : List Loc) (ls : Array Slot), K0 u → va_P D vwCl (cW cI cG L ad al u) H → va_S (cA L ad s.heap.size) s.heap H locs → lv_has ls 4 [] → W p l e (headSpec wsJ7_fill_53178 { frames := 0, cells := 0, slots := 0, locals := 0 }).room s m args below meth c H locs 0 0 (MQ below (va_Qv Q (fun u9 t => va_P D vwCl (cW cI cG L ad al u9) t.heap) (cA L ad s.heap.size)) args s 0 0 (cA L ad s.heap.size)) (F0 m 20 ls []))
    : ∀ (n : Nat) (a2 : Int32) (u : St) (H : Heap) (locs : List Loc) (ls : Array Slot), f_J7_fill_53178_L5 k0 a1 a3 Q K0 n a2 u → va_P D vwCl (cW cI cG L ad al u) H → va_S (cA L ad s.heap.size) s.heap H locs → lv_has ls 4 [(0, .ref (ad k0)), (1, .int a1), (2, .int a2), (3, .int a3)] → W p l e (headSpec wsJ7_fill_53178 { frames := 0, cells := 0, slots := 0, locals := 0 }).room s m args below meth c H locs 0 0 (MQ below (va_Qv Q (fun u9 t => va_P D vwCl (cW cI cG L ad al u9) t.heap) (cA L ad s.heap.size)) args s 0 0 (cA L ad s.heap.size)) (F0 m 5 ls []) := by
  obtain ⟨hx, hb, hml, hown, hts, hr, hlocks, hwd, hC⟩ := id X
  have hK := hC.1
  obtain ⟨ik0, hik0⟩ := wL_ix hm0
  intro n
  induction n with
  | zero =>
    intro a2 u H locs ls h; exact h.elim
  | succ n ih =>
    intro a2 u H locs ls h hP hS hl
    replace h : f_J7_fill_53178_L5_s k0 a1 a3 Q K0 (f_J7_fill_53178_L5 k0 a1 a3 Q K0 n) a2 u := h
    unfold f_J7_fill_53178_L5_s at h
    refine lv_iload_n hx hb dJ7_fill_53178_5 rfl (lv_at hl 2 rfl) ?_
    refine lv_iload_n hx hb dJ7_fill_53178_6 rfl (lv_at hl 3 rfl) ?_
    refine lv_icmp_ge (tgt := 20) hx hb dJ7_fill_53178_7 (by decide) (fun c2 => ?_) (fun c2 => ?_)
    · replace h := h.1 c2
      exact hk0  _ _ _ _ h hP hS (lv_sub hl [] rfl)
    · replace h := h.2 c2
      refine lv_aload_n hx hb dJ7_fill_53178_10 rfl (lv_at hl 0 rfl) ?_
      refine lv_iload_n hx hb dJ7_fill_53178_11 rfl (lv_at hl 2 rfl) ?_
      refine lv_iload_n hx hb dJ7_fill_53178_12 rfl (lv_at hl 1 rfl) ?_
      refine va_iast hx hb hK hP (cD hwd) hS ik0 0 (cg_a hka0 hik0) rfl h.1 dJ7_fill_53178_13 (fun H locs hP _ hS => ?_)
      replace hP := cu_a hwd hka0 hik0 hP
      obtain ⟨u3, eu3⟩ : ∃ y : St, y = su u k0 a2.toNatClampNeg a1 := ⟨_, rfl⟩
      rw [← eu3] at hP
      replace h := h.2 u3 eu3
      obtain ⟨v4, ev4⟩ : ∃ y : Int32, y = a2 + 1 := ⟨_, rfl⟩
      refine lv_iinc (v := v4) (lv' := [(2, .int v4), (0, .ref (ad k0)), (1, .int a1), (3, .int a3)]) hx hb dJ7_fill_53178_14 hl (k := 2) rfl (by rw [ev4]; rfl) (by decide) rfl (fun ls hl => ?_)
      replace h := h v4 ev4
      refine lv_goto (tgt := 5) hx hb dJ7_fill_53178_17 (by decide) ?_
      exact ih v4 _ _ _ _ h hP hS (lv_sub hl [1, 2, 0, 3] rfl)
set_option maxRecDepth 100000 in
set_option maxHeartbeats 4000000 in
theorem w_J7_fill_53178 {p : Program} {l : Launch} {e : Env} {s : State} {m : MethodId} {args : Array Value} {below : List Frame} {meth : Method} {c : Code} {D : va_G} {cI cG cZ cJ : ClassId} {ts : Nat × Nat} {L : List Nat} {ad : Nat → Nat} {al : Nat} {k0 : Nat} (hL : Lg L al) (hka0 : isA k0) (hm0 : k0 ∈ L) (X : FX RJ7 wsJ7_fill_53178 cJ7_fill_53178 4 none D cI cG cZ cJ ts L ad p s m args meth c) (a1 : Int32) (Q : St → Prop) (u : St) (H : Heap) (locs : List Loc) (ls : Array Slot) (h : f_J7_fill_53178 k0 a1 u Q) (hP : va_P D vwCl (cW cI cG L ad al u) H) (hS : va_S (cA L ad s.heap.size) s.heap H locs) (hl : lv_has ls 4 [(0, .ref (ad k0)), (1, .int a1)]) : W p l e (headSpec wsJ7_fill_53178 { frames := 0, cells := 0, slots := 0, locals := 0 }).room s m args below meth c H locs 0 0 (MQ below (va_Qv Q (fun u9 t => va_P D vwCl (cW cI cG L ad al u9) t.heap) (cA L ad s.heap.size)) args s 0 0 (cA L ad s.heap.size)) (F0 m 0 ls []) := by
  obtain ⟨hx, hb, hml, hown, hts, hr, hlocks, hwd, hC⟩ := id X
  have hK := hC.1
  obtain ⟨ik0, hik0⟩ := wL_ix hm0
  unfold f_J7_fill_53178 at h
  refine lv_iconst (v := 0) hx hb dJ7_fill_53178_0 (by decide) ?_
  refine lv_istore_n (lv' := [(2, .int 0), (0, .ref (ad k0)), (1, .int a1)]) hx hb dJ7_fill_53178_1 rfl hl (by decide) rfl (fun ls hl => ?_)
  refine lv_aload_n hx hb dJ7_fill_53178_2 rfl (lv_at hl 1 rfl) ?_
  refine va_alen (v := (nI (lenC k0))) hx hb hK hP ik0 0 (cg_a hka0 hik0) rfl rfl dJ7_fill_53178_3 ?_
  refine lv_topi (fun v1 ev1 => ?_)
  replace h := h v1 ev1
  refine lv_istore_n (lv' := [(3, .int v1), (2, .int 0), (0, .ref (ad k0)), (1, .int a1)]) hx hb dJ7_fill_53178_4 rfl hl (by decide) rfl (fun ls hl => ?_)
  obtain ⟨n5, h⟩ := h
  refine w_J7_fill_53178_L5 hL hka0 hm0 X a1 v1 _ _ (fun u6 H locs ls h hP hS hl => ?_) n5 0 _ _ _ _ h hP hS (lv_sub hl [2, 3, 1, 0] rfl)
  exact W.vret hx hb hr (fun t ht hW => ⟨⟨_, rfl, h, by show va_P _ _ _ t.heap; rw [ht]; exact hP⟩, hS.F ht⟩) hS.2.2 dJ7_fill_53178_20
set_option maxRecDepth 100000 in
set_option maxHeartbeats 4000000 in
theorem c_J7_fill_53178 {l : Launch} {D : va_G} {cI cG cZ cJ : ClassId} {ts : Nat × Nat} {L : List Nat} {ad : Nat → Nat} {al : Nat} {k0 : Nat} (hL : Lg L al) (hka0 : isA k0) (hm0 : k0 ∈ L) (hwd : WD L ad) (sz : Nat) (u : St) (a1 : Int32) (Q : St → Prop) (h : f_J7_fill_53178 k0 a1 u Q) : Met l yJ7_fill_53178 wsJ7_fill_53178 ({ frames := 0, cells := 0, slots := 0, locals := 0 }) (va_Pc [.ref (ad k0), .int a1] (PC D cI cG cZ cJ ts L ad al sz u)) (va_Qv Q (fun u9 t => va_P D vwCl (cW cI cG L ad al u9) t.heap) (cA L ad sz)) 0 0 (cA L ad sz) := by
  refine Met.ofW (cc := cJ7_fill_53178) (maxL := 4) (ret := none) (by decide) rfl ?_
  intro p e s m args below meth c s₁ B hml hv
  obtain ⟨rfl, hsz, hP, hC⟩ := hv
  subst hsz
  have X : FX RJ7 wsJ7_fill_53178 cJ7_fill_53178 4 none D cI cG cZ cJ ts L ad p s m _ meth c := ⟨B.exec, B.bytes, hml, findClass_of_methodNamed B.named, atoms_spec (ws := wsJ7_fill_53178) B.pre, B.returns, B.notSynchronized, hwd, hC⟩
  have hl := lv_entry ([.ref (ad k0), .int a1]) (n := 4) (Nat.le_of_ble_eq_true rfl)
  rw [lg_entry_eq]
  generalize (lg_sl ([.ref (ad k0), .int a1]) ++ List.replicate (4 - (lg_sl ([.ref (ad k0), .int a1])).length) Slot.unset).toArray = ls at hl ⊢
  exact w_J7_fill_53178 hL hka0 hm0 X a1 Q u _ _ _ h hP va_S.rf hl
set_option maxRecDepth 100000 in
set_option maxHeartbeats 4000000 in
theorem w_X2_table {p : Program} {l : Launch} {e : Env} {s : State} {m : MethodId} {args : Array Value} {below : List Frame} {meth : Method} {c : Code} {D : va_G} {cI cG cZ cJ : ClassId} {ts : Nat × Nat} {L : List Nat} {ad : Nat → Nat} {al : Nat} (hL : Lg L al) (X : FX RX2 wsX2_table cX2_table 5 (some .int) D cI cG cZ cJ ts L ad p s m args meth c) (a1 : Int32) (a2 : Int32) (a3 : Int32) (a4 : Int32) (Q : Int32 → St → Prop) (u : St) (H : Heap) (locs : List Loc) (ls : Array Slot) (h : f_X2_table al a1 a2 a3 a4 u Q) (hP : va_P D vwCl (cW cI cG L ad al u) H) (hS : va_S (cA L ad s.heap.size) s.heap H locs) (hl : lv_has ls 5 [(0, .ref (ad 1)), (1, .int a1), (2, .int a2), (3, .int a3), (4, .int a4)]) : W p l e (headSpec wsX2_table { frames := 0, cells := 0, slots := 0, locals := 0 }).room s m args below meth c H locs 0 0 (MQ below (va_Qi Q (fun u9 t => va_P D vwCl (cW cI cG L ad al u9) t.heap) (cA L ad s.heap.size)) args s 0 0 (cA L ad s.heap.size)) (F0 m 0 ls []) := by
  obtain ⟨hx, hb, hml, hown, hts, hr, hlocks, hwd, hC⟩ := id X
  have hK := hC.1
  have m1 : 1 ∈ L := hL.1
  obtain ⟨i1, hi1⟩ := wL_ix m1
  have lk0 := hts (.fieldLink RX2 9 "FormForge$Field" "p" "I") (by decide +kernel)
  have n2 : ∀ w ∈ wsX20, w ∈ wsX2_table := by decide +kernel
  unfold f_X2_table at h
  refine lv_iload_n hx hb dX2_table_0 rfl (lv_at hl 1 rfl) ?_
  refine lv_aload_n hx hb dX2_table_1 rfl (lv_at hl 0 rfl) ?_
  refine va_get (C := RX2) (T := TX2) (N := 1) hx hb hts n2 hown hK hP i1 (cg_1 hi1) rfl 0 (by decide) lk0 (fun _ h9 => h9) rfl dX2_table_2 ?_
  refine lv_iload_n hx hb dX2_table_5 rfl (lv_at hl 2 rfl) ?_
  refine lv_aload_n hx hb dX2_table_6 rfl (lv_at hl 0 rfl) ?_
  refine va_get (C := RX2) (T := TX2) (N := 1) hx hb hts n2 hown hK hP i1 (cg_1 hi1) rfl 0 (by decide) lk0 (fun _ h9 => h9) rfl dX2_table_7 ?_
  refine lv_iload_n hx hb dX2_table_10 rfl (lv_at hl 3 rfl) ?_
  refine lv_aload_n hx hb dX2_table_11 rfl (lv_at hl 0 rfl) ?_
  refine va_get (C := RX2) (T := TX2) (N := 1) hx hb hts n2 hown hK hP i1 (cg_1 hi1) rfl 0 (by decide) lk0 (fun _ h9 => h9) rfl dX2_table_12 ?_
  refine lv_iload hx hb dX2_table_15 (lv_at hl 4 rfl) ?_
  refine lv_imul hx hb dX2_table_17 ?_
  refine lv_iadd hx hb dX2_table_18 ?_
  refine lv_imul hx hb dX2_table_19 ?_
  refine lv_iadd hx hb dX2_table_20 ?_
  refine lv_imul hx hb dX2_table_21 ?_
  refine lv_iadd hx hb dX2_table_22 ?_
  exact W.iret (v := (a1 + ((u 0 0) * (a2 + ((u 0 0) * (a3 + ((u 0 0) * a4))))))) hx hb hr (fun t ht hW => ⟨⟨_, _, rfl, h, by show va_P _ _ _ t.heap; rw [ht]; exact hP⟩, hS.F ht⟩) hS.2.2 dX2_table_23
set_option maxRecDepth 100000 in
set_option maxHeartbeats 4000000 in
theorem c_X2_table {l : Launch} {D : va_G} {cI cG cZ cJ : ClassId} {ts : Nat × Nat} {L : List Nat} {ad : Nat → Nat} {al : Nat} (hL : Lg L al) (hwd : WD L ad) (sz : Nat) (u : St) (a1 : Int32) (a2 : Int32) (a3 : Int32) (a4 : Int32) (Q : Int32 → St → Prop) (h : f_X2_table al a1 a2 a3 a4 u Q) : Met l yX2_table wsX2_table ({ frames := 0, cells := 0, slots := 0, locals := 0 }) (va_Pc [.ref (ad 1), .int a1, .int a2, .int a3, .int a4] (PC D cI cG cZ cJ ts L ad al sz u)) (va_Qi Q (fun u9 t => va_P D vwCl (cW cI cG L ad al u9) t.heap) (cA L ad sz)) 0 0 (cA L ad sz) := by
  refine Met.ofW (cc := cX2_table) (maxL := 5) (ret := (some .int)) (by decide) rfl ?_
  intro p e s m args below meth c s₁ B hml hv
  obtain ⟨rfl, hsz, hP, hC⟩ := hv
  subst hsz
  have X : FX RX2 wsX2_table cX2_table 5 (some .int) D cI cG cZ cJ ts L ad p s m _ meth c := ⟨B.exec, B.bytes, hml, findClass_of_methodNamed B.named, atoms_spec (ws := wsX2_table) B.pre, B.returns, B.notSynchronized, hwd, hC⟩
  have hl := lv_entry ([.ref (ad 1), .int a1, .int a2, .int a3, .int a4]) (n := 5) (Nat.le_of_ble_eq_true rfl)
  rw [lg_entry_eq]
  generalize (lg_sl ([.ref (ad 1), .int a1, .int a2, .int a3, .int a4]) ++ List.replicate (5 - (lg_sl ([.ref (ad 1), .int a1, .int a2, .int a3, .int a4])).length) Slot.unset).toArray = ls at hl ⊢
  exact w_X2_table hL X a1 a2 a3 a4 Q u _ _ _ h hP va_S.rf hl
set_option maxRecDepth 100000 in
set_option maxHeartbeats 4000000 in
theorem w_X6_read {p : Program} {l : Launch} {e : Env} {s : State} {m : MethodId} {args : Array Value} {below : List Frame} {meth : Method} {c : Code} {D : va_G} {cI cG cZ cJ : ClassId} {ts : Nat × Nat} {L : List Nat} {ad : Nat → Nat} {al : Nat} {k0 : Nat} (hL : Lg L al) (hka0 : isA k0) (hm0 : k0 ∈ L) (X : FX RX6 wsX6_read cX6_read 2 (some .int) D cI cG cZ cJ ts L ad p s m args meth c) (a1 : Int32) (Q : Int32 → St → Prop) (u : St) (H : Heap) (locs : List Loc) (ls : Array Slot) (h : f_X6_read al k0 a1 u Q) (hP : va_P D vwCl (cW cI cG L ad al u) H) (hS : va_S (cA L ad s.heap.size) s.heap H locs) (hl : lv_has ls 2 [(0, .ref (ad k0)), (1, .int a1)]) : W p l e (headSpec wsX6_read { frames := 0, cells := 0, slots := 0, locals := 0 }).room s m args below meth c H locs 0 0 (MQ below (va_Qi Q (fun u9 t => va_P D vwCl (cW cI cG L ad al u9) t.heap) (cA L ad s.heap.size)) args s 0 0 (cA L ad s.heap.size)) (F0 m 0 ls []) := by
  obtain ⟨hx, hb, hml, hown, hts, hr, hlocks, hwd, hC⟩ := id X
  have hK := hC.1
  obtain ⟨ik0, hik0⟩ := wL_ix hm0
  unfold f_X6_read at h
  refine lv_aload_n hx hb dX6_read_0 rfl (lv_at hl 0 rfl) ?_
  refine lv_ifnull hx hb dX6_read_1 ?_
  refine lv_iload_n hx hb dX6_read_4 rfl (lv_at hl 1 rfl) ?_
  refine lv_if_lt (tgt := 20) hx hb dX6_read_5 (by decide) (fun c1 => ?_) (fun c1 => ?_)
  · replace h := h.1 c1
    refine lv_iconst (v := 0) hx hb dX6_read_20 (by decide) ?_
    exact W.iret (v := 0) hx hb hr (fun t ht hW => ⟨⟨_, _, rfl, h, by show va_P _ _ _ t.heap; rw [ht]; exact hP⟩, hS.F ht⟩) hS.2.2 dX6_read_21
  · replace h := h.2 c1
    refine lv_iload_n hx hb dX6_read_8 rfl (lv_at hl 1 rfl) ?_
    refine lv_aload_n hx hb dX6_read_9 rfl (lv_at hl 0 rfl) ?_
    refine va_alen (v := (nI (lenC k0))) hx hb hK hP ik0 0 (cg_a hka0 hik0) rfl rfl dX6_read_10 ?_
    refine lv_icmp_ge (tgt := 20) hx hb dX6_read_11 (by decide) (fun c2 => ?_) (fun c2 => ?_)
    · replace h := h.1 c2
      refine lv_iconst (v := 0) hx hb dX6_read_20 (by decide) ?_
      exact W.iret (v := 0) hx hb hr (fun t ht hW => ⟨⟨_, _, rfl, h, by show va_P _ _ _ t.heap; rw [ht]; exact hP⟩, hS.F ht⟩) hS.2.2 dX6_read_21
    · replace h := h.2 c2
      refine lv_aload_n hx hb dX6_read_14 rfl (lv_at hl 0 rfl) ?_
      refine lv_iload_n hx hb dX6_read_15 rfl (lv_at hl 1 rfl) ?_
      refine va_iald hx hb hK hP ik0 0 (cg_a hka0 hik0) rfl h.1 dX6_read_16 ?_
      refine lv_topi (fun v3 ev3 => ?_)
      replace h := h.2 v3 ev3
      refine lv_goto (tgt := 21) hx hb dX6_read_17 (by decide) ?_
      exact W.iret (v := v3) hx hb hr (fun t ht hW => ⟨⟨_, _, rfl, h, by show va_P _ _ _ t.heap; rw [ht]; exact hP⟩, hS.F ht⟩) hS.2.2 dX6_read_21
set_option maxRecDepth 100000 in
set_option maxHeartbeats 4000000 in
theorem c_X6_read {l : Launch} {D : va_G} {cI cG cZ cJ : ClassId} {ts : Nat × Nat} {L : List Nat} {ad : Nat → Nat} {al : Nat} {k0 : Nat} (hL : Lg L al) (hka0 : isA k0) (hm0 : k0 ∈ L) (hwd : WD L ad) (sz : Nat) (u : St) (a1 : Int32) (Q : Int32 → St → Prop) (h : f_X6_read al k0 a1 u Q) : Met l yX6_read wsX6_read ({ frames := 0, cells := 0, slots := 0, locals := 0 }) (va_Pc [.ref (ad k0), .int a1] (PC D cI cG cZ cJ ts L ad al sz u)) (va_Qi Q (fun u9 t => va_P D vwCl (cW cI cG L ad al u9) t.heap) (cA L ad sz)) 0 0 (cA L ad sz) := by
  refine Met.ofW (cc := cX6_read) (maxL := 2) (ret := (some .int)) (by decide) rfl ?_
  intro p e s m args below meth c s₁ B hml hv
  obtain ⟨rfl, hsz, hP, hC⟩ := hv
  subst hsz
  have X : FX RX6 wsX6_read cX6_read 2 (some .int) D cI cG cZ cJ ts L ad p s m _ meth c := ⟨B.exec, B.bytes, hml, findClass_of_methodNamed B.named, atoms_spec (ws := wsX6_read) B.pre, B.returns, B.notSynchronized, hwd, hC⟩
  have hl := lv_entry ([.ref (ad k0), .int a1]) (n := 2) (Nat.le_of_ble_eq_true rfl)
  rw [lg_entry_eq]
  generalize (lg_sl ([.ref (ad k0), .int a1]) ++ List.replicate (2 - (lg_sl ([.ref (ad k0), .int a1])).length) Slot.unset).toArray = ls at hl ⊢
  exact w_X6_read hL hka0 hm0 X a1 Q u _ _ _ h hP va_S.rf hl
set_option maxRecDepth 100000 in
set_option maxHeartbeats 4000000 in
theorem c_X6_readS {l : Launch} {D : va_G} {cI cG cZ cJ : ClassId} {ts : Nat × Nat} {L : List Nat} {ad : Nat → Nat} {al : Nat} (hL : Lg L al) (hwd : WD L ad) (sz : Nat) (u : St) (a1 : Int32) (Q : Int32 → St → Prop) (h : f_X6_readS al a1 u Q) : Met l yX6_read wsX6_read ({ frames := 0, cells := 0, slots := 0, locals := 0 }) (va_Pc [.ref ts.1, .int a1] (PC D cI cG cZ cJ ts L ad al sz u)) (va_Qi Q (fun u9 t => va_P D vwCl (cW cI cG L ad al u9) t.heap) (cA L ad sz)) 0 0 (cA L ad sz) := by
  refine Met.ofW (cc := cX6_read) (maxL := 2) (ret := (some .int)) (by decide) rfl ?_
  intro p e s m args below meth c s₁ B hml hv
  obtain ⟨rfl, hsz, hP, hC⟩ := hv
  subst hsz
  have X : FX RX6 wsX6_read cX6_read 2 (some .int) D cI cG cZ cJ ts L ad p s m _ meth c := ⟨B.exec, B.bytes, hml, findClass_of_methodNamed B.named, atoms_spec (ws := wsX6_read) B.pre, B.returns, B.notSynchronized, hwd, hC⟩
  have hl := lv_entry ([.ref ts.1, .int a1]) (n := 2) (Nat.le_of_ble_eq_true rfl)
  rw [lg_entry_eq]
  generalize (lg_sl ([.ref ts.1, .int a1]) ++ List.replicate (2 - (lg_sl ([.ref ts.1, .int a1])).length) Slot.unset).toArray = ls at hl ⊢
  obtain ⟨hx, hb, hml, hown, hts, hr, hlocks, -, -⟩ := id X
  have hT := hC.2.2.2.2.2.2.1
  have hS : va_S (cA L ad s.heap.size) s.heap s.heap [] := va_S.rf
  unfold f_X6_readS at h
  refine lv_aload_n hx hb dX6_read_0 rfl (lv_at hl 0 rfl) ?_
  refine lv_ifnull hx hb dX6_read_1 ?_
  refine lv_iload_n hx hb dX6_read_4 rfl (lv_at hl 1 rfl) ?_
  refine lv_if_lt (tgt := 20) hx hb dX6_read_5 (by decide) (fun c1 => ?_) (fun c1 => ?_)
  · refine lv_iconst (v := 0) hx hb dX6_read_20 (by decide) ?_
    exact W.iret (v := 0) hx hb hr (fun t ht hW => ⟨⟨_, _, rfl, h.1 c1, by show va_P _ _ _ t.heap; rw [ht]; exact hP⟩, hS.F ht⟩) hS.2.2 dX6_read_21
  · replace h := h.2 c1
    refine lv_iload_n hx hb dX6_read_8 rfl (lv_at hl 1 rfl) ?_
    refine lv_aload_n hx hb dX6_read_9 rfl (lv_at hl 0 rfl) ?_
    refine va_tlen (v := 5) hx hb hT hS rfl dX6_read_10 ?_
    refine lv_icmp_ge (tgt := 20) hx hb dX6_read_11 (by decide) (fun c2 => ?_) (fun c2 => ?_)
    · refine lv_iconst (v := 0) hx hb dX6_read_20 (by decide) ?_
      exact W.iret (v := 0) hx hb hr (fun t ht hW => ⟨⟨_, _, rfl, h.1 c2, by show va_P _ _ _ t.heap; rw [ht]; exact hP⟩, hS.F ht⟩) hS.2.2 dX6_read_21
    · replace h := h.2 c2
      refine lv_aload_n hx hb dX6_read_14 rfl (lv_at hl 0 rfl) ?_
      refine lv_iload_n hx hb dX6_read_15 rfl (lv_at hl 1 rfl) ?_
      refine va_ti hx hb hT hS h.1 rfl dX6_read_16 ?_
      refine lv_goto (tgt := 21) hx hb dX6_read_17 (by decide) ?_
      exact W.iret hx hb hr (fun t ht hW => ⟨⟨_, _, rfl, h.2 _ rfl, by show va_P _ _ _ t.heap; rw [ht]; exact hP⟩, hS.F ht⟩) hS.2.2 dX6_read_21
set_option maxRecDepth 100000 in
set_option maxHeartbeats 4000000 in
theorem c_X6_readC {l : Launch} {D : va_G} {cI cG cZ cJ : ClassId} {ts : Nat × Nat} {L : List Nat} {ad : Nat → Nat} {al : Nat} (hL : Lg L al) (hwd : WD L ad) (sz : Nat) (u : St) (a1 : Int32) (Q : Int32 → St → Prop) (h : f_X6_readC al a1 u Q) : Met l yX6_read wsX6_read ({ frames := 0, cells := 0, slots := 0, locals := 0 }) (va_Pc [.ref ts.2, .int a1] (PC D cI cG cZ cJ ts L ad al sz u)) (va_Qi Q (fun u9 t => va_P D vwCl (cW cI cG L ad al u9) t.heap) (cA L ad sz)) 0 0 (cA L ad sz) := by
  refine Met.ofW (cc := cX6_read) (maxL := 2) (ret := (some .int)) (by decide) rfl ?_
  intro p e s m args below meth c s₁ B hml hv
  obtain ⟨rfl, hsz, hP, hC⟩ := hv
  subst hsz
  have X : FX RX6 wsX6_read cX6_read 2 (some .int) D cI cG cZ cJ ts L ad p s m _ meth c := ⟨B.exec, B.bytes, hml, findClass_of_methodNamed B.named, atoms_spec (ws := wsX6_read) B.pre, B.returns, B.notSynchronized, hwd, hC⟩
  have hl := lv_entry ([.ref ts.2, .int a1]) (n := 2) (Nat.le_of_ble_eq_true rfl)
  rw [lg_entry_eq]
  generalize (lg_sl ([.ref ts.2, .int a1]) ++ List.replicate (2 - (lg_sl ([.ref ts.2, .int a1])).length) Slot.unset).toArray = ls at hl ⊢
  obtain ⟨hx, hb, hml, hown, hts, hr, hlocks, -, -⟩ := id X
  have hT := hC.2.2.2.2.2.2.2.2
  have hS : va_S (cA L ad s.heap.size) s.heap s.heap [] := va_S.rf
  unfold f_X6_readC at h
  refine lv_aload_n hx hb dX6_read_0 rfl (lv_at hl 0 rfl) ?_
  refine lv_ifnull hx hb dX6_read_1 ?_
  refine lv_iload_n hx hb dX6_read_4 rfl (lv_at hl 1 rfl) ?_
  refine lv_if_lt (tgt := 20) hx hb dX6_read_5 (by decide) (fun c1 => ?_) (fun c1 => ?_)
  · refine lv_iconst (v := 0) hx hb dX6_read_20 (by decide) ?_
    exact W.iret (v := 0) hx hb hr (fun t ht hW => ⟨⟨_, _, rfl, h.1 c1, by show va_P _ _ _ t.heap; rw [ht]; exact hP⟩, hS.F ht⟩) hS.2.2 dX6_read_21
  · replace h := h.2 c1
    refine lv_iload_n hx hb dX6_read_8 rfl (lv_at hl 1 rfl) ?_
    refine lv_aload_n hx hb dX6_read_9 rfl (lv_at hl 0 rfl) ?_
    refine va_tlen (v := 16) hx hb hT hS rfl dX6_read_10 ?_
    refine lv_icmp_ge (tgt := 20) hx hb dX6_read_11 (by decide) (fun c2 => ?_) (fun c2 => ?_)
    · refine lv_iconst (v := 0) hx hb dX6_read_20 (by decide) ?_
      exact W.iret (v := 0) hx hb hr (fun t ht hW => ⟨⟨_, _, rfl, h.1 c2, by show va_P _ _ _ t.heap; rw [ht]; exact hP⟩, hS.F ht⟩) hS.2.2 dX6_read_21
    · replace h := h.2 c2
      refine lv_aload_n hx hb dX6_read_14 rfl (lv_at hl 0 rfl) ?_
      refine lv_iload_n hx hb dX6_read_15 rfl (lv_at hl 1 rfl) ?_
      refine va_ti hx hb hT hS h.1 rfl dX6_read_16 ?_
      refine lv_goto (tgt := 21) hx hb dX6_read_17 (by decide) ?_
      exact W.iret hx hb hr (fun t ht hW => ⟨⟨_, _, rfl, h.2 _ rfl, by show va_P _ _ _ t.heap; rw [ht]; exact hP⟩, hS.F ht⟩) hS.2.2 dX6_read_21
set_option maxRecDepth 100000 in
set_option maxHeartbeats 4000000 in
theorem w_X6_write {p : Program} {l : Launch} {e : Env} {s : State} {m : MethodId} {args : Array Value} {below : List Frame} {meth : Method} {c : Code} {D : va_G} {cI cG cZ cJ : ClassId} {ts : Nat × Nat} {L : List Nat} {ad : Nat → Nat} {al : Nat} {k0 : Nat} (hL : Lg L al) (hka0 : isA k0) (hm0 : k0 ∈ L) (X : FX RX6 wsX6_write cX6_write 3 none D cI cG cZ cJ ts L ad p s m args meth c) (a1 : Int32) (a2 : Int32) (Q : St → Prop) (u : St) (H : Heap) (locs : List Loc) (ls : Array Slot) (h : f_X6_write al k0 a1 a2 u Q) (hP : va_P D vwCl (cW cI cG L ad al u) H) (hS : va_S (cA L ad s.heap.size) s.heap H locs) (hl : lv_has ls 3 [(0, .ref (ad k0)), (1, .int a1), (2, .int a2)]) : W p l e (headSpec wsX6_write { frames := 0, cells := 0, slots := 0, locals := 0 }).room s m args below meth c H locs 0 0 (MQ below (va_Qv Q (fun u9 t => va_P D vwCl (cW cI cG L ad al u9) t.heap) (cA L ad s.heap.size)) args s 0 0 (cA L ad s.heap.size)) (F0 m 0 ls []) := by
  obtain ⟨hx, hb, hml, hown, hts, hr, hlocks, hwd, hC⟩ := id X
  have hK := hC.1
  obtain ⟨ik0, hik0⟩ := wL_ix hm0
  unfold f_X6_write at h
  refine lv_aload_n hx hb dX6_write_0 rfl (lv_at hl 0 rfl) ?_
  refine lv_ifnull hx hb dX6_write_1 ?_
  refine lv_iload_n hx hb dX6_write_4 rfl (lv_at hl 1 rfl) ?_
  refine lv_if_lt (tgt := 18) hx hb dX6_write_5 (by decide) (fun c1 => ?_) (fun c1 => ?_)
  · replace h := h.1 c1
    exact W.vret hx hb hr (fun t ht hW => ⟨⟨_, rfl, h, by show va_P _ _ _ t.heap; rw [ht]; exact hP⟩, hS.F ht⟩) hS.2.2 dX6_write_18
  · replace h := h.2 c1
    refine lv_iload_n hx hb dX6_write_8 rfl (lv_at hl 1 rfl) ?_
    refine lv_aload_n hx hb dX6_write_9 rfl (lv_at hl 0 rfl) ?_
    refine va_alen (v := (nI (lenC k0))) hx hb hK hP ik0 0 (cg_a hka0 hik0) rfl rfl dX6_write_10 ?_
    refine lv_icmp_ge (tgt := 18) hx hb dX6_write_11 (by decide) (fun c2 => ?_) (fun c2 => ?_)
    · replace h := h.1 c2
      exact W.vret hx hb hr (fun t ht hW => ⟨⟨_, rfl, h, by show va_P _ _ _ t.heap; rw [ht]; exact hP⟩, hS.F ht⟩) hS.2.2 dX6_write_18
    · replace h := h.2 c2
      refine lv_aload_n hx hb dX6_write_14 rfl (lv_at hl 0 rfl) ?_
      refine lv_iload_n hx hb dX6_write_15 rfl (lv_at hl 1 rfl) ?_
      refine lv_iload_n hx hb dX6_write_16 rfl (lv_at hl 2 rfl) ?_
      refine va_iast hx hb hK hP (cD hwd) hS ik0 0 (cg_a hka0 hik0) rfl h.1 dX6_write_17 (fun H locs hP _ hS => ?_)
      replace hP := cu_a hwd hka0 hik0 hP
      obtain ⟨u3, eu3⟩ : ∃ y : St, y = su u k0 a1.toNatClampNeg a2 := ⟨_, rfl⟩
      rw [← eu3] at hP
      replace h := h.2 u3 eu3
      exact W.vret hx hb hr (fun t ht hW => ⟨⟨_, rfl, h, by show va_P _ _ _ t.heap; rw [ht]; exact hP⟩, hS.F ht⟩) hS.2.2 dX6_write_18
set_option maxRecDepth 100000 in
set_option maxHeartbeats 4000000 in
theorem c_X6_write {l : Launch} {D : va_G} {cI cG cZ cJ : ClassId} {ts : Nat × Nat} {L : List Nat} {ad : Nat → Nat} {al : Nat} {k0 : Nat} (hL : Lg L al) (hka0 : isA k0) (hm0 : k0 ∈ L) (hwd : WD L ad) (sz : Nat) (u : St) (a1 : Int32) (a2 : Int32) (Q : St → Prop) (h : f_X6_write al k0 a1 a2 u Q) : Met l yX6_write wsX6_write ({ frames := 0, cells := 0, slots := 0, locals := 0 }) (va_Pc [.ref (ad k0), .int a1, .int a2] (PC D cI cG cZ cJ ts L ad al sz u)) (va_Qv Q (fun u9 t => va_P D vwCl (cW cI cG L ad al u9) t.heap) (cA L ad sz)) 0 0 (cA L ad sz) := by
  refine Met.ofW (cc := cX6_write) (maxL := 3) (ret := none) (by decide) rfl ?_
  intro p e s m args below meth c s₁ B hml hv
  obtain ⟨rfl, hsz, hP, hC⟩ := hv
  subst hsz
  have X : FX RX6 wsX6_write cX6_write 3 none D cI cG cZ cJ ts L ad p s m _ meth c := ⟨B.exec, B.bytes, hml, findClass_of_methodNamed B.named, atoms_spec (ws := wsX6_write) B.pre, B.returns, B.notSynchronized, hwd, hC⟩
  have hl := lv_entry ([.ref (ad k0), .int a1, .int a2]) (n := 3) (Nat.le_of_ble_eq_true rfl)
  rw [lg_entry_eq]
  generalize (lg_sl ([.ref (ad k0), .int a1, .int a2]) ++ List.replicate (3 - (lg_sl ([.ref (ad k0), .int a1, .int a2])).length) Slot.unset).toArray = ls at hl ⊢
  exact w_X6_write hL hka0 hm0 X a1 a2 Q u _ _ _ h hP va_S.rf hl
set_option maxRecDepth 100000 in
set_option maxHeartbeats 4000000 in
theorem w_X4_find {p : Program} {l : Launch} {e : Env} {s : State} {m : MethodId} {args : Array Value} {below : List Frame} {meth : Method} {c : Code} {D : va_G} {cI cG cZ cJ : ClassId} {ts : Nat × Nat} {L : List Nat} {ad : Nat → Nat} {al : Nat} (hL : Lg L al) (X : FX RX4 wsX4_find cX4_find 2 none D cI cG cZ cJ ts L ad p s m args meth c) (a1 : Int32) (Q : St → Prop) (u : St) (H : Heap) (locs : List Loc) (ls : Array Slot) (h : f_X4_find al a1 u Q) (hP : va_P D vwCl (cW cI cG L ad al u) H) (hS : va_S (cA L ad s.heap.size) s.heap H locs) (hl : lv_has ls 2 [(0, .ref (ad 4)), (1, .int a1)]) : W p l e (headSpec wsX4_find { frames := 1, cells := 0, slots := 0, locals := 22 }).room s m args below meth c H locs 0 0 (MQ below (va_Qv Q (fun u9 t => va_P D vwCl (cW cI cG L ad al u9) t.heap) (cA L ad s.heap.size)) args s 0 0 (cA L ad s.heap.size)) (F0 m 0 ls []) := by
  obtain ⟨hx, hb, hml, hown, hts, hr, hlocks, hwd, hC⟩ := id X
  have hK := hC.1
  have m4 : 4 ∈ L := hL.2.1
  obtain ⟨i4, hi4⟩ := wL_ix m4
  have m15 : 15 ∈ L := hL.2.2.2.1
  obtain ⟨i15, hi15⟩ := wL_ix m15
  have m16 : 16 ∈ L := hL.2.2.2.2.1
  obtain ⟨i16, hi16⟩ := wL_ix m16
  have lk0 := hts (.fieldLink RX4 21 "FormForge$Group" "found" "[I") (by decide +kernel)
  have lk1 := hts (.initialized RX6) (by decide +kernel)
  have lk2 := hts (.static yX6_read) (by decide +kernel)
  have lk3 := hts (.fieldLink RX4 52 "FormForge$Group" "size" "I") (by decide +kernel)
  have lk4 := hts (.fieldLink RX4 17 "FormForge$Group" "matrices" "[I") (by decide +kernel)
  have lk5 := hts (.static yX6_write) (by decide +kernel)
  have n4 : ∀ w ∈ wsX40, w ∈ wsX4_find := by decide +kernel
  have hN0 := hC.2.1 _ (List.mem_of_getElem? (i := 0) rfl)
  have hN1 := hC.2.1 _ (List.mem_of_getElem? (i := 1) rfl)
  unfold f_X4_find at h
  refine lv_aload_n hx hb dX4_find_0 rfl (lv_at hl 0 rfl) ?_
  refine va_get (C := RX4) (T := TX4) (N := 6) hx hb hts n4 hown hK hP i4 (cg_4 hi4) rfl 3 (by decide) lk0 (fun _ h9 => h9) rfl dX4_find_1 ?_
  refine lv_iload_n hx hb dX4_find_4 rfl (lv_at hl 1 rfl) ?_
  refine cc_i (va_runSN (As := [.ref (ad 16), .int a1]) (rest := []) ⟨hx, hb, hml, hown, hts⟩ (c_X6_read hL (Or.inl ⟨by decide, by decide⟩) m16 hwd H.size u a1 _ h) ⟨va_cnB (host := RX6) 2 hts gX4_find_X6_read_n70 rfl rfl rfl hN0 lk1 (by decide +kernel) ⟨Nat.le_of_ble_eq_true rfl, Nat.le_of_ble_eq_true rfl⟩, lk2, trivial⟩ (pcS hC hP hS) rfl rfl hl.1 rfl (lv_room (Nat.le_of_ble_eq_true rfl)) dX4_find_5 ⟨Nat.zero_le _, Nat.zero_le _⟩) hS (cA_mono hS.1) (fun v1 u2 H locs h hP hS => ?_)
  refine lv_if_ne (tgt := 54) hx hb dX4_find_8 (by decide) (fun c3 => ?_) (fun c3 => ?_)
  · replace h := h.1 c3
    exact W.vret hx hb hr (fun t ht hW => ⟨⟨_, rfl, h, by show va_P _ _ _ t.heap; rw [ht]; exact hP⟩, hS.F ht⟩) hS.2.2 dX4_find_54
  · replace h := h.2 c3
    refine lv_aload_n hx hb dX4_find_11 rfl (lv_at hl 0 rfl) ?_
    refine va_get (C := RX4) (T := TX4) (N := 6) hx hb hts n4 hown hK hP i4 (cg_4 hi4) rfl 5 (by decide) lk3 (fun _ h9 => h9) rfl dX4_find_12 ?_
    refine lv_aload_n hx hb dX4_find_15 rfl (lv_at hl 0 rfl) ?_
    refine va_get (C := RX4) (T := TX4) (N := 6) hx hb hts n4 hown hK hP i4 (cg_4 hi4) rfl 2 (by decide) lk4 (fun _ h9 => h9) rfl dX4_find_16 ?_
    refine va_alen (v := 480) hx hb hK hP i15 0 (cg_a (Or.inl ⟨by decide, by decide⟩) hi15) rfl rfl dX4_find_19 ?_
    refine lv_icmp_ge (tgt := 54) hx hb dX4_find_20 (by decide) (fun c4 => ?_) (fun c4 => ?_)
    · replace h := h.1 c4
      exact W.vret hx hb hr (fun t ht hW => ⟨⟨_, rfl, h, by show va_P _ _ _ t.heap; rw [ht]; exact hP⟩, hS.F ht⟩) hS.2.2 dX4_find_54
    · replace h := h.2 c4
      refine lv_aload_n hx hb dX4_find_23 rfl (lv_at hl 0 rfl) ?_
      refine va_get (C := RX4) (T := TX4) (N := 6) hx hb hts n4 hown hK hP i4 (cg_4 hi4) rfl 3 (by decide) lk0 (fun _ h9 => h9) rfl dX4_find_24 ?_
      refine lv_iload_n hx hb dX4_find_27 rfl (lv_at hl 1 rfl) ?_
      refine lv_iconst (v := 1) hx hb dX4_find_28 (by decide) ?_
      refine cc_v (va_runSN (As := [.ref (ad 16), .int a1, .int 1]) (rest := []) ⟨hx, hb, hml, hown, hts⟩ (c_X6_write hL (Or.inl ⟨by decide, by decide⟩) m16 hwd H.size u2 a1 1 _ h) ⟨va_cnB (host := RX6) 3 hts gX4_find_X6_write_n74 rfl rfl rfl hN1 lk1 (by decide +kernel) ⟨Nat.le_of_ble_eq_true rfl, Nat.le_of_ble_eq_true rfl⟩, lk5, trivial⟩ (pcS hC hP hS) rfl rfl hl.1 rfl (lv_room (Nat.le_of_ble_eq_true rfl)) dX4_find_29 ⟨Nat.zero_le _, Nat.zero_le _⟩) hS (cA_mono hS.1) (fun u5 H locs h hP hS => ?_)
      refine lv_aload_n hx hb dX4_find_32 rfl (lv_at hl 0 rfl) ?_
      refine va_get (C := RX4) (T := TX4) (N := 6) hx hb hts n4 hown hK hP i4 (cg_4 hi4) rfl 2 (by decide) lk4 (fun _ h9 => h9) rfl dX4_find_33 ?_
      refine lv_aload_n hx hb dX4_find_36 rfl (lv_at hl 0 rfl) ?_
      refine va_get (C := RX4) (T := TX4) (N := 6) hx hb hts n4 hown hK hP i4 (cg_4 hi4) rfl 5 (by decide) lk3 (fun _ h9 => h9) rfl dX4_find_37 ?_
      refine lv_iload_n hx hb dX4_find_40 rfl (lv_at hl 1 rfl) ?_
      refine cc_v (va_runSN (As := [.ref (ad 15), .int (u5 0 5), .int a1]) (rest := []) ⟨hx, hb, hml, hown, hts⟩ (c_X6_write hL (Or.inl ⟨by decide, by decide⟩) m15 hwd H.size u5 (u5 0 5) a1 _ h) ⟨va_cnB (host := RX6) 3 hts gX4_find_X6_write_n74 rfl rfl rfl hN1 lk1 (by decide +kernel) ⟨Nat.le_of_ble_eq_true rfl, Nat.le_of_ble_eq_true rfl⟩, lk5, trivial⟩ (pcS hC hP hS) rfl rfl hl.1 rfl (lv_room (Nat.le_of_ble_eq_true rfl)) dX4_find_41 ⟨Nat.zero_le _, Nat.zero_le _⟩) hS (cA_mono hS.1) (fun u6 H locs h hP hS => ?_)
      refine lv_aload_n hx hb dX4_find_44 rfl (lv_at hl 0 rfl) ?_
      refine lv_dup hx hb dX4_find_45 rfl ?_
      refine va_get (C := RX4) (T := TX4) (N := 6) hx hb hts n4 hown hK hP i4 (cg_4 hi4) rfl 5 (by decide) lk3 (fun _ h9 => h9) rfl dX4_find_46 ?_
      refine lv_iconst (v := 1) hx hb dX4_find_49 (by decide) ?_
      refine lv_iadd hx hb dX4_find_50 ?_
      refine va_put (C := RX4) (T := TX4) (N := 6) (ty := .int) (v := .int ((u6 0 5) + 1)) hx hb hts n4 tyX4 tyX4_ok nmX4 hown hK hP (cD hwd) hS i4 (cg_4 hi4) rfl 5 (by decide) lk3 (fun _ h9 => h9) rfl (by decide +kernel) rfl rfl (Nat.le_of_ble_eq_true rfl) dX4_find_51 (fun H locs hP _ hS => ?_)
      replace hP := cu_gsize hwd hi4 hP
      obtain ⟨u7, eu7⟩ : ∃ y : St, y = su u6 0 5 ((u6 0 5) + 1) := ⟨_, rfl⟩
      rw [← eu7] at hP
      replace h := h u7 eu7
      exact W.vret hx hb hr (fun t ht hW => ⟨⟨_, rfl, h, by show va_P _ _ _ t.heap; rw [ht]; exact hP⟩, hS.F ht⟩) hS.2.2 dX4_find_54
set_option maxRecDepth 100000 in
set_option maxHeartbeats 4000000 in
theorem c_X4_find {l : Launch} {D : va_G} {cI cG cZ cJ : ClassId} {ts : Nat × Nat} {L : List Nat} {ad : Nat → Nat} {al : Nat} (hL : Lg L al) (hwd : WD L ad) (sz : Nat) (u : St) (a1 : Int32) (Q : St → Prop) (h : f_X4_find al a1 u Q) : Met l yX4_find wsX4_find ({ frames := 1, cells := 0, slots := 0, locals := 22 }) (va_Pc [.ref (ad 4), .int a1] (PC D cI cG cZ cJ ts L ad al sz u)) (va_Qv Q (fun u9 t => va_P D vwCl (cW cI cG L ad al u9) t.heap) (cA L ad sz)) 0 0 (cA L ad sz) := by
  refine Met.ofW (cc := cX4_find) (maxL := 2) (ret := none) (by decide) rfl ?_
  intro p e s m args below meth c s₁ B hml hv
  obtain ⟨rfl, hsz, hP, hC⟩ := hv
  subst hsz
  have X : FX RX4 wsX4_find cX4_find 2 none D cI cG cZ cJ ts L ad p s m _ meth c := ⟨B.exec, B.bytes, hml, findClass_of_methodNamed B.named, atoms_spec (ws := wsX4_find) B.pre, B.returns, B.notSynchronized, hwd, hC⟩
  have hl := lv_entry ([.ref (ad 4), .int a1]) (n := 2) (Nat.le_of_ble_eq_true rfl)
  rw [lg_entry_eq]
  generalize (lg_sl ([.ref (ad 4), .int a1]) ++ List.replicate (2 - (lg_sl ([.ref (ad 4), .int a1])).length) Slot.unset).toArray = ls at hl ⊢
  exact w_X4_find hL X a1 Q u _ _ _ h hP va_S.rf hl
set_option maxRecDepth 100000 in
set_option maxHeartbeats 4000000 in
theorem w_X4_matrix {p : Program} {l : Launch} {e : Env} {s : State} {m : MethodId} {args : Array Value} {below : List Frame} {meth : Method} {c : Code} {D : va_G} {cI cG cZ cJ : ClassId} {ts : Nat × Nat} {L : List Nat} {ad : Nat → Nat} {al : Nat} (hL : Lg L al) (X : FX RX4 wsX4_matrix cX4_matrix 2 (some .int) D cI cG cZ cJ ts L ad p s m args meth c) (a1 : Int32) (Q : Int32 → St → Prop) (u : St) (H : Heap) (locs : List Loc) (ls : Array Slot) (h : f_X4_matrix al a1 u Q) (hP : va_P D vwCl (cW cI cG L ad al u) H) (hS : va_S (cA L ad s.heap.size) s.heap H locs) (hl : lv_has ls 2 [(0, .ref (ad 4)), (1, .int a1)]) : W p l e (headSpec wsX4_matrix { frames := 1, cells := 0, slots := 0, locals := 21 }).room s m args below meth c H locs 0 0 (MQ below (va_Qi Q (fun u9 t => va_P D vwCl (cW cI cG L ad al u9) t.heap) (cA L ad s.heap.size)) args s 0 0 (cA L ad s.heap.size)) (F0 m 0 ls []) := by
  obtain ⟨hx, hb, hml, hown, hts, hr, hlocks, hwd, hC⟩ := id X
  have hK := hC.1
  have m4 : 4 ∈ L := hL.2.1
  obtain ⟨i4, hi4⟩ := wL_ix m4
  have m15 : 15 ∈ L := hL.2.2.2.1
  obtain ⟨i15, hi15⟩ := wL_ix m15
  have lk0 := hts (.fieldLink RX4 17 "FormForge$Group" "matrices" "[I") (by decide +kernel)
  have lk1 := hts (.initialized RX6) (by decide +kernel)
  have lk2 := hts (.static yX6_read) (by decide +kernel)
  have n4 : ∀ w ∈ wsX40, w ∈ wsX4_matrix := by decide +kernel
  have hN0 := hC.2.1 _ (List.mem_of_getElem? (i := 0) rfl)
  unfold f_X4_matrix at h
  refine lv_aload_n hx hb dX4_matrix_0 rfl (lv_at hl 0 rfl) ?_
  refine va_get (C := RX4) (T := TX4) (N := 6) hx hb hts n4 hown hK hP i4 (cg_4 hi4) rfl 2 (by decide) lk0 (fun _ h9 => h9) rfl dX4_matrix_1 ?_
  refine lv_iload_n hx hb dX4_matrix_4 rfl (lv_at hl 1 rfl) ?_
  refine cc_i (va_runSN (As := [.ref (ad 15), .int a1]) (rest := []) ⟨hx, hb, hml, hown, hts⟩ (c_X6_read hL (Or.inl ⟨by decide, by decide⟩) m15 hwd H.size u a1 _ h) ⟨va_cnB (host := RX6) 2 hts gX4_matrix_X6_read_n70 rfl rfl rfl hN0 lk1 (by decide +kernel) ⟨Nat.le_of_ble_eq_true rfl, Nat.le_of_ble_eq_true rfl⟩, lk2, trivial⟩ (pcS hC hP hS) rfl rfl hl.1 rfl (lv_room (Nat.le_of_ble_eq_true rfl)) dX4_matrix_5 ⟨Nat.zero_le _, Nat.zero_le _⟩) hS (cA_mono hS.1) (fun v1 u2 H locs h hP hS => ?_)
  exact W.iret (v := v1) hx hb hr (fun t ht hW => ⟨⟨_, _, rfl, h, by show va_P _ _ _ t.heap; rw [ht]; exact hP⟩, hS.F ht⟩) hS.2.2 dX4_matrix_8
set_option maxRecDepth 100000 in
set_option maxHeartbeats 4000000 in
theorem c_X4_matrix {l : Launch} {D : va_G} {cI cG cZ cJ : ClassId} {ts : Nat × Nat} {L : List Nat} {ad : Nat → Nat} {al : Nat} (hL : Lg L al) (hwd : WD L ad) (sz : Nat) (u : St) (a1 : Int32) (Q : Int32 → St → Prop) (h : f_X4_matrix al a1 u Q) : Met l yX4_matrix wsX4_matrix ({ frames := 1, cells := 0, slots := 0, locals := 21 }) (va_Pc [.ref (ad 4), .int a1] (PC D cI cG cZ cJ ts L ad al sz u)) (va_Qi Q (fun u9 t => va_P D vwCl (cW cI cG L ad al u9) t.heap) (cA L ad sz)) 0 0 (cA L ad sz) := by
  refine Met.ofW (cc := cX4_matrix) (maxL := 2) (ret := (some .int)) (by decide) rfl ?_
  intro p e s m args below meth c s₁ B hml hv
  obtain ⟨rfl, hsz, hP, hC⟩ := hv
  subst hsz
  have X : FX RX4 wsX4_matrix cX4_matrix 2 (some .int) D cI cG cZ cJ ts L ad p s m _ meth c := ⟨B.exec, B.bytes, hml, findClass_of_methodNamed B.named, atoms_spec (ws := wsX4_matrix) B.pre, B.returns, B.notSynchronized, hwd, hC⟩
  have hl := lv_entry ([.ref (ad 4), .int a1]) (n := 2) (Nat.le_of_ble_eq_true rfl)
  rw [lg_entry_eq]
  generalize (lg_sl ([.ref (ad 4), .int a1]) ++ List.replicate (2 - (lg_sl ([.ref (ad 4), .int a1])).length) Slot.unset).toArray = ls at hl ⊢
  exact w_X4_matrix hL X a1 Q u _ _ _ h hP va_S.rf hl
set_option maxRecDepth 100000 in
set_option maxHeartbeats 4000000 in
theorem c_X4_pick {l : Launch} {D : va_G} {cI cG cZ cJ : ClassId} {ts : Nat × Nat} {L : List Nat} {ad : Nat → Nat} {al : Nat} (hL : Lg L al) (hwd : WD L ad) (sz : Nat) (u : St) (a1 : Int32) (Q : Option Nat → St → Prop) (h : f_X4_pick al a1 u Q) : Met l yX4_pick wsX4_pick ({ frames := 0, cells := 0, slots := 0, locals := 0 }) (va_Pc [.ref (ad 4), .int a1] (PC D cI cG cZ cJ ts L ad al sz u)) (va_Qq (fun r u9 => ∃ o : Option Nat, r = o.map (fun j => ad (22 + 2 * j)) ∧ (∀ j, o = some j → j < al) ∧ Q o u9) (fun u9 t => va_P D vwCl (cW cI cG L ad al u9) t.heap) (cA L ad sz)) 0 0 (cA L ad sz) := by
  refine Met.ofW (cc := cX4_pick) (maxL := 2) (ret := (some (.object "FormForge$Generator"))) (by decide) rfl ?_
  intro p e s m args below meth c s₁ B hml hv
  obtain ⟨rfl, hsz, hP, hC⟩ := hv
  subst hsz
  have X : FX RX4 wsX4_pick cX4_pick 2 (some (.object "FormForge$Generator")) D cI cG cZ cJ ts L ad p s m _ meth c := ⟨B.exec, B.bytes, hml, findClass_of_methodNamed B.named, atoms_spec (ws := wsX4_pick) B.pre, B.returns, B.notSynchronized, hwd, hC⟩
  have hl := lv_entry ([.ref (ad 4), .int a1]) (n := 2) (Nat.le_of_ble_eq_true rfl)
  rw [lg_entry_eq]
  generalize (lg_sl ([.ref (ad 4), .int a1]) ++ List.replicate (2 - (lg_sl ([.ref (ad 4), .int a1])).length) Slot.unset).toArray = ls at hl ⊢
  obtain ⟨hx, hb, hml, hown, hts, hr, hlocks, -, -⟩ := id X
  have hK := hC.1
  have hS : va_S (cA L ad s.heap.size) s.heap s.heap [] := va_S.rf
  obtain ⟨i4, hi4⟩ := wL_ix hL.2.1
  obtain ⟨i6, hi6⟩ := wL_ix hL.2.2.1
  have k0 := hts (.fieldLink RX4 31 "FormForge$Group" "told" "I") (by decide +kernel)
  have k1 := hts (.fieldLink RX4 11 "FormForge$Group" "generators" "[LFormForge$Generator;") (by decide +kernel)
  have n4 : ∀ w ∈ wsX40, w ∈ wsX4_pick := by decide +kernel
  have hnull : ∀ (pc : Nat) (ls : Array Slot), Q none u → decode cX4_pick pc = .ok (.areturn, 1) → W p l e (headSpec wsX4_pick { frames := 0, cells := 0, slots := 0, locals := 0 }).room s m #[Value.ref (ad 4), Value.int a1] below meth c s.heap [] 0 0 (MQ below (va_Qq (fun r u9 => ∃ o : Option Nat, r = o.map (fun j => ad (22 + 2 * j)) ∧ (∀ j, o = some j → j < al) ∧ Q o u9) (fun u9 t => va_P D vwCl (cW cI cG L ad al u9) t.heap) (cA L ad s.heap.size)) #[Value.ref (ad 4), Value.int a1] s 0 0 (cA L ad s.heap.size)) (F0 m pc ls [.null]) := by
    intro pc ls hq hd
    exact W.aret hx hb hr (Or.inl ⟨_, rfl⟩) (Or.inl rfl) (fun t ht hW => ⟨⟨none, u, rfl, ⟨none, rfl, (fun j h => by cases h), hq⟩, by show va_P _ _ _ t.heap; rw [ht]; exact hP⟩, hS.F ht⟩) hS.2.2 hd
  unfold f_X4_pick at h
  refine lv_iload_n hx hb dX4_pick_0 rfl (lv_at hl 1 rfl) ?_
  refine lv_if_lt (tgt := 30) hx hb dX4_pick_1 (by decide) (fun c1 => ?_) (fun c1 => ?_)
  · refine lv_null hx hb dX4_pick_30 ?_
    exact hnull _ _ (h.1 c1) dX4_pick_31
  · replace h := h.2 c1
    refine lv_iload_n hx hb dX4_pick_4 rfl (lv_at hl 1 rfl) ?_
    refine lv_aload_n hx hb dX4_pick_5 rfl (lv_at hl 0 rfl) ?_
    refine va_get (C := RX4) (T := TX4) (N := 6) hx hb hts n4 hown hK hP i4 (cg_4 hi4) rfl 4 (by decide) k0 (fun _ h9 => h9) rfl dX4_pick_6 ?_
    refine lv_icmp_ge (tgt := 30) hx hb dX4_pick_9 (by decide) (fun c2 => ?_) (fun c2 => ?_)
    · refine lv_null hx hb dX4_pick_30 ?_
      exact hnull _ _ (h.1 c2) dX4_pick_31
    · replace h := h.2 c2
      refine lv_iload_n hx hb dX4_pick_12 rfl (lv_at hl 1 rfl) ?_
      refine lv_aload_n hx hb dX4_pick_13 rfl (lv_at hl 0 rfl) ?_
      refine va_get (C := RX4) (T := TX4) (N := 6) hx hb hts n4 hown hK hP i4 (cg_4 hi4) rfl 1 (by decide) k1 (fun _ h9 => h9) rfl dX4_pick_14 ?_
      refine va_alen (v := 4) hx hb hK hP i6 1 (cg_6 hi6) rfl rfl dX4_pick_17 ?_
      refine lv_icmp_ge (tgt := 30) hx hb dX4_pick_18 (by decide) (fun c3 => ?_) (fun c3 => ?_)
      · refine lv_null hx hb dX4_pick_30 ?_
        exact hnull _ _ (h.1 c3) dX4_pick_31
      · replace h := h.2 c3
        refine lv_aload_n hx hb dX4_pick_21 rfl (lv_at hl 0 rfl) ?_
        refine va_get (C := RX4) (T := TX4) (N := 6) hx hb hts n4 hown hK hP i4 (cg_4 hi4) rfl 1 (by decide) k1 (fun _ h9 => h9) rfl dX4_pick_22 ?_
        refine lv_iload_n hx hb dX4_pick_25 rfl (lv_at hl 1 rfl) ?_
        refine va_aldq hx hb hK hP i6 1 (cg_6 hi6) rfl h.1 dX4_pick_26 ?_
        refine lv_goto (tgt := 31) hx hb dX4_pick_27 (by decide) ?_
        refine W.aret hx hb hr (Or.inl ⟨_, rfl⟩) ?_ (fun t ht hW => ⟨⟨_, u, rfl, ⟨_, ?_, ?_, h.2⟩, by show va_P _ _ _ t.heap; rw [ht]; exact hP⟩, hS.F ht⟩) hS.2.2 dX4_pick_31
        · split
          · exact Or.inr ⟨_, rfl⟩
          · exact Or.inl rfl
        · split <;> rfl
        · intro j hj
          split at hj
          · cases hj; assumption
          · cases hj
set_option maxRecDepth 100000 in
set_option maxHeartbeats 4000000 in
theorem w_X4_generatorMatrix {p : Program} {l : Launch} {e : Env} {s : State} {m : MethodId} {args : Array Value} {below : List Frame} {meth : Method} {c : Code} {D : va_G} {cI cG cZ cJ : ClassId} {ts : Nat × Nat} {L : List Nat} {ad : Nat → Nat} {al : Nat} (hL : Lg L al) (X : FX RX4 wsX4_generatorMatrix cX4_generatorMatrix 3 (some .int) D cI cG cZ cJ ts L ad p s m args meth c) (a1 : Int32) (Q : Int32 → St → Prop) (u : St) (H : Heap) (locs : List Loc) (ls : Array Slot) (h : f_X4_generatorMatrix al a1 u Q) (hP : va_P D vwCl (cW cI cG L ad al u) H) (hS : va_S (cA L ad s.heap.size) s.heap H locs) (hl : lv_has ls 3 [(0, .ref (ad 4)), (1, .int a1)]) : W p l e (headSpec wsX4_generatorMatrix { frames := 1, cells := 0, slots := 0, locals := 24 }).room s m args below meth c H locs 0 0 (MQ below (va_Qi Q (fun u9 t => va_P D vwCl (cW cI cG L ad al u9) t.heap) (cA L ad s.heap.size)) args s 0 0 (cA L ad s.heap.size)) (F0 m 0 ls []) := by
  obtain ⟨hx, hb, hml, hown, hts, hr, hlocks, hwd, hC⟩ := id X
  have hK := hC.1
  have m1 : 1 ∈ L := hL.1
  obtain ⟨i1, hi1⟩ := wL_ix m1
  have m4 : 4 ∈ L := hL.2.1
  obtain ⟨i4, hi4⟩ := wL_ix m4
  have lk0 := hts (.fieldLink RX4 24 "FormForge$Group" "field" "LFormForge$Field;") (by decide +kernel)
  have lk1 := hts (.fieldLink RX4 82 "FormForge$Generator" "matrix" "I") (by decide +kernel)
  have n3 : ∀ w ∈ wsX30, w ∈ wsX4_generatorMatrix := by decide +kernel
  have n4 : ∀ w ∈ wsX40, w ∈ wsX4_generatorMatrix := by decide +kernel
  unfold f_X4_generatorMatrix at h
  refine lv_aload_n hx hb dX4_generatorMatrix_0 rfl (lv_at hl 0 rfl) ?_
  refine lv_iload_n hx hb dX4_generatorMatrix_1 rfl (lv_at hl 1 rfl) ?_
  refine cc_q (va_runV (C := RX4) (As := [.int a1]) (rest := []) ⟨hx, hb, hml, hown, hts⟩ (c_X4_pick hL hwd H.size u a1 _ h) (cwV 1 hts gX4_generatorMatrix_X4_pick rfl rfl rfl (by decide +kernel) ⟨Nat.le_of_ble_eq_true rfl, Nat.le_of_ble_eq_true rfl⟩) (pcV hC hP hS (cg_4 hi4) rfl) rfl rfl hl.1 rfl (lv_room (Nat.le_of_ble_eq_true rfl)) dX4_generatorMatrix_2 ⟨Nat.zero_le _, Nat.zero_le _⟩) hS (cA_mono hS.1) (fun u2 H locs h hP hS => ?_) (fun j4 u2 H locs hj h hP hS => ?_)
  · replace h := h.1 rfl
    refine lv_astore_nN (lv' := [(2, .null), (0, .ref (ad 4)), (1, .int a1)]) hx hb dX4_generatorMatrix_5 rfl hl (by decide) rfl (fun ls hl => ?_)
    refine lv_aload_nN hx hb dX4_generatorMatrix_6 rfl (lv_at hl 0 rfl) ?_
    refine lv_ifnonnullN hx hb dX4_generatorMatrix_7 ?_
    refine lv_aload_n hx hb dX4_generatorMatrix_10 rfl (lv_at hl 1 rfl) ?_
    refine va_get (C := RX4) (T := TX4) (N := 6) hx hb hts n4 hown hK hP i4 (cg_4 hi4) rfl 0 (by decide) lk0 (fun _ h9 => h9) rfl dX4_generatorMatrix_11 ?_
    refine lv_iconst (v := 1) hx hb dX4_generatorMatrix_14 (by decide) ?_
    refine lv_iconst (v := 0) hx hb dX4_generatorMatrix_15 (by decide) ?_
    refine lv_iconst (v := 0) hx hb dX4_generatorMatrix_16 (by decide) ?_
    refine lv_iconst (v := 1) hx hb dX4_generatorMatrix_17 (by decide) ?_
    refine cc_i (va_runV (C := RX2) (As := [.int 1, .int 0, .int 0, .int 1]) (rest := []) ⟨hx, hb, hml, hown, hts⟩ (c_X2_table hL hwd H.size u2 1 0 0 1 _ h) (cwV 4 hts gX4_generatorMatrix_X2_table rfl rfl rfl (by decide +kernel) ⟨Nat.le_of_ble_eq_true rfl, Nat.le_of_ble_eq_true rfl⟩) (pcV hC hP hS (cg_1 hi1) rfl) rfl rfl hl.1 rfl (lv_room (Nat.le_of_ble_eq_true rfl)) dX4_generatorMatrix_18 ⟨Nat.zero_le _, Nat.zero_le _⟩) hS (cA_mono hS.1) (fun v5 u6 H locs h hP hS => ?_)
    refine lv_goto (tgt := 28) hx hb dX4_generatorMatrix_21 (by decide) ?_
    exact W.iret (v := v5) hx hb hr (fun t ht hW => ⟨⟨_, _, rfl, h, by show va_P _ _ _ t.heap; rw [ht]; exact hP⟩, hS.F ht⟩) hS.2.2 dX4_generatorMatrix_28
  · replace h := h.2 j4 hj rfl
    obtain ⟨ij, hij⟩ := wL_ix (hL.2.2.2.2.2 j4 hj).1
    refine lv_astore_n (lv' := [(2, .ref (ad (22 + 2 * j4))), (0, .ref (ad 4)), (1, .int a1)]) hx hb dX4_generatorMatrix_5 rfl hl (by decide) rfl (fun ls hl => ?_)
    refine lv_aload_n hx hb dX4_generatorMatrix_6 rfl (lv_at hl 0 rfl) ?_
    refine lv_ifnonnull (tgt := 24) hx hb dX4_generatorMatrix_7 (by decide) ?_
    refine lv_aload_n hx hb dX4_generatorMatrix_24 rfl (lv_at hl 0 rfl) ?_
    refine va_get (C := RX3) (T := TX3) (N := 2) hx hb hts n3 hown hK hP ij (cg_g hij) rfl 1 (by decide) lk1 (fun _ h9 => h9) rfl dX4_generatorMatrix_25 ?_
    exact W.iret (v := (u2 0 (8 + j4))) hx hb hr (fun t ht hW => ⟨⟨_, _, rfl, h, by show va_P _ _ _ t.heap; rw [ht]; exact hP⟩, hS.F ht⟩) hS.2.2 dX4_generatorMatrix_28
set_option maxRecDepth 100000 in
set_option maxHeartbeats 4000000 in
theorem c_X4_generatorMatrix {l : Launch} {D : va_G} {cI cG cZ cJ : ClassId} {ts : Nat × Nat} {L : List Nat} {ad : Nat → Nat} {al : Nat} (hL : Lg L al) (hwd : WD L ad) (sz : Nat) (u : St) (a1 : Int32) (Q : Int32 → St → Prop) (h : f_X4_generatorMatrix al a1 u Q) : Met l yX4_generatorMatrix wsX4_generatorMatrix ({ frames := 1, cells := 0, slots := 0, locals := 24 }) (va_Pc [.ref (ad 4), .int a1] (PC D cI cG cZ cJ ts L ad al sz u)) (va_Qi Q (fun u9 t => va_P D vwCl (cW cI cG L ad al u9) t.heap) (cA L ad sz)) 0 0 (cA L ad sz) := by
  refine Met.ofW (cc := cX4_generatorMatrix) (maxL := 3) (ret := (some .int)) (by decide) rfl ?_
  intro p e s m args below meth c s₁ B hml hv
  obtain ⟨rfl, hsz, hP, hC⟩ := hv
  subst hsz
  have X : FX RX4 wsX4_generatorMatrix cX4_generatorMatrix 3 (some .int) D cI cG cZ cJ ts L ad p s m _ meth c := ⟨B.exec, B.bytes, hml, findClass_of_methodNamed B.named, atoms_spec (ws := wsX4_generatorMatrix) B.pre, B.returns, B.notSynchronized, hwd, hC⟩
  have hl := lv_entry ([.ref (ad 4), .int a1]) (n := 3) (Nat.le_of_ble_eq_true rfl)
  rw [lg_entry_eq]
  generalize (lg_sl ([.ref (ad 4), .int a1]) ++ List.replicate (3 - (lg_sl ([.ref (ad 4), .int a1])).length) Slot.unset).toArray = ls at hl ⊢
  exact w_X4_generatorMatrix hL X a1 Q u _ _ _ h hP va_S.rf hl
set_option maxRecDepth 100000 in
set_option maxHeartbeats 4000000 in
theorem w_X2_howMany_L4 {p : Program} {l : Launch} {e : Env} {s : State} {m : MethodId} {args : Array Value} {below : List Frame} {meth : Method} {c : Code} {D : va_G} {cI cG cZ cJ : ClassId} {ts : Nat × Nat} {L : List Nat} {ad : Nat → Nat} {al : Nat} (hL : Lg L al) (X : FX RX2 wsX2_howMany cX2_howMany 4 (some .int) D cI cG cZ cJ ts L ad p s m args meth c) (a1 : Int32) (Q : Int32 → St → Prop)
    (K0 : Int32 → St → Prop) (hk0 : ∀ (b2 : Int32) (u : St) (H : Heap) (locs : List Loc) (ls : Array Slot), K0 b2 u → va_P D vwCl (cW cI cG L ad al u) H → va_S (cA L ad s.heap.size) s.heap H locs → lv_has ls 4 [(2, .int b2)] → W p l e (headSpec wsX2_howMany { frames := 0, cells := 0, slots := 0, locals := 0 }).room s m args below meth c H locs 0 0 (MQ below (va_Qi Q (fun u9 t => va_P D vwCl (cW cI cG L ad al u9) t.heap) (cA L ad s.heap.size)) args s 0 0 (cA L ad s.heap.size)) (F0 m 22 ls []))
    : ∀ (n : Nat) (a2 : Int32) (a3 : Int32) (u : St) (H : Heap) (locs : List Loc) (ls : Array Slot), f_X2_howMany_L4 al a1 Q K0 n a2 a3 u → va_P D vwCl (cW cI cG L ad al u) H → va_S (cA L ad s.heap.size) s.heap H locs → lv_has ls 4 [(0, .ref (ad 1)), (1, .int a1), (2, .int a2), (3, .int a3)] → W p l e (headSpec wsX2_howMany { frames := 0, cells := 0, slots := 0, locals := 0 }).room s m args below meth c H locs 0 0 (MQ below (va_Qi Q (fun u9 t => va_P D vwCl (cW cI cG L ad al u9) t.heap) (cA L ad s.heap.size)) args s 0 0 (cA L ad s.heap.size)) (F0 m 4 ls []) := by
  obtain ⟨hx, hb, hml, hown, hts, hr, hlocks, hwd, hC⟩ := id X
  have hK := hC.1
  have m1 : 1 ∈ L := hL.1
  obtain ⟨i1, hi1⟩ := wL_ix m1
  have lk0 := hts (.fieldLink RX2 9 "FormForge$Field" "p" "I") (by decide +kernel)
  have n2 : ∀ w ∈ wsX20, w ∈ wsX2_howMany := by decide +kernel
  intro n
  induction n with
  | zero =>
    intro a2 a3 u H locs ls h; exact h.elim
  | succ n ih =>
    intro a2 a3 u H locs ls h hP hS hl
    replace h : f_X2_howMany_L4_s al a1 Q K0 (f_X2_howMany_L4 al a1 Q K0 n) a2 a3 u := h
    unfold f_X2_howMany_L4_s at h
    refine lv_iload_n hx hb dX2_howMany_4 rfl (lv_at hl 3 rfl) ?_
    refine lv_iload_n hx hb dX2_howMany_5 rfl (lv_at hl 1 rfl) ?_
    refine lv_icmp_ge (tgt := 22) hx hb dX2_howMany_6 (by decide) (fun c1 => ?_) (fun c1 => ?_)
    · replace h := h.1 c1
      exact hk0 a2 _ _ _ _ h hP hS (lv_sub hl [2] rfl)
    · replace h := h.2 c1
      refine lv_iload_n hx hb dX2_howMany_9 rfl (lv_at hl 2 rfl) ?_
      refine lv_aload_n hx hb dX2_howMany_10 rfl (lv_at hl 0 rfl) ?_
      refine va_get (C := RX2) (T := TX2) (N := 1) hx hb hts n2 hown hK hP i1 (cg_1 hi1) rfl 0 (by decide) lk0 (fun _ h9 => h9) rfl dX2_howMany_11 ?_
      refine lv_imul hx hb dX2_howMany_14 ?_
      refine lv_topi (fun v2 ev2 => ?_)
      replace h := h v2 ev2
      refine lv_istore_n (lv' := [(2, .int v2), (0, .ref (ad 1)), (1, .int a1), (3, .int a3)]) hx hb dX2_howMany_15 rfl hl (by decide) rfl (fun ls hl => ?_)
      obtain ⟨v3, ev3⟩ : ∃ y : Int32, y = a3 + 1 := ⟨_, rfl⟩
      refine lv_iinc (v := v3) (lv' := [(3, .int v3), (2, .int v2), (0, .ref (ad 1)), (1, .int a1)]) hx hb dX2_howMany_16 hl (k := 3) rfl (by rw [ev3]; rfl) (by decide) rfl (fun ls hl => ?_)
      replace h := h v3 ev3
      refine lv_goto (tgt := 4) hx hb dX2_howMany_19 (by decide) ?_
      exact ih v2 v3 _ _ _ _ h hP hS (lv_sub hl [2, 3, 1, 0] rfl)
set_option maxRecDepth 100000 in
set_option maxHeartbeats 4000000 in
theorem w_X2_howMany {p : Program} {l : Launch} {e : Env} {s : State} {m : MethodId} {args : Array Value} {below : List Frame} {meth : Method} {c : Code} {D : va_G} {cI cG cZ cJ : ClassId} {ts : Nat × Nat} {L : List Nat} {ad : Nat → Nat} {al : Nat} (hL : Lg L al) (X : FX RX2 wsX2_howMany cX2_howMany 4 (some .int) D cI cG cZ cJ ts L ad p s m args meth c) (a1 : Int32) (Q : Int32 → St → Prop) (u : St) (H : Heap) (locs : List Loc) (ls : Array Slot) (h : f_X2_howMany al a1 u Q) (hP : va_P D vwCl (cW cI cG L ad al u) H) (hS : va_S (cA L ad s.heap.size) s.heap H locs) (hl : lv_has ls 4 [(0, .ref (ad 1)), (1, .int a1)]) : W p l e (headSpec wsX2_howMany { frames := 0, cells := 0, slots := 0, locals := 0 }).room s m args below meth c H locs 0 0 (MQ below (va_Qi Q (fun u9 t => va_P D vwCl (cW cI cG L ad al u9) t.heap) (cA L ad s.heap.size)) args s 0 0 (cA L ad s.heap.size)) (F0 m 0 ls []) := by
  obtain ⟨hx, hb, hml, hown, hts, hr, hlocks, hwd, hC⟩ := id X
  have hK := hC.1
  have m1 : 1 ∈ L := hL.1
  obtain ⟨i1, hi1⟩ := wL_ix m1
  have lk0 := hts (.fieldLink RX2 9 "FormForge$Field" "p" "I") (by decide +kernel)
  have n2 : ∀ w ∈ wsX20, w ∈ wsX2_howMany := by decide +kernel
  unfold f_X2_howMany at h
  refine lv_iconst (v := 1) hx hb dX2_howMany_0 (by decide) ?_
  refine lv_istore_n (lv' := [(2, .int 1), (0, .ref (ad 1)), (1, .int a1)]) hx hb dX2_howMany_1 rfl hl (by decide) rfl (fun ls hl => ?_)
  refine lv_iconst (v := 0) hx hb dX2_howMany_2 (by decide) ?_
  refine lv_istore_n (lv' := [(3, .int 0), (2, .int 1), (0, .ref (ad 1)), (1, .int a1)]) hx hb dX2_howMany_3 rfl hl (by decide) rfl (fun ls hl => ?_)
  obtain ⟨n4, h⟩ := h
  refine w_X2_howMany_L4 hL X a1 _ _ (fun v5 u6 H locs ls h hP hS hl => ?_) n4 1 0 _ _ _ _ h hP hS (lv_sub hl [2, 3, 1, 0] rfl)
  refine lv_iload_n hx hb dX2_howMany_22 rfl (lv_at hl 0 rfl) ?_
  exact W.iret (v := v5) hx hb hr (fun t ht hW => ⟨⟨_, _, rfl, h, by show va_P _ _ _ t.heap; rw [ht]; exact hP⟩, hS.F ht⟩) hS.2.2 dX2_howMany_23
set_option maxRecDepth 100000 in
set_option maxHeartbeats 4000000 in
theorem c_X2_howMany {l : Launch} {D : va_G} {cI cG cZ cJ : ClassId} {ts : Nat × Nat} {L : List Nat} {ad : Nat → Nat} {al : Nat} (hL : Lg L al) (hwd : WD L ad) (sz : Nat) (u : St) (a1 : Int32) (Q : Int32 → St → Prop) (h : f_X2_howMany al a1 u Q) : Met l yX2_howMany wsX2_howMany ({ frames := 0, cells := 0, slots := 0, locals := 0 }) (va_Pc [.ref (ad 1), .int a1] (PC D cI cG cZ cJ ts L ad al sz u)) (va_Qi Q (fun u9 t => va_P D vwCl (cW cI cG L ad al u9) t.heap) (cA L ad sz)) 0 0 (cA L ad sz) := by
  refine Met.ofW (cc := cX2_howMany) (maxL := 4) (ret := (some .int)) (by decide) rfl ?_
  intro p e s m args below meth c s₁ B hml hv
  obtain ⟨rfl, hsz, hP, hC⟩ := hv
  subst hsz
  have X : FX RX2 wsX2_howMany cX2_howMany 4 (some .int) D cI cG cZ cJ ts L ad p s m _ meth c := ⟨B.exec, B.bytes, hml, findClass_of_methodNamed B.named, atoms_spec (ws := wsX2_howMany) B.pre, B.returns, B.notSynchronized, hwd, hC⟩
  have hl := lv_entry ([.ref (ad 1), .int a1]) (n := 4) (Nat.le_of_ble_eq_true rfl)
  rw [lg_entry_eq]
  generalize (lg_sl ([.ref (ad 1), .int a1]) ++ List.replicate (4 - (lg_sl ([.ref (ad 1), .int a1])).length) Slot.unset).toArray = ls at hl ⊢
  exact w_X2_howMany hL X a1 Q u _ _ _ h hP va_S.rf hl
set_option maxRecDepth 100000 in
set_option maxHeartbeats 4000000 in
theorem w_J9_floorMod_7cf53 {p : Program} {l : Launch} {e : Env} {s : State} {m : MethodId} {args : Array Value} {below : List Frame} {meth : Method} {c : Code} {D : va_G} {cI cG cZ cJ : ClassId} {ts : Nat × Nat} {L : List Nat} {ad : Nat → Nat} {al : Nat} (hL : Lg L al) (X : FX RJ9 wsJ9_floorMod_7cf53 cJ9_floorMod_7cf53 3 (some .int) D cI cG cZ cJ ts L ad p s m args meth c) (a0 : Int32) (a1 : Int32) (Q : Int32 → St → Prop) (u : St) (H : Heap) (locs : List Loc) (ls : Array Slot) (h : f_J9_floorMod_7cf53 a0 a1 u Q) (hP : va_P D vwCl (cW cI cG L ad al u) H) (hS : va_S (cA L ad s.heap.size) s.heap H locs) (hl : lv_has ls 3 [(0, .int a0), (1, .int a1)]) : W p l e (headSpec wsJ9_floorMod_7cf53 { frames := 0, cells := 0, slots := 0, locals := 0 }).room s m args below meth c H locs 0 0 (MQ below (va_Qi Q (fun u9 t => va_P D vwCl (cW cI cG L ad al u9) t.heap) (cA L ad s.heap.size)) args s 0 0 (cA L ad s.heap.size)) (F0 m 0 ls []) := by
  obtain ⟨hx, hb, hml, hown, hts, hr, hlocks, hwd, hC⟩ := id X
  have hK := hC.1
  unfold f_J9_floorMod_7cf53 at h
  refine lv_iload_n hx hb dJ9_floorMod_7cf53_0 rfl (lv_at hl 0 rfl) ?_
  refine lv_iload_n hx hb dJ9_floorMod_7cf53_1 rfl (lv_at hl 1 rfl) ?_
  refine lv_irem hx hb dJ9_floorMod_7cf53_2 h.1 ?_
  replace h := h.2
  refine lv_topi (fun v1 ev1 => ?_)
  replace h := h v1 ev1
  refine lv_istore_n (lv' := [(2, .int v1), (0, .int a0), (1, .int a1)]) hx hb dJ9_floorMod_7cf53_3 rfl hl (by decide) rfl (fun ls hl => ?_)
  refine lv_iload_n hx hb dJ9_floorMod_7cf53_4 rfl (lv_at hl 1 rfl) ?_
  refine lv_iload_n hx hb dJ9_floorMod_7cf53_5 rfl (lv_at hl 2 rfl) ?_
  refine lv_ixor hx hb dJ9_floorMod_7cf53_6 ?_
  refine lv_if_ge (tgt := 18) hx hb dJ9_floorMod_7cf53_7 (by decide) (fun c2 => ?_) (fun c2 => ?_)
  · replace h := h.1 c2
    refine lv_iload_n hx hb dJ9_floorMod_7cf53_18 rfl (lv_at hl 0 rfl) ?_
    exact W.iret (v := v1) hx hb hr (fun t ht hW => ⟨⟨_, _, rfl, h, by show va_P _ _ _ t.heap; rw [ht]; exact hP⟩, hS.F ht⟩) hS.2.2 dJ9_floorMod_7cf53_19
  · replace h := h.2 c2
    refine lv_iload_n hx hb dJ9_floorMod_7cf53_10 rfl (lv_at hl 0 rfl) ?_
    refine lv_if_eq (tgt := 18) hx hb dJ9_floorMod_7cf53_11 (by decide) (fun c3 => ?_) (fun c3 => ?_)
    · replace h := h.1 c3
      refine lv_iload_n hx hb dJ9_floorMod_7cf53_18 rfl (lv_at hl 0 rfl) ?_
      exact W.iret (v := v1) hx hb hr (fun t ht hW => ⟨⟨_, _, rfl, h, by show va_P _ _ _ t.heap; rw [ht]; exact hP⟩, hS.F ht⟩) hS.2.2 dJ9_floorMod_7cf53_19
    · replace h := h.2 c3
      refine lv_iload_n hx hb dJ9_floorMod_7cf53_14 rfl (lv_at hl 0 rfl) ?_
      refine lv_iload_n hx hb dJ9_floorMod_7cf53_15 rfl (lv_at hl 2 rfl) ?_
      refine lv_iadd hx hb dJ9_floorMod_7cf53_16 ?_
      exact W.iret (v := (v1 + a1)) hx hb hr (fun t ht hW => ⟨⟨_, _, rfl, h, by show va_P _ _ _ t.heap; rw [ht]; exact hP⟩, hS.F ht⟩) hS.2.2 dJ9_floorMod_7cf53_17
set_option maxRecDepth 100000 in
set_option maxHeartbeats 4000000 in
theorem c_J9_floorMod_7cf53 {l : Launch} {D : va_G} {cI cG cZ cJ : ClassId} {ts : Nat × Nat} {L : List Nat} {ad : Nat → Nat} {al : Nat} (hL : Lg L al) (hwd : WD L ad) (sz : Nat) (u : St) (a0 : Int32) (a1 : Int32) (Q : Int32 → St → Prop) (h : f_J9_floorMod_7cf53 a0 a1 u Q) : Met l yJ9_floorMod_7cf53 wsJ9_floorMod_7cf53 ({ frames := 0, cells := 0, slots := 0, locals := 0 }) (va_Pc [.int a0, .int a1] (PC D cI cG cZ cJ ts L ad al sz u)) (va_Qi Q (fun u9 t => va_P D vwCl (cW cI cG L ad al u9) t.heap) (cA L ad sz)) 0 0 (cA L ad sz) := by
  refine met_ofWF (cc := cJ9_floorMod_7cf53) (maxL := 3) (ret := (some .int)) (by decide +kernel) rfl ?_
  intro p e s m args below meth c s₁ B hml hv
  obtain ⟨rfl, hsz, hP, hC⟩ := hv
  subst hsz
  have X : FX RJ9 wsJ9_floorMod_7cf53 cJ9_floorMod_7cf53 3 (some .int) D cI cG cZ cJ ts L ad p s m _ meth c := ⟨B.exec, B.bytes, hml, findClass_of_methodNamed B.named, atoms_spec (ws := wsJ9_floorMod_7cf53) B.pre, B.returns, B.notSynchronized, hwd, hC⟩
  have hl := lv_entry ([.int a0, .int a1]) (n := 3) (Nat.le_of_ble_eq_true rfl)
  rw [lg_entry_eq]
  generalize (lg_sl ([.int a0, .int a1]) ++ List.replicate (3 - (lg_sl ([.int a0, .int a1])).length) Slot.unset).toArray = ls at hl ⊢
  exact w_J9_floorMod_7cf53 hL X a0 a1 Q u _ _ _ h hP va_S.rf hl
set_option maxRecDepth 100000 in
set_option maxHeartbeats 4000000 in
theorem w_X2_rest {p : Program} {l : Launch} {e : Env} {s : State} {m : MethodId} {args : Array Value} {below : List Frame} {meth : Method} {c : Code} {D : va_G} {cI cG cZ cJ : ClassId} {ts : Nat × Nat} {L : List Nat} {ad : Nat → Nat} {al : Nat} (hL : Lg L al) (X : FX RX2 wsX2_rest cX2_rest 2 (some .int) D cI cG cZ cJ ts L ad p s m args meth c) (a1 : Int32) (Q : Int32 → St → Prop) (u : St) (H : Heap) (locs : List Loc) (ls : Array Slot) (h : f_X2_rest al a1 u Q) (hP : va_P D vwCl (cW cI cG L ad al u) H) (hS : va_S (cA L ad s.heap.size) s.heap H locs) (hl : lv_has ls 2 [(0, .ref (ad 1)), (1, .int a1)]) : W p l e (headSpec wsX2_rest { frames := 1, cells := 0, slots := 0, locals := 22 }).room s m args below meth c H locs 0 0 (MQ below (va_Qi Q (fun u9 t => va_P D vwCl (cW cI cG L ad al u9) t.heap) (cA L ad s.heap.size)) args s 0 0 (cA L ad s.heap.size)) (F0 m 0 ls []) := by
  obtain ⟨hx, hb, hml, hown, hts, hr, hlocks, hwd, hC⟩ := id X
  have hK := hC.1
  have m1 : 1 ∈ L := hL.1
  obtain ⟨i1, hi1⟩ := wL_ix m1
  have lk0 := hts (.fieldLink RX2 9 "FormForge$Field" "p" "I") (by decide +kernel)
  have n2 : ∀ w ∈ wsX20, w ∈ wsX2_rest := by decide +kernel
  unfold f_X2_rest at h
  refine lv_aload_n hx hb dX2_rest_0 rfl (lv_at hl 0 rfl) ?_
  refine va_get (C := RX2) (T := TX2) (N := 1) hx hb hts n2 hown hK hP i1 (cg_1 hi1) rfl 0 (by decide) lk0 (fun _ h9 => h9) rfl dX2_rest_1 ?_
  refine lv_if_le (tgt := 18) hx hb dX2_rest_4 (by decide) (fun c1 => ?_) (fun c1 => ?_)
  · replace h := h.1 c1
    refine lv_iconst (v := 0) hx hb dX2_rest_18 (by decide) ?_
    exact W.iret (v := 0) hx hb hr (fun t ht hW => ⟨⟨_, _, rfl, h, by show va_P _ _ _ t.heap; rw [ht]; exact hP⟩, hS.F ht⟩) hS.2.2 dX2_rest_19
  · replace h := h.2 c1
    refine lv_iload_n hx hb dX2_rest_7 rfl (lv_at hl 1 rfl) ?_
    refine lv_aload_n hx hb dX2_rest_8 rfl (lv_at hl 0 rfl) ?_
    refine va_get (C := RX2) (T := TX2) (N := 1) hx hb hts n2 hown hK hP i1 (cg_1 hi1) rfl 0 (by decide) lk0 (fun _ h9 => h9) rfl dX2_rest_9 ?_
    refine cc_i (va_runS (As := [.int a1, .int (u 0 0)]) (rest := []) ⟨hx, hb, hml, hown, hts⟩ (c_J9_floorMod_7cf53 hL hwd H.size u a1 (u 0 0) _ h) (va_cwS 2 hts gX2_rest_J9_floorMod_7cf53 rfl rfl rfl (by decide +kernel) ⟨Nat.le_of_ble_eq_true rfl, Nat.le_of_ble_eq_true rfl⟩) (pcS hC hP hS) rfl rfl hl.1 rfl (lv_room (Nat.le_of_ble_eq_true rfl)) dX2_rest_12 ⟨Nat.zero_le _, Nat.zero_le _⟩) hS (cA_mono hS.1) (fun v2 u3 H locs h hP hS => ?_)
    refine lv_goto (tgt := 19) hx hb dX2_rest_15 (by decide) ?_
    exact W.iret (v := v2) hx hb hr (fun t ht hW => ⟨⟨_, _, rfl, h, by show va_P _ _ _ t.heap; rw [ht]; exact hP⟩, hS.F ht⟩) hS.2.2 dX2_rest_19
set_option maxRecDepth 100000 in
set_option maxHeartbeats 4000000 in
theorem c_X2_rest {l : Launch} {D : va_G} {cI cG cZ cJ : ClassId} {ts : Nat × Nat} {L : List Nat} {ad : Nat → Nat} {al : Nat} (hL : Lg L al) (hwd : WD L ad) (sz : Nat) (u : St) (a1 : Int32) (Q : Int32 → St → Prop) (h : f_X2_rest al a1 u Q) : Met l yX2_rest wsX2_rest ({ frames := 1, cells := 0, slots := 0, locals := 22 }) (va_Pc [.ref (ad 1), .int a1] (PC D cI cG cZ cJ ts L ad al sz u)) (va_Qi Q (fun u9 t => va_P D vwCl (cW cI cG L ad al u9) t.heap) (cA L ad sz)) 0 0 (cA L ad sz) := by
  refine Met.ofW (cc := cX2_rest) (maxL := 2) (ret := (some .int)) (by decide) rfl ?_
  intro p e s m args below meth c s₁ B hml hv
  obtain ⟨rfl, hsz, hP, hC⟩ := hv
  subst hsz
  have X : FX RX2 wsX2_rest cX2_rest 2 (some .int) D cI cG cZ cJ ts L ad p s m _ meth c := ⟨B.exec, B.bytes, hml, findClass_of_methodNamed B.named, atoms_spec (ws := wsX2_rest) B.pre, B.returns, B.notSynchronized, hwd, hC⟩
  have hl := lv_entry ([.ref (ad 1), .int a1]) (n := 2) (Nat.le_of_ble_eq_true rfl)
  rw [lg_entry_eq]
  generalize (lg_sl ([.ref (ad 1), .int a1]) ++ List.replicate (2 - (lg_sl ([.ref (ad 1), .int a1])).length) Slot.unset).toArray = ls at hl ⊢
  exact w_X2_rest hL X a1 Q u _ _ _ h hP va_S.rf hl
set_option maxRecDepth 100000 in
set_option maxHeartbeats 4000000 in
theorem w_X2_digit {p : Program} {l : Launch} {e : Env} {s : State} {m : MethodId} {args : Array Value} {below : List Frame} {meth : Method} {c : Code} {D : va_G} {cI cG cZ cJ : ClassId} {ts : Nat × Nat} {L : List Nat} {ad : Nat → Nat} {al : Nat} (hL : Lg L al) (X : FX RX2 wsX2_digit cX2_digit 4 (some .int) D cI cG cZ cJ ts L ad p s m args meth c) (a1 : Int32) (a2 : Int32) (Q : Int32 → St → Prop) (u : St) (H : Heap) (locs : List Loc) (ls : Array Slot) (h : f_X2_digit al a1 a2 u Q) (hP : va_P D vwCl (cW cI cG L ad al u) H) (hS : va_S (cA L ad s.heap.size) s.heap H locs) (hl : lv_has ls 4 [(0, .ref (ad 1)), (1, .int a1), (2, .int a2)]) : W p l e (headSpec wsX2_digit { frames := 2, cells := 0, slots := 0, locals := 43 }).room s m args below meth c H locs 0 0 (MQ below (va_Qi Q (fun u9 t => va_P D vwCl (cW cI cG L ad al u9) t.heap) (cA L ad s.heap.size)) args s 0 0 (cA L ad s.heap.size)) (F0 m 0 ls []) := by
  obtain ⟨hx, hb, hml, hown, hts, hr, hlocks, hwd, hC⟩ := id X
  have hK := hC.1
  have m1 : 1 ∈ L := hL.1
  obtain ⟨i1, hi1⟩ := wL_ix m1
  unfold f_X2_digit at h
  refine lv_aload_n hx hb dX2_digit_0 rfl (lv_at hl 0 rfl) ?_
  refine lv_iload_n hx hb dX2_digit_1 rfl (lv_at hl 2 rfl) ?_
  refine cc_i (va_runV (C := RX2) (As := [.int a2]) (rest := []) ⟨hx, hb, hml, hown, hts⟩ (c_X2_howMany hL hwd H.size u a2 _ h) (cwV 1 hts gX2_digit_X2_howMany rfl rfl rfl (by decide +kernel) ⟨Nat.le_of_ble_eq_true rfl, Nat.le_of_ble_eq_true rfl⟩) (pcV hC hP hS (cg_1 hi1) rfl) rfl rfl hl.1 rfl (lv_room (Nat.le_of_ble_eq_true rfl)) dX2_digit_2 ⟨Nat.zero_le _, Nat.zero_le _⟩) hS (cA_mono hS.1) (fun v1 u2 H locs h hP hS => ?_)
  refine lv_istore_n (lv' := [(3, .int v1), (0, .ref (ad 1)), (1, .int a1), (2, .int a2)]) hx hb dX2_digit_5 rfl hl (by decide) rfl (fun ls hl => ?_)
  refine lv_iload_n hx hb dX2_digit_6 rfl (lv_at hl 0 rfl) ?_
  refine lv_if_le (tgt := 20) hx hb dX2_digit_7 (by decide) (fun c3 => ?_) (fun c3 => ?_)
  · replace h := h.1 c3
    refine lv_iconst (v := 0) hx hb dX2_digit_20 (by decide) ?_
    exact W.iret (v := 0) hx hb hr (fun t ht hW => ⟨⟨_, _, rfl, h, by show va_P _ _ _ t.heap; rw [ht]; exact hP⟩, hS.F ht⟩) hS.2.2 dX2_digit_21
  · replace h := h.2 c3
    refine lv_aload_n hx hb dX2_digit_10 rfl (lv_at hl 1 rfl) ?_
    refine lv_iload_n hx hb dX2_digit_11 rfl (lv_at hl 2 rfl) ?_
    refine lv_iload_n hx hb dX2_digit_12 rfl (lv_at hl 0 rfl) ?_
    refine lv_idiv hx hb dX2_digit_13 h.1 ?_
    replace h := h.2
    refine lv_topi (fun v4 ev4 => ?_)
    replace h := h v4 ev4
    refine cc_i (va_runV (C := RX2) (As := [.int v4]) (rest := []) ⟨hx, hb, hml, hown, hts⟩ (c_X2_rest hL hwd H.size u2 v4 _ h) (cwV 1 hts gX2_digit_X2_rest rfl rfl rfl (by decide +kernel) ⟨Nat.le_of_ble_eq_true rfl, Nat.le_of_ble_eq_true rfl⟩) (pcV hC hP hS (cg_1 hi1) rfl) rfl rfl hl.1 rfl (lv_room (Nat.le_of_ble_eq_true rfl)) dX2_digit_14 ⟨Nat.zero_le _, Nat.zero_le _⟩) hS (cA_mono hS.1) (fun v5 u6 H locs h hP hS => ?_)
    refine lv_goto (tgt := 21) hx hb dX2_digit_17 (by decide) ?_
    exact W.iret (v := v5) hx hb hr (fun t ht hW => ⟨⟨_, _, rfl, h, by show va_P _ _ _ t.heap; rw [ht]; exact hP⟩, hS.F ht⟩) hS.2.2 dX2_digit_21
set_option maxRecDepth 100000 in
set_option maxHeartbeats 4000000 in
theorem c_X2_digit {l : Launch} {D : va_G} {cI cG cZ cJ : ClassId} {ts : Nat × Nat} {L : List Nat} {ad : Nat → Nat} {al : Nat} (hL : Lg L al) (hwd : WD L ad) (sz : Nat) (u : St) (a1 : Int32) (a2 : Int32) (Q : Int32 → St → Prop) (h : f_X2_digit al a1 a2 u Q) : Met l yX2_digit wsX2_digit ({ frames := 2, cells := 0, slots := 0, locals := 43 }) (va_Pc [.ref (ad 1), .int a1, .int a2] (PC D cI cG cZ cJ ts L ad al sz u)) (va_Qi Q (fun u9 t => va_P D vwCl (cW cI cG L ad al u9) t.heap) (cA L ad sz)) 0 0 (cA L ad sz) := by
  refine Met.ofW (cc := cX2_digit) (maxL := 4) (ret := (some .int)) (by decide) rfl ?_
  intro p e s m args below meth c s₁ B hml hv
  obtain ⟨rfl, hsz, hP, hC⟩ := hv
  subst hsz
  have X : FX RX2 wsX2_digit cX2_digit 4 (some .int) D cI cG cZ cJ ts L ad p s m _ meth c := ⟨B.exec, B.bytes, hml, findClass_of_methodNamed B.named, atoms_spec (ws := wsX2_digit) B.pre, B.returns, B.notSynchronized, hwd, hC⟩
  have hl := lv_entry ([.ref (ad 1), .int a1, .int a2]) (n := 4) (Nat.le_of_ble_eq_true rfl)
  rw [lg_entry_eq]
  generalize (lg_sl ([.ref (ad 1), .int a1, .int a2]) ++ List.replicate (4 - (lg_sl ([.ref (ad 1), .int a1, .int a2])).length) Slot.unset).toArray = ls at hl ⊢
  exact w_X2_digit hL X a1 a2 Q u _ _ _ h hP va_S.rf hl
set_option maxRecDepth 100000 in
set_option maxHeartbeats 4000000 in
theorem w_X2_product {p : Program} {l : Launch} {e : Env} {s : State} {m : MethodId} {args : Array Value} {below : List Frame} {meth : Method} {c : Code} {D : va_G} {cI cG cZ cJ : ClassId} {ts : Nat × Nat} {L : List Nat} {ad : Nat → Nat} {al : Nat} (hL : Lg L al) (X : FX RX2 wsX2_product cX2_product 11 (some .int) D cI cG cZ cJ ts L ad p s m args meth c) (a1 : Int32) (a2 : Int32) (Q : Int32 → St → Prop) (u : St) (H : Heap) (locs : List Loc) (ls : Array Slot) (h : f_X2_product al a1 a2 u Q) (hP : va_P D vwCl (cW cI cG L ad al u) H) (hS : va_S (cA L ad s.heap.size) s.heap H locs) (hl : lv_has ls 11 [(0, .ref (ad 1)), (1, .int a1), (2, .int a2)]) : W p l e (headSpec wsX2_product { frames := 3, cells := 0, slots := 0, locals := 66 }).room s m args below meth c H locs 0 0 (MQ below (va_Qi Q (fun u9 t => va_P D vwCl (cW cI cG L ad al u9) t.heap) (cA L ad s.heap.size)) args s 0 0 (cA L ad s.heap.size)) (F0 m 0 ls []) := by
  obtain ⟨hx, hb, hml, hown, hts, hr, hlocks, hwd, hC⟩ := id X
  have hK := hC.1
  have m1 : 1 ∈ L := hL.1
  obtain ⟨i1, hi1⟩ := wL_ix m1
  unfold f_X2_product at h
  refine lv_aload_n hx hb dX2_product_0 rfl (lv_at hl 0 rfl) ?_
  refine lv_iload_n hx hb dX2_product_1 rfl (lv_at hl 1 rfl) ?_
  refine lv_iconst (v := 0) hx hb dX2_product_2 (by decide) ?_
  refine cc_i (va_runV (C := RX2) (As := [.int a1, .int 0]) (rest := []) ⟨hx, hb, hml, hown, hts⟩ (c_X2_digit hL hwd H.size u a1 0 _ h) (cwV 2 hts gX2_product_X2_digit rfl rfl rfl (by decide +kernel) ⟨Nat.le_of_ble_eq_true rfl, Nat.le_of_ble_eq_true rfl⟩) (pcV hC hP hS (cg_1 hi1) rfl) rfl rfl hl.1 rfl (lv_room (Nat.le_of_ble_eq_true rfl)) dX2_product_3 ⟨Nat.zero_le _, Nat.zero_le _⟩) hS (cA_mono hS.1) (fun v1 u2 H locs h hP hS => ?_)
  refine lv_istore_n (lv' := [(3, .int v1), (0, .ref (ad 1)), (1, .int a1), (2, .int a2)]) hx hb dX2_product_6 rfl hl (by decide) rfl (fun ls hl => ?_)
  refine lv_aload_n hx hb dX2_product_7 rfl (lv_at hl 1 rfl) ?_
  refine lv_iload_n hx hb dX2_product_8 rfl (lv_at hl 2 rfl) ?_
  refine lv_iconst (v := 1) hx hb dX2_product_9 (by decide) ?_
  refine cc_i (va_runV (C := RX2) (As := [.int a1, .int 1]) (rest := []) ⟨hx, hb, hml, hown, hts⟩ (c_X2_digit hL hwd H.size u2 a1 1 _ h) (cwV 2 hts gX2_product_X2_digit rfl rfl rfl (by decide +kernel) ⟨Nat.le_of_ble_eq_true rfl, Nat.le_of_ble_eq_true rfl⟩) (pcV hC hP hS (cg_1 hi1) rfl) rfl rfl hl.1 rfl (lv_room (Nat.le_of_ble_eq_true rfl)) dX2_product_10 ⟨Nat.zero_le _, Nat.zero_le _⟩) hS (cA_mono hS.1) (fun v3 u4 H locs h hP hS => ?_)
  refine lv_istore (lv' := [(4, .int v3), (3, .int v1), (0, .ref (ad 1)), (1, .int a1), (2, .int a2)]) hx hb dX2_product_13 hl (by decide) rfl (fun ls hl => ?_)
  refine lv_aload_n hx hb dX2_product_15 rfl (lv_at hl 2 rfl) ?_
  refine lv_iload_n hx hb dX2_product_16 rfl (lv_at hl 3 rfl) ?_
  refine lv_iconst (v := 2) hx hb dX2_product_17 (by decide) ?_
  refine cc_i (va_runV (C := RX2) (As := [.int a1, .int 2]) (rest := []) ⟨hx, hb, hml, hown, hts⟩ (c_X2_digit hL hwd H.size u4 a1 2 _ h) (cwV 2 hts gX2_product_X2_digit rfl rfl rfl (by decide +kernel) ⟨Nat.le_of_ble_eq_true rfl, Nat.le_of_ble_eq_true rfl⟩) (pcV hC hP hS (cg_1 hi1) rfl) rfl rfl hl.1 rfl (lv_room (Nat.le_of_ble_eq_true rfl)) dX2_product_18 ⟨Nat.zero_le _, Nat.zero_le _⟩) hS (cA_mono hS.1) (fun v5 u6 H locs h hP hS => ?_)
  refine lv_istore (lv' := [(5, .int v5), (4, .int v3), (3, .int v1), (0, .ref (ad 1)), (1, .int a1), (2, .int a2)]) hx hb dX2_product_21 hl (by decide) rfl (fun ls hl => ?_)
  refine lv_aload_n hx hb dX2_product_23 rfl (lv_at hl 3 rfl) ?_
  refine lv_iload_n hx hb dX2_product_24 rfl (lv_at hl 4 rfl) ?_
  refine lv_iconst (v := 3) hx hb dX2_product_25 (by decide) ?_
  refine cc_i (va_runV (C := RX2) (As := [.int a1, .int 3]) (rest := []) ⟨hx, hb, hml, hown, hts⟩ (c_X2_digit hL hwd H.size u6 a1 3 _ h) (cwV 2 hts gX2_product_X2_digit rfl rfl rfl (by decide +kernel) ⟨Nat.le_of_ble_eq_true rfl, Nat.le_of_ble_eq_true rfl⟩) (pcV hC hP hS (cg_1 hi1) rfl) rfl rfl hl.1 rfl (lv_room (Nat.le_of_ble_eq_true rfl)) dX2_product_26 ⟨Nat.zero_le _, Nat.zero_le _⟩) hS (cA_mono hS.1) (fun v7 u8 H locs h hP hS => ?_)
  refine lv_istore (lv' := [(6, .int v7), (5, .int v5), (4, .int v3), (3, .int v1), (0, .ref (ad 1)), (1, .int a1), (2, .int a2)]) hx hb dX2_product_29 hl (by decide) rfl (fun ls hl => ?_)
  refine lv_aload_n hx hb dX2_product_31 rfl (lv_at hl 4 rfl) ?_
  refine lv_iload_n hx hb dX2_product_32 rfl (lv_at hl 6 rfl) ?_
  refine lv_iconst (v := 0) hx hb dX2_product_33 (by decide) ?_
  refine cc_i (va_runV (C := RX2) (As := [.int a2, .int 0]) (rest := []) ⟨hx, hb, hml, hown, hts⟩ (c_X2_digit hL hwd H.size u8 a2 0 _ h) (cwV 2 hts gX2_product_X2_digit rfl rfl rfl (by decide +kernel) ⟨Nat.le_of_ble_eq_true rfl, Nat.le_of_ble_eq_true rfl⟩) (pcV hC hP hS (cg_1 hi1) rfl) rfl rfl hl.1 rfl (lv_room (Nat.le_of_ble_eq_true rfl)) dX2_product_34 ⟨Nat.zero_le _, Nat.zero_le _⟩) hS (cA_mono hS.1) (fun v9 u10 H locs h hP hS => ?_)
  refine lv_istore (lv' := [(7, .int v9), (6, .int v7), (5, .int v5), (4, .int v3), (3, .int v1), (0, .ref (ad 1)), (1, .int a1), (2, .int a2)]) hx hb dX2_product_37 hl (by decide) rfl (fun ls hl => ?_)
  refine lv_aload_n hx hb dX2_product_39 rfl (lv_at hl 5 rfl) ?_
  refine lv_iload_n hx hb dX2_product_40 rfl (lv_at hl 7 rfl) ?_
  refine lv_iconst (v := 1) hx hb dX2_product_41 (by decide) ?_
  refine cc_i (va_runV (C := RX2) (As := [.int a2, .int 1]) (rest := []) ⟨hx, hb, hml, hown, hts⟩ (c_X2_digit hL hwd H.size u10 a2 1 _ h) (cwV 2 hts gX2_product_X2_digit rfl rfl rfl (by decide +kernel) ⟨Nat.le_of_ble_eq_true rfl, Nat.le_of_ble_eq_true rfl⟩) (pcV hC hP hS (cg_1 hi1) rfl) rfl rfl hl.1 rfl (lv_room (Nat.le_of_ble_eq_true rfl)) dX2_product_42 ⟨Nat.zero_le _, Nat.zero_le _⟩) hS (cA_mono hS.1) (fun v11 u12 H locs h hP hS => ?_)
  refine lv_istore (lv' := [(8, .int v11), (7, .int v9), (6, .int v7), (5, .int v5), (4, .int v3), (3, .int v1), (0, .ref (ad 1)), (1, .int a1), (2, .int a2)]) hx hb dX2_product_45 hl (by decide) rfl (fun ls hl => ?_)
  refine lv_aload_n hx hb dX2_product_47 rfl (lv_at hl 6 rfl) ?_
  refine lv_iload_n hx hb dX2_product_48 rfl (lv_at hl 8 rfl) ?_
  refine lv_iconst (v := 2) hx hb dX2_product_49 (by decide) ?_
  refine cc_i (va_runV (C := RX2) (As := [.int a2, .int 2]) (rest := []) ⟨hx, hb, hml, hown, hts⟩ (c_X2_digit hL hwd H.size u12 a2 2 _ h) (cwV 2 hts gX2_product_X2_digit rfl rfl rfl (by decide +kernel) ⟨Nat.le_of_ble_eq_true rfl, Nat.le_of_ble_eq_true rfl⟩) (pcV hC hP hS (cg_1 hi1) rfl) rfl rfl hl.1 rfl (lv_room (Nat.le_of_ble_eq_true rfl)) dX2_product_50 ⟨Nat.zero_le _, Nat.zero_le _⟩) hS (cA_mono hS.1) (fun v13 u14 H locs h hP hS => ?_)
  refine lv_istore (lv' := [(9, .int v13), (8, .int v11), (7, .int v9), (6, .int v7), (5, .int v5), (4, .int v3), (3, .int v1), (0, .ref (ad 1)), (1, .int a1), (2, .int a2)]) hx hb dX2_product_53 hl (by decide) rfl (fun ls hl => ?_)
  refine lv_aload_n hx hb dX2_product_55 rfl (lv_at hl 7 rfl) ?_
  refine lv_iload_n hx hb dX2_product_56 rfl (lv_at hl 9 rfl) ?_
  refine lv_iconst (v := 3) hx hb dX2_product_57 (by decide) ?_
  refine cc_i (va_runV (C := RX2) (As := [.int a2, .int 3]) (rest := []) ⟨hx, hb, hml, hown, hts⟩ (c_X2_digit hL hwd H.size u14 a2 3 _ h) (cwV 2 hts gX2_product_X2_digit rfl rfl rfl (by decide +kernel) ⟨Nat.le_of_ble_eq_true rfl, Nat.le_of_ble_eq_true rfl⟩) (pcV hC hP hS (cg_1 hi1) rfl) rfl rfl hl.1 rfl (lv_room (Nat.le_of_ble_eq_true rfl)) dX2_product_58 ⟨Nat.zero_le _, Nat.zero_le _⟩) hS (cA_mono hS.1) (fun v15 u16 H locs h hP hS => ?_)
  refine lv_istore (lv' := [(10, .int v15), (9, .int v13), (8, .int v11), (7, .int v9), (6, .int v7), (5, .int v5), (4, .int v3), (3, .int v1), (0, .ref (ad 1)), (1, .int a1), (2, .int a2)]) hx hb dX2_product_61 hl (by decide) rfl (fun ls hl => ?_)
  refine lv_aload_n hx hb dX2_product_63 rfl (lv_at hl 8 rfl) ?_
  refine lv_aload_n hx hb dX2_product_64 rfl (lv_at hl 8 rfl) ?_
  refine lv_iload_n hx hb dX2_product_65 rfl (lv_at hl 7 rfl) ?_
  refine lv_iload hx hb dX2_product_66 (lv_at hl 3 rfl) ?_
  refine lv_imul hx hb dX2_product_68 ?_
  refine lv_iload hx hb dX2_product_69 (lv_at hl 6 rfl) ?_
  refine lv_iload hx hb dX2_product_71 (lv_at hl 1 rfl) ?_
  refine lv_imul hx hb dX2_product_73 ?_
  refine lv_iadd hx hb dX2_product_74 ?_
  refine cc_i (va_runV (C := RX2) (As := [.int ((v1 * v9) + (v3 * v13))]) (rest := [.ref (ad 1)]) ⟨hx, hb, hml, hown, hts⟩ (c_X2_rest hL hwd H.size u16 ((v1 * v9) + (v3 * v13)) _ h) (cwV 1 hts gX2_product_X2_rest rfl rfl rfl (by decide +kernel) ⟨Nat.le_of_ble_eq_true rfl, Nat.le_of_ble_eq_true rfl⟩) (pcV hC hP hS (cg_1 hi1) rfl) rfl rfl hl.1 rfl (lv_room (Nat.le_of_ble_eq_true rfl)) dX2_product_75 ⟨Nat.zero_le _, Nat.zero_le _⟩) hS (cA_mono hS.1) (fun v17 u18 H locs h hP hS => ?_)
  refine lv_aload_n hx hb dX2_product_78 rfl (lv_at hl 8 rfl) ?_
  refine lv_iload_n hx hb dX2_product_79 rfl (lv_at hl 7 rfl) ?_
  refine lv_iload hx hb dX2_product_80 (lv_at hl 2 rfl) ?_
  refine lv_imul hx hb dX2_product_82 ?_
  refine lv_iload hx hb dX2_product_83 (lv_at hl 6 rfl) ?_
  refine lv_iload hx hb dX2_product_85 (lv_at hl 0 rfl) ?_
  refine lv_imul hx hb dX2_product_87 ?_
  refine lv_iadd hx hb dX2_product_88 ?_
  refine cc_i (va_runV (C := RX2) (As := [.int ((v1 * v11) + (v3 * v15))]) (rest := [.int v17, .ref (ad 1)]) ⟨hx, hb, hml, hown, hts⟩ (c_X2_rest hL hwd H.size u18 ((v1 * v11) + (v3 * v15)) _ h) (cwV 1 hts gX2_product_X2_rest rfl rfl rfl (by decide +kernel) ⟨Nat.le_of_ble_eq_true rfl, Nat.le_of_ble_eq_true rfl⟩) (pcV hC hP hS (cg_1 hi1) rfl) rfl rfl hl.1 rfl (lv_room (Nat.le_of_ble_eq_true rfl)) dX2_product_89 ⟨Nat.zero_le _, Nat.zero_le _⟩) hS (cA_mono hS.1) (fun v19 u20 H locs h hP hS => ?_)
  refine lv_aload_n hx hb dX2_product_92 rfl (lv_at hl 8 rfl) ?_
  refine lv_iload hx hb dX2_product_93 (lv_at hl 5 rfl) ?_
  refine lv_iload hx hb dX2_product_95 (lv_at hl 3 rfl) ?_
  refine lv_imul hx hb dX2_product_97 ?_
  refine lv_iload hx hb dX2_product_98 (lv_at hl 4 rfl) ?_
  refine lv_iload hx hb dX2_product_100 (lv_at hl 1 rfl) ?_
  refine lv_imul hx hb dX2_product_102 ?_
  refine lv_iadd hx hb dX2_product_103 ?_
  refine cc_i (va_runV (C := RX2) (As := [.int ((v5 * v9) + (v7 * v13))]) (rest := [.int v19, .int v17, .ref (ad 1)]) ⟨hx, hb, hml, hown, hts⟩ (c_X2_rest hL hwd H.size u20 ((v5 * v9) + (v7 * v13)) _ h) (cwV 1 hts gX2_product_X2_rest rfl rfl rfl (by decide +kernel) ⟨Nat.le_of_ble_eq_true rfl, Nat.le_of_ble_eq_true rfl⟩) (pcV hC hP hS (cg_1 hi1) rfl) rfl rfl hl.1 rfl (lv_room (Nat.le_of_ble_eq_true rfl)) dX2_product_104 ⟨Nat.zero_le _, Nat.zero_le _⟩) hS (cA_mono hS.1) (fun v21 u22 H locs h hP hS => ?_)
  refine lv_aload_n hx hb dX2_product_107 rfl (lv_at hl 8 rfl) ?_
  refine lv_iload hx hb dX2_product_108 (lv_at hl 5 rfl) ?_
  refine lv_iload hx hb dX2_product_110 (lv_at hl 2 rfl) ?_
  refine lv_imul hx hb dX2_product_112 ?_
  refine lv_iload hx hb dX2_product_113 (lv_at hl 4 rfl) ?_
  refine lv_iload hx hb dX2_product_115 (lv_at hl 0 rfl) ?_
  refine lv_imul hx hb dX2_product_117 ?_
  refine lv_iadd hx hb dX2_product_118 ?_
  refine cc_i (va_runV (C := RX2) (As := [.int ((v5 * v11) + (v7 * v15))]) (rest := [.int v21, .int v19, .int v17, .ref (ad 1)]) ⟨hx, hb, hml, hown, hts⟩ (c_X2_rest hL hwd H.size u22 ((v5 * v11) + (v7 * v15)) _ h) (cwV 1 hts gX2_product_X2_rest rfl rfl rfl (by decide +kernel) ⟨Nat.le_of_ble_eq_true rfl, Nat.le_of_ble_eq_true rfl⟩) (pcV hC hP hS (cg_1 hi1) rfl) rfl rfl hl.1 rfl (lv_room (Nat.le_of_ble_eq_true rfl)) dX2_product_119 ⟨Nat.zero_le _, Nat.zero_le _⟩) hS (cA_mono hS.1) (fun v23 u24 H locs h hP hS => ?_)
  refine cc_i (va_runV (C := RX2) (As := [.int v17, .int v19, .int v21, .int v23]) (rest := []) ⟨hx, hb, hml, hown, hts⟩ (c_X2_table hL hwd H.size u24 v17 v19 v21 v23 _ h) (cwV 4 hts gX2_product_X2_table rfl rfl rfl (by decide +kernel) ⟨Nat.le_of_ble_eq_true rfl, Nat.le_of_ble_eq_true rfl⟩) (pcV hC hP hS (cg_1 hi1) rfl) rfl rfl hl.1 rfl (lv_room (Nat.le_of_ble_eq_true rfl)) dX2_product_122 ⟨Nat.zero_le _, Nat.zero_le _⟩) hS (cA_mono hS.1) (fun v25 u26 H locs h hP hS => ?_)
  exact W.iret (v := v25) hx hb hr (fun t ht hW => ⟨⟨_, _, rfl, h, by show va_P _ _ _ t.heap; rw [ht]; exact hP⟩, hS.F ht⟩) hS.2.2 dX2_product_125
set_option maxRecDepth 100000 in
set_option maxHeartbeats 4000000 in
theorem c_X2_product {l : Launch} {D : va_G} {cI cG cZ cJ : ClassId} {ts : Nat × Nat} {L : List Nat} {ad : Nat → Nat} {al : Nat} (hL : Lg L al) (hwd : WD L ad) (sz : Nat) (u : St) (a1 : Int32) (a2 : Int32) (Q : Int32 → St → Prop) (h : f_X2_product al a1 a2 u Q) : Met l yX2_product wsX2_product ({ frames := 3, cells := 0, slots := 0, locals := 66 }) (va_Pc [.ref (ad 1), .int a1, .int a2] (PC D cI cG cZ cJ ts L ad al sz u)) (va_Qi Q (fun u9 t => va_P D vwCl (cW cI cG L ad al u9) t.heap) (cA L ad sz)) 0 0 (cA L ad sz) := by
  refine Met.ofW (cc := cX2_product) (maxL := 11) (ret := (some .int)) (by decide) rfl ?_
  intro p e s m args below meth c s₁ B hml hv
  obtain ⟨rfl, hsz, hP, hC⟩ := hv
  subst hsz
  have X : FX RX2 wsX2_product cX2_product 11 (some .int) D cI cG cZ cJ ts L ad p s m _ meth c := ⟨B.exec, B.bytes, hml, findClass_of_methodNamed B.named, atoms_spec (ws := wsX2_product) B.pre, B.returns, B.notSynchronized, hwd, hC⟩
  have hl := lv_entry ([.ref (ad 1), .int a1, .int a2]) (n := 11) (Nat.le_of_ble_eq_true rfl)
  rw [lg_entry_eq]
  generalize (lg_sl ([.ref (ad 1), .int a1, .int a2]) ++ List.replicate (11 - (lg_sl ([.ref (ad 1), .int a1, .int a2])).length) Slot.unset).toArray = ls at hl ⊢
  exact w_X2_product hL X a1 a2 Q u _ _ _ h hP va_S.rf hl
set_option maxRecDepth 100000 in
set_option maxHeartbeats 4000000 in
theorem w_X4_close_L47 {p : Program} {l : Launch} {e : Env} {s : State} {m : MethodId} {args : Array Value} {below : List Frame} {meth : Method} {c : Code} {D : va_G} {cI cG cZ cJ : ClassId} {ts : Nat × Nat} {L : List Nat} {ad : Nat → Nat} {al : Nat} (hL : Lg L al) (X : FX RX4 wsX4_close cX4_close 3 none D cI cG cZ cJ ts L ad p s m args meth c) (a1 : Int32) (Q : St → Prop)
    (K0 : St → Prop) (hk0 : ∀ (u : St) (H : Heap) (locs : List Loc) (ls : Array Slot), K0 u → va_P D vwCl (cW cI cG L ad al u) H → va_S (cA L ad s.heap.size) s.heap H locs → lv_has ls 3 [(0, .ref (ad 4)), (1, .int a1)] → W p l e (headSpec wsX4_close { frames := 4, cells := 0, slots := 0, locals := 96 }).room s m args below meth c H locs 0 0 (MQ below (va_Qv Q (fun u9 t => va_P D vwCl (cW cI cG L ad al u9) t.heap) (cA L ad s.heap.size)) args s 0 0 (cA L ad s.heap.size)) (F0 m 82 ls []))
    : ∀ (n : Nat) (a2 : Int32) (u : St) (H : Heap) (locs : List Loc) (ls : Array Slot), f_X4_close_L47 al a1 Q K0 n a2 u → va_P D vwCl (cW cI cG L ad al u) H → va_S (cA L ad s.heap.size) s.heap H locs → lv_has ls 3 [(0, .ref (ad 4)), (1, .int a1), (2, .int a2)] → W p l e (headSpec wsX4_close { frames := 4, cells := 0, slots := 0, locals := 96 }).room s m args below meth c H locs 0 0 (MQ below (va_Qv Q (fun u9 t => va_P D vwCl (cW cI cG L ad al u9) t.heap) (cA L ad s.heap.size)) args s 0 0 (cA L ad s.heap.size)) (F0 m 47 ls []) := by
  obtain ⟨hx, hb, hml, hown, hts, hr, hlocks, hwd, hC⟩ := id X
  have hK := hC.1
  have m1 : 1 ∈ L := hL.1
  obtain ⟨i1, hi1⟩ := wL_ix m1
  have m4 : 4 ∈ L := hL.2.1
  obtain ⟨i4, hi4⟩ := wL_ix m4
  have m16 : 16 ∈ L := hL.2.2.2.2.1
  obtain ⟨i16, hi16⟩ := wL_ix m16
  have lk0 := hts (.fieldLink RX4 21 "FormForge$Group" "found" "[I") (by decide +kernel)
  have lk1 := hts (.fieldLink RX4 52 "FormForge$Group" "size" "I") (by decide +kernel)
  have lk2 := hts (.fieldLink RX4 24 "FormForge$Group" "field" "LFormForge$Field;") (by decide +kernel)
  have lk3 := hts (.fieldLink RX4 31 "FormForge$Group" "told" "I") (by decide +kernel)
  have n4 : ∀ w ∈ wsX40, w ∈ wsX4_close := by decide +kernel
  intro n
  induction n with
  | zero =>
    intro a2 u H locs ls h; exact h.elim
  | succ n ih =>
    intro a2 u H locs ls h hP hS hl
    replace h : f_X4_close_L47_s al a1 Q K0 (f_X4_close_L47 al a1 Q K0 n) a2 u := h
    unfold f_X4_close_L47_s at h
    refine lv_iload_n hx hb dX4_close_47 rfl (lv_at hl 2 rfl) ?_
    refine lv_aload_n hx hb dX4_close_48 rfl (lv_at hl 0 rfl) ?_
    refine va_get (C := RX4) (T := TX4) (N := 6) hx hb hts n4 hown hK hP i4 (cg_4 hi4) rfl 4 (by decide) lk3 (fun _ h9 => h9) rfl dX4_close_49 ?_
    refine lv_icmp_ge (tgt := 82) hx hb dX4_close_52 (by decide) (fun c8 => ?_) (fun c8 => ?_)
    · replace h := h.1 c8
      exact hk0  _ _ _ _ h hP hS (lv_sub hl [0, 1] rfl)
    · replace h := h.2 c8
      refine lv_aload_n hx hb dX4_close_55 rfl (lv_at hl 0 rfl) ?_
      refine lv_aload_n hx hb dX4_close_56 rfl (lv_at hl 0 rfl) ?_
      refine va_get (C := RX4) (T := TX4) (N := 6) hx hb hts n4 hown hK hP i4 (cg_4 hi4) rfl 0 (by decide) lk2 (fun _ h9 => h9) rfl dX4_close_57 ?_
      refine lv_aload_n hx hb dX4_close_60 rfl (lv_at hl 0 rfl) ?_
      refine lv_iload_n hx hb dX4_close_61 rfl (lv_at hl 1 rfl) ?_
      refine cc_i (va_runV (C := RX4) (As := [.int a1]) (rest := [.ref (ad 1), .ref (ad 4)]) ⟨hx, hb, hml, hown, hts⟩ (c_X4_matrix hL hwd H.size u a1 _ h) (cwV 1 hts gX4_close_X4_matrix rfl rfl rfl (by decide +kernel) ⟨Nat.le_of_ble_eq_true rfl, Nat.le_of_ble_eq_true rfl⟩) (pcV hC hP hS (cg_4 hi4) rfl) rfl rfl hl.1 rfl (lv_room (Nat.le_of_ble_eq_true rfl)) dX4_close_62 ⟨Nat.zero_le _, Nat.zero_le _⟩) hS (cA_mono hS.1) (fun v9 u10 H locs h hP hS => ?_)
      refine lv_aload_n hx hb dX4_close_65 rfl (lv_at hl 0 rfl) ?_
      refine lv_iload_n hx hb dX4_close_66 rfl (lv_at hl 2 rfl) ?_
      refine cc_i (va_runV (C := RX4) (As := [.int a2]) (rest := [.int v9, .ref (ad 1), .ref (ad 4)]) ⟨hx, hb, hml, hown, hts⟩ (c_X4_generatorMatrix hL hwd H.size u10 a2 _ h) (cwV 1 hts gX4_close_X4_generatorMatrix rfl rfl rfl (by decide +kernel) ⟨Nat.le_of_ble_eq_true rfl, Nat.le_of_ble_eq_true rfl⟩) (pcV hC hP hS (cg_4 hi4) rfl) rfl rfl hl.1 rfl (lv_room (Nat.le_of_ble_eq_true rfl)) dX4_close_67 ⟨Nat.zero_le _, Nat.zero_le _⟩) hS (cA_mono hS.1) (fun v11 u12 H locs h hP hS => ?_)
      refine cc_i (va_runV (C := RX2) (As := [.int v9, .int v11]) (rest := [.ref (ad 4)]) ⟨hx, hb, hml, hown, hts⟩ (c_X2_product hL hwd H.size u12 v9 v11 _ h) (cwV 2 hts gX4_close_X2_product rfl rfl rfl (by decide +kernel) ⟨Nat.le_of_ble_eq_true rfl, Nat.le_of_ble_eq_true rfl⟩) (pcV hC hP hS (cg_1 hi1) rfl) rfl rfl hl.1 rfl (lv_room (Nat.le_of_ble_eq_true rfl)) dX4_close_70 ⟨Nat.zero_le _, Nat.zero_le _⟩) hS (cA_mono hS.1) (fun v13 u14 H locs h hP hS => ?_)
      refine cc_v (va_runV (C := RX4) (As := [.int v13]) (rest := []) ⟨hx, hb, hml, hown, hts⟩ (c_X4_find hL hwd H.size u14 v13 _ h) (cwV 1 hts gX4_close_X4_find rfl rfl rfl (by decide +kernel) ⟨Nat.le_of_ble_eq_true rfl, Nat.le_of_ble_eq_true rfl⟩) (pcV hC hP hS (cg_4 hi4) rfl) rfl rfl hl.1 rfl (lv_room (Nat.le_of_ble_eq_true rfl)) dX4_close_73 ⟨Nat.zero_le _, Nat.zero_le _⟩) hS (cA_mono hS.1) (fun u15 H locs h hP hS => ?_)
      obtain ⟨v16, ev16⟩ : ∃ y : Int32, y = a2 + 1 := ⟨_, rfl⟩
      refine lv_iinc (v := v16) (lv' := [(2, .int v16), (0, .ref (ad 4)), (1, .int a1)]) hx hb dX4_close_76 hl (k := 2) rfl (by rw [ev16]; rfl) (by decide) rfl (fun ls hl => ?_)
      replace h := h v16 ev16
      refine lv_goto (tgt := 47) hx hb dX4_close_79 (by decide) ?_
      exact ih v16 _ _ _ _ h hP hS (lv_sub hl [1, 2, 0] rfl)
set_option maxRecDepth 100000 in
set_option maxHeartbeats 4000000 in
theorem w_X4_close_L30 {p : Program} {l : Launch} {e : Env} {s : State} {m : MethodId} {args : Array Value} {below : List Frame} {meth : Method} {c : Code} {D : va_G} {cI cG cZ cJ : ClassId} {ts : Nat × Nat} {L : List Nat} {ad : Nat → Nat} {al : Nat} (hL : Lg L al) (X : FX RX4 wsX4_close cX4_close 3 none D cI cG cZ cJ ts L ad p s m args meth c)  (Q : St → Prop)
    (K0 : St → Prop) (hk0 : ∀ (u : St) (H : Heap) (locs : List Loc) (ls : Array Slot), K0 u → va_P D vwCl (cW cI cG L ad al u) H → va_S (cA L ad s.heap.size) s.heap H locs → lv_has ls 3 [] → W p l e (headSpec wsX4_close { frames := 4, cells := 0, slots := 0, locals := 96 }).room s m args below meth c H locs 0 0 (MQ below (va_Qv Q (fun u9 t => va_P D vwCl (cW cI cG L ad al u9) t.heap) (cA L ad s.heap.size)) args s 0 0 (cA L ad s.heap.size)) (F0 m 88 ls []))
    : ∀ (n : Nat) (a1 : Int32) (u : St) (H : Heap) (locs : List Loc) (ls : Array Slot), f_X4_close_L30 al Q K0 n a1 u → va_P D vwCl (cW cI cG L ad al u) H → va_S (cA L ad s.heap.size) s.heap H locs → lv_has ls 3 [(0, .ref (ad 4)), (1, .int a1)] → W p l e (headSpec wsX4_close { frames := 4, cells := 0, slots := 0, locals := 96 }).room s m args below meth c H locs 0 0 (MQ below (va_Qv Q (fun u9 t => va_P D vwCl (cW cI cG L ad al u9) t.heap) (cA L ad s.heap.size)) args s 0 0 (cA L ad s.heap.size)) (F0 m 30 ls []) := by
  obtain ⟨hx, hb, hml, hown, hts, hr, hlocks, hwd, hC⟩ := id X
  have hK := hC.1
  have m1 : 1 ∈ L := hL.1
  obtain ⟨i1, hi1⟩ := wL_ix m1
  have m4 : 4 ∈ L := hL.2.1
  obtain ⟨i4, hi4⟩ := wL_ix m4
  have m16 : 16 ∈ L := hL.2.2.2.2.1
  obtain ⟨i16, hi16⟩ := wL_ix m16
  have lk0 := hts (.fieldLink RX4 21 "FormForge$Group" "found" "[I") (by decide +kernel)
  have lk1 := hts (.fieldLink RX4 52 "FormForge$Group" "size" "I") (by decide +kernel)
  have lk2 := hts (.fieldLink RX4 24 "FormForge$Group" "field" "LFormForge$Field;") (by decide +kernel)
  have lk3 := hts (.fieldLink RX4 31 "FormForge$Group" "told" "I") (by decide +kernel)
  have n4 : ∀ w ∈ wsX40, w ∈ wsX4_close := by decide +kernel
  intro n
  induction n with
  | zero =>
    intro a1 u H locs ls h; exact h.elim
  | succ n ih =>
    intro a1 u H locs ls h hP hS hl
    replace h : f_X4_close_L30_s al Q K0 (f_X4_close_L30 al Q K0 n) a1 u := h
    unfold f_X4_close_L30_s at h
    refine lv_iload_n hx hb dX4_close_30 rfl (lv_at hl 1 rfl) ?_
    refine lv_aload_n hx hb dX4_close_31 rfl (lv_at hl 0 rfl) ?_
    refine va_get (C := RX4) (T := TX4) (N := 6) hx hb hts n4 hown hK hP i4 (cg_4 hi4) rfl 5 (by decide) lk1 (fun _ h9 => h9) rfl dX4_close_32 ?_
    refine lv_icmp_ge (tgt := 88) hx hb dX4_close_35 (by decide) (fun c6 => ?_) (fun c6 => ?_)
    · replace h := h.1 c6
      exact hk0  _ _ _ _ h hP hS (lv_sub hl [] rfl)
    · replace h := h.2 c6
      refine lv_iload_n hx hb dX4_close_38 rfl (lv_at hl 1 rfl) ?_
      refine lv_sipush (v := 480) hx hb dX4_close_39 (by decide) ?_
      refine lv_icmp_ge (tgt := 88) hx hb dX4_close_42 (by decide) (fun c7 => ?_) (fun c7 => ?_)
      · replace h := h.1 c7
        exact hk0  _ _ _ _ h hP hS (lv_sub hl [] rfl)
      · replace h := h.2 c7
        refine lv_iconst (v := 0) hx hb dX4_close_45 (by decide) ?_
        refine lv_istore_n (lv' := [(2, .int 0), (0, .ref (ad 4)), (1, .int a1)]) hx hb dX4_close_46 rfl hl (by decide) rfl (fun ls hl => ?_)
        obtain ⟨n17, h⟩ := h
        refine w_X4_close_L47 hL X a1 _ _ (fun u18 H locs ls h hP hS hl => ?_) n17 0 _ _ _ _ h hP hS (lv_sub hl [1, 2, 0] rfl)
        obtain ⟨v19, ev19⟩ : ∃ y : Int32, y = a1 + 1 := ⟨_, rfl⟩
        refine lv_iinc (v := v19) (lv' := [(1, .int v19), (0, .ref (ad 4))]) hx hb dX4_close_82 hl (k := 1) rfl (by rw [ev19]; rfl) (by decide) rfl (fun ls hl => ?_)
        replace h := h v19 ev19
        refine lv_goto (tgt := 30) hx hb dX4_close_85 (by decide) ?_
        exact ih v19 _ _ _ _ h hP hS (lv_sub hl [1, 0] rfl)
set_option maxRecDepth 100000 in
set_option maxHeartbeats 4000000 in
theorem w_X4_close {p : Program} {l : Launch} {e : Env} {s : State} {m : MethodId} {args : Array Value} {below : List Frame} {meth : Method} {c : Code} {D : va_G} {cI cG cZ cJ : ClassId} {ts : Nat × Nat} {L : List Nat} {ad : Nat → Nat} {al : Nat} (hL : Lg L al) (X : FX RX4 wsX4_close cX4_close 3 none D cI cG cZ cJ ts L ad p s m args meth c)  (Q : St → Prop) (u : St) (H : Heap) (locs : List Loc) (ls : Array Slot) (h : f_X4_close al u Q) (hP : va_P D vwCl (cW cI cG L ad al u) H) (hS : va_S (cA L ad s.heap.size) s.heap H locs) (hl : lv_has ls 3 [(0, .ref (ad 4))]) : W p l e (headSpec wsX4_close { frames := 4, cells := 0, slots := 0, locals := 96 }).room s m args below meth c H locs 0 0 (MQ below (va_Qv Q (fun u9 t => va_P D vwCl (cW cI cG L ad al u9) t.heap) (cA L ad s.heap.size)) args s 0 0 (cA L ad s.heap.size)) (F0 m 0 ls []) := by
  obtain ⟨hx, hb, hml, hown, hts, hr, hlocks, hwd, hC⟩ := id X
  have hK := hC.1
  have m1 : 1 ∈ L := hL.1
  obtain ⟨i1, hi1⟩ := wL_ix m1
  have m4 : 4 ∈ L := hL.2.1
  obtain ⟨i4, hi4⟩ := wL_ix m4
  have m16 : 16 ∈ L := hL.2.2.2.2.1
  obtain ⟨i16, hi16⟩ := wL_ix m16
  have lk0 := hts (.fieldLink RX4 21 "FormForge$Group" "found" "[I") (by decide +kernel)
  have lk1 := hts (.fieldLink RX4 52 "FormForge$Group" "size" "I") (by decide +kernel)
  have lk2 := hts (.fieldLink RX4 24 "FormForge$Group" "field" "LFormForge$Field;") (by decide +kernel)
  have lk3 := hts (.fieldLink RX4 31 "FormForge$Group" "told" "I") (by decide +kernel)
  have n4 : ∀ w ∈ wsX40, w ∈ wsX4_close := by decide +kernel
  unfold f_X4_close at h
  refine lv_aload_n hx hb dX4_close_0 rfl (lv_at hl 0 rfl) ?_
  refine va_get (C := RX4) (T := TX4) (N := 6) hx hb hts n4 hown hK hP i4 (cg_4 hi4) rfl 3 (by decide) lk0 (fun _ h9 => h9) rfl dX4_close_1 ?_
  refine lv_iconst (v := 0) hx hb dX4_close_4 (by decide) ?_
  refine cc_v (va_runS (As := [.ref (ad 16), .int 0]) (rest := []) ⟨hx, hb, hml, hown, hts⟩ (c_J7_fill_53178 hL (Or.inl ⟨by decide, by decide⟩) m16 hwd H.size u 0 _ h) (va_cwS 2 hts gX4_close_J7_fill_53178 rfl rfl rfl (by decide +kernel) ⟨Nat.le_of_ble_eq_true rfl, Nat.le_of_ble_eq_true rfl⟩) (pcS hC hP hS) rfl rfl hl.1 rfl (lv_room (Nat.le_of_ble_eq_true rfl)) dX4_close_5 ⟨Nat.zero_le _, Nat.zero_le _⟩) hS (cA_mono hS.1) (fun u1 H locs h hP hS => ?_)
  refine lv_aload_n hx hb dX4_close_8 rfl (lv_at hl 0 rfl) ?_
  refine lv_iconst (v := 0) hx hb dX4_close_9 (by decide) ?_
  refine va_put (C := RX4) (T := TX4) (N := 6) (ty := .int) (v := .int 0) hx hb hts n4 tyX4 tyX4_ok nmX4 hown hK hP (cD hwd) hS i4 (cg_4 hi4) rfl 5 (by decide) lk1 (fun _ h9 => h9) rfl (by decide +kernel) rfl rfl (Nat.le_of_ble_eq_true rfl) dX4_close_10 (fun H locs hP _ hS => ?_)
  replace hP := cu_gsize hwd hi4 hP
  obtain ⟨u2, eu2⟩ : ∃ y : St, y = su u1 0 5 0 := ⟨_, rfl⟩
  rw [← eu2] at hP
  replace h := h u2 eu2
  refine lv_aload_n hx hb dX4_close_13 rfl (lv_at hl 0 rfl) ?_
  refine lv_aload_n hx hb dX4_close_14 rfl (lv_at hl 0 rfl) ?_
  refine va_get (C := RX4) (T := TX4) (N := 6) hx hb hts n4 hown hK hP i4 (cg_4 hi4) rfl 0 (by decide) lk2 (fun _ h9 => h9) rfl dX4_close_15 ?_
  refine lv_iconst (v := 1) hx hb dX4_close_18 (by decide) ?_
  refine lv_iconst (v := 0) hx hb dX4_close_19 (by decide) ?_
  refine lv_iconst (v := 0) hx hb dX4_close_20 (by decide) ?_
  refine lv_iconst (v := 1) hx hb dX4_close_21 (by decide) ?_
  refine cc_i (va_runV (C := RX2) (As := [.int 1, .int 0, .int 0, .int 1]) (rest := [.ref (ad 4)]) ⟨hx, hb, hml, hown, hts⟩ (c_X2_table hL hwd H.size u2 1 0 0 1 _ h) (cwV 4 hts gX4_close_X2_table rfl rfl rfl (by decide +kernel) ⟨Nat.le_of_ble_eq_true rfl, Nat.le_of_ble_eq_true rfl⟩) (pcV hC hP hS (cg_1 hi1) rfl) rfl rfl hl.1 rfl (lv_room (Nat.le_of_ble_eq_true rfl)) dX4_close_22 ⟨Nat.zero_le _, Nat.zero_le _⟩) hS (cA_mono hS.1) (fun v3 u4 H locs h hP hS => ?_)
  refine cc_v (va_runV (C := RX4) (As := [.int v3]) (rest := []) ⟨hx, hb, hml, hown, hts⟩ (c_X4_find hL hwd H.size u4 v3 _ h) (cwV 1 hts gX4_close_X4_find rfl rfl rfl (by decide +kernel) ⟨Nat.le_of_ble_eq_true rfl, Nat.le_of_ble_eq_true rfl⟩) (pcV hC hP hS (cg_4 hi4) rfl) rfl rfl hl.1 rfl (lv_room (Nat.le_of_ble_eq_true rfl)) dX4_close_25 ⟨Nat.zero_le _, Nat.zero_le _⟩) hS (cA_mono hS.1) (fun u5 H locs h hP hS => ?_)
  refine lv_iconst (v := 0) hx hb dX4_close_28 (by decide) ?_
  refine lv_istore_n (lv' := [(1, .int 0), (0, .ref (ad 4))]) hx hb dX4_close_29 rfl hl (by decide) rfl (fun ls hl => ?_)
  obtain ⟨n20, h⟩ := h
  refine w_X4_close_L30 hL X _ _ (fun u21 H locs ls h hP hS hl => ?_) n20 0 _ _ _ _ h hP hS (lv_sub hl [1, 0] rfl)
  exact W.vret hx hb hr (fun t ht hW => ⟨⟨_, rfl, h, by show va_P _ _ _ t.heap; rw [ht]; exact hP⟩, hS.F ht⟩) hS.2.2 dX4_close_88
set_option maxRecDepth 100000 in
set_option maxHeartbeats 4000000 in
theorem c_X4_close {l : Launch} {D : va_G} {cI cG cZ cJ : ClassId} {ts : Nat × Nat} {L : List Nat} {ad : Nat → Nat} {al : Nat} (hL : Lg L al) (hwd : WD L ad) (sz : Nat) (u : St) (Q : St → Prop) (h : f_X4_close al u Q) : Met l yX4_close wsX4_close ({ frames := 4, cells := 0, slots := 0, locals := 96 }) (va_Pc [.ref (ad 4)] (PC D cI cG cZ cJ ts L ad al sz u)) (va_Qv Q (fun u9 t => va_P D vwCl (cW cI cG L ad al u9) t.heap) (cA L ad sz)) 0 0 (cA L ad sz) := by
  refine Met.ofW (cc := cX4_close) (maxL := 3) (ret := none) (by decide) rfl ?_
  intro p e s m args below meth c s₁ B hml hv
  obtain ⟨rfl, hsz, hP, hC⟩ := hv
  subst hsz
  have X : FX RX4 wsX4_close cX4_close 3 none D cI cG cZ cJ ts L ad p s m _ meth c := ⟨B.exec, B.bytes, hml, findClass_of_methodNamed B.named, atoms_spec (ws := wsX4_close) B.pre, B.returns, B.notSynchronized, hwd, hC⟩
  have hl := lv_entry ([.ref (ad 4)]) (n := 3) (Nat.le_of_ble_eq_true rfl)
  rw [lg_entry_eq]
  generalize (lg_sl ([.ref (ad 4)]) ++ List.replicate (3 - (lg_sl ([.ref (ad 4)])).length) Slot.unset).toArray = ls at hl ⊢
  exact w_X4_close hL X Q u _ _ _ h hP va_S.rf hl
set_option maxRecDepth 100000 in
set_option maxHeartbeats 4000000 in
theorem w_X4_forget {p : Program} {l : Launch} {e : Env} {s : State} {m : MethodId} {args : Array Value} {below : List Frame} {meth : Method} {c : Code} {D : va_G} {cI cG cZ cJ : ClassId} {ts : Nat × Nat} {L : List Nat} {ad : Nat → Nat} {al : Nat} (hL : Lf L al) (X : FX RX4 wsX4_forget cX4_forget 1 none D cI cG cZ cJ ts L ad p s m args meth c)  (Q : St → Prop) (u : St) (H : Heap) (locs : List Loc) (ls : Array Slot) (h : f_X4_forget al u Q) (hP : va_P D vwCl (cW cI cG L ad al u) H) (hS : va_S (cA L ad s.heap.size) s.heap H locs) (hl : lv_has ls 1 [(0, .ref (ad 4))]) : W p l e (headSpec wsX4_forget { frames := 5, cells := 0, slots := 0, locals := 118 }).room s m args below meth c H locs 0 0 (MQ below (va_Qv Q (fun u9 t => va_P D vwCl (cW cI cG L ad al u9) t.heap) (cA L ad s.heap.size)) args s 0 0 (cA L ad s.heap.size)) (F0 m 0 ls []) := by
  obtain ⟨hx, hb, hml, hown, hts, hr, hlocks, hwd, hC⟩ := id X
  have hK := hC.1
  have m4 : 4 ∈ L := hL 4 (by omega)
  obtain ⟨i4, hi4⟩ := wL_ix m4
  have lk0 := hts (.fieldLink RX4 31 "FormForge$Group" "told" "I") (by decide +kernel)
  have n4 : ∀ w ∈ wsX40, w ∈ wsX4_forget := by decide +kernel
  unfold f_X4_forget at h
  refine lv_aload_n hx hb dX4_forget_0 rfl (lv_at hl 0 rfl) ?_
  refine lv_iconst (v := 0) hx hb dX4_forget_1 (by decide) ?_
  refine va_put (C := RX4) (T := TX4) (N := 6) (ty := .int) (v := .int 0) hx hb hts n4 tyX4 tyX4_ok nmX4 hown hK hP (cD hwd) hS i4 (cg_4 hi4) rfl 4 (by decide) lk0 (fun _ h9 => h9) rfl (by decide +kernel) rfl rfl (Nat.le_of_ble_eq_true rfl) dX4_forget_2 (fun H locs hP _ hS => ?_)
  replace hP := cu_gtold hwd hi4 hP
  obtain ⟨u1, eu1⟩ : ∃ y : St, y = su u 0 4 0 := ⟨_, rfl⟩
  rw [← eu1] at hP
  replace h := h u1 eu1
  refine lv_aload_n hx hb dX4_forget_5 rfl (lv_at hl 0 rfl) ?_
  refine cc_v (va_runV (C := RX4) (As := []) (rest := []) ⟨hx, hb, hml, hown, hts⟩ (c_X4_close hL.g hwd H.size u1 _ h) (cwV 0 hts gX4_forget_X4_close rfl rfl rfl (by decide +kernel) ⟨Nat.le_of_ble_eq_true rfl, Nat.le_of_ble_eq_true rfl⟩) (pcV hC hP hS (cg_4 hi4) rfl) rfl rfl hl.1 rfl (lv_room (Nat.le_of_ble_eq_true rfl)) dX4_forget_6 ⟨Nat.zero_le _, Nat.zero_le _⟩) hS (cA_mono hS.1) (fun u2 H locs h hP hS => ?_)
  exact W.vret hx hb hr (fun t ht hW => ⟨⟨_, rfl, h, by show va_P _ _ _ t.heap; rw [ht]; exact hP⟩, hS.F ht⟩) hS.2.2 dX4_forget_9
set_option maxRecDepth 100000 in
set_option maxHeartbeats 4000000 in
theorem c_X4_forget {l : Launch} {D : va_G} {cI cG cZ cJ : ClassId} {ts : Nat × Nat} {L : List Nat} {ad : Nat → Nat} {al : Nat} (hL : Lf L al) (hwd : WD L ad) (sz : Nat) (u : St) (Q : St → Prop) (h : f_X4_forget al u Q) : Met l yX4_forget wsX4_forget ({ frames := 5, cells := 0, slots := 0, locals := 118 }) (va_Pc [.ref (ad 4)] (PC D cI cG cZ cJ ts L ad al sz u)) (va_Qv Q (fun u9 t => va_P D vwCl (cW cI cG L ad al u9) t.heap) (cA L ad sz)) 0 0 (cA L ad sz) := by
  refine Met.ofW (cc := cX4_forget) (maxL := 1) (ret := none) (by decide) rfl ?_
  intro p e s m args below meth c s₁ B hml hv
  obtain ⟨rfl, hsz, hP, hC⟩ := hv
  subst hsz
  have X : FX RX4 wsX4_forget cX4_forget 1 none D cI cG cZ cJ ts L ad p s m _ meth c := ⟨B.exec, B.bytes, hml, findClass_of_methodNamed B.named, atoms_spec (ws := wsX4_forget) B.pre, B.returns, B.notSynchronized, hwd, hC⟩
  have hl := lv_entry ([.ref (ad 4)]) (n := 1) (Nat.le_of_ble_eq_true rfl)
  rw [lg_entry_eq]
  generalize (lg_sl ([.ref (ad 4)]) ++ List.replicate (1 - (lg_sl ([.ref (ad 4)])).length) Slot.unset).toArray = ls at hl ⊢
  exact w_X4_forget hL X Q u _ _ _ h hP va_S.rf hl
set_option maxRecDepth 100000 in
set_option maxHeartbeats 4000000 in
theorem w_X2_spell_L5 {p : Program} {l : Launch} {e : Env} {s : State} {m : MethodId} {args : Array Value} {below : List Frame} {meth : Method} {c : Code} {D : va_G} {cI cG cZ cJ : ClassId} {ts : Nat × Nat} {L : List Nat} {ad : Nat → Nat} {al : Nat} {k2 : Nat} (hL : Lf L al) (hka2 : isA k2) (hm2 : k2 ∈ L) (X : FX RX2 wsX2_spell cX2_spell 5 none D cI cG cZ cJ ts L ad p s m args meth c)  (Q : St → Prop)
    (K0 : St → Prop) (hk0 : ∀ (u : St) (H : Heap) (locs : List Loc) (ls : Array Slot), K0 u → va_P D vwCl (cW cI cG L ad al u) H → va_S (cA L ad s.heap.size) s.heap H locs → lv_has ls 5 [] → W p l e (headSpec wsX2_spell { frames := 2, cells := 0, slots := 0, locals := 43 }).room s m args below meth c H locs 0 0 (MQ below (va_Qv Q (fun u9 t => va_P D vwCl (cW cI cG L ad al u9) t.heap) (cA L ad s.heap.size)) args s 0 0 (cA L ad s.heap.size)) (F0 m 46 ls []))
    : ∀ (n : Nat) (a3 : Int32) (a4 : Int32) (u : St) (H : Heap) (locs : List Loc) (ls : Array Slot), f_X2_spell_L5 al k2 Q K0 n a3 a4 u → va_P D vwCl (cW cI cG L ad al u) H → va_S (cA L ad s.heap.size) s.heap H locs → lv_has ls 5 [(0, .ref (ad 1)), (2, .ref (ad k2)), (3, .int a3), (4, .int a4)] → W p l e (headSpec wsX2_spell { frames := 2, cells := 0, slots := 0, locals := 43 }).room s m args below meth c H locs 0 0 (MQ below (va_Qv Q (fun u9 t => va_P D vwCl (cW cI cG L ad al u9) t.heap) (cA L ad s.heap.size)) args s 0 0 (cA L ad s.heap.size)) (F0 m 5 ls []) := by
  obtain ⟨hx, hb, hml, hown, hts, hr, hlocks, hwd, hC⟩ := id X
  have hK := hC.1
  have m1 : 1 ∈ L := hL 1 (by omega)
  obtain ⟨i1, hi1⟩ := wL_ix m1
  obtain ⟨ik2, hik2⟩ := wL_ix hm2
  have lk0 := hts (.initialized RX6) (by decide +kernel)
  have lk1 := hts (.static yX6_write) (by decide +kernel)
  have lk2 := hts (.fieldLink RX2 9 "FormForge$Field" "p" "I") (by decide +kernel)
  have n2 : ∀ w ∈ wsX20, w ∈ wsX2_spell := by decide +kernel
  have hN3 := hC.2.1 _ (List.mem_of_getElem? (i := 3) rfl)
  intro n
  induction n with
  | zero =>
    intro a3 a4 u H locs ls h; exact h.elim
  | succ n ih =>
    intro a3 a4 u H locs ls h hP hS hl
    replace h : f_X2_spell_L5_s al k2 Q K0 (f_X2_spell_L5 al k2 Q K0 n) a3 a4 u := h
    unfold f_X2_spell_L5_s at h
    refine lv_iload hx hb dX2_spell_5 (lv_at hl 3 rfl) ?_
    refine lv_iconst (v := 5) hx hb dX2_spell_7 (by decide) ?_
    refine lv_icmp_ge (tgt := 46) hx hb dX2_spell_8 (by decide) (fun c1 => ?_) (fun c1 => ?_)
    · replace h := h.1 c1
      exact hk0  _ _ _ _ h hP hS (lv_sub hl [] rfl)
    · replace h := h.2 c1
      refine lv_aload_n hx hb dX2_spell_11 rfl (lv_at hl 1 rfl) ?_
      refine lv_iload hx hb dX2_spell_12 (lv_at hl 3 rfl) ?_
      refine lv_aload_n hx hb dX2_spell_14 rfl (lv_at hl 0 rfl) ?_
      refine lv_iload_n hx hb dX2_spell_15 rfl (lv_at hl 2 rfl) ?_
      refine cc_i (va_runV (C := RX2) (As := [.int a3]) (rest := [.int a4, .ref (ad k2)]) ⟨hx, hb, hml, hown, hts⟩ (c_X2_rest hL.g hwd H.size u a3 _ h) (cwV 1 hts gX2_spell_X2_rest rfl rfl rfl (by decide +kernel) ⟨Nat.le_of_ble_eq_true rfl, Nat.le_of_ble_eq_true rfl⟩) (pcV hC hP hS (cg_1 hi1) rfl) rfl rfl hl.1 rfl (lv_room (Nat.le_of_ble_eq_true rfl)) dX2_spell_16 ⟨Nat.zero_le _, Nat.zero_le _⟩) hS (cA_mono hS.1) (fun v2 u3 H locs h hP hS => ?_)
      refine cc_v (va_runSN (As := [.ref (ad k2), .int a4, .int v2]) (rest := []) ⟨hx, hb, hml, hown, hts⟩ (c_X6_write hL.g hka2 hm2 hwd H.size u3 a4 v2 _ h) ⟨va_cnB (host := RX6) 3 hts gX2_spell_X6_write_n28 rfl rfl rfl hN3 lk0 (by decide +kernel) ⟨Nat.le_of_ble_eq_true rfl, Nat.le_of_ble_eq_true rfl⟩, lk1, trivial⟩ (pcS hC hP hS) rfl rfl hl.1 rfl (lv_room (Nat.le_of_ble_eq_true rfl)) dX2_spell_19 ⟨Nat.zero_le _, Nat.zero_le _⟩) hS (cA_mono hS.1) (fun u4 H locs h hP hS => ?_)
      refine lv_aload_n hx hb dX2_spell_22 rfl (lv_at hl 0 rfl) ?_
      refine va_get (C := RX2) (T := TX2) (N := 1) hx hb hts n2 hown hK hP i1 (cg_1 hi1) rfl 0 (by decide) lk2 (fun _ h9 => h9) rfl dX2_spell_23 ?_
      refine lv_if_le (tgt := 38) hx hb dX2_spell_26 (by decide) (fun c5 => ?_) (fun c5 => ?_)
      · replace h := h.1 c5
        refine lv_iconst (v := 0) hx hb dX2_spell_38 (by decide) ?_
        refine lv_istore_n (lv' := [(3, .int 0), (0, .ref (ad 1)), (2, .ref (ad k2)), (4, .int a4)]) hx hb dX2_spell_39 rfl hl (by decide) rfl (fun ls hl => ?_)
        obtain ⟨v6, ev6⟩ : ∃ y : Int32, y = a4 + 1 := ⟨_, rfl⟩
        refine lv_iinc (v := v6) (lv' := [(4, .int v6), (3, .int 0), (0, .ref (ad 1)), (2, .ref (ad k2))]) hx hb dX2_spell_40 hl (k := 3) rfl (by rw [ev6]; rfl) (by decide) rfl (fun ls hl => ?_)
        replace h := h v6 ev6
        refine lv_goto (tgt := 5) hx hb dX2_spell_43 (by decide) ?_
        exact ih 0 v6 _ _ _ _ h hP hS (lv_sub hl [2, 3, 1, 0] rfl)
      · replace h := h.2 c5
        refine lv_iload_n hx hb dX2_spell_29 rfl (lv_at hl 2 rfl) ?_
        refine lv_aload_n hx hb dX2_spell_30 rfl (lv_at hl 0 rfl) ?_
        refine va_get (C := RX2) (T := TX2) (N := 1) hx hb hts n2 hown hK hP i1 (cg_1 hi1) rfl 0 (by decide) lk2 (fun _ h9 => h9) rfl dX2_spell_31 ?_
        refine lv_idiv hx hb dX2_spell_34 h.1 ?_
        replace h := h.2
        refine lv_topi (fun v7 ev7 => ?_)
        replace h := h v7 ev7
        refine lv_goto (tgt := 39) hx hb dX2_spell_35 (by decide) ?_
        refine lv_istore_n (lv' := [(3, .int v7), (0, .ref (ad 1)), (2, .ref (ad k2)), (4, .int a4)]) hx hb dX2_spell_39 rfl hl (by decide) rfl (fun ls hl => ?_)
        obtain ⟨v8, ev8⟩ : ∃ y : Int32, y = a4 + 1 := ⟨_, rfl⟩
        refine lv_iinc (v := v8) (lv' := [(4, .int v8), (3, .int v7), (0, .ref (ad 1)), (2, .ref (ad k2))]) hx hb dX2_spell_40 hl (k := 3) rfl (by rw [ev8]; rfl) (by decide) rfl (fun ls hl => ?_)
        replace h := h v8 ev8
        refine lv_goto (tgt := 5) hx hb dX2_spell_43 (by decide) ?_
        exact ih v7 v8 _ _ _ _ h hP hS (lv_sub hl [2, 3, 1, 0] rfl)
set_option maxRecDepth 100000 in
set_option maxHeartbeats 4000000 in
theorem w_X2_spell {p : Program} {l : Launch} {e : Env} {s : State} {m : MethodId} {args : Array Value} {below : List Frame} {meth : Method} {c : Code} {D : va_G} {cI cG cZ cJ : ClassId} {ts : Nat × Nat} {L : List Nat} {ad : Nat → Nat} {al : Nat} {k2 : Nat} (hL : Lf L al) (hka2 : isA k2) (hm2 : k2 ∈ L) (X : FX RX2 wsX2_spell cX2_spell 5 none D cI cG cZ cJ ts L ad p s m args meth c) (a1 : Int32) (Q : St → Prop) (u : St) (H : Heap) (locs : List Loc) (ls : Array Slot) (h : f_X2_spell al a1 k2 u Q) (hP : va_P D vwCl (cW cI cG L ad al u) H) (hS : va_S (cA L ad s.heap.size) s.heap H locs) (hl : lv_has ls 5 [(0, .ref (ad 1)), (1, .int a1), (2, .ref (ad k2))]) : W p l e (headSpec wsX2_spell { frames := 2, cells := 0, slots := 0, locals := 43 }).room s m args below meth c H locs 0 0 (MQ below (va_Qv Q (fun u9 t => va_P D vwCl (cW cI cG L ad al u9) t.heap) (cA L ad s.heap.size)) args s 0 0 (cA L ad s.heap.size)) (F0 m 0 ls []) := by
  obtain ⟨hx, hb, hml, hown, hts, hr, hlocks, hwd, hC⟩ := id X
  have hK := hC.1
  have m1 : 1 ∈ L := hL 1 (by omega)
  obtain ⟨i1, hi1⟩ := wL_ix m1
  obtain ⟨ik2, hik2⟩ := wL_ix hm2
  have lk0 := hts (.initialized RX6) (by decide +kernel)
  have lk1 := hts (.static yX6_write) (by decide +kernel)
  have lk2 := hts (.fieldLink RX2 9 "FormForge$Field" "p" "I") (by decide +kernel)
  have n2 : ∀ w ∈ wsX20, w ∈ wsX2_spell := by decide +kernel
  have hN3 := hC.2.1 _ (List.mem_of_getElem? (i := 3) rfl)
  unfold f_X2_spell at h
  refine lv_iload_n hx hb dX2_spell_0 rfl (lv_at hl 1 rfl) ?_
  refine lv_istore_n (lv' := [(3, .int a1), (0, .ref (ad 1)), (1, .int a1), (2, .ref (ad k2))]) hx hb dX2_spell_1 rfl hl (by decide) rfl (fun ls hl => ?_)
  refine lv_iconst (v := 0) hx hb dX2_spell_2 (by decide) ?_
  refine lv_istore (lv' := [(4, .int 0), (3, .int a1), (0, .ref (ad 1)), (1, .int a1), (2, .ref (ad k2))]) hx hb dX2_spell_3 hl (by decide) rfl (fun ls hl => ?_)
  obtain ⟨n9, h⟩ := h
  refine w_X2_spell_L5 hL hka2 hm2 X _ _ (fun u10 H locs ls h hP hS hl => ?_) n9 a1 0 _ _ _ _ h hP hS (lv_sub hl [2, 4, 1, 0] rfl)
  exact W.vret hx hb hr (fun t ht hW => ⟨⟨_, rfl, h, by show va_P _ _ _ t.heap; rw [ht]; exact hP⟩, hS.F ht⟩) hS.2.2 dX2_spell_46
set_option maxRecDepth 100000 in
set_option maxHeartbeats 4000000 in
theorem c_X2_spell {l : Launch} {D : va_G} {cI cG cZ cJ : ClassId} {ts : Nat × Nat} {L : List Nat} {ad : Nat → Nat} {al : Nat} {k2 : Nat} (hL : Lf L al) (hka2 : isA k2) (hm2 : k2 ∈ L) (hwd : WD L ad) (sz : Nat) (u : St) (a1 : Int32) (Q : St → Prop) (h : f_X2_spell al a1 k2 u Q) : Met l yX2_spell wsX2_spell ({ frames := 2, cells := 0, slots := 0, locals := 43 }) (va_Pc [.ref (ad 1), .int a1, .ref (ad k2)] (PC D cI cG cZ cJ ts L ad al sz u)) (va_Qv Q (fun u9 t => va_P D vwCl (cW cI cG L ad al u9) t.heap) (cA L ad sz)) 0 0 (cA L ad sz) := by
  refine Met.ofW (cc := cX2_spell) (maxL := 5) (ret := none) (by decide) rfl ?_
  intro p e s m args below meth c s₁ B hml hv
  obtain ⟨rfl, hsz, hP, hC⟩ := hv
  subst hsz
  have X : FX RX2 wsX2_spell cX2_spell 5 none D cI cG cZ cJ ts L ad p s m _ meth c := ⟨B.exec, B.bytes, hml, findClass_of_methodNamed B.named, atoms_spec (ws := wsX2_spell) B.pre, B.returns, B.notSynchronized, hwd, hC⟩
  have hl := lv_entry ([.ref (ad 1), .int a1, .ref (ad k2)]) (n := 5) (Nat.le_of_ble_eq_true rfl)
  rw [lg_entry_eq]
  generalize (lg_sl ([.ref (ad 1), .int a1, .ref (ad k2)]) ++ List.replicate (5 - (lg_sl ([.ref (ad 1), .int a1, .ref (ad k2)])).length) Slot.unset).toArray = ls at hl ⊢
  exact w_X2_spell hL hka2 hm2 X a1 Q u _ _ _ h hP va_S.rf hl
set_option maxRecDepth 100000 in
set_option maxHeartbeats 4000000 in
theorem w_X3_image {p : Program} {l : Launch} {e : Env} {s : State} {m : MethodId} {args : Array Value} {below : List Frame} {meth : Method} {c : Code} {D : va_G} {cI cG cZ cJ : ClassId} {ts : Nat × Nat} {L : List Nat} {ad : Nat → Nat} {al : Nat} {g : Nat} (hL : Lf L al) (hg : g < al) (X : FX RX3 wsX3_image cX3_image 3 (some .int) D cI cG cZ cJ ts L ad p s m args meth c) (a1 : Int32) (a2 : Int32) (Q : Int32 → St → Prop) (u : St) (H : Heap) (locs : List Loc) (ls : Array Slot) (h : f_X3_image al g a1 a2 u Q) (hP : va_P D vwCl (cW cI cG L ad al u) H) (hS : va_S (cA L ad s.heap.size) s.heap H locs) (hl : lv_has ls 3 [(0, .ref (ad (22 + 2 * g))), (1, .int a1), (2, .int a2)]) : W p l e (headSpec wsX3_image { frames := 1, cells := 0, slots := 0, locals := 21 }).room s m args below meth c H locs 0 0 (MQ below (va_Qi Q (fun u9 t => va_P D vwCl (cW cI cG L ad al u9) t.heap) (cA L ad s.heap.size)) args s 0 0 (cA L ad s.heap.size)) (F0 m 0 ls []) := by
  obtain ⟨hx, hb, hml, hown, hts, hr, hlocks, hwd, hC⟩ := id X
  have hK := hC.1
  have mg : 22 + 2 * g ∈ L := hL _ (by omega)
  have mm : 23 + 2 * g ∈ L := hL _ (by omega)
  obtain ⟨ig, hig⟩ := wL_ix mg
  obtain ⟨im, him⟩ := wL_ix mm
  have lk0 := hts (.fieldLink RX3 11 "FormForge$Generator" "images" "[I") (by decide +kernel)
  have lk1 := hts (.fieldLink RX3 29 "FormForge$Generator" "STARTS" "[I") (by decide +kernel)
  have lk2 := hts (.initialized RX6) (by decide +kernel)
  have lk3 := hts (.static yX6_read) (by decide +kernel)
  have n3 : ∀ w ∈ wsX30, w ∈ wsX3_image := by decide +kernel
  have hN2 := hC.2.1 _ (List.mem_of_getElem? (i := 2) rfl)
  unfold f_X3_image at h
  refine lv_aload_n hx hb dX3_image_0 rfl (lv_at hl 0 rfl) ?_
  refine va_get (C := RX3) (T := TX3) (N := 2) hx hb hts n3 hown hK hP ig (cg_g hig) rfl 0 (by decide) lk0 (fun _ h9 => h9) rfl dX3_image_1 ?_
  refine va_gets hx hb hC.2.2.2.2.2.1 hS hown lk1 (fun _ h9 => h9) dX3_image_4 ?_
  refine lv_iload_n hx hb dX3_image_7 rfl (lv_at hl 1 rfl) ?_
  refine cc_i (va_runSN (As := [.ref ts.1, .int a1]) (rest := [.ref (ad (23 + 2 * g))]) ⟨hx, hb, hml, hown, hts⟩ (c_X6_readS hL.g hwd H.size u a1 _ h) ⟨va_cnB (host := RX6) 2 hts gX3_image_X6_read_n32 rfl rfl rfl hN2 lk2 (by decide +kernel) ⟨Nat.le_of_ble_eq_true rfl, Nat.le_of_ble_eq_true rfl⟩, lk3, trivial⟩ (pcS hC hP hS) rfl rfl hl.1 rfl (lv_room (Nat.le_of_ble_eq_true rfl)) dX3_image_8 ⟨Nat.zero_le _, Nat.zero_le _⟩) hS (cA_mono hS.1) (fun v1 u2 H locs h hP hS => ?_)
  refine lv_iload_n hx hb dX3_image_11 rfl (lv_at hl 2 rfl) ?_
  refine lv_iadd hx hb dX3_image_12 ?_
  refine cc_i (va_runSN (As := [.ref (ad (23 + 2 * g)), .int (v1 + a2)]) (rest := []) ⟨hx, hb, hml, hown, hts⟩ (c_X6_read hL.g (Or.inr ⟨by omega, by omega⟩) mm hwd H.size u2 (v1 + a2) _ h) ⟨va_cnB (host := RX6) 2 hts gX3_image_X6_read_n32 rfl rfl rfl hN2 lk2 (by decide +kernel) ⟨Nat.le_of_ble_eq_true rfl, Nat.le_of_ble_eq_true rfl⟩, lk3, trivial⟩ (pcS hC hP hS) rfl rfl hl.1 rfl (lv_room (Nat.le_of_ble_eq_true rfl)) dX3_image_13 ⟨Nat.zero_le _, Nat.zero_le _⟩) hS (cA_mono hS.1) (fun v3 u4 H locs h hP hS => ?_)
  exact W.iret (v := v3) hx hb hr (fun t ht hW => ⟨⟨_, _, rfl, h, by show va_P _ _ _ t.heap; rw [ht]; exact hP⟩, hS.F ht⟩) hS.2.2 dX3_image_16
set_option maxRecDepth 100000 in
set_option maxHeartbeats 4000000 in
theorem c_X3_image {l : Launch} {D : va_G} {cI cG cZ cJ : ClassId} {ts : Nat × Nat} {L : List Nat} {ad : Nat → Nat} {al : Nat} {g : Nat} (hL : Lf L al) (hg : g < al) (hwd : WD L ad) (sz : Nat) (u : St) (a1 : Int32) (a2 : Int32) (Q : Int32 → St → Prop) (h : f_X3_image al g a1 a2 u Q) : Met l yX3_image wsX3_image ({ frames := 1, cells := 0, slots := 0, locals := 21 }) (va_Pc [.ref (ad (22 + 2 * g)), .int a1, .int a2] (PC D cI cG cZ cJ ts L ad al sz u)) (va_Qi Q (fun u9 t => va_P D vwCl (cW cI cG L ad al u9) t.heap) (cA L ad sz)) 0 0 (cA L ad sz) := by
  refine Met.ofW (cc := cX3_image) (maxL := 3) (ret := (some .int)) (by decide) rfl ?_
  intro p e s m args below meth c s₁ B hml hv
  obtain ⟨rfl, hsz, hP, hC⟩ := hv
  subst hsz
  have X : FX RX3 wsX3_image cX3_image 3 (some .int) D cI cG cZ cJ ts L ad p s m _ meth c := ⟨B.exec, B.bytes, hml, findClass_of_methodNamed B.named, atoms_spec (ws := wsX3_image) B.pre, B.returns, B.notSynchronized, hwd, hC⟩
  have hl := lv_entry ([.ref (ad (22 + 2 * g)), .int a1, .int a2]) (n := 3) (Nat.le_of_ble_eq_true rfl)
  rw [lg_entry_eq]
  generalize (lg_sl ([.ref (ad (22 + 2 * g)), .int a1, .int a2]) ++ List.replicate (3 - (lg_sl ([.ref (ad (22 + 2 * g)), .int a1, .int a2])).length) Slot.unset).toArray = ls at hl ⊢
  exact w_X3_image hL hg X a1 a2 Q u _ _ _ h hP va_S.rf hl
set_option maxRecDepth 100000 in
set_option maxHeartbeats 4000000 in
theorem w_X4_image {p : Program} {l : Launch} {e : Env} {s : State} {m : MethodId} {args : Array Value} {below : List Frame} {meth : Method} {c : Code} {D : va_G} {cI cG cZ cJ : ClassId} {ts : Nat × Nat} {L : List Nat} {ad : Nat → Nat} {al : Nat} (hL : Lf L al) (X : FX RX4 wsX4_image cX4_image 5 (some .int) D cI cG cZ cJ ts L ad p s m args meth c) (a1 : Int32) (a2 : Int32) (a3 : Int32) (Q : Int32 → St → Prop) (u : St) (H : Heap) (locs : List Loc) (ls : Array Slot) (h : f_X4_image al a1 a2 a3 u Q) (hP : va_P D vwCl (cW cI cG L ad al u) H) (hS : va_S (cA L ad s.heap.size) s.heap H locs) (hl : lv_has ls 5 [(0, .ref (ad 4)), (1, .int a1), (2, .int a2), (3, .int a3)]) : W p l e (headSpec wsX4_image { frames := 2, cells := 0, slots := 0, locals := 43 }).room s m args below meth c H locs 0 0 (MQ below (va_Qi Q (fun u9 t => va_P D vwCl (cW cI cG L ad al u9) t.heap) (cA L ad s.heap.size)) args s 0 0 (cA L ad s.heap.size)) (F0 m 0 ls []) := by
  obtain ⟨hx, hb, hml, hown, hts, hr, hlocks, hwd, hC⟩ := id X
  have hK := hC.1
  have m4 : 4 ∈ L := hL 4 (by omega)
  obtain ⟨i4, hi4⟩ := wL_ix m4
  unfold f_X4_image at h
  refine lv_aload_n hx hb dX4_image_0 rfl (lv_at hl 0 rfl) ?_
  refine lv_iload_n hx hb dX4_image_1 rfl (lv_at hl 1 rfl) ?_
  refine cc_q (va_runV (C := RX4) (As := [.int a1]) (rest := []) ⟨hx, hb, hml, hown, hts⟩ (c_X4_pick hL.g hwd H.size u a1 _ h) (cwV 1 hts gX4_image_X4_pick rfl rfl rfl (by decide +kernel) ⟨Nat.le_of_ble_eq_true rfl, Nat.le_of_ble_eq_true rfl⟩) (pcV hC hP hS (cg_4 hi4) rfl) rfl rfl hl.1 rfl (lv_room (Nat.le_of_ble_eq_true rfl)) dX4_image_2 ⟨Nat.zero_le _, Nat.zero_le _⟩) hS (cA_mono hS.1) (fun u2 H locs h hP hS => ?_) (fun j4 u2 H locs hj h hP hS => ?_)
  · replace h := h.1 rfl
    refine lv_astoreN (lv' := [(4, .null), (0, .ref (ad 4)), (1, .int a1), (2, .int a2), (3, .int a3)]) hx hb dX4_image_5 hl (by decide) rfl (fun ls hl => ?_)
    refine lv_aloadN hx hb dX4_image_7 (lv_at hl 0 rfl) ?_
    refine lv_ifnonnullN hx hb dX4_image_9 ?_
    refine lv_iload_n hx hb dX4_image_12 rfl (lv_at hl 4 rfl) ?_
    refine lv_goto (tgt := 23) hx hb dX4_image_13 (by decide) ?_
    exact W.iret (v := a3) hx hb hr (fun t ht hW => ⟨⟨_, _, rfl, h, by show va_P _ _ _ t.heap; rw [ht]; exact hP⟩, hS.F ht⟩) hS.2.2 dX4_image_23
  · replace h := h.2 j4 hj rfl
    obtain ⟨ij, hij⟩ := wL_ix (hL (22 + 2 * j4) (by omega))
    refine lv_astore (lv' := [(4, .ref (ad (22 + 2 * j4))), (0, .ref (ad 4)), (1, .int a1), (2, .int a2), (3, .int a3)]) hx hb dX4_image_5 hl (by decide) rfl (fun ls hl => ?_)
    refine lv_aload hx hb dX4_image_7 (lv_at hl 0 rfl) ?_
    refine lv_ifnonnull (tgt := 16) hx hb dX4_image_9 (by decide) ?_
    refine lv_aload hx hb dX4_image_16 (lv_at hl 0 rfl) ?_
    refine lv_iload_n hx hb dX4_image_18 rfl (lv_at hl 3 rfl) ?_
    refine lv_iload_n hx hb dX4_image_19 rfl (lv_at hl 4 rfl) ?_
    refine cc_i (va_runV (C := RX3) (As := [.int a2, .int a3]) (rest := []) ⟨hx, hb, hml, hown, hts⟩ (c_X3_image hL hj hwd H.size u2 a2 a3 _ h) (cwV 2 hts gX4_image_X3_image rfl rfl rfl (by decide +kernel) ⟨Nat.le_of_ble_eq_true rfl, Nat.le_of_ble_eq_true rfl⟩) (pcV hC hP hS (cg_g hij) rfl) rfl rfl hl.1 rfl (lv_room (Nat.le_of_ble_eq_true rfl)) dX4_image_20 ⟨Nat.zero_le _, Nat.zero_le _⟩) hS (cA_mono hS.1) (fun v5 u6 H locs h hP hS => ?_)
    exact W.iret (v := v5) hx hb hr (fun t ht hW => ⟨⟨_, _, rfl, h, by show va_P _ _ _ t.heap; rw [ht]; exact hP⟩, hS.F ht⟩) hS.2.2 dX4_image_23
set_option maxRecDepth 100000 in
set_option maxHeartbeats 4000000 in
theorem c_X4_image {l : Launch} {D : va_G} {cI cG cZ cJ : ClassId} {ts : Nat × Nat} {L : List Nat} {ad : Nat → Nat} {al : Nat} (hL : Lf L al) (hwd : WD L ad) (sz : Nat) (u : St) (a1 : Int32) (a2 : Int32) (a3 : Int32) (Q : Int32 → St → Prop) (h : f_X4_image al a1 a2 a3 u Q) : Met l yX4_image wsX4_image ({ frames := 2, cells := 0, slots := 0, locals := 43 }) (va_Pc [.ref (ad 4), .int a1, .int a2, .int a3] (PC D cI cG cZ cJ ts L ad al sz u)) (va_Qi Q (fun u9 t => va_P D vwCl (cW cI cG L ad al u9) t.heap) (cA L ad sz)) 0 0 (cA L ad sz) := by
  refine Met.ofW (cc := cX4_image) (maxL := 5) (ret := (some .int)) (by decide) rfl ?_
  intro p e s m args below meth c s₁ B hml hv
  obtain ⟨rfl, hsz, hP, hC⟩ := hv
  subst hsz
  have X : FX RX4 wsX4_image cX4_image 5 (some .int) D cI cG cZ cJ ts L ad p s m _ meth c := ⟨B.exec, B.bytes, hml, findClass_of_methodNamed B.named, atoms_spec (ws := wsX4_image) B.pre, B.returns, B.notSynchronized, hwd, hC⟩
  have hl := lv_entry ([.ref (ad 4), .int a1, .int a2, .int a3]) (n := 5) (Nat.le_of_ble_eq_true rfl)
  rw [lg_entry_eq]
  generalize (lg_sl ([.ref (ad 4), .int a1, .int a2, .int a3]) ++ List.replicate (5 - (lg_sl ([.ref (ad 4), .int a1, .int a2, .int a3])).length) Slot.unset).toArray = ls at hl ⊢
  exact w_X4_image hL X a1 a2 a3 Q u _ _ _ h hP va_S.rf hl
set_option maxRecDepth 100000 in
set_option maxHeartbeats 4000000 in
theorem w_X4_leaves_L2 {p : Program} {l : Launch} {e : Env} {s : State} {m : MethodId} {args : Array Value} {below : List Frame} {meth : Method} {c : Code} {D : va_G} {cI cG cZ cJ : ClassId} {ts : Nat × Nat} {L : List Nat} {ad : Nat → Nat} {al : Nat} (hL : Lf L al) (X : FX RX4 wsX4_leaves cX4_leaves 4 (some .boolean) D cI cG cZ cJ ts L ad p s m args meth c) (a1 : Int32) (a2 : Int32) (Q : Int32 → St → Prop)
    (K0 : St → Prop) (hk0 : ∀ (u : St) (H : Heap) (locs : List Loc) (ls : Array Slot), K0 u → va_P D vwCl (cW cI cG L ad al u) H → va_S (cA L ad s.heap.size) s.heap H locs → lv_has ls 4 [] → W p l e (headSpec wsX4_leaves { frames := 3, cells := 0, slots := 0, locals := 67 }).room s m args below meth c H locs 0 0 (MQ below (va_Qi Q (fun u9 t => va_P D vwCl (cW cI cG L ad al u9) t.heap) (cA L ad s.heap.size)) args s 0 0 (cA L ad s.heap.size)) (F0 m 21 ls []))
    (K1 : St → Prop) (hk1 : ∀ (u : St) (H : Heap) (locs : List Loc) (ls : Array Slot), K1 u → va_P D vwCl (cW cI cG L ad al u) H → va_S (cA L ad s.heap.size) s.heap H locs → lv_has ls 4 [] → W p l e (headSpec wsX4_leaves { frames := 3, cells := 0, slots := 0, locals := 67 }).room s m args below meth c H locs 0 0 (MQ below (va_Qi Q (fun u9 t => va_P D vwCl (cW cI cG L ad al u9) t.heap) (cA L ad s.heap.size)) args s 0 0 (cA L ad s.heap.size)) (F0 m 29 ls []))
    : ∀ (n : Nat) (a3 : Int32) (u : St) (H : Heap) (locs : List Loc) (ls : Array Slot), f_X4_leaves_L2 al a1 a2 Q K0 K1 n a3 u → va_P D vwCl (cW cI cG L ad al u) H → va_S (cA L ad s.heap.size) s.heap H locs → lv_has ls 4 [(0, .ref (ad 4)), (1, .int a1), (2, .int a2), (3, .int a3)] → W p l e (headSpec wsX4_leaves { frames := 3, cells := 0, slots := 0, locals := 67 }).room s m args below meth c H locs 0 0 (MQ below (va_Qi Q (fun u9 t => va_P D vwCl (cW cI cG L ad al u9) t.heap) (cA L ad s.heap.size)) args s 0 0 (cA L ad s.heap.size)) (F0 m 2 ls []) := by
  obtain ⟨hx, hb, hml, hown, hts, hr, hlocks, hwd, hC⟩ := id X
  have hK := hC.1
  have m4 : 4 ∈ L := hL 4 (by omega)
  obtain ⟨i4, hi4⟩ := wL_ix m4
  have lk0 := hts (.fieldLink RX4 31 "FormForge$Group" "told" "I") (by decide +kernel)
  have n4 : ∀ w ∈ wsX40, w ∈ wsX4_leaves := by decide +kernel
  intro n
  induction n with
  | zero =>
    intro a3 u H locs ls h; exact h.elim
  | succ n ih =>
    intro a3 u H locs ls h hP hS hl
    replace h : f_X4_leaves_L2_s al a1 a2 Q K0 K1 (f_X4_leaves_L2 al a1 a2 Q K0 K1 n) a3 u := h
    unfold f_X4_leaves_L2_s at h
    refine lv_iload_n hx hb dX4_leaves_2 rfl (lv_at hl 3 rfl) ?_
    refine lv_aload_n hx hb dX4_leaves_3 rfl (lv_at hl 0 rfl) ?_
    refine va_get (C := RX4) (T := TX4) (N := 6) hx hb hts n4 hown hK hP i4 (cg_4 hi4) rfl 4 (by decide) lk0 (fun _ h9 => h9) rfl dX4_leaves_4 ?_
    refine lv_icmp_ge (tgt := 29) hx hb dX4_leaves_7 (by decide) (fun c1 => ?_) (fun c1 => ?_)
    · replace h := h.1 c1
      exact hk1  _ _ _ _ h hP hS (lv_sub hl [] rfl)
    · replace h := h.2 c1
      refine lv_aload_n hx hb dX4_leaves_10 rfl (lv_at hl 0 rfl) ?_
      refine lv_iload_n hx hb dX4_leaves_11 rfl (lv_at hl 3 rfl) ?_
      refine lv_iload_n hx hb dX4_leaves_12 rfl (lv_at hl 1 rfl) ?_
      refine lv_iload_n hx hb dX4_leaves_13 rfl (lv_at hl 2 rfl) ?_
      refine cc_i (va_runV (C := RX4) (As := [.int a3, .int a1, .int a2]) (rest := []) ⟨hx, hb, hml, hown, hts⟩ (c_X4_image hL hwd H.size u a3 a1 a2 _ h) (cwV 3 hts gX4_leaves_X4_image rfl rfl rfl (by decide +kernel) ⟨Nat.le_of_ble_eq_true rfl, Nat.le_of_ble_eq_true rfl⟩) (pcV hC hP hS (cg_4 hi4) rfl) rfl rfl hl.1 rfl (lv_room (Nat.le_of_ble_eq_true rfl)) dX4_leaves_14 ⟨Nat.zero_le _, Nat.zero_le _⟩) hS (cA_mono hS.1) (fun v2 u3 H locs h hP hS => ?_)
      refine lv_iload_n hx hb dX4_leaves_17 rfl (lv_at hl 2 rfl) ?_
      refine lv_icmp_eq (tgt := 23) hx hb dX4_leaves_18 (by decide) (fun c4 => ?_) (fun c4 => ?_)
      · replace h := h.1 c4
        obtain ⟨v5, ev5⟩ : ∃ y : Int32, y = a3 + 1 := ⟨_, rfl⟩
        refine lv_iinc (v := v5) (lv' := [(3, .int v5), (0, .ref (ad 4)), (1, .int a1), (2, .int a2)]) hx hb dX4_leaves_23 hl (k := 3) rfl (by rw [ev5]; rfl) (by decide) rfl (fun ls hl => ?_)
        replace h := h v5 ev5
        refine lv_goto (tgt := 2) hx hb dX4_leaves_26 (by decide) ?_
        exact ih v5 _ _ _ _ h hP hS (lv_sub hl [1, 2, 3, 0] rfl)
      · replace h := h.2 c4
        exact hk0  _ _ _ _ h hP hS (lv_sub hl [] rfl)
set_option maxRecDepth 100000 in
set_option maxHeartbeats 4000000 in
theorem w_X4_leaves {p : Program} {l : Launch} {e : Env} {s : State} {m : MethodId} {args : Array Value} {below : List Frame} {meth : Method} {c : Code} {D : va_G} {cI cG cZ cJ : ClassId} {ts : Nat × Nat} {L : List Nat} {ad : Nat → Nat} {al : Nat} (hL : Lf L al) (X : FX RX4 wsX4_leaves cX4_leaves 4 (some .boolean) D cI cG cZ cJ ts L ad p s m args meth c) (a1 : Int32) (a2 : Int32) (Q : Int32 → St → Prop) (u : St) (H : Heap) (locs : List Loc) (ls : Array Slot) (h : f_X4_leaves al a1 a2 u Q) (hP : va_P D vwCl (cW cI cG L ad al u) H) (hS : va_S (cA L ad s.heap.size) s.heap H locs) (hl : lv_has ls 4 [(0, .ref (ad 4)), (1, .int a1), (2, .int a2)]) : W p l e (headSpec wsX4_leaves { frames := 3, cells := 0, slots := 0, locals := 67 }).room s m args below meth c H locs 0 0 (MQ below (va_Qi Q (fun u9 t => va_P D vwCl (cW cI cG L ad al u9) t.heap) (cA L ad s.heap.size)) args s 0 0 (cA L ad s.heap.size)) (F0 m 0 ls []) := by
  obtain ⟨hx, hb, hml, hown, hts, hr, hlocks, hwd, hC⟩ := id X
  have hK := hC.1
  have m4 : 4 ∈ L := hL 4 (by omega)
  obtain ⟨i4, hi4⟩ := wL_ix m4
  have lk0 := hts (.fieldLink RX4 31 "FormForge$Group" "told" "I") (by decide +kernel)
  have n4 : ∀ w ∈ wsX40, w ∈ wsX4_leaves := by decide +kernel
  unfold f_X4_leaves at h
  refine lv_iconst (v := 0) hx hb dX4_leaves_0 (by decide) ?_
  refine lv_istore_n (lv' := [(3, .int 0), (0, .ref (ad 4)), (1, .int a1), (2, .int a2)]) hx hb dX4_leaves_1 rfl hl (by decide) rfl (fun ls hl => ?_)
  obtain ⟨n6, h⟩ := h
  refine w_X4_leaves_L2 hL X a1 a2 _ _ (fun u7 H locs ls h hP hS hl => ?_) _ (fun u8 H locs ls h hP hS hl => ?_) n6 0 _ _ _ _ h hP hS (lv_sub hl [1, 2, 3, 0] rfl)
  · refine lv_iconst (v := 0) hx hb dX4_leaves_21 (by decide) ?_
    exact W.zret (ty := .boolean) (v := 0) hx hb hr rfl (fun t ht hW => ⟨⟨_, _, rfl, h, by show va_P _ _ _ t.heap; rw [ht]; exact hP⟩, hS.F ht⟩) hS.2.2 dX4_leaves_22
  · refine lv_iconst (v := 1) hx hb dX4_leaves_29 (by decide) ?_
    exact W.zret (ty := .boolean) (v := 1) hx hb hr rfl (fun t ht hW => ⟨⟨_, _, rfl, h, by show va_P _ _ _ t.heap; rw [ht]; exact hP⟩, hS.F ht⟩) hS.2.2 dX4_leaves_30
set_option maxRecDepth 100000 in
set_option maxHeartbeats 4000000 in
theorem c_X4_leaves {l : Launch} {D : va_G} {cI cG cZ cJ : ClassId} {ts : Nat × Nat} {L : List Nat} {ad : Nat → Nat} {al : Nat} (hL : Lf L al) (hwd : WD L ad) (sz : Nat) (u : St) (a1 : Int32) (a2 : Int32) (Q : Int32 → St → Prop) (h : f_X4_leaves al a1 a2 u Q) : Met l yX4_leaves wsX4_leaves ({ frames := 3, cells := 0, slots := 0, locals := 67 }) (va_Pc [.ref (ad 4), .int a1, .int a2] (PC D cI cG cZ cJ ts L ad al sz u)) (va_Qi Q (fun u9 t => va_P D vwCl (cW cI cG L ad al u9) t.heap) (cA L ad sz)) 0 0 (cA L ad sz) := by
  refine Met.ofW (cc := cX4_leaves) (maxL := 4) (ret := (some .boolean)) (by decide) rfl ?_
  intro p e s m args below meth c s₁ B hml hv
  obtain ⟨rfl, hsz, hP, hC⟩ := hv
  subst hsz
  have X : FX RX4 wsX4_leaves cX4_leaves 4 (some .boolean) D cI cG cZ cJ ts L ad p s m _ meth c := ⟨B.exec, B.bytes, hml, findClass_of_methodNamed B.named, atoms_spec (ws := wsX4_leaves) B.pre, B.returns, B.notSynchronized, hwd, hC⟩
  have hl := lv_entry ([.ref (ad 4), .int a1, .int a2]) (n := 4) (Nat.le_of_ble_eq_true rfl)
  rw [lg_entry_eq]
  generalize (lg_sl ([.ref (ad 4), .int a1, .int a2]) ++ List.replicate (4 - (lg_sl ([.ref (ad 4), .int a1, .int a2])).length) Slot.unset).toArray = ls at hl ⊢
  exact w_X4_leaves hL X a1 a2 Q u _ _ _ h hP va_S.rf hl
set_option maxRecDepth 100000 in
set_option maxHeartbeats 4000000 in
theorem w_X5_clear {p : Program} {l : Launch} {e : Env} {s : State} {m : MethodId} {args : Array Value} {below : List Frame} {meth : Method} {c : Code} {D : va_G} {cI cG cZ cJ : ClassId} {ts : Nat × Nat} {L : List Nat} {ad : Nat → Nat} {al : Nat} (hL : Lf L al) (X : FX RX5 wsX5_clear cX5_clear 1 none D cI cG cZ cJ ts L ad p s m args meth c)  (Q : St → Prop) (u : St) (H : Heap) (locs : List Loc) (ls : Array Slot) (h : f_X5_clear al u Q) (hP : va_P D vwCl (cW cI cG L ad al u) H) (hS : va_S (cA L ad s.heap.size) s.heap H locs) (hl : lv_has ls 1 [(0, .ref (ad 5))]) : W p l e (headSpec wsX5_clear { frames := 1, cells := 0, slots := 0, locals := 23 }).room s m args below meth c H locs 0 0 (MQ below (va_Qv Q (fun u9 t => va_P D vwCl (cW cI cG L ad al u9) t.heap) (cA L ad s.heap.size)) args s 0 0 (cA L ad s.heap.size)) (F0 m 0 ls []) := by
  obtain ⟨hx, hb, hml, hown, hts, hr, hlocks, hwd, hC⟩ := id X
  have hK := hC.1
  have m5 : 5 ∈ L := hL 5 (by omega)
  obtain ⟨i5, hi5⟩ := wL_ix m5
  have m17 : 17 ∈ L := hL 17 (by omega)
  obtain ⟨i17, hi17⟩ := wL_ix m17
  have lk0 := hts (.fieldLink RX5 9 "FormForge$Walk" "places" "[I") (by decide +kernel)
  have n5 : ∀ w ∈ wsX50, w ∈ wsX5_clear := by decide +kernel
  unfold f_X5_clear at h
  refine lv_aload_n hx hb dX5_clear_0 rfl (lv_at hl 0 rfl) ?_
  refine va_get (C := RX5) (T := TX5) (N := 7) hx hb hts n5 hown hK hP i5 (cg_5 hi5) rfl 1 (by decide) lk0 (fun _ h9 => h9) rfl dX5_clear_1 ?_
  refine lv_iconst (v := 0) hx hb dX5_clear_4 (by decide) ?_
  refine cc_v (va_runS (As := [.ref (ad 17), .int 0]) (rest := []) ⟨hx, hb, hml, hown, hts⟩ (c_J7_fill_53178 hL.g (Or.inl ⟨by decide, by decide⟩) m17 hwd H.size u 0 _ h) (va_cwS 2 hts gX5_clear_J7_fill_53178 rfl rfl rfl (by decide +kernel) ⟨Nat.le_of_ble_eq_true rfl, Nat.le_of_ble_eq_true rfl⟩) (pcS hC hP hS) rfl rfl hl.1 rfl (lv_room (Nat.le_of_ble_eq_true rfl)) dX5_clear_5 ⟨Nat.zero_le _, Nat.zero_le _⟩) hS (cA_mono hS.1) (fun u1 H locs h hP hS => ?_)
  exact W.vret hx hb hr (fun t ht hW => ⟨⟨_, rfl, h, by show va_P _ _ _ t.heap; rw [ht]; exact hP⟩, hS.F ht⟩) hS.2.2 dX5_clear_8
set_option maxRecDepth 100000 in
set_option maxHeartbeats 4000000 in
theorem c_X5_clear {l : Launch} {D : va_G} {cI cG cZ cJ : ClassId} {ts : Nat × Nat} {L : List Nat} {ad : Nat → Nat} {al : Nat} (hL : Lf L al) (hwd : WD L ad) (sz : Nat) (u : St) (Q : St → Prop) (h : f_X5_clear al u Q) : Met l yX5_clear wsX5_clear ({ frames := 1, cells := 0, slots := 0, locals := 23 }) (va_Pc [.ref (ad 5)] (PC D cI cG cZ cJ ts L ad al sz u)) (va_Qv Q (fun u9 t => va_P D vwCl (cW cI cG L ad al u9) t.heap) (cA L ad sz)) 0 0 (cA L ad sz) := by
  refine Met.ofW (cc := cX5_clear) (maxL := 1) (ret := none) (by decide) rfl ?_
  intro p e s m args below meth c s₁ B hml hv
  obtain ⟨rfl, hsz, hP, hC⟩ := hv
  subst hsz
  have X : FX RX5 wsX5_clear cX5_clear 1 none D cI cG cZ cJ ts L ad p s m _ meth c := ⟨B.exec, B.bytes, hml, findClass_of_methodNamed B.named, atoms_spec (ws := wsX5_clear) B.pre, B.returns, B.notSynchronized, hwd, hC⟩
  have hl := lv_entry ([.ref (ad 5)]) (n := 1) (Nat.le_of_ble_eq_true rfl)
  rw [lg_entry_eq]
  generalize (lg_sl ([.ref (ad 5)]) ++ List.replicate (1 - (lg_sl ([.ref (ad 5)])).length) Slot.unset).toArray = ls at hl ⊢
  exact w_X5_clear hL X Q u _ _ _ h hP va_S.rf hl
set_option maxRecDepth 100000 in
set_option maxHeartbeats 4000000 in
theorem w_X5_met {p : Program} {l : Launch} {e : Env} {s : State} {m : MethodId} {args : Array Value} {below : List Frame} {meth : Method} {c : Code} {D : va_G} {cI cG cZ cJ : ClassId} {ts : Nat × Nat} {L : List Nat} {ad : Nat → Nat} {al : Nat} (hL : Lf L al) (X : FX RX5 wsX5_met cX5_met 2 (some .boolean) D cI cG cZ cJ ts L ad p s m args meth c) (a1 : Int32) (Q : Int32 → St → Prop) (u : St) (H : Heap) (locs : List Loc) (ls : Array Slot) (h : f_X5_met al a1 u Q) (hP : va_P D vwCl (cW cI cG L ad al u) H) (hS : va_S (cA L ad s.heap.size) s.heap H locs) (hl : lv_has ls 2 [(0, .ref (ad 5)), (1, .int a1)]) : W p l e (headSpec wsX5_met { frames := 1, cells := 0, slots := 0, locals := 21 }).room s m args below meth c H locs 0 0 (MQ below (va_Qi Q (fun u9 t => va_P D vwCl (cW cI cG L ad al u9) t.heap) (cA L ad s.heap.size)) args s 0 0 (cA L ad s.heap.size)) (F0 m 0 ls []) := by
  obtain ⟨hx, hb, hml, hown, hts, hr, hlocks, hwd, hC⟩ := id X
  have hK := hC.1
  have m5 : 5 ∈ L := hL 5 (by omega)
  obtain ⟨i5, hi5⟩ := wL_ix m5
  have m17 : 17 ∈ L := hL 17 (by omega)
  obtain ⟨i17, hi17⟩ := wL_ix m17
  have lk0 := hts (.fieldLink RX5 9 "FormForge$Walk" "places" "[I") (by decide +kernel)
  have lk1 := hts (.initialized RX6) (by decide +kernel)
  have lk2 := hts (.static yX6_read) (by decide +kernel)
  have n5 : ∀ w ∈ wsX50, w ∈ wsX5_met := by decide +kernel
  have hN4 := hC.2.1 _ (List.mem_of_getElem? (i := 4) rfl)
  unfold f_X5_met at h
  refine lv_aload_n hx hb dX5_met_0 rfl (lv_at hl 0 rfl) ?_
  refine va_get (C := RX5) (T := TX5) (N := 7) hx hb hts n5 hown hK hP i5 (cg_5 hi5) rfl 1 (by decide) lk0 (fun _ h9 => h9) rfl dX5_met_1 ?_
  refine lv_iload_n hx hb dX5_met_4 rfl (lv_at hl 1 rfl) ?_
  refine cc_i (va_runSN (As := [.ref (ad 17), .int a1]) (rest := []) ⟨hx, hb, hml, hown, hts⟩ (c_X6_read hL.g (Or.inl ⟨by decide, by decide⟩) m17 hwd H.size u a1 _ h) ⟨va_cnB (host := RX6) 2 hts gX5_met_X6_read_n52 rfl rfl rfl hN4 lk1 (by decide +kernel) ⟨Nat.le_of_ble_eq_true rfl, Nat.le_of_ble_eq_true rfl⟩, lk2, trivial⟩ (pcS hC hP hS) rfl rfl hl.1 rfl (lv_room (Nat.le_of_ble_eq_true rfl)) dX5_met_5 ⟨Nat.zero_le _, Nat.zero_le _⟩) hS (cA_mono hS.1) (fun v1 u2 H locs h hP hS => ?_)
  refine lv_if_le (tgt := 15) hx hb dX5_met_8 (by decide) (fun c3 => ?_) (fun c3 => ?_)
  · replace h := h.1 c3
    refine lv_iconst (v := 0) hx hb dX5_met_15 (by decide) ?_
    exact W.zret (ty := .boolean) (v := 0) hx hb hr rfl (fun t ht hW => ⟨⟨_, _, rfl, h, by show va_P _ _ _ t.heap; rw [ht]; exact hP⟩, hS.F ht⟩) hS.2.2 dX5_met_16
  · replace h := h.2 c3
    refine lv_iconst (v := 1) hx hb dX5_met_11 (by decide) ?_
    refine lv_goto (tgt := 16) hx hb dX5_met_12 (by decide) ?_
    exact W.zret (ty := .boolean) (v := 1) hx hb hr rfl (fun t ht hW => ⟨⟨_, _, rfl, h, by show va_P _ _ _ t.heap; rw [ht]; exact hP⟩, hS.F ht⟩) hS.2.2 dX5_met_16
set_option maxRecDepth 100000 in
set_option maxHeartbeats 4000000 in
theorem c_X5_met {l : Launch} {D : va_G} {cI cG cZ cJ : ClassId} {ts : Nat × Nat} {L : List Nat} {ad : Nat → Nat} {al : Nat} (hL : Lf L al) (hwd : WD L ad) (sz : Nat) (u : St) (a1 : Int32) (Q : Int32 → St → Prop) (h : f_X5_met al a1 u Q) : Met l yX5_met wsX5_met ({ frames := 1, cells := 0, slots := 0, locals := 21 }) (va_Pc [.ref (ad 5), .int a1] (PC D cI cG cZ cJ ts L ad al sz u)) (va_Qi Q (fun u9 t => va_P D vwCl (cW cI cG L ad al u9) t.heap) (cA L ad sz)) 0 0 (cA L ad sz) := by
  refine Met.ofW (cc := cX5_met) (maxL := 2) (ret := (some .boolean)) (by decide) rfl ?_
  intro p e s m args below meth c s₁ B hml hv
  obtain ⟨rfl, hsz, hP, hC⟩ := hv
  subst hsz
  have X : FX RX5 wsX5_met cX5_met 2 (some .boolean) D cI cG cZ cJ ts L ad p s m _ meth c := ⟨B.exec, B.bytes, hml, findClass_of_methodNamed B.named, atoms_spec (ws := wsX5_met) B.pre, B.returns, B.notSynchronized, hwd, hC⟩
  have hl := lv_entry ([.ref (ad 5), .int a1]) (n := 2) (Nat.le_of_ble_eq_true rfl)
  rw [lg_entry_eq]
  generalize (lg_sl ([.ref (ad 5), .int a1]) ++ List.replicate (2 - (lg_sl ([.ref (ad 5), .int a1])).length) Slot.unset).toArray = ls at hl ⊢
  exact w_X5_met hL X a1 Q u _ _ _ h hP va_S.rf hl
set_option maxRecDepth 100000 in
set_option maxHeartbeats 4000000 in
theorem w_X5_reach {p : Program} {l : Launch} {e : Env} {s : State} {m : MethodId} {args : Array Value} {below : List Frame} {meth : Method} {c : Code} {D : va_G} {cI cG cZ cJ : ClassId} {ts : Nat × Nat} {L : List Nat} {ad : Nat → Nat} {al : Nat} (hL : Lf L al) (X : FX RX5 wsX5_reach cX5_reach 5 none D cI cG cZ cJ ts L ad p s m args meth c) (a1 : Int32) (a2 : Int32) (a3 : Int32) (a4 : Int32) (Q : St → Prop) (u : St) (H : Heap) (locs : List Loc) (ls : Array Slot) (h : f_X5_reach al a1 a2 a3 a4 u Q) (hP : va_P D vwCl (cW cI cG L ad al u) H) (hS : va_S (cA L ad s.heap.size) s.heap H locs) (hl : lv_has ls 5 [(0, .ref (ad 5)), (1, .int a1), (2, .int a2), (3, .int a3), (4, .int a4)]) : W p l e (headSpec wsX5_reach { frames := 2, cells := 0, slots := 0, locals := 42 }).room s m args below meth c H locs 0 0 (MQ below (va_Qv Q (fun u9 t => va_P D vwCl (cW cI cG L ad al u9) t.heap) (cA L ad s.heap.size)) args s 0 0 (cA L ad s.heap.size)) (F0 m 0 ls []) := by
  obtain ⟨hx, hb, hml, hown, hts, hr, hlocks, hwd, hC⟩ := id X
  have hK := hC.1
  have m5 : 5 ∈ L := hL 5 (by omega)
  obtain ⟨i5, hi5⟩ := wL_ix m5
  have m17 : 17 ∈ L := hL 17 (by omega)
  obtain ⟨i17, hi17⟩ := wL_ix m17
  have m18 : 18 ∈ L := hL 18 (by omega)
  obtain ⟨i18, hi18⟩ := wL_ix m18
  have m19 : 19 ∈ L := hL 19 (by omega)
  obtain ⟨i19, hi19⟩ := wL_ix m19
  have m20 : 20 ∈ L := hL 20 (by omega)
  obtain ⟨i20, hi20⟩ := wL_ix m20
  have m21 : 21 ∈ L := hL 21 (by omega)
  obtain ⟨i21, hi21⟩ := wL_ix m21
  have lk0 := hts (.fieldLink RX5 44 "FormForge$Walk" "count" "I") (by decide +kernel)
  have lk1 := hts (.fieldLink RX5 15 "FormForge$Walk" "reached" "[I") (by decide +kernel)
  have lk2 := hts (.initialized RX6) (by decide +kernel)
  have lk3 := hts (.static yX6_write) (by decide +kernel)
  have lk4 := hts (.fieldLink RX5 18 "FormForge$Walk" "sources" "[I") (by decide +kernel)
  have lk5 := hts (.fieldLink RX5 21 "FormForge$Walk" "generators" "[I") (by decide +kernel)
  have lk6 := hts (.fieldLink RX5 24 "FormForge$Walk" "steps" "[I") (by decide +kernel)
  have lk7 := hts (.fieldLink RX5 9 "FormForge$Walk" "places" "[I") (by decide +kernel)
  have n5 : ∀ w ∈ wsX50, w ∈ wsX5_reach := by decide +kernel
  have hN5 := hC.2.1 _ (List.mem_of_getElem? (i := 5) rfl)
  unfold f_X5_reach at h
  refine lv_aload_n hx hb dX5_reach_0 rfl (lv_at hl 0 rfl) ?_
  refine lv_iload_n hx hb dX5_reach_1 rfl (lv_at hl 1 rfl) ?_
  refine cc_i (va_runV (C := RX5) (As := [.int a1]) (rest := []) ⟨hx, hb, hml, hown, hts⟩ (c_X5_met hL hwd H.size u a1 _ h) (cwV 1 hts gX5_reach_X5_met rfl rfl rfl (by decide +kernel) ⟨Nat.le_of_ble_eq_true rfl, Nat.le_of_ble_eq_true rfl⟩) (pcV hC hP hS (cg_5 hi5) rfl) rfl rfl hl.1 rfl (lv_room (Nat.le_of_ble_eq_true rfl)) dX5_reach_2 ⟨Nat.zero_le _, Nat.zero_le _⟩) hS (cA_mono hS.1) (fun v1 u2 H locs h hP hS => ?_)
  refine lv_if_ne (tgt := 91) hx hb dX5_reach_5 (by decide) (fun c3 => ?_) (fun c3 => ?_)
  · replace h := h.1 c3
    exact W.vret hx hb hr (fun t ht hW => ⟨⟨_, rfl, h, by show va_P _ _ _ t.heap; rw [ht]; exact hP⟩, hS.F ht⟩) hS.2.2 dX5_reach_91
  · replace h := h.2 c3
    refine lv_aload_n hx hb dX5_reach_8 rfl (lv_at hl 0 rfl) ?_
    refine va_get (C := RX5) (T := TX5) (N := 7) hx hb hts n5 hown hK hP i5 (cg_5 hi5) rfl 6 (by decide) lk0 (fun _ h9 => h9) rfl dX5_reach_9 ?_
    refine lv_aload_n hx hb dX5_reach_12 rfl (lv_at hl 0 rfl) ?_
    refine va_get (C := RX5) (T := TX5) (N := 7) hx hb hts n5 hown hK hP i5 (cg_5 hi5) rfl 2 (by decide) lk1 (fun _ h9 => h9) rfl dX5_reach_13 ?_
    refine va_alen (v := 480) hx hb hK hP i18 0 (cg_a (Or.inl ⟨by decide, by decide⟩) hi18) rfl rfl dX5_reach_16 ?_
    refine lv_icmp_ge (tgt := 91) hx hb dX5_reach_17 (by decide) (fun c4 => ?_) (fun c4 => ?_)
    · replace h := h.1 c4
      exact W.vret hx hb hr (fun t ht hW => ⟨⟨_, rfl, h, by show va_P _ _ _ t.heap; rw [ht]; exact hP⟩, hS.F ht⟩) hS.2.2 dX5_reach_91
    · replace h := h.2 c4
      refine lv_aload_n hx hb dX5_reach_20 rfl (lv_at hl 0 rfl) ?_
      refine va_get (C := RX5) (T := TX5) (N := 7) hx hb hts n5 hown hK hP i5 (cg_5 hi5) rfl 2 (by decide) lk1 (fun _ h9 => h9) rfl dX5_reach_21 ?_
      refine lv_aload_n hx hb dX5_reach_24 rfl (lv_at hl 0 rfl) ?_
      refine va_get (C := RX5) (T := TX5) (N := 7) hx hb hts n5 hown hK hP i5 (cg_5 hi5) rfl 6 (by decide) lk0 (fun _ h9 => h9) rfl dX5_reach_25 ?_
      refine lv_iload_n hx hb dX5_reach_28 rfl (lv_at hl 1 rfl) ?_
      refine cc_v (va_runSN (As := [.ref (ad 18), .int (u2 0 6), .int a1]) (rest := []) ⟨hx, hb, hml, hown, hts⟩ (c_X6_write hL.g (Or.inl ⟨by decide, by decide⟩) m18 hwd H.size u2 (u2 0 6) a1 _ h) ⟨va_cnB (host := RX6) 3 hts gX5_reach_X6_write_n69 rfl rfl rfl hN5 lk2 (by decide +kernel) ⟨Nat.le_of_ble_eq_true rfl, Nat.le_of_ble_eq_true rfl⟩, lk3, trivial⟩ (pcS hC hP hS) rfl rfl hl.1 rfl (lv_room (Nat.le_of_ble_eq_true rfl)) dX5_reach_29 ⟨Nat.zero_le _, Nat.zero_le _⟩) hS (cA_mono hS.1) (fun u5 H locs h hP hS => ?_)
      refine lv_aload_n hx hb dX5_reach_32 rfl (lv_at hl 0 rfl) ?_
      refine va_get (C := RX5) (T := TX5) (N := 7) hx hb hts n5 hown hK hP i5 (cg_5 hi5) rfl 3 (by decide) lk4 (fun _ h9 => h9) rfl dX5_reach_33 ?_
      refine lv_aload_n hx hb dX5_reach_36 rfl (lv_at hl 0 rfl) ?_
      refine va_get (C := RX5) (T := TX5) (N := 7) hx hb hts n5 hown hK hP i5 (cg_5 hi5) rfl 6 (by decide) lk0 (fun _ h9 => h9) rfl dX5_reach_37 ?_
      refine lv_iload_n hx hb dX5_reach_40 rfl (lv_at hl 2 rfl) ?_
      refine cc_v (va_runSN (As := [.ref (ad 19), .int (u5 0 6), .int a2]) (rest := []) ⟨hx, hb, hml, hown, hts⟩ (c_X6_write hL.g (Or.inl ⟨by decide, by decide⟩) m19 hwd H.size u5 (u5 0 6) a2 _ h) ⟨va_cnB (host := RX6) 3 hts gX5_reach_X6_write_n69 rfl rfl rfl hN5 lk2 (by decide +kernel) ⟨Nat.le_of_ble_eq_true rfl, Nat.le_of_ble_eq_true rfl⟩, lk3, trivial⟩ (pcS hC hP hS) rfl rfl hl.1 rfl (lv_room (Nat.le_of_ble_eq_true rfl)) dX5_reach_41 ⟨Nat.zero_le _, Nat.zero_le _⟩) hS (cA_mono hS.1) (fun u6 H locs h hP hS => ?_)
      refine lv_aload_n hx hb dX5_reach_44 rfl (lv_at hl 0 rfl) ?_
      refine va_get (C := RX5) (T := TX5) (N := 7) hx hb hts n5 hown hK hP i5 (cg_5 hi5) rfl 4 (by decide) lk5 (fun _ h9 => h9) rfl dX5_reach_45 ?_
      refine lv_aload_n hx hb dX5_reach_48 rfl (lv_at hl 0 rfl) ?_
      refine va_get (C := RX5) (T := TX5) (N := 7) hx hb hts n5 hown hK hP i5 (cg_5 hi5) rfl 6 (by decide) lk0 (fun _ h9 => h9) rfl dX5_reach_49 ?_
      refine lv_iload_n hx hb dX5_reach_52 rfl (lv_at hl 3 rfl) ?_
      refine cc_v (va_runSN (As := [.ref (ad 20), .int (u6 0 6), .int a3]) (rest := []) ⟨hx, hb, hml, hown, hts⟩ (c_X6_write hL.g (Or.inl ⟨by decide, by decide⟩) m20 hwd H.size u6 (u6 0 6) a3 _ h) ⟨va_cnB (host := RX6) 3 hts gX5_reach_X6_write_n69 rfl rfl rfl hN5 lk2 (by decide +kernel) ⟨Nat.le_of_ble_eq_true rfl, Nat.le_of_ble_eq_true rfl⟩, lk3, trivial⟩ (pcS hC hP hS) rfl rfl hl.1 rfl (lv_room (Nat.le_of_ble_eq_true rfl)) dX5_reach_53 ⟨Nat.zero_le _, Nat.zero_le _⟩) hS (cA_mono hS.1) (fun u7 H locs h hP hS => ?_)
      refine lv_aload_n hx hb dX5_reach_56 rfl (lv_at hl 0 rfl) ?_
      refine va_get (C := RX5) (T := TX5) (N := 7) hx hb hts n5 hown hK hP i5 (cg_5 hi5) rfl 5 (by decide) lk6 (fun _ h9 => h9) rfl dX5_reach_57 ?_
      refine lv_aload_n hx hb dX5_reach_60 rfl (lv_at hl 0 rfl) ?_
      refine va_get (C := RX5) (T := TX5) (N := 7) hx hb hts n5 hown hK hP i5 (cg_5 hi5) rfl 6 (by decide) lk0 (fun _ h9 => h9) rfl dX5_reach_61 ?_
      refine lv_iload hx hb dX5_reach_64 (lv_at hl 4 rfl) ?_
      refine cc_v (va_runSN (As := [.ref (ad 21), .int (u7 0 6), .int a4]) (rest := []) ⟨hx, hb, hml, hown, hts⟩ (c_X6_write hL.g (Or.inl ⟨by decide, by decide⟩) m21 hwd H.size u7 (u7 0 6) a4 _ h) ⟨va_cnB (host := RX6) 3 hts gX5_reach_X6_write_n69 rfl rfl rfl hN5 lk2 (by decide +kernel) ⟨Nat.le_of_ble_eq_true rfl, Nat.le_of_ble_eq_true rfl⟩, lk3, trivial⟩ (pcS hC hP hS) rfl rfl hl.1 rfl (lv_room (Nat.le_of_ble_eq_true rfl)) dX5_reach_66 ⟨Nat.zero_le _, Nat.zero_le _⟩) hS (cA_mono hS.1) (fun u8 H locs h hP hS => ?_)
      refine lv_aload_n hx hb dX5_reach_69 rfl (lv_at hl 0 rfl) ?_
      refine lv_dup hx hb dX5_reach_70 rfl ?_
      refine va_get (C := RX5) (T := TX5) (N := 7) hx hb hts n5 hown hK hP i5 (cg_5 hi5) rfl 6 (by decide) lk0 (fun _ h9 => h9) rfl dX5_reach_71 ?_
      refine lv_iconst (v := 1) hx hb dX5_reach_74 (by decide) ?_
      refine lv_iadd hx hb dX5_reach_75 ?_
      refine va_put (C := RX5) (T := TX5) (N := 7) (ty := .int) (v := .int ((u8 0 6) + 1)) hx hb hts n5 tyX5 tyX5_ok nmX5 hown hK hP (cD hwd) hS i5 (cg_5 hi5) rfl 6 (by decide) lk0 (fun _ h9 => h9) rfl (by decide +kernel) rfl rfl (Nat.le_of_ble_eq_true rfl) dX5_reach_76 (fun H locs hP _ hS => ?_)
      replace hP := cu_wcnt hwd hi5 hP
      obtain ⟨u9, eu9⟩ : ∃ y : St, y = su u8 0 6 ((u8 0 6) + 1) := ⟨_, rfl⟩
      rw [← eu9] at hP
      replace h := h u9 eu9
      refine lv_aload_n hx hb dX5_reach_79 rfl (lv_at hl 0 rfl) ?_
      refine va_get (C := RX5) (T := TX5) (N := 7) hx hb hts n5 hown hK hP i5 (cg_5 hi5) rfl 1 (by decide) lk7 (fun _ h9 => h9) rfl dX5_reach_80 ?_
      refine lv_iload_n hx hb dX5_reach_83 rfl (lv_at hl 1 rfl) ?_
      refine lv_aload_n hx hb dX5_reach_84 rfl (lv_at hl 0 rfl) ?_
      refine va_get (C := RX5) (T := TX5) (N := 7) hx hb hts n5 hown hK hP i5 (cg_5 hi5) rfl 6 (by decide) lk0 (fun _ h9 => h9) rfl dX5_reach_85 ?_
      refine cc_v (va_runSN (As := [.ref (ad 17), .int a1, .int (u9 0 6)]) (rest := []) ⟨hx, hb, hml, hown, hts⟩ (c_X6_write hL.g (Or.inl ⟨by decide, by decide⟩) m17 hwd H.size u9 a1 (u9 0 6) _ h) ⟨va_cnB (host := RX6) 3 hts gX5_reach_X6_write_n69 rfl rfl rfl hN5 lk2 (by decide +kernel) ⟨Nat.le_of_ble_eq_true rfl, Nat.le_of_ble_eq_true rfl⟩, lk3, trivial⟩ (pcS hC hP hS) rfl rfl hl.1 rfl (lv_room (Nat.le_of_ble_eq_true rfl)) dX5_reach_88 ⟨Nat.zero_le _, Nat.zero_le _⟩) hS (cA_mono hS.1) (fun u10 H locs h hP hS => ?_)
      exact W.vret hx hb hr (fun t ht hW => ⟨⟨_, rfl, h, by show va_P _ _ _ t.heap; rw [ht]; exact hP⟩, hS.F ht⟩) hS.2.2 dX5_reach_91
set_option maxRecDepth 100000 in
set_option maxHeartbeats 4000000 in
theorem c_X5_reach {l : Launch} {D : va_G} {cI cG cZ cJ : ClassId} {ts : Nat × Nat} {L : List Nat} {ad : Nat → Nat} {al : Nat} (hL : Lf L al) (hwd : WD L ad) (sz : Nat) (u : St) (a1 : Int32) (a2 : Int32) (a3 : Int32) (a4 : Int32) (Q : St → Prop) (h : f_X5_reach al a1 a2 a3 a4 u Q) : Met l yX5_reach wsX5_reach ({ frames := 2, cells := 0, slots := 0, locals := 42 }) (va_Pc [.ref (ad 5), .int a1, .int a2, .int a3, .int a4] (PC D cI cG cZ cJ ts L ad al sz u)) (va_Qv Q (fun u9 t => va_P D vwCl (cW cI cG L ad al u9) t.heap) (cA L ad sz)) 0 0 (cA L ad sz) := by
  refine Met.ofW (cc := cX5_reach) (maxL := 5) (ret := none) (by decide) rfl ?_
  intro p e s m args below meth c s₁ B hml hv
  obtain ⟨rfl, hsz, hP, hC⟩ := hv
  subst hsz
  have X : FX RX5 wsX5_reach cX5_reach 5 none D cI cG cZ cJ ts L ad p s m _ meth c := ⟨B.exec, B.bytes, hml, findClass_of_methodNamed B.named, atoms_spec (ws := wsX5_reach) B.pre, B.returns, B.notSynchronized, hwd, hC⟩
  have hl := lv_entry ([.ref (ad 5), .int a1, .int a2, .int a3, .int a4]) (n := 5) (Nat.le_of_ble_eq_true rfl)
  rw [lg_entry_eq]
  generalize (lg_sl ([.ref (ad 5), .int a1, .int a2, .int a3, .int a4]) ++ List.replicate (5 - (lg_sl ([.ref (ad 5), .int a1, .int a2, .int a3, .int a4])).length) Slot.unset).toArray = ls at hl ⊢
  exact w_X5_reach hL X a1 a2 a3 a4 Q u _ _ _ h hP va_S.rf hl
set_option maxRecDepth 100000 in
set_option maxHeartbeats 4000000 in
theorem w_X5_go_L43 {p : Program} {l : Launch} {e : Env} {s : State} {m : MethodId} {args : Array Value} {below : List Frame} {meth : Method} {c : Code} {D : va_G} {cI cG cZ cJ : ClassId} {ts : Nat × Nat} {L : List Nat} {ad : Nat → Nat} {al : Nat} (hL : Lf L al) (X : FX RX5 wsX5_go cX5_go 6 none D cI cG cZ cJ ts L ad p s m args meth c) (a1 : Int32) (a3 : Int32) (a4 : Int32) (Q : St → Prop)
    (K0 : St → Prop) (hk0 : ∀ (u : St) (H : Heap) (locs : List Loc) (ls : Array Slot), K0 u → va_P D vwCl (cW cI cG L ad al u) H → va_S (cA L ad s.heap.size) s.heap H locs → lv_has ls 6 [(0, .ref (ad 5)), (1, .int a1), (3, .int a3)] → W p l e (headSpec wsX5_go { frames := 3, cells := 0, slots := 0, locals := 67 }).room s m args below meth c H locs 0 0 (MQ below (va_Qv Q (fun u9 t => va_P D vwCl (cW cI cG L ad al u9) t.heap) (cA L ad s.heap.size)) args s 0 0 (cA L ad s.heap.size)) (F0 m 90 ls []))
    : ∀ (n : Nat) (a5 : Int32) (u : St) (H : Heap) (locs : List Loc) (ls : Array Slot), f_X5_go_L43 al a1 a3 a4 Q K0 n a5 u → va_P D vwCl (cW cI cG L ad al u) H → va_S (cA L ad s.heap.size) s.heap H locs → lv_has ls 6 [(0, .ref (ad 5)), (1, .int a1), (3, .int a3), (4, .int a4), (5, .int a5)] → W p l e (headSpec wsX5_go { frames := 3, cells := 0, slots := 0, locals := 67 }).room s m args below meth c H locs 0 0 (MQ below (va_Qv Q (fun u9 t => va_P D vwCl (cW cI cG L ad al u9) t.heap) (cA L ad s.heap.size)) args s 0 0 (cA L ad s.heap.size)) (F0 m 43 ls []) := by
  obtain ⟨hx, hb, hml, hown, hts, hr, hlocks, hwd, hC⟩ := id X
  have hK := hC.1
  have m4 : 4 ∈ L := hL 4 (by omega)
  obtain ⟨i4, hi4⟩ := wL_ix m4
  have m5 : 5 ∈ L := hL 5 (by omega)
  obtain ⟨i5, hi5⟩ := wL_ix m5
  have m18 : 18 ∈ L := hL 18 (by omega)
  obtain ⟨i18, hi18⟩ := wL_ix m18
  have m21 : 21 ∈ L := hL 21 (by omega)
  obtain ⟨i21, hi21⟩ := wL_ix m21
  have lk0 := hts (.fieldLink RX5 44 "FormForge$Walk" "count" "I") (by decide +kernel)
  have lk1 := hts (.fieldLink RX5 15 "FormForge$Walk" "reached" "[I") (by decide +kernel)
  have lk2 := hts (.initialized RX6) (by decide +kernel)
  have lk3 := hts (.static yX6_read) (by decide +kernel)
  have lk4 := hts (.fieldLink RX5 27 "FormForge$Walk" "group" "LFormForge$Group;") (by decide +kernel)
  have lk5 := hts (.fieldLink RX5 56 "FormForge$Group" "told" "I") (by decide +kernel)
  have lk6 := hts (.fieldLink RX5 24 "FormForge$Walk" "steps" "[I") (by decide +kernel)
  have n4 : ∀ w ∈ wsX40, w ∈ wsX5_go := by decide +kernel
  have n5 : ∀ w ∈ wsX50, w ∈ wsX5_go := by decide +kernel
  have hN4 := hC.2.1 _ (List.mem_of_getElem? (i := 4) rfl)
  intro n
  induction n with
  | zero =>
    intro a5 u H locs ls h; exact h.elim
  | succ n ih =>
    intro a5 u H locs ls h hP hS hl
    replace h : f_X5_go_L43_s al a1 a3 a4 Q K0 (f_X5_go_L43 al a1 a3 a4 Q K0 n) a5 u := h
    unfold f_X5_go_L43_s at h
    refine lv_iload hx hb dX5_go_43 (lv_at hl 4 rfl) ?_
    refine lv_aload_n hx hb dX5_go_45 rfl (lv_at hl 0 rfl) ?_
    refine va_get (C := RX5) (T := TX5) (N := 7) hx hb hts n5 hown hK hP i5 (cg_5 hi5) rfl 0 (by decide) lk4 (fun _ h9 => h9) rfl dX5_go_46 ?_
    refine va_get (C := RX4) (T := TX4) (N := 6) hx hb hts n4 hown hK hP i4 (cg_4 hi4) rfl 4 (by decide) lk5 (fun _ h9 => h9) rfl dX5_go_49 ?_
    refine lv_icmp_ge (tgt := 90) hx hb dX5_go_52 (by decide) (fun c7 => ?_) (fun c7 => ?_)
    · replace h := h.1 c7
      exact hk0  _ _ _ _ h hP hS (lv_sub hl [0, 1, 2] rfl)
    · replace h := h.2 c7
      refine lv_aload_n hx hb dX5_go_55 rfl (lv_at hl 0 rfl) ?_
      refine lv_aload_n hx hb dX5_go_56 rfl (lv_at hl 0 rfl) ?_
      refine va_get (C := RX5) (T := TX5) (N := 7) hx hb hts n5 hown hK hP i5 (cg_5 hi5) rfl 0 (by decide) lk4 (fun _ h9 => h9) rfl dX5_go_57 ?_
      refine lv_iload hx hb dX5_go_60 (lv_at hl 4 rfl) ?_
      refine lv_iload_n hx hb dX5_go_62 rfl (lv_at hl 1 rfl) ?_
      refine lv_iload hx hb dX5_go_63 (lv_at hl 3 rfl) ?_
      refine cc_i (va_runV (C := RX4) (As := [.int a5, .int a1, .int a4]) (rest := [.ref (ad 5)]) ⟨hx, hb, hml, hown, hts⟩ (c_X4_image hL hwd H.size u a5 a1 a4 _ h) (cwV 3 hts gX5_go_X4_image rfl rfl rfl (by decide +kernel) ⟨Nat.le_of_ble_eq_true rfl, Nat.le_of_ble_eq_true rfl⟩) (pcV hC hP hS (cg_4 hi4) rfl) rfl rfl hl.1 rfl (lv_room (Nat.le_of_ble_eq_true rfl)) dX5_go_65 ⟨Nat.zero_le _, Nat.zero_le _⟩) hS (cA_mono hS.1) (fun v8 u9 H locs h hP hS => ?_)
      refine lv_iload_n hx hb dX5_go_68 rfl (lv_at hl 2 rfl) ?_
      refine lv_iload hx hb dX5_go_69 (lv_at hl 4 rfl) ?_
      refine lv_aload_n hx hb dX5_go_71 rfl (lv_at hl 0 rfl) ?_
      refine va_get (C := RX5) (T := TX5) (N := 7) hx hb hts n5 hown hK hP i5 (cg_5 hi5) rfl 5 (by decide) lk6 (fun _ h9 => h9) rfl dX5_go_72 ?_
      refine lv_iload_n hx hb dX5_go_75 rfl (lv_at hl 2 rfl) ?_
      refine cc_i (va_runSN (As := [.ref (ad 21), .int a3]) (rest := [.int a5, .int a3, .int v8, .ref (ad 5)]) ⟨hx, hb, hml, hown, hts⟩ (c_X6_read hL.g (Or.inl ⟨by decide, by decide⟩) m21 hwd H.size u9 a3 _ h) ⟨va_cnB (host := RX6) 2 hts gX5_go_X6_read_n52 rfl rfl rfl hN4 lk2 (by decide +kernel) ⟨Nat.le_of_ble_eq_true rfl, Nat.le_of_ble_eq_true rfl⟩, lk3, trivial⟩ (pcS hC hP hS) rfl rfl hl.1 rfl (lv_room (Nat.le_of_ble_eq_true rfl)) dX5_go_76 ⟨Nat.zero_le _, Nat.zero_le _⟩) hS (cA_mono hS.1) (fun v10 u11 H locs h hP hS => ?_)
      refine lv_iconst (v := 1) hx hb dX5_go_79 (by decide) ?_
      refine lv_iadd hx hb dX5_go_80 ?_
      refine cc_v (va_runV (C := RX5) (As := [.int v8, .int a3, .int a5, .int (v10 + 1)]) (rest := []) ⟨hx, hb, hml, hown, hts⟩ (c_X5_reach hL hwd H.size u11 v8 a3 a5 (v10 + 1) _ h) (cwV 4 hts gX5_go_X5_reach rfl rfl rfl (by decide +kernel) ⟨Nat.le_of_ble_eq_true rfl, Nat.le_of_ble_eq_true rfl⟩) (pcV hC hP hS (cg_5 hi5) rfl) rfl rfl hl.1 rfl (lv_room (Nat.le_of_ble_eq_true rfl)) dX5_go_81 ⟨Nat.zero_le _, Nat.zero_le _⟩) hS (cA_mono hS.1) (fun u12 H locs h hP hS => ?_)
      obtain ⟨v13, ev13⟩ : ∃ y : Int32, y = a5 + 1 := ⟨_, rfl⟩
      refine lv_iinc (v := v13) (lv' := [(5, .int v13), (0, .ref (ad 5)), (1, .int a1), (3, .int a3), (4, .int a4)]) hx hb dX5_go_84 hl (k := 4) rfl (by rw [ev13]; rfl) (by decide) rfl (fun ls hl => ?_)
      replace h := h v13 ev13
      refine lv_goto (tgt := 43) hx hb dX5_go_87 (by decide) ?_
      exact ih v13 _ _ _ _ h hP hS (lv_sub hl [1, 2, 3, 4, 0] rfl)
set_option maxRecDepth 100000 in
set_option maxHeartbeats 4000000 in
theorem w_X5_go_L15 {p : Program} {l : Launch} {e : Env} {s : State} {m : MethodId} {args : Array Value} {below : List Frame} {meth : Method} {c : Code} {D : va_G} {cI cG cZ cJ : ClassId} {ts : Nat × Nat} {L : List Nat} {ad : Nat → Nat} {al : Nat} (hL : Lf L al) (X : FX RX5 wsX5_go cX5_go 6 none D cI cG cZ cJ ts L ad p s m args meth c) (a1 : Int32) (Q : St → Prop)
    (K0 : St → Prop) (hk0 : ∀ (u : St) (H : Heap) (locs : List Loc) (ls : Array Slot), K0 u → va_P D vwCl (cW cI cG L ad al u) H → va_S (cA L ad s.heap.size) s.heap H locs → lv_has ls 6 [] → W p l e (headSpec wsX5_go { frames := 3, cells := 0, slots := 0, locals := 67 }).room s m args below meth c H locs 0 0 (MQ below (va_Qv Q (fun u9 t => va_P D vwCl (cW cI cG L ad al u9) t.heap) (cA L ad s.heap.size)) args s 0 0 (cA L ad s.heap.size)) (F0 m 96 ls []))
    : ∀ (n : Nat) (a3 : Int32) (u : St) (H : Heap) (locs : List Loc) (ls : Array Slot), f_X5_go_L15 al a1 Q K0 n a3 u → va_P D vwCl (cW cI cG L ad al u) H → va_S (cA L ad s.heap.size) s.heap H locs → lv_has ls 6 [(0, .ref (ad 5)), (1, .int a1), (3, .int a3)] → W p l e (headSpec wsX5_go { frames := 3, cells := 0, slots := 0, locals := 67 }).room s m args below meth c H locs 0 0 (MQ below (va_Qv Q (fun u9 t => va_P D vwCl (cW cI cG L ad al u9) t.heap) (cA L ad s.heap.size)) args s 0 0 (cA L ad s.heap.size)) (F0 m 15 ls []) := by
  obtain ⟨hx, hb, hml, hown, hts, hr, hlocks, hwd, hC⟩ := id X
  have hK := hC.1
  have m4 : 4 ∈ L := hL 4 (by omega)
  obtain ⟨i4, hi4⟩ := wL_ix m4
  have m5 : 5 ∈ L := hL 5 (by omega)
  obtain ⟨i5, hi5⟩ := wL_ix m5
  have m18 : 18 ∈ L := hL 18 (by omega)
  obtain ⟨i18, hi18⟩ := wL_ix m18
  have m21 : 21 ∈ L := hL 21 (by omega)
  obtain ⟨i21, hi21⟩ := wL_ix m21
  have lk0 := hts (.fieldLink RX5 44 "FormForge$Walk" "count" "I") (by decide +kernel)
  have lk1 := hts (.fieldLink RX5 15 "FormForge$Walk" "reached" "[I") (by decide +kernel)
  have lk2 := hts (.initialized RX6) (by decide +kernel)
  have lk3 := hts (.static yX6_read) (by decide +kernel)
  have lk4 := hts (.fieldLink RX5 27 "FormForge$Walk" "group" "LFormForge$Group;") (by decide +kernel)
  have lk5 := hts (.fieldLink RX5 56 "FormForge$Group" "told" "I") (by decide +kernel)
  have lk6 := hts (.fieldLink RX5 24 "FormForge$Walk" "steps" "[I") (by decide +kernel)
  have n4 : ∀ w ∈ wsX40, w ∈ wsX5_go := by decide +kernel
  have n5 : ∀ w ∈ wsX50, w ∈ wsX5_go := by decide +kernel
  have hN4 := hC.2.1 _ (List.mem_of_getElem? (i := 4) rfl)
  intro n
  induction n with
  | zero =>
    intro a3 u H locs ls h; exact h.elim
  | succ n ih =>
    intro a3 u H locs ls h hP hS hl
    replace h : f_X5_go_L15_s al a1 Q K0 (f_X5_go_L15 al a1 Q K0 n) a3 u := h
    unfold f_X5_go_L15_s at h
    refine lv_iload_n hx hb dX5_go_15 rfl (lv_at hl 2 rfl) ?_
    refine lv_aload_n hx hb dX5_go_16 rfl (lv_at hl 0 rfl) ?_
    refine va_get (C := RX5) (T := TX5) (N := 7) hx hb hts n5 hown hK hP i5 (cg_5 hi5) rfl 6 (by decide) lk0 (fun _ h9 => h9) rfl dX5_go_17 ?_
    refine lv_icmp_ge (tgt := 96) hx hb dX5_go_20 (by decide) (fun c3 => ?_) (fun c3 => ?_)
    · replace h := h.1 c3
      exact hk0  _ _ _ _ h hP hS (lv_sub hl [] rfl)
    · replace h := h.2 c3
      refine lv_iload_n hx hb dX5_go_23 rfl (lv_at hl 2 rfl) ?_
      refine lv_sipush (v := 480) hx hb dX5_go_24 (by decide) ?_
      refine lv_icmp_ge (tgt := 96) hx hb dX5_go_27 (by decide) (fun c4 => ?_) (fun c4 => ?_)
      · replace h := h.1 c4
        exact hk0  _ _ _ _ h hP hS (lv_sub hl [] rfl)
      · replace h := h.2 c4
        refine lv_aload_n hx hb dX5_go_30 rfl (lv_at hl 0 rfl) ?_
        refine va_get (C := RX5) (T := TX5) (N := 7) hx hb hts n5 hown hK hP i5 (cg_5 hi5) rfl 2 (by decide) lk1 (fun _ h9 => h9) rfl dX5_go_31 ?_
        refine lv_iload_n hx hb dX5_go_34 rfl (lv_at hl 2 rfl) ?_
        refine cc_i (va_runSN (As := [.ref (ad 18), .int a3]) (rest := []) ⟨hx, hb, hml, hown, hts⟩ (c_X6_read hL.g (Or.inl ⟨by decide, by decide⟩) m18 hwd H.size u a3 _ h) ⟨va_cnB (host := RX6) 2 hts gX5_go_X6_read_n52 rfl rfl rfl hN4 lk2 (by decide +kernel) ⟨Nat.le_of_ble_eq_true rfl, Nat.le_of_ble_eq_true rfl⟩, lk3, trivial⟩ (pcS hC hP hS) rfl rfl hl.1 rfl (lv_room (Nat.le_of_ble_eq_true rfl)) dX5_go_35 ⟨Nat.zero_le _, Nat.zero_le _⟩) hS (cA_mono hS.1) (fun v5 u6 H locs h hP hS => ?_)
        refine lv_istore (lv' := [(4, .int v5), (0, .ref (ad 5)), (1, .int a1), (3, .int a3)]) hx hb dX5_go_38 hl (by decide) rfl (fun ls hl => ?_)
        refine lv_iconst (v := 0) hx hb dX5_go_40 (by decide) ?_
        refine lv_istore (lv' := [(5, .int 0), (4, .int v5), (0, .ref (ad 5)), (1, .int a1), (3, .int a3)]) hx hb dX5_go_41 hl (by decide) rfl (fun ls hl => ?_)
        obtain ⟨n14, h⟩ := h
        refine w_X5_go_L43 hL X a1 a3 v5 _ _ (fun u15 H locs ls h hP hS hl => ?_) n14 0 _ _ _ _ h hP hS (lv_sub hl [2, 3, 4, 1, 0] rfl)
        obtain ⟨v16, ev16⟩ : ∃ y : Int32, y = a3 + 1 := ⟨_, rfl⟩
        refine lv_iinc (v := v16) (lv' := [(3, .int v16), (0, .ref (ad 5)), (1, .int a1)]) hx hb dX5_go_90 hl (k := 2) rfl (by rw [ev16]; rfl) (by decide) rfl (fun ls hl => ?_)
        replace h := h v16 ev16
        refine lv_goto (tgt := 15) hx hb dX5_go_93 (by decide) ?_
        exact ih v16 _ _ _ _ h hP hS (lv_sub hl [1, 2, 0] rfl)
set_option maxRecDepth 100000 in
set_option maxHeartbeats 4000000 in
theorem w_X5_go {p : Program} {l : Launch} {e : Env} {s : State} {m : MethodId} {args : Array Value} {below : List Frame} {meth : Method} {c : Code} {D : va_G} {cI cG cZ cJ : ClassId} {ts : Nat × Nat} {L : List Nat} {ad : Nat → Nat} {al : Nat} (hL : Lf L al) (X : FX RX5 wsX5_go cX5_go 6 none D cI cG cZ cJ ts L ad p s m args meth c) (a1 : Int32) (a2 : Int32) (Q : St → Prop) (u : St) (H : Heap) (locs : List Loc) (ls : Array Slot) (h : f_X5_go al a1 a2 u Q) (hP : va_P D vwCl (cW cI cG L ad al u) H) (hS : va_S (cA L ad s.heap.size) s.heap H locs) (hl : lv_has ls 6 [(0, .ref (ad 5)), (1, .int a1), (2, .int a2)]) : W p l e (headSpec wsX5_go { frames := 3, cells := 0, slots := 0, locals := 67 }).room s m args below meth c H locs 0 0 (MQ below (va_Qv Q (fun u9 t => va_P D vwCl (cW cI cG L ad al u9) t.heap) (cA L ad s.heap.size)) args s 0 0 (cA L ad s.heap.size)) (F0 m 0 ls []) := by
  obtain ⟨hx, hb, hml, hown, hts, hr, hlocks, hwd, hC⟩ := id X
  have hK := hC.1
  have m4 : 4 ∈ L := hL 4 (by omega)
  obtain ⟨i4, hi4⟩ := wL_ix m4
  have m5 : 5 ∈ L := hL 5 (by omega)
  obtain ⟨i5, hi5⟩ := wL_ix m5
  have m18 : 18 ∈ L := hL 18 (by omega)
  obtain ⟨i18, hi18⟩ := wL_ix m18
  have m21 : 21 ∈ L := hL 21 (by omega)
  obtain ⟨i21, hi21⟩ := wL_ix m21
  have lk0 := hts (.fieldLink RX5 44 "FormForge$Walk" "count" "I") (by decide +kernel)
  have lk1 := hts (.fieldLink RX5 15 "FormForge$Walk" "reached" "[I") (by decide +kernel)
  have lk2 := hts (.initialized RX6) (by decide +kernel)
  have lk3 := hts (.static yX6_read) (by decide +kernel)
  have lk4 := hts (.fieldLink RX5 27 "FormForge$Walk" "group" "LFormForge$Group;") (by decide +kernel)
  have lk5 := hts (.fieldLink RX5 56 "FormForge$Group" "told" "I") (by decide +kernel)
  have lk6 := hts (.fieldLink RX5 24 "FormForge$Walk" "steps" "[I") (by decide +kernel)
  have n4 : ∀ w ∈ wsX40, w ∈ wsX5_go := by decide +kernel
  have n5 : ∀ w ∈ wsX50, w ∈ wsX5_go := by decide +kernel
  have hN4 := hC.2.1 _ (List.mem_of_getElem? (i := 4) rfl)
  unfold f_X5_go at h
  refine lv_aload_n hx hb dX5_go_0 rfl (lv_at hl 0 rfl) ?_
  refine lv_iconst (v := 0) hx hb dX5_go_1 (by decide) ?_
  refine va_put (C := RX5) (T := TX5) (N := 7) (ty := .int) (v := .int 0) hx hb hts n5 tyX5 tyX5_ok nmX5 hown hK hP (cD hwd) hS i5 (cg_5 hi5) rfl 6 (by decide) lk0 (fun _ h9 => h9) rfl (by decide +kernel) rfl rfl (Nat.le_of_ble_eq_true rfl) dX5_go_2 (fun H locs hP _ hS => ?_)
  replace hP := cu_wcnt hwd hi5 hP
  obtain ⟨u1, eu1⟩ : ∃ y : St, y = su u 0 6 0 := ⟨_, rfl⟩
  rw [← eu1] at hP
  replace h := h u1 eu1
  refine lv_aload_n hx hb dX5_go_5 rfl (lv_at hl 0 rfl) ?_
  refine lv_iload_n hx hb dX5_go_6 rfl (lv_at hl 2 rfl) ?_
  refine lv_iconst (v := 0) hx hb dX5_go_7 (by decide) ?_
  refine lv_iconst (v := (-1)) hx hb dX5_go_8 (by decide) ?_
  refine lv_iconst (v := 0) hx hb dX5_go_9 (by decide) ?_
  refine cc_v (va_runV (C := RX5) (As := [.int a2, .int 0, .int (-1), .int 0]) (rest := []) ⟨hx, hb, hml, hown, hts⟩ (c_X5_reach hL hwd H.size u1 a2 0 (-1) 0 _ h) (cwV 4 hts gX5_go_X5_reach rfl rfl rfl (by decide +kernel) ⟨Nat.le_of_ble_eq_true rfl, Nat.le_of_ble_eq_true rfl⟩) (pcV hC hP hS (cg_5 hi5) rfl) rfl rfl hl.1 rfl (lv_room (Nat.le_of_ble_eq_true rfl)) dX5_go_10 ⟨Nat.zero_le _, Nat.zero_le _⟩) hS (cA_mono hS.1) (fun u2 H locs h hP hS => ?_)
  refine lv_iconst (v := 0) hx hb dX5_go_13 (by decide) ?_
  refine lv_istore_n (lv' := [(3, .int 0), (0, .ref (ad 5)), (1, .int a1), (2, .int a2)]) hx hb dX5_go_14 rfl hl (by decide) rfl (fun ls hl => ?_)
  obtain ⟨n17, h⟩ := h
  refine w_X5_go_L15 hL X a1 _ _ (fun u18 H locs ls h hP hS hl => ?_) n17 0 _ _ _ _ h hP hS (lv_sub hl [1, 2, 0] rfl)
  exact W.vret hx hb hr (fun t ht hW => ⟨⟨_, rfl, h, by show va_P _ _ _ t.heap; rw [ht]; exact hP⟩, hS.F ht⟩) hS.2.2 dX5_go_96
set_option maxRecDepth 100000 in
set_option maxHeartbeats 4000000 in
theorem c_X5_go {l : Launch} {D : va_G} {cI cG cZ cJ : ClassId} {ts : Nat × Nat} {L : List Nat} {ad : Nat → Nat} {al : Nat} (hL : Lf L al) (hwd : WD L ad) (sz : Nat) (u : St) (a1 : Int32) (a2 : Int32) (Q : St → Prop) (h : f_X5_go al a1 a2 u Q) : Met l yX5_go wsX5_go ({ frames := 3, cells := 0, slots := 0, locals := 67 }) (va_Pc [.ref (ad 5), .int a1, .int a2] (PC D cI cG cZ cJ ts L ad al sz u)) (va_Qv Q (fun u9 t => va_P D vwCl (cW cI cG L ad al u9) t.heap) (cA L ad sz)) 0 0 (cA L ad sz) := by
  refine Met.ofW (cc := cX5_go) (maxL := 6) (ret := none) (by decide) rfl ?_
  intro p e s m args below meth c s₁ B hml hv
  obtain ⟨rfl, hsz, hP, hC⟩ := hv
  subst hsz
  have X : FX RX5 wsX5_go cX5_go 6 none D cI cG cZ cJ ts L ad p s m _ meth c := ⟨B.exec, B.bytes, hml, findClass_of_methodNamed B.named, atoms_spec (ws := wsX5_go) B.pre, B.returns, B.notSynchronized, hwd, hC⟩
  have hl := lv_entry ([.ref (ad 5), .int a1, .int a2]) (n := 6) (Nat.le_of_ble_eq_true rfl)
  rw [lg_entry_eq]
  generalize (lg_sl ([.ref (ad 5), .int a1, .int a2]) ++ List.replicate (6 - (lg_sl ([.ref (ad 5), .int a1, .int a2])).length) Slot.unset).toArray = ls at hl ⊢
  exact w_X5_go hL X a1 a2 Q u _ _ _ h hP va_S.rf hl
set_option maxRecDepth 100000 in
set_option maxHeartbeats 4000000 in
theorem w_X5_alone {p : Program} {l : Launch} {e : Env} {s : State} {m : MethodId} {args : Array Value} {below : List Frame} {meth : Method} {c : Code} {D : va_G} {cI cG cZ cJ : ClassId} {ts : Nat × Nat} {L : List Nat} {ad : Nat → Nat} {al : Nat} (hL : Lf L al) (X : FX RX5 wsX5_alone cX5_alone 3 none D cI cG cZ cJ ts L ad p s m args meth c) (a1 : Int32) (a2 : Int32) (Q : St → Prop) (u : St) (H : Heap) (locs : List Loc) (ls : Array Slot) (h : f_X5_alone al a1 a2 u Q) (hP : va_P D vwCl (cW cI cG L ad al u) H) (hS : va_S (cA L ad s.heap.size) s.heap H locs) (hl : lv_has ls 3 [(0, .ref (ad 5)), (1, .int a1), (2, .int a2)]) : W p l e (headSpec wsX5_alone { frames := 4, cells := 0, slots := 0, locals := 92 }).room s m args below meth c H locs 0 0 (MQ below (va_Qv Q (fun u9 t => va_P D vwCl (cW cI cG L ad al u9) t.heap) (cA L ad s.heap.size)) args s 0 0 (cA L ad s.heap.size)) (F0 m 0 ls []) := by
  obtain ⟨hx, hb, hml, hown, hts, hr, hlocks, hwd, hC⟩ := id X
  have hK := hC.1
  have m5 : 5 ∈ L := hL 5 (by omega)
  obtain ⟨i5, hi5⟩ := wL_ix m5
  unfold f_X5_alone at h
  refine lv_aload_n hx hb dX5_alone_0 rfl (lv_at hl 0 rfl) ?_
  refine cc_v (va_runV (C := RX5) (As := []) (rest := []) ⟨hx, hb, hml, hown, hts⟩ (c_X5_clear hL hwd H.size u _ h) (cwV 0 hts gX5_alone_X5_clear rfl rfl rfl (by decide +kernel) ⟨Nat.le_of_ble_eq_true rfl, Nat.le_of_ble_eq_true rfl⟩) (pcV hC hP hS (cg_5 hi5) rfl) rfl rfl hl.1 rfl (lv_room (Nat.le_of_ble_eq_true rfl)) dX5_alone_1 ⟨Nat.zero_le _, Nat.zero_le _⟩) hS (cA_mono hS.1) (fun u1 H locs h hP hS => ?_)
  refine lv_aload_n hx hb dX5_alone_4 rfl (lv_at hl 0 rfl) ?_
  refine lv_iload_n hx hb dX5_alone_5 rfl (lv_at hl 1 rfl) ?_
  refine lv_iload_n hx hb dX5_alone_6 rfl (lv_at hl 2 rfl) ?_
  refine cc_v (va_runV (C := RX5) (As := [.int a1, .int a2]) (rest := []) ⟨hx, hb, hml, hown, hts⟩ (c_X5_go hL hwd H.size u1 a1 a2 _ h) (cwV 2 hts gX5_alone_X5_go rfl rfl rfl (by decide +kernel) ⟨Nat.le_of_ble_eq_true rfl, Nat.le_of_ble_eq_true rfl⟩) (pcV hC hP hS (cg_5 hi5) rfl) rfl rfl hl.1 rfl (lv_room (Nat.le_of_ble_eq_true rfl)) dX5_alone_7 ⟨Nat.zero_le _, Nat.zero_le _⟩) hS (cA_mono hS.1) (fun u2 H locs h hP hS => ?_)
  exact W.vret hx hb hr (fun t ht hW => ⟨⟨_, rfl, h, by show va_P _ _ _ t.heap; rw [ht]; exact hP⟩, hS.F ht⟩) hS.2.2 dX5_alone_10
set_option maxRecDepth 100000 in
set_option maxHeartbeats 4000000 in
theorem c_X5_alone {l : Launch} {D : va_G} {cI cG cZ cJ : ClassId} {ts : Nat × Nat} {L : List Nat} {ad : Nat → Nat} {al : Nat} (hL : Lf L al) (hwd : WD L ad) (sz : Nat) (u : St) (a1 : Int32) (a2 : Int32) (Q : St → Prop) (h : f_X5_alone al a1 a2 u Q) : Met l yX5_alone wsX5_alone ({ frames := 4, cells := 0, slots := 0, locals := 92 }) (va_Pc [.ref (ad 5), .int a1, .int a2] (PC D cI cG cZ cJ ts L ad al sz u)) (va_Qv Q (fun u9 t => va_P D vwCl (cW cI cG L ad al u9) t.heap) (cA L ad sz)) 0 0 (cA L ad sz) := by
  refine Met.ofW (cc := cX5_alone) (maxL := 3) (ret := none) (by decide) rfl ?_
  intro p e s m args below meth c s₁ B hml hv
  obtain ⟨rfl, hsz, hP, hC⟩ := hv
  subst hsz
  have X : FX RX5 wsX5_alone cX5_alone 3 none D cI cG cZ cJ ts L ad p s m _ meth c := ⟨B.exec, B.bytes, hml, findClass_of_methodNamed B.named, atoms_spec (ws := wsX5_alone) B.pre, B.returns, B.notSynchronized, hwd, hC⟩
  have hl := lv_entry ([.ref (ad 5), .int a1, .int a2]) (n := 3) (Nat.le_of_ble_eq_true rfl)
  rw [lg_entry_eq]
  generalize (lg_sl ([.ref (ad 5), .int a1, .int a2]) ++ List.replicate (3 - (lg_sl ([.ref (ad 5), .int a1, .int a2])).length) Slot.unset).toArray = ls at hl ⊢
  exact w_X5_alone hL X a1 a2 Q u _ _ _ h hP va_S.rf hl
