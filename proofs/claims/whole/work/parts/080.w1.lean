set_option maxRecDepth 100000 in
set_option maxHeartbeats 4000000 in
theorem w_J9_floorMod_7cf53 {p : Program} {l : Launch} {e : Env} {s : State} {m : MethodId} {args : Array Value} {below : List Frame} {meth : Method} {c : Code} {D : va_G} {cI cG cZ cJ : ClassId} {ts : Nat} {L : List Nat} {ad : Nat → Nat} {al : Nat} (hL : Lg L al) (X : FX RJ9 wsJ9_floorMod_7cf53 cJ9_floorMod_7cf53 3 (some .int) D cI cG cZ cJ ts L ad p s m args meth c) (a0 : Int32) (a1 : Int32) (Q : Int32 → St → Prop) (u : St) (H : Heap) (locs : List Loc) (ls : Array Slot) (h : f_J9_floorMod_7cf53 a0 a1 u Q) (hP : va_P D vwCl (cW cI cG L ad al u) H) (hS : va_S (cA L ad s.heap.size) s.heap H locs) (hl : lv_has ls 3 [(0, .int a0), (1, .int a1)]) : W p l e (headSpec wsJ9_floorMod_7cf53 { frames := 0, cells := 0, slots := 0, locals := 0 }).room s m args below meth c H locs 0 0 (MQ below (va_Qi Q (fun u9 t => va_P D vwCl (cW cI cG L ad al u9) t.heap) (cA L ad s.heap.size)) args s 0 0 (cA L ad s.heap.size)) (F0 m 0 ls []) := by
  obtain ⟨hx, hb, hml, hown, hts, hr, hlocks, hwd, hC⟩ := id X
  have hK := hC.1
  unfold f_J9_floorMod_7cf53 at h
  refine lv_iload_n hx hb dJ9_floorMod_7cf53_0 rfl (lv_at hl 0 rfl) ?_
  refine lv_iload_n hx hb dJ9_floorMod_7cf53_1 rfl (lv_at hl 1 rfl) ?_
  refine lv_irem hx hb dJ9_floorMod_7cf53_2 h.1 ?_
  replace h := h.2
  refine lv_topi (fun v1 ev1 => ?_)
  replace h := h v1 ev1
  refine lv_istore_n (lv' := [(2, .int v1), (0, .int a0), (1, .int a1)]) hx hb dJ9_floorMod_7cf53_3 rfl hl (by decide) rfl (fun ls hl => ?_)
  refine lv_iload_n hx hb dJ9_floorMod_7cf53_4 rfl (lv_at hl 1 rfl) ?_
  refine lv_iload_n hx hb dJ9_floorMod_7cf53_5 rfl (lv_at hl 2 rfl) ?_
  refine lv_ixor hx hb dJ9_floorMod_7cf53_6 ?_
  refine lv_if_ge (tgt := 18) hx hb dJ9_floorMod_7cf53_7 (by decide) (fun c2 => ?_) (fun c2 => ?_)
  · replace h := h.1 c2
    refine lv_iload_n hx hb dJ9_floorMod_7cf53_18 rfl (lv_at hl 0 rfl) ?_
    exact W.iret (v := v1) hx hb hr (fun t ht hW => ⟨⟨_, _, rfl, h, by show va_P _ _ _ t.heap; rw [ht]; exact hP⟩, hS.F ht⟩) hS.2.2 dJ9_floorMod_7cf53_19
  · replace h := h.2 c2
    refine lv_iload_n hx hb dJ9_floorMod_7cf53_10 rfl (lv_at hl 0 rfl) ?_
    refine lv_if_eq (tgt := 18) hx hb dJ9_floorMod_7cf53_11 (by decide) (fun c3 => ?_) (fun c3 => ?_)
    · replace h := h.1 c3
      refine lv_iload_n hx hb dJ9_floorMod_7cf53_18 rfl (lv_at hl 0 rfl) ?_
      exact W.iret (v := v1) hx hb hr (fun t ht hW => ⟨⟨_, _, rfl, h, by show va_P _ _ _ t.heap; rw [ht]; exact hP⟩, hS.F ht⟩) hS.2.2 dJ9_floorMod_7cf53_19
    · replace h := h.2 c3
      refine lv_iload_n hx hb dJ9_floorMod_7cf53_14 rfl (lv_at hl 0 rfl) ?_
      refine lv_iload_n hx hb dJ9_floorMod_7cf53_15 rfl (lv_at hl 2 rfl) ?_
      refine lv_iadd hx hb dJ9_floorMod_7cf53_16 ?_
      exact W.iret (v := (v1 + a1)) hx hb hr (fun t ht hW => ⟨⟨_, _, rfl, h, by show va_P _ _ _ t.heap; rw [ht]; exact hP⟩, hS.F ht⟩) hS.2.2 dJ9_floorMod_7cf53_17
set_option maxRecDepth 100000 in
set_option maxHeartbeats 4000000 in
theorem c_J9_floorMod_7cf53 {l : Launch} {D : va_G} {cI cG cZ cJ : ClassId} {ts : Nat} {L : List Nat} {ad : Nat → Nat} {al : Nat} (hL : Lg L al) (hwd : WD L ad) (sz : Nat) (u : St) (a0 : Int32) (a1 : Int32) (Q : Int32 → St → Prop) (h : f_J9_floorMod_7cf53 a0 a1 u Q) : Met l yJ9_floorMod_7cf53 wsJ9_floorMod_7cf53 ({ frames := 0, cells := 0, slots := 0, locals := 0 }) (va_Pc [.int a0, .int a1] (PC D cI cG cZ cJ ts L ad al sz u)) (va_Qi Q (fun u9 t => va_P D vwCl (cW cI cG L ad al u9) t.heap) (cA L ad sz)) 0 0 (cA L ad sz) := by
  refine met_ofWF (cc := cJ9_floorMod_7cf53) (maxL := 3) (ret := (some .int)) (by decide +kernel) rfl ?_
  intro p e s m args below meth c s₁ B hml hv
  obtain ⟨rfl, hsz, hP, hC⟩ := hv
  subst hsz
  have X : FX RJ9 wsJ9_floorMod_7cf53 cJ9_floorMod_7cf53 3 (some .int) D cI cG cZ cJ ts L ad p s m _ meth c := ⟨B.exec, B.bytes, hml, findClass_of_methodNamed B.named, atoms_spec (ws := wsJ9_floorMod_7cf53) B.pre, B.returns, B.notSynchronized, hwd, hC⟩
  have hl := lv_entry ([.int a0, .int a1]) (n := 3) (Nat.le_of_ble_eq_true rfl)
  rw [lg_entry_eq]
  generalize (lg_sl ([.int a0, .int a1]) ++ List.replicate (3 - (lg_sl ([.int a0, .int a1])).length) Slot.unset).toArray = ls at hl ⊢
  exact w_J9_floorMod_7cf53 hL X a0 a1 Q u _ _ _ h hP va_S.rf hl
set_option maxRecDepth 100000 in
set_option maxHeartbeats 4000000 in
theorem w_X6_read {p : Program} {l : Launch} {e : Env} {s : State} {m : MethodId} {args : Array Value} {below : List Frame} {meth : Method} {c : Code} {D : va_G} {cI cG cZ cJ : ClassId} {ts : Nat} {L : List Nat} {ad : Nat → Nat} {al : Nat} {k0 : Nat} (hL : Lg L al) (hk0 : isA k0) (hm0 : k0 ∈ L) (X : FX RX6 wsX6_read cX6_read 2 (some .int) D cI cG cZ cJ ts L ad p s m args meth c) (a1 : Int32) (Q : Int32 → St → Prop) (u : St) (H : Heap) (locs : List Loc) (ls : Array Slot) (h : f_X6_read al k0 a1 u Q) (hP : va_P D vwCl (cW cI cG L ad al u) H) (hS : va_S (cA L ad s.heap.size) s.heap H locs) (hl : lv_has ls 2 [(0, .ref (ad k0)), (1, .int a1)]) : W p l e (headSpec wsX6_read { frames := 0, cells := 0, slots := 0, locals := 0 }).room s m args below meth c H locs 0 0 (MQ below (va_Qi Q (fun u9 t => va_P D vwCl (cW cI cG L ad al u9) t.heap) (cA L ad s.heap.size)) args s 0 0 (cA L ad s.heap.size)) (F0 m 0 ls []) := by
  obtain ⟨hx, hb, hml, hown, hts, hr, hlocks, hwd, hC⟩ := id X
  have hK := hC.1
  obtain ⟨ik0, hik0⟩ := wL_ix hm0
  unfold f_X6_read at h
  refine lv_aload_n hx hb dX6_read_0 rfl (lv_at hl 0 rfl) ?_
  refine lv_ifnull hx hb dX6_read_1 ?_
  refine lv_iload_n hx hb dX6_read_4 rfl (lv_at hl 1 rfl) ?_
  refine lv_if_lt (tgt := 20) hx hb dX6_read_5 (by decide) (fun c1 => ?_) (fun c1 => ?_)
  · replace h := h.1 c1
    refine lv_iconst (v := 0) hx hb dX6_read_20 (by decide) ?_
    exact W.iret (v := 0) hx hb hr (fun t ht hW => ⟨⟨_, _, rfl, h, by show va_P _ _ _ t.heap; rw [ht]; exact hP⟩, hS.F ht⟩) hS.2.2 dX6_read_21
  · replace h := h.2 c1
    refine lv_iload_n hx hb dX6_read_8 rfl (lv_at hl 1 rfl) ?_
    refine lv_aload_n hx hb dX6_read_9 rfl (lv_at hl 0 rfl) ?_
    refine va_alen (v := (nI (lenC k0))) hx hb hK hP ik0 0 (cg_a hk0 hik0) rfl rfl dX6_read_10 ?_
    refine lv_icmp_ge (tgt := 20) hx hb dX6_read_11 (by decide) (fun c2 => ?_) (fun c2 => ?_)
    · replace h := h.1 c2
      refine lv_iconst (v := 0) hx hb dX6_read_20 (by decide) ?_
      exact W.iret (v := 0) hx hb hr (fun t ht hW => ⟨⟨_, _, rfl, h, by show va_P _ _ _ t.heap; rw [ht]; exact hP⟩, hS.F ht⟩) hS.2.2 dX6_read_21
    · replace h := h.2 c2
      refine lv_aload_n hx hb dX6_read_14 rfl (lv_at hl 0 rfl) ?_
      refine lv_iload_n hx hb dX6_read_15 rfl (lv_at hl 1 rfl) ?_
      refine va_iald hx hb hK hP ik0 0 (cg_a hk0 hik0) rfl h.1 dX6_read_16 ?_
      refine lv_topi (fun v3 ev3 => ?_)
      replace h := h.2 v3 ev3
      refine lv_goto (tgt := 21) hx hb dX6_read_17 (by decide) ?_
      exact W.iret (v := v3) hx hb hr (fun t ht hW => ⟨⟨_, _, rfl, h, by show va_P _ _ _ t.heap; rw [ht]; exact hP⟩, hS.F ht⟩) hS.2.2 dX6_read_21
set_option maxRecDepth 100000 in
set_option maxHeartbeats 4000000 in
theorem c_X6_read {l : Launch} {D : va_G} {cI cG cZ cJ : ClassId} {ts : Nat} {L : List Nat} {ad : Nat → Nat} {al : Nat} {k0 : Nat} (hL : Lg L al) (hk0 : isA k0) (hm0 : k0 ∈ L) (hwd : WD L ad) (sz : Nat) (u : St) (a1 : Int32) (Q : Int32 → St → Prop) (h : f_X6_read al k0 a1 u Q) : Met l yX6_read wsX6_read ({ frames := 0, cells := 0, slots := 0, locals := 0 }) (va_Pc [.ref (ad k0), .int a1] (PC D cI cG cZ cJ ts L ad al sz u)) (va_Qi Q (fun u9 t => va_P D vwCl (cW cI cG L ad al u9) t.heap) (cA L ad sz)) 0 0 (cA L ad sz) := by
  refine Met.ofW (cc := cX6_read) (maxL := 2) (ret := (some .int)) (by decide) rfl ?_
  intro p e s m args below meth c s₁ B hml hv
  obtain ⟨rfl, hsz, hP, hC⟩ := hv
  subst hsz
  have X : FX RX6 wsX6_read cX6_read 2 (some .int) D cI cG cZ cJ ts L ad p s m _ meth c := ⟨B.exec, B.bytes, hml, findClass_of_methodNamed B.named, atoms_spec (ws := wsX6_read) B.pre, B.returns, B.notSynchronized, hwd, hC⟩
  have hl := lv_entry ([.ref (ad k0), .int a1]) (n := 2) (Nat.le_of_ble_eq_true rfl)
  rw [lg_entry_eq]
  generalize (lg_sl ([.ref (ad k0), .int a1]) ++ List.replicate (2 - (lg_sl ([.ref (ad k0), .int a1])).length) Slot.unset).toArray = ls at hl ⊢
  exact w_X6_read hL hk0 hm0 X a1 Q u _ _ _ h hP va_S.rf hl
set_option maxRecDepth 100000 in
set_option maxHeartbeats 4000000 in
theorem c_X6_readS {l : Launch} {D : va_G} {cI cG cZ cJ : ClassId} {ts : Nat} {L : List Nat} {ad : Nat → Nat} {al : Nat} (hL : Lg L al) (hwd : WD L ad) (sz : Nat) (u : St) (a1 : Int32) (Q : Int32 → St → Prop) (h : f_X6_readS al a1 u Q) : Met l yX6_read wsX6_read ({ frames := 0, cells := 0, slots := 0, locals := 0 }) (va_Pc [.ref ts, .int a1] (PC D cI cG cZ cJ ts L ad al sz u)) (va_Qi Q (fun u9 t => va_P D vwCl (cW cI cG L ad al u9) t.heap) (cA L ad sz)) 0 0 (cA L ad sz) := by
  refine Met.ofW (cc := cX6_read) (maxL := 2) (ret := (some .int)) (by decide) rfl ?_
  intro p e s m args below meth c s₁ B hml hv
  obtain ⟨rfl, hsz, hP, hC⟩ := hv
  subst hsz
  have X : FX RX6 wsX6_read cX6_read 2 (some .int) D cI cG cZ cJ ts L ad p s m _ meth c := ⟨B.exec, B.bytes, hml, findClass_of_methodNamed B.named, atoms_spec (ws := wsX6_read) B.pre, B.returns, B.notSynchronized, hwd, hC⟩
  have hl := lv_entry ([.ref ts, .int a1]) (n := 2) (Nat.le_of_ble_eq_true rfl)
  rw [lg_entry_eq]
  generalize (lg_sl ([.ref ts, .int a1]) ++ List.replicate (2 - (lg_sl ([.ref ts, .int a1])).length) Slot.unset).toArray = ls at hl ⊢
  obtain ⟨hx, hb, hml, hown, hts, hr, hlocks, -, -⟩ := id X
  have hT := hC.2.2.2.2.2.2
  have hS : va_S (cA L ad s.heap.size) s.heap s.heap [] := va_S.rf
  unfold f_X6_readS at h
  refine lv_aload_n hx hb dX6_read_0 rfl (lv_at hl 0 rfl) ?_
  refine lv_ifnull hx hb dX6_read_1 ?_
  refine lv_iload_n hx hb dX6_read_4 rfl (lv_at hl 1 rfl) ?_
  refine lv_if_lt (tgt := 20) hx hb dX6_read_5 (by decide) (fun c1 => ?_) (fun c1 => ?_)
  · refine lv_iconst (v := 0) hx hb dX6_read_20 (by decide) ?_
    exact W.iret (v := 0) hx hb hr (fun t ht hW => ⟨⟨_, _, rfl, h.1 c1, by show va_P _ _ _ t.heap; rw [ht]; exact hP⟩, hS.F ht⟩) hS.2.2 dX6_read_21
  · replace h := h.2 c1
    refine lv_iload_n hx hb dX6_read_8 rfl (lv_at hl 1 rfl) ?_
    refine lv_aload_n hx hb dX6_read_9 rfl (lv_at hl 0 rfl) ?_
    refine va_tlen (v := 5) hx hb hT hS rfl dX6_read_10 ?_
    refine lv_icmp_ge (tgt := 20) hx hb dX6_read_11 (by decide) (fun c2 => ?_) (fun c2 => ?_)
    · refine lv_iconst (v := 0) hx hb dX6_read_20 (by decide) ?_
      exact W.iret (v := 0) hx hb hr (fun t ht hW => ⟨⟨_, _, rfl, h.1 c2, by show va_P _ _ _ t.heap; rw [ht]; exact hP⟩, hS.F ht⟩) hS.2.2 dX6_read_21
    · replace h := h.2 c2
      refine lv_aload_n hx hb dX6_read_14 rfl (lv_at hl 0 rfl) ?_
      refine lv_iload_n hx hb dX6_read_15 rfl (lv_at hl 1 rfl) ?_
      refine va_ti hx hb hT hS h.1 rfl dX6_read_16 ?_
      refine lv_goto (tgt := 21) hx hb dX6_read_17 (by decide) ?_
      exact W.iret hx hb hr (fun t ht hW => ⟨⟨_, _, rfl, h.2 _ rfl, by show va_P _ _ _ t.heap; rw [ht]; exact hP⟩, hS.F ht⟩) hS.2.2 dX6_read_21
set_option maxRecDepth 100000 in
set_option maxHeartbeats 4000000 in
theorem w_X6_write {p : Program} {l : Launch} {e : Env} {s : State} {m : MethodId} {args : Array Value} {below : List Frame} {meth : Method} {c : Code} {D : va_G} {cI cG cZ cJ : ClassId} {ts : Nat} {L : List Nat} {ad : Nat → Nat} {al : Nat} {k0 : Nat} (hL : Lg L al) (hk0 : isA k0) (hm0 : k0 ∈ L) (X : FX RX6 wsX6_write cX6_write 3 none D cI cG cZ cJ ts L ad p s m args meth c) (a1 : Int32) (a2 : Int32) (Q : St → Prop) (u : St) (H : Heap) (locs : List Loc) (ls : Array Slot) (h : f_X6_write al k0 a1 a2 u Q) (hP : va_P D vwCl (cW cI cG L ad al u) H) (hS : va_S (cA L ad s.heap.size) s.heap H locs) (hl : lv_has ls 3 [(0, .ref (ad k0)), (1, .int a1), (2, .int a2)]) : W p l e (headSpec wsX6_write { frames := 0, cells := 0, slots := 0, locals := 0 }).room s m args below meth c H locs 0 0 (MQ below (va_Qv Q (fun u9 t => va_P D vwCl (cW cI cG L ad al u9) t.heap) (cA L ad s.heap.size)) args s 0 0 (cA L ad s.heap.size)) (F0 m 0 ls []) := by
  obtain ⟨hx, hb, hml, hown, hts, hr, hlocks, hwd, hC⟩ := id X
  have hK := hC.1
  obtain ⟨ik0, hik0⟩ := wL_ix hm0
  unfold f_X6_write at h
  refine lv_aload_n hx hb dX6_write_0 rfl (lv_at hl 0 rfl) ?_
  refine lv_ifnull hx hb dX6_write_1 ?_
  refine lv_iload_n hx hb dX6_write_4 rfl (lv_at hl 1 rfl) ?_
  refine lv_if_lt (tgt := 18) hx hb dX6_write_5 (by decide) (fun c1 => ?_) (fun c1 => ?_)
  · replace h := h.1 c1
    exact W.vret hx hb hr (fun t ht hW => ⟨⟨_, rfl, h, by show va_P _ _ _ t.heap; rw [ht]; exact hP⟩, hS.F ht⟩) hS.2.2 dX6_write_18
  · replace h := h.2 c1
    refine lv_iload_n hx hb dX6_write_8 rfl (lv_at hl 1 rfl) ?_
    refine lv_aload_n hx hb dX6_write_9 rfl (lv_at hl 0 rfl) ?_
    refine va_alen (v := (nI (lenC k0))) hx hb hK hP ik0 0 (cg_a hk0 hik0) rfl rfl dX6_write_10 ?_
    refine lv_icmp_ge (tgt := 18) hx hb dX6_write_11 (by decide) (fun c2 => ?_) (fun c2 => ?_)
    · replace h := h.1 c2
      exact W.vret hx hb hr (fun t ht hW => ⟨⟨_, rfl, h, by show va_P _ _ _ t.heap; rw [ht]; exact hP⟩, hS.F ht⟩) hS.2.2 dX6_write_18
    · replace h := h.2 c2
      refine lv_aload_n hx hb dX6_write_14 rfl (lv_at hl 0 rfl) ?_
      refine lv_iload_n hx hb dX6_write_15 rfl (lv_at hl 1 rfl) ?_
      refine lv_iload_n hx hb dX6_write_16 rfl (lv_at hl 2 rfl) ?_
      refine va_iast hx hb hK hP (cD hwd) hS ik0 0 (cg_a hk0 hik0) rfl h.1 dX6_write_17 (fun H locs hP _ hS => ?_)
      replace hP := cu_a hwd hk0 hik0 hP
      obtain ⟨u3, eu3⟩ : ∃ y : St, y = su u k0 a1.toNatClampNeg a2 := ⟨_, rfl⟩
      rw [← eu3] at hP
      replace h := h.2 u3 eu3
      exact W.vret hx hb hr (fun t ht hW => ⟨⟨_, rfl, h, by show va_P _ _ _ t.heap; rw [ht]; exact hP⟩, hS.F ht⟩) hS.2.2 dX6_write_18
set_option maxRecDepth 100000 in
set_option maxHeartbeats 4000000 in
theorem c_X6_write {l : Launch} {D : va_G} {cI cG cZ cJ : ClassId} {ts : Nat} {L : List Nat} {ad : Nat → Nat} {al : Nat} {k0 : Nat} (hL : Lg L al) (hk0 : isA k0) (hm0 : k0 ∈ L) (hwd : WD L ad) (sz : Nat) (u : St) (a1 : Int32) (a2 : Int32) (Q : St → Prop) (h : f_X6_write al k0 a1 a2 u Q) : Met l yX6_write wsX6_write ({ frames := 0, cells := 0, slots := 0, locals := 0 }) (va_Pc [.ref (ad k0), .int a1, .int a2] (PC D cI cG cZ cJ ts L ad al sz u)) (va_Qv Q (fun u9 t => va_P D vwCl (cW cI cG L ad al u9) t.heap) (cA L ad sz)) 0 0 (cA L ad sz) := by
  refine Met.ofW (cc := cX6_write) (maxL := 3) (ret := none) (by decide) rfl ?_
  intro p e s m args below meth c s₁ B hml hv
  obtain ⟨rfl, hsz, hP, hC⟩ := hv
  subst hsz
  have X : FX RX6 wsX6_write cX6_write 3 none D cI cG cZ cJ ts L ad p s m _ meth c := ⟨B.exec, B.bytes, hml, findClass_of_methodNamed B.named, atoms_spec (ws := wsX6_write) B.pre, B.returns, B.notSynchronized, hwd, hC⟩
  have hl := lv_entry ([.ref (ad k0), .int a1, .int a2]) (n := 3) (Nat.le_of_ble_eq_true rfl)
  rw [lg_entry_eq]
  generalize (lg_sl ([.ref (ad k0), .int a1, .int a2]) ++ List.replicate (3 - (lg_sl ([.ref (ad k0), .int a1, .int a2])).length) Slot.unset).toArray = ls at hl ⊢
  exact w_X6_write hL hk0 hm0 X a1 a2 Q u _ _ _ h hP va_S.rf hl
set_option maxRecDepth 100000 in
set_option maxHeartbeats 4000000 in
theorem w_X2_rest {p : Program} {l : Launch} {e : Env} {s : State} {m : MethodId} {args : Array Value} {below : List Frame} {meth : Method} {c : Code} {D : va_G} {cI cG cZ cJ : ClassId} {ts : Nat} {L : List Nat} {ad : Nat → Nat} {al : Nat} (hL : Lg L al) (X : FX RX2 wsX2_rest cX2_rest 2 (some .int) D cI cG cZ cJ ts L ad p s m args meth c) (a1 : Int32) (Q : Int32 → St → Prop) (u : St) (H : Heap) (locs : List Loc) (ls : Array Slot) (h : f_X2_rest al a1 u Q) (hP : va_P D vwCl (cW cI cG L ad al u) H) (hS : va_S (cA L ad s.heap.size) s.heap H locs) (hl : lv_has ls 2 [(0, .ref (ad 1)), (1, .int a1)]) : W p l e (headSpec wsX2_rest { frames := 1, cells := 0, slots := 0, locals := 22 }).room s m args below meth c H locs 0 0 (MQ below (va_Qi Q (fun u9 t => va_P D vwCl (cW cI cG L ad al u9) t.heap) (cA L ad s.heap.size)) args s 0 0 (cA L ad s.heap.size)) (F0 m 0 ls []) := by
  obtain ⟨hx, hb, hml, hown, hts, hr, hlocks, hwd, hC⟩ := id X
  have hK := hC.1
  have m1 : 1 ∈ L := hL.1
  obtain ⟨i1, hi1⟩ := wL_ix m1
  have k0 := hts (.fieldLink RX2 9 "FormForge$Field" "p" "I") (by decide +kernel)
  have n2 : ∀ w ∈ wsX20, w ∈ wsX2_rest := by decide +kernel
  unfold f_X2_rest at h
  refine lv_aload_n hx hb dX2_rest_0 rfl (lv_at hl 0 rfl) ?_
  refine va_get (C := RX2) (T := TX2) (N := 1) hx hb hts n2 hown hK hP i1 (cg_1 hi1) rfl 0 (by decide) k0 (fun _ h9 => h9) rfl dX2_rest_1 ?_
  refine lv_if_le (tgt := 18) hx hb dX2_rest_4 (by decide) (fun c1 => ?_) (fun c1 => ?_)
  · replace h := h.1 c1
    refine lv_iconst (v := 0) hx hb dX2_rest_18 (by decide) ?_
    exact W.iret (v := 0) hx hb hr (fun t ht hW => ⟨⟨_, _, rfl, h, by show va_P _ _ _ t.heap; rw [ht]; exact hP⟩, hS.F ht⟩) hS.2.2 dX2_rest_19
  · replace h := h.2 c1
    refine lv_iload_n hx hb dX2_rest_7 rfl (lv_at hl 1 rfl) ?_
    refine lv_aload_n hx hb dX2_rest_8 rfl (lv_at hl 0 rfl) ?_
    refine va_get (C := RX2) (T := TX2) (N := 1) hx hb hts n2 hown hK hP i1 (cg_1 hi1) rfl 0 (by decide) k0 (fun _ h9 => h9) rfl dX2_rest_9 ?_
    refine cc_i (va_runS (As := [.int a1, .int (u 0 0)]) (rest := []) ⟨hx, hb, hml, hown, hts⟩ (c_J9_floorMod_7cf53 hL hwd H.size u a1 (u 0 0) _ h) (va_cwS 2 hts gX2_rest_J9_floorMod_7cf53 rfl rfl rfl (by decide +kernel) ⟨Nat.le_of_ble_eq_true rfl, Nat.le_of_ble_eq_true rfl⟩) (pcS hC hP hS) rfl rfl hl.1 rfl (lv_room (Nat.le_of_ble_eq_true rfl)) dX2_rest_12 ⟨Nat.zero_le _, Nat.zero_le _⟩) hS (cA_mono hS.1) (fun v2 u3 H locs h hP hS => ?_)
    refine lv_goto (tgt := 19) hx hb dX2_rest_15 (by decide) ?_
    exact W.iret (v := v2) hx hb hr (fun t ht hW => ⟨⟨_, _, rfl, h, by show va_P _ _ _ t.heap; rw [ht]; exact hP⟩, hS.F ht⟩) hS.2.2 dX2_rest_19
set_option maxRecDepth 100000 in
set_option maxHeartbeats 4000000 in
theorem c_X2_rest {l : Launch} {D : va_G} {cI cG cZ cJ : ClassId} {ts : Nat} {L : List Nat} {ad : Nat → Nat} {al : Nat} (hL : Lg L al) (hwd : WD L ad) (sz : Nat) (u : St) (a1 : Int32) (Q : Int32 → St → Prop) (h : f_X2_rest al a1 u Q) : Met l yX2_rest wsX2_rest ({ frames := 1, cells := 0, slots := 0, locals := 22 }) (va_Pc [.ref (ad 1), .int a1] (PC D cI cG cZ cJ ts L ad al sz u)) (va_Qi Q (fun u9 t => va_P D vwCl (cW cI cG L ad al u9) t.heap) (cA L ad sz)) 0 0 (cA L ad sz) := by
  refine Met.ofW (cc := cX2_rest) (maxL := 2) (ret := (some .int)) (by decide) rfl ?_
  intro p e s m args below meth c s₁ B hml hv
  obtain ⟨rfl, hsz, hP, hC⟩ := hv
  subst hsz
  have X : FX RX2 wsX2_rest cX2_rest 2 (some .int) D cI cG cZ cJ ts L ad p s m _ meth c := ⟨B.exec, B.bytes, hml, findClass_of_methodNamed B.named, atoms_spec (ws := wsX2_rest) B.pre, B.returns, B.notSynchronized, hwd, hC⟩
  have hl := lv_entry ([.ref (ad 1), .int a1]) (n := 2) (Nat.le_of_ble_eq_true rfl)
  rw [lg_entry_eq]
  generalize (lg_sl ([.ref (ad 1), .int a1]) ++ List.replicate (2 - (lg_sl ([.ref (ad 1), .int a1])).length) Slot.unset).toArray = ls at hl ⊢
  exact w_X2_rest hL X a1 Q u _ _ _ h hP va_S.rf hl
set_option maxRecDepth 100000 in
set_option maxHeartbeats 4000000 in
theorem w_X2_howMany_L4 {p : Program} {l : Launch} {e : Env} {s : State} {m : MethodId} {args : Array Value} {below : List Frame} {meth : Method} {c : Code} {D : va_G} {cI cG cZ cJ : ClassId} {ts : Nat} {L : List Nat} {ad : Nat → Nat} {al : Nat} (hL : Lg L al) (X : FX RX2 wsX2_howMany cX2_howMany 4 (some .int) D cI cG cZ cJ ts L ad p s m args meth c) (a1 : Int32) (Q : Int32 → St → Prop)
    (K0 : Int32 → St → Prop) (hk0 : ∀ (b2 : Int32) (u : St) (H : Heap) (locs : List Loc) (ls : Array Slot), K0 b2 u → va_P D vwCl (cW cI cG L ad al u) H → va_S (cA L ad s.heap.size) s.heap H locs → lv_has ls 4 [(2, .int b2)] → W p l e (headSpec wsX2_howMany { frames := 0, cells := 0, slots := 0, locals := 0 }).room s m args below meth c H locs 0 0 (MQ below (va_Qi Q (fun u9 t => va_P D vwCl (cW cI cG L ad al u9) t.heap) (cA L ad s.heap.size)) args s 0 0 (cA L ad s.heap.size)) (F0 m 22 ls []))
    : ∀ (n : Nat) (a2 : Int32) (a3 : Int32) (u : St) (H : Heap) (locs : List Loc) (ls : Array Slot), f_X2_howMany_L4 al a1 Q K0 n a2 a3 u → va_P D vwCl (cW cI cG L ad al u) H → va_S (cA L ad s.heap.size) s.heap H locs → lv_has ls 4 [(0, .ref (ad 1)), (1, .int a1), (2, .int a2), (3, .int a3)] → W p l e (headSpec wsX2_howMany { frames := 0, cells := 0, slots := 0, locals := 0 }).room s m args below meth c H locs 0 0 (MQ below (va_Qi Q (fun u9 t => va_P D vwCl (cW cI cG L ad al u9) t.heap) (cA L ad s.heap.size)) args s 0 0 (cA L ad s.heap.size)) (F0 m 4 ls []) := by
  obtain ⟨hx, hb, hml, hown, hts, hr, hlocks, hwd, hC⟩ := id X
  have hK := hC.1
  have m1 : 1 ∈ L := hL.1
  obtain ⟨i1, hi1⟩ := wL_ix m1
  have k0 := hts (.fieldLink RX2 9 "FormForge$Field" "p" "I") (by decide +kernel)
  have n2 : ∀ w ∈ wsX20, w ∈ wsX2_howMany := by decide +kernel
  intro n
  induction n with
  | zero =>
    intro a2 a3 u H locs ls h; exact h.elim
  | succ n ih =>
    intro a2 a3 u H locs ls h hP hS hl
    replace h : f_X2_howMany_L4_s al a1 Q K0 (f_X2_howMany_L4 al a1 Q K0 n) a2 a3 u := h
    unfold f_X2_howMany_L4_s at h
    refine lv_iload_n hx hb dX2_howMany_4 rfl (lv_at hl 3 rfl) ?_
    refine lv_iload_n hx hb dX2_howMany_5 rfl (lv_at hl 1 rfl) ?_
    refine lv_icmp_ge (tgt := 22) hx hb dX2_howMany_6 (by decide) (fun c1 => ?_) (fun c1 => ?_)
    · replace h := h.1 c1
      exact hk0 a2 _ _ _ _ h hP hS (lv_sub hl [2] rfl)
    · replace h := h.2 c1
      refine lv_iload_n hx hb dX2_howMany_9 rfl (lv_at hl 2 rfl) ?_
      refine lv_aload_n hx hb dX2_howMany_10 rfl (lv_at hl 0 rfl) ?_
      refine va_get (C := RX2) (T := TX2) (N := 1) hx hb hts n2 hown hK hP i1 (cg_1 hi1) rfl 0 (by decide) k0 (fun _ h9 => h9) rfl dX2_howMany_11 ?_
      refine lv_imul hx hb dX2_howMany_14 ?_
      refine lv_topi (fun v2 ev2 => ?_)
      replace h := h v2 ev2
      refine lv_istore_n (lv' := [(2, .int v2), (0, .ref (ad 1)), (1, .int a1), (3, .int a3)]) hx hb dX2_howMany_15 rfl hl (by decide) rfl (fun ls hl => ?_)
      obtain ⟨v3, ev3⟩ : ∃ y : Int32, y = a3 + 1 := ⟨_, rfl⟩
      refine lv_iinc (v := v3) (lv' := [(3, .int v3), (2, .int v2), (0, .ref (ad 1)), (1, .int a1)]) hx hb dX2_howMany_16 hl (k := 3) rfl (by rw [ev3]; rfl) (by decide) rfl (fun ls hl => ?_)
      replace h := h v3 ev3
      refine lv_goto (tgt := 4) hx hb dX2_howMany_19 (by decide) ?_
      exact ih v2 v3 _ _ _ _ h hP hS (lv_sub hl [2, 3, 1, 0] rfl)
set_option maxRecDepth 100000 in
set_option maxHeartbeats 4000000 in
theorem w_X2_howMany {p : Program} {l : Launch} {e : Env} {s : State} {m : MethodId} {args : Array Value} {below : List Frame} {meth : Method} {c : Code} {D : va_G} {cI cG cZ cJ : ClassId} {ts : Nat} {L : List Nat} {ad : Nat → Nat} {al : Nat} (hL : Lg L al) (X : FX RX2 wsX2_howMany cX2_howMany 4 (some .int) D cI cG cZ cJ ts L ad p s m args meth c) (a1 : Int32) (Q : Int32 → St → Prop) (u : St) (H : Heap) (locs : List Loc) (ls : Array Slot) (h : f_X2_howMany al a1 u Q) (hP : va_P D vwCl (cW cI cG L ad al u) H) (hS : va_S (cA L ad s.heap.size) s.heap H locs) (hl : lv_has ls 4 [(0, .ref (ad 1)), (1, .int a1)]) : W p l e (headSpec wsX2_howMany { frames := 0, cells := 0, slots := 0, locals := 0 }).room s m args below meth c H locs 0 0 (MQ below (va_Qi Q (fun u9 t => va_P D vwCl (cW cI cG L ad al u9) t.heap) (cA L ad s.heap.size)) args s 0 0 (cA L ad s.heap.size)) (F0 m 0 ls []) := by
  obtain ⟨hx, hb, hml, hown, hts, hr, hlocks, hwd, hC⟩ := id X
  have hK := hC.1
  have m1 : 1 ∈ L := hL.1
  obtain ⟨i1, hi1⟩ := wL_ix m1
  have k0 := hts (.fieldLink RX2 9 "FormForge$Field" "p" "I") (by decide +kernel)
  have n2 : ∀ w ∈ wsX20, w ∈ wsX2_howMany := by decide +kernel
  unfold f_X2_howMany at h
  refine lv_iconst (v := 1) hx hb dX2_howMany_0 (by decide) ?_
  refine lv_istore_n (lv' := [(2, .int 1), (0, .ref (ad 1)), (1, .int a1)]) hx hb dX2_howMany_1 rfl hl (by decide) rfl (fun ls hl => ?_)
  refine lv_iconst (v := 0) hx hb dX2_howMany_2 (by decide) ?_
  refine lv_istore_n (lv' := [(3, .int 0), (2, .int 1), (0, .ref (ad 1)), (1, .int a1)]) hx hb dX2_howMany_3 rfl hl (by decide) rfl (fun ls hl => ?_)
  obtain ⟨n4, h⟩ := h
  refine w_X2_howMany_L4 hL X a1 _ _ (fun v5 u6 H locs ls h hP hS hl => ?_) n4 1 0 _ _ _ _ h hP hS (lv_sub hl [2, 3, 1, 0] rfl)
  refine lv_iload_n hx hb dX2_howMany_22 rfl (lv_at hl 0 rfl) ?_
  exact W.iret (v := v5) hx hb hr (fun t ht hW => ⟨⟨_, _, rfl, h, by show va_P _ _ _ t.heap; rw [ht]; exact hP⟩, hS.F ht⟩) hS.2.2 dX2_howMany_23
set_option maxRecDepth 100000 in
set_option maxHeartbeats 4000000 in
theorem c_X2_howMany {l : Launch} {D : va_G} {cI cG cZ cJ : ClassId} {ts : Nat} {L : List Nat} {ad : Nat → Nat} {al : Nat} (hL : Lg L al) (hwd : WD L ad) (sz : Nat) (u : St) (a1 : Int32) (Q : Int32 → St → Prop) (h : f_X2_howMany al a1 u Q) : Met l yX2_howMany wsX2_howMany ({ frames := 0, cells := 0, slots := 0, locals := 0 }) (va_Pc [.ref (ad 1), .int a1] (PC D cI cG cZ cJ ts L ad al sz u)) (va_Qi Q (fun u9 t => va_P D vwCl (cW cI cG L ad al u9) t.heap) (cA L ad sz)) 0 0 (cA L ad sz) := by
  refine Met.ofW (cc := cX2_howMany) (maxL := 4) (ret := (some .int)) (by decide) rfl ?_
  intro p e s m args below meth c s₁ B hml hv
  obtain ⟨rfl, hsz, hP, hC⟩ := hv
  subst hsz
  have X : FX RX2 wsX2_howMany cX2_howMany 4 (some .int) D cI cG cZ cJ ts L ad p s m _ meth c := ⟨B.exec, B.bytes, hml, findClass_of_methodNamed B.named, atoms_spec (ws := wsX2_howMany) B.pre, B.returns, B.notSynchronized, hwd, hC⟩
  have hl := lv_entry ([.ref (ad 1), .int a1]) (n := 4) (Nat.le_of_ble_eq_true rfl)
  rw [lg_entry_eq]
  generalize (lg_sl ([.ref (ad 1), .int a1]) ++ List.replicate (4 - (lg_sl ([.ref (ad 1), .int a1])).length) Slot.unset).toArray = ls at hl ⊢
  exact w_X2_howMany hL X a1 Q u _ _ _ h hP va_S.rf hl
set_option maxRecDepth 100000 in
set_option maxHeartbeats 4000000 in
theorem w_X2_digit {p : Program} {l : Launch} {e : Env} {s : State} {m : MethodId} {args : Array Value} {below : List Frame} {meth : Method} {c : Code} {D : va_G} {cI cG cZ cJ : ClassId} {ts : Nat} {L : List Nat} {ad : Nat → Nat} {al : Nat} (hL : Lg L al) (X : FX RX2 wsX2_digit cX2_digit 4 (some .int) D cI cG cZ cJ ts L ad p s m args meth c) (a1 : Int32) (a2 : Int32) (Q : Int32 → St → Prop) (u : St) (H : Heap) (locs : List Loc) (ls : Array Slot) (h : f_X2_digit al a1 a2 u Q) (hP : va_P D vwCl (cW cI cG L ad al u) H) (hS : va_S (cA L ad s.heap.size) s.heap H locs) (hl : lv_has ls 4 [(0, .ref (ad 1)), (1, .int a1), (2, .int a2)]) : W p l e (headSpec wsX2_digit { frames := 2, cells := 0, slots := 0, locals := 43 }).room s m args below meth c H locs 0 0 (MQ below (va_Qi Q (fun u9 t => va_P D vwCl (cW cI cG L ad al u9) t.heap) (cA L ad s.heap.size)) args s 0 0 (cA L ad s.heap.size)) (F0 m 0 ls []) := by
  obtain ⟨hx, hb, hml, hown, hts, hr, hlocks, hwd, hC⟩ := id X
  have hK := hC.1
  have m1 : 1 ∈ L := hL.1
  obtain ⟨i1, hi1⟩ := wL_ix m1
  unfold f_X2_digit at h
  refine lv_aload_n hx hb dX2_digit_0 rfl (lv_at hl 0 rfl) ?_
  refine lv_iload_n hx hb dX2_digit_1 rfl (lv_at hl 2 rfl) ?_
  refine cc_i (va_runV (C := RX2) (As := [.int a2]) (rest := []) ⟨hx, hb, hml, hown, hts⟩ (c_X2_howMany hL hwd H.size u a2 _ h) (cwV 1 hts gX2_digit_X2_howMany rfl rfl rfl (by decide +kernel) ⟨Nat.le_of_ble_eq_true rfl, Nat.le_of_ble_eq_true rfl⟩) (pcV hC hP hS (cg_1 hi1) rfl) rfl rfl hl.1 rfl (lv_room (Nat.le_of_ble_eq_true rfl)) dX2_digit_2 ⟨Nat.zero_le _, Nat.zero_le _⟩) hS (cA_mono hS.1) (fun v1 u2 H locs h hP hS => ?_)
  refine lv_istore_n (lv' := [(3, .int v1), (0, .ref (ad 1)), (1, .int a1), (2, .int a2)]) hx hb dX2_digit_5 rfl hl (by decide) rfl (fun ls hl => ?_)
  refine lv_iload_n hx hb dX2_digit_6 rfl (lv_at hl 0 rfl) ?_
  refine lv_if_le (tgt := 20) hx hb dX2_digit_7 (by decide) (fun c3 => ?_) (fun c3 => ?_)
  · replace h := h.1 c3
    refine lv_iconst (v := 0) hx hb dX2_digit_20 (by decide) ?_
    exact W.iret (v := 0) hx hb hr (fun t ht hW => ⟨⟨_, _, rfl, h, by show va_P _ _ _ t.heap; rw [ht]; exact hP⟩, hS.F ht⟩) hS.2.2 dX2_digit_21
  · replace h := h.2 c3
    refine lv_aload_n hx hb dX2_digit_10 rfl (lv_at hl 1 rfl) ?_
    refine lv_iload_n hx hb dX2_digit_11 rfl (lv_at hl 2 rfl) ?_
    refine lv_iload_n hx hb dX2_digit_12 rfl (lv_at hl 0 rfl) ?_
    refine lv_idiv hx hb dX2_digit_13 h.1 ?_
    replace h := h.2
    refine lv_topi (fun v4 ev4 => ?_)
    replace h := h v4 ev4
    refine cc_i (va_runV (C := RX2) (As := [.int v4]) (rest := []) ⟨hx, hb, hml, hown, hts⟩ (c_X2_rest hL hwd H.size u2 v4 _ h) (cwV 1 hts gX2_digit_X2_rest rfl rfl rfl (by decide +kernel) ⟨Nat.le_of_ble_eq_true rfl, Nat.le_of_ble_eq_true rfl⟩) (pcV hC hP hS (cg_1 hi1) rfl) rfl rfl hl.1 rfl (lv_room (Nat.le_of_ble_eq_true rfl)) dX2_digit_14 ⟨Nat.zero_le _, Nat.zero_le _⟩) hS (cA_mono hS.1) (fun v5 u6 H locs h hP hS => ?_)
    refine lv_goto (tgt := 21) hx hb dX2_digit_17 (by decide) ?_
    exact W.iret (v := v5) hx hb hr (fun t ht hW => ⟨⟨_, _, rfl, h, by show va_P _ _ _ t.heap; rw [ht]; exact hP⟩, hS.F ht⟩) hS.2.2 dX2_digit_21
set_option maxRecDepth 100000 in
set_option maxHeartbeats 4000000 in
theorem c_X2_digit {l : Launch} {D : va_G} {cI cG cZ cJ : ClassId} {ts : Nat} {L : List Nat} {ad : Nat → Nat} {al : Nat} (hL : Lg L al) (hwd : WD L ad) (sz : Nat) (u : St) (a1 : Int32) (a2 : Int32) (Q : Int32 → St → Prop) (h : f_X2_digit al a1 a2 u Q) : Met l yX2_digit wsX2_digit ({ frames := 2, cells := 0, slots := 0, locals := 43 }) (va_Pc [.ref (ad 1), .int a1, .int a2] (PC D cI cG cZ cJ ts L ad al sz u)) (va_Qi Q (fun u9 t => va_P D vwCl (cW cI cG L ad al u9) t.heap) (cA L ad sz)) 0 0 (cA L ad sz) := by
  refine Met.ofW (cc := cX2_digit) (maxL := 4) (ret := (some .int)) (by decide) rfl ?_
  intro p e s m args below meth c s₁ B hml hv
  obtain ⟨rfl, hsz, hP, hC⟩ := hv
  subst hsz
  have X : FX RX2 wsX2_digit cX2_digit 4 (some .int) D cI cG cZ cJ ts L ad p s m _ meth c := ⟨B.exec, B.bytes, hml, findClass_of_methodNamed B.named, atoms_spec (ws := wsX2_digit) B.pre, B.returns, B.notSynchronized, hwd, hC⟩
  have hl := lv_entry ([.ref (ad 1), .int a1, .int a2]) (n := 4) (Nat.le_of_ble_eq_true rfl)
  rw [lg_entry_eq]
  generalize (lg_sl ([.ref (ad 1), .int a1, .int a2]) ++ List.replicate (4 - (lg_sl ([.ref (ad 1), .int a1, .int a2])).length) Slot.unset).toArray = ls at hl ⊢
  exact w_X2_digit hL X a1 a2 Q u _ _ _ h hP va_S.rf hl
set_option maxRecDepth 100000 in
set_option maxHeartbeats 4000000 in
theorem w_X2_power_L5 {p : Program} {l : Launch} {e : Env} {s : State} {m : MethodId} {args : Array Value} {below : List Frame} {meth : Method} {c : Code} {D : va_G} {cI cG cZ cJ : ClassId} {ts : Nat} {L : List Nat} {ad : Nat → Nat} {al : Nat} (hL : Lf L al) (X : FX RX2 wsX2_power cX2_power 5 (some .int) D cI cG cZ cJ ts L ad p s m args meth c) (a1 : Int32) (a2 : Int32) (Q : Int32 → St → Prop)
    (K0 : Int32 → St → Prop) (hk0 : ∀ (b3 : Int32) (u : St) (H : Heap) (locs : List Loc) (ls : Array Slot), K0 b3 u → va_P D vwCl (cW cI cG L ad al u) H → va_S (cA L ad s.heap.size) s.heap H locs → lv_has ls 5 [(3, .int b3)] → W p l e (headSpec wsX2_power { frames := 2, cells := 0, slots := 0, locals := 43 }).room s m args below meth c H locs 0 0 (MQ below (va_Qi Q (fun u9 t => va_P D vwCl (cW cI cG L ad al u9) t.heap) (cA L ad s.heap.size)) args s 0 0 (cA L ad s.heap.size)) (F0 m 25 ls []))
    : ∀ (n : Nat) (a3 : Int32) (a4 : Int32) (u : St) (H : Heap) (locs : List Loc) (ls : Array Slot), f_X2_power_L5 al a1 a2 Q K0 n a3 a4 u → va_P D vwCl (cW cI cG L ad al u) H → va_S (cA L ad s.heap.size) s.heap H locs → lv_has ls 5 [(0, .ref (ad 1)), (1, .int a1), (2, .int a2), (3, .int a3), (4, .int a4)] → W p l e (headSpec wsX2_power { frames := 2, cells := 0, slots := 0, locals := 43 }).room s m args below meth c H locs 0 0 (MQ below (va_Qi Q (fun u9 t => va_P D vwCl (cW cI cG L ad al u9) t.heap) (cA L ad s.heap.size)) args s 0 0 (cA L ad s.heap.size)) (F0 m 5 ls []) := by
  obtain ⟨hx, hb, hml, hown, hts, hr, hlocks, hwd, hC⟩ := id X
  have hK := hC.1
  have m1 : 1 ∈ L := hL 1 (by omega)
  obtain ⟨i1, hi1⟩ := wL_ix m1
  intro n
  induction n with
  | zero =>
    intro a3 a4 u H locs ls h; exact h.elim
  | succ n ih =>
    intro a3 a4 u H locs ls h hP hS hl
    replace h : f_X2_power_L5_s al a1 a2 Q K0 (f_X2_power_L5 al a1 a2 Q K0 n) a3 a4 u := h
    unfold f_X2_power_L5_s at h
    refine lv_iload hx hb dX2_power_5 (lv_at hl 4 rfl) ?_
    refine lv_iload_n hx hb dX2_power_7 rfl (lv_at hl 2 rfl) ?_
    refine lv_icmp_ge (tgt := 25) hx hb dX2_power_8 (by decide) (fun c1 => ?_) (fun c1 => ?_)
    · replace h := h.1 c1
      exact hk0 a3 _ _ _ _ h hP hS (lv_sub hl [3] rfl)
    · replace h := h.2 c1
      refine lv_aload_n hx hb dX2_power_11 rfl (lv_at hl 0 rfl) ?_
      refine lv_iload_n hx hb dX2_power_12 rfl (lv_at hl 3 rfl) ?_
      refine lv_iload_n hx hb dX2_power_13 rfl (lv_at hl 1 rfl) ?_
      refine lv_imul hx hb dX2_power_14 ?_
      refine cc_i (va_runV (C := RX2) (As := [.int (a3 * a1)]) (rest := []) ⟨hx, hb, hml, hown, hts⟩ (c_X2_rest hL.g hwd H.size u (a3 * a1) _ h) (cwV 1 hts gX2_power_X2_rest rfl rfl rfl (by decide +kernel) ⟨Nat.le_of_ble_eq_true rfl, Nat.le_of_ble_eq_true rfl⟩) (pcV hC hP hS (cg_1 hi1) rfl) rfl rfl hl.1 rfl (lv_room (Nat.le_of_ble_eq_true rfl)) dX2_power_15 ⟨Nat.zero_le _, Nat.zero_le _⟩) hS (cA_mono hS.1) (fun v2 u3 H locs h hP hS => ?_)
      refine lv_istore_n (lv' := [(3, .int v2), (0, .ref (ad 1)), (1, .int a1), (2, .int a2), (4, .int a4)]) hx hb dX2_power_18 rfl hl (by decide) rfl (fun ls hl => ?_)
      obtain ⟨v4, ev4⟩ : ∃ y : Int32, y = a4 + 1 := ⟨_, rfl⟩
      refine lv_iinc (v := v4) (lv' := [(4, .int v4), (3, .int v2), (0, .ref (ad 1)), (1, .int a1), (2, .int a2)]) hx hb dX2_power_19 hl (k := 4) rfl (by rw [ev4]; rfl) (by decide) rfl (fun ls hl => ?_)
      replace h := h v4 ev4
      refine lv_goto (tgt := 5) hx hb dX2_power_22 (by decide) ?_
      exact ih v2 v4 _ _ _ _ h hP hS (lv_sub hl [2, 3, 4, 1, 0] rfl)
set_option maxRecDepth 100000 in
set_option maxHeartbeats 4000000 in
theorem w_X2_power {p : Program} {l : Launch} {e : Env} {s : State} {m : MethodId} {args : Array Value} {below : List Frame} {meth : Method} {c : Code} {D : va_G} {cI cG cZ cJ : ClassId} {ts : Nat} {L : List Nat} {ad : Nat → Nat} {al : Nat} (hL : Lf L al) (X : FX RX2 wsX2_power cX2_power 5 (some .int) D cI cG cZ cJ ts L ad p s m args meth c) (a1 : Int32) (a2 : Int32) (Q : Int32 → St → Prop) (u : St) (H : Heap) (locs : List Loc) (ls : Array Slot) (h : f_X2_power al a1 a2 u Q) (hP : va_P D vwCl (cW cI cG L ad al u) H) (hS : va_S (cA L ad s.heap.size) s.heap H locs) (hl : lv_has ls 5 [(0, .ref (ad 1)), (1, .int a1), (2, .int a2)]) : W p l e (headSpec wsX2_power { frames := 2, cells := 0, slots := 0, locals := 43 }).room s m args below meth c H locs 0 0 (MQ below (va_Qi Q (fun u9 t => va_P D vwCl (cW cI cG L ad al u9) t.heap) (cA L ad s.heap.size)) args s 0 0 (cA L ad s.heap.size)) (F0 m 0 ls []) := by
  obtain ⟨hx, hb, hml, hown, hts, hr, hlocks, hwd, hC⟩ := id X
  have hK := hC.1
  have m1 : 1 ∈ L := hL 1 (by omega)
  obtain ⟨i1, hi1⟩ := wL_ix m1
  unfold f_X2_power at h
  refine lv_iconst (v := 1) hx hb dX2_power_0 (by decide) ?_
  refine lv_istore_n (lv' := [(3, .int 1), (0, .ref (ad 1)), (1, .int a1), (2, .int a2)]) hx hb dX2_power_1 rfl hl (by decide) rfl (fun ls hl => ?_)
  refine lv_iconst (v := 0) hx hb dX2_power_2 (by decide) ?_
  refine lv_istore (lv' := [(4, .int 0), (3, .int 1), (0, .ref (ad 1)), (1, .int a1), (2, .int a2)]) hx hb dX2_power_3 hl (by decide) rfl (fun ls hl => ?_)
  obtain ⟨n5, h⟩ := h
  refine w_X2_power_L5 hL X a1 a2 _ _ (fun v6 u7 H locs ls h hP hS hl => ?_) n5 1 0 _ _ _ _ h hP hS (lv_sub hl [2, 3, 4, 1, 0] rfl)
  refine lv_iload_n hx hb dX2_power_25 rfl (lv_at hl 0 rfl) ?_
  exact W.iret (v := v6) hx hb hr (fun t ht hW => ⟨⟨_, _, rfl, h, by show va_P _ _ _ t.heap; rw [ht]; exact hP⟩, hS.F ht⟩) hS.2.2 dX2_power_26
set_option maxRecDepth 100000 in
set_option maxHeartbeats 4000000 in
theorem c_X2_power {l : Launch} {D : va_G} {cI cG cZ cJ : ClassId} {ts : Nat} {L : List Nat} {ad : Nat → Nat} {al : Nat} (hL : Lf L al) (hwd : WD L ad) (sz : Nat) (u : St) (a1 : Int32) (a2 : Int32) (Q : Int32 → St → Prop) (h : f_X2_power al a1 a2 u Q) : Met l yX2_power wsX2_power ({ frames := 2, cells := 0, slots := 0, locals := 43 }) (va_Pc [.ref (ad 1), .int a1, .int a2] (PC D cI cG cZ cJ ts L ad al sz u)) (va_Qi Q (fun u9 t => va_P D vwCl (cW cI cG L ad al u9) t.heap) (cA L ad sz)) 0 0 (cA L ad sz) := by
  refine Met.ofW (cc := cX2_power) (maxL := 5) (ret := (some .int)) (by decide) rfl ?_
  intro p e s m args below meth c s₁ B hml hv
  obtain ⟨rfl, hsz, hP, hC⟩ := hv
  subst hsz
  have X : FX RX2 wsX2_power cX2_power 5 (some .int) D cI cG cZ cJ ts L ad p s m _ meth c := ⟨B.exec, B.bytes, hml, findClass_of_methodNamed B.named, atoms_spec (ws := wsX2_power) B.pre, B.returns, B.notSynchronized, hwd, hC⟩
  have hl := lv_entry ([.ref (ad 1), .int a1, .int a2]) (n := 5) (Nat.le_of_ble_eq_true rfl)
  rw [lg_entry_eq]
  generalize (lg_sl ([.ref (ad 1), .int a1, .int a2]) ++ List.replicate (5 - (lg_sl ([.ref (ad 1), .int a1, .int a2])).length) Slot.unset).toArray = ls at hl ⊢
  exact w_X2_power hL X a1 a2 Q u _ _ _ h hP va_S.rf hl
set_option maxRecDepth 100000 in
set_option maxHeartbeats 4000000 in
theorem c_X4_pick {l : Launch} {D : va_G} {cI cG cZ cJ : ClassId} {ts : Nat} {L : List Nat} {ad : Nat → Nat} {al : Nat} (hL : Lg L al) (hwd : WD L ad) (sz : Nat) (u : St) (a1 : Int32) (Q : Option Nat → St → Prop) (h : f_X4_pick al a1 u Q) : Met l yX4_pick wsX4_pick ({ frames := 0, cells := 0, slots := 0, locals := 0 }) (va_Pc [.ref (ad 4), .int a1] (PC D cI cG cZ cJ ts L ad al sz u)) (va_Qq (fun r u9 => ∃ o : Option Nat, r = o.map (fun j => ad (22 + 2 * j)) ∧ (∀ j, o = some j → j < al) ∧ Q o u9) (fun u9 t => va_P D vwCl (cW cI cG L ad al u9) t.heap) (cA L ad sz)) 0 0 (cA L ad sz) := by
  refine Met.ofW (cc := cX4_pick) (maxL := 2) (ret := (some (.object "FormForge$Generator"))) (by decide) rfl ?_
  intro p e s m args below meth c s₁ B hml hv
  obtain ⟨rfl, hsz, hP, hC⟩ := hv
  subst hsz
  have X : FX RX4 wsX4_pick cX4_pick 2 (some (.object "FormForge$Generator")) D cI cG cZ cJ ts L ad p s m _ meth c := ⟨B.exec, B.bytes, hml, findClass_of_methodNamed B.named, atoms_spec (ws := wsX4_pick) B.pre, B.returns, B.notSynchronized, hwd, hC⟩
  have hl := lv_entry ([.ref (ad 4), .int a1]) (n := 2) (Nat.le_of_ble_eq_true rfl)
  rw [lg_entry_eq]
  generalize (lg_sl ([.ref (ad 4), .int a1]) ++ List.replicate (2 - (lg_sl ([.ref (ad 4), .int a1])).length) Slot.unset).toArray = ls at hl ⊢
  obtain ⟨hx, hb, hml, hown, hts, hr, hlocks, -, -⟩ := id X
  have hK := hC.1
  have hS : va_S (cA L ad s.heap.size) s.heap s.heap [] := va_S.rf
  obtain ⟨i4, hi4⟩ := wL_ix hL.2.1
  obtain ⟨i6, hi6⟩ := wL_ix hL.2.2.1
  have k0 := hts (.fieldLink RX4 31 "FormForge$Group" "told" "I") (by decide +kernel)
  have k1 := hts (.fieldLink RX4 11 "FormForge$Group" "generators" "[LFormForge$Generator;") (by decide +kernel)
  have n4 : ∀ w ∈ wsX40, w ∈ wsX4_pick := by decide +kernel
  have hnull : ∀ (pc : Nat) (ls : Array Slot), Q none u → decode cX4_pick pc = .ok (.areturn, 1) → W p l e (headSpec wsX4_pick { frames := 0, cells := 0, slots := 0, locals := 0 }).room s m #[Value.ref (ad 4), Value.int a1] below meth c s.heap [] 0 0 (MQ below (va_Qq (fun r u9 => ∃ o : Option Nat, r = o.map (fun j => ad (22 + 2 * j)) ∧ (∀ j, o = some j → j < al) ∧ Q o u9) (fun u9 t => va_P D vwCl (cW cI cG L ad al u9) t.heap) (cA L ad s.heap.size)) #[Value.ref (ad 4), Value.int a1] s 0 0 (cA L ad s.heap.size)) (F0 m pc ls [.null]) := by
    intro pc ls hq hd
    exact W.aret hx hb hr (Or.inl ⟨_, rfl⟩) (Or.inl rfl) (fun t ht hW => ⟨⟨none, u, rfl, ⟨none, rfl, fun j h => by cases h, hq⟩, by show va_P _ _ _ t.heap; rw [ht]; exact hP⟩, hS.F ht⟩) hS.2.2 hd
  unfold f_X4_pick at h
  refine lv_iload_n hx hb dX4_pick_0 rfl (lv_at hl 1 rfl) ?_
  refine lv_if_lt (tgt := 30) hx hb dX4_pick_1 (by decide) (fun c1 => ?_) (fun c1 => ?_)
  · refine lv_null hx hb dX4_pick_30 ?_
    exact hnull _ _ (h.1 c1) dX4_pick_31
  · replace h := h.2 c1
    refine lv_iload_n hx hb dX4_pick_4 rfl (lv_at hl 1 rfl) ?_
    refine lv_aload_n hx hb dX4_pick_5 rfl (lv_at hl 0 rfl) ?_
    refine va_get (C := RX4) (T := TX4) (N := 6) hx hb hts n4 hown hK hP i4 (cg_4 hi4) rfl 4 (by decide) k0 (fun _ h9 => h9) rfl dX4_pick_6 ?_
    refine lv_icmp_ge (tgt := 30) hx hb dX4_pick_9 (by decide) (fun c2 => ?_) (fun c2 => ?_)
    · refine lv_null hx hb dX4_pick_30 ?_
      exact hnull _ _ (h.1 c2) dX4_pick_31
    · replace h := h.2 c2
      refine lv_iload_n hx hb dX4_pick_12 rfl (lv_at hl 1 rfl) ?_
      refine lv_aload_n hx hb dX4_pick_13 rfl (lv_at hl 0 rfl) ?_
      refine va_get (C := RX4) (T := TX4) (N := 6) hx hb hts n4 hown hK hP i4 (cg_4 hi4) rfl 1 (by decide) k1 (fun _ h9 => h9) rfl dX4_pick_14 ?_
      refine va_alen (v := 4) hx hb hK hP i6 1 (cg_6 hi6) rfl rfl dX4_pick_17 ?_
      refine lv_icmp_ge (tgt := 30) hx hb dX4_pick_18 (by decide) (fun c3 => ?_) (fun c3 => ?_)
      · refine lv_null hx hb dX4_pick_30 ?_
        exact hnull _ _ (h.1 c3) dX4_pick_31
      · replace h := h.2 c3
        refine lv_aload_n hx hb dX4_pick_21 rfl (lv_at hl 0 rfl) ?_
        refine va_get (C := RX4) (T := TX4) (N := 6) hx hb hts n4 hown hK hP i4 (cg_4 hi4) rfl 1 (by decide) k1 (fun _ h9 => h9) rfl dX4_pick_22 ?_
        refine lv_iload_n hx hb dX4_pick_25 rfl (lv_at hl 1 rfl) ?_
        refine va_aldq hx hb hK hP i6 1 (cg_6 hi6) rfl h.1 dX4_pick_26 ?_
        refine lv_goto (tgt := 31) hx hb dX4_pick_27 (by decide) ?_
        refine W.aret hx hb hr (Or.inl ⟨_, rfl⟩) ?_ (fun t ht hW => ⟨⟨_, u, rfl, ⟨_, ?_, ?_, h.2⟩, by show va_P _ _ _ t.heap; rw [ht]; exact hP⟩, hS.F ht⟩) hS.2.2 dX4_pick_31
        · split
          · exact Or.inr ⟨_, rfl⟩
          · exact Or.inl rfl
        · split <;> rfl
        · intro j hj
          split at hj
          · cases hj; assumption
          · cases hj
set_option maxRecDepth 100000 in
set_option maxHeartbeats 4000000 in
theorem w_X2_table {p : Program} {l : Launch} {e : Env} {s : State} {m : MethodId} {args : Array Value} {below : List Frame} {meth : Method} {c : Code} {D : va_G} {cI cG cZ cJ : ClassId} {ts : Nat} {L : List Nat} {ad : Nat → Nat} {al : Nat} (hL : Lg L al) (X : FX RX2 wsX2_table cX2_table 5 (some .int) D cI cG cZ cJ ts L ad p s m args meth c) (a1 : Int32) (a2 : Int32) (a3 : Int32) (a4 : Int32) (Q : Int32 → St → Prop) (u : St) (H : Heap) (locs : List Loc) (ls : Array Slot) (h : f_X2_table al a1 a2 a3 a4 u Q) (hP : va_P D vwCl (cW cI cG L ad al u) H) (hS : va_S (cA L ad s.heap.size) s.heap H locs) (hl : lv_has ls 5 [(0, .ref (ad 1)), (1, .int a1), (2, .int a2), (3, .int a3), (4, .int a4)]) : W p l e (headSpec wsX2_table { frames := 0, cells := 0, slots := 0, locals := 0 }).room s m args below meth c H locs 0 0 (MQ below (va_Qi Q (fun u9 t => va_P D vwCl (cW cI cG L ad al u9) t.heap) (cA L ad s.heap.size)) args s 0 0 (cA L ad s.heap.size)) (F0 m 0 ls []) := by
  obtain ⟨hx, hb, hml, hown, hts, hr, hlocks, hwd, hC⟩ := id X
  have hK := hC.1
  have m1 : 1 ∈ L := hL.1
  obtain ⟨i1, hi1⟩ := wL_ix m1
  have k0 := hts (.fieldLink RX2 9 "FormForge$Field" "p" "I") (by decide +kernel)
  have n2 : ∀ w ∈ wsX20, w ∈ wsX2_table := by decide +kernel
  unfold f_X2_table at h
  refine lv_iload_n hx hb dX2_table_0 rfl (lv_at hl 1 rfl) ?_
  refine lv_aload_n hx hb dX2_table_1 rfl (lv_at hl 0 rfl) ?_
  refine va_get (C := RX2) (T := TX2) (N := 1) hx hb hts n2 hown hK hP i1 (cg_1 hi1) rfl 0 (by decide) k0 (fun _ h9 => h9) rfl dX2_table_2 ?_
  refine lv_iload_n hx hb dX2_table_5 rfl (lv_at hl 2 rfl) ?_
  refine lv_aload_n hx hb dX2_table_6 rfl (lv_at hl 0 rfl) ?_
  refine va_get (C := RX2) (T := TX2) (N := 1) hx hb hts n2 hown hK hP i1 (cg_1 hi1) rfl 0 (by decide) k0 (fun _ h9 => h9) rfl dX2_table_7 ?_
  refine lv_iload_n hx hb dX2_table_10 rfl (lv_at hl 3 rfl) ?_
  refine lv_aload_n hx hb dX2_table_11 rfl (lv_at hl 0 rfl) ?_
  refine va_get (C := RX2) (T := TX2) (N := 1) hx hb hts n2 hown hK hP i1 (cg_1 hi1) rfl 0 (by decide) k0 (fun _ h9 => h9) rfl dX2_table_12 ?_
  refine lv_iload hx hb dX2_table_15 (lv_at hl 4 rfl) ?_
  refine lv_imul hx hb dX2_table_17 ?_
  refine lv_iadd hx hb dX2_table_18 ?_
  refine lv_imul hx hb dX2_table_19 ?_
  refine lv_iadd hx hb dX2_table_20 ?_
  refine lv_imul hx hb dX2_table_21 ?_
  refine lv_iadd hx hb dX2_table_22 ?_
  exact W.iret (v := (a1 + ((u 0 0) * (a2 + ((u 0 0) * (a3 + ((u 0 0) * a4))))))) hx hb hr (fun t ht hW => ⟨⟨_, _, rfl, h, by show va_P _ _ _ t.heap; rw [ht]; exact hP⟩, hS.F ht⟩) hS.2.2 dX2_table_23
set_option maxRecDepth 100000 in
set_option maxHeartbeats 4000000 in
theorem c_X2_table {l : Launch} {D : va_G} {cI cG cZ cJ : ClassId} {ts : Nat} {L : List Nat} {ad : Nat → Nat} {al : Nat} (hL : Lg L al) (hwd : WD L ad) (sz : Nat) (u : St) (a1 : Int32) (a2 : Int32) (a3 : Int32) (a4 : Int32) (Q : Int32 → St → Prop) (h : f_X2_table al a1 a2 a3 a4 u Q) : Met l yX2_table wsX2_table ({ frames := 0, cells := 0, slots := 0, locals := 0 }) (va_Pc [.ref (ad 1), .int a1, .int a2, .int a3, .int a4] (PC D cI cG cZ cJ ts L ad al sz u)) (va_Qi Q (fun u9 t => va_P D vwCl (cW cI cG L ad al u9) t.heap) (cA L ad sz)) 0 0 (cA L ad sz) := by
  refine Met.ofW (cc := cX2_table) (maxL := 5) (ret := (some .int)) (by decide) rfl ?_
  intro p e s m args below meth c s₁ B hml hv
  obtain ⟨rfl, hsz, hP, hC⟩ := hv
  subst hsz
  have X : FX RX2 wsX2_table cX2_table 5 (some .int) D cI cG cZ cJ ts L ad p s m _ meth c := ⟨B.exec, B.bytes, hml, findClass_of_methodNamed B.named, atoms_spec (ws := wsX2_table) B.pre, B.returns, B.notSynchronized, hwd, hC⟩
  have hl := lv_entry ([.ref (ad 1), .int a1, .int a2, .int a3, .int a4]) (n := 5) (Nat.le_of_ble_eq_true rfl)
  rw [lg_entry_eq]
  generalize (lg_sl ([.ref (ad 1), .int a1, .int a2, .int a3, .int a4]) ++ List.replicate (5 - (lg_sl ([.ref (ad 1), .int a1, .int a2, .int a3, .int a4])).length) Slot.unset).toArray = ls at hl ⊢
  exact w_X2_table hL X a1 a2 a3 a4 Q u _ _ _ h hP va_S.rf hl
set_option maxRecDepth 100000 in
set_option maxHeartbeats 4000000 in
theorem w_X4_generatorMatrix {p : Program} {l : Launch} {e : Env} {s : State} {m : MethodId} {args : Array Value} {below : List Frame} {meth : Method} {c : Code} {D : va_G} {cI cG cZ cJ : ClassId} {ts : Nat} {L : List Nat} {ad : Nat → Nat} {al : Nat} (hL : Lg L al) (X : FX RX4 wsX4_generatorMatrix cX4_generatorMatrix 3 (some .int) D cI cG cZ cJ ts L ad p s m args meth c) (a1 : Int32) (Q : Int32 → St → Prop) (u : St) (H : Heap) (locs : List Loc) (ls : Array Slot) (h : f_X4_generatorMatrix al a1 u Q) (hP : va_P D vwCl (cW cI cG L ad al u) H) (hS : va_S (cA L ad s.heap.size) s.heap H locs) (hl : lv_has ls 3 [(0, .ref (ad 4)), (1, .int a1)]) : W p l e (headSpec wsX4_generatorMatrix { frames := 1, cells := 0, slots := 0, locals := 24 }).room s m args below meth c H locs 0 0 (MQ below (va_Qi Q (fun u9 t => va_P D vwCl (cW cI cG L ad al u9) t.heap) (cA L ad s.heap.size)) args s 0 0 (cA L ad s.heap.size)) (F0 m 0 ls []) := by
  obtain ⟨hx, hb, hml, hown, hts, hr, hlocks, hwd, hC⟩ := id X
  have hK := hC.1
  have m1 : 1 ∈ L := hL.1
  obtain ⟨i1, hi1⟩ := wL_ix m1
  have m4 : 4 ∈ L := hL.2.1
  obtain ⟨i4, hi4⟩ := wL_ix m4
  have k0 := hts (.fieldLink RX4 24 "FormForge$Group" "field" "LFormForge$Field;") (by decide +kernel)
  have k1 := hts (.fieldLink RX4 82 "FormForge$Generator" "matrix" "I") (by decide +kernel)
  have n3 : ∀ w ∈ wsX30, w ∈ wsX4_generatorMatrix := by decide +kernel
  have n4 : ∀ w ∈ wsX40, w ∈ wsX4_generatorMatrix := by decide +kernel
  unfold f_X4_generatorMatrix at h
  refine lv_aload_n hx hb dX4_generatorMatrix_0 rfl (lv_at hl 0 rfl) ?_
  refine lv_iload_n hx hb dX4_generatorMatrix_1 rfl (lv_at hl 1 rfl) ?_
  refine cc_q (va_runV (C := RX4) (As := [.int a1]) (rest := []) ⟨hx, hb, hml, hown, hts⟩ (c_X4_pick hL hwd H.size u a1 _ h) (cwV 1 hts gX4_generatorMatrix_X4_pick rfl rfl rfl (by decide +kernel) ⟨Nat.le_of_ble_eq_true rfl, Nat.le_of_ble_eq_true rfl⟩) (pcV hC hP hS (cg_4 hi4) rfl) rfl rfl hl.1 rfl (lv_room (Nat.le_of_ble_eq_true rfl)) dX4_generatorMatrix_2 ⟨Nat.zero_le _, Nat.zero_le _⟩) hS (cA_mono hS.1) (fun u2 H locs h hP hS => ?_) (fun j4 u2 H locs hj h hP hS => ?_)
  · replace h := h.1 rfl
    refine lv_astore_nN (lv' := [(2, .null), (0, .ref (ad 4)), (1, .int a1)]) hx hb dX4_generatorMatrix_5 rfl hl (by decide) rfl (fun ls hl => ?_)
    refine lv_aload_nN hx hb dX4_generatorMatrix_6 rfl (lv_at hl 0 rfl) ?_
    refine lv_ifnonnullN hx hb dX4_generatorMatrix_7 ?_
    refine lv_aload_n hx hb dX4_generatorMatrix_10 rfl (lv_at hl 1 rfl) ?_
    refine va_get (C := RX4) (T := TX4) (N := 6) hx hb hts n4 hown hK hP i4 (cg_4 hi4) rfl 0 (by decide) k0 (fun _ h9 => h9) rfl dX4_generatorMatrix_11 ?_
    refine lv_iconst (v := 1) hx hb dX4_generatorMatrix_14 (by decide) ?_
    refine lv_iconst (v := 0) hx hb dX4_generatorMatrix_15 (by decide) ?_
    refine lv_iconst (v := 0) hx hb dX4_generatorMatrix_16 (by decide) ?_
    refine lv_iconst (v := 1) hx hb dX4_generatorMatrix_17 (by decide) ?_
    refine cc_i (va_runV (C := RX2) (As := [.int 1, .int 0, .int 0, .int 1]) (rest := []) ⟨hx, hb, hml, hown, hts⟩ (c_X2_table hL hwd H.size u2 1 0 0 1 _ h) (cwV 4 hts gX4_generatorMatrix_X2_table rfl rfl rfl (by decide +kernel) ⟨Nat.le_of_ble_eq_true rfl, Nat.le_of_ble_eq_true rfl⟩) (pcV hC hP hS (cg_1 hi1) rfl) rfl rfl hl.1 rfl (lv_room (Nat.le_of_ble_eq_true rfl)) dX4_generatorMatrix_18 ⟨Nat.zero_le _, Nat.zero_le _⟩) hS (cA_mono hS.1) (fun v5 u6 H locs h hP hS => ?_)
    refine lv_goto (tgt := 28) hx hb dX4_generatorMatrix_21 (by decide) ?_
    exact W.iret (v := v5) hx hb hr (fun t ht hW => ⟨⟨_, _, rfl, h, by show va_P _ _ _ t.heap; rw [ht]; exact hP⟩, hS.F ht⟩) hS.2.2 dX4_generatorMatrix_28
  · replace h := h.2 j4 hj rfl
    obtain ⟨ij, hij⟩ := wL_ix (hL.2.2.2.2.2 j4 hj).1
    refine lv_astore_n (lv' := [(2, .ref (ad (22 + 2 * j4))), (0, .ref (ad 4)), (1, .int a1)]) hx hb dX4_generatorMatrix_5 rfl hl (by decide) rfl (fun ls hl => ?_)
    refine lv_aload_n hx hb dX4_generatorMatrix_6 rfl (lv_at hl 0 rfl) ?_
    refine lv_ifnonnull (tgt := 24) hx hb dX4_generatorMatrix_7 (by decide) ?_
    refine lv_aload_n hx hb dX4_generatorMatrix_24 rfl (lv_at hl 0 rfl) ?_
    refine va_get (C := RX3) (T := TX3) (N := 2) hx hb hts n3 hown hK hP ij (cg_g hij) rfl 1 (by decide) k1 (fun _ h9 => h9) rfl dX4_generatorMatrix_25 ?_
    exact W.iret (v := (u2 0 (8 + j4))) hx hb hr (fun t ht hW => ⟨⟨_, _, rfl, h, by show va_P _ _ _ t.heap; rw [ht]; exact hP⟩, hS.F ht⟩) hS.2.2 dX4_generatorMatrix_28
set_option maxRecDepth 100000 in
set_option maxHeartbeats 4000000 in
theorem c_X4_generatorMatrix {l : Launch} {D : va_G} {cI cG cZ cJ : ClassId} {ts : Nat} {L : List Nat} {ad : Nat → Nat} {al : Nat} (hL : Lg L al) (hwd : WD L ad) (sz : Nat) (u : St) (a1 : Int32) (Q : Int32 → St → Prop) (h : f_X4_generatorMatrix al a1 u Q) : Met l yX4_generatorMatrix wsX4_generatorMatrix ({ frames := 1, cells := 0, slots := 0, locals := 24 }) (va_Pc [.ref (ad 4), .int a1] (PC D cI cG cZ cJ ts L ad al sz u)) (va_Qi Q (fun u9 t => va_P D vwCl (cW cI cG L ad al u9) t.heap) (cA L ad sz)) 0 0 (cA L ad sz) := by
  refine Met.ofW (cc := cX4_generatorMatrix) (maxL := 3) (ret := (some .int)) (by decide) rfl ?_
  intro p e s m args below meth c s₁ B hml hv
  obtain ⟨rfl, hsz, hP, hC⟩ := hv
  subst hsz
  have X : FX RX4 wsX4_generatorMatrix cX4_generatorMatrix 3 (some .int) D cI cG cZ cJ ts L ad p s m _ meth c := ⟨B.exec, B.bytes, hml, findClass_of_methodNamed B.named, atoms_spec (ws := wsX4_generatorMatrix) B.pre, B.returns, B.notSynchronized, hwd, hC⟩
  have hl := lv_entry ([.ref (ad 4), .int a1]) (n := 3) (Nat.le_of_ble_eq_true rfl)
  rw [lg_entry_eq]
  generalize (lg_sl ([.ref (ad 4), .int a1]) ++ List.replicate (3 - (lg_sl ([.ref (ad 4), .int a1])).length) Slot.unset).toArray = ls at hl ⊢
  exact w_X4_generatorMatrix hL X a1 Q u _ _ _ h hP va_S.rf hl
