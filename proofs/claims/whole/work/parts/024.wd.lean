set_option maxRecDepth 100000 in
set_option maxHeartbeats 4000000 in
theorem w_X7_thrown {p : Program} {l : Launch} {e : Env} {s : State} {m : MethodId} {args : Array Value} {below : List Frame} {meth : Method} {c : Code} {D : va_G} {cI cG cZ cJ : ClassId} {ts : Nat × Nat}  {ad : Nat → Nat}  (X : FX RX7 wsX7_thrown cX7_thrown 1 (some .int) D cI cG cZ cJ ts mLs ad p s m args meth c)  (Q : Int32 → St → Prop) (u : St) (H : Heap) (locs : List Loc) (ls : Array Slot) (h : f_X7_thrown  u Q) (hP : va_P D vwCl (mW cI cZ ad u) H) (hS : va_S (cA mLs ad s.heap.size) s.heap H locs) (hl : lv_has ls 1 [(0, .ref (ad 0))]) : W p l e (headSpec wsX7_thrown { frames := 0, cells := 0, slots := 0, locals := 0 }).room s m args below meth c H locs 0 0 (MQ below (va_Qi Q (fun u9 t => va_P D vwCl (mW cI cZ ad u9) t.heap) (cA mLs ad s.heap.size)) args s 0 0 (cA mLs ad s.heap.size)) (F0 m 0 ls []) := by
  obtain ⟨hx, hb, hml, hown, hts, hr, hlocks, hwd, hC⟩ := id X
  have hK := hC.1
  have lk0 := hts (.fieldLink RX7 60 "FormForgeModel" "thrown" "I") (by decide +kernel)
  have n7 : ∀ w ∈ wsX70, w ∈ wsX7_thrown := by decide +kernel
  unfold f_X7_thrown at h
  refine lv_aload_n hx hb dX7_thrown_0 rfl (lv_at hl 0 rfl) ?_
  refine va_get (C := RX7) (T := TX7) (N := 22) hx hb hts n7 hown hK hP 0 mg_0 rfl 0 (by decide) lk0 (fun _ h9 => h9) rfl dX7_thrown_1 ?_
  exact W.iret (v := (u 0 0)) hx hb hr (fun t ht hW => ⟨⟨_, _, rfl, h, by show va_P _ _ _ t.heap; rw [ht]; exact hP⟩, hS.F ht⟩) hS.2.2 dX7_thrown_4
set_option maxRecDepth 100000 in
set_option maxHeartbeats 4000000 in
theorem c_X7_thrown {l : Launch} {D : va_G} {cI cG cZ cJ : ClassId} {ts : Nat × Nat} {ad : Nat → Nat} (hwd : WD mLs ad) (sz : Nat) (u : St) (Q : Int32 → St → Prop) (h : f_X7_thrown  u Q) : Met l yX7_thrown wsX7_thrown ({ frames := 0, cells := 0, slots := 0, locals := 0 }) (va_Pc [.ref (ad 0)] (PM D cI cG cZ cJ ts ad sz u)) (va_Qi Q (fun u9 t => va_P D vwCl (mW cI cZ ad u9) t.heap) (cA mLs ad sz)) 0 0 (cA mLs ad sz) := by
  refine Met.ofW (cc := cX7_thrown) (maxL := 1) (ret := (some .int)) (by decide) rfl ?_
  intro p e s m args below meth c s₁ B hml hv
  obtain ⟨rfl, hsz, hP, hC⟩ := hv
  subst hsz
  have X : FX RX7 wsX7_thrown cX7_thrown 1 (some .int) D cI cG cZ cJ ts mLs ad p s m _ meth c := ⟨B.exec, B.bytes, hml, findClass_of_methodNamed B.named, atoms_spec (ws := wsX7_thrown) B.pre, B.returns, B.notSynchronized, hwd, hC⟩
  have hl := lv_entry ([.ref (ad 0)]) (n := 1) (Nat.le_of_ble_eq_true rfl)
  rw [lg_entry_eq]
  generalize (lg_sl ([.ref (ad 0)]) ++ List.replicate (1 - (lg_sl ([.ref (ad 0)])).length) Slot.unset).toArray = ls at hl ⊢
  exact w_X7_thrown X Q u _ _ _ h hP va_S.rf hl
set_option maxRecDepth 100000 in
set_option maxHeartbeats 4000000 in
theorem w_X7_holds {p : Program} {l : Launch} {e : Env} {s : State} {m : MethodId} {args : Array Value} {below : List Frame} {meth : Method} {c : Code} {D : va_G} {cI cG cZ cJ : ClassId} {ts : Nat × Nat}  {ad : Nat → Nat}  (X : FX RX7 wsX7_holds cX7_holds 2 (some .boolean) D cI cG cZ cJ ts mLs ad p s m args meth c) (a1 : Int32) (Q : Int32 → St → Prop) (u : St) (H : Heap) (locs : List Loc) (ls : Array Slot) (h : f_X7_holds a1 u Q) (hP : va_P D vwCl (mW cI cZ ad u) H) (hS : va_S (cA mLs ad s.heap.size) s.heap H locs) (hl : lv_has ls 2 [(0, .ref (ad 0)), (1, .int a1)]) : W p l e (headSpec wsX7_holds { frames := 0, cells := 0, slots := 0, locals := 0 }).room s m args below meth c H locs 0 0 (MQ below (va_Qi Q (fun u9 t => va_P D vwCl (mW cI cZ ad u9) t.heap) (cA mLs ad s.heap.size)) args s 0 0 (cA mLs ad s.heap.size)) (F0 m 0 ls []) := by
  obtain ⟨hx, hb, hml, hown, hts, hr, hlocks, hwd, hC⟩ := id X
  have hK := hC.1
  have lk0 := hts (.fieldLink RX7 60 "FormForgeModel" "thrown" "I") (by decide +kernel)
  have n7 : ∀ w ∈ wsX70, w ∈ wsX7_holds := by decide +kernel
  unfold f_X7_holds at h
  refine lv_aload_n hx hb dX7_holds_0 rfl (lv_at hl 0 rfl) ?_
  refine lv_iload_n hx hb dX7_holds_1 rfl (lv_at hl 1 rfl) ?_
  refine va_put (C := RX7) (T := TX7) (N := 22) (ty := .int) (v := .int a1) hx hb hts n7 tyX7 tyX7_ok nmX7 hown hK hP (cD hwd) hS 0 mg_0 rfl 0 (by decide) lk0 (fun _ h9 => h9) rfl (by decide +kernel) rfl rfl (Nat.le_of_ble_eq_true rfl) dX7_holds_2 (fun H locs hP _ hS => ?_)
  replace hP := mu_thrown hwd hP
  obtain ⟨u1, eu1⟩ : ∃ y : St, y = su u 0 0 a1 := ⟨_, rfl⟩
  rw [← eu1] at hP
  replace h := h u1 eu1
  refine lv_iload_n hx hb dX7_holds_5 rfl (lv_at hl 1 rfl) ?_
  refine lv_if_ne (tgt := 13) hx hb dX7_holds_6 (by decide) (fun c2 => ?_) (fun c2 => ?_)
  · replace h := h.1 c2
    refine lv_iconst (v := 0) hx hb dX7_holds_13 (by decide) ?_
    exact W.zret (ty := .boolean) (v := 0) hx hb hr rfl (fun t ht hW => ⟨⟨_, _, rfl, h, by show va_P _ _ _ t.heap; rw [ht]; exact hP⟩, hS.F ht⟩) hS.2.2 dX7_holds_14
  · replace h := h.2 c2
    refine lv_iconst (v := 1) hx hb dX7_holds_9 (by decide) ?_
    refine lv_goto (tgt := 14) hx hb dX7_holds_10 (by decide) ?_
    exact W.zret (ty := .boolean) (v := 1) hx hb hr rfl (fun t ht hW => ⟨⟨_, _, rfl, h, by show va_P _ _ _ t.heap; rw [ht]; exact hP⟩, hS.F ht⟩) hS.2.2 dX7_holds_14
set_option maxRecDepth 100000 in
set_option maxHeartbeats 4000000 in
theorem c_X7_holds {l : Launch} {D : va_G} {cI cG cZ cJ : ClassId} {ts : Nat × Nat} {ad : Nat → Nat} (hwd : WD mLs ad) (sz : Nat) (u : St) (a1 : Int32) (Q : Int32 → St → Prop) (h : f_X7_holds a1 u Q) : Met l yX7_holds wsX7_holds ({ frames := 0, cells := 0, slots := 0, locals := 0 }) (va_Pc [.ref (ad 0), .int a1] (PM D cI cG cZ cJ ts ad sz u)) (va_Qi Q (fun u9 t => va_P D vwCl (mW cI cZ ad u9) t.heap) (cA mLs ad sz)) 0 0 (cA mLs ad sz) := by
  refine Met.ofW (cc := cX7_holds) (maxL := 2) (ret := (some .boolean)) (by decide) rfl ?_
  intro p e s m args below meth c s₁ B hml hv
  obtain ⟨rfl, hsz, hP, hC⟩ := hv
  subst hsz
  have X : FX RX7 wsX7_holds cX7_holds 2 (some .boolean) D cI cG cZ cJ ts mLs ad p s m _ meth c := ⟨B.exec, B.bytes, hml, findClass_of_methodNamed B.named, atoms_spec (ws := wsX7_holds) B.pre, B.returns, B.notSynchronized, hwd, hC⟩
  have hl := lv_entry ([.ref (ad 0), .int a1]) (n := 2) (Nat.le_of_ble_eq_true rfl)
  rw [lg_entry_eq]
  generalize (lg_sl ([.ref (ad 0), .int a1]) ++ List.replicate (2 - (lg_sl ([.ref (ad 0), .int a1])).length) Slot.unset).toArray = ls at hl ⊢
  exact w_X7_holds X a1 Q u _ _ _ h hP va_S.rf hl
set_option maxRecDepth 100000 in
set_option maxHeartbeats 4000000 in
theorem w_X7_isIn {p : Program} {l : Launch} {e : Env} {s : State} {m : MethodId} {args : Array Value} {below : List Frame} {meth : Method} {c : Code} {D : va_G} {cI cG cZ cJ : ClassId} {ts : Nat × Nat}  {ad : Nat → Nat}  (X : FX RX7 wsX7_isIn cX7_isIn 3 (some .boolean) D cI cG cZ cJ ts mLs ad p s m args meth c) (a0 : Int32) (a1 : Int32) (a2 : Int32) (Q : Int32 → St → Prop) (u : St) (H : Heap) (locs : List Loc) (ls : Array Slot) (h : f_X7_isIn a0 a1 a2 u Q) (hP : va_P D vwCl (mW cI cZ ad u) H) (hS : va_S (cA mLs ad s.heap.size) s.heap H locs) (hl : lv_has ls 3 [(0, .int a0), (1, .int a1), (2, .int a2)]) : W p l e (headSpec wsX7_isIn { frames := 0, cells := 0, slots := 0, locals := 0 }).room s m args below meth c H locs 0 0 (MQ below (va_Qi Q (fun u9 t => va_P D vwCl (mW cI cZ ad u9) t.heap) (cA mLs ad s.heap.size)) args s 0 0 (cA mLs ad s.heap.size)) (F0 m 0 ls []) := by
  obtain ⟨hx, hb, hml, hown, hts, hr, hlocks, hwd, hC⟩ := id X
  have hK := hC.1
  unfold f_X7_isIn at h
  refine lv_iload_n hx hb dX7_isIn_0 rfl (lv_at hl 0 rfl) ?_
  refine lv_iload_n hx hb dX7_isIn_1 rfl (lv_at hl 1 rfl) ?_
  refine lv_icmp_lt (tgt := 14) hx hb dX7_isIn_2 (by decide) (fun c1 => ?_) (fun c1 => ?_)
  · replace h := h.1 c1
    refine lv_iconst (v := 0) hx hb dX7_isIn_14 (by decide) ?_
    exact W.zret (ty := .boolean) (v := 0) hx hb hr rfl (fun t ht hW => ⟨⟨_, _, rfl, h, by show va_P _ _ _ t.heap; rw [ht]; exact hP⟩, hS.F ht⟩) hS.2.2 dX7_isIn_15
  · replace h := h.2 c1
    refine lv_iload_n hx hb dX7_isIn_5 rfl (lv_at hl 0 rfl) ?_
    refine lv_iload_n hx hb dX7_isIn_6 rfl (lv_at hl 2 rfl) ?_
    refine lv_icmp_gt (tgt := 14) hx hb dX7_isIn_7 (by decide) (fun c2 => ?_) (fun c2 => ?_)
    · replace h := h.1 c2
      refine lv_iconst (v := 0) hx hb dX7_isIn_14 (by decide) ?_
      exact W.zret (ty := .boolean) (v := 0) hx hb hr rfl (fun t ht hW => ⟨⟨_, _, rfl, h, by show va_P _ _ _ t.heap; rw [ht]; exact hP⟩, hS.F ht⟩) hS.2.2 dX7_isIn_15
    · replace h := h.2 c2
      refine lv_iconst (v := 1) hx hb dX7_isIn_10 (by decide) ?_
      refine lv_goto (tgt := 15) hx hb dX7_isIn_11 (by decide) ?_
      exact W.zret (ty := .boolean) (v := 1) hx hb hr rfl (fun t ht hW => ⟨⟨_, _, rfl, h, by show va_P _ _ _ t.heap; rw [ht]; exact hP⟩, hS.F ht⟩) hS.2.2 dX7_isIn_15
set_option maxRecDepth 100000 in
set_option maxHeartbeats 4000000 in
theorem c_X7_isIn {l : Launch} {D : va_G} {cI cG cZ cJ : ClassId} {ts : Nat × Nat} {ad : Nat → Nat} (hwd : WD mLs ad) (sz : Nat) (u : St) (a0 : Int32) (a1 : Int32) (a2 : Int32) (Q : Int32 → St → Prop) (h : f_X7_isIn a0 a1 a2 u Q) : Met l yX7_isIn wsX7_isIn ({ frames := 0, cells := 0, slots := 0, locals := 0 }) (va_Pc [.int a0, .int a1, .int a2] (PM D cI cG cZ cJ ts ad sz u)) (va_Qi Q (fun u9 t => va_P D vwCl (mW cI cZ ad u9) t.heap) (cA mLs ad sz)) 0 0 (cA mLs ad sz) := by
  refine Met.ofW (cc := cX7_isIn) (maxL := 3) (ret := (some .boolean)) (by decide) rfl ?_
  intro p e s m args below meth c s₁ B hml hv
  obtain ⟨rfl, hsz, hP, hC⟩ := hv
  subst hsz
  have X : FX RX7 wsX7_isIn cX7_isIn 3 (some .boolean) D cI cG cZ cJ ts mLs ad p s m _ meth c := ⟨B.exec, B.bytes, hml, findClass_of_methodNamed B.named, atoms_spec (ws := wsX7_isIn) B.pre, B.returns, B.notSynchronized, hwd, hC⟩
  have hl := lv_entry ([.int a0, .int a1, .int a2]) (n := 3) (Nat.le_of_ble_eq_true rfl)
  rw [lg_entry_eq]
  generalize (lg_sl ([.int a0, .int a1, .int a2]) ++ List.replicate (3 - (lg_sl ([.int a0, .int a1, .int a2])).length) Slot.unset).toArray = ls at hl ⊢
  exact w_X7_isIn X a0 a1 a2 Q u _ _ _ h hP va_S.rf hl
set_option maxRecDepth 100000 in
set_option maxHeartbeats 4000000 in
theorem w_X7_isForm {p : Program} {l : Launch} {e : Env} {s : State} {m : MethodId} {args : Array Value} {below : List Frame} {meth : Method} {c : Code} {D : va_G} {cI cG cZ cJ : ClassId} {ts : Nat × Nat}  {ad : Nat → Nat}  (X : FX RX7 wsX7_isForm cX7_isForm 2 (some .boolean) D cI cG cZ cJ ts mLs ad p s m args meth c) (a1 : Int32) (Q : Int32 → St → Prop) (u : St) (H : Heap) (locs : List Loc) (ls : Array Slot) (h : f_X7_isForm a1 u Q) (hP : va_P D vwCl (mW cI cZ ad u) H) (hS : va_S (cA mLs ad s.heap.size) s.heap H locs) (hl : lv_has ls 2 [(0, .ref (ad 0)), (1, .int a1)]) : W p l e (headSpec wsX7_isForm { frames := 1, cells := 0, slots := 0, locals := 22 }).room s m args below meth c H locs 0 0 (MQ below (va_Qi Q (fun u9 t => va_P D vwCl (mW cI cZ ad u9) t.heap) (cA mLs ad s.heap.size)) args s 0 0 (cA mLs ad s.heap.size)) (F0 m 0 ls []) := by
  obtain ⟨hx, hb, hml, hown, hts, hr, hlocks, hwd, hC⟩ := id X
  have hK := hC.1
  have lk0 := hts (.fieldLink RX7 63 "FormForgeModel" "forms" "I") (by decide +kernel)
  have n7 : ∀ w ∈ wsX70, w ∈ wsX7_isForm := by decide +kernel
  unfold f_X7_isForm at h
  refine lv_iload_n hx hb dX7_isForm_0 rfl (lv_at hl 1 rfl) ?_
  refine lv_iconst (v := 0) hx hb dX7_isForm_1 (by decide) ?_
  refine lv_aload_n hx hb dX7_isForm_2 rfl (lv_at hl 0 rfl) ?_
  refine va_get (C := RX7) (T := TX7) (N := 22) hx hb hts n7 hown hK hP 0 mg_0 rfl 4 (by decide) lk0 (fun _ h9 => h9) rfl dX7_isForm_3 ?_
  refine lv_iconst (v := 1) hx hb dX7_isForm_6 (by decide) ?_
  refine lv_isub hx hb dX7_isForm_7 ?_
  refine cc_i (va_runS (As := [.int a1, .int 0, .int ((u 0 2) - 1)]) (rest := []) ⟨hx, hb, hml, hown, hts⟩ (c_X7_isIn hwd H.size u a1 0 ((u 0 2) - 1) _ h) (va_cwS 3 hts gX7_isForm_X7_isIn rfl rfl rfl (by decide +kernel) ⟨Nat.le_of_ble_eq_true rfl, Nat.le_of_ble_eq_true rfl⟩) (pmS hC hP hS) rfl rfl hl.1 rfl (lv_room (Nat.le_of_ble_eq_true rfl)) dX7_isForm_8 ⟨Nat.zero_le _, Nat.zero_le _⟩) hS (cA_mono hS.1) (fun v1 u2 H locs h hP hS => ?_)
  exact W.zret (ty := .boolean) (v := v1) hx hb hr (zb h.1) (fun t ht hW => ⟨⟨_, _, rfl, h.2, by show va_P _ _ _ t.heap; rw [ht]; exact hP⟩, hS.F ht⟩) hS.2.2 dX7_isForm_11
set_option maxRecDepth 100000 in
set_option maxHeartbeats 4000000 in
theorem c_X7_isForm {l : Launch} {D : va_G} {cI cG cZ cJ : ClassId} {ts : Nat × Nat} {ad : Nat → Nat} (hwd : WD mLs ad) (sz : Nat) (u : St) (a1 : Int32) (Q : Int32 → St → Prop) (h : f_X7_isForm a1 u Q) : Met l yX7_isForm wsX7_isForm ({ frames := 1, cells := 0, slots := 0, locals := 22 }) (va_Pc [.ref (ad 0), .int a1] (PM D cI cG cZ cJ ts ad sz u)) (va_Qi Q (fun u9 t => va_P D vwCl (mW cI cZ ad u9) t.heap) (cA mLs ad sz)) 0 0 (cA mLs ad sz) := by
  refine Met.ofW (cc := cX7_isForm) (maxL := 2) (ret := (some .boolean)) (by decide) rfl ?_
  intro p e s m args below meth c s₁ B hml hv
  obtain ⟨rfl, hsz, hP, hC⟩ := hv
  subst hsz
  have X : FX RX7 wsX7_isForm cX7_isForm 2 (some .boolean) D cI cG cZ cJ ts mLs ad p s m _ meth c := ⟨B.exec, B.bytes, hml, findClass_of_methodNamed B.named, atoms_spec (ws := wsX7_isForm) B.pre, B.returns, B.notSynchronized, hwd, hC⟩
  have hl := lv_entry ([.ref (ad 0), .int a1]) (n := 2) (Nat.le_of_ble_eq_true rfl)
  rw [lg_entry_eq]
  generalize (lg_sl ([.ref (ad 0), .int a1]) ++ List.replicate (2 - (lg_sl ([.ref (ad 0), .int a1])).length) Slot.unset).toArray = ls at hl ⊢
  exact w_X7_isForm X a1 Q u _ _ _ h hP va_S.rf hl
set_option maxRecDepth 100000 in
set_option maxHeartbeats 4000000 in
theorem w_X7_isDegree {p : Program} {l : Launch} {e : Env} {s : State} {m : MethodId} {args : Array Value} {below : List Frame} {meth : Method} {c : Code} {D : va_G} {cI cG cZ cJ : ClassId} {ts : Nat × Nat}  {ad : Nat → Nat}  (X : FX RX7 wsX7_isDegree cX7_isDegree 2 (some .boolean) D cI cG cZ cJ ts mLs ad p s m args meth c) (a1 : Int32) (Q : Int32 → St → Prop) (u : St) (H : Heap) (locs : List Loc) (ls : Array Slot) (h : f_X7_isDegree a1 u Q) (hP : va_P D vwCl (mW cI cZ ad u) H) (hS : va_S (cA mLs ad s.heap.size) s.heap H locs) (hl : lv_has ls 2 [(0, .ref (ad 0)), (1, .int a1)]) : W p l e (headSpec wsX7_isDegree { frames := 1, cells := 0, slots := 0, locals := 22 }).room s m args below meth c H locs 0 0 (MQ below (va_Qi Q (fun u9 t => va_P D vwCl (mW cI cZ ad u9) t.heap) (cA mLs ad s.heap.size)) args s 0 0 (cA mLs ad s.heap.size)) (F0 m 0 ls []) := by
  obtain ⟨hx, hb, hml, hown, hts, hr, hlocks, hwd, hC⟩ := id X
  have hK := hC.1
  unfold f_X7_isDegree at h
  refine lv_iload_n hx hb dX7_isDegree_0 rfl (lv_at hl 1 rfl) ?_
  refine lv_iconst (v := 1) hx hb dX7_isDegree_1 (by decide) ?_
  refine lv_iconst (v := 4) hx hb dX7_isDegree_2 (by decide) ?_
  refine cc_i (va_runS (As := [.int a1, .int 1, .int 4]) (rest := []) ⟨hx, hb, hml, hown, hts⟩ (c_X7_isIn hwd H.size u a1 1 4 _ h) (va_cwS 3 hts gX7_isDegree_X7_isIn rfl rfl rfl (by decide +kernel) ⟨Nat.le_of_ble_eq_true rfl, Nat.le_of_ble_eq_true rfl⟩) (pmS hC hP hS) rfl rfl hl.1 rfl (lv_room (Nat.le_of_ble_eq_true rfl)) dX7_isDegree_3 ⟨Nat.zero_le _, Nat.zero_le _⟩) hS (cA_mono hS.1) (fun v1 u2 H locs h hP hS => ?_)
  exact W.zret (ty := .boolean) (v := v1) hx hb hr (zb h.1) (fun t ht hW => ⟨⟨_, _, rfl, h.2, by show va_P _ _ _ t.heap; rw [ht]; exact hP⟩, hS.F ht⟩) hS.2.2 dX7_isDegree_6
set_option maxRecDepth 100000 in
set_option maxHeartbeats 4000000 in
theorem c_X7_isDegree {l : Launch} {D : va_G} {cI cG cZ cJ : ClassId} {ts : Nat × Nat} {ad : Nat → Nat} (hwd : WD mLs ad) (sz : Nat) (u : St) (a1 : Int32) (Q : Int32 → St → Prop) (h : f_X7_isDegree a1 u Q) : Met l yX7_isDegree wsX7_isDegree ({ frames := 1, cells := 0, slots := 0, locals := 22 }) (va_Pc [.ref (ad 0), .int a1] (PM D cI cG cZ cJ ts ad sz u)) (va_Qi Q (fun u9 t => va_P D vwCl (mW cI cZ ad u9) t.heap) (cA mLs ad sz)) 0 0 (cA mLs ad sz) := by
  refine Met.ofW (cc := cX7_isDegree) (maxL := 2) (ret := (some .boolean)) (by decide) rfl ?_
  intro p e s m args below meth c s₁ B hml hv
  obtain ⟨rfl, hsz, hP, hC⟩ := hv
  subst hsz
  have X : FX RX7 wsX7_isDegree cX7_isDegree 2 (some .boolean) D cI cG cZ cJ ts mLs ad p s m _ meth c := ⟨B.exec, B.bytes, hml, findClass_of_methodNamed B.named, atoms_spec (ws := wsX7_isDegree) B.pre, B.returns, B.notSynchronized, hwd, hC⟩
  have hl := lv_entry ([.ref (ad 0), .int a1]) (n := 2) (Nat.le_of_ble_eq_true rfl)
  rw [lg_entry_eq]
  generalize (lg_sl ([.ref (ad 0), .int a1]) ++ List.replicate (2 - (lg_sl ([.ref (ad 0), .int a1])).length) Slot.unset).toArray = ls at hl ⊢
  exact w_X7_isDegree X a1 Q u _ _ _ h hP va_S.rf hl
set_option maxRecDepth 100000 in
set_option maxHeartbeats 4000000 in
theorem w_X7_isNumber {p : Program} {l : Launch} {e : Env} {s : State} {m : MethodId} {args : Array Value} {below : List Frame} {meth : Method} {c : Code} {D : va_G} {cI cG cZ cJ : ClassId} {ts : Nat × Nat}  {ad : Nat → Nat}  (X : FX RX7 wsX7_isNumber cX7_isNumber 2 (some .boolean) D cI cG cZ cJ ts mLs ad p s m args meth c) (a1 : Int32) (Q : Int32 → St → Prop) (u : St) (H : Heap) (locs : List Loc) (ls : Array Slot) (h : f_X7_isNumber a1 u Q) (hP : va_P D vwCl (mW cI cZ ad u) H) (hS : va_S (cA mLs ad s.heap.size) s.heap H locs) (hl : lv_has ls 2 [(0, .ref (ad 0)), (1, .int a1)]) : W p l e (headSpec wsX7_isNumber { frames := 1, cells := 0, slots := 0, locals := 22 }).room s m args below meth c H locs 0 0 (MQ below (va_Qi Q (fun u9 t => va_P D vwCl (mW cI cZ ad u9) t.heap) (cA mLs ad s.heap.size)) args s 0 0 (cA mLs ad s.heap.size)) (F0 m 0 ls []) := by
  obtain ⟨hx, hb, hml, hown, hts, hr, hlocks, hwd, hC⟩ := id X
  have hK := hC.1
  have lk0 := hts (.fieldLink RX7 7 "FormForgeModel" "p" "I") (by decide +kernel)
  have n7 : ∀ w ∈ wsX70, w ∈ wsX7_isNumber := by decide +kernel
  unfold f_X7_isNumber at h
  refine lv_iload_n hx hb dX7_isNumber_0 rfl (lv_at hl 1 rfl) ?_
  refine lv_iconst (v := 0) hx hb dX7_isNumber_1 (by decide) ?_
  refine lv_aload_n hx hb dX7_isNumber_2 rfl (lv_at hl 0 rfl) ?_
  refine va_get (C := RX7) (T := TX7) (N := 22) hx hb hts n7 hown hK hP 0 mg_0 rfl 1 (by decide) lk0 (fun _ h9 => h9) rfl dX7_isNumber_3 ?_
  refine lv_iconst (v := 1) hx hb dX7_isNumber_6 (by decide) ?_
  refine lv_isub hx hb dX7_isNumber_7 ?_
  refine cc_i (va_runS (As := [.int a1, .int 0, .int ((u 0 1) - 1)]) (rest := []) ⟨hx, hb, hml, hown, hts⟩ (c_X7_isIn hwd H.size u a1 0 ((u 0 1) - 1) _ h) (va_cwS 3 hts gX7_isNumber_X7_isIn rfl rfl rfl (by decide +kernel) ⟨Nat.le_of_ble_eq_true rfl, Nat.le_of_ble_eq_true rfl⟩) (pmS hC hP hS) rfl rfl hl.1 rfl (lv_room (Nat.le_of_ble_eq_true rfl)) dX7_isNumber_8 ⟨Nat.zero_le _, Nat.zero_le _⟩) hS (cA_mono hS.1) (fun v1 u2 H locs h hP hS => ?_)
  exact W.zret (ty := .boolean) (v := v1) hx hb hr (zb h.1) (fun t ht hW => ⟨⟨_, _, rfl, h.2, by show va_P _ _ _ t.heap; rw [ht]; exact hP⟩, hS.F ht⟩) hS.2.2 dX7_isNumber_11
set_option maxRecDepth 100000 in
set_option maxHeartbeats 4000000 in
theorem c_X7_isNumber {l : Launch} {D : va_G} {cI cG cZ cJ : ClassId} {ts : Nat × Nat} {ad : Nat → Nat} (hwd : WD mLs ad) (sz : Nat) (u : St) (a1 : Int32) (Q : Int32 → St → Prop) (h : f_X7_isNumber a1 u Q) : Met l yX7_isNumber wsX7_isNumber ({ frames := 1, cells := 0, slots := 0, locals := 22 }) (va_Pc [.ref (ad 0), .int a1] (PM D cI cG cZ cJ ts ad sz u)) (va_Qi Q (fun u9 t => va_P D vwCl (mW cI cZ ad u9) t.heap) (cA mLs ad sz)) 0 0 (cA mLs ad sz) := by
  refine Met.ofW (cc := cX7_isNumber) (maxL := 2) (ret := (some .boolean)) (by decide) rfl ?_
  intro p e s m args below meth c s₁ B hml hv
  obtain ⟨rfl, hsz, hP, hC⟩ := hv
  subst hsz
  have X : FX RX7 wsX7_isNumber cX7_isNumber 2 (some .boolean) D cI cG cZ cJ ts mLs ad p s m _ meth c := ⟨B.exec, B.bytes, hml, findClass_of_methodNamed B.named, atoms_spec (ws := wsX7_isNumber) B.pre, B.returns, B.notSynchronized, hwd, hC⟩
  have hl := lv_entry ([.ref (ad 0), .int a1]) (n := 2) (Nat.le_of_ble_eq_true rfl)
  rw [lg_entry_eq]
  generalize (lg_sl ([.ref (ad 0), .int a1]) ++ List.replicate (2 - (lg_sl ([.ref (ad 0), .int a1])).length) Slot.unset).toArray = ls at hl ⊢
  exact w_X7_isNumber X a1 Q u _ _ _ h hP va_S.rf hl
set_option maxRecDepth 100000 in
set_option maxHeartbeats 4000000 in
theorem w_X7_power_L4 {p : Program} {l : Launch} {e : Env} {s : State} {m : MethodId} {args : Array Value} {below : List Frame} {meth : Method} {c : Code} {D : va_G} {cI cG cZ cJ : ClassId} {ts : Nat × Nat}  {ad : Nat → Nat}  (X : FX RX7 wsX7_power cX7_power 4 (some .int) D cI cG cZ cJ ts mLs ad p s m args meth c) (a1 : Int32) (Q : Int32 → St → Prop)
    (K0 : Int32 → St → Prop) (hk0 : ∀ (b2 : Int32) (u : St) (H : Heap) (locs : List Loc) (ls : Array Slot), K0 b2 u → va_P D vwCl (mW cI cZ ad u) H → va_S (cA mLs ad s.heap.size) s.heap H locs → lv_has ls 4 [(2, .int b2)] → W p l e (headSpec wsX7_power { frames := 0, cells := 0, slots := 0, locals := 0 }).room s m args below meth c H locs 0 0 (MQ below (va_Qi Q (fun u9 t => va_P D vwCl (mW cI cZ ad u9) t.heap) (cA mLs ad s.heap.size)) args s 0 0 (cA mLs ad s.heap.size)) (F0 m 22 ls []))
    : ∀ (n : Nat) (a2 : Int32) (a3 : Int32) (u : St) (H : Heap) (locs : List Loc) (ls : Array Slot), f_X7_power_L4 a1 Q K0 n a2 a3 u → va_P D vwCl (mW cI cZ ad u) H → va_S (cA mLs ad s.heap.size) s.heap H locs → lv_has ls 4 [(0, .ref (ad 0)), (1, .int a1), (2, .int a2), (3, .int a3)] → W p l e (headSpec wsX7_power { frames := 0, cells := 0, slots := 0, locals := 0 }).room s m args below meth c H locs 0 0 (MQ below (va_Qi Q (fun u9 t => va_P D vwCl (mW cI cZ ad u9) t.heap) (cA mLs ad s.heap.size)) args s 0 0 (cA mLs ad s.heap.size)) (F0 m 4 ls []) := by
  obtain ⟨hx, hb, hml, hown, hts, hr, hlocks, hwd, hC⟩ := id X
  have hK := hC.1
  have lk0 := hts (.fieldLink RX7 7 "FormForgeModel" "p" "I") (by decide +kernel)
  have n7 : ∀ w ∈ wsX70, w ∈ wsX7_power := by decide +kernel
  intro n
  induction n with
  | zero =>
    intro a2 a3 u H locs ls h; exact h.elim
  | succ n ih =>
    intro a2 a3 u H locs ls h hP hS hl
    replace h : f_X7_power_L4_s a1 Q K0 (f_X7_power_L4 a1 Q K0 n) a2 a3 u := h
    unfold f_X7_power_L4_s at h
    refine lv_iload_n hx hb dX7_power_4 rfl (lv_at hl 3 rfl) ?_
    refine lv_iload_n hx hb dX7_power_5 rfl (lv_at hl 1 rfl) ?_
    refine lv_icmp_ge (tgt := 22) hx hb dX7_power_6 (by decide) (fun c1 => ?_) (fun c1 => ?_)
    · replace h := h.1 c1
      exact hk0 a2 _ _ _ _ h hP hS (lv_sub hl [2] rfl)
    · replace h := h.2 c1
      refine lv_iload_n hx hb dX7_power_9 rfl (lv_at hl 2 rfl) ?_
      refine lv_aload_n hx hb dX7_power_10 rfl (lv_at hl 0 rfl) ?_
      refine va_get (C := RX7) (T := TX7) (N := 22) hx hb hts n7 hown hK hP 0 mg_0 rfl 1 (by decide) lk0 (fun _ h9 => h9) rfl dX7_power_11 ?_
      refine lv_imul hx hb dX7_power_14 ?_
      refine lv_topi (fun v2 ev2 => ?_)
      replace h := h v2 ev2
      refine lv_istore_n (lv' := [(2, .int v2), (0, .ref (ad 0)), (1, .int a1), (3, .int a3)]) hx hb dX7_power_15 rfl hl (by decide) rfl (fun ls hl => ?_)
      obtain ⟨v3, ev3⟩ : ∃ y : Int32, y = a3 + 1 := ⟨_, rfl⟩
      refine lv_iinc (v := v3) (lv' := [(3, .int v3), (2, .int v2), (0, .ref (ad 0)), (1, .int a1)]) hx hb dX7_power_16 hl (k := 3) rfl (by rw [ev3]; rfl) (by decide) rfl (fun ls hl => ?_)
      replace h := h v3 ev3
      refine lv_goto (tgt := 4) hx hb dX7_power_19 (by decide) ?_
      exact ih v2 v3 _ _ _ _ h hP hS (lv_sub hl [2, 3, 1, 0] rfl)
set_option maxRecDepth 100000 in
set_option maxHeartbeats 4000000 in
theorem w_X7_power {p : Program} {l : Launch} {e : Env} {s : State} {m : MethodId} {args : Array Value} {below : List Frame} {meth : Method} {c : Code} {D : va_G} {cI cG cZ cJ : ClassId} {ts : Nat × Nat}  {ad : Nat → Nat}  (X : FX RX7 wsX7_power cX7_power 4 (some .int) D cI cG cZ cJ ts mLs ad p s m args meth c) (a1 : Int32) (Q : Int32 → St → Prop) (u : St) (H : Heap) (locs : List Loc) (ls : Array Slot) (h : f_X7_power a1 u Q) (hP : va_P D vwCl (mW cI cZ ad u) H) (hS : va_S (cA mLs ad s.heap.size) s.heap H locs) (hl : lv_has ls 4 [(0, .ref (ad 0)), (1, .int a1)]) : W p l e (headSpec wsX7_power { frames := 0, cells := 0, slots := 0, locals := 0 }).room s m args below meth c H locs 0 0 (MQ below (va_Qi Q (fun u9 t => va_P D vwCl (mW cI cZ ad u9) t.heap) (cA mLs ad s.heap.size)) args s 0 0 (cA mLs ad s.heap.size)) (F0 m 0 ls []) := by
  obtain ⟨hx, hb, hml, hown, hts, hr, hlocks, hwd, hC⟩ := id X
  have hK := hC.1
  have lk0 := hts (.fieldLink RX7 7 "FormForgeModel" "p" "I") (by decide +kernel)
  have n7 : ∀ w ∈ wsX70, w ∈ wsX7_power := by decide +kernel
  unfold f_X7_power at h
  refine lv_iconst (v := 1) hx hb dX7_power_0 (by decide) ?_
  refine lv_istore_n (lv' := [(2, .int 1), (0, .ref (ad 0)), (1, .int a1)]) hx hb dX7_power_1 rfl hl (by decide) rfl (fun ls hl => ?_)
  refine lv_iconst (v := 0) hx hb dX7_power_2 (by decide) ?_
  refine lv_istore_n (lv' := [(3, .int 0), (2, .int 1), (0, .ref (ad 0)), (1, .int a1)]) hx hb dX7_power_3 rfl hl (by decide) rfl (fun ls hl => ?_)
  obtain ⟨n4, h⟩ := h
  refine w_X7_power_L4 X a1 _ _ (fun v5 u6 H locs ls h hP hS hl => ?_) n4 1 0 _ _ _ _ h hP hS (lv_sub hl [2, 3, 1, 0] rfl)
  refine lv_iload_n hx hb dX7_power_22 rfl (lv_at hl 0 rfl) ?_
  exact W.iret (v := v5) hx hb hr (fun t ht hW => ⟨⟨_, _, rfl, h, by show va_P _ _ _ t.heap; rw [ht]; exact hP⟩, hS.F ht⟩) hS.2.2 dX7_power_23
set_option maxRecDepth 100000 in
set_option maxHeartbeats 4000000 in
theorem c_X7_power {l : Launch} {D : va_G} {cI cG cZ cJ : ClassId} {ts : Nat × Nat} {ad : Nat → Nat} (hwd : WD mLs ad) (sz : Nat) (u : St) (a1 : Int32) (Q : Int32 → St → Prop) (h : f_X7_power a1 u Q) : Met l yX7_power wsX7_power ({ frames := 0, cells := 0, slots := 0, locals := 0 }) (va_Pc [.ref (ad 0), .int a1] (PM D cI cG cZ cJ ts ad sz u)) (va_Qi Q (fun u9 t => va_P D vwCl (mW cI cZ ad u9) t.heap) (cA mLs ad sz)) 0 0 (cA mLs ad sz) := by
  refine Met.ofW (cc := cX7_power) (maxL := 4) (ret := (some .int)) (by decide) rfl ?_
  intro p e s m args below meth c s₁ B hml hv
  obtain ⟨rfl, hsz, hP, hC⟩ := hv
  subst hsz
  have X : FX RX7 wsX7_power cX7_power 4 (some .int) D cI cG cZ cJ ts mLs ad p s m _ meth c := ⟨B.exec, B.bytes, hml, findClass_of_methodNamed B.named, atoms_spec (ws := wsX7_power) B.pre, B.returns, B.notSynchronized, hwd, hC⟩
  have hl := lv_entry ([.ref (ad 0), .int a1]) (n := 4) (Nat.le_of_ble_eq_true rfl)
  rw [lg_entry_eq]
  generalize (lg_sl ([.ref (ad 0), .int a1]) ++ List.replicate (4 - (lg_sl ([.ref (ad 0), .int a1])).length) Slot.unset).toArray = ls at hl ⊢
  exact w_X7_power X a1 Q u _ _ _ h hP va_S.rf hl
set_option maxRecDepth 100000 in
set_option maxHeartbeats 4000000 in
theorem w_X7_mod {p : Program} {l : Launch} {e : Env} {s : State} {m : MethodId} {args : Array Value} {below : List Frame} {meth : Method} {c : Code} {D : va_G} {cI cG cZ cJ : ClassId} {ts : Nat × Nat}  {ad : Nat → Nat}  (X : FX RX7 wsX7_mod cX7_mod 3 (some .int) D cI cG cZ cJ ts mLs ad p s m args meth c) (a1 : Int32) (Q : Int32 → St → Prop) (u : St) (H : Heap) (locs : List Loc) (ls : Array Slot) (h : f_X7_mod a1 u Q) (hP : va_P D vwCl (mW cI cZ ad u) H) (hS : va_S (cA mLs ad s.heap.size) s.heap H locs) (hl : lv_has ls 3 [(0, .ref (ad 0)), (1, .int a1)]) : W p l e (headSpec wsX7_mod { frames := 0, cells := 0, slots := 0, locals := 0 }).room s m args below meth c H locs 0 0 (MQ below (va_Qi Q (fun u9 t => va_P D vwCl (mW cI cZ ad u9) t.heap) (cA mLs ad s.heap.size)) args s 0 0 (cA mLs ad s.heap.size)) (F0 m 0 ls []) := by
  obtain ⟨hx, hb, hml, hown, hts, hr, hlocks, hwd, hC⟩ := id X
  have hK := hC.1
  have lk0 := hts (.fieldLink RX7 7 "FormForgeModel" "p" "I") (by decide +kernel)
  have n7 : ∀ w ∈ wsX70, w ∈ wsX7_mod := by decide +kernel
  unfold f_X7_mod at h
  refine lv_iload_n hx hb dX7_mod_0 rfl (lv_at hl 1 rfl) ?_
  refine lv_aload_n hx hb dX7_mod_1 rfl (lv_at hl 0 rfl) ?_
  refine va_get (C := RX7) (T := TX7) (N := 22) hx hb hts n7 hown hK hP 0 mg_0 rfl 1 (by decide) lk0 (fun _ h9 => h9) rfl dX7_mod_2 ?_
  refine lv_irem hx hb dX7_mod_5 h.1 ?_
  replace h := h.2
  refine lv_topi (fun v1 ev1 => ?_)
  replace h := h v1 ev1
  refine lv_istore_n (lv' := [(2, .int v1), (0, .ref (ad 0)), (1, .int a1)]) hx hb dX7_mod_6 rfl hl (by decide) rfl (fun ls hl => ?_)
  refine lv_iload_n hx hb dX7_mod_7 rfl (lv_at hl 0 rfl) ?_
  refine lv_if_ge (tgt := 20) hx hb dX7_mod_8 (by decide) (fun c2 => ?_) (fun c2 => ?_)
  · replace h := h.1 c2
    refine lv_iload_n hx hb dX7_mod_20 rfl (lv_at hl 0 rfl) ?_
    exact W.iret (v := v1) hx hb hr (fun t ht hW => ⟨⟨_, _, rfl, h, by show va_P _ _ _ t.heap; rw [ht]; exact hP⟩, hS.F ht⟩) hS.2.2 dX7_mod_21
  · replace h := h.2 c2
    refine lv_iload_n hx hb dX7_mod_11 rfl (lv_at hl 0 rfl) ?_
    refine lv_aload_n hx hb dX7_mod_12 rfl (lv_at hl 1 rfl) ?_
    refine va_get (C := RX7) (T := TX7) (N := 22) hx hb hts n7 hown hK hP 0 mg_0 rfl 1 (by decide) lk0 (fun _ h9 => h9) rfl dX7_mod_13 ?_
    refine lv_iadd hx hb dX7_mod_16 ?_
    refine lv_goto (tgt := 21) hx hb dX7_mod_17 (by decide) ?_
    exact W.iret (v := (v1 + (u 0 1))) hx hb hr (fun t ht hW => ⟨⟨_, _, rfl, h, by show va_P _ _ _ t.heap; rw [ht]; exact hP⟩, hS.F ht⟩) hS.2.2 dX7_mod_21
set_option maxRecDepth 100000 in
set_option maxHeartbeats 4000000 in
theorem c_X7_mod {l : Launch} {D : va_G} {cI cG cZ cJ : ClassId} {ts : Nat × Nat} {ad : Nat → Nat} (hwd : WD mLs ad) (sz : Nat) (u : St) (a1 : Int32) (Q : Int32 → St → Prop) (h : f_X7_mod a1 u Q) : Met l yX7_mod wsX7_mod ({ frames := 0, cells := 0, slots := 0, locals := 0 }) (va_Pc [.ref (ad 0), .int a1] (PM D cI cG cZ cJ ts ad sz u)) (va_Qi Q (fun u9 t => va_P D vwCl (mW cI cZ ad u9) t.heap) (cA mLs ad sz)) 0 0 (cA mLs ad sz) := by
  refine Met.ofW (cc := cX7_mod) (maxL := 3) (ret := (some .int)) (by decide) rfl ?_
  intro p e s m args below meth c s₁ B hml hv
  obtain ⟨rfl, hsz, hP, hC⟩ := hv
  subst hsz
  have X : FX RX7 wsX7_mod cX7_mod 3 (some .int) D cI cG cZ cJ ts mLs ad p s m _ meth c := ⟨B.exec, B.bytes, hml, findClass_of_methodNamed B.named, atoms_spec (ws := wsX7_mod) B.pre, B.returns, B.notSynchronized, hwd, hC⟩
  have hl := lv_entry ([.ref (ad 0), .int a1]) (n := 3) (Nat.le_of_ble_eq_true rfl)
  rw [lg_entry_eq]
  generalize (lg_sl ([.ref (ad 0), .int a1]) ++ List.replicate (3 - (lg_sl ([.ref (ad 0), .int a1])).length) Slot.unset).toArray = ls at hl ⊢
  exact w_X7_mod X a1 Q u _ _ _ h hP va_S.rf hl
set_option maxRecDepth 100000 in
set_option maxHeartbeats 4000000 in
theorem w_X7_figure {p : Program} {l : Launch} {e : Env} {s : State} {m : MethodId} {args : Array Value} {below : List Frame} {meth : Method} {c : Code} {D : va_G} {cI cG cZ cJ : ClassId} {ts : Nat × Nat}  {ad : Nat → Nat}  (X : FX RX7 wsX7_figure cX7_figure 3 (some .int) D cI cG cZ cJ ts mLs ad p s m args meth c) (a1 : Int32) (a2 : Int32) (Q : Int32 → St → Prop) (u : St) (H : Heap) (locs : List Loc) (ls : Array Slot) (h : f_X7_figure a1 a2 u Q) (hP : va_P D vwCl (mW cI cZ ad u) H) (hS : va_S (cA mLs ad s.heap.size) s.heap H locs) (hl : lv_has ls 3 [(0, .ref (ad 0)), (1, .int a1), (2, .int a2)]) : W p l e (headSpec wsX7_figure { frames := 1, cells := 0, slots := 0, locals := 23 }).room s m args below meth c H locs 0 0 (MQ below (va_Qi Q (fun u9 t => va_P D vwCl (mW cI cZ ad u9) t.heap) (cA mLs ad s.heap.size)) args s 0 0 (cA mLs ad s.heap.size)) (F0 m 0 ls []) := by
  obtain ⟨hx, hb, hml, hown, hts, hr, hlocks, hwd, hC⟩ := id X
  have hK := hC.1
  have lk0 := hts (.fieldLink RX7 7 "FormForgeModel" "p" "I") (by decide +kernel)
  have n7 : ∀ w ∈ wsX70, w ∈ wsX7_figure := by decide +kernel
  unfold f_X7_figure at h
  refine lv_iload_n hx hb dX7_figure_0 rfl (lv_at hl 1 rfl) ?_
  refine lv_aload_n hx hb dX7_figure_1 rfl (lv_at hl 0 rfl) ?_
  refine lv_iload_n hx hb dX7_figure_2 rfl (lv_at hl 2 rfl) ?_
  refine cc_i (va_runV (C := RX7) (As := [.int a2]) (rest := [.int a1]) ⟨hx, hb, hml, hown, hts⟩ (c_X7_power hwd H.size u a2 _ h) (cwV 1 hts gX7_figure_X7_power rfl rfl rfl (by decide +kernel) ⟨Nat.le_of_ble_eq_true rfl, Nat.le_of_ble_eq_true rfl⟩) (pmV hC hP hS mg_0 rfl) rfl rfl hl.1 rfl (lv_room (Nat.le_of_ble_eq_true rfl)) dX7_figure_3 ⟨Nat.zero_le _, Nat.zero_le _⟩) hS (cA_mono hS.1) (fun v1 u2 H locs h hP hS => ?_)
  refine lv_idiv hx hb dX7_figure_6 h.1 ?_
  replace h := h.2
  refine lv_topi (fun v3 ev3 => ?_)
  replace h := h v3 ev3
  refine lv_aload_n hx hb dX7_figure_7 rfl (lv_at hl 0 rfl) ?_
  refine va_get (C := RX7) (T := TX7) (N := 22) hx hb hts n7 hown hK hP 0 mg_0 rfl 1 (by decide) lk0 (fun _ h9 => h9) rfl dX7_figure_8 ?_
  refine lv_irem hx hb dX7_figure_11 h.1 ?_
  replace h := h.2
  refine lv_topi (fun v4 ev4 => ?_)
  replace h := h v4 ev4
  exact W.iret (v := v4) hx hb hr (fun t ht hW => ⟨⟨_, _, rfl, h, by show va_P _ _ _ t.heap; rw [ht]; exact hP⟩, hS.F ht⟩) hS.2.2 dX7_figure_12
set_option maxRecDepth 100000 in
set_option maxHeartbeats 4000000 in
theorem c_X7_figure {l : Launch} {D : va_G} {cI cG cZ cJ : ClassId} {ts : Nat × Nat} {ad : Nat → Nat} (hwd : WD mLs ad) (sz : Nat) (u : St) (a1 : Int32) (a2 : Int32) (Q : Int32 → St → Prop) (h : f_X7_figure a1 a2 u Q) : Met l yX7_figure wsX7_figure ({ frames := 1, cells := 0, slots := 0, locals := 23 }) (va_Pc [.ref (ad 0), .int a1, .int a2] (PM D cI cG cZ cJ ts ad sz u)) (va_Qi Q (fun u9 t => va_P D vwCl (mW cI cZ ad u9) t.heap) (cA mLs ad sz)) 0 0 (cA mLs ad sz) := by
  refine Met.ofW (cc := cX7_figure) (maxL := 3) (ret := (some .int)) (by decide) rfl ?_
  intro p e s m args below meth c s₁ B hml hv
  obtain ⟨rfl, hsz, hP, hC⟩ := hv
  subst hsz
  have X : FX RX7 wsX7_figure cX7_figure 3 (some .int) D cI cG cZ cJ ts mLs ad p s m _ meth c := ⟨B.exec, B.bytes, hml, findClass_of_methodNamed B.named, atoms_spec (ws := wsX7_figure) B.pre, B.returns, B.notSynchronized, hwd, hC⟩
  have hl := lv_entry ([.ref (ad 0), .int a1, .int a2]) (n := 3) (Nat.le_of_ble_eq_true rfl)
  rw [lg_entry_eq]
  generalize (lg_sl ([.ref (ad 0), .int a1, .int a2]) ++ List.replicate (3 - (lg_sl ([.ref (ad 0), .int a1, .int a2])).length) Slot.unset).toArray = ls at hl ⊢
  exact w_X7_figure X a1 a2 Q u _ _ _ h hP va_S.rf hl
set_option maxRecDepth 100000 in
set_option maxHeartbeats 4000000 in
theorem w_X7_prime {p : Program} {l : Launch} {e : Env} {s : State} {m : MethodId} {args : Array Value} {below : List Frame} {meth : Method} {c : Code} {D : va_G} {cI cG cZ cJ : ClassId} {ts : Nat × Nat}  {ad : Nat → Nat}  (X : FX RX7 wsX7_prime cX7_prime 3 (some .int) D cI cG cZ cJ ts mLs ad p s m args meth c) (a1 : Int32) (Q : Int32 → St → Prop) (u : St) (H : Heap) (locs : List Loc) (ls : Array Slot) (h : f_X7_prime a1 u Q) (hP : va_P D vwCl (mW cI cZ ad u) H) (hS : va_S (cA mLs ad s.heap.size) s.heap H locs) (hl : lv_has ls 3 [(0, .ref (ad 0)), (1, .int a1)]) : W p l e (headSpec wsX7_prime { frames := 1, cells := 0, slots := 0, locals := 21 }).room s m args below meth c H locs 0 0 (MQ below (va_Qi Q (fun u9 t => va_P D vwCl (mW cI cZ ad u9) t.heap) (cA mLs ad s.heap.size)) args s 0 0 (cA mLs ad s.heap.size)) (F0 m 0 ls []) := by
  obtain ⟨hx, hb, hml, hown, hts, hr, hlocks, hwd, hC⟩ := id X
  have hK := hC.1
  have lk0 := hts (.fieldLink RX7 7 "FormForgeModel" "p" "I") (by decide +kernel)
  have lk1 := hts (.fieldLink RX7 63 "FormForgeModel" "forms" "I") (by decide +kernel)
  have lk2 := hts (.fieldLink RX7 78 "FormForgeModel" "generators" "I") (by decide +kernel)
  have n7 : ∀ w ∈ wsX70, w ∈ wsX7_prime := by decide +kernel
  unfold f_X7_prime at h
  refine lv_aload_n hx hb dX7_prime_0 rfl (lv_at hl 0 rfl) ?_
  refine lv_iload_n hx hb dX7_prime_1 rfl (lv_at hl 1 rfl) ?_
  refine lv_iconst (v := 2) hx hb dX7_prime_2 (by decide) ?_
  refine lv_icmp_eq (tgt := 16) hx hb dX7_prime_3 (by decide) (fun c1 => ?_) (fun c1 => ?_)
  · replace h := h.1 c1
    refine lv_iconst (v := 0) hx hb dX7_prime_16 (by decide) ?_
    refine lv_goto (tgt := 21) hx hb dX7_prime_17 (by decide) ?_
    refine cc_i (va_runV (C := RX7) (As := [.int 0]) (rest := []) ⟨hx, hb, hml, hown, hts⟩ (c_X7_holds hwd H.size u 0 _ h) (cwV 1 hts gX7_prime_X7_holds rfl rfl rfl (by decide +kernel) ⟨Nat.le_of_ble_eq_true rfl, Nat.le_of_ble_eq_true rfl⟩) (pmV hC hP hS mg_0 rfl) rfl rfl hl.1 rfl (lv_room (Nat.le_of_ble_eq_true rfl)) dX7_prime_21 ⟨Nat.zero_le _, Nat.zero_le _⟩) hS (cA_mono hS.1) (fun v2 u3 H locs h hP hS => ?_)
    refine lv_if_ne (tgt := 29) hx hb dX7_prime_24 (by decide) (fun c4 => ?_) (fun c4 => ?_)
    · replace h := h.1 c4
      refine lv_aload_n hx hb dX7_prime_29 rfl (lv_at hl 0 rfl) ?_
      refine va_get (C := RX7) (T := TX7) (N := 22) hx hb hts n7 hown hK hP 0 mg_0 rfl 1 (by decide) lk0 (fun _ h9 => h9) rfl dX7_prime_30 ?_
      refine lv_topi (fun v5 ev5 => ?_)
      replace h := h v5 ev5
      refine lv_istore_n (lv' := [(2, .int v5), (0, .ref (ad 0)), (1, .int a1)]) hx hb dX7_prime_33 rfl hl (by decide) rfl (fun ls hl => ?_)
      refine lv_aload_n hx hb dX7_prime_34 rfl (lv_at hl 1 rfl) ?_
      refine lv_iload_n hx hb dX7_prime_35 rfl (lv_at hl 2 rfl) ?_
      refine va_put (C := RX7) (T := TX7) (N := 22) (ty := .int) (v := .int a1) hx hb hts n7 tyX7 tyX7_ok nmX7 hown hK hP (cD hwd) hS 0 mg_0 rfl 1 (by decide) lk0 (fun _ h9 => h9) rfl (by decide +kernel) rfl rfl (Nat.le_of_ble_eq_true rfl) dX7_prime_36 (fun H locs hP _ hS => ?_)
      replace hP := mu_p hwd hP
      obtain ⟨u6, eu6⟩ : ∃ y : St, y = su u3 0 1 a1 := ⟨_, rfl⟩
      rw [← eu6] at hP
      replace h := h u6 eu6
      refine lv_aload_n hx hb dX7_prime_39 rfl (lv_at hl 1 rfl) ?_
      refine lv_iconst (v := 0) hx hb dX7_prime_40 (by decide) ?_
      refine va_put (C := RX7) (T := TX7) (N := 22) (ty := .int) (v := .int 0) hx hb hts n7 tyX7 tyX7_ok nmX7 hown hK hP (cD hwd) hS 0 mg_0 rfl 4 (by decide) lk1 (fun _ h9 => h9) rfl (by decide +kernel) rfl rfl (Nat.le_of_ble_eq_true rfl) dX7_prime_41 (fun H locs hP _ hS => ?_)
      replace hP := mu_forms hwd hP
      obtain ⟨u7, eu7⟩ : ∃ y : St, y = su u6 0 2 0 := ⟨_, rfl⟩
      rw [← eu7] at hP
      replace h := h u7 eu7
      refine lv_aload_n hx hb dX7_prime_44 rfl (lv_at hl 1 rfl) ?_
      refine lv_iconst (v := 0) hx hb dX7_prime_45 (by decide) ?_
      refine va_put (C := RX7) (T := TX7) (N := 22) (ty := .int) (v := .int 0) hx hb hts n7 tyX7 tyX7_ok nmX7 hown hK hP (cD hwd) hS 0 mg_0 rfl 6 (by decide) lk2 (fun _ h9 => h9) rfl (by decide +kernel) rfl rfl (Nat.le_of_ble_eq_true rfl) dX7_prime_46 (fun H locs hP _ hS => ?_)
      replace hP := mu_generators hwd hP
      obtain ⟨u8, eu8⟩ : ∃ y : St, y = su u7 0 3 0 := ⟨_, rfl⟩
      rw [← eu8] at hP
      replace h := h u8 eu8
      refine lv_iload_n hx hb dX7_prime_49 rfl (lv_at hl 0 rfl) ?_
      exact W.iret (v := v5) hx hb hr (fun t ht hW => ⟨⟨_, _, rfl, h, by show va_P _ _ _ t.heap; rw [ht]; exact hP⟩, hS.F ht⟩) hS.2.2 dX7_prime_50
    · replace h := h.2 c4
      refine lv_iconst (v := 0) hx hb dX7_prime_27 (by decide) ?_
      exact W.iret (v := 0) hx hb hr (fun t ht hW => ⟨⟨_, _, rfl, h, by show va_P _ _ _ t.heap; rw [ht]; exact hP⟩, hS.F ht⟩) hS.2.2 dX7_prime_28
  · replace h := h.2 c1
    refine lv_iload_n hx hb dX7_prime_6 rfl (lv_at hl 1 rfl) ?_
    refine lv_iconst (v := 3) hx hb dX7_prime_7 (by decide) ?_
    refine lv_icmp_eq (tgt := 16) hx hb dX7_prime_8 (by decide) (fun c9 => ?_) (fun c9 => ?_)
    · replace h := h.1 c9
      refine lv_iconst (v := 0) hx hb dX7_prime_16 (by decide) ?_
      refine lv_goto (tgt := 21) hx hb dX7_prime_17 (by decide) ?_
      refine cc_i (va_runV (C := RX7) (As := [.int 0]) (rest := []) ⟨hx, hb, hml, hown, hts⟩ (c_X7_holds hwd H.size u 0 _ h) (cwV 1 hts gX7_prime_X7_holds rfl rfl rfl (by decide +kernel) ⟨Nat.le_of_ble_eq_true rfl, Nat.le_of_ble_eq_true rfl⟩) (pmV hC hP hS mg_0 rfl) rfl rfl hl.1 rfl (lv_room (Nat.le_of_ble_eq_true rfl)) dX7_prime_21 ⟨Nat.zero_le _, Nat.zero_le _⟩) hS (cA_mono hS.1) (fun v10 u11 H locs h hP hS => ?_)
      refine lv_if_ne (tgt := 29) hx hb dX7_prime_24 (by decide) (fun c12 => ?_) (fun c12 => ?_)
      · replace h := h.1 c12
        refine lv_aload_n hx hb dX7_prime_29 rfl (lv_at hl 0 rfl) ?_
        refine va_get (C := RX7) (T := TX7) (N := 22) hx hb hts n7 hown hK hP 0 mg_0 rfl 1 (by decide) lk0 (fun _ h9 => h9) rfl dX7_prime_30 ?_
        refine lv_topi (fun v13 ev13 => ?_)
        replace h := h v13 ev13
        refine lv_istore_n (lv' := [(2, .int v13), (0, .ref (ad 0)), (1, .int a1)]) hx hb dX7_prime_33 rfl hl (by decide) rfl (fun ls hl => ?_)
        refine lv_aload_n hx hb dX7_prime_34 rfl (lv_at hl 1 rfl) ?_
        refine lv_iload_n hx hb dX7_prime_35 rfl (lv_at hl 2 rfl) ?_
        refine va_put (C := RX7) (T := TX7) (N := 22) (ty := .int) (v := .int a1) hx hb hts n7 tyX7 tyX7_ok nmX7 hown hK hP (cD hwd) hS 0 mg_0 rfl 1 (by decide) lk0 (fun _ h9 => h9) rfl (by decide +kernel) rfl rfl (Nat.le_of_ble_eq_true rfl) dX7_prime_36 (fun H locs hP _ hS => ?_)
        replace hP := mu_p hwd hP
        obtain ⟨u14, eu14⟩ : ∃ y : St, y = su u11 0 1 a1 := ⟨_, rfl⟩
        rw [← eu14] at hP
        replace h := h u14 eu14
        refine lv_aload_n hx hb dX7_prime_39 rfl (lv_at hl 1 rfl) ?_
        refine lv_iconst (v := 0) hx hb dX7_prime_40 (by decide) ?_
        refine va_put (C := RX7) (T := TX7) (N := 22) (ty := .int) (v := .int 0) hx hb hts n7 tyX7 tyX7_ok nmX7 hown hK hP (cD hwd) hS 0 mg_0 rfl 4 (by decide) lk1 (fun _ h9 => h9) rfl (by decide +kernel) rfl rfl (Nat.le_of_ble_eq_true rfl) dX7_prime_41 (fun H locs hP _ hS => ?_)
        replace hP := mu_forms hwd hP
        obtain ⟨u15, eu15⟩ : ∃ y : St, y = su u14 0 2 0 := ⟨_, rfl⟩
        rw [← eu15] at hP
        replace h := h u15 eu15
        refine lv_aload_n hx hb dX7_prime_44 rfl (lv_at hl 1 rfl) ?_
        refine lv_iconst (v := 0) hx hb dX7_prime_45 (by decide) ?_
        refine va_put (C := RX7) (T := TX7) (N := 22) (ty := .int) (v := .int 0) hx hb hts n7 tyX7 tyX7_ok nmX7 hown hK hP (cD hwd) hS 0 mg_0 rfl 6 (by decide) lk2 (fun _ h9 => h9) rfl (by decide +kernel) rfl rfl (Nat.le_of_ble_eq_true rfl) dX7_prime_46 (fun H locs hP _ hS => ?_)
        replace hP := mu_generators hwd hP
        obtain ⟨u16, eu16⟩ : ∃ y : St, y = su u15 0 3 0 := ⟨_, rfl⟩
        rw [← eu16] at hP
        replace h := h u16 eu16
        refine lv_iload_n hx hb dX7_prime_49 rfl (lv_at hl 0 rfl) ?_
        exact W.iret (v := v13) hx hb hr (fun t ht hW => ⟨⟨_, _, rfl, h, by show va_P _ _ _ t.heap; rw [ht]; exact hP⟩, hS.F ht⟩) hS.2.2 dX7_prime_50
      · replace h := h.2 c12
        refine lv_iconst (v := 0) hx hb dX7_prime_27 (by decide) ?_
        exact W.iret (v := 0) hx hb hr (fun t ht hW => ⟨⟨_, _, rfl, h, by show va_P _ _ _ t.heap; rw [ht]; exact hP⟩, hS.F ht⟩) hS.2.2 dX7_prime_28
    · replace h := h.2 c9
      refine lv_iload_n hx hb dX7_prime_11 rfl (lv_at hl 1 rfl) ?_
      refine lv_iconst (v := 5) hx hb dX7_prime_12 (by decide) ?_
      refine lv_icmp_ne (tgt := 20) hx hb dX7_prime_13 (by decide) (fun c17 => ?_) (fun c17 => ?_)
      · replace h := h.1 c17
        refine lv_iconst (v := 1) hx hb dX7_prime_20 (by decide) ?_
        refine cc_i (va_runV (C := RX7) (As := [.int 1]) (rest := []) ⟨hx, hb, hml, hown, hts⟩ (c_X7_holds hwd H.size u 1 _ h) (cwV 1 hts gX7_prime_X7_holds rfl rfl rfl (by decide +kernel) ⟨Nat.le_of_ble_eq_true rfl, Nat.le_of_ble_eq_true rfl⟩) (pmV hC hP hS mg_0 rfl) rfl rfl hl.1 rfl (lv_room (Nat.le_of_ble_eq_true rfl)) dX7_prime_21 ⟨Nat.zero_le _, Nat.zero_le _⟩) hS (cA_mono hS.1) (fun v18 u19 H locs h hP hS => ?_)
        refine lv_if_ne (tgt := 29) hx hb dX7_prime_24 (by decide) (fun c20 => ?_) (fun c20 => ?_)
        · replace h := h.1 c20
          refine lv_aload_n hx hb dX7_prime_29 rfl (lv_at hl 0 rfl) ?_
          refine va_get (C := RX7) (T := TX7) (N := 22) hx hb hts n7 hown hK hP 0 mg_0 rfl 1 (by decide) lk0 (fun _ h9 => h9) rfl dX7_prime_30 ?_
          refine lv_topi (fun v21 ev21 => ?_)
          replace h := h v21 ev21
          refine lv_istore_n (lv' := [(2, .int v21), (0, .ref (ad 0)), (1, .int a1)]) hx hb dX7_prime_33 rfl hl (by decide) rfl (fun ls hl => ?_)
          refine lv_aload_n hx hb dX7_prime_34 rfl (lv_at hl 1 rfl) ?_
          refine lv_iload_n hx hb dX7_prime_35 rfl (lv_at hl 2 rfl) ?_
          refine va_put (C := RX7) (T := TX7) (N := 22) (ty := .int) (v := .int a1) hx hb hts n7 tyX7 tyX7_ok nmX7 hown hK hP (cD hwd) hS 0 mg_0 rfl 1 (by decide) lk0 (fun _ h9 => h9) rfl (by decide +kernel) rfl rfl (Nat.le_of_ble_eq_true rfl) dX7_prime_36 (fun H locs hP _ hS => ?_)
          replace hP := mu_p hwd hP
          obtain ⟨u22, eu22⟩ : ∃ y : St, y = su u19 0 1 a1 := ⟨_, rfl⟩
          rw [← eu22] at hP
          replace h := h u22 eu22
          refine lv_aload_n hx hb dX7_prime_39 rfl (lv_at hl 1 rfl) ?_
          refine lv_iconst (v := 0) hx hb dX7_prime_40 (by decide) ?_
          refine va_put (C := RX7) (T := TX7) (N := 22) (ty := .int) (v := .int 0) hx hb hts n7 tyX7 tyX7_ok nmX7 hown hK hP (cD hwd) hS 0 mg_0 rfl 4 (by decide) lk1 (fun _ h9 => h9) rfl (by decide +kernel) rfl rfl (Nat.le_of_ble_eq_true rfl) dX7_prime_41 (fun H locs hP _ hS => ?_)
          replace hP := mu_forms hwd hP
          obtain ⟨u23, eu23⟩ : ∃ y : St, y = su u22 0 2 0 := ⟨_, rfl⟩
          rw [← eu23] at hP
          replace h := h u23 eu23
          refine lv_aload_n hx hb dX7_prime_44 rfl (lv_at hl 1 rfl) ?_
          refine lv_iconst (v := 0) hx hb dX7_prime_45 (by decide) ?_
          refine va_put (C := RX7) (T := TX7) (N := 22) (ty := .int) (v := .int 0) hx hb hts n7 tyX7 tyX7_ok nmX7 hown hK hP (cD hwd) hS 0 mg_0 rfl 6 (by decide) lk2 (fun _ h9 => h9) rfl (by decide +kernel) rfl rfl (Nat.le_of_ble_eq_true rfl) dX7_prime_46 (fun H locs hP _ hS => ?_)
          replace hP := mu_generators hwd hP
          obtain ⟨u24, eu24⟩ : ∃ y : St, y = su u23 0 3 0 := ⟨_, rfl⟩
          rw [← eu24] at hP
          replace h := h u24 eu24
          refine lv_iload_n hx hb dX7_prime_49 rfl (lv_at hl 0 rfl) ?_
          exact W.iret (v := v21) hx hb hr (fun t ht hW => ⟨⟨_, _, rfl, h, by show va_P _ _ _ t.heap; rw [ht]; exact hP⟩, hS.F ht⟩) hS.2.2 dX7_prime_50
        · replace h := h.2 c20
          refine lv_iconst (v := 0) hx hb dX7_prime_27 (by decide) ?_
          exact W.iret (v := 0) hx hb hr (fun t ht hW => ⟨⟨_, _, rfl, h, by show va_P _ _ _ t.heap; rw [ht]; exact hP⟩, hS.F ht⟩) hS.2.2 dX7_prime_28
      · replace h := h.2 c17
        refine lv_iconst (v := 0) hx hb dX7_prime_16 (by decide) ?_
        refine lv_goto (tgt := 21) hx hb dX7_prime_17 (by decide) ?_
        refine cc_i (va_runV (C := RX7) (As := [.int 0]) (rest := []) ⟨hx, hb, hml, hown, hts⟩ (c_X7_holds hwd H.size u 0 _ h) (cwV 1 hts gX7_prime_X7_holds rfl rfl rfl (by decide +kernel) ⟨Nat.le_of_ble_eq_true rfl, Nat.le_of_ble_eq_true rfl⟩) (pmV hC hP hS mg_0 rfl) rfl rfl hl.1 rfl (lv_room (Nat.le_of_ble_eq_true rfl)) dX7_prime_21 ⟨Nat.zero_le _, Nat.zero_le _⟩) hS (cA_mono hS.1) (fun v25 u26 H locs h hP hS => ?_)
        refine lv_if_ne (tgt := 29) hx hb dX7_prime_24 (by decide) (fun c27 => ?_) (fun c27 => ?_)
        · replace h := h.1 c27
          refine lv_aload_n hx hb dX7_prime_29 rfl (lv_at hl 0 rfl) ?_
          refine va_get (C := RX7) (T := TX7) (N := 22) hx hb hts n7 hown hK hP 0 mg_0 rfl 1 (by decide) lk0 (fun _ h9 => h9) rfl dX7_prime_30 ?_
          refine lv_topi (fun v28 ev28 => ?_)
          replace h := h v28 ev28
          refine lv_istore_n (lv' := [(2, .int v28), (0, .ref (ad 0)), (1, .int a1)]) hx hb dX7_prime_33 rfl hl (by decide) rfl (fun ls hl => ?_)
          refine lv_aload_n hx hb dX7_prime_34 rfl (lv_at hl 1 rfl) ?_
          refine lv_iload_n hx hb dX7_prime_35 rfl (lv_at hl 2 rfl) ?_
          refine va_put (C := RX7) (T := TX7) (N := 22) (ty := .int) (v := .int a1) hx hb hts n7 tyX7 tyX7_ok nmX7 hown hK hP (cD hwd) hS 0 mg_0 rfl 1 (by decide) lk0 (fun _ h9 => h9) rfl (by decide +kernel) rfl rfl (Nat.le_of_ble_eq_true rfl) dX7_prime_36 (fun H locs hP _ hS => ?_)
          replace hP := mu_p hwd hP
          obtain ⟨u29, eu29⟩ : ∃ y : St, y = su u26 0 1 a1 := ⟨_, rfl⟩
          rw [← eu29] at hP
          replace h := h u29 eu29
          refine lv_aload_n hx hb dX7_prime_39 rfl (lv_at hl 1 rfl) ?_
          refine lv_iconst (v := 0) hx hb dX7_prime_40 (by decide) ?_
          refine va_put (C := RX7) (T := TX7) (N := 22) (ty := .int) (v := .int 0) hx hb hts n7 tyX7 tyX7_ok nmX7 hown hK hP (cD hwd) hS 0 mg_0 rfl 4 (by decide) lk1 (fun _ h9 => h9) rfl (by decide +kernel) rfl rfl (Nat.le_of_ble_eq_true rfl) dX7_prime_41 (fun H locs hP _ hS => ?_)
          replace hP := mu_forms hwd hP
          obtain ⟨u30, eu30⟩ : ∃ y : St, y = su u29 0 2 0 := ⟨_, rfl⟩
          rw [← eu30] at hP
          replace h := h u30 eu30
          refine lv_aload_n hx hb dX7_prime_44 rfl (lv_at hl 1 rfl) ?_
          refine lv_iconst (v := 0) hx hb dX7_prime_45 (by decide) ?_
          refine va_put (C := RX7) (T := TX7) (N := 22) (ty := .int) (v := .int 0) hx hb hts n7 tyX7 tyX7_ok nmX7 hown hK hP (cD hwd) hS 0 mg_0 rfl 6 (by decide) lk2 (fun _ h9 => h9) rfl (by decide +kernel) rfl rfl (Nat.le_of_ble_eq_true rfl) dX7_prime_46 (fun H locs hP _ hS => ?_)
          replace hP := mu_generators hwd hP
          obtain ⟨u31, eu31⟩ : ∃ y : St, y = su u30 0 3 0 := ⟨_, rfl⟩
          rw [← eu31] at hP
          replace h := h u31 eu31
          refine lv_iload_n hx hb dX7_prime_49 rfl (lv_at hl 0 rfl) ?_
          exact W.iret (v := v28) hx hb hr (fun t ht hW => ⟨⟨_, _, rfl, h, by show va_P _ _ _ t.heap; rw [ht]; exact hP⟩, hS.F ht⟩) hS.2.2 dX7_prime_50
        · replace h := h.2 c27
          refine lv_iconst (v := 0) hx hb dX7_prime_27 (by decide) ?_
          exact W.iret (v := 0) hx hb hr (fun t ht hW => ⟨⟨_, _, rfl, h, by show va_P _ _ _ t.heap; rw [ht]; exact hP⟩, hS.F ht⟩) hS.2.2 dX7_prime_28
set_option maxRecDepth 100000 in
set_option maxHeartbeats 4000000 in
theorem c_X7_prime {l : Launch} {D : va_G} {cI cG cZ cJ : ClassId} {ts : Nat × Nat} {ad : Nat → Nat} (hwd : WD mLs ad) (sz : Nat) (u : St) (a1 : Int32) (Q : Int32 → St → Prop) (h : f_X7_prime a1 u Q) : Met l yX7_prime wsX7_prime ({ frames := 1, cells := 0, slots := 0, locals := 21 }) (va_Pc [.ref (ad 0), .int a1] (PM D cI cG cZ cJ ts ad sz u)) (va_Qi Q (fun u9 t => va_P D vwCl (mW cI cZ ad u9) t.heap) (cA mLs ad sz)) 0 0 (cA mLs ad sz) := by
  refine Met.ofW (cc := cX7_prime) (maxL := 3) (ret := (some .int)) (by decide) rfl ?_
  intro p e s m args below meth c s₁ B hml hv
  obtain ⟨rfl, hsz, hP, hC⟩ := hv
  subst hsz
  have X : FX RX7 wsX7_prime cX7_prime 3 (some .int) D cI cG cZ cJ ts mLs ad p s m _ meth c := ⟨B.exec, B.bytes, hml, findClass_of_methodNamed B.named, atoms_spec (ws := wsX7_prime) B.pre, B.returns, B.notSynchronized, hwd, hC⟩
  have hl := lv_entry ([.ref (ad 0), .int a1]) (n := 3) (Nat.le_of_ble_eq_true rfl)
  rw [lg_entry_eq]
  generalize (lg_sl ([.ref (ad 0), .int a1]) ++ List.replicate (3 - (lg_sl ([.ref (ad 0), .int a1])).length) Slot.unset).toArray = ls at hl ⊢
  exact w_X7_prime X a1 Q u _ _ _ h hP va_S.rf hl
set_option maxRecDepth 100000 in
set_option maxHeartbeats 4000000 in
theorem w_X7_form {p : Program} {l : Launch} {e : Env} {s : State} {m : MethodId} {args : Array Value} {below : List Frame} {meth : Method} {c : Code} {D : va_G} {cI cG cZ cJ : ClassId} {ts : Nat × Nat}  {ad : Nat → Nat}  (X : FX RX7 wsX7_form cX7_form 4 (some .int) D cI cG cZ cJ ts mLs ad p s m args meth c) (a1 : Int32) (a2 : Int32) (Q : Int32 → St → Prop) (u : St) (H : Heap) (locs : List Loc) (ls : Array Slot) (h : f_X7_form a1 a2 u Q) (hP : va_P D vwCl (mW cI cZ ad u) H) (hS : va_S (cA mLs ad s.heap.size) s.heap H locs) (hl : lv_has ls 4 [(0, .ref (ad 0)), (1, .int a1), (2, .int a2)]) : W p l e (headSpec wsX7_form { frames := 2, cells := 0, slots := 0, locals := 43 }).room s m args below meth c H locs 0 0 (MQ below (va_Qi Q (fun u9 t => va_P D vwCl (mW cI cZ ad u9) t.heap) (cA mLs ad s.heap.size)) args s 0 0 (cA mLs ad s.heap.size)) (F0 m 0 ls []) := by
  obtain ⟨hx, hb, hml, hown, hts, hr, hlocks, hwd, hC⟩ := id X
  have hK := hC.1
  have lk0 := hts (.fieldLink RX7 13 "FormForgeModel" "degree" "[I") (by decide +kernel)
  have lk1 := hts (.fieldLink RX7 63 "FormForgeModel" "forms" "I") (by decide +kernel)
  have lk2 := hts (.fieldLink RX7 17 "FormForgeModel" "code" "[I") (by decide +kernel)
  have n7 : ∀ w ∈ wsX70, w ∈ wsX7_form := by decide +kernel
  unfold f_X7_form at h
  refine lv_aload_n hx hb dX7_form_0 rfl (lv_at hl 0 rfl) ?_
  refine lv_iload_n hx hb dX7_form_1 rfl (lv_at hl 1 rfl) ?_
  refine cc_i (va_runV (C := RX7) (As := [.int a1]) (rest := []) ⟨hx, hb, hml, hown, hts⟩ (c_X7_isDegree hwd H.size u a1 _ h) (cwV 1 hts gX7_form_X7_isDegree rfl rfl rfl (by decide +kernel) ⟨Nat.le_of_ble_eq_true rfl, Nat.le_of_ble_eq_true rfl⟩) (pmV hC hP hS mg_0 rfl) rfl rfl hl.1 rfl (lv_room (Nat.le_of_ble_eq_true rfl)) dX7_form_2 ⟨Nat.zero_le _, Nat.zero_le _⟩) hS (cA_mono hS.1) (fun v1 u2 H locs h hP hS => ?_)
  refine lv_if_eq (tgt := 29) hx hb dX7_form_5 (by decide) (fun c3 => ?_) (fun c3 => ?_)
  · replace h := h.1 c3
    refine lv_iconst (v := 0) hx hb dX7_form_29 (by decide) ?_
    refine lv_istore_n (lv' := [(3, .int 0), (0, .ref (ad 0)), (1, .int a1), (2, .int a2)]) hx hb dX7_form_30 rfl hl (by decide) rfl (fun ls hl => ?_)
    refine lv_aload_n hx hb dX7_form_31 rfl (lv_at hl 1 rfl) ?_
    refine lv_iload_n hx hb dX7_form_32 rfl (lv_at hl 0 rfl) ?_
    refine lv_if_ne (tgt := 40) hx hb dX7_form_33 (by decide) (fun c4 => absurd c4 (by decide)) (fun _ => ?_)
    refine lv_iconst (v := 1) hx hb dX7_form_36 (by decide) ?_
    refine lv_goto (tgt := 54) hx hb dX7_form_37 (by decide) ?_
    refine cc_i (va_runV (C := RX7) (As := [.int 1]) (rest := []) ⟨hx, hb, hml, hown, hts⟩ (c_X7_holds hwd H.size u2 1 _ h) (cwV 1 hts gX7_form_X7_holds rfl rfl rfl (by decide +kernel) ⟨Nat.le_of_ble_eq_true rfl, Nat.le_of_ble_eq_true rfl⟩) (pmV hC hP hS mg_0 rfl) rfl rfl hl.1 rfl (lv_room (Nat.le_of_ble_eq_true rfl)) dX7_form_54 ⟨Nat.zero_le _, Nat.zero_le _⟩) hS (cA_mono hS.1) (fun v5 u6 H locs h hP hS => ?_)
    refine lv_if_ne (tgt := 62) hx hb dX7_form_57 (by decide) (fun c7 => ?_) (fun c7 => ?_)
    · replace h := h.1 c7
      refine lv_aload_n hx hb dX7_form_62 rfl (lv_at hl 1 rfl) ?_
      refine va_get (C := RX7) (T := TX7) (N := 22) hx hb hts n7 hown hK hP 0 mg_0 rfl 2 (by decide) lk0 (fun _ h9 => h9) rfl dX7_form_63 ?_
      refine lv_aload_n hx hb dX7_form_66 rfl (lv_at hl 1 rfl) ?_
      refine va_get (C := RX7) (T := TX7) (N := 22) hx hb hts n7 hown hK hP 0 mg_0 rfl 4 (by decide) lk1 (fun _ h9 => h9) rfl dX7_form_67 ?_
      refine lv_iload_n hx hb dX7_form_70 rfl (lv_at hl 2 rfl) ?_
      refine va_iast hx hb hK hP (cD hwd) hS 1 0 (mg_a ⟨by decide, by decide, by decide⟩) rfl h.1 dX7_form_71 (fun H locs hP _ hS => ?_)
      replace hP := mu_a hwd ⟨by decide, by decide, by decide⟩ hP
      obtain ⟨u8, eu8⟩ : ∃ y : St, y = su u6 1 (u6 0 2).toNatClampNeg a1 := ⟨_, rfl⟩
      rw [← eu8] at hP
      replace h := h.2 u8 eu8
      refine lv_aload_n hx hb dX7_form_72 rfl (lv_at hl 1 rfl) ?_
      refine va_get (C := RX7) (T := TX7) (N := 22) hx hb hts n7 hown hK hP 0 mg_0 rfl 3 (by decide) lk2 (fun _ h9 => h9) rfl dX7_form_73 ?_
      refine lv_aload_n hx hb dX7_form_76 rfl (lv_at hl 1 rfl) ?_
      refine va_get (C := RX7) (T := TX7) (N := 22) hx hb hts n7 hown hK hP 0 mg_0 rfl 4 (by decide) lk1 (fun _ h9 => h9) rfl dX7_form_77 ?_
      refine lv_iload_n hx hb dX7_form_80 rfl (lv_at hl 3 rfl) ?_
      refine va_iast hx hb hK hP (cD hwd) hS 2 0 (mg_a ⟨by decide, by decide, by decide⟩) rfl h.1 dX7_form_81 (fun H locs hP _ hS => ?_)
      replace hP := mu_a hwd ⟨by decide, by decide, by decide⟩ hP
      obtain ⟨u9, eu9⟩ : ∃ y : St, y = su u8 2 (u8 0 2).toNatClampNeg a2 := ⟨_, rfl⟩
      rw [← eu9] at hP
      replace h := h.2 u9 eu9
      refine lv_aload_n hx hb dX7_form_82 rfl (lv_at hl 1 rfl) ?_
      refine lv_dup hx hb dX7_form_83 rfl ?_
      refine va_get (C := RX7) (T := TX7) (N := 22) hx hb hts n7 hown hK hP 0 mg_0 rfl 4 (by decide) lk1 (fun _ h9 => h9) rfl dX7_form_84 ?_
      refine lv_iconst (v := 1) hx hb dX7_form_87 (by decide) ?_
      refine lv_iadd hx hb dX7_form_88 ?_
      refine va_put (C := RX7) (T := TX7) (N := 22) (ty := .int) (v := .int ((u9 0 2) + 1)) hx hb hts n7 tyX7 tyX7_ok nmX7 hown hK hP (cD hwd) hS 0 mg_0 rfl 4 (by decide) lk1 (fun _ h9 => h9) rfl (by decide +kernel) rfl rfl (Nat.le_of_ble_eq_true rfl) dX7_form_89 (fun H locs hP _ hS => ?_)
      replace hP := mu_forms hwd hP
      obtain ⟨u10, eu10⟩ : ∃ y : St, y = su u9 0 2 ((u9 0 2) + 1) := ⟨_, rfl⟩
      rw [← eu10] at hP
      replace h := h u10 eu10
      refine lv_aload_n hx hb dX7_form_92 rfl (lv_at hl 1 rfl) ?_
      refine va_get (C := RX7) (T := TX7) (N := 22) hx hb hts n7 hown hK hP 0 mg_0 rfl 4 (by decide) lk1 (fun _ h9 => h9) rfl dX7_form_93 ?_
      refine lv_iconst (v := 1) hx hb dX7_form_96 (by decide) ?_
      refine lv_isub hx hb dX7_form_97 ?_
      exact W.iret (v := ((u10 0 2) - 1)) hx hb hr (fun t ht hW => ⟨⟨_, _, rfl, h, by show va_P _ _ _ t.heap; rw [ht]; exact hP⟩, hS.F ht⟩) hS.2.2 dX7_form_98
    · replace h := h.2 c7
      refine lv_iconst (v := 0) hx hb dX7_form_60 (by decide) ?_
      exact W.iret (v := 0) hx hb hr (fun t ht hW => ⟨⟨_, _, rfl, h, by show va_P _ _ _ t.heap; rw [ht]; exact hP⟩, hS.F ht⟩) hS.2.2 dX7_form_61
  · replace h := h.2 c3
    refine lv_iload_n hx hb dX7_form_8 rfl (lv_at hl 2 rfl) ?_
    refine lv_iconst (v := 0) hx hb dX7_form_9 (by decide) ?_
    refine lv_aload_n hx hb dX7_form_10 rfl (lv_at hl 0 rfl) ?_
    refine lv_iload_n hx hb dX7_form_11 rfl (lv_at hl 1 rfl) ?_
    refine lv_iconst (v := 1) hx hb dX7_form_12 (by decide) ?_
    refine lv_iadd hx hb dX7_form_13 ?_
    refine cc_i (va_runV (C := RX7) (As := [.int (a1 + 1)]) (rest := [.int 0, .int a2]) ⟨hx, hb, hml, hown, hts⟩ (c_X7_power hwd H.size u2 (a1 + 1) _ h) (cwV 1 hts gX7_form_X7_power rfl rfl rfl (by decide +kernel) ⟨Nat.le_of_ble_eq_true rfl, Nat.le_of_ble_eq_true rfl⟩) (pmV hC hP hS mg_0 rfl) rfl rfl hl.1 rfl (lv_room (Nat.le_of_ble_eq_true rfl)) dX7_form_14 ⟨Nat.zero_le _, Nat.zero_le _⟩) hS (cA_mono hS.1) (fun v11 u12 H locs h hP hS => ?_)
    refine lv_iconst (v := 1) hx hb dX7_form_17 (by decide) ?_
    refine lv_isub hx hb dX7_form_18 ?_
    refine cc_i (va_runS (As := [.int a2, .int 0, .int (v11 - 1)]) (rest := []) ⟨hx, hb, hml, hown, hts⟩ (c_X7_isIn hwd H.size u12 a2 0 (v11 - 1) _ h) (va_cwS 3 hts gX7_form_X7_isIn rfl rfl rfl (by decide +kernel) ⟨Nat.le_of_ble_eq_true rfl, Nat.le_of_ble_eq_true rfl⟩) (pmS hC hP hS) rfl rfl hl.1 rfl (lv_room (Nat.le_of_ble_eq_true rfl)) dX7_form_19 ⟨Nat.zero_le _, Nat.zero_le _⟩) hS (cA_mono hS.1) (fun v13 u14 H locs h hP hS => ?_)
    refine lv_if_eq (tgt := 29) hx hb dX7_form_22 (by decide) (fun c15 => ?_) (fun c15 => ?_)
    · replace h := h.1 c15
      refine lv_iconst (v := 0) hx hb dX7_form_29 (by decide) ?_
      refine lv_istore_n (lv' := [(3, .int 0), (0, .ref (ad 0)), (1, .int a1), (2, .int a2)]) hx hb dX7_form_30 rfl hl (by decide) rfl (fun ls hl => ?_)
      refine lv_aload_n hx hb dX7_form_31 rfl (lv_at hl 1 rfl) ?_
      refine lv_iload_n hx hb dX7_form_32 rfl (lv_at hl 0 rfl) ?_
      refine lv_if_ne (tgt := 40) hx hb dX7_form_33 (by decide) (fun c16 => absurd c16 (by decide)) (fun _ => ?_)
      refine lv_iconst (v := 1) hx hb dX7_form_36 (by decide) ?_
      refine lv_goto (tgt := 54) hx hb dX7_form_37 (by decide) ?_
      refine cc_i (va_runV (C := RX7) (As := [.int 1]) (rest := []) ⟨hx, hb, hml, hown, hts⟩ (c_X7_holds hwd H.size u14 1 _ h) (cwV 1 hts gX7_form_X7_holds rfl rfl rfl (by decide +kernel) ⟨Nat.le_of_ble_eq_true rfl, Nat.le_of_ble_eq_true rfl⟩) (pmV hC hP hS mg_0 rfl) rfl rfl hl.1 rfl (lv_room (Nat.le_of_ble_eq_true rfl)) dX7_form_54 ⟨Nat.zero_le _, Nat.zero_le _⟩) hS (cA_mono hS.1) (fun v17 u18 H locs h hP hS => ?_)
      refine lv_if_ne (tgt := 62) hx hb dX7_form_57 (by decide) (fun c19 => ?_) (fun c19 => ?_)
      · replace h := h.1 c19
        refine lv_aload_n hx hb dX7_form_62 rfl (lv_at hl 1 rfl) ?_
        refine va_get (C := RX7) (T := TX7) (N := 22) hx hb hts n7 hown hK hP 0 mg_0 rfl 2 (by decide) lk0 (fun _ h9 => h9) rfl dX7_form_63 ?_
        refine lv_aload_n hx hb dX7_form_66 rfl (lv_at hl 1 rfl) ?_
        refine va_get (C := RX7) (T := TX7) (N := 22) hx hb hts n7 hown hK hP 0 mg_0 rfl 4 (by decide) lk1 (fun _ h9 => h9) rfl dX7_form_67 ?_
        refine lv_iload_n hx hb dX7_form_70 rfl (lv_at hl 2 rfl) ?_
        refine va_iast hx hb hK hP (cD hwd) hS 1 0 (mg_a ⟨by decide, by decide, by decide⟩) rfl h.1 dX7_form_71 (fun H locs hP _ hS => ?_)
        replace hP := mu_a hwd ⟨by decide, by decide, by decide⟩ hP
        obtain ⟨u20, eu20⟩ : ∃ y : St, y = su u18 1 (u18 0 2).toNatClampNeg a1 := ⟨_, rfl⟩
        rw [← eu20] at hP
        replace h := h.2 u20 eu20
        refine lv_aload_n hx hb dX7_form_72 rfl (lv_at hl 1 rfl) ?_
        refine va_get (C := RX7) (T := TX7) (N := 22) hx hb hts n7 hown hK hP 0 mg_0 rfl 3 (by decide) lk2 (fun _ h9 => h9) rfl dX7_form_73 ?_
        refine lv_aload_n hx hb dX7_form_76 rfl (lv_at hl 1 rfl) ?_
        refine va_get (C := RX7) (T := TX7) (N := 22) hx hb hts n7 hown hK hP 0 mg_0 rfl 4 (by decide) lk1 (fun _ h9 => h9) rfl dX7_form_77 ?_
        refine lv_iload_n hx hb dX7_form_80 rfl (lv_at hl 3 rfl) ?_
        refine va_iast hx hb hK hP (cD hwd) hS 2 0 (mg_a ⟨by decide, by decide, by decide⟩) rfl h.1 dX7_form_81 (fun H locs hP _ hS => ?_)
        replace hP := mu_a hwd ⟨by decide, by decide, by decide⟩ hP
        obtain ⟨u21, eu21⟩ : ∃ y : St, y = su u20 2 (u20 0 2).toNatClampNeg a2 := ⟨_, rfl⟩
        rw [← eu21] at hP
        replace h := h.2 u21 eu21
        refine lv_aload_n hx hb dX7_form_82 rfl (lv_at hl 1 rfl) ?_
        refine lv_dup hx hb dX7_form_83 rfl ?_
        refine va_get (C := RX7) (T := TX7) (N := 22) hx hb hts n7 hown hK hP 0 mg_0 rfl 4 (by decide) lk1 (fun _ h9 => h9) rfl dX7_form_84 ?_
        refine lv_iconst (v := 1) hx hb dX7_form_87 (by decide) ?_
        refine lv_iadd hx hb dX7_form_88 ?_
        refine va_put (C := RX7) (T := TX7) (N := 22) (ty := .int) (v := .int ((u21 0 2) + 1)) hx hb hts n7 tyX7 tyX7_ok nmX7 hown hK hP (cD hwd) hS 0 mg_0 rfl 4 (by decide) lk1 (fun _ h9 => h9) rfl (by decide +kernel) rfl rfl (Nat.le_of_ble_eq_true rfl) dX7_form_89 (fun H locs hP _ hS => ?_)
        replace hP := mu_forms hwd hP
        obtain ⟨u22, eu22⟩ : ∃ y : St, y = su u21 0 2 ((u21 0 2) + 1) := ⟨_, rfl⟩
        rw [← eu22] at hP
        replace h := h u22 eu22
        refine lv_aload_n hx hb dX7_form_92 rfl (lv_at hl 1 rfl) ?_
        refine va_get (C := RX7) (T := TX7) (N := 22) hx hb hts n7 hown hK hP 0 mg_0 rfl 4 (by decide) lk1 (fun _ h9 => h9) rfl dX7_form_93 ?_
        refine lv_iconst (v := 1) hx hb dX7_form_96 (by decide) ?_
        refine lv_isub hx hb dX7_form_97 ?_
        exact W.iret (v := ((u22 0 2) - 1)) hx hb hr (fun t ht hW => ⟨⟨_, _, rfl, h, by show va_P _ _ _ t.heap; rw [ht]; exact hP⟩, hS.F ht⟩) hS.2.2 dX7_form_98
      · replace h := h.2 c19
        refine lv_iconst (v := 0) hx hb dX7_form_60 (by decide) ?_
        exact W.iret (v := 0) hx hb hr (fun t ht hW => ⟨⟨_, _, rfl, h, by show va_P _ _ _ t.heap; rw [ht]; exact hP⟩, hS.F ht⟩) hS.2.2 dX7_form_61
    · replace h := h.2 c15
      refine lv_iconst (v := 1) hx hb dX7_form_25 (by decide) ?_
      refine lv_goto (tgt := 30) hx hb dX7_form_26 (by decide) ?_
      refine lv_istore_n (lv' := [(3, .int 1), (0, .ref (ad 0)), (1, .int a1), (2, .int a2)]) hx hb dX7_form_30 rfl hl (by decide) rfl (fun ls hl => ?_)
      refine lv_aload_n hx hb dX7_form_31 rfl (lv_at hl 1 rfl) ?_
      refine lv_iload_n hx hb dX7_form_32 rfl (lv_at hl 0 rfl) ?_
      refine lv_if_ne (tgt := 40) hx hb dX7_form_33 (by decide) (fun _ => ?_) (fun c23 => absurd c23 (by decide))
      refine lv_aload_n hx hb dX7_form_40 rfl (lv_at hl 1 rfl) ?_
      refine va_get (C := RX7) (T := TX7) (N := 22) hx hb hts n7 hown hK hP 0 mg_0 rfl 4 (by decide) lk1 (fun _ h9 => h9) rfl dX7_form_41 ?_
      refine lv_bipush (v := 20) hx hb dX7_form_44 (by decide) ?_
      refine lv_icmp_ne (tgt := 53) hx hb dX7_form_46 (by decide) (fun c24 => ?_) (fun c24 => ?_)
      · replace h := h.1 c24
        refine lv_iconst (v := 0) hx hb dX7_form_53 (by decide) ?_
        refine cc_i (va_runV (C := RX7) (As := [.int 0]) (rest := []) ⟨hx, hb, hml, hown, hts⟩ (c_X7_holds hwd H.size u14 0 _ h) (cwV 1 hts gX7_form_X7_holds rfl rfl rfl (by decide +kernel) ⟨Nat.le_of_ble_eq_true rfl, Nat.le_of_ble_eq_true rfl⟩) (pmV hC hP hS mg_0 rfl) rfl rfl hl.1 rfl (lv_room (Nat.le_of_ble_eq_true rfl)) dX7_form_54 ⟨Nat.zero_le _, Nat.zero_le _⟩) hS (cA_mono hS.1) (fun v25 u26 H locs h hP hS => ?_)
        refine lv_if_ne (tgt := 62) hx hb dX7_form_57 (by decide) (fun c27 => ?_) (fun c27 => ?_)
        · replace h := h.1 c27
          refine lv_aload_n hx hb dX7_form_62 rfl (lv_at hl 1 rfl) ?_
          refine va_get (C := RX7) (T := TX7) (N := 22) hx hb hts n7 hown hK hP 0 mg_0 rfl 2 (by decide) lk0 (fun _ h9 => h9) rfl dX7_form_63 ?_
          refine lv_aload_n hx hb dX7_form_66 rfl (lv_at hl 1 rfl) ?_
          refine va_get (C := RX7) (T := TX7) (N := 22) hx hb hts n7 hown hK hP 0 mg_0 rfl 4 (by decide) lk1 (fun _ h9 => h9) rfl dX7_form_67 ?_
          refine lv_iload_n hx hb dX7_form_70 rfl (lv_at hl 2 rfl) ?_
          refine va_iast hx hb hK hP (cD hwd) hS 1 0 (mg_a ⟨by decide, by decide, by decide⟩) rfl h.1 dX7_form_71 (fun H locs hP _ hS => ?_)
          replace hP := mu_a hwd ⟨by decide, by decide, by decide⟩ hP
          obtain ⟨u28, eu28⟩ : ∃ y : St, y = su u26 1 (u26 0 2).toNatClampNeg a1 := ⟨_, rfl⟩
          rw [← eu28] at hP
          replace h := h.2 u28 eu28
          refine lv_aload_n hx hb dX7_form_72 rfl (lv_at hl 1 rfl) ?_
          refine va_get (C := RX7) (T := TX7) (N := 22) hx hb hts n7 hown hK hP 0 mg_0 rfl 3 (by decide) lk2 (fun _ h9 => h9) rfl dX7_form_73 ?_
          refine lv_aload_n hx hb dX7_form_76 rfl (lv_at hl 1 rfl) ?_
          refine va_get (C := RX7) (T := TX7) (N := 22) hx hb hts n7 hown hK hP 0 mg_0 rfl 4 (by decide) lk1 (fun _ h9 => h9) rfl dX7_form_77 ?_
          refine lv_iload_n hx hb dX7_form_80 rfl (lv_at hl 3 rfl) ?_
          refine va_iast hx hb hK hP (cD hwd) hS 2 0 (mg_a ⟨by decide, by decide, by decide⟩) rfl h.1 dX7_form_81 (fun H locs hP _ hS => ?_)
          replace hP := mu_a hwd ⟨by decide, by decide, by decide⟩ hP
          obtain ⟨u29, eu29⟩ : ∃ y : St, y = su u28 2 (u28 0 2).toNatClampNeg a2 := ⟨_, rfl⟩
          rw [← eu29] at hP
          replace h := h.2 u29 eu29
          refine lv_aload_n hx hb dX7_form_82 rfl (lv_at hl 1 rfl) ?_
          refine lv_dup hx hb dX7_form_83 rfl ?_
          refine va_get (C := RX7) (T := TX7) (N := 22) hx hb hts n7 hown hK hP 0 mg_0 rfl 4 (by decide) lk1 (fun _ h9 => h9) rfl dX7_form_84 ?_
          refine lv_iconst (v := 1) hx hb dX7_form_87 (by decide) ?_
          refine lv_iadd hx hb dX7_form_88 ?_
          refine va_put (C := RX7) (T := TX7) (N := 22) (ty := .int) (v := .int ((u29 0 2) + 1)) hx hb hts n7 tyX7 tyX7_ok nmX7 hown hK hP (cD hwd) hS 0 mg_0 rfl 4 (by decide) lk1 (fun _ h9 => h9) rfl (by decide +kernel) rfl rfl (Nat.le_of_ble_eq_true rfl) dX7_form_89 (fun H locs hP _ hS => ?_)
          replace hP := mu_forms hwd hP
          obtain ⟨u30, eu30⟩ : ∃ y : St, y = su u29 0 2 ((u29 0 2) + 1) := ⟨_, rfl⟩
          rw [← eu30] at hP
          replace h := h u30 eu30
          refine lv_aload_n hx hb dX7_form_92 rfl (lv_at hl 1 rfl) ?_
          refine va_get (C := RX7) (T := TX7) (N := 22) hx hb hts n7 hown hK hP 0 mg_0 rfl 4 (by decide) lk1 (fun _ h9 => h9) rfl dX7_form_93 ?_
          refine lv_iconst (v := 1) hx hb dX7_form_96 (by decide) ?_
          refine lv_isub hx hb dX7_form_97 ?_
          exact W.iret (v := ((u30 0 2) - 1)) hx hb hr (fun t ht hW => ⟨⟨_, _, rfl, h, by show va_P _ _ _ t.heap; rw [ht]; exact hP⟩, hS.F ht⟩) hS.2.2 dX7_form_98
        · replace h := h.2 c27
          refine lv_iconst (v := 0) hx hb dX7_form_60 (by decide) ?_
          exact W.iret (v := 0) hx hb hr (fun t ht hW => ⟨⟨_, _, rfl, h, by show va_P _ _ _ t.heap; rw [ht]; exact hP⟩, hS.F ht⟩) hS.2.2 dX7_form_61
      · replace h := h.2 c24
        refine lv_iconst (v := 2) hx hb dX7_form_49 (by decide) ?_
        refine lv_goto (tgt := 54) hx hb dX7_form_50 (by decide) ?_
        refine cc_i (va_runV (C := RX7) (As := [.int 2]) (rest := []) ⟨hx, hb, hml, hown, hts⟩ (c_X7_holds hwd H.size u14 2 _ h) (cwV 1 hts gX7_form_X7_holds rfl rfl rfl (by decide +kernel) ⟨Nat.le_of_ble_eq_true rfl, Nat.le_of_ble_eq_true rfl⟩) (pmV hC hP hS mg_0 rfl) rfl rfl hl.1 rfl (lv_room (Nat.le_of_ble_eq_true rfl)) dX7_form_54 ⟨Nat.zero_le _, Nat.zero_le _⟩) hS (cA_mono hS.1) (fun v31 u32 H locs h hP hS => ?_)
        refine lv_if_ne (tgt := 62) hx hb dX7_form_57 (by decide) (fun c33 => ?_) (fun c33 => ?_)
        · replace h := h.1 c33
          refine lv_aload_n hx hb dX7_form_62 rfl (lv_at hl 1 rfl) ?_
          refine va_get (C := RX7) (T := TX7) (N := 22) hx hb hts n7 hown hK hP 0 mg_0 rfl 2 (by decide) lk0 (fun _ h9 => h9) rfl dX7_form_63 ?_
          refine lv_aload_n hx hb dX7_form_66 rfl (lv_at hl 1 rfl) ?_
          refine va_get (C := RX7) (T := TX7) (N := 22) hx hb hts n7 hown hK hP 0 mg_0 rfl 4 (by decide) lk1 (fun _ h9 => h9) rfl dX7_form_67 ?_
          refine lv_iload_n hx hb dX7_form_70 rfl (lv_at hl 2 rfl) ?_
          refine va_iast hx hb hK hP (cD hwd) hS 1 0 (mg_a ⟨by decide, by decide, by decide⟩) rfl h.1 dX7_form_71 (fun H locs hP _ hS => ?_)
          replace hP := mu_a hwd ⟨by decide, by decide, by decide⟩ hP
          obtain ⟨u34, eu34⟩ : ∃ y : St, y = su u32 1 (u32 0 2).toNatClampNeg a1 := ⟨_, rfl⟩
          rw [← eu34] at hP
          replace h := h.2 u34 eu34
          refine lv_aload_n hx hb dX7_form_72 rfl (lv_at hl 1 rfl) ?_
          refine va_get (C := RX7) (T := TX7) (N := 22) hx hb hts n7 hown hK hP 0 mg_0 rfl 3 (by decide) lk2 (fun _ h9 => h9) rfl dX7_form_73 ?_
          refine lv_aload_n hx hb dX7_form_76 rfl (lv_at hl 1 rfl) ?_
          refine va_get (C := RX7) (T := TX7) (N := 22) hx hb hts n7 hown hK hP 0 mg_0 rfl 4 (by decide) lk1 (fun _ h9 => h9) rfl dX7_form_77 ?_
          refine lv_iload_n hx hb dX7_form_80 rfl (lv_at hl 3 rfl) ?_
          refine va_iast hx hb hK hP (cD hwd) hS 2 0 (mg_a ⟨by decide, by decide, by decide⟩) rfl h.1 dX7_form_81 (fun H locs hP _ hS => ?_)
          replace hP := mu_a hwd ⟨by decide, by decide, by decide⟩ hP
          obtain ⟨u35, eu35⟩ : ∃ y : St, y = su u34 2 (u34 0 2).toNatClampNeg a2 := ⟨_, rfl⟩
          rw [← eu35] at hP
          replace h := h.2 u35 eu35
          refine lv_aload_n hx hb dX7_form_82 rfl (lv_at hl 1 rfl) ?_
          refine lv_dup hx hb dX7_form_83 rfl ?_
          refine va_get (C := RX7) (T := TX7) (N := 22) hx hb hts n7 hown hK hP 0 mg_0 rfl 4 (by decide) lk1 (fun _ h9 => h9) rfl dX7_form_84 ?_
          refine lv_iconst (v := 1) hx hb dX7_form_87 (by decide) ?_
          refine lv_iadd hx hb dX7_form_88 ?_
          refine va_put (C := RX7) (T := TX7) (N := 22) (ty := .int) (v := .int ((u35 0 2) + 1)) hx hb hts n7 tyX7 tyX7_ok nmX7 hown hK hP (cD hwd) hS 0 mg_0 rfl 4 (by decide) lk1 (fun _ h9 => h9) rfl (by decide +kernel) rfl rfl (Nat.le_of_ble_eq_true rfl) dX7_form_89 (fun H locs hP _ hS => ?_)
          replace hP := mu_forms hwd hP
          obtain ⟨u36, eu36⟩ : ∃ y : St, y = su u35 0 2 ((u35 0 2) + 1) := ⟨_, rfl⟩
          rw [← eu36] at hP
          replace h := h u36 eu36
          refine lv_aload_n hx hb dX7_form_92 rfl (lv_at hl 1 rfl) ?_
          refine va_get (C := RX7) (T := TX7) (N := 22) hx hb hts n7 hown hK hP 0 mg_0 rfl 4 (by decide) lk1 (fun _ h9 => h9) rfl dX7_form_93 ?_
          refine lv_iconst (v := 1) hx hb dX7_form_96 (by decide) ?_
          refine lv_isub hx hb dX7_form_97 ?_
          exact W.iret (v := ((u36 0 2) - 1)) hx hb hr (fun t ht hW => ⟨⟨_, _, rfl, h, by show va_P _ _ _ t.heap; rw [ht]; exact hP⟩, hS.F ht⟩) hS.2.2 dX7_form_98
        · replace h := h.2 c33
          refine lv_iconst (v := 0) hx hb dX7_form_60 (by decide) ?_
          exact W.iret (v := 0) hx hb hr (fun t ht hW => ⟨⟨_, _, rfl, h, by show va_P _ _ _ t.heap; rw [ht]; exact hP⟩, hS.F ht⟩) hS.2.2 dX7_form_61
set_option maxRecDepth 100000 in
set_option maxHeartbeats 4000000 in
theorem c_X7_form {l : Launch} {D : va_G} {cI cG cZ cJ : ClassId} {ts : Nat × Nat} {ad : Nat → Nat} (hwd : WD mLs ad) (sz : Nat) (u : St) (a1 : Int32) (a2 : Int32) (Q : Int32 → St → Prop) (h : f_X7_form a1 a2 u Q) : Met l yX7_form wsX7_form ({ frames := 2, cells := 0, slots := 0, locals := 43 }) (va_Pc [.ref (ad 0), .int a1, .int a2] (PM D cI cG cZ cJ ts ad sz u)) (va_Qi Q (fun u9 t => va_P D vwCl (mW cI cZ ad u9) t.heap) (cA mLs ad sz)) 0 0 (cA mLs ad sz) := by
  refine Met.ofW (cc := cX7_form) (maxL := 4) (ret := (some .int)) (by decide) rfl ?_
  intro p e s m args below meth c s₁ B hml hv
  obtain ⟨rfl, hsz, hP, hC⟩ := hv
  subst hsz
  have X : FX RX7 wsX7_form cX7_form 4 (some .int) D cI cG cZ cJ ts mLs ad p s m _ meth c := ⟨B.exec, B.bytes, hml, findClass_of_methodNamed B.named, atoms_spec (ws := wsX7_form) B.pre, B.returns, B.notSynchronized, hwd, hC⟩
  have hl := lv_entry ([.ref (ad 0), .int a1, .int a2]) (n := 4) (Nat.le_of_ble_eq_true rfl)
  rw [lg_entry_eq]
  generalize (lg_sl ([.ref (ad 0), .int a1, .int a2]) ++ List.replicate (4 - (lg_sl ([.ref (ad 0), .int a1, .int a2])).length) Slot.unset).toArray = ls at hl ⊢
  exact w_X7_form X a1 a2 Q u _ _ _ h hP va_S.rf hl
set_option maxRecDepth 100000 in
set_option maxHeartbeats 4000000 in
theorem w_X7_valueAt_L38 {p : Program} {l : Launch} {e : Env} {s : State} {m : MethodId} {args : Array Value} {below : List Frame} {meth : Method} {c : Code} {D : va_G} {cI cG cZ cJ : ClassId} {ts : Nat × Nat}  {ad : Nat → Nat}  (X : FX RX7 wsX7_valueAt cX7_valueAt 9 (some .int) D cI cG cZ cJ ts mLs ad p s m args meth c) (a1 : Int32) (a2 : Int32) (a3 : Int32) (a4 : Int32) (a5 : Int32) (a6 : Int32) (Q : Int32 → St → Prop)
    (K0 : Int32 → St → Prop) (hk0 : ∀ (b7 : Int32) (u : St) (H : Heap) (locs : List Loc) (ls : Array Slot), K0 b7 u → va_P D vwCl (mW cI cZ ad u) H → va_S (cA mLs ad s.heap.size) s.heap H locs → lv_has ls 9 [(0, .ref (ad 0)), (1, .int a1), (2, .int a2), (3, .int a3), (4, .int a4), (5, .int a5), (6, .int a6), (7, .int b7)] → W p l e (headSpec wsX7_valueAt { frames := 2, cells := 0, slots := 0, locals := 45 }).room s m args below meth c H locs 0 0 (MQ below (va_Qi Q (fun u9 t => va_P D vwCl (mW cI cZ ad u9) t.heap) (cA mLs ad s.heap.size)) args s 0 0 (cA mLs ad s.heap.size)) (F0 m 72 ls []))
    : ∀ (n : Nat) (a7 : Int32) (a8 : Int32) (u : St) (H : Heap) (locs : List Loc) (ls : Array Slot), f_X7_valueAt_L38 a1 a2 a3 a4 a5 a6 Q K0 n a7 a8 u → va_P D vwCl (mW cI cZ ad u) H → va_S (cA mLs ad s.heap.size) s.heap H locs → lv_has ls 9 [(0, .ref (ad 0)), (1, .int a1), (2, .int a2), (3, .int a3), (4, .int a4), (5, .int a5), (6, .int a6), (7, .int a7), (8, .int a8)] → W p l e (headSpec wsX7_valueAt { frames := 2, cells := 0, slots := 0, locals := 45 }).room s m args below meth c H locs 0 0 (MQ below (va_Qi Q (fun u9 t => va_P D vwCl (mW cI cZ ad u9) t.heap) (cA mLs ad s.heap.size)) args s 0 0 (cA mLs ad s.heap.size)) (F0 m 38 ls []) := by
  obtain ⟨hx, hb, hml, hown, hts, hr, hlocks, hwd, hC⟩ := id X
  have hK := hC.1
  have lk0 := hts (.fieldLink RX7 13 "FormForgeModel" "degree" "[I") (by decide +kernel)
  have lk1 := hts (.fieldLink RX7 17 "FormForgeModel" "code" "[I") (by decide +kernel)
  have n7 : ∀ w ∈ wsX70, w ∈ wsX7_valueAt := by decide +kernel
  intro n
  induction n with
  | zero =>
    intro a7 a8 u H locs ls h; exact h.elim
  | succ n ih =>
    intro a7 a8 u H locs ls h hP hS hl
    replace h : f_X7_valueAt_L38_s a1 a2 a3 a4 a5 a6 Q K0 (f_X7_valueAt_L38 a1 a2 a3 a4 a5 a6 Q K0 n) a7 a8 u := h
    unfold f_X7_valueAt_L38_s at h
    refine lv_iload hx hb dX7_valueAt_38 (lv_at hl 8 rfl) ?_
    refine lv_iload hx hb dX7_valueAt_40 (lv_at hl 4 rfl) ?_
    refine lv_icmp_ge (tgt := 72) hx hb dX7_valueAt_42 (by decide) (fun c6 => ?_) (fun c6 => ?_)
    · replace h := h.1 c6
      exact hk0 a7 _ _ _ _ h hP hS (lv_sub hl [0, 1, 2, 3, 4, 5, 6, 7] rfl)
    · replace h := h.2 c6
      refine lv_aload_n hx hb dX7_valueAt_45 rfl (lv_at hl 0 rfl) ?_
      refine lv_iload hx hb dX7_valueAt_46 (lv_at hl 7 rfl) ?_
      refine lv_iload hx hb dX7_valueAt_48 (lv_at hl 8 rfl) ?_
      refine lv_iload hx hb dX7_valueAt_50 (lv_at hl 6 rfl) ?_
      refine lv_icmp_ge (tgt := 59) hx hb dX7_valueAt_52 (by decide) (fun c7 => ?_) (fun c7 => ?_)
      · replace h := h.1 c7
        refine lv_iload_n hx hb dX7_valueAt_59 rfl (lv_at hl 2 rfl) ?_
        refine lv_imul hx hb dX7_valueAt_60 ?_
        refine cc_i (va_runV (C := RX7) (As := [.int (a7 * a2)]) (rest := []) ⟨hx, hb, hml, hown, hts⟩ (c_X7_mod hwd H.size u (a7 * a2) _ h) (cwV 1 hts gX7_valueAt_X7_mod rfl rfl rfl (by decide +kernel) ⟨Nat.le_of_ble_eq_true rfl, Nat.le_of_ble_eq_true rfl⟩) (pmV hC hP hS mg_0 rfl) rfl rfl hl.1 rfl (lv_room (Nat.le_of_ble_eq_true rfl)) dX7_valueAt_61 ⟨Nat.zero_le _, Nat.zero_le _⟩) hS (cA_mono hS.1) (fun v8 u9 H locs h hP hS => ?_)
        refine lv_istore (lv' := [(7, .int v8), (0, .ref (ad 0)), (1, .int a1), (2, .int a2), (3, .int a3), (4, .int a4), (5, .int a5), (6, .int a6), (8, .int a8)]) hx hb dX7_valueAt_64 hl (by decide) rfl (fun ls hl => ?_)
        obtain ⟨v10, ev10⟩ : ∃ y : Int32, y = a8 + 1 := ⟨_, rfl⟩
        refine lv_iinc (v := v10) (lv' := [(8, .int v10), (7, .int v8), (0, .ref (ad 0)), (1, .int a1), (2, .int a2), (3, .int a3), (4, .int a4), (5, .int a5), (6, .int a6)]) hx hb dX7_valueAt_66 hl (k := 8) rfl (by rw [ev10]; rfl) (by decide) rfl (fun ls hl => ?_)
        replace h := h v10 ev10
        refine lv_goto (tgt := 38) hx hb dX7_valueAt_69 (by decide) ?_
        exact ih v8 v10 _ _ _ _ h hP hS (lv_sub hl [2, 3, 4, 5, 6, 7, 8, 1, 0] rfl)
      · replace h := h.2 c7
        refine lv_iload_n hx hb dX7_valueAt_55 rfl (lv_at hl 3 rfl) ?_
        refine lv_goto (tgt := 60) hx hb dX7_valueAt_56 (by decide) ?_
        refine lv_imul hx hb dX7_valueAt_60 ?_
        refine cc_i (va_runV (C := RX7) (As := [.int (a7 * a3)]) (rest := []) ⟨hx, hb, hml, hown, hts⟩ (c_X7_mod hwd H.size u (a7 * a3) _ h) (cwV 1 hts gX7_valueAt_X7_mod rfl rfl rfl (by decide +kernel) ⟨Nat.le_of_ble_eq_true rfl, Nat.le_of_ble_eq_true rfl⟩) (pmV hC hP hS mg_0 rfl) rfl rfl hl.1 rfl (lv_room (Nat.le_of_ble_eq_true rfl)) dX7_valueAt_61 ⟨Nat.zero_le _, Nat.zero_le _⟩) hS (cA_mono hS.1) (fun v11 u12 H locs h hP hS => ?_)
        refine lv_istore (lv' := [(7, .int v11), (0, .ref (ad 0)), (1, .int a1), (2, .int a2), (3, .int a3), (4, .int a4), (5, .int a5), (6, .int a6), (8, .int a8)]) hx hb dX7_valueAt_64 hl (by decide) rfl (fun ls hl => ?_)
        obtain ⟨v13, ev13⟩ : ∃ y : Int32, y = a8 + 1 := ⟨_, rfl⟩
        refine lv_iinc (v := v13) (lv' := [(8, .int v13), (7, .int v11), (0, .ref (ad 0)), (1, .int a1), (2, .int a2), (3, .int a3), (4, .int a4), (5, .int a5), (6, .int a6)]) hx hb dX7_valueAt_66 hl (k := 8) rfl (by rw [ev13]; rfl) (by decide) rfl (fun ls hl => ?_)
        replace h := h v13 ev13
        refine lv_goto (tgt := 38) hx hb dX7_valueAt_69 (by decide) ?_
        exact ih v11 v13 _ _ _ _ h hP hS (lv_sub hl [2, 3, 4, 5, 6, 7, 8, 1, 0] rfl)
set_option maxRecDepth 100000 in
set_option maxHeartbeats 4000000 in
theorem w_X7_valueAt_L14 {p : Program} {l : Launch} {e : Env} {s : State} {m : MethodId} {args : Array Value} {below : List Frame} {meth : Method} {c : Code} {D : va_G} {cI cG cZ cJ : ClassId} {ts : Nat × Nat}  {ad : Nat → Nat}  (X : FX RX7 wsX7_valueAt cX7_valueAt 9 (some .int) D cI cG cZ cJ ts mLs ad p s m args meth c) (a1 : Int32) (a2 : Int32) (a3 : Int32) (a4 : Int32) (Q : Int32 → St → Prop)
    (K0 : Int32 → St → Prop) (hk0 : ∀ (b5 : Int32) (u : St) (H : Heap) (locs : List Loc) (ls : Array Slot), K0 b5 u → va_P D vwCl (mW cI cZ ad u) H → va_S (cA mLs ad s.heap.size) s.heap H locs → lv_has ls 9 [(0, .ref (ad 0)), (5, .int b5)] → W p l e (headSpec wsX7_valueAt { frames := 2, cells := 0, slots := 0, locals := 45 }).room s m args below meth c H locs 0 0 (MQ below (va_Qi Q (fun u9 t => va_P D vwCl (mW cI cZ ad u9) t.heap) (cA mLs ad s.heap.size)) args s 0 0 (cA mLs ad s.heap.size)) (F0 m 85 ls []))
    : ∀ (n : Nat) (a5 : Int32) (a6 : Int32) (u : St) (H : Heap) (locs : List Loc) (ls : Array Slot), f_X7_valueAt_L14 a1 a2 a3 a4 Q K0 n a5 a6 u → va_P D vwCl (mW cI cZ ad u) H → va_S (cA mLs ad s.heap.size) s.heap H locs → lv_has ls 9 [(0, .ref (ad 0)), (1, .int a1), (2, .int a2), (3, .int a3), (4, .int a4), (5, .int a5), (6, .int a6)] → W p l e (headSpec wsX7_valueAt { frames := 2, cells := 0, slots := 0, locals := 45 }).room s m args below meth c H locs 0 0 (MQ below (va_Qi Q (fun u9 t => va_P D vwCl (mW cI cZ ad u9) t.heap) (cA mLs ad s.heap.size)) args s 0 0 (cA mLs ad s.heap.size)) (F0 m 14 ls []) := by
  obtain ⟨hx, hb, hml, hown, hts, hr, hlocks, hwd, hC⟩ := id X
  have hK := hC.1
  have lk0 := hts (.fieldLink RX7 13 "FormForgeModel" "degree" "[I") (by decide +kernel)
  have lk1 := hts (.fieldLink RX7 17 "FormForgeModel" "code" "[I") (by decide +kernel)
  have n7 : ∀ w ∈ wsX70, w ∈ wsX7_valueAt := by decide +kernel
  intro n
  induction n with
  | zero =>
    intro a5 a6 u H locs ls h; exact h.elim
  | succ n ih =>
    intro a5 a6 u H locs ls h hP hS hl
    replace h : f_X7_valueAt_L14_s a1 a2 a3 a4 Q K0 (f_X7_valueAt_L14 a1 a2 a3 a4 Q K0 n) a5 a6 u := h
    unfold f_X7_valueAt_L14_s at h
    refine lv_iload hx hb dX7_valueAt_14 (lv_at hl 6 rfl) ?_
    refine lv_iload hx hb dX7_valueAt_16 (lv_at hl 4 rfl) ?_
    refine lv_icmp_gt (tgt := 85) hx hb dX7_valueAt_18 (by decide) (fun c2 => ?_) (fun c2 => ?_)
    · replace h := h.1 c2
      exact hk0 a5 _ _ _ _ h hP hS (lv_sub hl [0, 5] rfl)
    · replace h := h.2 c2
      refine lv_aload_n hx hb dX7_valueAt_21 rfl (lv_at hl 0 rfl) ?_
      refine lv_aload_n hx hb dX7_valueAt_22 rfl (lv_at hl 0 rfl) ?_
      refine va_get (C := RX7) (T := TX7) (N := 22) hx hb hts n7 hown hK hP 0 mg_0 rfl 3 (by decide) lk1 (fun _ h9 => h9) rfl dX7_valueAt_23 ?_
      refine lv_iload_n hx hb dX7_valueAt_26 rfl (lv_at hl 1 rfl) ?_
      refine va_iald hx hb hK hP 2 0 (mg_a ⟨by decide, by decide, by decide⟩) rfl h.1 dX7_valueAt_27 ?_
      refine lv_topi (fun v3 ev3 => ?_)
      replace h := h.2 v3 ev3
      refine lv_iload hx hb dX7_valueAt_28 (lv_at hl 6 rfl) ?_
      refine cc_i (va_runV (C := RX7) (As := [.int v3, .int a6]) (rest := []) ⟨hx, hb, hml, hown, hts⟩ (c_X7_figure hwd H.size u v3 a6 _ h) (cwV 2 hts gX7_valueAt_X7_figure rfl rfl rfl (by decide +kernel) ⟨Nat.le_of_ble_eq_true rfl, Nat.le_of_ble_eq_true rfl⟩) (pmV hC hP hS mg_0 rfl) rfl rfl hl.1 rfl (lv_room (Nat.le_of_ble_eq_true rfl)) dX7_valueAt_30 ⟨Nat.zero_le _, Nat.zero_le _⟩) hS (cA_mono hS.1) (fun v4 u5 H locs h hP hS => ?_)
      refine lv_istore (lv' := [(7, .int v4), (0, .ref (ad 0)), (1, .int a1), (2, .int a2), (3, .int a3), (4, .int a4), (5, .int a5), (6, .int a6)]) hx hb dX7_valueAt_33 hl (by decide) rfl (fun ls hl => ?_)
      refine lv_iconst (v := 0) hx hb dX7_valueAt_35 (by decide) ?_
      refine lv_istore (lv' := [(8, .int 0), (7, .int v4), (0, .ref (ad 0)), (1, .int a1), (2, .int a2), (3, .int a3), (4, .int a4), (5, .int a5), (6, .int a6)]) hx hb dX7_valueAt_36 hl (by decide) rfl (fun ls hl => ?_)
      obtain ⟨n14, h⟩ := h
      refine w_X7_valueAt_L38 X a1 a2 a3 a4 a5 a6 _ _ (fun v15 u16 H locs ls h hP hS hl => ?_) n14 v4 0 _ _ _ _ h hP hS (lv_sub hl [2, 3, 4, 5, 6, 7, 8, 1, 0] rfl)
      refine lv_iload hx hb dX7_valueAt_72 (lv_at hl 5 rfl) ?_
      refine lv_iload hx hb dX7_valueAt_74 (lv_at hl 7 rfl) ?_
      refine lv_iadd hx hb dX7_valueAt_76 ?_
      refine lv_topi (fun v17 ev17 => ?_)
      replace h := h v17 ev17
      refine lv_istore (lv' := [(5, .int v17), (0, .ref (ad 0)), (1, .int a1), (2, .int a2), (3, .int a3), (4, .int a4), (6, .int a6), (7, .int v15)]) hx hb dX7_valueAt_77 hl (by decide) rfl (fun ls hl => ?_)
      obtain ⟨v18, ev18⟩ : ∃ y : Int32, y = a6 + 1 := ⟨_, rfl⟩
      refine lv_iinc (v := v18) (lv' := [(6, .int v18), (5, .int v17), (0, .ref (ad 0)), (1, .int a1), (2, .int a2), (3, .int a3), (4, .int a4), (7, .int v15)]) hx hb dX7_valueAt_79 hl (k := 6) rfl (by rw [ev18]; rfl) (by decide) rfl (fun ls hl => ?_)
      replace h := h v18 ev18
      refine lv_goto (tgt := 14) hx hb dX7_valueAt_82 (by decide) ?_
      exact ih v17 v18 _ _ _ _ h hP hS (lv_sub hl [2, 3, 4, 5, 6, 1, 0] rfl)
set_option maxRecDepth 100000 in
set_option maxHeartbeats 4000000 in
theorem w_X7_valueAt {p : Program} {l : Launch} {e : Env} {s : State} {m : MethodId} {args : Array Value} {below : List Frame} {meth : Method} {c : Code} {D : va_G} {cI cG cZ cJ : ClassId} {ts : Nat × Nat}  {ad : Nat → Nat}  (X : FX RX7 wsX7_valueAt cX7_valueAt 9 (some .int) D cI cG cZ cJ ts mLs ad p s m args meth c) (a1 : Int32) (a2 : Int32) (a3 : Int32) (Q : Int32 → St → Prop) (u : St) (H : Heap) (locs : List Loc) (ls : Array Slot) (h : f_X7_valueAt a1 a2 a3 u Q) (hP : va_P D vwCl (mW cI cZ ad u) H) (hS : va_S (cA mLs ad s.heap.size) s.heap H locs) (hl : lv_has ls 9 [(0, .ref (ad 0)), (1, .int a1), (2, .int a2), (3, .int a3)]) : W p l e (headSpec wsX7_valueAt { frames := 2, cells := 0, slots := 0, locals := 45 }).room s m args below meth c H locs 0 0 (MQ below (va_Qi Q (fun u9 t => va_P D vwCl (mW cI cZ ad u9) t.heap) (cA mLs ad s.heap.size)) args s 0 0 (cA mLs ad s.heap.size)) (F0 m 0 ls []) := by
  obtain ⟨hx, hb, hml, hown, hts, hr, hlocks, hwd, hC⟩ := id X
  have hK := hC.1
  have lk0 := hts (.fieldLink RX7 13 "FormForgeModel" "degree" "[I") (by decide +kernel)
  have lk1 := hts (.fieldLink RX7 17 "FormForgeModel" "code" "[I") (by decide +kernel)
  have n7 : ∀ w ∈ wsX70, w ∈ wsX7_valueAt := by decide +kernel
  unfold f_X7_valueAt at h
  refine lv_aload_n hx hb dX7_valueAt_0 rfl (lv_at hl 0 rfl) ?_
  refine va_get (C := RX7) (T := TX7) (N := 22) hx hb hts n7 hown hK hP 0 mg_0 rfl 2 (by decide) lk0 (fun _ h9 => h9) rfl dX7_valueAt_1 ?_
  refine lv_iload_n hx hb dX7_valueAt_4 rfl (lv_at hl 1 rfl) ?_
  refine va_iald hx hb hK hP 1 0 (mg_a ⟨by decide, by decide, by decide⟩) rfl h.1 dX7_valueAt_5 ?_
  refine lv_topi (fun v1 ev1 => ?_)
  replace h := h.2 v1 ev1
  refine lv_istore (lv' := [(4, .int v1), (0, .ref (ad 0)), (1, .int a1), (2, .int a2), (3, .int a3)]) hx hb dX7_valueAt_6 hl (by decide) rfl (fun ls hl => ?_)
  refine lv_iconst (v := 0) hx hb dX7_valueAt_8 (by decide) ?_
  refine lv_istore (lv' := [(5, .int 0), (4, .int v1), (0, .ref (ad 0)), (1, .int a1), (2, .int a2), (3, .int a3)]) hx hb dX7_valueAt_9 hl (by decide) rfl (fun ls hl => ?_)
  refine lv_iconst (v := 0) hx hb dX7_valueAt_11 (by decide) ?_
  refine lv_istore (lv' := [(6, .int 0), (5, .int 0), (4, .int v1), (0, .ref (ad 0)), (1, .int a1), (2, .int a2), (3, .int a3)]) hx hb dX7_valueAt_12 hl (by decide) rfl (fun ls hl => ?_)
  obtain ⟨n19, h⟩ := h
  refine w_X7_valueAt_L14 X a1 a2 a3 v1 _ _ (fun v20 u21 H locs ls h hP hS hl => ?_) n19 0 0 _ _ _ _ h hP hS (lv_sub hl [3, 4, 5, 6, 2, 1, 0] rfl)
  refine lv_aload_n hx hb dX7_valueAt_85 rfl (lv_at hl 0 rfl) ?_
  refine lv_iload hx hb dX7_valueAt_86 (lv_at hl 1 rfl) ?_
  refine cc_i (va_runV (C := RX7) (As := [.int v20]) (rest := []) ⟨hx, hb, hml, hown, hts⟩ (c_X7_mod hwd H.size u21 v20 _ h) (cwV 1 hts gX7_valueAt_X7_mod rfl rfl rfl (by decide +kernel) ⟨Nat.le_of_ble_eq_true rfl, Nat.le_of_ble_eq_true rfl⟩) (pmV hC hP hS mg_0 rfl) rfl rfl hl.1 rfl (lv_room (Nat.le_of_ble_eq_true rfl)) dX7_valueAt_88 ⟨Nat.zero_le _, Nat.zero_le _⟩) hS (cA_mono hS.1) (fun v22 u23 H locs h hP hS => ?_)
  exact W.iret (v := v22) hx hb hr (fun t ht hW => ⟨⟨_, _, rfl, h, by show va_P _ _ _ t.heap; rw [ht]; exact hP⟩, hS.F ht⟩) hS.2.2 dX7_valueAt_91
set_option maxRecDepth 100000 in
set_option maxHeartbeats 4000000 in
theorem c_X7_valueAt {l : Launch} {D : va_G} {cI cG cZ cJ : ClassId} {ts : Nat × Nat} {ad : Nat → Nat} (hwd : WD mLs ad) (sz : Nat) (u : St) (a1 : Int32) (a2 : Int32) (a3 : Int32) (Q : Int32 → St → Prop) (h : f_X7_valueAt a1 a2 a3 u Q) : Met l yX7_valueAt wsX7_valueAt ({ frames := 2, cells := 0, slots := 0, locals := 45 }) (va_Pc [.ref (ad 0), .int a1, .int a2, .int a3] (PM D cI cG cZ cJ ts ad sz u)) (va_Qi Q (fun u9 t => va_P D vwCl (mW cI cZ ad u9) t.heap) (cA mLs ad sz)) 0 0 (cA mLs ad sz) := by
  refine Met.ofW (cc := cX7_valueAt) (maxL := 9) (ret := (some .int)) (by decide) rfl ?_
  intro p e s m args below meth c s₁ B hml hv
  obtain ⟨rfl, hsz, hP, hC⟩ := hv
  subst hsz
  have X : FX RX7 wsX7_valueAt cX7_valueAt 9 (some .int) D cI cG cZ cJ ts mLs ad p s m _ meth c := ⟨B.exec, B.bytes, hml, findClass_of_methodNamed B.named, atoms_spec (ws := wsX7_valueAt) B.pre, B.returns, B.notSynchronized, hwd, hC⟩
  have hl := lv_entry ([.ref (ad 0), .int a1, .int a2, .int a3]) (n := 9) (Nat.le_of_ble_eq_true rfl)
  rw [lg_entry_eq]
  generalize (lg_sl ([.ref (ad 0), .int a1, .int a2, .int a3]) ++ List.replicate (9 - (lg_sl ([.ref (ad 0), .int a1, .int a2, .int a3])).length) Slot.unset).toArray = ls at hl ⊢
  exact w_X7_valueAt X a1 a2 a3 Q u _ _ _ h hP va_S.rf hl
set_option maxRecDepth 100000 in
set_option maxHeartbeats 4000000 in
theorem w_X7_at {p : Program} {l : Launch} {e : Env} {s : State} {m : MethodId} {args : Array Value} {below : List Frame} {meth : Method} {c : Code} {D : va_G} {cI cG cZ cJ : ClassId} {ts : Nat × Nat}  {ad : Nat → Nat}  (X : FX RX7 wsX7_at cX7_at 5 (some .int) D cI cG cZ cJ ts mLs ad p s m args meth c) (a1 : Int32) (a2 : Int32) (a3 : Int32) (Q : Int32 → St → Prop) (u : St) (H : Heap) (locs : List Loc) (ls : Array Slot) (h : f_X7_at a1 a2 a3 u Q) (hP : va_P D vwCl (mW cI cZ ad u) H) (hS : va_S (cA mLs ad s.heap.size) s.heap H locs) (hl : lv_has ls 5 [(0, .ref (ad 0)), (1, .int a1), (2, .int a2), (3, .int a3)]) : W p l e (headSpec wsX7_at { frames := 3, cells := 0, slots := 0, locals := 73 }).room s m args below meth c H locs 0 0 (MQ below (va_Qi Q (fun u9 t => va_P D vwCl (mW cI cZ ad u9) t.heap) (cA mLs ad s.heap.size)) args s 0 0 (cA mLs ad s.heap.size)) (F0 m 0 ls []) := by
  obtain ⟨hx, hb, hml, hown, hts, hr, hlocks, hwd, hC⟩ := id X
  have hK := hC.1
  unfold f_X7_at at h
  refine lv_aload_n hx hb dX7_at_0 rfl (lv_at hl 0 rfl) ?_
  refine lv_iload_n hx hb dX7_at_1 rfl (lv_at hl 1 rfl) ?_
  refine cc_i (va_runV (C := RX7) (As := [.int a1]) (rest := []) ⟨hx, hb, hml, hown, hts⟩ (c_X7_isForm hwd H.size u a1 _ h) (cwV 1 hts gX7_at_X7_isForm rfl rfl rfl (by decide +kernel) ⟨Nat.le_of_ble_eq_true rfl, Nat.le_of_ble_eq_true rfl⟩) (pmV hC hP hS mg_0 rfl) rfl rfl hl.1 rfl (lv_room (Nat.le_of_ble_eq_true rfl)) dX7_at_2 ⟨Nat.zero_le _, Nat.zero_le _⟩) hS (cA_mono hS.1) (fun v1 u2 H locs h hP hS => ?_)
  refine lv_istore (lv' := [(4, .int v1), (0, .ref (ad 0)), (1, .int a1), (2, .int a2), (3, .int a3)]) hx hb dX7_at_5 hl (by decide) rfl (fun ls hl => ?_)
  refine lv_aload_n hx hb dX7_at_7 rfl (lv_at hl 1 rfl) ?_
  refine lv_iload hx hb dX7_at_8 (lv_at hl 0 rfl) ?_
  refine lv_if_ne (tgt := 17) hx hb dX7_at_10 (by decide) (fun c3 => ?_) (fun c3 => ?_)
  · replace h := h.1 c3
    refine lv_aload_n hx hb dX7_at_17 rfl (lv_at hl 1 rfl) ?_
    refine lv_iload_n hx hb dX7_at_18 rfl (lv_at hl 3 rfl) ?_
    refine cc_i (va_runV (C := RX7) (As := [.int a2]) (rest := [.ref (ad 0)]) ⟨hx, hb, hml, hown, hts⟩ (c_X7_isNumber hwd H.size u2 a2 _ h) (cwV 1 hts gX7_at_X7_isNumber rfl rfl rfl (by decide +kernel) ⟨Nat.le_of_ble_eq_true rfl, Nat.le_of_ble_eq_true rfl⟩) (pmV hC hP hS mg_0 rfl) rfl rfl hl.1 rfl (lv_room (Nat.le_of_ble_eq_true rfl)) dX7_at_19 ⟨Nat.zero_le _, Nat.zero_le _⟩) hS (cA_mono hS.1) (fun v4 u5 H locs h hP hS => ?_)
    refine lv_if_eq (tgt := 33) hx hb dX7_at_22 (by decide) (fun c6 => ?_) (fun c6 => ?_)
    · replace h := h.1 c6
      refine lv_iconst (v := 2) hx hb dX7_at_33 (by decide) ?_
      refine lv_goto (tgt := 38) hx hb dX7_at_34 (by decide) ?_
      refine cc_i (va_runV (C := RX7) (As := [.int 2]) (rest := []) ⟨hx, hb, hml, hown, hts⟩ (c_X7_holds hwd H.size u5 2 _ h) (cwV 1 hts gX7_at_X7_holds rfl rfl rfl (by decide +kernel) ⟨Nat.le_of_ble_eq_true rfl, Nat.le_of_ble_eq_true rfl⟩) (pmV hC hP hS mg_0 rfl) rfl rfl hl.1 rfl (lv_room (Nat.le_of_ble_eq_true rfl)) dX7_at_38 ⟨Nat.zero_le _, Nat.zero_le _⟩) hS (cA_mono hS.1) (fun v7 u8 H locs h hP hS => ?_)
      refine lv_if_eq (tgt := 54) hx hb dX7_at_41 (by decide) (fun c9 => ?_) (fun c9 => ?_)
      · replace h := h.1 c9
        refine lv_iconst (v := 0) hx hb dX7_at_54 (by decide) ?_
        exact W.iret (v := 0) hx hb hr (fun t ht hW => ⟨⟨_, _, rfl, h, by show va_P _ _ _ t.heap; rw [ht]; exact hP⟩, hS.F ht⟩) hS.2.2 dX7_at_55
      · replace h := h.2 c9
        refine lv_aload_n hx hb dX7_at_44 rfl (lv_at hl 1 rfl) ?_
        refine lv_iload_n hx hb dX7_at_45 rfl (lv_at hl 2 rfl) ?_
        refine lv_iload_n hx hb dX7_at_46 rfl (lv_at hl 3 rfl) ?_
        refine lv_iload_n hx hb dX7_at_47 rfl (lv_at hl 4 rfl) ?_
        refine cc_i (va_runV (C := RX7) (As := [.int a1, .int a2, .int a3]) (rest := []) ⟨hx, hb, hml, hown, hts⟩ (c_X7_valueAt hwd H.size u8 a1 a2 a3 _ h) (cwV 3 hts gX7_at_X7_valueAt rfl rfl rfl (by decide +kernel) ⟨Nat.le_of_ble_eq_true rfl, Nat.le_of_ble_eq_true rfl⟩) (pmV hC hP hS mg_0 rfl) rfl rfl hl.1 rfl (lv_room (Nat.le_of_ble_eq_true rfl)) dX7_at_48 ⟨Nat.zero_le _, Nat.zero_le _⟩) hS (cA_mono hS.1) (fun v10 u11 H locs h hP hS => ?_)
        refine lv_goto (tgt := 55) hx hb dX7_at_51 (by decide) ?_
        exact W.iret (v := v10) hx hb hr (fun t ht hW => ⟨⟨_, _, rfl, h, by show va_P _ _ _ t.heap; rw [ht]; exact hP⟩, hS.F ht⟩) hS.2.2 dX7_at_55
    · replace h := h.2 c6
      refine lv_aload_n hx hb dX7_at_25 rfl (lv_at hl 1 rfl) ?_
      refine lv_iload_n hx hb dX7_at_26 rfl (lv_at hl 4 rfl) ?_
      refine cc_i (va_runV (C := RX7) (As := [.int a3]) (rest := [.ref (ad 0)]) ⟨hx, hb, hml, hown, hts⟩ (c_X7_isNumber hwd H.size u5 a3 _ h) (cwV 1 hts gX7_at_X7_isNumber rfl rfl rfl (by decide +kernel) ⟨Nat.le_of_ble_eq_true rfl, Nat.le_of_ble_eq_true rfl⟩) (pmV hC hP hS mg_0 rfl) rfl rfl hl.1 rfl (lv_room (Nat.le_of_ble_eq_true rfl)) dX7_at_27 ⟨Nat.zero_le _, Nat.zero_le _⟩) hS (cA_mono hS.1) (fun v12 u13 H locs h hP hS => ?_)
      refine lv_if_ne (tgt := 37) hx hb dX7_at_30 (by decide) (fun c14 => ?_) (fun c14 => ?_)
      · replace h := h.1 c14
        refine lv_iconst (v := 0) hx hb dX7_at_37 (by decide) ?_
        refine cc_i (va_runV (C := RX7) (As := [.int 0]) (rest := []) ⟨hx, hb, hml, hown, hts⟩ (c_X7_holds hwd H.size u13 0 _ h) (cwV 1 hts gX7_at_X7_holds rfl rfl rfl (by decide +kernel) ⟨Nat.le_of_ble_eq_true rfl, Nat.le_of_ble_eq_true rfl⟩) (pmV hC hP hS mg_0 rfl) rfl rfl hl.1 rfl (lv_room (Nat.le_of_ble_eq_true rfl)) dX7_at_38 ⟨Nat.zero_le _, Nat.zero_le _⟩) hS (cA_mono hS.1) (fun v15 u16 H locs h hP hS => ?_)
        refine lv_if_eq (tgt := 54) hx hb dX7_at_41 (by decide) (fun c17 => ?_) (fun c17 => ?_)
        · replace h := h.1 c17
          refine lv_iconst (v := 0) hx hb dX7_at_54 (by decide) ?_
          exact W.iret (v := 0) hx hb hr (fun t ht hW => ⟨⟨_, _, rfl, h, by show va_P _ _ _ t.heap; rw [ht]; exact hP⟩, hS.F ht⟩) hS.2.2 dX7_at_55
        · replace h := h.2 c17
          refine lv_aload_n hx hb dX7_at_44 rfl (lv_at hl 1 rfl) ?_
          refine lv_iload_n hx hb dX7_at_45 rfl (lv_at hl 2 rfl) ?_
          refine lv_iload_n hx hb dX7_at_46 rfl (lv_at hl 3 rfl) ?_
          refine lv_iload_n hx hb dX7_at_47 rfl (lv_at hl 4 rfl) ?_
          refine cc_i (va_runV (C := RX7) (As := [.int a1, .int a2, .int a3]) (rest := []) ⟨hx, hb, hml, hown, hts⟩ (c_X7_valueAt hwd H.size u16 a1 a2 a3 _ h) (cwV 3 hts gX7_at_X7_valueAt rfl rfl rfl (by decide +kernel) ⟨Nat.le_of_ble_eq_true rfl, Nat.le_of_ble_eq_true rfl⟩) (pmV hC hP hS mg_0 rfl) rfl rfl hl.1 rfl (lv_room (Nat.le_of_ble_eq_true rfl)) dX7_at_48 ⟨Nat.zero_le _, Nat.zero_le _⟩) hS (cA_mono hS.1) (fun v18 u19 H locs h hP hS => ?_)
          refine lv_goto (tgt := 55) hx hb dX7_at_51 (by decide) ?_
          exact W.iret (v := v18) hx hb hr (fun t ht hW => ⟨⟨_, _, rfl, h, by show va_P _ _ _ t.heap; rw [ht]; exact hP⟩, hS.F ht⟩) hS.2.2 dX7_at_55
      · replace h := h.2 c14
        refine lv_iconst (v := 2) hx hb dX7_at_33 (by decide) ?_
        refine lv_goto (tgt := 38) hx hb dX7_at_34 (by decide) ?_
        refine cc_i (va_runV (C := RX7) (As := [.int 2]) (rest := []) ⟨hx, hb, hml, hown, hts⟩ (c_X7_holds hwd H.size u13 2 _ h) (cwV 1 hts gX7_at_X7_holds rfl rfl rfl (by decide +kernel) ⟨Nat.le_of_ble_eq_true rfl, Nat.le_of_ble_eq_true rfl⟩) (pmV hC hP hS mg_0 rfl) rfl rfl hl.1 rfl (lv_room (Nat.le_of_ble_eq_true rfl)) dX7_at_38 ⟨Nat.zero_le _, Nat.zero_le _⟩) hS (cA_mono hS.1) (fun v20 u21 H locs h hP hS => ?_)
        refine lv_if_eq (tgt := 54) hx hb dX7_at_41 (by decide) (fun c22 => ?_) (fun c22 => ?_)
        · replace h := h.1 c22
          refine lv_iconst (v := 0) hx hb dX7_at_54 (by decide) ?_
          exact W.iret (v := 0) hx hb hr (fun t ht hW => ⟨⟨_, _, rfl, h, by show va_P _ _ _ t.heap; rw [ht]; exact hP⟩, hS.F ht⟩) hS.2.2 dX7_at_55
        · replace h := h.2 c22
          refine lv_aload_n hx hb dX7_at_44 rfl (lv_at hl 1 rfl) ?_
          refine lv_iload_n hx hb dX7_at_45 rfl (lv_at hl 2 rfl) ?_
          refine lv_iload_n hx hb dX7_at_46 rfl (lv_at hl 3 rfl) ?_
          refine lv_iload_n hx hb dX7_at_47 rfl (lv_at hl 4 rfl) ?_
          refine cc_i (va_runV (C := RX7) (As := [.int a1, .int a2, .int a3]) (rest := []) ⟨hx, hb, hml, hown, hts⟩ (c_X7_valueAt hwd H.size u21 a1 a2 a3 _ h) (cwV 3 hts gX7_at_X7_valueAt rfl rfl rfl (by decide +kernel) ⟨Nat.le_of_ble_eq_true rfl, Nat.le_of_ble_eq_true rfl⟩) (pmV hC hP hS mg_0 rfl) rfl rfl hl.1 rfl (lv_room (Nat.le_of_ble_eq_true rfl)) dX7_at_48 ⟨Nat.zero_le _, Nat.zero_le _⟩) hS (cA_mono hS.1) (fun v23 u24 H locs h hP hS => ?_)
          refine lv_goto (tgt := 55) hx hb dX7_at_51 (by decide) ?_
          exact W.iret (v := v23) hx hb hr (fun t ht hW => ⟨⟨_, _, rfl, h, by show va_P _ _ _ t.heap; rw [ht]; exact hP⟩, hS.F ht⟩) hS.2.2 dX7_at_55
  · replace h := h.2 c3
    refine lv_iconst (v := 1) hx hb dX7_at_13 (by decide) ?_
    refine lv_goto (tgt := 38) hx hb dX7_at_14 (by decide) ?_
    refine cc_i (va_runV (C := RX7) (As := [.int 1]) (rest := []) ⟨hx, hb, hml, hown, hts⟩ (c_X7_holds hwd H.size u2 1 _ h) (cwV 1 hts gX7_at_X7_holds rfl rfl rfl (by decide +kernel) ⟨Nat.le_of_ble_eq_true rfl, Nat.le_of_ble_eq_true rfl⟩) (pmV hC hP hS mg_0 rfl) rfl rfl hl.1 rfl (lv_room (Nat.le_of_ble_eq_true rfl)) dX7_at_38 ⟨Nat.zero_le _, Nat.zero_le _⟩) hS (cA_mono hS.1) (fun v25 u26 H locs h hP hS => ?_)
    refine lv_if_eq (tgt := 54) hx hb dX7_at_41 (by decide) (fun c27 => ?_) (fun c27 => ?_)
    · replace h := h.1 c27
      refine lv_iconst (v := 0) hx hb dX7_at_54 (by decide) ?_
      exact W.iret (v := 0) hx hb hr (fun t ht hW => ⟨⟨_, _, rfl, h, by show va_P _ _ _ t.heap; rw [ht]; exact hP⟩, hS.F ht⟩) hS.2.2 dX7_at_55
    · replace h := h.2 c27
      refine lv_aload_n hx hb dX7_at_44 rfl (lv_at hl 1 rfl) ?_
      refine lv_iload_n hx hb dX7_at_45 rfl (lv_at hl 2 rfl) ?_
      refine lv_iload_n hx hb dX7_at_46 rfl (lv_at hl 3 rfl) ?_
      refine lv_iload_n hx hb dX7_at_47 rfl (lv_at hl 4 rfl) ?_
      refine cc_i (va_runV (C := RX7) (As := [.int a1, .int a2, .int a3]) (rest := []) ⟨hx, hb, hml, hown, hts⟩ (c_X7_valueAt hwd H.size u26 a1 a2 a3 _ h) (cwV 3 hts gX7_at_X7_valueAt rfl rfl rfl (by decide +kernel) ⟨Nat.le_of_ble_eq_true rfl, Nat.le_of_ble_eq_true rfl⟩) (pmV hC hP hS mg_0 rfl) rfl rfl hl.1 rfl (lv_room (Nat.le_of_ble_eq_true rfl)) dX7_at_48 ⟨Nat.zero_le _, Nat.zero_le _⟩) hS (cA_mono hS.1) (fun v28 u29 H locs h hP hS => ?_)
      refine lv_goto (tgt := 55) hx hb dX7_at_51 (by decide) ?_
      exact W.iret (v := v28) hx hb hr (fun t ht hW => ⟨⟨_, _, rfl, h, by show va_P _ _ _ t.heap; rw [ht]; exact hP⟩, hS.F ht⟩) hS.2.2 dX7_at_55
set_option maxRecDepth 100000 in
set_option maxHeartbeats 4000000 in
theorem c_X7_at {l : Launch} {D : va_G} {cI cG cZ cJ : ClassId} {ts : Nat × Nat} {ad : Nat → Nat} (hwd : WD mLs ad) (sz : Nat) (u : St) (a1 : Int32) (a2 : Int32) (a3 : Int32) (Q : Int32 → St → Prop) (h : f_X7_at a1 a2 a3 u Q) : Met l yX7_at wsX7_at ({ frames := 3, cells := 0, slots := 0, locals := 73 }) (va_Pc [.ref (ad 0), .int a1, .int a2, .int a3] (PM D cI cG cZ cJ ts ad sz u)) (va_Qi Q (fun u9 t => va_P D vwCl (mW cI cZ ad u9) t.heap) (cA mLs ad sz)) 0 0 (cA mLs ad sz) := by
  refine Met.ofW (cc := cX7_at) (maxL := 5) (ret := (some .int)) (by decide) rfl ?_
  intro p e s m args below meth c s₁ B hml hv
  obtain ⟨rfl, hsz, hP, hC⟩ := hv
  subst hsz
  have X : FX RX7 wsX7_at cX7_at 5 (some .int) D cI cG cZ cJ ts mLs ad p s m _ meth c := ⟨B.exec, B.bytes, hml, findClass_of_methodNamed B.named, atoms_spec (ws := wsX7_at) B.pre, B.returns, B.notSynchronized, hwd, hC⟩
  have hl := lv_entry ([.ref (ad 0), .int a1, .int a2, .int a3]) (n := 5) (Nat.le_of_ble_eq_true rfl)
  rw [lg_entry_eq]
  generalize (lg_sl ([.ref (ad 0), .int a1, .int a2, .int a3]) ++ List.replicate (5 - (lg_sl ([.ref (ad 0), .int a1, .int a2, .int a3])).length) Slot.unset).toArray = ls at hl ⊢
  exact w_X7_at X a1 a2 a3 Q u _ _ _ h hP va_S.rf hl
set_option maxRecDepth 100000 in
set_option maxHeartbeats 4000000 in
theorem w_X7_oftenAt_L23 {p : Program} {l : Launch} {e : Env} {s : State} {m : MethodId} {args : Array Value} {below : List Frame} {meth : Method} {c : Code} {D : va_G} {cI cG cZ cJ : ClassId} {ts : Nat × Nat}  {ad : Nat → Nat}  (X : FX RX7 wsX7_oftenAt cX7_oftenAt 8 (some .int) D cI cG cZ cJ ts mLs ad p s m args meth c) (a1 : Int32) (a2 : Int32) (a3 : Int32) (Q : Int32 → St → Prop)
    (K0 : St → Prop) (hk0 : ∀ (u : St) (H : Heap) (locs : List Loc) (ls : Array Slot), K0 u → va_P D vwCl (mW cI cZ ad u) H → va_S (cA mLs ad s.heap.size) s.heap H locs → lv_has ls 8 [(0, .ref (ad 0)), (2, .int a2), (3, .int a3)] → W p l e (headSpec wsX7_oftenAt { frames := 2, cells := 0, slots := 0, locals := 45 }).room s m args below meth c H locs 0 0 (MQ below (va_Qi Q (fun u9 t => va_P D vwCl (mW cI cZ ad u9) t.heap) (cA mLs ad s.heap.size)) args s 0 0 (cA mLs ad s.heap.size)) (F0 m 54 ls []))
    : ∀ (n : Nat) (a4 : Int32) (u : St) (H : Heap) (locs : List Loc) (ls : Array Slot), f_X7_oftenAt_L23 a1 a2 a3 Q K0 n a4 u → va_P D vwCl (mW cI cZ ad u) H → va_S (cA mLs ad s.heap.size) s.heap H locs → lv_has ls 8 [(0, .ref (ad 0)), (1, .int a1), (2, .int a2), (3, .int a3), (4, .int a4)] → W p l e (headSpec wsX7_oftenAt { frames := 2, cells := 0, slots := 0, locals := 45 }).room s m args below meth c H locs 0 0 (MQ below (va_Qi Q (fun u9 t => va_P D vwCl (mW cI cZ ad u9) t.heap) (cA mLs ad s.heap.size)) args s 0 0 (cA mLs ad s.heap.size)) (F0 m 23 ls []) := by
  obtain ⟨hx, hb, hml, hown, hts, hr, hlocks, hwd, hC⟩ := id X
  have hK := hC.1
  have lk0 := hts (.fieldLink RX7 13 "FormForgeModel" "degree" "[I") (by decide +kernel)
  have lk1 := hts (.fieldLink RX7 17 "FormForgeModel" "code" "[I") (by decide +kernel)
  have lk2 := hts (.fieldLink RX7 36 "FormForgeModel" "one" "[I") (by decide +kernel)
  have lk3 := hts (.fieldLink RX7 7 "FormForgeModel" "p" "I") (by decide +kernel)
  have n7 : ∀ w ∈ wsX70, w ∈ wsX7_oftenAt := by decide +kernel
  intro n
  induction n with
  | zero =>
    intro a4 u H locs ls h; exact h.elim
  | succ n ih =>
    intro a4 u H locs ls h hP hS hl
    replace h : f_X7_oftenAt_L23_s a1 a2 a3 Q K0 (f_X7_oftenAt_L23 a1 a2 a3 Q K0 n) a4 u := h
    unfold f_X7_oftenAt_L23_s at h
    refine lv_iload hx hb dX7_oftenAt_23 (lv_at hl 4 rfl) ?_
    refine lv_iload_n hx hb dX7_oftenAt_25 rfl (lv_at hl 3 rfl) ?_
    refine lv_icmp_gt (tgt := 54) hx hb dX7_oftenAt_26 (by decide) (fun c4 => ?_) (fun c4 => ?_)
    · replace h := h.1 c4
      exact hk0  _ _ _ _ h hP hS (lv_sub hl [0, 2, 3] rfl)
    · replace h := h.2 c4
      refine lv_aload_n hx hb dX7_oftenAt_29 rfl (lv_at hl 0 rfl) ?_
      refine va_get (C := RX7) (T := TX7) (N := 22) hx hb hts n7 hown hK hP 0 mg_0 rfl 13 (by decide) lk2 (fun _ h9 => h9) rfl dX7_oftenAt_30 ?_
      refine lv_iload hx hb dX7_oftenAt_33 (lv_at hl 4 rfl) ?_
      refine lv_aload_n hx hb dX7_oftenAt_35 rfl (lv_at hl 0 rfl) ?_
      refine lv_aload_n hx hb dX7_oftenAt_36 rfl (lv_at hl 0 rfl) ?_
      refine va_get (C := RX7) (T := TX7) (N := 22) hx hb hts n7 hown hK hP 0 mg_0 rfl 3 (by decide) lk1 (fun _ h9 => h9) rfl dX7_oftenAt_37 ?_
      refine lv_iload_n hx hb dX7_oftenAt_40 rfl (lv_at hl 1 rfl) ?_
      refine va_iald hx hb hK hP 2 0 (mg_a ⟨by decide, by decide, by decide⟩) rfl h.1 dX7_oftenAt_41 ?_
      refine lv_topi (fun v5 ev5 => ?_)
      replace h := h.2 v5 ev5
      refine lv_iload hx hb dX7_oftenAt_42 (lv_at hl 4 rfl) ?_
      refine cc_i (va_runV (C := RX7) (As := [.int v5, .int a4]) (rest := [.int a4, .ref (ad 8)]) ⟨hx, hb, hml, hown, hts⟩ (c_X7_figure hwd H.size u v5 a4 _ h) (cwV 2 hts gX7_oftenAt_X7_figure rfl rfl rfl (by decide +kernel) ⟨Nat.le_of_ble_eq_true rfl, Nat.le_of_ble_eq_true rfl⟩) (pmV hC hP hS mg_0 rfl) rfl rfl hl.1 rfl (lv_room (Nat.le_of_ble_eq_true rfl)) dX7_oftenAt_44 ⟨Nat.zero_le _, Nat.zero_le _⟩) hS (cA_mono hS.1) (fun v6 u7 H locs h hP hS => ?_)
      refine va_iast hx hb hK hP (cD hwd) hS 8 0 (mg_a ⟨by decide, by decide, by decide⟩) rfl h.1 dX7_oftenAt_47 (fun H locs hP _ hS => ?_)
      replace hP := mu_a hwd ⟨by decide, by decide, by decide⟩ hP
      obtain ⟨u8, eu8⟩ : ∃ y : St, y = su u7 8 a4.toNatClampNeg v6 := ⟨_, rfl⟩
      rw [← eu8] at hP
      replace h := h.2 u8 eu8
      obtain ⟨v9, ev9⟩ : ∃ y : Int32, y = a4 + 1 := ⟨_, rfl⟩
      refine lv_iinc (v := v9) (lv' := [(4, .int v9), (0, .ref (ad 0)), (1, .int a1), (2, .int a2), (3, .int a3)]) hx hb dX7_oftenAt_48 hl (k := 4) rfl (by rw [ev9]; rfl) (by decide) rfl (fun ls hl => ?_)
      replace h := h v9 ev9
      refine lv_goto (tgt := 23) hx hb dX7_oftenAt_51 (by decide) ?_
      exact ih v9 _ _ _ _ h hP hS (lv_sub hl [1, 2, 3, 4, 0] rfl)
set_option maxRecDepth 100000 in
set_option maxHeartbeats 4000000 in
theorem w_X7_oftenAt_L92 {p : Program} {l : Launch} {e : Env} {s : State} {m : MethodId} {args : Array Value} {below : List Frame} {meth : Method} {c : Code} {D : va_G} {cI cG cZ cJ : ClassId} {ts : Nat × Nat}  {ad : Nat → Nat}  (X : FX RX7 wsX7_oftenAt cX7_oftenAt 8 (some .int) D cI cG cZ cJ ts mLs ad p s m args meth c) (a2 : Int32) (a3 : Int32) (a4 : Int32) (Q : Int32 → St → Prop)
    (K0 : Int32 → St → Prop) (hk0 : ∀ (b6 : Int32) (u : St) (H : Heap) (locs : List Loc) (ls : Array Slot), K0 b6 u → va_P D vwCl (mW cI cZ ad u) H → va_S (cA mLs ad s.heap.size) s.heap H locs → lv_has ls 8 [(0, .ref (ad 0)), (2, .int a2), (3, .int a3), (4, .int a4), (6, .int b6)] → W p l e (headSpec wsX7_oftenAt { frames := 2, cells := 0, slots := 0, locals := 45 }).room s m args below meth c H locs 0 0 (MQ below (va_Qi Q (fun u9 t => va_P D vwCl (mW cI cZ ad u9) t.heap) (cA mLs ad s.heap.size)) args s 0 0 (cA mLs ad s.heap.size)) (F0 m 139 ls []))
    : ∀ (n : Nat) (a6 : Int32) (a7 : Int32) (u : St) (H : Heap) (locs : List Loc) (ls : Array Slot), f_X7_oftenAt_L92 a2 a3 a4 Q K0 n a6 a7 u → va_P D vwCl (mW cI cZ ad u) H → va_S (cA mLs ad s.heap.size) s.heap H locs → lv_has ls 8 [(0, .ref (ad 0)), (2, .int a2), (3, .int a3), (4, .int a4), (6, .int a6), (7, .int a7)] → W p l e (headSpec wsX7_oftenAt { frames := 2, cells := 0, slots := 0, locals := 45 }).room s m args below meth c H locs 0 0 (MQ below (va_Qi Q (fun u9 t => va_P D vwCl (mW cI cZ ad u9) t.heap) (cA mLs ad s.heap.size)) args s 0 0 (cA mLs ad s.heap.size)) (F0 m 92 ls []) := by
  obtain ⟨hx, hb, hml, hown, hts, hr, hlocks, hwd, hC⟩ := id X
  have hK := hC.1
  have lk0 := hts (.fieldLink RX7 13 "FormForgeModel" "degree" "[I") (by decide +kernel)
  have lk1 := hts (.fieldLink RX7 17 "FormForgeModel" "code" "[I") (by decide +kernel)
  have lk2 := hts (.fieldLink RX7 36 "FormForgeModel" "one" "[I") (by decide +kernel)
  have lk3 := hts (.fieldLink RX7 7 "FormForgeModel" "p" "I") (by decide +kernel)
  have n7 : ∀ w ∈ wsX70, w ∈ wsX7_oftenAt := by decide +kernel
  intro n
  induction n with
  | zero =>
    intro a6 a7 u H locs ls h; exact h.elim
  | succ n ih =>
    intro a6 a7 u H locs ls h hP hS hl
    replace h : f_X7_oftenAt_L92_s a2 a3 a4 Q K0 (f_X7_oftenAt_L92 a2 a3 a4 Q K0 n) a6 a7 u := h
    unfold f_X7_oftenAt_L92_s at h
    refine lv_iload hx hb dX7_oftenAt_92 (lv_at hl 5 rfl) ?_
    refine lv_iload_n hx hb dX7_oftenAt_94 rfl (lv_at hl 2 rfl) ?_
    refine lv_icmp_gt (tgt := 139) hx hb dX7_oftenAt_95 (by decide) (fun c15 => ?_) (fun c15 => ?_)
    · replace h := h.1 c15
      exact hk0 a6 _ _ _ _ h hP hS (lv_sub hl [0, 1, 2, 3, 4] rfl)
    · replace h := h.2 c15
      refine lv_iload_n hx hb dX7_oftenAt_98 rfl (lv_at hl 1 rfl) ?_
      refine lv_aload_n hx hb dX7_oftenAt_99 rfl (lv_at hl 0 rfl) ?_
      refine va_get (C := RX7) (T := TX7) (N := 22) hx hb hts n7 hown hK hP 0 mg_0 rfl 1 (by decide) lk3 (fun _ h9 => h9) rfl dX7_oftenAt_100 ?_
      refine lv_icmp_ge (tgt := 139) hx hb dX7_oftenAt_103 (by decide) (fun c16 => ?_) (fun c16 => ?_)
      · replace h := h.1 c16
        exact hk0 a6 _ _ _ _ h hP hS (lv_sub hl [0, 1, 2, 3, 4] rfl)
      · replace h := h.2 c16
        refine lv_aload_n hx hb dX7_oftenAt_106 rfl (lv_at hl 0 rfl) ?_
        refine lv_aload_n hx hb dX7_oftenAt_107 rfl (lv_at hl 0 rfl) ?_
        refine va_get (C := RX7) (T := TX7) (N := 22) hx hb hts n7 hown hK hP 0 mg_0 rfl 13 (by decide) lk2 (fun _ h9 => h9) rfl dX7_oftenAt_108 ?_
        refine lv_iload hx hb dX7_oftenAt_111 (lv_at hl 5 rfl) ?_
        refine va_iald hx hb hK hP 8 0 (mg_a ⟨by decide, by decide, by decide⟩) rfl h.1 dX7_oftenAt_113 ?_
        refine lv_topi (fun v17 ev17 => ?_)
        replace h := h.2 v17 ev17
        refine lv_iload_n hx hb dX7_oftenAt_114 rfl (lv_at hl 1 rfl) ?_
        refine lv_iload hx hb dX7_oftenAt_115 (lv_at hl 4 rfl) ?_
        refine lv_imul hx hb dX7_oftenAt_117 ?_
        refine lv_iadd hx hb dX7_oftenAt_118 ?_
        refine cc_i (va_runV (C := RX7) (As := [.int (v17 + (a2 * a6))]) (rest := []) ⟨hx, hb, hml, hown, hts⟩ (c_X7_mod hwd H.size u (v17 + (a2 * a6)) _ h) (cwV 1 hts gX7_oftenAt_X7_mod rfl rfl rfl (by decide +kernel) ⟨Nat.le_of_ble_eq_true rfl, Nat.le_of_ble_eq_true rfl⟩) (pmV hC hP hS mg_0 rfl) rfl rfl hl.1 rfl (lv_room (Nat.le_of_ble_eq_true rfl)) dX7_oftenAt_119 ⟨Nat.zero_le _, Nat.zero_le _⟩) hS (cA_mono hS.1) (fun v18 u19 H locs h hP hS => ?_)
        refine lv_istore (lv' := [(6, .int v18), (0, .ref (ad 0)), (2, .int a2), (3, .int a3), (4, .int a4), (7, .int a7)]) hx hb dX7_oftenAt_122 hl (by decide) rfl (fun ls hl => ?_)
        refine lv_aload_n hx hb dX7_oftenAt_124 rfl (lv_at hl 1 rfl) ?_
        refine va_get (C := RX7) (T := TX7) (N := 22) hx hb hts n7 hown hK hP 0 mg_0 rfl 13 (by decide) lk2 (fun _ h9 => h9) rfl dX7_oftenAt_125 ?_
        refine lv_iload hx hb dX7_oftenAt_128 (lv_at hl 5 rfl) ?_
        refine lv_iload hx hb dX7_oftenAt_130 (lv_at hl 0 rfl) ?_
        refine va_iast hx hb hK hP (cD hwd) hS 8 0 (mg_a ⟨by decide, by decide, by decide⟩) rfl h.1 dX7_oftenAt_132 (fun H locs hP _ hS => ?_)
        replace hP := mu_a hwd ⟨by decide, by decide, by decide⟩ hP
        obtain ⟨u20, eu20⟩ : ∃ y : St, y = su u19 8 a7.toNatClampNeg v18 := ⟨_, rfl⟩
        rw [← eu20] at hP
        replace h := h.2 u20 eu20
        obtain ⟨v21, ev21⟩ : ∃ y : Int32, y = a7 + 1 := ⟨_, rfl⟩
        refine lv_iinc (v := v21) (lv' := [(7, .int v21), (6, .int v18), (0, .ref (ad 0)), (2, .int a2), (3, .int a3), (4, .int a4)]) hx hb dX7_oftenAt_133 hl (k := 5) rfl (by rw [ev21]; rfl) (by decide) rfl (fun ls hl => ?_)
        replace h := h v21 ev21
        refine lv_goto (tgt := 92) hx hb dX7_oftenAt_136 (by decide) ?_
        exact ih v18 v21 _ _ _ _ h hP hS (lv_sub hl [2, 3, 4, 5, 1, 0] rfl)
set_option maxRecDepth 100000 in
set_option maxHeartbeats 4000000 in
theorem w_X7_oftenAt_L154 {p : Program} {l : Launch} {e : Env} {s : State} {m : MethodId} {args : Array Value} {below : List Frame} {meth : Method} {c : Code} {D : va_G} {cI cG cZ cJ : ClassId} {ts : Nat × Nat}  {ad : Nat → Nat}  (X : FX RX7 wsX7_oftenAt cX7_oftenAt 8 (some .int) D cI cG cZ cJ ts mLs ad p s m args meth c) (a2 : Int32) (a3 : Int32) (a4 : Int32) (a5 : Int32) (Q : Int32 → St → Prop)
    (K0 : St → Prop) (hk0 : ∀ (u : St) (H : Heap) (locs : List Loc) (ls : Array Slot), K0 u → va_P D vwCl (mW cI cZ ad u) H → va_S (cA mLs ad s.heap.size) s.heap H locs → lv_has ls 8 [(0, .ref (ad 0)), (2, .int a2), (3, .int a3), (4, .int a4), (5, .int a5)] → W p l e (headSpec wsX7_oftenAt { frames := 2, cells := 0, slots := 0, locals := 45 }).room s m args below meth c H locs 0 0 (MQ below (va_Qi Q (fun u9 t => va_P D vwCl (mW cI cZ ad u9) t.heap) (cA mLs ad s.heap.size)) args s 0 0 (cA mLs ad s.heap.size)) (F0 m 195 ls []))
    : ∀ (n : Nat) (a7 : Int32) (u : St) (H : Heap) (locs : List Loc) (ls : Array Slot), f_X7_oftenAt_L154 a2 a3 a4 a5 Q K0 n a7 u → va_P D vwCl (mW cI cZ ad u) H → va_S (cA mLs ad s.heap.size) s.heap H locs → lv_has ls 8 [(0, .ref (ad 0)), (2, .int a2), (3, .int a3), (4, .int a4), (5, .int a5), (7, .int a7)] → W p l e (headSpec wsX7_oftenAt { frames := 2, cells := 0, slots := 0, locals := 45 }).room s m args below meth c H locs 0 0 (MQ below (va_Qi Q (fun u9 t => va_P D vwCl (mW cI cZ ad u9) t.heap) (cA mLs ad s.heap.size)) args s 0 0 (cA mLs ad s.heap.size)) (F0 m 154 ls []) := by
  obtain ⟨hx, hb, hml, hown, hts, hr, hlocks, hwd, hC⟩ := id X
  have hK := hC.1
  have lk0 := hts (.fieldLink RX7 13 "FormForgeModel" "degree" "[I") (by decide +kernel)
  have lk1 := hts (.fieldLink RX7 17 "FormForgeModel" "code" "[I") (by decide +kernel)
  have lk2 := hts (.fieldLink RX7 36 "FormForgeModel" "one" "[I") (by decide +kernel)
  have lk3 := hts (.fieldLink RX7 7 "FormForgeModel" "p" "I") (by decide +kernel)
  have n7 : ∀ w ∈ wsX70, w ∈ wsX7_oftenAt := by decide +kernel
  intro n
  induction n with
  | zero =>
    intro a7 u H locs ls h; exact h.elim
  | succ n ih =>
    intro a7 u H locs ls h hP hS hl
    replace h : f_X7_oftenAt_L154_s a2 a3 a4 a5 Q K0 (f_X7_oftenAt_L154 a2 a3 a4 a5 Q K0 n) a7 u := h
    unfold f_X7_oftenAt_L154_s at h
    refine lv_iload hx hb dX7_oftenAt_154 (lv_at hl 5 rfl) ?_
    refine lv_iload_n hx hb dX7_oftenAt_156 rfl (lv_at hl 2 rfl) ?_
    refine lv_icmp_ge (tgt := 195) hx hb dX7_oftenAt_157 (by decide) (fun c26 => ?_) (fun c26 => ?_)
    · replace h := h.1 c26
      exact hk0  _ _ _ _ h hP hS (lv_sub hl [0, 1, 2, 3, 4] rfl)
    · replace h := h.2 c26
      refine lv_iload hx hb dX7_oftenAt_160 (lv_at hl 4 rfl) ?_
      refine lv_if_eq (tgt := 195) hx hb dX7_oftenAt_162 (by decide) (fun c27 => ?_) (fun c27 => ?_)
      · replace h := h.1 c27
        exact hk0  _ _ _ _ h hP hS (lv_sub hl [0, 1, 2, 3, 4] rfl)
      · replace h := h.2 c27
        refine lv_iload_n hx hb dX7_oftenAt_165 rfl (lv_at hl 1 rfl) ?_
        refine lv_aload_n hx hb dX7_oftenAt_166 rfl (lv_at hl 0 rfl) ?_
        refine va_get (C := RX7) (T := TX7) (N := 22) hx hb hts n7 hown hK hP 0 mg_0 rfl 1 (by decide) lk3 (fun _ h9 => h9) rfl dX7_oftenAt_167 ?_
        refine lv_icmp_ne (tgt := 195) hx hb dX7_oftenAt_170 (by decide) (fun c28 => ?_) (fun c28 => ?_)
        · replace h := h.1 c28
          exact hk0  _ _ _ _ h hP hS (lv_sub hl [0, 1, 2, 3, 4] rfl)
        · replace h := h.2 c28
          refine lv_aload_n hx hb dX7_oftenAt_173 rfl (lv_at hl 0 rfl) ?_
          refine va_get (C := RX7) (T := TX7) (N := 22) hx hb hts n7 hown hK hP 0 mg_0 rfl 13 (by decide) lk2 (fun _ h9 => h9) rfl dX7_oftenAt_174 ?_
          refine lv_iload hx hb dX7_oftenAt_177 (lv_at hl 5 rfl) ?_
          refine lv_aload_n hx hb dX7_oftenAt_179 rfl (lv_at hl 0 rfl) ?_
          refine va_get (C := RX7) (T := TX7) (N := 22) hx hb hts n7 hown hK hP 0 mg_0 rfl 13 (by decide) lk2 (fun _ h9 => h9) rfl dX7_oftenAt_180 ?_
          refine lv_iload hx hb dX7_oftenAt_183 (lv_at hl 5 rfl) ?_
          refine lv_iconst (v := 1) hx hb dX7_oftenAt_185 (by decide) ?_
          refine lv_iadd hx hb dX7_oftenAt_186 ?_
          refine va_iald hx hb hK hP 8 0 (mg_a ⟨by decide, by decide, by decide⟩) rfl h.1 dX7_oftenAt_187 ?_
          refine lv_topi (fun v29 ev29 => ?_)
          replace h := h.2 v29 ev29
          refine va_iast hx hb hK hP (cD hwd) hS 8 0 (mg_a ⟨by decide, by decide, by decide⟩) rfl h.1 dX7_oftenAt_188 (fun H locs hP _ hS => ?_)
          replace hP := mu_a hwd ⟨by decide, by decide, by decide⟩ hP
          obtain ⟨u30, eu30⟩ : ∃ y : St, y = su u 8 a7.toNatClampNeg v29 := ⟨_, rfl⟩
          rw [← eu30] at hP
          replace h := h.2 u30 eu30
          obtain ⟨v31, ev31⟩ : ∃ y : Int32, y = a7 + 1 := ⟨_, rfl⟩
          refine lv_iinc (v := v31) (lv' := [(7, .int v31), (0, .ref (ad 0)), (2, .int a2), (3, .int a3), (4, .int a4), (5, .int a5)]) hx hb dX7_oftenAt_189 hl (k := 5) rfl (by rw [ev31]; rfl) (by decide) rfl (fun ls hl => ?_)
          replace h := h v31 ev31
          refine lv_goto (tgt := 154) hx hb dX7_oftenAt_192 (by decide) ?_
          exact ih v31 _ _ _ _ h hP hS (lv_sub hl [1, 2, 3, 4, 5, 0] rfl)
set_option maxRecDepth 100000 in
set_option maxHeartbeats 4000000 in
theorem w_X7_oftenAt_L60 {p : Program} {l : Launch} {e : Env} {s : State} {m : MethodId} {args : Array Value} {below : List Frame} {meth : Method} {c : Code} {D : va_G} {cI cG cZ cJ : ClassId} {ts : Nat × Nat}  {ad : Nat → Nat}  (X : FX RX7 wsX7_oftenAt cX7_oftenAt 8 (some .int) D cI cG cZ cJ ts mLs ad p s m args meth c) (a2 : Int32) (Q : Int32 → St → Prop)
    (K0 : Int32 → St → Prop) (hk0 : ∀ (b4 : Int32) (u : St) (H : Heap) (locs : List Loc) (ls : Array Slot), K0 b4 u → va_P D vwCl (mW cI cZ ad u) H → va_S (cA mLs ad s.heap.size) s.heap H locs → lv_has ls 8 [(4, .int b4)] → W p l e (headSpec wsX7_oftenAt { frames := 2, cells := 0, slots := 0, locals := 45 }).room s m args below meth c H locs 0 0 (MQ below (va_Qi Q (fun u9 t => va_P D vwCl (mW cI cZ ad u9) t.heap) (cA mLs ad s.heap.size)) args s 0 0 (cA mLs ad s.heap.size)) (F0 m 216 ls []))
    : ∀ (n : Nat) (a3 : Int32) (a4 : Int32) (a5 : Int32) (u : St) (H : Heap) (locs : List Loc) (ls : Array Slot), f_X7_oftenAt_L60 a2 Q K0 n a3 a4 a5 u → va_P D vwCl (mW cI cZ ad u) H → va_S (cA mLs ad s.heap.size) s.heap H locs → lv_has ls 8 [(0, .ref (ad 0)), (2, .int a2), (3, .int a3), (4, .int a4), (5, .int a5)] → W p l e (headSpec wsX7_oftenAt { frames := 2, cells := 0, slots := 0, locals := 45 }).room s m args below meth c H locs 0 0 (MQ below (va_Qi Q (fun u9 t => va_P D vwCl (mW cI cZ ad u9) t.heap) (cA mLs ad s.heap.size)) args s 0 0 (cA mLs ad s.heap.size)) (F0 m 60 ls []) := by
  obtain ⟨hx, hb, hml, hown, hts, hr, hlocks, hwd, hC⟩ := id X
  have hK := hC.1
  have lk0 := hts (.fieldLink RX7 13 "FormForgeModel" "degree" "[I") (by decide +kernel)
  have lk1 := hts (.fieldLink RX7 17 "FormForgeModel" "code" "[I") (by decide +kernel)
  have lk2 := hts (.fieldLink RX7 36 "FormForgeModel" "one" "[I") (by decide +kernel)
  have lk3 := hts (.fieldLink RX7 7 "FormForgeModel" "p" "I") (by decide +kernel)
  have n7 : ∀ w ∈ wsX70, w ∈ wsX7_oftenAt := by decide +kernel
  intro n
  induction n with
  | zero =>
    intro a3 a4 a5 u H locs ls h; exact h.elim
  | succ n ih =>
    intro a3 a4 a5 u H locs ls h hP hS hl
    replace h : f_X7_oftenAt_L60_s a2 Q K0 (f_X7_oftenAt_L60 a2 Q K0 n) a3 a4 a5 u := h
    unfold f_X7_oftenAt_L60_s at h
    refine lv_iload hx hb dX7_oftenAt_60 (lv_at hl 4 rfl) ?_
    refine lv_if_eq (tgt := 216) hx hb dX7_oftenAt_62 (by decide) (fun c12 => ?_) (fun c12 => ?_)
    · replace h := h.1 c12
      exact hk0 a4 _ _ _ _ h hP hS (lv_sub hl [3] rfl)
    · replace h := h.2 c12
      refine lv_iload_n hx hb dX7_oftenAt_65 rfl (lv_at hl 2 rfl) ?_
      refine lv_if_lt (tgt := 216) hx hb dX7_oftenAt_66 (by decide) (fun c13 => ?_) (fun c13 => ?_)
      · replace h := h.1 c13
        exact hk0 a4 _ _ _ _ h hP hS (lv_sub hl [3] rfl)
      · replace h := h.2 c13
        refine lv_iload_n hx hb dX7_oftenAt_69 rfl (lv_at hl 1 rfl) ?_
        refine lv_aload_n hx hb dX7_oftenAt_70 rfl (lv_at hl 0 rfl) ?_
        refine va_get (C := RX7) (T := TX7) (N := 22) hx hb hts n7 hown hK hP 0 mg_0 rfl 1 (by decide) lk3 (fun _ h9 => h9) rfl dX7_oftenAt_71 ?_
        refine lv_icmp_ne (tgt := 86) hx hb dX7_oftenAt_74 (by decide) (fun c14 => ?_) (fun c14 => ?_)
        · replace h := h.1 c14
          refine lv_iconst (v := 0) hx hb dX7_oftenAt_86 (by decide) ?_
          refine lv_istore (lv' := [(6, .int 0), (0, .ref (ad 0)), (2, .int a2), (3, .int a3), (4, .int a4), (5, .int a5)]) hx hb dX7_oftenAt_87 hl (by decide) rfl (fun ls hl => ?_)
          refine lv_iconst (v := 0) hx hb dX7_oftenAt_89 (by decide) ?_
          refine lv_istore (lv' := [(7, .int 0), (6, .int 0), (0, .ref (ad 0)), (2, .int a2), (3, .int a3), (4, .int a4), (5, .int a5)]) hx hb dX7_oftenAt_90 hl (by decide) rfl (fun ls hl => ?_)
          obtain ⟨n22, h⟩ := h
          refine w_X7_oftenAt_L92 X a2 a3 a4 _ _ (fun v23 u24 H locs ls h hP hS hl => ?_) n22 0 0 _ _ _ _ h hP hS (lv_sub hl [2, 3, 4, 5, 1, 0] rfl)
          refine lv_iload hx hb dX7_oftenAt_139 (lv_at hl 4 rfl) ?_
          refine lv_if_ne (tgt := 148) hx hb dX7_oftenAt_141 (by decide) (fun c25 => ?_) (fun c25 => ?_)
          · replace h := h.1 c25
            refine lv_iconst (v := 0) hx hb dX7_oftenAt_148 (by decide) ?_
            refine lv_istore (lv' := [(5, .int 0), (0, .ref (ad 0)), (2, .int a2), (3, .int a3), (4, .int a4), (6, .int v23)]) hx hb dX7_oftenAt_149 hl (by decide) rfl (fun ls hl => ?_)
            refine lv_iconst (v := 0) hx hb dX7_oftenAt_151 (by decide) ?_
            refine lv_istore (lv' := [(7, .int 0), (5, .int 0), (0, .ref (ad 0)), (2, .int a2), (3, .int a3), (4, .int a4), (6, .int v23)]) hx hb dX7_oftenAt_152 hl (by decide) rfl (fun ls hl => ?_)
            obtain ⟨n32, h⟩ := h
            refine w_X7_oftenAt_L154 X a2 a3 a4 0 _ _ (fun u33 H locs ls h hP hS hl => ?_) n32 0 _ _ _ _ h hP hS (lv_sub hl [2, 3, 4, 5, 1, 0] rfl)
            refine lv_iload hx hb dX7_oftenAt_195 (lv_at hl 3 rfl) ?_
            refine lv_iload hx hb dX7_oftenAt_197 (lv_at hl 4 rfl) ?_
            refine lv_if_eq (tgt := 206) hx hb dX7_oftenAt_199 (by decide) (fun _ => ?_) (fun c34 => absurd c34 (by decide))
            refine lv_iconst (v := 0) hx hb dX7_oftenAt_206 (by decide) ?_
            refine lv_iadd hx hb dX7_oftenAt_207 ?_
            refine lv_topi (fun v35 ev35 => ?_)
            replace h := h v35 ev35
            refine lv_istore (lv' := [(4, .int v35), (0, .ref (ad 0)), (2, .int a2), (3, .int a3), (5, .int 0)]) hx hb dX7_oftenAt_208 hl (by decide) rfl (fun ls hl => ?_)
            obtain ⟨v36, ev36⟩ : ∃ y : Int32, y = a3 + (-1) := ⟨_, rfl⟩
            refine lv_iinc (v := v36) (lv' := [(3, .int v36), (4, .int v35), (0, .ref (ad 0)), (2, .int a2), (5, .int 0)]) hx hb dX7_oftenAt_210 hl (k := 3) rfl (by rw [ev36]; rfl) (by decide) rfl (fun ls hl => ?_)
            replace h := h v36 ev36
            refine lv_goto (tgt := 60) hx hb dX7_oftenAt_213 (by decide) ?_
            exact ih v36 v35 0 _ _ _ _ h hP hS (lv_sub hl [2, 3, 0, 1, 4] rfl)
          · replace h := h.2 c25
            refine lv_iconst (v := 1) hx hb dX7_oftenAt_144 (by decide) ?_
            refine lv_goto (tgt := 149) hx hb dX7_oftenAt_145 (by decide) ?_
            refine lv_istore (lv' := [(5, .int 1), (0, .ref (ad 0)), (2, .int a2), (3, .int a3), (4, .int a4), (6, .int v23)]) hx hb dX7_oftenAt_149 hl (by decide) rfl (fun ls hl => ?_)
            refine lv_iconst (v := 0) hx hb dX7_oftenAt_151 (by decide) ?_
            refine lv_istore (lv' := [(7, .int 0), (5, .int 1), (0, .ref (ad 0)), (2, .int a2), (3, .int a3), (4, .int a4), (6, .int v23)]) hx hb dX7_oftenAt_152 hl (by decide) rfl (fun ls hl => ?_)
            obtain ⟨n37, h⟩ := h
            refine w_X7_oftenAt_L154 X a2 a3 a4 1 _ _ (fun u38 H locs ls h hP hS hl => ?_) n37 0 _ _ _ _ h hP hS (lv_sub hl [2, 3, 4, 5, 1, 0] rfl)
            refine lv_iload hx hb dX7_oftenAt_195 (lv_at hl 3 rfl) ?_
            refine lv_iload hx hb dX7_oftenAt_197 (lv_at hl 4 rfl) ?_
            refine lv_if_eq (tgt := 206) hx hb dX7_oftenAt_199 (by decide) (fun c39 => absurd c39 (by decide)) (fun _ => ?_)
            refine lv_iconst (v := 1) hx hb dX7_oftenAt_202 (by decide) ?_
            refine lv_goto (tgt := 207) hx hb dX7_oftenAt_203 (by decide) ?_
            refine lv_iadd hx hb dX7_oftenAt_207 ?_
            refine lv_topi (fun v40 ev40 => ?_)
            replace h := h v40 ev40
            refine lv_istore (lv' := [(4, .int v40), (0, .ref (ad 0)), (2, .int a2), (3, .int a3), (5, .int 1)]) hx hb dX7_oftenAt_208 hl (by decide) rfl (fun ls hl => ?_)
            obtain ⟨v41, ev41⟩ : ∃ y : Int32, y = a3 + (-1) := ⟨_, rfl⟩
            refine lv_iinc (v := v41) (lv' := [(3, .int v41), (4, .int v40), (0, .ref (ad 0)), (2, .int a2), (5, .int 1)]) hx hb dX7_oftenAt_210 hl (k := 3) rfl (by rw [ev41]; rfl) (by decide) rfl (fun ls hl => ?_)
            replace h := h v41 ev41
            refine lv_goto (tgt := 60) hx hb dX7_oftenAt_213 (by decide) ?_
            exact ih v41 v40 1 _ _ _ _ h hP hS (lv_sub hl [2, 3, 0, 1, 4] rfl)
        · replace h := h.2 c14
          refine lv_aload_n hx hb dX7_oftenAt_77 rfl (lv_at hl 0 rfl) ?_
          refine va_get (C := RX7) (T := TX7) (N := 22) hx hb hts n7 hown hK hP 0 mg_0 rfl 13 (by decide) lk2 (fun _ h9 => h9) rfl dX7_oftenAt_78 ?_
          refine lv_iconst (v := 0) hx hb dX7_oftenAt_81 (by decide) ?_
          refine va_iald hx hb hK hP 8 0 (mg_a ⟨by decide, by decide, by decide⟩) rfl h.1 dX7_oftenAt_82 ?_
          refine lv_topi (fun v42 ev42 => ?_)
          replace h := h.2 v42 ev42
          refine lv_goto (tgt := 87) hx hb dX7_oftenAt_83 (by decide) ?_
          refine lv_istore (lv' := [(6, .int v42), (0, .ref (ad 0)), (2, .int a2), (3, .int a3), (4, .int a4), (5, .int a5)]) hx hb dX7_oftenAt_87 hl (by decide) rfl (fun ls hl => ?_)
          refine lv_iconst (v := 0) hx hb dX7_oftenAt_89 (by decide) ?_
          refine lv_istore (lv' := [(7, .int 0), (6, .int v42), (0, .ref (ad 0)), (2, .int a2), (3, .int a3), (4, .int a4), (5, .int a5)]) hx hb dX7_oftenAt_90 hl (by decide) rfl (fun ls hl => ?_)
          obtain ⟨n43, h⟩ := h
          refine w_X7_oftenAt_L92 X a2 a3 a4 _ _ (fun v44 u45 H locs ls h hP hS hl => ?_) n43 v42 0 _ _ _ _ h hP hS (lv_sub hl [2, 3, 4, 5, 1, 0] rfl)
          refine lv_iload hx hb dX7_oftenAt_139 (lv_at hl 4 rfl) ?_
          refine lv_if_ne (tgt := 148) hx hb dX7_oftenAt_141 (by decide) (fun c46 => ?_) (fun c46 => ?_)
          · replace h := h.1 c46
            refine lv_iconst (v := 0) hx hb dX7_oftenAt_148 (by decide) ?_
            refine lv_istore (lv' := [(5, .int 0), (0, .ref (ad 0)), (2, .int a2), (3, .int a3), (4, .int a4), (6, .int v44)]) hx hb dX7_oftenAt_149 hl (by decide) rfl (fun ls hl => ?_)
            refine lv_iconst (v := 0) hx hb dX7_oftenAt_151 (by decide) ?_
            refine lv_istore (lv' := [(7, .int 0), (5, .int 0), (0, .ref (ad 0)), (2, .int a2), (3, .int a3), (4, .int a4), (6, .int v44)]) hx hb dX7_oftenAt_152 hl (by decide) rfl (fun ls hl => ?_)
            obtain ⟨n47, h⟩ := h
            refine w_X7_oftenAt_L154 X a2 a3 a4 0 _ _ (fun u48 H locs ls h hP hS hl => ?_) n47 0 _ _ _ _ h hP hS (lv_sub hl [2, 3, 4, 5, 1, 0] rfl)
            refine lv_iload hx hb dX7_oftenAt_195 (lv_at hl 3 rfl) ?_
            refine lv_iload hx hb dX7_oftenAt_197 (lv_at hl 4 rfl) ?_
            refine lv_if_eq (tgt := 206) hx hb dX7_oftenAt_199 (by decide) (fun _ => ?_) (fun c49 => absurd c49 (by decide))
            refine lv_iconst (v := 0) hx hb dX7_oftenAt_206 (by decide) ?_
            refine lv_iadd hx hb dX7_oftenAt_207 ?_
            refine lv_topi (fun v50 ev50 => ?_)
            replace h := h v50 ev50
            refine lv_istore (lv' := [(4, .int v50), (0, .ref (ad 0)), (2, .int a2), (3, .int a3), (5, .int 0)]) hx hb dX7_oftenAt_208 hl (by decide) rfl (fun ls hl => ?_)
            obtain ⟨v51, ev51⟩ : ∃ y : Int32, y = a3 + (-1) := ⟨_, rfl⟩
            refine lv_iinc (v := v51) (lv' := [(3, .int v51), (4, .int v50), (0, .ref (ad 0)), (2, .int a2), (5, .int 0)]) hx hb dX7_oftenAt_210 hl (k := 3) rfl (by rw [ev51]; rfl) (by decide) rfl (fun ls hl => ?_)
            replace h := h v51 ev51
            refine lv_goto (tgt := 60) hx hb dX7_oftenAt_213 (by decide) ?_
            exact ih v51 v50 0 _ _ _ _ h hP hS (lv_sub hl [2, 3, 0, 1, 4] rfl)
          · replace h := h.2 c46
            refine lv_iconst (v := 1) hx hb dX7_oftenAt_144 (by decide) ?_
            refine lv_goto (tgt := 149) hx hb dX7_oftenAt_145 (by decide) ?_
            refine lv_istore (lv' := [(5, .int 1), (0, .ref (ad 0)), (2, .int a2), (3, .int a3), (4, .int a4), (6, .int v44)]) hx hb dX7_oftenAt_149 hl (by decide) rfl (fun ls hl => ?_)
            refine lv_iconst (v := 0) hx hb dX7_oftenAt_151 (by decide) ?_
            refine lv_istore (lv' := [(7, .int 0), (5, .int 1), (0, .ref (ad 0)), (2, .int a2), (3, .int a3), (4, .int a4), (6, .int v44)]) hx hb dX7_oftenAt_152 hl (by decide) rfl (fun ls hl => ?_)
            obtain ⟨n52, h⟩ := h
            refine w_X7_oftenAt_L154 X a2 a3 a4 1 _ _ (fun u53 H locs ls h hP hS hl => ?_) n52 0 _ _ _ _ h hP hS (lv_sub hl [2, 3, 4, 5, 1, 0] rfl)
            refine lv_iload hx hb dX7_oftenAt_195 (lv_at hl 3 rfl) ?_
            refine lv_iload hx hb dX7_oftenAt_197 (lv_at hl 4 rfl) ?_
            refine lv_if_eq (tgt := 206) hx hb dX7_oftenAt_199 (by decide) (fun c54 => absurd c54 (by decide)) (fun _ => ?_)
            refine lv_iconst (v := 1) hx hb dX7_oftenAt_202 (by decide) ?_
            refine lv_goto (tgt := 207) hx hb dX7_oftenAt_203 (by decide) ?_
            refine lv_iadd hx hb dX7_oftenAt_207 ?_
            refine lv_topi (fun v55 ev55 => ?_)
            replace h := h v55 ev55
            refine lv_istore (lv' := [(4, .int v55), (0, .ref (ad 0)), (2, .int a2), (3, .int a3), (5, .int 1)]) hx hb dX7_oftenAt_208 hl (by decide) rfl (fun ls hl => ?_)
            obtain ⟨v56, ev56⟩ : ∃ y : Int32, y = a3 + (-1) := ⟨_, rfl⟩
            refine lv_iinc (v := v56) (lv' := [(3, .int v56), (4, .int v55), (0, .ref (ad 0)), (2, .int a2), (5, .int 1)]) hx hb dX7_oftenAt_210 hl (k := 3) rfl (by rw [ev56]; rfl) (by decide) rfl (fun ls hl => ?_)
            replace h := h v56 ev56
            refine lv_goto (tgt := 60) hx hb dX7_oftenAt_213 (by decide) ?_
            exact ih v56 v55 1 _ _ _ _ h hP hS (lv_sub hl [2, 3, 0, 1, 4] rfl)
set_option maxRecDepth 100000 in
set_option maxHeartbeats 4000000 in
theorem w_X7_oftenAt {p : Program} {l : Launch} {e : Env} {s : State} {m : MethodId} {args : Array Value} {below : List Frame} {meth : Method} {c : Code} {D : va_G} {cI cG cZ cJ : ClassId} {ts : Nat × Nat}  {ad : Nat → Nat}  (X : FX RX7 wsX7_oftenAt cX7_oftenAt 8 (some .int) D cI cG cZ cJ ts mLs ad p s m args meth c) (a1 : Int32) (a2 : Int32) (Q : Int32 → St → Prop) (u : St) (H : Heap) (locs : List Loc) (ls : Array Slot) (h : f_X7_oftenAt a1 a2 u Q) (hP : va_P D vwCl (mW cI cZ ad u) H) (hS : va_S (cA mLs ad s.heap.size) s.heap H locs) (hl : lv_has ls 8 [(0, .ref (ad 0)), (1, .int a1), (2, .int a2)]) : W p l e (headSpec wsX7_oftenAt { frames := 2, cells := 0, slots := 0, locals := 45 }).room s m args below meth c H locs 0 0 (MQ below (va_Qi Q (fun u9 t => va_P D vwCl (mW cI cZ ad u9) t.heap) (cA mLs ad s.heap.size)) args s 0 0 (cA mLs ad s.heap.size)) (F0 m 0 ls []) := by
  obtain ⟨hx, hb, hml, hown, hts, hr, hlocks, hwd, hC⟩ := id X
  have hK := hC.1
  have lk0 := hts (.fieldLink RX7 13 "FormForgeModel" "degree" "[I") (by decide +kernel)
  have lk1 := hts (.fieldLink RX7 17 "FormForgeModel" "code" "[I") (by decide +kernel)
  have lk2 := hts (.fieldLink RX7 36 "FormForgeModel" "one" "[I") (by decide +kernel)
  have lk3 := hts (.fieldLink RX7 7 "FormForgeModel" "p" "I") (by decide +kernel)
  have n7 : ∀ w ∈ wsX70, w ∈ wsX7_oftenAt := by decide +kernel
  unfold f_X7_oftenAt at h
  refine lv_aload_n hx hb dX7_oftenAt_0 rfl (lv_at hl 0 rfl) ?_
  refine va_get (C := RX7) (T := TX7) (N := 22) hx hb hts n7 hown hK hP 0 mg_0 rfl 2 (by decide) lk0 (fun _ h9 => h9) rfl dX7_oftenAt_1 ?_
  refine lv_iload_n hx hb dX7_oftenAt_4 rfl (lv_at hl 1 rfl) ?_
  refine va_iald hx hb hK hP 1 0 (mg_a ⟨by decide, by decide, by decide⟩) rfl h.1 dX7_oftenAt_5 ?_
  refine lv_topi (fun v1 ev1 => ?_)
  replace h := h.2 v1 ev1
  refine lv_istore_n (lv' := [(3, .int v1), (0, .ref (ad 0)), (1, .int a1), (2, .int a2)]) hx hb dX7_oftenAt_6 rfl hl (by decide) rfl (fun ls hl => ?_)
  refine lv_aload_n hx hb dX7_oftenAt_7 rfl (lv_at hl 1 rfl) ?_
  refine va_get (C := RX7) (T := TX7) (N := 22) hx hb hts n7 hown hK hP 0 mg_0 rfl 3 (by decide) lk1 (fun _ h9 => h9) rfl dX7_oftenAt_8 ?_
  refine lv_iload_n hx hb dX7_oftenAt_11 rfl (lv_at hl 2 rfl) ?_
  refine va_iald hx hb hK hP 2 0 (mg_a ⟨by decide, by decide, by decide⟩) rfl h.1 dX7_oftenAt_12 ?_
  refine lv_topi (fun v2 ev2 => ?_)
  replace h := h.2 v2 ev2
  refine lv_if_ne (tgt := 20) hx hb dX7_oftenAt_13 (by decide) (fun c3 => ?_) (fun c3 => ?_)
  · replace h := h.1 c3
    refine lv_iconst (v := 0) hx hb dX7_oftenAt_20 (by decide) ?_
    refine lv_istore (lv' := [(4, .int 0), (3, .int v1), (0, .ref (ad 0)), (1, .int a1), (2, .int a2)]) hx hb dX7_oftenAt_21 hl (by decide) rfl (fun ls hl => ?_)
    obtain ⟨n10, h⟩ := h
    refine w_X7_oftenAt_L23 X a1 a2 v1 _ _ (fun u11 H locs ls h hP hS hl => ?_) n10 0 _ _ _ _ h hP hS (lv_sub hl [2, 3, 4, 1, 0] rfl)
    refine lv_iconst (v := 0) hx hb dX7_oftenAt_54 (by decide) ?_
    refine lv_istore (lv' := [(4, .int 0), (0, .ref (ad 0)), (2, .int a2), (3, .int v1)]) hx hb dX7_oftenAt_55 hl (by decide) rfl (fun ls hl => ?_)
    refine lv_iconst (v := 1) hx hb dX7_oftenAt_57 (by decide) ?_
    refine lv_istore (lv' := [(5, .int 1), (4, .int 0), (0, .ref (ad 0)), (2, .int a2), (3, .int v1)]) hx hb dX7_oftenAt_58 hl (by decide) rfl (fun ls hl => ?_)
    obtain ⟨n57, h⟩ := h
    refine w_X7_oftenAt_L60 X a2 _ _ (fun v58 u59 H locs ls h hP hS hl => ?_) n57 v1 0 1 _ _ _ _ h hP hS (lv_sub hl [2, 3, 4, 1, 0] rfl)
    refine lv_iload hx hb dX7_oftenAt_216 (lv_at hl 0 rfl) ?_
    exact W.iret (v := v58) hx hb hr (fun t ht hW => ⟨⟨_, _, rfl, h, by show va_P _ _ _ t.heap; rw [ht]; exact hP⟩, hS.F ht⟩) hS.2.2 dX7_oftenAt_218
  · replace h := h.2 c3
    refine lv_iload_n hx hb dX7_oftenAt_16 rfl (lv_at hl 0 rfl) ?_
    refine lv_iconst (v := 1) hx hb dX7_oftenAt_17 (by decide) ?_
    refine lv_iadd hx hb dX7_oftenAt_18 ?_
    exact W.iret (v := (v1 + 1)) hx hb hr (fun t ht hW => ⟨⟨_, _, rfl, h, by show va_P _ _ _ t.heap; rw [ht]; exact hP⟩, hS.F ht⟩) hS.2.2 dX7_oftenAt_19
set_option maxRecDepth 100000 in
set_option maxHeartbeats 4000000 in
theorem c_X7_oftenAt {l : Launch} {D : va_G} {cI cG cZ cJ : ClassId} {ts : Nat × Nat} {ad : Nat → Nat} (hwd : WD mLs ad) (sz : Nat) (u : St) (a1 : Int32) (a2 : Int32) (Q : Int32 → St → Prop) (h : f_X7_oftenAt a1 a2 u Q) : Met l yX7_oftenAt wsX7_oftenAt ({ frames := 2, cells := 0, slots := 0, locals := 45 }) (va_Pc [.ref (ad 0), .int a1, .int a2] (PM D cI cG cZ cJ ts ad sz u)) (va_Qi Q (fun u9 t => va_P D vwCl (mW cI cZ ad u9) t.heap) (cA mLs ad sz)) 0 0 (cA mLs ad sz) := by
  refine Met.ofW (cc := cX7_oftenAt) (maxL := 8) (ret := (some .int)) (by decide) rfl ?_
  intro p e s m args below meth c s₁ B hml hv
  obtain ⟨rfl, hsz, hP, hC⟩ := hv
  subst hsz
  have X : FX RX7 wsX7_oftenAt cX7_oftenAt 8 (some .int) D cI cG cZ cJ ts mLs ad p s m _ meth c := ⟨B.exec, B.bytes, hml, findClass_of_methodNamed B.named, atoms_spec (ws := wsX7_oftenAt) B.pre, B.returns, B.notSynchronized, hwd, hC⟩
  have hl := lv_entry ([.ref (ad 0), .int a1, .int a2]) (n := 8) (Nat.le_of_ble_eq_true rfl)
  rw [lg_entry_eq]
  generalize (lg_sl ([.ref (ad 0), .int a1, .int a2]) ++ List.replicate (8 - (lg_sl ([.ref (ad 0), .int a1, .int a2])).length) Slot.unset).toArray = ls at hl ⊢
  exact w_X7_oftenAt X a1 a2 Q u _ _ _ h hP va_S.rf hl
set_option maxRecDepth 100000 in
set_option maxHeartbeats 4000000 in
theorem w_X7_multiplicity {p : Program} {l : Launch} {e : Env} {s : State} {m : MethodId} {args : Array Value} {below : List Frame} {meth : Method} {c : Code} {D : va_G} {cI cG cZ cJ : ClassId} {ts : Nat × Nat}  {ad : Nat → Nat}  (X : FX RX7 wsX7_multiplicity cX7_multiplicity 3 (some .int) D cI cG cZ cJ ts mLs ad p s m args meth c) (a1 : Int32) (a2 : Int32) (Q : Int32 → St → Prop) (u : St) (H : Heap) (locs : List Loc) (ls : Array Slot) (h : f_X7_multiplicity a1 a2 u Q) (hP : va_P D vwCl (mW cI cZ ad u) H) (hS : va_S (cA mLs ad s.heap.size) s.heap H locs) (hl : lv_has ls 3 [(0, .ref (ad 0)), (1, .int a1), (2, .int a2)]) : W p l e (headSpec wsX7_multiplicity { frames := 3, cells := 0, slots := 0, locals := 72 }).room s m args below meth c H locs 0 0 (MQ below (va_Qi Q (fun u9 t => va_P D vwCl (mW cI cZ ad u9) t.heap) (cA mLs ad s.heap.size)) args s 0 0 (cA mLs ad s.heap.size)) (F0 m 0 ls []) := by
  obtain ⟨hx, hb, hml, hown, hts, hr, hlocks, hwd, hC⟩ := id X
  have hK := hC.1
  have lk0 := hts (.fieldLink RX7 7 "FormForgeModel" "p" "I") (by decide +kernel)
  have n7 : ∀ w ∈ wsX70, w ∈ wsX7_multiplicity := by decide +kernel
  unfold f_X7_multiplicity at h
  refine lv_aload_n hx hb dX7_multiplicity_0 rfl (lv_at hl 0 rfl) ?_
  refine lv_aload_n hx hb dX7_multiplicity_1 rfl (lv_at hl 0 rfl) ?_
  refine lv_iload_n hx hb dX7_multiplicity_2 rfl (lv_at hl 1 rfl) ?_
  refine cc_i (va_runV (C := RX7) (As := [.int a1]) (rest := [.ref (ad 0)]) ⟨hx, hb, hml, hown, hts⟩ (c_X7_isForm hwd H.size u a1 _ h) (cwV 1 hts gX7_multiplicity_X7_isForm rfl rfl rfl (by decide +kernel) ⟨Nat.le_of_ble_eq_true rfl, Nat.le_of_ble_eq_true rfl⟩) (pmV hC hP hS mg_0 rfl) rfl rfl hl.1 rfl (lv_room (Nat.le_of_ble_eq_true rfl)) dX7_multiplicity_3 ⟨Nat.zero_le _, Nat.zero_le _⟩) hS (cA_mono hS.1) (fun v1 u2 H locs h hP hS => ?_)
  refine lv_if_eq (tgt := 25) hx hb dX7_multiplicity_6 (by decide) (fun c3 => ?_) (fun c3 => ?_)
  · replace h := h.1 c3
    refine lv_iconst (v := 1) hx hb dX7_multiplicity_25 (by decide) ?_
    refine cc_i (va_runV (C := RX7) (As := [.int 1]) (rest := []) ⟨hx, hb, hml, hown, hts⟩ (c_X7_holds hwd H.size u2 1 _ h) (cwV 1 hts gX7_multiplicity_X7_holds rfl rfl rfl (by decide +kernel) ⟨Nat.le_of_ble_eq_true rfl, Nat.le_of_ble_eq_true rfl⟩) (pmV hC hP hS mg_0 rfl) rfl rfl hl.1 rfl (lv_room (Nat.le_of_ble_eq_true rfl)) dX7_multiplicity_26 ⟨Nat.zero_le _, Nat.zero_le _⟩) hS (cA_mono hS.1) (fun v4 u5 H locs h hP hS => ?_)
    refine lv_if_eq (tgt := 41) hx hb dX7_multiplicity_29 (by decide) (fun c6 => ?_) (fun c6 => ?_)
    · replace h := h.1 c6
      refine lv_iconst (v := 0) hx hb dX7_multiplicity_41 (by decide) ?_
      exact W.iret (v := 0) hx hb hr (fun t ht hW => ⟨⟨_, _, rfl, h, by show va_P _ _ _ t.heap; rw [ht]; exact hP⟩, hS.F ht⟩) hS.2.2 dX7_multiplicity_42
    · replace h := h.2 c6
      refine lv_aload_n hx hb dX7_multiplicity_32 rfl (lv_at hl 0 rfl) ?_
      refine lv_iload_n hx hb dX7_multiplicity_33 rfl (lv_at hl 1 rfl) ?_
      refine lv_iload_n hx hb dX7_multiplicity_34 rfl (lv_at hl 2 rfl) ?_
      refine cc_i (va_runV (C := RX7) (As := [.int a1, .int a2]) (rest := []) ⟨hx, hb, hml, hown, hts⟩ (c_X7_oftenAt hwd H.size u5 a1 a2 _ h) (cwV 2 hts gX7_multiplicity_X7_oftenAt rfl rfl rfl (by decide +kernel) ⟨Nat.le_of_ble_eq_true rfl, Nat.le_of_ble_eq_true rfl⟩) (pmV hC hP hS mg_0 rfl) rfl rfl hl.1 rfl (lv_room (Nat.le_of_ble_eq_true rfl)) dX7_multiplicity_35 ⟨Nat.zero_le _, Nat.zero_le _⟩) hS (cA_mono hS.1) (fun v7 u8 H locs h hP hS => ?_)
      refine lv_goto (tgt := 42) hx hb dX7_multiplicity_38 (by decide) ?_
      exact W.iret (v := v7) hx hb hr (fun t ht hW => ⟨⟨_, _, rfl, h, by show va_P _ _ _ t.heap; rw [ht]; exact hP⟩, hS.F ht⟩) hS.2.2 dX7_multiplicity_42
  · replace h := h.2 c3
    refine lv_iload_n hx hb dX7_multiplicity_9 rfl (lv_at hl 2 rfl) ?_
    refine lv_iconst (v := 0) hx hb dX7_multiplicity_10 (by decide) ?_
    refine lv_aload_n hx hb dX7_multiplicity_11 rfl (lv_at hl 0 rfl) ?_
    refine va_get (C := RX7) (T := TX7) (N := 22) hx hb hts n7 hown hK hP 0 mg_0 rfl 1 (by decide) lk0 (fun _ h9 => h9) rfl dX7_multiplicity_12 ?_
    refine cc_i (va_runS (As := [.int a2, .int 0, .int (u2 0 1)]) (rest := [.ref (ad 0)]) ⟨hx, hb, hml, hown, hts⟩ (c_X7_isIn hwd H.size u2 a2 0 (u2 0 1) _ h) (va_cwS 3 hts gX7_multiplicity_X7_isIn rfl rfl rfl (by decide +kernel) ⟨Nat.le_of_ble_eq_true rfl, Nat.le_of_ble_eq_true rfl⟩) (pmS hC hP hS) rfl rfl hl.1 rfl (lv_room (Nat.le_of_ble_eq_true rfl)) dX7_multiplicity_15 ⟨Nat.zero_le _, Nat.zero_le _⟩) hS (cA_mono hS.1) (fun v9 u10 H locs h hP hS => ?_)
    refine lv_if_eq (tgt := 25) hx hb dX7_multiplicity_18 (by decide) (fun c11 => ?_) (fun c11 => ?_)
    · replace h := h.1 c11
      refine lv_iconst (v := 1) hx hb dX7_multiplicity_25 (by decide) ?_
      refine cc_i (va_runV (C := RX7) (As := [.int 1]) (rest := []) ⟨hx, hb, hml, hown, hts⟩ (c_X7_holds hwd H.size u10 1 _ h) (cwV 1 hts gX7_multiplicity_X7_holds rfl rfl rfl (by decide +kernel) ⟨Nat.le_of_ble_eq_true rfl, Nat.le_of_ble_eq_true rfl⟩) (pmV hC hP hS mg_0 rfl) rfl rfl hl.1 rfl (lv_room (Nat.le_of_ble_eq_true rfl)) dX7_multiplicity_26 ⟨Nat.zero_le _, Nat.zero_le _⟩) hS (cA_mono hS.1) (fun v12 u13 H locs h hP hS => ?_)
      refine lv_if_eq (tgt := 41) hx hb dX7_multiplicity_29 (by decide) (fun c14 => ?_) (fun c14 => ?_)
      · replace h := h.1 c14
        refine lv_iconst (v := 0) hx hb dX7_multiplicity_41 (by decide) ?_
        exact W.iret (v := 0) hx hb hr (fun t ht hW => ⟨⟨_, _, rfl, h, by show va_P _ _ _ t.heap; rw [ht]; exact hP⟩, hS.F ht⟩) hS.2.2 dX7_multiplicity_42
      · replace h := h.2 c14
        refine lv_aload_n hx hb dX7_multiplicity_32 rfl (lv_at hl 0 rfl) ?_
        refine lv_iload_n hx hb dX7_multiplicity_33 rfl (lv_at hl 1 rfl) ?_
        refine lv_iload_n hx hb dX7_multiplicity_34 rfl (lv_at hl 2 rfl) ?_
        refine cc_i (va_runV (C := RX7) (As := [.int a1, .int a2]) (rest := []) ⟨hx, hb, hml, hown, hts⟩ (c_X7_oftenAt hwd H.size u13 a1 a2 _ h) (cwV 2 hts gX7_multiplicity_X7_oftenAt rfl rfl rfl (by decide +kernel) ⟨Nat.le_of_ble_eq_true rfl, Nat.le_of_ble_eq_true rfl⟩) (pmV hC hP hS mg_0 rfl) rfl rfl hl.1 rfl (lv_room (Nat.le_of_ble_eq_true rfl)) dX7_multiplicity_35 ⟨Nat.zero_le _, Nat.zero_le _⟩) hS (cA_mono hS.1) (fun v15 u16 H locs h hP hS => ?_)
        refine lv_goto (tgt := 42) hx hb dX7_multiplicity_38 (by decide) ?_
        exact W.iret (v := v15) hx hb hr (fun t ht hW => ⟨⟨_, _, rfl, h, by show va_P _ _ _ t.heap; rw [ht]; exact hP⟩, hS.F ht⟩) hS.2.2 dX7_multiplicity_42
    · replace h := h.2 c11
      refine lv_iconst (v := 0) hx hb dX7_multiplicity_21 (by decide) ?_
      refine lv_goto (tgt := 26) hx hb dX7_multiplicity_22 (by decide) ?_
      refine cc_i (va_runV (C := RX7) (As := [.int 0]) (rest := []) ⟨hx, hb, hml, hown, hts⟩ (c_X7_holds hwd H.size u10 0 _ h) (cwV 1 hts gX7_multiplicity_X7_holds rfl rfl rfl (by decide +kernel) ⟨Nat.le_of_ble_eq_true rfl, Nat.le_of_ble_eq_true rfl⟩) (pmV hC hP hS mg_0 rfl) rfl rfl hl.1 rfl (lv_room (Nat.le_of_ble_eq_true rfl)) dX7_multiplicity_26 ⟨Nat.zero_le _, Nat.zero_le _⟩) hS (cA_mono hS.1) (fun v17 u18 H locs h hP hS => ?_)
      refine lv_if_eq (tgt := 41) hx hb dX7_multiplicity_29 (by decide) (fun c19 => ?_) (fun c19 => ?_)
      · replace h := h.1 c19
        refine lv_iconst (v := 0) hx hb dX7_multiplicity_41 (by decide) ?_
        exact W.iret (v := 0) hx hb hr (fun t ht hW => ⟨⟨_, _, rfl, h, by show va_P _ _ _ t.heap; rw [ht]; exact hP⟩, hS.F ht⟩) hS.2.2 dX7_multiplicity_42
      · replace h := h.2 c19
        refine lv_aload_n hx hb dX7_multiplicity_32 rfl (lv_at hl 0 rfl) ?_
        refine lv_iload_n hx hb dX7_multiplicity_33 rfl (lv_at hl 1 rfl) ?_
        refine lv_iload_n hx hb dX7_multiplicity_34 rfl (lv_at hl 2 rfl) ?_
        refine cc_i (va_runV (C := RX7) (As := [.int a1, .int a2]) (rest := []) ⟨hx, hb, hml, hown, hts⟩ (c_X7_oftenAt hwd H.size u18 a1 a2 _ h) (cwV 2 hts gX7_multiplicity_X7_oftenAt rfl rfl rfl (by decide +kernel) ⟨Nat.le_of_ble_eq_true rfl, Nat.le_of_ble_eq_true rfl⟩) (pmV hC hP hS mg_0 rfl) rfl rfl hl.1 rfl (lv_room (Nat.le_of_ble_eq_true rfl)) dX7_multiplicity_35 ⟨Nat.zero_le _, Nat.zero_le _⟩) hS (cA_mono hS.1) (fun v20 u21 H locs h hP hS => ?_)
        refine lv_goto (tgt := 42) hx hb dX7_multiplicity_38 (by decide) ?_
        exact W.iret (v := v20) hx hb hr (fun t ht hW => ⟨⟨_, _, rfl, h, by show va_P _ _ _ t.heap; rw [ht]; exact hP⟩, hS.F ht⟩) hS.2.2 dX7_multiplicity_42
set_option maxRecDepth 100000 in
set_option maxHeartbeats 4000000 in
theorem c_X7_multiplicity {l : Launch} {D : va_G} {cI cG cZ cJ : ClassId} {ts : Nat × Nat} {ad : Nat → Nat} (hwd : WD mLs ad) (sz : Nat) (u : St) (a1 : Int32) (a2 : Int32) (Q : Int32 → St → Prop) (h : f_X7_multiplicity a1 a2 u Q) : Met l yX7_multiplicity wsX7_multiplicity ({ frames := 3, cells := 0, slots := 0, locals := 72 }) (va_Pc [.ref (ad 0), .int a1, .int a2] (PM D cI cG cZ cJ ts ad sz u)) (va_Qi Q (fun u9 t => va_P D vwCl (mW cI cZ ad u9) t.heap) (cA mLs ad sz)) 0 0 (cA mLs ad sz) := by
  refine Met.ofW (cc := cX7_multiplicity) (maxL := 3) (ret := (some .int)) (by decide) rfl ?_
  intro p e s m args below meth c s₁ B hml hv
  obtain ⟨rfl, hsz, hP, hC⟩ := hv
  subst hsz
  have X : FX RX7 wsX7_multiplicity cX7_multiplicity 3 (some .int) D cI cG cZ cJ ts mLs ad p s m _ meth c := ⟨B.exec, B.bytes, hml, findClass_of_methodNamed B.named, atoms_spec (ws := wsX7_multiplicity) B.pre, B.returns, B.notSynchronized, hwd, hC⟩
  have hl := lv_entry ([.ref (ad 0), .int a1, .int a2]) (n := 3) (Nat.le_of_ble_eq_true rfl)
  rw [lg_entry_eq]
  generalize (lg_sl ([.ref (ad 0), .int a1, .int a2]) ++ List.replicate (3 - (lg_sl ([.ref (ad 0), .int a1, .int a2])).length) Slot.unset).toArray = ls at hl ⊢
  exact w_X7_multiplicity X a1 a2 Q u _ _ _ h hP va_S.rf hl
set_option maxRecDepth 100000 in
set_option maxHeartbeats 4000000 in
theorem w_X7_roots_L4 {p : Program} {l : Launch} {e : Env} {s : State} {m : MethodId} {args : Array Value} {below : List Frame} {meth : Method} {c : Code} {D : va_G} {cI cG cZ cJ : ClassId} {ts : Nat × Nat}  {ad : Nat → Nat}  (X : FX RX7 wsX7_roots cX7_roots 4 (some .int) D cI cG cZ cJ ts mLs ad p s m args meth c) (a1 : Int32) (Q : Int32 → St → Prop)
    (K0 : Int32 → St → Prop) (hk0 : ∀ (b2 : Int32) (u : St) (H : Heap) (locs : List Loc) (ls : Array Slot), K0 b2 u → va_P D vwCl (mW cI cZ ad u) H → va_S (cA mLs ad s.heap.size) s.heap H locs → lv_has ls 4 [(2, .int b2)] → W p l e (headSpec wsX7_roots { frames := 3, cells := 0, slots := 0, locals := 72 }).room s m args below meth c H locs 0 0 (MQ below (va_Qi Q (fun u9 t => va_P D vwCl (mW cI cZ ad u9) t.heap) (cA mLs ad s.heap.size)) args s 0 0 (cA mLs ad s.heap.size)) (F0 m 35 ls []))
    : ∀ (n : Nat) (a2 : Int32) (a3 : Int32) (u : St) (H : Heap) (locs : List Loc) (ls : Array Slot), f_X7_roots_L4 a1 Q K0 n a2 a3 u → va_P D vwCl (mW cI cZ ad u) H → va_S (cA mLs ad s.heap.size) s.heap H locs → lv_has ls 4 [(0, .ref (ad 0)), (1, .int a1), (2, .int a2), (3, .int a3)] → W p l e (headSpec wsX7_roots { frames := 3, cells := 0, slots := 0, locals := 72 }).room s m args below meth c H locs 0 0 (MQ below (va_Qi Q (fun u9 t => va_P D vwCl (mW cI cZ ad u9) t.heap) (cA mLs ad s.heap.size)) args s 0 0 (cA mLs ad s.heap.size)) (F0 m 4 ls []) := by
  obtain ⟨hx, hb, hml, hown, hts, hr, hlocks, hwd, hC⟩ := id X
  have hK := hC.1
  have lk0 := hts (.fieldLink RX7 7 "FormForgeModel" "p" "I") (by decide +kernel)
  have n7 : ∀ w ∈ wsX70, w ∈ wsX7_roots := by decide +kernel
  intro n
  induction n with
  | zero =>
    intro a2 a3 u H locs ls h; exact h.elim
  | succ n ih =>
    intro a2 a3 u H locs ls h hP hS hl
    replace h : f_X7_roots_L4_s a1 Q K0 (f_X7_roots_L4 a1 Q K0 n) a2 a3 u := h
    unfold f_X7_roots_L4_s at h
    refine lv_iload_n hx hb dX7_roots_4 rfl (lv_at hl 3 rfl) ?_
    refine lv_aload_n hx hb dX7_roots_5 rfl (lv_at hl 0 rfl) ?_
    refine va_get (C := RX7) (T := TX7) (N := 22) hx hb hts n7 hown hK hP 0 mg_0 rfl 1 (by decide) lk0 (fun _ h9 => h9) rfl dX7_roots_6 ?_
    refine lv_icmp_gt (tgt := 35) hx hb dX7_roots_9 (by decide) (fun c1 => ?_) (fun c1 => ?_)
    · replace h := h.1 c1
      exact hk0 a2 _ _ _ _ h hP hS (lv_sub hl [2] rfl)
    · replace h := h.2 c1
      refine lv_iload_n hx hb dX7_roots_12 rfl (lv_at hl 2 rfl) ?_
      refine lv_aload_n hx hb dX7_roots_13 rfl (lv_at hl 0 rfl) ?_
      refine lv_iload_n hx hb dX7_roots_14 rfl (lv_at hl 1 rfl) ?_
      refine lv_iload_n hx hb dX7_roots_15 rfl (lv_at hl 3 rfl) ?_
      refine cc_i (va_runV (C := RX7) (As := [.int a1, .int a3]) (rest := [.int a2]) ⟨hx, hb, hml, hown, hts⟩ (c_X7_oftenAt hwd H.size u a1 a3 _ h) (cwV 2 hts gX7_roots_X7_oftenAt rfl rfl rfl (by decide +kernel) ⟨Nat.le_of_ble_eq_true rfl, Nat.le_of_ble_eq_true rfl⟩) (pmV hC hP hS mg_0 rfl) rfl rfl hl.1 rfl (lv_room (Nat.le_of_ble_eq_true rfl)) dX7_roots_16 ⟨Nat.zero_le _, Nat.zero_le _⟩) hS (cA_mono hS.1) (fun v2 u3 H locs h hP hS => ?_)
      refine lv_if_le (tgt := 26) hx hb dX7_roots_19 (by decide) (fun c4 => ?_) (fun c4 => ?_)
      · replace h := h.1 c4
        refine lv_iconst (v := 0) hx hb dX7_roots_26 (by decide) ?_
        refine lv_iadd hx hb dX7_roots_27 ?_
        refine lv_topi (fun v5 ev5 => ?_)
        replace h := h v5 ev5
        refine lv_istore_n (lv' := [(2, .int v5), (0, .ref (ad 0)), (1, .int a1), (3, .int a3)]) hx hb dX7_roots_28 rfl hl (by decide) rfl (fun ls hl => ?_)
        obtain ⟨v6, ev6⟩ : ∃ y : Int32, y = a3 + 1 := ⟨_, rfl⟩
        refine lv_iinc (v := v6) (lv' := [(3, .int v6), (2, .int v5), (0, .ref (ad 0)), (1, .int a1)]) hx hb dX7_roots_29 hl (k := 3) rfl (by rw [ev6]; rfl) (by decide) rfl (fun ls hl => ?_)
        replace h := h v6 ev6
        refine lv_goto (tgt := 4) hx hb dX7_roots_32 (by decide) ?_
        exact ih v5 v6 _ _ _ _ h hP hS (lv_sub hl [2, 3, 1, 0] rfl)
      · replace h := h.2 c4
        refine lv_iconst (v := 1) hx hb dX7_roots_22 (by decide) ?_
        refine lv_goto (tgt := 27) hx hb dX7_roots_23 (by decide) ?_
        refine lv_iadd hx hb dX7_roots_27 ?_
        refine lv_topi (fun v7 ev7 => ?_)
        replace h := h v7 ev7
        refine lv_istore_n (lv' := [(2, .int v7), (0, .ref (ad 0)), (1, .int a1), (3, .int a3)]) hx hb dX7_roots_28 rfl hl (by decide) rfl (fun ls hl => ?_)
        obtain ⟨v8, ev8⟩ : ∃ y : Int32, y = a3 + 1 := ⟨_, rfl⟩
        refine lv_iinc (v := v8) (lv' := [(3, .int v8), (2, .int v7), (0, .ref (ad 0)), (1, .int a1)]) hx hb dX7_roots_29 hl (k := 3) rfl (by rw [ev8]; rfl) (by decide) rfl (fun ls hl => ?_)
        replace h := h v8 ev8
        refine lv_goto (tgt := 4) hx hb dX7_roots_32 (by decide) ?_
        exact ih v7 v8 _ _ _ _ h hP hS (lv_sub hl [2, 3, 1, 0] rfl)
set_option maxRecDepth 100000 in
set_option maxHeartbeats 4000000 in
theorem w_X7_roots {p : Program} {l : Launch} {e : Env} {s : State} {m : MethodId} {args : Array Value} {below : List Frame} {meth : Method} {c : Code} {D : va_G} {cI cG cZ cJ : ClassId} {ts : Nat × Nat}  {ad : Nat → Nat}  (X : FX RX7 wsX7_roots cX7_roots 4 (some .int) D cI cG cZ cJ ts mLs ad p s m args meth c) (a1 : Int32) (Q : Int32 → St → Prop) (u : St) (H : Heap) (locs : List Loc) (ls : Array Slot) (h : f_X7_roots a1 u Q) (hP : va_P D vwCl (mW cI cZ ad u) H) (hS : va_S (cA mLs ad s.heap.size) s.heap H locs) (hl : lv_has ls 4 [(0, .ref (ad 0)), (1, .int a1)]) : W p l e (headSpec wsX7_roots { frames := 3, cells := 0, slots := 0, locals := 72 }).room s m args below meth c H locs 0 0 (MQ below (va_Qi Q (fun u9 t => va_P D vwCl (mW cI cZ ad u9) t.heap) (cA mLs ad s.heap.size)) args s 0 0 (cA mLs ad s.heap.size)) (F0 m 0 ls []) := by
  obtain ⟨hx, hb, hml, hown, hts, hr, hlocks, hwd, hC⟩ := id X
  have hK := hC.1
  have lk0 := hts (.fieldLink RX7 7 "FormForgeModel" "p" "I") (by decide +kernel)
  have n7 : ∀ w ∈ wsX70, w ∈ wsX7_roots := by decide +kernel
  unfold f_X7_roots at h
  refine lv_iconst (v := 0) hx hb dX7_roots_0 (by decide) ?_
  refine lv_istore_n (lv' := [(2, .int 0), (0, .ref (ad 0)), (1, .int a1)]) hx hb dX7_roots_1 rfl hl (by decide) rfl (fun ls hl => ?_)
  refine lv_iconst (v := 0) hx hb dX7_roots_2 (by decide) ?_
  refine lv_istore_n (lv' := [(3, .int 0), (2, .int 0), (0, .ref (ad 0)), (1, .int a1)]) hx hb dX7_roots_3 rfl hl (by decide) rfl (fun ls hl => ?_)
  obtain ⟨n9, h⟩ := h
  refine w_X7_roots_L4 X a1 _ _ (fun v10 u11 H locs ls h hP hS hl => ?_) n9 0 0 _ _ _ _ h hP hS (lv_sub hl [2, 3, 1, 0] rfl)
  refine lv_iload_n hx hb dX7_roots_35 rfl (lv_at hl 0 rfl) ?_
  exact W.iret (v := v10) hx hb hr (fun t ht hW => ⟨⟨_, _, rfl, h, by show va_P _ _ _ t.heap; rw [ht]; exact hP⟩, hS.F ht⟩) hS.2.2 dX7_roots_36
set_option maxRecDepth 100000 in
set_option maxHeartbeats 4000000 in
theorem c_X7_roots {l : Launch} {D : va_G} {cI cG cZ cJ : ClassId} {ts : Nat × Nat} {ad : Nat → Nat} (hwd : WD mLs ad) (sz : Nat) (u : St) (a1 : Int32) (Q : Int32 → St → Prop) (h : f_X7_roots a1 u Q) : Met l yX7_roots wsX7_roots ({ frames := 3, cells := 0, slots := 0, locals := 72 }) (va_Pc [.ref (ad 0), .int a1] (PM D cI cG cZ cJ ts ad sz u)) (va_Qi Q (fun u9 t => va_P D vwCl (mW cI cZ ad u9) t.heap) (cA mLs ad sz)) 0 0 (cA mLs ad sz) := by
  refine Met.ofW (cc := cX7_roots) (maxL := 4) (ret := (some .int)) (by decide) rfl ?_
  intro p e s m args below meth c s₁ B hml hv
  obtain ⟨rfl, hsz, hP, hC⟩ := hv
  subst hsz
  have X : FX RX7 wsX7_roots cX7_roots 4 (some .int) D cI cG cZ cJ ts mLs ad p s m _ meth c := ⟨B.exec, B.bytes, hml, findClass_of_methodNamed B.named, atoms_spec (ws := wsX7_roots) B.pre, B.returns, B.notSynchronized, hwd, hC⟩
  have hl := lv_entry ([.ref (ad 0), .int a1]) (n := 4) (Nat.le_of_ble_eq_true rfl)
  rw [lg_entry_eq]
  generalize (lg_sl ([.ref (ad 0), .int a1]) ++ List.replicate (4 - (lg_sl ([.ref (ad 0), .int a1])).length) Slot.unset).toArray = ls at hl ⊢
  exact w_X7_roots X a1 Q u _ _ _ h hP va_S.rf hl
set_option maxRecDepth 100000 in
set_option maxHeartbeats 4000000 in
theorem w_X7_isNull_L4 {p : Program} {l : Launch} {e : Env} {s : State} {m : MethodId} {args : Array Value} {below : List Frame} {meth : Method} {c : Code} {D : va_G} {cI cG cZ cJ : ClassId} {ts : Nat × Nat}  {ad : Nat → Nat}  (X : FX RX7 wsX7_isNull cX7_isNull 4 (some .int) D cI cG cZ cJ ts mLs ad p s m args meth c) (a1 : Int32) (Q : Int32 → St → Prop)
    (K0 : Int32 → St → Prop) (hk0 : ∀ (b2 : Int32) (u : St) (H : Heap) (locs : List Loc) (ls : Array Slot), K0 b2 u → va_P D vwCl (mW cI cZ ad u) H → va_S (cA mLs ad s.heap.size) s.heap H locs → lv_has ls 4 [(2, .int b2)] → W p l e (headSpec wsX7_isNull { frames := 3, cells := 0, slots := 0, locals := 72 }).room s m args below meth c H locs 0 0 (MQ below (va_Qi Q (fun u9 t => va_P D vwCl (mW cI cZ ad u9) t.heap) (cA mLs ad s.heap.size)) args s 0 0 (cA mLs ad s.heap.size)) (F0 m 41 ls []))
    : ∀ (n : Nat) (a2 : Int32) (a3 : Int32) (u : St) (H : Heap) (locs : List Loc) (ls : Array Slot), f_X7_isNull_L4 a1 Q K0 n a2 a3 u → va_P D vwCl (mW cI cZ ad u) H → va_S (cA mLs ad s.heap.size) s.heap H locs → lv_has ls 4 [(0, .ref (ad 0)), (1, .int a1), (2, .int a2), (3, .int a3)] → W p l e (headSpec wsX7_isNull { frames := 3, cells := 0, slots := 0, locals := 72 }).room s m args below meth c H locs 0 0 (MQ below (va_Qi Q (fun u9 t => va_P D vwCl (mW cI cZ ad u9) t.heap) (cA mLs ad s.heap.size)) args s 0 0 (cA mLs ad s.heap.size)) (F0 m 4 ls []) := by
  obtain ⟨hx, hb, hml, hown, hts, hr, hlocks, hwd, hC⟩ := id X
  have hK := hC.1
  have lk0 := hts (.fieldLink RX7 7 "FormForgeModel" "p" "I") (by decide +kernel)
  have lk1 := hts (.fieldLink RX7 13 "FormForgeModel" "degree" "[I") (by decide +kernel)
  have n7 : ∀ w ∈ wsX70, w ∈ wsX7_isNull := by decide +kernel
  intro n
  induction n with
  | zero =>
    intro a2 a3 u H locs ls h; exact h.elim
  | succ n ih =>
    intro a2 a3 u H locs ls h hP hS hl
    replace h : f_X7_isNull_L4_s a1 Q K0 (f_X7_isNull_L4 a1 Q K0 n) a2 a3 u := h
    unfold f_X7_isNull_L4_s at h
    refine lv_iload_n hx hb dX7_isNull_4 rfl (lv_at hl 3 rfl) ?_
    refine lv_aload_n hx hb dX7_isNull_5 rfl (lv_at hl 0 rfl) ?_
    refine va_get (C := RX7) (T := TX7) (N := 22) hx hb hts n7 hown hK hP 0 mg_0 rfl 1 (by decide) lk0 (fun _ h9 => h9) rfl dX7_isNull_6 ?_
    refine lv_icmp_gt (tgt := 41) hx hb dX7_isNull_9 (by decide) (fun c1 => ?_) (fun c1 => ?_)
    · replace h := h.1 c1
      exact hk0 a2 _ _ _ _ h hP hS (lv_sub hl [2] rfl)
    · replace h := h.2 c1
      refine lv_iconst (v := 2) hx hb dX7_isNull_12 (by decide) ?_
      refine lv_aload_n hx hb dX7_isNull_13 rfl (lv_at hl 0 rfl) ?_
      refine lv_iload_n hx hb dX7_isNull_14 rfl (lv_at hl 1 rfl) ?_
      refine lv_iload_n hx hb dX7_isNull_15 rfl (lv_at hl 3 rfl) ?_
      refine cc_i (va_runV (C := RX7) (As := [.int a1, .int a3]) (rest := [.int 2]) ⟨hx, hb, hml, hown, hts⟩ (c_X7_oftenAt hwd H.size u a1 a3 _ h) (cwV 2 hts gX7_isNull_X7_oftenAt rfl rfl rfl (by decide +kernel) ⟨Nat.le_of_ble_eq_true rfl, Nat.le_of_ble_eq_true rfl⟩) (pmV hC hP hS mg_0 rfl) rfl rfl hl.1 rfl (lv_room (Nat.le_of_ble_eq_true rfl)) dX7_isNull_16 ⟨Nat.zero_le _, Nat.zero_le _⟩) hS (cA_mono hS.1) (fun v2 u3 H locs h hP hS => ?_)
      refine lv_imul hx hb dX7_isNull_19 ?_
      refine lv_aload_n hx hb dX7_isNull_20 rfl (lv_at hl 0 rfl) ?_
      refine va_get (C := RX7) (T := TX7) (N := 22) hx hb hts n7 hown hK hP 0 mg_0 rfl 2 (by decide) lk1 (fun _ h9 => h9) rfl dX7_isNull_21 ?_
      refine lv_iload_n hx hb dX7_isNull_24 rfl (lv_at hl 1 rfl) ?_
      refine va_iald hx hb hK hP 1 0 (mg_a ⟨by decide, by decide, by decide⟩) rfl h.1 dX7_isNull_25 ?_
      refine lv_topi (fun v4 ev4 => ?_)
      replace h := h.2 v4 ev4
      refine lv_icmp_le (tgt := 33) hx hb dX7_isNull_26 (by decide) (fun c5 => ?_) (fun c5 => ?_)
      · replace h := h.1 c5
        refine lv_iload_n hx hb dX7_isNull_33 rfl (lv_at hl 2 rfl) ?_
        refine lv_istore_n (lv' := [(2, .int a2), (0, .ref (ad 0)), (1, .int a1), (3, .int a3)]) hx hb dX7_isNull_34 rfl hl (by decide) rfl (fun ls hl => ?_)
        obtain ⟨v6, ev6⟩ : ∃ y : Int32, y = a3 + 1 := ⟨_, rfl⟩
        refine lv_iinc (v := v6) (lv' := [(3, .int v6), (2, .int a2), (0, .ref (ad 0)), (1, .int a1)]) hx hb dX7_isNull_35 hl (k := 3) rfl (by rw [ev6]; rfl) (by decide) rfl (fun ls hl => ?_)
        replace h := h v6 ev6
        refine lv_goto (tgt := 4) hx hb dX7_isNull_38 (by decide) ?_
        exact ih a2 v6 _ _ _ _ h hP hS (lv_sub hl [2, 3, 1, 0] rfl)
      · replace h := h.2 c5
        refine lv_iconst (v := 1) hx hb dX7_isNull_29 (by decide) ?_
        refine lv_goto (tgt := 34) hx hb dX7_isNull_30 (by decide) ?_
        refine lv_istore_n (lv' := [(2, .int 1), (0, .ref (ad 0)), (1, .int a1), (3, .int a3)]) hx hb dX7_isNull_34 rfl hl (by decide) rfl (fun ls hl => ?_)
        obtain ⟨v7, ev7⟩ : ∃ y : Int32, y = a3 + 1 := ⟨_, rfl⟩
        refine lv_iinc (v := v7) (lv' := [(3, .int v7), (2, .int 1), (0, .ref (ad 0)), (1, .int a1)]) hx hb dX7_isNull_35 hl (k := 3) rfl (by rw [ev7]; rfl) (by decide) rfl (fun ls hl => ?_)
        replace h := h v7 ev7
        refine lv_goto (tgt := 4) hx hb dX7_isNull_38 (by decide) ?_
        exact ih 1 v7 _ _ _ _ h hP hS (lv_sub hl [2, 3, 1, 0] rfl)
set_option maxRecDepth 100000 in
set_option maxHeartbeats 4000000 in
theorem w_X7_isNull {p : Program} {l : Launch} {e : Env} {s : State} {m : MethodId} {args : Array Value} {below : List Frame} {meth : Method} {c : Code} {D : va_G} {cI cG cZ cJ : ClassId} {ts : Nat × Nat}  {ad : Nat → Nat}  (X : FX RX7 wsX7_isNull cX7_isNull 4 (some .int) D cI cG cZ cJ ts mLs ad p s m args meth c) (a1 : Int32) (Q : Int32 → St → Prop) (u : St) (H : Heap) (locs : List Loc) (ls : Array Slot) (h : f_X7_isNull a1 u Q) (hP : va_P D vwCl (mW cI cZ ad u) H) (hS : va_S (cA mLs ad s.heap.size) s.heap H locs) (hl : lv_has ls 4 [(0, .ref (ad 0)), (1, .int a1)]) : W p l e (headSpec wsX7_isNull { frames := 3, cells := 0, slots := 0, locals := 72 }).room s m args below meth c H locs 0 0 (MQ below (va_Qi Q (fun u9 t => va_P D vwCl (mW cI cZ ad u9) t.heap) (cA mLs ad s.heap.size)) args s 0 0 (cA mLs ad s.heap.size)) (F0 m 0 ls []) := by
  obtain ⟨hx, hb, hml, hown, hts, hr, hlocks, hwd, hC⟩ := id X
  have hK := hC.1
  have lk0 := hts (.fieldLink RX7 7 "FormForgeModel" "p" "I") (by decide +kernel)
  have lk1 := hts (.fieldLink RX7 13 "FormForgeModel" "degree" "[I") (by decide +kernel)
  have n7 : ∀ w ∈ wsX70, w ∈ wsX7_isNull := by decide +kernel
  unfold f_X7_isNull at h
  refine lv_iconst (v := 0) hx hb dX7_isNull_0 (by decide) ?_
  refine lv_istore_n (lv' := [(2, .int 0), (0, .ref (ad 0)), (1, .int a1)]) hx hb dX7_isNull_1 rfl hl (by decide) rfl (fun ls hl => ?_)
  refine lv_iconst (v := 0) hx hb dX7_isNull_2 (by decide) ?_
  refine lv_istore_n (lv' := [(3, .int 0), (2, .int 0), (0, .ref (ad 0)), (1, .int a1)]) hx hb dX7_isNull_3 rfl hl (by decide) rfl (fun ls hl => ?_)
  obtain ⟨n8, h⟩ := h
  refine w_X7_isNull_L4 X a1 _ _ (fun v9 u10 H locs ls h hP hS hl => ?_) n8 0 0 _ _ _ _ h hP hS (lv_sub hl [2, 3, 1, 0] rfl)
  refine lv_iload_n hx hb dX7_isNull_41 rfl (lv_at hl 0 rfl) ?_
  exact W.iret (v := v9) hx hb hr (fun t ht hW => ⟨⟨_, _, rfl, h, by show va_P _ _ _ t.heap; rw [ht]; exact hP⟩, hS.F ht⟩) hS.2.2 dX7_isNull_42
set_option maxRecDepth 100000 in
set_option maxHeartbeats 4000000 in
theorem c_X7_isNull {l : Launch} {D : va_G} {cI cG cZ cJ : ClassId} {ts : Nat × Nat} {ad : Nat → Nat} (hwd : WD mLs ad) (sz : Nat) (u : St) (a1 : Int32) (Q : Int32 → St → Prop) (h : f_X7_isNull a1 u Q) : Met l yX7_isNull wsX7_isNull ({ frames := 3, cells := 0, slots := 0, locals := 72 }) (va_Pc [.ref (ad 0), .int a1] (PM D cI cG cZ cJ ts ad sz u)) (va_Qi Q (fun u9 t => va_P D vwCl (mW cI cZ ad u9) t.heap) (cA mLs ad sz)) 0 0 (cA mLs ad sz) := by
  refine Met.ofW (cc := cX7_isNull) (maxL := 4) (ret := (some .int)) (by decide) rfl ?_
  intro p e s m args below meth c s₁ B hml hv
  obtain ⟨rfl, hsz, hP, hC⟩ := hv
  subst hsz
  have X : FX RX7 wsX7_isNull cX7_isNull 4 (some .int) D cI cG cZ cJ ts mLs ad p s m _ meth c := ⟨B.exec, B.bytes, hml, findClass_of_methodNamed B.named, atoms_spec (ws := wsX7_isNull) B.pre, B.returns, B.notSynchronized, hwd, hC⟩
  have hl := lv_entry ([.ref (ad 0), .int a1]) (n := 4) (Nat.le_of_ble_eq_true rfl)
  rw [lg_entry_eq]
  generalize (lg_sl ([.ref (ad 0), .int a1]) ++ List.replicate (4 - (lg_sl ([.ref (ad 0), .int a1])).length) Slot.unset).toArray = ls at hl ⊢
  exact w_X7_isNull X a1 Q u _ _ _ h hP va_S.rf hl
set_option maxRecDepth 100000 in
set_option maxHeartbeats 4000000 in
theorem w_X7_generator {p : Program} {l : Launch} {e : Env} {s : State} {m : MethodId} {args : Array Value} {below : List Frame} {meth : Method} {c : Code} {D : va_G} {cI cG cZ cJ : ClassId} {ts : Nat × Nat}  {ad : Nat → Nat}  (X : FX RX7 wsX7_generator cX7_generator 7 (some .int) D cI cG cZ cJ ts mLs ad p s m args meth c) (a1 : Int32) (a2 : Int32) (a3 : Int32) (a4 : Int32) (Q : Int32 → St → Prop) (u : St) (H : Heap) (locs : List Loc) (ls : Array Slot) (h : f_X7_generator a1 a2 a3 a4 u Q) (hP : va_P D vwCl (mW cI cZ ad u) H) (hS : va_S (cA mLs ad s.heap.size) s.heap H locs) (hl : lv_has ls 7 [(0, .ref (ad 0)), (1, .int a1), (2, .int a2), (3, .int a3), (4, .int a4)]) : W p l e (headSpec wsX7_generator { frames := 2, cells := 0, slots := 0, locals := 43 }).room s m args below meth c H locs 0 0 (MQ below (va_Qi Q (fun u9 t => va_P D vwCl (mW cI cZ ad u9) t.heap) (cA mLs ad s.heap.size)) args s 0 0 (cA mLs ad s.heap.size)) (F0 m 0 ls []) := by
  obtain ⟨hx, hb, hml, hown, hts, hr, hlocks, hwd, hC⟩ := id X
  have hK := hC.1
  have lk0 := hts (.fieldLink RX7 78 "FormForgeModel" "generators" "I") (by decide +kernel)
  have lk1 := hts (.fieldLink RX7 20 "FormForgeModel" "matrix" "[I") (by decide +kernel)
  have n7 : ∀ w ∈ wsX70, w ∈ wsX7_generator := by decide +kernel
  unfold f_X7_generator at h
  refine lv_aload_n hx hb dX7_generator_0 rfl (lv_at hl 0 rfl) ?_
  refine lv_iload_n hx hb dX7_generator_1 rfl (lv_at hl 1 rfl) ?_
  refine cc_i (va_runV (C := RX7) (As := [.int a1]) (rest := []) ⟨hx, hb, hml, hown, hts⟩ (c_X7_isNumber hwd H.size u a1 _ h) (cwV 1 hts gX7_generator_X7_isNumber rfl rfl rfl (by decide +kernel) ⟨Nat.le_of_ble_eq_true rfl, Nat.le_of_ble_eq_true rfl⟩) (pmV hC hP hS mg_0 rfl) rfl rfl hl.1 rfl (lv_room (Nat.le_of_ble_eq_true rfl)) dX7_generator_2 ⟨Nat.zero_le _, Nat.zero_le _⟩) hS (cA_mono hS.1) (fun v1 u2 H locs h hP hS => ?_)
  refine lv_if_eq (tgt := 37) hx hb dX7_generator_5 (by decide) (fun c3 => ?_) (fun c3 => ?_)
  · replace h := h.1 c3
    refine lv_iconst (v := 0) hx hb dX7_generator_37 (by decide) ?_
    refine lv_istore (lv' := [(5, .int 0), (0, .ref (ad 0)), (1, .int a1), (2, .int a2), (3, .int a3), (4, .int a4)]) hx hb dX7_generator_38 hl (by decide) rfl (fun ls hl => ?_)
    refine lv_aload_n hx hb dX7_generator_40 rfl (lv_at hl 1 rfl) ?_
    refine lv_iload hx hb dX7_generator_41 (lv_at hl 0 rfl) ?_
    refine lv_if_eq (tgt := 61) hx hb dX7_generator_43 (by decide) (fun _ => ?_) (fun c4 => absurd c4 (by decide))
    refine lv_iconst (v := 1) hx hb dX7_generator_61 (by decide) ?_
    refine lv_goto (tgt := 78) hx hb dX7_generator_62 (by decide) ?_
    refine cc_i (va_runV (C := RX7) (As := [.int 1]) (rest := []) ⟨hx, hb, hml, hown, hts⟩ (c_X7_holds hwd H.size u2 1 _ h) (cwV 1 hts gX7_generator_X7_holds rfl rfl rfl (by decide +kernel) ⟨Nat.le_of_ble_eq_true rfl, Nat.le_of_ble_eq_true rfl⟩) (pmV hC hP hS mg_0 rfl) rfl rfl hl.1 rfl (lv_room (Nat.le_of_ble_eq_true rfl)) dX7_generator_78 ⟨Nat.zero_le _, Nat.zero_le _⟩) hS (cA_mono hS.1) (fun v5 u6 H locs h hP hS => ?_)
    refine lv_if_ne (tgt := 86) hx hb dX7_generator_81 (by decide) (fun c7 => ?_) (fun c7 => ?_)
    · replace h := h.1 c7
      refine lv_iconst (v := 4) hx hb dX7_generator_86 (by decide) ?_
      refine lv_aload_n hx hb dX7_generator_87 rfl (lv_at hl 1 rfl) ?_
      refine va_get (C := RX7) (T := TX7) (N := 22) hx hb hts n7 hown hK hP 0 mg_0 rfl 6 (by decide) lk0 (fun _ h9 => h9) rfl dX7_generator_88 ?_
      refine lv_imul hx hb dX7_generator_91 ?_
      refine lv_topi (fun v8 ev8 => ?_)
      replace h := h v8 ev8
      refine lv_istore (lv' := [(6, .int v8), (5, .int 0), (0, .ref (ad 0)), (1, .int a1), (2, .int a2), (3, .int a3), (4, .int a4)]) hx hb dX7_generator_92 hl (by decide) rfl (fun ls hl => ?_)
      refine lv_aload_n hx hb dX7_generator_94 rfl (lv_at hl 2 rfl) ?_
      refine va_get (C := RX7) (T := TX7) (N := 22) hx hb hts n7 hown hK hP 0 mg_0 rfl 5 (by decide) lk1 (fun _ h9 => h9) rfl dX7_generator_95 ?_
      refine lv_iload hx hb dX7_generator_98 (lv_at hl 0 rfl) ?_
      refine lv_iload_n hx hb dX7_generator_100 rfl (lv_at hl 3 rfl) ?_
      refine va_iast hx hb hK hP (cD hwd) hS 3 0 (mg_a ⟨by decide, by decide, by decide⟩) rfl h.1 dX7_generator_101 (fun H locs hP _ hS => ?_)
      replace hP := mu_a hwd ⟨by decide, by decide, by decide⟩ hP
      obtain ⟨u9, eu9⟩ : ∃ y : St, y = su u6 3 v8.toNatClampNeg a1 := ⟨_, rfl⟩
      rw [← eu9] at hP
      replace h := h.2 u9 eu9
      refine lv_aload_n hx hb dX7_generator_102 rfl (lv_at hl 2 rfl) ?_
      refine va_get (C := RX7) (T := TX7) (N := 22) hx hb hts n7 hown hK hP 0 mg_0 rfl 5 (by decide) lk1 (fun _ h9 => h9) rfl dX7_generator_103 ?_
      refine lv_iload hx hb dX7_generator_106 (lv_at hl 0 rfl) ?_
      refine lv_iconst (v := 1) hx hb dX7_generator_108 (by decide) ?_
      refine lv_iadd hx hb dX7_generator_109 ?_
      refine lv_iload_n hx hb dX7_generator_110 rfl (lv_at hl 4 rfl) ?_
      refine va_iast hx hb hK hP (cD hwd) hS 3 0 (mg_a ⟨by decide, by decide, by decide⟩) rfl h.1 dX7_generator_111 (fun H locs hP _ hS => ?_)
      replace hP := mu_a hwd ⟨by decide, by decide, by decide⟩ hP
      obtain ⟨u10, eu10⟩ : ∃ y : St, y = su u9 3 (v8 + 1).toNatClampNeg a2 := ⟨_, rfl⟩
      rw [← eu10] at hP
      replace h := h.2 u10 eu10
      refine lv_aload_n hx hb dX7_generator_112 rfl (lv_at hl 2 rfl) ?_
      refine va_get (C := RX7) (T := TX7) (N := 22) hx hb hts n7 hown hK hP 0 mg_0 rfl 5 (by decide) lk1 (fun _ h9 => h9) rfl dX7_generator_113 ?_
      refine lv_iload hx hb dX7_generator_116 (lv_at hl 0 rfl) ?_
      refine lv_iconst (v := 2) hx hb dX7_generator_118 (by decide) ?_
      refine lv_iadd hx hb dX7_generator_119 ?_
      refine lv_iload_n hx hb dX7_generator_120 rfl (lv_at hl 5 rfl) ?_
      refine va_iast hx hb hK hP (cD hwd) hS 3 0 (mg_a ⟨by decide, by decide, by decide⟩) rfl h.1 dX7_generator_121 (fun H locs hP _ hS => ?_)
      replace hP := mu_a hwd ⟨by decide, by decide, by decide⟩ hP
      obtain ⟨u11, eu11⟩ : ∃ y : St, y = su u10 3 (v8 + 2).toNatClampNeg a3 := ⟨_, rfl⟩
      rw [← eu11] at hP
      replace h := h.2 u11 eu11
      refine lv_aload_n hx hb dX7_generator_122 rfl (lv_at hl 2 rfl) ?_
      refine va_get (C := RX7) (T := TX7) (N := 22) hx hb hts n7 hown hK hP 0 mg_0 rfl 5 (by decide) lk1 (fun _ h9 => h9) rfl dX7_generator_123 ?_
      refine lv_iload hx hb dX7_generator_126 (lv_at hl 0 rfl) ?_
      refine lv_iconst (v := 3) hx hb dX7_generator_128 (by decide) ?_
      refine lv_iadd hx hb dX7_generator_129 ?_
      refine lv_iload hx hb dX7_generator_130 (lv_at hl 6 rfl) ?_
      refine va_iast hx hb hK hP (cD hwd) hS 3 0 (mg_a ⟨by decide, by decide, by decide⟩) rfl h.1 dX7_generator_132 (fun H locs hP _ hS => ?_)
      replace hP := mu_a hwd ⟨by decide, by decide, by decide⟩ hP
      obtain ⟨u12, eu12⟩ : ∃ y : St, y = su u11 3 (v8 + 3).toNatClampNeg a4 := ⟨_, rfl⟩
      rw [← eu12] at hP
      replace h := h.2 u12 eu12
      refine lv_aload_n hx hb dX7_generator_133 rfl (lv_at hl 2 rfl) ?_
      refine lv_dup hx hb dX7_generator_134 rfl ?_
      refine va_get (C := RX7) (T := TX7) (N := 22) hx hb hts n7 hown hK hP 0 mg_0 rfl 6 (by decide) lk0 (fun _ h9 => h9) rfl dX7_generator_135 ?_
      refine lv_iconst (v := 1) hx hb dX7_generator_138 (by decide) ?_
      refine lv_iadd hx hb dX7_generator_139 ?_
      refine va_put (C := RX7) (T := TX7) (N := 22) (ty := .int) (v := .int ((u12 0 3) + 1)) hx hb hts n7 tyX7 tyX7_ok nmX7 hown hK hP (cD hwd) hS 0 mg_0 rfl 6 (by decide) lk0 (fun _ h9 => h9) rfl (by decide +kernel) rfl rfl (Nat.le_of_ble_eq_true rfl) dX7_generator_140 (fun H locs hP _ hS => ?_)
      replace hP := mu_generators hwd hP
      obtain ⟨u13, eu13⟩ : ∃ y : St, y = su u12 0 3 ((u12 0 3) + 1) := ⟨_, rfl⟩
      rw [← eu13] at hP
      replace h := h u13 eu13
      refine lv_aload_n hx hb dX7_generator_143 rfl (lv_at hl 2 rfl) ?_
      refine va_get (C := RX7) (T := TX7) (N := 22) hx hb hts n7 hown hK hP 0 mg_0 rfl 6 (by decide) lk0 (fun _ h9 => h9) rfl dX7_generator_144 ?_
      refine lv_iconst (v := 1) hx hb dX7_generator_147 (by decide) ?_
      refine lv_isub hx hb dX7_generator_148 ?_
      exact W.iret (v := ((u13 0 3) - 1)) hx hb hr (fun t ht hW => ⟨⟨_, _, rfl, h, by show va_P _ _ _ t.heap; rw [ht]; exact hP⟩, hS.F ht⟩) hS.2.2 dX7_generator_149
    · replace h := h.2 c7
      refine lv_iconst (v := 0) hx hb dX7_generator_84 (by decide) ?_
      exact W.iret (v := 0) hx hb hr (fun t ht hW => ⟨⟨_, _, rfl, h, by show va_P _ _ _ t.heap; rw [ht]; exact hP⟩, hS.F ht⟩) hS.2.2 dX7_generator_85
  · replace h := h.2 c3
    refine lv_aload_n hx hb dX7_generator_8 rfl (lv_at hl 0 rfl) ?_
    refine lv_iload_n hx hb dX7_generator_9 rfl (lv_at hl 2 rfl) ?_
    refine cc_i (va_runV (C := RX7) (As := [.int a2]) (rest := []) ⟨hx, hb, hml, hown, hts⟩ (c_X7_isNumber hwd H.size u2 a2 _ h) (cwV 1 hts gX7_generator_X7_isNumber rfl rfl rfl (by decide +kernel) ⟨Nat.le_of_ble_eq_true rfl, Nat.le_of_ble_eq_true rfl⟩) (pmV hC hP hS mg_0 rfl) rfl rfl hl.1 rfl (lv_room (Nat.le_of_ble_eq_true rfl)) dX7_generator_10 ⟨Nat.zero_le _, Nat.zero_le _⟩) hS (cA_mono hS.1) (fun v14 u15 H locs h hP hS => ?_)
    refine lv_if_eq (tgt := 37) hx hb dX7_generator_13 (by decide) (fun c16 => ?_) (fun c16 => ?_)
    · replace h := h.1 c16
      refine lv_iconst (v := 0) hx hb dX7_generator_37 (by decide) ?_
      refine lv_istore (lv' := [(5, .int 0), (0, .ref (ad 0)), (1, .int a1), (2, .int a2), (3, .int a3), (4, .int a4)]) hx hb dX7_generator_38 hl (by decide) rfl (fun ls hl => ?_)
      refine lv_aload_n hx hb dX7_generator_40 rfl (lv_at hl 1 rfl) ?_
      refine lv_iload hx hb dX7_generator_41 (lv_at hl 0 rfl) ?_
      refine lv_if_eq (tgt := 61) hx hb dX7_generator_43 (by decide) (fun _ => ?_) (fun c17 => absurd c17 (by decide))
      refine lv_iconst (v := 1) hx hb dX7_generator_61 (by decide) ?_
      refine lv_goto (tgt := 78) hx hb dX7_generator_62 (by decide) ?_
      refine cc_i (va_runV (C := RX7) (As := [.int 1]) (rest := []) ⟨hx, hb, hml, hown, hts⟩ (c_X7_holds hwd H.size u15 1 _ h) (cwV 1 hts gX7_generator_X7_holds rfl rfl rfl (by decide +kernel) ⟨Nat.le_of_ble_eq_true rfl, Nat.le_of_ble_eq_true rfl⟩) (pmV hC hP hS mg_0 rfl) rfl rfl hl.1 rfl (lv_room (Nat.le_of_ble_eq_true rfl)) dX7_generator_78 ⟨Nat.zero_le _, Nat.zero_le _⟩) hS (cA_mono hS.1) (fun v18 u19 H locs h hP hS => ?_)
      refine lv_if_ne (tgt := 86) hx hb dX7_generator_81 (by decide) (fun c20 => ?_) (fun c20 => ?_)
      · replace h := h.1 c20
        refine lv_iconst (v := 4) hx hb dX7_generator_86 (by decide) ?_
        refine lv_aload_n hx hb dX7_generator_87 rfl (lv_at hl 1 rfl) ?_
        refine va_get (C := RX7) (T := TX7) (N := 22) hx hb hts n7 hown hK hP 0 mg_0 rfl 6 (by decide) lk0 (fun _ h9 => h9) rfl dX7_generator_88 ?_
        refine lv_imul hx hb dX7_generator_91 ?_
        refine lv_topi (fun v21 ev21 => ?_)
        replace h := h v21 ev21
        refine lv_istore (lv' := [(6, .int v21), (5, .int 0), (0, .ref (ad 0)), (1, .int a1), (2, .int a2), (3, .int a3), (4, .int a4)]) hx hb dX7_generator_92 hl (by decide) rfl (fun ls hl => ?_)
        refine lv_aload_n hx hb dX7_generator_94 rfl (lv_at hl 2 rfl) ?_
        refine va_get (C := RX7) (T := TX7) (N := 22) hx hb hts n7 hown hK hP 0 mg_0 rfl 5 (by decide) lk1 (fun _ h9 => h9) rfl dX7_generator_95 ?_
        refine lv_iload hx hb dX7_generator_98 (lv_at hl 0 rfl) ?_
        refine lv_iload_n hx hb dX7_generator_100 rfl (lv_at hl 3 rfl) ?_
        refine va_iast hx hb hK hP (cD hwd) hS 3 0 (mg_a ⟨by decide, by decide, by decide⟩) rfl h.1 dX7_generator_101 (fun H locs hP _ hS => ?_)
        replace hP := mu_a hwd ⟨by decide, by decide, by decide⟩ hP
        obtain ⟨u22, eu22⟩ : ∃ y : St, y = su u19 3 v21.toNatClampNeg a1 := ⟨_, rfl⟩
        rw [← eu22] at hP
        replace h := h.2 u22 eu22
        refine lv_aload_n hx hb dX7_generator_102 rfl (lv_at hl 2 rfl) ?_
        refine va_get (C := RX7) (T := TX7) (N := 22) hx hb hts n7 hown hK hP 0 mg_0 rfl 5 (by decide) lk1 (fun _ h9 => h9) rfl dX7_generator_103 ?_
        refine lv_iload hx hb dX7_generator_106 (lv_at hl 0 rfl) ?_
        refine lv_iconst (v := 1) hx hb dX7_generator_108 (by decide) ?_
        refine lv_iadd hx hb dX7_generator_109 ?_
        refine lv_iload_n hx hb dX7_generator_110 rfl (lv_at hl 4 rfl) ?_
        refine va_iast hx hb hK hP (cD hwd) hS 3 0 (mg_a ⟨by decide, by decide, by decide⟩) rfl h.1 dX7_generator_111 (fun H locs hP _ hS => ?_)
        replace hP := mu_a hwd ⟨by decide, by decide, by decide⟩ hP
        obtain ⟨u23, eu23⟩ : ∃ y : St, y = su u22 3 (v21 + 1).toNatClampNeg a2 := ⟨_, rfl⟩
        rw [← eu23] at hP
        replace h := h.2 u23 eu23
        refine lv_aload_n hx hb dX7_generator_112 rfl (lv_at hl 2 rfl) ?_
        refine va_get (C := RX7) (T := TX7) (N := 22) hx hb hts n7 hown hK hP 0 mg_0 rfl 5 (by decide) lk1 (fun _ h9 => h9) rfl dX7_generator_113 ?_
        refine lv_iload hx hb dX7_generator_116 (lv_at hl 0 rfl) ?_
        refine lv_iconst (v := 2) hx hb dX7_generator_118 (by decide) ?_
        refine lv_iadd hx hb dX7_generator_119 ?_
        refine lv_iload_n hx hb dX7_generator_120 rfl (lv_at hl 5 rfl) ?_
        refine va_iast hx hb hK hP (cD hwd) hS 3 0 (mg_a ⟨by decide, by decide, by decide⟩) rfl h.1 dX7_generator_121 (fun H locs hP _ hS => ?_)
        replace hP := mu_a hwd ⟨by decide, by decide, by decide⟩ hP
        obtain ⟨u24, eu24⟩ : ∃ y : St, y = su u23 3 (v21 + 2).toNatClampNeg a3 := ⟨_, rfl⟩
        rw [← eu24] at hP
        replace h := h.2 u24 eu24
        refine lv_aload_n hx hb dX7_generator_122 rfl (lv_at hl 2 rfl) ?_
        refine va_get (C := RX7) (T := TX7) (N := 22) hx hb hts n7 hown hK hP 0 mg_0 rfl 5 (by decide) lk1 (fun _ h9 => h9) rfl dX7_generator_123 ?_
        refine lv_iload hx hb dX7_generator_126 (lv_at hl 0 rfl) ?_
        refine lv_iconst (v := 3) hx hb dX7_generator_128 (by decide) ?_
        refine lv_iadd hx hb dX7_generator_129 ?_
        refine lv_iload hx hb dX7_generator_130 (lv_at hl 6 rfl) ?_
        refine va_iast hx hb hK hP (cD hwd) hS 3 0 (mg_a ⟨by decide, by decide, by decide⟩) rfl h.1 dX7_generator_132 (fun H locs hP _ hS => ?_)
        replace hP := mu_a hwd ⟨by decide, by decide, by decide⟩ hP
        obtain ⟨u25, eu25⟩ : ∃ y : St, y = su u24 3 (v21 + 3).toNatClampNeg a4 := ⟨_, rfl⟩
        rw [← eu25] at hP
        replace h := h.2 u25 eu25
        refine lv_aload_n hx hb dX7_generator_133 rfl (lv_at hl 2 rfl) ?_
        refine lv_dup hx hb dX7_generator_134 rfl ?_
        refine va_get (C := RX7) (T := TX7) (N := 22) hx hb hts n7 hown hK hP 0 mg_0 rfl 6 (by decide) lk0 (fun _ h9 => h9) rfl dX7_generator_135 ?_
        refine lv_iconst (v := 1) hx hb dX7_generator_138 (by decide) ?_
        refine lv_iadd hx hb dX7_generator_139 ?_
        refine va_put (C := RX7) (T := TX7) (N := 22) (ty := .int) (v := .int ((u25 0 3) + 1)) hx hb hts n7 tyX7 tyX7_ok nmX7 hown hK hP (cD hwd) hS 0 mg_0 rfl 6 (by decide) lk0 (fun _ h9 => h9) rfl (by decide +kernel) rfl rfl (Nat.le_of_ble_eq_true rfl) dX7_generator_140 (fun H locs hP _ hS => ?_)
        replace hP := mu_generators hwd hP
        obtain ⟨u26, eu26⟩ : ∃ y : St, y = su u25 0 3 ((u25 0 3) + 1) := ⟨_, rfl⟩
        rw [← eu26] at hP
        replace h := h u26 eu26
        refine lv_aload_n hx hb dX7_generator_143 rfl (lv_at hl 2 rfl) ?_
        refine va_get (C := RX7) (T := TX7) (N := 22) hx hb hts n7 hown hK hP 0 mg_0 rfl 6 (by decide) lk0 (fun _ h9 => h9) rfl dX7_generator_144 ?_
        refine lv_iconst (v := 1) hx hb dX7_generator_147 (by decide) ?_
        refine lv_isub hx hb dX7_generator_148 ?_
        exact W.iret (v := ((u26 0 3) - 1)) hx hb hr (fun t ht hW => ⟨⟨_, _, rfl, h, by show va_P _ _ _ t.heap; rw [ht]; exact hP⟩, hS.F ht⟩) hS.2.2 dX7_generator_149
      · replace h := h.2 c20
        refine lv_iconst (v := 0) hx hb dX7_generator_84 (by decide) ?_
        exact W.iret (v := 0) hx hb hr (fun t ht hW => ⟨⟨_, _, rfl, h, by show va_P _ _ _ t.heap; rw [ht]; exact hP⟩, hS.F ht⟩) hS.2.2 dX7_generator_85
    · replace h := h.2 c16
      refine lv_aload_n hx hb dX7_generator_16 rfl (lv_at hl 0 rfl) ?_
      refine lv_iload_n hx hb dX7_generator_17 rfl (lv_at hl 3 rfl) ?_
      refine cc_i (va_runV (C := RX7) (As := [.int a3]) (rest := []) ⟨hx, hb, hml, hown, hts⟩ (c_X7_isNumber hwd H.size u15 a3 _ h) (cwV 1 hts gX7_generator_X7_isNumber rfl rfl rfl (by decide +kernel) ⟨Nat.le_of_ble_eq_true rfl, Nat.le_of_ble_eq_true rfl⟩) (pmV hC hP hS mg_0 rfl) rfl rfl hl.1 rfl (lv_room (Nat.le_of_ble_eq_true rfl)) dX7_generator_18 ⟨Nat.zero_le _, Nat.zero_le _⟩) hS (cA_mono hS.1) (fun v27 u28 H locs h hP hS => ?_)
      refine lv_if_eq (tgt := 37) hx hb dX7_generator_21 (by decide) (fun c29 => ?_) (fun c29 => ?_)
      · replace h := h.1 c29
        refine lv_iconst (v := 0) hx hb dX7_generator_37 (by decide) ?_
        refine lv_istore (lv' := [(5, .int 0), (0, .ref (ad 0)), (1, .int a1), (2, .int a2), (3, .int a3), (4, .int a4)]) hx hb dX7_generator_38 hl (by decide) rfl (fun ls hl => ?_)
        refine lv_aload_n hx hb dX7_generator_40 rfl (lv_at hl 1 rfl) ?_
        refine lv_iload hx hb dX7_generator_41 (lv_at hl 0 rfl) ?_
        refine lv_if_eq (tgt := 61) hx hb dX7_generator_43 (by decide) (fun _ => ?_) (fun c30 => absurd c30 (by decide))
        refine lv_iconst (v := 1) hx hb dX7_generator_61 (by decide) ?_
        refine lv_goto (tgt := 78) hx hb dX7_generator_62 (by decide) ?_
        refine cc_i (va_runV (C := RX7) (As := [.int 1]) (rest := []) ⟨hx, hb, hml, hown, hts⟩ (c_X7_holds hwd H.size u28 1 _ h) (cwV 1 hts gX7_generator_X7_holds rfl rfl rfl (by decide +kernel) ⟨Nat.le_of_ble_eq_true rfl, Nat.le_of_ble_eq_true rfl⟩) (pmV hC hP hS mg_0 rfl) rfl rfl hl.1 rfl (lv_room (Nat.le_of_ble_eq_true rfl)) dX7_generator_78 ⟨Nat.zero_le _, Nat.zero_le _⟩) hS (cA_mono hS.1) (fun v31 u32 H locs h hP hS => ?_)
        refine lv_if_ne (tgt := 86) hx hb dX7_generator_81 (by decide) (fun c33 => ?_) (fun c33 => ?_)
        · replace h := h.1 c33
          refine lv_iconst (v := 4) hx hb dX7_generator_86 (by decide) ?_
          refine lv_aload_n hx hb dX7_generator_87 rfl (lv_at hl 1 rfl) ?_
          refine va_get (C := RX7) (T := TX7) (N := 22) hx hb hts n7 hown hK hP 0 mg_0 rfl 6 (by decide) lk0 (fun _ h9 => h9) rfl dX7_generator_88 ?_
          refine lv_imul hx hb dX7_generator_91 ?_
          refine lv_topi (fun v34 ev34 => ?_)
          replace h := h v34 ev34
          refine lv_istore (lv' := [(6, .int v34), (5, .int 0), (0, .ref (ad 0)), (1, .int a1), (2, .int a2), (3, .int a3), (4, .int a4)]) hx hb dX7_generator_92 hl (by decide) rfl (fun ls hl => ?_)
          refine lv_aload_n hx hb dX7_generator_94 rfl (lv_at hl 2 rfl) ?_
          refine va_get (C := RX7) (T := TX7) (N := 22) hx hb hts n7 hown hK hP 0 mg_0 rfl 5 (by decide) lk1 (fun _ h9 => h9) rfl dX7_generator_95 ?_
          refine lv_iload hx hb dX7_generator_98 (lv_at hl 0 rfl) ?_
          refine lv_iload_n hx hb dX7_generator_100 rfl (lv_at hl 3 rfl) ?_
          refine va_iast hx hb hK hP (cD hwd) hS 3 0 (mg_a ⟨by decide, by decide, by decide⟩) rfl h.1 dX7_generator_101 (fun H locs hP _ hS => ?_)
          replace hP := mu_a hwd ⟨by decide, by decide, by decide⟩ hP
          obtain ⟨u35, eu35⟩ : ∃ y : St, y = su u32 3 v34.toNatClampNeg a1 := ⟨_, rfl⟩
          rw [← eu35] at hP
          replace h := h.2 u35 eu35
          refine lv_aload_n hx hb dX7_generator_102 rfl (lv_at hl 2 rfl) ?_
          refine va_get (C := RX7) (T := TX7) (N := 22) hx hb hts n7 hown hK hP 0 mg_0 rfl 5 (by decide) lk1 (fun _ h9 => h9) rfl dX7_generator_103 ?_
          refine lv_iload hx hb dX7_generator_106 (lv_at hl 0 rfl) ?_
          refine lv_iconst (v := 1) hx hb dX7_generator_108 (by decide) ?_
          refine lv_iadd hx hb dX7_generator_109 ?_
          refine lv_iload_n hx hb dX7_generator_110 rfl (lv_at hl 4 rfl) ?_
          refine va_iast hx hb hK hP (cD hwd) hS 3 0 (mg_a ⟨by decide, by decide, by decide⟩) rfl h.1 dX7_generator_111 (fun H locs hP _ hS => ?_)
          replace hP := mu_a hwd ⟨by decide, by decide, by decide⟩ hP
          obtain ⟨u36, eu36⟩ : ∃ y : St, y = su u35 3 (v34 + 1).toNatClampNeg a2 := ⟨_, rfl⟩
          rw [← eu36] at hP
          replace h := h.2 u36 eu36
          refine lv_aload_n hx hb dX7_generator_112 rfl (lv_at hl 2 rfl) ?_
          refine va_get (C := RX7) (T := TX7) (N := 22) hx hb hts n7 hown hK hP 0 mg_0 rfl 5 (by decide) lk1 (fun _ h9 => h9) rfl dX7_generator_113 ?_
          refine lv_iload hx hb dX7_generator_116 (lv_at hl 0 rfl) ?_
          refine lv_iconst (v := 2) hx hb dX7_generator_118 (by decide) ?_
          refine lv_iadd hx hb dX7_generator_119 ?_
          refine lv_iload_n hx hb dX7_generator_120 rfl (lv_at hl 5 rfl) ?_
          refine va_iast hx hb hK hP (cD hwd) hS 3 0 (mg_a ⟨by decide, by decide, by decide⟩) rfl h.1 dX7_generator_121 (fun H locs hP _ hS => ?_)
          replace hP := mu_a hwd ⟨by decide, by decide, by decide⟩ hP
          obtain ⟨u37, eu37⟩ : ∃ y : St, y = su u36 3 (v34 + 2).toNatClampNeg a3 := ⟨_, rfl⟩
          rw [← eu37] at hP
          replace h := h.2 u37 eu37
          refine lv_aload_n hx hb dX7_generator_122 rfl (lv_at hl 2 rfl) ?_
          refine va_get (C := RX7) (T := TX7) (N := 22) hx hb hts n7 hown hK hP 0 mg_0 rfl 5 (by decide) lk1 (fun _ h9 => h9) rfl dX7_generator_123 ?_
          refine lv_iload hx hb dX7_generator_126 (lv_at hl 0 rfl) ?_
          refine lv_iconst (v := 3) hx hb dX7_generator_128 (by decide) ?_
          refine lv_iadd hx hb dX7_generator_129 ?_
          refine lv_iload hx hb dX7_generator_130 (lv_at hl 6 rfl) ?_
          refine va_iast hx hb hK hP (cD hwd) hS 3 0 (mg_a ⟨by decide, by decide, by decide⟩) rfl h.1 dX7_generator_132 (fun H locs hP _ hS => ?_)
          replace hP := mu_a hwd ⟨by decide, by decide, by decide⟩ hP
          obtain ⟨u38, eu38⟩ : ∃ y : St, y = su u37 3 (v34 + 3).toNatClampNeg a4 := ⟨_, rfl⟩
          rw [← eu38] at hP
          replace h := h.2 u38 eu38
          refine lv_aload_n hx hb dX7_generator_133 rfl (lv_at hl 2 rfl) ?_
          refine lv_dup hx hb dX7_generator_134 rfl ?_
          refine va_get (C := RX7) (T := TX7) (N := 22) hx hb hts n7 hown hK hP 0 mg_0 rfl 6 (by decide) lk0 (fun _ h9 => h9) rfl dX7_generator_135 ?_
          refine lv_iconst (v := 1) hx hb dX7_generator_138 (by decide) ?_
          refine lv_iadd hx hb dX7_generator_139 ?_
          refine va_put (C := RX7) (T := TX7) (N := 22) (ty := .int) (v := .int ((u38 0 3) + 1)) hx hb hts n7 tyX7 tyX7_ok nmX7 hown hK hP (cD hwd) hS 0 mg_0 rfl 6 (by decide) lk0 (fun _ h9 => h9) rfl (by decide +kernel) rfl rfl (Nat.le_of_ble_eq_true rfl) dX7_generator_140 (fun H locs hP _ hS => ?_)
          replace hP := mu_generators hwd hP
          obtain ⟨u39, eu39⟩ : ∃ y : St, y = su u38 0 3 ((u38 0 3) + 1) := ⟨_, rfl⟩
          rw [← eu39] at hP
          replace h := h u39 eu39
          refine lv_aload_n hx hb dX7_generator_143 rfl (lv_at hl 2 rfl) ?_
          refine va_get (C := RX7) (T := TX7) (N := 22) hx hb hts n7 hown hK hP 0 mg_0 rfl 6 (by decide) lk0 (fun _ h9 => h9) rfl dX7_generator_144 ?_
          refine lv_iconst (v := 1) hx hb dX7_generator_147 (by decide) ?_
          refine lv_isub hx hb dX7_generator_148 ?_
          exact W.iret (v := ((u39 0 3) - 1)) hx hb hr (fun t ht hW => ⟨⟨_, _, rfl, h, by show va_P _ _ _ t.heap; rw [ht]; exact hP⟩, hS.F ht⟩) hS.2.2 dX7_generator_149
        · replace h := h.2 c33
          refine lv_iconst (v := 0) hx hb dX7_generator_84 (by decide) ?_
          exact W.iret (v := 0) hx hb hr (fun t ht hW => ⟨⟨_, _, rfl, h, by show va_P _ _ _ t.heap; rw [ht]; exact hP⟩, hS.F ht⟩) hS.2.2 dX7_generator_85
      · replace h := h.2 c29
        refine lv_aload_n hx hb dX7_generator_24 rfl (lv_at hl 0 rfl) ?_
        refine lv_iload hx hb dX7_generator_25 (lv_at hl 4 rfl) ?_
        refine cc_i (va_runV (C := RX7) (As := [.int a4]) (rest := []) ⟨hx, hb, hml, hown, hts⟩ (c_X7_isNumber hwd H.size u28 a4 _ h) (cwV 1 hts gX7_generator_X7_isNumber rfl rfl rfl (by decide +kernel) ⟨Nat.le_of_ble_eq_true rfl, Nat.le_of_ble_eq_true rfl⟩) (pmV hC hP hS mg_0 rfl) rfl rfl hl.1 rfl (lv_room (Nat.le_of_ble_eq_true rfl)) dX7_generator_27 ⟨Nat.zero_le _, Nat.zero_le _⟩) hS (cA_mono hS.1) (fun v40 u41 H locs h hP hS => ?_)
        refine lv_if_eq (tgt := 37) hx hb dX7_generator_30 (by decide) (fun c42 => ?_) (fun c42 => ?_)
        · replace h := h.1 c42
          refine lv_iconst (v := 0) hx hb dX7_generator_37 (by decide) ?_
          refine lv_istore (lv' := [(5, .int 0), (0, .ref (ad 0)), (1, .int a1), (2, .int a2), (3, .int a3), (4, .int a4)]) hx hb dX7_generator_38 hl (by decide) rfl (fun ls hl => ?_)
          refine lv_aload_n hx hb dX7_generator_40 rfl (lv_at hl 1 rfl) ?_
          refine lv_iload hx hb dX7_generator_41 (lv_at hl 0 rfl) ?_
          refine lv_if_eq (tgt := 61) hx hb dX7_generator_43 (by decide) (fun _ => ?_) (fun c43 => absurd c43 (by decide))
          refine lv_iconst (v := 1) hx hb dX7_generator_61 (by decide) ?_
          refine lv_goto (tgt := 78) hx hb dX7_generator_62 (by decide) ?_
          refine cc_i (va_runV (C := RX7) (As := [.int 1]) (rest := []) ⟨hx, hb, hml, hown, hts⟩ (c_X7_holds hwd H.size u41 1 _ h) (cwV 1 hts gX7_generator_X7_holds rfl rfl rfl (by decide +kernel) ⟨Nat.le_of_ble_eq_true rfl, Nat.le_of_ble_eq_true rfl⟩) (pmV hC hP hS mg_0 rfl) rfl rfl hl.1 rfl (lv_room (Nat.le_of_ble_eq_true rfl)) dX7_generator_78 ⟨Nat.zero_le _, Nat.zero_le _⟩) hS (cA_mono hS.1) (fun v44 u45 H locs h hP hS => ?_)
          refine lv_if_ne (tgt := 86) hx hb dX7_generator_81 (by decide) (fun c46 => ?_) (fun c46 => ?_)
          · replace h := h.1 c46
            refine lv_iconst (v := 4) hx hb dX7_generator_86 (by decide) ?_
            refine lv_aload_n hx hb dX7_generator_87 rfl (lv_at hl 1 rfl) ?_
            refine va_get (C := RX7) (T := TX7) (N := 22) hx hb hts n7 hown hK hP 0 mg_0 rfl 6 (by decide) lk0 (fun _ h9 => h9) rfl dX7_generator_88 ?_
            refine lv_imul hx hb dX7_generator_91 ?_
            refine lv_topi (fun v47 ev47 => ?_)
            replace h := h v47 ev47
            refine lv_istore (lv' := [(6, .int v47), (5, .int 0), (0, .ref (ad 0)), (1, .int a1), (2, .int a2), (3, .int a3), (4, .int a4)]) hx hb dX7_generator_92 hl (by decide) rfl (fun ls hl => ?_)
            refine lv_aload_n hx hb dX7_generator_94 rfl (lv_at hl 2 rfl) ?_
            refine va_get (C := RX7) (T := TX7) (N := 22) hx hb hts n7 hown hK hP 0 mg_0 rfl 5 (by decide) lk1 (fun _ h9 => h9) rfl dX7_generator_95 ?_
            refine lv_iload hx hb dX7_generator_98 (lv_at hl 0 rfl) ?_
            refine lv_iload_n hx hb dX7_generator_100 rfl (lv_at hl 3 rfl) ?_
            refine va_iast hx hb hK hP (cD hwd) hS 3 0 (mg_a ⟨by decide, by decide, by decide⟩) rfl h.1 dX7_generator_101 (fun H locs hP _ hS => ?_)
            replace hP := mu_a hwd ⟨by decide, by decide, by decide⟩ hP
            obtain ⟨u48, eu48⟩ : ∃ y : St, y = su u45 3 v47.toNatClampNeg a1 := ⟨_, rfl⟩
            rw [← eu48] at hP
            replace h := h.2 u48 eu48
            refine lv_aload_n hx hb dX7_generator_102 rfl (lv_at hl 2 rfl) ?_
            refine va_get (C := RX7) (T := TX7) (N := 22) hx hb hts n7 hown hK hP 0 mg_0 rfl 5 (by decide) lk1 (fun _ h9 => h9) rfl dX7_generator_103 ?_
            refine lv_iload hx hb dX7_generator_106 (lv_at hl 0 rfl) ?_
            refine lv_iconst (v := 1) hx hb dX7_generator_108 (by decide) ?_
            refine lv_iadd hx hb dX7_generator_109 ?_
            refine lv_iload_n hx hb dX7_generator_110 rfl (lv_at hl 4 rfl) ?_
            refine va_iast hx hb hK hP (cD hwd) hS 3 0 (mg_a ⟨by decide, by decide, by decide⟩) rfl h.1 dX7_generator_111 (fun H locs hP _ hS => ?_)
            replace hP := mu_a hwd ⟨by decide, by decide, by decide⟩ hP
            obtain ⟨u49, eu49⟩ : ∃ y : St, y = su u48 3 (v47 + 1).toNatClampNeg a2 := ⟨_, rfl⟩
            rw [← eu49] at hP
            replace h := h.2 u49 eu49
            refine lv_aload_n hx hb dX7_generator_112 rfl (lv_at hl 2 rfl) ?_
            refine va_get (C := RX7) (T := TX7) (N := 22) hx hb hts n7 hown hK hP 0 mg_0 rfl 5 (by decide) lk1 (fun _ h9 => h9) rfl dX7_generator_113 ?_
            refine lv_iload hx hb dX7_generator_116 (lv_at hl 0 rfl) ?_
            refine lv_iconst (v := 2) hx hb dX7_generator_118 (by decide) ?_
            refine lv_iadd hx hb dX7_generator_119 ?_
            refine lv_iload_n hx hb dX7_generator_120 rfl (lv_at hl 5 rfl) ?_
            refine va_iast hx hb hK hP (cD hwd) hS 3 0 (mg_a ⟨by decide, by decide, by decide⟩) rfl h.1 dX7_generator_121 (fun H locs hP _ hS => ?_)
            replace hP := mu_a hwd ⟨by decide, by decide, by decide⟩ hP
            obtain ⟨u50, eu50⟩ : ∃ y : St, y = su u49 3 (v47 + 2).toNatClampNeg a3 := ⟨_, rfl⟩
            rw [← eu50] at hP
            replace h := h.2 u50 eu50
            refine lv_aload_n hx hb dX7_generator_122 rfl (lv_at hl 2 rfl) ?_
            refine va_get (C := RX7) (T := TX7) (N := 22) hx hb hts n7 hown hK hP 0 mg_0 rfl 5 (by decide) lk1 (fun _ h9 => h9) rfl dX7_generator_123 ?_
            refine lv_iload hx hb dX7_generator_126 (lv_at hl 0 rfl) ?_
            refine lv_iconst (v := 3) hx hb dX7_generator_128 (by decide) ?_
            refine lv_iadd hx hb dX7_generator_129 ?_
            refine lv_iload hx hb dX7_generator_130 (lv_at hl 6 rfl) ?_
            refine va_iast hx hb hK hP (cD hwd) hS 3 0 (mg_a ⟨by decide, by decide, by decide⟩) rfl h.1 dX7_generator_132 (fun H locs hP _ hS => ?_)
            replace hP := mu_a hwd ⟨by decide, by decide, by decide⟩ hP
            obtain ⟨u51, eu51⟩ : ∃ y : St, y = su u50 3 (v47 + 3).toNatClampNeg a4 := ⟨_, rfl⟩
            rw [← eu51] at hP
            replace h := h.2 u51 eu51
            refine lv_aload_n hx hb dX7_generator_133 rfl (lv_at hl 2 rfl) ?_
            refine lv_dup hx hb dX7_generator_134 rfl ?_
            refine va_get (C := RX7) (T := TX7) (N := 22) hx hb hts n7 hown hK hP 0 mg_0 rfl 6 (by decide) lk0 (fun _ h9 => h9) rfl dX7_generator_135 ?_
            refine lv_iconst (v := 1) hx hb dX7_generator_138 (by decide) ?_
            refine lv_iadd hx hb dX7_generator_139 ?_
            refine va_put (C := RX7) (T := TX7) (N := 22) (ty := .int) (v := .int ((u51 0 3) + 1)) hx hb hts n7 tyX7 tyX7_ok nmX7 hown hK hP (cD hwd) hS 0 mg_0 rfl 6 (by decide) lk0 (fun _ h9 => h9) rfl (by decide +kernel) rfl rfl (Nat.le_of_ble_eq_true rfl) dX7_generator_140 (fun H locs hP _ hS => ?_)
            replace hP := mu_generators hwd hP
            obtain ⟨u52, eu52⟩ : ∃ y : St, y = su u51 0 3 ((u51 0 3) + 1) := ⟨_, rfl⟩
            rw [← eu52] at hP
            replace h := h u52 eu52
            refine lv_aload_n hx hb dX7_generator_143 rfl (lv_at hl 2 rfl) ?_
            refine va_get (C := RX7) (T := TX7) (N := 22) hx hb hts n7 hown hK hP 0 mg_0 rfl 6 (by decide) lk0 (fun _ h9 => h9) rfl dX7_generator_144 ?_
            refine lv_iconst (v := 1) hx hb dX7_generator_147 (by decide) ?_
            refine lv_isub hx hb dX7_generator_148 ?_
            exact W.iret (v := ((u52 0 3) - 1)) hx hb hr (fun t ht hW => ⟨⟨_, _, rfl, h, by show va_P _ _ _ t.heap; rw [ht]; exact hP⟩, hS.F ht⟩) hS.2.2 dX7_generator_149
          · replace h := h.2 c46
            refine lv_iconst (v := 0) hx hb dX7_generator_84 (by decide) ?_
            exact W.iret (v := 0) hx hb hr (fun t ht hW => ⟨⟨_, _, rfl, h, by show va_P _ _ _ t.heap; rw [ht]; exact hP⟩, hS.F ht⟩) hS.2.2 dX7_generator_85
        · replace h := h.2 c42
          refine lv_iconst (v := 1) hx hb dX7_generator_33 (by decide) ?_
          refine lv_goto (tgt := 38) hx hb dX7_generator_34 (by decide) ?_
          refine lv_istore (lv' := [(5, .int 1), (0, .ref (ad 0)), (1, .int a1), (2, .int a2), (3, .int a3), (4, .int a4)]) hx hb dX7_generator_38 hl (by decide) rfl (fun ls hl => ?_)
          refine lv_aload_n hx hb dX7_generator_40 rfl (lv_at hl 1 rfl) ?_
          refine lv_iload hx hb dX7_generator_41 (lv_at hl 0 rfl) ?_
          refine lv_if_eq (tgt := 61) hx hb dX7_generator_43 (by decide) (fun c53 => absurd c53 (by decide)) (fun _ => ?_)
          refine lv_aload_n hx hb dX7_generator_46 rfl (lv_at hl 1 rfl) ?_
          refine lv_iload_n hx hb dX7_generator_47 rfl (lv_at hl 2 rfl) ?_
          refine lv_iload hx hb dX7_generator_48 (lv_at hl 5 rfl) ?_
          refine lv_imul hx hb dX7_generator_50 ?_
          refine lv_iload_n hx hb dX7_generator_51 rfl (lv_at hl 3 rfl) ?_
          refine lv_iload_n hx hb dX7_generator_52 rfl (lv_at hl 4 rfl) ?_
          refine lv_imul hx hb dX7_generator_53 ?_
          refine lv_isub hx hb dX7_generator_54 ?_
          refine cc_i (va_runV (C := RX7) (As := [.int ((a1 * a4) - (a2 * a3))]) (rest := [.ref (ad 0)]) ⟨hx, hb, hml, hown, hts⟩ (c_X7_mod hwd H.size u41 ((a1 * a4) - (a2 * a3)) _ h) (cwV 1 hts gX7_generator_X7_mod rfl rfl rfl (by decide +kernel) ⟨Nat.le_of_ble_eq_true rfl, Nat.le_of_ble_eq_true rfl⟩) (pmV hC hP hS mg_0 rfl) rfl rfl hl.1 rfl (lv_room (Nat.le_of_ble_eq_true rfl)) dX7_generator_55 ⟨Nat.zero_le _, Nat.zero_le _⟩) hS (cA_mono hS.1) (fun v54 u55 H locs h hP hS => ?_)
          refine lv_if_ne (tgt := 65) hx hb dX7_generator_58 (by decide) (fun c56 => ?_) (fun c56 => ?_)
          · replace h := h.1 c56
            refine lv_aload_n hx hb dX7_generator_65 rfl (lv_at hl 1 rfl) ?_
            refine va_get (C := RX7) (T := TX7) (N := 22) hx hb hts n7 hown hK hP 0 mg_0 rfl 6 (by decide) lk0 (fun _ h9 => h9) rfl dX7_generator_66 ?_
            refine lv_iconst (v := 4) hx hb dX7_generator_69 (by decide) ?_
            refine lv_icmp_ne (tgt := 77) hx hb dX7_generator_70 (by decide) (fun c57 => ?_) (fun c57 => ?_)
            · replace h := h.1 c57
              refine lv_iconst (v := 0) hx hb dX7_generator_77 (by decide) ?_
              refine cc_i (va_runV (C := RX7) (As := [.int 0]) (rest := []) ⟨hx, hb, hml, hown, hts⟩ (c_X7_holds hwd H.size u55 0 _ h) (cwV 1 hts gX7_generator_X7_holds rfl rfl rfl (by decide +kernel) ⟨Nat.le_of_ble_eq_true rfl, Nat.le_of_ble_eq_true rfl⟩) (pmV hC hP hS mg_0 rfl) rfl rfl hl.1 rfl (lv_room (Nat.le_of_ble_eq_true rfl)) dX7_generator_78 ⟨Nat.zero_le _, Nat.zero_le _⟩) hS (cA_mono hS.1) (fun v58 u59 H locs h hP hS => ?_)
              refine lv_if_ne (tgt := 86) hx hb dX7_generator_81 (by decide) (fun c60 => ?_) (fun c60 => ?_)
              · replace h := h.1 c60
                refine lv_iconst (v := 4) hx hb dX7_generator_86 (by decide) ?_
                refine lv_aload_n hx hb dX7_generator_87 rfl (lv_at hl 1 rfl) ?_
                refine va_get (C := RX7) (T := TX7) (N := 22) hx hb hts n7 hown hK hP 0 mg_0 rfl 6 (by decide) lk0 (fun _ h9 => h9) rfl dX7_generator_88 ?_
                refine lv_imul hx hb dX7_generator_91 ?_
                refine lv_topi (fun v61 ev61 => ?_)
                replace h := h v61 ev61
                refine lv_istore (lv' := [(6, .int v61), (5, .int 1), (0, .ref (ad 0)), (1, .int a1), (2, .int a2), (3, .int a3), (4, .int a4)]) hx hb dX7_generator_92 hl (by decide) rfl (fun ls hl => ?_)
                refine lv_aload_n hx hb dX7_generator_94 rfl (lv_at hl 2 rfl) ?_
                refine va_get (C := RX7) (T := TX7) (N := 22) hx hb hts n7 hown hK hP 0 mg_0 rfl 5 (by decide) lk1 (fun _ h9 => h9) rfl dX7_generator_95 ?_
                refine lv_iload hx hb dX7_generator_98 (lv_at hl 0 rfl) ?_
                refine lv_iload_n hx hb dX7_generator_100 rfl (lv_at hl 3 rfl) ?_
                refine va_iast hx hb hK hP (cD hwd) hS 3 0 (mg_a ⟨by decide, by decide, by decide⟩) rfl h.1 dX7_generator_101 (fun H locs hP _ hS => ?_)
                replace hP := mu_a hwd ⟨by decide, by decide, by decide⟩ hP
                obtain ⟨u62, eu62⟩ : ∃ y : St, y = su u59 3 v61.toNatClampNeg a1 := ⟨_, rfl⟩
                rw [← eu62] at hP
                replace h := h.2 u62 eu62
                refine lv_aload_n hx hb dX7_generator_102 rfl (lv_at hl 2 rfl) ?_
                refine va_get (C := RX7) (T := TX7) (N := 22) hx hb hts n7 hown hK hP 0 mg_0 rfl 5 (by decide) lk1 (fun _ h9 => h9) rfl dX7_generator_103 ?_
                refine lv_iload hx hb dX7_generator_106 (lv_at hl 0 rfl) ?_
                refine lv_iconst (v := 1) hx hb dX7_generator_108 (by decide) ?_
                refine lv_iadd hx hb dX7_generator_109 ?_
                refine lv_iload_n hx hb dX7_generator_110 rfl (lv_at hl 4 rfl) ?_
                refine va_iast hx hb hK hP (cD hwd) hS 3 0 (mg_a ⟨by decide, by decide, by decide⟩) rfl h.1 dX7_generator_111 (fun H locs hP _ hS => ?_)
                replace hP := mu_a hwd ⟨by decide, by decide, by decide⟩ hP
                obtain ⟨u63, eu63⟩ : ∃ y : St, y = su u62 3 (v61 + 1).toNatClampNeg a2 := ⟨_, rfl⟩
                rw [← eu63] at hP
                replace h := h.2 u63 eu63
                refine lv_aload_n hx hb dX7_generator_112 rfl (lv_at hl 2 rfl) ?_
                refine va_get (C := RX7) (T := TX7) (N := 22) hx hb hts n7 hown hK hP 0 mg_0 rfl 5 (by decide) lk1 (fun _ h9 => h9) rfl dX7_generator_113 ?_
                refine lv_iload hx hb dX7_generator_116 (lv_at hl 0 rfl) ?_
                refine lv_iconst (v := 2) hx hb dX7_generator_118 (by decide) ?_
                refine lv_iadd hx hb dX7_generator_119 ?_
                refine lv_iload_n hx hb dX7_generator_120 rfl (lv_at hl 5 rfl) ?_
                refine va_iast hx hb hK hP (cD hwd) hS 3 0 (mg_a ⟨by decide, by decide, by decide⟩) rfl h.1 dX7_generator_121 (fun H locs hP _ hS => ?_)
                replace hP := mu_a hwd ⟨by decide, by decide, by decide⟩ hP
                obtain ⟨u64, eu64⟩ : ∃ y : St, y = su u63 3 (v61 + 2).toNatClampNeg a3 := ⟨_, rfl⟩
                rw [← eu64] at hP
                replace h := h.2 u64 eu64
                refine lv_aload_n hx hb dX7_generator_122 rfl (lv_at hl 2 rfl) ?_
                refine va_get (C := RX7) (T := TX7) (N := 22) hx hb hts n7 hown hK hP 0 mg_0 rfl 5 (by decide) lk1 (fun _ h9 => h9) rfl dX7_generator_123 ?_
                refine lv_iload hx hb dX7_generator_126 (lv_at hl 0 rfl) ?_
                refine lv_iconst (v := 3) hx hb dX7_generator_128 (by decide) ?_
                refine lv_iadd hx hb dX7_generator_129 ?_
                refine lv_iload hx hb dX7_generator_130 (lv_at hl 6 rfl) ?_
                refine va_iast hx hb hK hP (cD hwd) hS 3 0 (mg_a ⟨by decide, by decide, by decide⟩) rfl h.1 dX7_generator_132 (fun H locs hP _ hS => ?_)
                replace hP := mu_a hwd ⟨by decide, by decide, by decide⟩ hP
                obtain ⟨u65, eu65⟩ : ∃ y : St, y = su u64 3 (v61 + 3).toNatClampNeg a4 := ⟨_, rfl⟩
                rw [← eu65] at hP
                replace h := h.2 u65 eu65
                refine lv_aload_n hx hb dX7_generator_133 rfl (lv_at hl 2 rfl) ?_
                refine lv_dup hx hb dX7_generator_134 rfl ?_
                refine va_get (C := RX7) (T := TX7) (N := 22) hx hb hts n7 hown hK hP 0 mg_0 rfl 6 (by decide) lk0 (fun _ h9 => h9) rfl dX7_generator_135 ?_
                refine lv_iconst (v := 1) hx hb dX7_generator_138 (by decide) ?_
                refine lv_iadd hx hb dX7_generator_139 ?_
                refine va_put (C := RX7) (T := TX7) (N := 22) (ty := .int) (v := .int ((u65 0 3) + 1)) hx hb hts n7 tyX7 tyX7_ok nmX7 hown hK hP (cD hwd) hS 0 mg_0 rfl 6 (by decide) lk0 (fun _ h9 => h9) rfl (by decide +kernel) rfl rfl (Nat.le_of_ble_eq_true rfl) dX7_generator_140 (fun H locs hP _ hS => ?_)
                replace hP := mu_generators hwd hP
                obtain ⟨u66, eu66⟩ : ∃ y : St, y = su u65 0 3 ((u65 0 3) + 1) := ⟨_, rfl⟩
                rw [← eu66] at hP
                replace h := h u66 eu66
                refine lv_aload_n hx hb dX7_generator_143 rfl (lv_at hl 2 rfl) ?_
                refine va_get (C := RX7) (T := TX7) (N := 22) hx hb hts n7 hown hK hP 0 mg_0 rfl 6 (by decide) lk0 (fun _ h9 => h9) rfl dX7_generator_144 ?_
                refine lv_iconst (v := 1) hx hb dX7_generator_147 (by decide) ?_
                refine lv_isub hx hb dX7_generator_148 ?_
                exact W.iret (v := ((u66 0 3) - 1)) hx hb hr (fun t ht hW => ⟨⟨_, _, rfl, h, by show va_P _ _ _ t.heap; rw [ht]; exact hP⟩, hS.F ht⟩) hS.2.2 dX7_generator_149
              · replace h := h.2 c60
                refine lv_iconst (v := 0) hx hb dX7_generator_84 (by decide) ?_
                exact W.iret (v := 0) hx hb hr (fun t ht hW => ⟨⟨_, _, rfl, h, by show va_P _ _ _ t.heap; rw [ht]; exact hP⟩, hS.F ht⟩) hS.2.2 dX7_generator_85
            · replace h := h.2 c57
              refine lv_iconst (v := 2) hx hb dX7_generator_73 (by decide) ?_
              refine lv_goto (tgt := 78) hx hb dX7_generator_74 (by decide) ?_
              refine cc_i (va_runV (C := RX7) (As := [.int 2]) (rest := []) ⟨hx, hb, hml, hown, hts⟩ (c_X7_holds hwd H.size u55 2 _ h) (cwV 1 hts gX7_generator_X7_holds rfl rfl rfl (by decide +kernel) ⟨Nat.le_of_ble_eq_true rfl, Nat.le_of_ble_eq_true rfl⟩) (pmV hC hP hS mg_0 rfl) rfl rfl hl.1 rfl (lv_room (Nat.le_of_ble_eq_true rfl)) dX7_generator_78 ⟨Nat.zero_le _, Nat.zero_le _⟩) hS (cA_mono hS.1) (fun v67 u68 H locs h hP hS => ?_)
              refine lv_if_ne (tgt := 86) hx hb dX7_generator_81 (by decide) (fun c69 => ?_) (fun c69 => ?_)
              · replace h := h.1 c69
                refine lv_iconst (v := 4) hx hb dX7_generator_86 (by decide) ?_
                refine lv_aload_n hx hb dX7_generator_87 rfl (lv_at hl 1 rfl) ?_
                refine va_get (C := RX7) (T := TX7) (N := 22) hx hb hts n7 hown hK hP 0 mg_0 rfl 6 (by decide) lk0 (fun _ h9 => h9) rfl dX7_generator_88 ?_
                refine lv_imul hx hb dX7_generator_91 ?_
                refine lv_topi (fun v70 ev70 => ?_)
                replace h := h v70 ev70
                refine lv_istore (lv' := [(6, .int v70), (5, .int 1), (0, .ref (ad 0)), (1, .int a1), (2, .int a2), (3, .int a3), (4, .int a4)]) hx hb dX7_generator_92 hl (by decide) rfl (fun ls hl => ?_)
                refine lv_aload_n hx hb dX7_generator_94 rfl (lv_at hl 2 rfl) ?_
                refine va_get (C := RX7) (T := TX7) (N := 22) hx hb hts n7 hown hK hP 0 mg_0 rfl 5 (by decide) lk1 (fun _ h9 => h9) rfl dX7_generator_95 ?_
                refine lv_iload hx hb dX7_generator_98 (lv_at hl 0 rfl) ?_
                refine lv_iload_n hx hb dX7_generator_100 rfl (lv_at hl 3 rfl) ?_
                refine va_iast hx hb hK hP (cD hwd) hS 3 0 (mg_a ⟨by decide, by decide, by decide⟩) rfl h.1 dX7_generator_101 (fun H locs hP _ hS => ?_)
                replace hP := mu_a hwd ⟨by decide, by decide, by decide⟩ hP
                obtain ⟨u71, eu71⟩ : ∃ y : St, y = su u68 3 v70.toNatClampNeg a1 := ⟨_, rfl⟩
                rw [← eu71] at hP
                replace h := h.2 u71 eu71
                refine lv_aload_n hx hb dX7_generator_102 rfl (lv_at hl 2 rfl) ?_
                refine va_get (C := RX7) (T := TX7) (N := 22) hx hb hts n7 hown hK hP 0 mg_0 rfl 5 (by decide) lk1 (fun _ h9 => h9) rfl dX7_generator_103 ?_
                refine lv_iload hx hb dX7_generator_106 (lv_at hl 0 rfl) ?_
                refine lv_iconst (v := 1) hx hb dX7_generator_108 (by decide) ?_
                refine lv_iadd hx hb dX7_generator_109 ?_
                refine lv_iload_n hx hb dX7_generator_110 rfl (lv_at hl 4 rfl) ?_
                refine va_iast hx hb hK hP (cD hwd) hS 3 0 (mg_a ⟨by decide, by decide, by decide⟩) rfl h.1 dX7_generator_111 (fun H locs hP _ hS => ?_)
                replace hP := mu_a hwd ⟨by decide, by decide, by decide⟩ hP
                obtain ⟨u72, eu72⟩ : ∃ y : St, y = su u71 3 (v70 + 1).toNatClampNeg a2 := ⟨_, rfl⟩
                rw [← eu72] at hP
                replace h := h.2 u72 eu72
                refine lv_aload_n hx hb dX7_generator_112 rfl (lv_at hl 2 rfl) ?_
                refine va_get (C := RX7) (T := TX7) (N := 22) hx hb hts n7 hown hK hP 0 mg_0 rfl 5 (by decide) lk1 (fun _ h9 => h9) rfl dX7_generator_113 ?_
                refine lv_iload hx hb dX7_generator_116 (lv_at hl 0 rfl) ?_
                refine lv_iconst (v := 2) hx hb dX7_generator_118 (by decide) ?_
                refine lv_iadd hx hb dX7_generator_119 ?_
                refine lv_iload_n hx hb dX7_generator_120 rfl (lv_at hl 5 rfl) ?_
                refine va_iast hx hb hK hP (cD hwd) hS 3 0 (mg_a ⟨by decide, by decide, by decide⟩) rfl h.1 dX7_generator_121 (fun H locs hP _ hS => ?_)
                replace hP := mu_a hwd ⟨by decide, by decide, by decide⟩ hP
                obtain ⟨u73, eu73⟩ : ∃ y : St, y = su u72 3 (v70 + 2).toNatClampNeg a3 := ⟨_, rfl⟩
                rw [← eu73] at hP
                replace h := h.2 u73 eu73
                refine lv_aload_n hx hb dX7_generator_122 rfl (lv_at hl 2 rfl) ?_
                refine va_get (C := RX7) (T := TX7) (N := 22) hx hb hts n7 hown hK hP 0 mg_0 rfl 5 (by decide) lk1 (fun _ h9 => h9) rfl dX7_generator_123 ?_
                refine lv_iload hx hb dX7_generator_126 (lv_at hl 0 rfl) ?_
                refine lv_iconst (v := 3) hx hb dX7_generator_128 (by decide) ?_
                refine lv_iadd hx hb dX7_generator_129 ?_
                refine lv_iload hx hb dX7_generator_130 (lv_at hl 6 rfl) ?_
                refine va_iast hx hb hK hP (cD hwd) hS 3 0 (mg_a ⟨by decide, by decide, by decide⟩) rfl h.1 dX7_generator_132 (fun H locs hP _ hS => ?_)
                replace hP := mu_a hwd ⟨by decide, by decide, by decide⟩ hP
                obtain ⟨u74, eu74⟩ : ∃ y : St, y = su u73 3 (v70 + 3).toNatClampNeg a4 := ⟨_, rfl⟩
                rw [← eu74] at hP
                replace h := h.2 u74 eu74
                refine lv_aload_n hx hb dX7_generator_133 rfl (lv_at hl 2 rfl) ?_
                refine lv_dup hx hb dX7_generator_134 rfl ?_
                refine va_get (C := RX7) (T := TX7) (N := 22) hx hb hts n7 hown hK hP 0 mg_0 rfl 6 (by decide) lk0 (fun _ h9 => h9) rfl dX7_generator_135 ?_
                refine lv_iconst (v := 1) hx hb dX7_generator_138 (by decide) ?_
                refine lv_iadd hx hb dX7_generator_139 ?_
                refine va_put (C := RX7) (T := TX7) (N := 22) (ty := .int) (v := .int ((u74 0 3) + 1)) hx hb hts n7 tyX7 tyX7_ok nmX7 hown hK hP (cD hwd) hS 0 mg_0 rfl 6 (by decide) lk0 (fun _ h9 => h9) rfl (by decide +kernel) rfl rfl (Nat.le_of_ble_eq_true rfl) dX7_generator_140 (fun H locs hP _ hS => ?_)
                replace hP := mu_generators hwd hP
                obtain ⟨u75, eu75⟩ : ∃ y : St, y = su u74 0 3 ((u74 0 3) + 1) := ⟨_, rfl⟩
                rw [← eu75] at hP
                replace h := h u75 eu75
                refine lv_aload_n hx hb dX7_generator_143 rfl (lv_at hl 2 rfl) ?_
                refine va_get (C := RX7) (T := TX7) (N := 22) hx hb hts n7 hown hK hP 0 mg_0 rfl 6 (by decide) lk0 (fun _ h9 => h9) rfl dX7_generator_144 ?_
                refine lv_iconst (v := 1) hx hb dX7_generator_147 (by decide) ?_
                refine lv_isub hx hb dX7_generator_148 ?_
                exact W.iret (v := ((u75 0 3) - 1)) hx hb hr (fun t ht hW => ⟨⟨_, _, rfl, h, by show va_P _ _ _ t.heap; rw [ht]; exact hP⟩, hS.F ht⟩) hS.2.2 dX7_generator_149
              · replace h := h.2 c69
                refine lv_iconst (v := 0) hx hb dX7_generator_84 (by decide) ?_
                exact W.iret (v := 0) hx hb hr (fun t ht hW => ⟨⟨_, _, rfl, h, by show va_P _ _ _ t.heap; rw [ht]; exact hP⟩, hS.F ht⟩) hS.2.2 dX7_generator_85
          · replace h := h.2 c56
            refine lv_iconst (v := 1) hx hb dX7_generator_61 (by decide) ?_
            refine lv_goto (tgt := 78) hx hb dX7_generator_62 (by decide) ?_
            refine cc_i (va_runV (C := RX7) (As := [.int 1]) (rest := []) ⟨hx, hb, hml, hown, hts⟩ (c_X7_holds hwd H.size u55 1 _ h) (cwV 1 hts gX7_generator_X7_holds rfl rfl rfl (by decide +kernel) ⟨Nat.le_of_ble_eq_true rfl, Nat.le_of_ble_eq_true rfl⟩) (pmV hC hP hS mg_0 rfl) rfl rfl hl.1 rfl (lv_room (Nat.le_of_ble_eq_true rfl)) dX7_generator_78 ⟨Nat.zero_le _, Nat.zero_le _⟩) hS (cA_mono hS.1) (fun v76 u77 H locs h hP hS => ?_)
            refine lv_if_ne (tgt := 86) hx hb dX7_generator_81 (by decide) (fun c78 => ?_) (fun c78 => ?_)
            · replace h := h.1 c78
              refine lv_iconst (v := 4) hx hb dX7_generator_86 (by decide) ?_
              refine lv_aload_n hx hb dX7_generator_87 rfl (lv_at hl 1 rfl) ?_
              refine va_get (C := RX7) (T := TX7) (N := 22) hx hb hts n7 hown hK hP 0 mg_0 rfl 6 (by decide) lk0 (fun _ h9 => h9) rfl dX7_generator_88 ?_
              refine lv_imul hx hb dX7_generator_91 ?_
              refine lv_topi (fun v79 ev79 => ?_)
              replace h := h v79 ev79
              refine lv_istore (lv' := [(6, .int v79), (5, .int 1), (0, .ref (ad 0)), (1, .int a1), (2, .int a2), (3, .int a3), (4, .int a4)]) hx hb dX7_generator_92 hl (by decide) rfl (fun ls hl => ?_)
              refine lv_aload_n hx hb dX7_generator_94 rfl (lv_at hl 2 rfl) ?_
              refine va_get (C := RX7) (T := TX7) (N := 22) hx hb hts n7 hown hK hP 0 mg_0 rfl 5 (by decide) lk1 (fun _ h9 => h9) rfl dX7_generator_95 ?_
              refine lv_iload hx hb dX7_generator_98 (lv_at hl 0 rfl) ?_
              refine lv_iload_n hx hb dX7_generator_100 rfl (lv_at hl 3 rfl) ?_
              refine va_iast hx hb hK hP (cD hwd) hS 3 0 (mg_a ⟨by decide, by decide, by decide⟩) rfl h.1 dX7_generator_101 (fun H locs hP _ hS => ?_)
              replace hP := mu_a hwd ⟨by decide, by decide, by decide⟩ hP
              obtain ⟨u80, eu80⟩ : ∃ y : St, y = su u77 3 v79.toNatClampNeg a1 := ⟨_, rfl⟩
              rw [← eu80] at hP
              replace h := h.2 u80 eu80
              refine lv_aload_n hx hb dX7_generator_102 rfl (lv_at hl 2 rfl) ?_
              refine va_get (C := RX7) (T := TX7) (N := 22) hx hb hts n7 hown hK hP 0 mg_0 rfl 5 (by decide) lk1 (fun _ h9 => h9) rfl dX7_generator_103 ?_
              refine lv_iload hx hb dX7_generator_106 (lv_at hl 0 rfl) ?_
              refine lv_iconst (v := 1) hx hb dX7_generator_108 (by decide) ?_
              refine lv_iadd hx hb dX7_generator_109 ?_
              refine lv_iload_n hx hb dX7_generator_110 rfl (lv_at hl 4 rfl) ?_
              refine va_iast hx hb hK hP (cD hwd) hS 3 0 (mg_a ⟨by decide, by decide, by decide⟩) rfl h.1 dX7_generator_111 (fun H locs hP _ hS => ?_)
              replace hP := mu_a hwd ⟨by decide, by decide, by decide⟩ hP
              obtain ⟨u81, eu81⟩ : ∃ y : St, y = su u80 3 (v79 + 1).toNatClampNeg a2 := ⟨_, rfl⟩
              rw [← eu81] at hP
              replace h := h.2 u81 eu81
              refine lv_aload_n hx hb dX7_generator_112 rfl (lv_at hl 2 rfl) ?_
              refine va_get (C := RX7) (T := TX7) (N := 22) hx hb hts n7 hown hK hP 0 mg_0 rfl 5 (by decide) lk1 (fun _ h9 => h9) rfl dX7_generator_113 ?_
              refine lv_iload hx hb dX7_generator_116 (lv_at hl 0 rfl) ?_
              refine lv_iconst (v := 2) hx hb dX7_generator_118 (by decide) ?_
              refine lv_iadd hx hb dX7_generator_119 ?_
              refine lv_iload_n hx hb dX7_generator_120 rfl (lv_at hl 5 rfl) ?_
              refine va_iast hx hb hK hP (cD hwd) hS 3 0 (mg_a ⟨by decide, by decide, by decide⟩) rfl h.1 dX7_generator_121 (fun H locs hP _ hS => ?_)
              replace hP := mu_a hwd ⟨by decide, by decide, by decide⟩ hP
              obtain ⟨u82, eu82⟩ : ∃ y : St, y = su u81 3 (v79 + 2).toNatClampNeg a3 := ⟨_, rfl⟩
              rw [← eu82] at hP
              replace h := h.2 u82 eu82
              refine lv_aload_n hx hb dX7_generator_122 rfl (lv_at hl 2 rfl) ?_
              refine va_get (C := RX7) (T := TX7) (N := 22) hx hb hts n7 hown hK hP 0 mg_0 rfl 5 (by decide) lk1 (fun _ h9 => h9) rfl dX7_generator_123 ?_
              refine lv_iload hx hb dX7_generator_126 (lv_at hl 0 rfl) ?_
              refine lv_iconst (v := 3) hx hb dX7_generator_128 (by decide) ?_
              refine lv_iadd hx hb dX7_generator_129 ?_
              refine lv_iload hx hb dX7_generator_130 (lv_at hl 6 rfl) ?_
              refine va_iast hx hb hK hP (cD hwd) hS 3 0 (mg_a ⟨by decide, by decide, by decide⟩) rfl h.1 dX7_generator_132 (fun H locs hP _ hS => ?_)
              replace hP := mu_a hwd ⟨by decide, by decide, by decide⟩ hP
              obtain ⟨u83, eu83⟩ : ∃ y : St, y = su u82 3 (v79 + 3).toNatClampNeg a4 := ⟨_, rfl⟩
              rw [← eu83] at hP
              replace h := h.2 u83 eu83
              refine lv_aload_n hx hb dX7_generator_133 rfl (lv_at hl 2 rfl) ?_
              refine lv_dup hx hb dX7_generator_134 rfl ?_
              refine va_get (C := RX7) (T := TX7) (N := 22) hx hb hts n7 hown hK hP 0 mg_0 rfl 6 (by decide) lk0 (fun _ h9 => h9) rfl dX7_generator_135 ?_
              refine lv_iconst (v := 1) hx hb dX7_generator_138 (by decide) ?_
              refine lv_iadd hx hb dX7_generator_139 ?_
              refine va_put (C := RX7) (T := TX7) (N := 22) (ty := .int) (v := .int ((u83 0 3) + 1)) hx hb hts n7 tyX7 tyX7_ok nmX7 hown hK hP (cD hwd) hS 0 mg_0 rfl 6 (by decide) lk0 (fun _ h9 => h9) rfl (by decide +kernel) rfl rfl (Nat.le_of_ble_eq_true rfl) dX7_generator_140 (fun H locs hP _ hS => ?_)
              replace hP := mu_generators hwd hP
              obtain ⟨u84, eu84⟩ : ∃ y : St, y = su u83 0 3 ((u83 0 3) + 1) := ⟨_, rfl⟩
              rw [← eu84] at hP
              replace h := h u84 eu84
              refine lv_aload_n hx hb dX7_generator_143 rfl (lv_at hl 2 rfl) ?_
              refine va_get (C := RX7) (T := TX7) (N := 22) hx hb hts n7 hown hK hP 0 mg_0 rfl 6 (by decide) lk0 (fun _ h9 => h9) rfl dX7_generator_144 ?_
              refine lv_iconst (v := 1) hx hb dX7_generator_147 (by decide) ?_
              refine lv_isub hx hb dX7_generator_148 ?_
              exact W.iret (v := ((u84 0 3) - 1)) hx hb hr (fun t ht hW => ⟨⟨_, _, rfl, h, by show va_P _ _ _ t.heap; rw [ht]; exact hP⟩, hS.F ht⟩) hS.2.2 dX7_generator_149
            · replace h := h.2 c78
              refine lv_iconst (v := 0) hx hb dX7_generator_84 (by decide) ?_
              exact W.iret (v := 0) hx hb hr (fun t ht hW => ⟨⟨_, _, rfl, h, by show va_P _ _ _ t.heap; rw [ht]; exact hP⟩, hS.F ht⟩) hS.2.2 dX7_generator_85
set_option maxRecDepth 100000 in
set_option maxHeartbeats 4000000 in
theorem c_X7_generator {l : Launch} {D : va_G} {cI cG cZ cJ : ClassId} {ts : Nat × Nat} {ad : Nat → Nat} (hwd : WD mLs ad) (sz : Nat) (u : St) (a1 : Int32) (a2 : Int32) (a3 : Int32) (a4 : Int32) (Q : Int32 → St → Prop) (h : f_X7_generator a1 a2 a3 a4 u Q) : Met l yX7_generator wsX7_generator ({ frames := 2, cells := 0, slots := 0, locals := 43 }) (va_Pc [.ref (ad 0), .int a1, .int a2, .int a3, .int a4] (PM D cI cG cZ cJ ts ad sz u)) (va_Qi Q (fun u9 t => va_P D vwCl (mW cI cZ ad u9) t.heap) (cA mLs ad sz)) 0 0 (cA mLs ad sz) := by
  refine Met.ofW (cc := cX7_generator) (maxL := 7) (ret := (some .int)) (by decide) rfl ?_
  intro p e s m args below meth c s₁ B hml hv
  obtain ⟨rfl, hsz, hP, hC⟩ := hv
  subst hsz
  have X : FX RX7 wsX7_generator cX7_generator 7 (some .int) D cI cG cZ cJ ts mLs ad p s m _ meth c := ⟨B.exec, B.bytes, hml, findClass_of_methodNamed B.named, atoms_spec (ws := wsX7_generator) B.pre, B.returns, B.notSynchronized, hwd, hC⟩
  have hl := lv_entry ([.ref (ad 0), .int a1, .int a2, .int a3, .int a4]) (n := 7) (Nat.le_of_ble_eq_true rfl)
  rw [lg_entry_eq]
  generalize (lg_sl ([.ref (ad 0), .int a1, .int a2, .int a3, .int a4]) ++ List.replicate (7 - (lg_sl ([.ref (ad 0), .int a1, .int a2, .int a3, .int a4])).length) Slot.unset).toArray = ls at hl ⊢
  exact w_X7_generator X a1 a2 a3 a4 Q u _ _ _ h hP va_S.rf hl
set_option maxRecDepth 100000 in
set_option maxHeartbeats 4000000 in
theorem w_X7_joins {p : Program} {l : Launch} {e : Env} {s : State} {m : MethodId} {args : Array Value} {below : List Frame} {meth : Method} {c : Code} {D : va_G} {cI cG cZ cJ : ClassId} {ts : Nat × Nat}  {ad : Nat → Nat}  (X : FX RX7 wsX7_joins cX7_joins 2 none D cI cG cZ cJ ts mLs ad p s m args meth c) (a1 : Int32) (Q : St → Prop) (u : St) (H : Heap) (locs : List Loc) (ls : Array Slot) (h : f_X7_joins a1 u Q) (hP : va_P D vwCl (mW cI cZ ad u) H) (hS : va_S (cA mLs ad s.heap.size) s.heap H locs) (hl : lv_has ls 2 [(0, .ref (ad 0)), (1, .int a1)]) : W p l e (headSpec wsX7_joins { frames := 0, cells := 0, slots := 0, locals := 0 }).room s m args below meth c H locs 0 0 (MQ below (va_Qv Q (fun u9 t => va_P D vwCl (mW cI cZ ad u9) t.heap) (cA mLs ad s.heap.size)) args s 0 0 (cA mLs ad s.heap.size)) (F0 m 0 ls []) := by
  obtain ⟨hx, hb, hml, hown, hts, hr, hlocks, hwd, hC⟩ := id X
  have hK := hC.1
  have lk0 := hts (.fieldLink RX7 23 "FormForgeModel" "isThere" "[Z") (by decide +kernel)
  have lk1 := hts (.fieldLink RX7 27 "FormForgeModel" "group" "[I") (by decide +kernel)
  have lk2 := hts (.fieldLink RX7 104 "FormForgeModel" "order" "I") (by decide +kernel)
  have n7 : ∀ w ∈ wsX70, w ∈ wsX7_joins := by decide +kernel
  unfold f_X7_joins at h
  refine lv_aload_n hx hb dX7_joins_0 rfl (lv_at hl 0 rfl) ?_
  refine va_get (C := RX7) (T := TX7) (N := 22) hx hb hts n7 hown hK hP 0 mg_0 rfl 7 (by decide) lk0 (fun _ h9 => h9) rfl dX7_joins_1 ?_
  refine lv_iload_n hx hb dX7_joins_4 rfl (lv_at hl 1 rfl) ?_
  refine va_zald hx hb hK hP 4 2 mg_4 rfl h.1 dX7_joins_5 ?_
  refine lv_topi (fun v1 ev1 => ?_)
  replace h := h.2 v1 ev1
  refine lv_if_ne (tgt := 36) hx hb dX7_joins_6 (by decide) (fun c2 => ?_) (fun c2 => ?_)
  · replace h := h.1 c2
    exact W.vret hx hb hr (fun t ht hW => ⟨⟨_, rfl, h, by show va_P _ _ _ t.heap; rw [ht]; exact hP⟩, hS.F ht⟩) hS.2.2 dX7_joins_36
  · replace h := h.2 c2
    refine lv_aload_n hx hb dX7_joins_9 rfl (lv_at hl 0 rfl) ?_
    refine va_get (C := RX7) (T := TX7) (N := 22) hx hb hts n7 hown hK hP 0 mg_0 rfl 7 (by decide) lk0 (fun _ h9 => h9) rfl dX7_joins_10 ?_
    refine lv_iload_n hx hb dX7_joins_13 rfl (lv_at hl 1 rfl) ?_
    refine lv_iconst (v := 1) hx hb dX7_joins_14 (by decide) ?_
    refine va_zast hx hb hK hP (cD hwd) hS 4 2 mg_4 rfl h.1 dX7_joins_15 (fun H locs hP _ hS => ?_)
    replace hP := mu_4 hwd hP
    obtain ⟨u3, eu3⟩ : ∃ y : St, y = su u 4 a1.toNatClampNeg (vp_nar .boolean 1) := ⟨_, rfl⟩
    rw [← eu3] at hP
    replace h := h.2 u3 eu3
    refine lv_aload_n hx hb dX7_joins_16 rfl (lv_at hl 0 rfl) ?_
    refine va_get (C := RX7) (T := TX7) (N := 22) hx hb hts n7 hown hK hP 0 mg_0 rfl 8 (by decide) lk1 (fun _ h9 => h9) rfl dX7_joins_17 ?_
    refine lv_aload_n hx hb dX7_joins_20 rfl (lv_at hl 0 rfl) ?_
    refine va_get (C := RX7) (T := TX7) (N := 22) hx hb hts n7 hown hK hP 0 mg_0 rfl 9 (by decide) lk2 (fun _ h9 => h9) rfl dX7_joins_21 ?_
    refine lv_iload_n hx hb dX7_joins_24 rfl (lv_at hl 1 rfl) ?_
    refine va_iast hx hb hK hP (cD hwd) hS 5 0 (mg_a ⟨by decide, by decide, by decide⟩) rfl h.1 dX7_joins_25 (fun H locs hP _ hS => ?_)
    replace hP := mu_a hwd ⟨by decide, by decide, by decide⟩ hP
    obtain ⟨u4, eu4⟩ : ∃ y : St, y = su u3 5 (u3 0 4).toNatClampNeg a1 := ⟨_, rfl⟩
    rw [← eu4] at hP
    replace h := h.2 u4 eu4
    refine lv_aload_n hx hb dX7_joins_26 rfl (lv_at hl 0 rfl) ?_
    refine lv_dup hx hb dX7_joins_27 rfl ?_
    refine va_get (C := RX7) (T := TX7) (N := 22) hx hb hts n7 hown hK hP 0 mg_0 rfl 9 (by decide) lk2 (fun _ h9 => h9) rfl dX7_joins_28 ?_
    refine lv_iconst (v := 1) hx hb dX7_joins_31 (by decide) ?_
    refine lv_iadd hx hb dX7_joins_32 ?_
    refine va_put (C := RX7) (T := TX7) (N := 22) (ty := .int) (v := .int ((u4 0 4) + 1)) hx hb hts n7 tyX7 tyX7_ok nmX7 hown hK hP (cD hwd) hS 0 mg_0 rfl 9 (by decide) lk2 (fun _ h9 => h9) rfl (by decide +kernel) rfl rfl (Nat.le_of_ble_eq_true rfl) dX7_joins_33 (fun H locs hP _ hS => ?_)
    replace hP := mu_order hwd hP
    obtain ⟨u5, eu5⟩ : ∃ y : St, y = su u4 0 4 ((u4 0 4) + 1) := ⟨_, rfl⟩
    rw [← eu5] at hP
    replace h := h u5 eu5
    exact W.vret hx hb hr (fun t ht hW => ⟨⟨_, rfl, h, by show va_P _ _ _ t.heap; rw [ht]; exact hP⟩, hS.F ht⟩) hS.2.2 dX7_joins_36
set_option maxRecDepth 100000 in
set_option maxHeartbeats 4000000 in
theorem c_X7_joins {l : Launch} {D : va_G} {cI cG cZ cJ : ClassId} {ts : Nat × Nat} {ad : Nat → Nat} (hwd : WD mLs ad) (sz : Nat) (u : St) (a1 : Int32) (Q : St → Prop) (h : f_X7_joins a1 u Q) : Met l yX7_joins wsX7_joins ({ frames := 0, cells := 0, slots := 0, locals := 0 }) (va_Pc [.ref (ad 0), .int a1] (PM D cI cG cZ cJ ts ad sz u)) (va_Qv Q (fun u9 t => va_P D vwCl (mW cI cZ ad u9) t.heap) (cA mLs ad sz)) 0 0 (cA mLs ad sz) := by
  refine Met.ofW (cc := cX7_joins) (maxL := 2) (ret := none) (by decide) rfl ?_
  intro p e s m args below meth c s₁ B hml hv
  obtain ⟨rfl, hsz, hP, hC⟩ := hv
  subst hsz
  have X : FX RX7 wsX7_joins cX7_joins 2 none D cI cG cZ cJ ts mLs ad p s m _ meth c := ⟨B.exec, B.bytes, hml, findClass_of_methodNamed B.named, atoms_spec (ws := wsX7_joins) B.pre, B.returns, B.notSynchronized, hwd, hC⟩
  have hl := lv_entry ([.ref (ad 0), .int a1]) (n := 2) (Nat.le_of_ble_eq_true rfl)
  rw [lg_entry_eq]
  generalize (lg_sl ([.ref (ad 0), .int a1]) ++ List.replicate (2 - (lg_sl ([.ref (ad 0), .int a1])).length) Slot.unset).toArray = ls at hl ⊢
  exact w_X7_joins X a1 Q u _ _ _ h hP va_S.rf hl
set_option maxRecDepth 100000 in
set_option maxHeartbeats 4000000 in
theorem w_X7_behind {p : Program} {l : Launch} {e : Env} {s : State} {m : MethodId} {args : Array Value} {below : List Frame} {meth : Method} {c : Code} {D : va_G} {cI cG cZ cJ : ClassId} {ts : Nat × Nat}  {ad : Nat → Nat}  (X : FX RX7 wsX7_behind cX7_behind 8 (some .int) D cI cG cZ cJ ts mLs ad p s m args meth c) (a1 : Int32) (a2 : Int32) (Q : Int32 → St → Prop) (u : St) (H : Heap) (locs : List Loc) (ls : Array Slot) (h : f_X7_behind a1 a2 u Q) (hP : va_P D vwCl (mW cI cZ ad u) H) (hS : va_S (cA mLs ad s.heap.size) s.heap H locs) (hl : lv_has ls 8 [(0, .ref (ad 0)), (1, .int a1), (2, .int a2)]) : W p l e (headSpec wsX7_behind { frames := 2, cells := 0, slots := 0, locals := 45 }).room s m args below meth c H locs 0 0 (MQ below (va_Qi Q (fun u9 t => va_P D vwCl (mW cI cZ ad u9) t.heap) (cA mLs ad s.heap.size)) args s 0 0 (cA mLs ad s.heap.size)) (F0 m 0 ls []) := by
  obtain ⟨hx, hb, hml, hown, hts, hr, hlocks, hwd, hC⟩ := id X
  have hK := hC.1
  have lk0 := hts (.fieldLink RX7 20 "FormForgeModel" "matrix" "[I") (by decide +kernel)
  have lk1 := hts (.fieldLink RX7 7 "FormForgeModel" "p" "I") (by decide +kernel)
  have n7 : ∀ w ∈ wsX70, w ∈ wsX7_behind := by decide +kernel
  unfold f_X7_behind at h
  refine lv_aload_n hx hb dX7_behind_0 rfl (lv_at hl 0 rfl) ?_
  refine lv_iload_n hx hb dX7_behind_1 rfl (lv_at hl 1 rfl) ?_
  refine lv_iconst (v := 0) hx hb dX7_behind_2 (by decide) ?_
  refine cc_i (va_runV (C := RX7) (As := [.int a1, .int 0]) (rest := []) ⟨hx, hb, hml, hown, hts⟩ (c_X7_figure hwd H.size u a1 0 _ h) (cwV 2 hts gX7_behind_X7_figure rfl rfl rfl (by decide +kernel) ⟨Nat.le_of_ble_eq_true rfl, Nat.le_of_ble_eq_true rfl⟩) (pmV hC hP hS mg_0 rfl) rfl rfl hl.1 rfl (lv_room (Nat.le_of_ble_eq_true rfl)) dX7_behind_3 ⟨Nat.zero_le _, Nat.zero_le _⟩) hS (cA_mono hS.1) (fun v1 u2 H locs h hP hS => ?_)
  refine lv_istore_n (lv' := [(3, .int v1), (0, .ref (ad 0)), (1, .int a1), (2, .int a2)]) hx hb dX7_behind_6 rfl hl (by decide) rfl (fun ls hl => ?_)
  refine lv_aload_n hx hb dX7_behind_7 rfl (lv_at hl 1 rfl) ?_
  refine lv_iload_n hx hb dX7_behind_8 rfl (lv_at hl 2 rfl) ?_
  refine lv_iconst (v := 1) hx hb dX7_behind_9 (by decide) ?_
  refine cc_i (va_runV (C := RX7) (As := [.int a1, .int 1]) (rest := []) ⟨hx, hb, hml, hown, hts⟩ (c_X7_figure hwd H.size u2 a1 1 _ h) (cwV 2 hts gX7_behind_X7_figure rfl rfl rfl (by decide +kernel) ⟨Nat.le_of_ble_eq_true rfl, Nat.le_of_ble_eq_true rfl⟩) (pmV hC hP hS mg_0 rfl) rfl rfl hl.1 rfl (lv_room (Nat.le_of_ble_eq_true rfl)) dX7_behind_10 ⟨Nat.zero_le _, Nat.zero_le _⟩) hS (cA_mono hS.1) (fun v3 u4 H locs h hP hS => ?_)
  refine lv_istore (lv' := [(4, .int v3), (3, .int v1), (0, .ref (ad 0)), (1, .int a1), (2, .int a2)]) hx hb dX7_behind_13 hl (by decide) rfl (fun ls hl => ?_)
  refine lv_aload_n hx hb dX7_behind_15 rfl (lv_at hl 2 rfl) ?_
  refine lv_iload_n hx hb dX7_behind_16 rfl (lv_at hl 3 rfl) ?_
  refine lv_iconst (v := 2) hx hb dX7_behind_17 (by decide) ?_
  refine cc_i (va_runV (C := RX7) (As := [.int a1, .int 2]) (rest := []) ⟨hx, hb, hml, hown, hts⟩ (c_X7_figure hwd H.size u4 a1 2 _ h) (cwV 2 hts gX7_behind_X7_figure rfl rfl rfl (by decide +kernel) ⟨Nat.le_of_ble_eq_true rfl, Nat.le_of_ble_eq_true rfl⟩) (pmV hC hP hS mg_0 rfl) rfl rfl hl.1 rfl (lv_room (Nat.le_of_ble_eq_true rfl)) dX7_behind_18 ⟨Nat.zero_le _, Nat.zero_le _⟩) hS (cA_mono hS.1) (fun v5 u6 H locs h hP hS => ?_)
  refine lv_istore (lv' := [(5, .int v5), (4, .int v3), (3, .int v1), (0, .ref (ad 0)), (1, .int a1), (2, .int a2)]) hx hb dX7_behind_21 hl (by decide) rfl (fun ls hl => ?_)
  refine lv_aload_n hx hb dX7_behind_23 rfl (lv_at hl 3 rfl) ?_
  refine lv_iload_n hx hb dX7_behind_24 rfl (lv_at hl 4 rfl) ?_
  refine lv_iconst (v := 3) hx hb dX7_behind_25 (by decide) ?_
  refine cc_i (va_runV (C := RX7) (As := [.int a1, .int 3]) (rest := []) ⟨hx, hb, hml, hown, hts⟩ (c_X7_figure hwd H.size u6 a1 3 _ h) (cwV 2 hts gX7_behind_X7_figure rfl rfl rfl (by decide +kernel) ⟨Nat.le_of_ble_eq_true rfl, Nat.le_of_ble_eq_true rfl⟩) (pmV hC hP hS mg_0 rfl) rfl rfl hl.1 rfl (lv_room (Nat.le_of_ble_eq_true rfl)) dX7_behind_26 ⟨Nat.zero_le _, Nat.zero_le _⟩) hS (cA_mono hS.1) (fun v7 u8 H locs h hP hS => ?_)
  refine lv_istore (lv' := [(6, .int v7), (5, .int v5), (4, .int v3), (3, .int v1), (0, .ref (ad 0)), (1, .int a1), (2, .int a2)]) hx hb dX7_behind_29 hl (by decide) rfl (fun ls hl => ?_)
  refine lv_iconst (v := 4) hx hb dX7_behind_31 (by decide) ?_
  refine lv_iload_n hx hb dX7_behind_32 rfl (lv_at hl 6 rfl) ?_
  refine lv_imul hx hb dX7_behind_33 ?_
  refine lv_topi (fun v9 ev9 => ?_)
  replace h := h v9 ev9
  refine lv_istore (lv' := [(7, .int v9), (6, .int v7), (5, .int v5), (4, .int v3), (3, .int v1), (0, .ref (ad 0)), (1, .int a1), (2, .int a2)]) hx hb dX7_behind_34 hl (by decide) rfl (fun ls hl => ?_)
  refine lv_aload_n hx hb dX7_behind_36 rfl (lv_at hl 5 rfl) ?_
  refine lv_iload_n hx hb dX7_behind_37 rfl (lv_at hl 4 rfl) ?_
  refine lv_aload_n hx hb dX7_behind_38 rfl (lv_at hl 5 rfl) ?_
  refine va_get (C := RX7) (T := TX7) (N := 22) hx hb hts n7 hown hK hP 0 mg_0 rfl 5 (by decide) lk0 (fun _ h9 => h9) rfl dX7_behind_39 ?_
  refine lv_iload hx hb dX7_behind_42 (lv_at hl 0 rfl) ?_
  refine va_iald hx hb hK hP 3 0 (mg_a ⟨by decide, by decide, by decide⟩) rfl h.1 dX7_behind_44 ?_
  refine lv_topi (fun v10 ev10 => ?_)
  replace h := h.2 v10 ev10
  refine lv_imul hx hb dX7_behind_45 ?_
  refine lv_iload hx hb dX7_behind_46 (lv_at hl 3 rfl) ?_
  refine lv_aload_n hx hb dX7_behind_48 rfl (lv_at hl 5 rfl) ?_
  refine va_get (C := RX7) (T := TX7) (N := 22) hx hb hts n7 hown hK hP 0 mg_0 rfl 5 (by decide) lk0 (fun _ h9 => h9) rfl dX7_behind_49 ?_
  refine lv_iload hx hb dX7_behind_52 (lv_at hl 0 rfl) ?_
  refine lv_iconst (v := 2) hx hb dX7_behind_54 (by decide) ?_
  refine lv_iadd hx hb dX7_behind_55 ?_
  refine va_iald hx hb hK hP 3 0 (mg_a ⟨by decide, by decide, by decide⟩) rfl h.1 dX7_behind_56 ?_
  refine lv_topi (fun v11 ev11 => ?_)
  replace h := h.2 v11 ev11
  refine lv_imul hx hb dX7_behind_57 ?_
  refine lv_iadd hx hb dX7_behind_58 ?_
  refine cc_i (va_runV (C := RX7) (As := [.int ((v1 * v10) + (v3 * v11))]) (rest := []) ⟨hx, hb, hml, hown, hts⟩ (c_X7_mod hwd H.size u8 ((v1 * v10) + (v3 * v11)) _ h) (cwV 1 hts gX7_behind_X7_mod rfl rfl rfl (by decide +kernel) ⟨Nat.le_of_ble_eq_true rfl, Nat.le_of_ble_eq_true rfl⟩) (pmV hC hP hS mg_0 rfl) rfl rfl hl.1 rfl (lv_room (Nat.le_of_ble_eq_true rfl)) dX7_behind_59 ⟨Nat.zero_le _, Nat.zero_le _⟩) hS (cA_mono hS.1) (fun v12 u13 H locs h hP hS => ?_)
  refine lv_aload_n hx hb dX7_behind_62 rfl (lv_at hl 5 rfl) ?_
  refine va_get (C := RX7) (T := TX7) (N := 22) hx hb hts n7 hown hK hP 0 mg_0 rfl 1 (by decide) lk1 (fun _ h9 => h9) rfl dX7_behind_63 ?_
  refine lv_aload_n hx hb dX7_behind_66 rfl (lv_at hl 5 rfl) ?_
  refine lv_iload_n hx hb dX7_behind_67 rfl (lv_at hl 4 rfl) ?_
  refine lv_aload_n hx hb dX7_behind_68 rfl (lv_at hl 5 rfl) ?_
  refine va_get (C := RX7) (T := TX7) (N := 22) hx hb hts n7 hown hK hP 0 mg_0 rfl 5 (by decide) lk0 (fun _ h9 => h9) rfl dX7_behind_69 ?_
  refine lv_iload hx hb dX7_behind_72 (lv_at hl 0 rfl) ?_
  refine lv_iconst (v := 1) hx hb dX7_behind_74 (by decide) ?_
  refine lv_iadd hx hb dX7_behind_75 ?_
  refine va_iald hx hb hK hP 3 0 (mg_a ⟨by decide, by decide, by decide⟩) rfl h.1 dX7_behind_76 ?_
  refine lv_topi (fun v14 ev14 => ?_)
  replace h := h.2 v14 ev14
  refine lv_imul hx hb dX7_behind_77 ?_
  refine lv_iload hx hb dX7_behind_78 (lv_at hl 3 rfl) ?_
  refine lv_aload_n hx hb dX7_behind_80 rfl (lv_at hl 5 rfl) ?_
  refine va_get (C := RX7) (T := TX7) (N := 22) hx hb hts n7 hown hK hP 0 mg_0 rfl 5 (by decide) lk0 (fun _ h9 => h9) rfl dX7_behind_81 ?_
  refine lv_iload hx hb dX7_behind_84 (lv_at hl 0 rfl) ?_
  refine lv_iconst (v := 3) hx hb dX7_behind_86 (by decide) ?_
  refine lv_iadd hx hb dX7_behind_87 ?_
  refine va_iald hx hb hK hP 3 0 (mg_a ⟨by decide, by decide, by decide⟩) rfl h.1 dX7_behind_88 ?_
  refine lv_topi (fun v15 ev15 => ?_)
  replace h := h.2 v15 ev15
  refine lv_imul hx hb dX7_behind_89 ?_
  refine lv_iadd hx hb dX7_behind_90 ?_
  refine cc_i (va_runV (C := RX7) (As := [.int ((v1 * v14) + (v3 * v15))]) (rest := [.int (u13 0 1), .int v12]) ⟨hx, hb, hml, hown, hts⟩ (c_X7_mod hwd H.size u13 ((v1 * v14) + (v3 * v15)) _ h) (cwV 1 hts gX7_behind_X7_mod rfl rfl rfl (by decide +kernel) ⟨Nat.le_of_ble_eq_true rfl, Nat.le_of_ble_eq_true rfl⟩) (pmV hC hP hS mg_0 rfl) rfl rfl hl.1 rfl (lv_room (Nat.le_of_ble_eq_true rfl)) dX7_behind_91 ⟨Nat.zero_le _, Nat.zero_le _⟩) hS (cA_mono hS.1) (fun v16 u17 H locs h hP hS => ?_)
  refine lv_imul hx hb dX7_behind_94 ?_
  refine lv_iadd hx hb dX7_behind_95 ?_
  refine lv_aload_n hx hb dX7_behind_96 rfl (lv_at hl 5 rfl) ?_
  refine va_get (C := RX7) (T := TX7) (N := 22) hx hb hts n7 hown hK hP 0 mg_0 rfl 1 (by decide) lk1 (fun _ h9 => h9) rfl dX7_behind_97 ?_
  refine lv_aload_n hx hb dX7_behind_100 rfl (lv_at hl 5 rfl) ?_
  refine va_get (C := RX7) (T := TX7) (N := 22) hx hb hts n7 hown hK hP 0 mg_0 rfl 1 (by decide) lk1 (fun _ h9 => h9) rfl dX7_behind_101 ?_
  refine lv_imul hx hb dX7_behind_104 ?_
  refine lv_aload_n hx hb dX7_behind_105 rfl (lv_at hl 5 rfl) ?_
  refine lv_iload hx hb dX7_behind_106 (lv_at hl 2 rfl) ?_
  refine lv_aload_n hx hb dX7_behind_108 rfl (lv_at hl 5 rfl) ?_
  refine va_get (C := RX7) (T := TX7) (N := 22) hx hb hts n7 hown hK hP 0 mg_0 rfl 5 (by decide) lk0 (fun _ h9 => h9) rfl dX7_behind_109 ?_
  refine lv_iload hx hb dX7_behind_112 (lv_at hl 0 rfl) ?_
  refine va_iald hx hb hK hP 3 0 (mg_a ⟨by decide, by decide, by decide⟩) rfl h.1 dX7_behind_114 ?_
  refine lv_topi (fun v18 ev18 => ?_)
  replace h := h.2 v18 ev18
  refine lv_imul hx hb dX7_behind_115 ?_
  refine lv_iload hx hb dX7_behind_116 (lv_at hl 1 rfl) ?_
  refine lv_aload_n hx hb dX7_behind_118 rfl (lv_at hl 5 rfl) ?_
  refine va_get (C := RX7) (T := TX7) (N := 22) hx hb hts n7 hown hK hP 0 mg_0 rfl 5 (by decide) lk0 (fun _ h9 => h9) rfl dX7_behind_119 ?_
  refine lv_iload hx hb dX7_behind_122 (lv_at hl 0 rfl) ?_
  refine lv_iconst (v := 2) hx hb dX7_behind_124 (by decide) ?_
  refine lv_iadd hx hb dX7_behind_125 ?_
  refine va_iald hx hb hK hP 3 0 (mg_a ⟨by decide, by decide, by decide⟩) rfl h.1 dX7_behind_126 ?_
  refine lv_topi (fun v19 ev19 => ?_)
  replace h := h.2 v19 ev19
  refine lv_imul hx hb dX7_behind_127 ?_
  refine lv_iadd hx hb dX7_behind_128 ?_
  refine cc_i (va_runV (C := RX7) (As := [.int ((v5 * v18) + (v7 * v19))]) (rest := [.int ((u17 0 1) * (u17 0 1)), .int (v12 + ((u13 0 1) * v16))]) ⟨hx, hb, hml, hown, hts⟩ (c_X7_mod hwd H.size u17 ((v5 * v18) + (v7 * v19)) _ h) (cwV 1 hts gX7_behind_X7_mod rfl rfl rfl (by decide +kernel) ⟨Nat.le_of_ble_eq_true rfl, Nat.le_of_ble_eq_true rfl⟩) (pmV hC hP hS mg_0 rfl) rfl rfl hl.1 rfl (lv_room (Nat.le_of_ble_eq_true rfl)) dX7_behind_129 ⟨Nat.zero_le _, Nat.zero_le _⟩) hS (cA_mono hS.1) (fun v20 u21 H locs h hP hS => ?_)
  refine lv_imul hx hb dX7_behind_132 ?_
  refine lv_iadd hx hb dX7_behind_133 ?_
  refine lv_aload_n hx hb dX7_behind_134 rfl (lv_at hl 5 rfl) ?_
  refine va_get (C := RX7) (T := TX7) (N := 22) hx hb hts n7 hown hK hP 0 mg_0 rfl 1 (by decide) lk1 (fun _ h9 => h9) rfl dX7_behind_135 ?_
  refine lv_aload_n hx hb dX7_behind_138 rfl (lv_at hl 5 rfl) ?_
  refine va_get (C := RX7) (T := TX7) (N := 22) hx hb hts n7 hown hK hP 0 mg_0 rfl 1 (by decide) lk1 (fun _ h9 => h9) rfl dX7_behind_139 ?_
  refine lv_imul hx hb dX7_behind_142 ?_
  refine lv_aload_n hx hb dX7_behind_143 rfl (lv_at hl 5 rfl) ?_
  refine va_get (C := RX7) (T := TX7) (N := 22) hx hb hts n7 hown hK hP 0 mg_0 rfl 1 (by decide) lk1 (fun _ h9 => h9) rfl dX7_behind_144 ?_
  refine lv_imul hx hb dX7_behind_147 ?_
  refine lv_aload_n hx hb dX7_behind_148 rfl (lv_at hl 5 rfl) ?_
  refine lv_iload hx hb dX7_behind_149 (lv_at hl 2 rfl) ?_
  refine lv_aload_n hx hb dX7_behind_151 rfl (lv_at hl 5 rfl) ?_
  refine va_get (C := RX7) (T := TX7) (N := 22) hx hb hts n7 hown hK hP 0 mg_0 rfl 5 (by decide) lk0 (fun _ h9 => h9) rfl dX7_behind_152 ?_
  refine lv_iload hx hb dX7_behind_155 (lv_at hl 0 rfl) ?_
  refine lv_iconst (v := 1) hx hb dX7_behind_157 (by decide) ?_
  refine lv_iadd hx hb dX7_behind_158 ?_
  refine va_iald hx hb hK hP 3 0 (mg_a ⟨by decide, by decide, by decide⟩) rfl h.1 dX7_behind_159 ?_
  refine lv_topi (fun v22 ev22 => ?_)
  replace h := h.2 v22 ev22
  refine lv_imul hx hb dX7_behind_160 ?_
  refine lv_iload hx hb dX7_behind_161 (lv_at hl 1 rfl) ?_
  refine lv_aload_n hx hb dX7_behind_163 rfl (lv_at hl 5 rfl) ?_
  refine va_get (C := RX7) (T := TX7) (N := 22) hx hb hts n7 hown hK hP 0 mg_0 rfl 5 (by decide) lk0 (fun _ h9 => h9) rfl dX7_behind_164 ?_
  refine lv_iload hx hb dX7_behind_167 (lv_at hl 0 rfl) ?_
  refine lv_iconst (v := 3) hx hb dX7_behind_169 (by decide) ?_
  refine lv_iadd hx hb dX7_behind_170 ?_
  refine va_iald hx hb hK hP 3 0 (mg_a ⟨by decide, by decide, by decide⟩) rfl h.1 dX7_behind_171 ?_
  refine lv_topi (fun v23 ev23 => ?_)
  replace h := h.2 v23 ev23
  refine lv_imul hx hb dX7_behind_172 ?_
  refine lv_iadd hx hb dX7_behind_173 ?_
  refine cc_i (va_runV (C := RX7) (As := [.int ((v5 * v22) + (v7 * v23))]) (rest := [.int (((u21 0 1) * (u21 0 1)) * (u21 0 1)), .int ((v12 + ((u13 0 1) * v16)) + (((u17 0 1) * (u17 0 1)) * v20))]) ⟨hx, hb, hml, hown, hts⟩ (c_X7_mod hwd H.size u21 ((v5 * v22) + (v7 * v23)) _ h) (cwV 1 hts gX7_behind_X7_mod rfl rfl rfl (by decide +kernel) ⟨Nat.le_of_ble_eq_true rfl, Nat.le_of_ble_eq_true rfl⟩) (pmV hC hP hS mg_0 rfl) rfl rfl hl.1 rfl (lv_room (Nat.le_of_ble_eq_true rfl)) dX7_behind_174 ⟨Nat.zero_le _, Nat.zero_le _⟩) hS (cA_mono hS.1) (fun v24 u25 H locs h hP hS => ?_)
  refine lv_imul hx hb dX7_behind_177 ?_
  refine lv_iadd hx hb dX7_behind_178 ?_
  exact W.iret (v := (((v12 + ((u13 0 1) * v16)) + (((u17 0 1) * (u17 0 1)) * v20)) + ((((u21 0 1) * (u21 0 1)) * (u21 0 1)) * v24))) hx hb hr (fun t ht hW => ⟨⟨_, _, rfl, h, by show va_P _ _ _ t.heap; rw [ht]; exact hP⟩, hS.F ht⟩) hS.2.2 dX7_behind_179
set_option maxRecDepth 100000 in
set_option maxHeartbeats 4000000 in
theorem c_X7_behind {l : Launch} {D : va_G} {cI cG cZ cJ : ClassId} {ts : Nat × Nat} {ad : Nat → Nat} (hwd : WD mLs ad) (sz : Nat) (u : St) (a1 : Int32) (a2 : Int32) (Q : Int32 → St → Prop) (h : f_X7_behind a1 a2 u Q) : Met l yX7_behind wsX7_behind ({ frames := 2, cells := 0, slots := 0, locals := 45 }) (va_Pc [.ref (ad 0), .int a1, .int a2] (PM D cI cG cZ cJ ts ad sz u)) (va_Qi Q (fun u9 t => va_P D vwCl (mW cI cZ ad u9) t.heap) (cA mLs ad sz)) 0 0 (cA mLs ad sz) := by
  refine Met.ofW (cc := cX7_behind) (maxL := 8) (ret := (some .int)) (by decide) rfl ?_
  intro p e s m args below meth c s₁ B hml hv
  obtain ⟨rfl, hsz, hP, hC⟩ := hv
  subst hsz
  have X : FX RX7 wsX7_behind cX7_behind 8 (some .int) D cI cG cZ cJ ts mLs ad p s m _ meth c := ⟨B.exec, B.bytes, hml, findClass_of_methodNamed B.named, atoms_spec (ws := wsX7_behind) B.pre, B.returns, B.notSynchronized, hwd, hC⟩
  have hl := lv_entry ([.ref (ad 0), .int a1, .int a2]) (n := 8) (Nat.le_of_ble_eq_true rfl)
  rw [lg_entry_eq]
  generalize (lg_sl ([.ref (ad 0), .int a1, .int a2]) ++ List.replicate (8 - (lg_sl ([.ref (ad 0), .int a1, .int a2])).length) Slot.unset).toArray = ls at hl ⊢
  exact w_X7_behind X a1 a2 Q u _ _ _ h hP va_S.rf hl
set_option maxRecDepth 100000 in
set_option maxHeartbeats 4000000 in
theorem w_X7_gathers_L2 {p : Program} {l : Launch} {e : Env} {s : State} {m : MethodId} {args : Array Value} {below : List Frame} {meth : Method} {c : Code} {D : va_G} {cI cG cZ cJ : ClassId} {ts : Nat × Nat}  {ad : Nat → Nat}  (X : FX RX7 wsX7_gathers cX7_gathers 3 none D cI cG cZ cJ ts mLs ad p s m args meth c)  (Q : St → Prop)
    (K0 : St → Prop) (hk0 : ∀ (u : St) (H : Heap) (locs : List Loc) (ls : Array Slot), K0 u → va_P D vwCl (mW cI cZ ad u) H → va_S (cA mLs ad s.heap.size) s.heap H locs → lv_has ls 3 [(0, .ref (ad 0))] → W p l e (headSpec wsX7_gathers { frames := 3, cells := 0, slots := 0, locals := 72 }).room s m args below meth c H locs 0 0 (MQ below (va_Qv Q (fun u9 t => va_P D vwCl (mW cI cZ ad u9) t.heap) (cA mLs ad s.heap.size)) args s 0 0 (cA mLs ad s.heap.size)) (F0 m 22 ls []))
    : ∀ (n : Nat) (a1 : Int32) (u : St) (H : Heap) (locs : List Loc) (ls : Array Slot), f_X7_gathers_L2 Q K0 n a1 u → va_P D vwCl (mW cI cZ ad u) H → va_S (cA mLs ad s.heap.size) s.heap H locs → lv_has ls 3 [(0, .ref (ad 0)), (1, .int a1)] → W p l e (headSpec wsX7_gathers { frames := 3, cells := 0, slots := 0, locals := 72 }).room s m args below meth c H locs 0 0 (MQ below (va_Qv Q (fun u9 t => va_P D vwCl (mW cI cZ ad u9) t.heap) (cA mLs ad s.heap.size)) args s 0 0 (cA mLs ad s.heap.size)) (F0 m 2 ls []) := by
  obtain ⟨hx, hb, hml, hown, hts, hr, hlocks, hwd, hC⟩ := id X
  have hK := hC.1
  have lk0 := hts (.fieldLink RX7 23 "FormForgeModel" "isThere" "[Z") (by decide +kernel)
  have lk1 := hts (.fieldLink RX7 104 "FormForgeModel" "order" "I") (by decide +kernel)
  have lk2 := hts (.fieldLink RX7 7 "FormForgeModel" "p" "I") (by decide +kernel)
  have lk3 := hts (.fieldLink RX7 78 "FormForgeModel" "generators" "I") (by decide +kernel)
  have lk4 := hts (.fieldLink RX7 27 "FormForgeModel" "group" "[I") (by decide +kernel)
  have n7 : ∀ w ∈ wsX70, w ∈ wsX7_gathers := by decide +kernel
  intro n
  induction n with
  | zero =>
    intro a1 u H locs ls h; exact h.elim
  | succ n ih =>
    intro a1 u H locs ls h hP hS hl
    replace h : f_X7_gathers_L2_s Q K0 (f_X7_gathers_L2 Q K0 n) a1 u := h
    unfold f_X7_gathers_L2_s at h
    refine lv_iload_n hx hb dX7_gathers_2 rfl (lv_at hl 1 rfl) ?_
    refine lv_sipush (v := 625) hx hb dX7_gathers_3 (by decide) ?_
    refine lv_icmp_ge (tgt := 22) hx hb dX7_gathers_6 (by decide) (fun c1 => ?_) (fun c1 => ?_)
    · replace h := h.1 c1
      exact hk0  _ _ _ _ h hP hS (lv_sub hl [0] rfl)
    · replace h := h.2 c1
      refine lv_aload_n hx hb dX7_gathers_9 rfl (lv_at hl 0 rfl) ?_
      refine va_get (C := RX7) (T := TX7) (N := 22) hx hb hts n7 hown hK hP 0 mg_0 rfl 7 (by decide) lk0 (fun _ h9 => h9) rfl dX7_gathers_10 ?_
      refine lv_iload_n hx hb dX7_gathers_13 rfl (lv_at hl 1 rfl) ?_
      refine lv_iconst (v := 0) hx hb dX7_gathers_14 (by decide) ?_
      refine va_zast hx hb hK hP (cD hwd) hS 4 2 mg_4 rfl h.1 dX7_gathers_15 (fun H locs hP _ hS => ?_)
      replace hP := mu_4 hwd hP
      obtain ⟨u2, eu2⟩ : ∃ y : St, y = su u 4 a1.toNatClampNeg (vp_nar .boolean 0) := ⟨_, rfl⟩
      rw [← eu2] at hP
      replace h := h.2 u2 eu2
      obtain ⟨v3, ev3⟩ : ∃ y : Int32, y = a1 + 1 := ⟨_, rfl⟩
      refine lv_iinc (v := v3) (lv' := [(1, .int v3), (0, .ref (ad 0))]) hx hb dX7_gathers_16 hl (k := 1) rfl (by rw [ev3]; rfl) (by decide) rfl (fun ls hl => ?_)
      replace h := h v3 ev3
      refine lv_goto (tgt := 2) hx hb dX7_gathers_19 (by decide) ?_
      exact ih v3 _ _ _ _ h hP hS (lv_sub hl [1, 0] rfl)
set_option maxRecDepth 100000 in
set_option maxHeartbeats 4000000 in
theorem w_X7_gathers_L59 {p : Program} {l : Launch} {e : Env} {s : State} {m : MethodId} {args : Array Value} {below : List Frame} {meth : Method} {c : Code} {D : va_G} {cI cG cZ cJ : ClassId} {ts : Nat × Nat}  {ad : Nat → Nat}  (X : FX RX7 wsX7_gathers cX7_gathers 3 none D cI cG cZ cJ ts mLs ad p s m args meth c) (a1 : Int32) (Q : St → Prop)
    (K0 : St → Prop) (hk0 : ∀ (u : St) (H : Heap) (locs : List Loc) (ls : Array Slot), K0 u → va_P D vwCl (mW cI cZ ad u) H → va_S (cA mLs ad s.heap.size) s.heap H locs → lv_has ls 3 [(0, .ref (ad 0)), (1, .int a1)] → W p l e (headSpec wsX7_gathers { frames := 3, cells := 0, slots := 0, locals := 72 }).room s m args below meth c H locs 0 0 (MQ below (va_Qv Q (fun u9 t => va_P D vwCl (mW cI cZ ad u9) t.heap) (cA mLs ad s.heap.size)) args s 0 0 (cA mLs ad s.heap.size)) (F0 m 88 ls []))
    : ∀ (n : Nat) (a2 : Int32) (u : St) (H : Heap) (locs : List Loc) (ls : Array Slot), f_X7_gathers_L59 a1 Q K0 n a2 u → va_P D vwCl (mW cI cZ ad u) H → va_S (cA mLs ad s.heap.size) s.heap H locs → lv_has ls 3 [(0, .ref (ad 0)), (1, .int a1), (2, .int a2)] → W p l e (headSpec wsX7_gathers { frames := 3, cells := 0, slots := 0, locals := 72 }).room s m args below meth c H locs 0 0 (MQ below (va_Qv Q (fun u9 t => va_P D vwCl (mW cI cZ ad u9) t.heap) (cA mLs ad s.heap.size)) args s 0 0 (cA mLs ad s.heap.size)) (F0 m 59 ls []) := by
  obtain ⟨hx, hb, hml, hown, hts, hr, hlocks, hwd, hC⟩ := id X
  have hK := hC.1
  have lk0 := hts (.fieldLink RX7 23 "FormForgeModel" "isThere" "[Z") (by decide +kernel)
  have lk1 := hts (.fieldLink RX7 104 "FormForgeModel" "order" "I") (by decide +kernel)
  have lk2 := hts (.fieldLink RX7 7 "FormForgeModel" "p" "I") (by decide +kernel)
  have lk3 := hts (.fieldLink RX7 78 "FormForgeModel" "generators" "I") (by decide +kernel)
  have lk4 := hts (.fieldLink RX7 27 "FormForgeModel" "group" "[I") (by decide +kernel)
  have n7 : ∀ w ∈ wsX70, w ∈ wsX7_gathers := by decide +kernel
  intro n
  induction n with
  | zero =>
    intro a2 u H locs ls h; exact h.elim
  | succ n ih =>
    intro a2 u H locs ls h hP hS hl
    replace h : f_X7_gathers_L59_s a1 Q K0 (f_X7_gathers_L59 a1 Q K0 n) a2 u := h
    unfold f_X7_gathers_L59_s at h
    refine lv_iload_n hx hb dX7_gathers_59 rfl (lv_at hl 2 rfl) ?_
    refine lv_aload_n hx hb dX7_gathers_60 rfl (lv_at hl 0 rfl) ?_
    refine va_get (C := RX7) (T := TX7) (N := 22) hx hb hts n7 hown hK hP 0 mg_0 rfl 6 (by decide) lk3 (fun _ h9 => h9) rfl dX7_gathers_61 ?_
    refine lv_icmp_ge (tgt := 88) hx hb dX7_gathers_64 (by decide) (fun c9 => ?_) (fun c9 => ?_)
    · replace h := h.1 c9
      exact hk0  _ _ _ _ h hP hS (lv_sub hl [0, 1] rfl)
    · replace h := h.2 c9
      refine lv_aload_n hx hb dX7_gathers_67 rfl (lv_at hl 0 rfl) ?_
      refine lv_aload_n hx hb dX7_gathers_68 rfl (lv_at hl 0 rfl) ?_
      refine lv_aload_n hx hb dX7_gathers_69 rfl (lv_at hl 0 rfl) ?_
      refine va_get (C := RX7) (T := TX7) (N := 22) hx hb hts n7 hown hK hP 0 mg_0 rfl 8 (by decide) lk4 (fun _ h9 => h9) rfl dX7_gathers_70 ?_
      refine lv_iload_n hx hb dX7_gathers_73 rfl (lv_at hl 1 rfl) ?_
      refine va_iald hx hb hK hP 5 0 (mg_a ⟨by decide, by decide, by decide⟩) rfl h.1 dX7_gathers_74 ?_
      refine lv_topi (fun v10 ev10 => ?_)
      replace h := h.2 v10 ev10
      refine lv_iload_n hx hb dX7_gathers_75 rfl (lv_at hl 2 rfl) ?_
      refine cc_i (va_runV (C := RX7) (As := [.int v10, .int a2]) (rest := [.ref (ad 0)]) ⟨hx, hb, hml, hown, hts⟩ (c_X7_behind hwd H.size u v10 a2 _ h) (cwV 2 hts gX7_gathers_X7_behind rfl rfl rfl (by decide +kernel) ⟨Nat.le_of_ble_eq_true rfl, Nat.le_of_ble_eq_true rfl⟩) (pmV hC hP hS mg_0 rfl) rfl rfl hl.1 rfl (lv_room (Nat.le_of_ble_eq_true rfl)) dX7_gathers_76 ⟨Nat.zero_le _, Nat.zero_le _⟩) hS (cA_mono hS.1) (fun v11 u12 H locs h hP hS => ?_)
      refine cc_v (va_runV (C := RX7) (As := [.int v11]) (rest := []) ⟨hx, hb, hml, hown, hts⟩ (c_X7_joins hwd H.size u12 v11 _ h) (cwV 1 hts gX7_gathers_X7_joins rfl rfl rfl (by decide +kernel) ⟨Nat.le_of_ble_eq_true rfl, Nat.le_of_ble_eq_true rfl⟩) (pmV hC hP hS mg_0 rfl) rfl rfl hl.1 rfl (lv_room (Nat.le_of_ble_eq_true rfl)) dX7_gathers_79 ⟨Nat.zero_le _, Nat.zero_le _⟩) hS (cA_mono hS.1) (fun u13 H locs h hP hS => ?_)
      obtain ⟨v14, ev14⟩ : ∃ y : Int32, y = a2 + 1 := ⟨_, rfl⟩
      refine lv_iinc (v := v14) (lv' := [(2, .int v14), (0, .ref (ad 0)), (1, .int a1)]) hx hb dX7_gathers_82 hl (k := 2) rfl (by rw [ev14]; rfl) (by decide) rfl (fun ls hl => ?_)
      replace h := h v14 ev14
      refine lv_goto (tgt := 59) hx hb dX7_gathers_85 (by decide) ?_
      exact ih v14 _ _ _ _ h hP hS (lv_sub hl [1, 2, 0] rfl)
set_option maxRecDepth 100000 in
set_option maxHeartbeats 4000000 in
theorem w_X7_gathers_L49 {p : Program} {l : Launch} {e : Env} {s : State} {m : MethodId} {args : Array Value} {below : List Frame} {meth : Method} {c : Code} {D : va_G} {cI cG cZ cJ : ClassId} {ts : Nat × Nat}  {ad : Nat → Nat}  (X : FX RX7 wsX7_gathers cX7_gathers 3 none D cI cG cZ cJ ts mLs ad p s m args meth c)  (Q : St → Prop)
    (K0 : St → Prop) (hk0 : ∀ (u : St) (H : Heap) (locs : List Loc) (ls : Array Slot), K0 u → va_P D vwCl (mW cI cZ ad u) H → va_S (cA mLs ad s.heap.size) s.heap H locs → lv_has ls 3 [] → W p l e (headSpec wsX7_gathers { frames := 3, cells := 0, slots := 0, locals := 72 }).room s m args below meth c H locs 0 0 (MQ below (va_Qv Q (fun u9 t => va_P D vwCl (mW cI cZ ad u9) t.heap) (cA mLs ad s.heap.size)) args s 0 0 (cA mLs ad s.heap.size)) (F0 m 94 ls []))
    : ∀ (n : Nat) (a1 : Int32) (u : St) (H : Heap) (locs : List Loc) (ls : Array Slot), f_X7_gathers_L49 Q K0 n a1 u → va_P D vwCl (mW cI cZ ad u) H → va_S (cA mLs ad s.heap.size) s.heap H locs → lv_has ls 3 [(0, .ref (ad 0)), (1, .int a1)] → W p l e (headSpec wsX7_gathers { frames := 3, cells := 0, slots := 0, locals := 72 }).room s m args below meth c H locs 0 0 (MQ below (va_Qv Q (fun u9 t => va_P D vwCl (mW cI cZ ad u9) t.heap) (cA mLs ad s.heap.size)) args s 0 0 (cA mLs ad s.heap.size)) (F0 m 49 ls []) := by
  obtain ⟨hx, hb, hml, hown, hts, hr, hlocks, hwd, hC⟩ := id X
  have hK := hC.1
  have lk0 := hts (.fieldLink RX7 23 "FormForgeModel" "isThere" "[Z") (by decide +kernel)
  have lk1 := hts (.fieldLink RX7 104 "FormForgeModel" "order" "I") (by decide +kernel)
  have lk2 := hts (.fieldLink RX7 7 "FormForgeModel" "p" "I") (by decide +kernel)
  have lk3 := hts (.fieldLink RX7 78 "FormForgeModel" "generators" "I") (by decide +kernel)
  have lk4 := hts (.fieldLink RX7 27 "FormForgeModel" "group" "[I") (by decide +kernel)
  have n7 : ∀ w ∈ wsX70, w ∈ wsX7_gathers := by decide +kernel
  intro n
  induction n with
  | zero =>
    intro a1 u H locs ls h; exact h.elim
  | succ n ih =>
    intro a1 u H locs ls h hP hS hl
    replace h : f_X7_gathers_L49_s Q K0 (f_X7_gathers_L49 Q K0 n) a1 u := h
    unfold f_X7_gathers_L49_s at h
    refine lv_iload_n hx hb dX7_gathers_49 rfl (lv_at hl 1 rfl) ?_
    refine lv_aload_n hx hb dX7_gathers_50 rfl (lv_at hl 0 rfl) ?_
    refine va_get (C := RX7) (T := TX7) (N := 22) hx hb hts n7 hown hK hP 0 mg_0 rfl 9 (by decide) lk1 (fun _ h9 => h9) rfl dX7_gathers_51 ?_
    refine lv_icmp_ge (tgt := 94) hx hb dX7_gathers_54 (by decide) (fun c8 => ?_) (fun c8 => ?_)
    · replace h := h.1 c8
      exact hk0  _ _ _ _ h hP hS (lv_sub hl [] rfl)
    · replace h := h.2 c8
      refine lv_iconst (v := 0) hx hb dX7_gathers_57 (by decide) ?_
      refine lv_istore_n (lv' := [(2, .int 0), (0, .ref (ad 0)), (1, .int a1)]) hx hb dX7_gathers_58 rfl hl (by decide) rfl (fun ls hl => ?_)
      obtain ⟨n15, h⟩ := h
      refine w_X7_gathers_L59 X a1 _ _ (fun u16 H locs ls h hP hS hl => ?_) n15 0 _ _ _ _ h hP hS (lv_sub hl [1, 2, 0] rfl)
      obtain ⟨v17, ev17⟩ : ∃ y : Int32, y = a1 + 1 := ⟨_, rfl⟩
      refine lv_iinc (v := v17) (lv' := [(1, .int v17), (0, .ref (ad 0))]) hx hb dX7_gathers_88 hl (k := 1) rfl (by rw [ev17]; rfl) (by decide) rfl (fun ls hl => ?_)
      replace h := h v17 ev17
      refine lv_goto (tgt := 49) hx hb dX7_gathers_91 (by decide) ?_
      exact ih v17 _ _ _ _ h hP hS (lv_sub hl [1, 0] rfl)
set_option maxRecDepth 100000 in
set_option maxHeartbeats 4000000 in
theorem w_X7_gathers {p : Program} {l : Launch} {e : Env} {s : State} {m : MethodId} {args : Array Value} {below : List Frame} {meth : Method} {c : Code} {D : va_G} {cI cG cZ cJ : ClassId} {ts : Nat × Nat}  {ad : Nat → Nat}  (X : FX RX7 wsX7_gathers cX7_gathers 3 none D cI cG cZ cJ ts mLs ad p s m args meth c)  (Q : St → Prop) (u : St) (H : Heap) (locs : List Loc) (ls : Array Slot) (h : f_X7_gathers  u Q) (hP : va_P D vwCl (mW cI cZ ad u) H) (hS : va_S (cA mLs ad s.heap.size) s.heap H locs) (hl : lv_has ls 3 [(0, .ref (ad 0))]) : W p l e (headSpec wsX7_gathers { frames := 3, cells := 0, slots := 0, locals := 72 }).room s m args below meth c H locs 0 0 (MQ below (va_Qv Q (fun u9 t => va_P D vwCl (mW cI cZ ad u9) t.heap) (cA mLs ad s.heap.size)) args s 0 0 (cA mLs ad s.heap.size)) (F0 m 0 ls []) := by
  obtain ⟨hx, hb, hml, hown, hts, hr, hlocks, hwd, hC⟩ := id X
  have hK := hC.1
  have lk0 := hts (.fieldLink RX7 23 "FormForgeModel" "isThere" "[Z") (by decide +kernel)
  have lk1 := hts (.fieldLink RX7 104 "FormForgeModel" "order" "I") (by decide +kernel)
  have lk2 := hts (.fieldLink RX7 7 "FormForgeModel" "p" "I") (by decide +kernel)
  have lk3 := hts (.fieldLink RX7 78 "FormForgeModel" "generators" "I") (by decide +kernel)
  have lk4 := hts (.fieldLink RX7 27 "FormForgeModel" "group" "[I") (by decide +kernel)
  have n7 : ∀ w ∈ wsX70, w ∈ wsX7_gathers := by decide +kernel
  unfold f_X7_gathers at h
  refine lv_iconst (v := 0) hx hb dX7_gathers_0 (by decide) ?_
  refine lv_istore_n (lv' := [(1, .int 0), (0, .ref (ad 0))]) hx hb dX7_gathers_1 rfl hl (by decide) rfl (fun ls hl => ?_)
  obtain ⟨n4, h⟩ := h
  refine w_X7_gathers_L2 X _ _ (fun u5 H locs ls h hP hS hl => ?_) n4 0 _ _ _ _ h hP hS (lv_sub hl [1, 0] rfl)
  refine lv_aload_n hx hb dX7_gathers_22 rfl (lv_at hl 0 rfl) ?_
  refine lv_iconst (v := 0) hx hb dX7_gathers_23 (by decide) ?_
  refine va_put (C := RX7) (T := TX7) (N := 22) (ty := .int) (v := .int 0) hx hb hts n7 tyX7 tyX7_ok nmX7 hown hK hP (cD hwd) hS 0 mg_0 rfl 9 (by decide) lk1 (fun _ h9 => h9) rfl (by decide +kernel) rfl rfl (Nat.le_of_ble_eq_true rfl) dX7_gathers_24 (fun H locs hP _ hS => ?_)
  replace hP := mu_order hwd hP
  obtain ⟨u6, eu6⟩ : ∃ y : St, y = su u5 0 4 0 := ⟨_, rfl⟩
  rw [← eu6] at hP
  replace h := h u6 eu6
  refine lv_aload_n hx hb dX7_gathers_27 rfl (lv_at hl 0 rfl) ?_
  refine lv_iconst (v := 1) hx hb dX7_gathers_28 (by decide) ?_
  refine lv_aload_n hx hb dX7_gathers_29 rfl (lv_at hl 0 rfl) ?_
  refine va_get (C := RX7) (T := TX7) (N := 22) hx hb hts n7 hown hK hP 0 mg_0 rfl 1 (by decide) lk2 (fun _ h9 => h9) rfl dX7_gathers_30 ?_
  refine lv_aload_n hx hb dX7_gathers_33 rfl (lv_at hl 0 rfl) ?_
  refine va_get (C := RX7) (T := TX7) (N := 22) hx hb hts n7 hown hK hP 0 mg_0 rfl 1 (by decide) lk2 (fun _ h9 => h9) rfl dX7_gathers_34 ?_
  refine lv_imul hx hb dX7_gathers_37 ?_
  refine lv_aload_n hx hb dX7_gathers_38 rfl (lv_at hl 0 rfl) ?_
  refine va_get (C := RX7) (T := TX7) (N := 22) hx hb hts n7 hown hK hP 0 mg_0 rfl 1 (by decide) lk2 (fun _ h9 => h9) rfl dX7_gathers_39 ?_
  refine lv_imul hx hb dX7_gathers_42 ?_
  refine lv_iadd hx hb dX7_gathers_43 ?_
  refine cc_v (va_runV (C := RX7) (As := [.int (1 + (((u6 0 1) * (u6 0 1)) * (u6 0 1)))]) (rest := []) ⟨hx, hb, hml, hown, hts⟩ (c_X7_joins hwd H.size u6 (1 + (((u6 0 1) * (u6 0 1)) * (u6 0 1))) _ h) (cwV 1 hts gX7_gathers_X7_joins rfl rfl rfl (by decide +kernel) ⟨Nat.le_of_ble_eq_true rfl, Nat.le_of_ble_eq_true rfl⟩) (pmV hC hP hS mg_0 rfl) rfl rfl hl.1 rfl (lv_room (Nat.le_of_ble_eq_true rfl)) dX7_gathers_44 ⟨Nat.zero_le _, Nat.zero_le _⟩) hS (cA_mono hS.1) (fun u7 H locs h hP hS => ?_)
  refine lv_iconst (v := 0) hx hb dX7_gathers_47 (by decide) ?_
  refine lv_istore_n (lv' := [(1, .int 0), (0, .ref (ad 0))]) hx hb dX7_gathers_48 rfl hl (by decide) rfl (fun ls hl => ?_)
  obtain ⟨n18, h⟩ := h
  refine w_X7_gathers_L49 X _ _ (fun u19 H locs ls h hP hS hl => ?_) n18 0 _ _ _ _ h hP hS (lv_sub hl [1, 0] rfl)
  exact W.vret hx hb hr (fun t ht hW => ⟨⟨_, rfl, h, by show va_P _ _ _ t.heap; rw [ht]; exact hP⟩, hS.F ht⟩) hS.2.2 dX7_gathers_94
set_option maxRecDepth 100000 in
set_option maxHeartbeats 4000000 in
theorem c_X7_gathers {l : Launch} {D : va_G} {cI cG cZ cJ : ClassId} {ts : Nat × Nat} {ad : Nat → Nat} (hwd : WD mLs ad) (sz : Nat) (u : St) (Q : St → Prop) (h : f_X7_gathers  u Q) : Met l yX7_gathers wsX7_gathers ({ frames := 3, cells := 0, slots := 0, locals := 72 }) (va_Pc [.ref (ad 0)] (PM D cI cG cZ cJ ts ad sz u)) (va_Qv Q (fun u9 t => va_P D vwCl (mW cI cZ ad u9) t.heap) (cA mLs ad sz)) 0 0 (cA mLs ad sz) := by
  refine Met.ofW (cc := cX7_gathers) (maxL := 3) (ret := none) (by decide) rfl ?_
  intro p e s m args below meth c s₁ B hml hv
  obtain ⟨rfl, hsz, hP, hC⟩ := hv
  subst hsz
  have X : FX RX7 wsX7_gathers cX7_gathers 3 none D cI cG cZ cJ ts mLs ad p s m _ meth c := ⟨B.exec, B.bytes, hml, findClass_of_methodNamed B.named, atoms_spec (ws := wsX7_gathers) B.pre, B.returns, B.notSynchronized, hwd, hC⟩
  have hl := lv_entry ([.ref (ad 0)]) (n := 3) (Nat.le_of_ble_eq_true rfl)
  rw [lg_entry_eq]
  generalize (lg_sl ([.ref (ad 0)]) ++ List.replicate (3 - (lg_sl ([.ref (ad 0)])).length) Slot.unset).toArray = ls at hl ⊢
  exact w_X7_gathers X Q u _ _ _ h hP va_S.rf hl
set_option maxRecDepth 100000 in
set_option maxHeartbeats 4000000 in
theorem w_X7_order {p : Program} {l : Launch} {e : Env} {s : State} {m : MethodId} {args : Array Value} {below : List Frame} {meth : Method} {c : Code} {D : va_G} {cI cG cZ cJ : ClassId} {ts : Nat × Nat}  {ad : Nat → Nat}  (X : FX RX7 wsX7_order cX7_order 1 (some .int) D cI cG cZ cJ ts mLs ad p s m args meth c)  (Q : Int32 → St → Prop) (u : St) (H : Heap) (locs : List Loc) (ls : Array Slot) (h : f_X7_order  u Q) (hP : va_P D vwCl (mW cI cZ ad u) H) (hS : va_S (cA mLs ad s.heap.size) s.heap H locs) (hl : lv_has ls 1 [(0, .ref (ad 0))]) : W p l e (headSpec wsX7_order { frames := 4, cells := 0, slots := 0, locals := 94 }).room s m args below meth c H locs 0 0 (MQ below (va_Qi Q (fun u9 t => va_P D vwCl (mW cI cZ ad u9) t.heap) (cA mLs ad s.heap.size)) args s 0 0 (cA mLs ad s.heap.size)) (F0 m 0 ls []) := by
  obtain ⟨hx, hb, hml, hown, hts, hr, hlocks, hwd, hC⟩ := id X
  have hK := hC.1
  have lk0 := hts (.fieldLink RX7 60 "FormForgeModel" "thrown" "I") (by decide +kernel)
  have lk1 := hts (.fieldLink RX7 104 "FormForgeModel" "order" "I") (by decide +kernel)
  have n7 : ∀ w ∈ wsX70, w ∈ wsX7_order := by decide +kernel
  unfold f_X7_order at h
  refine lv_aload_n hx hb dX7_order_0 rfl (lv_at hl 0 rfl) ?_
  refine lv_iconst (v := 0) hx hb dX7_order_1 (by decide) ?_
  refine va_put (C := RX7) (T := TX7) (N := 22) (ty := .int) (v := .int 0) hx hb hts n7 tyX7 tyX7_ok nmX7 hown hK hP (cD hwd) hS 0 mg_0 rfl 0 (by decide) lk0 (fun _ h9 => h9) rfl (by decide +kernel) rfl rfl (Nat.le_of_ble_eq_true rfl) dX7_order_2 (fun H locs hP _ hS => ?_)
  replace hP := mu_thrown hwd hP
  obtain ⟨u1, eu1⟩ : ∃ y : St, y = su u 0 0 0 := ⟨_, rfl⟩
  rw [← eu1] at hP
  replace h := h u1 eu1
  refine lv_aload_n hx hb dX7_order_5 rfl (lv_at hl 0 rfl) ?_
  refine cc_v (va_runV (C := RX7) (As := []) (rest := []) ⟨hx, hb, hml, hown, hts⟩ (c_X7_gathers hwd H.size u1 _ h) (cwV 0 hts gX7_order_X7_gathers rfl rfl rfl (by decide +kernel) ⟨Nat.le_of_ble_eq_true rfl, Nat.le_of_ble_eq_true rfl⟩) (pmV hC hP hS mg_0 rfl) rfl rfl hl.1 rfl (lv_room (Nat.le_of_ble_eq_true rfl)) dX7_order_6 ⟨Nat.zero_le _, Nat.zero_le _⟩) hS (cA_mono hS.1) (fun u2 H locs h hP hS => ?_)
  refine lv_aload_n hx hb dX7_order_9 rfl (lv_at hl 0 rfl) ?_
  refine va_get (C := RX7) (T := TX7) (N := 22) hx hb hts n7 hown hK hP 0 mg_0 rfl 9 (by decide) lk1 (fun _ h9 => h9) rfl dX7_order_10 ?_
  exact W.iret (v := (u2 0 4)) hx hb hr (fun t ht hW => ⟨⟨_, _, rfl, h, by show va_P _ _ _ t.heap; rw [ht]; exact hP⟩, hS.F ht⟩) hS.2.2 dX7_order_13
set_option maxRecDepth 100000 in
set_option maxHeartbeats 4000000 in
theorem c_X7_order {l : Launch} {D : va_G} {cI cG cZ cJ : ClassId} {ts : Nat × Nat} {ad : Nat → Nat} (hwd : WD mLs ad) (sz : Nat) (u : St) (Q : Int32 → St → Prop) (h : f_X7_order  u Q) : Met l yX7_order wsX7_order ({ frames := 4, cells := 0, slots := 0, locals := 94 }) (va_Pc [.ref (ad 0)] (PM D cI cG cZ cJ ts ad sz u)) (va_Qi Q (fun u9 t => va_P D vwCl (mW cI cZ ad u9) t.heap) (cA mLs ad sz)) 0 0 (cA mLs ad sz) := by
  refine Met.ofW (cc := cX7_order) (maxL := 1) (ret := (some .int)) (by decide) rfl ?_
  intro p e s m args below meth c s₁ B hml hv
  obtain ⟨rfl, hsz, hP, hC⟩ := hv
  subst hsz
  have X : FX RX7 wsX7_order cX7_order 1 (some .int) D cI cG cZ cJ ts mLs ad p s m _ meth c := ⟨B.exec, B.bytes, hml, findClass_of_methodNamed B.named, atoms_spec (ws := wsX7_order) B.pre, B.returns, B.notSynchronized, hwd, hC⟩
  have hl := lv_entry ([.ref (ad 0)]) (n := 1) (Nat.le_of_ble_eq_true rfl)
  rw [lg_entry_eq]
  generalize (lg_sl ([.ref (ad 0)]) ++ List.replicate (1 - (lg_sl ([.ref (ad 0)])).length) Slot.unset).toArray = ls at hl ⊢
  exact w_X7_order X Q u _ _ _ h hP va_S.rf hl
set_option maxRecDepth 100000 in
set_option maxHeartbeats 4000000 in
theorem w_X7_generatorCode {p : Program} {l : Launch} {e : Env} {s : State} {m : MethodId} {args : Array Value} {below : List Frame} {meth : Method} {c : Code} {D : va_G} {cI cG cZ cJ : ClassId} {ts : Nat × Nat}  {ad : Nat → Nat}  (X : FX RX7 wsX7_generatorCode cX7_generatorCode 3 (some .int) D cI cG cZ cJ ts mLs ad p s m args meth c) (a1 : Int32) (Q : Int32 → St → Prop) (u : St) (H : Heap) (locs : List Loc) (ls : Array Slot) (h : f_X7_generatorCode a1 u Q) (hP : va_P D vwCl (mW cI cZ ad u) H) (hS : va_S (cA mLs ad s.heap.size) s.heap H locs) (hl : lv_has ls 3 [(0, .ref (ad 0)), (1, .int a1)]) : W p l e (headSpec wsX7_generatorCode { frames := 0, cells := 0, slots := 0, locals := 0 }).room s m args below meth c H locs 0 0 (MQ below (va_Qi Q (fun u9 t => va_P D vwCl (mW cI cZ ad u9) t.heap) (cA mLs ad s.heap.size)) args s 0 0 (cA mLs ad s.heap.size)) (F0 m 0 ls []) := by
  obtain ⟨hx, hb, hml, hown, hts, hr, hlocks, hwd, hC⟩ := id X
  have hK := hC.1
  have lk0 := hts (.fieldLink RX7 20 "FormForgeModel" "matrix" "[I") (by decide +kernel)
  have lk1 := hts (.fieldLink RX7 7 "FormForgeModel" "p" "I") (by decide +kernel)
  have n7 : ∀ w ∈ wsX70, w ∈ wsX7_generatorCode := by decide +kernel
  unfold f_X7_generatorCode at h
  refine lv_iconst (v := 4) hx hb dX7_generatorCode_0 (by decide) ?_
  refine lv_iload_n hx hb dX7_generatorCode_1 rfl (lv_at hl 1 rfl) ?_
  refine lv_imul hx hb dX7_generatorCode_2 ?_
  refine lv_topi (fun v1 ev1 => ?_)
  replace h := h v1 ev1
  refine lv_istore_n (lv' := [(2, .int v1), (0, .ref (ad 0)), (1, .int a1)]) hx hb dX7_generatorCode_3 rfl hl (by decide) rfl (fun ls hl => ?_)
  refine lv_aload_n hx hb dX7_generatorCode_4 rfl (lv_at hl 1 rfl) ?_
  refine va_get (C := RX7) (T := TX7) (N := 22) hx hb hts n7 hown hK hP 0 mg_0 rfl 5 (by decide) lk0 (fun _ h9 => h9) rfl dX7_generatorCode_5 ?_
  refine lv_iload_n hx hb dX7_generatorCode_8 rfl (lv_at hl 0 rfl) ?_
  refine va_iald hx hb hK hP 3 0 (mg_a ⟨by decide, by decide, by decide⟩) rfl h.1 dX7_generatorCode_9 ?_
  refine lv_topi (fun v2 ev2 => ?_)
  replace h := h.2 v2 ev2
  refine lv_aload_n hx hb dX7_generatorCode_10 rfl (lv_at hl 1 rfl) ?_
  refine va_get (C := RX7) (T := TX7) (N := 22) hx hb hts n7 hown hK hP 0 mg_0 rfl 1 (by decide) lk1 (fun _ h9 => h9) rfl dX7_generatorCode_11 ?_
  refine lv_aload_n hx hb dX7_generatorCode_14 rfl (lv_at hl 1 rfl) ?_
  refine va_get (C := RX7) (T := TX7) (N := 22) hx hb hts n7 hown hK hP 0 mg_0 rfl 5 (by decide) lk0 (fun _ h9 => h9) rfl dX7_generatorCode_15 ?_
  refine lv_iload_n hx hb dX7_generatorCode_18 rfl (lv_at hl 0 rfl) ?_
  refine lv_iconst (v := 1) hx hb dX7_generatorCode_19 (by decide) ?_
  refine lv_iadd hx hb dX7_generatorCode_20 ?_
  refine va_iald hx hb hK hP 3 0 (mg_a ⟨by decide, by decide, by decide⟩) rfl h.1 dX7_generatorCode_21 ?_
  refine lv_topi (fun v3 ev3 => ?_)
  replace h := h.2 v3 ev3
  refine lv_imul hx hb dX7_generatorCode_22 ?_
  refine lv_iadd hx hb dX7_generatorCode_23 ?_
  refine lv_aload_n hx hb dX7_generatorCode_24 rfl (lv_at hl 1 rfl) ?_
  refine va_get (C := RX7) (T := TX7) (N := 22) hx hb hts n7 hown hK hP 0 mg_0 rfl 1 (by decide) lk1 (fun _ h9 => h9) rfl dX7_generatorCode_25 ?_
  refine lv_aload_n hx hb dX7_generatorCode_28 rfl (lv_at hl 1 rfl) ?_
  refine va_get (C := RX7) (T := TX7) (N := 22) hx hb hts n7 hown hK hP 0 mg_0 rfl 1 (by decide) lk1 (fun _ h9 => h9) rfl dX7_generatorCode_29 ?_
  refine lv_imul hx hb dX7_generatorCode_32 ?_
  refine lv_aload_n hx hb dX7_generatorCode_33 rfl (lv_at hl 1 rfl) ?_
  refine va_get (C := RX7) (T := TX7) (N := 22) hx hb hts n7 hown hK hP 0 mg_0 rfl 5 (by decide) lk0 (fun _ h9 => h9) rfl dX7_generatorCode_34 ?_
  refine lv_iload_n hx hb dX7_generatorCode_37 rfl (lv_at hl 0 rfl) ?_
  refine lv_iconst (v := 2) hx hb dX7_generatorCode_38 (by decide) ?_
  refine lv_iadd hx hb dX7_generatorCode_39 ?_
  refine va_iald hx hb hK hP 3 0 (mg_a ⟨by decide, by decide, by decide⟩) rfl h.1 dX7_generatorCode_40 ?_
  refine lv_topi (fun v4 ev4 => ?_)
  replace h := h.2 v4 ev4
  refine lv_imul hx hb dX7_generatorCode_41 ?_
  refine lv_iadd hx hb dX7_generatorCode_42 ?_
  refine lv_aload_n hx hb dX7_generatorCode_43 rfl (lv_at hl 1 rfl) ?_
  refine va_get (C := RX7) (T := TX7) (N := 22) hx hb hts n7 hown hK hP 0 mg_0 rfl 1 (by decide) lk1 (fun _ h9 => h9) rfl dX7_generatorCode_44 ?_
  refine lv_aload_n hx hb dX7_generatorCode_47 rfl (lv_at hl 1 rfl) ?_
  refine va_get (C := RX7) (T := TX7) (N := 22) hx hb hts n7 hown hK hP 0 mg_0 rfl 1 (by decide) lk1 (fun _ h9 => h9) rfl dX7_generatorCode_48 ?_
  refine lv_imul hx hb dX7_generatorCode_51 ?_
  refine lv_aload_n hx hb dX7_generatorCode_52 rfl (lv_at hl 1 rfl) ?_
  refine va_get (C := RX7) (T := TX7) (N := 22) hx hb hts n7 hown hK hP 0 mg_0 rfl 1 (by decide) lk1 (fun _ h9 => h9) rfl dX7_generatorCode_53 ?_
  refine lv_imul hx hb dX7_generatorCode_56 ?_
  refine lv_aload_n hx hb dX7_generatorCode_57 rfl (lv_at hl 1 rfl) ?_
  refine va_get (C := RX7) (T := TX7) (N := 22) hx hb hts n7 hown hK hP 0 mg_0 rfl 5 (by decide) lk0 (fun _ h9 => h9) rfl dX7_generatorCode_58 ?_
  refine lv_iload_n hx hb dX7_generatorCode_61 rfl (lv_at hl 0 rfl) ?_
  refine lv_iconst (v := 3) hx hb dX7_generatorCode_62 (by decide) ?_
  refine lv_iadd hx hb dX7_generatorCode_63 ?_
  refine va_iald hx hb hK hP 3 0 (mg_a ⟨by decide, by decide, by decide⟩) rfl h.1 dX7_generatorCode_64 ?_
  refine lv_topi (fun v5 ev5 => ?_)
  replace h := h.2 v5 ev5
  refine lv_imul hx hb dX7_generatorCode_65 ?_
  refine lv_iadd hx hb dX7_generatorCode_66 ?_
  exact W.iret (v := (((v2 + ((u 0 1) * v3)) + (((u 0 1) * (u 0 1)) * v4)) + ((((u 0 1) * (u 0 1)) * (u 0 1)) * v5))) hx hb hr (fun t ht hW => ⟨⟨_, _, rfl, h, by show va_P _ _ _ t.heap; rw [ht]; exact hP⟩, hS.F ht⟩) hS.2.2 dX7_generatorCode_67
set_option maxRecDepth 100000 in
set_option maxHeartbeats 4000000 in
theorem c_X7_generatorCode {l : Launch} {D : va_G} {cI cG cZ cJ : ClassId} {ts : Nat × Nat} {ad : Nat → Nat} (hwd : WD mLs ad) (sz : Nat) (u : St) (a1 : Int32) (Q : Int32 → St → Prop) (h : f_X7_generatorCode a1 u Q) : Met l yX7_generatorCode wsX7_generatorCode ({ frames := 0, cells := 0, slots := 0, locals := 0 }) (va_Pc [.ref (ad 0), .int a1] (PM D cI cG cZ cJ ts ad sz u)) (va_Qi Q (fun u9 t => va_P D vwCl (mW cI cZ ad u9) t.heap) (cA mLs ad sz)) 0 0 (cA mLs ad sz) := by
  refine Met.ofW (cc := cX7_generatorCode) (maxL := 3) (ret := (some .int)) (by decide) rfl ?_
  intro p e s m args below meth c s₁ B hml hv
  obtain ⟨rfl, hsz, hP, hC⟩ := hv
  subst hsz
  have X : FX RX7 wsX7_generatorCode cX7_generatorCode 3 (some .int) D cI cG cZ cJ ts mLs ad p s m _ meth c := ⟨B.exec, B.bytes, hml, findClass_of_methodNamed B.named, atoms_spec (ws := wsX7_generatorCode) B.pre, B.returns, B.notSynchronized, hwd, hC⟩
  have hl := lv_entry ([.ref (ad 0), .int a1]) (n := 3) (Nat.le_of_ble_eq_true rfl)
  rw [lg_entry_eq]
  generalize (lg_sl ([.ref (ad 0), .int a1]) ++ List.replicate (3 - (lg_sl ([.ref (ad 0), .int a1])).length) Slot.unset).toArray = ls at hl ⊢
  exact w_X7_generatorCode X a1 Q u _ _ _ h hP va_S.rf hl
set_option maxRecDepth 100000 in
set_option maxHeartbeats 4000000 in
theorem w_X7_learns_L10 {p : Program} {l : Launch} {e : Env} {s : State} {m : MethodId} {args : Array Value} {below : List Frame} {meth : Method} {c : Code} {D : va_G} {cI cG cZ cJ : ClassId} {ts : Nat × Nat}  {ad : Nat → Nat}  (X : FX RX7 wsX7_learns cX7_learns 8 none D cI cG cZ cJ ts mLs ad p s m args meth c) (a1 : Int32) (a2 : Int32) (a3 : Int32) (Q : St → Prop)
    (K0 : St → Prop) (hk0 : ∀ (u : St) (H : Heap) (locs : List Loc) (ls : Array Slot), K0 u → va_P D vwCl (mW cI cZ ad u) H → va_S (cA mLs ad s.heap.size) s.heap H locs → lv_has ls 8 [(0, .ref (ad 0)), (1, .int a1), (2, .int a2), (3, .int a3)] → W p l e (headSpec wsX7_learns { frames := 2, cells := 0, slots := 0, locals := 45 }).room s m args below meth c H locs 0 0 (MQ below (va_Qv Q (fun u9 t => va_P D vwCl (mW cI cZ ad u9) t.heap) (cA mLs ad s.heap.size)) args s 0 0 (cA mLs ad s.heap.size)) (F0 m 39 ls []))
    : ∀ (n : Nat) (a4 : Int32) (u : St) (H : Heap) (locs : List Loc) (ls : Array Slot), f_X7_learns_L10 a1 a2 a3 Q K0 n a4 u → va_P D vwCl (mW cI cZ ad u) H → va_S (cA mLs ad s.heap.size) s.heap H locs → lv_has ls 8 [(0, .ref (ad 0)), (1, .int a1), (2, .int a2), (3, .int a3), (4, .int a4)] → W p l e (headSpec wsX7_learns { frames := 2, cells := 0, slots := 0, locals := 45 }).room s m args below meth c H locs 0 0 (MQ below (va_Qv Q (fun u9 t => va_P D vwCl (mW cI cZ ad u9) t.heap) (cA mLs ad s.heap.size)) args s 0 0 (cA mLs ad s.heap.size)) (F0 m 10 ls []) := by
  obtain ⟨hx, hb, hml, hown, hts, hr, hlocks, hwd, hC⟩ := id X
  have hK := hC.1
  have lk0 := hts (.fieldLink RX7 36 "FormForgeModel" "one" "[I") (by decide +kernel)
  have lk1 := hts (.fieldLink RX7 30 "FormForgeModel" "does" "[I") (by decide +kernel)
  have n7 : ∀ w ∈ wsX70, w ∈ wsX7_learns := by decide +kernel
  intro n
  induction n with
  | zero =>
    intro a4 u H locs ls h; exact h.elim
  | succ n ih =>
    intro a4 u H locs ls h hP hS hl
    replace h : f_X7_learns_L10_s a1 a2 a3 Q K0 (f_X7_learns_L10 a1 a2 a3 Q K0 n) a4 u := h
    unfold f_X7_learns_L10_s at h
    refine lv_iload hx hb dX7_learns_10 (lv_at hl 4 rfl) ?_
    refine lv_iconst (v := 5) hx hb dX7_learns_12 (by decide) ?_
    refine lv_icmp_ge (tgt := 39) hx hb dX7_learns_13 (by decide) (fun c2 => ?_) (fun c2 => ?_)
    · replace h := h.1 c2
      exact hk0  _ _ _ _ h hP hS (lv_sub hl [0, 1, 2, 3] rfl)
    · replace h := h.2 c2
      refine lv_aload_n hx hb dX7_learns_16 rfl (lv_at hl 0 rfl) ?_
      refine va_get (C := RX7) (T := TX7) (N := 22) hx hb hts n7 hown hK hP 0 mg_0 rfl 13 (by decide) lk0 (fun _ h9 => h9) rfl dX7_learns_17 ?_
      refine lv_iload hx hb dX7_learns_20 (lv_at hl 4 rfl) ?_
      refine lv_iload hx hb dX7_learns_22 (lv_at hl 4 rfl) ?_
      refine lv_if_ne (tgt := 31) hx hb dX7_learns_24 (by decide) (fun c3 => ?_) (fun c3 => ?_)
      · replace h := h.1 c3
        refine lv_iconst (v := 0) hx hb dX7_learns_31 (by decide) ?_
        refine va_iast hx hb hK hP (cD hwd) hS 8 0 (mg_a ⟨by decide, by decide, by decide⟩) rfl h.1 dX7_learns_32 (fun H locs hP _ hS => ?_)
        replace hP := mu_a hwd ⟨by decide, by decide, by decide⟩ hP
        obtain ⟨u4, eu4⟩ : ∃ y : St, y = su u 8 a4.toNatClampNeg 0 := ⟨_, rfl⟩
        rw [← eu4] at hP
        replace h := h.2 u4 eu4
        obtain ⟨v5, ev5⟩ : ∃ y : Int32, y = a4 + 1 := ⟨_, rfl⟩
        refine lv_iinc (v := v5) (lv' := [(4, .int v5), (0, .ref (ad 0)), (1, .int a1), (2, .int a2), (3, .int a3)]) hx hb dX7_learns_33 hl (k := 4) rfl (by rw [ev5]; rfl) (by decide) rfl (fun ls hl => ?_)
        replace h := h v5 ev5
        refine lv_goto (tgt := 10) hx hb dX7_learns_36 (by decide) ?_
        exact ih v5 _ _ _ _ h hP hS (lv_sub hl [1, 2, 3, 4, 0] rfl)
      · replace h := h.2 c3
        refine lv_iconst (v := 1) hx hb dX7_learns_27 (by decide) ?_
        refine lv_goto (tgt := 32) hx hb dX7_learns_28 (by decide) ?_
        refine va_iast hx hb hK hP (cD hwd) hS 8 0 (mg_a ⟨by decide, by decide, by decide⟩) rfl h.1 dX7_learns_32 (fun H locs hP _ hS => ?_)
        replace hP := mu_a hwd ⟨by decide, by decide, by decide⟩ hP
        obtain ⟨u6, eu6⟩ : ∃ y : St, y = su u 8 a4.toNatClampNeg 1 := ⟨_, rfl⟩
        rw [← eu6] at hP
        replace h := h.2 u6 eu6
        obtain ⟨v7, ev7⟩ : ∃ y : Int32, y = a4 + 1 := ⟨_, rfl⟩
        refine lv_iinc (v := v7) (lv' := [(4, .int v7), (0, .ref (ad 0)), (1, .int a1), (2, .int a2), (3, .int a3)]) hx hb dX7_learns_33 hl (k := 4) rfl (by rw [ev7]; rfl) (by decide) rfl (fun ls hl => ?_)
        replace h := h v7 ev7
        refine lv_goto (tgt := 10) hx hb dX7_learns_36 (by decide) ?_
        exact ih v7 _ _ _ _ h hP hS (lv_sub hl [1, 2, 3, 4, 0] rfl)
set_option maxRecDepth 100000 in
set_option maxHeartbeats 4000000 in
theorem w_X7_learns_L90 {p : Program} {l : Launch} {e : Env} {s : State} {m : MethodId} {args : Array Value} {below : List Frame} {meth : Method} {c : Code} {D : va_G} {cI cG cZ cJ : ClassId} {ts : Nat × Nat}  {ad : Nat → Nat}  (X : FX RX7 wsX7_learns cX7_learns 8 none D cI cG cZ cJ ts mLs ad p s m args meth c) (a1 : Int32) (a2 : Int32) (a3 : Int32) (a4 : Int32) (a5 : Int32) (a6 : Int32) (Q : St → Prop)
    (K0 : St → Prop) (hk0 : ∀ (u : St) (H : Heap) (locs : List Loc) (ls : Array Slot), K0 u → va_P D vwCl (mW cI cZ ad u) H → va_S (cA mLs ad s.heap.size) s.heap H locs → lv_has ls 8 [(0, .ref (ad 0)), (1, .int a1), (2, .int a2), (3, .int a3), (4, .int a4), (5, .int a5)] → W p l e (headSpec wsX7_learns { frames := 2, cells := 0, slots := 0, locals := 45 }).room s m args below meth c H locs 0 0 (MQ below (va_Qv Q (fun u9 t => va_P D vwCl (mW cI cZ ad u9) t.heap) (cA mLs ad s.heap.size)) args s 0 0 (cA mLs ad s.heap.size)) (F0 m 135 ls []))
    : ∀ (n : Nat) (a7 : Int32) (u : St) (H : Heap) (locs : List Loc) (ls : Array Slot), f_X7_learns_L90 a1 a2 a3 a4 a5 a6 Q K0 n a7 u → va_P D vwCl (mW cI cZ ad u) H → va_S (cA mLs ad s.heap.size) s.heap H locs → lv_has ls 8 [(0, .ref (ad 0)), (1, .int a1), (2, .int a2), (3, .int a3), (4, .int a4), (5, .int a5), (6, .int a6), (7, .int a7)] → W p l e (headSpec wsX7_learns { frames := 2, cells := 0, slots := 0, locals := 45 }).room s m args below meth c H locs 0 0 (MQ below (va_Qv Q (fun u9 t => va_P D vwCl (mW cI cZ ad u9) t.heap) (cA mLs ad s.heap.size)) args s 0 0 (cA mLs ad s.heap.size)) (F0 m 90 ls []) := by
  obtain ⟨hx, hb, hml, hown, hts, hr, hlocks, hwd, hC⟩ := id X
  have hK := hC.1
  have lk0 := hts (.fieldLink RX7 36 "FormForgeModel" "one" "[I") (by decide +kernel)
  have lk1 := hts (.fieldLink RX7 30 "FormForgeModel" "does" "[I") (by decide +kernel)
  have n7 : ∀ w ∈ wsX70, w ∈ wsX7_learns := by decide +kernel
  intro n
  induction n with
  | zero =>
    intro a7 u H locs ls h; exact h.elim
  | succ n ih =>
    intro a7 u H locs ls h hP hS hl
    replace h : f_X7_learns_L90_s a1 a2 a3 a4 a5 a6 Q K0 (f_X7_learns_L90 a1 a2 a3 a4 a5 a6 Q K0 n) a7 u := h
    unfold f_X7_learns_L90_s at h
    refine lv_iload hx hb dX7_learns_90 (lv_at hl 7 rfl) ?_
    refine lv_if_le (tgt := 135) hx hb dX7_learns_92 (by decide) (fun c18 => ?_) (fun c18 => ?_)
    · replace h := h.1 c18
      exact hk0  _ _ _ _ h hP hS (lv_sub hl [0, 1, 2, 3, 4, 5] rfl)
    · replace h := h.2 c18
      refine lv_aload_n hx hb dX7_learns_95 rfl (lv_at hl 0 rfl) ?_
      refine va_get (C := RX7) (T := TX7) (N := 22) hx hb hts n7 hown hK hP 0 mg_0 rfl 13 (by decide) lk0 (fun _ h9 => h9) rfl dX7_learns_96 ?_
      refine lv_iload hx hb dX7_learns_99 (lv_at hl 7 rfl) ?_
      refine lv_aload_n hx hb dX7_learns_101 rfl (lv_at hl 0 rfl) ?_
      refine lv_iload hx hb dX7_learns_102 (lv_at hl 5 rfl) ?_
      refine lv_aload_n hx hb dX7_learns_104 rfl (lv_at hl 0 rfl) ?_
      refine va_get (C := RX7) (T := TX7) (N := 22) hx hb hts n7 hown hK hP 0 mg_0 rfl 13 (by decide) lk0 (fun _ h9 => h9) rfl dX7_learns_105 ?_
      refine lv_iload hx hb dX7_learns_108 (lv_at hl 7 rfl) ?_
      refine va_iald hx hb hK hP 8 0 (mg_a ⟨by decide, by decide, by decide⟩) rfl h.1 dX7_learns_110 ?_
      refine lv_topi (fun v19 ev19 => ?_)
      replace h := h.2 v19 ev19
      refine lv_imul hx hb dX7_learns_111 ?_
      refine lv_iload hx hb dX7_learns_112 (lv_at hl 6 rfl) ?_
      refine lv_aload_n hx hb dX7_learns_114 rfl (lv_at hl 0 rfl) ?_
      refine va_get (C := RX7) (T := TX7) (N := 22) hx hb hts n7 hown hK hP 0 mg_0 rfl 13 (by decide) lk0 (fun _ h9 => h9) rfl dX7_learns_115 ?_
      refine lv_iload hx hb dX7_learns_118 (lv_at hl 7 rfl) ?_
      refine lv_iconst (v := 1) hx hb dX7_learns_120 (by decide) ?_
      refine lv_isub hx hb dX7_learns_121 ?_
      refine va_iald hx hb hK hP 8 0 (mg_a ⟨by decide, by decide, by decide⟩) rfl h.1 dX7_learns_122 ?_
      refine lv_topi (fun v20 ev20 => ?_)
      replace h := h.2 v20 ev20
      refine lv_imul hx hb dX7_learns_123 ?_
      refine lv_iadd hx hb dX7_learns_124 ?_
      refine cc_i (va_runV (C := RX7) (As := [.int ((a5 * v19) + (a6 * v20))]) (rest := [.int a7, .ref (ad 8)]) ⟨hx, hb, hml, hown, hts⟩ (c_X7_mod hwd H.size u ((a5 * v19) + (a6 * v20)) _ h) (cwV 1 hts gX7_learns_X7_mod rfl rfl rfl (by decide +kernel) ⟨Nat.le_of_ble_eq_true rfl, Nat.le_of_ble_eq_true rfl⟩) (pmV hC hP hS mg_0 rfl) rfl rfl hl.1 rfl (lv_room (Nat.le_of_ble_eq_true rfl)) dX7_learns_125 ⟨Nat.zero_le _, Nat.zero_le _⟩) hS (cA_mono hS.1) (fun v21 u22 H locs h hP hS => ?_)
      refine va_iast hx hb hK hP (cD hwd) hS 8 0 (mg_a ⟨by decide, by decide, by decide⟩) rfl h.1 dX7_learns_128 (fun H locs hP _ hS => ?_)
      replace hP := mu_a hwd ⟨by decide, by decide, by decide⟩ hP
      obtain ⟨u23, eu23⟩ : ∃ y : St, y = su u22 8 a7.toNatClampNeg v21 := ⟨_, rfl⟩
      rw [← eu23] at hP
      replace h := h.2 u23 eu23
      obtain ⟨v24, ev24⟩ : ∃ y : Int32, y = a7 + (-1) := ⟨_, rfl⟩
      refine lv_iinc (v := v24) (lv' := [(7, .int v24), (0, .ref (ad 0)), (1, .int a1), (2, .int a2), (3, .int a3), (4, .int a4), (5, .int a5), (6, .int a6)]) hx hb dX7_learns_129 hl (k := 7) rfl (by rw [ev24]; rfl) (by decide) rfl (fun ls hl => ?_)
      replace h := h v24 ev24
      refine lv_goto (tgt := 90) hx hb dX7_learns_132 (by decide) ?_
      exact ih v24 _ _ _ _ h hP hS (lv_sub hl [1, 2, 3, 4, 5, 6, 7, 0] rfl)
set_option maxRecDepth 100000 in
set_option maxHeartbeats 4000000 in
theorem w_X7_learns_L42 {p : Program} {l : Launch} {e : Env} {s : State} {m : MethodId} {args : Array Value} {below : List Frame} {meth : Method} {c : Code} {D : va_G} {cI cG cZ cJ : ClassId} {ts : Nat × Nat}  {ad : Nat → Nat}  (X : FX RX7 wsX7_learns cX7_learns 8 none D cI cG cZ cJ ts mLs ad p s m args meth c) (a1 : Int32) (a2 : Int32) (a3 : Int32) (Q : St → Prop)
    (K0 : St → Prop) (hk0 : ∀ (u : St) (H : Heap) (locs : List Loc) (ls : Array Slot), K0 u → va_P D vwCl (mW cI cZ ad u) H → va_S (cA mLs ad s.heap.size) s.heap H locs → lv_has ls 8 [(0, .ref (ad 0)), (1, .int a1), (2, .int a2), (3, .int a3)] → W p l e (headSpec wsX7_learns { frames := 2, cells := 0, slots := 0, locals := 45 }).room s m args below meth c H locs 0 0 (MQ below (va_Qv Q (fun u9 t => va_P D vwCl (mW cI cZ ad u9) t.heap) (cA mLs ad s.heap.size)) args s 0 0 (cA mLs ad s.heap.size)) (F0 m 160 ls []))
    : ∀ (n : Nat) (a4 : Int32) (u : St) (H : Heap) (locs : List Loc) (ls : Array Slot), f_X7_learns_L42 a1 a2 a3 Q K0 n a4 u → va_P D vwCl (mW cI cZ ad u) H → va_S (cA mLs ad s.heap.size) s.heap H locs → lv_has ls 8 [(0, .ref (ad 0)), (1, .int a1), (2, .int a2), (3, .int a3), (4, .int a4)] → W p l e (headSpec wsX7_learns { frames := 2, cells := 0, slots := 0, locals := 45 }).room s m args below meth c H locs 0 0 (MQ below (va_Qv Q (fun u9 t => va_P D vwCl (mW cI cZ ad u9) t.heap) (cA mLs ad s.heap.size)) args s 0 0 (cA mLs ad s.heap.size)) (F0 m 42 ls []) := by
  obtain ⟨hx, hb, hml, hown, hts, hr, hlocks, hwd, hC⟩ := id X
  have hK := hC.1
  have lk0 := hts (.fieldLink RX7 36 "FormForgeModel" "one" "[I") (by decide +kernel)
  have lk1 := hts (.fieldLink RX7 30 "FormForgeModel" "does" "[I") (by decide +kernel)
  have n7 : ∀ w ∈ wsX70, w ∈ wsX7_learns := by decide +kernel
  intro n
  induction n with
  | zero =>
    intro a4 u H locs ls h; exact h.elim
  | succ n ih =>
    intro a4 u H locs ls h hP hS hl
    replace h : f_X7_learns_L42_s a1 a2 a3 Q K0 (f_X7_learns_L42 a1 a2 a3 Q K0 n) a4 u := h
    unfold f_X7_learns_L42_s at h
    refine lv_iload hx hb dX7_learns_42 (lv_at hl 4 rfl) ?_
    refine lv_iload_n hx hb dX7_learns_44 rfl (lv_at hl 2 rfl) ?_
    refine lv_icmp_ge (tgt := 160) hx hb dX7_learns_45 (by decide) (fun c10 => ?_) (fun c10 => ?_)
    · replace h := h.1 c10
      exact hk0  _ _ _ _ h hP hS (lv_sub hl [0, 1, 2, 3] rfl)
    · replace h := h.2 c10
      refine lv_aload_n hx hb dX7_learns_48 rfl (lv_at hl 0 rfl) ?_
      refine lv_iload_n hx hb dX7_learns_49 rfl (lv_at hl 1 rfl) ?_
      refine lv_iload hx hb dX7_learns_50 (lv_at hl 4 rfl) ?_
      refine lv_iload_n hx hb dX7_learns_52 rfl (lv_at hl 3 rfl) ?_
      refine lv_icmp_ge (tgt := 60) hx hb dX7_learns_53 (by decide) (fun c11 => ?_) (fun c11 => ?_)
      · replace h := h.1 c11
        refine lv_iconst (v := 0) hx hb dX7_learns_60 (by decide) ?_
        refine cc_i (va_runV (C := RX7) (As := [.int a1, .int 0]) (rest := []) ⟨hx, hb, hml, hown, hts⟩ (c_X7_figure hwd H.size u a1 0 _ h) (cwV 2 hts gX7_learns_X7_figure rfl rfl rfl (by decide +kernel) ⟨Nat.le_of_ble_eq_true rfl, Nat.le_of_ble_eq_true rfl⟩) (pmV hC hP hS mg_0 rfl) rfl rfl hl.1 rfl (lv_room (Nat.le_of_ble_eq_true rfl)) dX7_learns_61 ⟨Nat.zero_le _, Nat.zero_le _⟩) hS (cA_mono hS.1) (fun v12 u13 H locs h hP hS => ?_)
        refine lv_istore (lv' := [(5, .int v12), (0, .ref (ad 0)), (1, .int a1), (2, .int a2), (3, .int a3), (4, .int a4)]) hx hb dX7_learns_64 hl (by decide) rfl (fun ls hl => ?_)
        refine lv_aload_n hx hb dX7_learns_66 rfl (lv_at hl 1 rfl) ?_
        refine lv_iload_n hx hb dX7_learns_67 rfl (lv_at hl 2 rfl) ?_
        refine lv_iload hx hb dX7_learns_68 (lv_at hl 5 rfl) ?_
        refine lv_iload_n hx hb dX7_learns_70 rfl (lv_at hl 4 rfl) ?_
        refine lv_icmp_ge (tgt := 78) hx hb dX7_learns_71 (by decide) (fun c14 => ?_) (fun c14 => ?_)
        · replace h := h.1 c14
          refine lv_iconst (v := 1) hx hb dX7_learns_78 (by decide) ?_
          refine cc_i (va_runV (C := RX7) (As := [.int a1, .int 1]) (rest := []) ⟨hx, hb, hml, hown, hts⟩ (c_X7_figure hwd H.size u13 a1 1 _ h) (cwV 2 hts gX7_learns_X7_figure rfl rfl rfl (by decide +kernel) ⟨Nat.le_of_ble_eq_true rfl, Nat.le_of_ble_eq_true rfl⟩) (pmV hC hP hS mg_0 rfl) rfl rfl hl.1 rfl (lv_room (Nat.le_of_ble_eq_true rfl)) dX7_learns_79 ⟨Nat.zero_le _, Nat.zero_le _⟩) hS (cA_mono hS.1) (fun v15 u16 H locs h hP hS => ?_)
          refine lv_istore (lv' := [(6, .int v15), (5, .int v12), (0, .ref (ad 0)), (1, .int a1), (2, .int a2), (3, .int a3), (4, .int a4)]) hx hb dX7_learns_82 hl (by decide) rfl (fun ls hl => ?_)
          refine lv_iload hx hb dX7_learns_84 (lv_at hl 6 rfl) ?_
          refine lv_iconst (v := 1) hx hb dX7_learns_86 (by decide) ?_
          refine lv_iadd hx hb dX7_learns_87 ?_
          refine lv_topi (fun v17 ev17 => ?_)
          replace h := h v17 ev17
          refine lv_istore (lv' := [(7, .int v17), (6, .int v15), (5, .int v12), (0, .ref (ad 0)), (1, .int a1), (2, .int a2), (3, .int a3), (4, .int a4)]) hx hb dX7_learns_88 hl (by decide) rfl (fun ls hl => ?_)
          obtain ⟨n25, h⟩ := h
          refine w_X7_learns_L90 X a1 a2 a3 a4 v12 v15 _ _ (fun u26 H locs ls h hP hS hl => ?_) n25 v17 _ _ _ _ h hP hS (lv_sub hl [3, 4, 5, 6, 7, 2, 1, 0] rfl)
          refine lv_aload_n hx hb dX7_learns_135 rfl (lv_at hl 0 rfl) ?_
          refine va_get (C := RX7) (T := TX7) (N := 22) hx hb hts n7 hown hK hP 0 mg_0 rfl 13 (by decide) lk0 (fun _ h9 => h9) rfl dX7_learns_136 ?_
          refine lv_iconst (v := 0) hx hb dX7_learns_139 (by decide) ?_
          refine lv_aload_n hx hb dX7_learns_140 rfl (lv_at hl 0 rfl) ?_
          refine lv_iload hx hb dX7_learns_141 (lv_at hl 5 rfl) ?_
          refine lv_aload_n hx hb dX7_learns_143 rfl (lv_at hl 0 rfl) ?_
          refine va_get (C := RX7) (T := TX7) (N := 22) hx hb hts n7 hown hK hP 0 mg_0 rfl 13 (by decide) lk0 (fun _ h9 => h9) rfl dX7_learns_144 ?_
          refine lv_iconst (v := 0) hx hb dX7_learns_147 (by decide) ?_
          refine va_iald hx hb hK hP 8 0 (mg_a ⟨by decide, by decide, by decide⟩) rfl h.1 dX7_learns_148 ?_
          refine lv_topi (fun v27 ev27 => ?_)
          replace h := h.2 v27 ev27
          refine lv_imul hx hb dX7_learns_149 ?_
          refine cc_i (va_runV (C := RX7) (As := [.int (v12 * v27)]) (rest := [.int 0, .ref (ad 8)]) ⟨hx, hb, hml, hown, hts⟩ (c_X7_mod hwd H.size u26 (v12 * v27) _ h) (cwV 1 hts gX7_learns_X7_mod rfl rfl rfl (by decide +kernel) ⟨Nat.le_of_ble_eq_true rfl, Nat.le_of_ble_eq_true rfl⟩) (pmV hC hP hS mg_0 rfl) rfl rfl hl.1 rfl (lv_room (Nat.le_of_ble_eq_true rfl)) dX7_learns_150 ⟨Nat.zero_le _, Nat.zero_le _⟩) hS (cA_mono hS.1) (fun v28 u29 H locs h hP hS => ?_)
          refine va_iast hx hb hK hP (cD hwd) hS 8 0 (mg_a ⟨by decide, by decide, by decide⟩) rfl h.1 dX7_learns_153 (fun H locs hP _ hS => ?_)
          replace hP := mu_a hwd ⟨by decide, by decide, by decide⟩ hP
          obtain ⟨u30, eu30⟩ : ∃ y : St, y = su u29 8 (0 : Int32).toNatClampNeg v28 := ⟨_, rfl⟩
          rw [← eu30] at hP
          replace h := h.2 u30 eu30
          obtain ⟨v31, ev31⟩ : ∃ y : Int32, y = a4 + 1 := ⟨_, rfl⟩
          refine lv_iinc (v := v31) (lv' := [(4, .int v31), (0, .ref (ad 0)), (1, .int a1), (2, .int a2), (3, .int a3), (5, .int v12)]) hx hb dX7_learns_154 hl (k := 4) rfl (by rw [ev31]; rfl) (by decide) rfl (fun ls hl => ?_)
          replace h := h v31 ev31
          refine lv_goto (tgt := 42) hx hb dX7_learns_157 (by decide) ?_
          exact ih v31 _ _ _ _ h hP hS (lv_sub hl [1, 2, 3, 4, 0] rfl)
        · replace h := h.2 c14
          refine lv_iconst (v := 3) hx hb dX7_learns_74 (by decide) ?_
          refine lv_goto (tgt := 79) hx hb dX7_learns_75 (by decide) ?_
          refine cc_i (va_runV (C := RX7) (As := [.int a1, .int 3]) (rest := []) ⟨hx, hb, hml, hown, hts⟩ (c_X7_figure hwd H.size u13 a1 3 _ h) (cwV 2 hts gX7_learns_X7_figure rfl rfl rfl (by decide +kernel) ⟨Nat.le_of_ble_eq_true rfl, Nat.le_of_ble_eq_true rfl⟩) (pmV hC hP hS mg_0 rfl) rfl rfl hl.1 rfl (lv_room (Nat.le_of_ble_eq_true rfl)) dX7_learns_79 ⟨Nat.zero_le _, Nat.zero_le _⟩) hS (cA_mono hS.1) (fun v32 u33 H locs h hP hS => ?_)
          refine lv_istore (lv' := [(6, .int v32), (5, .int v12), (0, .ref (ad 0)), (1, .int a1), (2, .int a2), (3, .int a3), (4, .int a4)]) hx hb dX7_learns_82 hl (by decide) rfl (fun ls hl => ?_)
          refine lv_iload hx hb dX7_learns_84 (lv_at hl 6 rfl) ?_
          refine lv_iconst (v := 1) hx hb dX7_learns_86 (by decide) ?_
          refine lv_iadd hx hb dX7_learns_87 ?_
          refine lv_topi (fun v34 ev34 => ?_)
          replace h := h v34 ev34
          refine lv_istore (lv' := [(7, .int v34), (6, .int v32), (5, .int v12), (0, .ref (ad 0)), (1, .int a1), (2, .int a2), (3, .int a3), (4, .int a4)]) hx hb dX7_learns_88 hl (by decide) rfl (fun ls hl => ?_)
          obtain ⟨n35, h⟩ := h
          refine w_X7_learns_L90 X a1 a2 a3 a4 v12 v32 _ _ (fun u36 H locs ls h hP hS hl => ?_) n35 v34 _ _ _ _ h hP hS (lv_sub hl [3, 4, 5, 6, 7, 2, 1, 0] rfl)
          refine lv_aload_n hx hb dX7_learns_135 rfl (lv_at hl 0 rfl) ?_
          refine va_get (C := RX7) (T := TX7) (N := 22) hx hb hts n7 hown hK hP 0 mg_0 rfl 13 (by decide) lk0 (fun _ h9 => h9) rfl dX7_learns_136 ?_
          refine lv_iconst (v := 0) hx hb dX7_learns_139 (by decide) ?_
          refine lv_aload_n hx hb dX7_learns_140 rfl (lv_at hl 0 rfl) ?_
          refine lv_iload hx hb dX7_learns_141 (lv_at hl 5 rfl) ?_
          refine lv_aload_n hx hb dX7_learns_143 rfl (lv_at hl 0 rfl) ?_
          refine va_get (C := RX7) (T := TX7) (N := 22) hx hb hts n7 hown hK hP 0 mg_0 rfl 13 (by decide) lk0 (fun _ h9 => h9) rfl dX7_learns_144 ?_
          refine lv_iconst (v := 0) hx hb dX7_learns_147 (by decide) ?_
          refine va_iald hx hb hK hP 8 0 (mg_a ⟨by decide, by decide, by decide⟩) rfl h.1 dX7_learns_148 ?_
          refine lv_topi (fun v37 ev37 => ?_)
          replace h := h.2 v37 ev37
          refine lv_imul hx hb dX7_learns_149 ?_
          refine cc_i (va_runV (C := RX7) (As := [.int (v12 * v37)]) (rest := [.int 0, .ref (ad 8)]) ⟨hx, hb, hml, hown, hts⟩ (c_X7_mod hwd H.size u36 (v12 * v37) _ h) (cwV 1 hts gX7_learns_X7_mod rfl rfl rfl (by decide +kernel) ⟨Nat.le_of_ble_eq_true rfl, Nat.le_of_ble_eq_true rfl⟩) (pmV hC hP hS mg_0 rfl) rfl rfl hl.1 rfl (lv_room (Nat.le_of_ble_eq_true rfl)) dX7_learns_150 ⟨Nat.zero_le _, Nat.zero_le _⟩) hS (cA_mono hS.1) (fun v38 u39 H locs h hP hS => ?_)
          refine va_iast hx hb hK hP (cD hwd) hS 8 0 (mg_a ⟨by decide, by decide, by decide⟩) rfl h.1 dX7_learns_153 (fun H locs hP _ hS => ?_)
          replace hP := mu_a hwd ⟨by decide, by decide, by decide⟩ hP
          obtain ⟨u40, eu40⟩ : ∃ y : St, y = su u39 8 (0 : Int32).toNatClampNeg v38 := ⟨_, rfl⟩
          rw [← eu40] at hP
          replace h := h.2 u40 eu40
          obtain ⟨v41, ev41⟩ : ∃ y : Int32, y = a4 + 1 := ⟨_, rfl⟩
          refine lv_iinc (v := v41) (lv' := [(4, .int v41), (0, .ref (ad 0)), (1, .int a1), (2, .int a2), (3, .int a3), (5, .int v12)]) hx hb dX7_learns_154 hl (k := 4) rfl (by rw [ev41]; rfl) (by decide) rfl (fun ls hl => ?_)
          replace h := h v41 ev41
          refine lv_goto (tgt := 42) hx hb dX7_learns_157 (by decide) ?_
          exact ih v41 _ _ _ _ h hP hS (lv_sub hl [1, 2, 3, 4, 0] rfl)
      · replace h := h.2 c11
        refine lv_iconst (v := 2) hx hb dX7_learns_56 (by decide) ?_
        refine lv_goto (tgt := 61) hx hb dX7_learns_57 (by decide) ?_
        refine cc_i (va_runV (C := RX7) (As := [.int a1, .int 2]) (rest := []) ⟨hx, hb, hml, hown, hts⟩ (c_X7_figure hwd H.size u a1 2 _ h) (cwV 2 hts gX7_learns_X7_figure rfl rfl rfl (by decide +kernel) ⟨Nat.le_of_ble_eq_true rfl, Nat.le_of_ble_eq_true rfl⟩) (pmV hC hP hS mg_0 rfl) rfl rfl hl.1 rfl (lv_room (Nat.le_of_ble_eq_true rfl)) dX7_learns_61 ⟨Nat.zero_le _, Nat.zero_le _⟩) hS (cA_mono hS.1) (fun v42 u43 H locs h hP hS => ?_)
        refine lv_istore (lv' := [(5, .int v42), (0, .ref (ad 0)), (1, .int a1), (2, .int a2), (3, .int a3), (4, .int a4)]) hx hb dX7_learns_64 hl (by decide) rfl (fun ls hl => ?_)
        refine lv_aload_n hx hb dX7_learns_66 rfl (lv_at hl 1 rfl) ?_
        refine lv_iload_n hx hb dX7_learns_67 rfl (lv_at hl 2 rfl) ?_
        refine lv_iload hx hb dX7_learns_68 (lv_at hl 5 rfl) ?_
        refine lv_iload_n hx hb dX7_learns_70 rfl (lv_at hl 4 rfl) ?_
        refine lv_icmp_ge (tgt := 78) hx hb dX7_learns_71 (by decide) (fun c44 => ?_) (fun c44 => ?_)
        · replace h := h.1 c44
          refine lv_iconst (v := 1) hx hb dX7_learns_78 (by decide) ?_
          refine cc_i (va_runV (C := RX7) (As := [.int a1, .int 1]) (rest := []) ⟨hx, hb, hml, hown, hts⟩ (c_X7_figure hwd H.size u43 a1 1 _ h) (cwV 2 hts gX7_learns_X7_figure rfl rfl rfl (by decide +kernel) ⟨Nat.le_of_ble_eq_true rfl, Nat.le_of_ble_eq_true rfl⟩) (pmV hC hP hS mg_0 rfl) rfl rfl hl.1 rfl (lv_room (Nat.le_of_ble_eq_true rfl)) dX7_learns_79 ⟨Nat.zero_le _, Nat.zero_le _⟩) hS (cA_mono hS.1) (fun v45 u46 H locs h hP hS => ?_)
          refine lv_istore (lv' := [(6, .int v45), (5, .int v42), (0, .ref (ad 0)), (1, .int a1), (2, .int a2), (3, .int a3), (4, .int a4)]) hx hb dX7_learns_82 hl (by decide) rfl (fun ls hl => ?_)
          refine lv_iload hx hb dX7_learns_84 (lv_at hl 6 rfl) ?_
          refine lv_iconst (v := 1) hx hb dX7_learns_86 (by decide) ?_
          refine lv_iadd hx hb dX7_learns_87 ?_
          refine lv_topi (fun v47 ev47 => ?_)
          replace h := h v47 ev47
          refine lv_istore (lv' := [(7, .int v47), (6, .int v45), (5, .int v42), (0, .ref (ad 0)), (1, .int a1), (2, .int a2), (3, .int a3), (4, .int a4)]) hx hb dX7_learns_88 hl (by decide) rfl (fun ls hl => ?_)
          obtain ⟨n48, h⟩ := h
          refine w_X7_learns_L90 X a1 a2 a3 a4 v42 v45 _ _ (fun u49 H locs ls h hP hS hl => ?_) n48 v47 _ _ _ _ h hP hS (lv_sub hl [3, 4, 5, 6, 7, 2, 1, 0] rfl)
          refine lv_aload_n hx hb dX7_learns_135 rfl (lv_at hl 0 rfl) ?_
          refine va_get (C := RX7) (T := TX7) (N := 22) hx hb hts n7 hown hK hP 0 mg_0 rfl 13 (by decide) lk0 (fun _ h9 => h9) rfl dX7_learns_136 ?_
          refine lv_iconst (v := 0) hx hb dX7_learns_139 (by decide) ?_
          refine lv_aload_n hx hb dX7_learns_140 rfl (lv_at hl 0 rfl) ?_
          refine lv_iload hx hb dX7_learns_141 (lv_at hl 5 rfl) ?_
          refine lv_aload_n hx hb dX7_learns_143 rfl (lv_at hl 0 rfl) ?_
          refine va_get (C := RX7) (T := TX7) (N := 22) hx hb hts n7 hown hK hP 0 mg_0 rfl 13 (by decide) lk0 (fun _ h9 => h9) rfl dX7_learns_144 ?_
          refine lv_iconst (v := 0) hx hb dX7_learns_147 (by decide) ?_
          refine va_iald hx hb hK hP 8 0 (mg_a ⟨by decide, by decide, by decide⟩) rfl h.1 dX7_learns_148 ?_
          refine lv_topi (fun v50 ev50 => ?_)
          replace h := h.2 v50 ev50
          refine lv_imul hx hb dX7_learns_149 ?_
          refine cc_i (va_runV (C := RX7) (As := [.int (v42 * v50)]) (rest := [.int 0, .ref (ad 8)]) ⟨hx, hb, hml, hown, hts⟩ (c_X7_mod hwd H.size u49 (v42 * v50) _ h) (cwV 1 hts gX7_learns_X7_mod rfl rfl rfl (by decide +kernel) ⟨Nat.le_of_ble_eq_true rfl, Nat.le_of_ble_eq_true rfl⟩) (pmV hC hP hS mg_0 rfl) rfl rfl hl.1 rfl (lv_room (Nat.le_of_ble_eq_true rfl)) dX7_learns_150 ⟨Nat.zero_le _, Nat.zero_le _⟩) hS (cA_mono hS.1) (fun v51 u52 H locs h hP hS => ?_)
          refine va_iast hx hb hK hP (cD hwd) hS 8 0 (mg_a ⟨by decide, by decide, by decide⟩) rfl h.1 dX7_learns_153 (fun H locs hP _ hS => ?_)
          replace hP := mu_a hwd ⟨by decide, by decide, by decide⟩ hP
          obtain ⟨u53, eu53⟩ : ∃ y : St, y = su u52 8 (0 : Int32).toNatClampNeg v51 := ⟨_, rfl⟩
          rw [← eu53] at hP
          replace h := h.2 u53 eu53
          obtain ⟨v54, ev54⟩ : ∃ y : Int32, y = a4 + 1 := ⟨_, rfl⟩
          refine lv_iinc (v := v54) (lv' := [(4, .int v54), (0, .ref (ad 0)), (1, .int a1), (2, .int a2), (3, .int a3), (5, .int v42)]) hx hb dX7_learns_154 hl (k := 4) rfl (by rw [ev54]; rfl) (by decide) rfl (fun ls hl => ?_)
          replace h := h v54 ev54
          refine lv_goto (tgt := 42) hx hb dX7_learns_157 (by decide) ?_
          exact ih v54 _ _ _ _ h hP hS (lv_sub hl [1, 2, 3, 4, 0] rfl)
        · replace h := h.2 c44
          refine lv_iconst (v := 3) hx hb dX7_learns_74 (by decide) ?_
          refine lv_goto (tgt := 79) hx hb dX7_learns_75 (by decide) ?_
          refine cc_i (va_runV (C := RX7) (As := [.int a1, .int 3]) (rest := []) ⟨hx, hb, hml, hown, hts⟩ (c_X7_figure hwd H.size u43 a1 3 _ h) (cwV 2 hts gX7_learns_X7_figure rfl rfl rfl (by decide +kernel) ⟨Nat.le_of_ble_eq_true rfl, Nat.le_of_ble_eq_true rfl⟩) (pmV hC hP hS mg_0 rfl) rfl rfl hl.1 rfl (lv_room (Nat.le_of_ble_eq_true rfl)) dX7_learns_79 ⟨Nat.zero_le _, Nat.zero_le _⟩) hS (cA_mono hS.1) (fun v55 u56 H locs h hP hS => ?_)
          refine lv_istore (lv' := [(6, .int v55), (5, .int v42), (0, .ref (ad 0)), (1, .int a1), (2, .int a2), (3, .int a3), (4, .int a4)]) hx hb dX7_learns_82 hl (by decide) rfl (fun ls hl => ?_)
          refine lv_iload hx hb dX7_learns_84 (lv_at hl 6 rfl) ?_
          refine lv_iconst (v := 1) hx hb dX7_learns_86 (by decide) ?_
          refine lv_iadd hx hb dX7_learns_87 ?_
          refine lv_topi (fun v57 ev57 => ?_)
          replace h := h v57 ev57
          refine lv_istore (lv' := [(7, .int v57), (6, .int v55), (5, .int v42), (0, .ref (ad 0)), (1, .int a1), (2, .int a2), (3, .int a3), (4, .int a4)]) hx hb dX7_learns_88 hl (by decide) rfl (fun ls hl => ?_)
          obtain ⟨n58, h⟩ := h
          refine w_X7_learns_L90 X a1 a2 a3 a4 v42 v55 _ _ (fun u59 H locs ls h hP hS hl => ?_) n58 v57 _ _ _ _ h hP hS (lv_sub hl [3, 4, 5, 6, 7, 2, 1, 0] rfl)
          refine lv_aload_n hx hb dX7_learns_135 rfl (lv_at hl 0 rfl) ?_
          refine va_get (C := RX7) (T := TX7) (N := 22) hx hb hts n7 hown hK hP 0 mg_0 rfl 13 (by decide) lk0 (fun _ h9 => h9) rfl dX7_learns_136 ?_
          refine lv_iconst (v := 0) hx hb dX7_learns_139 (by decide) ?_
          refine lv_aload_n hx hb dX7_learns_140 rfl (lv_at hl 0 rfl) ?_
          refine lv_iload hx hb dX7_learns_141 (lv_at hl 5 rfl) ?_
          refine lv_aload_n hx hb dX7_learns_143 rfl (lv_at hl 0 rfl) ?_
          refine va_get (C := RX7) (T := TX7) (N := 22) hx hb hts n7 hown hK hP 0 mg_0 rfl 13 (by decide) lk0 (fun _ h9 => h9) rfl dX7_learns_144 ?_
          refine lv_iconst (v := 0) hx hb dX7_learns_147 (by decide) ?_
          refine va_iald hx hb hK hP 8 0 (mg_a ⟨by decide, by decide, by decide⟩) rfl h.1 dX7_learns_148 ?_
          refine lv_topi (fun v60 ev60 => ?_)
          replace h := h.2 v60 ev60
          refine lv_imul hx hb dX7_learns_149 ?_
          refine cc_i (va_runV (C := RX7) (As := [.int (v42 * v60)]) (rest := [.int 0, .ref (ad 8)]) ⟨hx, hb, hml, hown, hts⟩ (c_X7_mod hwd H.size u59 (v42 * v60) _ h) (cwV 1 hts gX7_learns_X7_mod rfl rfl rfl (by decide +kernel) ⟨Nat.le_of_ble_eq_true rfl, Nat.le_of_ble_eq_true rfl⟩) (pmV hC hP hS mg_0 rfl) rfl rfl hl.1 rfl (lv_room (Nat.le_of_ble_eq_true rfl)) dX7_learns_150 ⟨Nat.zero_le _, Nat.zero_le _⟩) hS (cA_mono hS.1) (fun v61 u62 H locs h hP hS => ?_)
          refine va_iast hx hb hK hP (cD hwd) hS 8 0 (mg_a ⟨by decide, by decide, by decide⟩) rfl h.1 dX7_learns_153 (fun H locs hP _ hS => ?_)
          replace hP := mu_a hwd ⟨by decide, by decide, by decide⟩ hP
          obtain ⟨u63, eu63⟩ : ∃ y : St, y = su u62 8 (0 : Int32).toNatClampNeg v61 := ⟨_, rfl⟩
          rw [← eu63] at hP
          replace h := h.2 u63 eu63
          obtain ⟨v64, ev64⟩ : ∃ y : Int32, y = a4 + 1 := ⟨_, rfl⟩
          refine lv_iinc (v := v64) (lv' := [(4, .int v64), (0, .ref (ad 0)), (1, .int a1), (2, .int a2), (3, .int a3), (5, .int v42)]) hx hb dX7_learns_154 hl (k := 4) rfl (by rw [ev64]; rfl) (by decide) rfl (fun ls hl => ?_)
          replace h := h v64 ev64
          refine lv_goto (tgt := 42) hx hb dX7_learns_157 (by decide) ?_
          exact ih v64 _ _ _ _ h hP hS (lv_sub hl [1, 2, 3, 4, 0] rfl)
set_option maxRecDepth 100000 in
set_option maxHeartbeats 4000000 in
theorem w_X7_learns_L163 {p : Program} {l : Launch} {e : Env} {s : State} {m : MethodId} {args : Array Value} {below : List Frame} {meth : Method} {c : Code} {D : va_G} {cI cG cZ cJ : ClassId} {ts : Nat × Nat}  {ad : Nat → Nat}  (X : FX RX7 wsX7_learns cX7_learns 8 none D cI cG cZ cJ ts mLs ad p s m args meth c) (a1 : Int32) (a2 : Int32) (a3 : Int32) (Q : St → Prop)
    (K0 : St → Prop) (hk0 : ∀ (u : St) (H : Heap) (locs : List Loc) (ls : Array Slot), K0 u → va_P D vwCl (mW cI cZ ad u) H → va_S (cA mLs ad s.heap.size) s.heap H locs → lv_has ls 8 [(0, .ref (ad 0)), (1, .int a1), (2, .int a2), (3, .int a3)] → W p l e (headSpec wsX7_learns { frames := 2, cells := 0, slots := 0, locals := 45 }).room s m args below meth c H locs 0 0 (MQ below (va_Qv Q (fun u9 t => va_P D vwCl (mW cI cZ ad u9) t.heap) (cA mLs ad s.heap.size)) args s 0 0 (cA mLs ad s.heap.size)) (F0 m 193 ls []))
    : ∀ (n : Nat) (a4 : Int32) (u : St) (H : Heap) (locs : List Loc) (ls : Array Slot), f_X7_learns_L163 a1 a2 a3 Q K0 n a4 u → va_P D vwCl (mW cI cZ ad u) H → va_S (cA mLs ad s.heap.size) s.heap H locs → lv_has ls 8 [(0, .ref (ad 0)), (1, .int a1), (2, .int a2), (3, .int a3), (4, .int a4)] → W p l e (headSpec wsX7_learns { frames := 2, cells := 0, slots := 0, locals := 45 }).room s m args below meth c H locs 0 0 (MQ below (va_Qv Q (fun u9 t => va_P D vwCl (mW cI cZ ad u9) t.heap) (cA mLs ad s.heap.size)) args s 0 0 (cA mLs ad s.heap.size)) (F0 m 163 ls []) := by
  obtain ⟨hx, hb, hml, hown, hts, hr, hlocks, hwd, hC⟩ := id X
  have hK := hC.1
  have lk0 := hts (.fieldLink RX7 36 "FormForgeModel" "one" "[I") (by decide +kernel)
  have lk1 := hts (.fieldLink RX7 30 "FormForgeModel" "does" "[I") (by decide +kernel)
  have n7 : ∀ w ∈ wsX70, w ∈ wsX7_learns := by decide +kernel
  intro n
  induction n with
  | zero =>
    intro a4 u H locs ls h; exact h.elim
  | succ n ih =>
    intro a4 u H locs ls h hP hS hl
    replace h : f_X7_learns_L163_s a1 a2 a3 Q K0 (f_X7_learns_L163 a1 a2 a3 Q K0 n) a4 u := h
    unfold f_X7_learns_L163_s at h
    refine lv_iload hx hb dX7_learns_163 (lv_at hl 4 rfl) ?_
    refine lv_iload_n hx hb dX7_learns_165 rfl (lv_at hl 2 rfl) ?_
    refine lv_icmp_gt (tgt := 193) hx hb dX7_learns_166 (by decide) (fun c67 => ?_) (fun c67 => ?_)
    · replace h := h.1 c67
      exact hk0  _ _ _ _ h hP hS (lv_sub hl [0, 1, 2, 3] rfl)
    · replace h := h.2 c67
      refine lv_aload_n hx hb dX7_learns_169 rfl (lv_at hl 0 rfl) ?_
      refine va_get (C := RX7) (T := TX7) (N := 22) hx hb hts n7 hown hK hP 0 mg_0 rfl 10 (by decide) lk1 (fun _ h9 => h9) rfl dX7_learns_170 ?_
      refine lv_iconst (v := 5) hx hb dX7_learns_173 (by decide) ?_
      refine lv_iload hx hb dX7_learns_174 (lv_at hl 4 rfl) ?_
      refine lv_imul hx hb dX7_learns_176 ?_
      refine lv_iload_n hx hb dX7_learns_177 rfl (lv_at hl 3 rfl) ?_
      refine lv_iadd hx hb dX7_learns_178 ?_
      refine lv_aload_n hx hb dX7_learns_179 rfl (lv_at hl 0 rfl) ?_
      refine va_get (C := RX7) (T := TX7) (N := 22) hx hb hts n7 hown hK hP 0 mg_0 rfl 13 (by decide) lk0 (fun _ h9 => h9) rfl dX7_learns_180 ?_
      refine lv_iload hx hb dX7_learns_183 (lv_at hl 4 rfl) ?_
      refine va_iald hx hb hK hP 8 0 (mg_a ⟨by decide, by decide, by decide⟩) rfl h.1 dX7_learns_185 ?_
      refine lv_topi (fun v68 ev68 => ?_)
      replace h := h.2 v68 ev68
      refine va_iast hx hb hK hP (cD hwd) hS 6 0 (mg_a ⟨by decide, by decide, by decide⟩) rfl h.1 dX7_learns_186 (fun H locs hP _ hS => ?_)
      replace hP := mu_a hwd ⟨by decide, by decide, by decide⟩ hP
      obtain ⟨u69, eu69⟩ : ∃ y : St, y = su u 6 ((5 * a4) + a3).toNatClampNeg v68 := ⟨_, rfl⟩
      rw [← eu69] at hP
      replace h := h.2 u69 eu69
      obtain ⟨v70, ev70⟩ : ∃ y : Int32, y = a4 + 1 := ⟨_, rfl⟩
      refine lv_iinc (v := v70) (lv' := [(4, .int v70), (0, .ref (ad 0)), (1, .int a1), (2, .int a2), (3, .int a3)]) hx hb dX7_learns_187 hl (k := 4) rfl (by rw [ev70]; rfl) (by decide) rfl (fun ls hl => ?_)
      replace h := h v70 ev70
      refine lv_goto (tgt := 163) hx hb dX7_learns_190 (by decide) ?_
      exact ih v70 _ _ _ _ h hP hS (lv_sub hl [1, 2, 3, 4, 0] rfl)
set_option maxRecDepth 100000 in
set_option maxHeartbeats 4000000 in
theorem w_X7_learns_L2 {p : Program} {l : Launch} {e : Env} {s : State} {m : MethodId} {args : Array Value} {below : List Frame} {meth : Method} {c : Code} {D : va_G} {cI cG cZ cJ : ClassId} {ts : Nat × Nat}  {ad : Nat → Nat}  (X : FX RX7 wsX7_learns cX7_learns 8 none D cI cG cZ cJ ts mLs ad p s m args meth c) (a1 : Int32) (a2 : Int32) (Q : St → Prop)
    (K0 : St → Prop) (hk0 : ∀ (u : St) (H : Heap) (locs : List Loc) (ls : Array Slot), K0 u → va_P D vwCl (mW cI cZ ad u) H → va_S (cA mLs ad s.heap.size) s.heap H locs → lv_has ls 8 [] → W p l e (headSpec wsX7_learns { frames := 2, cells := 0, slots := 0, locals := 45 }).room s m args below meth c H locs 0 0 (MQ below (va_Qv Q (fun u9 t => va_P D vwCl (mW cI cZ ad u9) t.heap) (cA mLs ad s.heap.size)) args s 0 0 (cA mLs ad s.heap.size)) (F0 m 199 ls []))
    : ∀ (n : Nat) (a3 : Int32) (u : St) (H : Heap) (locs : List Loc) (ls : Array Slot), f_X7_learns_L2 a1 a2 Q K0 n a3 u → va_P D vwCl (mW cI cZ ad u) H → va_S (cA mLs ad s.heap.size) s.heap H locs → lv_has ls 8 [(0, .ref (ad 0)), (1, .int a1), (2, .int a2), (3, .int a3)] → W p l e (headSpec wsX7_learns { frames := 2, cells := 0, slots := 0, locals := 45 }).room s m args below meth c H locs 0 0 (MQ below (va_Qv Q (fun u9 t => va_P D vwCl (mW cI cZ ad u9) t.heap) (cA mLs ad s.heap.size)) args s 0 0 (cA mLs ad s.heap.size)) (F0 m 2 ls []) := by
  obtain ⟨hx, hb, hml, hown, hts, hr, hlocks, hwd, hC⟩ := id X
  have hK := hC.1
  have lk0 := hts (.fieldLink RX7 36 "FormForgeModel" "one" "[I") (by decide +kernel)
  have lk1 := hts (.fieldLink RX7 30 "FormForgeModel" "does" "[I") (by decide +kernel)
  have n7 : ∀ w ∈ wsX70, w ∈ wsX7_learns := by decide +kernel
  intro n
  induction n with
  | zero =>
    intro a3 u H locs ls h; exact h.elim
  | succ n ih =>
    intro a3 u H locs ls h hP hS hl
    replace h : f_X7_learns_L2_s a1 a2 Q K0 (f_X7_learns_L2 a1 a2 Q K0 n) a3 u := h
    unfold f_X7_learns_L2_s at h
    refine lv_iload_n hx hb dX7_learns_2 rfl (lv_at hl 3 rfl) ?_
    refine lv_iload_n hx hb dX7_learns_3 rfl (lv_at hl 2 rfl) ?_
    refine lv_icmp_gt (tgt := 199) hx hb dX7_learns_4 (by decide) (fun c1 => ?_) (fun c1 => ?_)
    · replace h := h.1 c1
      exact hk0  _ _ _ _ h hP hS (lv_sub hl [] rfl)
    · replace h := h.2 c1
      refine lv_iconst (v := 0) hx hb dX7_learns_7 (by decide) ?_
      refine lv_istore (lv' := [(4, .int 0), (0, .ref (ad 0)), (1, .int a1), (2, .int a2), (3, .int a3)]) hx hb dX7_learns_8 hl (by decide) rfl (fun ls hl => ?_)
      obtain ⟨n8, h⟩ := h
      refine w_X7_learns_L10 X a1 a2 a3 _ _ (fun u9 H locs ls h hP hS hl => ?_) n8 0 _ _ _ _ h hP hS (lv_sub hl [1, 2, 3, 4, 0] rfl)
      refine lv_iconst (v := 0) hx hb dX7_learns_39 (by decide) ?_
      refine lv_istore (lv' := [(4, .int 0), (0, .ref (ad 0)), (1, .int a1), (2, .int a2), (3, .int a3)]) hx hb dX7_learns_40 hl (by decide) rfl (fun ls hl => ?_)
      obtain ⟨n65, h⟩ := h
      refine w_X7_learns_L42 X a1 a2 a3 _ _ (fun u66 H locs ls h hP hS hl => ?_) n65 0 _ _ _ _ h hP hS (lv_sub hl [1, 2, 3, 4, 0] rfl)
      refine lv_iconst (v := 0) hx hb dX7_learns_160 (by decide) ?_
      refine lv_istore (lv' := [(4, .int 0), (0, .ref (ad 0)), (1, .int a1), (2, .int a2), (3, .int a3)]) hx hb dX7_learns_161 hl (by decide) rfl (fun ls hl => ?_)
      obtain ⟨n71, h⟩ := h
      refine w_X7_learns_L163 X a1 a2 a3 _ _ (fun u72 H locs ls h hP hS hl => ?_) n71 0 _ _ _ _ h hP hS (lv_sub hl [1, 2, 3, 4, 0] rfl)
      obtain ⟨v73, ev73⟩ : ∃ y : Int32, y = a3 + 1 := ⟨_, rfl⟩
      refine lv_iinc (v := v73) (lv' := [(3, .int v73), (0, .ref (ad 0)), (1, .int a1), (2, .int a2)]) hx hb dX7_learns_193 hl (k := 3) rfl (by rw [ev73]; rfl) (by decide) rfl (fun ls hl => ?_)
      replace h := h v73 ev73
      refine lv_goto (tgt := 2) hx hb dX7_learns_196 (by decide) ?_
      exact ih v73 _ _ _ _ h hP hS (lv_sub hl [1, 2, 3, 0] rfl)
set_option maxRecDepth 100000 in
set_option maxHeartbeats 4000000 in
theorem w_X7_learns {p : Program} {l : Launch} {e : Env} {s : State} {m : MethodId} {args : Array Value} {below : List Frame} {meth : Method} {c : Code} {D : va_G} {cI cG cZ cJ : ClassId} {ts : Nat × Nat}  {ad : Nat → Nat}  (X : FX RX7 wsX7_learns cX7_learns 8 none D cI cG cZ cJ ts mLs ad p s m args meth c) (a1 : Int32) (a2 : Int32) (Q : St → Prop) (u : St) (H : Heap) (locs : List Loc) (ls : Array Slot) (h : f_X7_learns a1 a2 u Q) (hP : va_P D vwCl (mW cI cZ ad u) H) (hS : va_S (cA mLs ad s.heap.size) s.heap H locs) (hl : lv_has ls 8 [(0, .ref (ad 0)), (1, .int a1), (2, .int a2)]) : W p l e (headSpec wsX7_learns { frames := 2, cells := 0, slots := 0, locals := 45 }).room s m args below meth c H locs 0 0 (MQ below (va_Qv Q (fun u9 t => va_P D vwCl (mW cI cZ ad u9) t.heap) (cA mLs ad s.heap.size)) args s 0 0 (cA mLs ad s.heap.size)) (F0 m 0 ls []) := by
  obtain ⟨hx, hb, hml, hown, hts, hr, hlocks, hwd, hC⟩ := id X
  have hK := hC.1
  have lk0 := hts (.fieldLink RX7 36 "FormForgeModel" "one" "[I") (by decide +kernel)
  have lk1 := hts (.fieldLink RX7 30 "FormForgeModel" "does" "[I") (by decide +kernel)
  have n7 : ∀ w ∈ wsX70, w ∈ wsX7_learns := by decide +kernel
  unfold f_X7_learns at h
  refine lv_iconst (v := 0) hx hb dX7_learns_0 (by decide) ?_
  refine lv_istore_n (lv' := [(3, .int 0), (0, .ref (ad 0)), (1, .int a1), (2, .int a2)]) hx hb dX7_learns_1 rfl hl (by decide) rfl (fun ls hl => ?_)
  obtain ⟨n74, h⟩ := h
  refine w_X7_learns_L2 X a1 a2 _ _ (fun u75 H locs ls h hP hS hl => ?_) n74 0 _ _ _ _ h hP hS (lv_sub hl [1, 2, 3, 0] rfl)
  exact W.vret hx hb hr (fun t ht hW => ⟨⟨_, rfl, h, by show va_P _ _ _ t.heap; rw [ht]; exact hP⟩, hS.F ht⟩) hS.2.2 dX7_learns_199
set_option maxRecDepth 100000 in
set_option maxHeartbeats 4000000 in
theorem c_X7_learns {l : Launch} {D : va_G} {cI cG cZ cJ : ClassId} {ts : Nat × Nat} {ad : Nat → Nat} (hwd : WD mLs ad) (sz : Nat) (u : St) (a1 : Int32) (a2 : Int32) (Q : St → Prop) (h : f_X7_learns a1 a2 u Q) : Met l yX7_learns wsX7_learns ({ frames := 2, cells := 0, slots := 0, locals := 45 }) (va_Pc [.ref (ad 0), .int a1, .int a2] (PM D cI cG cZ cJ ts ad sz u)) (va_Qv Q (fun u9 t => va_P D vwCl (mW cI cZ ad u9) t.heap) (cA mLs ad sz)) 0 0 (cA mLs ad sz) := by
  refine Met.ofW (cc := cX7_learns) (maxL := 8) (ret := none) (by decide) rfl ?_
  intro p e s m args below meth c s₁ B hml hv
  obtain ⟨rfl, hsz, hP, hC⟩ := hv
  subst hsz
  have X : FX RX7 wsX7_learns cX7_learns 8 none D cI cG cZ cJ ts mLs ad p s m _ meth c := ⟨B.exec, B.bytes, hml, findClass_of_methodNamed B.named, atoms_spec (ws := wsX7_learns) B.pre, B.returns, B.notSynchronized, hwd, hC⟩
  have hl := lv_entry ([.ref (ad 0), .int a1, .int a2]) (n := 8) (Nat.le_of_ble_eq_true rfl)
  rw [lg_entry_eq]
  generalize (lg_sl ([.ref (ad 0), .int a1, .int a2]) ++ List.replicate (8 - (lg_sl ([.ref (ad 0), .int a1, .int a2])).length) Slot.unset).toArray = ls at hl ⊢
  exact w_X7_learns X a1 a2 Q u _ _ _ h hP va_S.rf hl
set_option maxRecDepth 100000 in
set_option maxHeartbeats 4000000 in
theorem w_X7_made_L16 {p : Program} {l : Launch} {e : Env} {s : State} {m : MethodId} {args : Array Value} {below : List Frame} {meth : Method} {c : Code} {D : va_G} {cI cG cZ cJ : ClassId} {ts : Nat × Nat}  {ad : Nat → Nat}  (X : FX RX7 wsX7_made cX7_made 7 (some .int) D cI cG cZ cJ ts mLs ad p s m args meth c) (a1 : Int32) (a2 : Int32) (a3 : Int32) (a4 : Int32) (Q : Int32 → St → Prop)
    (K0 : Int32 → St → Prop) (hk0 : ∀ (b5 : Int32) (u : St) (H : Heap) (locs : List Loc) (ls : Array Slot), K0 b5 u → va_P D vwCl (mW cI cZ ad u) H → va_S (cA mLs ad s.heap.size) s.heap H locs → lv_has ls 7 [(0, .ref (ad 0)), (1, .int a1), (2, .int a2), (3, .int a3), (4, .int a4), (5, .int b5)] → W p l e (headSpec wsX7_made { frames := 2, cells := 0, slots := 0, locals := 45 }).room s m args below meth c H locs 0 0 (MQ below (va_Qi Q (fun u9 t => va_P D vwCl (mW cI cZ ad u9) t.heap) (cA mLs ad s.heap.size)) args s 0 0 (cA mLs ad s.heap.size)) (F0 m 53 ls []))
    : ∀ (n : Nat) (a5 : Int32) (a6 : Int32) (u : St) (H : Heap) (locs : List Loc) (ls : Array Slot), f_X7_made_L16 a1 a2 a3 a4 Q K0 n a5 a6 u → va_P D vwCl (mW cI cZ ad u) H → va_S (cA mLs ad s.heap.size) s.heap H locs → lv_has ls 7 [(0, .ref (ad 0)), (1, .int a1), (2, .int a2), (3, .int a3), (4, .int a4), (5, .int a5), (6, .int a6)] → W p l e (headSpec wsX7_made { frames := 2, cells := 0, slots := 0, locals := 45 }).room s m args below meth c H locs 0 0 (MQ below (va_Qi Q (fun u9 t => va_P D vwCl (mW cI cZ ad u9) t.heap) (cA mLs ad s.heap.size)) args s 0 0 (cA mLs ad s.heap.size)) (F0 m 16 ls []) := by
  obtain ⟨hx, hb, hml, hown, hts, hr, hlocks, hwd, hC⟩ := id X
  have hK := hC.1
  have lk0 := hts (.fieldLink RX7 30 "FormForgeModel" "does" "[I") (by decide +kernel)
  have lk1 := hts (.fieldLink RX7 7 "FormForgeModel" "p" "I") (by decide +kernel)
  have n7 : ∀ w ∈ wsX70, w ∈ wsX7_made := by decide +kernel
  intro n
  induction n with
  | zero =>
    intro a5 a6 u H locs ls h; exact h.elim
  | succ n ih =>
    intro a5 a6 u H locs ls h hP hS hl
    replace h : f_X7_made_L16_s a1 a2 a3 a4 Q K0 (f_X7_made_L16 a1 a2 a3 a4 Q K0 n) a5 a6 u := h
    unfold f_X7_made_L16_s at h
    refine lv_iload hx hb dX7_made_16 (lv_at hl 6 rfl) ?_
    refine lv_iload_n hx hb dX7_made_18 rfl (lv_at hl 2 rfl) ?_
    refine lv_icmp_gt (tgt := 53) hx hb dX7_made_19 (by decide) (fun c2 => ?_) (fun c2 => ?_)
    · replace h := h.1 c2
      exact hk0 a5 _ _ _ _ h hP hS (lv_sub hl [0, 1, 2, 3, 4, 5] rfl)
    · replace h := h.2 c2
      refine lv_iload hx hb dX7_made_22 (lv_at hl 5 rfl) ?_
      refine lv_aload_n hx hb dX7_made_24 rfl (lv_at hl 0 rfl) ?_
      refine va_get (C := RX7) (T := TX7) (N := 22) hx hb hts n7 hown hK hP 0 mg_0 rfl 10 (by decide) lk0 (fun _ h9 => h9) rfl dX7_made_25 ?_
      refine lv_iconst (v := 5) hx hb dX7_made_28 (by decide) ?_
      refine lv_iload hx hb dX7_made_29 (lv_at hl 4 rfl) ?_
      refine lv_imul hx hb dX7_made_31 ?_
      refine lv_iload hx hb dX7_made_32 (lv_at hl 6 rfl) ?_
      refine lv_iadd hx hb dX7_made_34 ?_
      refine va_iald hx hb hK hP 6 0 (mg_a ⟨by decide, by decide, by decide⟩) rfl h.1 dX7_made_35 ?_
      refine lv_topi (fun v3 ev3 => ?_)
      replace h := h.2 v3 ev3
      refine lv_aload_n hx hb dX7_made_36 rfl (lv_at hl 0 rfl) ?_
      refine lv_iload_n hx hb dX7_made_37 rfl (lv_at hl 1 rfl) ?_
      refine lv_iload hx hb dX7_made_38 (lv_at hl 6 rfl) ?_
      refine cc_i (va_runV (C := RX7) (As := [.int a1, .int a6]) (rest := [.int v3, .int a5]) ⟨hx, hb, hml, hown, hts⟩ (c_X7_figure hwd H.size u a1 a6 _ h) (cwV 2 hts gX7_made_X7_figure rfl rfl rfl (by decide +kernel) ⟨Nat.le_of_ble_eq_true rfl, Nat.le_of_ble_eq_true rfl⟩) (pmV hC hP hS mg_0 rfl) rfl rfl hl.1 rfl (lv_room (Nat.le_of_ble_eq_true rfl)) dX7_made_40 ⟨Nat.zero_le _, Nat.zero_le _⟩) hS (cA_mono hS.1) (fun v4 u5 H locs h hP hS => ?_)
      refine lv_imul hx hb dX7_made_43 ?_
      refine lv_iadd hx hb dX7_made_44 ?_
      refine lv_topi (fun v6 ev6 => ?_)
      replace h := h v6 ev6
      refine lv_istore (lv' := [(5, .int v6), (0, .ref (ad 0)), (1, .int a1), (2, .int a2), (3, .int a3), (4, .int a4), (6, .int a6)]) hx hb dX7_made_45 hl (by decide) rfl (fun ls hl => ?_)
      obtain ⟨v7, ev7⟩ : ∃ y : Int32, y = a6 + 1 := ⟨_, rfl⟩
      refine lv_iinc (v := v7) (lv' := [(6, .int v7), (5, .int v6), (0, .ref (ad 0)), (1, .int a1), (2, .int a2), (3, .int a3), (4, .int a4)]) hx hb dX7_made_47 hl (k := 6) rfl (by rw [ev7]; rfl) (by decide) rfl (fun ls hl => ?_)
      replace h := h v7 ev7
      refine lv_goto (tgt := 16) hx hb dX7_made_50 (by decide) ?_
      exact ih v6 v7 _ _ _ _ h hP hS (lv_sub hl [2, 3, 4, 5, 6, 1, 0] rfl)
set_option maxRecDepth 100000 in
set_option maxHeartbeats 4000000 in
theorem w_X7_made_L5 {p : Program} {l : Launch} {e : Env} {s : State} {m : MethodId} {args : Array Value} {below : List Frame} {meth : Method} {c : Code} {D : va_G} {cI cG cZ cJ : ClassId} {ts : Nat × Nat}  {ad : Nat → Nat}  (X : FX RX7 wsX7_made cX7_made 7 (some .int) D cI cG cZ cJ ts mLs ad p s m args meth c) (a1 : Int32) (a2 : Int32) (Q : Int32 → St → Prop)
    (K0 : Int32 → St → Prop) (hk0 : ∀ (b3 : Int32) (u : St) (H : Heap) (locs : List Loc) (ls : Array Slot), K0 b3 u → va_P D vwCl (mW cI cZ ad u) H → va_S (cA mLs ad s.heap.size) s.heap H locs → lv_has ls 7 [(3, .int b3)] → W p l e (headSpec wsX7_made { frames := 2, cells := 0, slots := 0, locals := 45 }).room s m args below meth c H locs 0 0 (MQ below (va_Qi Q (fun u9 t => va_P D vwCl (mW cI cZ ad u9) t.heap) (cA mLs ad s.heap.size)) args s 0 0 (cA mLs ad s.heap.size)) (F0 m 73 ls []))
    : ∀ (n : Nat) (a3 : Int32) (a4 : Int32) (u : St) (H : Heap) (locs : List Loc) (ls : Array Slot), f_X7_made_L5 a1 a2 Q K0 n a3 a4 u → va_P D vwCl (mW cI cZ ad u) H → va_S (cA mLs ad s.heap.size) s.heap H locs → lv_has ls 7 [(0, .ref (ad 0)), (1, .int a1), (2, .int a2), (3, .int a3), (4, .int a4)] → W p l e (headSpec wsX7_made { frames := 2, cells := 0, slots := 0, locals := 45 }).room s m args below meth c H locs 0 0 (MQ below (va_Qi Q (fun u9 t => va_P D vwCl (mW cI cZ ad u9) t.heap) (cA mLs ad s.heap.size)) args s 0 0 (cA mLs ad s.heap.size)) (F0 m 5 ls []) := by
  obtain ⟨hx, hb, hml, hown, hts, hr, hlocks, hwd, hC⟩ := id X
  have hK := hC.1
  have lk0 := hts (.fieldLink RX7 30 "FormForgeModel" "does" "[I") (by decide +kernel)
  have lk1 := hts (.fieldLink RX7 7 "FormForgeModel" "p" "I") (by decide +kernel)
  have n7 : ∀ w ∈ wsX70, w ∈ wsX7_made := by decide +kernel
  intro n
  induction n with
  | zero =>
    intro a3 a4 u H locs ls h; exact h.elim
  | succ n ih =>
    intro a3 a4 u H locs ls h hP hS hl
    replace h : f_X7_made_L5_s a1 a2 Q K0 (f_X7_made_L5 a1 a2 Q K0 n) a3 a4 u := h
    unfold f_X7_made_L5_s at h
    refine lv_iload hx hb dX7_made_5 (lv_at hl 4 rfl) ?_
    refine lv_if_lt (tgt := 73) hx hb dX7_made_7 (by decide) (fun c1 => ?_) (fun c1 => ?_)
    · replace h := h.1 c1
      exact hk0 a3 _ _ _ _ h hP hS (lv_sub hl [3] rfl)
    · replace h := h.2 c1
      refine lv_iconst (v := 0) hx hb dX7_made_10 (by decide) ?_
      refine lv_istore (lv' := [(5, .int 0), (0, .ref (ad 0)), (1, .int a1), (2, .int a2), (3, .int a3), (4, .int a4)]) hx hb dX7_made_11 hl (by decide) rfl (fun ls hl => ?_)
      refine lv_iconst (v := 0) hx hb dX7_made_13 (by decide) ?_
      refine lv_istore (lv' := [(6, .int 0), (5, .int 0), (0, .ref (ad 0)), (1, .int a1), (2, .int a2), (3, .int a3), (4, .int a4)]) hx hb dX7_made_14 hl (by decide) rfl (fun ls hl => ?_)
      obtain ⟨n8, h⟩ := h
      refine w_X7_made_L16 X a1 a2 a3 a4 _ _ (fun v9 u10 H locs ls h hP hS hl => ?_) n8 0 0 _ _ _ _ h hP hS (lv_sub hl [2, 3, 4, 5, 6, 1, 0] rfl)
      refine lv_aload_n hx hb dX7_made_53 rfl (lv_at hl 0 rfl) ?_
      refine va_get (C := RX7) (T := TX7) (N := 22) hx hb hts n7 hown hK hP 0 mg_0 rfl 1 (by decide) lk1 (fun _ h9 => h9) rfl dX7_made_54 ?_
      refine lv_iload_n hx hb dX7_made_57 rfl (lv_at hl 3 rfl) ?_
      refine lv_imul hx hb dX7_made_58 ?_
      refine lv_aload_n hx hb dX7_made_59 rfl (lv_at hl 0 rfl) ?_
      refine lv_iload hx hb dX7_made_60 (lv_at hl 5 rfl) ?_
      refine cc_i (va_runV (C := RX7) (As := [.int v9]) (rest := [.int ((u10 0 1) * a3)]) ⟨hx, hb, hml, hown, hts⟩ (c_X7_mod hwd H.size u10 v9 _ h) (cwV 1 hts gX7_made_X7_mod rfl rfl rfl (by decide +kernel) ⟨Nat.le_of_ble_eq_true rfl, Nat.le_of_ble_eq_true rfl⟩) (pmV hC hP hS mg_0 rfl) rfl rfl hl.1 rfl (lv_room (Nat.le_of_ble_eq_true rfl)) dX7_made_62 ⟨Nat.zero_le _, Nat.zero_le _⟩) hS (cA_mono hS.1) (fun v11 u12 H locs h hP hS => ?_)
      refine lv_iadd hx hb dX7_made_65 ?_
      refine lv_topi (fun v13 ev13 => ?_)
      replace h := h v13 ev13
      refine lv_istore_n (lv' := [(3, .int v13), (0, .ref (ad 0)), (1, .int a1), (2, .int a2), (4, .int a4), (5, .int v9)]) hx hb dX7_made_66 rfl hl (by decide) rfl (fun ls hl => ?_)
      obtain ⟨v14, ev14⟩ : ∃ y : Int32, y = a4 + (-1) := ⟨_, rfl⟩
      refine lv_iinc (v := v14) (lv' := [(4, .int v14), (3, .int v13), (0, .ref (ad 0)), (1, .int a1), (2, .int a2), (5, .int v9)]) hx hb dX7_made_67 hl (k := 4) rfl (by rw [ev14]; rfl) (by decide) rfl (fun ls hl => ?_)
      replace h := h v14 ev14
      refine lv_goto (tgt := 5) hx hb dX7_made_70 (by decide) ?_
      exact ih v13 v14 _ _ _ _ h hP hS (lv_sub hl [2, 3, 4, 1, 0] rfl)
set_option maxRecDepth 100000 in
set_option maxHeartbeats 4000000 in
theorem w_X7_made {p : Program} {l : Launch} {e : Env} {s : State} {m : MethodId} {args : Array Value} {below : List Frame} {meth : Method} {c : Code} {D : va_G} {cI cG cZ cJ : ClassId} {ts : Nat × Nat}  {ad : Nat → Nat}  (X : FX RX7 wsX7_made cX7_made 7 (some .int) D cI cG cZ cJ ts mLs ad p s m args meth c) (a1 : Int32) (a2 : Int32) (Q : Int32 → St → Prop) (u : St) (H : Heap) (locs : List Loc) (ls : Array Slot) (h : f_X7_made a1 a2 u Q) (hP : va_P D vwCl (mW cI cZ ad u) H) (hS : va_S (cA mLs ad s.heap.size) s.heap H locs) (hl : lv_has ls 7 [(0, .ref (ad 0)), (1, .int a1), (2, .int a2)]) : W p l e (headSpec wsX7_made { frames := 2, cells := 0, slots := 0, locals := 45 }).room s m args below meth c H locs 0 0 (MQ below (va_Qi Q (fun u9 t => va_P D vwCl (mW cI cZ ad u9) t.heap) (cA mLs ad s.heap.size)) args s 0 0 (cA mLs ad s.heap.size)) (F0 m 0 ls []) := by
  obtain ⟨hx, hb, hml, hown, hts, hr, hlocks, hwd, hC⟩ := id X
  have hK := hC.1
  have lk0 := hts (.fieldLink RX7 30 "FormForgeModel" "does" "[I") (by decide +kernel)
  have lk1 := hts (.fieldLink RX7 7 "FormForgeModel" "p" "I") (by decide +kernel)
  have n7 : ∀ w ∈ wsX70, w ∈ wsX7_made := by decide +kernel
  unfold f_X7_made at h
  refine lv_iconst (v := 0) hx hb dX7_made_0 (by decide) ?_
  refine lv_istore_n (lv' := [(3, .int 0), (0, .ref (ad 0)), (1, .int a1), (2, .int a2)]) hx hb dX7_made_1 rfl hl (by decide) rfl (fun ls hl => ?_)
  refine lv_iload_n hx hb dX7_made_2 rfl (lv_at hl 3 rfl) ?_
  refine lv_istore (lv' := [(4, .int a2), (3, .int 0), (0, .ref (ad 0)), (1, .int a1), (2, .int a2)]) hx hb dX7_made_3 hl (by decide) rfl (fun ls hl => ?_)
  obtain ⟨n15, h⟩ := h
  refine w_X7_made_L5 X a1 a2 _ _ (fun v16 u17 H locs ls h hP hS hl => ?_) n15 0 a2 _ _ _ _ h hP hS (lv_sub hl [2, 3, 4, 1, 0] rfl)
  refine lv_iload_n hx hb dX7_made_73 rfl (lv_at hl 0 rfl) ?_
  exact W.iret (v := v16) hx hb hr (fun t ht hW => ⟨⟨_, _, rfl, h, by show va_P _ _ _ t.heap; rw [ht]; exact hP⟩, hS.F ht⟩) hS.2.2 dX7_made_74
set_option maxRecDepth 100000 in
set_option maxHeartbeats 4000000 in
theorem c_X7_made {l : Launch} {D : va_G} {cI cG cZ cJ : ClassId} {ts : Nat × Nat} {ad : Nat → Nat} (hwd : WD mLs ad) (sz : Nat) (u : St) (a1 : Int32) (a2 : Int32) (Q : Int32 → St → Prop) (h : f_X7_made a1 a2 u Q) : Met l yX7_made wsX7_made ({ frames := 2, cells := 0, slots := 0, locals := 45 }) (va_Pc [.ref (ad 0), .int a1, .int a2] (PM D cI cG cZ cJ ts ad sz u)) (va_Qi Q (fun u9 t => va_P D vwCl (mW cI cZ ad u9) t.heap) (cA mLs ad sz)) 0 0 (cA mLs ad sz) := by
  refine Met.ofW (cc := cX7_made) (maxL := 7) (ret := (some .int)) (by decide) rfl ?_
  intro p e s m args below meth c s₁ B hml hv
  obtain ⟨rfl, hsz, hP, hC⟩ := hv
  subst hsz
  have X : FX RX7 wsX7_made cX7_made 7 (some .int) D cI cG cZ cJ ts mLs ad p s m _ meth c := ⟨B.exec, B.bytes, hml, findClass_of_methodNamed B.named, atoms_spec (ws := wsX7_made) B.pre, B.returns, B.notSynchronized, hwd, hC⟩
  have hl := lv_entry ([.ref (ad 0), .int a1, .int a2]) (n := 7) (Nat.le_of_ble_eq_true rfl)
  rw [lg_entry_eq]
  generalize (lg_sl ([.ref (ad 0), .int a1, .int a2]) ++ List.replicate (7 - (lg_sl ([.ref (ad 0), .int a1, .int a2])).length) Slot.unset).toArray = ls at hl ⊢
  exact w_X7_made X a1 a2 Q u _ _ _ h hP va_S.rf hl
set_option maxRecDepth 100000 in
set_option maxHeartbeats 4000000 in
theorem w_X7_changedBy {p : Program} {l : Launch} {e : Env} {s : State} {m : MethodId} {args : Array Value} {below : List Frame} {meth : Method} {c : Code} {D : va_G} {cI cG cZ cJ : ClassId} {ts : Nat × Nat}  {ad : Nat → Nat}  (X : FX RX7 wsX7_changedBy cX7_changedBy 3 (some .int) D cI cG cZ cJ ts mLs ad p s m args meth c) (a1 : Int32) (a2 : Int32) (Q : Int32 → St → Prop) (u : St) (H : Heap) (locs : List Loc) (ls : Array Slot) (h : f_X7_changedBy a1 a2 u Q) (hP : va_P D vwCl (mW cI cZ ad u) H) (hS : va_S (cA mLs ad s.heap.size) s.heap H locs) (hl : lv_has ls 3 [(0, .ref (ad 0)), (1, .int a1), (2, .int a2)]) : W p l e (headSpec wsX7_changedBy { frames := 3, cells := 0, slots := 0, locals := 72 }).room s m args below meth c H locs 0 0 (MQ below (va_Qi Q (fun u9 t => va_P D vwCl (mW cI cZ ad u9) t.heap) (cA mLs ad s.heap.size)) args s 0 0 (cA mLs ad s.heap.size)) (F0 m 0 ls []) := by
  obtain ⟨hx, hb, hml, hown, hts, hr, hlocks, hwd, hC⟩ := id X
  have hK := hC.1
  have lk0 := hts (.fieldLink RX7 13 "FormForgeModel" "degree" "[I") (by decide +kernel)
  have lk1 := hts (.fieldLink RX7 17 "FormForgeModel" "code" "[I") (by decide +kernel)
  have n7 : ∀ w ∈ wsX70, w ∈ wsX7_changedBy := by decide +kernel
  unfold f_X7_changedBy at h
  refine lv_aload_n hx hb dX7_changedBy_0 rfl (lv_at hl 0 rfl) ?_
  refine lv_aload_n hx hb dX7_changedBy_1 rfl (lv_at hl 0 rfl) ?_
  refine lv_iload_n hx hb dX7_changedBy_2 rfl (lv_at hl 2 rfl) ?_
  refine cc_i (va_runV (C := RX7) (As := [.int a2]) (rest := [.ref (ad 0)]) ⟨hx, hb, hml, hown, hts⟩ (c_X7_generatorCode hwd H.size u a2 _ h) (cwV 1 hts gX7_changedBy_X7_generatorCode rfl rfl rfl (by decide +kernel) ⟨Nat.le_of_ble_eq_true rfl, Nat.le_of_ble_eq_true rfl⟩) (pmV hC hP hS mg_0 rfl) rfl rfl hl.1 rfl (lv_room (Nat.le_of_ble_eq_true rfl)) dX7_changedBy_3 ⟨Nat.zero_le _, Nat.zero_le _⟩) hS (cA_mono hS.1) (fun v1 u2 H locs h hP hS => ?_)
  refine lv_aload_n hx hb dX7_changedBy_6 rfl (lv_at hl 0 rfl) ?_
  refine va_get (C := RX7) (T := TX7) (N := 22) hx hb hts n7 hown hK hP 0 mg_0 rfl 2 (by decide) lk0 (fun _ h9 => h9) rfl dX7_changedBy_7 ?_
  refine lv_iload_n hx hb dX7_changedBy_10 rfl (lv_at hl 1 rfl) ?_
  refine va_iald hx hb hK hP 1 0 (mg_a ⟨by decide, by decide, by decide⟩) rfl h.1 dX7_changedBy_11 ?_
  refine lv_topi (fun v3 ev3 => ?_)
  replace h := h.2 v3 ev3
  refine cc_v (va_runV (C := RX7) (As := [.int v1, .int v3]) (rest := []) ⟨hx, hb, hml, hown, hts⟩ (c_X7_learns hwd H.size u2 v1 v3 _ h) (cwV 2 hts gX7_changedBy_X7_learns rfl rfl rfl (by decide +kernel) ⟨Nat.le_of_ble_eq_true rfl, Nat.le_of_ble_eq_true rfl⟩) (pmV hC hP hS mg_0 rfl) rfl rfl hl.1 rfl (lv_room (Nat.le_of_ble_eq_true rfl)) dX7_changedBy_12 ⟨Nat.zero_le _, Nat.zero_le _⟩) hS (cA_mono hS.1) (fun u4 H locs h hP hS => ?_)
  refine lv_aload_n hx hb dX7_changedBy_15 rfl (lv_at hl 0 rfl) ?_
  refine lv_aload_n hx hb dX7_changedBy_16 rfl (lv_at hl 0 rfl) ?_
  refine va_get (C := RX7) (T := TX7) (N := 22) hx hb hts n7 hown hK hP 0 mg_0 rfl 3 (by decide) lk1 (fun _ h9 => h9) rfl dX7_changedBy_17 ?_
  refine lv_iload_n hx hb dX7_changedBy_20 rfl (lv_at hl 1 rfl) ?_
  refine va_iald hx hb hK hP 2 0 (mg_a ⟨by decide, by decide, by decide⟩) rfl h.1 dX7_changedBy_21 ?_
  refine lv_topi (fun v5 ev5 => ?_)
  replace h := h.2 v5 ev5
  refine lv_aload_n hx hb dX7_changedBy_22 rfl (lv_at hl 0 rfl) ?_
  refine va_get (C := RX7) (T := TX7) (N := 22) hx hb hts n7 hown hK hP 0 mg_0 rfl 2 (by decide) lk0 (fun _ h9 => h9) rfl dX7_changedBy_23 ?_
  refine lv_iload_n hx hb dX7_changedBy_26 rfl (lv_at hl 1 rfl) ?_
  refine va_iald hx hb hK hP 1 0 (mg_a ⟨by decide, by decide, by decide⟩) rfl h.1 dX7_changedBy_27 ?_
  refine lv_topi (fun v6 ev6 => ?_)
  replace h := h.2 v6 ev6
  refine cc_i (va_runV (C := RX7) (As := [.int v5, .int v6]) (rest := []) ⟨hx, hb, hml, hown, hts⟩ (c_X7_made hwd H.size u4 v5 v6 _ h) (cwV 2 hts gX7_changedBy_X7_made rfl rfl rfl (by decide +kernel) ⟨Nat.le_of_ble_eq_true rfl, Nat.le_of_ble_eq_true rfl⟩) (pmV hC hP hS mg_0 rfl) rfl rfl hl.1 rfl (lv_room (Nat.le_of_ble_eq_true rfl)) dX7_changedBy_28 ⟨Nat.zero_le _, Nat.zero_le _⟩) hS (cA_mono hS.1) (fun v7 u8 H locs h hP hS => ?_)
  exact W.iret (v := v7) hx hb hr (fun t ht hW => ⟨⟨_, _, rfl, h, by show va_P _ _ _ t.heap; rw [ht]; exact hP⟩, hS.F ht⟩) hS.2.2 dX7_changedBy_31
set_option maxRecDepth 100000 in
set_option maxHeartbeats 4000000 in
theorem c_X7_changedBy {l : Launch} {D : va_G} {cI cG cZ cJ : ClassId} {ts : Nat × Nat} {ad : Nat → Nat} (hwd : WD mLs ad) (sz : Nat) (u : St) (a1 : Int32) (a2 : Int32) (Q : Int32 → St → Prop) (h : f_X7_changedBy a1 a2 u Q) : Met l yX7_changedBy wsX7_changedBy ({ frames := 3, cells := 0, slots := 0, locals := 72 }) (va_Pc [.ref (ad 0), .int a1, .int a2] (PM D cI cG cZ cJ ts ad sz u)) (va_Qi Q (fun u9 t => va_P D vwCl (mW cI cZ ad u9) t.heap) (cA mLs ad sz)) 0 0 (cA mLs ad sz) := by
  refine Met.ofW (cc := cX7_changedBy) (maxL := 3) (ret := (some .int)) (by decide) rfl ?_
  intro p e s m args below meth c s₁ B hml hv
  obtain ⟨rfl, hsz, hP, hC⟩ := hv
  subst hsz
  have X : FX RX7 wsX7_changedBy cX7_changedBy 3 (some .int) D cI cG cZ cJ ts mLs ad p s m _ meth c := ⟨B.exec, B.bytes, hml, findClass_of_methodNamed B.named, atoms_spec (ws := wsX7_changedBy) B.pre, B.returns, B.notSynchronized, hwd, hC⟩
  have hl := lv_entry ([.ref (ad 0), .int a1, .int a2]) (n := 3) (Nat.le_of_ble_eq_true rfl)
  rw [lg_entry_eq]
  generalize (lg_sl ([.ref (ad 0), .int a1, .int a2]) ++ List.replicate (3 - (lg_sl ([.ref (ad 0), .int a1, .int a2])).length) Slot.unset).toArray = ls at hl ⊢
  exact w_X7_changedBy X a1 a2 Q u _ _ _ h hP va_S.rf hl
set_option maxRecDepth 100000 in
set_option maxHeartbeats 4000000 in
theorem w_X7_changed {p : Program} {l : Launch} {e : Env} {s : State} {m : MethodId} {args : Array Value} {below : List Frame} {meth : Method} {c : Code} {D : va_G} {cI cG cZ cJ : ClassId} {ts : Nat × Nat}  {ad : Nat → Nat}  (X : FX RX7 wsX7_changed cX7_changed 3 (some .int) D cI cG cZ cJ ts mLs ad p s m args meth c) (a1 : Int32) (a2 : Int32) (Q : Int32 → St → Prop) (u : St) (H : Heap) (locs : List Loc) (ls : Array Slot) (h : f_X7_changed a1 a2 u Q) (hP : va_P D vwCl (mW cI cZ ad u) H) (hS : va_S (cA mLs ad s.heap.size) s.heap H locs) (hl : lv_has ls 3 [(0, .ref (ad 0)), (1, .int a1), (2, .int a2)]) : W p l e (headSpec wsX7_changed { frames := 4, cells := 0, slots := 0, locals := 94 }).room s m args below meth c H locs 0 0 (MQ below (va_Qi Q (fun u9 t => va_P D vwCl (mW cI cZ ad u9) t.heap) (cA mLs ad s.heap.size)) args s 0 0 (cA mLs ad s.heap.size)) (F0 m 0 ls []) := by
  obtain ⟨hx, hb, hml, hown, hts, hr, hlocks, hwd, hC⟩ := id X
  have hK := hC.1
  have lk0 := hts (.fieldLink RX7 78 "FormForgeModel" "generators" "I") (by decide +kernel)
  have n7 : ∀ w ∈ wsX70, w ∈ wsX7_changed := by decide +kernel
  unfold f_X7_changed at h
  refine lv_aload_n hx hb dX7_changed_0 rfl (lv_at hl 0 rfl) ?_
  refine lv_aload_n hx hb dX7_changed_1 rfl (lv_at hl 0 rfl) ?_
  refine lv_iload_n hx hb dX7_changed_2 rfl (lv_at hl 1 rfl) ?_
  refine cc_i (va_runV (C := RX7) (As := [.int a1]) (rest := [.ref (ad 0)]) ⟨hx, hb, hml, hown, hts⟩ (c_X7_isForm hwd H.size u a1 _ h) (cwV 1 hts gX7_changed_X7_isForm rfl rfl rfl (by decide +kernel) ⟨Nat.le_of_ble_eq_true rfl, Nat.le_of_ble_eq_true rfl⟩) (pmV hC hP hS mg_0 rfl) rfl rfl hl.1 rfl (lv_room (Nat.le_of_ble_eq_true rfl)) dX7_changed_3 ⟨Nat.zero_le _, Nat.zero_le _⟩) hS (cA_mono hS.1) (fun v1 u2 H locs h hP hS => ?_)
  refine lv_if_eq (tgt := 27) hx hb dX7_changed_6 (by decide) (fun c3 => ?_) (fun c3 => ?_)
  · replace h := h.1 c3
    refine lv_iconst (v := 1) hx hb dX7_changed_27 (by decide) ?_
    refine cc_i (va_runV (C := RX7) (As := [.int 1]) (rest := []) ⟨hx, hb, hml, hown, hts⟩ (c_X7_holds hwd H.size u2 1 _ h) (cwV 1 hts gX7_changed_X7_holds rfl rfl rfl (by decide +kernel) ⟨Nat.le_of_ble_eq_true rfl, Nat.le_of_ble_eq_true rfl⟩) (pmV hC hP hS mg_0 rfl) rfl rfl hl.1 rfl (lv_room (Nat.le_of_ble_eq_true rfl)) dX7_changed_28 ⟨Nat.zero_le _, Nat.zero_le _⟩) hS (cA_mono hS.1) (fun v4 u5 H locs h hP hS => ?_)
    refine lv_if_eq (tgt := 43) hx hb dX7_changed_31 (by decide) (fun c6 => ?_) (fun c6 => ?_)
    · replace h := h.1 c6
      refine lv_iconst (v := 0) hx hb dX7_changed_43 (by decide) ?_
      exact W.iret (v := 0) hx hb hr (fun t ht hW => ⟨⟨_, _, rfl, h, by show va_P _ _ _ t.heap; rw [ht]; exact hP⟩, hS.F ht⟩) hS.2.2 dX7_changed_44
    · replace h := h.2 c6
      refine lv_aload_n hx hb dX7_changed_34 rfl (lv_at hl 0 rfl) ?_
      refine lv_iload_n hx hb dX7_changed_35 rfl (lv_at hl 1 rfl) ?_
      refine lv_iload_n hx hb dX7_changed_36 rfl (lv_at hl 2 rfl) ?_
      refine cc_i (va_runV (C := RX7) (As := [.int a1, .int a2]) (rest := []) ⟨hx, hb, hml, hown, hts⟩ (c_X7_changedBy hwd H.size u5 a1 a2 _ h) (cwV 2 hts gX7_changed_X7_changedBy rfl rfl rfl (by decide +kernel) ⟨Nat.le_of_ble_eq_true rfl, Nat.le_of_ble_eq_true rfl⟩) (pmV hC hP hS mg_0 rfl) rfl rfl hl.1 rfl (lv_room (Nat.le_of_ble_eq_true rfl)) dX7_changed_37 ⟨Nat.zero_le _, Nat.zero_le _⟩) hS (cA_mono hS.1) (fun v7 u8 H locs h hP hS => ?_)
      refine lv_goto (tgt := 44) hx hb dX7_changed_40 (by decide) ?_
      exact W.iret (v := v7) hx hb hr (fun t ht hW => ⟨⟨_, _, rfl, h, by show va_P _ _ _ t.heap; rw [ht]; exact hP⟩, hS.F ht⟩) hS.2.2 dX7_changed_44
  · replace h := h.2 c3
    refine lv_iload_n hx hb dX7_changed_9 rfl (lv_at hl 2 rfl) ?_
    refine lv_iconst (v := 0) hx hb dX7_changed_10 (by decide) ?_
    refine lv_aload_n hx hb dX7_changed_11 rfl (lv_at hl 0 rfl) ?_
    refine va_get (C := RX7) (T := TX7) (N := 22) hx hb hts n7 hown hK hP 0 mg_0 rfl 6 (by decide) lk0 (fun _ h9 => h9) rfl dX7_changed_12 ?_
    refine lv_iconst (v := 1) hx hb dX7_changed_15 (by decide) ?_
    refine lv_isub hx hb dX7_changed_16 ?_
    refine cc_i (va_runS (As := [.int a2, .int 0, .int ((u2 0 3) - 1)]) (rest := [.ref (ad 0)]) ⟨hx, hb, hml, hown, hts⟩ (c_X7_isIn hwd H.size u2 a2 0 ((u2 0 3) - 1) _ h) (va_cwS 3 hts gX7_changed_X7_isIn rfl rfl rfl (by decide +kernel) ⟨Nat.le_of_ble_eq_true rfl, Nat.le_of_ble_eq_true rfl⟩) (pmS hC hP hS) rfl rfl hl.1 rfl (lv_room (Nat.le_of_ble_eq_true rfl)) dX7_changed_17 ⟨Nat.zero_le _, Nat.zero_le _⟩) hS (cA_mono hS.1) (fun v9 u10 H locs h hP hS => ?_)
    refine lv_if_eq (tgt := 27) hx hb dX7_changed_20 (by decide) (fun c11 => ?_) (fun c11 => ?_)
    · replace h := h.1 c11
      refine lv_iconst (v := 1) hx hb dX7_changed_27 (by decide) ?_
      refine cc_i (va_runV (C := RX7) (As := [.int 1]) (rest := []) ⟨hx, hb, hml, hown, hts⟩ (c_X7_holds hwd H.size u10 1 _ h) (cwV 1 hts gX7_changed_X7_holds rfl rfl rfl (by decide +kernel) ⟨Nat.le_of_ble_eq_true rfl, Nat.le_of_ble_eq_true rfl⟩) (pmV hC hP hS mg_0 rfl) rfl rfl hl.1 rfl (lv_room (Nat.le_of_ble_eq_true rfl)) dX7_changed_28 ⟨Nat.zero_le _, Nat.zero_le _⟩) hS (cA_mono hS.1) (fun v12 u13 H locs h hP hS => ?_)
      refine lv_if_eq (tgt := 43) hx hb dX7_changed_31 (by decide) (fun c14 => ?_) (fun c14 => ?_)
      · replace h := h.1 c14
        refine lv_iconst (v := 0) hx hb dX7_changed_43 (by decide) ?_
        exact W.iret (v := 0) hx hb hr (fun t ht hW => ⟨⟨_, _, rfl, h, by show va_P _ _ _ t.heap; rw [ht]; exact hP⟩, hS.F ht⟩) hS.2.2 dX7_changed_44
      · replace h := h.2 c14
        refine lv_aload_n hx hb dX7_changed_34 rfl (lv_at hl 0 rfl) ?_
        refine lv_iload_n hx hb dX7_changed_35 rfl (lv_at hl 1 rfl) ?_
        refine lv_iload_n hx hb dX7_changed_36 rfl (lv_at hl 2 rfl) ?_
        refine cc_i (va_runV (C := RX7) (As := [.int a1, .int a2]) (rest := []) ⟨hx, hb, hml, hown, hts⟩ (c_X7_changedBy hwd H.size u13 a1 a2 _ h) (cwV 2 hts gX7_changed_X7_changedBy rfl rfl rfl (by decide +kernel) ⟨Nat.le_of_ble_eq_true rfl, Nat.le_of_ble_eq_true rfl⟩) (pmV hC hP hS mg_0 rfl) rfl rfl hl.1 rfl (lv_room (Nat.le_of_ble_eq_true rfl)) dX7_changed_37 ⟨Nat.zero_le _, Nat.zero_le _⟩) hS (cA_mono hS.1) (fun v15 u16 H locs h hP hS => ?_)
        refine lv_goto (tgt := 44) hx hb dX7_changed_40 (by decide) ?_
        exact W.iret (v := v15) hx hb hr (fun t ht hW => ⟨⟨_, _, rfl, h, by show va_P _ _ _ t.heap; rw [ht]; exact hP⟩, hS.F ht⟩) hS.2.2 dX7_changed_44
    · replace h := h.2 c11
      refine lv_iconst (v := 0) hx hb dX7_changed_23 (by decide) ?_
      refine lv_goto (tgt := 28) hx hb dX7_changed_24 (by decide) ?_
      refine cc_i (va_runV (C := RX7) (As := [.int 0]) (rest := []) ⟨hx, hb, hml, hown, hts⟩ (c_X7_holds hwd H.size u10 0 _ h) (cwV 1 hts gX7_changed_X7_holds rfl rfl rfl (by decide +kernel) ⟨Nat.le_of_ble_eq_true rfl, Nat.le_of_ble_eq_true rfl⟩) (pmV hC hP hS mg_0 rfl) rfl rfl hl.1 rfl (lv_room (Nat.le_of_ble_eq_true rfl)) dX7_changed_28 ⟨Nat.zero_le _, Nat.zero_le _⟩) hS (cA_mono hS.1) (fun v17 u18 H locs h hP hS => ?_)
      refine lv_if_eq (tgt := 43) hx hb dX7_changed_31 (by decide) (fun c19 => ?_) (fun c19 => ?_)
      · replace h := h.1 c19
        refine lv_iconst (v := 0) hx hb dX7_changed_43 (by decide) ?_
        exact W.iret (v := 0) hx hb hr (fun t ht hW => ⟨⟨_, _, rfl, h, by show va_P _ _ _ t.heap; rw [ht]; exact hP⟩, hS.F ht⟩) hS.2.2 dX7_changed_44
      · replace h := h.2 c19
        refine lv_aload_n hx hb dX7_changed_34 rfl (lv_at hl 0 rfl) ?_
        refine lv_iload_n hx hb dX7_changed_35 rfl (lv_at hl 1 rfl) ?_
        refine lv_iload_n hx hb dX7_changed_36 rfl (lv_at hl 2 rfl) ?_
        refine cc_i (va_runV (C := RX7) (As := [.int a1, .int a2]) (rest := []) ⟨hx, hb, hml, hown, hts⟩ (c_X7_changedBy hwd H.size u18 a1 a2 _ h) (cwV 2 hts gX7_changed_X7_changedBy rfl rfl rfl (by decide +kernel) ⟨Nat.le_of_ble_eq_true rfl, Nat.le_of_ble_eq_true rfl⟩) (pmV hC hP hS mg_0 rfl) rfl rfl hl.1 rfl (lv_room (Nat.le_of_ble_eq_true rfl)) dX7_changed_37 ⟨Nat.zero_le _, Nat.zero_le _⟩) hS (cA_mono hS.1) (fun v20 u21 H locs h hP hS => ?_)
        refine lv_goto (tgt := 44) hx hb dX7_changed_40 (by decide) ?_
        exact W.iret (v := v20) hx hb hr (fun t ht hW => ⟨⟨_, _, rfl, h, by show va_P _ _ _ t.heap; rw [ht]; exact hP⟩, hS.F ht⟩) hS.2.2 dX7_changed_44
set_option maxRecDepth 100000 in
set_option maxHeartbeats 4000000 in
theorem c_X7_changed {l : Launch} {D : va_G} {cI cG cZ cJ : ClassId} {ts : Nat × Nat} {ad : Nat → Nat} (hwd : WD mLs ad) (sz : Nat) (u : St) (a1 : Int32) (a2 : Int32) (Q : Int32 → St → Prop) (h : f_X7_changed a1 a2 u Q) : Met l yX7_changed wsX7_changed ({ frames := 4, cells := 0, slots := 0, locals := 94 }) (va_Pc [.ref (ad 0), .int a1, .int a2] (PM D cI cG cZ cJ ts ad sz u)) (va_Qi Q (fun u9 t => va_P D vwCl (mW cI cZ ad u9) t.heap) (cA mLs ad sz)) 0 0 (cA mLs ad sz) := by
  refine Met.ofW (cc := cX7_changed) (maxL := 3) (ret := (some .int)) (by decide) rfl ?_
  intro p e s m args below meth c s₁ B hml hv
  obtain ⟨rfl, hsz, hP, hC⟩ := hv
  subst hsz
  have X : FX RX7 wsX7_changed cX7_changed 3 (some .int) D cI cG cZ cJ ts mLs ad p s m _ meth c := ⟨B.exec, B.bytes, hml, findClass_of_methodNamed B.named, atoms_spec (ws := wsX7_changed) B.pre, B.returns, B.notSynchronized, hwd, hC⟩
  have hl := lv_entry ([.ref (ad 0), .int a1, .int a2]) (n := 3) (Nat.le_of_ble_eq_true rfl)
  rw [lg_entry_eq]
  generalize (lg_sl ([.ref (ad 0), .int a1, .int a2]) ++ List.replicate (3 - (lg_sl ([.ref (ad 0), .int a1, .int a2])).length) Slot.unset).toArray = ls at hl ⊢
  exact w_X7_changed X a1 a2 Q u _ _ _ h hP va_S.rf hl
set_option maxRecDepth 100000 in
set_option maxHeartbeats 4000000 in
theorem w_X7_isFixed_L4 {p : Program} {l : Launch} {e : Env} {s : State} {m : MethodId} {args : Array Value} {below : List Frame} {meth : Method} {c : Code} {D : va_G} {cI cG cZ cJ : ClassId} {ts : Nat × Nat}  {ad : Nat → Nat}  (X : FX RX7 wsX7_isFixed cX7_isFixed 4 (some .int) D cI cG cZ cJ ts mLs ad p s m args meth c) (a1 : Int32) (Q : Int32 → St → Prop)
    (K0 : Int32 → St → Prop) (hk0 : ∀ (b2 : Int32) (u : St) (H : Heap) (locs : List Loc) (ls : Array Slot), K0 b2 u → va_P D vwCl (mW cI cZ ad u) H → va_S (cA mLs ad s.heap.size) s.heap H locs → lv_has ls 4 [(2, .int b2)] → W p l e (headSpec wsX7_isFixed { frames := 4, cells := 0, slots := 0, locals := 94 }).room s m args below meth c H locs 0 0 (MQ below (va_Qi Q (fun u9 t => va_P D vwCl (mW cI cZ ad u9) t.heap) (cA mLs ad s.heap.size)) args s 0 0 (cA mLs ad s.heap.size)) (F0 m 43 ls []))
    : ∀ (n : Nat) (a2 : Int32) (a3 : Int32) (u : St) (H : Heap) (locs : List Loc) (ls : Array Slot), f_X7_isFixed_L4 a1 Q K0 n a2 a3 u → va_P D vwCl (mW cI cZ ad u) H → va_S (cA mLs ad s.heap.size) s.heap H locs → lv_has ls 4 [(0, .ref (ad 0)), (1, .int a1), (2, .int a2), (3, .int a3)] → W p l e (headSpec wsX7_isFixed { frames := 4, cells := 0, slots := 0, locals := 94 }).room s m args below meth c H locs 0 0 (MQ below (va_Qi Q (fun u9 t => va_P D vwCl (mW cI cZ ad u9) t.heap) (cA mLs ad s.heap.size)) args s 0 0 (cA mLs ad s.heap.size)) (F0 m 4 ls []) := by
  obtain ⟨hx, hb, hml, hown, hts, hr, hlocks, hwd, hC⟩ := id X
  have hK := hC.1
  have lk0 := hts (.fieldLink RX7 78 "FormForgeModel" "generators" "I") (by decide +kernel)
  have lk1 := hts (.fieldLink RX7 17 "FormForgeModel" "code" "[I") (by decide +kernel)
  have n7 : ∀ w ∈ wsX70, w ∈ wsX7_isFixed := by decide +kernel
  intro n
  induction n with
  | zero =>
    intro a2 a3 u H locs ls h; exact h.elim
  | succ n ih =>
    intro a2 a3 u H locs ls h hP hS hl
    replace h : f_X7_isFixed_L4_s a1 Q K0 (f_X7_isFixed_L4 a1 Q K0 n) a2 a3 u := h
    unfold f_X7_isFixed_L4_s at h
    refine lv_iload_n hx hb dX7_isFixed_4 rfl (lv_at hl 3 rfl) ?_
    refine lv_aload_n hx hb dX7_isFixed_5 rfl (lv_at hl 0 rfl) ?_
    refine va_get (C := RX7) (T := TX7) (N := 22) hx hb hts n7 hown hK hP 0 mg_0 rfl 6 (by decide) lk0 (fun _ h9 => h9) rfl dX7_isFixed_6 ?_
    refine lv_icmp_ge (tgt := 43) hx hb dX7_isFixed_9 (by decide) (fun c1 => ?_) (fun c1 => ?_)
    · replace h := h.1 c1
      exact hk0 a2 _ _ _ _ h hP hS (lv_sub hl [2] rfl)
    · replace h := h.2 c1
      refine lv_iload_n hx hb dX7_isFixed_12 rfl (lv_at hl 2 rfl) ?_
      refine lv_if_eq (tgt := 35) hx hb dX7_isFixed_13 (by decide) (fun c2 => ?_) (fun c2 => ?_)
      · replace h := h.1 c2
        refine lv_iconst (v := 0) hx hb dX7_isFixed_35 (by decide) ?_
        refine lv_istore_n (lv' := [(2, .int 0), (0, .ref (ad 0)), (1, .int a1), (3, .int a3)]) hx hb dX7_isFixed_36 rfl hl (by decide) rfl (fun ls hl => ?_)
        obtain ⟨v3, ev3⟩ : ∃ y : Int32, y = a3 + 1 := ⟨_, rfl⟩
        refine lv_iinc (v := v3) (lv' := [(3, .int v3), (2, .int 0), (0, .ref (ad 0)), (1, .int a1)]) hx hb dX7_isFixed_37 hl (k := 3) rfl (by rw [ev3]; rfl) (by decide) rfl (fun ls hl => ?_)
        replace h := h v3 ev3
        refine lv_goto (tgt := 4) hx hb dX7_isFixed_40 (by decide) ?_
        exact ih 0 v3 _ _ _ _ h hP hS (lv_sub hl [2, 3, 1, 0] rfl)
      · replace h := h.2 c2
        refine lv_aload_n hx hb dX7_isFixed_16 rfl (lv_at hl 0 rfl) ?_
        refine lv_iload_n hx hb dX7_isFixed_17 rfl (lv_at hl 1 rfl) ?_
        refine lv_iload_n hx hb dX7_isFixed_18 rfl (lv_at hl 3 rfl) ?_
        refine cc_i (va_runV (C := RX7) (As := [.int a1, .int a3]) (rest := []) ⟨hx, hb, hml, hown, hts⟩ (c_X7_changedBy hwd H.size u a1 a3 _ h) (cwV 2 hts gX7_isFixed_X7_changedBy rfl rfl rfl (by decide +kernel) ⟨Nat.le_of_ble_eq_true rfl, Nat.le_of_ble_eq_true rfl⟩) (pmV hC hP hS mg_0 rfl) rfl rfl hl.1 rfl (lv_room (Nat.le_of_ble_eq_true rfl)) dX7_isFixed_19 ⟨Nat.zero_le _, Nat.zero_le _⟩) hS (cA_mono hS.1) (fun v4 u5 H locs h hP hS => ?_)
        refine lv_aload_n hx hb dX7_isFixed_22 rfl (lv_at hl 0 rfl) ?_
        refine va_get (C := RX7) (T := TX7) (N := 22) hx hb hts n7 hown hK hP 0 mg_0 rfl 3 (by decide) lk1 (fun _ h9 => h9) rfl dX7_isFixed_23 ?_
        refine lv_iload_n hx hb dX7_isFixed_26 rfl (lv_at hl 1 rfl) ?_
        refine va_iald hx hb hK hP 2 0 (mg_a ⟨by decide, by decide, by decide⟩) rfl h.1 dX7_isFixed_27 ?_
        refine lv_topi (fun v6 ev6 => ?_)
        replace h := h.2 v6 ev6
        refine lv_icmp_ne (tgt := 35) hx hb dX7_isFixed_28 (by decide) (fun c7 => ?_) (fun c7 => ?_)
        · replace h := h.1 c7
          refine lv_iconst (v := 0) hx hb dX7_isFixed_35 (by decide) ?_
          refine lv_istore_n (lv' := [(2, .int 0), (0, .ref (ad 0)), (1, .int a1), (3, .int a3)]) hx hb dX7_isFixed_36 rfl hl (by decide) rfl (fun ls hl => ?_)
          obtain ⟨v8, ev8⟩ : ∃ y : Int32, y = a3 + 1 := ⟨_, rfl⟩
          refine lv_iinc (v := v8) (lv' := [(3, .int v8), (2, .int 0), (0, .ref (ad 0)), (1, .int a1)]) hx hb dX7_isFixed_37 hl (k := 3) rfl (by rw [ev8]; rfl) (by decide) rfl (fun ls hl => ?_)
          replace h := h v8 ev8
          refine lv_goto (tgt := 4) hx hb dX7_isFixed_40 (by decide) ?_
          exact ih 0 v8 _ _ _ _ h hP hS (lv_sub hl [2, 3, 1, 0] rfl)
        · replace h := h.2 c7
          refine lv_iconst (v := 1) hx hb dX7_isFixed_31 (by decide) ?_
          refine lv_goto (tgt := 36) hx hb dX7_isFixed_32 (by decide) ?_
          refine lv_istore_n (lv' := [(2, .int 1), (0, .ref (ad 0)), (1, .int a1), (3, .int a3)]) hx hb dX7_isFixed_36 rfl hl (by decide) rfl (fun ls hl => ?_)
          obtain ⟨v9, ev9⟩ : ∃ y : Int32, y = a3 + 1 := ⟨_, rfl⟩
          refine lv_iinc (v := v9) (lv' := [(3, .int v9), (2, .int 1), (0, .ref (ad 0)), (1, .int a1)]) hx hb dX7_isFixed_37 hl (k := 3) rfl (by rw [ev9]; rfl) (by decide) rfl (fun ls hl => ?_)
          replace h := h v9 ev9
          refine lv_goto (tgt := 4) hx hb dX7_isFixed_40 (by decide) ?_
          exact ih 1 v9 _ _ _ _ h hP hS (lv_sub hl [2, 3, 1, 0] rfl)
set_option maxRecDepth 100000 in
set_option maxHeartbeats 4000000 in
theorem w_X7_isFixed {p : Program} {l : Launch} {e : Env} {s : State} {m : MethodId} {args : Array Value} {below : List Frame} {meth : Method} {c : Code} {D : va_G} {cI cG cZ cJ : ClassId} {ts : Nat × Nat}  {ad : Nat → Nat}  (X : FX RX7 wsX7_isFixed cX7_isFixed 4 (some .int) D cI cG cZ cJ ts mLs ad p s m args meth c) (a1 : Int32) (Q : Int32 → St → Prop) (u : St) (H : Heap) (locs : List Loc) (ls : Array Slot) (h : f_X7_isFixed a1 u Q) (hP : va_P D vwCl (mW cI cZ ad u) H) (hS : va_S (cA mLs ad s.heap.size) s.heap H locs) (hl : lv_has ls 4 [(0, .ref (ad 0)), (1, .int a1)]) : W p l e (headSpec wsX7_isFixed { frames := 4, cells := 0, slots := 0, locals := 94 }).room s m args below meth c H locs 0 0 (MQ below (va_Qi Q (fun u9 t => va_P D vwCl (mW cI cZ ad u9) t.heap) (cA mLs ad s.heap.size)) args s 0 0 (cA mLs ad s.heap.size)) (F0 m 0 ls []) := by
  obtain ⟨hx, hb, hml, hown, hts, hr, hlocks, hwd, hC⟩ := id X
  have hK := hC.1
  have lk0 := hts (.fieldLink RX7 78 "FormForgeModel" "generators" "I") (by decide +kernel)
  have lk1 := hts (.fieldLink RX7 17 "FormForgeModel" "code" "[I") (by decide +kernel)
  have n7 : ∀ w ∈ wsX70, w ∈ wsX7_isFixed := by decide +kernel
  unfold f_X7_isFixed at h
  refine lv_iconst (v := 1) hx hb dX7_isFixed_0 (by decide) ?_
  refine lv_istore_n (lv' := [(2, .int 1), (0, .ref (ad 0)), (1, .int a1)]) hx hb dX7_isFixed_1 rfl hl (by decide) rfl (fun ls hl => ?_)
  refine lv_iconst (v := 0) hx hb dX7_isFixed_2 (by decide) ?_
  refine lv_istore_n (lv' := [(3, .int 0), (2, .int 1), (0, .ref (ad 0)), (1, .int a1)]) hx hb dX7_isFixed_3 rfl hl (by decide) rfl (fun ls hl => ?_)
  obtain ⟨n10, h⟩ := h
  refine w_X7_isFixed_L4 X a1 _ _ (fun v11 u12 H locs ls h hP hS hl => ?_) n10 1 0 _ _ _ _ h hP hS (lv_sub hl [2, 3, 1, 0] rfl)
  refine lv_iload_n hx hb dX7_isFixed_43 rfl (lv_at hl 0 rfl) ?_
  refine lv_if_eq (tgt := 51) hx hb dX7_isFixed_44 (by decide) (fun c13 => ?_) (fun c13 => ?_)
  · replace h := h.1 c13
    refine lv_iconst (v := 0) hx hb dX7_isFixed_51 (by decide) ?_
    exact W.iret (v := 0) hx hb hr (fun t ht hW => ⟨⟨_, _, rfl, h, by show va_P _ _ _ t.heap; rw [ht]; exact hP⟩, hS.F ht⟩) hS.2.2 dX7_isFixed_52
  · replace h := h.2 c13
    refine lv_iconst (v := 1) hx hb dX7_isFixed_47 (by decide) ?_
    refine lv_goto (tgt := 52) hx hb dX7_isFixed_48 (by decide) ?_
    exact W.iret (v := 1) hx hb hr (fun t ht hW => ⟨⟨_, _, rfl, h, by show va_P _ _ _ t.heap; rw [ht]; exact hP⟩, hS.F ht⟩) hS.2.2 dX7_isFixed_52
set_option maxRecDepth 100000 in
set_option maxHeartbeats 4000000 in
theorem c_X7_isFixed {l : Launch} {D : va_G} {cI cG cZ cJ : ClassId} {ts : Nat × Nat} {ad : Nat → Nat} (hwd : WD mLs ad) (sz : Nat) (u : St) (a1 : Int32) (Q : Int32 → St → Prop) (h : f_X7_isFixed a1 u Q) : Met l yX7_isFixed wsX7_isFixed ({ frames := 4, cells := 0, slots := 0, locals := 94 }) (va_Pc [.ref (ad 0), .int a1] (PM D cI cG cZ cJ ts ad sz u)) (va_Qi Q (fun u9 t => va_P D vwCl (mW cI cZ ad u9) t.heap) (cA mLs ad sz)) 0 0 (cA mLs ad sz) := by
  refine Met.ofW (cc := cX7_isFixed) (maxL := 4) (ret := (some .int)) (by decide) rfl ?_
  intro p e s m args below meth c s₁ B hml hv
  obtain ⟨rfl, hsz, hP, hC⟩ := hv
  subst hsz
  have X : FX RX7 wsX7_isFixed cX7_isFixed 4 (some .int) D cI cG cZ cJ ts mLs ad p s m _ meth c := ⟨B.exec, B.bytes, hml, findClass_of_methodNamed B.named, atoms_spec (ws := wsX7_isFixed) B.pre, B.returns, B.notSynchronized, hwd, hC⟩
  have hl := lv_entry ([.ref (ad 0), .int a1]) (n := 4) (Nat.le_of_ble_eq_true rfl)
  rw [lg_entry_eq]
  generalize (lg_sl ([.ref (ad 0), .int a1]) ++ List.replicate (4 - (lg_sl ([.ref (ad 0), .int a1])).length) Slot.unset).toArray = ls at hl ⊢
  exact w_X7_isFixed X a1 Q u _ _ _ h hP va_S.rf hl
