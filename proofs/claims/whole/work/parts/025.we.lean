set_option maxRecDepth 100000 in
set_option maxHeartbeats 4000000 in
theorem w_X7_inverse_L4 {p : Program} {l : Launch} {e : Env} {s : State} {m : MethodId} {args : Array Value} {below : List Frame} {meth : Method} {c : Code} {D : va_G} {cI cG cZ cJ : ClassId} {ts : Nat × Nat}  {ad : Nat → Nat}  (X : FX RX7 wsX7_inverse cX7_inverse 4 (some .int) D cI cG cZ cJ ts mLs ad p s m args meth c) (a1 : Int32) (Q : Int32 → St → Prop)
    (K0 : Int32 → St → Prop) (hk0 : ∀ (b2 : Int32) (u : St) (H : Heap) (locs : List Loc) (ls : Array Slot), K0 b2 u → va_P D vwCl (mW cI cZ ad u) H → va_S (cA mLs ad s.heap.size) s.heap H locs → lv_has ls 4 [(2, .int b2)] → W p l e (headSpec wsX7_inverse { frames := 1, cells := 0, slots := 0, locals := 22 }).room s m args below meth c H locs 0 0 (MQ below (va_Qi Q (fun u9 t => va_P D vwCl (mW cI cZ ad u9) t.heap) (cA mLs ad s.heap.size)) args s 0 0 (cA mLs ad s.heap.size)) (F0 m 35 ls []))
    : ∀ (n : Nat) (a2 : Int32) (a3 : Int32) (u : St) (H : Heap) (locs : List Loc) (ls : Array Slot), f_X7_inverse_L4 a1 Q K0 n a2 a3 u → va_P D vwCl (mW cI cZ ad u) H → va_S (cA mLs ad s.heap.size) s.heap H locs → lv_has ls 4 [(0, .ref (ad 0)), (1, .int a1), (2, .int a2), (3, .int a3)] → W p l e (headSpec wsX7_inverse { frames := 1, cells := 0, slots := 0, locals := 22 }).room s m args below meth c H locs 0 0 (MQ below (va_Qi Q (fun u9 t => va_P D vwCl (mW cI cZ ad u9) t.heap) (cA mLs ad s.heap.size)) args s 0 0 (cA mLs ad s.heap.size)) (F0 m 4 ls []) := by
  obtain ⟨hx, hb, hml, hown, hts, hr, hlocks, hwd, hC⟩ := id X
  have hK := hC.1
  have lk0 := hts (.fieldLink RX7 7 "FormForgeModel" "p" "I") (by decide +kernel)
  have n7 : ∀ w ∈ wsX70, w ∈ wsX7_inverse := by decide +kernel
  intro n
  induction n with
  | zero =>
    intro a2 a3 u H locs ls h; exact h.elim
  | succ n ih =>
    intro a2 a3 u H locs ls h hP hS hl
    replace h : f_X7_inverse_L4_s a1 Q K0 (f_X7_inverse_L4 a1 Q K0 n) a2 a3 u := h
    unfold f_X7_inverse_L4_s at h
    refine lv_iload_n hx hb dX7_inverse_4 rfl (lv_at hl 3 rfl) ?_
    refine lv_aload_n hx hb dX7_inverse_5 rfl (lv_at hl 0 rfl) ?_
    refine va_get (C := RX7) (T := TX7) (N := 22) hx hb hts n7 hown hK hP 0 mg_0 rfl 1 (by decide) lk0 (fun _ h9 => h9) rfl dX7_inverse_6 ?_
    refine lv_icmp_ge (tgt := 35) hx hb dX7_inverse_9 (by decide) (fun c1 => ?_) (fun c1 => ?_)
    · replace h := h.1 c1
      exact hk0 a2 _ _ _ _ h hP hS (lv_sub hl [2] rfl)
    · replace h := h.2 c1
      refine lv_aload_n hx hb dX7_inverse_12 rfl (lv_at hl 0 rfl) ?_
      refine lv_iload_n hx hb dX7_inverse_13 rfl (lv_at hl 3 rfl) ?_
      refine lv_iload_n hx hb dX7_inverse_14 rfl (lv_at hl 1 rfl) ?_
      refine lv_imul hx hb dX7_inverse_15 ?_
      refine cc_i (va_runV (C := RX7) (As := [.int (a3 * a1)]) (rest := []) ⟨hx, hb, hml, hown, hts⟩ (c_X7_mod hwd H.size u (a3 * a1) _ h) (cwV 1 hts gX7_inverse_X7_mod rfl rfl rfl (by decide +kernel) ⟨Nat.le_of_ble_eq_true rfl, Nat.le_of_ble_eq_true rfl⟩) (pmV hC hP hS mg_0 rfl) rfl rfl hl.1 rfl (lv_room (Nat.le_of_ble_eq_true rfl)) dX7_inverse_16 ⟨Nat.zero_le _, Nat.zero_le _⟩) hS (cA_mono hS.1) (fun v2 u3 H locs h hP hS => ?_)
      refine lv_iconst (v := 1) hx hb dX7_inverse_19 (by decide) ?_
      refine lv_icmp_ne (tgt := 27) hx hb dX7_inverse_20 (by decide) (fun c4 => ?_) (fun c4 => ?_)
      · replace h := h.1 c4
        refine lv_iload_n hx hb dX7_inverse_27 rfl (lv_at hl 2 rfl) ?_
        refine lv_istore_n (lv' := [(2, .int a2), (0, .ref (ad 0)), (1, .int a1), (3, .int a3)]) hx hb dX7_inverse_28 rfl hl (by decide) rfl (fun ls hl => ?_)
        obtain ⟨v5, ev5⟩ : ∃ y : Int32, y = a3 + 1 := ⟨_, rfl⟩
        refine lv_iinc (v := v5) (lv' := [(3, .int v5), (2, .int a2), (0, .ref (ad 0)), (1, .int a1)]) hx hb dX7_inverse_29 hl (k := 3) rfl (by rw [ev5]; rfl) (by decide) rfl (fun ls hl => ?_)
        replace h := h v5 ev5
        refine lv_goto (tgt := 4) hx hb dX7_inverse_32 (by decide) ?_
        exact ih a2 v5 _ _ _ _ h hP hS (lv_sub hl [2, 3, 1, 0] rfl)
      · replace h := h.2 c4
        refine lv_iload_n hx hb dX7_inverse_23 rfl (lv_at hl 3 rfl) ?_
        refine lv_goto (tgt := 28) hx hb dX7_inverse_24 (by decide) ?_
        refine lv_istore_n (lv' := [(2, .int a3), (0, .ref (ad 0)), (1, .int a1), (3, .int a3)]) hx hb dX7_inverse_28 rfl hl (by decide) rfl (fun ls hl => ?_)
        obtain ⟨v6, ev6⟩ : ∃ y : Int32, y = a3 + 1 := ⟨_, rfl⟩
        refine lv_iinc (v := v6) (lv' := [(3, .int v6), (2, .int a3), (0, .ref (ad 0)), (1, .int a1)]) hx hb dX7_inverse_29 hl (k := 3) rfl (by rw [ev6]; rfl) (by decide) rfl (fun ls hl => ?_)
        replace h := h v6 ev6
        refine lv_goto (tgt := 4) hx hb dX7_inverse_32 (by decide) ?_
        exact ih a3 v6 _ _ _ _ h hP hS (lv_sub hl [2, 3, 1, 0] rfl)
set_option maxRecDepth 100000 in
set_option maxHeartbeats 4000000 in
theorem w_X7_inverse {p : Program} {l : Launch} {e : Env} {s : State} {m : MethodId} {args : Array Value} {below : List Frame} {meth : Method} {c : Code} {D : va_G} {cI cG cZ cJ : ClassId} {ts : Nat × Nat}  {ad : Nat → Nat}  (X : FX RX7 wsX7_inverse cX7_inverse 4 (some .int) D cI cG cZ cJ ts mLs ad p s m args meth c) (a1 : Int32) (Q : Int32 → St → Prop) (u : St) (H : Heap) (locs : List Loc) (ls : Array Slot) (h : f_X7_inverse a1 u Q) (hP : va_P D vwCl (mW cI cZ ad u) H) (hS : va_S (cA mLs ad s.heap.size) s.heap H locs) (hl : lv_has ls 4 [(0, .ref (ad 0)), (1, .int a1)]) : W p l e (headSpec wsX7_inverse { frames := 1, cells := 0, slots := 0, locals := 22 }).room s m args below meth c H locs 0 0 (MQ below (va_Qi Q (fun u9 t => va_P D vwCl (mW cI cZ ad u9) t.heap) (cA mLs ad s.heap.size)) args s 0 0 (cA mLs ad s.heap.size)) (F0 m 0 ls []) := by
  obtain ⟨hx, hb, hml, hown, hts, hr, hlocks, hwd, hC⟩ := id X
  have hK := hC.1
  have lk0 := hts (.fieldLink RX7 7 "FormForgeModel" "p" "I") (by decide +kernel)
  have n7 : ∀ w ∈ wsX70, w ∈ wsX7_inverse := by decide +kernel
  unfold f_X7_inverse at h
  refine lv_iconst (v := 0) hx hb dX7_inverse_0 (by decide) ?_
  refine lv_istore_n (lv' := [(2, .int 0), (0, .ref (ad 0)), (1, .int a1)]) hx hb dX7_inverse_1 rfl hl (by decide) rfl (fun ls hl => ?_)
  refine lv_iconst (v := 1) hx hb dX7_inverse_2 (by decide) ?_
  refine lv_istore_n (lv' := [(3, .int 1), (2, .int 0), (0, .ref (ad 0)), (1, .int a1)]) hx hb dX7_inverse_3 rfl hl (by decide) rfl (fun ls hl => ?_)
  obtain ⟨n7, h⟩ := h
  refine w_X7_inverse_L4 X a1 _ _ (fun v8 u9 H locs ls h hP hS hl => ?_) n7 0 1 _ _ _ _ h hP hS (lv_sub hl [2, 3, 1, 0] rfl)
  refine lv_iload_n hx hb dX7_inverse_35 rfl (lv_at hl 0 rfl) ?_
  exact W.iret (v := v8) hx hb hr (fun t ht hW => ⟨⟨_, _, rfl, h, by show va_P _ _ _ t.heap; rw [ht]; exact hP⟩, hS.F ht⟩) hS.2.2 dX7_inverse_36
set_option maxRecDepth 100000 in
set_option maxHeartbeats 4000000 in
theorem c_X7_inverse {l : Launch} {D : va_G} {cI cG cZ cJ : ClassId} {ts : Nat × Nat} {ad : Nat → Nat} (hwd : WD mLs ad) (sz : Nat) (u : St) (a1 : Int32) (Q : Int32 → St → Prop) (h : f_X7_inverse a1 u Q) : Met l yX7_inverse wsX7_inverse ({ frames := 1, cells := 0, slots := 0, locals := 22 }) (va_Pc [.ref (ad 0), .int a1] (PM D cI cG cZ cJ ts ad sz u)) (va_Qi Q (fun u9 t => va_P D vwCl (mW cI cZ ad u9) t.heap) (cA mLs ad sz)) 0 0 (cA mLs ad sz) := by
  refine Met.ofW (cc := cX7_inverse) (maxL := 4) (ret := (some .int)) (by decide) rfl ?_
  intro p e s m args below meth c s₁ B hml hv
  obtain ⟨rfl, hsz, hP, hC⟩ := hv
  subst hsz
  have X : FX RX7 wsX7_inverse cX7_inverse 4 (some .int) D cI cG cZ cJ ts mLs ad p s m _ meth c := ⟨B.exec, B.bytes, hml, findClass_of_methodNamed B.named, atoms_spec (ws := wsX7_inverse) B.pre, B.returns, B.notSynchronized, hwd, hC⟩
  have hl := lv_entry ([.ref (ad 0), .int a1]) (n := 4) (Nat.le_of_ble_eq_true rfl)
  rw [lg_entry_eq]
  generalize (lg_sl ([.ref (ad 0), .int a1]) ++ List.replicate (4 - (lg_sl ([.ref (ad 0), .int a1])).length) Slot.unset).toArray = ls at hl ⊢
  exact w_X7_inverse X a1 Q u _ _ _ h hP va_S.rf hl
set_option maxRecDepth 100000 in
set_option maxHeartbeats 4000000 in
theorem w_X7_averageOf_L27 {p : Program} {l : Launch} {e : Env} {s : State} {m : MethodId} {args : Array Value} {below : List Frame} {meth : Method} {c : Code} {D : va_G} {cI cG cZ cJ : ClassId} {ts : Nat × Nat}  {ad : Nat → Nat}  (X : FX RX7 wsX7_averageOf cX7_averageOf 7 (some .int) D cI cG cZ cJ ts mLs ad p s m args meth c) (a1 : Int32) (a2 : Int32) (a3 : Int32) (Q : Int32 → St → Prop)
    (K0 : St → Prop) (hk0 : ∀ (u : St) (H : Heap) (locs : List Loc) (ls : Array Slot), K0 u → va_P D vwCl (mW cI cZ ad u) H → va_S (cA mLs ad s.heap.size) s.heap H locs → lv_has ls 7 [(0, .ref (ad 0)), (1, .int a1), (2, .int a2), (3, .int a3)] → W p l e (headSpec wsX7_averageOf { frames := 4, cells := 0, slots := 0, locals := 94 }).room s m args below meth c H locs 0 0 (MQ below (va_Qi Q (fun u9 t => va_P D vwCl (mW cI cZ ad u9) t.heap) (cA mLs ad s.heap.size)) args s 0 0 (cA mLs ad s.heap.size)) (F0 m 47 ls []))
    : ∀ (n : Nat) (a4 : Int32) (u : St) (H : Heap) (locs : List Loc) (ls : Array Slot), f_X7_averageOf_L27 a1 a2 a3 Q K0 n a4 u → va_P D vwCl (mW cI cZ ad u) H → va_S (cA mLs ad s.heap.size) s.heap H locs → lv_has ls 7 [(0, .ref (ad 0)), (1, .int a1), (2, .int a2), (3, .int a3), (4, .int a4)] → W p l e (headSpec wsX7_averageOf { frames := 4, cells := 0, slots := 0, locals := 94 }).room s m args below meth c H locs 0 0 (MQ below (va_Qi Q (fun u9 t => va_P D vwCl (mW cI cZ ad u9) t.heap) (cA mLs ad s.heap.size)) args s 0 0 (cA mLs ad s.heap.size)) (F0 m 27 ls []) := by
  obtain ⟨hx, hb, hml, hown, hts, hr, hlocks, hwd, hC⟩ := id X
  have hK := hC.1
  have lk0 := hts (.fieldLink RX7 13 "FormForgeModel" "degree" "[I") (by decide +kernel)
  have lk1 := hts (.fieldLink RX7 104 "FormForgeModel" "order" "I") (by decide +kernel)
  have lk2 := hts (.fieldLink RX7 45 "FormForgeModel" "sums" "[I") (by decide +kernel)
  have lk3 := hts (.fieldLink RX7 27 "FormForgeModel" "group" "[I") (by decide +kernel)
  have lk4 := hts (.fieldLink RX7 17 "FormForgeModel" "code" "[I") (by decide +kernel)
  have lk5 := hts (.fieldLink RX7 7 "FormForgeModel" "p" "I") (by decide +kernel)
  have n7 : ∀ w ∈ wsX70, w ∈ wsX7_averageOf := by decide +kernel
  intro n
  induction n with
  | zero =>
    intro a4 u H locs ls h; exact h.elim
  | succ n ih =>
    intro a4 u H locs ls h hP hS hl
    replace h : f_X7_averageOf_L27_s a1 a2 a3 Q K0 (f_X7_averageOf_L27 a1 a2 a3 Q K0 n) a4 u := h
    unfold f_X7_averageOf_L27_s at h
    refine lv_iload hx hb dX7_averageOf_27 (lv_at hl 4 rfl) ?_
    refine lv_iload_n hx hb dX7_averageOf_29 rfl (lv_at hl 2 rfl) ?_
    refine lv_icmp_gt (tgt := 47) hx hb dX7_averageOf_30 (by decide) (fun c7 => ?_) (fun c7 => ?_)
    · replace h := h.1 c7
      exact hk0  _ _ _ _ h hP hS (lv_sub hl [0, 1, 2, 3] rfl)
    · replace h := h.2 c7
      refine lv_aload_n hx hb dX7_averageOf_33 rfl (lv_at hl 0 rfl) ?_
      refine va_get (C := RX7) (T := TX7) (N := 22) hx hb hts n7 hown hK hP 0 mg_0 rfl 16 (by decide) lk2 (fun _ h9 => h9) rfl dX7_averageOf_34 ?_
      refine lv_iload hx hb dX7_averageOf_37 (lv_at hl 4 rfl) ?_
      refine lv_iconst (v := 0) hx hb dX7_averageOf_39 (by decide) ?_
      refine va_iast hx hb hK hP (cD hwd) hS 11 0 (mg_a ⟨by decide, by decide, by decide⟩) rfl h.1 dX7_averageOf_40 (fun H locs hP _ hS => ?_)
      replace hP := mu_a hwd ⟨by decide, by decide, by decide⟩ hP
      obtain ⟨u8, eu8⟩ : ∃ y : St, y = su u 11 a4.toNatClampNeg 0 := ⟨_, rfl⟩
      rw [← eu8] at hP
      replace h := h.2 u8 eu8
      obtain ⟨v9, ev9⟩ : ∃ y : Int32, y = a4 + 1 := ⟨_, rfl⟩
      refine lv_iinc (v := v9) (lv' := [(4, .int v9), (0, .ref (ad 0)), (1, .int a1), (2, .int a2), (3, .int a3)]) hx hb dX7_averageOf_41 hl (k := 4) rfl (by rw [ev9]; rfl) (by decide) rfl (fun ls hl => ?_)
      replace h := h v9 ev9
      refine lv_goto (tgt := 27) hx hb dX7_averageOf_44 (by decide) ?_
      exact ih v9 _ _ _ _ h hP hS (lv_sub hl [1, 2, 3, 4, 0] rfl)
set_option maxRecDepth 100000 in
set_option maxHeartbeats 4000000 in
theorem w_X7_averageOf_L87 {p : Program} {l : Launch} {e : Env} {s : State} {m : MethodId} {args : Array Value} {below : List Frame} {meth : Method} {c : Code} {D : va_G} {cI cG cZ cJ : ClassId} {ts : Nat × Nat}  {ad : Nat → Nat}  (X : FX RX7 wsX7_averageOf cX7_averageOf 7 (some .int) D cI cG cZ cJ ts mLs ad p s m args meth c) (a1 : Int32) (a2 : Int32) (a3 : Int32) (a4 : Int32) (a5 : Int32) (Q : Int32 → St → Prop)
    (K0 : St → Prop) (hk0 : ∀ (u : St) (H : Heap) (locs : List Loc) (ls : Array Slot), K0 u → va_P D vwCl (mW cI cZ ad u) H → va_S (cA mLs ad s.heap.size) s.heap H locs → lv_has ls 7 [(0, .ref (ad 0)), (1, .int a1), (2, .int a2), (3, .int a3), (4, .int a4)] → W p l e (headSpec wsX7_averageOf { frames := 4, cells := 0, slots := 0, locals := 94 }).room s m args below meth c H locs 0 0 (MQ below (va_Qi Q (fun u9 t => va_P D vwCl (mW cI cZ ad u9) t.heap) (cA mLs ad s.heap.size)) args s 0 0 (cA mLs ad s.heap.size)) (F0 m 117 ls []))
    : ∀ (n : Nat) (a6 : Int32) (u : St) (H : Heap) (locs : List Loc) (ls : Array Slot), f_X7_averageOf_L87 a1 a2 a3 a4 a5 Q K0 n a6 u → va_P D vwCl (mW cI cZ ad u) H → va_S (cA mLs ad s.heap.size) s.heap H locs → lv_has ls 7 [(0, .ref (ad 0)), (1, .int a1), (2, .int a2), (3, .int a3), (4, .int a4), (5, .int a5), (6, .int a6)] → W p l e (headSpec wsX7_averageOf { frames := 4, cells := 0, slots := 0, locals := 94 }).room s m args below meth c H locs 0 0 (MQ below (va_Qi Q (fun u9 t => va_P D vwCl (mW cI cZ ad u9) t.heap) (cA mLs ad s.heap.size)) args s 0 0 (cA mLs ad s.heap.size)) (F0 m 87 ls []) := by
  obtain ⟨hx, hb, hml, hown, hts, hr, hlocks, hwd, hC⟩ := id X
  have hK := hC.1
  have lk0 := hts (.fieldLink RX7 13 "FormForgeModel" "degree" "[I") (by decide +kernel)
  have lk1 := hts (.fieldLink RX7 104 "FormForgeModel" "order" "I") (by decide +kernel)
  have lk2 := hts (.fieldLink RX7 45 "FormForgeModel" "sums" "[I") (by decide +kernel)
  have lk3 := hts (.fieldLink RX7 27 "FormForgeModel" "group" "[I") (by decide +kernel)
  have lk4 := hts (.fieldLink RX7 17 "FormForgeModel" "code" "[I") (by decide +kernel)
  have lk5 := hts (.fieldLink RX7 7 "FormForgeModel" "p" "I") (by decide +kernel)
  have n7 : ∀ w ∈ wsX70, w ∈ wsX7_averageOf := by decide +kernel
  intro n
  induction n with
  | zero =>
    intro a6 u H locs ls h; exact h.elim
  | succ n ih =>
    intro a6 u H locs ls h hP hS hl
    replace h : f_X7_averageOf_L87_s a1 a2 a3 a4 a5 Q K0 (f_X7_averageOf_L87 a1 a2 a3 a4 a5 Q K0 n) a6 u := h
    unfold f_X7_averageOf_L87_s at h
    refine lv_iload hx hb dX7_averageOf_87 (lv_at hl 6 rfl) ?_
    refine lv_iload_n hx hb dX7_averageOf_89 rfl (lv_at hl 2 rfl) ?_
    refine lv_icmp_gt (tgt := 117) hx hb dX7_averageOf_90 (by decide) (fun c18 => ?_) (fun c18 => ?_)
    · replace h := h.1 c18
      exact hk0  _ _ _ _ h hP hS (lv_sub hl [0, 1, 2, 3, 4] rfl)
    · replace h := h.2 c18
      refine lv_aload_n hx hb dX7_averageOf_93 rfl (lv_at hl 0 rfl) ?_
      refine va_get (C := RX7) (T := TX7) (N := 22) hx hb hts n7 hown hK hP 0 mg_0 rfl 16 (by decide) lk2 (fun _ h9 => h9) rfl dX7_averageOf_94 ?_
      refine lv_iload hx hb dX7_averageOf_97 (lv_at hl 6 rfl) ?_
      refine lv_dup2_11 hx hb dX7_averageOf_99 rfl rfl ?_
      refine va_iald hx hb hK hP 11 0 (mg_a ⟨by decide, by decide, by decide⟩) rfl h.1 dX7_averageOf_100 ?_
      refine lv_topi (fun v19 ev19 => ?_)
      replace h := h.2 v19 ev19
      refine lv_aload_n hx hb dX7_averageOf_101 rfl (lv_at hl 0 rfl) ?_
      refine lv_iload hx hb dX7_averageOf_102 (lv_at hl 5 rfl) ?_
      refine lv_iload hx hb dX7_averageOf_104 (lv_at hl 6 rfl) ?_
      refine cc_i (va_runV (C := RX7) (As := [.int a5, .int a6]) (rest := [.int v19, .int a6, .ref (ad 11)]) ⟨hx, hb, hml, hown, hts⟩ (c_X7_figure hwd H.size u a5 a6 _ h) (cwV 2 hts gX7_averageOf_X7_figure rfl rfl rfl (by decide +kernel) ⟨Nat.le_of_ble_eq_true rfl, Nat.le_of_ble_eq_true rfl⟩) (pmV hC hP hS mg_0 rfl) rfl rfl hl.1 rfl (lv_room (Nat.le_of_ble_eq_true rfl)) dX7_averageOf_106 ⟨Nat.zero_le _, Nat.zero_le _⟩) hS (cA_mono hS.1) (fun v20 u21 H locs h hP hS => ?_)
      refine lv_iadd hx hb dX7_averageOf_109 ?_
      refine va_iast hx hb hK hP (cD hwd) hS 11 0 (mg_a ⟨by decide, by decide, by decide⟩) rfl h.1 dX7_averageOf_110 (fun H locs hP _ hS => ?_)
      replace hP := mu_a hwd ⟨by decide, by decide, by decide⟩ hP
      obtain ⟨u22, eu22⟩ : ∃ y : St, y = su u21 11 a6.toNatClampNeg (v19 + v20) := ⟨_, rfl⟩
      rw [← eu22] at hP
      replace h := h.2 u22 eu22
      obtain ⟨v23, ev23⟩ : ∃ y : Int32, y = a6 + 1 := ⟨_, rfl⟩
      refine lv_iinc (v := v23) (lv' := [(6, .int v23), (0, .ref (ad 0)), (1, .int a1), (2, .int a2), (3, .int a3), (4, .int a4), (5, .int a5)]) hx hb dX7_averageOf_111 hl (k := 6) rfl (by rw [ev23]; rfl) (by decide) rfl (fun ls hl => ?_)
      replace h := h v23 ev23
      refine lv_goto (tgt := 87) hx hb dX7_averageOf_114 (by decide) ?_
      exact ih v23 _ _ _ _ h hP hS (lv_sub hl [1, 2, 3, 4, 5, 6, 0] rfl)
set_option maxRecDepth 100000 in
set_option maxHeartbeats 4000000 in
theorem w_X7_averageOf_L50 {p : Program} {l : Launch} {e : Env} {s : State} {m : MethodId} {args : Array Value} {below : List Frame} {meth : Method} {c : Code} {D : va_G} {cI cG cZ cJ : ClassId} {ts : Nat × Nat}  {ad : Nat → Nat}  (X : FX RX7 wsX7_averageOf cX7_averageOf 7 (some .int) D cI cG cZ cJ ts mLs ad p s m args meth c) (a1 : Int32) (a2 : Int32) (a3 : Int32) (Q : Int32 → St → Prop)
    (K0 : St → Prop) (hk0 : ∀ (u : St) (H : Heap) (locs : List Loc) (ls : Array Slot), K0 u → va_P D vwCl (mW cI cZ ad u) H → va_S (cA mLs ad s.heap.size) s.heap H locs → lv_has ls 7 [(0, .ref (ad 0)), (2, .int a2), (3, .int a3)] → W p l e (headSpec wsX7_averageOf { frames := 4, cells := 0, slots := 0, locals := 94 }).room s m args below meth c H locs 0 0 (MQ below (va_Qi Q (fun u9 t => va_P D vwCl (mW cI cZ ad u9) t.heap) (cA mLs ad s.heap.size)) args s 0 0 (cA mLs ad s.heap.size)) (F0 m 123 ls []))
    : ∀ (n : Nat) (a4 : Int32) (u : St) (H : Heap) (locs : List Loc) (ls : Array Slot), f_X7_averageOf_L50 a1 a2 a3 Q K0 n a4 u → va_P D vwCl (mW cI cZ ad u) H → va_S (cA mLs ad s.heap.size) s.heap H locs → lv_has ls 7 [(0, .ref (ad 0)), (1, .int a1), (2, .int a2), (3, .int a3), (4, .int a4)] → W p l e (headSpec wsX7_averageOf { frames := 4, cells := 0, slots := 0, locals := 94 }).room s m args below meth c H locs 0 0 (MQ below (va_Qi Q (fun u9 t => va_P D vwCl (mW cI cZ ad u9) t.heap) (cA mLs ad s.heap.size)) args s 0 0 (cA mLs ad s.heap.size)) (F0 m 50 ls []) := by
  obtain ⟨hx, hb, hml, hown, hts, hr, hlocks, hwd, hC⟩ := id X
  have hK := hC.1
  have lk0 := hts (.fieldLink RX7 13 "FormForgeModel" "degree" "[I") (by decide +kernel)
  have lk1 := hts (.fieldLink RX7 104 "FormForgeModel" "order" "I") (by decide +kernel)
  have lk2 := hts (.fieldLink RX7 45 "FormForgeModel" "sums" "[I") (by decide +kernel)
  have lk3 := hts (.fieldLink RX7 27 "FormForgeModel" "group" "[I") (by decide +kernel)
  have lk4 := hts (.fieldLink RX7 17 "FormForgeModel" "code" "[I") (by decide +kernel)
  have lk5 := hts (.fieldLink RX7 7 "FormForgeModel" "p" "I") (by decide +kernel)
  have n7 : ∀ w ∈ wsX70, w ∈ wsX7_averageOf := by decide +kernel
  intro n
  induction n with
  | zero =>
    intro a4 u H locs ls h; exact h.elim
  | succ n ih =>
    intro a4 u H locs ls h hP hS hl
    replace h : f_X7_averageOf_L50_s a1 a2 a3 Q K0 (f_X7_averageOf_L50 a1 a2 a3 Q K0 n) a4 u := h
    unfold f_X7_averageOf_L50_s at h
    refine lv_iload hx hb dX7_averageOf_50 (lv_at hl 4 rfl) ?_
    refine lv_aload_n hx hb dX7_averageOf_52 rfl (lv_at hl 0 rfl) ?_
    refine va_get (C := RX7) (T := TX7) (N := 22) hx hb hts n7 hown hK hP 0 mg_0 rfl 9 (by decide) lk1 (fun _ h9 => h9) rfl dX7_averageOf_53 ?_
    refine lv_icmp_ge (tgt := 123) hx hb dX7_averageOf_56 (by decide) (fun c12 => ?_) (fun c12 => ?_)
    · replace h := h.1 c12
      exact hk0  _ _ _ _ h hP hS (lv_sub hl [0, 2, 3] rfl)
    · replace h := h.2 c12
      refine lv_aload_n hx hb dX7_averageOf_59 rfl (lv_at hl 0 rfl) ?_
      refine lv_aload_n hx hb dX7_averageOf_60 rfl (lv_at hl 0 rfl) ?_
      refine va_get (C := RX7) (T := TX7) (N := 22) hx hb hts n7 hown hK hP 0 mg_0 rfl 8 (by decide) lk3 (fun _ h9 => h9) rfl dX7_averageOf_61 ?_
      refine lv_iload hx hb dX7_averageOf_64 (lv_at hl 4 rfl) ?_
      refine va_iald hx hb hK hP 5 0 (mg_a ⟨by decide, by decide, by decide⟩) rfl h.1 dX7_averageOf_66 ?_
      refine lv_topi (fun v13 ev13 => ?_)
      replace h := h.2 v13 ev13
      refine lv_iload_n hx hb dX7_averageOf_67 rfl (lv_at hl 2 rfl) ?_
      refine cc_v (va_runV (C := RX7) (As := [.int v13, .int a2]) (rest := []) ⟨hx, hb, hml, hown, hts⟩ (c_X7_learns hwd H.size u v13 a2 _ h) (cwV 2 hts gX7_averageOf_X7_learns rfl rfl rfl (by decide +kernel) ⟨Nat.le_of_ble_eq_true rfl, Nat.le_of_ble_eq_true rfl⟩) (pmV hC hP hS mg_0 rfl) rfl rfl hl.1 rfl (lv_room (Nat.le_of_ble_eq_true rfl)) dX7_averageOf_68 ⟨Nat.zero_le _, Nat.zero_le _⟩) hS (cA_mono hS.1) (fun u14 H locs h hP hS => ?_)
      refine lv_aload_n hx hb dX7_averageOf_71 rfl (lv_at hl 0 rfl) ?_
      refine lv_aload_n hx hb dX7_averageOf_72 rfl (lv_at hl 0 rfl) ?_
      refine va_get (C := RX7) (T := TX7) (N := 22) hx hb hts n7 hown hK hP 0 mg_0 rfl 3 (by decide) lk4 (fun _ h9 => h9) rfl dX7_averageOf_73 ?_
      refine lv_iload_n hx hb dX7_averageOf_76 rfl (lv_at hl 1 rfl) ?_
      refine va_iald hx hb hK hP 2 0 (mg_a ⟨by decide, by decide, by decide⟩) rfl h.1 dX7_averageOf_77 ?_
      refine lv_topi (fun v15 ev15 => ?_)
      replace h := h.2 v15 ev15
      refine lv_iload_n hx hb dX7_averageOf_78 rfl (lv_at hl 2 rfl) ?_
      refine cc_i (va_runV (C := RX7) (As := [.int v15, .int a2]) (rest := []) ⟨hx, hb, hml, hown, hts⟩ (c_X7_made hwd H.size u14 v15 a2 _ h) (cwV 2 hts gX7_averageOf_X7_made rfl rfl rfl (by decide +kernel) ⟨Nat.le_of_ble_eq_true rfl, Nat.le_of_ble_eq_true rfl⟩) (pmV hC hP hS mg_0 rfl) rfl rfl hl.1 rfl (lv_room (Nat.le_of_ble_eq_true rfl)) dX7_averageOf_79 ⟨Nat.zero_le _, Nat.zero_le _⟩) hS (cA_mono hS.1) (fun v16 u17 H locs h hP hS => ?_)
      refine lv_istore (lv' := [(5, .int v16), (0, .ref (ad 0)), (1, .int a1), (2, .int a2), (3, .int a3), (4, .int a4)]) hx hb dX7_averageOf_82 hl (by decide) rfl (fun ls hl => ?_)
      refine lv_iconst (v := 0) hx hb dX7_averageOf_84 (by decide) ?_
      refine lv_istore (lv' := [(6, .int 0), (5, .int v16), (0, .ref (ad 0)), (1, .int a1), (2, .int a2), (3, .int a3), (4, .int a4)]) hx hb dX7_averageOf_85 hl (by decide) rfl (fun ls hl => ?_)
      obtain ⟨n24, h⟩ := h
      refine w_X7_averageOf_L87 X a1 a2 a3 a4 v16 _ _ (fun u25 H locs ls h hP hS hl => ?_) n24 0 _ _ _ _ h hP hS (lv_sub hl [2, 3, 4, 5, 6, 1, 0] rfl)
      obtain ⟨v26, ev26⟩ : ∃ y : Int32, y = a4 + 1 := ⟨_, rfl⟩
      refine lv_iinc (v := v26) (lv' := [(4, .int v26), (0, .ref (ad 0)), (1, .int a1), (2, .int a2), (3, .int a3)]) hx hb dX7_averageOf_117 hl (k := 4) rfl (by rw [ev26]; rfl) (by decide) rfl (fun ls hl => ?_)
      replace h := h v26 ev26
      refine lv_goto (tgt := 50) hx hb dX7_averageOf_120 (by decide) ?_
      exact ih v26 _ _ _ _ h hP hS (lv_sub hl [1, 2, 3, 4, 0] rfl)
set_option maxRecDepth 100000 in
set_option maxHeartbeats 4000000 in
theorem w_X7_averageOf_L129 {p : Program} {l : Launch} {e : Env} {s : State} {m : MethodId} {args : Array Value} {below : List Frame} {meth : Method} {c : Code} {D : va_G} {cI cG cZ cJ : ClassId} {ts : Nat × Nat}  {ad : Nat → Nat}  (X : FX RX7 wsX7_averageOf cX7_averageOf 7 (some .int) D cI cG cZ cJ ts mLs ad p s m args meth c) (a3 : Int32) (Q : Int32 → St → Prop)
    (K0 : Int32 → St → Prop) (hk0 : ∀ (b4 : Int32) (u : St) (H : Heap) (locs : List Loc) (ls : Array Slot), K0 b4 u → va_P D vwCl (mW cI cZ ad u) H → va_S (cA mLs ad s.heap.size) s.heap H locs → lv_has ls 7 [(3, .int a3), (4, .int b4)] → W p l e (headSpec wsX7_averageOf { frames := 4, cells := 0, slots := 0, locals := 94 }).room s m args below meth c H locs 0 0 (MQ below (va_Qi Q (fun u9 t => va_P D vwCl (mW cI cZ ad u9) t.heap) (cA mLs ad s.heap.size)) args s 0 0 (cA mLs ad s.heap.size)) (F0 m 167 ls []))
    : ∀ (n : Nat) (a4 : Int32) (a5 : Int32) (u : St) (H : Heap) (locs : List Loc) (ls : Array Slot), f_X7_averageOf_L129 a3 Q K0 n a4 a5 u → va_P D vwCl (mW cI cZ ad u) H → va_S (cA mLs ad s.heap.size) s.heap H locs → lv_has ls 7 [(0, .ref (ad 0)), (3, .int a3), (4, .int a4), (5, .int a5)] → W p l e (headSpec wsX7_averageOf { frames := 4, cells := 0, slots := 0, locals := 94 }).room s m args below meth c H locs 0 0 (MQ below (va_Qi Q (fun u9 t => va_P D vwCl (mW cI cZ ad u9) t.heap) (cA mLs ad s.heap.size)) args s 0 0 (cA mLs ad s.heap.size)) (F0 m 129 ls []) := by
  obtain ⟨hx, hb, hml, hown, hts, hr, hlocks, hwd, hC⟩ := id X
  have hK := hC.1
  have lk0 := hts (.fieldLink RX7 13 "FormForgeModel" "degree" "[I") (by decide +kernel)
  have lk1 := hts (.fieldLink RX7 104 "FormForgeModel" "order" "I") (by decide +kernel)
  have lk2 := hts (.fieldLink RX7 45 "FormForgeModel" "sums" "[I") (by decide +kernel)
  have lk3 := hts (.fieldLink RX7 27 "FormForgeModel" "group" "[I") (by decide +kernel)
  have lk4 := hts (.fieldLink RX7 17 "FormForgeModel" "code" "[I") (by decide +kernel)
  have lk5 := hts (.fieldLink RX7 7 "FormForgeModel" "p" "I") (by decide +kernel)
  have n7 : ∀ w ∈ wsX70, w ∈ wsX7_averageOf := by decide +kernel
  intro n
  induction n with
  | zero =>
    intro a4 a5 u H locs ls h; exact h.elim
  | succ n ih =>
    intro a4 a5 u H locs ls h hP hS hl
    replace h : f_X7_averageOf_L129_s a3 Q K0 (f_X7_averageOf_L129 a3 Q K0 n) a4 a5 u := h
    unfold f_X7_averageOf_L129_s at h
    refine lv_iload hx hb dX7_averageOf_129 (lv_at hl 3 rfl) ?_
    refine lv_if_lt (tgt := 167) hx hb dX7_averageOf_131 (by decide) (fun c29 => ?_) (fun c29 => ?_)
    · replace h := h.1 c29
      exact hk0 a4 _ _ _ _ h hP hS (lv_sub hl [1, 2] rfl)
    · replace h := h.2 c29
      refine lv_aload_n hx hb dX7_averageOf_134 rfl (lv_at hl 0 rfl) ?_
      refine va_get (C := RX7) (T := TX7) (N := 22) hx hb hts n7 hown hK hP 0 mg_0 rfl 1 (by decide) lk5 (fun _ h9 => h9) rfl dX7_averageOf_135 ?_
      refine lv_iload hx hb dX7_averageOf_138 (lv_at hl 2 rfl) ?_
      refine lv_imul hx hb dX7_averageOf_140 ?_
      refine lv_aload_n hx hb dX7_averageOf_141 rfl (lv_at hl 0 rfl) ?_
      refine lv_aload_n hx hb dX7_averageOf_142 rfl (lv_at hl 0 rfl) ?_
      refine lv_aload_n hx hb dX7_averageOf_143 rfl (lv_at hl 0 rfl) ?_
      refine va_get (C := RX7) (T := TX7) (N := 22) hx hb hts n7 hown hK hP 0 mg_0 rfl 16 (by decide) lk2 (fun _ h9 => h9) rfl dX7_averageOf_144 ?_
      refine lv_iload hx hb dX7_averageOf_147 (lv_at hl 3 rfl) ?_
      refine va_iald hx hb hK hP 11 0 (mg_a ⟨by decide, by decide, by decide⟩) rfl h.1 dX7_averageOf_149 ?_
      refine lv_topi (fun v30 ev30 => ?_)
      replace h := h.2 v30 ev30
      refine cc_i (va_runV (C := RX7) (As := [.int v30]) (rest := [.ref (ad 0), .int ((u 0 1) * a4)]) ⟨hx, hb, hml, hown, hts⟩ (c_X7_mod hwd H.size u v30 _ h) (cwV 1 hts gX7_averageOf_X7_mod rfl rfl rfl (by decide +kernel) ⟨Nat.le_of_ble_eq_true rfl, Nat.le_of_ble_eq_true rfl⟩) (pmV hC hP hS mg_0 rfl) rfl rfl hl.1 rfl (lv_room (Nat.le_of_ble_eq_true rfl)) dX7_averageOf_150 ⟨Nat.zero_le _, Nat.zero_le _⟩) hS (cA_mono hS.1) (fun v31 u32 H locs h hP hS => ?_)
      refine lv_iload_n hx hb dX7_averageOf_153 rfl (lv_at hl 1 rfl) ?_
      refine lv_imul hx hb dX7_averageOf_154 ?_
      refine cc_i (va_runV (C := RX7) (As := [.int (v31 * a3)]) (rest := [.int ((u 0 1) * a4)]) ⟨hx, hb, hml, hown, hts⟩ (c_X7_mod hwd H.size u32 (v31 * a3) _ h) (cwV 1 hts gX7_averageOf_X7_mod rfl rfl rfl (by decide +kernel) ⟨Nat.le_of_ble_eq_true rfl, Nat.le_of_ble_eq_true rfl⟩) (pmV hC hP hS mg_0 rfl) rfl rfl hl.1 rfl (lv_room (Nat.le_of_ble_eq_true rfl)) dX7_averageOf_155 ⟨Nat.zero_le _, Nat.zero_le _⟩) hS (cA_mono hS.1) (fun v33 u34 H locs h hP hS => ?_)
      refine lv_iadd hx hb dX7_averageOf_158 ?_
      refine lv_topi (fun v35 ev35 => ?_)
      replace h := h v35 ev35
      refine lv_istore (lv' := [(4, .int v35), (0, .ref (ad 0)), (3, .int a3), (5, .int a5)]) hx hb dX7_averageOf_159 hl (by decide) rfl (fun ls hl => ?_)
      obtain ⟨v36, ev36⟩ : ∃ y : Int32, y = a5 + (-1) := ⟨_, rfl⟩
      refine lv_iinc (v := v36) (lv' := [(5, .int v36), (4, .int v35), (0, .ref (ad 0)), (3, .int a3)]) hx hb dX7_averageOf_161 hl (k := 3) rfl (by rw [ev36]; rfl) (by decide) rfl (fun ls hl => ?_)
      replace h := h v36 ev36
      refine lv_goto (tgt := 129) hx hb dX7_averageOf_164 (by decide) ?_
      exact ih v35 v36 _ _ _ _ h hP hS (lv_sub hl [2, 3, 1, 0] rfl)
set_option maxRecDepth 100000 in
set_option maxHeartbeats 4000000 in
theorem w_X7_averageOf {p : Program} {l : Launch} {e : Env} {s : State} {m : MethodId} {args : Array Value} {below : List Frame} {meth : Method} {c : Code} {D : va_G} {cI cG cZ cJ : ClassId} {ts : Nat × Nat}  {ad : Nat → Nat}  (X : FX RX7 wsX7_averageOf cX7_averageOf 7 (some .int) D cI cG cZ cJ ts mLs ad p s m args meth c) (a1 : Int32) (Q : Int32 → St → Prop) (u : St) (H : Heap) (locs : List Loc) (ls : Array Slot) (h : f_X7_averageOf a1 u Q) (hP : va_P D vwCl (mW cI cZ ad u) H) (hS : va_S (cA mLs ad s.heap.size) s.heap H locs) (hl : lv_has ls 7 [(0, .ref (ad 0)), (1, .int a1)]) : W p l e (headSpec wsX7_averageOf { frames := 4, cells := 0, slots := 0, locals := 94 }).room s m args below meth c H locs 0 0 (MQ below (va_Qi Q (fun u9 t => va_P D vwCl (mW cI cZ ad u9) t.heap) (cA mLs ad s.heap.size)) args s 0 0 (cA mLs ad s.heap.size)) (F0 m 0 ls []) := by
  obtain ⟨hx, hb, hml, hown, hts, hr, hlocks, hwd, hC⟩ := id X
  have hK := hC.1
  have lk0 := hts (.fieldLink RX7 13 "FormForgeModel" "degree" "[I") (by decide +kernel)
  have lk1 := hts (.fieldLink RX7 104 "FormForgeModel" "order" "I") (by decide +kernel)
  have lk2 := hts (.fieldLink RX7 45 "FormForgeModel" "sums" "[I") (by decide +kernel)
  have lk3 := hts (.fieldLink RX7 27 "FormForgeModel" "group" "[I") (by decide +kernel)
  have lk4 := hts (.fieldLink RX7 17 "FormForgeModel" "code" "[I") (by decide +kernel)
  have lk5 := hts (.fieldLink RX7 7 "FormForgeModel" "p" "I") (by decide +kernel)
  have n7 : ∀ w ∈ wsX70, w ∈ wsX7_averageOf := by decide +kernel
  unfold f_X7_averageOf at h
  refine lv_aload_n hx hb dX7_averageOf_0 rfl (lv_at hl 0 rfl) ?_
  refine cc_v (va_runV (C := RX7) (As := []) (rest := []) ⟨hx, hb, hml, hown, hts⟩ (c_X7_gathers hwd H.size u _ h) (cwV 0 hts gX7_averageOf_X7_gathers rfl rfl rfl (by decide +kernel) ⟨Nat.le_of_ble_eq_true rfl, Nat.le_of_ble_eq_true rfl⟩) (pmV hC hP hS mg_0 rfl) rfl rfl hl.1 rfl (lv_room (Nat.le_of_ble_eq_true rfl)) dX7_averageOf_1 ⟨Nat.zero_le _, Nat.zero_le _⟩) hS (cA_mono hS.1) (fun u1 H locs h hP hS => ?_)
  refine lv_aload_n hx hb dX7_averageOf_4 rfl (lv_at hl 0 rfl) ?_
  refine va_get (C := RX7) (T := TX7) (N := 22) hx hb hts n7 hown hK hP 0 mg_0 rfl 2 (by decide) lk0 (fun _ h9 => h9) rfl dX7_averageOf_5 ?_
  refine lv_iload_n hx hb dX7_averageOf_8 rfl (lv_at hl 1 rfl) ?_
  refine va_iald hx hb hK hP 1 0 (mg_a ⟨by decide, by decide, by decide⟩) rfl h.1 dX7_averageOf_9 ?_
  refine lv_topi (fun v2 ev2 => ?_)
  replace h := h.2 v2 ev2
  refine lv_istore_n (lv' := [(2, .int v2), (0, .ref (ad 0)), (1, .int a1)]) hx hb dX7_averageOf_10 rfl hl (by decide) rfl (fun ls hl => ?_)
  refine lv_aload_n hx hb dX7_averageOf_11 rfl (lv_at hl 1 rfl) ?_
  refine lv_aload_n hx hb dX7_averageOf_12 rfl (lv_at hl 1 rfl) ?_
  refine lv_aload_n hx hb dX7_averageOf_13 rfl (lv_at hl 1 rfl) ?_
  refine va_get (C := RX7) (T := TX7) (N := 22) hx hb hts n7 hown hK hP 0 mg_0 rfl 9 (by decide) lk1 (fun _ h9 => h9) rfl dX7_averageOf_14 ?_
  refine cc_i (va_runV (C := RX7) (As := [.int (u1 0 4)]) (rest := [.ref (ad 0)]) ⟨hx, hb, hml, hown, hts⟩ (c_X7_mod hwd H.size u1 (u1 0 4) _ h) (cwV 1 hts gX7_averageOf_X7_mod rfl rfl rfl (by decide +kernel) ⟨Nat.le_of_ble_eq_true rfl, Nat.le_of_ble_eq_true rfl⟩) (pmV hC hP hS mg_0 rfl) rfl rfl hl.1 rfl (lv_room (Nat.le_of_ble_eq_true rfl)) dX7_averageOf_17 ⟨Nat.zero_le _, Nat.zero_le _⟩) hS (cA_mono hS.1) (fun v3 u4 H locs h hP hS => ?_)
  refine cc_i (va_runV (C := RX7) (As := [.int v3]) (rest := []) ⟨hx, hb, hml, hown, hts⟩ (c_X7_inverse hwd H.size u4 v3 _ h) (cwV 1 hts gX7_averageOf_X7_inverse rfl rfl rfl (by decide +kernel) ⟨Nat.le_of_ble_eq_true rfl, Nat.le_of_ble_eq_true rfl⟩) (pmV hC hP hS mg_0 rfl) rfl rfl hl.1 rfl (lv_room (Nat.le_of_ble_eq_true rfl)) dX7_averageOf_20 ⟨Nat.zero_le _, Nat.zero_le _⟩) hS (cA_mono hS.1) (fun v5 u6 H locs h hP hS => ?_)
  refine lv_istore_n (lv' := [(3, .int v5), (2, .int v2), (0, .ref (ad 0)), (1, .int a1)]) hx hb dX7_averageOf_23 rfl hl (by decide) rfl (fun ls hl => ?_)
  refine lv_iconst (v := 0) hx hb dX7_averageOf_24 (by decide) ?_
  refine lv_istore (lv' := [(4, .int 0), (3, .int v5), (2, .int v2), (0, .ref (ad 0)), (1, .int a1)]) hx hb dX7_averageOf_25 hl (by decide) rfl (fun ls hl => ?_)
  obtain ⟨n10, h⟩ := h
  refine w_X7_averageOf_L27 X a1 v2 v5 _ _ (fun u11 H locs ls h hP hS hl => ?_) n10 0 _ _ _ _ h hP hS (lv_sub hl [3, 4, 2, 1, 0] rfl)
  refine lv_iconst (v := 0) hx hb dX7_averageOf_47 (by decide) ?_
  refine lv_istore (lv' := [(4, .int 0), (0, .ref (ad 0)), (1, .int a1), (2, .int v2), (3, .int v5)]) hx hb dX7_averageOf_48 hl (by decide) rfl (fun ls hl => ?_)
  obtain ⟨n27, h⟩ := h
  refine w_X7_averageOf_L50 X a1 v2 v5 _ _ (fun u28 H locs ls h hP hS hl => ?_) n27 0 _ _ _ _ h hP hS (lv_sub hl [1, 2, 3, 4, 0] rfl)
  refine lv_iconst (v := 0) hx hb dX7_averageOf_123 (by decide) ?_
  refine lv_istore (lv' := [(4, .int 0), (0, .ref (ad 0)), (2, .int v2), (3, .int v5)]) hx hb dX7_averageOf_124 hl (by decide) rfl (fun ls hl => ?_)
  refine lv_iload_n hx hb dX7_averageOf_126 rfl (lv_at hl 2 rfl) ?_
  refine lv_istore (lv' := [(5, .int v2), (4, .int 0), (0, .ref (ad 0)), (2, .int v2), (3, .int v5)]) hx hb dX7_averageOf_127 hl (by decide) rfl (fun ls hl => ?_)
  obtain ⟨n37, h⟩ := h
  refine w_X7_averageOf_L129 X v5 _ _ (fun v38 u39 H locs ls h hP hS hl => ?_) n37 0 v2 _ _ _ _ h hP hS (lv_sub hl [2, 4, 1, 0] rfl)
  refine lv_iload_n hx hb dX7_averageOf_167 rfl (lv_at hl 0 rfl) ?_
  refine lv_if_ne (tgt := 175) hx hb dX7_averageOf_168 (by decide) (fun c40 => ?_) (fun c40 => ?_)
  · replace h := h.1 c40
    refine lv_iload hx hb dX7_averageOf_175 (lv_at hl 1 rfl) ?_
    exact W.iret (v := v38) hx hb hr (fun t ht hW => ⟨⟨_, _, rfl, h, by show va_P _ _ _ t.heap; rw [ht]; exact hP⟩, hS.F ht⟩) hS.2.2 dX7_averageOf_177
  · replace h := h.2 c40
    refine lv_iconst (v := (-1)) hx hb dX7_averageOf_171 (by decide) ?_
    refine lv_goto (tgt := 177) hx hb dX7_averageOf_172 (by decide) ?_
    exact W.iret (v := (-1)) hx hb hr (fun t ht hW => ⟨⟨_, _, rfl, h, by show va_P _ _ _ t.heap; rw [ht]; exact hP⟩, hS.F ht⟩) hS.2.2 dX7_averageOf_177
set_option maxRecDepth 100000 in
set_option maxHeartbeats 4000000 in
theorem c_X7_averageOf {l : Launch} {D : va_G} {cI cG cZ cJ : ClassId} {ts : Nat × Nat} {ad : Nat → Nat} (hwd : WD mLs ad) (sz : Nat) (u : St) (a1 : Int32) (Q : Int32 → St → Prop) (h : f_X7_averageOf a1 u Q) : Met l yX7_averageOf wsX7_averageOf ({ frames := 4, cells := 0, slots := 0, locals := 94 }) (va_Pc [.ref (ad 0), .int a1] (PM D cI cG cZ cJ ts ad sz u)) (va_Qi Q (fun u9 t => va_P D vwCl (mW cI cZ ad u9) t.heap) (cA mLs ad sz)) 0 0 (cA mLs ad sz) := by
  refine Met.ofW (cc := cX7_averageOf) (maxL := 7) (ret := (some .int)) (by decide) rfl ?_
  intro p e s m args below meth c s₁ B hml hv
  obtain ⟨rfl, hsz, hP, hC⟩ := hv
  subst hsz
  have X : FX RX7 wsX7_averageOf cX7_averageOf 7 (some .int) D cI cG cZ cJ ts mLs ad p s m _ meth c := ⟨B.exec, B.bytes, hml, findClass_of_methodNamed B.named, atoms_spec (ws := wsX7_averageOf) B.pre, B.returns, B.notSynchronized, hwd, hC⟩
  have hl := lv_entry ([.ref (ad 0), .int a1]) (n := 7) (Nat.le_of_ble_eq_true rfl)
  rw [lg_entry_eq]
  generalize (lg_sl ([.ref (ad 0), .int a1]) ++ List.replicate (7 - (lg_sl ([.ref (ad 0), .int a1])).length) Slot.unset).toArray = ls at hl ⊢
  exact w_X7_averageOf X a1 Q u _ _ _ h hP va_S.rf hl
set_option maxRecDepth 100000 in
set_option maxHeartbeats 4000000 in
theorem w_X7_average {p : Program} {l : Launch} {e : Env} {s : State} {m : MethodId} {args : Array Value} {below : List Frame} {meth : Method} {c : Code} {D : va_G} {cI cG cZ cJ : ClassId} {ts : Nat × Nat}  {ad : Nat → Nat}  (X : FX RX7 wsX7_average cX7_average 2 (some .int) D cI cG cZ cJ ts mLs ad p s m args meth c) (a1 : Int32) (Q : Int32 → St → Prop) (u : St) (H : Heap) (locs : List Loc) (ls : Array Slot) (h : f_X7_average a1 u Q) (hP : va_P D vwCl (mW cI cZ ad u) H) (hS : va_S (cA mLs ad s.heap.size) s.heap H locs) (hl : lv_has ls 2 [(0, .ref (ad 0)), (1, .int a1)]) : W p l e (headSpec wsX7_average { frames := 5, cells := 0, slots := 0, locals := 120 }).room s m args below meth c H locs 0 0 (MQ below (va_Qi Q (fun u9 t => va_P D vwCl (mW cI cZ ad u9) t.heap) (cA mLs ad s.heap.size)) args s 0 0 (cA mLs ad s.heap.size)) (F0 m 0 ls []) := by
  obtain ⟨hx, hb, hml, hown, hts, hr, hlocks, hwd, hC⟩ := id X
  have hK := hC.1
  unfold f_X7_average at h
  refine lv_aload_n hx hb dX7_average_0 rfl (lv_at hl 0 rfl) ?_
  refine lv_aload_n hx hb dX7_average_1 rfl (lv_at hl 0 rfl) ?_
  refine lv_iload_n hx hb dX7_average_2 rfl (lv_at hl 1 rfl) ?_
  refine cc_i (va_runV (C := RX7) (As := [.int a1]) (rest := [.ref (ad 0)]) ⟨hx, hb, hml, hown, hts⟩ (c_X7_isForm hwd H.size u a1 _ h) (cwV 1 hts gX7_average_X7_isForm rfl rfl rfl (by decide +kernel) ⟨Nat.le_of_ble_eq_true rfl, Nat.le_of_ble_eq_true rfl⟩) (pmV hC hP hS mg_0 rfl) rfl rfl hl.1 rfl (lv_room (Nat.le_of_ble_eq_true rfl)) dX7_average_3 ⟨Nat.zero_le _, Nat.zero_le _⟩) hS (cA_mono hS.1) (fun v1 u2 H locs h hP hS => ?_)
  refine lv_if_eq (tgt := 13) hx hb dX7_average_6 (by decide) (fun c3 => ?_) (fun c3 => ?_)
  · replace h := h.1 c3
    refine lv_iconst (v := 1) hx hb dX7_average_13 (by decide) ?_
    refine cc_i (va_runV (C := RX7) (As := [.int 1]) (rest := []) ⟨hx, hb, hml, hown, hts⟩ (c_X7_holds hwd H.size u2 1 _ h) (cwV 1 hts gX7_average_X7_holds rfl rfl rfl (by decide +kernel) ⟨Nat.le_of_ble_eq_true rfl, Nat.le_of_ble_eq_true rfl⟩) (pmV hC hP hS mg_0 rfl) rfl rfl hl.1 rfl (lv_room (Nat.le_of_ble_eq_true rfl)) dX7_average_14 ⟨Nat.zero_le _, Nat.zero_le _⟩) hS (cA_mono hS.1) (fun v4 u5 H locs h hP hS => ?_)
    refine lv_if_eq (tgt := 28) hx hb dX7_average_17 (by decide) (fun c6 => ?_) (fun c6 => ?_)
    · replace h := h.1 c6
      refine lv_iconst (v := 0) hx hb dX7_average_28 (by decide) ?_
      exact W.iret (v := 0) hx hb hr (fun t ht hW => ⟨⟨_, _, rfl, h, by show va_P _ _ _ t.heap; rw [ht]; exact hP⟩, hS.F ht⟩) hS.2.2 dX7_average_29
    · replace h := h.2 c6
      refine lv_aload_n hx hb dX7_average_20 rfl (lv_at hl 0 rfl) ?_
      refine lv_iload_n hx hb dX7_average_21 rfl (lv_at hl 1 rfl) ?_
      refine cc_i (va_runV (C := RX7) (As := [.int a1]) (rest := []) ⟨hx, hb, hml, hown, hts⟩ (c_X7_averageOf hwd H.size u5 a1 _ h) (cwV 1 hts gX7_average_X7_averageOf rfl rfl rfl (by decide +kernel) ⟨Nat.le_of_ble_eq_true rfl, Nat.le_of_ble_eq_true rfl⟩) (pmV hC hP hS mg_0 rfl) rfl rfl hl.1 rfl (lv_room (Nat.le_of_ble_eq_true rfl)) dX7_average_22 ⟨Nat.zero_le _, Nat.zero_le _⟩) hS (cA_mono hS.1) (fun v7 u8 H locs h hP hS => ?_)
      refine lv_goto (tgt := 29) hx hb dX7_average_25 (by decide) ?_
      exact W.iret (v := v7) hx hb hr (fun t ht hW => ⟨⟨_, _, rfl, h, by show va_P _ _ _ t.heap; rw [ht]; exact hP⟩, hS.F ht⟩) hS.2.2 dX7_average_29
  · replace h := h.2 c3
    refine lv_iconst (v := 0) hx hb dX7_average_9 (by decide) ?_
    refine lv_goto (tgt := 14) hx hb dX7_average_10 (by decide) ?_
    refine cc_i (va_runV (C := RX7) (As := [.int 0]) (rest := []) ⟨hx, hb, hml, hown, hts⟩ (c_X7_holds hwd H.size u2 0 _ h) (cwV 1 hts gX7_average_X7_holds rfl rfl rfl (by decide +kernel) ⟨Nat.le_of_ble_eq_true rfl, Nat.le_of_ble_eq_true rfl⟩) (pmV hC hP hS mg_0 rfl) rfl rfl hl.1 rfl (lv_room (Nat.le_of_ble_eq_true rfl)) dX7_average_14 ⟨Nat.zero_le _, Nat.zero_le _⟩) hS (cA_mono hS.1) (fun v9 u10 H locs h hP hS => ?_)
    refine lv_if_eq (tgt := 28) hx hb dX7_average_17 (by decide) (fun c11 => ?_) (fun c11 => ?_)
    · replace h := h.1 c11
      refine lv_iconst (v := 0) hx hb dX7_average_28 (by decide) ?_
      exact W.iret (v := 0) hx hb hr (fun t ht hW => ⟨⟨_, _, rfl, h, by show va_P _ _ _ t.heap; rw [ht]; exact hP⟩, hS.F ht⟩) hS.2.2 dX7_average_29
    · replace h := h.2 c11
      refine lv_aload_n hx hb dX7_average_20 rfl (lv_at hl 0 rfl) ?_
      refine lv_iload_n hx hb dX7_average_21 rfl (lv_at hl 1 rfl) ?_
      refine cc_i (va_runV (C := RX7) (As := [.int a1]) (rest := []) ⟨hx, hb, hml, hown, hts⟩ (c_X7_averageOf hwd H.size u10 a1 _ h) (cwV 1 hts gX7_average_X7_averageOf rfl rfl rfl (by decide +kernel) ⟨Nat.le_of_ble_eq_true rfl, Nat.le_of_ble_eq_true rfl⟩) (pmV hC hP hS mg_0 rfl) rfl rfl hl.1 rfl (lv_room (Nat.le_of_ble_eq_true rfl)) dX7_average_22 ⟨Nat.zero_le _, Nat.zero_le _⟩) hS (cA_mono hS.1) (fun v12 u13 H locs h hP hS => ?_)
      refine lv_goto (tgt := 29) hx hb dX7_average_25 (by decide) ?_
      exact W.iret (v := v12) hx hb hr (fun t ht hW => ⟨⟨_, _, rfl, h, by show va_P _ _ _ t.heap; rw [ht]; exact hP⟩, hS.F ht⟩) hS.2.2 dX7_average_29
set_option maxRecDepth 100000 in
set_option maxHeartbeats 4000000 in
theorem c_X7_average {l : Launch} {D : va_G} {cI cG cZ cJ : ClassId} {ts : Nat × Nat} {ad : Nat → Nat} (hwd : WD mLs ad) (sz : Nat) (u : St) (a1 : Int32) (Q : Int32 → St → Prop) (h : f_X7_average a1 u Q) : Met l yX7_average wsX7_average ({ frames := 5, cells := 0, slots := 0, locals := 120 }) (va_Pc [.ref (ad 0), .int a1] (PM D cI cG cZ cJ ts ad sz u)) (va_Qi Q (fun u9 t => va_P D vwCl (mW cI cZ ad u9) t.heap) (cA mLs ad sz)) 0 0 (cA mLs ad sz) := by
  refine Met.ofW (cc := cX7_average) (maxL := 2) (ret := (some .int)) (by decide) rfl ?_
  intro p e s m args below meth c s₁ B hml hv
  obtain ⟨rfl, hsz, hP, hC⟩ := hv
  subst hsz
  have X : FX RX7 wsX7_average cX7_average 2 (some .int) D cI cG cZ cJ ts mLs ad p s m _ meth c := ⟨B.exec, B.bytes, hml, findClass_of_methodNamed B.named, atoms_spec (ws := wsX7_average) B.pre, B.returns, B.notSynchronized, hwd, hC⟩
  have hl := lv_entry ([.ref (ad 0), .int a1]) (n := 2) (Nat.le_of_ble_eq_true rfl)
  rw [lg_entry_eq]
  generalize (lg_sl ([.ref (ad 0), .int a1]) ++ List.replicate (2 - (lg_sl ([.ref (ad 0), .int a1])).length) Slot.unset).toArray = ls at hl ⊢
  exact w_X7_average X a1 Q u _ _ _ h hP va_S.rf hl
set_option maxRecDepth 100000 in
set_option maxHeartbeats 4000000 in
theorem w_X7_laysRows_L9 {p : Program} {l : Launch} {e : Env} {s : State} {m : MethodId} {args : Array Value} {below : List Frame} {meth : Method} {c : Code} {D : va_G} {cI cG cZ cJ : ClassId} {ts : Nat × Nat}  {ad : Nat → Nat}  (X : FX RX7 wsX7_laysRows cX7_laysRows 4 none D cI cG cZ cJ ts mLs ad p s m args meth c) (a1 : Int32) (a2 : Int32) (Q : St → Prop)
    (K0 : St → Prop) (hk0 : ∀ (u : St) (H : Heap) (locs : List Loc) (ls : Array Slot), K0 u → va_P D vwCl (mW cI cZ ad u) H → va_S (cA mLs ad s.heap.size) s.heap H locs → lv_has ls 4 [(0, .ref (ad 0)), (1, .int a1), (2, .int a2)] → W p l e (headSpec wsX7_laysRows { frames := 1, cells := 0, slots := 0, locals := 22 }).room s m args below meth c H locs 0 0 (MQ below (va_Qv Q (fun u9 t => va_P D vwCl (mW cI cZ ad u9) t.heap) (cA mLs ad s.heap.size)) args s 0 0 (cA mLs ad s.heap.size)) (F0 m 58 ls []))
    : ∀ (n : Nat) (a3 : Int32) (u : St) (H : Heap) (locs : List Loc) (ls : Array Slot), f_X7_laysRows_L9 a1 a2 Q K0 n a3 u → va_P D vwCl (mW cI cZ ad u) H → va_S (cA mLs ad s.heap.size) s.heap H locs → lv_has ls 4 [(0, .ref (ad 0)), (1, .int a1), (2, .int a2), (3, .int a3)] → W p l e (headSpec wsX7_laysRows { frames := 1, cells := 0, slots := 0, locals := 22 }).room s m args below meth c H locs 0 0 (MQ below (va_Qv Q (fun u9 t => va_P D vwCl (mW cI cZ ad u9) t.heap) (cA mLs ad s.heap.size)) args s 0 0 (cA mLs ad s.heap.size)) (F0 m 9 ls []) := by
  obtain ⟨hx, hb, hml, hown, hts, hr, hlocks, hwd, hC⟩ := id X
  have hK := hC.1
  have lk0 := hts (.fieldLink RX7 33 "FormForgeModel" "rows" "[I") (by decide +kernel)
  have lk1 := hts (.fieldLink RX7 136 "FormForgeModel" "many" "I") (by decide +kernel)
  have lk2 := hts (.fieldLink RX7 30 "FormForgeModel" "does" "[I") (by decide +kernel)
  have n7 : ∀ w ∈ wsX70, w ∈ wsX7_laysRows := by decide +kernel
  intro n
  induction n with
  | zero =>
    intro a3 u H locs ls h; exact h.elim
  | succ n ih =>
    intro a3 u H locs ls h hP hS hl
    replace h : f_X7_laysRows_L9_s a1 a2 Q K0 (f_X7_laysRows_L9 a1 a2 Q K0 n) a3 u := h
    unfold f_X7_laysRows_L9_s at h
    refine lv_iload_n hx hb dX7_laysRows_9 rfl (lv_at hl 3 rfl) ?_
    refine lv_iload_n hx hb dX7_laysRows_10 rfl (lv_at hl 1 rfl) ?_
    refine lv_icmp_gt (tgt := 58) hx hb dX7_laysRows_11 (by decide) (fun c2 => ?_) (fun c2 => ?_)
    · replace h := h.1 c2
      exact hk0  _ _ _ _ h hP hS (lv_sub hl [0, 1, 2] rfl)
    · replace h := h.2 c2
      refine lv_aload_n hx hb dX7_laysRows_14 rfl (lv_at hl 0 rfl) ?_
      refine va_get (C := RX7) (T := TX7) (N := 22) hx hb hts n7 hown hK hP 0 mg_0 rfl 11 (by decide) lk0 (fun _ h9 => h9) rfl dX7_laysRows_15 ?_
      refine lv_iconst (v := 5) hx hb dX7_laysRows_18 (by decide) ?_
      refine lv_aload_n hx hb dX7_laysRows_19 rfl (lv_at hl 0 rfl) ?_
      refine va_get (C := RX7) (T := TX7) (N := 22) hx hb hts n7 hown hK hP 0 mg_0 rfl 12 (by decide) lk1 (fun _ h9 => h9) rfl dX7_laysRows_20 ?_
      refine lv_imul hx hb dX7_laysRows_23 ?_
      refine lv_iload_n hx hb dX7_laysRows_24 rfl (lv_at hl 3 rfl) ?_
      refine lv_iadd hx hb dX7_laysRows_25 ?_
      refine lv_aload_n hx hb dX7_laysRows_26 rfl (lv_at hl 0 rfl) ?_
      refine lv_aload_n hx hb dX7_laysRows_27 rfl (lv_at hl 0 rfl) ?_
      refine va_get (C := RX7) (T := TX7) (N := 22) hx hb hts n7 hown hK hP 0 mg_0 rfl 10 (by decide) lk2 (fun _ h9 => h9) rfl dX7_laysRows_28 ?_
      refine lv_iconst (v := 5) hx hb dX7_laysRows_31 (by decide) ?_
      refine lv_iload_n hx hb dX7_laysRows_32 rfl (lv_at hl 2 rfl) ?_
      refine lv_imul hx hb dX7_laysRows_33 ?_
      refine lv_iload_n hx hb dX7_laysRows_34 rfl (lv_at hl 3 rfl) ?_
      refine lv_iadd hx hb dX7_laysRows_35 ?_
      refine va_iald hx hb hK hP 6 0 (mg_a ⟨by decide, by decide, by decide⟩) rfl h.1 dX7_laysRows_36 ?_
      refine lv_topi (fun v3 ev3 => ?_)
      replace h := h.2 v3 ev3
      refine lv_iload_n hx hb dX7_laysRows_37 rfl (lv_at hl 2 rfl) ?_
      refine lv_iload_n hx hb dX7_laysRows_38 rfl (lv_at hl 3 rfl) ?_
      refine lv_icmp_ne (tgt := 46) hx hb dX7_laysRows_39 (by decide) (fun c4 => ?_) (fun c4 => ?_)
      · replace h := h.1 c4
        refine lv_iconst (v := 0) hx hb dX7_laysRows_46 (by decide) ?_
        refine lv_isub hx hb dX7_laysRows_47 ?_
        refine cc_i (va_runV (C := RX7) (As := [.int (v3 - 0)]) (rest := [.int ((5 * (u 0 5)) + a3), .ref (ad 7)]) ⟨hx, hb, hml, hown, hts⟩ (c_X7_mod hwd H.size u (v3 - 0) _ h) (cwV 1 hts gX7_laysRows_X7_mod rfl rfl rfl (by decide +kernel) ⟨Nat.le_of_ble_eq_true rfl, Nat.le_of_ble_eq_true rfl⟩) (pmV hC hP hS mg_0 rfl) rfl rfl hl.1 rfl (lv_room (Nat.le_of_ble_eq_true rfl)) dX7_laysRows_48 ⟨Nat.zero_le _, Nat.zero_le _⟩) hS (cA_mono hS.1) (fun v5 u6 H locs h hP hS => ?_)
        refine va_iast hx hb hK hP (cD hwd) hS 7 0 (mg_a ⟨by decide, by decide, by decide⟩) rfl h.1 dX7_laysRows_51 (fun H locs hP _ hS => ?_)
        replace hP := mu_a hwd ⟨by decide, by decide, by decide⟩ hP
        obtain ⟨u7, eu7⟩ : ∃ y : St, y = su u6 7 ((5 * (u 0 5)) + a3).toNatClampNeg v5 := ⟨_, rfl⟩
        rw [← eu7] at hP
        replace h := h.2 u7 eu7
        obtain ⟨v8, ev8⟩ : ∃ y : Int32, y = a3 + 1 := ⟨_, rfl⟩
        refine lv_iinc (v := v8) (lv' := [(3, .int v8), (0, .ref (ad 0)), (1, .int a1), (2, .int a2)]) hx hb dX7_laysRows_52 hl (k := 3) rfl (by rw [ev8]; rfl) (by decide) rfl (fun ls hl => ?_)
        replace h := h v8 ev8
        refine lv_goto (tgt := 9) hx hb dX7_laysRows_55 (by decide) ?_
        exact ih v8 _ _ _ _ h hP hS (lv_sub hl [1, 2, 3, 0] rfl)
      · replace h := h.2 c4
        refine lv_iconst (v := 1) hx hb dX7_laysRows_42 (by decide) ?_
        refine lv_goto (tgt := 47) hx hb dX7_laysRows_43 (by decide) ?_
        refine lv_isub hx hb dX7_laysRows_47 ?_
        refine cc_i (va_runV (C := RX7) (As := [.int (v3 - 1)]) (rest := [.int ((5 * (u 0 5)) + a3), .ref (ad 7)]) ⟨hx, hb, hml, hown, hts⟩ (c_X7_mod hwd H.size u (v3 - 1) _ h) (cwV 1 hts gX7_laysRows_X7_mod rfl rfl rfl (by decide +kernel) ⟨Nat.le_of_ble_eq_true rfl, Nat.le_of_ble_eq_true rfl⟩) (pmV hC hP hS mg_0 rfl) rfl rfl hl.1 rfl (lv_room (Nat.le_of_ble_eq_true rfl)) dX7_laysRows_48 ⟨Nat.zero_le _, Nat.zero_le _⟩) hS (cA_mono hS.1) (fun v9 u10 H locs h hP hS => ?_)
        refine va_iast hx hb hK hP (cD hwd) hS 7 0 (mg_a ⟨by decide, by decide, by decide⟩) rfl h.1 dX7_laysRows_51 (fun H locs hP _ hS => ?_)
        replace hP := mu_a hwd ⟨by decide, by decide, by decide⟩ hP
        obtain ⟨u11, eu11⟩ : ∃ y : St, y = su u10 7 ((5 * (u 0 5)) + a3).toNatClampNeg v9 := ⟨_, rfl⟩
        rw [← eu11] at hP
        replace h := h.2 u11 eu11
        obtain ⟨v12, ev12⟩ : ∃ y : Int32, y = a3 + 1 := ⟨_, rfl⟩
        refine lv_iinc (v := v12) (lv' := [(3, .int v12), (0, .ref (ad 0)), (1, .int a1), (2, .int a2)]) hx hb dX7_laysRows_52 hl (k := 3) rfl (by rw [ev12]; rfl) (by decide) rfl (fun ls hl => ?_)
        replace h := h v12 ev12
        refine lv_goto (tgt := 9) hx hb dX7_laysRows_55 (by decide) ?_
        exact ih v12 _ _ _ _ h hP hS (lv_sub hl [1, 2, 3, 0] rfl)
set_option maxRecDepth 100000 in
set_option maxHeartbeats 4000000 in
theorem w_X7_laysRows_L2 {p : Program} {l : Launch} {e : Env} {s : State} {m : MethodId} {args : Array Value} {below : List Frame} {meth : Method} {c : Code} {D : va_G} {cI cG cZ cJ : ClassId} {ts : Nat × Nat}  {ad : Nat → Nat}  (X : FX RX7 wsX7_laysRows cX7_laysRows 4 none D cI cG cZ cJ ts mLs ad p s m args meth c) (a1 : Int32) (Q : St → Prop)
    (K0 : St → Prop) (hk0 : ∀ (u : St) (H : Heap) (locs : List Loc) (ls : Array Slot), K0 u → va_P D vwCl (mW cI cZ ad u) H → va_S (cA mLs ad s.heap.size) s.heap H locs → lv_has ls 4 [] → W p l e (headSpec wsX7_laysRows { frames := 1, cells := 0, slots := 0, locals := 22 }).room s m args below meth c H locs 0 0 (MQ below (va_Qv Q (fun u9 t => va_P D vwCl (mW cI cZ ad u9) t.heap) (cA mLs ad s.heap.size)) args s 0 0 (cA mLs ad s.heap.size)) (F0 m 74 ls []))
    : ∀ (n : Nat) (a2 : Int32) (u : St) (H : Heap) (locs : List Loc) (ls : Array Slot), f_X7_laysRows_L2 a1 Q K0 n a2 u → va_P D vwCl (mW cI cZ ad u) H → va_S (cA mLs ad s.heap.size) s.heap H locs → lv_has ls 4 [(0, .ref (ad 0)), (1, .int a1), (2, .int a2)] → W p l e (headSpec wsX7_laysRows { frames := 1, cells := 0, slots := 0, locals := 22 }).room s m args below meth c H locs 0 0 (MQ below (va_Qv Q (fun u9 t => va_P D vwCl (mW cI cZ ad u9) t.heap) (cA mLs ad s.heap.size)) args s 0 0 (cA mLs ad s.heap.size)) (F0 m 2 ls []) := by
  obtain ⟨hx, hb, hml, hown, hts, hr, hlocks, hwd, hC⟩ := id X
  have hK := hC.1
  have lk0 := hts (.fieldLink RX7 33 "FormForgeModel" "rows" "[I") (by decide +kernel)
  have lk1 := hts (.fieldLink RX7 136 "FormForgeModel" "many" "I") (by decide +kernel)
  have lk2 := hts (.fieldLink RX7 30 "FormForgeModel" "does" "[I") (by decide +kernel)
  have n7 : ∀ w ∈ wsX70, w ∈ wsX7_laysRows := by decide +kernel
  intro n
  induction n with
  | zero =>
    intro a2 u H locs ls h; exact h.elim
  | succ n ih =>
    intro a2 u H locs ls h hP hS hl
    replace h : f_X7_laysRows_L2_s a1 Q K0 (f_X7_laysRows_L2 a1 Q K0 n) a2 u := h
    unfold f_X7_laysRows_L2_s at h
    refine lv_iload_n hx hb dX7_laysRows_2 rfl (lv_at hl 2 rfl) ?_
    refine lv_iload_n hx hb dX7_laysRows_3 rfl (lv_at hl 1 rfl) ?_
    refine lv_icmp_gt (tgt := 74) hx hb dX7_laysRows_4 (by decide) (fun c1 => ?_) (fun c1 => ?_)
    · replace h := h.1 c1
      exact hk0  _ _ _ _ h hP hS (lv_sub hl [] rfl)
    · replace h := h.2 c1
      refine lv_iconst (v := 0) hx hb dX7_laysRows_7 (by decide) ?_
      refine lv_istore_n (lv' := [(3, .int 0), (0, .ref (ad 0)), (1, .int a1), (2, .int a2)]) hx hb dX7_laysRows_8 rfl hl (by decide) rfl (fun ls hl => ?_)
      obtain ⟨n13, h⟩ := h
      refine w_X7_laysRows_L9 X a1 a2 _ _ (fun u14 H locs ls h hP hS hl => ?_) n13 0 _ _ _ _ h hP hS (lv_sub hl [1, 2, 3, 0] rfl)
      refine lv_aload_n hx hb dX7_laysRows_58 rfl (lv_at hl 0 rfl) ?_
      refine lv_dup hx hb dX7_laysRows_59 rfl ?_
      refine va_get (C := RX7) (T := TX7) (N := 22) hx hb hts n7 hown hK hP 0 mg_0 rfl 12 (by decide) lk1 (fun _ h9 => h9) rfl dX7_laysRows_60 ?_
      refine lv_iconst (v := 1) hx hb dX7_laysRows_63 (by decide) ?_
      refine lv_iadd hx hb dX7_laysRows_64 ?_
      refine va_put (C := RX7) (T := TX7) (N := 22) (ty := .int) (v := .int ((u14 0 5) + 1)) hx hb hts n7 tyX7 tyX7_ok nmX7 hown hK hP (cD hwd) hS 0 mg_0 rfl 12 (by decide) lk1 (fun _ h9 => h9) rfl (by decide +kernel) rfl rfl (Nat.le_of_ble_eq_true rfl) dX7_laysRows_65 (fun H locs hP _ hS => ?_)
      replace hP := mu_many hwd hP
      obtain ⟨u15, eu15⟩ : ∃ y : St, y = su u14 0 5 ((u14 0 5) + 1) := ⟨_, rfl⟩
      rw [← eu15] at hP
      replace h := h u15 eu15
      obtain ⟨v16, ev16⟩ : ∃ y : Int32, y = a2 + 1 := ⟨_, rfl⟩
      refine lv_iinc (v := v16) (lv' := [(2, .int v16), (0, .ref (ad 0)), (1, .int a1)]) hx hb dX7_laysRows_68 hl (k := 2) rfl (by rw [ev16]; rfl) (by decide) rfl (fun ls hl => ?_)
      replace h := h v16 ev16
      refine lv_goto (tgt := 2) hx hb dX7_laysRows_71 (by decide) ?_
      exact ih v16 _ _ _ _ h hP hS (lv_sub hl [1, 2, 0] rfl)
set_option maxRecDepth 100000 in
set_option maxHeartbeats 4000000 in
theorem w_X7_laysRows {p : Program} {l : Launch} {e : Env} {s : State} {m : MethodId} {args : Array Value} {below : List Frame} {meth : Method} {c : Code} {D : va_G} {cI cG cZ cJ : ClassId} {ts : Nat × Nat}  {ad : Nat → Nat}  (X : FX RX7 wsX7_laysRows cX7_laysRows 4 none D cI cG cZ cJ ts mLs ad p s m args meth c) (a1 : Int32) (Q : St → Prop) (u : St) (H : Heap) (locs : List Loc) (ls : Array Slot) (h : f_X7_laysRows a1 u Q) (hP : va_P D vwCl (mW cI cZ ad u) H) (hS : va_S (cA mLs ad s.heap.size) s.heap H locs) (hl : lv_has ls 4 [(0, .ref (ad 0)), (1, .int a1)]) : W p l e (headSpec wsX7_laysRows { frames := 1, cells := 0, slots := 0, locals := 22 }).room s m args below meth c H locs 0 0 (MQ below (va_Qv Q (fun u9 t => va_P D vwCl (mW cI cZ ad u9) t.heap) (cA mLs ad s.heap.size)) args s 0 0 (cA mLs ad s.heap.size)) (F0 m 0 ls []) := by
  obtain ⟨hx, hb, hml, hown, hts, hr, hlocks, hwd, hC⟩ := id X
  have hK := hC.1
  have lk0 := hts (.fieldLink RX7 33 "FormForgeModel" "rows" "[I") (by decide +kernel)
  have lk1 := hts (.fieldLink RX7 136 "FormForgeModel" "many" "I") (by decide +kernel)
  have lk2 := hts (.fieldLink RX7 30 "FormForgeModel" "does" "[I") (by decide +kernel)
  have n7 : ∀ w ∈ wsX70, w ∈ wsX7_laysRows := by decide +kernel
  unfold f_X7_laysRows at h
  refine lv_iconst (v := 0) hx hb dX7_laysRows_0 (by decide) ?_
  refine lv_istore_n (lv' := [(2, .int 0), (0, .ref (ad 0)), (1, .int a1)]) hx hb dX7_laysRows_1 rfl hl (by decide) rfl (fun ls hl => ?_)
  obtain ⟨n17, h⟩ := h
  refine w_X7_laysRows_L2 X a1 _ _ (fun u18 H locs ls h hP hS hl => ?_) n17 0 _ _ _ _ h hP hS (lv_sub hl [1, 2, 0] rfl)
  exact W.vret hx hb hr (fun t ht hW => ⟨⟨_, rfl, h, by show va_P _ _ _ t.heap; rw [ht]; exact hP⟩, hS.F ht⟩) hS.2.2 dX7_laysRows_74
set_option maxRecDepth 100000 in
set_option maxHeartbeats 4000000 in
theorem c_X7_laysRows {l : Launch} {D : va_G} {cI cG cZ cJ : ClassId} {ts : Nat × Nat} {ad : Nat → Nat} (hwd : WD mLs ad) (sz : Nat) (u : St) (a1 : Int32) (Q : St → Prop) (h : f_X7_laysRows a1 u Q) : Met l yX7_laysRows wsX7_laysRows ({ frames := 1, cells := 0, slots := 0, locals := 22 }) (va_Pc [.ref (ad 0), .int a1] (PM D cI cG cZ cJ ts ad sz u)) (va_Qv Q (fun u9 t => va_P D vwCl (mW cI cZ ad u9) t.heap) (cA mLs ad sz)) 0 0 (cA mLs ad sz) := by
  refine Met.ofW (cc := cX7_laysRows) (maxL := 4) (ret := none) (by decide) rfl ?_
  intro p e s m args below meth c s₁ B hml hv
  obtain ⟨rfl, hsz, hP, hC⟩ := hv
  subst hsz
  have X : FX RX7 wsX7_laysRows cX7_laysRows 4 none D cI cG cZ cJ ts mLs ad p s m _ meth c := ⟨B.exec, B.bytes, hml, findClass_of_methodNamed B.named, atoms_spec (ws := wsX7_laysRows) B.pre, B.returns, B.notSynchronized, hwd, hC⟩
  have hl := lv_entry ([.ref (ad 0), .int a1]) (n := 4) (Nat.le_of_ble_eq_true rfl)
  rw [lg_entry_eq]
  generalize (lg_sl ([.ref (ad 0), .int a1]) ++ List.replicate (4 - (lg_sl ([.ref (ad 0), .int a1])).length) Slot.unset).toArray = ls at hl ⊢
  exact w_X7_laysRows X a1 Q u _ _ _ h hP va_S.rf hl
set_option maxRecDepth 100000 in
set_option maxHeartbeats 4000000 in
theorem w_X7_free_L12 {p : Program} {l : Launch} {e : Env} {s : State} {m : MethodId} {args : Array Value} {below : List Frame} {meth : Method} {c : Code} {D : va_G} {cI cG cZ cJ : ClassId} {ts : Nat × Nat}  {ad : Nat → Nat}  (X : FX RX7 wsX7_free cX7_free 9 (some .int) D cI cG cZ cJ ts mLs ad p s m args meth c) (a1 : Int32) (a2 : Int32) (a3 : Int32) (Q : Int32 → St → Prop)
    (K0 : Int32 → St → Prop) (hk0 : ∀ (b4 : Int32) (u : St) (H : Heap) (locs : List Loc) (ls : Array Slot), K0 b4 u → va_P D vwCl (mW cI cZ ad u) H → va_S (cA mLs ad s.heap.size) s.heap H locs → lv_has ls 9 [(0, .ref (ad 0)), (1, .int a1), (2, .int a2), (3, .int a3), (4, .int b4)] → W p l e (headSpec wsX7_free { frames := 2, cells := 0, slots := 0, locals := 45 }).room s m args below meth c H locs 0 0 (MQ below (va_Qi Q (fun u9 t => va_P D vwCl (mW cI cZ ad u9) t.heap) (cA mLs ad s.heap.size)) args s 0 0 (cA mLs ad s.heap.size)) (F0 m 41 ls []))
    : ∀ (n : Nat) (a4 : Int32) (u : St) (H : Heap) (locs : List Loc) (ls : Array Slot), f_X7_free_L12 a1 a2 a3 Q K0 n a4 u → va_P D vwCl (mW cI cZ ad u) H → va_S (cA mLs ad s.heap.size) s.heap H locs → lv_has ls 9 [(0, .ref (ad 0)), (1, .int a1), (2, .int a2), (3, .int a3), (4, .int a4)] → W p l e (headSpec wsX7_free { frames := 2, cells := 0, slots := 0, locals := 45 }).room s m args below meth c H locs 0 0 (MQ below (va_Qi Q (fun u9 t => va_P D vwCl (mW cI cZ ad u9) t.heap) (cA mLs ad s.heap.size)) args s 0 0 (cA mLs ad s.heap.size)) (F0 m 12 ls []) := by
  obtain ⟨hx, hb, hml, hown, hts, hr, hlocks, hwd, hC⟩ := id X
  have hK := hC.1
  have lk0 := hts (.fieldLink RX7 136 "FormForgeModel" "many" "I") (by decide +kernel)
  have lk1 := hts (.fieldLink RX7 33 "FormForgeModel" "rows" "[I") (by decide +kernel)
  have n7 : ∀ w ∈ wsX70, w ∈ wsX7_free := by decide +kernel
  intro n
  induction n with
  | zero =>
    intro a4 u H locs ls h; exact h.elim
  | succ n ih =>
    intro a4 u H locs ls h hP hS hl
    replace h : f_X7_free_L12_s a1 a2 a3 Q K0 (f_X7_free_L12 a1 a2 a3 Q K0 n) a4 u := h
    unfold f_X7_free_L12_s at h
    refine lv_iload hx hb dX7_free_12 (lv_at hl 4 rfl) ?_
    refine lv_aload_n hx hb dX7_free_14 rfl (lv_at hl 0 rfl) ?_
    refine va_get (C := RX7) (T := TX7) (N := 22) hx hb hts n7 hown hK hP 0 mg_0 rfl 12 (by decide) lk0 (fun _ h9 => h9) rfl dX7_free_15 ?_
    refine lv_icmp_ge (tgt := 41) hx hb dX7_free_18 (by decide) (fun c2 => ?_) (fun c2 => ?_)
    · replace h := h.1 c2
      exact hk0 a4 _ _ _ _ h hP hS (lv_sub hl [0, 1, 2, 3, 4] rfl)
    · replace h := h.2 c2
      refine lv_aload_n hx hb dX7_free_21 rfl (lv_at hl 0 rfl) ?_
      refine va_get (C := RX7) (T := TX7) (N := 22) hx hb hts n7 hown hK hP 0 mg_0 rfl 11 (by decide) lk1 (fun _ h9 => h9) rfl dX7_free_22 ?_
      refine lv_iconst (v := 5) hx hb dX7_free_25 (by decide) ?_
      refine lv_iload hx hb dX7_free_26 (lv_at hl 4 rfl) ?_
      refine lv_imul hx hb dX7_free_28 ?_
      refine lv_iload_n hx hb dX7_free_29 rfl (lv_at hl 3 rfl) ?_
      refine lv_iadd hx hb dX7_free_30 ?_
      refine va_iald hx hb hK hP 7 0 (mg_a ⟨by decide, by decide, by decide⟩) rfl h.1 dX7_free_31 ?_
      refine lv_topi (fun v3 ev3 => ?_)
      replace h := h.2 v3 ev3
      refine lv_if_ne (tgt := 41) hx hb dX7_free_32 (by decide) (fun c4 => ?_) (fun c4 => ?_)
      · replace h := h.1 c4
        exact hk0 a4 _ _ _ _ h hP hS (lv_sub hl [0, 1, 2, 3, 4] rfl)
      · replace h := h.2 c4
        obtain ⟨v5, ev5⟩ : ∃ y : Int32, y = a4 + 1 := ⟨_, rfl⟩
        refine lv_iinc (v := v5) (lv' := [(4, .int v5), (0, .ref (ad 0)), (1, .int a1), (2, .int a2), (3, .int a3)]) hx hb dX7_free_35 hl (k := 4) rfl (by rw [ev5]; rfl) (by decide) rfl (fun ls hl => ?_)
        replace h := h v5 ev5
        refine lv_goto (tgt := 12) hx hb dX7_free_38 (by decide) ?_
        exact ih v5 _ _ _ _ h hP hS (lv_sub hl [1, 2, 3, 4, 0] rfl)
set_option maxRecDepth 100000 in
set_option maxHeartbeats 4000000 in
theorem w_X7_free_L70 {p : Program} {l : Launch} {e : Env} {s : State} {m : MethodId} {args : Array Value} {below : List Frame} {meth : Method} {c : Code} {D : va_G} {cI cG cZ cJ : ClassId} {ts : Nat × Nat}  {ad : Nat → Nat}  (X : FX RX7 wsX7_free cX7_free 9 (some .int) D cI cG cZ cJ ts mLs ad p s m args meth c) (a1 : Int32) (a2 : Int32) (a3 : Int32) (a4 : Int32) (a5 : Int32) (Q : Int32 → St → Prop)
    (K0 : St → Prop) (hk0 : ∀ (u : St) (H : Heap) (locs : List Loc) (ls : Array Slot), K0 u → va_P D vwCl (mW cI cZ ad u) H → va_S (cA mLs ad s.heap.size) s.heap H locs → lv_has ls 9 [(0, .ref (ad 0)), (1, .int a1), (2, .int a2), (3, .int a3)] → W p l e (headSpec wsX7_free { frames := 2, cells := 0, slots := 0, locals := 45 }).room s m args below meth c H locs 0 0 (MQ below (va_Qi Q (fun u9 t => va_P D vwCl (mW cI cZ ad u9) t.heap) (cA mLs ad s.heap.size)) args s 0 0 (cA mLs ad s.heap.size)) (F0 m 139 ls []))
    : ∀ (n : Nat) (a6 : Int32) (u : St) (H : Heap) (locs : List Loc) (ls : Array Slot), f_X7_free_L70 a1 a2 a3 a4 a5 Q K0 n a6 u → va_P D vwCl (mW cI cZ ad u) H → va_S (cA mLs ad s.heap.size) s.heap H locs → lv_has ls 9 [(0, .ref (ad 0)), (1, .int a1), (2, .int a2), (3, .int a3), (4, .int a4), (5, .int a5), (6, .int a6)] → W p l e (headSpec wsX7_free { frames := 2, cells := 0, slots := 0, locals := 45 }).room s m args below meth c H locs 0 0 (MQ below (va_Qi Q (fun u9 t => va_P D vwCl (mW cI cZ ad u9) t.heap) (cA mLs ad s.heap.size)) args s 0 0 (cA mLs ad s.heap.size)) (F0 m 70 ls []) := by
  obtain ⟨hx, hb, hml, hown, hts, hr, hlocks, hwd, hC⟩ := id X
  have hK := hC.1
  have lk0 := hts (.fieldLink RX7 136 "FormForgeModel" "many" "I") (by decide +kernel)
  have lk1 := hts (.fieldLink RX7 33 "FormForgeModel" "rows" "[I") (by decide +kernel)
  have n7 : ∀ w ∈ wsX70, w ∈ wsX7_free := by decide +kernel
  intro n
  induction n with
  | zero =>
    intro a6 u H locs ls h; exact h.elim
  | succ n ih =>
    intro a6 u H locs ls h hP hS hl
    replace h : f_X7_free_L70_s a1 a2 a3 a4 a5 Q K0 (f_X7_free_L70 a1 a2 a3 a4 a5 Q K0 n) a6 u := h
    unfold f_X7_free_L70_s at h
    refine lv_iload hx hb dX7_free_70 (lv_at hl 6 rfl) ?_
    refine lv_iload_n hx hb dX7_free_72 rfl (lv_at hl 1 rfl) ?_
    refine lv_icmp_gt (tgt := 139) hx hb dX7_free_73 (by decide) (fun c14 => ?_) (fun c14 => ?_)
    · replace h := h.1 c14
      exact hk0  _ _ _ _ h hP hS (lv_sub hl [0, 1, 2, 3] rfl)
    · replace h := h.2 c14
      refine lv_aload_n hx hb dX7_free_76 rfl (lv_at hl 0 rfl) ?_
      refine lv_aload_n hx hb dX7_free_77 rfl (lv_at hl 0 rfl) ?_
      refine va_get (C := RX7) (T := TX7) (N := 22) hx hb hts n7 hown hK hP 0 mg_0 rfl 11 (by decide) lk1 (fun _ h9 => h9) rfl dX7_free_78 ?_
      refine lv_iconst (v := 5) hx hb dX7_free_81 (by decide) ?_
      refine lv_iload hx hb dX7_free_82 (lv_at hl 4 rfl) ?_
      refine lv_imul hx hb dX7_free_84 ?_
      refine lv_iload hx hb dX7_free_85 (lv_at hl 6 rfl) ?_
      refine lv_iadd hx hb dX7_free_87 ?_
      refine va_iald hx hb hK hP 7 0 (mg_a ⟨by decide, by decide, by decide⟩) rfl h.1 dX7_free_88 ?_
      refine lv_topi (fun v15 ev15 => ?_)
      replace h := h.2 v15 ev15
      refine lv_iload hx hb dX7_free_89 (lv_at hl 5 rfl) ?_
      refine lv_imul hx hb dX7_free_91 ?_
      refine cc_i (va_runV (C := RX7) (As := [.int (v15 * a5)]) (rest := []) ⟨hx, hb, hml, hown, hts⟩ (c_X7_mod hwd H.size u (v15 * a5) _ h) (cwV 1 hts gX7_free_X7_mod rfl rfl rfl (by decide +kernel) ⟨Nat.le_of_ble_eq_true rfl, Nat.le_of_ble_eq_true rfl⟩) (pmV hC hP hS mg_0 rfl) rfl rfl hl.1 rfl (lv_room (Nat.le_of_ble_eq_true rfl)) dX7_free_92 ⟨Nat.zero_le _, Nat.zero_le _⟩) hS (cA_mono hS.1) (fun v16 u17 H locs h hP hS => ?_)
      refine lv_istore (lv' := [(7, .int v16), (0, .ref (ad 0)), (1, .int a1), (2, .int a2), (3, .int a3), (4, .int a4), (5, .int a5), (6, .int a6)]) hx hb dX7_free_95 hl (by decide) rfl (fun ls hl => ?_)
      refine lv_aload_n hx hb dX7_free_97 rfl (lv_at hl 1 rfl) ?_
      refine va_get (C := RX7) (T := TX7) (N := 22) hx hb hts n7 hown hK hP 0 mg_0 rfl 11 (by decide) lk1 (fun _ h9 => h9) rfl dX7_free_98 ?_
      refine lv_iconst (v := 5) hx hb dX7_free_101 (by decide) ?_
      refine lv_iload hx hb dX7_free_102 (lv_at hl 5 rfl) ?_
      refine lv_imul hx hb dX7_free_104 ?_
      refine lv_iload hx hb dX7_free_105 (lv_at hl 7 rfl) ?_
      refine lv_iadd hx hb dX7_free_107 ?_
      refine lv_aload_n hx hb dX7_free_108 rfl (lv_at hl 1 rfl) ?_
      refine va_get (C := RX7) (T := TX7) (N := 22) hx hb hts n7 hown hK hP 0 mg_0 rfl 11 (by decide) lk1 (fun _ h9 => h9) rfl dX7_free_109 ?_
      refine lv_iconst (v := 5) hx hb dX7_free_112 (by decide) ?_
      refine lv_iload_n hx hb dX7_free_113 rfl (lv_at hl 3 rfl) ?_
      refine lv_imul hx hb dX7_free_114 ?_
      refine lv_iload hx hb dX7_free_115 (lv_at hl 7 rfl) ?_
      refine lv_iadd hx hb dX7_free_117 ?_
      refine va_iald hx hb hK hP 7 0 (mg_a ⟨by decide, by decide, by decide⟩) rfl h.1 dX7_free_118 ?_
      refine lv_topi (fun v18 ev18 => ?_)
      replace h := h.2 v18 ev18
      refine va_iast hx hb hK hP (cD hwd) hS 7 0 (mg_a ⟨by decide, by decide, by decide⟩) rfl h.1 dX7_free_119 (fun H locs hP _ hS => ?_)
      replace hP := mu_a hwd ⟨by decide, by decide, by decide⟩ hP
      obtain ⟨u19, eu19⟩ : ∃ y : St, y = su u17 7 ((5 * a4) + a6).toNatClampNeg v18 := ⟨_, rfl⟩
      rw [← eu19] at hP
      replace h := h.2 u19 eu19
      refine lv_aload_n hx hb dX7_free_120 rfl (lv_at hl 1 rfl) ?_
      refine va_get (C := RX7) (T := TX7) (N := 22) hx hb hts n7 hown hK hP 0 mg_0 rfl 11 (by decide) lk1 (fun _ h9 => h9) rfl dX7_free_121 ?_
      refine lv_iconst (v := 5) hx hb dX7_free_124 (by decide) ?_
      refine lv_iload_n hx hb dX7_free_125 rfl (lv_at hl 3 rfl) ?_
      refine lv_imul hx hb dX7_free_126 ?_
      refine lv_iload hx hb dX7_free_127 (lv_at hl 7 rfl) ?_
      refine lv_iadd hx hb dX7_free_129 ?_
      refine lv_iload hx hb dX7_free_130 (lv_at hl 0 rfl) ?_
      refine va_iast hx hb hK hP (cD hwd) hS 7 0 (mg_a ⟨by decide, by decide, by decide⟩) rfl h.1 dX7_free_132 (fun H locs hP _ hS => ?_)
      replace hP := mu_a hwd ⟨by decide, by decide, by decide⟩ hP
      obtain ⟨u20, eu20⟩ : ∃ y : St, y = su u19 7 ((5 * a2) + a6).toNatClampNeg v16 := ⟨_, rfl⟩
      rw [← eu20] at hP
      replace h := h.2 u20 eu20
      obtain ⟨v21, ev21⟩ : ∃ y : Int32, y = a6 + 1 := ⟨_, rfl⟩
      refine lv_iinc (v := v21) (lv' := [(6, .int v21), (7, .int v16), (0, .ref (ad 0)), (1, .int a1), (2, .int a2), (3, .int a3), (4, .int a4), (5, .int a5)]) hx hb dX7_free_133 hl (k := 7) rfl (by rw [ev21]; rfl) (by decide) rfl (fun ls hl => ?_)
      replace h := h v21 ev21
      refine lv_goto (tgt := 70) hx hb dX7_free_136 (by decide) ?_
      exact ih v21 _ _ _ _ h hP hS (lv_sub hl [2, 3, 4, 5, 6, 7, 0] rfl)
set_option maxRecDepth 100000 in
set_option maxHeartbeats 4000000 in
theorem w_X7_free_L169 {p : Program} {l : Launch} {e : Env} {s : State} {m : MethodId} {args : Array Value} {below : List Frame} {meth : Method} {c : Code} {D : va_G} {cI cG cZ cJ : ClassId} {ts : Nat × Nat}  {ad : Nat → Nat}  (X : FX RX7 wsX7_free cX7_free 9 (some .int) D cI cG cZ cJ ts mLs ad p s m args meth c) (a1 : Int32) (a2 : Int32) (a3 : Int32) (a6 : Int32) (a7 : Int32) (Q : Int32 → St → Prop)
    (K0 : St → Prop) (hk0 : ∀ (u : St) (H : Heap) (locs : List Loc) (ls : Array Slot), K0 u → va_P D vwCl (mW cI cZ ad u) H → va_S (cA mLs ad s.heap.size) s.heap H locs → lv_has ls 9 [(0, .ref (ad 0)), (1, .int a1), (2, .int a2), (3, .int a3), (6, .int a6)] → W p l e (headSpec wsX7_free { frames := 2, cells := 0, slots := 0, locals := 45 }).room s m args below meth c H locs 0 0 (MQ below (va_Qi Q (fun u9 t => va_P D vwCl (mW cI cZ ad u9) t.heap) (cA mLs ad s.heap.size)) args s 0 0 (cA mLs ad s.heap.size)) (F0 m 224 ls []))
    : ∀ (n : Nat) (a8 : Int32) (u : St) (H : Heap) (locs : List Loc) (ls : Array Slot), f_X7_free_L169 a1 a2 a3 a6 a7 Q K0 n a8 u → va_P D vwCl (mW cI cZ ad u) H → va_S (cA mLs ad s.heap.size) s.heap H locs → lv_has ls 9 [(0, .ref (ad 0)), (1, .int a1), (2, .int a2), (3, .int a3), (6, .int a6), (7, .int a7), (8, .int a8)] → W p l e (headSpec wsX7_free { frames := 2, cells := 0, slots := 0, locals := 45 }).room s m args below meth c H locs 0 0 (MQ below (va_Qi Q (fun u9 t => va_P D vwCl (mW cI cZ ad u9) t.heap) (cA mLs ad s.heap.size)) args s 0 0 (cA mLs ad s.heap.size)) (F0 m 169 ls []) := by
  obtain ⟨hx, hb, hml, hown, hts, hr, hlocks, hwd, hC⟩ := id X
  have hK := hC.1
  have lk0 := hts (.fieldLink RX7 136 "FormForgeModel" "many" "I") (by decide +kernel)
  have lk1 := hts (.fieldLink RX7 33 "FormForgeModel" "rows" "[I") (by decide +kernel)
  have n7 : ∀ w ∈ wsX70, w ∈ wsX7_free := by decide +kernel
  intro n
  induction n with
  | zero =>
    intro a8 u H locs ls h; exact h.elim
  | succ n ih =>
    intro a8 u H locs ls h hP hS hl
    replace h : f_X7_free_L169_s a1 a2 a3 a6 a7 Q K0 (f_X7_free_L169 a1 a2 a3 a6 a7 Q K0 n) a8 u := h
    unfold f_X7_free_L169_s at h
    refine lv_iload hx hb dX7_free_169 (lv_at hl 6 rfl) ?_
    refine lv_iload_n hx hb dX7_free_171 rfl (lv_at hl 1 rfl) ?_
    refine lv_icmp_gt (tgt := 224) hx hb dX7_free_172 (by decide) (fun c27 => ?_) (fun c27 => ?_)
    · replace h := h.1 c27
      exact hk0  _ _ _ _ h hP hS (lv_sub hl [0, 1, 2, 3, 4] rfl)
    · replace h := h.2 c27
      refine lv_aload_n hx hb dX7_free_175 rfl (lv_at hl 0 rfl) ?_
      refine va_get (C := RX7) (T := TX7) (N := 22) hx hb hts n7 hown hK hP 0 mg_0 rfl 11 (by decide) lk1 (fun _ h9 => h9) rfl dX7_free_176 ?_
      refine lv_iconst (v := 5) hx hb dX7_free_179 (by decide) ?_
      refine lv_iload hx hb dX7_free_180 (lv_at hl 4 rfl) ?_
      refine lv_imul hx hb dX7_free_182 ?_
      refine lv_iload hx hb dX7_free_183 (lv_at hl 6 rfl) ?_
      refine lv_iadd hx hb dX7_free_185 ?_
      refine lv_aload_n hx hb dX7_free_186 rfl (lv_at hl 0 rfl) ?_
      refine lv_aload_n hx hb dX7_free_187 rfl (lv_at hl 0 rfl) ?_
      refine va_get (C := RX7) (T := TX7) (N := 22) hx hb hts n7 hown hK hP 0 mg_0 rfl 11 (by decide) lk1 (fun _ h9 => h9) rfl dX7_free_188 ?_
      refine lv_iconst (v := 5) hx hb dX7_free_191 (by decide) ?_
      refine lv_iload hx hb dX7_free_192 (lv_at hl 4 rfl) ?_
      refine lv_imul hx hb dX7_free_194 ?_
      refine lv_iload hx hb dX7_free_195 (lv_at hl 6 rfl) ?_
      refine lv_iadd hx hb dX7_free_197 ?_
      refine va_iald hx hb hK hP 7 0 (mg_a ⟨by decide, by decide, by decide⟩) rfl h.1 dX7_free_198 ?_
      refine lv_topi (fun v28 ev28 => ?_)
      replace h := h.2 v28 ev28
      refine lv_iload hx hb dX7_free_199 (lv_at hl 5 rfl) ?_
      refine lv_aload_n hx hb dX7_free_201 rfl (lv_at hl 0 rfl) ?_
      refine va_get (C := RX7) (T := TX7) (N := 22) hx hb hts n7 hown hK hP 0 mg_0 rfl 11 (by decide) lk1 (fun _ h9 => h9) rfl dX7_free_202 ?_
      refine lv_iconst (v := 5) hx hb dX7_free_205 (by decide) ?_
      refine lv_iload_n hx hb dX7_free_206 rfl (lv_at hl 2 rfl) ?_
      refine lv_imul hx hb dX7_free_207 ?_
      refine lv_iload hx hb dX7_free_208 (lv_at hl 6 rfl) ?_
      refine lv_iadd hx hb dX7_free_210 ?_
      refine va_iald hx hb hK hP 7 0 (mg_a ⟨by decide, by decide, by decide⟩) rfl h.1 dX7_free_211 ?_
      refine lv_topi (fun v29 ev29 => ?_)
      replace h := h.2 v29 ev29
      refine lv_imul hx hb dX7_free_212 ?_
      refine lv_isub hx hb dX7_free_213 ?_
      refine cc_i (va_runV (C := RX7) (As := [.int (v28 - (a7 * v29))]) (rest := [.int ((5 * a6) + a8), .ref (ad 7)]) ⟨hx, hb, hml, hown, hts⟩ (c_X7_mod hwd H.size u (v28 - (a7 * v29)) _ h) (cwV 1 hts gX7_free_X7_mod rfl rfl rfl (by decide +kernel) ⟨Nat.le_of_ble_eq_true rfl, Nat.le_of_ble_eq_true rfl⟩) (pmV hC hP hS mg_0 rfl) rfl rfl hl.1 rfl (lv_room (Nat.le_of_ble_eq_true rfl)) dX7_free_214 ⟨Nat.zero_le _, Nat.zero_le _⟩) hS (cA_mono hS.1) (fun v30 u31 H locs h hP hS => ?_)
      refine va_iast hx hb hK hP (cD hwd) hS 7 0 (mg_a ⟨by decide, by decide, by decide⟩) rfl h.1 dX7_free_217 (fun H locs hP _ hS => ?_)
      replace hP := mu_a hwd ⟨by decide, by decide, by decide⟩ hP
      obtain ⟨u32, eu32⟩ : ∃ y : St, y = su u31 7 ((5 * a6) + a8).toNatClampNeg v30 := ⟨_, rfl⟩
      rw [← eu32] at hP
      replace h := h.2 u32 eu32
      obtain ⟨v33, ev33⟩ : ∃ y : Int32, y = a8 + 1 := ⟨_, rfl⟩
      refine lv_iinc (v := v33) (lv' := [(8, .int v33), (0, .ref (ad 0)), (1, .int a1), (2, .int a2), (3, .int a3), (6, .int a6), (7, .int a7)]) hx hb dX7_free_218 hl (k := 6) rfl (by rw [ev33]; rfl) (by decide) rfl (fun ls hl => ?_)
      replace h := h v33 ev33
      refine lv_goto (tgt := 169) hx hb dX7_free_221 (by decide) ?_
      exact ih v33 _ _ _ _ h hP hS (lv_sub hl [1, 2, 3, 4, 5, 6, 0] rfl)
set_option maxRecDepth 100000 in
set_option maxHeartbeats 4000000 in
theorem w_X7_free_L144 {p : Program} {l : Launch} {e : Env} {s : State} {m : MethodId} {args : Array Value} {below : List Frame} {meth : Method} {c : Code} {D : va_G} {cI cG cZ cJ : ClassId} {ts : Nat × Nat}  {ad : Nat → Nat}  (X : FX RX7 wsX7_free cX7_free 9 (some .int) D cI cG cZ cJ ts mLs ad p s m args meth c) (a1 : Int32) (a2 : Int32) (a3 : Int32) (Q : Int32 → St → Prop)
    (K0 : St → Prop) (hk0 : ∀ (u : St) (H : Heap) (locs : List Loc) (ls : Array Slot), K0 u → va_P D vwCl (mW cI cZ ad u) H → va_S (cA mLs ad s.heap.size) s.heap H locs → lv_has ls 9 [(0, .ref (ad 0)), (1, .int a1), (2, .int a2), (3, .int a3)] → W p l e (headSpec wsX7_free { frames := 2, cells := 0, slots := 0, locals := 45 }).room s m args below meth c H locs 0 0 (MQ below (va_Qi Q (fun u9 t => va_P D vwCl (mW cI cZ ad u9) t.heap) (cA mLs ad s.heap.size)) args s 0 0 (cA mLs ad s.heap.size)) (F0 m 230 ls []))
    : ∀ (n : Nat) (a6 : Int32) (u : St) (H : Heap) (locs : List Loc) (ls : Array Slot), f_X7_free_L144 a1 a2 a3 Q K0 n a6 u → va_P D vwCl (mW cI cZ ad u) H → va_S (cA mLs ad s.heap.size) s.heap H locs → lv_has ls 9 [(0, .ref (ad 0)), (1, .int a1), (2, .int a2), (3, .int a3), (6, .int a6)] → W p l e (headSpec wsX7_free { frames := 2, cells := 0, slots := 0, locals := 45 }).room s m args below meth c H locs 0 0 (MQ below (va_Qi Q (fun u9 t => va_P D vwCl (mW cI cZ ad u9) t.heap) (cA mLs ad s.heap.size)) args s 0 0 (cA mLs ad s.heap.size)) (F0 m 144 ls []) := by
  obtain ⟨hx, hb, hml, hown, hts, hr, hlocks, hwd, hC⟩ := id X
  have hK := hC.1
  have lk0 := hts (.fieldLink RX7 136 "FormForgeModel" "many" "I") (by decide +kernel)
  have lk1 := hts (.fieldLink RX7 33 "FormForgeModel" "rows" "[I") (by decide +kernel)
  have n7 : ∀ w ∈ wsX70, w ∈ wsX7_free := by decide +kernel
  intro n
  induction n with
  | zero =>
    intro a6 u H locs ls h; exact h.elim
  | succ n ih =>
    intro a6 u H locs ls h hP hS hl
    replace h : f_X7_free_L144_s a1 a2 a3 Q K0 (f_X7_free_L144 a1 a2 a3 Q K0 n) a6 u := h
    unfold f_X7_free_L144_s at h
    refine lv_iload hx hb dX7_free_144 (lv_at hl 4 rfl) ?_
    refine lv_aload_n hx hb dX7_free_146 rfl (lv_at hl 0 rfl) ?_
    refine va_get (C := RX7) (T := TX7) (N := 22) hx hb hts n7 hown hK hP 0 mg_0 rfl 12 (by decide) lk0 (fun _ h9 => h9) rfl dX7_free_147 ?_
    refine lv_icmp_ge (tgt := 230) hx hb dX7_free_150 (by decide) (fun c25 => ?_) (fun c25 => ?_)
    · replace h := h.1 c25
      exact hk0  _ _ _ _ h hP hS (lv_sub hl [0, 1, 2, 3] rfl)
    · replace h := h.2 c25
      refine lv_aload_n hx hb dX7_free_153 rfl (lv_at hl 0 rfl) ?_
      refine va_get (C := RX7) (T := TX7) (N := 22) hx hb hts n7 hown hK hP 0 mg_0 rfl 11 (by decide) lk1 (fun _ h9 => h9) rfl dX7_free_154 ?_
      refine lv_iconst (v := 5) hx hb dX7_free_157 (by decide) ?_
      refine lv_iload hx hb dX7_free_158 (lv_at hl 4 rfl) ?_
      refine lv_imul hx hb dX7_free_160 ?_
      refine lv_iload_n hx hb dX7_free_161 rfl (lv_at hl 3 rfl) ?_
      refine lv_iadd hx hb dX7_free_162 ?_
      refine va_iald hx hb hK hP 7 0 (mg_a ⟨by decide, by decide, by decide⟩) rfl h.1 dX7_free_163 ?_
      refine lv_topi (fun v26 ev26 => ?_)
      replace h := h.2 v26 ev26
      refine lv_istore (lv' := [(7, .int v26), (0, .ref (ad 0)), (1, .int a1), (2, .int a2), (3, .int a3), (6, .int a6)]) hx hb dX7_free_164 hl (by decide) rfl (fun ls hl => ?_)
      refine lv_iconst (v := 0) hx hb dX7_free_166 (by decide) ?_
      refine lv_istore (lv' := [(8, .int 0), (7, .int v26), (0, .ref (ad 0)), (1, .int a1), (2, .int a2), (3, .int a3), (6, .int a6)]) hx hb dX7_free_167 hl (by decide) rfl (fun ls hl => ?_)
      obtain ⟨n34, h⟩ := h
      refine w_X7_free_L169 X a1 a2 a3 a6 v26 _ _ (fun u35 H locs ls h hP hS hl => ?_) n34 0 _ _ _ _ h hP hS (lv_sub hl [2, 3, 4, 5, 6, 1, 0] rfl)
      obtain ⟨v36, ev36⟩ : ∃ y : Int32, y = a6 + 1 := ⟨_, rfl⟩
      refine lv_iinc (v := v36) (lv' := [(6, .int v36), (0, .ref (ad 0)), (1, .int a1), (2, .int a2), (3, .int a3)]) hx hb dX7_free_224 hl (k := 4) rfl (by rw [ev36]; rfl) (by decide) rfl (fun ls hl => ?_)
      replace h := h v36 ev36
      refine lv_goto (tgt := 144) hx hb dX7_free_227 (by decide) ?_
      exact ih v36 _ _ _ _ h hP hS (lv_sub hl [1, 2, 3, 4, 0] rfl)
set_option maxRecDepth 100000 in
set_option maxHeartbeats 4000000 in
theorem w_X7_free_L4 {p : Program} {l : Launch} {e : Env} {s : State} {m : MethodId} {args : Array Value} {below : List Frame} {meth : Method} {c : Code} {D : va_G} {cI cG cZ cJ : ClassId} {ts : Nat × Nat}  {ad : Nat → Nat}  (X : FX RX7 wsX7_free cX7_free 9 (some .int) D cI cG cZ cJ ts mLs ad p s m args meth c) (a1 : Int32) (Q : Int32 → St → Prop)
    (K0 : Int32 → St → Prop) (hk0 : ∀ (b2 : Int32) (u : St) (H : Heap) (locs : List Loc) (ls : Array Slot), K0 b2 u → va_P D vwCl (mW cI cZ ad u) H → va_S (cA mLs ad s.heap.size) s.heap H locs → lv_has ls 9 [(1, .int a1), (2, .int b2)] → W p l e (headSpec wsX7_free { frames := 2, cells := 0, slots := 0, locals := 45 }).room s m args below meth c H locs 0 0 (MQ below (va_Qi Q (fun u9 t => va_P D vwCl (mW cI cZ ad u9) t.heap) (cA mLs ad s.heap.size)) args s 0 0 (cA mLs ad s.heap.size)) (F0 m 239 ls []))
    : ∀ (n : Nat) (a2 : Int32) (a3 : Int32) (u : St) (H : Heap) (locs : List Loc) (ls : Array Slot), f_X7_free_L4 a1 Q K0 n a2 a3 u → va_P D vwCl (mW cI cZ ad u) H → va_S (cA mLs ad s.heap.size) s.heap H locs → lv_has ls 9 [(0, .ref (ad 0)), (1, .int a1), (2, .int a2), (3, .int a3)] → W p l e (headSpec wsX7_free { frames := 2, cells := 0, slots := 0, locals := 45 }).room s m args below meth c H locs 0 0 (MQ below (va_Qi Q (fun u9 t => va_P D vwCl (mW cI cZ ad u9) t.heap) (cA mLs ad s.heap.size)) args s 0 0 (cA mLs ad s.heap.size)) (F0 m 4 ls []) := by
  obtain ⟨hx, hb, hml, hown, hts, hr, hlocks, hwd, hC⟩ := id X
  have hK := hC.1
  have lk0 := hts (.fieldLink RX7 136 "FormForgeModel" "many" "I") (by decide +kernel)
  have lk1 := hts (.fieldLink RX7 33 "FormForgeModel" "rows" "[I") (by decide +kernel)
  have n7 : ∀ w ∈ wsX70, w ∈ wsX7_free := by decide +kernel
  intro n
  induction n with
  | zero =>
    intro a2 a3 u H locs ls h; exact h.elim
  | succ n ih =>
    intro a2 a3 u H locs ls h hP hS hl
    replace h : f_X7_free_L4_s a1 Q K0 (f_X7_free_L4 a1 Q K0 n) a2 a3 u := h
    unfold f_X7_free_L4_s at h
    refine lv_iload_n hx hb dX7_free_4 rfl (lv_at hl 3 rfl) ?_
    refine lv_iload_n hx hb dX7_free_5 rfl (lv_at hl 1 rfl) ?_
    refine lv_icmp_gt (tgt := 239) hx hb dX7_free_6 (by decide) (fun c1 => ?_) (fun c1 => ?_)
    · replace h := h.1 c1
      exact hk0 a2 _ _ _ _ h hP hS (lv_sub hl [1, 2] rfl)
    · replace h := h.2 c1
      refine lv_iload_n hx hb dX7_free_9 rfl (lv_at hl 2 rfl) ?_
      refine lv_istore (lv' := [(4, .int a2), (0, .ref (ad 0)), (1, .int a1), (2, .int a2), (3, .int a3)]) hx hb dX7_free_10 hl (by decide) rfl (fun ls hl => ?_)
      obtain ⟨n6, h⟩ := h
      refine w_X7_free_L12 X a1 a2 a3 _ _ (fun v7 u8 H locs ls h hP hS hl => ?_) n6 a2 _ _ _ _ h hP hS (lv_sub hl [1, 2, 3, 4, 0] rfl)
      refine lv_iload hx hb dX7_free_41 (lv_at hl 4 rfl) ?_
      refine lv_aload_n hx hb dX7_free_43 rfl (lv_at hl 0 rfl) ?_
      refine va_get (C := RX7) (T := TX7) (N := 22) hx hb hts n7 hown hK hP 0 mg_0 rfl 12 (by decide) lk0 (fun _ h9 => h9) rfl dX7_free_44 ?_
      refine lv_icmp_ge (tgt := 233) hx hb dX7_free_47 (by decide) (fun c9 => ?_) (fun c9 => ?_)
      · replace h := h.1 c9
        obtain ⟨v10, ev10⟩ : ∃ y : Int32, y = a3 + 1 := ⟨_, rfl⟩
        refine lv_iinc (v := v10) (lv' := [(3, .int v10), (0, .ref (ad 0)), (1, .int a1), (2, .int a2), (4, .int v7)]) hx hb dX7_free_233 hl (k := 3) rfl (by rw [ev10]; rfl) (by decide) rfl (fun ls hl => ?_)
        replace h := h v10 ev10
        refine lv_goto (tgt := 4) hx hb dX7_free_236 (by decide) ?_
        exact ih a2 v10 _ _ _ _ h hP hS (lv_sub hl [1, 2, 3, 0] rfl)
      · replace h := h.2 c9
        refine lv_aload_n hx hb dX7_free_50 rfl (lv_at hl 0 rfl) ?_
        refine lv_aload_n hx hb dX7_free_51 rfl (lv_at hl 0 rfl) ?_
        refine va_get (C := RX7) (T := TX7) (N := 22) hx hb hts n7 hown hK hP 0 mg_0 rfl 11 (by decide) lk1 (fun _ h9 => h9) rfl dX7_free_52 ?_
        refine lv_iconst (v := 5) hx hb dX7_free_55 (by decide) ?_
        refine lv_iload hx hb dX7_free_56 (lv_at hl 4 rfl) ?_
        refine lv_imul hx hb dX7_free_58 ?_
        refine lv_iload_n hx hb dX7_free_59 rfl (lv_at hl 3 rfl) ?_
        refine lv_iadd hx hb dX7_free_60 ?_
        refine va_iald hx hb hK hP 7 0 (mg_a ⟨by decide, by decide, by decide⟩) rfl h.1 dX7_free_61 ?_
        refine lv_topi (fun v11 ev11 => ?_)
        replace h := h.2 v11 ev11
        refine cc_i (va_runV (C := RX7) (As := [.int v11]) (rest := []) ⟨hx, hb, hml, hown, hts⟩ (c_X7_inverse hwd H.size u8 v11 _ h) (cwV 1 hts gX7_free_X7_inverse rfl rfl rfl (by decide +kernel) ⟨Nat.le_of_ble_eq_true rfl, Nat.le_of_ble_eq_true rfl⟩) (pmV hC hP hS mg_0 rfl) rfl rfl hl.1 rfl (lv_room (Nat.le_of_ble_eq_true rfl)) dX7_free_62 ⟨Nat.zero_le _, Nat.zero_le _⟩) hS (cA_mono hS.1) (fun v12 u13 H locs h hP hS => ?_)
        refine lv_istore (lv' := [(5, .int v12), (0, .ref (ad 0)), (1, .int a1), (2, .int a2), (3, .int a3), (4, .int v7)]) hx hb dX7_free_65 hl (by decide) rfl (fun ls hl => ?_)
        refine lv_iconst (v := 0) hx hb dX7_free_67 (by decide) ?_
        refine lv_istore (lv' := [(6, .int 0), (5, .int v12), (0, .ref (ad 0)), (1, .int a1), (2, .int a2), (3, .int a3), (4, .int v7)]) hx hb dX7_free_68 hl (by decide) rfl (fun ls hl => ?_)
        obtain ⟨n22, h⟩ := h
        refine w_X7_free_L70 X a1 a2 a3 v7 v12 _ _ (fun u23 H locs ls h hP hS hl => ?_) n22 0 _ _ _ _ h hP hS (lv_sub hl [2, 3, 4, 5, 6, 1, 0] rfl)
        refine lv_iload_n hx hb dX7_free_139 rfl (lv_at hl 2 rfl) ?_
        refine lv_iconst (v := 1) hx hb dX7_free_140 (by decide) ?_
        refine lv_iadd hx hb dX7_free_141 ?_
        refine lv_topi (fun v24 ev24 => ?_)
        replace h := h v24 ev24
        refine lv_istore (lv' := [(6, .int v24), (0, .ref (ad 0)), (1, .int a1), (2, .int a2), (3, .int a3)]) hx hb dX7_free_142 hl (by decide) rfl (fun ls hl => ?_)
        obtain ⟨n37, h⟩ := h
        refine w_X7_free_L144 X a1 a2 a3 _ _ (fun u38 H locs ls h hP hS hl => ?_) n37 v24 _ _ _ _ h hP hS (lv_sub hl [1, 2, 3, 4, 0] rfl)
        obtain ⟨v39, ev39⟩ : ∃ y : Int32, y = a2 + 1 := ⟨_, rfl⟩
        refine lv_iinc (v := v39) (lv' := [(2, .int v39), (0, .ref (ad 0)), (1, .int a1), (3, .int a3)]) hx hb dX7_free_230 hl (k := 2) rfl (by rw [ev39]; rfl) (by decide) rfl (fun ls hl => ?_)
        replace h := h v39 ev39
        obtain ⟨v40, ev40⟩ : ∃ y : Int32, y = a3 + 1 := ⟨_, rfl⟩
        refine lv_iinc (v := v40) (lv' := [(3, .int v40), (2, .int v39), (0, .ref (ad 0)), (1, .int a1)]) hx hb dX7_free_233 hl (k := 3) rfl (by rw [ev40]; rfl) (by decide) rfl (fun ls hl => ?_)
        replace h := h v40 ev40
        refine lv_goto (tgt := 4) hx hb dX7_free_236 (by decide) ?_
        exact ih v39 v40 _ _ _ _ h hP hS (lv_sub hl [2, 3, 1, 0] rfl)
set_option maxRecDepth 100000 in
set_option maxHeartbeats 4000000 in
theorem w_X7_free {p : Program} {l : Launch} {e : Env} {s : State} {m : MethodId} {args : Array Value} {below : List Frame} {meth : Method} {c : Code} {D : va_G} {cI cG cZ cJ : ClassId} {ts : Nat × Nat}  {ad : Nat → Nat}  (X : FX RX7 wsX7_free cX7_free 9 (some .int) D cI cG cZ cJ ts mLs ad p s m args meth c) (a1 : Int32) (Q : Int32 → St → Prop) (u : St) (H : Heap) (locs : List Loc) (ls : Array Slot) (h : f_X7_free a1 u Q) (hP : va_P D vwCl (mW cI cZ ad u) H) (hS : va_S (cA mLs ad s.heap.size) s.heap H locs) (hl : lv_has ls 9 [(0, .ref (ad 0)), (1, .int a1)]) : W p l e (headSpec wsX7_free { frames := 2, cells := 0, slots := 0, locals := 45 }).room s m args below meth c H locs 0 0 (MQ below (va_Qi Q (fun u9 t => va_P D vwCl (mW cI cZ ad u9) t.heap) (cA mLs ad s.heap.size)) args s 0 0 (cA mLs ad s.heap.size)) (F0 m 0 ls []) := by
  obtain ⟨hx, hb, hml, hown, hts, hr, hlocks, hwd, hC⟩ := id X
  have hK := hC.1
  have lk0 := hts (.fieldLink RX7 136 "FormForgeModel" "many" "I") (by decide +kernel)
  have lk1 := hts (.fieldLink RX7 33 "FormForgeModel" "rows" "[I") (by decide +kernel)
  have n7 : ∀ w ∈ wsX70, w ∈ wsX7_free := by decide +kernel
  unfold f_X7_free at h
  refine lv_iconst (v := 0) hx hb dX7_free_0 (by decide) ?_
  refine lv_istore_n (lv' := [(2, .int 0), (0, .ref (ad 0)), (1, .int a1)]) hx hb dX7_free_1 rfl hl (by decide) rfl (fun ls hl => ?_)
  refine lv_iconst (v := 0) hx hb dX7_free_2 (by decide) ?_
  refine lv_istore_n (lv' := [(3, .int 0), (2, .int 0), (0, .ref (ad 0)), (1, .int a1)]) hx hb dX7_free_3 rfl hl (by decide) rfl (fun ls hl => ?_)
  obtain ⟨n41, h⟩ := h
  refine w_X7_free_L4 X a1 _ _ (fun v42 u43 H locs ls h hP hS hl => ?_) n41 0 0 _ _ _ _ h hP hS (lv_sub hl [2, 3, 1, 0] rfl)
  refine lv_iload_n hx hb dX7_free_239 rfl (lv_at hl 0 rfl) ?_
  refine lv_iconst (v := 1) hx hb dX7_free_240 (by decide) ?_
  refine lv_iadd hx hb dX7_free_241 ?_
  refine lv_iload_n hx hb dX7_free_242 rfl (lv_at hl 1 rfl) ?_
  refine lv_isub hx hb dX7_free_243 ?_
  exact W.iret (v := ((a1 + 1) - v42)) hx hb hr (fun t ht hW => ⟨⟨_, _, rfl, h, by show va_P _ _ _ t.heap; rw [ht]; exact hP⟩, hS.F ht⟩) hS.2.2 dX7_free_244
set_option maxRecDepth 100000 in
set_option maxHeartbeats 4000000 in
theorem c_X7_free {l : Launch} {D : va_G} {cI cG cZ cJ : ClassId} {ts : Nat × Nat} {ad : Nat → Nat} (hwd : WD mLs ad) (sz : Nat) (u : St) (a1 : Int32) (Q : Int32 → St → Prop) (h : f_X7_free a1 u Q) : Met l yX7_free wsX7_free ({ frames := 2, cells := 0, slots := 0, locals := 45 }) (va_Pc [.ref (ad 0), .int a1] (PM D cI cG cZ cJ ts ad sz u)) (va_Qi Q (fun u9 t => va_P D vwCl (mW cI cZ ad u9) t.heap) (cA mLs ad sz)) 0 0 (cA mLs ad sz) := by
  refine Met.ofW (cc := cX7_free) (maxL := 9) (ret := (some .int)) (by decide) rfl ?_
  intro p e s m args below meth c s₁ B hml hv
  obtain ⟨rfl, hsz, hP, hC⟩ := hv
  subst hsz
  have X : FX RX7 wsX7_free cX7_free 9 (some .int) D cI cG cZ cJ ts mLs ad p s m _ meth c := ⟨B.exec, B.bytes, hml, findClass_of_methodNamed B.named, atoms_spec (ws := wsX7_free) B.pre, B.returns, B.notSynchronized, hwd, hC⟩
  have hl := lv_entry ([.ref (ad 0), .int a1]) (n := 9) (Nat.le_of_ble_eq_true rfl)
  rw [lg_entry_eq]
  generalize (lg_sl ([.ref (ad 0), .int a1]) ++ List.replicate (9 - (lg_sl ([.ref (ad 0), .int a1])).length) Slot.unset).toArray = ls at hl ⊢
  exact w_X7_free X a1 Q u _ _ _ h hP va_S.rf hl
set_option maxRecDepth 100000 in
set_option maxHeartbeats 4000000 in
theorem w_X7_dimensionOf_L7 {p : Program} {l : Launch} {e : Env} {s : State} {m : MethodId} {args : Array Value} {below : List Frame} {meth : Method} {c : Code} {D : va_G} {cI cG cZ cJ : ClassId} {ts : Nat × Nat}  {ad : Nat → Nat}  (X : FX RX7 wsX7_dimensionOf cX7_dimensionOf 3 (some .int) D cI cG cZ cJ ts mLs ad p s m args meth c) (a1 : Int32) (Q : Int32 → St → Prop)
    (K0 : St → Prop) (hk0 : ∀ (u : St) (H : Heap) (locs : List Loc) (ls : Array Slot), K0 u → va_P D vwCl (mW cI cZ ad u) H → va_S (cA mLs ad s.heap.size) s.heap H locs → lv_has ls 3 [(0, .ref (ad 0)), (1, .int a1)] → W p l e (headSpec wsX7_dimensionOf { frames := 3, cells := 0, slots := 0, locals := 73 }).room s m args below meth c H locs 0 0 (MQ below (va_Qi Q (fun u9 t => va_P D vwCl (mW cI cZ ad u9) t.heap) (cA mLs ad s.heap.size)) args s 0 0 (cA mLs ad s.heap.size)) (F0 m 36 ls []))
    : ∀ (n : Nat) (a2 : Int32) (u : St) (H : Heap) (locs : List Loc) (ls : Array Slot), f_X7_dimensionOf_L7 a1 Q K0 n a2 u → va_P D vwCl (mW cI cZ ad u) H → va_S (cA mLs ad s.heap.size) s.heap H locs → lv_has ls 3 [(0, .ref (ad 0)), (1, .int a1), (2, .int a2)] → W p l e (headSpec wsX7_dimensionOf { frames := 3, cells := 0, slots := 0, locals := 73 }).room s m args below meth c H locs 0 0 (MQ below (va_Qi Q (fun u9 t => va_P D vwCl (mW cI cZ ad u9) t.heap) (cA mLs ad s.heap.size)) args s 0 0 (cA mLs ad s.heap.size)) (F0 m 7 ls []) := by
  obtain ⟨hx, hb, hml, hown, hts, hr, hlocks, hwd, hC⟩ := id X
  have hK := hC.1
  have lk0 := hts (.fieldLink RX7 136 "FormForgeModel" "many" "I") (by decide +kernel)
  have lk1 := hts (.fieldLink RX7 78 "FormForgeModel" "generators" "I") (by decide +kernel)
  have n7 : ∀ w ∈ wsX70, w ∈ wsX7_dimensionOf := by decide +kernel
  intro n
  induction n with
  | zero =>
    intro a2 u H locs ls h; exact h.elim
  | succ n ih =>
    intro a2 u H locs ls h hP hS hl
    replace h : f_X7_dimensionOf_L7_s a1 Q K0 (f_X7_dimensionOf_L7 a1 Q K0 n) a2 u := h
    unfold f_X7_dimensionOf_L7_s at h
    refine lv_iload_n hx hb dX7_dimensionOf_7 rfl (lv_at hl 2 rfl) ?_
    refine lv_aload_n hx hb dX7_dimensionOf_8 rfl (lv_at hl 0 rfl) ?_
    refine va_get (C := RX7) (T := TX7) (N := 22) hx hb hts n7 hown hK hP 0 mg_0 rfl 6 (by decide) lk1 (fun _ h9 => h9) rfl dX7_dimensionOf_9 ?_
    refine lv_icmp_ge (tgt := 36) hx hb dX7_dimensionOf_12 (by decide) (fun c2 => ?_) (fun c2 => ?_)
    · replace h := h.1 c2
      exact hk0  _ _ _ _ h hP hS (lv_sub hl [0, 1] rfl)
    · replace h := h.2 c2
      refine lv_aload_n hx hb dX7_dimensionOf_15 rfl (lv_at hl 0 rfl) ?_
      refine lv_aload_n hx hb dX7_dimensionOf_16 rfl (lv_at hl 0 rfl) ?_
      refine lv_iload_n hx hb dX7_dimensionOf_17 rfl (lv_at hl 2 rfl) ?_
      refine cc_i (va_runV (C := RX7) (As := [.int a2]) (rest := [.ref (ad 0)]) ⟨hx, hb, hml, hown, hts⟩ (c_X7_generatorCode hwd H.size u a2 _ h) (cwV 1 hts gX7_dimensionOf_X7_generatorCode rfl rfl rfl (by decide +kernel) ⟨Nat.le_of_ble_eq_true rfl, Nat.le_of_ble_eq_true rfl⟩) (pmV hC hP hS mg_0 rfl) rfl rfl hl.1 rfl (lv_room (Nat.le_of_ble_eq_true rfl)) dX7_dimensionOf_18 ⟨Nat.zero_le _, Nat.zero_le _⟩) hS (cA_mono hS.1) (fun v3 u4 H locs h hP hS => ?_)
      refine lv_iload_n hx hb dX7_dimensionOf_21 rfl (lv_at hl 1 rfl) ?_
      refine cc_v (va_runV (C := RX7) (As := [.int v3, .int a1]) (rest := []) ⟨hx, hb, hml, hown, hts⟩ (c_X7_learns hwd H.size u4 v3 a1 _ h) (cwV 2 hts gX7_dimensionOf_X7_learns rfl rfl rfl (by decide +kernel) ⟨Nat.le_of_ble_eq_true rfl, Nat.le_of_ble_eq_true rfl⟩) (pmV hC hP hS mg_0 rfl) rfl rfl hl.1 rfl (lv_room (Nat.le_of_ble_eq_true rfl)) dX7_dimensionOf_22 ⟨Nat.zero_le _, Nat.zero_le _⟩) hS (cA_mono hS.1) (fun u5 H locs h hP hS => ?_)
      refine lv_aload_n hx hb dX7_dimensionOf_25 rfl (lv_at hl 0 rfl) ?_
      refine lv_iload_n hx hb dX7_dimensionOf_26 rfl (lv_at hl 1 rfl) ?_
      refine cc_v (va_runV (C := RX7) (As := [.int a1]) (rest := []) ⟨hx, hb, hml, hown, hts⟩ (c_X7_laysRows hwd H.size u5 a1 _ h) (cwV 1 hts gX7_dimensionOf_X7_laysRows rfl rfl rfl (by decide +kernel) ⟨Nat.le_of_ble_eq_true rfl, Nat.le_of_ble_eq_true rfl⟩) (pmV hC hP hS mg_0 rfl) rfl rfl hl.1 rfl (lv_room (Nat.le_of_ble_eq_true rfl)) dX7_dimensionOf_27 ⟨Nat.zero_le _, Nat.zero_le _⟩) hS (cA_mono hS.1) (fun u6 H locs h hP hS => ?_)
      obtain ⟨v7, ev7⟩ : ∃ y : Int32, y = a2 + 1 := ⟨_, rfl⟩
      refine lv_iinc (v := v7) (lv' := [(2, .int v7), (0, .ref (ad 0)), (1, .int a1)]) hx hb dX7_dimensionOf_30 hl (k := 2) rfl (by rw [ev7]; rfl) (by decide) rfl (fun ls hl => ?_)
      replace h := h v7 ev7
      refine lv_goto (tgt := 7) hx hb dX7_dimensionOf_33 (by decide) ?_
      exact ih v7 _ _ _ _ h hP hS (lv_sub hl [1, 2, 0] rfl)
set_option maxRecDepth 100000 in
set_option maxHeartbeats 4000000 in
theorem w_X7_dimensionOf {p : Program} {l : Launch} {e : Env} {s : State} {m : MethodId} {args : Array Value} {below : List Frame} {meth : Method} {c : Code} {D : va_G} {cI cG cZ cJ : ClassId} {ts : Nat × Nat}  {ad : Nat → Nat}  (X : FX RX7 wsX7_dimensionOf cX7_dimensionOf 3 (some .int) D cI cG cZ cJ ts mLs ad p s m args meth c) (a1 : Int32) (Q : Int32 → St → Prop) (u : St) (H : Heap) (locs : List Loc) (ls : Array Slot) (h : f_X7_dimensionOf a1 u Q) (hP : va_P D vwCl (mW cI cZ ad u) H) (hS : va_S (cA mLs ad s.heap.size) s.heap H locs) (hl : lv_has ls 3 [(0, .ref (ad 0)), (1, .int a1)]) : W p l e (headSpec wsX7_dimensionOf { frames := 3, cells := 0, slots := 0, locals := 73 }).room s m args below meth c H locs 0 0 (MQ below (va_Qi Q (fun u9 t => va_P D vwCl (mW cI cZ ad u9) t.heap) (cA mLs ad s.heap.size)) args s 0 0 (cA mLs ad s.heap.size)) (F0 m 0 ls []) := by
  obtain ⟨hx, hb, hml, hown, hts, hr, hlocks, hwd, hC⟩ := id X
  have hK := hC.1
  have lk0 := hts (.fieldLink RX7 136 "FormForgeModel" "many" "I") (by decide +kernel)
  have lk1 := hts (.fieldLink RX7 78 "FormForgeModel" "generators" "I") (by decide +kernel)
  have n7 : ∀ w ∈ wsX70, w ∈ wsX7_dimensionOf := by decide +kernel
  unfold f_X7_dimensionOf at h
  refine lv_aload_n hx hb dX7_dimensionOf_0 rfl (lv_at hl 0 rfl) ?_
  refine lv_iconst (v := 0) hx hb dX7_dimensionOf_1 (by decide) ?_
  refine va_put (C := RX7) (T := TX7) (N := 22) (ty := .int) (v := .int 0) hx hb hts n7 tyX7 tyX7_ok nmX7 hown hK hP (cD hwd) hS 0 mg_0 rfl 12 (by decide) lk0 (fun _ h9 => h9) rfl (by decide +kernel) rfl rfl (Nat.le_of_ble_eq_true rfl) dX7_dimensionOf_2 (fun H locs hP _ hS => ?_)
  replace hP := mu_many hwd hP
  obtain ⟨u1, eu1⟩ : ∃ y : St, y = su u 0 5 0 := ⟨_, rfl⟩
  rw [← eu1] at hP
  replace h := h u1 eu1
  refine lv_iconst (v := 0) hx hb dX7_dimensionOf_5 (by decide) ?_
  refine lv_istore_n (lv' := [(2, .int 0), (0, .ref (ad 0)), (1, .int a1)]) hx hb dX7_dimensionOf_6 rfl hl (by decide) rfl (fun ls hl => ?_)
  obtain ⟨n8, h⟩ := h
  refine w_X7_dimensionOf_L7 X a1 _ _ (fun u9 H locs ls h hP hS hl => ?_) n8 0 _ _ _ _ h hP hS (lv_sub hl [1, 2, 0] rfl)
  refine lv_aload_n hx hb dX7_dimensionOf_36 rfl (lv_at hl 0 rfl) ?_
  refine lv_iload_n hx hb dX7_dimensionOf_37 rfl (lv_at hl 1 rfl) ?_
  refine cc_i (va_runV (C := RX7) (As := [.int a1]) (rest := []) ⟨hx, hb, hml, hown, hts⟩ (c_X7_free hwd H.size u9 a1 _ h) (cwV 1 hts gX7_dimensionOf_X7_free rfl rfl rfl (by decide +kernel) ⟨Nat.le_of_ble_eq_true rfl, Nat.le_of_ble_eq_true rfl⟩) (pmV hC hP hS mg_0 rfl) rfl rfl hl.1 rfl (lv_room (Nat.le_of_ble_eq_true rfl)) dX7_dimensionOf_38 ⟨Nat.zero_le _, Nat.zero_le _⟩) hS (cA_mono hS.1) (fun v10 u11 H locs h hP hS => ?_)
  exact W.iret (v := v10) hx hb hr (fun t ht hW => ⟨⟨_, _, rfl, h, by show va_P _ _ _ t.heap; rw [ht]; exact hP⟩, hS.F ht⟩) hS.2.2 dX7_dimensionOf_41
set_option maxRecDepth 100000 in
set_option maxHeartbeats 4000000 in
theorem c_X7_dimensionOf {l : Launch} {D : va_G} {cI cG cZ cJ : ClassId} {ts : Nat × Nat} {ad : Nat → Nat} (hwd : WD mLs ad) (sz : Nat) (u : St) (a1 : Int32) (Q : Int32 → St → Prop) (h : f_X7_dimensionOf a1 u Q) : Met l yX7_dimensionOf wsX7_dimensionOf ({ frames := 3, cells := 0, slots := 0, locals := 73 }) (va_Pc [.ref (ad 0), .int a1] (PM D cI cG cZ cJ ts ad sz u)) (va_Qi Q (fun u9 t => va_P D vwCl (mW cI cZ ad u9) t.heap) (cA mLs ad sz)) 0 0 (cA mLs ad sz) := by
  refine Met.ofW (cc := cX7_dimensionOf) (maxL := 3) (ret := (some .int)) (by decide) rfl ?_
  intro p e s m args below meth c s₁ B hml hv
  obtain ⟨rfl, hsz, hP, hC⟩ := hv
  subst hsz
  have X : FX RX7 wsX7_dimensionOf cX7_dimensionOf 3 (some .int) D cI cG cZ cJ ts mLs ad p s m _ meth c := ⟨B.exec, B.bytes, hml, findClass_of_methodNamed B.named, atoms_spec (ws := wsX7_dimensionOf) B.pre, B.returns, B.notSynchronized, hwd, hC⟩
  have hl := lv_entry ([.ref (ad 0), .int a1]) (n := 3) (Nat.le_of_ble_eq_true rfl)
  rw [lg_entry_eq]
  generalize (lg_sl ([.ref (ad 0), .int a1]) ++ List.replicate (3 - (lg_sl ([.ref (ad 0), .int a1])).length) Slot.unset).toArray = ls at hl ⊢
  exact w_X7_dimensionOf X a1 Q u _ _ _ h hP va_S.rf hl
set_option maxRecDepth 100000 in
set_option maxHeartbeats 4000000 in
theorem w_X7_dimension {p : Program} {l : Launch} {e : Env} {s : State} {m : MethodId} {args : Array Value} {below : List Frame} {meth : Method} {c : Code} {D : va_G} {cI cG cZ cJ : ClassId} {ts : Nat × Nat}  {ad : Nat → Nat}  (X : FX RX7 wsX7_dimension cX7_dimension 2 (some .int) D cI cG cZ cJ ts mLs ad p s m args meth c) (a1 : Int32) (Q : Int32 → St → Prop) (u : St) (H : Heap) (locs : List Loc) (ls : Array Slot) (h : f_X7_dimension a1 u Q) (hP : va_P D vwCl (mW cI cZ ad u) H) (hS : va_S (cA mLs ad s.heap.size) s.heap H locs) (hl : lv_has ls 2 [(0, .ref (ad 0)), (1, .int a1)]) : W p l e (headSpec wsX7_dimension { frames := 4, cells := 0, slots := 0, locals := 95 }).room s m args below meth c H locs 0 0 (MQ below (va_Qi Q (fun u9 t => va_P D vwCl (mW cI cZ ad u9) t.heap) (cA mLs ad s.heap.size)) args s 0 0 (cA mLs ad s.heap.size)) (F0 m 0 ls []) := by
  obtain ⟨hx, hb, hml, hown, hts, hr, hlocks, hwd, hC⟩ := id X
  have hK := hC.1
  unfold f_X7_dimension at h
  refine lv_aload_n hx hb dX7_dimension_0 rfl (lv_at hl 0 rfl) ?_
  refine lv_aload_n hx hb dX7_dimension_1 rfl (lv_at hl 0 rfl) ?_
  refine lv_iload_n hx hb dX7_dimension_2 rfl (lv_at hl 1 rfl) ?_
  refine cc_i (va_runV (C := RX7) (As := [.int a1]) (rest := [.ref (ad 0)]) ⟨hx, hb, hml, hown, hts⟩ (c_X7_isDegree hwd H.size u a1 _ h) (cwV 1 hts gX7_dimension_X7_isDegree rfl rfl rfl (by decide +kernel) ⟨Nat.le_of_ble_eq_true rfl, Nat.le_of_ble_eq_true rfl⟩) (pmV hC hP hS mg_0 rfl) rfl rfl hl.1 rfl (lv_room (Nat.le_of_ble_eq_true rfl)) dX7_dimension_3 ⟨Nat.zero_le _, Nat.zero_le _⟩) hS (cA_mono hS.1) (fun v1 u2 H locs h hP hS => ?_)
  refine lv_if_eq (tgt := 13) hx hb dX7_dimension_6 (by decide) (fun c3 => ?_) (fun c3 => ?_)
  · replace h := h.1 c3
    refine lv_iconst (v := 1) hx hb dX7_dimension_13 (by decide) ?_
    refine cc_i (va_runV (C := RX7) (As := [.int 1]) (rest := []) ⟨hx, hb, hml, hown, hts⟩ (c_X7_holds hwd H.size u2 1 _ h) (cwV 1 hts gX7_dimension_X7_holds rfl rfl rfl (by decide +kernel) ⟨Nat.le_of_ble_eq_true rfl, Nat.le_of_ble_eq_true rfl⟩) (pmV hC hP hS mg_0 rfl) rfl rfl hl.1 rfl (lv_room (Nat.le_of_ble_eq_true rfl)) dX7_dimension_14 ⟨Nat.zero_le _, Nat.zero_le _⟩) hS (cA_mono hS.1) (fun v4 u5 H locs h hP hS => ?_)
    refine lv_if_eq (tgt := 28) hx hb dX7_dimension_17 (by decide) (fun c6 => ?_) (fun c6 => ?_)
    · replace h := h.1 c6
      refine lv_iconst (v := 0) hx hb dX7_dimension_28 (by decide) ?_
      exact W.iret (v := 0) hx hb hr (fun t ht hW => ⟨⟨_, _, rfl, h, by show va_P _ _ _ t.heap; rw [ht]; exact hP⟩, hS.F ht⟩) hS.2.2 dX7_dimension_29
    · replace h := h.2 c6
      refine lv_aload_n hx hb dX7_dimension_20 rfl (lv_at hl 0 rfl) ?_
      refine lv_iload_n hx hb dX7_dimension_21 rfl (lv_at hl 1 rfl) ?_
      refine cc_i (va_runV (C := RX7) (As := [.int a1]) (rest := []) ⟨hx, hb, hml, hown, hts⟩ (c_X7_dimensionOf hwd H.size u5 a1 _ h) (cwV 1 hts gX7_dimension_X7_dimensionOf rfl rfl rfl (by decide +kernel) ⟨Nat.le_of_ble_eq_true rfl, Nat.le_of_ble_eq_true rfl⟩) (pmV hC hP hS mg_0 rfl) rfl rfl hl.1 rfl (lv_room (Nat.le_of_ble_eq_true rfl)) dX7_dimension_22 ⟨Nat.zero_le _, Nat.zero_le _⟩) hS (cA_mono hS.1) (fun v7 u8 H locs h hP hS => ?_)
      refine lv_goto (tgt := 29) hx hb dX7_dimension_25 (by decide) ?_
      exact W.iret (v := v7) hx hb hr (fun t ht hW => ⟨⟨_, _, rfl, h, by show va_P _ _ _ t.heap; rw [ht]; exact hP⟩, hS.F ht⟩) hS.2.2 dX7_dimension_29
  · replace h := h.2 c3
    refine lv_iconst (v := 0) hx hb dX7_dimension_9 (by decide) ?_
    refine lv_goto (tgt := 14) hx hb dX7_dimension_10 (by decide) ?_
    refine cc_i (va_runV (C := RX7) (As := [.int 0]) (rest := []) ⟨hx, hb, hml, hown, hts⟩ (c_X7_holds hwd H.size u2 0 _ h) (cwV 1 hts gX7_dimension_X7_holds rfl rfl rfl (by decide +kernel) ⟨Nat.le_of_ble_eq_true rfl, Nat.le_of_ble_eq_true rfl⟩) (pmV hC hP hS mg_0 rfl) rfl rfl hl.1 rfl (lv_room (Nat.le_of_ble_eq_true rfl)) dX7_dimension_14 ⟨Nat.zero_le _, Nat.zero_le _⟩) hS (cA_mono hS.1) (fun v9 u10 H locs h hP hS => ?_)
    refine lv_if_eq (tgt := 28) hx hb dX7_dimension_17 (by decide) (fun c11 => ?_) (fun c11 => ?_)
    · replace h := h.1 c11
      refine lv_iconst (v := 0) hx hb dX7_dimension_28 (by decide) ?_
      exact W.iret (v := 0) hx hb hr (fun t ht hW => ⟨⟨_, _, rfl, h, by show va_P _ _ _ t.heap; rw [ht]; exact hP⟩, hS.F ht⟩) hS.2.2 dX7_dimension_29
    · replace h := h.2 c11
      refine lv_aload_n hx hb dX7_dimension_20 rfl (lv_at hl 0 rfl) ?_
      refine lv_iload_n hx hb dX7_dimension_21 rfl (lv_at hl 1 rfl) ?_
      refine cc_i (va_runV (C := RX7) (As := [.int a1]) (rest := []) ⟨hx, hb, hml, hown, hts⟩ (c_X7_dimensionOf hwd H.size u10 a1 _ h) (cwV 1 hts gX7_dimension_X7_dimensionOf rfl rfl rfl (by decide +kernel) ⟨Nat.le_of_ble_eq_true rfl, Nat.le_of_ble_eq_true rfl⟩) (pmV hC hP hS mg_0 rfl) rfl rfl hl.1 rfl (lv_room (Nat.le_of_ble_eq_true rfl)) dX7_dimension_22 ⟨Nat.zero_le _, Nat.zero_le _⟩) hS (cA_mono hS.1) (fun v12 u13 H locs h hP hS => ?_)
      refine lv_goto (tgt := 29) hx hb dX7_dimension_25 (by decide) ?_
      exact W.iret (v := v12) hx hb hr (fun t ht hW => ⟨⟨_, _, rfl, h, by show va_P _ _ _ t.heap; rw [ht]; exact hP⟩, hS.F ht⟩) hS.2.2 dX7_dimension_29
set_option maxRecDepth 100000 in
set_option maxHeartbeats 4000000 in
theorem c_X7_dimension {l : Launch} {D : va_G} {cI cG cZ cJ : ClassId} {ts : Nat × Nat} {ad : Nat → Nat} (hwd : WD mLs ad) (sz : Nat) (u : St) (a1 : Int32) (Q : Int32 → St → Prop) (h : f_X7_dimension a1 u Q) : Met l yX7_dimension wsX7_dimension ({ frames := 4, cells := 0, slots := 0, locals := 95 }) (va_Pc [.ref (ad 0), .int a1] (PM D cI cG cZ cJ ts ad sz u)) (va_Qi Q (fun u9 t => va_P D vwCl (mW cI cZ ad u9) t.heap) (cA mLs ad sz)) 0 0 (cA mLs ad sz) := by
  refine Met.ofW (cc := cX7_dimension) (maxL := 2) (ret := (some .int)) (by decide) rfl ?_
  intro p e s m args below meth c s₁ B hml hv
  obtain ⟨rfl, hsz, hP, hC⟩ := hv
  subst hsz
  have X : FX RX7 wsX7_dimension cX7_dimension 2 (some .int) D cI cG cZ cJ ts mLs ad p s m _ meth c := ⟨B.exec, B.bytes, hml, findClass_of_methodNamed B.named, atoms_spec (ws := wsX7_dimension) B.pre, B.returns, B.notSynchronized, hwd, hC⟩
  have hl := lv_entry ([.ref (ad 0), .int a1]) (n := 2) (Nat.le_of_ble_eq_true rfl)
  rw [lg_entry_eq]
  generalize (lg_sl ([.ref (ad 0), .int a1]) ++ List.replicate (2 - (lg_sl ([.ref (ad 0), .int a1])).length) Slot.unset).toArray = ls at hl ⊢
  exact w_X7_dimension X a1 Q u _ _ _ h hP va_S.rf hl
set_option maxRecDepth 100000 in
set_option maxHeartbeats 4000000 in
theorem w_X7_dimensionAnew {p : Program} {l : Launch} {e : Env} {s : State} {m : MethodId} {args : Array Value} {below : List Frame} {meth : Method} {c : Code} {D : va_G} {cI cG cZ cJ : ClassId} {ts : Nat × Nat}  {ad : Nat → Nat}  (X : FX RX7 wsX7_dimensionAnew cX7_dimensionAnew 2 (some .int) D cI cG cZ cJ ts mLs ad p s m args meth c) (a1 : Int32) (Q : Int32 → St → Prop) (u : St) (H : Heap) (locs : List Loc) (ls : Array Slot) (h : f_X7_dimensionAnew a1 u Q) (hP : va_P D vwCl (mW cI cZ ad u) H) (hS : va_S (cA mLs ad s.heap.size) s.heap H locs) (hl : lv_has ls 2 [(0, .ref (ad 0)), (1, .int a1)]) : W p l e (headSpec wsX7_dimensionAnew { frames := 4, cells := 0, slots := 0, locals := 95 }).room s m args below meth c H locs 0 0 (MQ below (va_Qi Q (fun u9 t => va_P D vwCl (mW cI cZ ad u9) t.heap) (cA mLs ad s.heap.size)) args s 0 0 (cA mLs ad s.heap.size)) (F0 m 0 ls []) := by
  obtain ⟨hx, hb, hml, hown, hts, hr, hlocks, hwd, hC⟩ := id X
  have hK := hC.1
  unfold f_X7_dimensionAnew at h
  refine lv_aload_n hx hb dX7_dimensionAnew_0 rfl (lv_at hl 0 rfl) ?_
  refine lv_aload_n hx hb dX7_dimensionAnew_1 rfl (lv_at hl 0 rfl) ?_
  refine lv_iload_n hx hb dX7_dimensionAnew_2 rfl (lv_at hl 1 rfl) ?_
  refine cc_i (va_runV (C := RX7) (As := [.int a1]) (rest := [.ref (ad 0)]) ⟨hx, hb, hml, hown, hts⟩ (c_X7_isDegree hwd H.size u a1 _ h) (cwV 1 hts gX7_dimensionAnew_X7_isDegree rfl rfl rfl (by decide +kernel) ⟨Nat.le_of_ble_eq_true rfl, Nat.le_of_ble_eq_true rfl⟩) (pmV hC hP hS mg_0 rfl) rfl rfl hl.1 rfl (lv_room (Nat.le_of_ble_eq_true rfl)) dX7_dimensionAnew_3 ⟨Nat.zero_le _, Nat.zero_le _⟩) hS (cA_mono hS.1) (fun v1 u2 H locs h hP hS => ?_)
  refine lv_if_eq (tgt := 13) hx hb dX7_dimensionAnew_6 (by decide) (fun c3 => ?_) (fun c3 => ?_)
  · replace h := h.1 c3
    refine lv_iconst (v := 1) hx hb dX7_dimensionAnew_13 (by decide) ?_
    refine cc_i (va_runV (C := RX7) (As := [.int 1]) (rest := []) ⟨hx, hb, hml, hown, hts⟩ (c_X7_holds hwd H.size u2 1 _ h) (cwV 1 hts gX7_dimensionAnew_X7_holds rfl rfl rfl (by decide +kernel) ⟨Nat.le_of_ble_eq_true rfl, Nat.le_of_ble_eq_true rfl⟩) (pmV hC hP hS mg_0 rfl) rfl rfl hl.1 rfl (lv_room (Nat.le_of_ble_eq_true rfl)) dX7_dimensionAnew_14 ⟨Nat.zero_le _, Nat.zero_le _⟩) hS (cA_mono hS.1) (fun v4 u5 H locs h hP hS => ?_)
    refine lv_if_eq (tgt := 28) hx hb dX7_dimensionAnew_17 (by decide) (fun c6 => ?_) (fun c6 => ?_)
    · replace h := h.1 c6
      refine lv_iconst (v := 0) hx hb dX7_dimensionAnew_28 (by decide) ?_
      exact W.iret (v := 0) hx hb hr (fun t ht hW => ⟨⟨_, _, rfl, h, by show va_P _ _ _ t.heap; rw [ht]; exact hP⟩, hS.F ht⟩) hS.2.2 dX7_dimensionAnew_29
    · replace h := h.2 c6
      refine lv_aload_n hx hb dX7_dimensionAnew_20 rfl (lv_at hl 0 rfl) ?_
      refine lv_iload_n hx hb dX7_dimensionAnew_21 rfl (lv_at hl 1 rfl) ?_
      refine cc_i (va_runV (C := RX7) (As := [.int a1]) (rest := []) ⟨hx, hb, hml, hown, hts⟩ (c_X7_dimensionOf hwd H.size u5 a1 _ h) (cwV 1 hts gX7_dimensionAnew_X7_dimensionOf rfl rfl rfl (by decide +kernel) ⟨Nat.le_of_ble_eq_true rfl, Nat.le_of_ble_eq_true rfl⟩) (pmV hC hP hS mg_0 rfl) rfl rfl hl.1 rfl (lv_room (Nat.le_of_ble_eq_true rfl)) dX7_dimensionAnew_22 ⟨Nat.zero_le _, Nat.zero_le _⟩) hS (cA_mono hS.1) (fun v7 u8 H locs h hP hS => ?_)
      refine lv_goto (tgt := 29) hx hb dX7_dimensionAnew_25 (by decide) ?_
      exact W.iret (v := v7) hx hb hr (fun t ht hW => ⟨⟨_, _, rfl, h, by show va_P _ _ _ t.heap; rw [ht]; exact hP⟩, hS.F ht⟩) hS.2.2 dX7_dimensionAnew_29
  · replace h := h.2 c3
    refine lv_iconst (v := 0) hx hb dX7_dimensionAnew_9 (by decide) ?_
    refine lv_goto (tgt := 14) hx hb dX7_dimensionAnew_10 (by decide) ?_
    refine cc_i (va_runV (C := RX7) (As := [.int 0]) (rest := []) ⟨hx, hb, hml, hown, hts⟩ (c_X7_holds hwd H.size u2 0 _ h) (cwV 1 hts gX7_dimensionAnew_X7_holds rfl rfl rfl (by decide +kernel) ⟨Nat.le_of_ble_eq_true rfl, Nat.le_of_ble_eq_true rfl⟩) (pmV hC hP hS mg_0 rfl) rfl rfl hl.1 rfl (lv_room (Nat.le_of_ble_eq_true rfl)) dX7_dimensionAnew_14 ⟨Nat.zero_le _, Nat.zero_le _⟩) hS (cA_mono hS.1) (fun v9 u10 H locs h hP hS => ?_)
    refine lv_if_eq (tgt := 28) hx hb dX7_dimensionAnew_17 (by decide) (fun c11 => ?_) (fun c11 => ?_)
    · replace h := h.1 c11
      refine lv_iconst (v := 0) hx hb dX7_dimensionAnew_28 (by decide) ?_
      exact W.iret (v := 0) hx hb hr (fun t ht hW => ⟨⟨_, _, rfl, h, by show va_P _ _ _ t.heap; rw [ht]; exact hP⟩, hS.F ht⟩) hS.2.2 dX7_dimensionAnew_29
    · replace h := h.2 c11
      refine lv_aload_n hx hb dX7_dimensionAnew_20 rfl (lv_at hl 0 rfl) ?_
      refine lv_iload_n hx hb dX7_dimensionAnew_21 rfl (lv_at hl 1 rfl) ?_
      refine cc_i (va_runV (C := RX7) (As := [.int a1]) (rest := []) ⟨hx, hb, hml, hown, hts⟩ (c_X7_dimensionOf hwd H.size u10 a1 _ h) (cwV 1 hts gX7_dimensionAnew_X7_dimensionOf rfl rfl rfl (by decide +kernel) ⟨Nat.le_of_ble_eq_true rfl, Nat.le_of_ble_eq_true rfl⟩) (pmV hC hP hS mg_0 rfl) rfl rfl hl.1 rfl (lv_room (Nat.le_of_ble_eq_true rfl)) dX7_dimensionAnew_22 ⟨Nat.zero_le _, Nat.zero_le _⟩) hS (cA_mono hS.1) (fun v12 u13 H locs h hP hS => ?_)
      refine lv_goto (tgt := 29) hx hb dX7_dimensionAnew_25 (by decide) ?_
      exact W.iret (v := v12) hx hb hr (fun t ht hW => ⟨⟨_, _, rfl, h, by show va_P _ _ _ t.heap; rw [ht]; exact hP⟩, hS.F ht⟩) hS.2.2 dX7_dimensionAnew_29
set_option maxRecDepth 100000 in
set_option maxHeartbeats 4000000 in
theorem c_X7_dimensionAnew {l : Launch} {D : va_G} {cI cG cZ cJ : ClassId} {ts : Nat × Nat} {ad : Nat → Nat} (hwd : WD mLs ad) (sz : Nat) (u : St) (a1 : Int32) (Q : Int32 → St → Prop) (h : f_X7_dimensionAnew a1 u Q) : Met l yX7_dimensionAnew wsX7_dimensionAnew ({ frames := 4, cells := 0, slots := 0, locals := 95 }) (va_Pc [.ref (ad 0), .int a1] (PM D cI cG cZ cJ ts ad sz u)) (va_Qi Q (fun u9 t => va_P D vwCl (mW cI cZ ad u9) t.heap) (cA mLs ad sz)) 0 0 (cA mLs ad sz) := by
  refine Met.ofW (cc := cX7_dimensionAnew) (maxL := 2) (ret := (some .int)) (by decide) rfl ?_
  intro p e s m args below meth c s₁ B hml hv
  obtain ⟨rfl, hsz, hP, hC⟩ := hv
  subst hsz
  have X : FX RX7 wsX7_dimensionAnew cX7_dimensionAnew 2 (some .int) D cI cG cZ cJ ts mLs ad p s m _ meth c := ⟨B.exec, B.bytes, hml, findClass_of_methodNamed B.named, atoms_spec (ws := wsX7_dimensionAnew) B.pre, B.returns, B.notSynchronized, hwd, hC⟩
  have hl := lv_entry ([.ref (ad 0), .int a1]) (n := 2) (Nat.le_of_ble_eq_true rfl)
  rw [lg_entry_eq]
  generalize (lg_sl ([.ref (ad 0), .int a1]) ++ List.replicate (2 - (lg_sl ([.ref (ad 0), .int a1])).length) Slot.unset).toArray = ls at hl ⊢
  exact w_X7_dimensionAnew X a1 Q u _ _ _ h hP va_S.rf hl
set_option maxRecDepth 100000 in
set_option maxHeartbeats 4000000 in
theorem w_X7_derives_L12 {p : Program} {l : Launch} {e : Env} {s : State} {m : MethodId} {args : Array Value} {below : List Frame} {meth : Method} {c : Code} {D : va_G} {cI cG cZ cJ : ClassId} {ts : Nat × Nat}  {ad : Nat → Nat} {k1 : Nat} (hka1 : isM k1) (X : FX RX7 wsX7_derives cX7_derives 7 none D cI cG cZ cJ ts mLs ad p s m args meth c) (a2 : Int32) (a3 : Int32) (a4 : Int32) (a5 : Int32) (Q : St → Prop)
    (K0 : St → Prop) (hk0 : ∀ (u : St) (H : Heap) (locs : List Loc) (ls : Array Slot), K0 u → va_P D vwCl (mW cI cZ ad u) H → va_S (cA mLs ad s.heap.size) s.heap H locs → lv_has ls 7 [(0, .ref (ad 0)), (1, .ref (ad k1)), (2, .int a2), (3, .int a3), (4, .int a4), (5, .int a5)] → W p l e (headSpec wsX7_derives { frames := 1, cells := 0, slots := 0, locals := 22 }).room s m args below meth c H locs 0 0 (MQ below (va_Qv Q (fun u9 t => va_P D vwCl (mW cI cZ ad u9) t.heap) (cA mLs ad s.heap.size)) args s 0 0 (cA mLs ad s.heap.size)) (F0 m 47 ls []))
    : ∀ (n : Nat) (a6 : Int32) (u : St) (H : Heap) (locs : List Loc) (ls : Array Slot), f_X7_derives_L12 k1 a2 a3 a4 a5 Q K0 n a6 u → va_P D vwCl (mW cI cZ ad u) H → va_S (cA mLs ad s.heap.size) s.heap H locs → lv_has ls 7 [(0, .ref (ad 0)), (1, .ref (ad k1)), (2, .int a2), (3, .int a3), (4, .int a4), (5, .int a5), (6, .int a6)] → W p l e (headSpec wsX7_derives { frames := 1, cells := 0, slots := 0, locals := 22 }).room s m args below meth c H locs 0 0 (MQ below (va_Qv Q (fun u9 t => va_P D vwCl (mW cI cZ ad u9) t.heap) (cA mLs ad s.heap.size)) args s 0 0 (cA mLs ad s.heap.size)) (F0 m 12 ls []) := by
  obtain ⟨hx, hb, hml, hown, hts, hr, hlocks, hwd, hC⟩ := id X
  have hK := hC.1
  intro n
  induction n with
  | zero =>
    intro a6 u H locs ls h; exact h.elim
  | succ n ih =>
    intro a6 u H locs ls h hP hS hl
    replace h : f_X7_derives_L12_s k1 a2 a3 a4 a5 Q K0 (f_X7_derives_L12 k1 a2 a3 a4 a5 Q K0 n) a6 u := h
    unfold f_X7_derives_L12_s at h
    refine lv_iload hx hb dX7_derives_12 (lv_at hl 6 rfl) ?_
    refine lv_iload_n hx hb dX7_derives_14 rfl (lv_at hl 2 rfl) ?_
    refine lv_iload hx hb dX7_derives_15 (lv_at hl 5 rfl) ?_
    refine lv_isub hx hb dX7_derives_17 ?_
    refine lv_icmp_gt (tgt := 47) hx hb dX7_derives_18 (by decide) (fun c2 => ?_) (fun c2 => ?_)
    · replace h := h.1 c2
      exact hk0  _ _ _ _ h hP hS (lv_sub hl [0, 1, 2, 3, 4, 5] rfl)
    · replace h := h.2 c2
      refine lv_aload_n hx hb dX7_derives_21 rfl (lv_at hl 1 rfl) ?_
      refine lv_iload hx hb dX7_derives_22 (lv_at hl 6 rfl) ?_
      refine lv_aload_n hx hb dX7_derives_24 rfl (lv_at hl 0 rfl) ?_
      refine lv_aload_n hx hb dX7_derives_25 rfl (lv_at hl 1 rfl) ?_
      refine lv_iload hx hb dX7_derives_26 (lv_at hl 6 rfl) ?_
      refine va_iald hx hb hK hP k1 0 (mg_a hka1) rfl h.1 dX7_derives_28 ?_
      refine lv_topi (fun v3 ev3 => ?_)
      replace h := h.2 v3 ev3
      refine lv_iload_n hx hb dX7_derives_29 rfl (lv_at hl 2 rfl) ?_
      refine lv_iload hx hb dX7_derives_30 (lv_at hl 5 rfl) ?_
      refine lv_isub hx hb dX7_derives_32 ?_
      refine lv_iload hx hb dX7_derives_33 (lv_at hl 6 rfl) ?_
      refine lv_isub hx hb dX7_derives_35 ?_
      refine lv_imul hx hb dX7_derives_36 ?_
      refine cc_i (va_runV (C := RX7) (As := [.int (v3 * ((a2 - a5) - a6))]) (rest := [.int a6, .ref (ad k1)]) ⟨hx, hb, hml, hown, hts⟩ (c_X7_mod hwd H.size u (v3 * ((a2 - a5) - a6)) _ h) (cwV 1 hts gX7_derives_X7_mod rfl rfl rfl (by decide +kernel) ⟨Nat.le_of_ble_eq_true rfl, Nat.le_of_ble_eq_true rfl⟩) (pmV hC hP hS mg_0 rfl) rfl rfl hl.1 rfl (lv_room (Nat.le_of_ble_eq_true rfl)) dX7_derives_37 ⟨Nat.zero_le _, Nat.zero_le _⟩) hS (cA_mono hS.1) (fun v4 u5 H locs h hP hS => ?_)
      refine va_iast hx hb hK hP (cD hwd) hS k1 0 (mg_a hka1) rfl h.1 dX7_derives_40 (fun H locs hP _ hS => ?_)
      replace hP := mu_a hwd hka1 hP
      obtain ⟨u6, eu6⟩ : ∃ y : St, y = su u5 k1 a6.toNatClampNeg v4 := ⟨_, rfl⟩
      rw [← eu6] at hP
      replace h := h.2 u6 eu6
      obtain ⟨v7, ev7⟩ : ∃ y : Int32, y = a6 + 1 := ⟨_, rfl⟩
      refine lv_iinc (v := v7) (lv' := [(6, .int v7), (0, .ref (ad 0)), (1, .ref (ad k1)), (2, .int a2), (3, .int a3), (4, .int a4), (5, .int a5)]) hx hb dX7_derives_41 hl (k := 6) rfl (by rw [ev7]; rfl) (by decide) rfl (fun ls hl => ?_)
      replace h := h v7 ev7
      refine lv_goto (tgt := 12) hx hb dX7_derives_44 (by decide) ?_
      exact ih v7 _ _ _ _ h hP hS (lv_sub hl [1, 2, 3, 4, 5, 6, 0] rfl)
set_option maxRecDepth 100000 in
set_option maxHeartbeats 4000000 in
theorem w_X7_derives_L3 {p : Program} {l : Launch} {e : Env} {s : State} {m : MethodId} {args : Array Value} {below : List Frame} {meth : Method} {c : Code} {D : va_G} {cI cG cZ cJ : ClassId} {ts : Nat × Nat}  {ad : Nat → Nat} {k1 : Nat} (hka1 : isM k1) (X : FX RX7 wsX7_derives cX7_derives 7 none D cI cG cZ cJ ts mLs ad p s m args meth c) (a2 : Int32) (a3 : Int32) (a4 : Int32) (Q : St → Prop)
    (K0 : St → Prop) (hk0 : ∀ (u : St) (H : Heap) (locs : List Loc) (ls : Array Slot), K0 u → va_P D vwCl (mW cI cZ ad u) H → va_S (cA mLs ad s.heap.size) s.heap H locs → lv_has ls 7 [(0, .ref (ad 0)), (1, .ref (ad k1)), (2, .int a2), (3, .int a3), (4, .int a4)] → W p l e (headSpec wsX7_derives { frames := 1, cells := 0, slots := 0, locals := 22 }).room s m args below meth c H locs 0 0 (MQ below (va_Qv Q (fun u9 t => va_P D vwCl (mW cI cZ ad u9) t.heap) (cA mLs ad s.heap.size)) args s 0 0 (cA mLs ad s.heap.size)) (F0 m 53 ls []))
    : ∀ (n : Nat) (a5 : Int32) (u : St) (H : Heap) (locs : List Loc) (ls : Array Slot), f_X7_derives_L3 k1 a2 a3 a4 Q K0 n a5 u → va_P D vwCl (mW cI cZ ad u) H → va_S (cA mLs ad s.heap.size) s.heap H locs → lv_has ls 7 [(0, .ref (ad 0)), (1, .ref (ad k1)), (2, .int a2), (3, .int a3), (4, .int a4), (5, .int a5)] → W p l e (headSpec wsX7_derives { frames := 1, cells := 0, slots := 0, locals := 22 }).room s m args below meth c H locs 0 0 (MQ below (va_Qv Q (fun u9 t => va_P D vwCl (mW cI cZ ad u9) t.heap) (cA mLs ad s.heap.size)) args s 0 0 (cA mLs ad s.heap.size)) (F0 m 3 ls []) := by
  obtain ⟨hx, hb, hml, hown, hts, hr, hlocks, hwd, hC⟩ := id X
  have hK := hC.1
  intro n
  induction n with
  | zero =>
    intro a5 u H locs ls h; exact h.elim
  | succ n ih =>
    intro a5 u H locs ls h hP hS hl
    replace h : f_X7_derives_L3_s k1 a2 a3 a4 Q K0 (f_X7_derives_L3 k1 a2 a3 a4 Q K0 n) a5 u := h
    unfold f_X7_derives_L3_s at h
    refine lv_iload hx hb dX7_derives_3 (lv_at hl 5 rfl) ?_
    refine lv_iload_n hx hb dX7_derives_5 rfl (lv_at hl 3 rfl) ?_
    refine lv_icmp_ge (tgt := 53) hx hb dX7_derives_6 (by decide) (fun c1 => ?_) (fun c1 => ?_)
    · replace h := h.1 c1
      exact hk0  _ _ _ _ h hP hS (lv_sub hl [0, 1, 2, 3, 4] rfl)
    · replace h := h.2 c1
      refine lv_iconst (v := 0) hx hb dX7_derives_9 (by decide) ?_
      refine lv_istore (lv' := [(6, .int 0), (0, .ref (ad 0)), (1, .ref (ad k1)), (2, .int a2), (3, .int a3), (4, .int a4), (5, .int a5)]) hx hb dX7_derives_10 hl (by decide) rfl (fun ls hl => ?_)
      obtain ⟨n8, h⟩ := h
      refine w_X7_derives_L12 hka1 X a2 a3 a4 a5 _ _ (fun u9 H locs ls h hP hS hl => ?_) n8 0 _ _ _ _ h hP hS (lv_sub hl [1, 2, 3, 4, 5, 6, 0] rfl)
      obtain ⟨v10, ev10⟩ : ∃ y : Int32, y = a5 + 1 := ⟨_, rfl⟩
      refine lv_iinc (v := v10) (lv' := [(5, .int v10), (0, .ref (ad 0)), (1, .ref (ad k1)), (2, .int a2), (3, .int a3), (4, .int a4)]) hx hb dX7_derives_47 hl (k := 5) rfl (by rw [ev10]; rfl) (by decide) rfl (fun ls hl => ?_)
      replace h := h v10 ev10
      refine lv_goto (tgt := 3) hx hb dX7_derives_50 (by decide) ?_
      exact ih v10 _ _ _ _ h hP hS (lv_sub hl [1, 2, 3, 4, 5, 0] rfl)
set_option maxRecDepth 100000 in
set_option maxHeartbeats 4000000 in
theorem w_X7_derives_L66 {p : Program} {l : Launch} {e : Env} {s : State} {m : MethodId} {args : Array Value} {below : List Frame} {meth : Method} {c : Code} {D : va_G} {cI cG cZ cJ : ClassId} {ts : Nat × Nat}  {ad : Nat → Nat} {k1 : Nat} (hka1 : isM k1) (X : FX RX7 wsX7_derives cX7_derives 7 none D cI cG cZ cJ ts mLs ad p s m args meth c) (a2 : Int32) (a3 : Int32) (a4 : Int32) (a5 : Int32) (Q : St → Prop)
    (K0 : St → Prop) (hk0 : ∀ (u : St) (H : Heap) (locs : List Loc) (ls : Array Slot), K0 u → va_P D vwCl (mW cI cZ ad u) H → va_S (cA mLs ad s.heap.size) s.heap H locs → lv_has ls 7 [(0, .ref (ad 0)), (1, .ref (ad k1)), (2, .int a2), (3, .int a3), (4, .int a4), (5, .int a5)] → W p l e (headSpec wsX7_derives { frames := 1, cells := 0, slots := 0, locals := 22 }).room s m args below meth c H locs 0 0 (MQ below (va_Qv Q (fun u9 t => va_P D vwCl (mW cI cZ ad u9) t.heap) (cA mLs ad s.heap.size)) args s 0 0 (cA mLs ad s.heap.size)) (F0 m 102 ls []))
    : ∀ (n : Nat) (a6 : Int32) (u : St) (H : Heap) (locs : List Loc) (ls : Array Slot), f_X7_derives_L66 k1 a2 a3 a4 a5 Q K0 n a6 u → va_P D vwCl (mW cI cZ ad u) H → va_S (cA mLs ad s.heap.size) s.heap H locs → lv_has ls 7 [(0, .ref (ad 0)), (1, .ref (ad k1)), (2, .int a2), (3, .int a3), (4, .int a4), (5, .int a5), (6, .int a6)] → W p l e (headSpec wsX7_derives { frames := 1, cells := 0, slots := 0, locals := 22 }).room s m args below meth c H locs 0 0 (MQ below (va_Qv Q (fun u9 t => va_P D vwCl (mW cI cZ ad u9) t.heap) (cA mLs ad s.heap.size)) args s 0 0 (cA mLs ad s.heap.size)) (F0 m 66 ls []) := by
  obtain ⟨hx, hb, hml, hown, hts, hr, hlocks, hwd, hC⟩ := id X
  have hK := hC.1
  intro n
  induction n with
  | zero =>
    intro a6 u H locs ls h; exact h.elim
  | succ n ih =>
    intro a6 u H locs ls h hP hS hl
    replace h : f_X7_derives_L66_s k1 a2 a3 a4 a5 Q K0 (f_X7_derives_L66 k1 a2 a3 a4 a5 Q K0 n) a6 u := h
    unfold f_X7_derives_L66_s at h
    refine lv_iload hx hb dX7_derives_66 (lv_at hl 6 rfl) ?_
    refine lv_iload_n hx hb dX7_derives_68 rfl (lv_at hl 2 rfl) ?_
    refine lv_iload_n hx hb dX7_derives_69 rfl (lv_at hl 3 rfl) ?_
    refine lv_isub hx hb dX7_derives_70 ?_
    refine lv_iload hx hb dX7_derives_71 (lv_at hl 5 rfl) ?_
    refine lv_isub hx hb dX7_derives_73 ?_
    refine lv_icmp_ge (tgt := 102) hx hb dX7_derives_74 (by decide) (fun c14 => ?_) (fun c14 => ?_)
    · replace h := h.1 c14
      exact hk0  _ _ _ _ h hP hS (lv_sub hl [0, 1, 2, 3, 4, 5] rfl)
    · replace h := h.2 c14
      refine lv_aload_n hx hb dX7_derives_77 rfl (lv_at hl 1 rfl) ?_
      refine lv_iload hx hb dX7_derives_78 (lv_at hl 6 rfl) ?_
      refine lv_aload_n hx hb dX7_derives_80 rfl (lv_at hl 0 rfl) ?_
      refine lv_aload_n hx hb dX7_derives_81 rfl (lv_at hl 1 rfl) ?_
      refine lv_iload hx hb dX7_derives_82 (lv_at hl 6 rfl) ?_
      refine lv_iconst (v := 1) hx hb dX7_derives_84 (by decide) ?_
      refine lv_iadd hx hb dX7_derives_85 ?_
      refine va_iald hx hb hK hP k1 0 (mg_a hka1) rfl h.1 dX7_derives_86 ?_
      refine lv_topi (fun v15 ev15 => ?_)
      replace h := h.2 v15 ev15
      refine lv_iload hx hb dX7_derives_87 (lv_at hl 6 rfl) ?_
      refine lv_iconst (v := 1) hx hb dX7_derives_89 (by decide) ?_
      refine lv_iadd hx hb dX7_derives_90 ?_
      refine lv_imul hx hb dX7_derives_91 ?_
      refine cc_i (va_runV (C := RX7) (As := [.int (v15 * (a6 + 1))]) (rest := [.int a6, .ref (ad k1)]) ⟨hx, hb, hml, hown, hts⟩ (c_X7_mod hwd H.size u (v15 * (a6 + 1)) _ h) (cwV 1 hts gX7_derives_X7_mod rfl rfl rfl (by decide +kernel) ⟨Nat.le_of_ble_eq_true rfl, Nat.le_of_ble_eq_true rfl⟩) (pmV hC hP hS mg_0 rfl) rfl rfl hl.1 rfl (lv_room (Nat.le_of_ble_eq_true rfl)) dX7_derives_92 ⟨Nat.zero_le _, Nat.zero_le _⟩) hS (cA_mono hS.1) (fun v16 u17 H locs h hP hS => ?_)
      refine va_iast hx hb hK hP (cD hwd) hS k1 0 (mg_a hka1) rfl h.1 dX7_derives_95 (fun H locs hP _ hS => ?_)
      replace hP := mu_a hwd hka1 hP
      obtain ⟨u18, eu18⟩ : ∃ y : St, y = su u17 k1 a6.toNatClampNeg v16 := ⟨_, rfl⟩
      rw [← eu18] at hP
      replace h := h.2 u18 eu18
      obtain ⟨v19, ev19⟩ : ∃ y : Int32, y = a6 + 1 := ⟨_, rfl⟩
      refine lv_iinc (v := v19) (lv' := [(6, .int v19), (0, .ref (ad 0)), (1, .ref (ad k1)), (2, .int a2), (3, .int a3), (4, .int a4), (5, .int a5)]) hx hb dX7_derives_96 hl (k := 6) rfl (by rw [ev19]; rfl) (by decide) rfl (fun ls hl => ?_)
      replace h := h v19 ev19
      refine lv_goto (tgt := 66) hx hb dX7_derives_99 (by decide) ?_
      exact ih v19 _ _ _ _ h hP hS (lv_sub hl [1, 2, 3, 4, 5, 6, 0] rfl)
set_option maxRecDepth 100000 in
set_option maxHeartbeats 4000000 in
theorem w_X7_derives_L56 {p : Program} {l : Launch} {e : Env} {s : State} {m : MethodId} {args : Array Value} {below : List Frame} {meth : Method} {c : Code} {D : va_G} {cI cG cZ cJ : ClassId} {ts : Nat × Nat}  {ad : Nat → Nat} {k1 : Nat} (hka1 : isM k1) (X : FX RX7 wsX7_derives cX7_derives 7 none D cI cG cZ cJ ts mLs ad p s m args meth c) (a2 : Int32) (a3 : Int32) (a4 : Int32) (Q : St → Prop)
    (K0 : St → Prop) (hk0 : ∀ (u : St) (H : Heap) (locs : List Loc) (ls : Array Slot), K0 u → va_P D vwCl (mW cI cZ ad u) H → va_S (cA mLs ad s.heap.size) s.heap H locs → lv_has ls 7 [] → W p l e (headSpec wsX7_derives { frames := 1, cells := 0, slots := 0, locals := 22 }).room s m args below meth c H locs 0 0 (MQ below (va_Qv Q (fun u9 t => va_P D vwCl (mW cI cZ ad u9) t.heap) (cA mLs ad s.heap.size)) args s 0 0 (cA mLs ad s.heap.size)) (F0 m 108 ls []))
    : ∀ (n : Nat) (a5 : Int32) (u : St) (H : Heap) (locs : List Loc) (ls : Array Slot), f_X7_derives_L56 k1 a2 a3 a4 Q K0 n a5 u → va_P D vwCl (mW cI cZ ad u) H → va_S (cA mLs ad s.heap.size) s.heap H locs → lv_has ls 7 [(0, .ref (ad 0)), (1, .ref (ad k1)), (2, .int a2), (3, .int a3), (4, .int a4), (5, .int a5)] → W p l e (headSpec wsX7_derives { frames := 1, cells := 0, slots := 0, locals := 22 }).room s m args below meth c H locs 0 0 (MQ below (va_Qv Q (fun u9 t => va_P D vwCl (mW cI cZ ad u9) t.heap) (cA mLs ad s.heap.size)) args s 0 0 (cA mLs ad s.heap.size)) (F0 m 56 ls []) := by
  obtain ⟨hx, hb, hml, hown, hts, hr, hlocks, hwd, hC⟩ := id X
  have hK := hC.1
  intro n
  induction n with
  | zero =>
    intro a5 u H locs ls h; exact h.elim
  | succ n ih =>
    intro a5 u H locs ls h hP hS hl
    replace h : f_X7_derives_L56_s k1 a2 a3 a4 Q K0 (f_X7_derives_L56 k1 a2 a3 a4 Q K0 n) a5 u := h
    unfold f_X7_derives_L56_s at h
    refine lv_iload hx hb dX7_derives_56 (lv_at hl 5 rfl) ?_
    refine lv_iload hx hb dX7_derives_58 (lv_at hl 4 rfl) ?_
    refine lv_icmp_ge (tgt := 108) hx hb dX7_derives_60 (by decide) (fun c13 => ?_) (fun c13 => ?_)
    · replace h := h.1 c13
      exact hk0  _ _ _ _ h hP hS (lv_sub hl [] rfl)
    · replace h := h.2 c13
      refine lv_iconst (v := 0) hx hb dX7_derives_63 (by decide) ?_
      refine lv_istore (lv' := [(6, .int 0), (0, .ref (ad 0)), (1, .ref (ad k1)), (2, .int a2), (3, .int a3), (4, .int a4), (5, .int a5)]) hx hb dX7_derives_64 hl (by decide) rfl (fun ls hl => ?_)
      obtain ⟨n20, h⟩ := h
      refine w_X7_derives_L66 hka1 X a2 a3 a4 a5 _ _ (fun u21 H locs ls h hP hS hl => ?_) n20 0 _ _ _ _ h hP hS (lv_sub hl [1, 2, 3, 4, 5, 6, 0] rfl)
      obtain ⟨v22, ev22⟩ : ∃ y : Int32, y = a5 + 1 := ⟨_, rfl⟩
      refine lv_iinc (v := v22) (lv' := [(5, .int v22), (0, .ref (ad 0)), (1, .ref (ad k1)), (2, .int a2), (3, .int a3), (4, .int a4)]) hx hb dX7_derives_102 hl (k := 5) rfl (by rw [ev22]; rfl) (by decide) rfl (fun ls hl => ?_)
      replace h := h v22 ev22
      refine lv_goto (tgt := 56) hx hb dX7_derives_105 (by decide) ?_
      exact ih v22 _ _ _ _ h hP hS (lv_sub hl [1, 2, 3, 4, 5, 0] rfl)
set_option maxRecDepth 100000 in
set_option maxHeartbeats 4000000 in
theorem w_X7_derives {p : Program} {l : Launch} {e : Env} {s : State} {m : MethodId} {args : Array Value} {below : List Frame} {meth : Method} {c : Code} {D : va_G} {cI cG cZ cJ : ClassId} {ts : Nat × Nat}  {ad : Nat → Nat} {k1 : Nat} (hka1 : isM k1) (X : FX RX7 wsX7_derives cX7_derives 7 none D cI cG cZ cJ ts mLs ad p s m args meth c) (a2 : Int32) (a3 : Int32) (a4 : Int32) (Q : St → Prop) (u : St) (H : Heap) (locs : List Loc) (ls : Array Slot) (h : f_X7_derives k1 a2 a3 a4 u Q) (hP : va_P D vwCl (mW cI cZ ad u) H) (hS : va_S (cA mLs ad s.heap.size) s.heap H locs) (hl : lv_has ls 7 [(0, .ref (ad 0)), (1, .ref (ad k1)), (2, .int a2), (3, .int a3), (4, .int a4)]) : W p l e (headSpec wsX7_derives { frames := 1, cells := 0, slots := 0, locals := 22 }).room s m args below meth c H locs 0 0 (MQ below (va_Qv Q (fun u9 t => va_P D vwCl (mW cI cZ ad u9) t.heap) (cA mLs ad s.heap.size)) args s 0 0 (cA mLs ad s.heap.size)) (F0 m 0 ls []) := by
  obtain ⟨hx, hb, hml, hown, hts, hr, hlocks, hwd, hC⟩ := id X
  have hK := hC.1
  unfold f_X7_derives at h
  refine lv_iconst (v := 0) hx hb dX7_derives_0 (by decide) ?_
  refine lv_istore (lv' := [(5, .int 0), (0, .ref (ad 0)), (1, .ref (ad k1)), (2, .int a2), (3, .int a3), (4, .int a4)]) hx hb dX7_derives_1 hl (by decide) rfl (fun ls hl => ?_)
  obtain ⟨n11, h⟩ := h
  refine w_X7_derives_L3 hka1 X a2 a3 a4 _ _ (fun u12 H locs ls h hP hS hl => ?_) n11 0 _ _ _ _ h hP hS (lv_sub hl [1, 2, 3, 4, 5, 0] rfl)
  refine lv_iconst (v := 0) hx hb dX7_derives_53 (by decide) ?_
  refine lv_istore (lv' := [(5, .int 0), (0, .ref (ad 0)), (1, .ref (ad k1)), (2, .int a2), (3, .int a3), (4, .int a4)]) hx hb dX7_derives_54 hl (by decide) rfl (fun ls hl => ?_)
  obtain ⟨n23, h⟩ := h
  refine w_X7_derives_L56 hka1 X a2 a3 a4 _ _ (fun u24 H locs ls h hP hS hl => ?_) n23 0 _ _ _ _ h hP hS (lv_sub hl [1, 2, 3, 4, 5, 0] rfl)
  exact W.vret hx hb hr (fun t ht hW => ⟨⟨_, rfl, h, by show va_P _ _ _ t.heap; rw [ht]; exact hP⟩, hS.F ht⟩) hS.2.2 dX7_derives_108
set_option maxRecDepth 100000 in
set_option maxHeartbeats 4000000 in
theorem c_X7_derives {l : Launch} {D : va_G} {cI cG cZ cJ : ClassId} {ts : Nat × Nat} {ad : Nat → Nat} {k1 : Nat} (hka1 : isM k1) (hwd : WD mLs ad) (sz : Nat) (u : St) (a2 : Int32) (a3 : Int32) (a4 : Int32) (Q : St → Prop) (h : f_X7_derives k1 a2 a3 a4 u Q) : Met l yX7_derives wsX7_derives ({ frames := 1, cells := 0, slots := 0, locals := 22 }) (va_Pc [.ref (ad 0), .ref (ad k1), .int a2, .int a3, .int a4] (PM D cI cG cZ cJ ts ad sz u)) (va_Qv Q (fun u9 t => va_P D vwCl (mW cI cZ ad u9) t.heap) (cA mLs ad sz)) 0 0 (cA mLs ad sz) := by
  refine Met.ofW (cc := cX7_derives) (maxL := 7) (ret := none) (by decide) rfl ?_
  intro p e s m args below meth c s₁ B hml hv
  obtain ⟨rfl, hsz, hP, hC⟩ := hv
  subst hsz
  have X : FX RX7 wsX7_derives cX7_derives 7 none D cI cG cZ cJ ts mLs ad p s m _ meth c := ⟨B.exec, B.bytes, hml, findClass_of_methodNamed B.named, atoms_spec (ws := wsX7_derives) B.pre, B.returns, B.notSynchronized, hwd, hC⟩
  have hl := lv_entry ([.ref (ad 0), .ref (ad k1), .int a2, .int a3, .int a4]) (n := 7) (Nat.le_of_ble_eq_true rfl)
  rw [lg_entry_eq]
  generalize (lg_sl ([.ref (ad 0), .ref (ad k1), .int a2, .int a3, .int a4]) ++ List.replicate (7 - (lg_sl ([.ref (ad 0), .ref (ad k1), .int a2, .int a3, .int a4])).length) Slot.unset).toArray = ls at hl ⊢
  exact w_X7_derives hka1 X a2 a3 a4 Q u _ _ _ h hP va_S.rf hl
set_option maxRecDepth 100000 in
set_option maxHeartbeats 4000000 in
theorem w_X7_choose_L4 {p : Program} {l : Launch} {e : Env} {s : State} {m : MethodId} {args : Array Value} {below : List Frame} {meth : Method} {c : Code} {D : va_G} {cI cG cZ cJ : ClassId} {ts : Nat × Nat}  {ad : Nat → Nat}  (X : FX RX7 wsX7_choose cX7_choose 4 (some .int) D cI cG cZ cJ ts mLs ad p s m args meth c) (a0 : Int32) (a1 : Int32) (Q : Int32 → St → Prop)
    (K0 : Int32 → St → Prop) (hk0 : ∀ (b2 : Int32) (u : St) (H : Heap) (locs : List Loc) (ls : Array Slot), K0 b2 u → va_P D vwCl (mW cI cZ ad u) H → va_S (cA mLs ad s.heap.size) s.heap H locs → lv_has ls 4 [(2, .int b2)] → W p l e (headSpec wsX7_choose { frames := 0, cells := 0, slots := 0, locals := 0 }).room s m args below meth c H locs 0 0 (MQ below (va_Qi Q (fun u9 t => va_P D vwCl (mW cI cZ ad u9) t.heap) (cA mLs ad s.heap.size)) args s 0 0 (cA mLs ad s.heap.size)) (F0 m 25 ls []))
    : ∀ (n : Nat) (a2 : Int32) (a3 : Int32) (u : St) (H : Heap) (locs : List Loc) (ls : Array Slot), f_X7_choose_L4 a0 a1 Q K0 n a2 a3 u → va_P D vwCl (mW cI cZ ad u) H → va_S (cA mLs ad s.heap.size) s.heap H locs → lv_has ls 4 [(0, .int a0), (1, .int a1), (2, .int a2), (3, .int a3)] → W p l e (headSpec wsX7_choose { frames := 0, cells := 0, slots := 0, locals := 0 }).room s m args below meth c H locs 0 0 (MQ below (va_Qi Q (fun u9 t => va_P D vwCl (mW cI cZ ad u9) t.heap) (cA mLs ad s.heap.size)) args s 0 0 (cA mLs ad s.heap.size)) (F0 m 4 ls []) := by
  obtain ⟨hx, hb, hml, hown, hts, hr, hlocks, hwd, hC⟩ := id X
  have hK := hC.1
  intro n
  induction n with
  | zero =>
    intro a2 a3 u H locs ls h; exact h.elim
  | succ n ih =>
    intro a2 a3 u H locs ls h hP hS hl
    replace h : f_X7_choose_L4_s a0 a1 Q K0 (f_X7_choose_L4 a0 a1 Q K0 n) a2 a3 u := h
    unfold f_X7_choose_L4_s at h
    refine lv_iload_n hx hb dX7_choose_4 rfl (lv_at hl 3 rfl) ?_
    refine lv_iload_n hx hb dX7_choose_5 rfl (lv_at hl 1 rfl) ?_
    refine lv_icmp_ge (tgt := 25) hx hb dX7_choose_6 (by decide) (fun c1 => ?_) (fun c1 => ?_)
    · replace h := h.1 c1
      exact hk0 a2 _ _ _ _ h hP hS (lv_sub hl [2] rfl)
    · replace h := h.2 c1
      refine lv_iload_n hx hb dX7_choose_9 rfl (lv_at hl 2 rfl) ?_
      refine lv_iload_n hx hb dX7_choose_10 rfl (lv_at hl 0 rfl) ?_
      refine lv_iload_n hx hb dX7_choose_11 rfl (lv_at hl 3 rfl) ?_
      refine lv_isub hx hb dX7_choose_12 ?_
      refine lv_imul hx hb dX7_choose_13 ?_
      refine lv_iload_n hx hb dX7_choose_14 rfl (lv_at hl 3 rfl) ?_
      refine lv_iconst (v := 1) hx hb dX7_choose_15 (by decide) ?_
      refine lv_iadd hx hb dX7_choose_16 ?_
      refine lv_idiv hx hb dX7_choose_17 h.1 ?_
      replace h := h.2
      refine lv_topi (fun v2 ev2 => ?_)
      replace h := h v2 ev2
      refine lv_istore_n (lv' := [(2, .int v2), (0, .int a0), (1, .int a1), (3, .int a3)]) hx hb dX7_choose_18 rfl hl (by decide) rfl (fun ls hl => ?_)
      obtain ⟨v3, ev3⟩ : ∃ y : Int32, y = a3 + 1 := ⟨_, rfl⟩
      refine lv_iinc (v := v3) (lv' := [(3, .int v3), (2, .int v2), (0, .int a0), (1, .int a1)]) hx hb dX7_choose_19 hl (k := 3) rfl (by rw [ev3]; rfl) (by decide) rfl (fun ls hl => ?_)
      replace h := h v3 ev3
      refine lv_goto (tgt := 4) hx hb dX7_choose_22 (by decide) ?_
      exact ih v2 v3 _ _ _ _ h hP hS (lv_sub hl [2, 3, 1, 0] rfl)
set_option maxRecDepth 100000 in
set_option maxHeartbeats 4000000 in
theorem w_X7_choose {p : Program} {l : Launch} {e : Env} {s : State} {m : MethodId} {args : Array Value} {below : List Frame} {meth : Method} {c : Code} {D : va_G} {cI cG cZ cJ : ClassId} {ts : Nat × Nat}  {ad : Nat → Nat}  (X : FX RX7 wsX7_choose cX7_choose 4 (some .int) D cI cG cZ cJ ts mLs ad p s m args meth c) (a0 : Int32) (a1 : Int32) (Q : Int32 → St → Prop) (u : St) (H : Heap) (locs : List Loc) (ls : Array Slot) (h : f_X7_choose a0 a1 u Q) (hP : va_P D vwCl (mW cI cZ ad u) H) (hS : va_S (cA mLs ad s.heap.size) s.heap H locs) (hl : lv_has ls 4 [(0, .int a0), (1, .int a1)]) : W p l e (headSpec wsX7_choose { frames := 0, cells := 0, slots := 0, locals := 0 }).room s m args below meth c H locs 0 0 (MQ below (va_Qi Q (fun u9 t => va_P D vwCl (mW cI cZ ad u9) t.heap) (cA mLs ad s.heap.size)) args s 0 0 (cA mLs ad s.heap.size)) (F0 m 0 ls []) := by
  obtain ⟨hx, hb, hml, hown, hts, hr, hlocks, hwd, hC⟩ := id X
  have hK := hC.1
  unfold f_X7_choose at h
  refine lv_iconst (v := 1) hx hb dX7_choose_0 (by decide) ?_
  refine lv_istore_n (lv' := [(2, .int 1), (0, .int a0), (1, .int a1)]) hx hb dX7_choose_1 rfl hl (by decide) rfl (fun ls hl => ?_)
  refine lv_iconst (v := 0) hx hb dX7_choose_2 (by decide) ?_
  refine lv_istore_n (lv' := [(3, .int 0), (2, .int 1), (0, .int a0), (1, .int a1)]) hx hb dX7_choose_3 rfl hl (by decide) rfl (fun ls hl => ?_)
  obtain ⟨n4, h⟩ := h
  refine w_X7_choose_L4 X a0 a1 _ _ (fun v5 u6 H locs ls h hP hS hl => ?_) n4 1 0 _ _ _ _ h hP hS (lv_sub hl [2, 3, 1, 0] rfl)
  refine lv_iload_n hx hb dX7_choose_25 rfl (lv_at hl 0 rfl) ?_
  exact W.iret (v := v5) hx hb hr (fun t ht hW => ⟨⟨_, _, rfl, h, by show va_P _ _ _ t.heap; rw [ht]; exact hP⟩, hS.F ht⟩) hS.2.2 dX7_choose_26
set_option maxRecDepth 100000 in
set_option maxHeartbeats 4000000 in
theorem c_X7_choose {l : Launch} {D : va_G} {cI cG cZ cJ : ClassId} {ts : Nat × Nat} {ad : Nat → Nat} (hwd : WD mLs ad) (sz : Nat) (u : St) (a0 : Int32) (a1 : Int32) (Q : Int32 → St → Prop) (h : f_X7_choose a0 a1 u Q) : Met l yX7_choose wsX7_choose ({ frames := 0, cells := 0, slots := 0, locals := 0 }) (va_Pc [.int a0, .int a1] (PM D cI cG cZ cJ ts ad sz u)) (va_Qi Q (fun u9 t => va_P D vwCl (mW cI cZ ad u9) t.heap) (cA mLs ad sz)) 0 0 (cA mLs ad sz) := by
  refine Met.ofW (cc := cX7_choose) (maxL := 4) (ret := (some .int)) (by decide) rfl ?_
  intro p e s m args below meth c s₁ B hml hv
  obtain ⟨rfl, hsz, hP, hC⟩ := hv
  subst hsz
  have X : FX RX7 wsX7_choose cX7_choose 4 (some .int) D cI cG cZ cJ ts mLs ad p s m _ meth c := ⟨B.exec, B.bytes, hml, findClass_of_methodNamed B.named, atoms_spec (ws := wsX7_choose) B.pre, B.returns, B.notSynchronized, hwd, hC⟩
  have hl := lv_entry ([.int a0, .int a1]) (n := 4) (Nat.le_of_ble_eq_true rfl)
  rw [lg_entry_eq]
  generalize (lg_sl ([.int a0, .int a1]) ++ List.replicate (4 - (lg_sl ([.int a0, .int a1])).length) Slot.unset).toArray = ls at hl ⊢
  exact w_X7_choose X a0 a1 Q u _ _ _ h hP va_S.rf hl
set_option maxRecDepth 100000 in
set_option maxHeartbeats 4000000 in
theorem w_X7_transvected_L23 {p : Program} {l : Launch} {e : Env} {s : State} {m : MethodId} {args : Array Value} {below : List Frame} {meth : Method} {c : Code} {D : va_G} {cI cG cZ cJ : ClassId} {ts : Nat × Nat}  {ad : Nat → Nat}  (X : FX RX7 wsX7_transvected cX7_transvected 10 (some .int) D cI cG cZ cJ ts mLs ad p s m args meth c) (a1 : Int32) (a2 : Int32) (a3 : Int32) (a4 : Int32) (a5 : Int32) (Q : Int32 → St → Prop)
    (K0 : St → Prop) (hk0 : ∀ (u : St) (H : Heap) (locs : List Loc) (ls : Array Slot), K0 u → va_P D vwCl (mW cI cZ ad u) H → va_S (cA mLs ad s.heap.size) s.heap H locs → lv_has ls 10 [(0, .ref (ad 0)), (1, .int a1), (2, .int a2), (3, .int a3), (4, .int a4), (5, .int a5)] → W p l e (headSpec wsX7_transvected { frames := 2, cells := 0, slots := 0, locals := 48 }).room s m args below meth c H locs 0 0 (MQ below (va_Qi Q (fun u9 t => va_P D vwCl (mW cI cZ ad u9) t.heap) (cA mLs ad s.heap.size)) args s 0 0 (cA mLs ad s.heap.size)) (F0 m 44 ls []))
    : ∀ (n : Nat) (a6 : Int32) (u : St) (H : Heap) (locs : List Loc) (ls : Array Slot), f_X7_transvected_L23 a1 a2 a3 a4 a5 Q K0 n a6 u → va_P D vwCl (mW cI cZ ad u) H → va_S (cA mLs ad s.heap.size) s.heap H locs → lv_has ls 10 [(0, .ref (ad 0)), (1, .int a1), (2, .int a2), (3, .int a3), (4, .int a4), (5, .int a5), (6, .int a6)] → W p l e (headSpec wsX7_transvected { frames := 2, cells := 0, slots := 0, locals := 48 }).room s m args below meth c H locs 0 0 (MQ below (va_Qi Q (fun u9 t => va_P D vwCl (mW cI cZ ad u9) t.heap) (cA mLs ad s.heap.size)) args s 0 0 (cA mLs ad s.heap.size)) (F0 m 23 ls []) := by
  obtain ⟨hx, hb, hml, hown, hts, hr, hlocks, hwd, hC⟩ := id X
  have hK := hC.1
  have lk0 := hts (.fieldLink RX7 13 "FormForgeModel" "degree" "[I") (by decide +kernel)
  have lk1 := hts (.fieldLink RX7 42 "FormForgeModel" "whole" "[I") (by decide +kernel)
  have lk2 := hts (.fieldLink RX7 36 "FormForgeModel" "one" "[I") (by decide +kernel)
  have lk3 := hts (.fieldLink RX7 39 "FormForgeModel" "other" "[I") (by decide +kernel)
  have lk4 := hts (.fieldLink RX7 17 "FormForgeModel" "code" "[I") (by decide +kernel)
  have lk5 := hts (.fieldLink RX7 7 "FormForgeModel" "p" "I") (by decide +kernel)
  have n7 : ∀ w ∈ wsX70, w ∈ wsX7_transvected := by decide +kernel
  intro n
  induction n with
  | zero =>
    intro a6 u H locs ls h; exact h.elim
  | succ n ih =>
    intro a6 u H locs ls h hP hS hl
    replace h : f_X7_transvected_L23_s a1 a2 a3 a4 a5 Q K0 (f_X7_transvected_L23 a1 a2 a3 a4 a5 Q K0 n) a6 u := h
    unfold f_X7_transvected_L23_s at h
    refine lv_iload hx hb dX7_transvected_23 (lv_at hl 6 rfl) ?_
    refine lv_bipush (v := 9) hx hb dX7_transvected_25 (by decide) ?_
    refine lv_icmp_ge (tgt := 44) hx hb dX7_transvected_27 (by decide) (fun c5 => ?_) (fun c5 => ?_)
    · replace h := h.1 c5
      exact hk0  _ _ _ _ h hP hS (lv_sub hl [0, 1, 2, 3, 4, 5] rfl)
    · replace h := h.2 c5
      refine lv_aload_n hx hb dX7_transvected_30 rfl (lv_at hl 0 rfl) ?_
      refine va_get (C := RX7) (T := TX7) (N := 22) hx hb hts n7 hown hK hP 0 mg_0 rfl 15 (by decide) lk1 (fun _ h9 => h9) rfl dX7_transvected_31 ?_
      refine lv_iload hx hb dX7_transvected_34 (lv_at hl 6 rfl) ?_
      refine lv_iconst (v := 0) hx hb dX7_transvected_36 (by decide) ?_
      refine va_iast hx hb hK hP (cD hwd) hS 10 0 (mg_a ⟨by decide, by decide, by decide⟩) rfl h.1 dX7_transvected_37 (fun H locs hP _ hS => ?_)
      replace hP := mu_a hwd ⟨by decide, by decide, by decide⟩ hP
      obtain ⟨u6, eu6⟩ : ∃ y : St, y = su u 10 a6.toNatClampNeg 0 := ⟨_, rfl⟩
      rw [← eu6] at hP
      replace h := h.2 u6 eu6
      obtain ⟨v7, ev7⟩ : ∃ y : Int32, y = a6 + 1 := ⟨_, rfl⟩
      refine lv_iinc (v := v7) (lv' := [(6, .int v7), (0, .ref (ad 0)), (1, .int a1), (2, .int a2), (3, .int a3), (4, .int a4), (5, .int a5)]) hx hb dX7_transvected_38 hl (k := 6) rfl (by rw [ev7]; rfl) (by decide) rfl (fun ls hl => ?_)
      replace h := h v7 ev7
      refine lv_goto (tgt := 23) hx hb dX7_transvected_41 (by decide) ?_
      exact ih v7 _ _ _ _ h hP hS (lv_sub hl [1, 2, 3, 4, 5, 6, 0] rfl)
set_option maxRecDepth 100000 in
set_option maxHeartbeats 4000000 in
theorem w_X7_transvected_L56 {p : Program} {l : Launch} {e : Env} {s : State} {m : MethodId} {args : Array Value} {below : List Frame} {meth : Method} {c : Code} {D : va_G} {cI cG cZ cJ : ClassId} {ts : Nat × Nat}  {ad : Nat → Nat}  (X : FX RX7 wsX7_transvected cX7_transvected 10 (some .int) D cI cG cZ cJ ts mLs ad p s m args meth c) (a1 : Int32) (a2 : Int32) (a3 : Int32) (a4 : Int32) (a5 : Int32) (a6 : Int32) (Q : Int32 → St → Prop)
    (K0 : St → Prop) (hk0 : ∀ (u : St) (H : Heap) (locs : List Loc) (ls : Array Slot), K0 u → va_P D vwCl (mW cI cZ ad u) H → va_S (cA mLs ad s.heap.size) s.heap H locs → lv_has ls 10 [(0, .ref (ad 0)), (1, .int a1), (2, .int a2), (3, .int a3), (4, .int a4), (5, .int a5), (6, .int a6)] → W p l e (headSpec wsX7_transvected { frames := 2, cells := 0, slots := 0, locals := 48 }).room s m args below meth c H locs 0 0 (MQ below (va_Qi Q (fun u9 t => va_P D vwCl (mW cI cZ ad u9) t.heap) (cA mLs ad s.heap.size)) args s 0 0 (cA mLs ad s.heap.size)) (F0 m 136 ls []))
    : ∀ (n : Nat) (a7 : Int32) (u : St) (H : Heap) (locs : List Loc) (ls : Array Slot), f_X7_transvected_L56 a1 a2 a3 a4 a5 a6 Q K0 n a7 u → va_P D vwCl (mW cI cZ ad u) H → va_S (cA mLs ad s.heap.size) s.heap H locs → lv_has ls 10 [(0, .ref (ad 0)), (1, .int a1), (2, .int a2), (3, .int a3), (4, .int a4), (5, .int a5), (6, .int a6), (7, .int a7)] → W p l e (headSpec wsX7_transvected { frames := 2, cells := 0, slots := 0, locals := 48 }).room s m args below meth c H locs 0 0 (MQ below (va_Qi Q (fun u9 t => va_P D vwCl (mW cI cZ ad u9) t.heap) (cA mLs ad s.heap.size)) args s 0 0 (cA mLs ad s.heap.size)) (F0 m 56 ls []) := by
  obtain ⟨hx, hb, hml, hown, hts, hr, hlocks, hwd, hC⟩ := id X
  have hK := hC.1
  have lk0 := hts (.fieldLink RX7 13 "FormForgeModel" "degree" "[I") (by decide +kernel)
  have lk1 := hts (.fieldLink RX7 42 "FormForgeModel" "whole" "[I") (by decide +kernel)
  have lk2 := hts (.fieldLink RX7 36 "FormForgeModel" "one" "[I") (by decide +kernel)
  have lk3 := hts (.fieldLink RX7 39 "FormForgeModel" "other" "[I") (by decide +kernel)
  have lk4 := hts (.fieldLink RX7 17 "FormForgeModel" "code" "[I") (by decide +kernel)
  have lk5 := hts (.fieldLink RX7 7 "FormForgeModel" "p" "I") (by decide +kernel)
  have n7 : ∀ w ∈ wsX70, w ∈ wsX7_transvected := by decide +kernel
  intro n
  induction n with
  | zero =>
    intro a7 u H locs ls h; exact h.elim
  | succ n ih =>
    intro a7 u H locs ls h hP hS hl
    replace h : f_X7_transvected_L56_s a1 a2 a3 a4 a5 a6 Q K0 (f_X7_transvected_L56 a1 a2 a3 a4 a5 a6 Q K0 n) a7 u := h
    unfold f_X7_transvected_L56_s at h
    refine lv_iload hx hb dX7_transvected_56 (lv_at hl 7 rfl) ?_
    refine lv_iconst (v := 5) hx hb dX7_transvected_58 (by decide) ?_
    refine lv_icmp_ge (tgt := 136) hx hb dX7_transvected_59 (by decide) (fun c11 => ?_) (fun c11 => ?_)
    · replace h := h.1 c11
      exact hk0  _ _ _ _ h hP hS (lv_sub hl [0, 1, 2, 3, 4, 5, 6] rfl)
    · replace h := h.2 c11
      refine lv_aload_n hx hb dX7_transvected_62 rfl (lv_at hl 0 rfl) ?_
      refine va_get (C := RX7) (T := TX7) (N := 22) hx hb hts n7 hown hK hP 0 mg_0 rfl 13 (by decide) lk2 (fun _ h9 => h9) rfl dX7_transvected_63 ?_
      refine lv_iload hx hb dX7_transvected_66 (lv_at hl 7 rfl) ?_
      refine lv_iload hx hb dX7_transvected_68 (lv_at hl 7 rfl) ?_
      refine lv_aload_n hx hb dX7_transvected_70 rfl (lv_at hl 0 rfl) ?_
      refine va_get (C := RX7) (T := TX7) (N := 22) hx hb hts n7 hown hK hP 0 mg_0 rfl 2 (by decide) lk0 (fun _ h9 => h9) rfl dX7_transvected_71 ?_
      refine lv_iload_n hx hb dX7_transvected_74 rfl (lv_at hl 1 rfl) ?_
      refine va_iald hx hb hK hP 1 0 (mg_a ⟨by decide, by decide, by decide⟩) rfl h.1 dX7_transvected_75 ?_
      refine lv_topi (fun v12 ev12 => ?_)
      replace h := h.2 v12 ev12
      refine lv_icmp_gt (tgt := 94) hx hb dX7_transvected_76 (by decide) (fun c13 => ?_) (fun c13 => ?_)
      · replace h := h.1 c13
        refine lv_iconst (v := 0) hx hb dX7_transvected_94 (by decide) ?_
        refine va_iast hx hb hK hP (cD hwd) hS 8 0 (mg_a ⟨by decide, by decide, by decide⟩) rfl h.1 dX7_transvected_95 (fun H locs hP _ hS => ?_)
        replace hP := mu_a hwd ⟨by decide, by decide, by decide⟩ hP
        obtain ⟨u14, eu14⟩ : ∃ y : St, y = su u 8 a7.toNatClampNeg 0 := ⟨_, rfl⟩
        rw [← eu14] at hP
        replace h := h.2 u14 eu14
        refine lv_aload_n hx hb dX7_transvected_96 rfl (lv_at hl 0 rfl) ?_
        refine va_get (C := RX7) (T := TX7) (N := 22) hx hb hts n7 hown hK hP 0 mg_0 rfl 14 (by decide) lk3 (fun _ h9 => h9) rfl dX7_transvected_97 ?_
        refine lv_iload hx hb dX7_transvected_100 (lv_at hl 7 rfl) ?_
        refine lv_iload hx hb dX7_transvected_102 (lv_at hl 7 rfl) ?_
        refine lv_aload_n hx hb dX7_transvected_104 rfl (lv_at hl 0 rfl) ?_
        refine va_get (C := RX7) (T := TX7) (N := 22) hx hb hts n7 hown hK hP 0 mg_0 rfl 2 (by decide) lk0 (fun _ h9 => h9) rfl dX7_transvected_105 ?_
        refine lv_iload_n hx hb dX7_transvected_108 rfl (lv_at hl 2 rfl) ?_
        refine va_iald hx hb hK hP 1 0 (mg_a ⟨by decide, by decide, by decide⟩) rfl h.1 dX7_transvected_109 ?_
        refine lv_topi (fun v15 ev15 => ?_)
        replace h := h.2 v15 ev15
        refine lv_icmp_gt (tgt := 128) hx hb dX7_transvected_110 (by decide) (fun c16 => ?_) (fun c16 => ?_)
        · replace h := h.1 c16
          refine lv_iconst (v := 0) hx hb dX7_transvected_128 (by decide) ?_
          refine va_iast hx hb hK hP (cD hwd) hS 9 0 (mg_a ⟨by decide, by decide, by decide⟩) rfl h.1 dX7_transvected_129 (fun H locs hP _ hS => ?_)
          replace hP := mu_a hwd ⟨by decide, by decide, by decide⟩ hP
          obtain ⟨u17, eu17⟩ : ∃ y : St, y = su u14 9 a7.toNatClampNeg 0 := ⟨_, rfl⟩
          rw [← eu17] at hP
          replace h := h.2 u17 eu17
          obtain ⟨v18, ev18⟩ : ∃ y : Int32, y = a7 + 1 := ⟨_, rfl⟩
          refine lv_iinc (v := v18) (lv' := [(7, .int v18), (0, .ref (ad 0)), (1, .int a1), (2, .int a2), (3, .int a3), (4, .int a4), (5, .int a5), (6, .int a6)]) hx hb dX7_transvected_130 hl (k := 7) rfl (by rw [ev18]; rfl) (by decide) rfl (fun ls hl => ?_)
          replace h := h v18 ev18
          refine lv_goto (tgt := 56) hx hb dX7_transvected_133 (by decide) ?_
          exact ih v18 _ _ _ _ h hP hS (lv_sub hl [1, 2, 3, 4, 5, 6, 7, 0] rfl)
        · replace h := h.2 c16
          refine lv_aload_n hx hb dX7_transvected_113 rfl (lv_at hl 0 rfl) ?_
          refine lv_aload_n hx hb dX7_transvected_114 rfl (lv_at hl 0 rfl) ?_
          refine va_get (C := RX7) (T := TX7) (N := 22) hx hb hts n7 hown hK hP 0 mg_0 rfl 3 (by decide) lk4 (fun _ h9 => h9) rfl dX7_transvected_115 ?_
          refine lv_iload_n hx hb dX7_transvected_118 rfl (lv_at hl 2 rfl) ?_
          refine va_iald hx hb hK hP 2 0 (mg_a ⟨by decide, by decide, by decide⟩) rfl h.1 dX7_transvected_119 ?_
          refine lv_topi (fun v19 ev19 => ?_)
          replace h := h.2 v19 ev19
          refine lv_iload hx hb dX7_transvected_120 (lv_at hl 7 rfl) ?_
          refine cc_i (va_runV (C := RX7) (As := [.int v19, .int a7]) (rest := [.int a7, .ref (ad 9)]) ⟨hx, hb, hml, hown, hts⟩ (c_X7_figure hwd H.size u14 v19 a7 _ h) (cwV 2 hts gX7_transvected_X7_figure rfl rfl rfl (by decide +kernel) ⟨Nat.le_of_ble_eq_true rfl, Nat.le_of_ble_eq_true rfl⟩) (pmV hC hP hS mg_0 rfl) rfl rfl hl.1 rfl (lv_room (Nat.le_of_ble_eq_true rfl)) dX7_transvected_122 ⟨Nat.zero_le _, Nat.zero_le _⟩) hS (cA_mono hS.1) (fun v20 u21 H locs h hP hS => ?_)
          refine lv_goto (tgt := 129) hx hb dX7_transvected_125 (by decide) ?_
          refine va_iast hx hb hK hP (cD hwd) hS 9 0 (mg_a ⟨by decide, by decide, by decide⟩) rfl h.1 dX7_transvected_129 (fun H locs hP _ hS => ?_)
          replace hP := mu_a hwd ⟨by decide, by decide, by decide⟩ hP
          obtain ⟨u22, eu22⟩ : ∃ y : St, y = su u21 9 a7.toNatClampNeg v20 := ⟨_, rfl⟩
          rw [← eu22] at hP
          replace h := h.2 u22 eu22
          obtain ⟨v23, ev23⟩ : ∃ y : Int32, y = a7 + 1 := ⟨_, rfl⟩
          refine lv_iinc (v := v23) (lv' := [(7, .int v23), (0, .ref (ad 0)), (1, .int a1), (2, .int a2), (3, .int a3), (4, .int a4), (5, .int a5), (6, .int a6)]) hx hb dX7_transvected_130 hl (k := 7) rfl (by rw [ev23]; rfl) (by decide) rfl (fun ls hl => ?_)
          replace h := h v23 ev23
          refine lv_goto (tgt := 56) hx hb dX7_transvected_133 (by decide) ?_
          exact ih v23 _ _ _ _ h hP hS (lv_sub hl [1, 2, 3, 4, 5, 6, 7, 0] rfl)
      · replace h := h.2 c13
        refine lv_aload_n hx hb dX7_transvected_79 rfl (lv_at hl 0 rfl) ?_
        refine lv_aload_n hx hb dX7_transvected_80 rfl (lv_at hl 0 rfl) ?_
        refine va_get (C := RX7) (T := TX7) (N := 22) hx hb hts n7 hown hK hP 0 mg_0 rfl 3 (by decide) lk4 (fun _ h9 => h9) rfl dX7_transvected_81 ?_
        refine lv_iload_n hx hb dX7_transvected_84 rfl (lv_at hl 1 rfl) ?_
        refine va_iald hx hb hK hP 2 0 (mg_a ⟨by decide, by decide, by decide⟩) rfl h.1 dX7_transvected_85 ?_
        refine lv_topi (fun v24 ev24 => ?_)
        replace h := h.2 v24 ev24
        refine lv_iload hx hb dX7_transvected_86 (lv_at hl 7 rfl) ?_
        refine cc_i (va_runV (C := RX7) (As := [.int v24, .int a7]) (rest := [.int a7, .ref (ad 8)]) ⟨hx, hb, hml, hown, hts⟩ (c_X7_figure hwd H.size u v24 a7 _ h) (cwV 2 hts gX7_transvected_X7_figure rfl rfl rfl (by decide +kernel) ⟨Nat.le_of_ble_eq_true rfl, Nat.le_of_ble_eq_true rfl⟩) (pmV hC hP hS mg_0 rfl) rfl rfl hl.1 rfl (lv_room (Nat.le_of_ble_eq_true rfl)) dX7_transvected_88 ⟨Nat.zero_le _, Nat.zero_le _⟩) hS (cA_mono hS.1) (fun v25 u26 H locs h hP hS => ?_)
        refine lv_goto (tgt := 95) hx hb dX7_transvected_91 (by decide) ?_
        refine va_iast hx hb hK hP (cD hwd) hS 8 0 (mg_a ⟨by decide, by decide, by decide⟩) rfl h.1 dX7_transvected_95 (fun H locs hP _ hS => ?_)
        replace hP := mu_a hwd ⟨by decide, by decide, by decide⟩ hP
        obtain ⟨u27, eu27⟩ : ∃ y : St, y = su u26 8 a7.toNatClampNeg v25 := ⟨_, rfl⟩
        rw [← eu27] at hP
        replace h := h.2 u27 eu27
        refine lv_aload_n hx hb dX7_transvected_96 rfl (lv_at hl 0 rfl) ?_
        refine va_get (C := RX7) (T := TX7) (N := 22) hx hb hts n7 hown hK hP 0 mg_0 rfl 14 (by decide) lk3 (fun _ h9 => h9) rfl dX7_transvected_97 ?_
        refine lv_iload hx hb dX7_transvected_100 (lv_at hl 7 rfl) ?_
        refine lv_iload hx hb dX7_transvected_102 (lv_at hl 7 rfl) ?_
        refine lv_aload_n hx hb dX7_transvected_104 rfl (lv_at hl 0 rfl) ?_
        refine va_get (C := RX7) (T := TX7) (N := 22) hx hb hts n7 hown hK hP 0 mg_0 rfl 2 (by decide) lk0 (fun _ h9 => h9) rfl dX7_transvected_105 ?_
        refine lv_iload_n hx hb dX7_transvected_108 rfl (lv_at hl 2 rfl) ?_
        refine va_iald hx hb hK hP 1 0 (mg_a ⟨by decide, by decide, by decide⟩) rfl h.1 dX7_transvected_109 ?_
        refine lv_topi (fun v28 ev28 => ?_)
        replace h := h.2 v28 ev28
        refine lv_icmp_gt (tgt := 128) hx hb dX7_transvected_110 (by decide) (fun c29 => ?_) (fun c29 => ?_)
        · replace h := h.1 c29
          refine lv_iconst (v := 0) hx hb dX7_transvected_128 (by decide) ?_
          refine va_iast hx hb hK hP (cD hwd) hS 9 0 (mg_a ⟨by decide, by decide, by decide⟩) rfl h.1 dX7_transvected_129 (fun H locs hP _ hS => ?_)
          replace hP := mu_a hwd ⟨by decide, by decide, by decide⟩ hP
          obtain ⟨u30, eu30⟩ : ∃ y : St, y = su u27 9 a7.toNatClampNeg 0 := ⟨_, rfl⟩
          rw [← eu30] at hP
          replace h := h.2 u30 eu30
          obtain ⟨v31, ev31⟩ : ∃ y : Int32, y = a7 + 1 := ⟨_, rfl⟩
          refine lv_iinc (v := v31) (lv' := [(7, .int v31), (0, .ref (ad 0)), (1, .int a1), (2, .int a2), (3, .int a3), (4, .int a4), (5, .int a5), (6, .int a6)]) hx hb dX7_transvected_130 hl (k := 7) rfl (by rw [ev31]; rfl) (by decide) rfl (fun ls hl => ?_)
          replace h := h v31 ev31
          refine lv_goto (tgt := 56) hx hb dX7_transvected_133 (by decide) ?_
          exact ih v31 _ _ _ _ h hP hS (lv_sub hl [1, 2, 3, 4, 5, 6, 7, 0] rfl)
        · replace h := h.2 c29
          refine lv_aload_n hx hb dX7_transvected_113 rfl (lv_at hl 0 rfl) ?_
          refine lv_aload_n hx hb dX7_transvected_114 rfl (lv_at hl 0 rfl) ?_
          refine va_get (C := RX7) (T := TX7) (N := 22) hx hb hts n7 hown hK hP 0 mg_0 rfl 3 (by decide) lk4 (fun _ h9 => h9) rfl dX7_transvected_115 ?_
          refine lv_iload_n hx hb dX7_transvected_118 rfl (lv_at hl 2 rfl) ?_
          refine va_iald hx hb hK hP 2 0 (mg_a ⟨by decide, by decide, by decide⟩) rfl h.1 dX7_transvected_119 ?_
          refine lv_topi (fun v32 ev32 => ?_)
          replace h := h.2 v32 ev32
          refine lv_iload hx hb dX7_transvected_120 (lv_at hl 7 rfl) ?_
          refine cc_i (va_runV (C := RX7) (As := [.int v32, .int a7]) (rest := [.int a7, .ref (ad 9)]) ⟨hx, hb, hml, hown, hts⟩ (c_X7_figure hwd H.size u27 v32 a7 _ h) (cwV 2 hts gX7_transvected_X7_figure rfl rfl rfl (by decide +kernel) ⟨Nat.le_of_ble_eq_true rfl, Nat.le_of_ble_eq_true rfl⟩) (pmV hC hP hS mg_0 rfl) rfl rfl hl.1 rfl (lv_room (Nat.le_of_ble_eq_true rfl)) dX7_transvected_122 ⟨Nat.zero_le _, Nat.zero_le _⟩) hS (cA_mono hS.1) (fun v33 u34 H locs h hP hS => ?_)
          refine lv_goto (tgt := 129) hx hb dX7_transvected_125 (by decide) ?_
          refine va_iast hx hb hK hP (cD hwd) hS 9 0 (mg_a ⟨by decide, by decide, by decide⟩) rfl h.1 dX7_transvected_129 (fun H locs hP _ hS => ?_)
          replace hP := mu_a hwd ⟨by decide, by decide, by decide⟩ hP
          obtain ⟨u35, eu35⟩ : ∃ y : St, y = su u34 9 a7.toNatClampNeg v33 := ⟨_, rfl⟩
          rw [← eu35] at hP
          replace h := h.2 u35 eu35
          obtain ⟨v36, ev36⟩ : ∃ y : Int32, y = a7 + 1 := ⟨_, rfl⟩
          refine lv_iinc (v := v36) (lv' := [(7, .int v36), (0, .ref (ad 0)), (1, .int a1), (2, .int a2), (3, .int a3), (4, .int a4), (5, .int a5), (6, .int a6)]) hx hb dX7_transvected_130 hl (k := 7) rfl (by rw [ev36]; rfl) (by decide) rfl (fun ls hl => ?_)
          replace h := h v36 ev36
          refine lv_goto (tgt := 56) hx hb dX7_transvected_133 (by decide) ?_
          exact ih v36 _ _ _ _ h hP hS (lv_sub hl [1, 2, 3, 4, 5, 6, 7, 0] rfl)
set_option maxRecDepth 100000 in
set_option maxHeartbeats 4000000 in
theorem w_X7_transvected_L217 {p : Program} {l : Launch} {e : Env} {s : State} {m : MethodId} {args : Array Value} {below : List Frame} {meth : Method} {c : Code} {D : va_G} {cI cG cZ cJ : ClassId} {ts : Nat × Nat}  {ad : Nat → Nat}  (X : FX RX7 wsX7_transvected cX7_transvected 10 (some .int) D cI cG cZ cJ ts mLs ad p s m args meth c) (a1 : Int32) (a2 : Int32) (a3 : Int32) (a4 : Int32) (a5 : Int32) (a6 : Int32) (a7 : Int32) (a8 : Int32) (Q : Int32 → St → Prop)
    (K0 : St → Prop) (hk0 : ∀ (u : St) (H : Heap) (locs : List Loc) (ls : Array Slot), K0 u → va_P D vwCl (mW cI cZ ad u) H → va_S (cA mLs ad s.heap.size) s.heap H locs → lv_has ls 10 [(0, .ref (ad 0)), (1, .int a1), (2, .int a2), (3, .int a3), (4, .int a4), (5, .int a5), (6, .int a6), (7, .int a7), (8, .int a8)] → W p l e (headSpec wsX7_transvected { frames := 2, cells := 0, slots := 0, locals := 48 }).room s m args below meth c H locs 0 0 (MQ below (va_Qi Q (fun u9 t => va_P D vwCl (mW cI cZ ad u9) t.heap) (cA mLs ad s.heap.size)) args s 0 0 (cA mLs ad s.heap.size)) (F0 m 286 ls []))
    : ∀ (n : Nat) (a9 : Int32) (u : St) (H : Heap) (locs : List Loc) (ls : Array Slot), f_X7_transvected_L217 a1 a2 a3 a4 a5 a6 a7 a8 Q K0 n a9 u → va_P D vwCl (mW cI cZ ad u) H → va_S (cA mLs ad s.heap.size) s.heap H locs → lv_has ls 10 [(0, .ref (ad 0)), (1, .int a1), (2, .int a2), (3, .int a3), (4, .int a4), (5, .int a5), (6, .int a6), (7, .int a7), (8, .int a8), (9, .int a9)] → W p l e (headSpec wsX7_transvected { frames := 2, cells := 0, slots := 0, locals := 48 }).room s m args below meth c H locs 0 0 (MQ below (va_Qi Q (fun u9 t => va_P D vwCl (mW cI cZ ad u9) t.heap) (cA mLs ad s.heap.size)) args s 0 0 (cA mLs ad s.heap.size)) (F0 m 217 ls []) := by
  obtain ⟨hx, hb, hml, hown, hts, hr, hlocks, hwd, hC⟩ := id X
  have hK := hC.1
  have lk0 := hts (.fieldLink RX7 13 "FormForgeModel" "degree" "[I") (by decide +kernel)
  have lk1 := hts (.fieldLink RX7 42 "FormForgeModel" "whole" "[I") (by decide +kernel)
  have lk2 := hts (.fieldLink RX7 36 "FormForgeModel" "one" "[I") (by decide +kernel)
  have lk3 := hts (.fieldLink RX7 39 "FormForgeModel" "other" "[I") (by decide +kernel)
  have lk4 := hts (.fieldLink RX7 17 "FormForgeModel" "code" "[I") (by decide +kernel)
  have lk5 := hts (.fieldLink RX7 7 "FormForgeModel" "p" "I") (by decide +kernel)
  have n7 : ∀ w ∈ wsX70, w ∈ wsX7_transvected := by decide +kernel
  intro n
  induction n with
  | zero =>
    intro a9 u H locs ls h; exact h.elim
  | succ n ih =>
    intro a9 u H locs ls h hP hS hl
    replace h : f_X7_transvected_L217_s a1 a2 a3 a4 a5 a6 a7 a8 Q K0 (f_X7_transvected_L217 a1 a2 a3 a4 a5 a6 a7 a8 Q K0 n) a9 u := h
    unfold f_X7_transvected_L217_s at h
    refine lv_iload hx hb dX7_transvected_217 (lv_at hl 9 rfl) ?_
    refine lv_iload hx hb dX7_transvected_219 (lv_at hl 8 rfl) ?_
    refine lv_icmp_gt (tgt := 286) hx hb dX7_transvected_221 (by decide) (fun c49 => ?_) (fun c49 => ?_)
    · replace h := h.1 c49
      exact hk0  _ _ _ _ h hP hS (lv_sub hl [0, 1, 2, 3, 4, 5, 6, 7, 8] rfl)
    · replace h := h.2 c49
      refine lv_aload_n hx hb dX7_transvected_224 rfl (lv_at hl 0 rfl) ?_
      refine va_get (C := RX7) (T := TX7) (N := 22) hx hb hts n7 hown hK hP 0 mg_0 rfl 15 (by decide) lk1 (fun _ h9 => h9) rfl dX7_transvected_225 ?_
      refine lv_iload hx hb dX7_transvected_228 (lv_at hl 8 rfl) ?_
      refine lv_dup2_11 hx hb dX7_transvected_230 rfl rfl ?_
      refine va_iald hx hb hK hP 10 0 (mg_a ⟨by decide, by decide, by decide⟩) rfl h.1 dX7_transvected_231 ?_
      refine lv_topi (fun v50 ev50 => ?_)
      replace h := h.2 v50 ev50
      refine lv_iload hx hb dX7_transvected_232 (lv_at hl 9 rfl) ?_
      refine lv_iload hx hb dX7_transvected_234 (lv_at hl 4 rfl) ?_
      refine lv_icmp_gt (tgt := 277) hx hb dX7_transvected_236 (by decide) (fun c51 => ?_) (fun c51 => ?_)
      · replace h := h.1 c51
        refine lv_iconst (v := 0) hx hb dX7_transvected_277 (by decide) ?_
        refine lv_iadd hx hb dX7_transvected_278 ?_
        refine va_iast hx hb hK hP (cD hwd) hS 10 0 (mg_a ⟨by decide, by decide, by decide⟩) rfl h.1 dX7_transvected_279 (fun H locs hP _ hS => ?_)
        replace hP := mu_a hwd ⟨by decide, by decide, by decide⟩ hP
        obtain ⟨u52, eu52⟩ : ∃ y : St, y = su u 10 a8.toNatClampNeg (v50 + 0) := ⟨_, rfl⟩
        rw [← eu52] at hP
        replace h := h.2 u52 eu52
        obtain ⟨v53, ev53⟩ : ∃ y : Int32, y = a9 + 1 := ⟨_, rfl⟩
        refine lv_iinc (v := v53) (lv' := [(9, .int v53), (0, .ref (ad 0)), (1, .int a1), (2, .int a2), (3, .int a3), (4, .int a4), (5, .int a5), (6, .int a6), (7, .int a7), (8, .int a8)]) hx hb dX7_transvected_280 hl (k := 9) rfl (by rw [ev53]; rfl) (by decide) rfl (fun ls hl => ?_)
        replace h := h v53 ev53
        refine lv_goto (tgt := 217) hx hb dX7_transvected_283 (by decide) ?_
        exact ih v53 _ _ _ _ h hP hS (lv_sub hl [1, 2, 3, 4, 5, 6, 7, 8, 9, 0] rfl)
      · replace h := h.2 c51
        refine lv_iload hx hb dX7_transvected_239 (lv_at hl 8 rfl) ?_
        refine lv_iload hx hb dX7_transvected_241 (lv_at hl 9 rfl) ?_
        refine lv_isub hx hb dX7_transvected_243 ?_
        refine lv_iload hx hb dX7_transvected_244 (lv_at hl 5 rfl) ?_
        refine lv_icmp_gt (tgt := 277) hx hb dX7_transvected_246 (by decide) (fun c54 => ?_) (fun c54 => ?_)
        · replace h := h.1 c54
          refine lv_iconst (v := 0) hx hb dX7_transvected_277 (by decide) ?_
          refine lv_iadd hx hb dX7_transvected_278 ?_
          refine va_iast hx hb hK hP (cD hwd) hS 10 0 (mg_a ⟨by decide, by decide, by decide⟩) rfl h.1 dX7_transvected_279 (fun H locs hP _ hS => ?_)
          replace hP := mu_a hwd ⟨by decide, by decide, by decide⟩ hP
          obtain ⟨u55, eu55⟩ : ∃ y : St, y = su u 10 a8.toNatClampNeg (v50 + 0) := ⟨_, rfl⟩
          rw [← eu55] at hP
          replace h := h.2 u55 eu55
          obtain ⟨v56, ev56⟩ : ∃ y : Int32, y = a9 + 1 := ⟨_, rfl⟩
          refine lv_iinc (v := v56) (lv' := [(9, .int v56), (0, .ref (ad 0)), (1, .int a1), (2, .int a2), (3, .int a3), (4, .int a4), (5, .int a5), (6, .int a6), (7, .int a7), (8, .int a8)]) hx hb dX7_transvected_280 hl (k := 9) rfl (by rw [ev56]; rfl) (by decide) rfl (fun ls hl => ?_)
          replace h := h v56 ev56
          refine lv_goto (tgt := 217) hx hb dX7_transvected_283 (by decide) ?_
          exact ih v56 _ _ _ _ h hP hS (lv_sub hl [1, 2, 3, 4, 5, 6, 7, 8, 9, 0] rfl)
        · replace h := h.2 c54
          refine lv_aload_n hx hb dX7_transvected_249 rfl (lv_at hl 0 rfl) ?_
          refine lv_iload hx hb dX7_transvected_250 (lv_at hl 7 rfl) ?_
          refine lv_aload_n hx hb dX7_transvected_252 rfl (lv_at hl 0 rfl) ?_
          refine va_get (C := RX7) (T := TX7) (N := 22) hx hb hts n7 hown hK hP 0 mg_0 rfl 13 (by decide) lk2 (fun _ h9 => h9) rfl dX7_transvected_253 ?_
          refine lv_iload hx hb dX7_transvected_256 (lv_at hl 9 rfl) ?_
          refine va_iald hx hb hK hP 8 0 (mg_a ⟨by decide, by decide, by decide⟩) rfl h.1 dX7_transvected_258 ?_
          refine lv_topi (fun v57 ev57 => ?_)
          replace h := h.2 v57 ev57
          refine lv_imul hx hb dX7_transvected_259 ?_
          refine lv_aload_n hx hb dX7_transvected_260 rfl (lv_at hl 0 rfl) ?_
          refine va_get (C := RX7) (T := TX7) (N := 22) hx hb hts n7 hown hK hP 0 mg_0 rfl 14 (by decide) lk3 (fun _ h9 => h9) rfl dX7_transvected_261 ?_
          refine lv_iload hx hb dX7_transvected_264 (lv_at hl 8 rfl) ?_
          refine lv_iload hx hb dX7_transvected_266 (lv_at hl 9 rfl) ?_
          refine lv_isub hx hb dX7_transvected_268 ?_
          refine va_iald hx hb hK hP 9 0 (mg_a ⟨by decide, by decide, by decide⟩) rfl h.1 dX7_transvected_269 ?_
          refine lv_topi (fun v58 ev58 => ?_)
          replace h := h.2 v58 ev58
          refine lv_imul hx hb dX7_transvected_270 ?_
          refine cc_i (va_runV (C := RX7) (As := [.int ((a7 * v57) * v58)]) (rest := [.int v50, .int a8, .ref (ad 10)]) ⟨hx, hb, hml, hown, hts⟩ (c_X7_mod hwd H.size u ((a7 * v57) * v58) _ h) (cwV 1 hts gX7_transvected_X7_mod rfl rfl rfl (by decide +kernel) ⟨Nat.le_of_ble_eq_true rfl, Nat.le_of_ble_eq_true rfl⟩) (pmV hC hP hS mg_0 rfl) rfl rfl hl.1 rfl (lv_room (Nat.le_of_ble_eq_true rfl)) dX7_transvected_271 ⟨Nat.zero_le _, Nat.zero_le _⟩) hS (cA_mono hS.1) (fun v59 u60 H locs h hP hS => ?_)
          refine lv_goto (tgt := 278) hx hb dX7_transvected_274 (by decide) ?_
          refine lv_iadd hx hb dX7_transvected_278 ?_
          refine va_iast hx hb hK hP (cD hwd) hS 10 0 (mg_a ⟨by decide, by decide, by decide⟩) rfl h.1 dX7_transvected_279 (fun H locs hP _ hS => ?_)
          replace hP := mu_a hwd ⟨by decide, by decide, by decide⟩ hP
          obtain ⟨u61, eu61⟩ : ∃ y : St, y = su u60 10 a8.toNatClampNeg (v50 + v59) := ⟨_, rfl⟩
          rw [← eu61] at hP
          replace h := h.2 u61 eu61
          obtain ⟨v62, ev62⟩ : ∃ y : Int32, y = a9 + 1 := ⟨_, rfl⟩
          refine lv_iinc (v := v62) (lv' := [(9, .int v62), (0, .ref (ad 0)), (1, .int a1), (2, .int a2), (3, .int a3), (4, .int a4), (5, .int a5), (6, .int a6), (7, .int a7), (8, .int a8)]) hx hb dX7_transvected_280 hl (k := 9) rfl (by rw [ev62]; rfl) (by decide) rfl (fun ls hl => ?_)
          replace h := h v62 ev62
          refine lv_goto (tgt := 217) hx hb dX7_transvected_283 (by decide) ?_
          exact ih v62 _ _ _ _ h hP hS (lv_sub hl [1, 2, 3, 4, 5, 6, 7, 8, 9, 0] rfl)
set_option maxRecDepth 100000 in
set_option maxHeartbeats 4000000 in
theorem w_X7_transvected_L204 {p : Program} {l : Launch} {e : Env} {s : State} {m : MethodId} {args : Array Value} {below : List Frame} {meth : Method} {c : Code} {D : va_G} {cI cG cZ cJ : ClassId} {ts : Nat × Nat}  {ad : Nat → Nat}  (X : FX RX7 wsX7_transvected cX7_transvected 10 (some .int) D cI cG cZ cJ ts mLs ad p s m args meth c) (a1 : Int32) (a2 : Int32) (a3 : Int32) (a4 : Int32) (a5 : Int32) (a6 : Int32) (a7 : Int32) (Q : Int32 → St → Prop)
    (K0 : St → Prop) (hk0 : ∀ (u : St) (H : Heap) (locs : List Loc) (ls : Array Slot), K0 u → va_P D vwCl (mW cI cZ ad u) H → va_S (cA mLs ad s.heap.size) s.heap H locs → lv_has ls 10 [(0, .ref (ad 0)), (1, .int a1), (2, .int a2), (3, .int a3), (4, .int a4), (5, .int a5), (6, .int a6)] → W p l e (headSpec wsX7_transvected { frames := 2, cells := 0, slots := 0, locals := 48 }).room s m args below meth c H locs 0 0 (MQ below (va_Qi Q (fun u9 t => va_P D vwCl (mW cI cZ ad u9) t.heap) (cA mLs ad s.heap.size)) args s 0 0 (cA mLs ad s.heap.size)) (F0 m 292 ls []))
    : ∀ (n : Nat) (a8 : Int32) (u : St) (H : Heap) (locs : List Loc) (ls : Array Slot), f_X7_transvected_L204 a1 a2 a3 a4 a5 a6 a7 Q K0 n a8 u → va_P D vwCl (mW cI cZ ad u) H → va_S (cA mLs ad s.heap.size) s.heap H locs → lv_has ls 10 [(0, .ref (ad 0)), (1, .int a1), (2, .int a2), (3, .int a3), (4, .int a4), (5, .int a5), (6, .int a6), (7, .int a7), (8, .int a8)] → W p l e (headSpec wsX7_transvected { frames := 2, cells := 0, slots := 0, locals := 48 }).room s m args below meth c H locs 0 0 (MQ below (va_Qi Q (fun u9 t => va_P D vwCl (mW cI cZ ad u9) t.heap) (cA mLs ad s.heap.size)) args s 0 0 (cA mLs ad s.heap.size)) (F0 m 204 ls []) := by
  obtain ⟨hx, hb, hml, hown, hts, hr, hlocks, hwd, hC⟩ := id X
  have hK := hC.1
  have lk0 := hts (.fieldLink RX7 13 "FormForgeModel" "degree" "[I") (by decide +kernel)
  have lk1 := hts (.fieldLink RX7 42 "FormForgeModel" "whole" "[I") (by decide +kernel)
  have lk2 := hts (.fieldLink RX7 36 "FormForgeModel" "one" "[I") (by decide +kernel)
  have lk3 := hts (.fieldLink RX7 39 "FormForgeModel" "other" "[I") (by decide +kernel)
  have lk4 := hts (.fieldLink RX7 17 "FormForgeModel" "code" "[I") (by decide +kernel)
  have lk5 := hts (.fieldLink RX7 7 "FormForgeModel" "p" "I") (by decide +kernel)
  have n7 : ∀ w ∈ wsX70, w ∈ wsX7_transvected := by decide +kernel
  intro n
  induction n with
  | zero =>
    intro a8 u H locs ls h; exact h.elim
  | succ n ih =>
    intro a8 u H locs ls h hP hS hl
    replace h : f_X7_transvected_L204_s a1 a2 a3 a4 a5 a6 a7 Q K0 (f_X7_transvected_L204 a1 a2 a3 a4 a5 a6 a7 Q K0 n) a8 u := h
    unfold f_X7_transvected_L204_s at h
    refine lv_iload hx hb dX7_transvected_204 (lv_at hl 8 rfl) ?_
    refine lv_iload hx hb dX7_transvected_206 (lv_at hl 4 rfl) ?_
    refine lv_iload hx hb dX7_transvected_208 (lv_at hl 5 rfl) ?_
    refine lv_iadd hx hb dX7_transvected_210 ?_
    refine lv_icmp_gt (tgt := 292) hx hb dX7_transvected_211 (by decide) (fun c48 => ?_) (fun c48 => ?_)
    · replace h := h.1 c48
      exact hk0  _ _ _ _ h hP hS (lv_sub hl [0, 1, 2, 3, 4, 5, 6] rfl)
    · replace h := h.2 c48
      refine lv_iconst (v := 0) hx hb dX7_transvected_214 (by decide) ?_
      refine lv_istore (lv' := [(9, .int 0), (0, .ref (ad 0)), (1, .int a1), (2, .int a2), (3, .int a3), (4, .int a4), (5, .int a5), (6, .int a6), (7, .int a7), (8, .int a8)]) hx hb dX7_transvected_215 hl (by decide) rfl (fun ls hl => ?_)
      obtain ⟨n63, h⟩ := h
      refine w_X7_transvected_L217 X a1 a2 a3 a4 a5 a6 a7 a8 _ _ (fun u64 H locs ls h hP hS hl => ?_) n63 0 _ _ _ _ h hP hS (lv_sub hl [1, 2, 3, 4, 5, 6, 7, 8, 9, 0] rfl)
      obtain ⟨v65, ev65⟩ : ∃ y : Int32, y = a8 + 1 := ⟨_, rfl⟩
      refine lv_iinc (v := v65) (lv' := [(8, .int v65), (0, .ref (ad 0)), (1, .int a1), (2, .int a2), (3, .int a3), (4, .int a4), (5, .int a5), (6, .int a6), (7, .int a7)]) hx hb dX7_transvected_286 hl (k := 8) rfl (by rw [ev65]; rfl) (by decide) rfl (fun ls hl => ?_)
      replace h := h v65 ev65
      refine lv_goto (tgt := 204) hx hb dX7_transvected_289 (by decide) ?_
      exact ih v65 _ _ _ _ h hP hS (lv_sub hl [1, 2, 3, 4, 5, 6, 7, 8, 0] rfl)
set_option maxRecDepth 100000 in
set_option maxHeartbeats 4000000 in
theorem w_X7_transvected_L47 {p : Program} {l : Launch} {e : Env} {s : State} {m : MethodId} {args : Array Value} {below : List Frame} {meth : Method} {c : Code} {D : va_G} {cI cG cZ cJ : ClassId} {ts : Nat × Nat}  {ad : Nat → Nat}  (X : FX RX7 wsX7_transvected cX7_transvected 10 (some .int) D cI cG cZ cJ ts mLs ad p s m args meth c) (a1 : Int32) (a2 : Int32) (a3 : Int32) (a4 : Int32) (a5 : Int32) (Q : Int32 → St → Prop)
    (K0 : St → Prop) (hk0 : ∀ (u : St) (H : Heap) (locs : List Loc) (ls : Array Slot), K0 u → va_P D vwCl (mW cI cZ ad u) H → va_S (cA mLs ad s.heap.size) s.heap H locs → lv_has ls 10 [(0, .ref (ad 0)), (4, .int a4), (5, .int a5)] → W p l e (headSpec wsX7_transvected { frames := 2, cells := 0, slots := 0, locals := 48 }).room s m args below meth c H locs 0 0 (MQ below (va_Qi Q (fun u9 t => va_P D vwCl (mW cI cZ ad u9) t.heap) (cA mLs ad s.heap.size)) args s 0 0 (cA mLs ad s.heap.size)) (F0 m 298 ls []))
    : ∀ (n : Nat) (a6 : Int32) (u : St) (H : Heap) (locs : List Loc) (ls : Array Slot), f_X7_transvected_L47 a1 a2 a3 a4 a5 Q K0 n a6 u → va_P D vwCl (mW cI cZ ad u) H → va_S (cA mLs ad s.heap.size) s.heap H locs → lv_has ls 10 [(0, .ref (ad 0)), (1, .int a1), (2, .int a2), (3, .int a3), (4, .int a4), (5, .int a5), (6, .int a6)] → W p l e (headSpec wsX7_transvected { frames := 2, cells := 0, slots := 0, locals := 48 }).room s m args below meth c H locs 0 0 (MQ below (va_Qi Q (fun u9 t => va_P D vwCl (mW cI cZ ad u9) t.heap) (cA mLs ad s.heap.size)) args s 0 0 (cA mLs ad s.heap.size)) (F0 m 47 ls []) := by
  obtain ⟨hx, hb, hml, hown, hts, hr, hlocks, hwd, hC⟩ := id X
  have hK := hC.1
  have lk0 := hts (.fieldLink RX7 13 "FormForgeModel" "degree" "[I") (by decide +kernel)
  have lk1 := hts (.fieldLink RX7 42 "FormForgeModel" "whole" "[I") (by decide +kernel)
  have lk2 := hts (.fieldLink RX7 36 "FormForgeModel" "one" "[I") (by decide +kernel)
  have lk3 := hts (.fieldLink RX7 39 "FormForgeModel" "other" "[I") (by decide +kernel)
  have lk4 := hts (.fieldLink RX7 17 "FormForgeModel" "code" "[I") (by decide +kernel)
  have lk5 := hts (.fieldLink RX7 7 "FormForgeModel" "p" "I") (by decide +kernel)
  have n7 : ∀ w ∈ wsX70, w ∈ wsX7_transvected := by decide +kernel
  intro n
  induction n with
  | zero =>
    intro a6 u H locs ls h; exact h.elim
  | succ n ih =>
    intro a6 u H locs ls h hP hS hl
    replace h : f_X7_transvected_L47_s a1 a2 a3 a4 a5 Q K0 (f_X7_transvected_L47 a1 a2 a3 a4 a5 Q K0 n) a6 u := h
    unfold f_X7_transvected_L47_s at h
    refine lv_iload hx hb dX7_transvected_47 (lv_at hl 6 rfl) ?_
    refine lv_iload_n hx hb dX7_transvected_49 rfl (lv_at hl 3 rfl) ?_
    refine lv_icmp_gt (tgt := 298) hx hb dX7_transvected_50 (by decide) (fun c10 => ?_) (fun c10 => ?_)
    · replace h := h.1 c10
      exact hk0  _ _ _ _ h hP hS (lv_sub hl [0, 4, 5] rfl)
    · replace h := h.2 c10
      refine lv_iconst (v := 0) hx hb dX7_transvected_53 (by decide) ?_
      refine lv_istore (lv' := [(7, .int 0), (0, .ref (ad 0)), (1, .int a1), (2, .int a2), (3, .int a3), (4, .int a4), (5, .int a5), (6, .int a6)]) hx hb dX7_transvected_54 hl (by decide) rfl (fun ls hl => ?_)
      obtain ⟨n37, h⟩ := h
      refine w_X7_transvected_L56 X a1 a2 a3 a4 a5 a6 _ _ (fun u38 H locs ls h hP hS hl => ?_) n37 0 _ _ _ _ h hP hS (lv_sub hl [1, 2, 3, 4, 5, 6, 7, 0] rfl)
      refine lv_aload_n hx hb dX7_transvected_136 rfl (lv_at hl 0 rfl) ?_
      refine lv_aload_n hx hb dX7_transvected_137 rfl (lv_at hl 0 rfl) ?_
      refine va_get (C := RX7) (T := TX7) (N := 22) hx hb hts n7 hown hK hP 0 mg_0 rfl 13 (by decide) lk2 (fun _ h9 => h9) rfl dX7_transvected_138 ?_
      refine lv_aload_n hx hb dX7_transvected_141 rfl (lv_at hl 0 rfl) ?_
      refine va_get (C := RX7) (T := TX7) (N := 22) hx hb hts n7 hown hK hP 0 mg_0 rfl 2 (by decide) lk0 (fun _ h9 => h9) rfl dX7_transvected_142 ?_
      refine lv_iload_n hx hb dX7_transvected_145 rfl (lv_at hl 1 rfl) ?_
      refine va_iald hx hb hK hP 1 0 (mg_a ⟨by decide, by decide, by decide⟩) rfl h.1 dX7_transvected_146 ?_
      refine lv_topi (fun v39 ev39 => ?_)
      replace h := h.2 v39 ev39
      refine lv_iload_n hx hb dX7_transvected_147 rfl (lv_at hl 3 rfl) ?_
      refine lv_iload hx hb dX7_transvected_148 (lv_at hl 6 rfl) ?_
      refine lv_isub hx hb dX7_transvected_150 ?_
      refine lv_iload hx hb dX7_transvected_151 (lv_at hl 6 rfl) ?_
      refine cc_v (va_runV (C := RX7) (As := [.ref (ad 8), .int v39, .int (a3 - a6), .int a6]) (rest := []) ⟨hx, hb, hml, hown, hts⟩ (c_X7_derives ⟨by decide, by decide, by decide⟩ hwd H.size u38 v39 (a3 - a6) a6 _ h) (cwV 4 hts gX7_transvected_X7_derives rfl rfl rfl (by decide +kernel) ⟨Nat.le_of_ble_eq_true rfl, Nat.le_of_ble_eq_true rfl⟩) (pmV hC hP hS mg_0 rfl) rfl rfl hl.1 rfl (lv_room (Nat.le_of_ble_eq_true rfl)) dX7_transvected_153 ⟨Nat.zero_le _, Nat.zero_le _⟩) hS (cA_mono hS.1) (fun u40 H locs h hP hS => ?_)
      refine lv_aload_n hx hb dX7_transvected_156 rfl (lv_at hl 0 rfl) ?_
      refine lv_aload_n hx hb dX7_transvected_157 rfl (lv_at hl 0 rfl) ?_
      refine va_get (C := RX7) (T := TX7) (N := 22) hx hb hts n7 hown hK hP 0 mg_0 rfl 14 (by decide) lk3 (fun _ h9 => h9) rfl dX7_transvected_158 ?_
      refine lv_aload_n hx hb dX7_transvected_161 rfl (lv_at hl 0 rfl) ?_
      refine va_get (C := RX7) (T := TX7) (N := 22) hx hb hts n7 hown hK hP 0 mg_0 rfl 2 (by decide) lk0 (fun _ h9 => h9) rfl dX7_transvected_162 ?_
      refine lv_iload_n hx hb dX7_transvected_165 rfl (lv_at hl 2 rfl) ?_
      refine va_iald hx hb hK hP 1 0 (mg_a ⟨by decide, by decide, by decide⟩) rfl h.1 dX7_transvected_166 ?_
      refine lv_topi (fun v41 ev41 => ?_)
      replace h := h.2 v41 ev41
      refine lv_iload hx hb dX7_transvected_167 (lv_at hl 6 rfl) ?_
      refine lv_iload_n hx hb dX7_transvected_169 rfl (lv_at hl 3 rfl) ?_
      refine lv_iload hx hb dX7_transvected_170 (lv_at hl 6 rfl) ?_
      refine lv_isub hx hb dX7_transvected_172 ?_
      refine cc_v (va_runV (C := RX7) (As := [.ref (ad 9), .int v41, .int a6, .int (a3 - a6)]) (rest := []) ⟨hx, hb, hml, hown, hts⟩ (c_X7_derives ⟨by decide, by decide, by decide⟩ hwd H.size u40 v41 a6 (a3 - a6) _ h) (cwV 4 hts gX7_transvected_X7_derives rfl rfl rfl (by decide +kernel) ⟨Nat.le_of_ble_eq_true rfl, Nat.le_of_ble_eq_true rfl⟩) (pmV hC hP hS mg_0 rfl) rfl rfl hl.1 rfl (lv_room (Nat.le_of_ble_eq_true rfl)) dX7_transvected_173 ⟨Nat.zero_le _, Nat.zero_le _⟩) hS (cA_mono hS.1) (fun u42 H locs h hP hS => ?_)
      refine lv_iload hx hb dX7_transvected_176 (lv_at hl 6 rfl) ?_
      refine lv_iconst (v := 2) hx hb dX7_transvected_178 (by decide) ?_
      refine lv_irem hx hb dX7_transvected_179 (by decide) ?_
      refine lv_topi (fun v43 ev43 => ?_)
      replace h := h v43 ev43
      refine lv_if_ne (tgt := 192) hx hb dX7_transvected_180 (by decide) (fun c44 => ?_) (fun c44 => ?_)
      · replace h := h.1 c44
        refine lv_iload_n hx hb dX7_transvected_192 rfl (lv_at hl 3 rfl) ?_
        refine lv_iload hx hb dX7_transvected_193 (lv_at hl 6 rfl) ?_
        refine cc_i (va_runS (As := [.int a3, .int a6]) (rest := []) ⟨hx, hb, hml, hown, hts⟩ (c_X7_choose hwd H.size u42 a3 a6 _ h) (va_cwS 2 hts gX7_transvected_X7_choose rfl rfl rfl (by decide +kernel) ⟨Nat.le_of_ble_eq_true rfl, Nat.le_of_ble_eq_true rfl⟩) (pmS hC hP hS) rfl rfl hl.1 rfl (lv_room (Nat.le_of_ble_eq_true rfl)) dX7_transvected_195 ⟨Nat.zero_le _, Nat.zero_le _⟩) hS (cA_mono hS.1) (fun v45 u46 H locs h hP hS => ?_)
        refine lv_ineg hx hb dX7_transvected_198 ?_
        refine lv_topi (fun v47 ev47 => ?_)
        replace h := h v47 ev47
        refine lv_istore (lv' := [(7, .int v47), (0, .ref (ad 0)), (1, .int a1), (2, .int a2), (3, .int a3), (4, .int a4), (5, .int a5), (6, .int a6)]) hx hb dX7_transvected_199 hl (by decide) rfl (fun ls hl => ?_)
        refine lv_iconst (v := 0) hx hb dX7_transvected_201 (by decide) ?_
        refine lv_istore (lv' := [(8, .int 0), (7, .int v47), (0, .ref (ad 0)), (1, .int a1), (2, .int a2), (3, .int a3), (4, .int a4), (5, .int a5), (6, .int a6)]) hx hb dX7_transvected_202 hl (by decide) rfl (fun ls hl => ?_)
        obtain ⟨n66, h⟩ := h
        refine w_X7_transvected_L204 X a1 a2 a3 a4 a5 a6 v47 _ _ (fun u67 H locs ls h hP hS hl => ?_) n66 0 _ _ _ _ h hP hS (lv_sub hl [2, 3, 4, 5, 6, 7, 8, 1, 0] rfl)
        obtain ⟨v68, ev68⟩ : ∃ y : Int32, y = a6 + 1 := ⟨_, rfl⟩
        refine lv_iinc (v := v68) (lv' := [(6, .int v68), (0, .ref (ad 0)), (1, .int a1), (2, .int a2), (3, .int a3), (4, .int a4), (5, .int a5)]) hx hb dX7_transvected_292 hl (k := 6) rfl (by rw [ev68]; rfl) (by decide) rfl (fun ls hl => ?_)
        replace h := h v68 ev68
        refine lv_goto (tgt := 47) hx hb dX7_transvected_295 (by decide) ?_
        exact ih v68 _ _ _ _ h hP hS (lv_sub hl [1, 2, 3, 4, 5, 6, 0] rfl)
      · replace h := h.2 c44
        refine lv_iload_n hx hb dX7_transvected_183 rfl (lv_at hl 3 rfl) ?_
        refine lv_iload hx hb dX7_transvected_184 (lv_at hl 6 rfl) ?_
        refine cc_i (va_runS (As := [.int a3, .int a6]) (rest := []) ⟨hx, hb, hml, hown, hts⟩ (c_X7_choose hwd H.size u42 a3 a6 _ h) (va_cwS 2 hts gX7_transvected_X7_choose rfl rfl rfl (by decide +kernel) ⟨Nat.le_of_ble_eq_true rfl, Nat.le_of_ble_eq_true rfl⟩) (pmS hC hP hS) rfl rfl hl.1 rfl (lv_room (Nat.le_of_ble_eq_true rfl)) dX7_transvected_186 ⟨Nat.zero_le _, Nat.zero_le _⟩) hS (cA_mono hS.1) (fun v69 u70 H locs h hP hS => ?_)
        refine lv_goto (tgt := 199) hx hb dX7_transvected_189 (by decide) ?_
        refine lv_istore (lv' := [(7, .int v69), (0, .ref (ad 0)), (1, .int a1), (2, .int a2), (3, .int a3), (4, .int a4), (5, .int a5), (6, .int a6)]) hx hb dX7_transvected_199 hl (by decide) rfl (fun ls hl => ?_)
        refine lv_iconst (v := 0) hx hb dX7_transvected_201 (by decide) ?_
        refine lv_istore (lv' := [(8, .int 0), (7, .int v69), (0, .ref (ad 0)), (1, .int a1), (2, .int a2), (3, .int a3), (4, .int a4), (5, .int a5), (6, .int a6)]) hx hb dX7_transvected_202 hl (by decide) rfl (fun ls hl => ?_)
        obtain ⟨n71, h⟩ := h
        refine w_X7_transvected_L204 X a1 a2 a3 a4 a5 a6 v69 _ _ (fun u72 H locs ls h hP hS hl => ?_) n71 0 _ _ _ _ h hP hS (lv_sub hl [2, 3, 4, 5, 6, 7, 8, 1, 0] rfl)
        obtain ⟨v73, ev73⟩ : ∃ y : Int32, y = a6 + 1 := ⟨_, rfl⟩
        refine lv_iinc (v := v73) (lv' := [(6, .int v73), (0, .ref (ad 0)), (1, .int a1), (2, .int a2), (3, .int a3), (4, .int a4), (5, .int a5)]) hx hb dX7_transvected_292 hl (k := 6) rfl (by rw [ev73]; rfl) (by decide) rfl (fun ls hl => ?_)
        replace h := h v73 ev73
        refine lv_goto (tgt := 47) hx hb dX7_transvected_295 (by decide) ?_
        exact ih v73 _ _ _ _ h hP hS (lv_sub hl [1, 2, 3, 4, 5, 6, 0] rfl)
set_option maxRecDepth 100000 in
set_option maxHeartbeats 4000000 in
theorem w_X7_transvected_L308 {p : Program} {l : Launch} {e : Env} {s : State} {m : MethodId} {args : Array Value} {below : List Frame} {meth : Method} {c : Code} {D : va_G} {cI cG cZ cJ : ClassId} {ts : Nat × Nat}  {ad : Nat → Nat}  (X : FX RX7 wsX7_transvected cX7_transvected 10 (some .int) D cI cG cZ cJ ts mLs ad p s m args meth c)  (Q : Int32 → St → Prop)
    (K0 : Int32 → St → Prop) (hk0 : ∀ (b6 : Int32) (u : St) (H : Heap) (locs : List Loc) (ls : Array Slot), K0 b6 u → va_P D vwCl (mW cI cZ ad u) H → va_S (cA mLs ad s.heap.size) s.heap H locs → lv_has ls 10 [(6, .int b6)] → W p l e (headSpec wsX7_transvected { frames := 2, cells := 0, slots := 0, locals := 48 }).room s m args below meth c H locs 0 0 (MQ below (va_Qi Q (fun u9 t => va_P D vwCl (mW cI cZ ad u9) t.heap) (cA mLs ad s.heap.size)) args s 0 0 (cA mLs ad s.heap.size)) (F0 m 340 ls []))
    : ∀ (n : Nat) (a6 : Int32) (a7 : Int32) (u : St) (H : Heap) (locs : List Loc) (ls : Array Slot), f_X7_transvected_L308 Q K0 n a6 a7 u → va_P D vwCl (mW cI cZ ad u) H → va_S (cA mLs ad s.heap.size) s.heap H locs → lv_has ls 10 [(0, .ref (ad 0)), (6, .int a6), (7, .int a7)] → W p l e (headSpec wsX7_transvected { frames := 2, cells := 0, slots := 0, locals := 48 }).room s m args below meth c H locs 0 0 (MQ below (va_Qi Q (fun u9 t => va_P D vwCl (mW cI cZ ad u9) t.heap) (cA mLs ad s.heap.size)) args s 0 0 (cA mLs ad s.heap.size)) (F0 m 308 ls []) := by
  obtain ⟨hx, hb, hml, hown, hts, hr, hlocks, hwd, hC⟩ := id X
  have hK := hC.1
  have lk0 := hts (.fieldLink RX7 13 "FormForgeModel" "degree" "[I") (by decide +kernel)
  have lk1 := hts (.fieldLink RX7 42 "FormForgeModel" "whole" "[I") (by decide +kernel)
  have lk2 := hts (.fieldLink RX7 36 "FormForgeModel" "one" "[I") (by decide +kernel)
  have lk3 := hts (.fieldLink RX7 39 "FormForgeModel" "other" "[I") (by decide +kernel)
  have lk4 := hts (.fieldLink RX7 17 "FormForgeModel" "code" "[I") (by decide +kernel)
  have lk5 := hts (.fieldLink RX7 7 "FormForgeModel" "p" "I") (by decide +kernel)
  have n7 : ∀ w ∈ wsX70, w ∈ wsX7_transvected := by decide +kernel
  intro n
  induction n with
  | zero =>
    intro a6 a7 u H locs ls h; exact h.elim
  | succ n ih =>
    intro a6 a7 u H locs ls h hP hS hl
    replace h : f_X7_transvected_L308_s Q K0 (f_X7_transvected_L308 Q K0 n) a6 a7 u := h
    unfold f_X7_transvected_L308_s at h
    refine lv_iload hx hb dX7_transvected_308 (lv_at hl 2 rfl) ?_
    refine lv_if_lt (tgt := 340) hx hb dX7_transvected_310 (by decide) (fun c77 => ?_) (fun c77 => ?_)
    · replace h := h.1 c77
      exact hk0 a6 _ _ _ _ h hP hS (lv_sub hl [1] rfl)
    · replace h := h.2 c77
      refine lv_aload_n hx hb dX7_transvected_313 rfl (lv_at hl 0 rfl) ?_
      refine va_get (C := RX7) (T := TX7) (N := 22) hx hb hts n7 hown hK hP 0 mg_0 rfl 1 (by decide) lk5 (fun _ h9 => h9) rfl dX7_transvected_314 ?_
      refine lv_iload hx hb dX7_transvected_317 (lv_at hl 1 rfl) ?_
      refine lv_imul hx hb dX7_transvected_319 ?_
      refine lv_aload_n hx hb dX7_transvected_320 rfl (lv_at hl 0 rfl) ?_
      refine lv_aload_n hx hb dX7_transvected_321 rfl (lv_at hl 0 rfl) ?_
      refine va_get (C := RX7) (T := TX7) (N := 22) hx hb hts n7 hown hK hP 0 mg_0 rfl 15 (by decide) lk1 (fun _ h9 => h9) rfl dX7_transvected_322 ?_
      refine lv_iload hx hb dX7_transvected_325 (lv_at hl 2 rfl) ?_
      refine va_iald hx hb hK hP 10 0 (mg_a ⟨by decide, by decide, by decide⟩) rfl h.1 dX7_transvected_327 ?_
      refine lv_topi (fun v78 ev78 => ?_)
      replace h := h.2 v78 ev78
      refine cc_i (va_runV (C := RX7) (As := [.int v78]) (rest := [.int ((u 0 1) * a6)]) ⟨hx, hb, hml, hown, hts⟩ (c_X7_mod hwd H.size u v78 _ h) (cwV 1 hts gX7_transvected_X7_mod rfl rfl rfl (by decide +kernel) ⟨Nat.le_of_ble_eq_true rfl, Nat.le_of_ble_eq_true rfl⟩) (pmV hC hP hS mg_0 rfl) rfl rfl hl.1 rfl (lv_room (Nat.le_of_ble_eq_true rfl)) dX7_transvected_328 ⟨Nat.zero_le _, Nat.zero_le _⟩) hS (cA_mono hS.1) (fun v79 u80 H locs h hP hS => ?_)
      refine lv_iadd hx hb dX7_transvected_331 ?_
      refine lv_topi (fun v81 ev81 => ?_)
      replace h := h v81 ev81
      refine lv_istore (lv' := [(6, .int v81), (0, .ref (ad 0)), (7, .int a7)]) hx hb dX7_transvected_332 hl (by decide) rfl (fun ls hl => ?_)
      obtain ⟨v82, ev82⟩ : ∃ y : Int32, y = a7 + (-1) := ⟨_, rfl⟩
      refine lv_iinc (v := v82) (lv' := [(7, .int v82), (6, .int v81), (0, .ref (ad 0))]) hx hb dX7_transvected_334 hl (k := 2) rfl (by rw [ev82]; rfl) (by decide) rfl (fun ls hl => ?_)
      replace h := h v82 ev82
      refine lv_goto (tgt := 308) hx hb dX7_transvected_337 (by decide) ?_
      exact ih v81 v82 _ _ _ _ h hP hS (lv_sub hl [2, 1, 0] rfl)
set_option maxRecDepth 100000 in
set_option maxHeartbeats 4000000 in
theorem w_X7_transvected {p : Program} {l : Launch} {e : Env} {s : State} {m : MethodId} {args : Array Value} {below : List Frame} {meth : Method} {c : Code} {D : va_G} {cI cG cZ cJ : ClassId} {ts : Nat × Nat}  {ad : Nat → Nat}  (X : FX RX7 wsX7_transvected cX7_transvected 10 (some .int) D cI cG cZ cJ ts mLs ad p s m args meth c) (a1 : Int32) (a2 : Int32) (a3 : Int32) (Q : Int32 → St → Prop) (u : St) (H : Heap) (locs : List Loc) (ls : Array Slot) (h : f_X7_transvected a1 a2 a3 u Q) (hP : va_P D vwCl (mW cI cZ ad u) H) (hS : va_S (cA mLs ad s.heap.size) s.heap H locs) (hl : lv_has ls 10 [(0, .ref (ad 0)), (1, .int a1), (2, .int a2), (3, .int a3)]) : W p l e (headSpec wsX7_transvected { frames := 2, cells := 0, slots := 0, locals := 48 }).room s m args below meth c H locs 0 0 (MQ below (va_Qi Q (fun u9 t => va_P D vwCl (mW cI cZ ad u9) t.heap) (cA mLs ad s.heap.size)) args s 0 0 (cA mLs ad s.heap.size)) (F0 m 0 ls []) := by
  obtain ⟨hx, hb, hml, hown, hts, hr, hlocks, hwd, hC⟩ := id X
  have hK := hC.1
  have lk0 := hts (.fieldLink RX7 13 "FormForgeModel" "degree" "[I") (by decide +kernel)
  have lk1 := hts (.fieldLink RX7 42 "FormForgeModel" "whole" "[I") (by decide +kernel)
  have lk2 := hts (.fieldLink RX7 36 "FormForgeModel" "one" "[I") (by decide +kernel)
  have lk3 := hts (.fieldLink RX7 39 "FormForgeModel" "other" "[I") (by decide +kernel)
  have lk4 := hts (.fieldLink RX7 17 "FormForgeModel" "code" "[I") (by decide +kernel)
  have lk5 := hts (.fieldLink RX7 7 "FormForgeModel" "p" "I") (by decide +kernel)
  have n7 : ∀ w ∈ wsX70, w ∈ wsX7_transvected := by decide +kernel
  unfold f_X7_transvected at h
  refine lv_aload_n hx hb dX7_transvected_0 rfl (lv_at hl 0 rfl) ?_
  refine va_get (C := RX7) (T := TX7) (N := 22) hx hb hts n7 hown hK hP 0 mg_0 rfl 2 (by decide) lk0 (fun _ h9 => h9) rfl dX7_transvected_1 ?_
  refine lv_iload_n hx hb dX7_transvected_4 rfl (lv_at hl 1 rfl) ?_
  refine va_iald hx hb hK hP 1 0 (mg_a ⟨by decide, by decide, by decide⟩) rfl h.1 dX7_transvected_5 ?_
  refine lv_topi (fun v1 ev1 => ?_)
  replace h := h.2 v1 ev1
  refine lv_iload_n hx hb dX7_transvected_6 rfl (lv_at hl 3 rfl) ?_
  refine lv_isub hx hb dX7_transvected_7 ?_
  refine lv_topi (fun v2 ev2 => ?_)
  replace h := h v2 ev2
  refine lv_istore (lv' := [(4, .int v2), (0, .ref (ad 0)), (1, .int a1), (2, .int a2), (3, .int a3)]) hx hb dX7_transvected_8 hl (by decide) rfl (fun ls hl => ?_)
  refine lv_aload_n hx hb dX7_transvected_10 rfl (lv_at hl 1 rfl) ?_
  refine va_get (C := RX7) (T := TX7) (N := 22) hx hb hts n7 hown hK hP 0 mg_0 rfl 2 (by decide) lk0 (fun _ h9 => h9) rfl dX7_transvected_11 ?_
  refine lv_iload_n hx hb dX7_transvected_14 rfl (lv_at hl 3 rfl) ?_
  refine va_iald hx hb hK hP 1 0 (mg_a ⟨by decide, by decide, by decide⟩) rfl h.1 dX7_transvected_15 ?_
  refine lv_topi (fun v3 ev3 => ?_)
  replace h := h.2 v3 ev3
  refine lv_iload_n hx hb dX7_transvected_16 rfl (lv_at hl 4 rfl) ?_
  refine lv_isub hx hb dX7_transvected_17 ?_
  refine lv_topi (fun v4 ev4 => ?_)
  replace h := h v4 ev4
  refine lv_istore (lv' := [(5, .int v4), (4, .int v2), (0, .ref (ad 0)), (1, .int a1), (2, .int a2), (3, .int a3)]) hx hb dX7_transvected_18 hl (by decide) rfl (fun ls hl => ?_)
  refine lv_iconst (v := 0) hx hb dX7_transvected_20 (by decide) ?_
  refine lv_istore (lv' := [(6, .int 0), (5, .int v4), (4, .int v2), (0, .ref (ad 0)), (1, .int a1), (2, .int a2), (3, .int a3)]) hx hb dX7_transvected_21 hl (by decide) rfl (fun ls hl => ?_)
  obtain ⟨n8, h⟩ := h
  refine w_X7_transvected_L23 X a1 a2 a3 v2 v4 _ _ (fun u9 H locs ls h hP hS hl => ?_) n8 0 _ _ _ _ h hP hS (lv_sub hl [3, 4, 5, 6, 2, 1, 0] rfl)
  refine lv_iconst (v := 0) hx hb dX7_transvected_44 (by decide) ?_
  refine lv_istore (lv' := [(6, .int 0), (0, .ref (ad 0)), (1, .int a1), (2, .int a2), (3, .int a3), (4, .int v2), (5, .int v4)]) hx hb dX7_transvected_45 hl (by decide) rfl (fun ls hl => ?_)
  obtain ⟨n74, h⟩ := h
  refine w_X7_transvected_L47 X a1 a2 a3 v2 v4 _ _ (fun u75 H locs ls h hP hS hl => ?_) n74 0 _ _ _ _ h hP hS (lv_sub hl [1, 2, 3, 4, 5, 6, 0] rfl)
  refine lv_iconst (v := 0) hx hb dX7_transvected_298 (by decide) ?_
  refine lv_istore (lv' := [(6, .int 0), (0, .ref (ad 0)), (4, .int v2), (5, .int v4)]) hx hb dX7_transvected_299 hl (by decide) rfl (fun ls hl => ?_)
  refine lv_iload hx hb dX7_transvected_301 (lv_at hl 2 rfl) ?_
  refine lv_iload hx hb dX7_transvected_303 (lv_at hl 3 rfl) ?_
  refine lv_iadd hx hb dX7_transvected_305 ?_
  refine lv_topi (fun v76 ev76 => ?_)
  replace h := h v76 ev76
  refine lv_istore (lv' := [(7, .int v76), (6, .int 0), (0, .ref (ad 0)), (4, .int v2), (5, .int v4)]) hx hb dX7_transvected_306 hl (by decide) rfl (fun ls hl => ?_)
  obtain ⟨n83, h⟩ := h
  refine w_X7_transvected_L308 X _ _ (fun v84 u85 H locs ls h hP hS hl => ?_) n83 0 v76 _ _ _ _ h hP hS (lv_sub hl [2, 1, 0] rfl)
  refine lv_iload hx hb dX7_transvected_340 (lv_at hl 0 rfl) ?_
  exact W.iret (v := v84) hx hb hr (fun t ht hW => ⟨⟨_, _, rfl, h, by show va_P _ _ _ t.heap; rw [ht]; exact hP⟩, hS.F ht⟩) hS.2.2 dX7_transvected_342
set_option maxRecDepth 100000 in
set_option maxHeartbeats 4000000 in
theorem c_X7_transvected {l : Launch} {D : va_G} {cI cG cZ cJ : ClassId} {ts : Nat × Nat} {ad : Nat → Nat} (hwd : WD mLs ad) (sz : Nat) (u : St) (a1 : Int32) (a2 : Int32) (a3 : Int32) (Q : Int32 → St → Prop) (h : f_X7_transvected a1 a2 a3 u Q) : Met l yX7_transvected wsX7_transvected ({ frames := 2, cells := 0, slots := 0, locals := 48 }) (va_Pc [.ref (ad 0), .int a1, .int a2, .int a3] (PM D cI cG cZ cJ ts ad sz u)) (va_Qi Q (fun u9 t => va_P D vwCl (mW cI cZ ad u9) t.heap) (cA mLs ad sz)) 0 0 (cA mLs ad sz) := by
  refine Met.ofW (cc := cX7_transvected) (maxL := 10) (ret := (some .int)) (by decide) rfl ?_
  intro p e s m args below meth c s₁ B hml hv
  obtain ⟨rfl, hsz, hP, hC⟩ := hv
  subst hsz
  have X : FX RX7 wsX7_transvected cX7_transvected 10 (some .int) D cI cG cZ cJ ts mLs ad p s m _ meth c := ⟨B.exec, B.bytes, hml, findClass_of_methodNamed B.named, atoms_spec (ws := wsX7_transvected) B.pre, B.returns, B.notSynchronized, hwd, hC⟩
  have hl := lv_entry ([.ref (ad 0), .int a1, .int a2, .int a3]) (n := 10) (Nat.le_of_ble_eq_true rfl)
  rw [lg_entry_eq]
  generalize (lg_sl ([.ref (ad 0), .int a1, .int a2, .int a3]) ++ List.replicate (10 - (lg_sl ([.ref (ad 0), .int a1, .int a2, .int a3])).length) Slot.unset).toArray = ls at hl ⊢
  exact w_X7_transvected X a1 a2 a3 Q u _ _ _ h hP va_S.rf hl
set_option maxRecDepth 100000 in
set_option maxHeartbeats 4000000 in
theorem w_X7_transvectant {p : Program} {l : Launch} {e : Env} {s : State} {m : MethodId} {args : Array Value} {below : List Frame} {meth : Method} {c : Code} {D : va_G} {cI cG cZ cJ : ClassId} {ts : Nat × Nat}  {ad : Nat → Nat}  (X : FX RX7 wsX7_transvectant cX7_transvectant 6 (some .int) D cI cG cZ cJ ts mLs ad p s m args meth c) (a1 : Int32) (a2 : Int32) (a3 : Int32) (Q : Int32 → St → Prop) (u : St) (H : Heap) (locs : List Loc) (ls : Array Slot) (h : f_X7_transvectant a1 a2 a3 u Q) (hP : va_P D vwCl (mW cI cZ ad u) H) (hS : va_S (cA mLs ad s.heap.size) s.heap H locs) (hl : lv_has ls 6 [(0, .ref (ad 0)), (1, .int a1), (2, .int a2), (3, .int a3)]) : W p l e (headSpec wsX7_transvectant { frames := 3, cells := 0, slots := 0, locals := 77 }).room s m args below meth c H locs 0 0 (MQ below (va_Qi Q (fun u9 t => va_P D vwCl (mW cI cZ ad u9) t.heap) (cA mLs ad s.heap.size)) args s 0 0 (cA mLs ad s.heap.size)) (F0 m 0 ls []) := by
  obtain ⟨hx, hb, hml, hown, hts, hr, hlocks, hwd, hC⟩ := id X
  have hK := hC.1
  have lk0 := hts (.fieldLink RX7 13 "FormForgeModel" "degree" "[I") (by decide +kernel)
  have n7 : ∀ w ∈ wsX70, w ∈ wsX7_transvectant := by decide +kernel
  unfold f_X7_transvectant at h
  refine lv_aload_n hx hb dX7_transvectant_0 rfl (lv_at hl 0 rfl) ?_
  refine lv_iload_n hx hb dX7_transvectant_1 rfl (lv_at hl 1 rfl) ?_
  refine cc_i (va_runV (C := RX7) (As := [.int a1]) (rest := []) ⟨hx, hb, hml, hown, hts⟩ (c_X7_isForm hwd H.size u a1 _ h) (cwV 1 hts gX7_transvectant_X7_isForm rfl rfl rfl (by decide +kernel) ⟨Nat.le_of_ble_eq_true rfl, Nat.le_of_ble_eq_true rfl⟩) (pmV hC hP hS mg_0 rfl) rfl rfl hl.1 rfl (lv_room (Nat.le_of_ble_eq_true rfl)) dX7_transvectant_2 ⟨Nat.zero_le _, Nat.zero_le _⟩) hS (cA_mono hS.1) (fun v1 u2 H locs h hP hS => ?_)
  refine lv_if_eq (tgt := 20) hx hb dX7_transvectant_5 (by decide) (fun c3 => ?_) (fun c3 => ?_)
  · replace h := h.1 c3
    refine lv_iconst (v := 0) hx hb dX7_transvectant_20 (by decide) ?_
    refine lv_istore (lv' := [(4, .int 0), (0, .ref (ad 0)), (1, .int a1), (2, .int a2), (3, .int a3)]) hx hb dX7_transvectant_21 hl (by decide) rfl (fun ls hl => ?_)
    refine lv_iload hx hb dX7_transvectant_23 (lv_at hl 0 rfl) ?_
    refine lv_if_eq (tgt := 80) hx hb dX7_transvectant_25 (by decide) (fun _ => ?_) (fun c4 => absurd c4 (by decide))
    refine lv_iconst (v := 0) hx hb dX7_transvectant_80 (by decide) ?_
    refine lv_istore (lv' := [(5, .int 0), (4, .int 0), (0, .ref (ad 0)), (1, .int a1), (2, .int a2), (3, .int a3)]) hx hb dX7_transvectant_81 hl (by decide) rfl (fun ls hl => ?_)
    refine lv_aload_n hx hb dX7_transvectant_83 rfl (lv_at hl 2 rfl) ?_
    refine lv_iload hx hb dX7_transvectant_84 (lv_at hl 1 rfl) ?_
    refine lv_if_ne (tgt := 93) hx hb dX7_transvectant_86 (by decide) (fun c5 => absurd c5 (by decide)) (fun _ => ?_)
    refine lv_iconst (v := 1) hx hb dX7_transvectant_89 (by decide) ?_
    refine lv_goto (tgt := 103) hx hb dX7_transvectant_90 (by decide) ?_
    refine cc_i (va_runV (C := RX7) (As := [.int 1]) (rest := []) ⟨hx, hb, hml, hown, hts⟩ (c_X7_holds hwd H.size u2 1 _ h) (cwV 1 hts gX7_transvectant_X7_holds rfl rfl rfl (by decide +kernel) ⟨Nat.le_of_ble_eq_true rfl, Nat.le_of_ble_eq_true rfl⟩) (pmV hC hP hS mg_0 rfl) rfl rfl hl.1 rfl (lv_room (Nat.le_of_ble_eq_true rfl)) dX7_transvectant_103 ⟨Nat.zero_le _, Nat.zero_le _⟩) hS (cA_mono hS.1) (fun v6 u7 H locs h hP hS => ?_)
    refine lv_if_eq (tgt := 119) hx hb dX7_transvectant_106 (by decide) (fun c8 => ?_) (fun c8 => ?_)
    · replace h := h.1 c8
      refine lv_iconst (v := 0) hx hb dX7_transvectant_119 (by decide) ?_
      exact W.iret (v := 0) hx hb hr (fun t ht hW => ⟨⟨_, _, rfl, h, by show va_P _ _ _ t.heap; rw [ht]; exact hP⟩, hS.F ht⟩) hS.2.2 dX7_transvectant_120
    · replace h := h.2 c8
      refine lv_aload_n hx hb dX7_transvectant_109 rfl (lv_at hl 2 rfl) ?_
      refine lv_iload_n hx hb dX7_transvectant_110 rfl (lv_at hl 3 rfl) ?_
      refine lv_iload_n hx hb dX7_transvectant_111 rfl (lv_at hl 4 rfl) ?_
      refine lv_iload_n hx hb dX7_transvectant_112 rfl (lv_at hl 5 rfl) ?_
      refine cc_i (va_runV (C := RX7) (As := [.int a1, .int a2, .int a3]) (rest := []) ⟨hx, hb, hml, hown, hts⟩ (c_X7_transvected hwd H.size u7 a1 a2 a3 _ h) (cwV 3 hts gX7_transvectant_X7_transvected rfl rfl rfl (by decide +kernel) ⟨Nat.le_of_ble_eq_true rfl, Nat.le_of_ble_eq_true rfl⟩) (pmV hC hP hS mg_0 rfl) rfl rfl hl.1 rfl (lv_room (Nat.le_of_ble_eq_true rfl)) dX7_transvectant_113 ⟨Nat.zero_le _, Nat.zero_le _⟩) hS (cA_mono hS.1) (fun v9 u10 H locs h hP hS => ?_)
      refine lv_goto (tgt := 120) hx hb dX7_transvectant_116 (by decide) ?_
      exact W.iret (v := v9) hx hb hr (fun t ht hW => ⟨⟨_, _, rfl, h, by show va_P _ _ _ t.heap; rw [ht]; exact hP⟩, hS.F ht⟩) hS.2.2 dX7_transvectant_120
  · replace h := h.2 c3
    refine lv_aload_n hx hb dX7_transvectant_8 rfl (lv_at hl 0 rfl) ?_
    refine lv_iload_n hx hb dX7_transvectant_9 rfl (lv_at hl 2 rfl) ?_
    refine cc_i (va_runV (C := RX7) (As := [.int a2]) (rest := []) ⟨hx, hb, hml, hown, hts⟩ (c_X7_isForm hwd H.size u2 a2 _ h) (cwV 1 hts gX7_transvectant_X7_isForm rfl rfl rfl (by decide +kernel) ⟨Nat.le_of_ble_eq_true rfl, Nat.le_of_ble_eq_true rfl⟩) (pmV hC hP hS mg_0 rfl) rfl rfl hl.1 rfl (lv_room (Nat.le_of_ble_eq_true rfl)) dX7_transvectant_10 ⟨Nat.zero_le _, Nat.zero_le _⟩) hS (cA_mono hS.1) (fun v11 u12 H locs h hP hS => ?_)
    refine lv_if_eq (tgt := 20) hx hb dX7_transvectant_13 (by decide) (fun c13 => ?_) (fun c13 => ?_)
    · replace h := h.1 c13
      refine lv_iconst (v := 0) hx hb dX7_transvectant_20 (by decide) ?_
      refine lv_istore (lv' := [(4, .int 0), (0, .ref (ad 0)), (1, .int a1), (2, .int a2), (3, .int a3)]) hx hb dX7_transvectant_21 hl (by decide) rfl (fun ls hl => ?_)
      refine lv_iload hx hb dX7_transvectant_23 (lv_at hl 0 rfl) ?_
      refine lv_if_eq (tgt := 80) hx hb dX7_transvectant_25 (by decide) (fun _ => ?_) (fun c14 => absurd c14 (by decide))
      refine lv_iconst (v := 0) hx hb dX7_transvectant_80 (by decide) ?_
      refine lv_istore (lv' := [(5, .int 0), (4, .int 0), (0, .ref (ad 0)), (1, .int a1), (2, .int a2), (3, .int a3)]) hx hb dX7_transvectant_81 hl (by decide) rfl (fun ls hl => ?_)
      refine lv_aload_n hx hb dX7_transvectant_83 rfl (lv_at hl 2 rfl) ?_
      refine lv_iload hx hb dX7_transvectant_84 (lv_at hl 1 rfl) ?_
      refine lv_if_ne (tgt := 93) hx hb dX7_transvectant_86 (by decide) (fun c15 => absurd c15 (by decide)) (fun _ => ?_)
      refine lv_iconst (v := 1) hx hb dX7_transvectant_89 (by decide) ?_
      refine lv_goto (tgt := 103) hx hb dX7_transvectant_90 (by decide) ?_
      refine cc_i (va_runV (C := RX7) (As := [.int 1]) (rest := []) ⟨hx, hb, hml, hown, hts⟩ (c_X7_holds hwd H.size u12 1 _ h) (cwV 1 hts gX7_transvectant_X7_holds rfl rfl rfl (by decide +kernel) ⟨Nat.le_of_ble_eq_true rfl, Nat.le_of_ble_eq_true rfl⟩) (pmV hC hP hS mg_0 rfl) rfl rfl hl.1 rfl (lv_room (Nat.le_of_ble_eq_true rfl)) dX7_transvectant_103 ⟨Nat.zero_le _, Nat.zero_le _⟩) hS (cA_mono hS.1) (fun v16 u17 H locs h hP hS => ?_)
      refine lv_if_eq (tgt := 119) hx hb dX7_transvectant_106 (by decide) (fun c18 => ?_) (fun c18 => ?_)
      · replace h := h.1 c18
        refine lv_iconst (v := 0) hx hb dX7_transvectant_119 (by decide) ?_
        exact W.iret (v := 0) hx hb hr (fun t ht hW => ⟨⟨_, _, rfl, h, by show va_P _ _ _ t.heap; rw [ht]; exact hP⟩, hS.F ht⟩) hS.2.2 dX7_transvectant_120
      · replace h := h.2 c18
        refine lv_aload_n hx hb dX7_transvectant_109 rfl (lv_at hl 2 rfl) ?_
        refine lv_iload_n hx hb dX7_transvectant_110 rfl (lv_at hl 3 rfl) ?_
        refine lv_iload_n hx hb dX7_transvectant_111 rfl (lv_at hl 4 rfl) ?_
        refine lv_iload_n hx hb dX7_transvectant_112 rfl (lv_at hl 5 rfl) ?_
        refine cc_i (va_runV (C := RX7) (As := [.int a1, .int a2, .int a3]) (rest := []) ⟨hx, hb, hml, hown, hts⟩ (c_X7_transvected hwd H.size u17 a1 a2 a3 _ h) (cwV 3 hts gX7_transvectant_X7_transvected rfl rfl rfl (by decide +kernel) ⟨Nat.le_of_ble_eq_true rfl, Nat.le_of_ble_eq_true rfl⟩) (pmV hC hP hS mg_0 rfl) rfl rfl hl.1 rfl (lv_room (Nat.le_of_ble_eq_true rfl)) dX7_transvectant_113 ⟨Nat.zero_le _, Nat.zero_le _⟩) hS (cA_mono hS.1) (fun v19 u20 H locs h hP hS => ?_)
        refine lv_goto (tgt := 120) hx hb dX7_transvectant_116 (by decide) ?_
        exact W.iret (v := v19) hx hb hr (fun t ht hW => ⟨⟨_, _, rfl, h, by show va_P _ _ _ t.heap; rw [ht]; exact hP⟩, hS.F ht⟩) hS.2.2 dX7_transvectant_120
    · replace h := h.2 c13
      refine lv_iconst (v := 1) hx hb dX7_transvectant_16 (by decide) ?_
      refine lv_goto (tgt := 21) hx hb dX7_transvectant_17 (by decide) ?_
      refine lv_istore (lv' := [(4, .int 1), (0, .ref (ad 0)), (1, .int a1), (2, .int a2), (3, .int a3)]) hx hb dX7_transvectant_21 hl (by decide) rfl (fun ls hl => ?_)
      refine lv_iload hx hb dX7_transvectant_23 (lv_at hl 0 rfl) ?_
      refine lv_if_eq (tgt := 80) hx hb dX7_transvectant_25 (by decide) (fun c21 => absurd c21 (by decide)) (fun _ => ?_)
      refine lv_iload_n hx hb dX7_transvectant_28 rfl (lv_at hl 4 rfl) ?_
      refine lv_if_lt (tgt := 80) hx hb dX7_transvectant_29 (by decide) (fun c22 => ?_) (fun c22 => ?_)
      · replace h := h.1 c22
        refine lv_iconst (v := 0) hx hb dX7_transvectant_80 (by decide) ?_
        refine lv_istore (lv' := [(5, .int 0), (4, .int 1), (0, .ref (ad 0)), (1, .int a1), (2, .int a2), (3, .int a3)]) hx hb dX7_transvectant_81 hl (by decide) rfl (fun ls hl => ?_)
        refine lv_aload_n hx hb dX7_transvectant_83 rfl (lv_at hl 2 rfl) ?_
        refine lv_iload hx hb dX7_transvectant_84 (lv_at hl 1 rfl) ?_
        refine lv_if_ne (tgt := 93) hx hb dX7_transvectant_86 (by decide) (fun _ => ?_) (fun c23 => absurd c23 (by decide))
        refine lv_iload hx hb dX7_transvectant_93 (lv_at hl 0 rfl) ?_
        refine lv_if_ne (tgt := 102) hx hb dX7_transvectant_95 (by decide) (fun c24 => absurd c24 (by decide)) (fun _ => ?_)
        refine lv_iconst (v := 2) hx hb dX7_transvectant_98 (by decide) ?_
        refine lv_goto (tgt := 103) hx hb dX7_transvectant_99 (by decide) ?_
        refine cc_i (va_runV (C := RX7) (As := [.int 2]) (rest := []) ⟨hx, hb, hml, hown, hts⟩ (c_X7_holds hwd H.size u12 2 _ h) (cwV 1 hts gX7_transvectant_X7_holds rfl rfl rfl (by decide +kernel) ⟨Nat.le_of_ble_eq_true rfl, Nat.le_of_ble_eq_true rfl⟩) (pmV hC hP hS mg_0 rfl) rfl rfl hl.1 rfl (lv_room (Nat.le_of_ble_eq_true rfl)) dX7_transvectant_103 ⟨Nat.zero_le _, Nat.zero_le _⟩) hS (cA_mono hS.1) (fun v25 u26 H locs h hP hS => ?_)
        refine lv_if_eq (tgt := 119) hx hb dX7_transvectant_106 (by decide) (fun c27 => ?_) (fun c27 => ?_)
        · replace h := h.1 c27
          refine lv_iconst (v := 0) hx hb dX7_transvectant_119 (by decide) ?_
          exact W.iret (v := 0) hx hb hr (fun t ht hW => ⟨⟨_, _, rfl, h, by show va_P _ _ _ t.heap; rw [ht]; exact hP⟩, hS.F ht⟩) hS.2.2 dX7_transvectant_120
        · replace h := h.2 c27
          refine lv_aload_n hx hb dX7_transvectant_109 rfl (lv_at hl 2 rfl) ?_
          refine lv_iload_n hx hb dX7_transvectant_110 rfl (lv_at hl 3 rfl) ?_
          refine lv_iload_n hx hb dX7_transvectant_111 rfl (lv_at hl 4 rfl) ?_
          refine lv_iload_n hx hb dX7_transvectant_112 rfl (lv_at hl 5 rfl) ?_
          refine cc_i (va_runV (C := RX7) (As := [.int a1, .int a2, .int a3]) (rest := []) ⟨hx, hb, hml, hown, hts⟩ (c_X7_transvected hwd H.size u26 a1 a2 a3 _ h) (cwV 3 hts gX7_transvectant_X7_transvected rfl rfl rfl (by decide +kernel) ⟨Nat.le_of_ble_eq_true rfl, Nat.le_of_ble_eq_true rfl⟩) (pmV hC hP hS mg_0 rfl) rfl rfl hl.1 rfl (lv_room (Nat.le_of_ble_eq_true rfl)) dX7_transvectant_113 ⟨Nat.zero_le _, Nat.zero_le _⟩) hS (cA_mono hS.1) (fun v28 u29 H locs h hP hS => ?_)
          refine lv_goto (tgt := 120) hx hb dX7_transvectant_116 (by decide) ?_
          exact W.iret (v := v28) hx hb hr (fun t ht hW => ⟨⟨_, _, rfl, h, by show va_P _ _ _ t.heap; rw [ht]; exact hP⟩, hS.F ht⟩) hS.2.2 dX7_transvectant_120
      · replace h := h.2 c22
        refine lv_iload_n hx hb dX7_transvectant_32 rfl (lv_at hl 4 rfl) ?_
        refine lv_aload_n hx hb dX7_transvectant_33 rfl (lv_at hl 1 rfl) ?_
        refine va_get (C := RX7) (T := TX7) (N := 22) hx hb hts n7 hown hK hP 0 mg_0 rfl 2 (by decide) lk0 (fun _ h9 => h9) rfl dX7_transvectant_34 ?_
        refine lv_iload_n hx hb dX7_transvectant_37 rfl (lv_at hl 2 rfl) ?_
        refine va_iald hx hb hK hP 1 0 (mg_a ⟨by decide, by decide, by decide⟩) rfl h.1 dX7_transvectant_38 ?_
        refine lv_topi (fun v30 ev30 => ?_)
        replace h := h.2 v30 ev30
        refine lv_icmp_gt (tgt := 80) hx hb dX7_transvectant_39 (by decide) (fun c31 => ?_) (fun c31 => ?_)
        · replace h := h.1 c31
          refine lv_iconst (v := 0) hx hb dX7_transvectant_80 (by decide) ?_
          refine lv_istore (lv' := [(5, .int 0), (4, .int 1), (0, .ref (ad 0)), (1, .int a1), (2, .int a2), (3, .int a3)]) hx hb dX7_transvectant_81 hl (by decide) rfl (fun ls hl => ?_)
          refine lv_aload_n hx hb dX7_transvectant_83 rfl (lv_at hl 2 rfl) ?_
          refine lv_iload hx hb dX7_transvectant_84 (lv_at hl 1 rfl) ?_
          refine lv_if_ne (tgt := 93) hx hb dX7_transvectant_86 (by decide) (fun _ => ?_) (fun c32 => absurd c32 (by decide))
          refine lv_iload hx hb dX7_transvectant_93 (lv_at hl 0 rfl) ?_
          refine lv_if_ne (tgt := 102) hx hb dX7_transvectant_95 (by decide) (fun c33 => absurd c33 (by decide)) (fun _ => ?_)
          refine lv_iconst (v := 2) hx hb dX7_transvectant_98 (by decide) ?_
          refine lv_goto (tgt := 103) hx hb dX7_transvectant_99 (by decide) ?_
          refine cc_i (va_runV (C := RX7) (As := [.int 2]) (rest := []) ⟨hx, hb, hml, hown, hts⟩ (c_X7_holds hwd H.size u12 2 _ h) (cwV 1 hts gX7_transvectant_X7_holds rfl rfl rfl (by decide +kernel) ⟨Nat.le_of_ble_eq_true rfl, Nat.le_of_ble_eq_true rfl⟩) (pmV hC hP hS mg_0 rfl) rfl rfl hl.1 rfl (lv_room (Nat.le_of_ble_eq_true rfl)) dX7_transvectant_103 ⟨Nat.zero_le _, Nat.zero_le _⟩) hS (cA_mono hS.1) (fun v34 u35 H locs h hP hS => ?_)
          refine lv_if_eq (tgt := 119) hx hb dX7_transvectant_106 (by decide) (fun c36 => ?_) (fun c36 => ?_)
          · replace h := h.1 c36
            refine lv_iconst (v := 0) hx hb dX7_transvectant_119 (by decide) ?_
            exact W.iret (v := 0) hx hb hr (fun t ht hW => ⟨⟨_, _, rfl, h, by show va_P _ _ _ t.heap; rw [ht]; exact hP⟩, hS.F ht⟩) hS.2.2 dX7_transvectant_120
          · replace h := h.2 c36
            refine lv_aload_n hx hb dX7_transvectant_109 rfl (lv_at hl 2 rfl) ?_
            refine lv_iload_n hx hb dX7_transvectant_110 rfl (lv_at hl 3 rfl) ?_
            refine lv_iload_n hx hb dX7_transvectant_111 rfl (lv_at hl 4 rfl) ?_
            refine lv_iload_n hx hb dX7_transvectant_112 rfl (lv_at hl 5 rfl) ?_
            refine cc_i (va_runV (C := RX7) (As := [.int a1, .int a2, .int a3]) (rest := []) ⟨hx, hb, hml, hown, hts⟩ (c_X7_transvected hwd H.size u35 a1 a2 a3 _ h) (cwV 3 hts gX7_transvectant_X7_transvected rfl rfl rfl (by decide +kernel) ⟨Nat.le_of_ble_eq_true rfl, Nat.le_of_ble_eq_true rfl⟩) (pmV hC hP hS mg_0 rfl) rfl rfl hl.1 rfl (lv_room (Nat.le_of_ble_eq_true rfl)) dX7_transvectant_113 ⟨Nat.zero_le _, Nat.zero_le _⟩) hS (cA_mono hS.1) (fun v37 u38 H locs h hP hS => ?_)
            refine lv_goto (tgt := 120) hx hb dX7_transvectant_116 (by decide) ?_
            exact W.iret (v := v37) hx hb hr (fun t ht hW => ⟨⟨_, _, rfl, h, by show va_P _ _ _ t.heap; rw [ht]; exact hP⟩, hS.F ht⟩) hS.2.2 dX7_transvectant_120
        · replace h := h.2 c31
          refine lv_iload_n hx hb dX7_transvectant_42 rfl (lv_at hl 4 rfl) ?_
          refine lv_aload_n hx hb dX7_transvectant_43 rfl (lv_at hl 1 rfl) ?_
          refine va_get (C := RX7) (T := TX7) (N := 22) hx hb hts n7 hown hK hP 0 mg_0 rfl 2 (by decide) lk0 (fun _ h9 => h9) rfl dX7_transvectant_44 ?_
          refine lv_iload_n hx hb dX7_transvectant_47 rfl (lv_at hl 3 rfl) ?_
          refine va_iald hx hb hK hP 1 0 (mg_a ⟨by decide, by decide, by decide⟩) rfl h.1 dX7_transvectant_48 ?_
          refine lv_topi (fun v39 ev39 => ?_)
          replace h := h.2 v39 ev39
          refine lv_icmp_gt (tgt := 80) hx hb dX7_transvectant_49 (by decide) (fun c40 => ?_) (fun c40 => ?_)
          · replace h := h.1 c40
            refine lv_iconst (v := 0) hx hb dX7_transvectant_80 (by decide) ?_
            refine lv_istore (lv' := [(5, .int 0), (4, .int 1), (0, .ref (ad 0)), (1, .int a1), (2, .int a2), (3, .int a3)]) hx hb dX7_transvectant_81 hl (by decide) rfl (fun ls hl => ?_)
            refine lv_aload_n hx hb dX7_transvectant_83 rfl (lv_at hl 2 rfl) ?_
            refine lv_iload hx hb dX7_transvectant_84 (lv_at hl 1 rfl) ?_
            refine lv_if_ne (tgt := 93) hx hb dX7_transvectant_86 (by decide) (fun _ => ?_) (fun c41 => absurd c41 (by decide))
            refine lv_iload hx hb dX7_transvectant_93 (lv_at hl 0 rfl) ?_
            refine lv_if_ne (tgt := 102) hx hb dX7_transvectant_95 (by decide) (fun c42 => absurd c42 (by decide)) (fun _ => ?_)
            refine lv_iconst (v := 2) hx hb dX7_transvectant_98 (by decide) ?_
            refine lv_goto (tgt := 103) hx hb dX7_transvectant_99 (by decide) ?_
            refine cc_i (va_runV (C := RX7) (As := [.int 2]) (rest := []) ⟨hx, hb, hml, hown, hts⟩ (c_X7_holds hwd H.size u12 2 _ h) (cwV 1 hts gX7_transvectant_X7_holds rfl rfl rfl (by decide +kernel) ⟨Nat.le_of_ble_eq_true rfl, Nat.le_of_ble_eq_true rfl⟩) (pmV hC hP hS mg_0 rfl) rfl rfl hl.1 rfl (lv_room (Nat.le_of_ble_eq_true rfl)) dX7_transvectant_103 ⟨Nat.zero_le _, Nat.zero_le _⟩) hS (cA_mono hS.1) (fun v43 u44 H locs h hP hS => ?_)
            refine lv_if_eq (tgt := 119) hx hb dX7_transvectant_106 (by decide) (fun c45 => ?_) (fun c45 => ?_)
            · replace h := h.1 c45
              refine lv_iconst (v := 0) hx hb dX7_transvectant_119 (by decide) ?_
              exact W.iret (v := 0) hx hb hr (fun t ht hW => ⟨⟨_, _, rfl, h, by show va_P _ _ _ t.heap; rw [ht]; exact hP⟩, hS.F ht⟩) hS.2.2 dX7_transvectant_120
            · replace h := h.2 c45
              refine lv_aload_n hx hb dX7_transvectant_109 rfl (lv_at hl 2 rfl) ?_
              refine lv_iload_n hx hb dX7_transvectant_110 rfl (lv_at hl 3 rfl) ?_
              refine lv_iload_n hx hb dX7_transvectant_111 rfl (lv_at hl 4 rfl) ?_
              refine lv_iload_n hx hb dX7_transvectant_112 rfl (lv_at hl 5 rfl) ?_
              refine cc_i (va_runV (C := RX7) (As := [.int a1, .int a2, .int a3]) (rest := []) ⟨hx, hb, hml, hown, hts⟩ (c_X7_transvected hwd H.size u44 a1 a2 a3 _ h) (cwV 3 hts gX7_transvectant_X7_transvected rfl rfl rfl (by decide +kernel) ⟨Nat.le_of_ble_eq_true rfl, Nat.le_of_ble_eq_true rfl⟩) (pmV hC hP hS mg_0 rfl) rfl rfl hl.1 rfl (lv_room (Nat.le_of_ble_eq_true rfl)) dX7_transvectant_113 ⟨Nat.zero_le _, Nat.zero_le _⟩) hS (cA_mono hS.1) (fun v46 u47 H locs h hP hS => ?_)
              refine lv_goto (tgt := 120) hx hb dX7_transvectant_116 (by decide) ?_
              exact W.iret (v := v46) hx hb hr (fun t ht hW => ⟨⟨_, _, rfl, h, by show va_P _ _ _ t.heap; rw [ht]; exact hP⟩, hS.F ht⟩) hS.2.2 dX7_transvectant_120
          · replace h := h.2 c40
            refine lv_aload_n hx hb dX7_transvectant_52 rfl (lv_at hl 1 rfl) ?_
            refine lv_aload_n hx hb dX7_transvectant_53 rfl (lv_at hl 1 rfl) ?_
            refine va_get (C := RX7) (T := TX7) (N := 22) hx hb hts n7 hown hK hP 0 mg_0 rfl 2 (by decide) lk0 (fun _ h9 => h9) rfl dX7_transvectant_54 ?_
            refine lv_iload_n hx hb dX7_transvectant_57 rfl (lv_at hl 2 rfl) ?_
            refine va_iald hx hb hK hP 1 0 (mg_a ⟨by decide, by decide, by decide⟩) rfl h.1 dX7_transvectant_58 ?_
            refine lv_topi (fun v48 ev48 => ?_)
            replace h := h.2 v48 ev48
            refine lv_aload_n hx hb dX7_transvectant_59 rfl (lv_at hl 1 rfl) ?_
            refine va_get (C := RX7) (T := TX7) (N := 22) hx hb hts n7 hown hK hP 0 mg_0 rfl 2 (by decide) lk0 (fun _ h9 => h9) rfl dX7_transvectant_60 ?_
            refine lv_iload_n hx hb dX7_transvectant_63 rfl (lv_at hl 3 rfl) ?_
            refine va_iald hx hb hK hP 1 0 (mg_a ⟨by decide, by decide, by decide⟩) rfl h.1 dX7_transvectant_64 ?_
            refine lv_topi (fun v49 ev49 => ?_)
            replace h := h.2 v49 ev49
            refine lv_iadd hx hb dX7_transvectant_65 ?_
            refine lv_iconst (v := 2) hx hb dX7_transvectant_66 (by decide) ?_
            refine lv_iload_n hx hb dX7_transvectant_67 rfl (lv_at hl 4 rfl) ?_
            refine lv_imul hx hb dX7_transvectant_68 ?_
            refine lv_isub hx hb dX7_transvectant_69 ?_
            refine cc_i (va_runV (C := RX7) (As := [.int ((v48 + v49) - (2 * a3))]) (rest := []) ⟨hx, hb, hml, hown, hts⟩ (c_X7_isDegree hwd H.size u12 ((v48 + v49) - (2 * a3)) _ h) (cwV 1 hts gX7_transvectant_X7_isDegree rfl rfl rfl (by decide +kernel) ⟨Nat.le_of_ble_eq_true rfl, Nat.le_of_ble_eq_true rfl⟩) (pmV hC hP hS mg_0 rfl) rfl rfl hl.1 rfl (lv_room (Nat.le_of_ble_eq_true rfl)) dX7_transvectant_70 ⟨Nat.zero_le _, Nat.zero_le _⟩) hS (cA_mono hS.1) (fun v50 u51 H locs h hP hS => ?_)
            refine lv_if_eq (tgt := 80) hx hb dX7_transvectant_73 (by decide) (fun c52 => ?_) (fun c52 => ?_)
            · replace h := h.1 c52
              refine lv_iconst (v := 0) hx hb dX7_transvectant_80 (by decide) ?_
              refine lv_istore (lv' := [(5, .int 0), (4, .int 1), (0, .ref (ad 0)), (1, .int a1), (2, .int a2), (3, .int a3)]) hx hb dX7_transvectant_81 hl (by decide) rfl (fun ls hl => ?_)
              refine lv_aload_n hx hb dX7_transvectant_83 rfl (lv_at hl 2 rfl) ?_
              refine lv_iload hx hb dX7_transvectant_84 (lv_at hl 1 rfl) ?_
              refine lv_if_ne (tgt := 93) hx hb dX7_transvectant_86 (by decide) (fun _ => ?_) (fun c53 => absurd c53 (by decide))
              refine lv_iload hx hb dX7_transvectant_93 (lv_at hl 0 rfl) ?_
              refine lv_if_ne (tgt := 102) hx hb dX7_transvectant_95 (by decide) (fun c54 => absurd c54 (by decide)) (fun _ => ?_)
              refine lv_iconst (v := 2) hx hb dX7_transvectant_98 (by decide) ?_
              refine lv_goto (tgt := 103) hx hb dX7_transvectant_99 (by decide) ?_
              refine cc_i (va_runV (C := RX7) (As := [.int 2]) (rest := []) ⟨hx, hb, hml, hown, hts⟩ (c_X7_holds hwd H.size u51 2 _ h) (cwV 1 hts gX7_transvectant_X7_holds rfl rfl rfl (by decide +kernel) ⟨Nat.le_of_ble_eq_true rfl, Nat.le_of_ble_eq_true rfl⟩) (pmV hC hP hS mg_0 rfl) rfl rfl hl.1 rfl (lv_room (Nat.le_of_ble_eq_true rfl)) dX7_transvectant_103 ⟨Nat.zero_le _, Nat.zero_le _⟩) hS (cA_mono hS.1) (fun v55 u56 H locs h hP hS => ?_)
              refine lv_if_eq (tgt := 119) hx hb dX7_transvectant_106 (by decide) (fun c57 => ?_) (fun c57 => ?_)
              · replace h := h.1 c57
                refine lv_iconst (v := 0) hx hb dX7_transvectant_119 (by decide) ?_
                exact W.iret (v := 0) hx hb hr (fun t ht hW => ⟨⟨_, _, rfl, h, by show va_P _ _ _ t.heap; rw [ht]; exact hP⟩, hS.F ht⟩) hS.2.2 dX7_transvectant_120
              · replace h := h.2 c57
                refine lv_aload_n hx hb dX7_transvectant_109 rfl (lv_at hl 2 rfl) ?_
                refine lv_iload_n hx hb dX7_transvectant_110 rfl (lv_at hl 3 rfl) ?_
                refine lv_iload_n hx hb dX7_transvectant_111 rfl (lv_at hl 4 rfl) ?_
                refine lv_iload_n hx hb dX7_transvectant_112 rfl (lv_at hl 5 rfl) ?_
                refine cc_i (va_runV (C := RX7) (As := [.int a1, .int a2, .int a3]) (rest := []) ⟨hx, hb, hml, hown, hts⟩ (c_X7_transvected hwd H.size u56 a1 a2 a3 _ h) (cwV 3 hts gX7_transvectant_X7_transvected rfl rfl rfl (by decide +kernel) ⟨Nat.le_of_ble_eq_true rfl, Nat.le_of_ble_eq_true rfl⟩) (pmV hC hP hS mg_0 rfl) rfl rfl hl.1 rfl (lv_room (Nat.le_of_ble_eq_true rfl)) dX7_transvectant_113 ⟨Nat.zero_le _, Nat.zero_le _⟩) hS (cA_mono hS.1) (fun v58 u59 H locs h hP hS => ?_)
                refine lv_goto (tgt := 120) hx hb dX7_transvectant_116 (by decide) ?_
                exact W.iret (v := v58) hx hb hr (fun t ht hW => ⟨⟨_, _, rfl, h, by show va_P _ _ _ t.heap; rw [ht]; exact hP⟩, hS.F ht⟩) hS.2.2 dX7_transvectant_120
            · replace h := h.2 c52
              refine lv_iconst (v := 1) hx hb dX7_transvectant_76 (by decide) ?_
              refine lv_goto (tgt := 81) hx hb dX7_transvectant_77 (by decide) ?_
              refine lv_istore (lv' := [(5, .int 1), (4, .int 1), (0, .ref (ad 0)), (1, .int a1), (2, .int a2), (3, .int a3)]) hx hb dX7_transvectant_81 hl (by decide) rfl (fun ls hl => ?_)
              refine lv_aload_n hx hb dX7_transvectant_83 rfl (lv_at hl 2 rfl) ?_
              refine lv_iload hx hb dX7_transvectant_84 (lv_at hl 1 rfl) ?_
              refine lv_if_ne (tgt := 93) hx hb dX7_transvectant_86 (by decide) (fun _ => ?_) (fun c60 => absurd c60 (by decide))
              refine lv_iload hx hb dX7_transvectant_93 (lv_at hl 0 rfl) ?_
              refine lv_if_ne (tgt := 102) hx hb dX7_transvectant_95 (by decide) (fun _ => ?_) (fun c61 => absurd c61 (by decide))
              refine lv_iconst (v := 0) hx hb dX7_transvectant_102 (by decide) ?_
              refine cc_i (va_runV (C := RX7) (As := [.int 0]) (rest := []) ⟨hx, hb, hml, hown, hts⟩ (c_X7_holds hwd H.size u51 0 _ h) (cwV 1 hts gX7_transvectant_X7_holds rfl rfl rfl (by decide +kernel) ⟨Nat.le_of_ble_eq_true rfl, Nat.le_of_ble_eq_true rfl⟩) (pmV hC hP hS mg_0 rfl) rfl rfl hl.1 rfl (lv_room (Nat.le_of_ble_eq_true rfl)) dX7_transvectant_103 ⟨Nat.zero_le _, Nat.zero_le _⟩) hS (cA_mono hS.1) (fun v62 u63 H locs h hP hS => ?_)
              refine lv_if_eq (tgt := 119) hx hb dX7_transvectant_106 (by decide) (fun c64 => ?_) (fun c64 => ?_)
              · replace h := h.1 c64
                refine lv_iconst (v := 0) hx hb dX7_transvectant_119 (by decide) ?_
                exact W.iret (v := 0) hx hb hr (fun t ht hW => ⟨⟨_, _, rfl, h, by show va_P _ _ _ t.heap; rw [ht]; exact hP⟩, hS.F ht⟩) hS.2.2 dX7_transvectant_120
              · replace h := h.2 c64
                refine lv_aload_n hx hb dX7_transvectant_109 rfl (lv_at hl 2 rfl) ?_
                refine lv_iload_n hx hb dX7_transvectant_110 rfl (lv_at hl 3 rfl) ?_
                refine lv_iload_n hx hb dX7_transvectant_111 rfl (lv_at hl 4 rfl) ?_
                refine lv_iload_n hx hb dX7_transvectant_112 rfl (lv_at hl 5 rfl) ?_
                refine cc_i (va_runV (C := RX7) (As := [.int a1, .int a2, .int a3]) (rest := []) ⟨hx, hb, hml, hown, hts⟩ (c_X7_transvected hwd H.size u63 a1 a2 a3 _ h) (cwV 3 hts gX7_transvectant_X7_transvected rfl rfl rfl (by decide +kernel) ⟨Nat.le_of_ble_eq_true rfl, Nat.le_of_ble_eq_true rfl⟩) (pmV hC hP hS mg_0 rfl) rfl rfl hl.1 rfl (lv_room (Nat.le_of_ble_eq_true rfl)) dX7_transvectant_113 ⟨Nat.zero_le _, Nat.zero_le _⟩) hS (cA_mono hS.1) (fun v65 u66 H locs h hP hS => ?_)
                refine lv_goto (tgt := 120) hx hb dX7_transvectant_116 (by decide) ?_
                exact W.iret (v := v65) hx hb hr (fun t ht hW => ⟨⟨_, _, rfl, h, by show va_P _ _ _ t.heap; rw [ht]; exact hP⟩, hS.F ht⟩) hS.2.2 dX7_transvectant_120
set_option maxRecDepth 100000 in
set_option maxHeartbeats 4000000 in
theorem c_X7_transvectant {l : Launch} {D : va_G} {cI cG cZ cJ : ClassId} {ts : Nat × Nat} {ad : Nat → Nat} (hwd : WD mLs ad) (sz : Nat) (u : St) (a1 : Int32) (a2 : Int32) (a3 : Int32) (Q : Int32 → St → Prop) (h : f_X7_transvectant a1 a2 a3 u Q) : Met l yX7_transvectant wsX7_transvectant ({ frames := 3, cells := 0, slots := 0, locals := 77 }) (va_Pc [.ref (ad 0), .int a1, .int a2, .int a3] (PM D cI cG cZ cJ ts ad sz u)) (va_Qi Q (fun u9 t => va_P D vwCl (mW cI cZ ad u9) t.heap) (cA mLs ad sz)) 0 0 (cA mLs ad sz) := by
  refine Met.ofW (cc := cX7_transvectant) (maxL := 6) (ret := (some .int)) (by decide) rfl ?_
  intro p e s m args below meth c s₁ B hml hv
  obtain ⟨rfl, hsz, hP, hC⟩ := hv
  subst hsz
  have X : FX RX7 wsX7_transvectant cX7_transvectant 6 (some .int) D cI cG cZ cJ ts mLs ad p s m _ meth c := ⟨B.exec, B.bytes, hml, findClass_of_methodNamed B.named, atoms_spec (ws := wsX7_transvectant) B.pre, B.returns, B.notSynchronized, hwd, hC⟩
  have hl := lv_entry ([.ref (ad 0), .int a1, .int a2, .int a3]) (n := 6) (Nat.le_of_ble_eq_true rfl)
  rw [lg_entry_eq]
  generalize (lg_sl ([.ref (ad 0), .int a1, .int a2, .int a3]) ++ List.replicate (6 - (lg_sl ([.ref (ad 0), .int a1, .int a2, .int a3])).length) Slot.unset).toArray = ls at hl ⊢
  exact w_X7_transvectant X a1 a2 a3 Q u _ _ _ h hP va_S.rf hl
set_option maxRecDepth 100000 in
set_option maxHeartbeats 4000000 in
theorem w_X7_values {p : Program} {l : Launch} {e : Env} {s : State} {m : MethodId} {args : Array Value} {below : List Frame} {meth : Method} {c : Code} {D : va_G} {cI cG cZ cJ : ClassId} {ts : Nat × Nat}  {ad : Nat → Nat}  (X : FX RX7 wsX7_values cX7_values 1 (some .int) D cI cG cZ cJ ts mLs ad p s m args meth c) (a0 : Int32) (Q : Int32 → St → Prop) (u : St) (H : Heap) (locs : List Loc) (ls : Array Slot) (h : f_X7_values a0 u Q) (hP : va_P D vwCl (mW cI cZ ad u) H) (hS : va_S (cA mLs ad s.heap.size) s.heap H locs) (hl : lv_has ls 1 [(0, .int a0)]) : W p l e (headSpec wsX7_values { frames := 0, cells := 0, slots := 0, locals := 0 }).room s m args below meth c H locs 0 0 (MQ below (va_Qi Q (fun u9 t => va_P D vwCl (mW cI cZ ad u9) t.heap) (cA mLs ad s.heap.size)) args s 0 0 (cA mLs ad s.heap.size)) (F0 m 0 ls []) := by
  obtain ⟨hx, hb, hml, hown, hts, hr, hlocks, hwd, hC⟩ := id X
  have hK := hC.1
  unfold f_X7_values at h
  refine lv_iload_n hx hb dX7_values_0 rfl (lv_at hl 0 rfl) ?_
  refine lv_iconst (v := 1) hx hb dX7_values_1 (by decide) ?_
  refine lv_icmp_ne (tgt := 9) hx hb dX7_values_2 (by decide) (fun c1 => ?_) (fun c1 => ?_)
  · replace h := h.1 c1
    refine lv_iload_n hx hb dX7_values_9 rfl (lv_at hl 0 rfl) ?_
    refine lv_iconst (v := 4) hx hb dX7_values_10 (by decide) ?_
    refine lv_icmp_ne (tgt := 18) hx hb dX7_values_11 (by decide) (fun c2 => ?_) (fun c2 => ?_)
    · replace h := h.1 c2
      refine lv_iconst (v := 1) hx hb dX7_values_18 (by decide) ?_
      exact W.iret (v := 1) hx hb hr (fun t ht hW => ⟨⟨_, _, rfl, h, by show va_P _ _ _ t.heap; rw [ht]; exact hP⟩, hS.F ht⟩) hS.2.2 dX7_values_19
    · replace h := h.2 c2
      refine lv_iconst (v := 2) hx hb dX7_values_14 (by decide) ?_
      refine lv_goto (tgt := 19) hx hb dX7_values_15 (by decide) ?_
      exact W.iret (v := 2) hx hb hr (fun t ht hW => ⟨⟨_, _, rfl, h, by show va_P _ _ _ t.heap; rw [ht]; exact hP⟩, hS.F ht⟩) hS.2.2 dX7_values_19
  · replace h := h.2 c1
    refine lv_iconst (v := 0) hx hb dX7_values_5 (by decide) ?_
    refine lv_goto (tgt := 19) hx hb dX7_values_6 (by decide) ?_
    exact W.iret (v := 0) hx hb hr (fun t ht hW => ⟨⟨_, _, rfl, h, by show va_P _ _ _ t.heap; rw [ht]; exact hP⟩, hS.F ht⟩) hS.2.2 dX7_values_19
set_option maxRecDepth 100000 in
set_option maxHeartbeats 4000000 in
theorem c_X7_values {l : Launch} {D : va_G} {cI cG cZ cJ : ClassId} {ts : Nat × Nat} {ad : Nat → Nat} (hwd : WD mLs ad) (sz : Nat) (u : St) (a0 : Int32) (Q : Int32 → St → Prop) (h : f_X7_values a0 u Q) : Met l yX7_values wsX7_values ({ frames := 0, cells := 0, slots := 0, locals := 0 }) (va_Pc [.int a0] (PM D cI cG cZ cJ ts ad sz u)) (va_Qi Q (fun u9 t => va_P D vwCl (mW cI cZ ad u9) t.heap) (cA mLs ad sz)) 0 0 (cA mLs ad sz) := by
  refine Met.ofW (cc := cX7_values) (maxL := 1) (ret := (some .int)) (by decide) rfl ?_
  intro p e s m args below meth c s₁ B hml hv
  obtain ⟨rfl, hsz, hP, hC⟩ := hv
  subst hsz
  have X : FX RX7 wsX7_values cX7_values 1 (some .int) D cI cG cZ cJ ts mLs ad p s m _ meth c := ⟨B.exec, B.bytes, hml, findClass_of_methodNamed B.named, atoms_spec (ws := wsX7_values) B.pre, B.returns, B.notSynchronized, hwd, hC⟩
  have hl := lv_entry ([.int a0]) (n := 1) (Nat.le_of_ble_eq_true rfl)
  rw [lg_entry_eq]
  generalize (lg_sl ([.int a0]) ++ List.replicate (1 - (lg_sl ([.int a0])).length) Slot.unset).toArray = ls at hl ⊢
  exact w_X7_values X a0 Q u _ _ _ h hP va_S.rf hl
set_option maxRecDepth 100000 in
set_option maxHeartbeats 4000000 in
theorem w_X7_weight {p : Program} {l : Launch} {e : Env} {s : State} {m : MethodId} {args : Array Value} {below : List Frame} {meth : Method} {c : Code} {D : va_G} {cI cG cZ cJ : ClassId} {ts : Nat × Nat}  {ad : Nat → Nat}  (X : FX RX7 wsX7_weight cX7_weight 2 (some .int) D cI cG cZ cJ ts mLs ad p s m args meth c) (a0 : Int32) (a1 : Int32) (Q : Int32 → St → Prop) (u : St) (H : Heap) (locs : List Loc) (ls : Array Slot) (h : f_X7_weight a0 a1 u Q) (hP : va_P D vwCl (mW cI cZ ad u) H) (hS : va_S (cA mLs ad s.heap.size) s.heap H locs) (hl : lv_has ls 2 [(0, .int a0), (1, .int a1)]) : W p l e (headSpec wsX7_weight { frames := 0, cells := 0, slots := 0, locals := 0 }).room s m args below meth c H locs 0 0 (MQ below (va_Qi Q (fun u9 t => va_P D vwCl (mW cI cZ ad u9) t.heap) (cA mLs ad s.heap.size)) args s 0 0 (cA mLs ad s.heap.size)) (F0 m 0 ls []) := by
  obtain ⟨hx, hb, hml, hown, hts, hr, hlocks, hwd, hC⟩ := id X
  have hK := hC.1
  unfold f_X7_weight at h
  refine lv_iload_n hx hb dX7_weight_0 rfl (lv_at hl 0 rfl) ?_
  refine lv_iconst (v := 2) hx hb dX7_weight_1 (by decide) ?_
  refine lv_icmp_ne (tgt := 9) hx hb dX7_weight_2 (by decide) (fun c1 => ?_) (fun c1 => ?_)
  · replace h := h.1 c1
    refine lv_iload_n hx hb dX7_weight_9 rfl (lv_at hl 0 rfl) ?_
    refine lv_iconst (v := 4) hx hb dX7_weight_10 (by decide) ?_
    refine lv_icmp_ne (tgt := 22) hx hb dX7_weight_11 (by decide) (fun c2 => ?_) (fun c2 => ?_)
    · replace h := h.1 c2
      refine lv_bipush (v := 6) hx hb dX7_weight_22 (by decide) ?_
      exact W.iret (v := 6) hx hb hr (fun t ht hW => ⟨⟨_, _, rfl, h, by show va_P _ _ _ t.heap; rw [ht]; exact hP⟩, hS.F ht⟩) hS.2.2 dX7_weight_24
    · replace h := h.2 c2
      refine lv_iload_n hx hb dX7_weight_14 rfl (lv_at hl 1 rfl) ?_
      refine lv_if_ne (tgt := 22) hx hb dX7_weight_15 (by decide) (fun c3 => ?_) (fun c3 => ?_)
      · replace h := h.1 c3
        refine lv_bipush (v := 6) hx hb dX7_weight_22 (by decide) ?_
        exact W.iret (v := 6) hx hb hr (fun t ht hW => ⟨⟨_, _, rfl, h, by show va_P _ _ _ t.heap; rw [ht]; exact hP⟩, hS.F ht⟩) hS.2.2 dX7_weight_24
      · replace h := h.2 c3
        refine lv_iconst (v := 4) hx hb dX7_weight_18 (by decide) ?_
        refine lv_goto (tgt := 24) hx hb dX7_weight_19 (by decide) ?_
        exact W.iret (v := 4) hx hb hr (fun t ht hW => ⟨⟨_, _, rfl, h, by show va_P _ _ _ t.heap; rw [ht]; exact hP⟩, hS.F ht⟩) hS.2.2 dX7_weight_24
  · replace h := h.2 c1
    refine lv_iconst (v := 2) hx hb dX7_weight_5 (by decide) ?_
    refine lv_goto (tgt := 24) hx hb dX7_weight_6 (by decide) ?_
    exact W.iret (v := 2) hx hb hr (fun t ht hW => ⟨⟨_, _, rfl, h, by show va_P _ _ _ t.heap; rw [ht]; exact hP⟩, hS.F ht⟩) hS.2.2 dX7_weight_24
set_option maxRecDepth 100000 in
set_option maxHeartbeats 4000000 in
theorem c_X7_weight {l : Launch} {D : va_G} {cI cG cZ cJ : ClassId} {ts : Nat × Nat} {ad : Nat → Nat} (hwd : WD mLs ad) (sz : Nat) (u : St) (a0 : Int32) (a1 : Int32) (Q : Int32 → St → Prop) (h : f_X7_weight a0 a1 u Q) : Met l yX7_weight wsX7_weight ({ frames := 0, cells := 0, slots := 0, locals := 0 }) (va_Pc [.int a0, .int a1] (PM D cI cG cZ cJ ts ad sz u)) (va_Qi Q (fun u9 t => va_P D vwCl (mW cI cZ ad u9) t.heap) (cA mLs ad sz)) 0 0 (cA mLs ad sz) := by
  refine Met.ofW (cc := cX7_weight) (maxL := 2) (ret := (some .int)) (by decide) rfl ?_
  intro p e s m args below meth c s₁ B hml hv
  obtain ⟨rfl, hsz, hP, hC⟩ := hv
  subst hsz
  have X : FX RX7 wsX7_weight cX7_weight 2 (some .int) D cI cG cZ cJ ts mLs ad p s m _ meth c := ⟨B.exec, B.bytes, hml, findClass_of_methodNamed B.named, atoms_spec (ws := wsX7_weight) B.pre, B.returns, B.notSynchronized, hwd, hC⟩
  have hl := lv_entry ([.int a0, .int a1]) (n := 2) (Nat.le_of_ble_eq_true rfl)
  rw [lg_entry_eq]
  generalize (lg_sl ([.int a0, .int a1]) ++ List.replicate (2 - (lg_sl ([.int a0, .int a1])).length) Slot.unset).toArray = ls at hl ⊢
  exact w_X7_weight X a0 a1 Q u _ _ _ h hP va_S.rf hl
set_option maxRecDepth 100000 in
set_option maxHeartbeats 4000000 in
theorem w_X7_valueOf {p : Program} {l : Launch} {e : Env} {s : State} {m : MethodId} {args : Array Value} {below : List Frame} {meth : Method} {c : Code} {D : va_G} {cI cG cZ cJ : ClassId} {ts : Nat × Nat}  {ad : Nat → Nat}  (X : FX RX7 wsX7_valueOf cX7_valueOf 9 (some .int) D cI cG cZ cJ ts mLs ad p s m args meth c) (a1 : Int32) (a2 : Int32) (a3 : Int32) (Q : Int32 → St → Prop) (u : St) (H : Heap) (locs : List Loc) (ls : Array Slot) (h : f_X7_valueOf a1 a2 a3 u Q) (hP : va_P D vwCl (mW cI cZ ad u) H) (hS : va_S (cA mLs ad s.heap.size) s.heap H locs) (hl : lv_has ls 9 [(0, .ref (ad 0)), (1, .int a1), (2, .int a2), (3, .int a3)]) : W p l e (headSpec wsX7_valueOf { frames := 2, cells := 0, slots := 0, locals := 45 }).room s m args below meth c H locs 0 0 (MQ below (va_Qi Q (fun u9 t => va_P D vwCl (mW cI cZ ad u9) t.heap) (cA mLs ad s.heap.size)) args s 0 0 (cA mLs ad s.heap.size)) (F0 m 0 ls []) := by
  obtain ⟨hx, hb, hml, hown, hts, hr, hlocks, hwd, hC⟩ := id X
  have hK := hC.1
  unfold f_X7_valueOf at h
  refine lv_aload_n hx hb dX7_valueOf_0 rfl (lv_at hl 0 rfl) ?_
  refine lv_iload_n hx hb dX7_valueOf_1 rfl (lv_at hl 1 rfl) ?_
  refine lv_iconst (v := 0) hx hb dX7_valueOf_2 (by decide) ?_
  refine cc_i (va_runV (C := RX7) (As := [.int a1, .int 0]) (rest := []) ⟨hx, hb, hml, hown, hts⟩ (c_X7_figure hwd H.size u a1 0 _ h) (cwV 2 hts gX7_valueOf_X7_figure rfl rfl rfl (by decide +kernel) ⟨Nat.le_of_ble_eq_true rfl, Nat.le_of_ble_eq_true rfl⟩) (pmV hC hP hS mg_0 rfl) rfl rfl hl.1 rfl (lv_room (Nat.le_of_ble_eq_true rfl)) dX7_valueOf_3 ⟨Nat.zero_le _, Nat.zero_le _⟩) hS (cA_mono hS.1) (fun v1 u2 H locs h hP hS => ?_)
  refine lv_istore (lv' := [(4, .int v1), (0, .ref (ad 0)), (1, .int a1), (2, .int a2), (3, .int a3)]) hx hb dX7_valueOf_6 hl (by decide) rfl (fun ls hl => ?_)
  refine lv_aload_n hx hb dX7_valueOf_8 rfl (lv_at hl 1 rfl) ?_
  refine lv_iload_n hx hb dX7_valueOf_9 rfl (lv_at hl 2 rfl) ?_
  refine lv_iconst (v := 1) hx hb dX7_valueOf_10 (by decide) ?_
  refine cc_i (va_runV (C := RX7) (As := [.int a1, .int 1]) (rest := []) ⟨hx, hb, hml, hown, hts⟩ (c_X7_figure hwd H.size u2 a1 1 _ h) (cwV 2 hts gX7_valueOf_X7_figure rfl rfl rfl (by decide +kernel) ⟨Nat.le_of_ble_eq_true rfl, Nat.le_of_ble_eq_true rfl⟩) (pmV hC hP hS mg_0 rfl) rfl rfl hl.1 rfl (lv_room (Nat.le_of_ble_eq_true rfl)) dX7_valueOf_11 ⟨Nat.zero_le _, Nat.zero_le _⟩) hS (cA_mono hS.1) (fun v3 u4 H locs h hP hS => ?_)
  refine lv_istore (lv' := [(5, .int v3), (4, .int v1), (0, .ref (ad 0)), (1, .int a1), (2, .int a2), (3, .int a3)]) hx hb dX7_valueOf_14 hl (by decide) rfl (fun ls hl => ?_)
  refine lv_aload_n hx hb dX7_valueOf_16 rfl (lv_at hl 2 rfl) ?_
  refine lv_iload_n hx hb dX7_valueOf_17 rfl (lv_at hl 3 rfl) ?_
  refine lv_iconst (v := 2) hx hb dX7_valueOf_18 (by decide) ?_
  refine cc_i (va_runV (C := RX7) (As := [.int a1, .int 2]) (rest := []) ⟨hx, hb, hml, hown, hts⟩ (c_X7_figure hwd H.size u4 a1 2 _ h) (cwV 2 hts gX7_valueOf_X7_figure rfl rfl rfl (by decide +kernel) ⟨Nat.le_of_ble_eq_true rfl, Nat.le_of_ble_eq_true rfl⟩) (pmV hC hP hS mg_0 rfl) rfl rfl hl.1 rfl (lv_room (Nat.le_of_ble_eq_true rfl)) dX7_valueOf_19 ⟨Nat.zero_le _, Nat.zero_le _⟩) hS (cA_mono hS.1) (fun v5 u6 H locs h hP hS => ?_)
  refine lv_istore (lv' := [(6, .int v5), (5, .int v3), (4, .int v1), (0, .ref (ad 0)), (1, .int a1), (2, .int a2), (3, .int a3)]) hx hb dX7_valueOf_22 hl (by decide) rfl (fun ls hl => ?_)
  refine lv_aload_n hx hb dX7_valueOf_24 rfl (lv_at hl 3 rfl) ?_
  refine lv_iload_n hx hb dX7_valueOf_25 rfl (lv_at hl 4 rfl) ?_
  refine lv_iconst (v := 3) hx hb dX7_valueOf_26 (by decide) ?_
  refine cc_i (va_runV (C := RX7) (As := [.int a1, .int 3]) (rest := []) ⟨hx, hb, hml, hown, hts⟩ (c_X7_figure hwd H.size u6 a1 3 _ h) (cwV 2 hts gX7_valueOf_X7_figure rfl rfl rfl (by decide +kernel) ⟨Nat.le_of_ble_eq_true rfl, Nat.le_of_ble_eq_true rfl⟩) (pmV hC hP hS mg_0 rfl) rfl rfl hl.1 rfl (lv_room (Nat.le_of_ble_eq_true rfl)) dX7_valueOf_27 ⟨Nat.zero_le _, Nat.zero_le _⟩) hS (cA_mono hS.1) (fun v7 u8 H locs h hP hS => ?_)
  refine lv_istore (lv' := [(7, .int v7), (6, .int v5), (5, .int v3), (4, .int v1), (0, .ref (ad 0)), (1, .int a1), (2, .int a2), (3, .int a3)]) hx hb dX7_valueOf_30 hl (by decide) rfl (fun ls hl => ?_)
  refine lv_aload_n hx hb dX7_valueOf_32 rfl (lv_at hl 4 rfl) ?_
  refine lv_iload_n hx hb dX7_valueOf_33 rfl (lv_at hl 5 rfl) ?_
  refine lv_iconst (v := 4) hx hb dX7_valueOf_34 (by decide) ?_
  refine cc_i (va_runV (C := RX7) (As := [.int a1, .int 4]) (rest := []) ⟨hx, hb, hml, hown, hts⟩ (c_X7_figure hwd H.size u8 a1 4 _ h) (cwV 2 hts gX7_valueOf_X7_figure rfl rfl rfl (by decide +kernel) ⟨Nat.le_of_ble_eq_true rfl, Nat.le_of_ble_eq_true rfl⟩) (pmV hC hP hS mg_0 rfl) rfl rfl hl.1 rfl (lv_room (Nat.le_of_ble_eq_true rfl)) dX7_valueOf_35 ⟨Nat.zero_le _, Nat.zero_le _⟩) hS (cA_mono hS.1) (fun v9 u10 H locs h hP hS => ?_)
  refine lv_istore (lv' := [(8, .int v9), (7, .int v7), (6, .int v5), (5, .int v3), (4, .int v1), (0, .ref (ad 0)), (1, .int a1), (2, .int a2), (3, .int a3)]) hx hb dX7_valueOf_38 hl (by decide) rfl (fun ls hl => ?_)
  refine lv_iload_n hx hb dX7_valueOf_40 rfl (lv_at hl 7 rfl) ?_
  refine lv_iconst (v := 2) hx hb dX7_valueOf_41 (by decide) ?_
  refine lv_icmp_ne (tgt := 63) hx hb dX7_valueOf_42 (by decide) (fun c11 => ?_) (fun c11 => ?_)
  · replace h := h.1 c11
    refine lv_iload_n hx hb dX7_valueOf_63 rfl (lv_at hl 7 rfl) ?_
    refine lv_iconst (v := 3) hx hb dX7_valueOf_64 (by decide) ?_
    refine lv_icmp_ne (tgt := 142) hx hb dX7_valueOf_65 (by decide) (fun c12 => ?_) (fun c12 => ?_)
    · replace h := h.1 c12
      refine lv_aload_n hx hb dX7_valueOf_142 rfl (lv_at hl 5 rfl) ?_
      refine lv_iload_n hx hb dX7_valueOf_143 rfl (lv_at hl 8 rfl) ?_
      refine lv_if_ne (tgt := 172) hx hb dX7_valueOf_144 (by decide) (fun c13 => ?_) (fun c13 => ?_)
      · replace h := h.1 c13
        refine lv_bipush (v := 72) hx hb dX7_valueOf_172 (by decide) ?_
        refine lv_iload hx hb dX7_valueOf_174 (lv_at hl 4 rfl) ?_
        refine lv_imul hx hb dX7_valueOf_176 ?_
        refine lv_iload hx hb dX7_valueOf_177 (lv_at hl 2 rfl) ?_
        refine lv_imul hx hb dX7_valueOf_179 ?_
        refine lv_iload hx hb dX7_valueOf_180 (lv_at hl 0 rfl) ?_
        refine lv_imul hx hb dX7_valueOf_182 ?_
        refine lv_bipush (v := 9) hx hb dX7_valueOf_183 (by decide) ?_
        refine lv_iload hx hb dX7_valueOf_185 (lv_at hl 3 rfl) ?_
        refine lv_imul hx hb dX7_valueOf_187 ?_
        refine lv_iload hx hb dX7_valueOf_188 (lv_at hl 2 rfl) ?_
        refine lv_imul hx hb dX7_valueOf_190 ?_
        refine lv_iload hx hb dX7_valueOf_191 (lv_at hl 1 rfl) ?_
        refine lv_imul hx hb dX7_valueOf_193 ?_
        refine lv_iadd hx hb dX7_valueOf_194 ?_
        refine lv_bipush (v := 27) hx hb dX7_valueOf_195 (by decide) ?_
        refine lv_iload hx hb dX7_valueOf_197 (lv_at hl 4 rfl) ?_
        refine lv_imul hx hb dX7_valueOf_199 ?_
        refine lv_iload hx hb dX7_valueOf_200 (lv_at hl 1 rfl) ?_
        refine lv_imul hx hb dX7_valueOf_202 ?_
        refine lv_iload hx hb dX7_valueOf_203 (lv_at hl 1 rfl) ?_
        refine lv_imul hx hb dX7_valueOf_205 ?_
        refine lv_isub hx hb dX7_valueOf_206 ?_
        refine lv_bipush (v := 27) hx hb dX7_valueOf_207 (by decide) ?_
        refine lv_iload hx hb dX7_valueOf_209 (lv_at hl 0 rfl) ?_
        refine lv_imul hx hb dX7_valueOf_211 ?_
        refine lv_iload hx hb dX7_valueOf_212 (lv_at hl 3 rfl) ?_
        refine lv_imul hx hb dX7_valueOf_214 ?_
        refine lv_iload hx hb dX7_valueOf_215 (lv_at hl 3 rfl) ?_
        refine lv_imul hx hb dX7_valueOf_217 ?_
        refine lv_isub hx hb dX7_valueOf_218 ?_
        refine lv_iconst (v := 2) hx hb dX7_valueOf_219 (by decide) ?_
        refine lv_iload hx hb dX7_valueOf_220 (lv_at hl 2 rfl) ?_
        refine lv_imul hx hb dX7_valueOf_222 ?_
        refine lv_iload hx hb dX7_valueOf_223 (lv_at hl 2 rfl) ?_
        refine lv_imul hx hb dX7_valueOf_225 ?_
        refine lv_iload hx hb dX7_valueOf_226 (lv_at hl 2 rfl) ?_
        refine lv_imul hx hb dX7_valueOf_228 ?_
        refine lv_isub hx hb dX7_valueOf_229 ?_
        refine cc_i (va_runV (C := RX7) (As := [.int (((((((72 * v1) * v5) * v9) + (((9 * v3) * v5) * v7)) - (((27 * v1) * v7) * v7)) - (((27 * v9) * v3) * v3)) - (((2 * v5) * v5) * v5))]) (rest := []) ⟨hx, hb, hml, hown, hts⟩ (c_X7_mod hwd H.size u10 (((((((72 * v1) * v5) * v9) + (((9 * v3) * v5) * v7)) - (((27 * v1) * v7) * v7)) - (((27 * v9) * v3) * v3)) - (((2 * v5) * v5) * v5)) _ h) (cwV 1 hts gX7_valueOf_X7_mod rfl rfl rfl (by decide +kernel) ⟨Nat.le_of_ble_eq_true rfl, Nat.le_of_ble_eq_true rfl⟩) (pmV hC hP hS mg_0 rfl) rfl rfl hl.1 rfl (lv_room (Nat.le_of_ble_eq_true rfl)) dX7_valueOf_230 ⟨Nat.zero_le _, Nat.zero_le _⟩) hS (cA_mono hS.1) (fun v14 u15 H locs h hP hS => ?_)
        exact W.iret (v := v14) hx hb hr (fun t ht hW => ⟨⟨_, _, rfl, h, by show va_P _ _ _ t.heap; rw [ht]; exact hP⟩, hS.F ht⟩) hS.2.2 dX7_valueOf_233
      · replace h := h.2 c13
        refine lv_bipush (v := 12) hx hb dX7_valueOf_147 (by decide) ?_
        refine lv_iload hx hb dX7_valueOf_149 (lv_at hl 4 rfl) ?_
        refine lv_imul hx hb dX7_valueOf_151 ?_
        refine lv_iload hx hb dX7_valueOf_152 (lv_at hl 0 rfl) ?_
        refine lv_imul hx hb dX7_valueOf_154 ?_
        refine lv_iconst (v := 3) hx hb dX7_valueOf_155 (by decide) ?_
        refine lv_iload hx hb dX7_valueOf_156 (lv_at hl 3 rfl) ?_
        refine lv_imul hx hb dX7_valueOf_158 ?_
        refine lv_iload hx hb dX7_valueOf_159 (lv_at hl 1 rfl) ?_
        refine lv_imul hx hb dX7_valueOf_161 ?_
        refine lv_isub hx hb dX7_valueOf_162 ?_
        refine lv_iload hx hb dX7_valueOf_163 (lv_at hl 2 rfl) ?_
        refine lv_iload hx hb dX7_valueOf_165 (lv_at hl 2 rfl) ?_
        refine lv_imul hx hb dX7_valueOf_167 ?_
        refine lv_iadd hx hb dX7_valueOf_168 ?_
        refine lv_goto (tgt := 230) hx hb dX7_valueOf_169 (by decide) ?_
        refine cc_i (va_runV (C := RX7) (As := [.int ((((12 * v1) * v9) - ((3 * v3) * v7)) + (v5 * v5))]) (rest := []) ⟨hx, hb, hml, hown, hts⟩ (c_X7_mod hwd H.size u10 ((((12 * v1) * v9) - ((3 * v3) * v7)) + (v5 * v5)) _ h) (cwV 1 hts gX7_valueOf_X7_mod rfl rfl rfl (by decide +kernel) ⟨Nat.le_of_ble_eq_true rfl, Nat.le_of_ble_eq_true rfl⟩) (pmV hC hP hS mg_0 rfl) rfl rfl hl.1 rfl (lv_room (Nat.le_of_ble_eq_true rfl)) dX7_valueOf_230 ⟨Nat.zero_le _, Nat.zero_le _⟩) hS (cA_mono hS.1) (fun v16 u17 H locs h hP hS => ?_)
        exact W.iret (v := v16) hx hb hr (fun t ht hW => ⟨⟨_, _, rfl, h, by show va_P _ _ _ t.heap; rw [ht]; exact hP⟩, hS.F ht⟩) hS.2.2 dX7_valueOf_233
    · replace h := h.2 c12
      refine lv_aload_n hx hb dX7_valueOf_68 rfl (lv_at hl 5 rfl) ?_
      refine lv_iload hx hb dX7_valueOf_69 (lv_at hl 3 rfl) ?_
      refine lv_iload hx hb dX7_valueOf_71 (lv_at hl 3 rfl) ?_
      refine lv_imul hx hb dX7_valueOf_73 ?_
      refine lv_iload hx hb dX7_valueOf_74 (lv_at hl 2 rfl) ?_
      refine lv_imul hx hb dX7_valueOf_76 ?_
      refine lv_iload hx hb dX7_valueOf_77 (lv_at hl 2 rfl) ?_
      refine lv_imul hx hb dX7_valueOf_79 ?_
      refine lv_iconst (v := 4) hx hb dX7_valueOf_80 (by decide) ?_
      refine lv_iload hx hb dX7_valueOf_81 (lv_at hl 4 rfl) ?_
      refine lv_imul hx hb dX7_valueOf_83 ?_
      refine lv_iload hx hb dX7_valueOf_84 (lv_at hl 2 rfl) ?_
      refine lv_imul hx hb dX7_valueOf_86 ?_
      refine lv_iload hx hb dX7_valueOf_87 (lv_at hl 2 rfl) ?_
      refine lv_imul hx hb dX7_valueOf_89 ?_
      refine lv_iload hx hb dX7_valueOf_90 (lv_at hl 2 rfl) ?_
      refine lv_imul hx hb dX7_valueOf_92 ?_
      refine lv_isub hx hb dX7_valueOf_93 ?_
      refine lv_iconst (v := 4) hx hb dX7_valueOf_94 (by decide) ?_
      refine lv_iload hx hb dX7_valueOf_95 (lv_at hl 3 rfl) ?_
      refine lv_imul hx hb dX7_valueOf_97 ?_
      refine lv_iload hx hb dX7_valueOf_98 (lv_at hl 3 rfl) ?_
      refine lv_imul hx hb dX7_valueOf_100 ?_
      refine lv_iload hx hb dX7_valueOf_101 (lv_at hl 3 rfl) ?_
      refine lv_imul hx hb dX7_valueOf_103 ?_
      refine lv_iload hx hb dX7_valueOf_104 (lv_at hl 1 rfl) ?_
      refine lv_imul hx hb dX7_valueOf_106 ?_
      refine lv_isub hx hb dX7_valueOf_107 ?_
      refine lv_bipush (v := 27) hx hb dX7_valueOf_108 (by decide) ?_
      refine lv_iload hx hb dX7_valueOf_110 (lv_at hl 4 rfl) ?_
      refine lv_imul hx hb dX7_valueOf_112 ?_
      refine lv_iload hx hb dX7_valueOf_113 (lv_at hl 4 rfl) ?_
      refine lv_imul hx hb dX7_valueOf_115 ?_
      refine lv_iload hx hb dX7_valueOf_116 (lv_at hl 1 rfl) ?_
      refine lv_imul hx hb dX7_valueOf_118 ?_
      refine lv_iload hx hb dX7_valueOf_119 (lv_at hl 1 rfl) ?_
      refine lv_imul hx hb dX7_valueOf_121 ?_
      refine lv_isub hx hb dX7_valueOf_122 ?_
      refine lv_bipush (v := 18) hx hb dX7_valueOf_123 (by decide) ?_
      refine lv_iload hx hb dX7_valueOf_125 (lv_at hl 4 rfl) ?_
      refine lv_imul hx hb dX7_valueOf_127 ?_
      refine lv_iload hx hb dX7_valueOf_128 (lv_at hl 3 rfl) ?_
      refine lv_imul hx hb dX7_valueOf_130 ?_
      refine lv_iload hx hb dX7_valueOf_131 (lv_at hl 2 rfl) ?_
      refine lv_imul hx hb dX7_valueOf_133 ?_
      refine lv_iload hx hb dX7_valueOf_134 (lv_at hl 1 rfl) ?_
      refine lv_imul hx hb dX7_valueOf_136 ?_
      refine lv_iadd hx hb dX7_valueOf_137 ?_
      refine cc_i (va_runV (C := RX7) (As := [.int (((((((v3 * v3) * v5) * v5) - ((((4 * v1) * v5) * v5) * v5)) - ((((4 * v3) * v3) * v3) * v7)) - ((((27 * v1) * v1) * v7) * v7)) + ((((18 * v1) * v3) * v5) * v7))]) (rest := []) ⟨hx, hb, hml, hown, hts⟩ (c_X7_mod hwd H.size u10 (((((((v3 * v3) * v5) * v5) - ((((4 * v1) * v5) * v5) * v5)) - ((((4 * v3) * v3) * v3) * v7)) - ((((27 * v1) * v1) * v7) * v7)) + ((((18 * v1) * v3) * v5) * v7)) _ h) (cwV 1 hts gX7_valueOf_X7_mod rfl rfl rfl (by decide +kernel) ⟨Nat.le_of_ble_eq_true rfl, Nat.le_of_ble_eq_true rfl⟩) (pmV hC hP hS mg_0 rfl) rfl rfl hl.1 rfl (lv_room (Nat.le_of_ble_eq_true rfl)) dX7_valueOf_138 ⟨Nat.zero_le _, Nat.zero_le _⟩) hS (cA_mono hS.1) (fun v18 u19 H locs h hP hS => ?_)
      exact W.iret (v := v18) hx hb hr (fun t ht hW => ⟨⟨_, _, rfl, h, by show va_P _ _ _ t.heap; rw [ht]; exact hP⟩, hS.F ht⟩) hS.2.2 dX7_valueOf_141
  · replace h := h.2 c11
    refine lv_aload_n hx hb dX7_valueOf_45 rfl (lv_at hl 5 rfl) ?_
    refine lv_iload hx hb dX7_valueOf_46 (lv_at hl 3 rfl) ?_
    refine lv_iload hx hb dX7_valueOf_48 (lv_at hl 3 rfl) ?_
    refine lv_imul hx hb dX7_valueOf_50 ?_
    refine lv_iconst (v := 4) hx hb dX7_valueOf_51 (by decide) ?_
    refine lv_iload hx hb dX7_valueOf_52 (lv_at hl 4 rfl) ?_
    refine lv_imul hx hb dX7_valueOf_54 ?_
    refine lv_iload hx hb dX7_valueOf_55 (lv_at hl 2 rfl) ?_
    refine lv_imul hx hb dX7_valueOf_57 ?_
    refine lv_isub hx hb dX7_valueOf_58 ?_
    refine cc_i (va_runV (C := RX7) (As := [.int ((v3 * v3) - ((4 * v1) * v5))]) (rest := []) ⟨hx, hb, hml, hown, hts⟩ (c_X7_mod hwd H.size u10 ((v3 * v3) - ((4 * v1) * v5)) _ h) (cwV 1 hts gX7_valueOf_X7_mod rfl rfl rfl (by decide +kernel) ⟨Nat.le_of_ble_eq_true rfl, Nat.le_of_ble_eq_true rfl⟩) (pmV hC hP hS mg_0 rfl) rfl rfl hl.1 rfl (lv_room (Nat.le_of_ble_eq_true rfl)) dX7_valueOf_59 ⟨Nat.zero_le _, Nat.zero_le _⟩) hS (cA_mono hS.1) (fun v20 u21 H locs h hP hS => ?_)
    exact W.iret (v := v20) hx hb hr (fun t ht hW => ⟨⟨_, _, rfl, h, by show va_P _ _ _ t.heap; rw [ht]; exact hP⟩, hS.F ht⟩) hS.2.2 dX7_valueOf_62
set_option maxRecDepth 100000 in
set_option maxHeartbeats 4000000 in
theorem c_X7_valueOf {l : Launch} {D : va_G} {cI cG cZ cJ : ClassId} {ts : Nat × Nat} {ad : Nat → Nat} (hwd : WD mLs ad) (sz : Nat) (u : St) (a1 : Int32) (a2 : Int32) (a3 : Int32) (Q : Int32 → St → Prop) (h : f_X7_valueOf a1 a2 a3 u Q) : Met l yX7_valueOf wsX7_valueOf ({ frames := 2, cells := 0, slots := 0, locals := 45 }) (va_Pc [.ref (ad 0), .int a1, .int a2, .int a3] (PM D cI cG cZ cJ ts ad sz u)) (va_Qi Q (fun u9 t => va_P D vwCl (mW cI cZ ad u9) t.heap) (cA mLs ad sz)) 0 0 (cA mLs ad sz) := by
  refine Met.ofW (cc := cX7_valueOf) (maxL := 9) (ret := (some .int)) (by decide) rfl ?_
  intro p e s m args below meth c s₁ B hml hv
  obtain ⟨rfl, hsz, hP, hC⟩ := hv
  subst hsz
  have X : FX RX7 wsX7_valueOf cX7_valueOf 9 (some .int) D cI cG cZ cJ ts mLs ad p s m _ meth c := ⟨B.exec, B.bytes, hml, findClass_of_methodNamed B.named, atoms_spec (ws := wsX7_valueOf) B.pre, B.returns, B.notSynchronized, hwd, hC⟩
  have hl := lv_entry ([.ref (ad 0), .int a1, .int a2, .int a3]) (n := 9) (Nat.le_of_ble_eq_true rfl)
  rw [lg_entry_eq]
  generalize (lg_sl ([.ref (ad 0), .int a1, .int a2, .int a3]) ++ List.replicate (9 - (lg_sl ([.ref (ad 0), .int a1, .int a2, .int a3])).length) Slot.unset).toArray = ls at hl ⊢
  exact w_X7_valueOf X a1 a2 a3 Q u _ _ _ h hP va_S.rf hl
set_option maxRecDepth 100000 in
set_option maxHeartbeats 4000000 in
theorem w_X7_value {p : Program} {l : Launch} {e : Env} {s : State} {m : MethodId} {args : Array Value} {below : List Frame} {meth : Method} {c : Code} {D : va_G} {cI cG cZ cJ : ClassId} {ts : Nat × Nat}  {ad : Nat → Nat}  (X : FX RX7 wsX7_value cX7_value 4 (some .int) D cI cG cZ cJ ts mLs ad p s m args meth c) (a1 : Int32) (a2 : Int32) (Q : Int32 → St → Prop) (u : St) (H : Heap) (locs : List Loc) (ls : Array Slot) (h : f_X7_value a1 a2 u Q) (hP : va_P D vwCl (mW cI cZ ad u) H) (hS : va_S (cA mLs ad s.heap.size) s.heap H locs) (hl : lv_has ls 4 [(0, .ref (ad 0)), (1, .int a1), (2, .int a2)]) : W p l e (headSpec wsX7_value { frames := 3, cells := 0, slots := 0, locals := 73 }).room s m args below meth c H locs 0 0 (MQ below (va_Qi Q (fun u9 t => va_P D vwCl (mW cI cZ ad u9) t.heap) (cA mLs ad s.heap.size)) args s 0 0 (cA mLs ad s.heap.size)) (F0 m 0 ls []) := by
  obtain ⟨hx, hb, hml, hown, hts, hr, hlocks, hwd, hC⟩ := id X
  have hK := hC.1
  have lk0 := hts (.fieldLink RX7 13 "FormForgeModel" "degree" "[I") (by decide +kernel)
  have lk1 := hts (.fieldLink RX7 17 "FormForgeModel" "code" "[I") (by decide +kernel)
  have n7 : ∀ w ∈ wsX70, w ∈ wsX7_value := by decide +kernel
  unfold f_X7_value at h
  refine lv_aload_n hx hb dX7_value_0 rfl (lv_at hl 0 rfl) ?_
  refine lv_iload_n hx hb dX7_value_1 rfl (lv_at hl 1 rfl) ?_
  refine cc_i (va_runV (C := RX7) (As := [.int a1]) (rest := []) ⟨hx, hb, hml, hown, hts⟩ (c_X7_isForm hwd H.size u a1 _ h) (cwV 1 hts gX7_value_X7_isForm rfl rfl rfl (by decide +kernel) ⟨Nat.le_of_ble_eq_true rfl, Nat.le_of_ble_eq_true rfl⟩) (pmV hC hP hS mg_0 rfl) rfl rfl hl.1 rfl (lv_room (Nat.le_of_ble_eq_true rfl)) dX7_value_2 ⟨Nat.zero_le _, Nat.zero_le _⟩) hS (cA_mono hS.1) (fun v1 u2 H locs h hP hS => ?_)
  refine lv_istore_n (lv' := [(3, .int v1), (0, .ref (ad 0)), (1, .int a1), (2, .int a2)]) hx hb dX7_value_5 rfl hl (by decide) rfl (fun ls hl => ?_)
  refine lv_aload_n hx hb dX7_value_6 rfl (lv_at hl 1 rfl) ?_
  refine lv_iload_n hx hb dX7_value_7 rfl (lv_at hl 0 rfl) ?_
  refine lv_if_ne (tgt := 15) hx hb dX7_value_8 (by decide) (fun c3 => ?_) (fun c3 => ?_)
  · replace h := h.1 c3
    refine lv_iload_n hx hb dX7_value_15 rfl (lv_at hl 3 rfl) ?_
    refine lv_iconst (v := 0) hx hb dX7_value_16 (by decide) ?_
    refine lv_aload_n hx hb dX7_value_17 rfl (lv_at hl 1 rfl) ?_
    refine va_get (C := RX7) (T := TX7) (N := 22) hx hb hts n7 hown hK hP 0 mg_0 rfl 2 (by decide) lk0 (fun _ h9 => h9) rfl dX7_value_18 ?_
    refine lv_iload_n hx hb dX7_value_21 rfl (lv_at hl 2 rfl) ?_
    refine va_iald hx hb hK hP 1 0 (mg_a ⟨by decide, by decide, by decide⟩) rfl h.1 dX7_value_22 ?_
    refine lv_topi (fun v4 ev4 => ?_)
    replace h := h.2 v4 ev4
    refine cc_i (va_runS (As := [.int v4]) (rest := [.int 0, .int a2, .ref (ad 0)]) ⟨hx, hb, hml, hown, hts⟩ (c_X7_values hwd H.size u2 v4 _ h) (va_cwS 1 hts gX7_value_X7_values rfl rfl rfl (by decide +kernel) ⟨Nat.le_of_ble_eq_true rfl, Nat.le_of_ble_eq_true rfl⟩) (pmS hC hP hS) rfl rfl hl.1 rfl (lv_room (Nat.le_of_ble_eq_true rfl)) dX7_value_23 ⟨Nat.zero_le _, Nat.zero_le _⟩) hS (cA_mono hS.1) (fun v5 u6 H locs h hP hS => ?_)
    refine lv_iconst (v := 1) hx hb dX7_value_26 (by decide) ?_
    refine lv_isub hx hb dX7_value_27 ?_
    refine cc_i (va_runS (As := [.int a2, .int 0, .int (v5 - 1)]) (rest := [.ref (ad 0)]) ⟨hx, hb, hml, hown, hts⟩ (c_X7_isIn hwd H.size u6 a2 0 (v5 - 1) _ h) (va_cwS 3 hts gX7_value_X7_isIn rfl rfl rfl (by decide +kernel) ⟨Nat.le_of_ble_eq_true rfl, Nat.le_of_ble_eq_true rfl⟩) (pmS hC hP hS) rfl rfl hl.1 rfl (lv_room (Nat.le_of_ble_eq_true rfl)) dX7_value_28 ⟨Nat.zero_le _, Nat.zero_le _⟩) hS (cA_mono hS.1) (fun v7 u8 H locs h hP hS => ?_)
    refine lv_if_ne (tgt := 38) hx hb dX7_value_31 (by decide) (fun c9 => ?_) (fun c9 => ?_)
    · replace h := h.1 c9
      refine lv_iconst (v := 0) hx hb dX7_value_38 (by decide) ?_
      refine cc_i (va_runV (C := RX7) (As := [.int 0]) (rest := []) ⟨hx, hb, hml, hown, hts⟩ (c_X7_holds hwd H.size u8 0 _ h) (cwV 1 hts gX7_value_X7_holds rfl rfl rfl (by decide +kernel) ⟨Nat.le_of_ble_eq_true rfl, Nat.le_of_ble_eq_true rfl⟩) (pmV hC hP hS mg_0 rfl) rfl rfl hl.1 rfl (lv_room (Nat.le_of_ble_eq_true rfl)) dX7_value_39 ⟨Nat.zero_le _, Nat.zero_le _⟩) hS (cA_mono hS.1) (fun v10 u11 H locs h hP hS => ?_)
      refine lv_if_eq (tgt := 65) hx hb dX7_value_42 (by decide) (fun c12 => ?_) (fun c12 => ?_)
      · replace h := h.1 c12
        refine lv_iconst (v := 0) hx hb dX7_value_65 (by decide) ?_
        exact W.iret (v := 0) hx hb hr (fun t ht hW => ⟨⟨_, _, rfl, h, by show va_P _ _ _ t.heap; rw [ht]; exact hP⟩, hS.F ht⟩) hS.2.2 dX7_value_66
      · replace h := h.2 c12
        refine lv_aload_n hx hb dX7_value_45 rfl (lv_at hl 1 rfl) ?_
        refine lv_aload_n hx hb dX7_value_46 rfl (lv_at hl 1 rfl) ?_
        refine va_get (C := RX7) (T := TX7) (N := 22) hx hb hts n7 hown hK hP 0 mg_0 rfl 3 (by decide) lk1 (fun _ h9 => h9) rfl dX7_value_47 ?_
        refine lv_iload_n hx hb dX7_value_50 rfl (lv_at hl 2 rfl) ?_
        refine va_iald hx hb hK hP 2 0 (mg_a ⟨by decide, by decide, by decide⟩) rfl h.1 dX7_value_51 ?_
        refine lv_topi (fun v13 ev13 => ?_)
        replace h := h.2 v13 ev13
        refine lv_aload_n hx hb dX7_value_52 rfl (lv_at hl 1 rfl) ?_
        refine va_get (C := RX7) (T := TX7) (N := 22) hx hb hts n7 hown hK hP 0 mg_0 rfl 2 (by decide) lk0 (fun _ h9 => h9) rfl dX7_value_53 ?_
        refine lv_iload_n hx hb dX7_value_56 rfl (lv_at hl 2 rfl) ?_
        refine va_iald hx hb hK hP 1 0 (mg_a ⟨by decide, by decide, by decide⟩) rfl h.1 dX7_value_57 ?_
        refine lv_topi (fun v14 ev14 => ?_)
        replace h := h.2 v14 ev14
        refine lv_iload_n hx hb dX7_value_58 rfl (lv_at hl 3 rfl) ?_
        refine cc_i (va_runV (C := RX7) (As := [.int v13, .int v14, .int a2]) (rest := []) ⟨hx, hb, hml, hown, hts⟩ (c_X7_valueOf hwd H.size u11 v13 v14 a2 _ h) (cwV 3 hts gX7_value_X7_valueOf rfl rfl rfl (by decide +kernel) ⟨Nat.le_of_ble_eq_true rfl, Nat.le_of_ble_eq_true rfl⟩) (pmV hC hP hS mg_0 rfl) rfl rfl hl.1 rfl (lv_room (Nat.le_of_ble_eq_true rfl)) dX7_value_59 ⟨Nat.zero_le _, Nat.zero_le _⟩) hS (cA_mono hS.1) (fun v15 u16 H locs h hP hS => ?_)
        refine lv_goto (tgt := 66) hx hb dX7_value_62 (by decide) ?_
        exact W.iret (v := v15) hx hb hr (fun t ht hW => ⟨⟨_, _, rfl, h, by show va_P _ _ _ t.heap; rw [ht]; exact hP⟩, hS.F ht⟩) hS.2.2 dX7_value_66
    · replace h := h.2 c9
      refine lv_iconst (v := 2) hx hb dX7_value_34 (by decide) ?_
      refine lv_goto (tgt := 39) hx hb dX7_value_35 (by decide) ?_
      refine cc_i (va_runV (C := RX7) (As := [.int 2]) (rest := []) ⟨hx, hb, hml, hown, hts⟩ (c_X7_holds hwd H.size u8 2 _ h) (cwV 1 hts gX7_value_X7_holds rfl rfl rfl (by decide +kernel) ⟨Nat.le_of_ble_eq_true rfl, Nat.le_of_ble_eq_true rfl⟩) (pmV hC hP hS mg_0 rfl) rfl rfl hl.1 rfl (lv_room (Nat.le_of_ble_eq_true rfl)) dX7_value_39 ⟨Nat.zero_le _, Nat.zero_le _⟩) hS (cA_mono hS.1) (fun v17 u18 H locs h hP hS => ?_)
      refine lv_if_eq (tgt := 65) hx hb dX7_value_42 (by decide) (fun c19 => ?_) (fun c19 => ?_)
      · replace h := h.1 c19
        refine lv_iconst (v := 0) hx hb dX7_value_65 (by decide) ?_
        exact W.iret (v := 0) hx hb hr (fun t ht hW => ⟨⟨_, _, rfl, h, by show va_P _ _ _ t.heap; rw [ht]; exact hP⟩, hS.F ht⟩) hS.2.2 dX7_value_66
      · replace h := h.2 c19
        refine lv_aload_n hx hb dX7_value_45 rfl (lv_at hl 1 rfl) ?_
        refine lv_aload_n hx hb dX7_value_46 rfl (lv_at hl 1 rfl) ?_
        refine va_get (C := RX7) (T := TX7) (N := 22) hx hb hts n7 hown hK hP 0 mg_0 rfl 3 (by decide) lk1 (fun _ h9 => h9) rfl dX7_value_47 ?_
        refine lv_iload_n hx hb dX7_value_50 rfl (lv_at hl 2 rfl) ?_
        refine va_iald hx hb hK hP 2 0 (mg_a ⟨by decide, by decide, by decide⟩) rfl h.1 dX7_value_51 ?_
        refine lv_topi (fun v20 ev20 => ?_)
        replace h := h.2 v20 ev20
        refine lv_aload_n hx hb dX7_value_52 rfl (lv_at hl 1 rfl) ?_
        refine va_get (C := RX7) (T := TX7) (N := 22) hx hb hts n7 hown hK hP 0 mg_0 rfl 2 (by decide) lk0 (fun _ h9 => h9) rfl dX7_value_53 ?_
        refine lv_iload_n hx hb dX7_value_56 rfl (lv_at hl 2 rfl) ?_
        refine va_iald hx hb hK hP 1 0 (mg_a ⟨by decide, by decide, by decide⟩) rfl h.1 dX7_value_57 ?_
        refine lv_topi (fun v21 ev21 => ?_)
        replace h := h.2 v21 ev21
        refine lv_iload_n hx hb dX7_value_58 rfl (lv_at hl 3 rfl) ?_
        refine cc_i (va_runV (C := RX7) (As := [.int v20, .int v21, .int a2]) (rest := []) ⟨hx, hb, hml, hown, hts⟩ (c_X7_valueOf hwd H.size u18 v20 v21 a2 _ h) (cwV 3 hts gX7_value_X7_valueOf rfl rfl rfl (by decide +kernel) ⟨Nat.le_of_ble_eq_true rfl, Nat.le_of_ble_eq_true rfl⟩) (pmV hC hP hS mg_0 rfl) rfl rfl hl.1 rfl (lv_room (Nat.le_of_ble_eq_true rfl)) dX7_value_59 ⟨Nat.zero_le _, Nat.zero_le _⟩) hS (cA_mono hS.1) (fun v22 u23 H locs h hP hS => ?_)
        refine lv_goto (tgt := 66) hx hb dX7_value_62 (by decide) ?_
        exact W.iret (v := v22) hx hb hr (fun t ht hW => ⟨⟨_, _, rfl, h, by show va_P _ _ _ t.heap; rw [ht]; exact hP⟩, hS.F ht⟩) hS.2.2 dX7_value_66
  · replace h := h.2 c3
    refine lv_iconst (v := 1) hx hb dX7_value_11 (by decide) ?_
    refine lv_goto (tgt := 39) hx hb dX7_value_12 (by decide) ?_
    refine cc_i (va_runV (C := RX7) (As := [.int 1]) (rest := []) ⟨hx, hb, hml, hown, hts⟩ (c_X7_holds hwd H.size u2 1 _ h) (cwV 1 hts gX7_value_X7_holds rfl rfl rfl (by decide +kernel) ⟨Nat.le_of_ble_eq_true rfl, Nat.le_of_ble_eq_true rfl⟩) (pmV hC hP hS mg_0 rfl) rfl rfl hl.1 rfl (lv_room (Nat.le_of_ble_eq_true rfl)) dX7_value_39 ⟨Nat.zero_le _, Nat.zero_le _⟩) hS (cA_mono hS.1) (fun v24 u25 H locs h hP hS => ?_)
    refine lv_if_eq (tgt := 65) hx hb dX7_value_42 (by decide) (fun c26 => ?_) (fun c26 => ?_)
    · replace h := h.1 c26
      refine lv_iconst (v := 0) hx hb dX7_value_65 (by decide) ?_
      exact W.iret (v := 0) hx hb hr (fun t ht hW => ⟨⟨_, _, rfl, h, by show va_P _ _ _ t.heap; rw [ht]; exact hP⟩, hS.F ht⟩) hS.2.2 dX7_value_66
    · replace h := h.2 c26
      refine lv_aload_n hx hb dX7_value_45 rfl (lv_at hl 1 rfl) ?_
      refine lv_aload_n hx hb dX7_value_46 rfl (lv_at hl 1 rfl) ?_
      refine va_get (C := RX7) (T := TX7) (N := 22) hx hb hts n7 hown hK hP 0 mg_0 rfl 3 (by decide) lk1 (fun _ h9 => h9) rfl dX7_value_47 ?_
      refine lv_iload_n hx hb dX7_value_50 rfl (lv_at hl 2 rfl) ?_
      refine va_iald hx hb hK hP 2 0 (mg_a ⟨by decide, by decide, by decide⟩) rfl h.1 dX7_value_51 ?_
      refine lv_topi (fun v27 ev27 => ?_)
      replace h := h.2 v27 ev27
      refine lv_aload_n hx hb dX7_value_52 rfl (lv_at hl 1 rfl) ?_
      refine va_get (C := RX7) (T := TX7) (N := 22) hx hb hts n7 hown hK hP 0 mg_0 rfl 2 (by decide) lk0 (fun _ h9 => h9) rfl dX7_value_53 ?_
      refine lv_iload_n hx hb dX7_value_56 rfl (lv_at hl 2 rfl) ?_
      refine va_iald hx hb hK hP 1 0 (mg_a ⟨by decide, by decide, by decide⟩) rfl h.1 dX7_value_57 ?_
      refine lv_topi (fun v28 ev28 => ?_)
      replace h := h.2 v28 ev28
      refine lv_iload_n hx hb dX7_value_58 rfl (lv_at hl 3 rfl) ?_
      refine cc_i (va_runV (C := RX7) (As := [.int v27, .int v28, .int a2]) (rest := []) ⟨hx, hb, hml, hown, hts⟩ (c_X7_valueOf hwd H.size u25 v27 v28 a2 _ h) (cwV 3 hts gX7_value_X7_valueOf rfl rfl rfl (by decide +kernel) ⟨Nat.le_of_ble_eq_true rfl, Nat.le_of_ble_eq_true rfl⟩) (pmV hC hP hS mg_0 rfl) rfl rfl hl.1 rfl (lv_room (Nat.le_of_ble_eq_true rfl)) dX7_value_59 ⟨Nat.zero_le _, Nat.zero_le _⟩) hS (cA_mono hS.1) (fun v29 u30 H locs h hP hS => ?_)
      refine lv_goto (tgt := 66) hx hb dX7_value_62 (by decide) ?_
      exact W.iret (v := v29) hx hb hr (fun t ht hW => ⟨⟨_, _, rfl, h, by show va_P _ _ _ t.heap; rw [ht]; exact hP⟩, hS.F ht⟩) hS.2.2 dX7_value_66
set_option maxRecDepth 100000 in
set_option maxHeartbeats 4000000 in
theorem c_X7_value {l : Launch} {D : va_G} {cI cG cZ cJ : ClassId} {ts : Nat × Nat} {ad : Nat → Nat} (hwd : WD mLs ad) (sz : Nat) (u : St) (a1 : Int32) (a2 : Int32) (Q : Int32 → St → Prop) (h : f_X7_value a1 a2 u Q) : Met l yX7_value wsX7_value ({ frames := 3, cells := 0, slots := 0, locals := 73 }) (va_Pc [.ref (ad 0), .int a1, .int a2] (PM D cI cG cZ cJ ts ad sz u)) (va_Qi Q (fun u9 t => va_P D vwCl (mW cI cZ ad u9) t.heap) (cA mLs ad sz)) 0 0 (cA mLs ad sz) := by
  refine Met.ofW (cc := cX7_value) (maxL := 4) (ret := (some .int)) (by decide) rfl ?_
  intro p e s m args below meth c s₁ B hml hv
  obtain ⟨rfl, hsz, hP, hC⟩ := hv
  subst hsz
  have X : FX RX7 wsX7_value cX7_value 4 (some .int) D cI cG cZ cJ ts mLs ad p s m _ meth c := ⟨B.exec, B.bytes, hml, findClass_of_methodNamed B.named, atoms_spec (ws := wsX7_value) B.pre, B.returns, B.notSynchronized, hwd, hC⟩
  have hl := lv_entry ([.ref (ad 0), .int a1, .int a2]) (n := 4) (Nat.le_of_ble_eq_true rfl)
  rw [lg_entry_eq]
  generalize (lg_sl ([.ref (ad 0), .int a1, .int a2]) ++ List.replicate (4 - (lg_sl ([.ref (ad 0), .int a1, .int a2])).length) Slot.unset).toArray = ls at hl ⊢
  exact w_X7_value X a1 a2 Q u _ _ _ h hP va_S.rf hl
set_option maxRecDepth 100000 in
set_option maxHeartbeats 4000000 in
theorem w_X7_weighs_L73 {p : Program} {l : Launch} {e : Env} {s : State} {m : MethodId} {args : Array Value} {below : List Frame} {meth : Method} {c : Code} {D : va_G} {cI cG cZ cJ : ClassId} {ts : Nat × Nat}  {ad : Nat → Nat}  (X : FX RX7 wsX7_weighs cX7_weighs 8 (some .boolean) D cI cG cZ cJ ts mLs ad p s m args meth c) (a1 : Int32) (a2 : Int32) (a3 : Int32) (a4 : Int32) (a5 : Int32) (Q : Int32 → St → Prop)
    (K0 : Int32 → St → Prop) (hk0 : ∀ (b6 : Int32) (u : St) (H : Heap) (locs : List Loc) (ls : Array Slot), K0 b6 u → va_P D vwCl (mW cI cZ ad u) H → va_S (cA mLs ad s.heap.size) s.heap H locs → lv_has ls 8 [(0, .ref (ad 0)), (1, .int a1), (2, .int a2), (3, .int a3), (4, .int a4), (6, .int b6)] → W p l e (headSpec wsX7_weighs { frames := 4, cells := 0, slots := 0, locals := 94 }).room s m args below meth c H locs 0 0 (MQ below (va_Qi Q (fun u9 t => va_P D vwCl (mW cI cZ ad u9) t.heap) (cA mLs ad s.heap.size)) args s 0 0 (cA mLs ad s.heap.size)) (F0 m 101 ls []))
    : ∀ (n : Nat) (a6 : Int32) (a7 : Int32) (u : St) (H : Heap) (locs : List Loc) (ls : Array Slot), f_X7_weighs_L73 a1 a2 a3 a4 a5 Q K0 n a6 a7 u → va_P D vwCl (mW cI cZ ad u) H → va_S (cA mLs ad s.heap.size) s.heap H locs → lv_has ls 8 [(0, .ref (ad 0)), (1, .int a1), (2, .int a2), (3, .int a3), (4, .int a4), (5, .int a5), (6, .int a6), (7, .int a7)] → W p l e (headSpec wsX7_weighs { frames := 4, cells := 0, slots := 0, locals := 94 }).room s m args below meth c H locs 0 0 (MQ below (va_Qi Q (fun u9 t => va_P D vwCl (mW cI cZ ad u9) t.heap) (cA mLs ad s.heap.size)) args s 0 0 (cA mLs ad s.heap.size)) (F0 m 73 ls []) := by
  obtain ⟨hx, hb, hml, hown, hts, hr, hlocks, hwd, hC⟩ := id X
  have hK := hC.1
  have lk0 := hts (.fieldLink RX7 13 "FormForgeModel" "degree" "[I") (by decide +kernel)
  have lk1 := hts (.fieldLink RX7 20 "FormForgeModel" "matrix" "[I") (by decide +kernel)
  have lk2 := hts (.fieldLink RX7 17 "FormForgeModel" "code" "[I") (by decide +kernel)
  have n7 : ∀ w ∈ wsX70, w ∈ wsX7_weighs := by decide +kernel
  intro n
  induction n with
  | zero =>
    intro a6 a7 u H locs ls h; exact h.elim
  | succ n ih =>
    intro a6 a7 u H locs ls h hP hS hl
    replace h : f_X7_weighs_L73_s a1 a2 a3 a4 a5 Q K0 (f_X7_weighs_L73 a1 a2 a3 a4 a5 Q K0 n) a6 a7 u := h
    unfold f_X7_weighs_L73_s at h
    refine lv_iload hx hb dX7_weighs_73 (lv_at hl 7 rfl) ?_
    refine lv_iload hx hb dX7_weighs_75 (lv_at hl 4 rfl) ?_
    refine lv_iload_n hx hb dX7_weighs_77 rfl (lv_at hl 2 rfl) ?_
    refine cc_i (va_runS (As := [.int a4, .int a2]) (rest := [.int a7]) ⟨hx, hb, hml, hown, hts⟩ (c_X7_weight hwd H.size u a4 a2 _ h) (va_cwS 2 hts gX7_weighs_X7_weight rfl rfl rfl (by decide +kernel) ⟨Nat.le_of_ble_eq_true rfl, Nat.le_of_ble_eq_true rfl⟩) (pmS hC hP hS) rfl rfl hl.1 rfl (lv_room (Nat.le_of_ble_eq_true rfl)) dX7_weighs_78 ⟨Nat.zero_le _, Nat.zero_le _⟩) hS (cA_mono hS.1) (fun v11 u12 H locs h hP hS => ?_)
    refine lv_icmp_ge (tgt := 101) hx hb dX7_weighs_81 (by decide) (fun c13 => ?_) (fun c13 => ?_)
    · replace h := h.1 c13
      exact hk0 a6 _ _ _ _ h hP hS (lv_sub hl [0, 1, 2, 3, 4, 6] rfl)
    · replace h := h.2 c13
      refine lv_aload_n hx hb dX7_weighs_84 rfl (lv_at hl 0 rfl) ?_
      refine lv_iload hx hb dX7_weighs_85 (lv_at hl 6 rfl) ?_
      refine lv_iload hx hb dX7_weighs_87 (lv_at hl 5 rfl) ?_
      refine lv_imul hx hb dX7_weighs_89 ?_
      refine cc_i (va_runV (C := RX7) (As := [.int (a6 * a5)]) (rest := []) ⟨hx, hb, hml, hown, hts⟩ (c_X7_mod hwd H.size u12 (a6 * a5) _ h) (cwV 1 hts gX7_weighs_X7_mod rfl rfl rfl (by decide +kernel) ⟨Nat.le_of_ble_eq_true rfl, Nat.le_of_ble_eq_true rfl⟩) (pmV hC hP hS mg_0 rfl) rfl rfl hl.1 rfl (lv_room (Nat.le_of_ble_eq_true rfl)) dX7_weighs_90 ⟨Nat.zero_le _, Nat.zero_le _⟩) hS (cA_mono hS.1) (fun v14 u15 H locs h hP hS => ?_)
      refine lv_istore (lv' := [(6, .int v14), (0, .ref (ad 0)), (1, .int a1), (2, .int a2), (3, .int a3), (4, .int a4), (5, .int a5), (7, .int a7)]) hx hb dX7_weighs_93 hl (by decide) rfl (fun ls hl => ?_)
      obtain ⟨v16, ev16⟩ : ∃ y : Int32, y = a7 + 1 := ⟨_, rfl⟩
      refine lv_iinc (v := v16) (lv' := [(7, .int v16), (6, .int v14), (0, .ref (ad 0)), (1, .int a1), (2, .int a2), (3, .int a3), (4, .int a4), (5, .int a5)]) hx hb dX7_weighs_95 hl (k := 7) rfl (by rw [ev16]; rfl) (by decide) rfl (fun ls hl => ?_)
      replace h := h v16 ev16
      refine lv_goto (tgt := 73) hx hb dX7_weighs_98 (by decide) ?_
      exact ih v14 v16 _ _ _ _ h hP hS (lv_sub hl [2, 3, 4, 5, 6, 7, 1, 0] rfl)
set_option maxRecDepth 100000 in
set_option maxHeartbeats 4000000 in
theorem w_X7_weighs {p : Program} {l : Launch} {e : Env} {s : State} {m : MethodId} {args : Array Value} {below : List Frame} {meth : Method} {c : Code} {D : va_G} {cI cG cZ cJ : ClassId} {ts : Nat × Nat}  {ad : Nat → Nat}  (X : FX RX7 wsX7_weighs cX7_weighs 8 (some .boolean) D cI cG cZ cJ ts mLs ad p s m args meth c) (a1 : Int32) (a2 : Int32) (a3 : Int32) (Q : Int32 → St → Prop) (u : St) (H : Heap) (locs : List Loc) (ls : Array Slot) (h : f_X7_weighs a1 a2 a3 u Q) (hP : va_P D vwCl (mW cI cZ ad u) H) (hS : va_S (cA mLs ad s.heap.size) s.heap H locs) (hl : lv_has ls 8 [(0, .ref (ad 0)), (1, .int a1), (2, .int a2), (3, .int a3)]) : W p l e (headSpec wsX7_weighs { frames := 4, cells := 0, slots := 0, locals := 94 }).room s m args below meth c H locs 0 0 (MQ below (va_Qi Q (fun u9 t => va_P D vwCl (mW cI cZ ad u9) t.heap) (cA mLs ad s.heap.size)) args s 0 0 (cA mLs ad s.heap.size)) (F0 m 0 ls []) := by
  obtain ⟨hx, hb, hml, hown, hts, hr, hlocks, hwd, hC⟩ := id X
  have hK := hC.1
  have lk0 := hts (.fieldLink RX7 13 "FormForgeModel" "degree" "[I") (by decide +kernel)
  have lk1 := hts (.fieldLink RX7 20 "FormForgeModel" "matrix" "[I") (by decide +kernel)
  have lk2 := hts (.fieldLink RX7 17 "FormForgeModel" "code" "[I") (by decide +kernel)
  have n7 : ∀ w ∈ wsX70, w ∈ wsX7_weighs := by decide +kernel
  unfold f_X7_weighs at h
  refine lv_aload_n hx hb dX7_weighs_0 rfl (lv_at hl 0 rfl) ?_
  refine va_get (C := RX7) (T := TX7) (N := 22) hx hb hts n7 hown hK hP 0 mg_0 rfl 2 (by decide) lk0 (fun _ h9 => h9) rfl dX7_weighs_1 ?_
  refine lv_iload_n hx hb dX7_weighs_4 rfl (lv_at hl 1 rfl) ?_
  refine va_iald hx hb hK hP 1 0 (mg_a ⟨by decide, by decide, by decide⟩) rfl h.1 dX7_weighs_5 ?_
  refine lv_topi (fun v1 ev1 => ?_)
  replace h := h.2 v1 ev1
  refine lv_istore (lv' := [(4, .int v1), (0, .ref (ad 0)), (1, .int a1), (2, .int a2), (3, .int a3)]) hx hb dX7_weighs_6 hl (by decide) rfl (fun ls hl => ?_)
  refine lv_aload_n hx hb dX7_weighs_8 rfl (lv_at hl 1 rfl) ?_
  refine lv_aload_n hx hb dX7_weighs_9 rfl (lv_at hl 1 rfl) ?_
  refine va_get (C := RX7) (T := TX7) (N := 22) hx hb hts n7 hown hK hP 0 mg_0 rfl 5 (by decide) lk1 (fun _ h9 => h9) rfl dX7_weighs_10 ?_
  refine lv_iconst (v := 4) hx hb dX7_weighs_13 (by decide) ?_
  refine lv_iload_n hx hb dX7_weighs_14 rfl (lv_at hl 4 rfl) ?_
  refine lv_imul hx hb dX7_weighs_15 ?_
  refine va_iald hx hb hK hP 3 0 (mg_a ⟨by decide, by decide, by decide⟩) rfl h.1 dX7_weighs_16 ?_
  refine lv_topi (fun v2 ev2 => ?_)
  replace h := h.2 v2 ev2
  refine lv_aload_n hx hb dX7_weighs_17 rfl (lv_at hl 1 rfl) ?_
  refine va_get (C := RX7) (T := TX7) (N := 22) hx hb hts n7 hown hK hP 0 mg_0 rfl 5 (by decide) lk1 (fun _ h9 => h9) rfl dX7_weighs_18 ?_
  refine lv_iconst (v := 4) hx hb dX7_weighs_21 (by decide) ?_
  refine lv_iload_n hx hb dX7_weighs_22 rfl (lv_at hl 4 rfl) ?_
  refine lv_imul hx hb dX7_weighs_23 ?_
  refine lv_iconst (v := 3) hx hb dX7_weighs_24 (by decide) ?_
  refine lv_iadd hx hb dX7_weighs_25 ?_
  refine va_iald hx hb hK hP 3 0 (mg_a ⟨by decide, by decide, by decide⟩) rfl h.1 dX7_weighs_26 ?_
  refine lv_topi (fun v3 ev3 => ?_)
  replace h := h.2 v3 ev3
  refine lv_imul hx hb dX7_weighs_27 ?_
  refine lv_aload_n hx hb dX7_weighs_28 rfl (lv_at hl 1 rfl) ?_
  refine va_get (C := RX7) (T := TX7) (N := 22) hx hb hts n7 hown hK hP 0 mg_0 rfl 5 (by decide) lk1 (fun _ h9 => h9) rfl dX7_weighs_29 ?_
  refine lv_iconst (v := 4) hx hb dX7_weighs_32 (by decide) ?_
  refine lv_iload_n hx hb dX7_weighs_33 rfl (lv_at hl 4 rfl) ?_
  refine lv_imul hx hb dX7_weighs_34 ?_
  refine lv_iconst (v := 1) hx hb dX7_weighs_35 (by decide) ?_
  refine lv_iadd hx hb dX7_weighs_36 ?_
  refine va_iald hx hb hK hP 3 0 (mg_a ⟨by decide, by decide, by decide⟩) rfl h.1 dX7_weighs_37 ?_
  refine lv_topi (fun v4 ev4 => ?_)
  replace h := h.2 v4 ev4
  refine lv_aload_n hx hb dX7_weighs_38 rfl (lv_at hl 1 rfl) ?_
  refine va_get (C := RX7) (T := TX7) (N := 22) hx hb hts n7 hown hK hP 0 mg_0 rfl 5 (by decide) lk1 (fun _ h9 => h9) rfl dX7_weighs_39 ?_
  refine lv_iconst (v := 4) hx hb dX7_weighs_42 (by decide) ?_
  refine lv_iload_n hx hb dX7_weighs_43 rfl (lv_at hl 4 rfl) ?_
  refine lv_imul hx hb dX7_weighs_44 ?_
  refine lv_iconst (v := 2) hx hb dX7_weighs_45 (by decide) ?_
  refine lv_iadd hx hb dX7_weighs_46 ?_
  refine va_iald hx hb hK hP 3 0 (mg_a ⟨by decide, by decide, by decide⟩) rfl h.1 dX7_weighs_47 ?_
  refine lv_topi (fun v5 ev5 => ?_)
  replace h := h.2 v5 ev5
  refine lv_imul hx hb dX7_weighs_48 ?_
  refine lv_isub hx hb dX7_weighs_49 ?_
  refine cc_i (va_runV (C := RX7) (As := [.int ((v2 * v3) - (v4 * v5))]) (rest := []) ⟨hx, hb, hml, hown, hts⟩ (c_X7_mod hwd H.size u ((v2 * v3) - (v4 * v5)) _ h) (cwV 1 hts gX7_weighs_X7_mod rfl rfl rfl (by decide +kernel) ⟨Nat.le_of_ble_eq_true rfl, Nat.le_of_ble_eq_true rfl⟩) (pmV hC hP hS mg_0 rfl) rfl rfl hl.1 rfl (lv_room (Nat.le_of_ble_eq_true rfl)) dX7_weighs_50 ⟨Nat.zero_le _, Nat.zero_le _⟩) hS (cA_mono hS.1) (fun v6 u7 H locs h hP hS => ?_)
  refine lv_istore (lv' := [(5, .int v6), (4, .int v1), (0, .ref (ad 0)), (1, .int a1), (2, .int a2), (3, .int a3)]) hx hb dX7_weighs_53 hl (by decide) rfl (fun ls hl => ?_)
  refine lv_aload_n hx hb dX7_weighs_55 rfl (lv_at hl 2 rfl) ?_
  refine lv_aload_n hx hb dX7_weighs_56 rfl (lv_at hl 2 rfl) ?_
  refine va_get (C := RX7) (T := TX7) (N := 22) hx hb hts n7 hown hK hP 0 mg_0 rfl 3 (by decide) lk2 (fun _ h9 => h9) rfl dX7_weighs_57 ?_
  refine lv_iload_n hx hb dX7_weighs_60 rfl (lv_at hl 3 rfl) ?_
  refine va_iald hx hb hK hP 2 0 (mg_a ⟨by decide, by decide, by decide⟩) rfl h.1 dX7_weighs_61 ?_
  refine lv_topi (fun v8 ev8 => ?_)
  replace h := h.2 v8 ev8
  refine lv_iload hx hb dX7_weighs_62 (lv_at hl 1 rfl) ?_
  refine lv_iload_n hx hb dX7_weighs_64 rfl (lv_at hl 4 rfl) ?_
  refine cc_i (va_runV (C := RX7) (As := [.int v8, .int v1, .int a2]) (rest := []) ⟨hx, hb, hml, hown, hts⟩ (c_X7_valueOf hwd H.size u7 v8 v1 a2 _ h) (cwV 3 hts gX7_weighs_X7_valueOf rfl rfl rfl (by decide +kernel) ⟨Nat.le_of_ble_eq_true rfl, Nat.le_of_ble_eq_true rfl⟩) (pmV hC hP hS mg_0 rfl) rfl rfl hl.1 rfl (lv_room (Nat.le_of_ble_eq_true rfl)) dX7_weighs_65 ⟨Nat.zero_le _, Nat.zero_le _⟩) hS (cA_mono hS.1) (fun v9 u10 H locs h hP hS => ?_)
  refine lv_istore (lv' := [(6, .int v9), (5, .int v6), (4, .int v1), (0, .ref (ad 0)), (1, .int a1), (2, .int a2), (3, .int a3)]) hx hb dX7_weighs_68 hl (by decide) rfl (fun ls hl => ?_)
  refine lv_iconst (v := 0) hx hb dX7_weighs_70 (by decide) ?_
  refine lv_istore (lv' := [(7, .int 0), (6, .int v9), (5, .int v6), (4, .int v1), (0, .ref (ad 0)), (1, .int a1), (2, .int a2), (3, .int a3)]) hx hb dX7_weighs_71 hl (by decide) rfl (fun ls hl => ?_)
  obtain ⟨n17, h⟩ := h
  refine w_X7_weighs_L73 X a1 a2 a3 v1 v6 _ _ (fun v18 u19 H locs ls h hP hS hl => ?_) n17 v9 0 _ _ _ _ h hP hS (lv_sub hl [4, 5, 6, 7, 3, 2, 1, 0] rfl)
  refine lv_aload_n hx hb dX7_weighs_101 rfl (lv_at hl 0 rfl) ?_
  refine lv_aload_n hx hb dX7_weighs_102 rfl (lv_at hl 0 rfl) ?_
  refine lv_iload_n hx hb dX7_weighs_103 rfl (lv_at hl 1 rfl) ?_
  refine lv_iload_n hx hb dX7_weighs_104 rfl (lv_at hl 3 rfl) ?_
  refine cc_i (va_runV (C := RX7) (As := [.int a1, .int a3]) (rest := [.ref (ad 0)]) ⟨hx, hb, hml, hown, hts⟩ (c_X7_changedBy hwd H.size u19 a1 a3 _ h) (cwV 2 hts gX7_weighs_X7_changedBy rfl rfl rfl (by decide +kernel) ⟨Nat.le_of_ble_eq_true rfl, Nat.le_of_ble_eq_true rfl⟩) (pmV hC hP hS mg_0 rfl) rfl rfl hl.1 rfl (lv_room (Nat.le_of_ble_eq_true rfl)) dX7_weighs_105 ⟨Nat.zero_le _, Nat.zero_le _⟩) hS (cA_mono hS.1) (fun v20 u21 H locs h hP hS => ?_)
  refine lv_iload hx hb dX7_weighs_108 (lv_at hl 4 rfl) ?_
  refine lv_iload_n hx hb dX7_weighs_110 rfl (lv_at hl 2 rfl) ?_
  refine cc_i (va_runV (C := RX7) (As := [.int v20, .int v1, .int a2]) (rest := []) ⟨hx, hb, hml, hown, hts⟩ (c_X7_valueOf hwd H.size u21 v20 v1 a2 _ h) (cwV 3 hts gX7_weighs_X7_valueOf rfl rfl rfl (by decide +kernel) ⟨Nat.le_of_ble_eq_true rfl, Nat.le_of_ble_eq_true rfl⟩) (pmV hC hP hS mg_0 rfl) rfl rfl hl.1 rfl (lv_room (Nat.le_of_ble_eq_true rfl)) dX7_weighs_111 ⟨Nat.zero_le _, Nat.zero_le _⟩) hS (cA_mono hS.1) (fun v22 u23 H locs h hP hS => ?_)
  refine lv_iload hx hb dX7_weighs_114 (lv_at hl 5 rfl) ?_
  refine lv_icmp_ne (tgt := 123) hx hb dX7_weighs_116 (by decide) (fun c24 => ?_) (fun c24 => ?_)
  · replace h := h.1 c24
    refine lv_iconst (v := 0) hx hb dX7_weighs_123 (by decide) ?_
    exact W.zret (ty := .boolean) (v := 0) hx hb hr rfl (fun t ht hW => ⟨⟨_, _, rfl, h, by show va_P _ _ _ t.heap; rw [ht]; exact hP⟩, hS.F ht⟩) hS.2.2 dX7_weighs_124
  · replace h := h.2 c24
    refine lv_iconst (v := 1) hx hb dX7_weighs_119 (by decide) ?_
    refine lv_goto (tgt := 124) hx hb dX7_weighs_120 (by decide) ?_
    exact W.zret (ty := .boolean) (v := 1) hx hb hr rfl (fun t ht hW => ⟨⟨_, _, rfl, h, by show va_P _ _ _ t.heap; rw [ht]; exact hP⟩, hS.F ht⟩) hS.2.2 dX7_weighs_124
set_option maxRecDepth 100000 in
set_option maxHeartbeats 4000000 in
theorem c_X7_weighs {l : Launch} {D : va_G} {cI cG cZ cJ : ClassId} {ts : Nat × Nat} {ad : Nat → Nat} (hwd : WD mLs ad) (sz : Nat) (u : St) (a1 : Int32) (a2 : Int32) (a3 : Int32) (Q : Int32 → St → Prop) (h : f_X7_weighs a1 a2 a3 u Q) : Met l yX7_weighs wsX7_weighs ({ frames := 4, cells := 0, slots := 0, locals := 94 }) (va_Pc [.ref (ad 0), .int a1, .int a2, .int a3] (PM D cI cG cZ cJ ts ad sz u)) (va_Qi Q (fun u9 t => va_P D vwCl (mW cI cZ ad u9) t.heap) (cA mLs ad sz)) 0 0 (cA mLs ad sz) := by
  refine Met.ofW (cc := cX7_weighs) (maxL := 8) (ret := (some .boolean)) (by decide) rfl ?_
  intro p e s m args below meth c s₁ B hml hv
  obtain ⟨rfl, hsz, hP, hC⟩ := hv
  subst hsz
  have X : FX RX7 wsX7_weighs cX7_weighs 8 (some .boolean) D cI cG cZ cJ ts mLs ad p s m _ meth c := ⟨B.exec, B.bytes, hml, findClass_of_methodNamed B.named, atoms_spec (ws := wsX7_weighs) B.pre, B.returns, B.notSynchronized, hwd, hC⟩
  have hl := lv_entry ([.ref (ad 0), .int a1, .int a2, .int a3]) (n := 8) (Nat.le_of_ble_eq_true rfl)
  rw [lg_entry_eq]
  generalize (lg_sl ([.ref (ad 0), .int a1, .int a2, .int a3]) ++ List.replicate (8 - (lg_sl ([.ref (ad 0), .int a1, .int a2, .int a3])).length) Slot.unset).toArray = ls at hl ⊢
  exact w_X7_weighs X a1 a2 a3 Q u _ _ _ h hP va_S.rf hl
set_option maxRecDepth 100000 in
set_option maxHeartbeats 4000000 in
theorem w_X7_weighAll_L14 {p : Program} {l : Launch} {e : Env} {s : State} {m : MethodId} {args : Array Value} {below : List Frame} {meth : Method} {c : Code} {D : va_G} {cI cG cZ cJ : ClassId} {ts : Nat × Nat}  {ad : Nat → Nat}  (X : FX RX7 wsX7_weighAll cX7_weighAll 4 (some .boolean) D cI cG cZ cJ ts mLs ad p s m args meth c) (a2 : Int32) (Q : Int32 → St → Prop)
    (K0 : Int32 → St → Prop) (hk0 : ∀ (b1 : Int32) (u : St) (H : Heap) (locs : List Loc) (ls : Array Slot), K0 b1 u → va_P D vwCl (mW cI cZ ad u) H → va_S (cA mLs ad s.heap.size) s.heap H locs → lv_has ls 4 [(0, .ref (ad 0)), (1, .int b1), (2, .int a2)] → W p l e (headSpec wsX7_weighAll { frames := 5, cells := 0, slots := 0, locals := 121 }).room s m args below meth c H locs 0 0 (MQ below (va_Qi Q (fun u9 t => va_P D vwCl (mW cI cZ ad u9) t.heap) (cA mLs ad s.heap.size)) args s 0 0 (cA mLs ad s.heap.size)) (F0 m 68 ls []))
    : ∀ (n : Nat) (a1 : Int32) (a3 : Int32) (u : St) (H : Heap) (locs : List Loc) (ls : Array Slot), f_X7_weighAll_L14 a2 Q K0 n a1 a3 u → va_P D vwCl (mW cI cZ ad u) H → va_S (cA mLs ad s.heap.size) s.heap H locs → lv_has ls 4 [(0, .ref (ad 0)), (1, .int a1), (2, .int a2), (3, .int a3)] → W p l e (headSpec wsX7_weighAll { frames := 5, cells := 0, slots := 0, locals := 121 }).room s m args below meth c H locs 0 0 (MQ below (va_Qi Q (fun u9 t => va_P D vwCl (mW cI cZ ad u9) t.heap) (cA mLs ad s.heap.size)) args s 0 0 (cA mLs ad s.heap.size)) (F0 m 14 ls []) := by
  obtain ⟨hx, hb, hml, hown, hts, hr, hlocks, hwd, hC⟩ := id X
  have hK := hC.1
  have lk0 := hts (.fieldLink RX7 63 "FormForgeModel" "forms" "I") (by decide +kernel)
  have lk1 := hts (.fieldLink RX7 13 "FormForgeModel" "degree" "[I") (by decide +kernel)
  have lk2 := hts (.fieldLink RX7 78 "FormForgeModel" "generators" "I") (by decide +kernel)
  have n7 : ∀ w ∈ wsX70, w ∈ wsX7_weighAll := by decide +kernel
  intro n
  induction n with
  | zero =>
    intro a1 a3 u H locs ls h; exact h.elim
  | succ n ih =>
    intro a1 a3 u H locs ls h hP hS hl
    replace h : f_X7_weighAll_L14_s a2 Q K0 (f_X7_weighAll_L14 a2 Q K0 n) a1 a3 u := h
    unfold f_X7_weighAll_L14_s at h
    refine lv_iload_n hx hb dX7_weighAll_14 rfl (lv_at hl 3 rfl) ?_
    refine lv_aload_n hx hb dX7_weighAll_15 rfl (lv_at hl 0 rfl) ?_
    refine va_get (C := RX7) (T := TX7) (N := 22) hx hb hts n7 hown hK hP 0 mg_0 rfl 2 (by decide) lk1 (fun _ h9 => h9) rfl dX7_weighAll_16 ?_
    refine lv_iload_n hx hb dX7_weighAll_19 rfl (lv_at hl 2 rfl) ?_
    refine va_iald hx hb hK hP 1 0 (mg_a ⟨by decide, by decide, by decide⟩) rfl h.1 dX7_weighAll_20 ?_
    refine lv_topi (fun v2 ev2 => ?_)
    replace h := h.2 v2 ev2
    refine cc_i (va_runS (As := [.int v2]) (rest := [.int a3]) ⟨hx, hb, hml, hown, hts⟩ (c_X7_values hwd H.size u v2 _ h) (va_cwS 1 hts gX7_weighAll_X7_values rfl rfl rfl (by decide +kernel) ⟨Nat.le_of_ble_eq_true rfl, Nat.le_of_ble_eq_true rfl⟩) (pmS hC hP hS) rfl rfl hl.1 rfl (lv_room (Nat.le_of_ble_eq_true rfl)) dX7_weighAll_21 ⟨Nat.zero_le _, Nat.zero_le _⟩) hS (cA_mono hS.1) (fun v3 u4 H locs h hP hS => ?_)
    refine lv_aload_n hx hb dX7_weighAll_24 rfl (lv_at hl 0 rfl) ?_
    refine va_get (C := RX7) (T := TX7) (N := 22) hx hb hts n7 hown hK hP 0 mg_0 rfl 6 (by decide) lk2 (fun _ h9 => h9) rfl dX7_weighAll_25 ?_
    refine lv_imul hx hb dX7_weighAll_28 ?_
    refine lv_icmp_ge (tgt := 68) hx hb dX7_weighAll_29 (by decide) (fun c5 => ?_) (fun c5 => ?_)
    · replace h := h.1 c5
      exact hk0 a1 _ _ _ _ h hP hS (lv_sub hl [0, 1, 2] rfl)
    · replace h := h.2 c5
      refine lv_iload_n hx hb dX7_weighAll_32 rfl (lv_at hl 1 rfl) ?_
      refine lv_if_eq (tgt := 60) hx hb dX7_weighAll_33 (by decide) (fun c6 => ?_) (fun c6 => ?_)
      · replace h := h.1 c6
        refine lv_iconst (v := 0) hx hb dX7_weighAll_60 (by decide) ?_
        refine lv_istore_n (lv' := [(1, .int 0), (0, .ref (ad 0)), (2, .int a2), (3, .int a3)]) hx hb dX7_weighAll_61 rfl hl (by decide) rfl (fun ls hl => ?_)
        obtain ⟨v7, ev7⟩ : ∃ y : Int32, y = a3 + 1 := ⟨_, rfl⟩
        refine lv_iinc (v := v7) (lv' := [(3, .int v7), (1, .int 0), (0, .ref (ad 0)), (2, .int a2)]) hx hb dX7_weighAll_62 hl (k := 3) rfl (by rw [ev7]; rfl) (by decide) rfl (fun ls hl => ?_)
        replace h := h v7 ev7
        refine lv_goto (tgt := 14) hx hb dX7_weighAll_65 (by decide) ?_
        exact ih 0 v7 _ _ _ _ h hP hS (lv_sub hl [2, 1, 3, 0] rfl)
      · replace h := h.2 c6
        refine lv_aload_n hx hb dX7_weighAll_36 rfl (lv_at hl 0 rfl) ?_
        refine lv_iload_n hx hb dX7_weighAll_37 rfl (lv_at hl 2 rfl) ?_
        refine lv_iload_n hx hb dX7_weighAll_38 rfl (lv_at hl 3 rfl) ?_
        refine lv_aload_n hx hb dX7_weighAll_39 rfl (lv_at hl 0 rfl) ?_
        refine va_get (C := RX7) (T := TX7) (N := 22) hx hb hts n7 hown hK hP 0 mg_0 rfl 6 (by decide) lk2 (fun _ h9 => h9) rfl dX7_weighAll_40 ?_
        refine lv_idiv hx hb dX7_weighAll_43 h.1 ?_
        replace h := h.2
        refine lv_topi (fun v8 ev8 => ?_)
        replace h := h v8 ev8
        refine lv_iload_n hx hb dX7_weighAll_44 rfl (lv_at hl 3 rfl) ?_
        refine lv_aload_n hx hb dX7_weighAll_45 rfl (lv_at hl 0 rfl) ?_
        refine va_get (C := RX7) (T := TX7) (N := 22) hx hb hts n7 hown hK hP 0 mg_0 rfl 6 (by decide) lk2 (fun _ h9 => h9) rfl dX7_weighAll_46 ?_
        refine lv_irem hx hb dX7_weighAll_49 h.1 ?_
        replace h := h.2
        refine lv_topi (fun v9 ev9 => ?_)
        replace h := h v9 ev9
        refine cc_i (va_runV (C := RX7) (As := [.int a2, .int v8, .int v9]) (rest := []) ⟨hx, hb, hml, hown, hts⟩ (c_X7_weighs hwd H.size u4 a2 v8 v9 _ h) (cwV 3 hts gX7_weighAll_X7_weighs rfl rfl rfl (by decide +kernel) ⟨Nat.le_of_ble_eq_true rfl, Nat.le_of_ble_eq_true rfl⟩) (pmV hC hP hS mg_0 rfl) rfl rfl hl.1 rfl (lv_room (Nat.le_of_ble_eq_true rfl)) dX7_weighAll_50 ⟨Nat.zero_le _, Nat.zero_le _⟩) hS (cA_mono hS.1) (fun v10 u11 H locs h hP hS => ?_)
        refine lv_if_eq (tgt := 60) hx hb dX7_weighAll_53 (by decide) (fun c12 => ?_) (fun c12 => ?_)
        · replace h := h.1 c12
          refine lv_iconst (v := 0) hx hb dX7_weighAll_60 (by decide) ?_
          refine lv_istore_n (lv' := [(1, .int 0), (0, .ref (ad 0)), (2, .int a2), (3, .int a3)]) hx hb dX7_weighAll_61 rfl hl (by decide) rfl (fun ls hl => ?_)
          obtain ⟨v13, ev13⟩ : ∃ y : Int32, y = a3 + 1 := ⟨_, rfl⟩
          refine lv_iinc (v := v13) (lv' := [(3, .int v13), (1, .int 0), (0, .ref (ad 0)), (2, .int a2)]) hx hb dX7_weighAll_62 hl (k := 3) rfl (by rw [ev13]; rfl) (by decide) rfl (fun ls hl => ?_)
          replace h := h v13 ev13
          refine lv_goto (tgt := 14) hx hb dX7_weighAll_65 (by decide) ?_
          exact ih 0 v13 _ _ _ _ h hP hS (lv_sub hl [2, 1, 3, 0] rfl)
        · replace h := h.2 c12
          refine lv_iconst (v := 1) hx hb dX7_weighAll_56 (by decide) ?_
          refine lv_goto (tgt := 61) hx hb dX7_weighAll_57 (by decide) ?_
          refine lv_istore_n (lv' := [(1, .int 1), (0, .ref (ad 0)), (2, .int a2), (3, .int a3)]) hx hb dX7_weighAll_61 rfl hl (by decide) rfl (fun ls hl => ?_)
          obtain ⟨v14, ev14⟩ : ∃ y : Int32, y = a3 + 1 := ⟨_, rfl⟩
          refine lv_iinc (v := v14) (lv' := [(3, .int v14), (1, .int 1), (0, .ref (ad 0)), (2, .int a2)]) hx hb dX7_weighAll_62 hl (k := 3) rfl (by rw [ev14]; rfl) (by decide) rfl (fun ls hl => ?_)
          replace h := h v14 ev14
          refine lv_goto (tgt := 14) hx hb dX7_weighAll_65 (by decide) ?_
          exact ih 1 v14 _ _ _ _ h hP hS (lv_sub hl [2, 1, 3, 0] rfl)
set_option maxRecDepth 100000 in
set_option maxHeartbeats 4000000 in
theorem w_X7_weighAll_L4 {p : Program} {l : Launch} {e : Env} {s : State} {m : MethodId} {args : Array Value} {below : List Frame} {meth : Method} {c : Code} {D : va_G} {cI cG cZ cJ : ClassId} {ts : Nat × Nat}  {ad : Nat → Nat}  (X : FX RX7 wsX7_weighAll cX7_weighAll 4 (some .boolean) D cI cG cZ cJ ts mLs ad p s m args meth c)  (Q : Int32 → St → Prop)
    (K0 : Int32 → St → Prop) (hk0 : ∀ (b1 : Int32) (u : St) (H : Heap) (locs : List Loc) (ls : Array Slot), K0 b1 u → va_P D vwCl (mW cI cZ ad u) H → va_S (cA mLs ad s.heap.size) s.heap H locs → lv_has ls 4 [(1, .int b1)] → W p l e (headSpec wsX7_weighAll { frames := 5, cells := 0, slots := 0, locals := 121 }).room s m args below meth c H locs 0 0 (MQ below (va_Qi Q (fun u9 t => va_P D vwCl (mW cI cZ ad u9) t.heap) (cA mLs ad s.heap.size)) args s 0 0 (cA mLs ad s.heap.size)) (F0 m 74 ls []))
    : ∀ (n : Nat) (a1 : Int32) (a2 : Int32) (u : St) (H : Heap) (locs : List Loc) (ls : Array Slot), f_X7_weighAll_L4 Q K0 n a1 a2 u → va_P D vwCl (mW cI cZ ad u) H → va_S (cA mLs ad s.heap.size) s.heap H locs → lv_has ls 4 [(0, .ref (ad 0)), (1, .int a1), (2, .int a2)] → W p l e (headSpec wsX7_weighAll { frames := 5, cells := 0, slots := 0, locals := 121 }).room s m args below meth c H locs 0 0 (MQ below (va_Qi Q (fun u9 t => va_P D vwCl (mW cI cZ ad u9) t.heap) (cA mLs ad s.heap.size)) args s 0 0 (cA mLs ad s.heap.size)) (F0 m 4 ls []) := by
  obtain ⟨hx, hb, hml, hown, hts, hr, hlocks, hwd, hC⟩ := id X
  have hK := hC.1
  have lk0 := hts (.fieldLink RX7 63 "FormForgeModel" "forms" "I") (by decide +kernel)
  have lk1 := hts (.fieldLink RX7 13 "FormForgeModel" "degree" "[I") (by decide +kernel)
  have lk2 := hts (.fieldLink RX7 78 "FormForgeModel" "generators" "I") (by decide +kernel)
  have n7 : ∀ w ∈ wsX70, w ∈ wsX7_weighAll := by decide +kernel
  intro n
  induction n with
  | zero =>
    intro a1 a2 u H locs ls h; exact h.elim
  | succ n ih =>
    intro a1 a2 u H locs ls h hP hS hl
    replace h : f_X7_weighAll_L4_s Q K0 (f_X7_weighAll_L4 Q K0 n) a1 a2 u := h
    unfold f_X7_weighAll_L4_s at h
    refine lv_iload_n hx hb dX7_weighAll_4 rfl (lv_at hl 2 rfl) ?_
    refine lv_aload_n hx hb dX7_weighAll_5 rfl (lv_at hl 0 rfl) ?_
    refine va_get (C := RX7) (T := TX7) (N := 22) hx hb hts n7 hown hK hP 0 mg_0 rfl 4 (by decide) lk0 (fun _ h9 => h9) rfl dX7_weighAll_6 ?_
    refine lv_icmp_ge (tgt := 74) hx hb dX7_weighAll_9 (by decide) (fun c1 => ?_) (fun c1 => ?_)
    · replace h := h.1 c1
      exact hk0 a1 _ _ _ _ h hP hS (lv_sub hl [1] rfl)
    · replace h := h.2 c1
      refine lv_iconst (v := 0) hx hb dX7_weighAll_12 (by decide) ?_
      refine lv_istore_n (lv' := [(3, .int 0), (0, .ref (ad 0)), (1, .int a1), (2, .int a2)]) hx hb dX7_weighAll_13 rfl hl (by decide) rfl (fun ls hl => ?_)
      obtain ⟨n15, h⟩ := h
      refine w_X7_weighAll_L14 X a2 _ _ (fun v16 u17 H locs ls h hP hS hl => ?_) n15 a1 0 _ _ _ _ h hP hS (lv_sub hl [1, 2, 3, 0] rfl)
      obtain ⟨v18, ev18⟩ : ∃ y : Int32, y = a2 + 1 := ⟨_, rfl⟩
      refine lv_iinc (v := v18) (lv' := [(2, .int v18), (0, .ref (ad 0)), (1, .int v16)]) hx hb dX7_weighAll_68 hl (k := 2) rfl (by rw [ev18]; rfl) (by decide) rfl (fun ls hl => ?_)
      replace h := h v18 ev18
      refine lv_goto (tgt := 4) hx hb dX7_weighAll_71 (by decide) ?_
      exact ih v16 v18 _ _ _ _ h hP hS (lv_sub hl [1, 2, 0] rfl)
set_option maxRecDepth 100000 in
set_option maxHeartbeats 4000000 in
theorem w_X7_weighAll {p : Program} {l : Launch} {e : Env} {s : State} {m : MethodId} {args : Array Value} {below : List Frame} {meth : Method} {c : Code} {D : va_G} {cI cG cZ cJ : ClassId} {ts : Nat × Nat}  {ad : Nat → Nat}  (X : FX RX7 wsX7_weighAll cX7_weighAll 4 (some .boolean) D cI cG cZ cJ ts mLs ad p s m args meth c)  (Q : Int32 → St → Prop) (u : St) (H : Heap) (locs : List Loc) (ls : Array Slot) (h : f_X7_weighAll  u Q) (hP : va_P D vwCl (mW cI cZ ad u) H) (hS : va_S (cA mLs ad s.heap.size) s.heap H locs) (hl : lv_has ls 4 [(0, .ref (ad 0))]) : W p l e (headSpec wsX7_weighAll { frames := 5, cells := 0, slots := 0, locals := 121 }).room s m args below meth c H locs 0 0 (MQ below (va_Qi Q (fun u9 t => va_P D vwCl (mW cI cZ ad u9) t.heap) (cA mLs ad s.heap.size)) args s 0 0 (cA mLs ad s.heap.size)) (F0 m 0 ls []) := by
  obtain ⟨hx, hb, hml, hown, hts, hr, hlocks, hwd, hC⟩ := id X
  have hK := hC.1
  have lk0 := hts (.fieldLink RX7 63 "FormForgeModel" "forms" "I") (by decide +kernel)
  have lk1 := hts (.fieldLink RX7 13 "FormForgeModel" "degree" "[I") (by decide +kernel)
  have lk2 := hts (.fieldLink RX7 78 "FormForgeModel" "generators" "I") (by decide +kernel)
  have n7 : ∀ w ∈ wsX70, w ∈ wsX7_weighAll := by decide +kernel
  unfold f_X7_weighAll at h
  refine lv_iconst (v := 1) hx hb dX7_weighAll_0 (by decide) ?_
  refine lv_istore_n (lv' := [(1, .int 1), (0, .ref (ad 0))]) hx hb dX7_weighAll_1 rfl hl (by decide) rfl (fun ls hl => ?_)
  refine lv_iconst (v := 0) hx hb dX7_weighAll_2 (by decide) ?_
  refine lv_istore_n (lv' := [(2, .int 0), (1, .int 1), (0, .ref (ad 0))]) hx hb dX7_weighAll_3 rfl hl (by decide) rfl (fun ls hl => ?_)
  obtain ⟨n19, h⟩ := h
  refine w_X7_weighAll_L4 X _ _ (fun v20 u21 H locs ls h hP hS hl => ?_) n19 1 0 _ _ _ _ h hP hS (lv_sub hl [2, 1, 0] rfl)
  refine lv_iload_n hx hb dX7_weighAll_74 rfl (lv_at hl 0 rfl) ?_
  exact W.zret (ty := .boolean) (v := v20) hx hb hr (zb h.1) (fun t ht hW => ⟨⟨_, _, rfl, h.2, by show va_P _ _ _ t.heap; rw [ht]; exact hP⟩, hS.F ht⟩) hS.2.2 dX7_weighAll_75
set_option maxRecDepth 100000 in
set_option maxHeartbeats 4000000 in
theorem c_X7_weighAll {l : Launch} {D : va_G} {cI cG cZ cJ : ClassId} {ts : Nat × Nat} {ad : Nat → Nat} (hwd : WD mLs ad) (sz : Nat) (u : St) (Q : Int32 → St → Prop) (h : f_X7_weighAll  u Q) : Met l yX7_weighAll wsX7_weighAll ({ frames := 5, cells := 0, slots := 0, locals := 121 }) (va_Pc [.ref (ad 0)] (PM D cI cG cZ cJ ts ad sz u)) (va_Qi Q (fun u9 t => va_P D vwCl (mW cI cZ ad u9) t.heap) (cA mLs ad sz)) 0 0 (cA mLs ad sz) := by
  refine Met.ofW (cc := cX7_weighAll) (maxL := 4) (ret := (some .boolean)) (by decide) rfl ?_
  intro p e s m args below meth c s₁ B hml hv
  obtain ⟨rfl, hsz, hP, hC⟩ := hv
  subst hsz
  have X : FX RX7 wsX7_weighAll cX7_weighAll 4 (some .boolean) D cI cG cZ cJ ts mLs ad p s m _ meth c := ⟨B.exec, B.bytes, hml, findClass_of_methodNamed B.named, atoms_spec (ws := wsX7_weighAll) B.pre, B.returns, B.notSynchronized, hwd, hC⟩
  have hl := lv_entry ([.ref (ad 0)]) (n := 4) (Nat.le_of_ble_eq_true rfl)
  rw [lg_entry_eq]
  generalize (lg_sl ([.ref (ad 0)]) ++ List.replicate (4 - (lg_sl ([.ref (ad 0)])).length) Slot.unset).toArray = ls at hl ⊢
  exact w_X7_weighAll X Q u _ _ _ h hP va_S.rf hl
set_option maxRecDepth 100000 in
set_option maxHeartbeats 4000000 in
theorem w_X7_weighs_ {p : Program} {l : Launch} {e : Env} {s : State} {m : MethodId} {args : Array Value} {below : List Frame} {meth : Method} {c : Code} {D : va_G} {cI cG cZ cJ : ClassId} {ts : Nat × Nat}  {ad : Nat → Nat}  (X : FX RX7 wsX7_weighs_ cX7_weighs_ 1 (some .boolean) D cI cG cZ cJ ts mLs ad p s m args meth c)  (Q : Int32 → St → Prop) (u : St) (H : Heap) (locs : List Loc) (ls : Array Slot) (h : f_X7_weighs_  u Q) (hP : va_P D vwCl (mW cI cZ ad u) H) (hS : va_S (cA mLs ad s.heap.size) s.heap H locs) (hl : lv_has ls 1 [(0, .ref (ad 0))]) : W p l e (headSpec wsX7_weighs_ { frames := 6, cells := 0, slots := 0, locals := 144 }).room s m args below meth c H locs 0 0 (MQ below (va_Qi Q (fun u9 t => va_P D vwCl (mW cI cZ ad u9) t.heap) (cA mLs ad s.heap.size)) args s 0 0 (cA mLs ad s.heap.size)) (F0 m 0 ls []) := by
  obtain ⟨hx, hb, hml, hown, hts, hr, hlocks, hwd, hC⟩ := id X
  have hK := hC.1
  have lk0 := hts (.fieldLink RX7 60 "FormForgeModel" "thrown" "I") (by decide +kernel)
  have n7 : ∀ w ∈ wsX70, w ∈ wsX7_weighs_ := by decide +kernel
  unfold f_X7_weighs_ at h
  refine lv_aload_n hx hb dX7_weighs__0 rfl (lv_at hl 0 rfl) ?_
  refine lv_iconst (v := 0) hx hb dX7_weighs__1 (by decide) ?_
  refine va_put (C := RX7) (T := TX7) (N := 22) (ty := .int) (v := .int 0) hx hb hts n7 tyX7 tyX7_ok nmX7 hown hK hP (cD hwd) hS 0 mg_0 rfl 0 (by decide) lk0 (fun _ h9 => h9) rfl (by decide +kernel) rfl rfl (Nat.le_of_ble_eq_true rfl) dX7_weighs__2 (fun H locs hP _ hS => ?_)
  replace hP := mu_thrown hwd hP
  obtain ⟨u1, eu1⟩ : ∃ y : St, y = su u 0 0 0 := ⟨_, rfl⟩
  rw [← eu1] at hP
  replace h := h u1 eu1
  refine lv_aload_n hx hb dX7_weighs__5 rfl (lv_at hl 0 rfl) ?_
  refine cc_i (va_runV (C := RX7) (As := []) (rest := []) ⟨hx, hb, hml, hown, hts⟩ (c_X7_weighAll hwd H.size u1 _ h) (cwV 0 hts gX7_weighs__X7_weighAll rfl rfl rfl (by decide +kernel) ⟨Nat.le_of_ble_eq_true rfl, Nat.le_of_ble_eq_true rfl⟩) (pmV hC hP hS mg_0 rfl) rfl rfl hl.1 rfl (lv_room (Nat.le_of_ble_eq_true rfl)) dX7_weighs__6 ⟨Nat.zero_le _, Nat.zero_le _⟩) hS (cA_mono hS.1) (fun v2 u3 H locs h hP hS => ?_)
  exact W.zret (ty := .boolean) (v := v2) hx hb hr (zb h.1) (fun t ht hW => ⟨⟨_, _, rfl, h.2, by show va_P _ _ _ t.heap; rw [ht]; exact hP⟩, hS.F ht⟩) hS.2.2 dX7_weighs__9
set_option maxRecDepth 100000 in
set_option maxHeartbeats 4000000 in
theorem c_X7_weighs_ {l : Launch} {D : va_G} {cI cG cZ cJ : ClassId} {ts : Nat × Nat} {ad : Nat → Nat} (hwd : WD mLs ad) (sz : Nat) (u : St) (Q : Int32 → St → Prop) (h : f_X7_weighs_  u Q) : Met l yX7_weighs_ wsX7_weighs_ ({ frames := 6, cells := 0, slots := 0, locals := 144 }) (va_Pc [.ref (ad 0)] (PM D cI cG cZ cJ ts ad sz u)) (va_Qi Q (fun u9 t => va_P D vwCl (mW cI cZ ad u9) t.heap) (cA mLs ad sz)) 0 0 (cA mLs ad sz) := by
  refine Met.ofW (cc := cX7_weighs_) (maxL := 1) (ret := (some .boolean)) (by decide) rfl ?_
  intro p e s m args below meth c s₁ B hml hv
  obtain ⟨rfl, hsz, hP, hC⟩ := hv
  subst hsz
  have X : FX RX7 wsX7_weighs_ cX7_weighs_ 1 (some .boolean) D cI cG cZ cJ ts mLs ad p s m _ meth c := ⟨B.exec, B.bytes, hml, findClass_of_methodNamed B.named, atoms_spec (ws := wsX7_weighs_) B.pre, B.returns, B.notSynchronized, hwd, hC⟩
  have hl := lv_entry ([.ref (ad 0)]) (n := 1) (Nat.le_of_ble_eq_true rfl)
  rw [lg_entry_eq]
  generalize (lg_sl ([.ref (ad 0)]) ++ List.replicate (1 - (lg_sl ([.ref (ad 0)])).length) Slot.unset).toArray = ls at hl ⊢
  exact w_X7_weighs_ X Q u _ _ _ h hP va_S.rf hl
set_option maxRecDepth 100000 in
set_option maxHeartbeats 4000000 in
theorem w_X7_goesOn_L2 {p : Program} {l : Launch} {e : Env} {s : State} {m : MethodId} {args : Array Value} {below : List Frame} {meth : Method} {c : Code} {D : va_G} {cI cG cZ cJ : ClassId} {ts : Nat × Nat}  {ad : Nat → Nat}  (X : FX RX7 wsX7_goesOn cX7_goesOn 6 none D cI cG cZ cJ ts mLs ad p s m args meth c) (a1 : Int32) (a2 : Int32) (Q : St → Prop)
    (K0 : St → Prop) (hk0 : ∀ (u : St) (H : Heap) (locs : List Loc) (ls : Array Slot), K0 u → va_P D vwCl (mW cI cZ ad u) H → va_S (cA mLs ad s.heap.size) s.heap H locs → lv_has ls 6 [(0, .ref (ad 0)), (1, .int a1), (2, .int a2)] → W p l e (headSpec wsX7_goesOn { frames := 3, cells := 0, slots := 0, locals := 72 }).room s m args below meth c H locs 0 0 (MQ below (va_Qv Q (fun u9 t => va_P D vwCl (mW cI cZ ad u9) t.heap) (cA mLs ad s.heap.size)) args s 0 0 (cA mLs ad s.heap.size)) (F0 m 26 ls []))
    : ∀ (n : Nat) (a3 : Int32) (u : St) (H : Heap) (locs : List Loc) (ls : Array Slot), f_X7_goesOn_L2 a1 a2 Q K0 n a3 u → va_P D vwCl (mW cI cZ ad u) H → va_S (cA mLs ad s.heap.size) s.heap H locs → lv_has ls 6 [(0, .ref (ad 0)), (1, .int a1), (2, .int a2), (3, .int a3)] → W p l e (headSpec wsX7_goesOn { frames := 3, cells := 0, slots := 0, locals := 72 }).room s m args below meth c H locs 0 0 (MQ below (va_Qv Q (fun u9 t => va_P D vwCl (mW cI cZ ad u9) t.heap) (cA mLs ad s.heap.size)) args s 0 0 (cA mLs ad s.heap.size)) (F0 m 2 ls []) := by
  obtain ⟨hx, hb, hml, hown, hts, hr, hlocks, hwd, hC⟩ := id X
  have hK := hC.1
  have lk0 := hts (.fieldLink RX7 54 "FormForgeModel" "steps" "[I") (by decide +kernel)
  have lk1 := hts (.fieldLink RX7 57 "FormForgeModel" "row" "[I") (by decide +kernel)
  have lk2 := hts (.fieldLink RX7 174 "FormForgeModel" "found" "I") (by decide +kernel)
  have lk3 := hts (.fieldLink RX7 78 "FormForgeModel" "generators" "I") (by decide +kernel)
  have lk4 := hts (.fieldLink RX7 48 "FormForgeModel" "by" "[I") (by decide +kernel)
  have lk5 := hts (.fieldLink RX7 51 "FormForgeModel" "from" "[I") (by decide +kernel)
  have n7 : ∀ w ∈ wsX70, w ∈ wsX7_goesOn := by decide +kernel
  intro n
  induction n with
  | zero =>
    intro a3 u H locs ls h; exact h.elim
  | succ n ih =>
    intro a3 u H locs ls h hP hS hl
    replace h : f_X7_goesOn_L2_s a1 a2 Q K0 (f_X7_goesOn_L2 a1 a2 Q K0 n) a3 u := h
    unfold f_X7_goesOn_L2_s at h
    refine lv_iload_n hx hb dX7_goesOn_2 rfl (lv_at hl 3 rfl) ?_
    refine lv_aload_n hx hb dX7_goesOn_3 rfl (lv_at hl 0 rfl) ?_
    refine lv_iload_n hx hb dX7_goesOn_4 rfl (lv_at hl 2 rfl) ?_
    refine lv_iconst (v := 1) hx hb dX7_goesOn_5 (by decide) ?_
    refine lv_iadd hx hb dX7_goesOn_6 ?_
    refine cc_i (va_runV (C := RX7) (As := [.int (a2 + 1)]) (rest := [.int a3]) ⟨hx, hb, hml, hown, hts⟩ (c_X7_power hwd H.size u (a2 + 1) _ h) (cwV 1 hts gX7_goesOn_X7_power rfl rfl rfl (by decide +kernel) ⟨Nat.le_of_ble_eq_true rfl, Nat.le_of_ble_eq_true rfl⟩) (pmV hC hP hS mg_0 rfl) rfl rfl hl.1 rfl (lv_room (Nat.le_of_ble_eq_true rfl)) dX7_goesOn_7 ⟨Nat.zero_le _, Nat.zero_le _⟩) hS (cA_mono hS.1) (fun v1 u2 H locs h hP hS => ?_)
    refine lv_icmp_ge (tgt := 26) hx hb dX7_goesOn_10 (by decide) (fun c3 => ?_) (fun c3 => ?_)
    · replace h := h.1 c3
      exact hk0  _ _ _ _ h hP hS (lv_sub hl [0, 1, 2] rfl)
    · replace h := h.2 c3
      refine lv_aload_n hx hb dX7_goesOn_13 rfl (lv_at hl 0 rfl) ?_
      refine va_get (C := RX7) (T := TX7) (N := 22) hx hb hts n7 hown hK hP 0 mg_0 rfl 19 (by decide) lk0 (fun _ h9 => h9) rfl dX7_goesOn_14 ?_
      refine lv_iload_n hx hb dX7_goesOn_17 rfl (lv_at hl 3 rfl) ?_
      refine lv_iconst (v := (-1)) hx hb dX7_goesOn_18 (by decide) ?_
      refine va_iast hx hb hK hP (cD hwd) hS 14 0 (mg_a ⟨by decide, by decide, by decide⟩) rfl h.1 dX7_goesOn_19 (fun H locs hP _ hS => ?_)
      replace hP := mu_a hwd ⟨by decide, by decide, by decide⟩ hP
      obtain ⟨u4, eu4⟩ : ∃ y : St, y = su u2 14 a3.toNatClampNeg (-1) := ⟨_, rfl⟩
      rw [← eu4] at hP
      replace h := h.2 u4 eu4
      obtain ⟨v5, ev5⟩ : ∃ y : Int32, y = a3 + 1 := ⟨_, rfl⟩
      refine lv_iinc (v := v5) (lv' := [(3, .int v5), (0, .ref (ad 0)), (1, .int a1), (2, .int a2)]) hx hb dX7_goesOn_20 hl (k := 3) rfl (by rw [ev5]; rfl) (by decide) rfl (fun ls hl => ?_)
      replace h := h v5 ev5
      refine lv_goto (tgt := 2) hx hb dX7_goesOn_23 (by decide) ?_
      exact ih v5 _ _ _ _ h hP hS (lv_sub hl [1, 2, 3, 0] rfl)
set_option maxRecDepth 100000 in
set_option maxHeartbeats 4000000 in
theorem w_X7_goesOn_L58 {p : Program} {l : Launch} {e : Env} {s : State} {m : MethodId} {args : Array Value} {below : List Frame} {meth : Method} {c : Code} {D : va_G} {cI cG cZ cJ : ClassId} {ts : Nat × Nat}  {ad : Nat → Nat}  (X : FX RX7 wsX7_goesOn cX7_goesOn 6 none D cI cG cZ cJ ts mLs ad p s m args meth c) (a2 : Int32) (a3 : Int32) (Q : St → Prop)
    (K0 : St → Prop) (hk0 : ∀ (u : St) (H : Heap) (locs : List Loc) (ls : Array Slot), K0 u → va_P D vwCl (mW cI cZ ad u) H → va_S (cA mLs ad s.heap.size) s.heap H locs → lv_has ls 6 [(0, .ref (ad 0)), (2, .int a2), (3, .int a3)] → W p l e (headSpec wsX7_goesOn { frames := 3, cells := 0, slots := 0, locals := 72 }).room s m args below meth c H locs 0 0 (MQ below (va_Qv Q (fun u9 t => va_P D vwCl (mW cI cZ ad u9) t.heap) (cA mLs ad s.heap.size)) args s 0 0 (cA mLs ad s.heap.size)) (F0 m 171 ls []))
    : ∀ (n : Nat) (a4 : Int32) (u : St) (H : Heap) (locs : List Loc) (ls : Array Slot), f_X7_goesOn_L58 a2 a3 Q K0 n a4 u → va_P D vwCl (mW cI cZ ad u) H → va_S (cA mLs ad s.heap.size) s.heap H locs → lv_has ls 6 [(0, .ref (ad 0)), (2, .int a2), (3, .int a3), (4, .int a4)] → W p l e (headSpec wsX7_goesOn { frames := 3, cells := 0, slots := 0, locals := 72 }).room s m args below meth c H locs 0 0 (MQ below (va_Qv Q (fun u9 t => va_P D vwCl (mW cI cZ ad u9) t.heap) (cA mLs ad s.heap.size)) args s 0 0 (cA mLs ad s.heap.size)) (F0 m 58 ls []) := by
  obtain ⟨hx, hb, hml, hown, hts, hr, hlocks, hwd, hC⟩ := id X
  have hK := hC.1
  have lk0 := hts (.fieldLink RX7 54 "FormForgeModel" "steps" "[I") (by decide +kernel)
  have lk1 := hts (.fieldLink RX7 57 "FormForgeModel" "row" "[I") (by decide +kernel)
  have lk2 := hts (.fieldLink RX7 174 "FormForgeModel" "found" "I") (by decide +kernel)
  have lk3 := hts (.fieldLink RX7 78 "FormForgeModel" "generators" "I") (by decide +kernel)
  have lk4 := hts (.fieldLink RX7 48 "FormForgeModel" "by" "[I") (by decide +kernel)
  have lk5 := hts (.fieldLink RX7 51 "FormForgeModel" "from" "[I") (by decide +kernel)
  have n7 : ∀ w ∈ wsX70, w ∈ wsX7_goesOn := by decide +kernel
  intro n
  induction n with
  | zero =>
    intro a4 u H locs ls h; exact h.elim
  | succ n ih =>
    intro a4 u H locs ls h hP hS hl
    replace h : f_X7_goesOn_L58_s a2 a3 Q K0 (f_X7_goesOn_L58 a2 a3 Q K0 n) a4 u := h
    unfold f_X7_goesOn_L58_s at h
    refine lv_iload hx hb dX7_goesOn_58 (lv_at hl 3 rfl) ?_
    refine lv_aload_n hx hb dX7_goesOn_60 rfl (lv_at hl 0 rfl) ?_
    refine va_get (C := RX7) (T := TX7) (N := 22) hx hb hts n7 hown hK hP 0 mg_0 rfl 6 (by decide) lk3 (fun _ h9 => h9) rfl dX7_goesOn_61 ?_
    refine lv_icmp_ge (tgt := 171) hx hb dX7_goesOn_64 (by decide) (fun c12 => ?_) (fun c12 => ?_)
    · replace h := h.1 c12
      exact hk0  _ _ _ _ h hP hS (lv_sub hl [0, 1, 2] rfl)
    · replace h := h.2 c12
      refine lv_aload_n hx hb dX7_goesOn_67 rfl (lv_at hl 0 rfl) ?_
      refine lv_aload_n hx hb dX7_goesOn_68 rfl (lv_at hl 0 rfl) ?_
      refine lv_iload hx hb dX7_goesOn_69 (lv_at hl 3 rfl) ?_
      refine cc_i (va_runV (C := RX7) (As := [.int a4]) (rest := [.ref (ad 0)]) ⟨hx, hb, hml, hown, hts⟩ (c_X7_generatorCode hwd H.size u a4 _ h) (cwV 1 hts gX7_goesOn_X7_generatorCode rfl rfl rfl (by decide +kernel) ⟨Nat.le_of_ble_eq_true rfl, Nat.le_of_ble_eq_true rfl⟩) (pmV hC hP hS mg_0 rfl) rfl rfl hl.1 rfl (lv_room (Nat.le_of_ble_eq_true rfl)) dX7_goesOn_71 ⟨Nat.zero_le _, Nat.zero_le _⟩) hS (cA_mono hS.1) (fun v13 u14 H locs h hP hS => ?_)
      refine lv_iload_n hx hb dX7_goesOn_74 rfl (lv_at hl 1 rfl) ?_
      refine cc_v (va_runV (C := RX7) (As := [.int v13, .int a2]) (rest := []) ⟨hx, hb, hml, hown, hts⟩ (c_X7_learns hwd H.size u14 v13 a2 _ h) (cwV 2 hts gX7_goesOn_X7_learns rfl rfl rfl (by decide +kernel) ⟨Nat.le_of_ble_eq_true rfl, Nat.le_of_ble_eq_true rfl⟩) (pmV hC hP hS mg_0 rfl) rfl rfl hl.1 rfl (lv_room (Nat.le_of_ble_eq_true rfl)) dX7_goesOn_75 ⟨Nat.zero_le _, Nat.zero_le _⟩) hS (cA_mono hS.1) (fun u15 H locs h hP hS => ?_)
      refine lv_aload_n hx hb dX7_goesOn_78 rfl (lv_at hl 0 rfl) ?_
      refine lv_aload_n hx hb dX7_goesOn_79 rfl (lv_at hl 0 rfl) ?_
      refine va_get (C := RX7) (T := TX7) (N := 22) hx hb hts n7 hown hK hP 0 mg_0 rfl 20 (by decide) lk1 (fun _ h9 => h9) rfl dX7_goesOn_80 ?_
      refine lv_iload_n hx hb dX7_goesOn_83 rfl (lv_at hl 2 rfl) ?_
      refine va_iald hx hb hK hP 15 0 (mg_a ⟨by decide, by decide, by decide⟩) rfl h.1 dX7_goesOn_84 ?_
      refine lv_topi (fun v16 ev16 => ?_)
      replace h := h.2 v16 ev16
      refine lv_iload_n hx hb dX7_goesOn_85 rfl (lv_at hl 1 rfl) ?_
      refine cc_i (va_runV (C := RX7) (As := [.int v16, .int a2]) (rest := []) ⟨hx, hb, hml, hown, hts⟩ (c_X7_made hwd H.size u15 v16 a2 _ h) (cwV 2 hts gX7_goesOn_X7_made rfl rfl rfl (by decide +kernel) ⟨Nat.le_of_ble_eq_true rfl, Nat.le_of_ble_eq_true rfl⟩) (pmV hC hP hS mg_0 rfl) rfl rfl hl.1 rfl (lv_room (Nat.le_of_ble_eq_true rfl)) dX7_goesOn_86 ⟨Nat.zero_le _, Nat.zero_le _⟩) hS (cA_mono hS.1) (fun v17 u18 H locs h hP hS => ?_)
      refine lv_istore (lv' := [(5, .int v17), (0, .ref (ad 0)), (2, .int a2), (3, .int a3), (4, .int a4)]) hx hb dX7_goesOn_89 hl (by decide) rfl (fun ls hl => ?_)
      refine lv_aload_n hx hb dX7_goesOn_91 rfl (lv_at hl 1 rfl) ?_
      refine va_get (C := RX7) (T := TX7) (N := 22) hx hb hts n7 hown hK hP 0 mg_0 rfl 19 (by decide) lk0 (fun _ h9 => h9) rfl dX7_goesOn_92 ?_
      refine lv_iload hx hb dX7_goesOn_95 (lv_at hl 0 rfl) ?_
      refine va_iald hx hb hK hP 14 0 (mg_a ⟨by decide, by decide, by decide⟩) rfl h.1 dX7_goesOn_97 ?_
      refine lv_topi (fun v19 ev19 => ?_)
      replace h := h.2 v19 ev19
      refine lv_iconst (v := (-1)) hx hb dX7_goesOn_98 (by decide) ?_
      refine lv_icmp_ne (tgt := 165) hx hb dX7_goesOn_99 (by decide) (fun c20 => ?_) (fun c20 => ?_)
      · replace h := h.1 c20
        obtain ⟨v21, ev21⟩ : ∃ y : Int32, y = a4 + 1 := ⟨_, rfl⟩
        refine lv_iinc (v := v21) (lv' := [(4, .int v21), (5, .int v17), (0, .ref (ad 0)), (2, .int a2), (3, .int a3)]) hx hb dX7_goesOn_165 hl (k := 4) rfl (by rw [ev21]; rfl) (by decide) rfl (fun ls hl => ?_)
        replace h := h v21 ev21
        refine lv_goto (tgt := 58) hx hb dX7_goesOn_168 (by decide) ?_
        exact ih v21 _ _ _ _ h hP hS (lv_sub hl [2, 3, 4, 0] rfl)
      · replace h := h.2 c20
        refine lv_aload_n hx hb dX7_goesOn_102 rfl (lv_at hl 1 rfl) ?_
        refine va_get (C := RX7) (T := TX7) (N := 22) hx hb hts n7 hown hK hP 0 mg_0 rfl 19 (by decide) lk0 (fun _ h9 => h9) rfl dX7_goesOn_103 ?_
        refine lv_iload hx hb dX7_goesOn_106 (lv_at hl 0 rfl) ?_
        refine lv_aload_n hx hb dX7_goesOn_108 rfl (lv_at hl 1 rfl) ?_
        refine va_get (C := RX7) (T := TX7) (N := 22) hx hb hts n7 hown hK hP 0 mg_0 rfl 19 (by decide) lk0 (fun _ h9 => h9) rfl dX7_goesOn_109 ?_
        refine lv_aload_n hx hb dX7_goesOn_112 rfl (lv_at hl 1 rfl) ?_
        refine va_get (C := RX7) (T := TX7) (N := 22) hx hb hts n7 hown hK hP 0 mg_0 rfl 20 (by decide) lk1 (fun _ h9 => h9) rfl dX7_goesOn_113 ?_
        refine lv_iload_n hx hb dX7_goesOn_116 rfl (lv_at hl 3 rfl) ?_
        refine va_iald hx hb hK hP 15 0 (mg_a ⟨by decide, by decide, by decide⟩) rfl h.1 dX7_goesOn_117 ?_
        refine lv_topi (fun v22 ev22 => ?_)
        replace h := h.2 v22 ev22
        refine va_iald hx hb hK hP 14 0 (mg_a ⟨by decide, by decide, by decide⟩) rfl h.1 dX7_goesOn_118 ?_
        refine lv_topi (fun v23 ev23 => ?_)
        replace h := h.2 v23 ev23
        refine lv_iconst (v := 1) hx hb dX7_goesOn_119 (by decide) ?_
        refine lv_iadd hx hb dX7_goesOn_120 ?_
        refine va_iast hx hb hK hP (cD hwd) hS 14 0 (mg_a ⟨by decide, by decide, by decide⟩) rfl h.1 dX7_goesOn_121 (fun H locs hP _ hS => ?_)
        replace hP := mu_a hwd ⟨by decide, by decide, by decide⟩ hP
        obtain ⟨u24, eu24⟩ : ∃ y : St, y = su u18 14 v17.toNatClampNeg (v23 + 1) := ⟨_, rfl⟩
        rw [← eu24] at hP
        replace h := h.2 u24 eu24
        refine lv_aload_n hx hb dX7_goesOn_122 rfl (lv_at hl 1 rfl) ?_
        refine va_get (C := RX7) (T := TX7) (N := 22) hx hb hts n7 hown hK hP 0 mg_0 rfl 17 (by decide) lk4 (fun _ h9 => h9) rfl dX7_goesOn_123 ?_
        refine lv_iload hx hb dX7_goesOn_126 (lv_at hl 0 rfl) ?_
        refine lv_iload hx hb dX7_goesOn_128 (lv_at hl 4 rfl) ?_
        refine va_iast hx hb hK hP (cD hwd) hS 12 0 (mg_a ⟨by decide, by decide, by decide⟩) rfl h.1 dX7_goesOn_130 (fun H locs hP _ hS => ?_)
        replace hP := mu_a hwd ⟨by decide, by decide, by decide⟩ hP
        obtain ⟨u25, eu25⟩ : ∃ y : St, y = su u24 12 v17.toNatClampNeg a4 := ⟨_, rfl⟩
        rw [← eu25] at hP
        replace h := h.2 u25 eu25
        refine lv_aload_n hx hb dX7_goesOn_131 rfl (lv_at hl 1 rfl) ?_
        refine va_get (C := RX7) (T := TX7) (N := 22) hx hb hts n7 hown hK hP 0 mg_0 rfl 18 (by decide) lk5 (fun _ h9 => h9) rfl dX7_goesOn_132 ?_
        refine lv_iload hx hb dX7_goesOn_135 (lv_at hl 0 rfl) ?_
        refine lv_aload_n hx hb dX7_goesOn_137 rfl (lv_at hl 1 rfl) ?_
        refine va_get (C := RX7) (T := TX7) (N := 22) hx hb hts n7 hown hK hP 0 mg_0 rfl 20 (by decide) lk1 (fun _ h9 => h9) rfl dX7_goesOn_138 ?_
        refine lv_iload_n hx hb dX7_goesOn_141 rfl (lv_at hl 3 rfl) ?_
        refine va_iald hx hb hK hP 15 0 (mg_a ⟨by decide, by decide, by decide⟩) rfl h.1 dX7_goesOn_142 ?_
        refine lv_topi (fun v26 ev26 => ?_)
        replace h := h.2 v26 ev26
        refine va_iast hx hb hK hP (cD hwd) hS 13 0 (mg_a ⟨by decide, by decide, by decide⟩) rfl h.1 dX7_goesOn_143 (fun H locs hP _ hS => ?_)
        replace hP := mu_a hwd ⟨by decide, by decide, by decide⟩ hP
        obtain ⟨u27, eu27⟩ : ∃ y : St, y = su u25 13 v17.toNatClampNeg v26 := ⟨_, rfl⟩
        rw [← eu27] at hP
        replace h := h.2 u27 eu27
        refine lv_aload_n hx hb dX7_goesOn_144 rfl (lv_at hl 1 rfl) ?_
        refine va_get (C := RX7) (T := TX7) (N := 22) hx hb hts n7 hown hK hP 0 mg_0 rfl 20 (by decide) lk1 (fun _ h9 => h9) rfl dX7_goesOn_145 ?_
        refine lv_aload_n hx hb dX7_goesOn_148 rfl (lv_at hl 1 rfl) ?_
        refine va_get (C := RX7) (T := TX7) (N := 22) hx hb hts n7 hown hK hP 0 mg_0 rfl 21 (by decide) lk2 (fun _ h9 => h9) rfl dX7_goesOn_149 ?_
        refine lv_iload hx hb dX7_goesOn_152 (lv_at hl 0 rfl) ?_
        refine va_iast hx hb hK hP (cD hwd) hS 15 0 (mg_a ⟨by decide, by decide, by decide⟩) rfl h.1 dX7_goesOn_154 (fun H locs hP _ hS => ?_)
        replace hP := mu_a hwd ⟨by decide, by decide, by decide⟩ hP
        obtain ⟨u28, eu28⟩ : ∃ y : St, y = su u27 15 (u27 0 6).toNatClampNeg v17 := ⟨_, rfl⟩
        rw [← eu28] at hP
        replace h := h.2 u28 eu28
        refine lv_aload_n hx hb dX7_goesOn_155 rfl (lv_at hl 1 rfl) ?_
        refine lv_dup hx hb dX7_goesOn_156 rfl ?_
        refine va_get (C := RX7) (T := TX7) (N := 22) hx hb hts n7 hown hK hP 0 mg_0 rfl 21 (by decide) lk2 (fun _ h9 => h9) rfl dX7_goesOn_157 ?_
        refine lv_iconst (v := 1) hx hb dX7_goesOn_160 (by decide) ?_
        refine lv_iadd hx hb dX7_goesOn_161 ?_
        refine va_put (C := RX7) (T := TX7) (N := 22) (ty := .int) (v := .int ((u28 0 6) + 1)) hx hb hts n7 tyX7 tyX7_ok nmX7 hown hK hP (cD hwd) hS 0 mg_0 rfl 21 (by decide) lk2 (fun _ h9 => h9) rfl (by decide +kernel) rfl rfl (Nat.le_of_ble_eq_true rfl) dX7_goesOn_162 (fun H locs hP _ hS => ?_)
        replace hP := mu_found hwd hP
        obtain ⟨u29, eu29⟩ : ∃ y : St, y = su u28 0 6 ((u28 0 6) + 1) := ⟨_, rfl⟩
        rw [← eu29] at hP
        replace h := h u29 eu29
        obtain ⟨v30, ev30⟩ : ∃ y : Int32, y = a4 + 1 := ⟨_, rfl⟩
        refine lv_iinc (v := v30) (lv' := [(4, .int v30), (5, .int v17), (0, .ref (ad 0)), (2, .int a2), (3, .int a3)]) hx hb dX7_goesOn_165 hl (k := 4) rfl (by rw [ev30]; rfl) (by decide) rfl (fun ls hl => ?_)
        replace h := h v30 ev30
        refine lv_goto (tgt := 58) hx hb dX7_goesOn_168 (by decide) ?_
        exact ih v30 _ _ _ _ h hP hS (lv_sub hl [2, 3, 4, 0] rfl)
set_option maxRecDepth 100000 in
set_option maxHeartbeats 4000000 in
theorem w_X7_goesOn_L47 {p : Program} {l : Launch} {e : Env} {s : State} {m : MethodId} {args : Array Value} {below : List Frame} {meth : Method} {c : Code} {D : va_G} {cI cG cZ cJ : ClassId} {ts : Nat × Nat}  {ad : Nat → Nat}  (X : FX RX7 wsX7_goesOn cX7_goesOn 6 none D cI cG cZ cJ ts mLs ad p s m args meth c) (a2 : Int32) (Q : St → Prop)
    (K0 : St → Prop) (hk0 : ∀ (u : St) (H : Heap) (locs : List Loc) (ls : Array Slot), K0 u → va_P D vwCl (mW cI cZ ad u) H → va_S (cA mLs ad s.heap.size) s.heap H locs → lv_has ls 6 [] → W p l e (headSpec wsX7_goesOn { frames := 3, cells := 0, slots := 0, locals := 72 }).room s m args below meth c H locs 0 0 (MQ below (va_Qv Q (fun u9 t => va_P D vwCl (mW cI cZ ad u9) t.heap) (cA mLs ad s.heap.size)) args s 0 0 (cA mLs ad s.heap.size)) (F0 m 177 ls []))
    : ∀ (n : Nat) (a3 : Int32) (u : St) (H : Heap) (locs : List Loc) (ls : Array Slot), f_X7_goesOn_L47 a2 Q K0 n a3 u → va_P D vwCl (mW cI cZ ad u) H → va_S (cA mLs ad s.heap.size) s.heap H locs → lv_has ls 6 [(0, .ref (ad 0)), (2, .int a2), (3, .int a3)] → W p l e (headSpec wsX7_goesOn { frames := 3, cells := 0, slots := 0, locals := 72 }).room s m args below meth c H locs 0 0 (MQ below (va_Qv Q (fun u9 t => va_P D vwCl (mW cI cZ ad u9) t.heap) (cA mLs ad s.heap.size)) args s 0 0 (cA mLs ad s.heap.size)) (F0 m 47 ls []) := by
  obtain ⟨hx, hb, hml, hown, hts, hr, hlocks, hwd, hC⟩ := id X
  have hK := hC.1
  have lk0 := hts (.fieldLink RX7 54 "FormForgeModel" "steps" "[I") (by decide +kernel)
  have lk1 := hts (.fieldLink RX7 57 "FormForgeModel" "row" "[I") (by decide +kernel)
  have lk2 := hts (.fieldLink RX7 174 "FormForgeModel" "found" "I") (by decide +kernel)
  have lk3 := hts (.fieldLink RX7 78 "FormForgeModel" "generators" "I") (by decide +kernel)
  have lk4 := hts (.fieldLink RX7 48 "FormForgeModel" "by" "[I") (by decide +kernel)
  have lk5 := hts (.fieldLink RX7 51 "FormForgeModel" "from" "[I") (by decide +kernel)
  have n7 : ∀ w ∈ wsX70, w ∈ wsX7_goesOn := by decide +kernel
  intro n
  induction n with
  | zero =>
    intro a3 u H locs ls h; exact h.elim
  | succ n ih =>
    intro a3 u H locs ls h hP hS hl
    replace h : f_X7_goesOn_L47_s a2 Q K0 (f_X7_goesOn_L47 a2 Q K0 n) a3 u := h
    unfold f_X7_goesOn_L47_s at h
    refine lv_iload_n hx hb dX7_goesOn_47 rfl (lv_at hl 2 rfl) ?_
    refine lv_aload_n hx hb dX7_goesOn_48 rfl (lv_at hl 0 rfl) ?_
    refine va_get (C := RX7) (T := TX7) (N := 22) hx hb hts n7 hown hK hP 0 mg_0 rfl 21 (by decide) lk2 (fun _ h9 => h9) rfl dX7_goesOn_49 ?_
    refine lv_icmp_ge (tgt := 177) hx hb dX7_goesOn_52 (by decide) (fun c11 => ?_) (fun c11 => ?_)
    · replace h := h.1 c11
      exact hk0  _ _ _ _ h hP hS (lv_sub hl [] rfl)
    · replace h := h.2 c11
      refine lv_iconst (v := 0) hx hb dX7_goesOn_55 (by decide) ?_
      refine lv_istore (lv' := [(4, .int 0), (0, .ref (ad 0)), (2, .int a2), (3, .int a3)]) hx hb dX7_goesOn_56 hl (by decide) rfl (fun ls hl => ?_)
      obtain ⟨n31, h⟩ := h
      refine w_X7_goesOn_L58 X a2 a3 _ _ (fun u32 H locs ls h hP hS hl => ?_) n31 0 _ _ _ _ h hP hS (lv_sub hl [1, 2, 3, 0] rfl)
      obtain ⟨v33, ev33⟩ : ∃ y : Int32, y = a3 + 1 := ⟨_, rfl⟩
      refine lv_iinc (v := v33) (lv' := [(3, .int v33), (0, .ref (ad 0)), (2, .int a2)]) hx hb dX7_goesOn_171 hl (k := 2) rfl (by rw [ev33]; rfl) (by decide) rfl (fun ls hl => ?_)
      replace h := h v33 ev33
      refine lv_goto (tgt := 47) hx hb dX7_goesOn_174 (by decide) ?_
      exact ih v33 _ _ _ _ h hP hS (lv_sub hl [1, 2, 0] rfl)
set_option maxRecDepth 100000 in
set_option maxHeartbeats 4000000 in
theorem w_X7_goesOn {p : Program} {l : Launch} {e : Env} {s : State} {m : MethodId} {args : Array Value} {below : List Frame} {meth : Method} {c : Code} {D : va_G} {cI cG cZ cJ : ClassId} {ts : Nat × Nat}  {ad : Nat → Nat}  (X : FX RX7 wsX7_goesOn cX7_goesOn 6 none D cI cG cZ cJ ts mLs ad p s m args meth c) (a1 : Int32) (a2 : Int32) (Q : St → Prop) (u : St) (H : Heap) (locs : List Loc) (ls : Array Slot) (h : f_X7_goesOn a1 a2 u Q) (hP : va_P D vwCl (mW cI cZ ad u) H) (hS : va_S (cA mLs ad s.heap.size) s.heap H locs) (hl : lv_has ls 6 [(0, .ref (ad 0)), (1, .int a1), (2, .int a2)]) : W p l e (headSpec wsX7_goesOn { frames := 3, cells := 0, slots := 0, locals := 72 }).room s m args below meth c H locs 0 0 (MQ below (va_Qv Q (fun u9 t => va_P D vwCl (mW cI cZ ad u9) t.heap) (cA mLs ad s.heap.size)) args s 0 0 (cA mLs ad s.heap.size)) (F0 m 0 ls []) := by
  obtain ⟨hx, hb, hml, hown, hts, hr, hlocks, hwd, hC⟩ := id X
  have hK := hC.1
  have lk0 := hts (.fieldLink RX7 54 "FormForgeModel" "steps" "[I") (by decide +kernel)
  have lk1 := hts (.fieldLink RX7 57 "FormForgeModel" "row" "[I") (by decide +kernel)
  have lk2 := hts (.fieldLink RX7 174 "FormForgeModel" "found" "I") (by decide +kernel)
  have lk3 := hts (.fieldLink RX7 78 "FormForgeModel" "generators" "I") (by decide +kernel)
  have lk4 := hts (.fieldLink RX7 48 "FormForgeModel" "by" "[I") (by decide +kernel)
  have lk5 := hts (.fieldLink RX7 51 "FormForgeModel" "from" "[I") (by decide +kernel)
  have n7 : ∀ w ∈ wsX70, w ∈ wsX7_goesOn := by decide +kernel
  unfold f_X7_goesOn at h
  refine lv_iconst (v := 0) hx hb dX7_goesOn_0 (by decide) ?_
  refine lv_istore_n (lv' := [(3, .int 0), (0, .ref (ad 0)), (1, .int a1), (2, .int a2)]) hx hb dX7_goesOn_1 rfl hl (by decide) rfl (fun ls hl => ?_)
  obtain ⟨n6, h⟩ := h
  refine w_X7_goesOn_L2 X a1 a2 _ _ (fun u7 H locs ls h hP hS hl => ?_) n6 0 _ _ _ _ h hP hS (lv_sub hl [1, 2, 3, 0] rfl)
  refine lv_aload_n hx hb dX7_goesOn_26 rfl (lv_at hl 0 rfl) ?_
  refine va_get (C := RX7) (T := TX7) (N := 22) hx hb hts n7 hown hK hP 0 mg_0 rfl 19 (by decide) lk0 (fun _ h9 => h9) rfl dX7_goesOn_27 ?_
  refine lv_iload_n hx hb dX7_goesOn_30 rfl (lv_at hl 1 rfl) ?_
  refine lv_iconst (v := 0) hx hb dX7_goesOn_31 (by decide) ?_
  refine va_iast hx hb hK hP (cD hwd) hS 14 0 (mg_a ⟨by decide, by decide, by decide⟩) rfl h.1 dX7_goesOn_32 (fun H locs hP _ hS => ?_)
  replace hP := mu_a hwd ⟨by decide, by decide, by decide⟩ hP
  obtain ⟨u8, eu8⟩ : ∃ y : St, y = su u7 14 a1.toNatClampNeg 0 := ⟨_, rfl⟩
  rw [← eu8] at hP
  replace h := h.2 u8 eu8
  refine lv_aload_n hx hb dX7_goesOn_33 rfl (lv_at hl 0 rfl) ?_
  refine va_get (C := RX7) (T := TX7) (N := 22) hx hb hts n7 hown hK hP 0 mg_0 rfl 20 (by decide) lk1 (fun _ h9 => h9) rfl dX7_goesOn_34 ?_
  refine lv_iconst (v := 0) hx hb dX7_goesOn_37 (by decide) ?_
  refine lv_iload_n hx hb dX7_goesOn_38 rfl (lv_at hl 1 rfl) ?_
  refine va_iast hx hb hK hP (cD hwd) hS 15 0 (mg_a ⟨by decide, by decide, by decide⟩) rfl h.1 dX7_goesOn_39 (fun H locs hP _ hS => ?_)
  replace hP := mu_a hwd ⟨by decide, by decide, by decide⟩ hP
  obtain ⟨u9, eu9⟩ : ∃ y : St, y = su u8 15 (0 : Int32).toNatClampNeg a1 := ⟨_, rfl⟩
  rw [← eu9] at hP
  replace h := h.2 u9 eu9
  refine lv_aload_n hx hb dX7_goesOn_40 rfl (lv_at hl 0 rfl) ?_
  refine lv_iconst (v := 1) hx hb dX7_goesOn_41 (by decide) ?_
  refine va_put (C := RX7) (T := TX7) (N := 22) (ty := .int) (v := .int 1) hx hb hts n7 tyX7 tyX7_ok nmX7 hown hK hP (cD hwd) hS 0 mg_0 rfl 21 (by decide) lk2 (fun _ h9 => h9) rfl (by decide +kernel) rfl rfl (Nat.le_of_ble_eq_true rfl) dX7_goesOn_42 (fun H locs hP _ hS => ?_)
  replace hP := mu_found hwd hP
  obtain ⟨u10, eu10⟩ : ∃ y : St, y = su u9 0 6 1 := ⟨_, rfl⟩
  rw [← eu10] at hP
  replace h := h u10 eu10
  refine lv_iconst (v := 0) hx hb dX7_goesOn_45 (by decide) ?_
  refine lv_istore_n (lv' := [(3, .int 0), (0, .ref (ad 0)), (1, .int a1), (2, .int a2)]) hx hb dX7_goesOn_46 rfl hl (by decide) rfl (fun ls hl => ?_)
  obtain ⟨n34, h⟩ := h
  refine w_X7_goesOn_L47 X a2 _ _ (fun u35 H locs ls h hP hS hl => ?_) n34 0 _ _ _ _ h hP hS (lv_sub hl [1, 3, 0] rfl)
  exact W.vret hx hb hr (fun t ht hW => ⟨⟨_, rfl, h, by show va_P _ _ _ t.heap; rw [ht]; exact hP⟩, hS.F ht⟩) hS.2.2 dX7_goesOn_177
set_option maxRecDepth 100000 in
set_option maxHeartbeats 4000000 in
theorem c_X7_goesOn {l : Launch} {D : va_G} {cI cG cZ cJ : ClassId} {ts : Nat × Nat} {ad : Nat → Nat} (hwd : WD mLs ad) (sz : Nat) (u : St) (a1 : Int32) (a2 : Int32) (Q : St → Prop) (h : f_X7_goesOn a1 a2 u Q) : Met l yX7_goesOn wsX7_goesOn ({ frames := 3, cells := 0, slots := 0, locals := 72 }) (va_Pc [.ref (ad 0), .int a1, .int a2] (PM D cI cG cZ cJ ts ad sz u)) (va_Qv Q (fun u9 t => va_P D vwCl (mW cI cZ ad u9) t.heap) (cA mLs ad sz)) 0 0 (cA mLs ad sz) := by
  refine Met.ofW (cc := cX7_goesOn) (maxL := 6) (ret := none) (by decide) rfl ?_
  intro p e s m args below meth c s₁ B hml hv
  obtain ⟨rfl, hsz, hP, hC⟩ := hv
  subst hsz
  have X : FX RX7 wsX7_goesOn cX7_goesOn 6 none D cI cG cZ cJ ts mLs ad p s m _ meth c := ⟨B.exec, B.bytes, hml, findClass_of_methodNamed B.named, atoms_spec (ws := wsX7_goesOn) B.pre, B.returns, B.notSynchronized, hwd, hC⟩
  have hl := lv_entry ([.ref (ad 0), .int a1, .int a2]) (n := 6) (Nat.le_of_ble_eq_true rfl)
  rw [lg_entry_eq]
  generalize (lg_sl ([.ref (ad 0), .int a1, .int a2]) ++ List.replicate (6 - (lg_sl ([.ref (ad 0), .int a1, .int a2])).length) Slot.unset).toArray = ls at hl ⊢
  exact w_X7_goesOn X a1 a2 Q u _ _ _ h hP va_S.rf hl
set_option maxRecDepth 100000 in
set_option maxHeartbeats 4000000 in
theorem w_X7_leastCode_L25 {p : Program} {l : Launch} {e : Env} {s : State} {m : MethodId} {args : Array Value} {below : List Frame} {meth : Method} {c : Code} {D : va_G} {cI cG cZ cJ : ClassId} {ts : Nat × Nat}  {ad : Nat → Nat}  (X : FX RX7 wsX7_leastCode cX7_leastCode 4 (some .int) D cI cG cZ cJ ts mLs ad p s m args meth c)  (Q : Int32 → St → Prop)
    (K0 : Int32 → St → Prop) (hk0 : ∀ (b2 : Int32) (u : St) (H : Heap) (locs : List Loc) (ls : Array Slot), K0 b2 u → va_P D vwCl (mW cI cZ ad u) H → va_S (cA mLs ad s.heap.size) s.heap H locs → lv_has ls 4 [(2, .int b2)] → W p l e (headSpec wsX7_leastCode { frames := 4, cells := 0, slots := 0, locals := 97 }).room s m args below meth c H locs 0 0 (MQ below (va_Qi Q (fun u9 t => va_P D vwCl (mW cI cZ ad u9) t.heap) (cA mLs ad s.heap.size)) args s 0 0 (cA mLs ad s.heap.size)) (F0 m 60 ls []))
    : ∀ (n : Nat) (a2 : Int32) (a3 : Int32) (u : St) (H : Heap) (locs : List Loc) (ls : Array Slot), f_X7_leastCode_L25 Q K0 n a2 a3 u → va_P D vwCl (mW cI cZ ad u) H → va_S (cA mLs ad s.heap.size) s.heap H locs → lv_has ls 4 [(0, .ref (ad 0)), (2, .int a2), (3, .int a3)] → W p l e (headSpec wsX7_leastCode { frames := 4, cells := 0, slots := 0, locals := 97 }).room s m args below meth c H locs 0 0 (MQ below (va_Qi Q (fun u9 t => va_P D vwCl (mW cI cZ ad u9) t.heap) (cA mLs ad s.heap.size)) args s 0 0 (cA mLs ad s.heap.size)) (F0 m 25 ls []) := by
  obtain ⟨hx, hb, hml, hown, hts, hr, hlocks, hwd, hC⟩ := id X
  have hK := hC.1
  have lk0 := hts (.fieldLink RX7 17 "FormForgeModel" "code" "[I") (by decide +kernel)
  have lk1 := hts (.fieldLink RX7 13 "FormForgeModel" "degree" "[I") (by decide +kernel)
  have lk2 := hts (.fieldLink RX7 174 "FormForgeModel" "found" "I") (by decide +kernel)
  have lk3 := hts (.fieldLink RX7 57 "FormForgeModel" "row" "[I") (by decide +kernel)
  have n7 : ∀ w ∈ wsX70, w ∈ wsX7_leastCode := by decide +kernel
  intro n
  induction n with
  | zero =>
    intro a2 a3 u H locs ls h; exact h.elim
  | succ n ih =>
    intro a2 a3 u H locs ls h hP hS hl
    replace h : f_X7_leastCode_L25_s Q K0 (f_X7_leastCode_L25 Q K0 n) a2 a3 u := h
    unfold f_X7_leastCode_L25_s at h
    refine lv_iload_n hx hb dX7_leastCode_25 rfl (lv_at hl 2 rfl) ?_
    refine lv_aload_n hx hb dX7_leastCode_26 rfl (lv_at hl 0 rfl) ?_
    refine va_get (C := RX7) (T := TX7) (N := 22) hx hb hts n7 hown hK hP 0 mg_0 rfl 21 (by decide) lk2 (fun _ h9 => h9) rfl dX7_leastCode_27 ?_
    refine lv_icmp_ge (tgt := 60) hx hb dX7_leastCode_30 (by decide) (fun c5 => ?_) (fun c5 => ?_)
    · replace h := h.1 c5
      exact hk0 a2 _ _ _ _ h hP hS (lv_sub hl [1] rfl)
    · replace h := h.2 c5
      refine lv_aload_n hx hb dX7_leastCode_33 rfl (lv_at hl 0 rfl) ?_
      refine va_get (C := RX7) (T := TX7) (N := 22) hx hb hts n7 hown hK hP 0 mg_0 rfl 20 (by decide) lk3 (fun _ h9 => h9) rfl dX7_leastCode_34 ?_
      refine lv_iload_n hx hb dX7_leastCode_37 rfl (lv_at hl 2 rfl) ?_
      refine va_iald hx hb hK hP 15 0 (mg_a ⟨by decide, by decide, by decide⟩) rfl h.1 dX7_leastCode_38 ?_
      refine lv_topi (fun v6 ev6 => ?_)
      replace h := h.2 v6 ev6
      refine lv_iload_n hx hb dX7_leastCode_39 rfl (lv_at hl 1 rfl) ?_
      refine lv_icmp_ge (tgt := 52) hx hb dX7_leastCode_40 (by decide) (fun c7 => ?_) (fun c7 => ?_)
      · replace h := h.1 c7
        refine lv_iload_n hx hb dX7_leastCode_52 rfl (lv_at hl 1 rfl) ?_
        refine lv_istore_n (lv' := [(2, .int a2), (0, .ref (ad 0)), (3, .int a3)]) hx hb dX7_leastCode_53 rfl hl (by decide) rfl (fun ls hl => ?_)
        obtain ⟨v8, ev8⟩ : ∃ y : Int32, y = a3 + 1 := ⟨_, rfl⟩
        refine lv_iinc (v := v8) (lv' := [(3, .int v8), (2, .int a2), (0, .ref (ad 0))]) hx hb dX7_leastCode_54 hl (k := 2) rfl (by rw [ev8]; rfl) (by decide) rfl (fun ls hl => ?_)
        replace h := h v8 ev8
        refine lv_goto (tgt := 25) hx hb dX7_leastCode_57 (by decide) ?_
        exact ih a2 v8 _ _ _ _ h hP hS (lv_sub hl [2, 1, 0] rfl)
      · replace h := h.2 c7
        refine lv_aload_n hx hb dX7_leastCode_43 rfl (lv_at hl 0 rfl) ?_
        refine va_get (C := RX7) (T := TX7) (N := 22) hx hb hts n7 hown hK hP 0 mg_0 rfl 20 (by decide) lk3 (fun _ h9 => h9) rfl dX7_leastCode_44 ?_
        refine lv_iload_n hx hb dX7_leastCode_47 rfl (lv_at hl 2 rfl) ?_
        refine va_iald hx hb hK hP 15 0 (mg_a ⟨by decide, by decide, by decide⟩) rfl h.1 dX7_leastCode_48 ?_
        refine lv_topi (fun v9 ev9 => ?_)
        replace h := h.2 v9 ev9
        refine lv_goto (tgt := 53) hx hb dX7_leastCode_49 (by decide) ?_
        refine lv_istore_n (lv' := [(2, .int v9), (0, .ref (ad 0)), (3, .int a3)]) hx hb dX7_leastCode_53 rfl hl (by decide) rfl (fun ls hl => ?_)
        obtain ⟨v10, ev10⟩ : ∃ y : Int32, y = a3 + 1 := ⟨_, rfl⟩
        refine lv_iinc (v := v10) (lv' := [(3, .int v10), (2, .int v9), (0, .ref (ad 0))]) hx hb dX7_leastCode_54 hl (k := 2) rfl (by rw [ev10]; rfl) (by decide) rfl (fun ls hl => ?_)
        replace h := h v10 ev10
        refine lv_goto (tgt := 25) hx hb dX7_leastCode_57 (by decide) ?_
        exact ih v9 v10 _ _ _ _ h hP hS (lv_sub hl [2, 1, 0] rfl)
set_option maxRecDepth 100000 in
set_option maxHeartbeats 4000000 in
theorem w_X7_leastCode {p : Program} {l : Launch} {e : Env} {s : State} {m : MethodId} {args : Array Value} {below : List Frame} {meth : Method} {c : Code} {D : va_G} {cI cG cZ cJ : ClassId} {ts : Nat × Nat}  {ad : Nat → Nat}  (X : FX RX7 wsX7_leastCode cX7_leastCode 4 (some .int) D cI cG cZ cJ ts mLs ad p s m args meth c) (a1 : Int32) (Q : Int32 → St → Prop) (u : St) (H : Heap) (locs : List Loc) (ls : Array Slot) (h : f_X7_leastCode a1 u Q) (hP : va_P D vwCl (mW cI cZ ad u) H) (hS : va_S (cA mLs ad s.heap.size) s.heap H locs) (hl : lv_has ls 4 [(0, .ref (ad 0)), (1, .int a1)]) : W p l e (headSpec wsX7_leastCode { frames := 4, cells := 0, slots := 0, locals := 97 }).room s m args below meth c H locs 0 0 (MQ below (va_Qi Q (fun u9 t => va_P D vwCl (mW cI cZ ad u9) t.heap) (cA mLs ad s.heap.size)) args s 0 0 (cA mLs ad s.heap.size)) (F0 m 0 ls []) := by
  obtain ⟨hx, hb, hml, hown, hts, hr, hlocks, hwd, hC⟩ := id X
  have hK := hC.1
  have lk0 := hts (.fieldLink RX7 17 "FormForgeModel" "code" "[I") (by decide +kernel)
  have lk1 := hts (.fieldLink RX7 13 "FormForgeModel" "degree" "[I") (by decide +kernel)
  have lk2 := hts (.fieldLink RX7 174 "FormForgeModel" "found" "I") (by decide +kernel)
  have lk3 := hts (.fieldLink RX7 57 "FormForgeModel" "row" "[I") (by decide +kernel)
  have n7 : ∀ w ∈ wsX70, w ∈ wsX7_leastCode := by decide +kernel
  unfold f_X7_leastCode at h
  refine lv_aload_n hx hb dX7_leastCode_0 rfl (lv_at hl 0 rfl) ?_
  refine lv_aload_n hx hb dX7_leastCode_1 rfl (lv_at hl 0 rfl) ?_
  refine va_get (C := RX7) (T := TX7) (N := 22) hx hb hts n7 hown hK hP 0 mg_0 rfl 3 (by decide) lk0 (fun _ h9 => h9) rfl dX7_leastCode_2 ?_
  refine lv_iload_n hx hb dX7_leastCode_5 rfl (lv_at hl 1 rfl) ?_
  refine va_iald hx hb hK hP 2 0 (mg_a ⟨by decide, by decide, by decide⟩) rfl h.1 dX7_leastCode_6 ?_
  refine lv_topi (fun v1 ev1 => ?_)
  replace h := h.2 v1 ev1
  refine lv_aload_n hx hb dX7_leastCode_7 rfl (lv_at hl 0 rfl) ?_
  refine va_get (C := RX7) (T := TX7) (N := 22) hx hb hts n7 hown hK hP 0 mg_0 rfl 2 (by decide) lk1 (fun _ h9 => h9) rfl dX7_leastCode_8 ?_
  refine lv_iload_n hx hb dX7_leastCode_11 rfl (lv_at hl 1 rfl) ?_
  refine va_iald hx hb hK hP 1 0 (mg_a ⟨by decide, by decide, by decide⟩) rfl h.1 dX7_leastCode_12 ?_
  refine lv_topi (fun v2 ev2 => ?_)
  replace h := h.2 v2 ev2
  refine cc_v (va_runV (C := RX7) (As := [.int v1, .int v2]) (rest := []) ⟨hx, hb, hml, hown, hts⟩ (c_X7_goesOn hwd H.size u v1 v2 _ h) (cwV 2 hts gX7_leastCode_X7_goesOn rfl rfl rfl (by decide +kernel) ⟨Nat.le_of_ble_eq_true rfl, Nat.le_of_ble_eq_true rfl⟩) (pmV hC hP hS mg_0 rfl) rfl rfl hl.1 rfl (lv_room (Nat.le_of_ble_eq_true rfl)) dX7_leastCode_13 ⟨Nat.zero_le _, Nat.zero_le _⟩) hS (cA_mono hS.1) (fun u3 H locs h hP hS => ?_)
  refine lv_aload_n hx hb dX7_leastCode_16 rfl (lv_at hl 0 rfl) ?_
  refine va_get (C := RX7) (T := TX7) (N := 22) hx hb hts n7 hown hK hP 0 mg_0 rfl 3 (by decide) lk0 (fun _ h9 => h9) rfl dX7_leastCode_17 ?_
  refine lv_iload_n hx hb dX7_leastCode_20 rfl (lv_at hl 1 rfl) ?_
  refine va_iald hx hb hK hP 2 0 (mg_a ⟨by decide, by decide, by decide⟩) rfl h.1 dX7_leastCode_21 ?_
  refine lv_topi (fun v4 ev4 => ?_)
  replace h := h.2 v4 ev4
  refine lv_istore_n (lv' := [(2, .int v4), (0, .ref (ad 0)), (1, .int a1)]) hx hb dX7_leastCode_22 rfl hl (by decide) rfl (fun ls hl => ?_)
  refine lv_iconst (v := 0) hx hb dX7_leastCode_23 (by decide) ?_
  refine lv_istore_n (lv' := [(3, .int 0), (2, .int v4), (0, .ref (ad 0)), (1, .int a1)]) hx hb dX7_leastCode_24 rfl hl (by decide) rfl (fun ls hl => ?_)
  obtain ⟨n11, h⟩ := h
  refine w_X7_leastCode_L25 X _ _ (fun v12 u13 H locs ls h hP hS hl => ?_) n11 v4 0 _ _ _ _ h hP hS (lv_sub hl [2, 1, 0] rfl)
  refine lv_iload_n hx hb dX7_leastCode_60 rfl (lv_at hl 0 rfl) ?_
  exact W.iret (v := v12) hx hb hr (fun t ht hW => ⟨⟨_, _, rfl, h, by show va_P _ _ _ t.heap; rw [ht]; exact hP⟩, hS.F ht⟩) hS.2.2 dX7_leastCode_61
set_option maxRecDepth 100000 in
set_option maxHeartbeats 4000000 in
theorem c_X7_leastCode {l : Launch} {D : va_G} {cI cG cZ cJ : ClassId} {ts : Nat × Nat} {ad : Nat → Nat} (hwd : WD mLs ad) (sz : Nat) (u : St) (a1 : Int32) (Q : Int32 → St → Prop) (h : f_X7_leastCode a1 u Q) : Met l yX7_leastCode wsX7_leastCode ({ frames := 4, cells := 0, slots := 0, locals := 97 }) (va_Pc [.ref (ad 0), .int a1] (PM D cI cG cZ cJ ts ad sz u)) (va_Qi Q (fun u9 t => va_P D vwCl (mW cI cZ ad u9) t.heap) (cA mLs ad sz)) 0 0 (cA mLs ad sz) := by
  refine Met.ofW (cc := cX7_leastCode) (maxL := 4) (ret := (some .int)) (by decide) rfl ?_
  intro p e s m args below meth c s₁ B hml hv
  obtain ⟨rfl, hsz, hP, hC⟩ := hv
  subst hsz
  have X : FX RX7 wsX7_leastCode cX7_leastCode 4 (some .int) D cI cG cZ cJ ts mLs ad p s m _ meth c := ⟨B.exec, B.bytes, hml, findClass_of_methodNamed B.named, atoms_spec (ws := wsX7_leastCode) B.pre, B.returns, B.notSynchronized, hwd, hC⟩
  have hl := lv_entry ([.ref (ad 0), .int a1]) (n := 4) (Nat.le_of_ble_eq_true rfl)
  rw [lg_entry_eq]
  generalize (lg_sl ([.ref (ad 0), .int a1]) ++ List.replicate (4 - (lg_sl ([.ref (ad 0), .int a1])).length) Slot.unset).toArray = ls at hl ⊢
  exact w_X7_leastCode X a1 Q u _ _ _ h hP va_S.rf hl
set_option maxRecDepth 100000 in
set_option maxHeartbeats 4000000 in
theorem w_X7_inOrbit {p : Program} {l : Launch} {e : Env} {s : State} {m : MethodId} {args : Array Value} {below : List Frame} {meth : Method} {c : Code} {D : va_G} {cI cG cZ cJ : ClassId} {ts : Nat × Nat}  {ad : Nat → Nat}  (X : FX RX7 wsX7_inOrbit cX7_inOrbit 2 (some .int) D cI cG cZ cJ ts mLs ad p s m args meth c) (a1 : Int32) (Q : Int32 → St → Prop) (u : St) (H : Heap) (locs : List Loc) (ls : Array Slot) (h : f_X7_inOrbit a1 u Q) (hP : va_P D vwCl (mW cI cZ ad u) H) (hS : va_S (cA mLs ad s.heap.size) s.heap H locs) (hl : lv_has ls 2 [(0, .ref (ad 0)), (1, .int a1)]) : W p l e (headSpec wsX7_inOrbit { frames := 4, cells := 0, slots := 0, locals := 97 }).room s m args below meth c H locs 0 0 (MQ below (va_Qi Q (fun u9 t => va_P D vwCl (mW cI cZ ad u9) t.heap) (cA mLs ad s.heap.size)) args s 0 0 (cA mLs ad s.heap.size)) (F0 m 0 ls []) := by
  obtain ⟨hx, hb, hml, hown, hts, hr, hlocks, hwd, hC⟩ := id X
  have hK := hC.1
  have lk0 := hts (.fieldLink RX7 17 "FormForgeModel" "code" "[I") (by decide +kernel)
  have lk1 := hts (.fieldLink RX7 13 "FormForgeModel" "degree" "[I") (by decide +kernel)
  have lk2 := hts (.fieldLink RX7 174 "FormForgeModel" "found" "I") (by decide +kernel)
  have n7 : ∀ w ∈ wsX70, w ∈ wsX7_inOrbit := by decide +kernel
  unfold f_X7_inOrbit at h
  refine lv_aload_n hx hb dX7_inOrbit_0 rfl (lv_at hl 0 rfl) ?_
  refine lv_aload_n hx hb dX7_inOrbit_1 rfl (lv_at hl 0 rfl) ?_
  refine va_get (C := RX7) (T := TX7) (N := 22) hx hb hts n7 hown hK hP 0 mg_0 rfl 3 (by decide) lk0 (fun _ h9 => h9) rfl dX7_inOrbit_2 ?_
  refine lv_iload_n hx hb dX7_inOrbit_5 rfl (lv_at hl 1 rfl) ?_
  refine va_iald hx hb hK hP 2 0 (mg_a ⟨by decide, by decide, by decide⟩) rfl h.1 dX7_inOrbit_6 ?_
  refine lv_topi (fun v1 ev1 => ?_)
  replace h := h.2 v1 ev1
  refine lv_aload_n hx hb dX7_inOrbit_7 rfl (lv_at hl 0 rfl) ?_
  refine va_get (C := RX7) (T := TX7) (N := 22) hx hb hts n7 hown hK hP 0 mg_0 rfl 2 (by decide) lk1 (fun _ h9 => h9) rfl dX7_inOrbit_8 ?_
  refine lv_iload_n hx hb dX7_inOrbit_11 rfl (lv_at hl 1 rfl) ?_
  refine va_iald hx hb hK hP 1 0 (mg_a ⟨by decide, by decide, by decide⟩) rfl h.1 dX7_inOrbit_12 ?_
  refine lv_topi (fun v2 ev2 => ?_)
  replace h := h.2 v2 ev2
  refine cc_v (va_runV (C := RX7) (As := [.int v1, .int v2]) (rest := []) ⟨hx, hb, hml, hown, hts⟩ (c_X7_goesOn hwd H.size u v1 v2 _ h) (cwV 2 hts gX7_inOrbit_X7_goesOn rfl rfl rfl (by decide +kernel) ⟨Nat.le_of_ble_eq_true rfl, Nat.le_of_ble_eq_true rfl⟩) (pmV hC hP hS mg_0 rfl) rfl rfl hl.1 rfl (lv_room (Nat.le_of_ble_eq_true rfl)) dX7_inOrbit_13 ⟨Nat.zero_le _, Nat.zero_le _⟩) hS (cA_mono hS.1) (fun u3 H locs h hP hS => ?_)
  refine lv_aload_n hx hb dX7_inOrbit_16 rfl (lv_at hl 0 rfl) ?_
  refine va_get (C := RX7) (T := TX7) (N := 22) hx hb hts n7 hown hK hP 0 mg_0 rfl 21 (by decide) lk2 (fun _ h9 => h9) rfl dX7_inOrbit_17 ?_
  exact W.iret (v := (u3 0 6)) hx hb hr (fun t ht hW => ⟨⟨_, _, rfl, h, by show va_P _ _ _ t.heap; rw [ht]; exact hP⟩, hS.F ht⟩) hS.2.2 dX7_inOrbit_20
set_option maxRecDepth 100000 in
set_option maxHeartbeats 4000000 in
theorem c_X7_inOrbit {l : Launch} {D : va_G} {cI cG cZ cJ : ClassId} {ts : Nat × Nat} {ad : Nat → Nat} (hwd : WD mLs ad) (sz : Nat) (u : St) (a1 : Int32) (Q : Int32 → St → Prop) (h : f_X7_inOrbit a1 u Q) : Met l yX7_inOrbit wsX7_inOrbit ({ frames := 4, cells := 0, slots := 0, locals := 97 }) (va_Pc [.ref (ad 0), .int a1] (PM D cI cG cZ cJ ts ad sz u)) (va_Qi Q (fun u9 t => va_P D vwCl (mW cI cZ ad u9) t.heap) (cA mLs ad sz)) 0 0 (cA mLs ad sz) := by
  refine Met.ofW (cc := cX7_inOrbit) (maxL := 2) (ret := (some .int)) (by decide) rfl ?_
  intro p e s m args below meth c s₁ B hml hv
  obtain ⟨rfl, hsz, hP, hC⟩ := hv
  subst hsz
  have X : FX RX7 wsX7_inOrbit cX7_inOrbit 2 (some .int) D cI cG cZ cJ ts mLs ad p s m _ meth c := ⟨B.exec, B.bytes, hml, findClass_of_methodNamed B.named, atoms_spec (ws := wsX7_inOrbit) B.pre, B.returns, B.notSynchronized, hwd, hC⟩
  have hl := lv_entry ([.ref (ad 0), .int a1]) (n := 2) (Nat.le_of_ble_eq_true rfl)
  rw [lg_entry_eq]
  generalize (lg_sl ([.ref (ad 0), .int a1]) ++ List.replicate (2 - (lg_sl ([.ref (ad 0), .int a1])).length) Slot.unset).toArray = ls at hl ⊢
  exact w_X7_inOrbit X a1 Q u _ _ _ h hP va_S.rf hl
set_option maxRecDepth 100000 in
set_option maxHeartbeats 4000000 in
theorem w_X7_told {p : Program} {l : Launch} {e : Env} {s : State} {m : MethodId} {args : Array Value} {below : List Frame} {meth : Method} {c : Code} {D : va_G} {cI cG cZ cJ : ClassId} {ts : Nat × Nat}  {ad : Nat → Nat}  (X : FX RX7 wsX7_told cX7_told 3 (some .int) D cI cG cZ cJ ts mLs ad p s m args meth c) (a1 : Int32) (a2 : Int32) (Q : Int32 → St → Prop) (u : St) (H : Heap) (locs : List Loc) (ls : Array Slot) (h : f_X7_told a1 a2 u Q) (hP : va_P D vwCl (mW cI cZ ad u) H) (hS : va_S (cA mLs ad s.heap.size) s.heap H locs) (hl : lv_has ls 3 [(0, .ref (ad 0)), (1, .int a1), (2, .int a2)]) : W p l e (headSpec wsX7_told { frames := 5, cells := 0, slots := 0, locals := 120 }).room s m args below meth c H locs 0 0 (MQ below (va_Qi Q (fun u9 t => va_P D vwCl (mW cI cZ ad u9) t.heap) (cA mLs ad s.heap.size)) args s 0 0 (cA mLs ad s.heap.size)) (F0 m 0 ls []) := by
  obtain ⟨hx, hb, hml, hown, hts, hr, hlocks, hwd, hC⟩ := id X
  have hK := hC.1
  have lk0 := hts (.fieldLink RX7 13 "FormForgeModel" "degree" "[I") (by decide +kernel)
  have lk1 := hts (.fieldLink RX7 17 "FormForgeModel" "code" "[I") (by decide +kernel)
  have n7 : ∀ w ∈ wsX70, w ∈ wsX7_told := by decide +kernel
  unfold f_X7_told at h
  refine lv_iload_n hx hb dX7_told_0 rfl (lv_at hl 2 rfl) ?_
  by_cases c2 : a2 = 0
  · replace h := h.1 c2
    refine lv_tableIn (off := 39) (tgt := 40) hx hb dX7_told_1 (by rw [c2]; decide) (by rw [c2]; decide) (by rw [c2]; rfl) (by decide) ?_
    refine lv_aload_n hx hb dX7_told_40 rfl (lv_at hl 0 rfl) ?_
    refine va_get (C := RX7) (T := TX7) (N := 22) hx hb hts n7 hown hK hP 0 mg_0 rfl 2 (by decide) lk0 (fun _ h9 => h9) rfl dX7_told_41 ?_
    refine lv_iload_n hx hb dX7_told_44 rfl (lv_at hl 1 rfl) ?_
    refine va_iald hx hb hK hP 1 0 (mg_a ⟨by decide, by decide, by decide⟩) rfl h.1 dX7_told_45 ?_
    refine lv_topi (fun v1 ev1 => ?_)
    replace h := h.2 v1 ev1
    exact W.iret (v := v1) hx hb hr (fun t ht hW => ⟨⟨_, _, rfl, h, by show va_P _ _ _ t.heap; rw [ht]; exact hP⟩, hS.F ht⟩) hS.2.2 dX7_told_46
  by_cases c4 : a2 = 1
  · replace h := h.2.1 c4
    refine lv_tableIn (off := 46) (tgt := 47) hx hb dX7_told_1 (by rw [c4]; decide) (by rw [c4]; decide) (by rw [c4]; rfl) (by decide) ?_
    refine lv_aload_n hx hb dX7_told_47 rfl (lv_at hl 0 rfl) ?_
    refine va_get (C := RX7) (T := TX7) (N := 22) hx hb hts n7 hown hK hP 0 mg_0 rfl 3 (by decide) lk1 (fun _ h9 => h9) rfl dX7_told_48 ?_
    refine lv_iload_n hx hb dX7_told_51 rfl (lv_at hl 1 rfl) ?_
    refine va_iald hx hb hK hP 2 0 (mg_a ⟨by decide, by decide, by decide⟩) rfl h.1 dX7_told_52 ?_
    refine lv_topi (fun v3 ev3 => ?_)
    replace h := h.2 v3 ev3
    exact W.iret (v := v3) hx hb hr (fun t ht hW => ⟨⟨_, _, rfl, h, by show va_P _ _ _ t.heap; rw [ht]; exact hP⟩, hS.F ht⟩) hS.2.2 dX7_told_53
  by_cases c7 : a2 = 2
  · replace h := h.2.2.1 c7
    refine lv_tableIn (off := 53) (tgt := 54) hx hb dX7_told_1 (by rw [c7]; decide) (by rw [c7]; decide) (by rw [c7]; rfl) (by decide) ?_
    refine lv_aload_n hx hb dX7_told_54 rfl (lv_at hl 0 rfl) ?_
    refine lv_iload_n hx hb dX7_told_55 rfl (lv_at hl 1 rfl) ?_
    refine cc_i (va_runV (C := RX7) (As := [.int a1]) (rest := []) ⟨hx, hb, hml, hown, hts⟩ (c_X7_roots hwd H.size u a1 _ h) (cwV 1 hts gX7_told_X7_roots rfl rfl rfl (by decide +kernel) ⟨Nat.le_of_ble_eq_true rfl, Nat.le_of_ble_eq_true rfl⟩) (pmV hC hP hS mg_0 rfl) rfl rfl hl.1 rfl (lv_room (Nat.le_of_ble_eq_true rfl)) dX7_told_56 ⟨Nat.zero_le _, Nat.zero_le _⟩) hS (cA_mono hS.1) (fun v5 u6 H locs h hP hS => ?_)
    exact W.iret (v := v5) hx hb hr (fun t ht hW => ⟨⟨_, _, rfl, h, by show va_P _ _ _ t.heap; rw [ht]; exact hP⟩, hS.F ht⟩) hS.2.2 dX7_told_59
  by_cases c10 : a2 = 3
  · replace h := h.2.2.2.1 c10
    refine lv_tableIn (off := 59) (tgt := 60) hx hb dX7_told_1 (by rw [c10]; decide) (by rw [c10]; decide) (by rw [c10]; rfl) (by decide) ?_
    refine lv_aload_n hx hb dX7_told_60 rfl (lv_at hl 0 rfl) ?_
    refine lv_iload_n hx hb dX7_told_61 rfl (lv_at hl 1 rfl) ?_
    refine cc_i (va_runV (C := RX7) (As := [.int a1]) (rest := []) ⟨hx, hb, hml, hown, hts⟩ (c_X7_isNull hwd H.size u a1 _ h) (cwV 1 hts gX7_told_X7_isNull rfl rfl rfl (by decide +kernel) ⟨Nat.le_of_ble_eq_true rfl, Nat.le_of_ble_eq_true rfl⟩) (pmV hC hP hS mg_0 rfl) rfl rfl hl.1 rfl (lv_room (Nat.le_of_ble_eq_true rfl)) dX7_told_62 ⟨Nat.zero_le _, Nat.zero_le _⟩) hS (cA_mono hS.1) (fun v8 u9 H locs h hP hS => ?_)
    exact W.iret (v := v8) hx hb hr (fun t ht hW => ⟨⟨_, _, rfl, h, by show va_P _ _ _ t.heap; rw [ht]; exact hP⟩, hS.F ht⟩) hS.2.2 dX7_told_65
  by_cases c13 : a2 = 4
  · replace h := h.2.2.2.2.1 c13
    refine lv_tableIn (off := 65) (tgt := 66) hx hb dX7_told_1 (by rw [c13]; decide) (by rw [c13]; decide) (by rw [c13]; rfl) (by decide) ?_
    refine lv_aload_n hx hb dX7_told_66 rfl (lv_at hl 0 rfl) ?_
    refine lv_iload_n hx hb dX7_told_67 rfl (lv_at hl 1 rfl) ?_
    refine cc_i (va_runV (C := RX7) (As := [.int a1]) (rest := []) ⟨hx, hb, hml, hown, hts⟩ (c_X7_isFixed hwd H.size u a1 _ h) (cwV 1 hts gX7_told_X7_isFixed rfl rfl rfl (by decide +kernel) ⟨Nat.le_of_ble_eq_true rfl, Nat.le_of_ble_eq_true rfl⟩) (pmV hC hP hS mg_0 rfl) rfl rfl hl.1 rfl (lv_room (Nat.le_of_ble_eq_true rfl)) dX7_told_68 ⟨Nat.zero_le _, Nat.zero_le _⟩) hS (cA_mono hS.1) (fun v11 u12 H locs h hP hS => ?_)
    exact W.iret (v := v11) hx hb hr (fun t ht hW => ⟨⟨_, _, rfl, h, by show va_P _ _ _ t.heap; rw [ht]; exact hP⟩, hS.F ht⟩) hS.2.2 dX7_told_71
  by_cases c16 : a2 = 5
  · replace h := h.2.2.2.2.2.1 c16
    refine lv_tableIn (off := 71) (tgt := 72) hx hb dX7_told_1 (by rw [c16]; decide) (by rw [c16]; decide) (by rw [c16]; rfl) (by decide) ?_
    refine lv_aload_n hx hb dX7_told_72 rfl (lv_at hl 0 rfl) ?_
    refine lv_iload_n hx hb dX7_told_73 rfl (lv_at hl 1 rfl) ?_
    refine cc_i (va_runV (C := RX7) (As := [.int a1]) (rest := []) ⟨hx, hb, hml, hown, hts⟩ (c_X7_inOrbit hwd H.size u a1 _ h) (cwV 1 hts gX7_told_X7_inOrbit rfl rfl rfl (by decide +kernel) ⟨Nat.le_of_ble_eq_true rfl, Nat.le_of_ble_eq_true rfl⟩) (pmV hC hP hS mg_0 rfl) rfl rfl hl.1 rfl (lv_room (Nat.le_of_ble_eq_true rfl)) dX7_told_74 ⟨Nat.zero_le _, Nat.zero_le _⟩) hS (cA_mono hS.1) (fun v14 u15 H locs h hP hS => ?_)
    exact W.iret (v := v14) hx hb hr (fun t ht hW => ⟨⟨_, _, rfl, h, by show va_P _ _ _ t.heap; rw [ht]; exact hP⟩, hS.F ht⟩) hS.2.2 dX7_told_77
  replace h := h.2.2.2.2.2.2 ⟨c2, c4, c7, c10, c13, c16⟩
  refine lv_tableOut (tgt := 78) hx hb dX7_told_1 (by have q0 := lv_neT (a := 0) c2 rfl; have q1 := lv_neT (a := 1) c4 rfl; have q2 := lv_neT (a := 2) c7 rfl; have q3 := lv_neT (a := 3) c10 rfl; have q4 := lv_neT (a := 4) c13 rfl; have q5 := lv_neT (a := 5) c16 rfl; omega) (by decide) ?_
  refine lv_aload_n hx hb dX7_told_78 rfl (lv_at hl 0 rfl) ?_
  refine lv_iload_n hx hb dX7_told_79 rfl (lv_at hl 1 rfl) ?_
  refine cc_i (va_runV (C := RX7) (As := [.int a1]) (rest := []) ⟨hx, hb, hml, hown, hts⟩ (c_X7_leastCode hwd H.size u a1 _ h) (cwV 1 hts gX7_told_X7_leastCode rfl rfl rfl (by decide +kernel) ⟨Nat.le_of_ble_eq_true rfl, Nat.le_of_ble_eq_true rfl⟩) (pmV hC hP hS mg_0 rfl) rfl rfl hl.1 rfl (lv_room (Nat.le_of_ble_eq_true rfl)) dX7_told_80 ⟨Nat.zero_le _, Nat.zero_le _⟩) hS (cA_mono hS.1) (fun v17 u18 H locs h hP hS => ?_)
  exact W.iret (v := v17) hx hb hr (fun t ht hW => ⟨⟨_, _, rfl, h, by show va_P _ _ _ t.heap; rw [ht]; exact hP⟩, hS.F ht⟩) hS.2.2 dX7_told_83
set_option maxRecDepth 100000 in
set_option maxHeartbeats 4000000 in
theorem c_X7_told {l : Launch} {D : va_G} {cI cG cZ cJ : ClassId} {ts : Nat × Nat} {ad : Nat → Nat} (hwd : WD mLs ad) (sz : Nat) (u : St) (a1 : Int32) (a2 : Int32) (Q : Int32 → St → Prop) (h : f_X7_told a1 a2 u Q) : Met l yX7_told wsX7_told ({ frames := 5, cells := 0, slots := 0, locals := 120 }) (va_Pc [.ref (ad 0), .int a1, .int a2] (PM D cI cG cZ cJ ts ad sz u)) (va_Qi Q (fun u9 t => va_P D vwCl (mW cI cZ ad u9) t.heap) (cA mLs ad sz)) 0 0 (cA mLs ad sz) := by
  refine Met.ofW (cc := cX7_told) (maxL := 3) (ret := (some .int)) (by decide) rfl ?_
  intro p e s m args below meth c s₁ B hml hv
  obtain ⟨rfl, hsz, hP, hC⟩ := hv
  subst hsz
  have X : FX RX7 wsX7_told cX7_told 3 (some .int) D cI cG cZ cJ ts mLs ad p s m _ meth c := ⟨B.exec, B.bytes, hml, findClass_of_methodNamed B.named, atoms_spec (ws := wsX7_told) B.pre, B.returns, B.notSynchronized, hwd, hC⟩
  have hl := lv_entry ([.ref (ad 0), .int a1, .int a2]) (n := 3) (Nat.le_of_ble_eq_true rfl)
  rw [lg_entry_eq]
  generalize (lg_sl ([.ref (ad 0), .int a1, .int a2]) ++ List.replicate (3 - (lg_sl ([.ref (ad 0), .int a1, .int a2])).length) Slot.unset).toArray = ls at hl ⊢
  exact w_X7_told X a1 a2 Q u _ _ _ h hP va_S.rf hl
set_option maxRecDepth 100000 in
set_option maxHeartbeats 4000000 in
theorem w_X7_formIs {p : Program} {l : Launch} {e : Env} {s : State} {m : MethodId} {args : Array Value} {below : List Frame} {meth : Method} {c : Code} {D : va_G} {cI cG cZ cJ : ClassId} {ts : Nat × Nat}  {ad : Nat → Nat}  (X : FX RX7 wsX7_formIs cX7_formIs 4 (some .int) D cI cG cZ cJ ts mLs ad p s m args meth c) (a1 : Int32) (a2 : Int32) (Q : Int32 → St → Prop) (u : St) (H : Heap) (locs : List Loc) (ls : Array Slot) (h : f_X7_formIs a1 a2 u Q) (hP : va_P D vwCl (mW cI cZ ad u) H) (hS : va_S (cA mLs ad s.heap.size) s.heap H locs) (hl : lv_has ls 4 [(0, .ref (ad 0)), (1, .int a1), (2, .int a2)]) : W p l e (headSpec wsX7_formIs { frames := 6, cells := 0, slots := 0, locals := 142 }).room s m args below meth c H locs 0 0 (MQ below (va_Qi Q (fun u9 t => va_P D vwCl (mW cI cZ ad u9) t.heap) (cA mLs ad s.heap.size)) args s 0 0 (cA mLs ad s.heap.size)) (F0 m 0 ls []) := by
  obtain ⟨hx, hb, hml, hown, hts, hr, hlocks, hwd, hC⟩ := id X
  have hK := hC.1
  unfold f_X7_formIs at h
  refine lv_aload_n hx hb dX7_formIs_0 rfl (lv_at hl 0 rfl) ?_
  refine lv_iload_n hx hb dX7_formIs_1 rfl (lv_at hl 1 rfl) ?_
  refine cc_i (va_runV (C := RX7) (As := [.int a1]) (rest := []) ⟨hx, hb, hml, hown, hts⟩ (c_X7_isForm hwd H.size u a1 _ h) (cwV 1 hts gX7_formIs_X7_isForm rfl rfl rfl (by decide +kernel) ⟨Nat.le_of_ble_eq_true rfl, Nat.le_of_ble_eq_true rfl⟩) (pmV hC hP hS mg_0 rfl) rfl rfl hl.1 rfl (lv_room (Nat.le_of_ble_eq_true rfl)) dX7_formIs_2 ⟨Nat.zero_le _, Nat.zero_le _⟩) hS (cA_mono hS.1) (fun v1 u2 H locs h hP hS => ?_)
  refine lv_istore_n (lv' := [(3, .int v1), (0, .ref (ad 0)), (1, .int a1), (2, .int a2)]) hx hb dX7_formIs_5 rfl hl (by decide) rfl (fun ls hl => ?_)
  refine lv_aload_n hx hb dX7_formIs_6 rfl (lv_at hl 1 rfl) ?_
  refine lv_iload_n hx hb dX7_formIs_7 rfl (lv_at hl 0 rfl) ?_
  refine lv_if_ne (tgt := 15) hx hb dX7_formIs_8 (by decide) (fun c3 => ?_) (fun c3 => ?_)
  · replace h := h.1 c3
    refine lv_iload_n hx hb dX7_formIs_15 rfl (lv_at hl 3 rfl) ?_
    refine lv_iconst (v := 0) hx hb dX7_formIs_16 (by decide) ?_
    refine lv_bipush (v := 6) hx hb dX7_formIs_17 (by decide) ?_
    refine cc_i (va_runS (As := [.int a2, .int 0, .int 6]) (rest := [.ref (ad 0)]) ⟨hx, hb, hml, hown, hts⟩ (c_X7_isIn hwd H.size u2 a2 0 6 _ h) (va_cwS 3 hts gX7_formIs_X7_isIn rfl rfl rfl (by decide +kernel) ⟨Nat.le_of_ble_eq_true rfl, Nat.le_of_ble_eq_true rfl⟩) (pmS hC hP hS) rfl rfl hl.1 rfl (lv_room (Nat.le_of_ble_eq_true rfl)) dX7_formIs_19 ⟨Nat.zero_le _, Nat.zero_le _⟩) hS (cA_mono hS.1) (fun v4 u5 H locs h hP hS => ?_)
    refine lv_if_ne (tgt := 29) hx hb dX7_formIs_22 (by decide) (fun c6 => ?_) (fun c6 => ?_)
    · replace h := h.1 c6
      refine lv_iconst (v := 0) hx hb dX7_formIs_29 (by decide) ?_
      refine cc_i (va_runV (C := RX7) (As := [.int 0]) (rest := []) ⟨hx, hb, hml, hown, hts⟩ (c_X7_holds hwd H.size u5 0 _ h) (cwV 1 hts gX7_formIs_X7_holds rfl rfl rfl (by decide +kernel) ⟨Nat.le_of_ble_eq_true rfl, Nat.le_of_ble_eq_true rfl⟩) (pmV hC hP hS mg_0 rfl) rfl rfl hl.1 rfl (lv_room (Nat.le_of_ble_eq_true rfl)) dX7_formIs_30 ⟨Nat.zero_le _, Nat.zero_le _⟩) hS (cA_mono hS.1) (fun v7 u8 H locs h hP hS => ?_)
      refine lv_if_eq (tgt := 45) hx hb dX7_formIs_33 (by decide) (fun c9 => ?_) (fun c9 => ?_)
      · replace h := h.1 c9
        refine lv_iconst (v := 0) hx hb dX7_formIs_45 (by decide) ?_
        exact W.iret (v := 0) hx hb hr (fun t ht hW => ⟨⟨_, _, rfl, h, by show va_P _ _ _ t.heap; rw [ht]; exact hP⟩, hS.F ht⟩) hS.2.2 dX7_formIs_46
      · replace h := h.2 c9
        refine lv_aload_n hx hb dX7_formIs_36 rfl (lv_at hl 1 rfl) ?_
        refine lv_iload_n hx hb dX7_formIs_37 rfl (lv_at hl 2 rfl) ?_
        refine lv_iload_n hx hb dX7_formIs_38 rfl (lv_at hl 3 rfl) ?_
        refine cc_i (va_runV (C := RX7) (As := [.int a1, .int a2]) (rest := []) ⟨hx, hb, hml, hown, hts⟩ (c_X7_told hwd H.size u8 a1 a2 _ h) (cwV 2 hts gX7_formIs_X7_told rfl rfl rfl (by decide +kernel) ⟨Nat.le_of_ble_eq_true rfl, Nat.le_of_ble_eq_true rfl⟩) (pmV hC hP hS mg_0 rfl) rfl rfl hl.1 rfl (lv_room (Nat.le_of_ble_eq_true rfl)) dX7_formIs_39 ⟨Nat.zero_le _, Nat.zero_le _⟩) hS (cA_mono hS.1) (fun v10 u11 H locs h hP hS => ?_)
        refine lv_goto (tgt := 46) hx hb dX7_formIs_42 (by decide) ?_
        exact W.iret (v := v10) hx hb hr (fun t ht hW => ⟨⟨_, _, rfl, h, by show va_P _ _ _ t.heap; rw [ht]; exact hP⟩, hS.F ht⟩) hS.2.2 dX7_formIs_46
    · replace h := h.2 c6
      refine lv_iconst (v := 2) hx hb dX7_formIs_25 (by decide) ?_
      refine lv_goto (tgt := 30) hx hb dX7_formIs_26 (by decide) ?_
      refine cc_i (va_runV (C := RX7) (As := [.int 2]) (rest := []) ⟨hx, hb, hml, hown, hts⟩ (c_X7_holds hwd H.size u5 2 _ h) (cwV 1 hts gX7_formIs_X7_holds rfl rfl rfl (by decide +kernel) ⟨Nat.le_of_ble_eq_true rfl, Nat.le_of_ble_eq_true rfl⟩) (pmV hC hP hS mg_0 rfl) rfl rfl hl.1 rfl (lv_room (Nat.le_of_ble_eq_true rfl)) dX7_formIs_30 ⟨Nat.zero_le _, Nat.zero_le _⟩) hS (cA_mono hS.1) (fun v12 u13 H locs h hP hS => ?_)
      refine lv_if_eq (tgt := 45) hx hb dX7_formIs_33 (by decide) (fun c14 => ?_) (fun c14 => ?_)
      · replace h := h.1 c14
        refine lv_iconst (v := 0) hx hb dX7_formIs_45 (by decide) ?_
        exact W.iret (v := 0) hx hb hr (fun t ht hW => ⟨⟨_, _, rfl, h, by show va_P _ _ _ t.heap; rw [ht]; exact hP⟩, hS.F ht⟩) hS.2.2 dX7_formIs_46
      · replace h := h.2 c14
        refine lv_aload_n hx hb dX7_formIs_36 rfl (lv_at hl 1 rfl) ?_
        refine lv_iload_n hx hb dX7_formIs_37 rfl (lv_at hl 2 rfl) ?_
        refine lv_iload_n hx hb dX7_formIs_38 rfl (lv_at hl 3 rfl) ?_
        refine cc_i (va_runV (C := RX7) (As := [.int a1, .int a2]) (rest := []) ⟨hx, hb, hml, hown, hts⟩ (c_X7_told hwd H.size u13 a1 a2 _ h) (cwV 2 hts gX7_formIs_X7_told rfl rfl rfl (by decide +kernel) ⟨Nat.le_of_ble_eq_true rfl, Nat.le_of_ble_eq_true rfl⟩) (pmV hC hP hS mg_0 rfl) rfl rfl hl.1 rfl (lv_room (Nat.le_of_ble_eq_true rfl)) dX7_formIs_39 ⟨Nat.zero_le _, Nat.zero_le _⟩) hS (cA_mono hS.1) (fun v15 u16 H locs h hP hS => ?_)
        refine lv_goto (tgt := 46) hx hb dX7_formIs_42 (by decide) ?_
        exact W.iret (v := v15) hx hb hr (fun t ht hW => ⟨⟨_, _, rfl, h, by show va_P _ _ _ t.heap; rw [ht]; exact hP⟩, hS.F ht⟩) hS.2.2 dX7_formIs_46
  · replace h := h.2 c3
    refine lv_iconst (v := 1) hx hb dX7_formIs_11 (by decide) ?_
    refine lv_goto (tgt := 30) hx hb dX7_formIs_12 (by decide) ?_
    refine cc_i (va_runV (C := RX7) (As := [.int 1]) (rest := []) ⟨hx, hb, hml, hown, hts⟩ (c_X7_holds hwd H.size u2 1 _ h) (cwV 1 hts gX7_formIs_X7_holds rfl rfl rfl (by decide +kernel) ⟨Nat.le_of_ble_eq_true rfl, Nat.le_of_ble_eq_true rfl⟩) (pmV hC hP hS mg_0 rfl) rfl rfl hl.1 rfl (lv_room (Nat.le_of_ble_eq_true rfl)) dX7_formIs_30 ⟨Nat.zero_le _, Nat.zero_le _⟩) hS (cA_mono hS.1) (fun v17 u18 H locs h hP hS => ?_)
    refine lv_if_eq (tgt := 45) hx hb dX7_formIs_33 (by decide) (fun c19 => ?_) (fun c19 => ?_)
    · replace h := h.1 c19
      refine lv_iconst (v := 0) hx hb dX7_formIs_45 (by decide) ?_
      exact W.iret (v := 0) hx hb hr (fun t ht hW => ⟨⟨_, _, rfl, h, by show va_P _ _ _ t.heap; rw [ht]; exact hP⟩, hS.F ht⟩) hS.2.2 dX7_formIs_46
    · replace h := h.2 c19
      refine lv_aload_n hx hb dX7_formIs_36 rfl (lv_at hl 1 rfl) ?_
      refine lv_iload_n hx hb dX7_formIs_37 rfl (lv_at hl 2 rfl) ?_
      refine lv_iload_n hx hb dX7_formIs_38 rfl (lv_at hl 3 rfl) ?_
      refine cc_i (va_runV (C := RX7) (As := [.int a1, .int a2]) (rest := []) ⟨hx, hb, hml, hown, hts⟩ (c_X7_told hwd H.size u18 a1 a2 _ h) (cwV 2 hts gX7_formIs_X7_told rfl rfl rfl (by decide +kernel) ⟨Nat.le_of_ble_eq_true rfl, Nat.le_of_ble_eq_true rfl⟩) (pmV hC hP hS mg_0 rfl) rfl rfl hl.1 rfl (lv_room (Nat.le_of_ble_eq_true rfl)) dX7_formIs_39 ⟨Nat.zero_le _, Nat.zero_le _⟩) hS (cA_mono hS.1) (fun v20 u21 H locs h hP hS => ?_)
      refine lv_goto (tgt := 46) hx hb dX7_formIs_42 (by decide) ?_
      exact W.iret (v := v20) hx hb hr (fun t ht hW => ⟨⟨_, _, rfl, h, by show va_P _ _ _ t.heap; rw [ht]; exact hP⟩, hS.F ht⟩) hS.2.2 dX7_formIs_46
set_option maxRecDepth 100000 in
set_option maxHeartbeats 4000000 in
theorem c_X7_formIs {l : Launch} {D : va_G} {cI cG cZ cJ : ClassId} {ts : Nat × Nat} {ad : Nat → Nat} (hwd : WD mLs ad) (sz : Nat) (u : St) (a1 : Int32) (a2 : Int32) (Q : Int32 → St → Prop) (h : f_X7_formIs a1 a2 u Q) : Met l yX7_formIs wsX7_formIs ({ frames := 6, cells := 0, slots := 0, locals := 142 }) (va_Pc [.ref (ad 0), .int a1, .int a2] (PM D cI cG cZ cJ ts ad sz u)) (va_Qi Q (fun u9 t => va_P D vwCl (mW cI cZ ad u9) t.heap) (cA mLs ad sz)) 0 0 (cA mLs ad sz) := by
  refine Met.ofW (cc := cX7_formIs) (maxL := 4) (ret := (some .int)) (by decide) rfl ?_
  intro p e s m args below meth c s₁ B hml hv
  obtain ⟨rfl, hsz, hP, hC⟩ := hv
  subst hsz
  have X : FX RX7 wsX7_formIs cX7_formIs 4 (some .int) D cI cG cZ cJ ts mLs ad p s m _ meth c := ⟨B.exec, B.bytes, hml, findClass_of_methodNamed B.named, atoms_spec (ws := wsX7_formIs) B.pre, B.returns, B.notSynchronized, hwd, hC⟩
  have hl := lv_entry ([.ref (ad 0), .int a1, .int a2]) (n := 4) (Nat.le_of_ble_eq_true rfl)
  rw [lg_entry_eq]
  generalize (lg_sl ([.ref (ad 0), .int a1, .int a2]) ++ List.replicate (4 - (lg_sl ([.ref (ad 0), .int a1, .int a2])).length) Slot.unset).toArray = ls at hl ⊢
  exact w_X7_formIs X a1 a2 Q u _ _ _ h hP va_S.rf hl
set_option maxRecDepth 100000 in
set_option maxHeartbeats 4000000 in
theorem w_X7_wayTo {p : Program} {l : Launch} {e : Env} {s : State} {m : MethodId} {args : Array Value} {below : List Frame} {meth : Method} {c : Code} {D : va_G} {cI cG cZ cJ : ClassId} {ts : Nat × Nat}  {ad : Nat → Nat}  (X : FX RX7 wsX7_wayTo cX7_wayTo 3 (some .int) D cI cG cZ cJ ts mLs ad p s m args meth c) (a1 : Int32) (a2 : Int32) (Q : Int32 → St → Prop) (u : St) (H : Heap) (locs : List Loc) (ls : Array Slot) (h : f_X7_wayTo a1 a2 u Q) (hP : va_P D vwCl (mW cI cZ ad u) H) (hS : va_S (cA mLs ad s.heap.size) s.heap H locs) (hl : lv_has ls 3 [(0, .ref (ad 0)), (1, .int a1), (2, .int a2)]) : W p l e (headSpec wsX7_wayTo { frames := 4, cells := 0, slots := 0, locals := 97 }).room s m args below meth c H locs 0 0 (MQ below (va_Qi Q (fun u9 t => va_P D vwCl (mW cI cZ ad u9) t.heap) (cA mLs ad s.heap.size)) args s 0 0 (cA mLs ad s.heap.size)) (F0 m 0 ls []) := by
  obtain ⟨hx, hb, hml, hown, hts, hr, hlocks, hwd, hC⟩ := id X
  have hK := hC.1
  have lk0 := hts (.fieldLink RX7 17 "FormForgeModel" "code" "[I") (by decide +kernel)
  have lk1 := hts (.fieldLink RX7 13 "FormForgeModel" "degree" "[I") (by decide +kernel)
  have lk2 := hts (.fieldLink RX7 54 "FormForgeModel" "steps" "[I") (by decide +kernel)
  have n7 : ∀ w ∈ wsX70, w ∈ wsX7_wayTo := by decide +kernel
  unfold f_X7_wayTo at h
  refine lv_aload_n hx hb dX7_wayTo_0 rfl (lv_at hl 0 rfl) ?_
  refine lv_aload_n hx hb dX7_wayTo_1 rfl (lv_at hl 0 rfl) ?_
  refine va_get (C := RX7) (T := TX7) (N := 22) hx hb hts n7 hown hK hP 0 mg_0 rfl 3 (by decide) lk0 (fun _ h9 => h9) rfl dX7_wayTo_2 ?_
  refine lv_iload_n hx hb dX7_wayTo_5 rfl (lv_at hl 1 rfl) ?_
  refine va_iald hx hb hK hP 2 0 (mg_a ⟨by decide, by decide, by decide⟩) rfl h.1 dX7_wayTo_6 ?_
  refine lv_topi (fun v1 ev1 => ?_)
  replace h := h.2 v1 ev1
  refine lv_aload_n hx hb dX7_wayTo_7 rfl (lv_at hl 0 rfl) ?_
  refine va_get (C := RX7) (T := TX7) (N := 22) hx hb hts n7 hown hK hP 0 mg_0 rfl 2 (by decide) lk1 (fun _ h9 => h9) rfl dX7_wayTo_8 ?_
  refine lv_iload_n hx hb dX7_wayTo_11 rfl (lv_at hl 1 rfl) ?_
  refine va_iald hx hb hK hP 1 0 (mg_a ⟨by decide, by decide, by decide⟩) rfl h.1 dX7_wayTo_12 ?_
  refine lv_topi (fun v2 ev2 => ?_)
  replace h := h.2 v2 ev2
  refine cc_v (va_runV (C := RX7) (As := [.int v1, .int v2]) (rest := []) ⟨hx, hb, hml, hown, hts⟩ (c_X7_goesOn hwd H.size u v1 v2 _ h) (cwV 2 hts gX7_wayTo_X7_goesOn rfl rfl rfl (by decide +kernel) ⟨Nat.le_of_ble_eq_true rfl, Nat.le_of_ble_eq_true rfl⟩) (pmV hC hP hS mg_0 rfl) rfl rfl hl.1 rfl (lv_room (Nat.le_of_ble_eq_true rfl)) dX7_wayTo_13 ⟨Nat.zero_le _, Nat.zero_le _⟩) hS (cA_mono hS.1) (fun u3 H locs h hP hS => ?_)
  refine lv_aload_n hx hb dX7_wayTo_16 rfl (lv_at hl 0 rfl) ?_
  refine va_get (C := RX7) (T := TX7) (N := 22) hx hb hts n7 hown hK hP 0 mg_0 rfl 19 (by decide) lk2 (fun _ h9 => h9) rfl dX7_wayTo_17 ?_
  refine lv_aload_n hx hb dX7_wayTo_20 rfl (lv_at hl 0 rfl) ?_
  refine va_get (C := RX7) (T := TX7) (N := 22) hx hb hts n7 hown hK hP 0 mg_0 rfl 3 (by decide) lk0 (fun _ h9 => h9) rfl dX7_wayTo_21 ?_
  refine lv_iload_n hx hb dX7_wayTo_24 rfl (lv_at hl 2 rfl) ?_
  refine va_iald hx hb hK hP 2 0 (mg_a ⟨by decide, by decide, by decide⟩) rfl h.1 dX7_wayTo_25 ?_
  refine lv_topi (fun v4 ev4 => ?_)
  replace h := h.2 v4 ev4
  refine va_iald hx hb hK hP 14 0 (mg_a ⟨by decide, by decide, by decide⟩) rfl h.1 dX7_wayTo_26 ?_
  refine lv_topi (fun v5 ev5 => ?_)
  replace h := h.2 v5 ev5
  exact W.iret (v := v5) hx hb hr (fun t ht hW => ⟨⟨_, _, rfl, h, by show va_P _ _ _ t.heap; rw [ht]; exact hP⟩, hS.F ht⟩) hS.2.2 dX7_wayTo_27
set_option maxRecDepth 100000 in
set_option maxHeartbeats 4000000 in
theorem c_X7_wayTo {l : Launch} {D : va_G} {cI cG cZ cJ : ClassId} {ts : Nat × Nat} {ad : Nat → Nat} (hwd : WD mLs ad) (sz : Nat) (u : St) (a1 : Int32) (a2 : Int32) (Q : Int32 → St → Prop) (h : f_X7_wayTo a1 a2 u Q) : Met l yX7_wayTo wsX7_wayTo ({ frames := 4, cells := 0, slots := 0, locals := 97 }) (va_Pc [.ref (ad 0), .int a1, .int a2] (PM D cI cG cZ cJ ts ad sz u)) (va_Qi Q (fun u9 t => va_P D vwCl (mW cI cZ ad u9) t.heap) (cA mLs ad sz)) 0 0 (cA mLs ad sz) := by
  refine Met.ofW (cc := cX7_wayTo) (maxL := 3) (ret := (some .int)) (by decide) rfl ?_
  intro p e s m args below meth c s₁ B hml hv
  obtain ⟨rfl, hsz, hP, hC⟩ := hv
  subst hsz
  have X : FX RX7 wsX7_wayTo cX7_wayTo 3 (some .int) D cI cG cZ cJ ts mLs ad p s m _ meth c := ⟨B.exec, B.bytes, hml, findClass_of_methodNamed B.named, atoms_spec (ws := wsX7_wayTo) B.pre, B.returns, B.notSynchronized, hwd, hC⟩
  have hl := lv_entry ([.ref (ad 0), .int a1, .int a2]) (n := 3) (Nat.le_of_ble_eq_true rfl)
  rw [lg_entry_eq]
  generalize (lg_sl ([.ref (ad 0), .int a1, .int a2]) ++ List.replicate (3 - (lg_sl ([.ref (ad 0), .int a1, .int a2])).length) Slot.unset).toArray = ls at hl ⊢
  exact w_X7_wayTo X a1 a2 Q u _ _ _ h hP va_S.rf hl
set_option maxRecDepth 100000 in
set_option maxHeartbeats 4000000 in
theorem w_X7_way {p : Program} {l : Launch} {e : Env} {s : State} {m : MethodId} {args : Array Value} {below : List Frame} {meth : Method} {c : Code} {D : va_G} {cI cG cZ cJ : ClassId} {ts : Nat × Nat}  {ad : Nat → Nat}  (X : FX RX7 wsX7_way cX7_way 4 (some .int) D cI cG cZ cJ ts mLs ad p s m args meth c) (a1 : Int32) (a2 : Int32) (Q : Int32 → St → Prop) (u : St) (H : Heap) (locs : List Loc) (ls : Array Slot) (h : f_X7_way a1 a2 u Q) (hP : va_P D vwCl (mW cI cZ ad u) H) (hS : va_S (cA mLs ad s.heap.size) s.heap H locs) (hl : lv_has ls 4 [(0, .ref (ad 0)), (1, .int a1), (2, .int a2)]) : W p l e (headSpec wsX7_way { frames := 5, cells := 0, slots := 0, locals := 119 }).room s m args below meth c H locs 0 0 (MQ below (va_Qi Q (fun u9 t => va_P D vwCl (mW cI cZ ad u9) t.heap) (cA mLs ad s.heap.size)) args s 0 0 (cA mLs ad s.heap.size)) (F0 m 0 ls []) := by
  obtain ⟨hx, hb, hml, hown, hts, hr, hlocks, hwd, hC⟩ := id X
  have hK := hC.1
  have lk0 := hts (.fieldLink RX7 13 "FormForgeModel" "degree" "[I") (by decide +kernel)
  have n7 : ∀ w ∈ wsX70, w ∈ wsX7_way := by decide +kernel
  unfold f_X7_way at h
  refine lv_aload_n hx hb dX7_way_0 rfl (lv_at hl 0 rfl) ?_
  refine lv_iload_n hx hb dX7_way_1 rfl (lv_at hl 1 rfl) ?_
  refine cc_i (va_runV (C := RX7) (As := [.int a1]) (rest := []) ⟨hx, hb, hml, hown, hts⟩ (c_X7_isForm hwd H.size u a1 _ h) (cwV 1 hts gX7_way_X7_isForm rfl rfl rfl (by decide +kernel) ⟨Nat.le_of_ble_eq_true rfl, Nat.le_of_ble_eq_true rfl⟩) (pmV hC hP hS mg_0 rfl) rfl rfl hl.1 rfl (lv_room (Nat.le_of_ble_eq_true rfl)) dX7_way_2 ⟨Nat.zero_le _, Nat.zero_le _⟩) hS (cA_mono hS.1) (fun v1 u2 H locs h hP hS => ?_)
  refine lv_if_eq (tgt := 20) hx hb dX7_way_5 (by decide) (fun c3 => ?_) (fun c3 => ?_)
  · replace h := h.1 c3
    refine lv_iconst (v := 0) hx hb dX7_way_20 (by decide) ?_
    refine lv_istore_n (lv' := [(3, .int 0), (0, .ref (ad 0)), (1, .int a1), (2, .int a2)]) hx hb dX7_way_21 rfl hl (by decide) rfl (fun ls hl => ?_)
    refine lv_aload_n hx hb dX7_way_22 rfl (lv_at hl 1 rfl) ?_
    refine lv_iload_n hx hb dX7_way_23 rfl (lv_at hl 0 rfl) ?_
    refine lv_if_ne (tgt := 31) hx hb dX7_way_24 (by decide) (fun c4 => absurd c4 (by decide)) (fun _ => ?_)
    refine lv_iconst (v := 1) hx hb dX7_way_27 (by decide) ?_
    refine lv_goto (tgt := 51) hx hb dX7_way_28 (by decide) ?_
    refine cc_i (va_runV (C := RX7) (As := [.int 1]) (rest := []) ⟨hx, hb, hml, hown, hts⟩ (c_X7_holds hwd H.size u2 1 _ h) (cwV 1 hts gX7_way_X7_holds rfl rfl rfl (by decide +kernel) ⟨Nat.le_of_ble_eq_true rfl, Nat.le_of_ble_eq_true rfl⟩) (pmV hC hP hS mg_0 rfl) rfl rfl hl.1 rfl (lv_room (Nat.le_of_ble_eq_true rfl)) dX7_way_51 ⟨Nat.zero_le _, Nat.zero_le _⟩) hS (cA_mono hS.1) (fun v5 u6 H locs h hP hS => ?_)
    refine lv_if_eq (tgt := 66) hx hb dX7_way_54 (by decide) (fun c7 => ?_) (fun c7 => ?_)
    · replace h := h.1 c7
      refine lv_iconst (v := 0) hx hb dX7_way_66 (by decide) ?_
      exact W.iret (v := 0) hx hb hr (fun t ht hW => ⟨⟨_, _, rfl, h, by show va_P _ _ _ t.heap; rw [ht]; exact hP⟩, hS.F ht⟩) hS.2.2 dX7_way_67
    · replace h := h.2 c7
      refine lv_aload_n hx hb dX7_way_57 rfl (lv_at hl 1 rfl) ?_
      refine lv_iload_n hx hb dX7_way_58 rfl (lv_at hl 2 rfl) ?_
      refine lv_iload_n hx hb dX7_way_59 rfl (lv_at hl 3 rfl) ?_
      refine cc_i (va_runV (C := RX7) (As := [.int a1, .int a2]) (rest := []) ⟨hx, hb, hml, hown, hts⟩ (c_X7_wayTo hwd H.size u6 a1 a2 _ h) (cwV 2 hts gX7_way_X7_wayTo rfl rfl rfl (by decide +kernel) ⟨Nat.le_of_ble_eq_true rfl, Nat.le_of_ble_eq_true rfl⟩) (pmV hC hP hS mg_0 rfl) rfl rfl hl.1 rfl (lv_room (Nat.le_of_ble_eq_true rfl)) dX7_way_60 ⟨Nat.zero_le _, Nat.zero_le _⟩) hS (cA_mono hS.1) (fun v8 u9 H locs h hP hS => ?_)
      refine lv_goto (tgt := 67) hx hb dX7_way_63 (by decide) ?_
      exact W.iret (v := v8) hx hb hr (fun t ht hW => ⟨⟨_, _, rfl, h, by show va_P _ _ _ t.heap; rw [ht]; exact hP⟩, hS.F ht⟩) hS.2.2 dX7_way_67
  · replace h := h.2 c3
    refine lv_aload_n hx hb dX7_way_8 rfl (lv_at hl 0 rfl) ?_
    refine lv_iload_n hx hb dX7_way_9 rfl (lv_at hl 2 rfl) ?_
    refine cc_i (va_runV (C := RX7) (As := [.int a2]) (rest := []) ⟨hx, hb, hml, hown, hts⟩ (c_X7_isForm hwd H.size u2 a2 _ h) (cwV 1 hts gX7_way_X7_isForm rfl rfl rfl (by decide +kernel) ⟨Nat.le_of_ble_eq_true rfl, Nat.le_of_ble_eq_true rfl⟩) (pmV hC hP hS mg_0 rfl) rfl rfl hl.1 rfl (lv_room (Nat.le_of_ble_eq_true rfl)) dX7_way_10 ⟨Nat.zero_le _, Nat.zero_le _⟩) hS (cA_mono hS.1) (fun v10 u11 H locs h hP hS => ?_)
    refine lv_if_eq (tgt := 20) hx hb dX7_way_13 (by decide) (fun c12 => ?_) (fun c12 => ?_)
    · replace h := h.1 c12
      refine lv_iconst (v := 0) hx hb dX7_way_20 (by decide) ?_
      refine lv_istore_n (lv' := [(3, .int 0), (0, .ref (ad 0)), (1, .int a1), (2, .int a2)]) hx hb dX7_way_21 rfl hl (by decide) rfl (fun ls hl => ?_)
      refine lv_aload_n hx hb dX7_way_22 rfl (lv_at hl 1 rfl) ?_
      refine lv_iload_n hx hb dX7_way_23 rfl (lv_at hl 0 rfl) ?_
      refine lv_if_ne (tgt := 31) hx hb dX7_way_24 (by decide) (fun c13 => absurd c13 (by decide)) (fun _ => ?_)
      refine lv_iconst (v := 1) hx hb dX7_way_27 (by decide) ?_
      refine lv_goto (tgt := 51) hx hb dX7_way_28 (by decide) ?_
      refine cc_i (va_runV (C := RX7) (As := [.int 1]) (rest := []) ⟨hx, hb, hml, hown, hts⟩ (c_X7_holds hwd H.size u11 1 _ h) (cwV 1 hts gX7_way_X7_holds rfl rfl rfl (by decide +kernel) ⟨Nat.le_of_ble_eq_true rfl, Nat.le_of_ble_eq_true rfl⟩) (pmV hC hP hS mg_0 rfl) rfl rfl hl.1 rfl (lv_room (Nat.le_of_ble_eq_true rfl)) dX7_way_51 ⟨Nat.zero_le _, Nat.zero_le _⟩) hS (cA_mono hS.1) (fun v14 u15 H locs h hP hS => ?_)
      refine lv_if_eq (tgt := 66) hx hb dX7_way_54 (by decide) (fun c16 => ?_) (fun c16 => ?_)
      · replace h := h.1 c16
        refine lv_iconst (v := 0) hx hb dX7_way_66 (by decide) ?_
        exact W.iret (v := 0) hx hb hr (fun t ht hW => ⟨⟨_, _, rfl, h, by show va_P _ _ _ t.heap; rw [ht]; exact hP⟩, hS.F ht⟩) hS.2.2 dX7_way_67
      · replace h := h.2 c16
        refine lv_aload_n hx hb dX7_way_57 rfl (lv_at hl 1 rfl) ?_
        refine lv_iload_n hx hb dX7_way_58 rfl (lv_at hl 2 rfl) ?_
        refine lv_iload_n hx hb dX7_way_59 rfl (lv_at hl 3 rfl) ?_
        refine cc_i (va_runV (C := RX7) (As := [.int a1, .int a2]) (rest := []) ⟨hx, hb, hml, hown, hts⟩ (c_X7_wayTo hwd H.size u15 a1 a2 _ h) (cwV 2 hts gX7_way_X7_wayTo rfl rfl rfl (by decide +kernel) ⟨Nat.le_of_ble_eq_true rfl, Nat.le_of_ble_eq_true rfl⟩) (pmV hC hP hS mg_0 rfl) rfl rfl hl.1 rfl (lv_room (Nat.le_of_ble_eq_true rfl)) dX7_way_60 ⟨Nat.zero_le _, Nat.zero_le _⟩) hS (cA_mono hS.1) (fun v17 u18 H locs h hP hS => ?_)
        refine lv_goto (tgt := 67) hx hb dX7_way_63 (by decide) ?_
        exact W.iret (v := v17) hx hb hr (fun t ht hW => ⟨⟨_, _, rfl, h, by show va_P _ _ _ t.heap; rw [ht]; exact hP⟩, hS.F ht⟩) hS.2.2 dX7_way_67
    · replace h := h.2 c12
      refine lv_iconst (v := 1) hx hb dX7_way_16 (by decide) ?_
      refine lv_goto (tgt := 21) hx hb dX7_way_17 (by decide) ?_
      refine lv_istore_n (lv' := [(3, .int 1), (0, .ref (ad 0)), (1, .int a1), (2, .int a2)]) hx hb dX7_way_21 rfl hl (by decide) rfl (fun ls hl => ?_)
      refine lv_aload_n hx hb dX7_way_22 rfl (lv_at hl 1 rfl) ?_
      refine lv_iload_n hx hb dX7_way_23 rfl (lv_at hl 0 rfl) ?_
      refine lv_if_ne (tgt := 31) hx hb dX7_way_24 (by decide) (fun _ => ?_) (fun c19 => absurd c19 (by decide))
      refine lv_aload_n hx hb dX7_way_31 rfl (lv_at hl 1 rfl) ?_
      refine va_get (C := RX7) (T := TX7) (N := 22) hx hb hts n7 hown hK hP 0 mg_0 rfl 2 (by decide) lk0 (fun _ h9 => h9) rfl dX7_way_32 ?_
      refine lv_iload_n hx hb dX7_way_35 rfl (lv_at hl 2 rfl) ?_
      refine va_iald hx hb hK hP 1 0 (mg_a ⟨by decide, by decide, by decide⟩) rfl h.1 dX7_way_36 ?_
      refine lv_topi (fun v20 ev20 => ?_)
      replace h := h.2 v20 ev20
      refine lv_aload_n hx hb dX7_way_37 rfl (lv_at hl 1 rfl) ?_
      refine va_get (C := RX7) (T := TX7) (N := 22) hx hb hts n7 hown hK hP 0 mg_0 rfl 2 (by decide) lk0 (fun _ h9 => h9) rfl dX7_way_38 ?_
      refine lv_iload_n hx hb dX7_way_41 rfl (lv_at hl 3 rfl) ?_
      refine va_iald hx hb hK hP 1 0 (mg_a ⟨by decide, by decide, by decide⟩) rfl h.1 dX7_way_42 ?_
      refine lv_topi (fun v21 ev21 => ?_)
      replace h := h.2 v21 ev21
      refine lv_icmp_eq (tgt := 50) hx hb dX7_way_43 (by decide) (fun c22 => ?_) (fun c22 => ?_)
      · replace h := h.1 c22
        refine lv_iconst (v := 0) hx hb dX7_way_50 (by decide) ?_
        refine cc_i (va_runV (C := RX7) (As := [.int 0]) (rest := []) ⟨hx, hb, hml, hown, hts⟩ (c_X7_holds hwd H.size u11 0 _ h) (cwV 1 hts gX7_way_X7_holds rfl rfl rfl (by decide +kernel) ⟨Nat.le_of_ble_eq_true rfl, Nat.le_of_ble_eq_true rfl⟩) (pmV hC hP hS mg_0 rfl) rfl rfl hl.1 rfl (lv_room (Nat.le_of_ble_eq_true rfl)) dX7_way_51 ⟨Nat.zero_le _, Nat.zero_le _⟩) hS (cA_mono hS.1) (fun v23 u24 H locs h hP hS => ?_)
        refine lv_if_eq (tgt := 66) hx hb dX7_way_54 (by decide) (fun c25 => ?_) (fun c25 => ?_)
        · replace h := h.1 c25
          refine lv_iconst (v := 0) hx hb dX7_way_66 (by decide) ?_
          exact W.iret (v := 0) hx hb hr (fun t ht hW => ⟨⟨_, _, rfl, h, by show va_P _ _ _ t.heap; rw [ht]; exact hP⟩, hS.F ht⟩) hS.2.2 dX7_way_67
        · replace h := h.2 c25
          refine lv_aload_n hx hb dX7_way_57 rfl (lv_at hl 1 rfl) ?_
          refine lv_iload_n hx hb dX7_way_58 rfl (lv_at hl 2 rfl) ?_
          refine lv_iload_n hx hb dX7_way_59 rfl (lv_at hl 3 rfl) ?_
          refine cc_i (va_runV (C := RX7) (As := [.int a1, .int a2]) (rest := []) ⟨hx, hb, hml, hown, hts⟩ (c_X7_wayTo hwd H.size u24 a1 a2 _ h) (cwV 2 hts gX7_way_X7_wayTo rfl rfl rfl (by decide +kernel) ⟨Nat.le_of_ble_eq_true rfl, Nat.le_of_ble_eq_true rfl⟩) (pmV hC hP hS mg_0 rfl) rfl rfl hl.1 rfl (lv_room (Nat.le_of_ble_eq_true rfl)) dX7_way_60 ⟨Nat.zero_le _, Nat.zero_le _⟩) hS (cA_mono hS.1) (fun v26 u27 H locs h hP hS => ?_)
          refine lv_goto (tgt := 67) hx hb dX7_way_63 (by decide) ?_
          exact W.iret (v := v26) hx hb hr (fun t ht hW => ⟨⟨_, _, rfl, h, by show va_P _ _ _ t.heap; rw [ht]; exact hP⟩, hS.F ht⟩) hS.2.2 dX7_way_67
      · replace h := h.2 c22
        refine lv_iconst (v := 2) hx hb dX7_way_46 (by decide) ?_
        refine lv_goto (tgt := 51) hx hb dX7_way_47 (by decide) ?_
        refine cc_i (va_runV (C := RX7) (As := [.int 2]) (rest := []) ⟨hx, hb, hml, hown, hts⟩ (c_X7_holds hwd H.size u11 2 _ h) (cwV 1 hts gX7_way_X7_holds rfl rfl rfl (by decide +kernel) ⟨Nat.le_of_ble_eq_true rfl, Nat.le_of_ble_eq_true rfl⟩) (pmV hC hP hS mg_0 rfl) rfl rfl hl.1 rfl (lv_room (Nat.le_of_ble_eq_true rfl)) dX7_way_51 ⟨Nat.zero_le _, Nat.zero_le _⟩) hS (cA_mono hS.1) (fun v28 u29 H locs h hP hS => ?_)
        refine lv_if_eq (tgt := 66) hx hb dX7_way_54 (by decide) (fun c30 => ?_) (fun c30 => ?_)
        · replace h := h.1 c30
          refine lv_iconst (v := 0) hx hb dX7_way_66 (by decide) ?_
          exact W.iret (v := 0) hx hb hr (fun t ht hW => ⟨⟨_, _, rfl, h, by show va_P _ _ _ t.heap; rw [ht]; exact hP⟩, hS.F ht⟩) hS.2.2 dX7_way_67
        · replace h := h.2 c30
          refine lv_aload_n hx hb dX7_way_57 rfl (lv_at hl 1 rfl) ?_
          refine lv_iload_n hx hb dX7_way_58 rfl (lv_at hl 2 rfl) ?_
          refine lv_iload_n hx hb dX7_way_59 rfl (lv_at hl 3 rfl) ?_
          refine cc_i (va_runV (C := RX7) (As := [.int a1, .int a2]) (rest := []) ⟨hx, hb, hml, hown, hts⟩ (c_X7_wayTo hwd H.size u29 a1 a2 _ h) (cwV 2 hts gX7_way_X7_wayTo rfl rfl rfl (by decide +kernel) ⟨Nat.le_of_ble_eq_true rfl, Nat.le_of_ble_eq_true rfl⟩) (pmV hC hP hS mg_0 rfl) rfl rfl hl.1 rfl (lv_room (Nat.le_of_ble_eq_true rfl)) dX7_way_60 ⟨Nat.zero_le _, Nat.zero_le _⟩) hS (cA_mono hS.1) (fun v31 u32 H locs h hP hS => ?_)
          refine lv_goto (tgt := 67) hx hb dX7_way_63 (by decide) ?_
          exact W.iret (v := v31) hx hb hr (fun t ht hW => ⟨⟨_, _, rfl, h, by show va_P _ _ _ t.heap; rw [ht]; exact hP⟩, hS.F ht⟩) hS.2.2 dX7_way_67
set_option maxRecDepth 100000 in
set_option maxHeartbeats 4000000 in
theorem c_X7_way {l : Launch} {D : va_G} {cI cG cZ cJ : ClassId} {ts : Nat × Nat} {ad : Nat → Nat} (hwd : WD mLs ad) (sz : Nat) (u : St) (a1 : Int32) (a2 : Int32) (Q : Int32 → St → Prop) (h : f_X7_way a1 a2 u Q) : Met l yX7_way wsX7_way ({ frames := 5, cells := 0, slots := 0, locals := 119 }) (va_Pc [.ref (ad 0), .int a1, .int a2] (PM D cI cG cZ cJ ts ad sz u)) (va_Qi Q (fun u9 t => va_P D vwCl (mW cI cZ ad u9) t.heap) (cA mLs ad sz)) 0 0 (cA mLs ad sz) := by
  refine Met.ofW (cc := cX7_way) (maxL := 4) (ret := (some .int)) (by decide) rfl ?_
  intro p e s m args below meth c s₁ B hml hv
  obtain ⟨rfl, hsz, hP, hC⟩ := hv
  subst hsz
  have X : FX RX7 wsX7_way cX7_way 4 (some .int) D cI cG cZ cJ ts mLs ad p s m _ meth c := ⟨B.exec, B.bytes, hml, findClass_of_methodNamed B.named, atoms_spec (ws := wsX7_way) B.pre, B.returns, B.notSynchronized, hwd, hC⟩
  have hl := lv_entry ([.ref (ad 0), .int a1, .int a2]) (n := 4) (Nat.le_of_ble_eq_true rfl)
  rw [lg_entry_eq]
  generalize (lg_sl ([.ref (ad 0), .int a1, .int a2]) ++ List.replicate (4 - (lg_sl ([.ref (ad 0), .int a1, .int a2])).length) Slot.unset).toArray = ls at hl ⊢
  exact w_X7_way X a1 a2 Q u _ _ _ h hP va_S.rf hl
set_option maxRecDepth 100000 in
set_option maxHeartbeats 4000000 in
theorem w_X7_stepAt_L28 {p : Program} {l : Launch} {e : Env} {s : State} {m : MethodId} {args : Array Value} {below : List Frame} {meth : Method} {c : Code} {D : va_G} {cI cG cZ cJ : ClassId} {ts : Nat × Nat}  {ad : Nat → Nat}  (X : FX RX7 wsX7_stepAt cX7_stepAt 7 (some .int) D cI cG cZ cJ ts mLs ad p s m args meth c) (a3 : Int32) (Q : Int32 → St → Prop)
    (K0 : Int32 → St → Prop) (hk0 : ∀ (b5 : Int32) (u : St) (H : Heap) (locs : List Loc) (ls : Array Slot), K0 b5 u → va_P D vwCl (mW cI cZ ad u) H → va_S (cA mLs ad s.heap.size) s.heap H locs → lv_has ls 7 [(0, .ref (ad 0)), (5, .int b5)] → W p l e (headSpec wsX7_stepAt { frames := 5, cells := 0, slots := 0, locals := 119 }).room s m args below meth c H locs 0 0 (MQ below (va_Qi Q (fun u9 t => va_P D vwCl (mW cI cZ ad u9) t.heap) (cA mLs ad s.heap.size)) args s 0 0 (cA mLs ad s.heap.size)) (F0 m 51 ls []))
    : ∀ (n : Nat) (a5 : Int32) (a6 : Int32) (u : St) (H : Heap) (locs : List Loc) (ls : Array Slot), f_X7_stepAt_L28 a3 Q K0 n a5 a6 u → va_P D vwCl (mW cI cZ ad u) H → va_S (cA mLs ad s.heap.size) s.heap H locs → lv_has ls 7 [(0, .ref (ad 0)), (3, .int a3), (5, .int a5), (6, .int a6)] → W p l e (headSpec wsX7_stepAt { frames := 5, cells := 0, slots := 0, locals := 119 }).room s m args below meth c H locs 0 0 (MQ below (va_Qi Q (fun u9 t => va_P D vwCl (mW cI cZ ad u9) t.heap) (cA mLs ad s.heap.size)) args s 0 0 (cA mLs ad s.heap.size)) (F0 m 28 ls []) := by
  obtain ⟨hx, hb, hml, hown, hts, hr, hlocks, hwd, hC⟩ := id X
  have hK := hC.1
  have lk0 := hts (.fieldLink RX7 17 "FormForgeModel" "code" "[I") (by decide +kernel)
  have lk1 := hts (.fieldLink RX7 51 "FormForgeModel" "from" "[I") (by decide +kernel)
  have lk2 := hts (.fieldLink RX7 48 "FormForgeModel" "by" "[I") (by decide +kernel)
  have n7 : ∀ w ∈ wsX70, w ∈ wsX7_stepAt := by decide +kernel
  intro n
  induction n with
  | zero =>
    intro a5 a6 u H locs ls h; exact h.elim
  | succ n ih =>
    intro a5 a6 u H locs ls h hP hS hl
    replace h : f_X7_stepAt_L28_s a3 Q K0 (f_X7_stepAt_L28 a3 Q K0 n) a5 a6 u := h
    unfold f_X7_stepAt_L28_s at h
    refine lv_iload hx hb dX7_stepAt_28 (lv_at hl 3 rfl) ?_
    refine lv_iload_n hx hb dX7_stepAt_30 rfl (lv_at hl 1 rfl) ?_
    refine lv_iconst (v := 1) hx hb dX7_stepAt_31 (by decide) ?_
    refine lv_iadd hx hb dX7_stepAt_32 ?_
    refine lv_icmp_le (tgt := 51) hx hb dX7_stepAt_33 (by decide) (fun c5 => ?_) (fun c5 => ?_)
    · replace h := h.1 c5
      exact hk0 a5 _ _ _ _ h hP hS (lv_sub hl [0, 2] rfl)
    · replace h := h.2 c5
      refine lv_aload_n hx hb dX7_stepAt_36 rfl (lv_at hl 0 rfl) ?_
      refine va_get (C := RX7) (T := TX7) (N := 22) hx hb hts n7 hown hK hP 0 mg_0 rfl 18 (by decide) lk1 (fun _ h9 => h9) rfl dX7_stepAt_37 ?_
      refine lv_iload hx hb dX7_stepAt_40 (lv_at hl 2 rfl) ?_
      refine va_iald hx hb hK hP 13 0 (mg_a ⟨by decide, by decide, by decide⟩) rfl h.1 dX7_stepAt_42 ?_
      refine lv_topi (fun v6 ev6 => ?_)
      replace h := h.2 v6 ev6
      refine lv_istore (lv' := [(5, .int v6), (0, .ref (ad 0)), (3, .int a3), (6, .int a6)]) hx hb dX7_stepAt_43 hl (by decide) rfl (fun ls hl => ?_)
      obtain ⟨v7, ev7⟩ : ∃ y : Int32, y = a6 + (-1) := ⟨_, rfl⟩
      refine lv_iinc (v := v7) (lv' := [(6, .int v7), (5, .int v6), (0, .ref (ad 0)), (3, .int a3)]) hx hb dX7_stepAt_45 hl (k := 3) rfl (by rw [ev7]; rfl) (by decide) rfl (fun ls hl => ?_)
      replace h := h v7 ev7
      refine lv_goto (tgt := 28) hx hb dX7_stepAt_48 (by decide) ?_
      exact ih v6 v7 _ _ _ _ h hP hS (lv_sub hl [2, 3, 1, 0] rfl)
set_option maxRecDepth 100000 in
set_option maxHeartbeats 4000000 in
theorem w_X7_stepAt {p : Program} {l : Launch} {e : Env} {s : State} {m : MethodId} {args : Array Value} {below : List Frame} {meth : Method} {c : Code} {D : va_G} {cI cG cZ cJ : ClassId} {ts : Nat × Nat}  {ad : Nat → Nat}  (X : FX RX7 wsX7_stepAt cX7_stepAt 7 (some .int) D cI cG cZ cJ ts mLs ad p s m args meth c) (a1 : Int32) (a2 : Int32) (a3 : Int32) (Q : Int32 → St → Prop) (u : St) (H : Heap) (locs : List Loc) (ls : Array Slot) (h : f_X7_stepAt a1 a2 a3 u Q) (hP : va_P D vwCl (mW cI cZ ad u) H) (hS : va_S (cA mLs ad s.heap.size) s.heap H locs) (hl : lv_has ls 7 [(0, .ref (ad 0)), (1, .int a1), (2, .int a2), (3, .int a3)]) : W p l e (headSpec wsX7_stepAt { frames := 5, cells := 0, slots := 0, locals := 119 }).room s m args below meth c H locs 0 0 (MQ below (va_Qi Q (fun u9 t => va_P D vwCl (mW cI cZ ad u9) t.heap) (cA mLs ad s.heap.size)) args s 0 0 (cA mLs ad s.heap.size)) (F0 m 0 ls []) := by
  obtain ⟨hx, hb, hml, hown, hts, hr, hlocks, hwd, hC⟩ := id X
  have hK := hC.1
  have lk0 := hts (.fieldLink RX7 17 "FormForgeModel" "code" "[I") (by decide +kernel)
  have lk1 := hts (.fieldLink RX7 51 "FormForgeModel" "from" "[I") (by decide +kernel)
  have lk2 := hts (.fieldLink RX7 48 "FormForgeModel" "by" "[I") (by decide +kernel)
  have n7 : ∀ w ∈ wsX70, w ∈ wsX7_stepAt := by decide +kernel
  unfold f_X7_stepAt at h
  refine lv_aload_n hx hb dX7_stepAt_0 rfl (lv_at hl 0 rfl) ?_
  refine lv_iload_n hx hb dX7_stepAt_1 rfl (lv_at hl 1 rfl) ?_
  refine lv_iload_n hx hb dX7_stepAt_2 rfl (lv_at hl 2 rfl) ?_
  refine cc_i (va_runV (C := RX7) (As := [.int a1, .int a2]) (rest := []) ⟨hx, hb, hml, hown, hts⟩ (c_X7_wayTo hwd H.size u a1 a2 _ h) (cwV 2 hts gX7_stepAt_X7_wayTo rfl rfl rfl (by decide +kernel) ⟨Nat.le_of_ble_eq_true rfl, Nat.le_of_ble_eq_true rfl⟩) (pmV hC hP hS mg_0 rfl) rfl rfl hl.1 rfl (lv_room (Nat.le_of_ble_eq_true rfl)) dX7_stepAt_3 ⟨Nat.zero_le _, Nat.zero_le _⟩) hS (cA_mono hS.1) (fun v1 u2 H locs h hP hS => ?_)
  refine lv_istore (lv' := [(4, .int v1), (0, .ref (ad 0)), (1, .int a1), (2, .int a2), (3, .int a3)]) hx hb dX7_stepAt_6 hl (by decide) rfl (fun ls hl => ?_)
  refine lv_iload_n hx hb dX7_stepAt_8 rfl (lv_at hl 4 rfl) ?_
  refine lv_iload hx hb dX7_stepAt_9 (lv_at hl 0 rfl) ?_
  refine lv_icmp_lt (tgt := 16) hx hb dX7_stepAt_11 (by decide) (fun c3 => ?_) (fun c3 => ?_)
  · replace h := h.1 c3
    refine lv_aload_n hx hb dX7_stepAt_16 rfl (lv_at hl 1 rfl) ?_
    refine va_get (C := RX7) (T := TX7) (N := 22) hx hb hts n7 hown hK hP 0 mg_0 rfl 3 (by decide) lk0 (fun _ h9 => h9) rfl dX7_stepAt_17 ?_
    refine lv_iload_n hx hb dX7_stepAt_20 rfl (lv_at hl 3 rfl) ?_
    refine va_iald hx hb hK hP 2 0 (mg_a ⟨by decide, by decide, by decide⟩) rfl h.1 dX7_stepAt_21 ?_
    refine lv_topi (fun v4 ev4 => ?_)
    replace h := h.2 v4 ev4
    refine lv_istore (lv' := [(5, .int v4), (4, .int v1), (0, .ref (ad 0)), (1, .int a1), (2, .int a2), (3, .int a3)]) hx hb dX7_stepAt_22 hl (by decide) rfl (fun ls hl => ?_)
    refine lv_iload hx hb dX7_stepAt_24 (lv_at hl 1 rfl) ?_
    refine lv_istore (lv' := [(6, .int v1), (5, .int v4), (4, .int v1), (0, .ref (ad 0)), (1, .int a1), (2, .int a2), (3, .int a3)]) hx hb dX7_stepAt_26 hl (by decide) rfl (fun ls hl => ?_)
    obtain ⟨n8, h⟩ := h
    refine w_X7_stepAt_L28 X a3 _ _ (fun v9 u10 H locs ls h hP hS hl => ?_) n8 v4 v1 _ _ _ _ h hP hS (lv_sub hl [3, 6, 1, 0] rfl)
    refine lv_aload_n hx hb dX7_stepAt_51 rfl (lv_at hl 0 rfl) ?_
    refine va_get (C := RX7) (T := TX7) (N := 22) hx hb hts n7 hown hK hP 0 mg_0 rfl 17 (by decide) lk2 (fun _ h9 => h9) rfl dX7_stepAt_52 ?_
    refine lv_iload hx hb dX7_stepAt_55 (lv_at hl 1 rfl) ?_
    refine va_iald hx hb hK hP 12 0 (mg_a ⟨by decide, by decide, by decide⟩) rfl h.1 dX7_stepAt_57 ?_
    refine lv_topi (fun v11 ev11 => ?_)
    replace h := h.2 v11 ev11
    exact W.iret (v := v11) hx hb hr (fun t ht hW => ⟨⟨_, _, rfl, h, by show va_P _ _ _ t.heap; rw [ht]; exact hP⟩, hS.F ht⟩) hS.2.2 dX7_stepAt_58
  · replace h := h.2 c3
    refine lv_iconst (v := (-1)) hx hb dX7_stepAt_14 (by decide) ?_
    exact W.iret (v := (-1)) hx hb hr (fun t ht hW => ⟨⟨_, _, rfl, h, by show va_P _ _ _ t.heap; rw [ht]; exact hP⟩, hS.F ht⟩) hS.2.2 dX7_stepAt_15
set_option maxRecDepth 100000 in
set_option maxHeartbeats 4000000 in
theorem c_X7_stepAt {l : Launch} {D : va_G} {cI cG cZ cJ : ClassId} {ts : Nat × Nat} {ad : Nat → Nat} (hwd : WD mLs ad) (sz : Nat) (u : St) (a1 : Int32) (a2 : Int32) (a3 : Int32) (Q : Int32 → St → Prop) (h : f_X7_stepAt a1 a2 a3 u Q) : Met l yX7_stepAt wsX7_stepAt ({ frames := 5, cells := 0, slots := 0, locals := 119 }) (va_Pc [.ref (ad 0), .int a1, .int a2, .int a3] (PM D cI cG cZ cJ ts ad sz u)) (va_Qi Q (fun u9 t => va_P D vwCl (mW cI cZ ad u9) t.heap) (cA mLs ad sz)) 0 0 (cA mLs ad sz) := by
  refine Met.ofW (cc := cX7_stepAt) (maxL := 7) (ret := (some .int)) (by decide) rfl ?_
  intro p e s m args below meth c s₁ B hml hv
  obtain ⟨rfl, hsz, hP, hC⟩ := hv
  subst hsz
  have X : FX RX7 wsX7_stepAt cX7_stepAt 7 (some .int) D cI cG cZ cJ ts mLs ad p s m _ meth c := ⟨B.exec, B.bytes, hml, findClass_of_methodNamed B.named, atoms_spec (ws := wsX7_stepAt) B.pre, B.returns, B.notSynchronized, hwd, hC⟩
  have hl := lv_entry ([.ref (ad 0), .int a1, .int a2, .int a3]) (n := 7) (Nat.le_of_ble_eq_true rfl)
  rw [lg_entry_eq]
  generalize (lg_sl ([.ref (ad 0), .int a1, .int a2, .int a3]) ++ List.replicate (7 - (lg_sl ([.ref (ad 0), .int a1, .int a2, .int a3])).length) Slot.unset).toArray = ls at hl ⊢
  exact w_X7_stepAt X a1 a2 a3 Q u _ _ _ h hP va_S.rf hl
set_option maxRecDepth 100000 in
set_option maxHeartbeats 4000000 in
theorem w_X7_step {p : Program} {l : Launch} {e : Env} {s : State} {m : MethodId} {args : Array Value} {below : List Frame} {meth : Method} {c : Code} {D : va_G} {cI cG cZ cJ : ClassId} {ts : Nat × Nat}  {ad : Nat → Nat}  (X : FX RX7 wsX7_step cX7_step 5 (some .int) D cI cG cZ cJ ts mLs ad p s m args meth c) (a1 : Int32) (a2 : Int32) (a3 : Int32) (Q : Int32 → St → Prop) (u : St) (H : Heap) (locs : List Loc) (ls : Array Slot) (h : f_X7_step a1 a2 a3 u Q) (hP : va_P D vwCl (mW cI cZ ad u) H) (hS : va_S (cA mLs ad s.heap.size) s.heap H locs) (hl : lv_has ls 5 [(0, .ref (ad 0)), (1, .int a1), (2, .int a2), (3, .int a3)]) : W p l e (headSpec wsX7_step { frames := 6, cells := 0, slots := 0, locals := 145 }).room s m args below meth c H locs 0 0 (MQ below (va_Qi Q (fun u9 t => va_P D vwCl (mW cI cZ ad u9) t.heap) (cA mLs ad s.heap.size)) args s 0 0 (cA mLs ad s.heap.size)) (F0 m 0 ls []) := by
  obtain ⟨hx, hb, hml, hown, hts, hr, hlocks, hwd, hC⟩ := id X
  have hK := hC.1
  have lk0 := hts (.fieldLink RX7 13 "FormForgeModel" "degree" "[I") (by decide +kernel)
  have n7 : ∀ w ∈ wsX70, w ∈ wsX7_step := by decide +kernel
  unfold f_X7_step at h
  refine lv_aload_n hx hb dX7_step_0 rfl (lv_at hl 0 rfl) ?_
  refine lv_iload_n hx hb dX7_step_1 rfl (lv_at hl 1 rfl) ?_
  refine cc_i (va_runV (C := RX7) (As := [.int a1]) (rest := []) ⟨hx, hb, hml, hown, hts⟩ (c_X7_isForm hwd H.size u a1 _ h) (cwV 1 hts gX7_step_X7_isForm rfl rfl rfl (by decide +kernel) ⟨Nat.le_of_ble_eq_true rfl, Nat.le_of_ble_eq_true rfl⟩) (pmV hC hP hS mg_0 rfl) rfl rfl hl.1 rfl (lv_room (Nat.le_of_ble_eq_true rfl)) dX7_step_2 ⟨Nat.zero_le _, Nat.zero_le _⟩) hS (cA_mono hS.1) (fun v1 u2 H locs h hP hS => ?_)
  refine lv_if_eq (tgt := 20) hx hb dX7_step_5 (by decide) (fun c3 => ?_) (fun c3 => ?_)
  · replace h := h.1 c3
    refine lv_iconst (v := 0) hx hb dX7_step_20 (by decide) ?_
    refine lv_istore (lv' := [(4, .int 0), (0, .ref (ad 0)), (1, .int a1), (2, .int a2), (3, .int a3)]) hx hb dX7_step_21 hl (by decide) rfl (fun ls hl => ?_)
    refine lv_aload_n hx hb dX7_step_23 rfl (lv_at hl 1 rfl) ?_
    refine lv_iload hx hb dX7_step_24 (lv_at hl 0 rfl) ?_
    refine lv_if_ne (tgt := 33) hx hb dX7_step_26 (by decide) (fun c4 => absurd c4 (by decide)) (fun _ => ?_)
    refine lv_iconst (v := 1) hx hb dX7_step_29 (by decide) ?_
    refine lv_goto (tgt := 57) hx hb dX7_step_30 (by decide) ?_
    refine cc_i (va_runV (C := RX7) (As := [.int 1]) (rest := []) ⟨hx, hb, hml, hown, hts⟩ (c_X7_holds hwd H.size u2 1 _ h) (cwV 1 hts gX7_step_X7_holds rfl rfl rfl (by decide +kernel) ⟨Nat.le_of_ble_eq_true rfl, Nat.le_of_ble_eq_true rfl⟩) (pmV hC hP hS mg_0 rfl) rfl rfl hl.1 rfl (lv_room (Nat.le_of_ble_eq_true rfl)) dX7_step_57 ⟨Nat.zero_le _, Nat.zero_le _⟩) hS (cA_mono hS.1) (fun v5 u6 H locs h hP hS => ?_)
    refine lv_if_eq (tgt := 73) hx hb dX7_step_60 (by decide) (fun c7 => ?_) (fun c7 => ?_)
    · replace h := h.1 c7
      refine lv_iconst (v := 0) hx hb dX7_step_73 (by decide) ?_
      exact W.iret (v := 0) hx hb hr (fun t ht hW => ⟨⟨_, _, rfl, h, by show va_P _ _ _ t.heap; rw [ht]; exact hP⟩, hS.F ht⟩) hS.2.2 dX7_step_74
    · replace h := h.2 c7
      refine lv_aload_n hx hb dX7_step_63 rfl (lv_at hl 1 rfl) ?_
      refine lv_iload_n hx hb dX7_step_64 rfl (lv_at hl 2 rfl) ?_
      refine lv_iload_n hx hb dX7_step_65 rfl (lv_at hl 3 rfl) ?_
      refine lv_iload_n hx hb dX7_step_66 rfl (lv_at hl 4 rfl) ?_
      refine cc_i (va_runV (C := RX7) (As := [.int a1, .int a2, .int a3]) (rest := []) ⟨hx, hb, hml, hown, hts⟩ (c_X7_stepAt hwd H.size u6 a1 a2 a3 _ h) (cwV 3 hts gX7_step_X7_stepAt rfl rfl rfl (by decide +kernel) ⟨Nat.le_of_ble_eq_true rfl, Nat.le_of_ble_eq_true rfl⟩) (pmV hC hP hS mg_0 rfl) rfl rfl hl.1 rfl (lv_room (Nat.le_of_ble_eq_true rfl)) dX7_step_67 ⟨Nat.zero_le _, Nat.zero_le _⟩) hS (cA_mono hS.1) (fun v8 u9 H locs h hP hS => ?_)
      refine lv_goto (tgt := 74) hx hb dX7_step_70 (by decide) ?_
      exact W.iret (v := v8) hx hb hr (fun t ht hW => ⟨⟨_, _, rfl, h, by show va_P _ _ _ t.heap; rw [ht]; exact hP⟩, hS.F ht⟩) hS.2.2 dX7_step_74
  · replace h := h.2 c3
    refine lv_aload_n hx hb dX7_step_8 rfl (lv_at hl 0 rfl) ?_
    refine lv_iload_n hx hb dX7_step_9 rfl (lv_at hl 2 rfl) ?_
    refine cc_i (va_runV (C := RX7) (As := [.int a2]) (rest := []) ⟨hx, hb, hml, hown, hts⟩ (c_X7_isForm hwd H.size u2 a2 _ h) (cwV 1 hts gX7_step_X7_isForm rfl rfl rfl (by decide +kernel) ⟨Nat.le_of_ble_eq_true rfl, Nat.le_of_ble_eq_true rfl⟩) (pmV hC hP hS mg_0 rfl) rfl rfl hl.1 rfl (lv_room (Nat.le_of_ble_eq_true rfl)) dX7_step_10 ⟨Nat.zero_le _, Nat.zero_le _⟩) hS (cA_mono hS.1) (fun v10 u11 H locs h hP hS => ?_)
    refine lv_if_eq (tgt := 20) hx hb dX7_step_13 (by decide) (fun c12 => ?_) (fun c12 => ?_)
    · replace h := h.1 c12
      refine lv_iconst (v := 0) hx hb dX7_step_20 (by decide) ?_
      refine lv_istore (lv' := [(4, .int 0), (0, .ref (ad 0)), (1, .int a1), (2, .int a2), (3, .int a3)]) hx hb dX7_step_21 hl (by decide) rfl (fun ls hl => ?_)
      refine lv_aload_n hx hb dX7_step_23 rfl (lv_at hl 1 rfl) ?_
      refine lv_iload hx hb dX7_step_24 (lv_at hl 0 rfl) ?_
      refine lv_if_ne (tgt := 33) hx hb dX7_step_26 (by decide) (fun c13 => absurd c13 (by decide)) (fun _ => ?_)
      refine lv_iconst (v := 1) hx hb dX7_step_29 (by decide) ?_
      refine lv_goto (tgt := 57) hx hb dX7_step_30 (by decide) ?_
      refine cc_i (va_runV (C := RX7) (As := [.int 1]) (rest := []) ⟨hx, hb, hml, hown, hts⟩ (c_X7_holds hwd H.size u11 1 _ h) (cwV 1 hts gX7_step_X7_holds rfl rfl rfl (by decide +kernel) ⟨Nat.le_of_ble_eq_true rfl, Nat.le_of_ble_eq_true rfl⟩) (pmV hC hP hS mg_0 rfl) rfl rfl hl.1 rfl (lv_room (Nat.le_of_ble_eq_true rfl)) dX7_step_57 ⟨Nat.zero_le _, Nat.zero_le _⟩) hS (cA_mono hS.1) (fun v14 u15 H locs h hP hS => ?_)
      refine lv_if_eq (tgt := 73) hx hb dX7_step_60 (by decide) (fun c16 => ?_) (fun c16 => ?_)
      · replace h := h.1 c16
        refine lv_iconst (v := 0) hx hb dX7_step_73 (by decide) ?_
        exact W.iret (v := 0) hx hb hr (fun t ht hW => ⟨⟨_, _, rfl, h, by show va_P _ _ _ t.heap; rw [ht]; exact hP⟩, hS.F ht⟩) hS.2.2 dX7_step_74
      · replace h := h.2 c16
        refine lv_aload_n hx hb dX7_step_63 rfl (lv_at hl 1 rfl) ?_
        refine lv_iload_n hx hb dX7_step_64 rfl (lv_at hl 2 rfl) ?_
        refine lv_iload_n hx hb dX7_step_65 rfl (lv_at hl 3 rfl) ?_
        refine lv_iload_n hx hb dX7_step_66 rfl (lv_at hl 4 rfl) ?_
        refine cc_i (va_runV (C := RX7) (As := [.int a1, .int a2, .int a3]) (rest := []) ⟨hx, hb, hml, hown, hts⟩ (c_X7_stepAt hwd H.size u15 a1 a2 a3 _ h) (cwV 3 hts gX7_step_X7_stepAt rfl rfl rfl (by decide +kernel) ⟨Nat.le_of_ble_eq_true rfl, Nat.le_of_ble_eq_true rfl⟩) (pmV hC hP hS mg_0 rfl) rfl rfl hl.1 rfl (lv_room (Nat.le_of_ble_eq_true rfl)) dX7_step_67 ⟨Nat.zero_le _, Nat.zero_le _⟩) hS (cA_mono hS.1) (fun v17 u18 H locs h hP hS => ?_)
        refine lv_goto (tgt := 74) hx hb dX7_step_70 (by decide) ?_
        exact W.iret (v := v17) hx hb hr (fun t ht hW => ⟨⟨_, _, rfl, h, by show va_P _ _ _ t.heap; rw [ht]; exact hP⟩, hS.F ht⟩) hS.2.2 dX7_step_74
    · replace h := h.2 c12
      refine lv_iconst (v := 1) hx hb dX7_step_16 (by decide) ?_
      refine lv_goto (tgt := 21) hx hb dX7_step_17 (by decide) ?_
      refine lv_istore (lv' := [(4, .int 1), (0, .ref (ad 0)), (1, .int a1), (2, .int a2), (3, .int a3)]) hx hb dX7_step_21 hl (by decide) rfl (fun ls hl => ?_)
      refine lv_aload_n hx hb dX7_step_23 rfl (lv_at hl 1 rfl) ?_
      refine lv_iload hx hb dX7_step_24 (lv_at hl 0 rfl) ?_
      refine lv_if_ne (tgt := 33) hx hb dX7_step_26 (by decide) (fun _ => ?_) (fun c19 => absurd c19 (by decide))
      refine lv_aload_n hx hb dX7_step_33 rfl (lv_at hl 1 rfl) ?_
      refine va_get (C := RX7) (T := TX7) (N := 22) hx hb hts n7 hown hK hP 0 mg_0 rfl 2 (by decide) lk0 (fun _ h9 => h9) rfl dX7_step_34 ?_
      refine lv_iload_n hx hb dX7_step_37 rfl (lv_at hl 2 rfl) ?_
      refine va_iald hx hb hK hP 1 0 (mg_a ⟨by decide, by decide, by decide⟩) rfl h.1 dX7_step_38 ?_
      refine lv_topi (fun v20 ev20 => ?_)
      replace h := h.2 v20 ev20
      refine lv_aload_n hx hb dX7_step_39 rfl (lv_at hl 1 rfl) ?_
      refine va_get (C := RX7) (T := TX7) (N := 22) hx hb hts n7 hown hK hP 0 mg_0 rfl 2 (by decide) lk0 (fun _ h9 => h9) rfl dX7_step_40 ?_
      refine lv_iload_n hx hb dX7_step_43 rfl (lv_at hl 3 rfl) ?_
      refine va_iald hx hb hK hP 1 0 (mg_a ⟨by decide, by decide, by decide⟩) rfl h.1 dX7_step_44 ?_
      refine lv_topi (fun v21 ev21 => ?_)
      replace h := h.2 v21 ev21
      refine lv_icmp_ne (tgt := 52) hx hb dX7_step_45 (by decide) (fun c22 => ?_) (fun c22 => ?_)
      · replace h := h.1 c22
        refine lv_iconst (v := 2) hx hb dX7_step_52 (by decide) ?_
        refine lv_goto (tgt := 57) hx hb dX7_step_53 (by decide) ?_
        refine cc_i (va_runV (C := RX7) (As := [.int 2]) (rest := []) ⟨hx, hb, hml, hown, hts⟩ (c_X7_holds hwd H.size u11 2 _ h) (cwV 1 hts gX7_step_X7_holds rfl rfl rfl (by decide +kernel) ⟨Nat.le_of_ble_eq_true rfl, Nat.le_of_ble_eq_true rfl⟩) (pmV hC hP hS mg_0 rfl) rfl rfl hl.1 rfl (lv_room (Nat.le_of_ble_eq_true rfl)) dX7_step_57 ⟨Nat.zero_le _, Nat.zero_le _⟩) hS (cA_mono hS.1) (fun v23 u24 H locs h hP hS => ?_)
        refine lv_if_eq (tgt := 73) hx hb dX7_step_60 (by decide) (fun c25 => ?_) (fun c25 => ?_)
        · replace h := h.1 c25
          refine lv_iconst (v := 0) hx hb dX7_step_73 (by decide) ?_
          exact W.iret (v := 0) hx hb hr (fun t ht hW => ⟨⟨_, _, rfl, h, by show va_P _ _ _ t.heap; rw [ht]; exact hP⟩, hS.F ht⟩) hS.2.2 dX7_step_74
        · replace h := h.2 c25
          refine lv_aload_n hx hb dX7_step_63 rfl (lv_at hl 1 rfl) ?_
          refine lv_iload_n hx hb dX7_step_64 rfl (lv_at hl 2 rfl) ?_
          refine lv_iload_n hx hb dX7_step_65 rfl (lv_at hl 3 rfl) ?_
          refine lv_iload_n hx hb dX7_step_66 rfl (lv_at hl 4 rfl) ?_
          refine cc_i (va_runV (C := RX7) (As := [.int a1, .int a2, .int a3]) (rest := []) ⟨hx, hb, hml, hown, hts⟩ (c_X7_stepAt hwd H.size u24 a1 a2 a3 _ h) (cwV 3 hts gX7_step_X7_stepAt rfl rfl rfl (by decide +kernel) ⟨Nat.le_of_ble_eq_true rfl, Nat.le_of_ble_eq_true rfl⟩) (pmV hC hP hS mg_0 rfl) rfl rfl hl.1 rfl (lv_room (Nat.le_of_ble_eq_true rfl)) dX7_step_67 ⟨Nat.zero_le _, Nat.zero_le _⟩) hS (cA_mono hS.1) (fun v26 u27 H locs h hP hS => ?_)
          refine lv_goto (tgt := 74) hx hb dX7_step_70 (by decide) ?_
          exact W.iret (v := v26) hx hb hr (fun t ht hW => ⟨⟨_, _, rfl, h, by show va_P _ _ _ t.heap; rw [ht]; exact hP⟩, hS.F ht⟩) hS.2.2 dX7_step_74
      · replace h := h.2 c22
        refine lv_iload_n hx hb dX7_step_48 rfl (lv_at hl 4 rfl) ?_
        refine lv_if_ge (tgt := 56) hx hb dX7_step_49 (by decide) (fun c28 => ?_) (fun c28 => ?_)
        · replace h := h.1 c28
          refine lv_iconst (v := 0) hx hb dX7_step_56 (by decide) ?_
          refine cc_i (va_runV (C := RX7) (As := [.int 0]) (rest := []) ⟨hx, hb, hml, hown, hts⟩ (c_X7_holds hwd H.size u11 0 _ h) (cwV 1 hts gX7_step_X7_holds rfl rfl rfl (by decide +kernel) ⟨Nat.le_of_ble_eq_true rfl, Nat.le_of_ble_eq_true rfl⟩) (pmV hC hP hS mg_0 rfl) rfl rfl hl.1 rfl (lv_room (Nat.le_of_ble_eq_true rfl)) dX7_step_57 ⟨Nat.zero_le _, Nat.zero_le _⟩) hS (cA_mono hS.1) (fun v29 u30 H locs h hP hS => ?_)
          refine lv_if_eq (tgt := 73) hx hb dX7_step_60 (by decide) (fun c31 => ?_) (fun c31 => ?_)
          · replace h := h.1 c31
            refine lv_iconst (v := 0) hx hb dX7_step_73 (by decide) ?_
            exact W.iret (v := 0) hx hb hr (fun t ht hW => ⟨⟨_, _, rfl, h, by show va_P _ _ _ t.heap; rw [ht]; exact hP⟩, hS.F ht⟩) hS.2.2 dX7_step_74
          · replace h := h.2 c31
            refine lv_aload_n hx hb dX7_step_63 rfl (lv_at hl 1 rfl) ?_
            refine lv_iload_n hx hb dX7_step_64 rfl (lv_at hl 2 rfl) ?_
            refine lv_iload_n hx hb dX7_step_65 rfl (lv_at hl 3 rfl) ?_
            refine lv_iload_n hx hb dX7_step_66 rfl (lv_at hl 4 rfl) ?_
            refine cc_i (va_runV (C := RX7) (As := [.int a1, .int a2, .int a3]) (rest := []) ⟨hx, hb, hml, hown, hts⟩ (c_X7_stepAt hwd H.size u30 a1 a2 a3 _ h) (cwV 3 hts gX7_step_X7_stepAt rfl rfl rfl (by decide +kernel) ⟨Nat.le_of_ble_eq_true rfl, Nat.le_of_ble_eq_true rfl⟩) (pmV hC hP hS mg_0 rfl) rfl rfl hl.1 rfl (lv_room (Nat.le_of_ble_eq_true rfl)) dX7_step_67 ⟨Nat.zero_le _, Nat.zero_le _⟩) hS (cA_mono hS.1) (fun v32 u33 H locs h hP hS => ?_)
            refine lv_goto (tgt := 74) hx hb dX7_step_70 (by decide) ?_
            exact W.iret (v := v32) hx hb hr (fun t ht hW => ⟨⟨_, _, rfl, h, by show va_P _ _ _ t.heap; rw [ht]; exact hP⟩, hS.F ht⟩) hS.2.2 dX7_step_74
        · replace h := h.2 c28
          refine lv_iconst (v := 2) hx hb dX7_step_52 (by decide) ?_
          refine lv_goto (tgt := 57) hx hb dX7_step_53 (by decide) ?_
          refine cc_i (va_runV (C := RX7) (As := [.int 2]) (rest := []) ⟨hx, hb, hml, hown, hts⟩ (c_X7_holds hwd H.size u11 2 _ h) (cwV 1 hts gX7_step_X7_holds rfl rfl rfl (by decide +kernel) ⟨Nat.le_of_ble_eq_true rfl, Nat.le_of_ble_eq_true rfl⟩) (pmV hC hP hS mg_0 rfl) rfl rfl hl.1 rfl (lv_room (Nat.le_of_ble_eq_true rfl)) dX7_step_57 ⟨Nat.zero_le _, Nat.zero_le _⟩) hS (cA_mono hS.1) (fun v34 u35 H locs h hP hS => ?_)
          refine lv_if_eq (tgt := 73) hx hb dX7_step_60 (by decide) (fun c36 => ?_) (fun c36 => ?_)
          · replace h := h.1 c36
            refine lv_iconst (v := 0) hx hb dX7_step_73 (by decide) ?_
            exact W.iret (v := 0) hx hb hr (fun t ht hW => ⟨⟨_, _, rfl, h, by show va_P _ _ _ t.heap; rw [ht]; exact hP⟩, hS.F ht⟩) hS.2.2 dX7_step_74
          · replace h := h.2 c36
            refine lv_aload_n hx hb dX7_step_63 rfl (lv_at hl 1 rfl) ?_
            refine lv_iload_n hx hb dX7_step_64 rfl (lv_at hl 2 rfl) ?_
            refine lv_iload_n hx hb dX7_step_65 rfl (lv_at hl 3 rfl) ?_
            refine lv_iload_n hx hb dX7_step_66 rfl (lv_at hl 4 rfl) ?_
            refine cc_i (va_runV (C := RX7) (As := [.int a1, .int a2, .int a3]) (rest := []) ⟨hx, hb, hml, hown, hts⟩ (c_X7_stepAt hwd H.size u35 a1 a2 a3 _ h) (cwV 3 hts gX7_step_X7_stepAt rfl rfl rfl (by decide +kernel) ⟨Nat.le_of_ble_eq_true rfl, Nat.le_of_ble_eq_true rfl⟩) (pmV hC hP hS mg_0 rfl) rfl rfl hl.1 rfl (lv_room (Nat.le_of_ble_eq_true rfl)) dX7_step_67 ⟨Nat.zero_le _, Nat.zero_le _⟩) hS (cA_mono hS.1) (fun v37 u38 H locs h hP hS => ?_)
            refine lv_goto (tgt := 74) hx hb dX7_step_70 (by decide) ?_
            exact W.iret (v := v37) hx hb hr (fun t ht hW => ⟨⟨_, _, rfl, h, by show va_P _ _ _ t.heap; rw [ht]; exact hP⟩, hS.F ht⟩) hS.2.2 dX7_step_74
set_option maxRecDepth 100000 in
set_option maxHeartbeats 4000000 in
theorem c_X7_step {l : Launch} {D : va_G} {cI cG cZ cJ : ClassId} {ts : Nat × Nat} {ad : Nat → Nat} (hwd : WD mLs ad) (sz : Nat) (u : St) (a1 : Int32) (a2 : Int32) (a3 : Int32) (Q : Int32 → St → Prop) (h : f_X7_step a1 a2 a3 u Q) : Met l yX7_step wsX7_step ({ frames := 6, cells := 0, slots := 0, locals := 145 }) (va_Pc [.ref (ad 0), .int a1, .int a2, .int a3] (PM D cI cG cZ cJ ts ad sz u)) (va_Qi Q (fun u9 t => va_P D vwCl (mW cI cZ ad u9) t.heap) (cA mLs ad sz)) 0 0 (cA mLs ad sz) := by
  refine Met.ofW (cc := cX7_step) (maxL := 5) (ret := (some .int)) (by decide) rfl ?_
  intro p e s m args below meth c s₁ B hml hv
  obtain ⟨rfl, hsz, hP, hC⟩ := hv
  subst hsz
  have X : FX RX7 wsX7_step cX7_step 5 (some .int) D cI cG cZ cJ ts mLs ad p s m _ meth c := ⟨B.exec, B.bytes, hml, findClass_of_methodNamed B.named, atoms_spec (ws := wsX7_step) B.pre, B.returns, B.notSynchronized, hwd, hC⟩
  have hl := lv_entry ([.ref (ad 0), .int a1, .int a2, .int a3]) (n := 5) (Nat.le_of_ble_eq_true rfl)
  rw [lg_entry_eq]
  generalize (lg_sl ([.ref (ad 0), .int a1, .int a2, .int a3]) ++ List.replicate (5 - (lg_sl ([.ref (ad 0), .int a1, .int a2, .int a3])).length) Slot.unset).toArray = ls at hl ⊢
  exact w_X7_step X a1 a2 a3 Q u _ _ _ h hP va_S.rf hl
set_option maxRecDepth 100000 in
set_option maxHeartbeats 4000000 in
theorem w_X7_orbitsOf_L8 {p : Program} {l : Launch} {e : Env} {s : State} {m : MethodId} {args : Array Value} {below : List Frame} {meth : Method} {c : Code} {D : va_G} {cI cG cZ cJ : ClassId} {ts : Nat × Nat}  {ad : Nat → Nat}  (X : FX RX7 wsX7_orbitsOf cX7_orbitsOf 4 (some .int) D cI cG cZ cJ ts mLs ad p s m args meth c) (a1 : Int32) (Q : Int32 → St → Prop)
    (K0 : Int32 → St → Prop) (hk0 : ∀ (b2 : Int32) (u : St) (H : Heap) (locs : List Loc) (ls : Array Slot), K0 b2 u → va_P D vwCl (mW cI cZ ad u) H → va_S (cA mLs ad s.heap.size) s.heap H locs → lv_has ls 4 [(0, .ref (ad 0)), (2, .int b2)] → W p l e (headSpec wsX7_orbitsOf { frames := 4, cells := 0, slots := 0, locals := 94 }).room s m args below meth c H locs 0 0 (MQ below (va_Qi Q (fun u9 t => va_P D vwCl (mW cI cZ ad u9) t.heap) (cA mLs ad s.heap.size)) args s 0 0 (cA mLs ad s.heap.size)) (F0 m 55 ls []))
    : ∀ (n : Nat) (a2 : Int32) (a3 : Int32) (u : St) (H : Heap) (locs : List Loc) (ls : Array Slot), f_X7_orbitsOf_L8 a1 Q K0 n a2 a3 u → va_P D vwCl (mW cI cZ ad u) H → va_S (cA mLs ad s.heap.size) s.heap H locs → lv_has ls 4 [(0, .ref (ad 0)), (1, .int a1), (2, .int a2), (3, .int a3)] → W p l e (headSpec wsX7_orbitsOf { frames := 4, cells := 0, slots := 0, locals := 94 }).room s m args below meth c H locs 0 0 (MQ below (va_Qi Q (fun u9 t => va_P D vwCl (mW cI cZ ad u9) t.heap) (cA mLs ad s.heap.size)) args s 0 0 (cA mLs ad s.heap.size)) (F0 m 8 ls []) := by
  obtain ⟨hx, hb, hml, hown, hts, hr, hlocks, hwd, hC⟩ := id X
  have hK := hC.1
  have lk0 := hts (.fieldLink RX7 104 "FormForgeModel" "order" "I") (by decide +kernel)
  have lk1 := hts (.fieldLink RX7 27 "FormForgeModel" "group" "[I") (by decide +kernel)
  have lk2 := hts (.fieldLink RX7 136 "FormForgeModel" "many" "I") (by decide +kernel)
  have n7 : ∀ w ∈ wsX70, w ∈ wsX7_orbitsOf := by decide +kernel
  intro n
  induction n with
  | zero =>
    intro a2 a3 u H locs ls h; exact h.elim
  | succ n ih =>
    intro a2 a3 u H locs ls h hP hS hl
    replace h : f_X7_orbitsOf_L8_s a1 Q K0 (f_X7_orbitsOf_L8 a1 Q K0 n) a2 a3 u := h
    unfold f_X7_orbitsOf_L8_s at h
    refine lv_iload_n hx hb dX7_orbitsOf_8 rfl (lv_at hl 3 rfl) ?_
    refine lv_aload_n hx hb dX7_orbitsOf_9 rfl (lv_at hl 0 rfl) ?_
    refine va_get (C := RX7) (T := TX7) (N := 22) hx hb hts n7 hown hK hP 0 mg_0 rfl 9 (by decide) lk0 (fun _ h9 => h9) rfl dX7_orbitsOf_10 ?_
    refine lv_icmp_ge (tgt := 55) hx hb dX7_orbitsOf_13 (by decide) (fun c2 => ?_) (fun c2 => ?_)
    · replace h := h.1 c2
      exact hk0 a2 _ _ _ _ h hP hS (lv_sub hl [0, 2] rfl)
    · replace h := h.2 c2
      refine lv_aload_n hx hb dX7_orbitsOf_16 rfl (lv_at hl 0 rfl) ?_
      refine lv_aload_n hx hb dX7_orbitsOf_17 rfl (lv_at hl 0 rfl) ?_
      refine va_get (C := RX7) (T := TX7) (N := 22) hx hb hts n7 hown hK hP 0 mg_0 rfl 8 (by decide) lk1 (fun _ h9 => h9) rfl dX7_orbitsOf_18 ?_
      refine lv_iload_n hx hb dX7_orbitsOf_21 rfl (lv_at hl 3 rfl) ?_
      refine va_iald hx hb hK hP 5 0 (mg_a ⟨by decide, by decide, by decide⟩) rfl h.1 dX7_orbitsOf_22 ?_
      refine lv_topi (fun v3 ev3 => ?_)
      replace h := h.2 v3 ev3
      refine lv_iload_n hx hb dX7_orbitsOf_23 rfl (lv_at hl 1 rfl) ?_
      refine cc_v (va_runV (C := RX7) (As := [.int v3, .int a1]) (rest := []) ⟨hx, hb, hml, hown, hts⟩ (c_X7_learns hwd H.size u v3 a1 _ h) (cwV 2 hts gX7_orbitsOf_X7_learns rfl rfl rfl (by decide +kernel) ⟨Nat.le_of_ble_eq_true rfl, Nat.le_of_ble_eq_true rfl⟩) (pmV hC hP hS mg_0 rfl) rfl rfl hl.1 rfl (lv_room (Nat.le_of_ble_eq_true rfl)) dX7_orbitsOf_24 ⟨Nat.zero_le _, Nat.zero_le _⟩) hS (cA_mono hS.1) (fun u4 H locs h hP hS => ?_)
      refine lv_aload_n hx hb dX7_orbitsOf_27 rfl (lv_at hl 0 rfl) ?_
      refine lv_iconst (v := 0) hx hb dX7_orbitsOf_28 (by decide) ?_
      refine va_put (C := RX7) (T := TX7) (N := 22) (ty := .int) (v := .int 0) hx hb hts n7 tyX7 tyX7_ok nmX7 hown hK hP (cD hwd) hS 0 mg_0 rfl 12 (by decide) lk2 (fun _ h9 => h9) rfl (by decide +kernel) rfl rfl (Nat.le_of_ble_eq_true rfl) dX7_orbitsOf_29 (fun H locs hP _ hS => ?_)
      replace hP := mu_many hwd hP
      obtain ⟨u5, eu5⟩ : ∃ y : St, y = su u4 0 5 0 := ⟨_, rfl⟩
      rw [← eu5] at hP
      replace h := h u5 eu5
      refine lv_aload_n hx hb dX7_orbitsOf_32 rfl (lv_at hl 0 rfl) ?_
      refine lv_iload_n hx hb dX7_orbitsOf_33 rfl (lv_at hl 1 rfl) ?_
      refine cc_v (va_runV (C := RX7) (As := [.int a1]) (rest := []) ⟨hx, hb, hml, hown, hts⟩ (c_X7_laysRows hwd H.size u5 a1 _ h) (cwV 1 hts gX7_orbitsOf_X7_laysRows rfl rfl rfl (by decide +kernel) ⟨Nat.le_of_ble_eq_true rfl, Nat.le_of_ble_eq_true rfl⟩) (pmV hC hP hS mg_0 rfl) rfl rfl hl.1 rfl (lv_room (Nat.le_of_ble_eq_true rfl)) dX7_orbitsOf_34 ⟨Nat.zero_le _, Nat.zero_le _⟩) hS (cA_mono hS.1) (fun u6 H locs h hP hS => ?_)
      refine lv_iload_n hx hb dX7_orbitsOf_37 rfl (lv_at hl 2 rfl) ?_
      refine lv_aload_n hx hb dX7_orbitsOf_38 rfl (lv_at hl 0 rfl) ?_
      refine lv_aload_n hx hb dX7_orbitsOf_39 rfl (lv_at hl 0 rfl) ?_
      refine lv_iload_n hx hb dX7_orbitsOf_40 rfl (lv_at hl 1 rfl) ?_
      refine cc_i (va_runV (C := RX7) (As := [.int a1]) (rest := [.ref (ad 0), .int a2]) ⟨hx, hb, hml, hown, hts⟩ (c_X7_free hwd H.size u6 a1 _ h) (cwV 1 hts gX7_orbitsOf_X7_free rfl rfl rfl (by decide +kernel) ⟨Nat.le_of_ble_eq_true rfl, Nat.le_of_ble_eq_true rfl⟩) (pmV hC hP hS mg_0 rfl) rfl rfl hl.1 rfl (lv_room (Nat.le_of_ble_eq_true rfl)) dX7_orbitsOf_41 ⟨Nat.zero_le _, Nat.zero_le _⟩) hS (cA_mono hS.1) (fun v7 u8 H locs h hP hS => ?_)
      refine cc_i (va_runV (C := RX7) (As := [.int v7]) (rest := [.int a2]) ⟨hx, hb, hml, hown, hts⟩ (c_X7_power hwd H.size u8 v7 _ h) (cwV 1 hts gX7_orbitsOf_X7_power rfl rfl rfl (by decide +kernel) ⟨Nat.le_of_ble_eq_true rfl, Nat.le_of_ble_eq_true rfl⟩) (pmV hC hP hS mg_0 rfl) rfl rfl hl.1 rfl (lv_room (Nat.le_of_ble_eq_true rfl)) dX7_orbitsOf_44 ⟨Nat.zero_le _, Nat.zero_le _⟩) hS (cA_mono hS.1) (fun v9 u10 H locs h hP hS => ?_)
      refine lv_iadd hx hb dX7_orbitsOf_47 ?_
      refine lv_topi (fun v11 ev11 => ?_)
      replace h := h v11 ev11
      refine lv_istore_n (lv' := [(2, .int v11), (0, .ref (ad 0)), (1, .int a1), (3, .int a3)]) hx hb dX7_orbitsOf_48 rfl hl (by decide) rfl (fun ls hl => ?_)
      obtain ⟨v12, ev12⟩ : ∃ y : Int32, y = a3 + 1 := ⟨_, rfl⟩
      refine lv_iinc (v := v12) (lv' := [(3, .int v12), (2, .int v11), (0, .ref (ad 0)), (1, .int a1)]) hx hb dX7_orbitsOf_49 hl (k := 3) rfl (by rw [ev12]; rfl) (by decide) rfl (fun ls hl => ?_)
      replace h := h v12 ev12
      refine lv_goto (tgt := 8) hx hb dX7_orbitsOf_52 (by decide) ?_
      exact ih v11 v12 _ _ _ _ h hP hS (lv_sub hl [2, 3, 1, 0] rfl)
set_option maxRecDepth 100000 in
set_option maxHeartbeats 4000000 in
theorem w_X7_orbitsOf {p : Program} {l : Launch} {e : Env} {s : State} {m : MethodId} {args : Array Value} {below : List Frame} {meth : Method} {c : Code} {D : va_G} {cI cG cZ cJ : ClassId} {ts : Nat × Nat}  {ad : Nat → Nat}  (X : FX RX7 wsX7_orbitsOf cX7_orbitsOf 4 (some .int) D cI cG cZ cJ ts mLs ad p s m args meth c) (a1 : Int32) (Q : Int32 → St → Prop) (u : St) (H : Heap) (locs : List Loc) (ls : Array Slot) (h : f_X7_orbitsOf a1 u Q) (hP : va_P D vwCl (mW cI cZ ad u) H) (hS : va_S (cA mLs ad s.heap.size) s.heap H locs) (hl : lv_has ls 4 [(0, .ref (ad 0)), (1, .int a1)]) : W p l e (headSpec wsX7_orbitsOf { frames := 4, cells := 0, slots := 0, locals := 94 }).room s m args below meth c H locs 0 0 (MQ below (va_Qi Q (fun u9 t => va_P D vwCl (mW cI cZ ad u9) t.heap) (cA mLs ad s.heap.size)) args s 0 0 (cA mLs ad s.heap.size)) (F0 m 0 ls []) := by
  obtain ⟨hx, hb, hml, hown, hts, hr, hlocks, hwd, hC⟩ := id X
  have hK := hC.1
  have lk0 := hts (.fieldLink RX7 104 "FormForgeModel" "order" "I") (by decide +kernel)
  have lk1 := hts (.fieldLink RX7 27 "FormForgeModel" "group" "[I") (by decide +kernel)
  have lk2 := hts (.fieldLink RX7 136 "FormForgeModel" "many" "I") (by decide +kernel)
  have n7 : ∀ w ∈ wsX70, w ∈ wsX7_orbitsOf := by decide +kernel
  unfold f_X7_orbitsOf at h
  refine lv_aload_n hx hb dX7_orbitsOf_0 rfl (lv_at hl 0 rfl) ?_
  refine cc_v (va_runV (C := RX7) (As := []) (rest := []) ⟨hx, hb, hml, hown, hts⟩ (c_X7_gathers hwd H.size u _ h) (cwV 0 hts gX7_orbitsOf_X7_gathers rfl rfl rfl (by decide +kernel) ⟨Nat.le_of_ble_eq_true rfl, Nat.le_of_ble_eq_true rfl⟩) (pmV hC hP hS mg_0 rfl) rfl rfl hl.1 rfl (lv_room (Nat.le_of_ble_eq_true rfl)) dX7_orbitsOf_1 ⟨Nat.zero_le _, Nat.zero_le _⟩) hS (cA_mono hS.1) (fun u1 H locs h hP hS => ?_)
  refine lv_iconst (v := 0) hx hb dX7_orbitsOf_4 (by decide) ?_
  refine lv_istore_n (lv' := [(2, .int 0), (0, .ref (ad 0)), (1, .int a1)]) hx hb dX7_orbitsOf_5 rfl hl (by decide) rfl (fun ls hl => ?_)
  refine lv_iconst (v := 0) hx hb dX7_orbitsOf_6 (by decide) ?_
  refine lv_istore_n (lv' := [(3, .int 0), (2, .int 0), (0, .ref (ad 0)), (1, .int a1)]) hx hb dX7_orbitsOf_7 rfl hl (by decide) rfl (fun ls hl => ?_)
  obtain ⟨n13, h⟩ := h
  refine w_X7_orbitsOf_L8 X a1 _ _ (fun v14 u15 H locs ls h hP hS hl => ?_) n13 0 0 _ _ _ _ h hP hS (lv_sub hl [2, 3, 1, 0] rfl)
  refine lv_iload_n hx hb dX7_orbitsOf_55 rfl (lv_at hl 1 rfl) ?_
  refine lv_aload_n hx hb dX7_orbitsOf_56 rfl (lv_at hl 0 rfl) ?_
  refine va_get (C := RX7) (T := TX7) (N := 22) hx hb hts n7 hown hK hP 0 mg_0 rfl 9 (by decide) lk0 (fun _ h9 => h9) rfl dX7_orbitsOf_57 ?_
  refine lv_idiv hx hb dX7_orbitsOf_60 h.1 ?_
  replace h := h.2
  refine lv_topi (fun v16 ev16 => ?_)
  replace h := h v16 ev16
  exact W.iret (v := v16) hx hb hr (fun t ht hW => ⟨⟨_, _, rfl, h, by show va_P _ _ _ t.heap; rw [ht]; exact hP⟩, hS.F ht⟩) hS.2.2 dX7_orbitsOf_61
set_option maxRecDepth 100000 in
set_option maxHeartbeats 4000000 in
theorem c_X7_orbitsOf {l : Launch} {D : va_G} {cI cG cZ cJ : ClassId} {ts : Nat × Nat} {ad : Nat → Nat} (hwd : WD mLs ad) (sz : Nat) (u : St) (a1 : Int32) (Q : Int32 → St → Prop) (h : f_X7_orbitsOf a1 u Q) : Met l yX7_orbitsOf wsX7_orbitsOf ({ frames := 4, cells := 0, slots := 0, locals := 94 }) (va_Pc [.ref (ad 0), .int a1] (PM D cI cG cZ cJ ts ad sz u)) (va_Qi Q (fun u9 t => va_P D vwCl (mW cI cZ ad u9) t.heap) (cA mLs ad sz)) 0 0 (cA mLs ad sz) := by
  refine Met.ofW (cc := cX7_orbitsOf) (maxL := 4) (ret := (some .int)) (by decide) rfl ?_
  intro p e s m args below meth c s₁ B hml hv
  obtain ⟨rfl, hsz, hP, hC⟩ := hv
  subst hsz
  have X : FX RX7 wsX7_orbitsOf cX7_orbitsOf 4 (some .int) D cI cG cZ cJ ts mLs ad p s m _ meth c := ⟨B.exec, B.bytes, hml, findClass_of_methodNamed B.named, atoms_spec (ws := wsX7_orbitsOf) B.pre, B.returns, B.notSynchronized, hwd, hC⟩
  have hl := lv_entry ([.ref (ad 0), .int a1]) (n := 4) (Nat.le_of_ble_eq_true rfl)
  rw [lg_entry_eq]
  generalize (lg_sl ([.ref (ad 0), .int a1]) ++ List.replicate (4 - (lg_sl ([.ref (ad 0), .int a1])).length) Slot.unset).toArray = ls at hl ⊢
  exact w_X7_orbitsOf X a1 Q u _ _ _ h hP va_S.rf hl
set_option maxRecDepth 100000 in
set_option maxHeartbeats 4000000 in
theorem w_X7_orbits {p : Program} {l : Launch} {e : Env} {s : State} {m : MethodId} {args : Array Value} {below : List Frame} {meth : Method} {c : Code} {D : va_G} {cI cG cZ cJ : ClassId} {ts : Nat × Nat}  {ad : Nat → Nat}  (X : FX RX7 wsX7_orbits cX7_orbits 2 (some .int) D cI cG cZ cJ ts mLs ad p s m args meth c) (a1 : Int32) (Q : Int32 → St → Prop) (u : St) (H : Heap) (locs : List Loc) (ls : Array Slot) (h : f_X7_orbits a1 u Q) (hP : va_P D vwCl (mW cI cZ ad u) H) (hS : va_S (cA mLs ad s.heap.size) s.heap H locs) (hl : lv_has ls 2 [(0, .ref (ad 0)), (1, .int a1)]) : W p l e (headSpec wsX7_orbits { frames := 5, cells := 0, slots := 0, locals := 117 }).room s m args below meth c H locs 0 0 (MQ below (va_Qi Q (fun u9 t => va_P D vwCl (mW cI cZ ad u9) t.heap) (cA mLs ad s.heap.size)) args s 0 0 (cA mLs ad s.heap.size)) (F0 m 0 ls []) := by
  obtain ⟨hx, hb, hml, hown, hts, hr, hlocks, hwd, hC⟩ := id X
  have hK := hC.1
  unfold f_X7_orbits at h
  refine lv_aload_n hx hb dX7_orbits_0 rfl (lv_at hl 0 rfl) ?_
  refine lv_aload_n hx hb dX7_orbits_1 rfl (lv_at hl 0 rfl) ?_
  refine lv_iload_n hx hb dX7_orbits_2 rfl (lv_at hl 1 rfl) ?_
  refine cc_i (va_runV (C := RX7) (As := [.int a1]) (rest := [.ref (ad 0)]) ⟨hx, hb, hml, hown, hts⟩ (c_X7_isDegree hwd H.size u a1 _ h) (cwV 1 hts gX7_orbits_X7_isDegree rfl rfl rfl (by decide +kernel) ⟨Nat.le_of_ble_eq_true rfl, Nat.le_of_ble_eq_true rfl⟩) (pmV hC hP hS mg_0 rfl) rfl rfl hl.1 rfl (lv_room (Nat.le_of_ble_eq_true rfl)) dX7_orbits_3 ⟨Nat.zero_le _, Nat.zero_le _⟩) hS (cA_mono hS.1) (fun v1 u2 H locs h hP hS => ?_)
  refine lv_if_eq (tgt := 13) hx hb dX7_orbits_6 (by decide) (fun c3 => ?_) (fun c3 => ?_)
  · replace h := h.1 c3
    refine lv_iconst (v := 1) hx hb dX7_orbits_13 (by decide) ?_
    refine cc_i (va_runV (C := RX7) (As := [.int 1]) (rest := []) ⟨hx, hb, hml, hown, hts⟩ (c_X7_holds hwd H.size u2 1 _ h) (cwV 1 hts gX7_orbits_X7_holds rfl rfl rfl (by decide +kernel) ⟨Nat.le_of_ble_eq_true rfl, Nat.le_of_ble_eq_true rfl⟩) (pmV hC hP hS mg_0 rfl) rfl rfl hl.1 rfl (lv_room (Nat.le_of_ble_eq_true rfl)) dX7_orbits_14 ⟨Nat.zero_le _, Nat.zero_le _⟩) hS (cA_mono hS.1) (fun v4 u5 H locs h hP hS => ?_)
    refine lv_if_eq (tgt := 28) hx hb dX7_orbits_17 (by decide) (fun c6 => ?_) (fun c6 => ?_)
    · replace h := h.1 c6
      refine lv_iconst (v := 0) hx hb dX7_orbits_28 (by decide) ?_
      exact W.iret (v := 0) hx hb hr (fun t ht hW => ⟨⟨_, _, rfl, h, by show va_P _ _ _ t.heap; rw [ht]; exact hP⟩, hS.F ht⟩) hS.2.2 dX7_orbits_29
    · replace h := h.2 c6
      refine lv_aload_n hx hb dX7_orbits_20 rfl (lv_at hl 0 rfl) ?_
      refine lv_iload_n hx hb dX7_orbits_21 rfl (lv_at hl 1 rfl) ?_
      refine cc_i (va_runV (C := RX7) (As := [.int a1]) (rest := []) ⟨hx, hb, hml, hown, hts⟩ (c_X7_orbitsOf hwd H.size u5 a1 _ h) (cwV 1 hts gX7_orbits_X7_orbitsOf rfl rfl rfl (by decide +kernel) ⟨Nat.le_of_ble_eq_true rfl, Nat.le_of_ble_eq_true rfl⟩) (pmV hC hP hS mg_0 rfl) rfl rfl hl.1 rfl (lv_room (Nat.le_of_ble_eq_true rfl)) dX7_orbits_22 ⟨Nat.zero_le _, Nat.zero_le _⟩) hS (cA_mono hS.1) (fun v7 u8 H locs h hP hS => ?_)
      refine lv_goto (tgt := 29) hx hb dX7_orbits_25 (by decide) ?_
      exact W.iret (v := v7) hx hb hr (fun t ht hW => ⟨⟨_, _, rfl, h, by show va_P _ _ _ t.heap; rw [ht]; exact hP⟩, hS.F ht⟩) hS.2.2 dX7_orbits_29
  · replace h := h.2 c3
    refine lv_iconst (v := 0) hx hb dX7_orbits_9 (by decide) ?_
    refine lv_goto (tgt := 14) hx hb dX7_orbits_10 (by decide) ?_
    refine cc_i (va_runV (C := RX7) (As := [.int 0]) (rest := []) ⟨hx, hb, hml, hown, hts⟩ (c_X7_holds hwd H.size u2 0 _ h) (cwV 1 hts gX7_orbits_X7_holds rfl rfl rfl (by decide +kernel) ⟨Nat.le_of_ble_eq_true rfl, Nat.le_of_ble_eq_true rfl⟩) (pmV hC hP hS mg_0 rfl) rfl rfl hl.1 rfl (lv_room (Nat.le_of_ble_eq_true rfl)) dX7_orbits_14 ⟨Nat.zero_le _, Nat.zero_le _⟩) hS (cA_mono hS.1) (fun v9 u10 H locs h hP hS => ?_)
    refine lv_if_eq (tgt := 28) hx hb dX7_orbits_17 (by decide) (fun c11 => ?_) (fun c11 => ?_)
    · replace h := h.1 c11
      refine lv_iconst (v := 0) hx hb dX7_orbits_28 (by decide) ?_
      exact W.iret (v := 0) hx hb hr (fun t ht hW => ⟨⟨_, _, rfl, h, by show va_P _ _ _ t.heap; rw [ht]; exact hP⟩, hS.F ht⟩) hS.2.2 dX7_orbits_29
    · replace h := h.2 c11
      refine lv_aload_n hx hb dX7_orbits_20 rfl (lv_at hl 0 rfl) ?_
      refine lv_iload_n hx hb dX7_orbits_21 rfl (lv_at hl 1 rfl) ?_
      refine cc_i (va_runV (C := RX7) (As := [.int a1]) (rest := []) ⟨hx, hb, hml, hown, hts⟩ (c_X7_orbitsOf hwd H.size u10 a1 _ h) (cwV 1 hts gX7_orbits_X7_orbitsOf rfl rfl rfl (by decide +kernel) ⟨Nat.le_of_ble_eq_true rfl, Nat.le_of_ble_eq_true rfl⟩) (pmV hC hP hS mg_0 rfl) rfl rfl hl.1 rfl (lv_room (Nat.le_of_ble_eq_true rfl)) dX7_orbits_22 ⟨Nat.zero_le _, Nat.zero_le _⟩) hS (cA_mono hS.1) (fun v12 u13 H locs h hP hS => ?_)
      refine lv_goto (tgt := 29) hx hb dX7_orbits_25 (by decide) ?_
      exact W.iret (v := v12) hx hb hr (fun t ht hW => ⟨⟨_, _, rfl, h, by show va_P _ _ _ t.heap; rw [ht]; exact hP⟩, hS.F ht⟩) hS.2.2 dX7_orbits_29
set_option maxRecDepth 100000 in
set_option maxHeartbeats 4000000 in
theorem c_X7_orbits {l : Launch} {D : va_G} {cI cG cZ cJ : ClassId} {ts : Nat × Nat} {ad : Nat → Nat} (hwd : WD mLs ad) (sz : Nat) (u : St) (a1 : Int32) (Q : Int32 → St → Prop) (h : f_X7_orbits a1 u Q) : Met l yX7_orbits wsX7_orbits ({ frames := 5, cells := 0, slots := 0, locals := 117 }) (va_Pc [.ref (ad 0), .int a1] (PM D cI cG cZ cJ ts ad sz u)) (va_Qi Q (fun u9 t => va_P D vwCl (mW cI cZ ad u9) t.heap) (cA mLs ad sz)) 0 0 (cA mLs ad sz) := by
  refine Met.ofW (cc := cX7_orbits) (maxL := 2) (ret := (some .int)) (by decide) rfl ?_
  intro p e s m args below meth c s₁ B hml hv
  obtain ⟨rfl, hsz, hP, hC⟩ := hv
  subst hsz
  have X : FX RX7 wsX7_orbits cX7_orbits 2 (some .int) D cI cG cZ cJ ts mLs ad p s m _ meth c := ⟨B.exec, B.bytes, hml, findClass_of_methodNamed B.named, atoms_spec (ws := wsX7_orbits) B.pre, B.returns, B.notSynchronized, hwd, hC⟩
  have hl := lv_entry ([.ref (ad 0), .int a1]) (n := 2) (Nat.le_of_ble_eq_true rfl)
  rw [lg_entry_eq]
  generalize (lg_sl ([.ref (ad 0), .int a1]) ++ List.replicate (2 - (lg_sl ([.ref (ad 0), .int a1])).length) Slot.unset).toArray = ls at hl ⊢
  exact w_X7_orbits X a1 Q u _ _ _ h hP va_S.rf hl
set_option maxRecDepth 100000 in
set_option maxHeartbeats 4000000 in
theorem w_X7_orbitsAnew {p : Program} {l : Launch} {e : Env} {s : State} {m : MethodId} {args : Array Value} {below : List Frame} {meth : Method} {c : Code} {D : va_G} {cI cG cZ cJ : ClassId} {ts : Nat × Nat}  {ad : Nat → Nat}  (X : FX RX7 wsX7_orbitsAnew cX7_orbitsAnew 2 (some .int) D cI cG cZ cJ ts mLs ad p s m args meth c) (a1 : Int32) (Q : Int32 → St → Prop) (u : St) (H : Heap) (locs : List Loc) (ls : Array Slot) (h : f_X7_orbitsAnew a1 u Q) (hP : va_P D vwCl (mW cI cZ ad u) H) (hS : va_S (cA mLs ad s.heap.size) s.heap H locs) (hl : lv_has ls 2 [(0, .ref (ad 0)), (1, .int a1)]) : W p l e (headSpec wsX7_orbitsAnew { frames := 5, cells := 0, slots := 0, locals := 117 }).room s m args below meth c H locs 0 0 (MQ below (va_Qi Q (fun u9 t => va_P D vwCl (mW cI cZ ad u9) t.heap) (cA mLs ad s.heap.size)) args s 0 0 (cA mLs ad s.heap.size)) (F0 m 0 ls []) := by
  obtain ⟨hx, hb, hml, hown, hts, hr, hlocks, hwd, hC⟩ := id X
  have hK := hC.1
  unfold f_X7_orbitsAnew at h
  refine lv_aload_n hx hb dX7_orbitsAnew_0 rfl (lv_at hl 0 rfl) ?_
  refine lv_aload_n hx hb dX7_orbitsAnew_1 rfl (lv_at hl 0 rfl) ?_
  refine lv_iload_n hx hb dX7_orbitsAnew_2 rfl (lv_at hl 1 rfl) ?_
  refine cc_i (va_runV (C := RX7) (As := [.int a1]) (rest := [.ref (ad 0)]) ⟨hx, hb, hml, hown, hts⟩ (c_X7_isDegree hwd H.size u a1 _ h) (cwV 1 hts gX7_orbitsAnew_X7_isDegree rfl rfl rfl (by decide +kernel) ⟨Nat.le_of_ble_eq_true rfl, Nat.le_of_ble_eq_true rfl⟩) (pmV hC hP hS mg_0 rfl) rfl rfl hl.1 rfl (lv_room (Nat.le_of_ble_eq_true rfl)) dX7_orbitsAnew_3 ⟨Nat.zero_le _, Nat.zero_le _⟩) hS (cA_mono hS.1) (fun v1 u2 H locs h hP hS => ?_)
  refine lv_if_eq (tgt := 13) hx hb dX7_orbitsAnew_6 (by decide) (fun c3 => ?_) (fun c3 => ?_)
  · replace h := h.1 c3
    refine lv_iconst (v := 1) hx hb dX7_orbitsAnew_13 (by decide) ?_
    refine cc_i (va_runV (C := RX7) (As := [.int 1]) (rest := []) ⟨hx, hb, hml, hown, hts⟩ (c_X7_holds hwd H.size u2 1 _ h) (cwV 1 hts gX7_orbitsAnew_X7_holds rfl rfl rfl (by decide +kernel) ⟨Nat.le_of_ble_eq_true rfl, Nat.le_of_ble_eq_true rfl⟩) (pmV hC hP hS mg_0 rfl) rfl rfl hl.1 rfl (lv_room (Nat.le_of_ble_eq_true rfl)) dX7_orbitsAnew_14 ⟨Nat.zero_le _, Nat.zero_le _⟩) hS (cA_mono hS.1) (fun v4 u5 H locs h hP hS => ?_)
    refine lv_if_eq (tgt := 28) hx hb dX7_orbitsAnew_17 (by decide) (fun c6 => ?_) (fun c6 => ?_)
    · replace h := h.1 c6
      refine lv_iconst (v := 0) hx hb dX7_orbitsAnew_28 (by decide) ?_
      exact W.iret (v := 0) hx hb hr (fun t ht hW => ⟨⟨_, _, rfl, h, by show va_P _ _ _ t.heap; rw [ht]; exact hP⟩, hS.F ht⟩) hS.2.2 dX7_orbitsAnew_29
    · replace h := h.2 c6
      refine lv_aload_n hx hb dX7_orbitsAnew_20 rfl (lv_at hl 0 rfl) ?_
      refine lv_iload_n hx hb dX7_orbitsAnew_21 rfl (lv_at hl 1 rfl) ?_
      refine cc_i (va_runV (C := RX7) (As := [.int a1]) (rest := []) ⟨hx, hb, hml, hown, hts⟩ (c_X7_orbitsOf hwd H.size u5 a1 _ h) (cwV 1 hts gX7_orbitsAnew_X7_orbitsOf rfl rfl rfl (by decide +kernel) ⟨Nat.le_of_ble_eq_true rfl, Nat.le_of_ble_eq_true rfl⟩) (pmV hC hP hS mg_0 rfl) rfl rfl hl.1 rfl (lv_room (Nat.le_of_ble_eq_true rfl)) dX7_orbitsAnew_22 ⟨Nat.zero_le _, Nat.zero_le _⟩) hS (cA_mono hS.1) (fun v7 u8 H locs h hP hS => ?_)
      refine lv_goto (tgt := 29) hx hb dX7_orbitsAnew_25 (by decide) ?_
      exact W.iret (v := v7) hx hb hr (fun t ht hW => ⟨⟨_, _, rfl, h, by show va_P _ _ _ t.heap; rw [ht]; exact hP⟩, hS.F ht⟩) hS.2.2 dX7_orbitsAnew_29
  · replace h := h.2 c3
    refine lv_iconst (v := 0) hx hb dX7_orbitsAnew_9 (by decide) ?_
    refine lv_goto (tgt := 14) hx hb dX7_orbitsAnew_10 (by decide) ?_
    refine cc_i (va_runV (C := RX7) (As := [.int 0]) (rest := []) ⟨hx, hb, hml, hown, hts⟩ (c_X7_holds hwd H.size u2 0 _ h) (cwV 1 hts gX7_orbitsAnew_X7_holds rfl rfl rfl (by decide +kernel) ⟨Nat.le_of_ble_eq_true rfl, Nat.le_of_ble_eq_true rfl⟩) (pmV hC hP hS mg_0 rfl) rfl rfl hl.1 rfl (lv_room (Nat.le_of_ble_eq_true rfl)) dX7_orbitsAnew_14 ⟨Nat.zero_le _, Nat.zero_le _⟩) hS (cA_mono hS.1) (fun v9 u10 H locs h hP hS => ?_)
    refine lv_if_eq (tgt := 28) hx hb dX7_orbitsAnew_17 (by decide) (fun c11 => ?_) (fun c11 => ?_)
    · replace h := h.1 c11
      refine lv_iconst (v := 0) hx hb dX7_orbitsAnew_28 (by decide) ?_
      exact W.iret (v := 0) hx hb hr (fun t ht hW => ⟨⟨_, _, rfl, h, by show va_P _ _ _ t.heap; rw [ht]; exact hP⟩, hS.F ht⟩) hS.2.2 dX7_orbitsAnew_29
    · replace h := h.2 c11
      refine lv_aload_n hx hb dX7_orbitsAnew_20 rfl (lv_at hl 0 rfl) ?_
      refine lv_iload_n hx hb dX7_orbitsAnew_21 rfl (lv_at hl 1 rfl) ?_
      refine cc_i (va_runV (C := RX7) (As := [.int a1]) (rest := []) ⟨hx, hb, hml, hown, hts⟩ (c_X7_orbitsOf hwd H.size u10 a1 _ h) (cwV 1 hts gX7_orbitsAnew_X7_orbitsOf rfl rfl rfl (by decide +kernel) ⟨Nat.le_of_ble_eq_true rfl, Nat.le_of_ble_eq_true rfl⟩) (pmV hC hP hS mg_0 rfl) rfl rfl hl.1 rfl (lv_room (Nat.le_of_ble_eq_true rfl)) dX7_orbitsAnew_22 ⟨Nat.zero_le _, Nat.zero_le _⟩) hS (cA_mono hS.1) (fun v12 u13 H locs h hP hS => ?_)
      refine lv_goto (tgt := 29) hx hb dX7_orbitsAnew_25 (by decide) ?_
      exact W.iret (v := v12) hx hb hr (fun t ht hW => ⟨⟨_, _, rfl, h, by show va_P _ _ _ t.heap; rw [ht]; exact hP⟩, hS.F ht⟩) hS.2.2 dX7_orbitsAnew_29
set_option maxRecDepth 100000 in
set_option maxHeartbeats 4000000 in
theorem c_X7_orbitsAnew {l : Launch} {D : va_G} {cI cG cZ cJ : ClassId} {ts : Nat × Nat} {ad : Nat → Nat} (hwd : WD mLs ad) (sz : Nat) (u : St) (a1 : Int32) (Q : Int32 → St → Prop) (h : f_X7_orbitsAnew a1 u Q) : Met l yX7_orbitsAnew wsX7_orbitsAnew ({ frames := 5, cells := 0, slots := 0, locals := 117 }) (va_Pc [.ref (ad 0), .int a1] (PM D cI cG cZ cJ ts ad sz u)) (va_Qi Q (fun u9 t => va_P D vwCl (mW cI cZ ad u9) t.heap) (cA mLs ad sz)) 0 0 (cA mLs ad sz) := by
  refine Met.ofW (cc := cX7_orbitsAnew) (maxL := 2) (ret := (some .int)) (by decide) rfl ?_
  intro p e s m args below meth c s₁ B hml hv
  obtain ⟨rfl, hsz, hP, hC⟩ := hv
  subst hsz
  have X : FX RX7 wsX7_orbitsAnew cX7_orbitsAnew 2 (some .int) D cI cG cZ cJ ts mLs ad p s m _ meth c := ⟨B.exec, B.bytes, hml, findClass_of_methodNamed B.named, atoms_spec (ws := wsX7_orbitsAnew) B.pre, B.returns, B.notSynchronized, hwd, hC⟩
  have hl := lv_entry ([.ref (ad 0), .int a1]) (n := 2) (Nat.le_of_ble_eq_true rfl)
  rw [lg_entry_eq]
  generalize (lg_sl ([.ref (ad 0), .int a1]) ++ List.replicate (2 - (lg_sl ([.ref (ad 0), .int a1])).length) Slot.unset).toArray = ls at hl ⊢
  exact w_X7_orbitsAnew X a1 Q u _ _ _ h hP va_S.rf hl
