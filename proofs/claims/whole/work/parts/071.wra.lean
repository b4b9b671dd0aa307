/-! the law's static methods -/
set_option maxRecDepth 100000 in
set_option maxHeartbeats 4000000 in
theorem c_L_prime {l : Launch} {D : va_G} {cI cG cZ cJ : ClassId} {ts : Nat × Nat} {L : List Nat} {ad : Nat → Nat} {al : Nat} (hflag : l.stackTraces = false) (hL : Lf L al) (hLb : Lb L al) (hwd : WD L ad) (qo sz : Nat) (hq : ∀ k ∈ L, ad k ≠ qo) (u : St) (o : Nat → Int64) (a1 : Int32) (R : Int32 → Int64 → Nat → St → Prop) (h : f_X6_prime al a1 u (fun r u9 => R 0 r.toInt64 al u9) (fun E u9 => (E = "java/lang/IllegalArgumentException" ∧ R 1 (o 0) al u9))) : Met l yL_prime wsL_prime ({ frames := 7, cells := 1, slots := 6, locals := 160 }) (va_Pc [.ref (ad 0), .int a1, .ref qo] (PW D cI cG cZ cJ ts L ad al sz u qo o)) (va_Qi (QW L ad sz R) (BW D cI cG cJ qo) (cO L ad qo sz)) 1 6 (cO L ad qo sz) := by
  refine met_ofWH (cc := cL_prime) (maxL := 4) (ret := (some .int)) (hh := [(0, 9, 12, 13)]) (by decide) rfl ?_
  intro p e s m args below meth c s₁ B hml hv
  obtain ⟨rfl, hsz, hP, hPo, hC, hX, hN⟩ := hv
  have hx := B.exec
  have hb := B.bytes
  have hr := B.returns
  have hts := atoms_spec (ws := wsL_prime) B.pre
  have hown : s.vm.findClass RL = some m.cls := findClass_of_methodNamed B.named
  have hlocks := B.notSynchronized
  have htab := vx_table (x := yL_prime) B (hts _ List.mem_cons_self)
  subst hsz
  have hC' : CX D cI cG cZ cJ ts (cA L ad s.heap.size) s s.heap := hC.nar (fun _ => Or.inl)
  have hK := hC.1
  obtain ⟨i0, hi0⟩ := wL_ix (hL 0 (by omega))
  have hS : va_S (cA L ad s.heap.size) s.heap s.heap [] := va_S.rf
  have hqs := wOu_lt hPo
  have hqA : ¬ cA L ad s.heap.size qo := fun g => g.elim (fun ⟨k, hk, e⟩ => hq k hk e.symm) (fun g => absurd hqs (Nat.not_lt.mpr g))
  have hl := lv_entry ([.ref (ad 0), .int a1, .ref qo]) (n := 4) (Nat.le_of_ble_eq_true rfl)
  rw [lg_entry_eq]
  generalize (lg_sl ([.ref (ad 0), .int a1, .ref qo]) ++ List.replicate (4 - (lg_sl ([.ref (ad 0), .int a1, .ref qo])).length) Slot.unset).toArray = ls at hl ⊢
  have hl : lv_has ls 4 [(0, .ref (ad 0)), (1, .int a1), (2, .ref qo)] := hl
  refine lv_aload_n hx hb dL_prime_0 rfl (lv_at hl 2 rfl) ?_
  refine lv_iconst (v := 0) hx hb dL_prime_1 (by decide) ?_
  refine lv_aload_n hx hb dL_prime_2 rfl (lv_at hl 0 rfl) ?_
  refine lv_iload_n hx hb dL_prime_3 rfl (lv_at hl 1 rfl) ?_
  refine vx_calli (vx_runV (C := RX6) (As := [.int a1]) (rest := [.int 0, .ref qo]) ⟨hx, hb, hml, hown, hts⟩ (c_X6_prime hflag hL hwd s.heap.size u a1 _ _ h) (cwV 1 hts gL_prime_X6_prime rfl rfl rfl (by decide +kernel) ⟨Nat.le_of_ble_eq_true rfl, Nat.le_of_ble_eq_true rfl⟩) (pcVX hC' hX hP hS (cg_0 hi0) rfl) rfl rfl hl.1 rfl (lv_room (Nat.le_of_ble_eq_true rfl)) dL_prime_4 ⟨Nat.le_of_ble_eq_true rfl, Nat.le_of_ble_eq_true rfl⟩) hS (fun q _ h9 => h9) (fun q h9 => h9) (fun q _ h9 => h9) ?_ ?_
  · intro E ce q9 u9 t H1 locs1 ht hvm _ hB hz hk hS1 hcell hv9 hcl
    obtain ⟨hqx, hP1⟩ := hB
    rw [ht] at hP1
    have hPo1 := wOu_kept hPo (hk qo hqs hqA)
    have hS2 : va_S (cO L ad qo s.heap.size) s.heap H1 locs1 := va_S_w hS1 (fun _ => Or.inl)
    refine vx_widen (k := 1) (n := 6) (Nat.le_of_ble_eq_true rfl) (Nat.le_of_ble_eq_true rfl) ?_
    obtain ⟨rfl, hR⟩ := hqx
    refine vx_catch (name := "java/lang/IllegalArgumentException") hown [] ⟨0, 9, 12, 13⟩ [] htab (fun z hz => absurd hz List.not_mem_nil) rfl (by decide) (hts (.classLink RL 13 "java/lang/IllegalArgumentException") (by decide +kernel)) (va_Nw.use rfl (hX.1 _ (by simp))) hcell hv9 hcl ?_
    refine W.eq (g2 := F0 m 12 ls [.ref q9]) rfl ?_
    refine lv_astore_n (lv' := [(3, .ref q9), (0, .ref (ad 0)), (1, .int a1), (2, .ref qo)]) hx hb dL_prime_12 rfl hl (by decide) rfl (fun ls hl => ?_)
    refine lv_iconst (v := 1) hx hb dL_prime_13 (by decide) ?_
    exact W.iret (v := 1) hx hb hr (fun t ht hW => ⟨⟨_, ((ad, L, al, u9), o), rfl, ⟨XT.rf hwd hL hLb, hR⟩, by show va_P _ _ _ t.heap; rw [ht]; exact hP1, by show va_P _ _ _ t.heap; rw [ht]; exact hPo1⟩, hS2.F ht⟩) hS2.2.2 dL_prime_14
  · intro r u9 t H1 locs1 ht hvm hR hB hz hk hS1
    have hP1 : va_P D vwCl (cW cI cG L ad al u9) H1 := by rw [← ht]; exact hB
    have hD1 : va_D (cA L ad s.heap.size) (cW cI cG L ad al u9) := cD hwd
    have hPo1 := wOu_kept hPo (hk qo hqs hqA)
    have hS2 : va_S (cO L ad qo s.heap.size) s.heap H1 locs1 := va_S_w hS1 (fun _ => Or.inl)
    refine W.widen (k := 1) (n := 6) (Nat.le_of_ble_eq_true rfl) (Nat.le_of_ble_eq_true rfl) ?_
    refine lv_i2l (v := r.toInt64) hx hb dL_prime_7 rfl ?_
    refine out_st hx hb hK hP1 hPo1 (hD1.weaken (fun _ _ _ h9 => Or.inl h9)) (Or.inr rfl) (fun k q hk9 e9 => hqA (by rw [e9]; exact hD1.2 k q hk9)) hS2 dL_prime_8 (fun H1 locs1 o1 ho1 hP1 hPo1 hS2 => ?_)
    refine lv_goto (tgt := 15) hx hb dL_prime_9 (by decide) ?_
    refine lv_iconst (v := 0) hx hb dL_prime_15 (by decide) ?_
    exact W.iret (v := 0) hx hb hr (fun t ht hW => ⟨⟨_, ((ad, L, al, u9), o1), rfl, ⟨(XT.rf hwd hL hLb), by show R 0 (o1 0) _ _; rw [ho1]; exact hR⟩, by show va_P _ _ _ t.heap; rw [ht]; exact hP1, by show va_P _ _ _ t.heap; rw [ht]; exact hPo1⟩, hS2.F ht⟩) hS2.2.2 dL_prime_16
set_option maxRecDepth 100000 in
set_option maxHeartbeats 4000000 in
theorem c_L_form {l : Launch} {D : va_G} {cI cG cZ cJ : ClassId} {ts : Nat × Nat} {L : List Nat} {ad : Nat → Nat} {al : Nat} (hflag : l.stackTraces = false) (hL : Lf L al) (hLb : Lb L al) (hwd : WD L ad) (qo sz : Nat) (hq : ∀ k ∈ L, ad k ≠ qo) (u : St) (o : Nat → Int64) (a1 : Int32) (a2 : Int32) (R : Int32 → Int64 → Nat → St → Prop) (h : f_X6_form al a1 a2 u (fun r u9 => R 0 r.toInt64 al u9) (fun E u9 => (E = "java/lang/IllegalArgumentException" ∧ R 1 (o 0) al u9) ∨ (E = "java/lang/IllegalStateException" ∧ R 2 (o 0) al u9))) : Met l yL_form wsL_form ({ frames := 7, cells := 1, slots := 6, locals := 112 }) (va_Pc [.ref (ad 0), .int a1, .int a2, .ref qo] (PW D cI cG cZ cJ ts L ad al sz u qo o)) (va_Qi (QW L ad sz R) (BW D cI cG cJ qo) (cO L ad qo sz)) 1 6 (cO L ad qo sz) := by
  refine met_ofWH (cc := cL_form) (maxL := 5) (ret := (some .int)) (hh := [(0, 10, 13, 13), (0, 10, 17, 19)]) (by decide) rfl ?_
  intro p e s m args below meth c s₁ B hml hv
  obtain ⟨rfl, hsz, hP, hPo, hC, hX, hN⟩ := hv
  have hx := B.exec
  have hb := B.bytes
  have hr := B.returns
  have hts := atoms_spec (ws := wsL_form) B.pre
  have hown : s.vm.findClass RL = some m.cls := findClass_of_methodNamed B.named
  have hlocks := B.notSynchronized
  have htab := vx_table (x := yL_form) B (hts _ List.mem_cons_self)
  subst hsz
  have hC' : CX D cI cG cZ cJ ts (cA L ad s.heap.size) s s.heap := hC.nar (fun _ => Or.inl)
  have hK := hC.1
  obtain ⟨i0, hi0⟩ := wL_ix (hL 0 (by omega))
  have hS : va_S (cA L ad s.heap.size) s.heap s.heap [] := va_S.rf
  have hqs := wOu_lt hPo
  have hqA : ¬ cA L ad s.heap.size qo := fun g => g.elim (fun ⟨k, hk, e⟩ => hq k hk e.symm) (fun g => absurd hqs (Nat.not_lt.mpr g))
  have hl := lv_entry ([.ref (ad 0), .int a1, .int a2, .ref qo]) (n := 5) (Nat.le_of_ble_eq_true rfl)
  rw [lg_entry_eq]
  generalize (lg_sl ([.ref (ad 0), .int a1, .int a2, .ref qo]) ++ List.replicate (5 - (lg_sl ([.ref (ad 0), .int a1, .int a2, .ref qo])).length) Slot.unset).toArray = ls at hl ⊢
  have hl : lv_has ls 5 [(0, .ref (ad 0)), (1, .int a1), (2, .int a2), (3, .ref qo)] := hl
  refine lv_aload_n hx hb dL_form_0 rfl (lv_at hl 3 rfl) ?_
  refine lv_iconst (v := 0) hx hb dL_form_1 (by decide) ?_
  refine lv_aload_n hx hb dL_form_2 rfl (lv_at hl 0 rfl) ?_
  refine lv_iload_n hx hb dL_form_3 rfl (lv_at hl 1 rfl) ?_
  refine lv_iload_n hx hb dL_form_4 rfl (lv_at hl 2 rfl) ?_
  refine vx_calli (vx_runV (C := RX6) (As := [.int a1, .int a2]) (rest := [.int 0, .ref qo]) ⟨hx, hb, hml, hown, hts⟩ (c_X6_form hflag hL hwd s.heap.size u a1 a2 _ _ h) (cwV 2 hts gL_form_X6_form rfl rfl rfl (by decide +kernel) ⟨Nat.le_of_ble_eq_true rfl, Nat.le_of_ble_eq_true rfl⟩) (pcVX hC' hX hP hS (cg_0 hi0) rfl) rfl rfl hl.1 rfl (lv_room (Nat.le_of_ble_eq_true rfl)) dL_form_5 ⟨Nat.le_of_ble_eq_true rfl, Nat.le_of_ble_eq_true rfl⟩) hS (fun q _ h9 => h9) (fun q h9 => h9) (fun q _ h9 => h9) ?_ ?_
  · intro E ce q9 u9 t H1 locs1 ht hvm _ hB hz hk hS1 hcell hv9 hcl
    obtain ⟨hqx, hP1⟩ := hB
    rw [ht] at hP1
    have hPo1 := wOu_kept hPo (hk qo hqs hqA)
    have hS2 : va_S (cO L ad qo s.heap.size) s.heap H1 locs1 := va_S_w hS1 (fun _ => Or.inl)
    refine vx_widen (k := 1) (n := 6) (Nat.le_of_ble_eq_true rfl) (Nat.le_of_ble_eq_true rfl) ?_
    rcases hqx with ⟨rfl, hR⟩ | ⟨rfl, hR⟩
    · refine vx_catch (name := "java/lang/IllegalArgumentException") hown [] ⟨0, 10, 13, 13⟩ [⟨0, 10, 17, 19⟩] htab (fun z hz => absurd hz List.not_mem_nil) rfl (by decide) (hts (.classLink RL 13 "java/lang/IllegalArgumentException") (by decide +kernel)) (va_Nw.use rfl (hX.1 _ (by simp))) hcell hv9 hcl ?_
      refine W.eq (g2 := F0 m 13 ls [.ref q9]) rfl ?_
      refine lv_astore (lv' := [(4, .ref q9), (0, .ref (ad 0)), (1, .int a1), (2, .int a2), (3, .ref qo)]) hx hb dL_form_13 hl (by decide) rfl (fun ls hl => ?_)
      refine lv_iconst (v := 1) hx hb dL_form_15 (by decide) ?_
      exact W.iret (v := 1) hx hb hr (fun t ht hW => ⟨⟨_, ((ad, L, al, u9), o), rfl, ⟨XT.rf hwd hL hLb, hR⟩, by show va_P _ _ _ t.heap; rw [ht]; exact hP1, by show va_P _ _ _ t.heap; rw [ht]; exact hPo1⟩, hS2.F ht⟩) hS2.2.2 dL_form_16
    · refine vx_catch (name := "java/lang/IllegalStateException") hown [⟨0, 10, 13, 13⟩] ⟨0, 10, 17, 19⟩ [] htab (fun z hz => by rw [List.mem_singleton.mp hz]; exact Or.inr ⟨by decide, "java/lang/IllegalArgumentException", hts (.classLink RL 13 "java/lang/IllegalArgumentException") (by decide +kernel), hN.1⟩) rfl (by decide) (hts (.classLink RL 19 "java/lang/IllegalStateException") (by decide +kernel)) (va_Nw.use rfl (hX.1 _ (by simp))) hcell hv9 hcl ?_
      refine W.eq (g2 := F0 m 17 ls [.ref q9]) rfl ?_
      refine lv_astore (lv' := [(4, .ref q9), (0, .ref (ad 0)), (1, .int a1), (2, .int a2), (3, .ref qo)]) hx hb dL_form_17 hl (by decide) rfl (fun ls hl => ?_)
      refine lv_iconst (v := 2) hx hb dL_form_19 (by decide) ?_
      exact W.iret (v := 2) hx hb hr (fun t ht hW => ⟨⟨_, ((ad, L, al, u9), o), rfl, ⟨XT.rf hwd hL hLb, hR⟩, by show va_P _ _ _ t.heap; rw [ht]; exact hP1, by show va_P _ _ _ t.heap; rw [ht]; exact hPo1⟩, hS2.F ht⟩) hS2.2.2 dL_form_20
  · intro r u9 t H1 locs1 ht hvm hR hB hz hk hS1
    have hP1 : va_P D vwCl (cW cI cG L ad al u9) H1 := by rw [← ht]; exact hB
    have hD1 : va_D (cA L ad s.heap.size) (cW cI cG L ad al u9) := cD hwd
    have hPo1 := wOu_kept hPo (hk qo hqs hqA)
    have hS2 : va_S (cO L ad qo s.heap.size) s.heap H1 locs1 := va_S_w hS1 (fun _ => Or.inl)
    refine W.widen (k := 1) (n := 6) (Nat.le_of_ble_eq_true rfl) (Nat.le_of_ble_eq_true rfl) ?_
    refine lv_i2l (v := r.toInt64) hx hb dL_form_8 rfl ?_
    refine out_st hx hb hK hP1 hPo1 (hD1.weaken (fun _ _ _ h9 => Or.inl h9)) (Or.inr rfl) (fun k q hk9 e9 => hqA (by rw [e9]; exact hD1.2 k q hk9)) hS2 dL_form_9 (fun H1 locs1 o1 ho1 hP1 hPo1 hS2 => ?_)
    refine lv_goto (tgt := 21) hx hb dL_form_10 (by decide) ?_
    refine lv_iconst (v := 0) hx hb dL_form_21 (by decide) ?_
    exact W.iret (v := 0) hx hb hr (fun t ht hW => ⟨⟨_, ((ad, L, al, u9), o1), rfl, ⟨(XT.rf hwd hL hLb), by show R 0 (o1 0) _ _; rw [ho1]; exact hR⟩, by show va_P _ _ _ t.heap; rw [ht]; exact hP1, by show va_P _ _ _ t.heap; rw [ht]; exact hPo1⟩, hS2.F ht⟩) hS2.2.2 dL_form_22
set_option maxRecDepth 100000 in
set_option maxHeartbeats 4000000 in
theorem c_L_formIs {l : Launch} {D : va_G} {cI cG cZ cJ : ClassId} {ts : Nat × Nat} {L : List Nat} {ad : Nat → Nat} {al : Nat} (hflag : l.stackTraces = false) (hL : Lf L al) (hLb : Lb L al) (hwd : WD L ad) (qo sz : Nat) (hq : ∀ k ∈ L, ad k ≠ qo) (u : St) (o : Nat → Int64) (a1 : Int32) (a2 : Int32) (R : Int32 → Int64 → Nat → St → Prop) (h : f_X6_formIs al a1 a2 u (fun r u9 => R 0 r.toInt64 al u9) (fun E u9 => (E = "java/lang/IndexOutOfBoundsException" ∧ R 1 (o 0) al u9) ∨ (E = "java/lang/IllegalArgumentException" ∧ R 2 (o 0) al u9))) : Met l yL_formIs wsL_formIs ({ frames := 8, cells := 2, slots := 12, locals := 141 }) (va_Pc [.ref (ad 0), .int a1, .int a2, .ref qo] (PW D cI cG cZ cJ ts L ad al sz u qo o)) (va_Qi (QW L ad sz R) (BW D cI cG cJ qo) (cO L ad qo sz)) 2 12 (cO L ad qo sz) := by
  refine met_ofWH (cc := cL_formIs) (maxL := 5) (ret := (some .int)) (hh := [(0, 10, 13, 24), (0, 10, 17, 13)]) (by decide) rfl ?_
  intro p e s m args below meth c s₁ B hml hv
  obtain ⟨rfl, hsz, hP, hPo, hC, hX, hN⟩ := hv
  have hx := B.exec
  have hb := B.bytes
  have hr := B.returns
  have hts := atoms_spec (ws := wsL_formIs) B.pre
  have hown : s.vm.findClass RL = some m.cls := findClass_of_methodNamed B.named
  have hlocks := B.notSynchronized
  have htab := vx_table (x := yL_formIs) B (hts _ List.mem_cons_self)
  subst hsz
  have hC' : CX D cI cG cZ cJ ts (cA L ad s.heap.size) s s.heap := hC.nar (fun _ => Or.inl)
  have hK := hC.1
  obtain ⟨i0, hi0⟩ := wL_ix (hL 0 (by omega))
  have hS : va_S (cA L ad s.heap.size) s.heap s.heap [] := va_S.rf
  have hqs := wOu_lt hPo
  have hqA : ¬ cA L ad s.heap.size qo := fun g => g.elim (fun ⟨k, hk, e⟩ => hq k hk e.symm) (fun g => absurd hqs (Nat.not_lt.mpr g))
  have hl := lv_entry ([.ref (ad 0), .int a1, .int a2, .ref qo]) (n := 5) (Nat.le_of_ble_eq_true rfl)
  rw [lg_entry_eq]
  generalize (lg_sl ([.ref (ad 0), .int a1, .int a2, .ref qo]) ++ List.replicate (5 - (lg_sl ([.ref (ad 0), .int a1, .int a2, .ref qo])).length) Slot.unset).toArray = ls at hl ⊢
  have hl : lv_has ls 5 [(0, .ref (ad 0)), (1, .int a1), (2, .int a2), (3, .ref qo)] := hl
  refine lv_aload_n hx hb dL_formIs_0 rfl (lv_at hl 3 rfl) ?_
  refine lv_iconst (v := 0) hx hb dL_formIs_1 (by decide) ?_
  refine lv_aload_n hx hb dL_formIs_2 rfl (lv_at hl 0 rfl) ?_
  refine lv_iload_n hx hb dL_formIs_3 rfl (lv_at hl 1 rfl) ?_
  refine lv_iload_n hx hb dL_formIs_4 rfl (lv_at hl 2 rfl) ?_
  refine vx_calli (vx_runV (C := RX6) (As := [.int a1, .int a2]) (rest := [.int 0, .ref qo]) ⟨hx, hb, hml, hown, hts⟩ (c_X6_formIs hflag hL hwd s.heap.size u a1 a2 _ _ h) (cwV 2 hts gL_formIs_X6_formIs rfl rfl rfl (by decide +kernel) ⟨Nat.le_of_ble_eq_true rfl, Nat.le_of_ble_eq_true rfl⟩) (pcVX hC' hX hP hS (cg_0 hi0) rfl) rfl rfl hl.1 rfl (lv_room (Nat.le_of_ble_eq_true rfl)) dL_formIs_5 ⟨Nat.le_of_ble_eq_true rfl, Nat.le_of_ble_eq_true rfl⟩) hS (fun q _ h9 => h9) (fun q h9 => h9) (fun q _ h9 => h9) ?_ ?_
  · intro E ce q9 u9 t H1 locs1 ht hvm _ hB hz hk hS1 hcell hv9 hcl
    obtain ⟨hqx, hP1⟩ := hB
    rw [ht] at hP1
    have hPo1 := wOu_kept hPo (hk qo hqs hqA)
    have hS2 : va_S (cO L ad qo s.heap.size) s.heap H1 locs1 := va_S_w hS1 (fun _ => Or.inl)
    refine vx_widen (k := 2) (n := 12) (Nat.le_of_ble_eq_true rfl) (Nat.le_of_ble_eq_true rfl) ?_
    rcases hqx with ⟨rfl, hR⟩ | ⟨rfl, hR⟩
    · refine vx_catch (name := "java/lang/IndexOutOfBoundsException") hown [] ⟨0, 10, 13, 24⟩ [⟨0, 10, 17, 13⟩] htab (fun z hz => absurd hz List.not_mem_nil) rfl (by decide) (hts (.classLink RL 24 "java/lang/IndexOutOfBoundsException") (by decide +kernel)) (va_Nw.use rfl (hX.1 _ (by simp))) hcell hv9 hcl ?_
      refine W.eq (g2 := F0 m 13 ls [.ref q9]) rfl ?_
      refine lv_astore (lv' := [(4, .ref q9), (0, .ref (ad 0)), (1, .int a1), (2, .int a2), (3, .ref qo)]) hx hb dL_formIs_13 hl (by decide) rfl (fun ls hl => ?_)
      refine lv_iconst (v := 1) hx hb dL_formIs_15 (by decide) ?_
      exact W.iret (v := 1) hx hb hr (fun t ht hW => ⟨⟨_, ((ad, L, al, u9), o), rfl, ⟨XT.rf hwd hL hLb, hR⟩, by show va_P _ _ _ t.heap; rw [ht]; exact hP1, by show va_P _ _ _ t.heap; rw [ht]; exact hPo1⟩, hS2.F ht⟩) hS2.2.2 dL_formIs_16
    · refine vx_catch (name := "java/lang/IllegalArgumentException") hown [⟨0, 10, 13, 24⟩] ⟨0, 10, 17, 13⟩ [] htab (fun z hz => by rw [List.mem_singleton.mp hz]; exact Or.inr ⟨by decide, "java/lang/IndexOutOfBoundsException", hts (.classLink RL 24 "java/lang/IndexOutOfBoundsException") (by decide +kernel), hN.2⟩) rfl (by decide) (hts (.classLink RL 13 "java/lang/IllegalArgumentException") (by decide +kernel)) (va_Nw.use rfl (hX.1 _ (by simp))) hcell hv9 hcl ?_
      refine W.eq (g2 := F0 m 17 ls [.ref q9]) rfl ?_
      refine lv_astore (lv' := [(4, .ref q9), (0, .ref (ad 0)), (1, .int a1), (2, .int a2), (3, .ref qo)]) hx hb dL_formIs_17 hl (by decide) rfl (fun ls hl => ?_)
      refine lv_iconst (v := 2) hx hb dL_formIs_19 (by decide) ?_
      exact W.iret (v := 2) hx hb hr (fun t ht hW => ⟨⟨_, ((ad, L, al, u9), o), rfl, ⟨XT.rf hwd hL hLb, hR⟩, by show va_P _ _ _ t.heap; rw [ht]; exact hP1, by show va_P _ _ _ t.heap; rw [ht]; exact hPo1⟩, hS2.F ht⟩) hS2.2.2 dL_formIs_20
  · intro r u9 t H1 locs1 ht hvm hR hB hz hk hS1
    have hP1 : va_P D vwCl (cW cI cG L ad al u9) H1 := by rw [← ht]; exact hB
    have hD1 : va_D (cA L ad s.heap.size) (cW cI cG L ad al u9) := cD hwd
    have hPo1 := wOu_kept hPo (hk qo hqs hqA)
    have hS2 : va_S (cO L ad qo s.heap.size) s.heap H1 locs1 := va_S_w hS1 (fun _ => Or.inl)
    refine W.widen (k := 2) (n := 12) (Nat.le_of_ble_eq_true rfl) (Nat.le_of_ble_eq_true rfl) ?_
    refine lv_i2l (v := r.toInt64) hx hb dL_formIs_8 rfl ?_
    refine out_st hx hb hK hP1 hPo1 (hD1.weaken (fun _ _ _ h9 => Or.inl h9)) (Or.inr rfl) (fun k q hk9 e9 => hqA (by rw [e9]; exact hD1.2 k q hk9)) hS2 dL_formIs_9 (fun H1 locs1 o1 ho1 hP1 hPo1 hS2 => ?_)
    refine lv_goto (tgt := 21) hx hb dL_formIs_10 (by decide) ?_
    refine lv_iconst (v := 0) hx hb dL_formIs_21 (by decide) ?_
    exact W.iret (v := 0) hx hb hr (fun t ht hW => ⟨⟨_, ((ad, L, al, u9), o1), rfl, ⟨(XT.rf hwd hL hLb), by show R 0 (o1 0) _ _; rw [ho1]; exact hR⟩, by show va_P _ _ _ t.heap; rw [ht]; exact hP1, by show va_P _ _ _ t.heap; rw [ht]; exact hPo1⟩, hS2.F ht⟩) hS2.2.2 dL_formIs_22
set_option maxRecDepth 100000 in
set_option maxHeartbeats 4000000 in
theorem c_L_at {l : Launch} {D : va_G} {cI cG cZ cJ : ClassId} {ts : Nat × Nat} {L : List Nat} {ad : Nat → Nat} {al : Nat} (hflag : l.stackTraces = false) (hL : Lf L al) (hLb : Lb L al) (hwd : WD L ad) (qo sz : Nat) (hq : ∀ k ∈ L, ad k ≠ qo) (u : St) (o : Nat → Int64) (a1 : Int32) (a2 : Int32) (a3 : Int32) (R : Int32 → Int64 → Nat → St → Prop) (h : f_X6_at al a1 a2 a3 u (fun r u9 => R 0 r.toInt64 al u9) (fun E u9 => (E = "java/lang/IndexOutOfBoundsException" ∧ R 1 (o 0) al u9) ∨ (E = "java/lang/IllegalArgumentException" ∧ R 2 (o 0) al u9))) : Met l yL_at wsL_at ({ frames := 8, cells := 2, slots := 12, locals := 137 }) (va_Pc [.ref (ad 0), .int a1, .int a2, .int a3, .ref qo] (PW D cI cG cZ cJ ts L ad al sz u qo o)) (va_Qi (QW L ad sz R) (BW D cI cG cJ qo) (cO L ad qo sz)) 2 12 (cO L ad qo sz) := by
  refine met_ofWH (cc := cL_at) (maxL := 6) (ret := (some .int)) (hh := [(0, 12, 15, 24), (0, 12, 19, 13)]) (by decide) rfl ?_
  intro p e s m args below meth c s₁ B hml hv
  obtain ⟨rfl, hsz, hP, hPo, hC, hX, hN⟩ := hv
  have hx := B.exec
  have hb := B.bytes
  have hr := B.returns
  have hts := atoms_spec (ws := wsL_at) B.pre
  have hown : s.vm.findClass RL = some m.cls := findClass_of_methodNamed B.named
  have hlocks := B.notSynchronized
  have htab := vx_table (x := yL_at) B (hts _ List.mem_cons_self)
  subst hsz
  have hC' : CX D cI cG cZ cJ ts (cA L ad s.heap.size) s s.heap := hC.nar (fun _ => Or.inl)
  have hK := hC.1
  obtain ⟨i0, hi0⟩ := wL_ix (hL 0 (by omega))
  have hS : va_S (cA L ad s.heap.size) s.heap s.heap [] := va_S.rf
  have hqs := wOu_lt hPo
  have hqA : ¬ cA L ad s.heap.size qo := fun g => g.elim (fun ⟨k, hk, e⟩ => hq k hk e.symm) (fun g => absurd hqs (Nat.not_lt.mpr g))
  have hl := lv_entry ([.ref (ad 0), .int a1, .int a2, .int a3, .ref qo]) (n := 6) (Nat.le_of_ble_eq_true rfl)
  rw [lg_entry_eq]
  generalize (lg_sl ([.ref (ad 0), .int a1, .int a2, .int a3, .ref qo]) ++ List.replicate (6 - (lg_sl ([.ref (ad 0), .int a1, .int a2, .int a3, .ref qo])).length) Slot.unset).toArray = ls at hl ⊢
  have hl : lv_has ls 6 [(0, .ref (ad 0)), (1, .int a1), (2, .int a2), (3, .int a3), (4, .ref qo)] := hl
  refine lv_aload hx hb dL_at_0 (lv_at hl 4 rfl) ?_
  refine lv_iconst (v := 0) hx hb dL_at_2 (by decide) ?_
  refine lv_aload_n hx hb dL_at_3 rfl (lv_at hl 0 rfl) ?_
  refine lv_iload_n hx hb dL_at_4 rfl (lv_at hl 1 rfl) ?_
  refine lv_iload_n hx hb dL_at_5 rfl (lv_at hl 2 rfl) ?_
  refine lv_iload_n hx hb dL_at_6 rfl (lv_at hl 3 rfl) ?_
  refine vx_calli (vx_runV (C := RX6) (As := [.int a1, .int a2, .int a3]) (rest := [.int 0, .ref qo]) ⟨hx, hb, hml, hown, hts⟩ (c_X6_at hflag hL hwd s.heap.size u a1 a2 a3 _ _ h) (cwV 3 hts gL_at_X6_at rfl rfl rfl (by decide +kernel) ⟨Nat.le_of_ble_eq_true rfl, Nat.le_of_ble_eq_true rfl⟩) (pcVX hC' hX hP hS (cg_0 hi0) rfl) rfl rfl hl.1 rfl (lv_room (Nat.le_of_ble_eq_true rfl)) dL_at_7 ⟨Nat.le_of_ble_eq_true rfl, Nat.le_of_ble_eq_true rfl⟩) hS (fun q _ h9 => h9) (fun q h9 => h9) (fun q _ h9 => h9) ?_ ?_
  · intro E ce q9 u9 t H1 locs1 ht hvm _ hB hz hk hS1 hcell hv9 hcl
    obtain ⟨hqx, hP1⟩ := hB
    rw [ht] at hP1
    have hPo1 := wOu_kept hPo (hk qo hqs hqA)
    have hS2 : va_S (cO L ad qo s.heap.size) s.heap H1 locs1 := va_S_w hS1 (fun _ => Or.inl)
    refine vx_widen (k := 2) (n := 12) (Nat.le_of_ble_eq_true rfl) (Nat.le_of_ble_eq_true rfl) ?_
    rcases hqx with ⟨rfl, hR⟩ | ⟨rfl, hR⟩
    · refine vx_catch (name := "java/lang/IndexOutOfBoundsException") hown [] ⟨0, 12, 15, 24⟩ [⟨0, 12, 19, 13⟩] htab (fun z hz => absurd hz List.not_mem_nil) rfl (by decide) (hts (.classLink RL 24 "java/lang/IndexOutOfBoundsException") (by decide +kernel)) (va_Nw.use rfl (hX.1 _ (by simp))) hcell hv9 hcl ?_
      refine W.eq (g2 := F0 m 15 ls [.ref q9]) rfl ?_
      refine lv_astore (lv' := [(5, .ref q9), (0, .ref (ad 0)), (1, .int a1), (2, .int a2), (3, .int a3), (4, .ref qo)]) hx hb dL_at_15 hl (by decide) rfl (fun ls hl => ?_)
      refine lv_iconst (v := 1) hx hb dL_at_17 (by decide) ?_
      exact W.iret (v := 1) hx hb hr (fun t ht hW => ⟨⟨_, ((ad, L, al, u9), o), rfl, ⟨XT.rf hwd hL hLb, hR⟩, by show va_P _ _ _ t.heap; rw [ht]; exact hP1, by show va_P _ _ _ t.heap; rw [ht]; exact hPo1⟩, hS2.F ht⟩) hS2.2.2 dL_at_18
    · refine vx_catch (name := "java/lang/IllegalArgumentException") hown [⟨0, 12, 15, 24⟩] ⟨0, 12, 19, 13⟩ [] htab (fun z hz => by rw [List.mem_singleton.mp hz]; exact Or.inr ⟨by decide, "java/lang/IndexOutOfBoundsException", hts (.classLink RL 24 "java/lang/IndexOutOfBoundsException") (by decide +kernel), hN.2⟩) rfl (by decide) (hts (.classLink RL 13 "java/lang/IllegalArgumentException") (by decide +kernel)) (va_Nw.use rfl (hX.1 _ (by simp))) hcell hv9 hcl ?_
      refine W.eq (g2 := F0 m 19 ls [.ref q9]) rfl ?_
      refine lv_astore (lv' := [(5, .ref q9), (0, .ref (ad 0)), (1, .int a1), (2, .int a2), (3, .int a3), (4, .ref qo)]) hx hb dL_at_19 hl (by decide) rfl (fun ls hl => ?_)
      refine lv_iconst (v := 2) hx hb dL_at_21 (by decide) ?_
      exact W.iret (v := 2) hx hb hr (fun t ht hW => ⟨⟨_, ((ad, L, al, u9), o), rfl, ⟨XT.rf hwd hL hLb, hR⟩, by show va_P _ _ _ t.heap; rw [ht]; exact hP1, by show va_P _ _ _ t.heap; rw [ht]; exact hPo1⟩, hS2.F ht⟩) hS2.2.2 dL_at_22
  · intro r u9 t H1 locs1 ht hvm hR hB hz hk hS1
    have hP1 : va_P D vwCl (cW cI cG L ad al u9) H1 := by rw [← ht]; exact hB
    have hD1 : va_D (cA L ad s.heap.size) (cW cI cG L ad al u9) := cD hwd
    have hPo1 := wOu_kept hPo (hk qo hqs hqA)
    have hS2 : va_S (cO L ad qo s.heap.size) s.heap H1 locs1 := va_S_w hS1 (fun _ => Or.inl)
    refine W.widen (k := 2) (n := 12) (Nat.le_of_ble_eq_true rfl) (Nat.le_of_ble_eq_true rfl) ?_
    refine lv_i2l (v := r.toInt64) hx hb dL_at_10 rfl ?_
    refine out_st hx hb hK hP1 hPo1 (hD1.weaken (fun _ _ _ h9 => Or.inl h9)) (Or.inr rfl) (fun k q hk9 e9 => hqA (by rw [e9]; exact hD1.2 k q hk9)) hS2 dL_at_11 (fun H1 locs1 o1 ho1 hP1 hPo1 hS2 => ?_)
    refine lv_goto (tgt := 23) hx hb dL_at_12 (by decide) ?_
    refine lv_iconst (v := 0) hx hb dL_at_23 (by decide) ?_
    exact W.iret (v := 0) hx hb hr (fun t ht hW => ⟨⟨_, ((ad, L, al, u9), o1), rfl, ⟨(XT.rf hwd hL hLb), by show R 0 (o1 0) _ _; rw [ho1]; exact hR⟩, by show va_P _ _ _ t.heap; rw [ht]; exact hP1, by show va_P _ _ _ t.heap; rw [ht]; exact hPo1⟩, hS2.F ht⟩) hS2.2.2 dL_at_24
set_option maxRecDepth 100000 in
set_option maxHeartbeats 4000000 in
theorem c_L_multiplicity {l : Launch} {D : va_G} {cI cG cZ cJ : ClassId} {ts : Nat × Nat} {L : List Nat} {ad : Nat → Nat} {al : Nat} (hflag : l.stackTraces = false) (hL : Lf L al) (hLb : Lb L al) (hwd : WD L ad) (qo sz : Nat) (hq : ∀ k ∈ L, ad k ≠ qo) (u : St) (o : Nat → Int64) (a1 : Int32) (a2 : Int32) (R : Int32 → Int64 → Nat → St → Prop) (h : f_X6_multiplicity al a1 a2 u (fun r u9 => R 0 r.toInt64 al u9) (fun E u9 => (E = "java/lang/IndexOutOfBoundsException" ∧ R 1 (o 0) al u9))) : Met l yL_multiplicity wsL_multiplicity ({ frames := 8, cells := 2, slots := 12, locals := 133 }) (va_Pc [.ref (ad 0), .int a1, .int a2, .ref qo] (PW D cI cG cZ cJ ts L ad al sz u qo o)) (va_Qi (QW L ad sz R) (BW D cI cG cJ qo) (cO L ad qo sz)) 2 12 (cO L ad qo sz) := by
  refine met_ofWH (cc := cL_multiplicity) (maxL := 5) (ret := (some .int)) (hh := [(0, 10, 13, 24)]) (by decide) rfl ?_
  intro p e s m args below meth c s₁ B hml hv
  obtain ⟨rfl, hsz, hP, hPo, hC, hX, hN⟩ := hv
  have hx := B.exec
  have hb := B.bytes
  have hr := B.returns
  have hts := atoms_spec (ws := wsL_multiplicity) B.pre
  have hown : s.vm.findClass RL = some m.cls := findClass_of_methodNamed B.named
  have hlocks := B.notSynchronized
  have htab := vx_table (x := yL_multiplicity) B (hts _ List.mem_cons_self)
  subst hsz
  have hC' : CX D cI cG cZ cJ ts (cA L ad s.heap.size) s s.heap := hC.nar (fun _ => Or.inl)
  have hK := hC.1
  obtain ⟨i0, hi0⟩ := wL_ix (hL 0 (by omega))
  have hS : va_S (cA L ad s.heap.size) s.heap s.heap [] := va_S.rf
  have hqs := wOu_lt hPo
  have hqA : ¬ cA L ad s.heap.size qo := fun g => g.elim (fun ⟨k, hk, e⟩ => hq k hk e.symm) (fun g => absurd hqs (Nat.not_lt.mpr g))
  have hl := lv_entry ([.ref (ad 0), .int a1, .int a2, .ref qo]) (n := 5) (Nat.le_of_ble_eq_true rfl)
  rw [lg_entry_eq]
  generalize (lg_sl ([.ref (ad 0), .int a1, .int a2, .ref qo]) ++ List.replicate (5 - (lg_sl ([.ref (ad 0), .int a1, .int a2, .ref qo])).length) Slot.unset).toArray = ls at hl ⊢
  have hl : lv_has ls 5 [(0, .ref (ad 0)), (1, .int a1), (2, .int a2), (3, .ref qo)] := hl
  refine lv_aload_n hx hb dL_multiplicity_0 rfl (lv_at hl 3 rfl) ?_
  refine lv_iconst (v := 0) hx hb dL_multiplicity_1 (by decide) ?_
  refine lv_aload_n hx hb dL_multiplicity_2 rfl (lv_at hl 0 rfl) ?_
  refine lv_iload_n hx hb dL_multiplicity_3 rfl (lv_at hl 1 rfl) ?_
  refine lv_iload_n hx hb dL_multiplicity_4 rfl (lv_at hl 2 rfl) ?_
  refine vx_calli (vx_runV (C := RX6) (As := [.int a1, .int a2]) (rest := [.int 0, .ref qo]) ⟨hx, hb, hml, hown, hts⟩ (c_X6_multiplicity hflag hL hwd s.heap.size u a1 a2 _ _ h) (cwV 2 hts gL_multiplicity_X6_multiplicity rfl rfl rfl (by decide +kernel) ⟨Nat.le_of_ble_eq_true rfl, Nat.le_of_ble_eq_true rfl⟩) (pcVX hC' hX hP hS (cg_0 hi0) rfl) rfl rfl hl.1 rfl (lv_room (Nat.le_of_ble_eq_true rfl)) dL_multiplicity_5 ⟨Nat.le_of_ble_eq_true rfl, Nat.le_of_ble_eq_true rfl⟩) hS (fun q _ h9 => h9) (fun q h9 => h9) (fun q _ h9 => h9) ?_ ?_
  · intro E ce q9 u9 t H1 locs1 ht hvm _ hB hz hk hS1 hcell hv9 hcl
    obtain ⟨hqx, hP1⟩ := hB
    rw [ht] at hP1
    have hPo1 := wOu_kept hPo (hk qo hqs hqA)
    have hS2 : va_S (cO L ad qo s.heap.size) s.heap H1 locs1 := va_S_w hS1 (fun _ => Or.inl)
    refine vx_widen (k := 2) (n := 12) (Nat.le_of_ble_eq_true rfl) (Nat.le_of_ble_eq_true rfl) ?_
    obtain ⟨rfl, hR⟩ := hqx
    refine vx_catch (name := "java/lang/IndexOutOfBoundsException") hown [] ⟨0, 10, 13, 24⟩ [] htab (fun z hz => absurd hz List.not_mem_nil) rfl (by decide) (hts (.classLink RL 24 "java/lang/IndexOutOfBoundsException") (by decide +kernel)) (va_Nw.use rfl (hX.1 _ (by simp))) hcell hv9 hcl ?_
    refine W.eq (g2 := F0 m 13 ls [.ref q9]) rfl ?_
    refine lv_astore (lv' := [(4, .ref q9), (0, .ref (ad 0)), (1, .int a1), (2, .int a2), (3, .ref qo)]) hx hb dL_multiplicity_13 hl (by decide) rfl (fun ls hl => ?_)
    refine lv_iconst (v := 1) hx hb dL_multiplicity_15 (by decide) ?_
    exact W.iret (v := 1) hx hb hr (fun t ht hW => ⟨⟨_, ((ad, L, al, u9), o), rfl, ⟨XT.rf hwd hL hLb, hR⟩, by show va_P _ _ _ t.heap; rw [ht]; exact hP1, by show va_P _ _ _ t.heap; rw [ht]; exact hPo1⟩, hS2.F ht⟩) hS2.2.2 dL_multiplicity_16
  · intro r u9 t H1 locs1 ht hvm hR hB hz hk hS1
    have hP1 : va_P D vwCl (cW cI cG L ad al u9) H1 := by rw [← ht]; exact hB
    have hD1 : va_D (cA L ad s.heap.size) (cW cI cG L ad al u9) := cD hwd
    have hPo1 := wOu_kept hPo (hk qo hqs hqA)
    have hS2 : va_S (cO L ad qo s.heap.size) s.heap H1 locs1 := va_S_w hS1 (fun _ => Or.inl)
    refine W.widen (k := 2) (n := 12) (Nat.le_of_ble_eq_true rfl) (Nat.le_of_ble_eq_true rfl) ?_
    refine lv_i2l (v := r.toInt64) hx hb dL_multiplicity_8 rfl ?_
    refine out_st hx hb hK hP1 hPo1 (hD1.weaken (fun _ _ _ h9 => Or.inl h9)) (Or.inr rfl) (fun k q hk9 e9 => hqA (by rw [e9]; exact hD1.2 k q hk9)) hS2 dL_multiplicity_9 (fun H1 locs1 o1 ho1 hP1 hPo1 hS2 => ?_)
    refine lv_goto (tgt := 17) hx hb dL_multiplicity_10 (by decide) ?_
    refine lv_iconst (v := 0) hx hb dL_multiplicity_17 (by decide) ?_
    exact W.iret (v := 0) hx hb hr (fun t ht hW => ⟨⟨_, ((ad, L, al, u9), o1), rfl, ⟨(XT.rf hwd hL hLb), by show R 0 (o1 0) _ _; rw [ho1]; exact hR⟩, by show va_P _ _ _ t.heap; rw [ht]; exact hP1, by show va_P _ _ _ t.heap; rw [ht]; exact hPo1⟩, hS2.F ht⟩) hS2.2.2 dL_multiplicity_18
set_option maxRecDepth 100000 in
set_option maxHeartbeats 4000000 in
theorem c_L_generator {l : Launch} {D : va_G} {cI cG cZ cJ : ClassId} {ts : Nat × Nat} {L : List Nat} {ad : Nat → Nat} {al : Nat} (hflag : l.stackTraces = false) (hL : Lf L al) (hLb : Lb L al) (hwd : WD L ad) (qo sz : Nat) (hq : ∀ k ∈ L, ad k ≠ qo) (u : St) (o : Nat → Int64) (a1 : Int32) (a2 : Int32) (a3 : Int32) (a4 : Int32) (R : Int32 → Int64 → Nat → St → Prop) (h : f_X6_generator al a1 a2 a3 a4 u (fun al9 r u9 => R 0 r.toInt64 al9 u9) (fun E u9 => (E = "java/lang/IllegalArgumentException" ∧ R 1 (o 0) al u9) ∨ (E = "java/lang/IllegalStateException" ∧ R 2 (o 0) al u9))) : Met l yL_generator wsL_generator ({ frames := 7, cells := 2, slots := 3902, locals := 172 }) (va_Pc [.ref (ad 0), .int a1, .int a2, .int a3, .int a4, .ref qo] (PW D cI cG cZ cJ ts L ad al sz u qo o)) (va_Qi (QW L ad sz R) (BW D cI cG cJ qo) (cO L ad qo sz)) 2 3902 (cO L ad qo sz) := by
  refine met_ofWH (cc := cL_generator) (maxL := 7) (ret := (some .int)) (hh := [(0, 14, 17, 13), (0, 14, 21, 19)]) (by decide) rfl ?_
  intro p e s m args below meth c s₁ B hml hv
  obtain ⟨rfl, hsz, hP, hPo, hC, hX, hN⟩ := hv
  have hx := B.exec
  have hb := B.bytes
  have hr := B.returns
  have hts := atoms_spec (ws := wsL_generator) B.pre
  have hown : s.vm.findClass RL = some m.cls := findClass_of_methodNamed B.named
  have hlocks := B.notSynchronized
  have htab := vx_table (x := yL_generator) B (hts _ List.mem_cons_self)
  subst hsz
  have hC' : CX D cI cG cZ cJ ts (cA L ad s.heap.size) s s.heap := hC.nar (fun _ => Or.inl)
  have hK := hC.1
  obtain ⟨i0, hi0⟩ := wL_ix (hL 0 (by omega))
  have hS : va_S (cA L ad s.heap.size) s.heap s.heap [] := va_S.rf
  have hqs := wOu_lt hPo
  have hqA : ¬ cA L ad s.heap.size qo := fun g => g.elim (fun ⟨k, hk, e⟩ => hq k hk e.symm) (fun g => absurd hqs (Nat.not_lt.mpr g))
  have hl := lv_entry ([.ref (ad 0), .int a1, .int a2, .int a3, .int a4, .ref qo]) (n := 7) (Nat.le_of_ble_eq_true rfl)
  rw [lg_entry_eq]
  generalize (lg_sl ([.ref (ad 0), .int a1, .int a2, .int a3, .int a4, .ref qo]) ++ List.replicate (7 - (lg_sl ([.ref (ad 0), .int a1, .int a2, .int a3, .int a4, .ref qo])).length) Slot.unset).toArray = ls at hl ⊢
  have hl : lv_has ls 7 [(0, .ref (ad 0)), (1, .int a1), (2, .int a2), (3, .int a3), (4, .int a4), (5, .ref qo)] := hl
  refine lv_aload hx hb dL_generator_0 (lv_at hl 5 rfl) ?_
  refine lv_iconst (v := 0) hx hb dL_generator_2 (by decide) ?_
  refine lv_aload_n hx hb dL_generator_3 rfl (lv_at hl 0 rfl) ?_
  refine lv_iload_n hx hb dL_generator_4 rfl (lv_at hl 1 rfl) ?_
  refine lv_iload_n hx hb dL_generator_5 rfl (lv_at hl 2 rfl) ?_
  refine lv_iload_n hx hb dL_generator_6 rfl (lv_at hl 3 rfl) ?_
  refine lv_iload hx hb dL_generator_7 (lv_at hl 4 rfl) ?_
  refine vx_calli (vx_runV (C := RX6) (As := [.int a1, .int a2, .int a3, .int a4]) (rest := [.int 0, .ref qo]) ⟨hx, hb, hml, hown, hts⟩ (c_X6_generator hflag hL hLb hwd s.heap.size u a1 a2 a3 a4 _ _ h) (cwV 4 hts gL_generator_X6_generator rfl rfl rfl (by decide +kernel) ⟨Nat.le_of_ble_eq_true rfl, Nat.le_of_ble_eq_true rfl⟩) (pcVX hC' hX hP hS (cg_0 hi0) rfl) rfl rfl hl.1 rfl (lv_room (Nat.le_of_ble_eq_true rfl)) dL_generator_9 ⟨Nat.le_of_ble_eq_true rfl, Nat.le_of_ble_eq_true rfl⟩) hS (fun q _ h9 => h9) (fun q h9 => h9) (fun q _ h9 => h9) ?_ ?_
  · intro E ce q9 u9 t H1 locs1 ht hvm _ hB hz hk hS1 hcell hv9 hcl
    obtain ⟨hqx, hP1⟩ := hB
    rw [ht] at hP1
    have hPo1 := wOu_kept hPo (hk qo hqs hqA)
    have hS2 : va_S (cO L ad qo s.heap.size) s.heap H1 locs1 := va_S_w hS1 (fun _ => Or.inl)
    refine vx_widen (k := 2) (n := 3902) (Nat.le_of_ble_eq_true rfl) (Nat.le_of_ble_eq_true rfl) ?_
    rcases hqx with ⟨rfl, hR⟩ | ⟨rfl, hR⟩
    · refine vx_catch (name := "java/lang/IllegalArgumentException") hown [] ⟨0, 14, 17, 13⟩ [⟨0, 14, 21, 19⟩] htab (fun z hz => absurd hz List.not_mem_nil) rfl (by decide) (hts (.classLink RL 13 "java/lang/IllegalArgumentException") (by decide +kernel)) (va_Nw.use rfl (hX.1 _ (by simp))) hcell hv9 hcl ?_
      refine W.eq (g2 := F0 m 17 ls [.ref q9]) rfl ?_
      refine lv_astore (lv' := [(6, .ref q9), (0, .ref (ad 0)), (1, .int a1), (2, .int a2), (3, .int a3), (4, .int a4), (5, .ref qo)]) hx hb dL_generator_17 hl (by decide) rfl (fun ls hl => ?_)
      refine lv_iconst (v := 1) hx hb dL_generator_19 (by decide) ?_
      exact W.iret (v := 1) hx hb hr (fun t ht hW => ⟨⟨_, ((ad, L, al, u9), o), rfl, ⟨XT.rf hwd hL hLb, hR⟩, by show va_P _ _ _ t.heap; rw [ht]; exact hP1, by show va_P _ _ _ t.heap; rw [ht]; exact hPo1⟩, hS2.F ht⟩) hS2.2.2 dL_generator_20
    · refine vx_catch (name := "java/lang/IllegalStateException") hown [⟨0, 14, 17, 13⟩] ⟨0, 14, 21, 19⟩ [] htab (fun z hz => by rw [List.mem_singleton.mp hz]; exact Or.inr ⟨by decide, "java/lang/IllegalArgumentException", hts (.classLink RL 13 "java/lang/IllegalArgumentException") (by decide +kernel), hN.1⟩) rfl (by decide) (hts (.classLink RL 19 "java/lang/IllegalStateException") (by decide +kernel)) (va_Nw.use rfl (hX.1 _ (by simp))) hcell hv9 hcl ?_
      refine W.eq (g2 := F0 m 21 ls [.ref q9]) rfl ?_
      refine lv_astore (lv' := [(6, .ref q9), (0, .ref (ad 0)), (1, .int a1), (2, .int a2), (3, .int a3), (4, .int a4), (5, .ref qo)]) hx hb dL_generator_21 hl (by decide) rfl (fun ls hl => ?_)
      refine lv_iconst (v := 2) hx hb dL_generator_23 (by decide) ?_
      exact W.iret (v := 2) hx hb hr (fun t ht hW => ⟨⟨_, ((ad, L, al, u9), o), rfl, ⟨XT.rf hwd hL hLb, hR⟩, by show va_P _ _ _ t.heap; rw [ht]; exact hP1, by show va_P _ _ _ t.heap; rw [ht]; exact hPo1⟩, hS2.F ht⟩) hS2.2.2 dL_generator_24
  · intro r z t H1 locs1 ht hvm hR hB hz hk hS1
    obtain ⟨ad9, L9, al9, u9⟩ := z
    obtain ⟨hXT, hR⟩ := hR
    have hP1 : va_P D vwCl (cW cI cG L9 ad9 al9 u9) H1 := by rw [← ht]; exact hB
    have hD1 : va_D (cA L ad s.heap.size) (cW cI cG L9 ad9 al9 u9) := by rw [← hXT.2.2.2.1]; exact cD hXT.1
    have hPo1 := wOu_kept hPo (hk qo hqs hqA)
    have hS2 : va_S (cO L ad qo s.heap.size) s.heap H1 locs1 := va_S_w hS1 (fun _ => Or.inl)
    refine W.widen (k := 2) (n := 3902) (Nat.le_of_ble_eq_true rfl) (Nat.le_of_ble_eq_true rfl) ?_
    refine lv_i2l (v := r.toInt64) hx hb dL_generator_12 rfl ?_
    refine out_st hx hb hK hP1 hPo1 (hD1.weaken (fun _ _ _ h9 => Or.inl h9)) (Or.inr rfl) (fun k q hk9 e9 => hqA (by rw [e9]; exact hD1.2 k q hk9)) hS2 dL_generator_13 (fun H1 locs1 o1 ho1 hP1 hPo1 hS2 => ?_)
    refine lv_goto (tgt := 25) hx hb dL_generator_14 (by decide) ?_
    refine lv_iconst (v := 0) hx hb dL_generator_25 (by decide) ?_
    exact W.iret (v := 0) hx hb hr (fun t ht hW => ⟨⟨_, ((ad9, L9, al9, u9), o1), rfl, ⟨hXT, by show R 0 (o1 0) _ _; rw [ho1]; exact hR⟩, by show va_P _ _ _ t.heap; rw [ht]; exact hP1, by show va_P _ _ _ t.heap; rw [ht]; exact hPo1⟩, hS2.F ht⟩) hS2.2.2 dL_generator_26
set_option maxRecDepth 100000 in
set_option maxHeartbeats 4000000 in
theorem c_L_changed {l : Launch} {D : va_G} {cI cG cZ cJ : ClassId} {ts : Nat × Nat} {L : List Nat} {ad : Nat → Nat} {al : Nat} (hflag : l.stackTraces = false) (hL : Lf L al) (hLb : Lb L al) (hwd : WD L ad) (qo sz : Nat) (hq : ∀ k ∈ L, ad k ≠ qo) (u : St) (o : Nat → Int64) (a1 : Int32) (a2 : Int32) (R : Int32 → Int64 → Nat → St → Prop) (h : f_X6_changed al a1 a2 u (fun r u9 => R 0 r.toInt64 al u9) (fun E u9 => (E = "java/lang/IndexOutOfBoundsException" ∧ R 1 (o 0) al u9))) : Met l yL_changed wsL_changed ({ frames := 8, cells := 2, slots := 12, locals := 133 }) (va_Pc [.ref (ad 0), .int a1, .int a2, .ref qo] (PW D cI cG cZ cJ ts L ad al sz u qo o)) (va_Qi (QW L ad sz R) (BW D cI cG cJ qo) (cO L ad qo sz)) 2 12 (cO L ad qo sz) := by
  refine met_ofWH (cc := cL_changed) (maxL := 5) (ret := (some .int)) (hh := [(0, 10, 13, 24)]) (by decide) rfl ?_
  intro p e s m args below meth c s₁ B hml hv
  obtain ⟨rfl, hsz, hP, hPo, hC, hX, hN⟩ := hv
  have hx := B.exec
  have hb := B.bytes
  have hr := B.returns
  have hts := atoms_spec (ws := wsL_changed) B.pre
  have hown : s.vm.findClass RL = some m.cls := findClass_of_methodNamed B.named
  have hlocks := B.notSynchronized
  have htab := vx_table (x := yL_changed) B (hts _ List.mem_cons_self)
  subst hsz
  have hC' : CX D cI cG cZ cJ ts (cA L ad s.heap.size) s s.heap := hC.nar (fun _ => Or.inl)
  have hK := hC.1
  obtain ⟨i0, hi0⟩ := wL_ix (hL 0 (by omega))
  have hS : va_S (cA L ad s.heap.size) s.heap s.heap [] := va_S.rf
  have hqs := wOu_lt hPo
  have hqA : ¬ cA L ad s.heap.size qo := fun g => g.elim (fun ⟨k, hk, e⟩ => hq k hk e.symm) (fun g => absurd hqs (Nat.not_lt.mpr g))
  have hl := lv_entry ([.ref (ad 0), .int a1, .int a2, .ref qo]) (n := 5) (Nat.le_of_ble_eq_true rfl)
  rw [lg_entry_eq]
  generalize (lg_sl ([.ref (ad 0), .int a1, .int a2, .ref qo]) ++ List.replicate (5 - (lg_sl ([.ref (ad 0), .int a1, .int a2, .ref qo])).length) Slot.unset).toArray = ls at hl ⊢
  have hl : lv_has ls 5 [(0, .ref (ad 0)), (1, .int a1), (2, .int a2), (3, .ref qo)] := hl
  refine lv_aload_n hx hb dL_changed_0 rfl (lv_at hl 3 rfl) ?_
  refine lv_iconst (v := 0) hx hb dL_changed_1 (by decide) ?_
  refine lv_aload_n hx hb dL_changed_2 rfl (lv_at hl 0 rfl) ?_
  refine lv_iload_n hx hb dL_changed_3 rfl (lv_at hl 1 rfl) ?_
  refine lv_iload_n hx hb dL_changed_4 rfl (lv_at hl 2 rfl) ?_
  refine vx_calli (vx_runV (C := RX6) (As := [.int a1, .int a2]) (rest := [.int 0, .ref qo]) ⟨hx, hb, hml, hown, hts⟩ (c_X6_changed hflag hL hwd s.heap.size u a1 a2 _ _ h) (cwV 2 hts gL_changed_X6_changed rfl rfl rfl (by decide +kernel) ⟨Nat.le_of_ble_eq_true rfl, Nat.le_of_ble_eq_true rfl⟩) (pcVX hC' hX hP hS (cg_0 hi0) rfl) rfl rfl hl.1 rfl (lv_room (Nat.le_of_ble_eq_true rfl)) dL_changed_5 ⟨Nat.le_of_ble_eq_true rfl, Nat.le_of_ble_eq_true rfl⟩) hS (fun q _ h9 => h9) (fun q h9 => h9) (fun q _ h9 => h9) ?_ ?_
  · intro E ce q9 u9 t H1 locs1 ht hvm _ hB hz hk hS1 hcell hv9 hcl
    obtain ⟨hqx, hP1⟩ := hB
    rw [ht] at hP1
    have hPo1 := wOu_kept hPo (hk qo hqs hqA)
    have hS2 : va_S (cO L ad qo s.heap.size) s.heap H1 locs1 := va_S_w hS1 (fun _ => Or.inl)
    refine vx_widen (k := 2) (n := 12) (Nat.le_of_ble_eq_true rfl) (Nat.le_of_ble_eq_true rfl) ?_
    obtain ⟨rfl, hR⟩ := hqx
    refine vx_catch (name := "java/lang/IndexOutOfBoundsException") hown [] ⟨0, 10, 13, 24⟩ [] htab (fun z hz => absurd hz List.not_mem_nil) rfl (by decide) (hts (.classLink RL 24 "java/lang/IndexOutOfBoundsException") (by decide +kernel)) (va_Nw.use rfl (hX.1 _ (by simp))) hcell hv9 hcl ?_
    refine W.eq (g2 := F0 m 13 ls [.ref q9]) rfl ?_
    refine lv_astore (lv' := [(4, .ref q9), (0, .ref (ad 0)), (1, .int a1), (2, .int a2), (3, .ref qo)]) hx hb dL_changed_13 hl (by decide) rfl (fun ls hl => ?_)
    refine lv_iconst (v := 1) hx hb dL_changed_15 (by decide) ?_
    exact W.iret (v := 1) hx hb hr (fun t ht hW => ⟨⟨_, ((ad, L, al, u9), o), rfl, ⟨XT.rf hwd hL hLb, hR⟩, by show va_P _ _ _ t.heap; rw [ht]; exact hP1, by show va_P _ _ _ t.heap; rw [ht]; exact hPo1⟩, hS2.F ht⟩) hS2.2.2 dL_changed_16
  · intro r u9 t H1 locs1 ht hvm hR hB hz hk hS1
    have hP1 : va_P D vwCl (cW cI cG L ad al u9) H1 := by rw [← ht]; exact hB
    have hD1 : va_D (cA L ad s.heap.size) (cW cI cG L ad al u9) := cD hwd
    have hPo1 := wOu_kept hPo (hk qo hqs hqA)
    have hS2 : va_S (cO L ad qo s.heap.size) s.heap H1 locs1 := va_S_w hS1 (fun _ => Or.inl)
    refine W.widen (k := 2) (n := 12) (Nat.le_of_ble_eq_true rfl) (Nat.le_of_ble_eq_true rfl) ?_
    refine lv_i2l (v := r.toInt64) hx hb dL_changed_8 rfl ?_
    refine out_st hx hb hK hP1 hPo1 (hD1.weaken (fun _ _ _ h9 => Or.inl h9)) (Or.inr rfl) (fun k q hk9 e9 => hqA (by rw [e9]; exact hD1.2 k q hk9)) hS2 dL_changed_9 (fun H1 locs1 o1 ho1 hP1 hPo1 hS2 => ?_)
    refine lv_goto (tgt := 17) hx hb dL_changed_10 (by decide) ?_
    refine lv_iconst (v := 0) hx hb dL_changed_17 (by decide) ?_
    exact W.iret (v := 0) hx hb hr (fun t ht hW => ⟨⟨_, ((ad, L, al, u9), o1), rfl, ⟨(XT.rf hwd hL hLb), by show R 0 (o1 0) _ _; rw [ho1]; exact hR⟩, by show va_P _ _ _ t.heap; rw [ht]; exact hP1, by show va_P _ _ _ t.heap; rw [ht]; exact hPo1⟩, hS2.F ht⟩) hS2.2.2 dL_changed_18
set_option maxRecDepth 100000 in
set_option maxHeartbeats 4000000 in
theorem c_L_average {l : Launch} {D : va_G} {cI cG cZ cJ : ClassId} {ts : Nat × Nat} {L : List Nat} {ad : Nat → Nat} {al : Nat} (hflag : l.stackTraces = false) (hL : Lf L al) (hLb : Lb L al) (hwd : WD L ad) (qo sz : Nat) (hq : ∀ k ∈ L, ad k ≠ qo) (u : St) (o : Nat → Int64) (a1 : Int32) (R : Int32 → Int64 → Nat → St → Prop) (h : f_X6_average al a1 u (fun r u9 => R 0 r.toInt64 al u9) (fun E u9 => (E = "java/lang/IndexOutOfBoundsException" ∧ R 1 (o 0) al u9))) : Met l yL_average wsL_average ({ frames := 8, cells := 1, slots := 6, locals := 137 }) (va_Pc [.ref (ad 0), .int a1, .ref qo] (PW D cI cG cZ cJ ts L ad al sz u qo o)) (va_Qi (QW L ad sz R) (BW D cI cG cJ qo) (cO L ad qo sz)) 1 6 (cO L ad qo sz) := by
  refine met_ofWH (cc := cL_average) (maxL := 4) (ret := (some .int)) (hh := [(0, 9, 12, 24)]) (by decide) rfl ?_
  intro p e s m args below meth c s₁ B hml hv
  obtain ⟨rfl, hsz, hP, hPo, hC, hX, hN⟩ := hv
  have hx := B.exec
  have hb := B.bytes
  have hr := B.returns
  have hts := atoms_spec (ws := wsL_average) B.pre
  have hown : s.vm.findClass RL = some m.cls := findClass_of_methodNamed B.named
  have hlocks := B.notSynchronized
  have htab := vx_table (x := yL_average) B (hts _ List.mem_cons_self)
  subst hsz
  have hC' : CX D cI cG cZ cJ ts (cA L ad s.heap.size) s s.heap := hC.nar (fun _ => Or.inl)
  have hK := hC.1
  obtain ⟨i0, hi0⟩ := wL_ix (hL 0 (by omega))
  have hS : va_S (cA L ad s.heap.size) s.heap s.heap [] := va_S.rf
  have hqs := wOu_lt hPo
  have hqA : ¬ cA L ad s.heap.size qo := fun g => g.elim (fun ⟨k, hk, e⟩ => hq k hk e.symm) (fun g => absurd hqs (Nat.not_lt.mpr g))
  have hl := lv_entry ([.ref (ad 0), .int a1, .ref qo]) (n := 4) (Nat.le_of_ble_eq_true rfl)
  rw [lg_entry_eq]
  generalize (lg_sl ([.ref (ad 0), .int a1, .ref qo]) ++ List.replicate (4 - (lg_sl ([.ref (ad 0), .int a1, .ref qo])).length) Slot.unset).toArray = ls at hl ⊢
  have hl : lv_has ls 4 [(0, .ref (ad 0)), (1, .int a1), (2, .ref qo)] := hl
  refine lv_aload_n hx hb dL_average_0 rfl (lv_at hl 2 rfl) ?_
  refine lv_iconst (v := 0) hx hb dL_average_1 (by decide) ?_
  refine lv_aload_n hx hb dL_average_2 rfl (lv_at hl 0 rfl) ?_
  refine lv_iload_n hx hb dL_average_3 rfl (lv_at hl 1 rfl) ?_
  refine vx_calli (vx_runV (C := RX6) (As := [.int a1]) (rest := [.int 0, .ref qo]) ⟨hx, hb, hml, hown, hts⟩ (c_X6_average hflag hL hwd s.heap.size u a1 _ _ h) (cwV 1 hts gL_average_X6_average rfl rfl rfl (by decide +kernel) ⟨Nat.le_of_ble_eq_true rfl, Nat.le_of_ble_eq_true rfl⟩) (pcVX hC' hX hP hS (cg_0 hi0) rfl) rfl rfl hl.1 rfl (lv_room (Nat.le_of_ble_eq_true rfl)) dL_average_4 ⟨Nat.le_of_ble_eq_true rfl, Nat.le_of_ble_eq_true rfl⟩) hS (fun q _ h9 => h9) (fun q h9 => h9) (fun q _ h9 => h9) ?_ ?_
  · intro E ce q9 u9 t H1 locs1 ht hvm _ hB hz hk hS1 hcell hv9 hcl
    obtain ⟨hqx, hP1⟩ := hB
    rw [ht] at hP1
    have hPo1 := wOu_kept hPo (hk qo hqs hqA)
    have hS2 : va_S (cO L ad qo s.heap.size) s.heap H1 locs1 := va_S_w hS1 (fun _ => Or.inl)
    refine vx_widen (k := 1) (n := 6) (Nat.le_of_ble_eq_true rfl) (Nat.le_of_ble_eq_true rfl) ?_
    obtain ⟨rfl, hR⟩ := hqx
    refine vx_catch (name := "java/lang/IndexOutOfBoundsException") hown [] ⟨0, 9, 12, 24⟩ [] htab (fun z hz => absurd hz List.not_mem_nil) rfl (by decide) (hts (.classLink RL 24 "java/lang/IndexOutOfBoundsException") (by decide +kernel)) (va_Nw.use rfl (hX.1 _ (by simp))) hcell hv9 hcl ?_
    refine W.eq (g2 := F0 m 12 ls [.ref q9]) rfl ?_
    refine lv_astore_n (lv' := [(3, .ref q9), (0, .ref (ad 0)), (1, .int a1), (2, .ref qo)]) hx hb dL_average_12 rfl hl (by decide) rfl (fun ls hl => ?_)
    refine lv_iconst (v := 1) hx hb dL_average_13 (by decide) ?_
    exact W.iret (v := 1) hx hb hr (fun t ht hW => ⟨⟨_, ((ad, L, al, u9), o), rfl, ⟨XT.rf hwd hL hLb, hR⟩, by show va_P _ _ _ t.heap; rw [ht]; exact hP1, by show va_P _ _ _ t.heap; rw [ht]; exact hPo1⟩, hS2.F ht⟩) hS2.2.2 dL_average_14
  · intro r u9 t H1 locs1 ht hvm hR hB hz hk hS1
    have hP1 : va_P D vwCl (cW cI cG L ad al u9) H1 := by rw [← ht]; exact hB
    have hD1 : va_D (cA L ad s.heap.size) (cW cI cG L ad al u9) := cD hwd
    have hPo1 := wOu_kept hPo (hk qo hqs hqA)
    have hS2 : va_S (cO L ad qo s.heap.size) s.heap H1 locs1 := va_S_w hS1 (fun _ => Or.inl)
    refine W.widen (k := 1) (n := 6) (Nat.le_of_ble_eq_true rfl) (Nat.le_of_ble_eq_true rfl) ?_
    refine lv_i2l (v := r.toInt64) hx hb dL_average_7 rfl ?_
    refine out_st hx hb hK hP1 hPo1 (hD1.weaken (fun _ _ _ h9 => Or.inl h9)) (Or.inr rfl) (fun k q hk9 e9 => hqA (by rw [e9]; exact hD1.2 k q hk9)) hS2 dL_average_8 (fun H1 locs1 o1 ho1 hP1 hPo1 hS2 => ?_)
    refine lv_goto (tgt := 15) hx hb dL_average_9 (by decide) ?_
    refine lv_iconst (v := 0) hx hb dL_average_15 (by decide) ?_
    exact W.iret (v := 0) hx hb hr (fun t ht hW => ⟨⟨_, ((ad, L, al, u9), o1), rfl, ⟨(XT.rf hwd hL hLb), by show R 0 (o1 0) _ _; rw [ho1]; exact hR⟩, by show va_P _ _ _ t.heap; rw [ht]; exact hP1, by show va_P _ _ _ t.heap; rw [ht]; exact hPo1⟩, hS2.F ht⟩) hS2.2.2 dL_average_16
set_option maxRecDepth 100000 in
set_option maxHeartbeats 4000000 in
theorem c_L_dimension {l : Launch} {D : va_G} {cI cG cZ cJ : ClassId} {ts : Nat × Nat} {L : List Nat} {ad : Nat → Nat} {al : Nat} (hflag : l.stackTraces = false) (hL : Lf L al) (hLb : Lb L al) (hwd : WD L ad) (qo sz : Nat) (hq : ∀ k ∈ L, ad k ≠ qo) (u : St) (o : Nat → Int64) (a1 : Int32) (R : Int32 → Int64 → Nat → St → Prop) (h : f_X6_dimension al a1 u (fun r u9 => R 0 r.toInt64 al u9) (fun E u9 => (E = "java/lang/IllegalArgumentException" ∧ R 1 (o 0) al u9))) : Met l yL_dimension wsL_dimension ({ frames := 8, cells := 1, slots := 6, locals := 137 }) (va_Pc [.ref (ad 0), .int a1, .ref qo] (PW D cI cG cZ cJ ts L ad al sz u qo o)) (va_Qi (QW L ad sz R) (BW D cI cG cJ qo) (cO L ad qo sz)) 1 6 (cO L ad qo sz) := by
  refine met_ofWH (cc := cL_dimension) (maxL := 4) (ret := (some .int)) (hh := [(0, 9, 12, 13)]) (by decide) rfl ?_
  intro p e s m args below meth c s₁ B hml hv
  obtain ⟨rfl, hsz, hP, hPo, hC, hX, hN⟩ := hv
  have hx := B.exec
  have hb := B.bytes
  have hr := B.returns
  have hts := atoms_spec (ws := wsL_dimension) B.pre
  have hown : s.vm.findClass RL = some m.cls := findClass_of_methodNamed B.named
  have hlocks := B.notSynchronized
  have htab := vx_table (x := yL_dimension) B (hts _ List.mem_cons_self)
  subst hsz
  have hC' : CX D cI cG cZ cJ ts (cA L ad s.heap.size) s s.heap := hC.nar (fun _ => Or.inl)
  have hK := hC.1
  obtain ⟨i0, hi0⟩ := wL_ix (hL 0 (by omega))
  have hS : va_S (cA L ad s.heap.size) s.heap s.heap [] := va_S.rf
  have hqs := wOu_lt hPo
  have hqA : ¬ cA L ad s.heap.size qo := fun g => g.elim (fun ⟨k, hk, e⟩ => hq k hk e.symm) (fun g => absurd hqs (Nat.not_lt.mpr g))
  have hl := lv_entry ([.ref (ad 0), .int a1, .ref qo]) (n := 4) (Nat.le_of_ble_eq_true rfl)
  rw [lg_entry_eq]
  generalize (lg_sl ([.ref (ad 0), .int a1, .ref qo]) ++ List.replicate (4 - (lg_sl ([.ref (ad 0), .int a1, .ref qo])).length) Slot.unset).toArray = ls at hl ⊢
  have hl : lv_has ls 4 [(0, .ref (ad 0)), (1, .int a1), (2, .ref qo)] := hl
  refine lv_aload_n hx hb dL_dimension_0 rfl (lv_at hl 2 rfl) ?_
  refine lv_iconst (v := 0) hx hb dL_dimension_1 (by decide) ?_
  refine lv_aload_n hx hb dL_dimension_2 rfl (lv_at hl 0 rfl) ?_
  refine lv_iload_n hx hb dL_dimension_3 rfl (lv_at hl 1 rfl) ?_
  refine vx_calli (vx_runV (C := RX6) (As := [.int a1]) (rest := [.int 0, .ref qo]) ⟨hx, hb, hml, hown, hts⟩ (c_X6_dimension hflag hL hwd s.heap.size u a1 _ _ h) (cwV 1 hts gL_dimension_X6_dimension rfl rfl rfl (by decide +kernel) ⟨Nat.le_of_ble_eq_true rfl, Nat.le_of_ble_eq_true rfl⟩) (pcVX hC' hX hP hS (cg_0 hi0) rfl) rfl rfl hl.1 rfl (lv_room (Nat.le_of_ble_eq_true rfl)) dL_dimension_4 ⟨Nat.le_of_ble_eq_true rfl, Nat.le_of_ble_eq_true rfl⟩) hS (fun q _ h9 => h9) (fun q h9 => h9) (fun q _ h9 => h9) ?_ ?_
  · intro E ce q9 u9 t H1 locs1 ht hvm _ hB hz hk hS1 hcell hv9 hcl
    obtain ⟨hqx, hP1⟩ := hB
    rw [ht] at hP1
    have hPo1 := wOu_kept hPo (hk qo hqs hqA)
    have hS2 : va_S (cO L ad qo s.heap.size) s.heap H1 locs1 := va_S_w hS1 (fun _ => Or.inl)
    refine vx_widen (k := 1) (n := 6) (Nat.le_of_ble_eq_true rfl) (Nat.le_of_ble_eq_true rfl) ?_
    obtain ⟨rfl, hR⟩ := hqx
    refine vx_catch (name := "java/lang/IllegalArgumentException") hown [] ⟨0, 9, 12, 13⟩ [] htab (fun z hz => absurd hz List.not_mem_nil) rfl (by decide) (hts (.classLink RL 13 "java/lang/IllegalArgumentException") (by decide +kernel)) (va_Nw.use rfl (hX.1 _ (by simp))) hcell hv9 hcl ?_
    refine W.eq (g2 := F0 m 12 ls [.ref q9]) rfl ?_
    refine lv_astore_n (lv' := [(3, .ref q9), (0, .ref (ad 0)), (1, .int a1), (2, .ref qo)]) hx hb dL_dimension_12 rfl hl (by decide) rfl (fun ls hl => ?_)
    refine lv_iconst (v := 1) hx hb dL_dimension_13 (by decide) ?_
    exact W.iret (v := 1) hx hb hr (fun t ht hW => ⟨⟨_, ((ad, L, al, u9), o), rfl, ⟨XT.rf hwd hL hLb, hR⟩, by show va_P _ _ _ t.heap; rw [ht]; exact hP1, by show va_P _ _ _ t.heap; rw [ht]; exact hPo1⟩, hS2.F ht⟩) hS2.2.2 dL_dimension_14
  · intro r u9 t H1 locs1 ht hvm hR hB hz hk hS1
    have hP1 : va_P D vwCl (cW cI cG L ad al u9) H1 := by rw [← ht]; exact hB
    have hD1 : va_D (cA L ad s.heap.size) (cW cI cG L ad al u9) := cD hwd
    have hPo1 := wOu_kept hPo (hk qo hqs hqA)
    have hS2 : va_S (cO L ad qo s.heap.size) s.heap H1 locs1 := va_S_w hS1 (fun _ => Or.inl)
    refine W.widen (k := 1) (n := 6) (Nat.le_of_ble_eq_true rfl) (Nat.le_of_ble_eq_true rfl) ?_
    refine lv_i2l (v := r.toInt64) hx hb dL_dimension_7 rfl ?_
    refine out_st hx hb hK hP1 hPo1 (hD1.weaken (fun _ _ _ h9 => Or.inl h9)) (Or.inr rfl) (fun k q hk9 e9 => hqA (by rw [e9]; exact hD1.2 k q hk9)) hS2 dL_dimension_8 (fun H1 locs1 o1 ho1 hP1 hPo1 hS2 => ?_)
    refine lv_goto (tgt := 15) hx hb dL_dimension_9 (by decide) ?_
    refine lv_iconst (v := 0) hx hb dL_dimension_15 (by decide) ?_
    exact W.iret (v := 0) hx hb hr (fun t ht hW => ⟨⟨_, ((ad, L, al, u9), o1), rfl, ⟨(XT.rf hwd hL hLb), by show R 0 (o1 0) _ _; rw [ho1]; exact hR⟩, by show va_P _ _ _ t.heap; rw [ht]; exact hP1, by show va_P _ _ _ t.heap; rw [ht]; exact hPo1⟩, hS2.F ht⟩) hS2.2.2 dL_dimension_16
set_option maxRecDepth 100000 in
set_option maxHeartbeats 4000000 in
theorem c_L_dimensionAnew {l : Launch} {D : va_G} {cI cG cZ cJ : ClassId} {ts : Nat × Nat} {L : List Nat} {ad : Nat → Nat} {al : Nat} (hflag : l.stackTraces = false) (hL : Lf L al) (hLb : Lb L al) (hwd : WD L ad) (qo sz : Nat) (hq : ∀ k ∈ L, ad k ≠ qo) (u : St) (o : Nat → Int64) (a1 : Int32) (R : Int32 → Int64 → Nat → St → Prop) (h : f_X6_dimensionAnew al a1 u (fun r u9 => R 0 r.toInt64 al u9) (fun E u9 => (E = "java/lang/IllegalArgumentException" ∧ R 1 (o 0) al u9))) : Met l yL_dimensionAnew wsL_dimensionAnew ({ frames := 8, cells := 1, slots := 6, locals := 134 }) (va_Pc [.ref (ad 0), .int a1, .ref qo] (PW D cI cG cZ cJ ts L ad al sz u qo o)) (va_Qi (QW L ad sz R) (BW D cI cG cJ qo) (cO L ad qo sz)) 1 6 (cO L ad qo sz) := by
  refine met_ofWH (cc := cL_dimensionAnew) (maxL := 4) (ret := (some .int)) (hh := [(0, 9, 12, 13)]) (by decide) rfl ?_
  intro p e s m args below meth c s₁ B hml hv
  obtain ⟨rfl, hsz, hP, hPo, hC, hX, hN⟩ := hv
  have hx := B.exec
  have hb := B.bytes
  have hr := B.returns
  have hts := atoms_spec (ws := wsL_dimensionAnew) B.pre
  have hown : s.vm.findClass RL = some m.cls := findClass_of_methodNamed B.named
  have hlocks := B.notSynchronized
  have htab := vx_table (x := yL_dimensionAnew) B (hts _ List.mem_cons_self)
  subst hsz
  have hC' : CX D cI cG cZ cJ ts (cA L ad s.heap.size) s s.heap := hC.nar (fun _ => Or.inl)
  have hK := hC.1
  obtain ⟨i0, hi0⟩ := wL_ix (hL 0 (by omega))
  have hS : va_S (cA L ad s.heap.size) s.heap s.heap [] := va_S.rf
  have hqs := wOu_lt hPo
  have hqA : ¬ cA L ad s.heap.size qo := fun g => g.elim (fun ⟨k, hk, e⟩ => hq k hk e.symm) (fun g => absurd hqs (Nat.not_lt.mpr g))
  have hl := lv_entry ([.ref (ad 0), .int a1, .ref qo]) (n := 4) (Nat.le_of_ble_eq_true rfl)
  rw [lg_entry_eq]
  generalize (lg_sl ([.ref (ad 0), .int a1, .ref qo]) ++ List.replicate (4 - (lg_sl ([.ref (ad 0), .int a1, .ref qo])).length) Slot.unset).toArray = ls at hl ⊢
  have hl : lv_has ls 4 [(0, .ref (ad 0)), (1, .int a1), (2, .ref qo)] := hl
  refine lv_aload_n hx hb dL_dimensionAnew_0 rfl (lv_at hl 2 rfl) ?_
  refine lv_iconst (v := 0) hx hb dL_dimensionAnew_1 (by decide) ?_
  refine lv_aload_n hx hb dL_dimensionAnew_2 rfl (lv_at hl 0 rfl) ?_
  refine lv_iload_n hx hb dL_dimensionAnew_3 rfl (lv_at hl 1 rfl) ?_
  refine vx_calli (vx_runV (C := RX6) (As := [.int a1]) (rest := [.int 0, .ref qo]) ⟨hx, hb, hml, hown, hts⟩ (c_X6_dimensionAnew hflag hL hwd s.heap.size u a1 _ _ h) (cwV 1 hts gL_dimensionAnew_X6_dimensionAnew rfl rfl rfl (by decide +kernel) ⟨Nat.le_of_ble_eq_true rfl, Nat.le_of_ble_eq_true rfl⟩) (pcVX hC' hX hP hS (cg_0 hi0) rfl) rfl rfl hl.1 rfl (lv_room (Nat.le_of_ble_eq_true rfl)) dL_dimensionAnew_4 ⟨Nat.le_of_ble_eq_true rfl, Nat.le_of_ble_eq_true rfl⟩) hS (fun q _ h9 => h9) (fun q h9 => h9) (fun q _ h9 => h9) ?_ ?_
  · intro E ce q9 u9 t H1 locs1 ht hvm _ hB hz hk hS1 hcell hv9 hcl
    obtain ⟨hqx, hP1⟩ := hB
    rw [ht] at hP1
    have hPo1 := wOu_kept hPo (hk qo hqs hqA)
    have hS2 : va_S (cO L ad qo s.heap.size) s.heap H1 locs1 := va_S_w hS1 (fun _ => Or.inl)
    refine vx_widen (k := 1) (n := 6) (Nat.le_of_ble_eq_true rfl) (Nat.le_of_ble_eq_true rfl) ?_
    obtain ⟨rfl, hR⟩ := hqx
    refine vx_catch (name := "java/lang/IllegalArgumentException") hown [] ⟨0, 9, 12, 13⟩ [] htab (fun z hz => absurd hz List.not_mem_nil) rfl (by decide) (hts (.classLink RL 13 "java/lang/IllegalArgumentException") (by decide +kernel)) (va_Nw.use rfl (hX.1 _ (by simp))) hcell hv9 hcl ?_
    refine W.eq (g2 := F0 m 12 ls [.ref q9]) rfl ?_
    refine lv_astore_n (lv' := [(3, .ref q9), (0, .ref (ad 0)), (1, .int a1), (2, .ref qo)]) hx hb dL_dimensionAnew_12 rfl hl (by decide) rfl (fun ls hl => ?_)
    refine lv_iconst (v := 1) hx hb dL_dimensionAnew_13 (by decide) ?_
    exact W.iret (v := 1) hx hb hr (fun t ht hW => ⟨⟨_, ((ad, L, al, u9), o), rfl, ⟨XT.rf hwd hL hLb, hR⟩, by show va_P _ _ _ t.heap; rw [ht]; exact hP1, by show va_P _ _ _ t.heap; rw [ht]; exact hPo1⟩, hS2.F ht⟩) hS2.2.2 dL_dimensionAnew_14
  · intro r u9 t H1 locs1 ht hvm hR hB hz hk hS1
    have hP1 : va_P D vwCl (cW cI cG L ad al u9) H1 := by rw [← ht]; exact hB
    have hD1 : va_D (cA L ad s.heap.size) (cW cI cG L ad al u9) := cD hwd
    have hPo1 := wOu_kept hPo (hk qo hqs hqA)
    have hS2 : va_S (cO L ad qo s.heap.size) s.heap H1 locs1 := va_S_w hS1 (fun _ => Or.inl)
    refine W.widen (k := 1) (n := 6) (Nat.le_of_ble_eq_true rfl) (Nat.le_of_ble_eq_true rfl) ?_
    refine lv_i2l (v := r.toInt64) hx hb dL_dimensionAnew_7 rfl ?_
    refine out_st hx hb hK hP1 hPo1 (hD1.weaken (fun _ _ _ h9 => Or.inl h9)) (Or.inr rfl) (fun k q hk9 e9 => hqA (by rw [e9]; exact hD1.2 k q hk9)) hS2 dL_dimensionAnew_8 (fun H1 locs1 o1 ho1 hP1 hPo1 hS2 => ?_)
    refine lv_goto (tgt := 15) hx hb dL_dimensionAnew_9 (by decide) ?_
    refine lv_iconst (v := 0) hx hb dL_dimensionAnew_15 (by decide) ?_
    exact W.iret (v := 0) hx hb hr (fun t ht hW => ⟨⟨_, ((ad, L, al, u9), o1), rfl, ⟨(XT.rf hwd hL hLb), by show R 0 (o1 0) _ _; rw [ho1]; exact hR⟩, by show va_P _ _ _ t.heap; rw [ht]; exact hP1, by show va_P _ _ _ t.heap; rw [ht]; exact hPo1⟩, hS2.F ht⟩) hS2.2.2 dL_dimensionAnew_16
set_option maxRecDepth 100000 in
set_option maxHeartbeats 4000000 in
theorem c_L_transvectant {l : Launch} {D : va_G} {cI cG cZ cJ : ClassId} {ts : Nat × Nat} {L : List Nat} {ad : Nat → Nat} {al : Nat} (hflag : l.stackTraces = false) (hL : Lf L al) (hLb : Lb L al) (hwd : WD L ad) (qo sz : Nat) (hq : ∀ k ∈ L, ad k ≠ qo) (u : St) (o : Nat → Int64) (a1 : Int32) (a2 : Int32) (a3 : Int32) (R : Int32 → Int64 → Nat → St → Prop) (h : f_X6_transvectant al a1 a2 a3 u (fun r u9 => R 0 r.toInt64 al u9) (fun E u9 => (E = "java/lang/IndexOutOfBoundsException" ∧ R 1 (o 0) al u9) ∨ (E = "java/lang/IllegalArgumentException" ∧ R 2 (o 0) al u9))) : Met l yL_transvectant wsL_transvectant ({ frames := 8, cells := 3, slots := 18, locals := 145 }) (va_Pc [.ref (ad 0), .int a1, .int a2, .int a3, .ref qo] (PW D cI cG cZ cJ ts L ad al sz u qo o)) (va_Qi (QW L ad sz R) (BW D cI cG cJ qo) (cO L ad qo sz)) 3 18 (cO L ad qo sz) := by
  refine met_ofWH (cc := cL_transvectant) (maxL := 6) (ret := (some .int)) (hh := [(0, 12, 15, 24), (0, 12, 19, 13)]) (by decide) rfl ?_
  intro p e s m args below meth c s₁ B hml hv
  obtain ⟨rfl, hsz, hP, hPo, hC, hX, hN⟩ := hv
  have hx := B.exec
  have hb := B.bytes
  have hr := B.returns
  have hts := atoms_spec (ws := wsL_transvectant) B.pre
  have hown : s.vm.findClass RL = some m.cls := findClass_of_methodNamed B.named
  have hlocks := B.notSynchronized
  have htab := vx_table (x := yL_transvectant) B (hts _ List.mem_cons_self)
  subst hsz
  have hC' : CX D cI cG cZ cJ ts (cA L ad s.heap.size) s s.heap := hC.nar (fun _ => Or.inl)
  have hK := hC.1
  obtain ⟨i0, hi0⟩ := wL_ix (hL 0 (by omega))
  have hS : va_S (cA L ad s.heap.size) s.heap s.heap [] := va_S.rf
  have hqs := wOu_lt hPo
  have hqA : ¬ cA L ad s.heap.size qo := fun g => g.elim (fun ⟨k, hk, e⟩ => hq k hk e.symm) (fun g => absurd hqs (Nat.not_lt.mpr g))
  have hl := lv_entry ([.ref (ad 0), .int a1, .int a2, .int a3, .ref qo]) (n := 6) (Nat.le_of_ble_eq_true rfl)
  rw [lg_entry_eq]
  generalize (lg_sl ([.ref (ad 0), .int a1, .int a2, .int a3, .ref qo]) ++ List.replicate (6 - (lg_sl ([.ref (ad 0), .int a1, .int a2, .int a3, .ref qo])).length) Slot.unset).toArray = ls at hl ⊢
  have hl : lv_has ls 6 [(0, .ref (ad 0)), (1, .int a1), (2, .int a2), (3, .int a3), (4, .ref qo)] := hl
  refine lv_aload hx hb dL_transvectant_0 (lv_at hl 4 rfl) ?_
  refine lv_iconst (v := 0) hx hb dL_transvectant_2 (by decide) ?_
  refine lv_aload_n hx hb dL_transvectant_3 rfl (lv_at hl 0 rfl) ?_
  refine lv_iload_n hx hb dL_transvectant_4 rfl (lv_at hl 1 rfl) ?_
  refine lv_iload_n hx hb dL_transvectant_5 rfl (lv_at hl 2 rfl) ?_
  refine lv_iload_n hx hb dL_transvectant_6 rfl (lv_at hl 3 rfl) ?_
  refine vx_calli (vx_runV (C := RX6) (As := [.int a1, .int a2, .int a3]) (rest := [.int 0, .ref qo]) ⟨hx, hb, hml, hown, hts⟩ (c_X6_transvectant hflag hL hwd s.heap.size u a1 a2 a3 _ _ h) (cwV 3 hts gL_transvectant_X6_transvectant rfl rfl rfl (by decide +kernel) ⟨Nat.le_of_ble_eq_true rfl, Nat.le_of_ble_eq_true rfl⟩) (pcVX hC' hX hP hS (cg_0 hi0) rfl) rfl rfl hl.1 rfl (lv_room (Nat.le_of_ble_eq_true rfl)) dL_transvectant_7 ⟨Nat.le_of_ble_eq_true rfl, Nat.le_of_ble_eq_true rfl⟩) hS (fun q _ h9 => h9) (fun q h9 => h9) (fun q _ h9 => h9) ?_ ?_
  · intro E ce q9 u9 t H1 locs1 ht hvm _ hB hz hk hS1 hcell hv9 hcl
    obtain ⟨hqx, hP1⟩ := hB
    rw [ht] at hP1
    have hPo1 := wOu_kept hPo (hk qo hqs hqA)
    have hS2 : va_S (cO L ad qo s.heap.size) s.heap H1 locs1 := va_S_w hS1 (fun _ => Or.inl)
    refine vx_widen (k := 3) (n := 18) (Nat.le_of_ble_eq_true rfl) (Nat.le_of_ble_eq_true rfl) ?_
    rcases hqx with ⟨rfl, hR⟩ | ⟨rfl, hR⟩
    · refine vx_catch (name := "java/lang/IndexOutOfBoundsException") hown [] ⟨0, 12, 15, 24⟩ [⟨0, 12, 19, 13⟩] htab (fun z hz => absurd hz List.not_mem_nil) rfl (by decide) (hts (.classLink RL 24 "java/lang/IndexOutOfBoundsException") (by decide +kernel)) (va_Nw.use rfl (hX.1 _ (by simp))) hcell hv9 hcl ?_
      refine W.eq (g2 := F0 m 15 ls [.ref q9]) rfl ?_
      refine lv_astore (lv' := [(5, .ref q9), (0, .ref (ad 0)), (1, .int a1), (2, .int a2), (3, .int a3), (4, .ref qo)]) hx hb dL_transvectant_15 hl (by decide) rfl (fun ls hl => ?_)
      refine lv_iconst (v := 1) hx hb dL_transvectant_17 (by decide) ?_
      exact W.iret (v := 1) hx hb hr (fun t ht hW => ⟨⟨_, ((ad, L, al, u9), o), rfl, ⟨XT.rf hwd hL hLb, hR⟩, by show va_P _ _ _ t.heap; rw [ht]; exact hP1, by show va_P _ _ _ t.heap; rw [ht]; exact hPo1⟩, hS2.F ht⟩) hS2.2.2 dL_transvectant_18
    · refine vx_catch (name := "java/lang/IllegalArgumentException") hown [⟨0, 12, 15, 24⟩] ⟨0, 12, 19, 13⟩ [] htab (fun z hz => by rw [List.mem_singleton.mp hz]; exact Or.inr ⟨by decide, "java/lang/IndexOutOfBoundsException", hts (.classLink RL 24 "java/lang/IndexOutOfBoundsException") (by decide +kernel), hN.2⟩) rfl (by decide) (hts (.classLink RL 13 "java/lang/IllegalArgumentException") (by decide +kernel)) (va_Nw.use rfl (hX.1 _ (by simp))) hcell hv9 hcl ?_
      refine W.eq (g2 := F0 m 19 ls [.ref q9]) rfl ?_
      refine lv_astore (lv' := [(5, .ref q9), (0, .ref (ad 0)), (1, .int a1), (2, .int a2), (3, .int a3), (4, .ref qo)]) hx hb dL_transvectant_19 hl (by decide) rfl (fun ls hl => ?_)
      refine lv_iconst (v := 2) hx hb dL_transvectant_21 (by decide) ?_
      exact W.iret (v := 2) hx hb hr (fun t ht hW => ⟨⟨_, ((ad, L, al, u9), o), rfl, ⟨XT.rf hwd hL hLb, hR⟩, by show va_P _ _ _ t.heap; rw [ht]; exact hP1, by show va_P _ _ _ t.heap; rw [ht]; exact hPo1⟩, hS2.F ht⟩) hS2.2.2 dL_transvectant_22
  · intro r u9 t H1 locs1 ht hvm hR hB hz hk hS1
    have hP1 : va_P D vwCl (cW cI cG L ad al u9) H1 := by rw [← ht]; exact hB
    have hD1 : va_D (cA L ad s.heap.size) (cW cI cG L ad al u9) := cD hwd
    have hPo1 := wOu_kept hPo (hk qo hqs hqA)
    have hS2 : va_S (cO L ad qo s.heap.size) s.heap H1 locs1 := va_S_w hS1 (fun _ => Or.inl)
    refine W.widen (k := 3) (n := 18) (Nat.le_of_ble_eq_true rfl) (Nat.le_of_ble_eq_true rfl) ?_
    refine lv_i2l (v := r.toInt64) hx hb dL_transvectant_10 rfl ?_
    refine out_st hx hb hK hP1 hPo1 (hD1.weaken (fun _ _ _ h9 => Or.inl h9)) (Or.inr rfl) (fun k q hk9 e9 => hqA (by rw [e9]; exact hD1.2 k q hk9)) hS2 dL_transvectant_11 (fun H1 locs1 o1 ho1 hP1 hPo1 hS2 => ?_)
    refine lv_goto (tgt := 23) hx hb dL_transvectant_12 (by decide) ?_
    refine lv_iconst (v := 0) hx hb dL_transvectant_23 (by decide) ?_
    exact W.iret (v := 0) hx hb hr (fun t ht hW => ⟨⟨_, ((ad, L, al, u9), o1), rfl, ⟨(XT.rf hwd hL hLb), by show R 0 (o1 0) _ _; rw [ho1]; exact hR⟩, by show va_P _ _ _ t.heap; rw [ht]; exact hP1, by show va_P _ _ _ t.heap; rw [ht]; exact hPo1⟩, hS2.F ht⟩) hS2.2.2 dL_transvectant_24
set_option maxRecDepth 100000 in
set_option maxHeartbeats 4000000 in
theorem c_L_value {l : Launch} {D : va_G} {cI cG cZ cJ : ClassId} {ts : Nat × Nat} {L : List Nat} {ad : Nat → Nat} {al : Nat} (hflag : l.stackTraces = false) (hL : Lf L al) (hLb : Lb L al) (hwd : WD L ad) (qo sz : Nat) (hq : ∀ k ∈ L, ad k ≠ qo) (u : St) (o : Nat → Int64) (a1 : Int32) (a2 : Int32) (R : Int32 → Int64 → Nat → St → Prop) (h : f_X6_value al a1 a2 u (fun r u9 => R 0 r.toInt64 al u9) (fun E u9 => (E = "java/lang/IndexOutOfBoundsException" ∧ R 1 (o 0) al u9) ∨ (E = "java/lang/IllegalArgumentException" ∧ R 2 (o 0) al u9))) : Met l yL_value wsL_value ({ frames := 8, cells := 2, slots := 12, locals := 134 }) (va_Pc [.ref (ad 0), .int a1, .int a2, .ref qo] (PW D cI cG cZ cJ ts L ad al sz u qo o)) (va_Qi (QW L ad sz R) (BW D cI cG cJ qo) (cO L ad qo sz)) 2 12 (cO L ad qo sz) := by
  refine met_ofWH (cc := cL_value) (maxL := 5) (ret := (some .int)) (hh := [(0, 10, 13, 24), (0, 10, 17, 13)]) (by decide) rfl ?_
  intro p e s m args below meth c s₁ B hml hv
  obtain ⟨rfl, hsz, hP, hPo, hC, hX, hN⟩ := hv
  have hx := B.exec
  have hb := B.bytes
  have hr := B.returns
  have hts := atoms_spec (ws := wsL_value) B.pre
  have hown : s.vm.findClass RL = some m.cls := findClass_of_methodNamed B.named
  have hlocks := B.notSynchronized
  have htab := vx_table (x := yL_value) B (hts _ List.mem_cons_self)
  subst hsz
  have hC' : CX D cI cG cZ cJ ts (cA L ad s.heap.size) s s.heap := hC.nar (fun _ => Or.inl)
  have hK := hC.1
  obtain ⟨i0, hi0⟩ := wL_ix (hL 0 (by omega))
  have hS : va_S (cA L ad s.heap.size) s.heap s.heap [] := va_S.rf
  have hqs := wOu_lt hPo
  have hqA : ¬ cA L ad s.heap.size qo := fun g => g.elim (fun ⟨k, hk, e⟩ => hq k hk e.symm) (fun g => absurd hqs (Nat.not_lt.mpr g))
  have hl := lv_entry ([.ref (ad 0), .int a1, .int a2, .ref qo]) (n := 5) (Nat.le_of_ble_eq_true rfl)
  rw [lg_entry_eq]
  generalize (lg_sl ([.ref (ad 0), .int a1, .int a2, .ref qo]) ++ List.replicate (5 - (lg_sl ([.ref (ad 0), .int a1, .int a2, .ref qo])).length) Slot.unset).toArray = ls at hl ⊢
  have hl : lv_has ls 5 [(0, .ref (ad 0)), (1, .int a1), (2, .int a2), (3, .ref qo)] := hl
  refine lv_aload_n hx hb dL_value_0 rfl (lv_at hl 3 rfl) ?_
  refine lv_iconst (v := 0) hx hb dL_value_1 (by decide) ?_
  refine lv_aload_n hx hb dL_value_2 rfl (lv_at hl 0 rfl) ?_
  refine lv_iload_n hx hb dL_value_3 rfl (lv_at hl 1 rfl) ?_
  refine lv_iload_n hx hb dL_value_4 rfl (lv_at hl 2 rfl) ?_
  refine vx_calli (vx_runV (C := RX6) (As := [.int a1, .int a2]) (rest := [.int 0, .ref qo]) ⟨hx, hb, hml, hown, hts⟩ (c_X6_value hflag hL hwd s.heap.size u a1 a2 _ _ h) (cwV 2 hts gL_value_X6_value rfl rfl rfl (by decide +kernel) ⟨Nat.le_of_ble_eq_true rfl, Nat.le_of_ble_eq_true rfl⟩) (pcVX hC' hX hP hS (cg_0 hi0) rfl) rfl rfl hl.1 rfl (lv_room (Nat.le_of_ble_eq_true rfl)) dL_value_5 ⟨Nat.le_of_ble_eq_true rfl, Nat.le_of_ble_eq_true rfl⟩) hS (fun q _ h9 => h9) (fun q h9 => h9) (fun q _ h9 => h9) ?_ ?_
  · intro E ce q9 u9 t H1 locs1 ht hvm _ hB hz hk hS1 hcell hv9 hcl
    obtain ⟨hqx, hP1⟩ := hB
    rw [ht] at hP1
    have hPo1 := wOu_kept hPo (hk qo hqs hqA)
    have hS2 : va_S (cO L ad qo s.heap.size) s.heap H1 locs1 := va_S_w hS1 (fun _ => Or.inl)
    refine vx_widen (k := 2) (n := 12) (Nat.le_of_ble_eq_true rfl) (Nat.le_of_ble_eq_true rfl) ?_
    rcases hqx with ⟨rfl, hR⟩ | ⟨rfl, hR⟩
    · refine vx_catch (name := "java/lang/IndexOutOfBoundsException") hown [] ⟨0, 10, 13, 24⟩ [⟨0, 10, 17, 13⟩] htab (fun z hz => absurd hz List.not_mem_nil) rfl (by decide) (hts (.classLink RL 24 "java/lang/IndexOutOfBoundsException") (by decide +kernel)) (va_Nw.use rfl (hX.1 _ (by simp))) hcell hv9 hcl ?_
      refine W.eq (g2 := F0 m 13 ls [.ref q9]) rfl ?_
      refine lv_astore (lv' := [(4, .ref q9), (0, .ref (ad 0)), (1, .int a1), (2, .int a2), (3, .ref qo)]) hx hb dL_value_13 hl (by decide) rfl (fun ls hl => ?_)
      refine lv_iconst (v := 1) hx hb dL_value_15 (by decide) ?_
      exact W.iret (v := 1) hx hb hr (fun t ht hW => ⟨⟨_, ((ad, L, al, u9), o), rfl, ⟨XT.rf hwd hL hLb, hR⟩, by show va_P _ _ _ t.heap; rw [ht]; exact hP1, by show va_P _ _ _ t.heap; rw [ht]; exact hPo1⟩, hS2.F ht⟩) hS2.2.2 dL_value_16
    · refine vx_catch (name := "java/lang/IllegalArgumentException") hown [⟨0, 10, 13, 24⟩] ⟨0, 10, 17, 13⟩ [] htab (fun z hz => by rw [List.mem_singleton.mp hz]; exact Or.inr ⟨by decide, "java/lang/IndexOutOfBoundsException", hts (.classLink RL 24 "java/lang/IndexOutOfBoundsException") (by decide +kernel), hN.2⟩) rfl (by decide) (hts (.classLink RL 13 "java/lang/IllegalArgumentException") (by decide +kernel)) (va_Nw.use rfl (hX.1 _ (by simp))) hcell hv9 hcl ?_
      refine W.eq (g2 := F0 m 17 ls [.ref q9]) rfl ?_
      refine lv_astore (lv' := [(4, .ref q9), (0, .ref (ad 0)), (1, .int a1), (2, .int a2), (3, .ref qo)]) hx hb dL_value_17 hl (by decide) rfl (fun ls hl => ?_)
      refine lv_iconst (v := 2) hx hb dL_value_19 (by decide) ?_
      exact W.iret (v := 2) hx hb hr (fun t ht hW => ⟨⟨_, ((ad, L, al, u9), o), rfl, ⟨XT.rf hwd hL hLb, hR⟩, by show va_P _ _ _ t.heap; rw [ht]; exact hP1, by show va_P _ _ _ t.heap; rw [ht]; exact hPo1⟩, hS2.F ht⟩) hS2.2.2 dL_value_20
  · intro r u9 t H1 locs1 ht hvm hR hB hz hk hS1
    have hP1 : va_P D vwCl (cW cI cG L ad al u9) H1 := by rw [← ht]; exact hB
    have hD1 : va_D (cA L ad s.heap.size) (cW cI cG L ad al u9) := cD hwd
    have hPo1 := wOu_kept hPo (hk qo hqs hqA)
    have hS2 : va_S (cO L ad qo s.heap.size) s.heap H1 locs1 := va_S_w hS1 (fun _ => Or.inl)
    refine W.widen (k := 2) (n := 12) (Nat.le_of_ble_eq_true rfl) (Nat.le_of_ble_eq_true rfl) ?_
    refine lv_i2l (v := r.toInt64) hx hb dL_value_8 rfl ?_
    refine out_st hx hb hK hP1 hPo1 (hD1.weaken (fun _ _ _ h9 => Or.inl h9)) (Or.inr rfl) (fun k q hk9 e9 => hqA (by rw [e9]; exact hD1.2 k q hk9)) hS2 dL_value_9 (fun H1 locs1 o1 ho1 hP1 hPo1 hS2 => ?_)
    refine lv_goto (tgt := 21) hx hb dL_value_10 (by decide) ?_
    refine lv_iconst (v := 0) hx hb dL_value_21 (by decide) ?_
    exact W.iret (v := 0) hx hb hr (fun t ht hW => ⟨⟨_, ((ad, L, al, u9), o1), rfl, ⟨(XT.rf hwd hL hLb), by show R 0 (o1 0) _ _; rw [ho1]; exact hR⟩, by show va_P _ _ _ t.heap; rw [ht]; exact hP1, by show va_P _ _ _ t.heap; rw [ht]; exact hPo1⟩, hS2.F ht⟩) hS2.2.2 dL_value_22
set_option maxRecDepth 100000 in
set_option maxHeartbeats 4000000 in
theorem c_L_way {l : Launch} {D : va_G} {cI cG cZ cJ : ClassId} {ts : Nat × Nat} {L : List Nat} {ad : Nat → Nat} {al : Nat} (hflag : l.stackTraces = false) (hL : Lf L al) (hLb : Lb L al) (hwd : WD L ad) (qo sz : Nat) (hq : ∀ k ∈ L, ad k ≠ qo) (u : St) (o : Nat → Int64) (a1 : Int32) (a2 : Int32) (R : Int32 → Int64 → Nat → St → Prop) (h : f_X6_way al a1 a2 u (fun r u9 => R 0 r.toInt64 al u9) (fun E u9 => (E = "java/lang/IndexOutOfBoundsException" ∧ R 1 (o 0) al u9) ∨ (E = "java/lang/IllegalArgumentException" ∧ R 2 (o 0) al u9))) : Met l yL_way wsL_way ({ frames := 8, cells := 3, slots := 18, locals := 136 }) (va_Pc [.ref (ad 0), .int a1, .int a2, .ref qo] (PW D cI cG cZ cJ ts L ad al sz u qo o)) (va_Qi (QW L ad sz R) (BW D cI cG cJ qo) (cO L ad qo sz)) 3 18 (cO L ad qo sz) := by
  refine met_ofWH (cc := cL_way) (maxL := 5) (ret := (some .int)) (hh := [(0, 10, 13, 24), (0, 10, 17, 13)]) (by decide) rfl ?_
  intro p e s m args below meth c s₁ B hml hv
  obtain ⟨rfl, hsz, hP, hPo, hC, hX, hN⟩ := hv
  have hx := B.exec
  have hb := B.bytes
  have hr := B.returns
  have hts := atoms_spec (ws := wsL_way) B.pre
  have hown : s.vm.findClass RL = some m.cls := findClass_of_methodNamed B.named
  have hlocks := B.notSynchronized
  have htab := vx_table (x := yL_way) B (hts _ List.mem_cons_self)
  subst hsz
  have hC' : CX D cI cG cZ cJ ts (cA L ad s.heap.size) s s.heap := hC.nar (fun _ => Or.inl)
  have hK := hC.1
  obtain ⟨i0, hi0⟩ := wL_ix (hL 0 (by omega))
  have hS : va_S (cA L ad s.heap.size) s.heap s.heap [] := va_S.rf
  have hqs := wOu_lt hPo
  have hqA : ¬ cA L ad s.heap.size qo := fun g => g.elim (fun ⟨k, hk, e⟩ => hq k hk e.symm) (fun g => absurd hqs (Nat.not_lt.mpr g))
  have hl := lv_entry ([.ref (ad 0), .int a1, .int a2, .ref qo]) (n := 5) (Nat.le_of_ble_eq_true rfl)
  rw [lg_entry_eq]
  generalize (lg_sl ([.ref (ad 0), .int a1, .int a2, .ref qo]) ++ List.replicate (5 - (lg_sl ([.ref (ad 0), .int a1, .int a2, .ref qo])).length) Slot.unset).toArray = ls at hl ⊢
  have hl : lv_has ls 5 [(0, .ref (ad 0)), (1, .int a1), (2, .int a2), (3, .ref qo)] := hl
  refine lv_aload_n hx hb dL_way_0 rfl (lv_at hl 3 rfl) ?_
  refine lv_iconst (v := 0) hx hb dL_way_1 (by decide) ?_
  refine lv_aload_n hx hb dL_way_2 rfl (lv_at hl 0 rfl) ?_
  refine lv_iload_n hx hb dL_way_3 rfl (lv_at hl 1 rfl) ?_
  refine lv_iload_n hx hb dL_way_4 rfl (lv_at hl 2 rfl) ?_
  refine vx_calli (vx_runV (C := RX6) (As := [.int a1, .int a2]) (rest := [.int 0, .ref qo]) ⟨hx, hb, hml, hown, hts⟩ (c_X6_way hflag hL hwd s.heap.size u a1 a2 _ _ h) (cwV 2 hts gL_way_X6_way rfl rfl rfl (by decide +kernel) ⟨Nat.le_of_ble_eq_true rfl, Nat.le_of_ble_eq_true rfl⟩) (pcVX hC' hX hP hS (cg_0 hi0) rfl) rfl rfl hl.1 rfl (lv_room (Nat.le_of_ble_eq_true rfl)) dL_way_5 ⟨Nat.le_of_ble_eq_true rfl, Nat.le_of_ble_eq_true rfl⟩) hS (fun q _ h9 => h9) (fun q h9 => h9) (fun q _ h9 => h9) ?_ ?_
  · intro E ce q9 u9 t H1 locs1 ht hvm _ hB hz hk hS1 hcell hv9 hcl
    obtain ⟨hqx, hP1⟩ := hB
    rw [ht] at hP1
    have hPo1 := wOu_kept hPo (hk qo hqs hqA)
    have hS2 : va_S (cO L ad qo s.heap.size) s.heap H1 locs1 := va_S_w hS1 (fun _ => Or.inl)
    refine vx_widen (k := 3) (n := 18) (Nat.le_of_ble_eq_true rfl) (Nat.le_of_ble_eq_true rfl) ?_
    rcases hqx with ⟨rfl, hR⟩ | ⟨rfl, hR⟩
    · refine vx_catch (name := "java/lang/IndexOutOfBoundsException") hown [] ⟨0, 10, 13, 24⟩ [⟨0, 10, 17, 13⟩] htab (fun z hz => absurd hz List.not_mem_nil) rfl (by decide) (hts (.classLink RL 24 "java/lang/IndexOutOfBoundsException") (by decide +kernel)) (va_Nw.use rfl (hX.1 _ (by simp))) hcell hv9 hcl ?_
      refine W.eq (g2 := F0 m 13 ls [.ref q9]) rfl ?_
      refine lv_astore (lv' := [(4, .ref q9), (0, .ref (ad 0)), (1, .int a1), (2, .int a2), (3, .ref qo)]) hx hb dL_way_13 hl (by decide) rfl (fun ls hl => ?_)
      refine lv_iconst (v := 1) hx hb dL_way_15 (by decide) ?_
      exact W.iret (v := 1) hx hb hr (fun t ht hW => ⟨⟨_, ((ad, L, al, u9), o), rfl, ⟨XT.rf hwd hL hLb, hR⟩, by show va_P _ _ _ t.heap; rw [ht]; exact hP1, by show va_P _ _ _ t.heap; rw [ht]; exact hPo1⟩, hS2.F ht⟩) hS2.2.2 dL_way_16
    · refine vx_catch (name := "java/lang/IllegalArgumentException") hown [⟨0, 10, 13, 24⟩] ⟨0, 10, 17, 13⟩ [] htab (fun z hz => by rw [List.mem_singleton.mp hz]; exact Or.inr ⟨by decide, "java/lang/IndexOutOfBoundsException", hts (.classLink RL 24 "java/lang/IndexOutOfBoundsException") (by decide +kernel), hN.2⟩) rfl (by decide) (hts (.classLink RL 13 "java/lang/IllegalArgumentException") (by decide +kernel)) (va_Nw.use rfl (hX.1 _ (by simp))) hcell hv9 hcl ?_
      refine W.eq (g2 := F0 m 17 ls [.ref q9]) rfl ?_
      refine lv_astore (lv' := [(4, .ref q9), (0, .ref (ad 0)), (1, .int a1), (2, .int a2), (3, .ref qo)]) hx hb dL_way_17 hl (by decide) rfl (fun ls hl => ?_)
      refine lv_iconst (v := 2) hx hb dL_way_19 (by decide) ?_
      exact W.iret (v := 2) hx hb hr (fun t ht hW => ⟨⟨_, ((ad, L, al, u9), o), rfl, ⟨XT.rf hwd hL hLb, hR⟩, by show va_P _ _ _ t.heap; rw [ht]; exact hP1, by show va_P _ _ _ t.heap; rw [ht]; exact hPo1⟩, hS2.F ht⟩) hS2.2.2 dL_way_20
  · intro r u9 t H1 locs1 ht hvm hR hB hz hk hS1
    have hP1 : va_P D vwCl (cW cI cG L ad al u9) H1 := by rw [← ht]; exact hB
    have hD1 : va_D (cA L ad s.heap.size) (cW cI cG L ad al u9) := cD hwd
    have hPo1 := wOu_kept hPo (hk qo hqs hqA)
    have hS2 : va_S (cO L ad qo s.heap.size) s.heap H1 locs1 := va_S_w hS1 (fun _ => Or.inl)
    refine W.widen (k := 3) (n := 18) (Nat.le_of_ble_eq_true rfl) (Nat.le_of_ble_eq_true rfl) ?_
    refine lv_i2l (v := r.toInt64) hx hb dL_way_8 rfl ?_
    refine out_st hx hb hK hP1 hPo1 (hD1.weaken (fun _ _ _ h9 => Or.inl h9)) (Or.inr rfl) (fun k q hk9 e9 => hqA (by rw [e9]; exact hD1.2 k q hk9)) hS2 dL_way_9 (fun H1 locs1 o1 ho1 hP1 hPo1 hS2 => ?_)
    refine lv_goto (tgt := 21) hx hb dL_way_10 (by decide) ?_
    refine lv_iconst (v := 0) hx hb dL_way_21 (by decide) ?_
    exact W.iret (v := 0) hx hb hr (fun t ht hW => ⟨⟨_, ((ad, L, al, u9), o1), rfl, ⟨(XT.rf hwd hL hLb), by show R 0 (o1 0) _ _; rw [ho1]; exact hR⟩, by show va_P _ _ _ t.heap; rw [ht]; exact hP1, by show va_P _ _ _ t.heap; rw [ht]; exact hPo1⟩, hS2.F ht⟩) hS2.2.2 dL_way_22
set_option maxRecDepth 100000 in
set_option maxHeartbeats 4000000 in
theorem c_L_step {l : Launch} {D : va_G} {cI cG cZ cJ : ClassId} {ts : Nat × Nat} {L : List Nat} {ad : Nat → Nat} {al : Nat} (hflag : l.stackTraces = false) (hL : Lf L al) (hLb : Lb L al) (hwd : WD L ad) (qo sz : Nat) (hq : ∀ k ∈ L, ad k ≠ qo) (u : St) (o : Nat → Int64) (a1 : Int32) (a2 : Int32) (a3 : Int32) (R : Int32 → Int64 → Nat → St → Prop) (h : f_X6_step al a1 a2 a3 u (fun r u9 => R 0 r.toInt64 al u9) (fun E u9 => (E = "java/lang/IndexOutOfBoundsException" ∧ R 1 (o 0) al u9) ∨ (E = "java/lang/IllegalArgumentException" ∧ R 2 (o 0) al u9))) : Met l yL_step wsL_step ({ frames := 8, cells := 4, slots := 24, locals := 137 }) (va_Pc [.ref (ad 0), .int a1, .int a2, .int a3, .ref qo] (PW D cI cG cZ cJ ts L ad al sz u qo o)) (va_Qi (QW L ad sz R) (BW D cI cG cJ qo) (cO L ad qo sz)) 4 24 (cO L ad qo sz) := by
  refine met_ofWH (cc := cL_step) (maxL := 6) (ret := (some .int)) (hh := [(0, 12, 15, 24), (0, 12, 19, 13)]) (by decide) rfl ?_
  intro p e s m args below meth c s₁ B hml hv
  obtain ⟨rfl, hsz, hP, hPo, hC, hX, hN⟩ := hv
  have hx := B.exec
  have hb := B.bytes
  have hr := B.returns
  have hts := atoms_spec (ws := wsL_step) B.pre
  have hown : s.vm.findClass RL = some m.cls := findClass_of_methodNamed B.named
  have hlocks := B.notSynchronized
  have htab := vx_table (x := yL_step) B (hts _ List.mem_cons_self)
  subst hsz
  have hC' : CX D cI cG cZ cJ ts (cA L ad s.heap.size) s s.heap := hC.nar (fun _ => Or.inl)
  have hK := hC.1
  obtain ⟨i0, hi0⟩ := wL_ix (hL 0 (by omega))
  have hS : va_S (cA L ad s.heap.size) s.heap s.heap [] := va_S.rf
  have hqs := wOu_lt hPo
  have hqA : ¬ cA L ad s.heap.size qo := fun g => g.elim (fun ⟨k, hk, e⟩ => hq k hk e.symm) (fun g => absurd hqs (Nat.not_lt.mpr g))
  have hl := lv_entry ([.ref (ad 0), .int a1, .int a2, .int a3, .ref qo]) (n := 6) (Nat.le_of_ble_eq_true rfl)
  rw [lg_entry_eq]
  generalize (lg_sl ([.ref (ad 0), .int a1, .int a2, .int a3, .ref qo]) ++ List.replicate (6 - (lg_sl ([.ref (ad 0), .int a1, .int a2, .int a3, .ref qo])).length) Slot.unset).toArray = ls at hl ⊢
  have hl : lv_has ls 6 [(0, .ref (ad 0)), (1, .int a1), (2, .int a2), (3, .int a3), (4, .ref qo)] := hl
  refine lv_aload hx hb dL_step_0 (lv_at hl 4 rfl) ?_
  refine lv_iconst (v := 0) hx hb dL_step_2 (by decide) ?_
  refine lv_aload_n hx hb dL_step_3 rfl (lv_at hl 0 rfl) ?_
  refine lv_iload_n hx hb dL_step_4 rfl (lv_at hl 1 rfl) ?_
  refine lv_iload_n hx hb dL_step_5 rfl (lv_at hl 2 rfl) ?_
  refine lv_iload_n hx hb dL_step_6 rfl (lv_at hl 3 rfl) ?_
  refine vx_calli (vx_runV (C := RX6) (As := [.int a1, .int a2, .int a3]) (rest := [.int 0, .ref qo]) ⟨hx, hb, hml, hown, hts⟩ (c_X6_step hflag hL hwd s.heap.size u a1 a2 a3 _ _ h) (cwV 3 hts gL_step_X6_step rfl rfl rfl (by decide +kernel) ⟨Nat.le_of_ble_eq_true rfl, Nat.le_of_ble_eq_true rfl⟩) (pcVX hC' hX hP hS (cg_0 hi0) rfl) rfl rfl hl.1 rfl (lv_room (Nat.le_of_ble_eq_true rfl)) dL_step_7 ⟨Nat.le_of_ble_eq_true rfl, Nat.le_of_ble_eq_true rfl⟩) hS (fun q _ h9 => h9) (fun q h9 => h9) (fun q _ h9 => h9) ?_ ?_
  · intro E ce q9 u9 t H1 locs1 ht hvm _ hB hz hk hS1 hcell hv9 hcl
    obtain ⟨hqx, hP1⟩ := hB
    rw [ht] at hP1
    have hPo1 := wOu_kept hPo (hk qo hqs hqA)
    have hS2 : va_S (cO L ad qo s.heap.size) s.heap H1 locs1 := va_S_w hS1 (fun _ => Or.inl)
    refine vx_widen (k := 4) (n := 24) (Nat.le_of_ble_eq_true rfl) (Nat.le_of_ble_eq_true rfl) ?_
    rcases hqx with ⟨rfl, hR⟩ | ⟨rfl, hR⟩
    · refine vx_catch (name := "java/lang/IndexOutOfBoundsException") hown [] ⟨0, 12, 15, 24⟩ [⟨0, 12, 19, 13⟩] htab (fun z hz => absurd hz List.not_mem_nil) rfl (by decide) (hts (.classLink RL 24 "java/lang/IndexOutOfBoundsException") (by decide +kernel)) (va_Nw.use rfl (hX.1 _ (by simp))) hcell hv9 hcl ?_
      refine W.eq (g2 := F0 m 15 ls [.ref q9]) rfl ?_
      refine lv_astore (lv' := [(5, .ref q9), (0, .ref (ad 0)), (1, .int a1), (2, .int a2), (3, .int a3), (4, .ref qo)]) hx hb dL_step_15 hl (by decide) rfl (fun ls hl => ?_)
      refine lv_iconst (v := 1) hx hb dL_step_17 (by decide) ?_
      exact W.iret (v := 1) hx hb hr (fun t ht hW => ⟨⟨_, ((ad, L, al, u9), o), rfl, ⟨XT.rf hwd hL hLb, hR⟩, by show va_P _ _ _ t.heap; rw [ht]; exact hP1, by show va_P _ _ _ t.heap; rw [ht]; exact hPo1⟩, hS2.F ht⟩) hS2.2.2 dL_step_18
    · refine vx_catch (name := "java/lang/IllegalArgumentException") hown [⟨0, 12, 15, 24⟩] ⟨0, 12, 19, 13⟩ [] htab (fun z hz => by rw [List.mem_singleton.mp hz]; exact Or.inr ⟨by decide, "java/lang/IndexOutOfBoundsException", hts (.classLink RL 24 "java/lang/IndexOutOfBoundsException") (by decide +kernel), hN.2⟩) rfl (by decide) (hts (.classLink RL 13 "java/lang/IllegalArgumentException") (by decide +kernel)) (va_Nw.use rfl (hX.1 _ (by simp))) hcell hv9 hcl ?_
      refine W.eq (g2 := F0 m 19 ls [.ref q9]) rfl ?_
      refine lv_astore (lv' := [(5, .ref q9), (0, .ref (ad 0)), (1, .int a1), (2, .int a2), (3, .int a3), (4, .ref qo)]) hx hb dL_step_19 hl (by decide) rfl (fun ls hl => ?_)
      refine lv_iconst (v := 2) hx hb dL_step_21 (by decide) ?_
      exact W.iret (v := 2) hx hb hr (fun t ht hW => ⟨⟨_, ((ad, L, al, u9), o), rfl, ⟨XT.rf hwd hL hLb, hR⟩, by show va_P _ _ _ t.heap; rw [ht]; exact hP1, by show va_P _ _ _ t.heap; rw [ht]; exact hPo1⟩, hS2.F ht⟩) hS2.2.2 dL_step_22
  · intro r u9 t H1 locs1 ht hvm hR hB hz hk hS1
    have hP1 : va_P D vwCl (cW cI cG L ad al u9) H1 := by rw [← ht]; exact hB
    have hD1 : va_D (cA L ad s.heap.size) (cW cI cG L ad al u9) := cD hwd
    have hPo1 := wOu_kept hPo (hk qo hqs hqA)
    have hS2 : va_S (cO L ad qo s.heap.size) s.heap H1 locs1 := va_S_w hS1 (fun _ => Or.inl)
    refine W.widen (k := 4) (n := 24) (Nat.le_of_ble_eq_true rfl) (Nat.le_of_ble_eq_true rfl) ?_
    refine lv_i2l (v := r.toInt64) hx hb dL_step_10 rfl ?_
    refine out_st hx hb hK hP1 hPo1 (hD1.weaken (fun _ _ _ h9 => Or.inl h9)) (Or.inr rfl) (fun k q hk9 e9 => hqA (by rw [e9]; exact hD1.2 k q hk9)) hS2 dL_step_11 (fun H1 locs1 o1 ho1 hP1 hPo1 hS2 => ?_)
    refine lv_goto (tgt := 23) hx hb dL_step_12 (by decide) ?_
    refine lv_iconst (v := 0) hx hb dL_step_23 (by decide) ?_
    exact W.iret (v := 0) hx hb hr (fun t ht hW => ⟨⟨_, ((ad, L, al, u9), o1), rfl, ⟨(XT.rf hwd hL hLb), by show R 0 (o1 0) _ _; rw [ho1]; exact hR⟩, by show va_P _ _ _ t.heap; rw [ht]; exact hP1, by show va_P _ _ _ t.heap; rw [ht]; exact hPo1⟩, hS2.F ht⟩) hS2.2.2 dL_step_24
set_option maxRecDepth 100000 in
set_option maxHeartbeats 4000000 in
theorem c_L_orbits {l : Launch} {D : va_G} {cI cG cZ cJ : ClassId} {ts : Nat × Nat} {L : List Nat} {ad : Nat → Nat} {al : Nat} (hflag : l.stackTraces = false) (hL : Lf L al) (hLb : Lb L al) (hwd : WD L ad) (qo sz : Nat) (hq : ∀ k ∈ L, ad k ≠ qo) (u : St) (o : Nat → Int64) (a1 : Int32) (R : Int32 → Int64 → Nat → St → Prop) (h : f_X6_orbits al a1 u (fun r u9 => R 0 r.toInt64 al u9) (fun E u9 => (E = "java/lang/IllegalArgumentException" ∧ R 1 (o 0) al u9))) : Met l yL_orbits wsL_orbits ({ frames := 8, cells := 1, slots := 6, locals := 134 }) (va_Pc [.ref (ad 0), .int a1, .ref qo] (PW D cI cG cZ cJ ts L ad al sz u qo o)) (va_Qi (QW L ad sz R) (BW D cI cG cJ qo) (cO L ad qo sz)) 1 6 (cO L ad qo sz) := by
  refine met_ofWH (cc := cL_orbits) (maxL := 4) (ret := (some .int)) (hh := [(0, 9, 12, 13)]) (by decide) rfl ?_
  intro p e s m args below meth c s₁ B hml hv
  obtain ⟨rfl, hsz, hP, hPo, hC, hX, hN⟩ := hv
  have hx := B.exec
  have hb := B.bytes
  have hr := B.returns
  have hts := atoms_spec (ws := wsL_orbits) B.pre
  have hown : s.vm.findClass RL = some m.cls := findClass_of_methodNamed B.named
  have hlocks := B.notSynchronized
  have htab := vx_table (x := yL_orbits) B (hts _ List.mem_cons_self)
  subst hsz
  have hC' : CX D cI cG cZ cJ ts (cA L ad s.heap.size) s s.heap := hC.nar (fun _ => Or.inl)
  have hK := hC.1
  obtain ⟨i0, hi0⟩ := wL_ix (hL 0 (by omega))
  have hS : va_S (cA L ad s.heap.size) s.heap s.heap [] := va_S.rf
  have hqs := wOu_lt hPo
  have hqA : ¬ cA L ad s.heap.size qo := fun g => g.elim (fun ⟨k, hk, e⟩ => hq k hk e.symm) (fun g => absurd hqs (Nat.not_lt.mpr g))
  have hl := lv_entry ([.ref (ad 0), .int a1, .ref qo]) (n := 4) (Nat.le_of_ble_eq_true rfl)
  rw [lg_entry_eq]
  generalize (lg_sl ([.ref (ad 0), .int a1, .ref qo]) ++ List.replicate (4 - (lg_sl ([.ref (ad 0), .int a1, .ref qo])).length) Slot.unset).toArray = ls at hl ⊢
  have hl : lv_has ls 4 [(0, .ref (ad 0)), (1, .int a1), (2, .ref qo)] := hl
  refine lv_aload_n hx hb dL_orbits_0 rfl (lv_at hl 2 rfl) ?_
  refine lv_iconst (v := 0) hx hb dL_orbits_1 (by decide) ?_
  refine lv_aload_n hx hb dL_orbits_2 rfl (lv_at hl 0 rfl) ?_
  refine lv_iload_n hx hb dL_orbits_3 rfl (lv_at hl 1 rfl) ?_
  refine vx_calli (vx_runV (C := RX6) (As := [.int a1]) (rest := [.int 0, .ref qo]) ⟨hx, hb, hml, hown, hts⟩ (c_X6_orbits hflag hL hwd s.heap.size u a1 _ _ h) (cwV 1 hts gL_orbits_X6_orbits rfl rfl rfl (by decide +kernel) ⟨Nat.le_of_ble_eq_true rfl, Nat.le_of_ble_eq_true rfl⟩) (pcVX hC' hX hP hS (cg_0 hi0) rfl) rfl rfl hl.1 rfl (lv_room (Nat.le_of_ble_eq_true rfl)) dL_orbits_4 ⟨Nat.le_of_ble_eq_true rfl, Nat.le_of_ble_eq_true rfl⟩) hS (fun q _ h9 => h9) (fun q h9 => h9) (fun q _ h9 => h9) ?_ ?_
  · intro E ce q9 u9 t H1 locs1 ht hvm _ hB hz hk hS1 hcell hv9 hcl
    obtain ⟨hqx, hP1⟩ := hB
    rw [ht] at hP1
    have hPo1 := wOu_kept hPo (hk qo hqs hqA)
    have hS2 : va_S (cO L ad qo s.heap.size) s.heap H1 locs1 := va_S_w hS1 (fun _ => Or.inl)
    refine vx_widen (k := 1) (n := 6) (Nat.le_of_ble_eq_true rfl) (Nat.le_of_ble_eq_true rfl) ?_
    obtain ⟨rfl, hR⟩ := hqx
    refine vx_catch (name := "java/lang/IllegalArgumentException") hown [] ⟨0, 9, 12, 13⟩ [] htab (fun z hz => absurd hz List.not_mem_nil) rfl (by decide) (hts (.classLink RL 13 "java/lang/IllegalArgumentException") (by decide +kernel)) (va_Nw.use rfl (hX.1 _ (by simp))) hcell hv9 hcl ?_
    refine W.eq (g2 := F0 m 12 ls [.ref q9]) rfl ?_
    refine lv_astore_n (lv' := [(3, .ref q9), (0, .ref (ad 0)), (1, .int a1), (2, .ref qo)]) hx hb dL_orbits_12 rfl hl (by decide) rfl (fun ls hl => ?_)
    refine lv_iconst (v := 1) hx hb dL_orbits_13 (by decide) ?_
    exact W.iret (v := 1) hx hb hr (fun t ht hW => ⟨⟨_, ((ad, L, al, u9), o), rfl, ⟨XT.rf hwd hL hLb, hR⟩, by show va_P _ _ _ t.heap; rw [ht]; exact hP1, by show va_P _ _ _ t.heap; rw [ht]; exact hPo1⟩, hS2.F ht⟩) hS2.2.2 dL_orbits_14
  · intro r u9 t H1 locs1 ht hvm hR hB hz hk hS1
    have hP1 : va_P D vwCl (cW cI cG L ad al u9) H1 := by rw [← ht]; exact hB
    have hD1 : va_D (cA L ad s.heap.size) (cW cI cG L ad al u9) := cD hwd
    have hPo1 := wOu_kept hPo (hk qo hqs hqA)
    have hS2 : va_S (cO L ad qo s.heap.size) s.heap H1 locs1 := va_S_w hS1 (fun _ => Or.inl)
    refine W.widen (k := 1) (n := 6) (Nat.le_of_ble_eq_true rfl) (Nat.le_of_ble_eq_true rfl) ?_
    refine lv_i2l (v := r.toInt64) hx hb dL_orbits_7 rfl ?_
    refine out_st hx hb hK hP1 hPo1 (hD1.weaken (fun _ _ _ h9 => Or.inl h9)) (Or.inr rfl) (fun k q hk9 e9 => hqA (by rw [e9]; exact hD1.2 k q hk9)) hS2 dL_orbits_8 (fun H1 locs1 o1 ho1 hP1 hPo1 hS2 => ?_)
    refine lv_goto (tgt := 15) hx hb dL_orbits_9 (by decide) ?_
    refine lv_iconst (v := 0) hx hb dL_orbits_15 (by decide) ?_
    exact W.iret (v := 0) hx hb hr (fun t ht hW => ⟨⟨_, ((ad, L, al, u9), o1), rfl, ⟨(XT.rf hwd hL hLb), by show R 0 (o1 0) _ _; rw [ho1]; exact hR⟩, by show va_P _ _ _ t.heap; rw [ht]; exact hP1, by show va_P _ _ _ t.heap; rw [ht]; exact hPo1⟩, hS2.F ht⟩) hS2.2.2 dL_orbits_16
set_option maxRecDepth 100000 in
set_option maxHeartbeats 4000000 in
theorem c_L_orbitsAnew {l : Launch} {D : va_G} {cI cG cZ cJ : ClassId} {ts : Nat × Nat} {L : List Nat} {ad : Nat → Nat} {al : Nat} (hflag : l.stackTraces = false) (hL : Lf L al) (hLb : Lb L al) (hwd : WD L ad) (qo sz : Nat) (hq : ∀ k ∈ L, ad k ≠ qo) (u : St) (o : Nat → Int64) (a1 : Int32) (R : Int32 → Int64 → Nat → St → Prop) (h : f_X6_orbitsAnew al a1 u (fun r u9 => R 0 r.toInt64 al u9) (fun E u9 => (E = "java/lang/IllegalArgumentException" ∧ R 1 (o 0) al u9))) : Met l yL_orbitsAnew wsL_orbitsAnew ({ frames := 8, cells := 1, slots := 6, locals := 159 }) (va_Pc [.ref (ad 0), .int a1, .ref qo] (PW D cI cG cZ cJ ts L ad al sz u qo o)) (va_Qi (QW L ad sz R) (BW D cI cG cJ qo) (cO L ad qo sz)) 1 6 (cO L ad qo sz) := by
  refine met_ofWH (cc := cL_orbitsAnew) (maxL := 4) (ret := (some .int)) (hh := [(0, 9, 12, 13)]) (by decide) rfl ?_
  intro p e s m args below meth c s₁ B hml hv
  obtain ⟨rfl, hsz, hP, hPo, hC, hX, hN⟩ := hv
  have hx := B.exec
  have hb := B.bytes
  have hr := B.returns
  have hts := atoms_spec (ws := wsL_orbitsAnew) B.pre
  have hown : s.vm.findClass RL = some m.cls := findClass_of_methodNamed B.named
  have hlocks := B.notSynchronized
  have htab := vx_table (x := yL_orbitsAnew) B (hts _ List.mem_cons_self)
  subst hsz
  have hC' : CX D cI cG cZ cJ ts (cA L ad s.heap.size) s s.heap := hC.nar (fun _ => Or.inl)
  have hK := hC.1
  obtain ⟨i0, hi0⟩ := wL_ix (hL 0 (by omega))
  have hS : va_S (cA L ad s.heap.size) s.heap s.heap [] := va_S.rf
  have hqs := wOu_lt hPo
  have hqA : ¬ cA L ad s.heap.size qo := fun g => g.elim (fun ⟨k, hk, e⟩ => hq k hk e.symm) (fun g => absurd hqs (Nat.not_lt.mpr g))
  have hl := lv_entry ([.ref (ad 0), .int a1, .ref qo]) (n := 4) (Nat.le_of_ble_eq_true rfl)
  rw [lg_entry_eq]
  generalize (lg_sl ([.ref (ad 0), .int a1, .ref qo]) ++ List.replicate (4 - (lg_sl ([.ref (ad 0), .int a1, .ref qo])).length) Slot.unset).toArray = ls at hl ⊢
  have hl : lv_has ls 4 [(0, .ref (ad 0)), (1, .int a1), (2, .ref qo)] := hl
  refine lv_aload_n hx hb dL_orbitsAnew_0 rfl (lv_at hl 2 rfl) ?_
  refine lv_iconst (v := 0) hx hb dL_orbitsAnew_1 (by decide) ?_
  refine lv_aload_n hx hb dL_orbitsAnew_2 rfl (lv_at hl 0 rfl) ?_
  refine lv_iload_n hx hb dL_orbitsAnew_3 rfl (lv_at hl 1 rfl) ?_
  refine vx_calli (vx_runV (C := RX6) (As := [.int a1]) (rest := [.int 0, .ref qo]) ⟨hx, hb, hml, hown, hts⟩ (c_X6_orbitsAnew hflag hL hwd s.heap.size u a1 _ _ h) (cwV 1 hts gL_orbitsAnew_X6_orbitsAnew rfl rfl rfl (by decide +kernel) ⟨Nat.le_of_ble_eq_true rfl, Nat.le_of_ble_eq_true rfl⟩) (pcVX hC' hX hP hS (cg_0 hi0) rfl) rfl rfl hl.1 rfl (lv_room (Nat.le_of_ble_eq_true rfl)) dL_orbitsAnew_4 ⟨Nat.le_of_ble_eq_true rfl, Nat.le_of_ble_eq_true rfl⟩) hS (fun q _ h9 => h9) (fun q h9 => h9) (fun q _ h9 => h9) ?_ ?_
  · intro E ce q9 u9 t H1 locs1 ht hvm _ hB hz hk hS1 hcell hv9 hcl
    obtain ⟨hqx, hP1⟩ := hB
    rw [ht] at hP1
    have hPo1 := wOu_kept hPo (hk qo hqs hqA)
    have hS2 : va_S (cO L ad qo s.heap.size) s.heap H1 locs1 := va_S_w hS1 (fun _ => Or.inl)
    refine vx_widen (k := 1) (n := 6) (Nat.le_of_ble_eq_true rfl) (Nat.le_of_ble_eq_true rfl) ?_
    obtain ⟨rfl, hR⟩ := hqx
    refine vx_catch (name := "java/lang/IllegalArgumentException") hown [] ⟨0, 9, 12, 13⟩ [] htab (fun z hz => absurd hz List.not_mem_nil) rfl (by decide) (hts (.classLink RL 13 "java/lang/IllegalArgumentException") (by decide +kernel)) (va_Nw.use rfl (hX.1 _ (by simp))) hcell hv9 hcl ?_
    refine W.eq (g2 := F0 m 12 ls [.ref q9]) rfl ?_
    refine lv_astore_n (lv' := [(3, .ref q9), (0, .ref (ad 0)), (1, .int a1), (2, .ref qo)]) hx hb dL_orbitsAnew_12 rfl hl (by decide) rfl (fun ls hl => ?_)
    refine lv_iconst (v := 1) hx hb dL_orbitsAnew_13 (by decide) ?_
    exact W.iret (v := 1) hx hb hr (fun t ht hW => ⟨⟨_, ((ad, L, al, u9), o), rfl, ⟨XT.rf hwd hL hLb, hR⟩, by show va_P _ _ _ t.heap; rw [ht]; exact hP1, by show va_P _ _ _ t.heap; rw [ht]; exact hPo1⟩, hS2.F ht⟩) hS2.2.2 dL_orbitsAnew_14
  · intro r u9 t H1 locs1 ht hvm hR hB hz hk hS1
    have hP1 : va_P D vwCl (cW cI cG L ad al u9) H1 := by rw [← ht]; exact hB
    have hD1 : va_D (cA L ad s.heap.size) (cW cI cG L ad al u9) := cD hwd
    have hPo1 := wOu_kept hPo (hk qo hqs hqA)
    have hS2 : va_S (cO L ad qo s.heap.size) s.heap H1 locs1 := va_S_w hS1 (fun _ => Or.inl)
    refine W.widen (k := 1) (n := 6) (Nat.le_of_ble_eq_true rfl) (Nat.le_of_ble_eq_true rfl) ?_
    refine lv_i2l (v := r.toInt64) hx hb dL_orbitsAnew_7 rfl ?_
    refine out_st hx hb hK hP1 hPo1 (hD1.weaken (fun _ _ _ h9 => Or.inl h9)) (Or.inr rfl) (fun k q hk9 e9 => hqA (by rw [e9]; exact hD1.2 k q hk9)) hS2 dL_orbitsAnew_8 (fun H1 locs1 o1 ho1 hP1 hPo1 hS2 => ?_)
    refine lv_goto (tgt := 15) hx hb dL_orbitsAnew_9 (by decide) ?_
    refine lv_iconst (v := 0) hx hb dL_orbitsAnew_15 (by decide) ?_
    exact W.iret (v := 0) hx hb hr (fun t ht hW => ⟨⟨_, ((ad, L, al, u9), o1), rfl, ⟨(XT.rf hwd hL hLb), by show R 0 (o1 0) _ _; rw [ho1]; exact hR⟩, by show va_P _ _ _ t.heap; rw [ht]; exact hP1, by show va_P _ _ _ t.heap; rw [ht]; exact hPo1⟩, hS2.F ht⟩) hS2.2.2 dL_orbitsAnew_16
