set_option maxRecDepth 100000 in
set_option maxHeartbeats 4000000 in
theorem law_c9 {p : Program} {l : Launch} {e : Env} {s : State} {m : MethodId} {b Ls : Nat} {xs : Nat → Int32} {below : List Frame} {meth : Method} {c : Code} {D : va_G} {cI cG cZ cJ : ClassId} {ts : Nat × Nat} {x0 qo : Nat} {adm : Nat → Nat} (F : LF p l s m b Ls xs meth c D cI cG cZ cJ ts qo adm) {i : Int32} (hi1 : vp_in (i + 1) Ls) (hi2 : vp_in (i + 2) Ls) (hi3 : vp_in (i + 3) Ls) (hi4 : vp_in (i + 4) Ls) {cells slots : Nat} (hcell : cells + 8 ≤ 303322) (hslot : slots + 4000 ≤ 8186138) (K : LW p l e s m b below meth c D cI cG cZ cJ x0 qo adm i (cells + 8) (slots + 4000) 1226) : LW p l e s m b below meth c D cI cG cZ cJ x0 qo adm i cells slots 693 := by
  obtain ⟨C0, hflag, hC, hX, hN, hM⟩ := F
  obtain ⟨hx, hb, hr, hml, hown0, hts0, hXs, hbl, hlocks, -⟩ := C0
  have hown : s.vm.findClass RL = some m.cls := hown0
  have hts : ∀ w ∈ wsL_law, w.before #[Value.ref b] s = true := fun w h => hts0 w (wsL_law_in w h)
  have hK := hC.1
  have hbA : ¬ AL s b := Nat.not_le.mpr hbl
  intro H locs ls hst hS hl
  obtain ⟨L, ad, al, u, w, o, hal, hJJ, hJ, hPc, hPm, hPo⟩ := hst
  obtain ⟨hwd, hL, hLb, e0, hd⟩ := id hJ
  subst e0
  refine lv_aload_n hx hb dL_law_693 rfl (lv_at hl 1 rfl) ?_
  refine lv_aload_n hx hb dL_law_694 rfl (lv_at hl 0 rfl) ?_
  refine lv_iload hx hb dL_law_695 (lv_at hl 4 rfl) ?_
  refine lv_iconst (v := 1) hx hb dL_law_697 (by decide) ?_
  refine lv_iadd hx hb dL_law_698 ?_
  refine va_sld hx hb hXs hbl hbA hS hi1 dL_law_699 ?_
  refine lv_aload_n hx hb dL_law_700 rfl (lv_at hl 3 rfl) ?_
  refine lw_cw (Rr := RM (f_X7_dimension (xs (i + 1).toNatClampNeg) w)) (vx_runSW (As := [.ref (ad 0), .int (xs (i + 1).toNatClampNeg), .ref qo]) (rest := []) ⟨hx, hb, hml, hown, hts⟩ (c_L_dimension hflag hL hLb hwd qo H.size (fun k hk => (hd k hk).2.1) u o (xs (i + 1).toNatClampNeg) (RM (f_X7_dimension (xs (i + 1).toNatClampNeg) w)) (x_dim hJJ (fun r u9 hk => rm_0 hal hk) (fun u9 hk => ⟨rfl, rm_1 hal hk⟩))) (vx_cwSW 3 hts gL_law_L_dimension rfl rfl rfl (by decide +kernel) ⟨Nat.le_of_ble_eq_true rfl, Nat.le_of_ble_eq_true rfl⟩) (lw_pw hC hX hN hS hJ hM hPc hPo) rfl rfl hl.1 rfl (lv_room (Nat.le_of_ble_eq_true rfl)) dL_law_701 ⟨Nat.le_trans (Nat.add_le_add_left (by decide : 1 ≤ 8) cells) hcell, Nat.le_trans (Nat.add_le_add_left (Nat.le_of_ble_eq_true rfl : 6 ≤ 4000) slots) hslot⟩) hS hJ hM hPo hPm (fun k L1 ad1 al1 u1 o1 H locs hJ hR hPc hPo hPm hS => ?_)
  refine W.widen (k := cells + 8) (n := slots + 4000) (Nat.add_le_add_left (by decide) _) (Nat.add_le_add_left (Nat.le_of_ble_eq_true rfl) _) ?_
  obtain ⟨hal1, n, r, rfl, hn2, ho, hk⟩ := hR
  refine lv_istore (lv' := [(5, .int (nI n)), (0, .ref b), (1, .ref (ad 0)), (2, .ref (adm 0)), (3, .ref qo), (4, .int i)]) hx hb dL_law_704 hl (by decide) rfl (fun ls hl => ?_)
  refine lv_aload_n hx hb dL_law_706 rfl (lv_at hl 3 rfl) ?_
  refine lv_aload_n hx hb dL_law_707 rfl (lv_at hl 1 rfl) ?_
  refine lv_iload hx hb dL_law_708 (lv_at hl 5 rfl) ?_
  refine lv_iconst (v := 1) hx hb dL_law_710 (by decide) ?_
  refine lv_iadd hx hb dL_law_711 ?_
  refine va_sld hx hb hXs hbl hbA hS hi1 dL_law_712 ?_
  refine lw_cm (va_runV (C := RX7) (As := [.int (xs (i + 1).toNatClampNeg)]) (rest := []) ⟨hx, hb, hml, hown, hts⟩ (c_X7_dimension hM.1 H.size w (xs (i + 1).toNatClampNeg) _ (hk (fun r9 w9 => w9 0 0 = nI n ∧ (n = 0 → r9 = r) ∧ JJ al1 u1 w9) (fun r9 w9 g1 g2 g3 => ⟨g1, g2, g3⟩))) (cwV 1 hts gL_law_X7_dimension rfl rfl rfl (by decide +kernel) ⟨Nat.le_of_ble_eq_true rfl, Nat.le_of_ble_eq_true rfl⟩) (lw_pm hC hS hM hPm) rfl rfl hl.1 rfl (lv_room (Nat.le_of_ble_eq_true rfl)) dL_law_713 ⟨hcell, hslot⟩) hS hJ hM hPc hPo (fun r1 w1 H locs hq hPm hPc hPo hS => ?_)
  obtain ⟨g1, g2, hJJ⟩ := hq
  refine lv_istore (lv' := [(6, .int r1), (5, .int (nI n)), (0, .ref b), (1, .ref (ad 0)), (2, .ref (adm 0)), (3, .ref qo), (4, .int i)]) hx hb dL_law_716 hl (by decide) rfl (fun ls hl => ?_)
  refine lv_aload_n hx hb dL_law_718 rfl (lv_at hl 4 rfl) ?_
  refine lw_cm (va_runV (C := RX7) (As := []) (rest := []) ⟨hx, hb, hml, hown, hts⟩ (c_X7_thrown hM.1 H.size w1 (fun r2 w2 => r2 = w1 0 0 ∧ w2 = w1) ⟨rfl, rfl⟩) (cwV 0 hts gL_law_X7_thrown rfl rfl rfl (by decide +kernel) ⟨Nat.le_of_ble_eq_true rfl, Nat.le_of_ble_eq_true rfl⟩) (lw_pm hC hS hM hPm) rfl rfl hl.1 rfl (lv_room (Nat.le_of_ble_eq_true rfl)) dL_law_719 ⟨hcell, hslot⟩) hS hJ hM hPc hPo (fun r2 w2 H locs hq hPm hPc hPo hS => ?_)
  obtain ⟨e2, e3⟩ := hq
  rw [e3] at hPm
  rw [g1] at e2
  subst e2
  refine lv_iload hx hb dL_law_722 (lv_at hl 1 rfl) ?_
  refine lv_icmp_eq (tgt := 729) hx hb dL_law_724 (by decide) (fun _ => ?_) (fun c9 => absurd rfl c9)
  refine lv_iload hx hb dL_law_729 (lv_at hl 1 rfl) ?_
  refine lv_if_ne (tgt := 746) hx hb dL_law_731 (by decide) (fun c9 => ?_) (fun c9 => ?_)
  · refine lv_goto (tgt := 1226) hx hb dL_law_746 (by decide) ?_
    exact K _ _ _ ⟨L1, ad1, al1, u1, w1, o1, hal1, hJJ, hJ, hPc, hPm, hPo⟩ hS (lv_sub hl [2, 3, 4, 5, 6] rfl)
  have hn0 := nI_no0 hn2 c9
  refine lv_aload_n hx hb dL_law_734 rfl (lv_at hl 5 rfl) ?_
  refine lv_iconst (v := 0) hx hb dL_law_735 (by decide) ?_
  refine va_lald (cA := cJ) (n := 1) (f := o1) hx hb hK hPo 0 3 rfl rfl (show ¬ ((0 : Int32) < 0 ∨ 1 ≤ (0 : Int32).toNatClampNeg) by decide) dL_law_736 ?_
  refine W.eq (g2 := F0 m 737 ls [.long r.toInt64]) (by rw [← ho hn0]; rfl) ?_
  refine lv_iload hx hb dL_law_737 (lv_at hl 0 rfl) ?_
  refine lv_i2l (v := r1.toInt64) hx hb dL_law_739 rfl ?_
  refine W.lcmp hx hb dL_law_740 ?_
  refine lv_if_eq (tgt := 746) hx hb dL_law_741 (by decide) (fun _ => ?_) (fun c8 => absurd (by rw [g2 hn0]; exact lg_same _) c8)
  refine lv_goto (tgt := 1226) hx hb dL_law_746 (by decide) ?_
  exact K _ _ _ ⟨L1, ad1, al1, u1, w1, o1, hal1, hJJ, hJ, hPc, hPm, hPo⟩ hS (lv_sub hl [2, 3, 4, 5, 6] rfl)
set_option maxRecDepth 100000 in
set_option maxHeartbeats 4000000 in
theorem law_c10 {p : Program} {l : Launch} {e : Env} {s : State} {m : MethodId} {b Ls : Nat} {xs : Nat → Int32} {below : List Frame} {meth : Method} {c : Code} {D : va_G} {cI cG cZ cJ : ClassId} {ts : Nat × Nat} {x0 qo : Nat} {adm : Nat → Nat} (F : LF p l s m b Ls xs meth c D cI cG cZ cJ ts qo adm) {i : Int32} (hi1 : vp_in (i + 1) Ls) (hi2 : vp_in (i + 2) Ls) (hi3 : vp_in (i + 3) Ls) (hi4 : vp_in (i + 4) Ls) {cells slots : Nat} (hcell : cells + 8 ≤ 303322) (hslot : slots + 4000 ≤ 8186138) (K : LW p l e s m b below meth c D cI cG cZ cJ x0 qo adm i (cells + 8) (slots + 4000) 1226) : LW p l e s m b below meth c D cI cG cZ cJ x0 qo adm i cells slots 749 := by
  obtain ⟨C0, hflag, hC, hX, hN, hM⟩ := F
  obtain ⟨hx, hb, hr, hml, hown0, hts0, hXs, hbl, hlocks, -⟩ := C0
  have hown : s.vm.findClass RL = some m.cls := hown0
  have hts : ∀ w ∈ wsL_law, w.before #[Value.ref b] s = true := fun w h => hts0 w (wsL_law_in w h)
  have hK := hC.1
  have hbA : ¬ AL s b := Nat.not_le.mpr hbl
  intro H locs ls hst hS hl
  obtain ⟨L, ad, al, u, w, o, hal, hJJ, hJ, hPc, hPm, hPo⟩ := hst
  obtain ⟨hwd, hL, hLb, e0, hd⟩ := id hJ
  subst e0
  refine lv_aload_n hx hb dL_law_749 rfl (lv_at hl 1 rfl) ?_
  refine lv_aload_n hx hb dL_law_750 rfl (lv_at hl 0 rfl) ?_
  refine lv_iload hx hb dL_law_751 (lv_at hl 4 rfl) ?_
  refine lv_iconst (v := 1) hx hb dL_law_753 (by decide) ?_
  refine lv_iadd hx hb dL_law_754 ?_
  refine va_sld hx hb hXs hbl hbA hS hi1 dL_law_755 ?_
  refine lv_aload_n hx hb dL_law_756 rfl (lv_at hl 3 rfl) ?_
  refine lw_cw (Rr := RM (f_X7_dimensionAnew (xs (i + 1).toNatClampNeg) w)) (vx_runSW (As := [.ref (ad 0), .int (xs (i + 1).toNatClampNeg), .ref qo]) (rest := []) ⟨hx, hb, hml, hown, hts⟩ (c_L_dimensionAnew hflag hL hLb hwd qo H.size (fun k hk => (hd k hk).2.1) u o (xs (i + 1).toNatClampNeg) (RM (f_X7_dimensionAnew (xs (i + 1).toNatClampNeg) w)) (x_dimA hJJ (fun r u9 hk => rm_0 hal hk) (fun u9 hk => ⟨rfl, rm_1 hal hk⟩))) (vx_cwSW 3 hts gL_law_L_dimensionAnew rfl rfl rfl (by decide +kernel) ⟨Nat.le_of_ble_eq_true rfl, Nat.le_of_ble_eq_true rfl⟩) (lw_pw hC hX hN hS hJ hM hPc hPo) rfl rfl hl.1 rfl (lv_room (Nat.le_of_ble_eq_true rfl)) dL_law_757 ⟨Nat.le_trans (Nat.add_le_add_left (by decide : 1 ≤ 8) cells) hcell, Nat.le_trans (Nat.add_le_add_left (Nat.le_of_ble_eq_true rfl : 6 ≤ 4000) slots) hslot⟩) hS hJ hM hPo hPm (fun k L1 ad1 al1 u1 o1 H locs hJ hR hPc hPo hPm hS => ?_)
  refine W.widen (k := cells + 8) (n := slots + 4000) (Nat.add_le_add_left (by decide) _) (Nat.add_le_add_left (Nat.le_of_ble_eq_true rfl) _) ?_
  obtain ⟨hal1, n, r, rfl, hn2, ho, hk⟩ := hR
  refine lv_istore (lv' := [(5, .int (nI n)), (0, .ref b), (1, .ref (ad 0)), (2, .ref (adm 0)), (3, .ref qo), (4, .int i)]) hx hb dL_law_760 hl (by decide) rfl (fun ls hl => ?_)
  refine lv_aload_n hx hb dL_law_762 rfl (lv_at hl 3 rfl) ?_
  refine lv_aload_n hx hb dL_law_763 rfl (lv_at hl 1 rfl) ?_
  refine lv_iload hx hb dL_law_764 (lv_at hl 5 rfl) ?_
  refine lv_iconst (v := 1) hx hb dL_law_766 (by decide) ?_
  refine lv_iadd hx hb dL_law_767 ?_
  refine va_sld hx hb hXs hbl hbA hS hi1 dL_law_768 ?_
  refine lw_cm (va_runV (C := RX7) (As := [.int (xs (i + 1).toNatClampNeg)]) (rest := []) ⟨hx, hb, hml, hown, hts⟩ (c_X7_dimensionAnew hM.1 H.size w (xs (i + 1).toNatClampNeg) _ (hk (fun r9 w9 => w9 0 0 = nI n ∧ (n = 0 → r9 = r) ∧ JJ al1 u1 w9) (fun r9 w9 g1 g2 g3 => ⟨g1, g2, g3⟩))) (cwV 1 hts gL_law_X7_dimensionAnew rfl rfl rfl (by decide +kernel) ⟨Nat.le_of_ble_eq_true rfl, Nat.le_of_ble_eq_true rfl⟩) (lw_pm hC hS hM hPm) rfl rfl hl.1 rfl (lv_room (Nat.le_of_ble_eq_true rfl)) dL_law_769 ⟨hcell, hslot⟩) hS hJ hM hPc hPo (fun r1 w1 H locs hq hPm hPc hPo hS => ?_)
  obtain ⟨g1, g2, hJJ⟩ := hq
  refine lv_istore (lv' := [(6, .int r1), (5, .int (nI n)), (0, .ref b), (1, .ref (ad 0)), (2, .ref (adm 0)), (3, .ref qo), (4, .int i)]) hx hb dL_law_772 hl (by decide) rfl (fun ls hl => ?_)
  refine lv_aload_n hx hb dL_law_774 rfl (lv_at hl 4 rfl) ?_
  refine lw_cm (va_runV (C := RX7) (As := []) (rest := []) ⟨hx, hb, hml, hown, hts⟩ (c_X7_thrown hM.1 H.size w1 (fun r2 w2 => r2 = w1 0 0 ∧ w2 = w1) ⟨rfl, rfl⟩) (cwV 0 hts gL_law_X7_thrown rfl rfl rfl (by decide +kernel) ⟨Nat.le_of_ble_eq_true rfl, Nat.le_of_ble_eq_true rfl⟩) (lw_pm hC hS hM hPm) rfl rfl hl.1 rfl (lv_room (Nat.le_of_ble_eq_true rfl)) dL_law_775 ⟨hcell, hslot⟩) hS hJ hM hPc hPo (fun r2 w2 H locs hq hPm hPc hPo hS => ?_)
  obtain ⟨e2, e3⟩ := hq
  rw [e3] at hPm
  rw [g1] at e2
  subst e2
  refine lv_iload hx hb dL_law_778 (lv_at hl 1 rfl) ?_
  refine lv_icmp_eq (tgt := 785) hx hb dL_law_780 (by decide) (fun _ => ?_) (fun c9 => absurd rfl c9)
  refine lv_iload hx hb dL_law_785 (lv_at hl 1 rfl) ?_
  refine lv_if_ne (tgt := 802) hx hb dL_law_787 (by decide) (fun c9 => ?_) (fun c9 => ?_)
  · refine lv_goto (tgt := 1226) hx hb dL_law_802 (by decide) ?_
    exact K _ _ _ ⟨L1, ad1, al1, u1, w1, o1, hal1, hJJ, hJ, hPc, hPm, hPo⟩ hS (lv_sub hl [2, 3, 4, 5, 6] rfl)
  have hn0 := nI_no0 hn2 c9
  refine lv_aload_n hx hb dL_law_790 rfl (lv_at hl 5 rfl) ?_
  refine lv_iconst (v := 0) hx hb dL_law_791 (by decide) ?_
  refine va_lald (cA := cJ) (n := 1) (f := o1) hx hb hK hPo 0 3 rfl rfl (show ¬ ((0 : Int32) < 0 ∨ 1 ≤ (0 : Int32).toNatClampNeg) by decide) dL_law_792 ?_
  refine W.eq (g2 := F0 m 793 ls [.long r.toInt64]) (by rw [← ho hn0]; rfl) ?_
  refine lv_iload hx hb dL_law_793 (lv_at hl 0 rfl) ?_
  refine lv_i2l (v := r1.toInt64) hx hb dL_law_795 rfl ?_
  refine W.lcmp hx hb dL_law_796 ?_
  refine lv_if_eq (tgt := 802) hx hb dL_law_797 (by decide) (fun _ => ?_) (fun c8 => absurd (by rw [g2 hn0]; exact lg_same _) c8)
  refine lv_goto (tgt := 1226) hx hb dL_law_802 (by decide) ?_
  exact K _ _ _ ⟨L1, ad1, al1, u1, w1, o1, hal1, hJJ, hJ, hPc, hPm, hPo⟩ hS (lv_sub hl [2, 3, 4, 5, 6] rfl)
set_option maxRecDepth 100000 in
set_option maxHeartbeats 4000000 in
theorem law_c11 {p : Program} {l : Launch} {e : Env} {s : State} {m : MethodId} {b Ls : Nat} {xs : Nat → Int32} {below : List Frame} {meth : Method} {c : Code} {D : va_G} {cI cG cZ cJ : ClassId} {ts : Nat × Nat} {x0 qo : Nat} {adm : Nat → Nat} (F : LF p l s m b Ls xs meth c D cI cG cZ cJ ts qo adm) {i : Int32} (hi1 : vp_in (i + 1) Ls) (hi2 : vp_in (i + 2) Ls) (hi3 : vp_in (i + 3) Ls) (hi4 : vp_in (i + 4) Ls) {cells slots : Nat} (hcell : cells + 8 ≤ 303322) (hslot : slots + 4000 ≤ 8186138) (K : LW p l e s m b below meth c D cI cG cZ cJ x0 qo adm i (cells + 8) (slots + 4000) 1226) : LW p l e s m b below meth c D cI cG cZ cJ x0 qo adm i cells slots 805 := by
  obtain ⟨C0, hflag, hC, hX, hN, hM⟩ := F
  obtain ⟨hx, hb, hr, hml, hown0, hts0, hXs, hbl, hlocks, -⟩ := C0
  have hown : s.vm.findClass RL = some m.cls := hown0
  have hts : ∀ w ∈ wsL_law, w.before #[Value.ref b] s = true := fun w h => hts0 w (wsL_law_in w h)
  have hK := hC.1
  have hbA : ¬ AL s b := Nat.not_le.mpr hbl
  intro H locs ls hst hS hl
  obtain ⟨L, ad, al, u, w, o, hal, hJJ, hJ, hPc, hPm, hPo⟩ := hst
  obtain ⟨hwd, hL, hLb, e0, hd⟩ := id hJ
  subst e0
  refine lv_aload_n hx hb dL_law_805 rfl (lv_at hl 1 rfl) ?_
  refine lv_aload_n hx hb dL_law_806 rfl (lv_at hl 0 rfl) ?_
  refine lv_iload hx hb dL_law_807 (lv_at hl 4 rfl) ?_
  refine lv_iconst (v := 1) hx hb dL_law_809 (by decide) ?_
  refine lv_iadd hx hb dL_law_810 ?_
  refine va_sld hx hb hXs hbl hbA hS hi1 dL_law_811 ?_
  refine lv_aload_n hx hb dL_law_812 rfl (lv_at hl 0 rfl) ?_
  refine lv_iload hx hb dL_law_813 (lv_at hl 4 rfl) ?_
  refine lv_iconst (v := 2) hx hb dL_law_815 (by decide) ?_
  refine lv_iadd hx hb dL_law_816 ?_
  refine va_sld hx hb hXs hbl hbA hS hi2 dL_law_817 ?_
  refine lv_aload_n hx hb dL_law_818 rfl (lv_at hl 0 rfl) ?_
  refine lv_iload hx hb dL_law_819 (lv_at hl 4 rfl) ?_
  refine lv_iconst (v := 3) hx hb dL_law_821 (by decide) ?_
  refine lv_iadd hx hb dL_law_822 ?_
  refine va_sld hx hb hXs hbl hbA hS hi3 dL_law_823 ?_
  refine lv_aload_n hx hb dL_law_824 rfl (lv_at hl 3 rfl) ?_
  refine lw_cw (Rr := RM (f_X7_transvectant (xs (i + 1).toNatClampNeg) (xs (i + 2).toNatClampNeg) (xs (i + 3).toNatClampNeg) w)) (vx_runSW (As := [.ref (ad 0), .int (xs (i + 1).toNatClampNeg), .int (xs (i + 2).toNatClampNeg), .int (xs (i + 3).toNatClampNeg), .ref qo]) (rest := []) ⟨hx, hb, hml, hown, hts⟩ (c_L_transvectant hflag hL hLb hwd qo H.size (fun k hk => (hd k hk).2.1) u o (xs (i + 1).toNatClampNeg) (xs (i + 2).toNatClampNeg) (xs (i + 3).toNatClampNeg) (RM (f_X7_transvectant (xs (i + 1).toNatClampNeg) (xs (i + 2).toNatClampNeg) (xs (i + 3).toNatClampNeg) w)) (x_trans hJJ (fun r u9 hk => rm_0 hal hk) (fun u9 hk => Or.inl ⟨rfl, rm_1 hal hk⟩) (fun u9 hk => Or.inr ⟨rfl, rm_2 hal hk⟩))) (vx_cwSW 5 hts gL_law_L_transvectant rfl rfl rfl (by decide +kernel) ⟨Nat.le_of_ble_eq_true rfl, Nat.le_of_ble_eq_true rfl⟩) (lw_pw hC hX hN hS hJ hM hPc hPo) rfl rfl hl.1 rfl (lv_room (Nat.le_of_ble_eq_true rfl)) dL_law_825 ⟨Nat.le_trans (Nat.add_le_add_left (by decide : 3 ≤ 8) cells) hcell, Nat.le_trans (Nat.add_le_add_left (Nat.le_of_ble_eq_true rfl : 18 ≤ 4000) slots) hslot⟩) hS hJ hM hPo hPm (fun k L1 ad1 al1 u1 o1 H locs hJ hR hPc hPo hPm hS => ?_)
  refine W.widen (k := cells + 8) (n := slots + 4000) (Nat.add_le_add_left (by decide) _) (Nat.add_le_add_left (Nat.le_of_ble_eq_true rfl) _) ?_
  obtain ⟨hal1, n, r, rfl, hn2, ho, hk⟩ := hR
  refine lv_istore (lv' := [(5, .int (nI n)), (0, .ref b), (1, .ref (ad 0)), (2, .ref (adm 0)), (3, .ref qo), (4, .int i)]) hx hb dL_law_828 hl (by decide) rfl (fun ls hl => ?_)
  refine lv_aload_n hx hb dL_law_830 rfl (lv_at hl 3 rfl) ?_
  refine lv_aload_n hx hb dL_law_831 rfl (lv_at hl 1 rfl) ?_
  refine lv_iload hx hb dL_law_832 (lv_at hl 5 rfl) ?_
  refine lv_iconst (v := 1) hx hb dL_law_834 (by decide) ?_
  refine lv_iadd hx hb dL_law_835 ?_
  refine va_sld hx hb hXs hbl hbA hS hi1 dL_law_836 ?_
  refine lv_aload_n hx hb dL_law_837 rfl (lv_at hl 1 rfl) ?_
  refine lv_iload hx hb dL_law_838 (lv_at hl 5 rfl) ?_
  refine lv_iconst (v := 2) hx hb dL_law_840 (by decide) ?_
  refine lv_iadd hx hb dL_law_841 ?_
  refine va_sld hx hb hXs hbl hbA hS hi2 dL_law_842 ?_
  refine lv_aload_n hx hb dL_law_843 rfl (lv_at hl 1 rfl) ?_
  refine lv_iload hx hb dL_law_844 (lv_at hl 5 rfl) ?_
  refine lv_iconst (v := 3) hx hb dL_law_846 (by decide) ?_
  refine lv_iadd hx hb dL_law_847 ?_
  refine va_sld hx hb hXs hbl hbA hS hi3 dL_law_848 ?_
  refine lw_cm (va_runV (C := RX7) (As := [.int (xs (i + 1).toNatClampNeg), .int (xs (i + 2).toNatClampNeg), .int (xs (i + 3).toNatClampNeg)]) (rest := []) ⟨hx, hb, hml, hown, hts⟩ (c_X7_transvectant hM.1 H.size w (xs (i + 1).toNatClampNeg) (xs (i + 2).toNatClampNeg) (xs (i + 3).toNatClampNeg) _ (hk (fun r9 w9 => w9 0 0 = nI n ∧ (n = 0 → r9 = r) ∧ JJ al1 u1 w9) (fun r9 w9 g1 g2 g3 => ⟨g1, g2, g3⟩))) (cwV 3 hts gL_law_X7_transvectant rfl rfl rfl (by decide +kernel) ⟨Nat.le_of_ble_eq_true rfl, Nat.le_of_ble_eq_true rfl⟩) (lw_pm hC hS hM hPm) rfl rfl hl.1 rfl (lv_room (Nat.le_of_ble_eq_true rfl)) dL_law_849 ⟨hcell, hslot⟩) hS hJ hM hPc hPo (fun r1 w1 H locs hq hPm hPc hPo hS => ?_)
  obtain ⟨g1, g2, hJJ⟩ := hq
  refine lv_istore (lv' := [(6, .int r1), (5, .int (nI n)), (0, .ref b), (1, .ref (ad 0)), (2, .ref (adm 0)), (3, .ref qo), (4, .int i)]) hx hb dL_law_852 hl (by decide) rfl (fun ls hl => ?_)
  refine lv_aload_n hx hb dL_law_854 rfl (lv_at hl 4 rfl) ?_
  refine lw_cm (va_runV (C := RX7) (As := []) (rest := []) ⟨hx, hb, hml, hown, hts⟩ (c_X7_thrown hM.1 H.size w1 (fun r2 w2 => r2 = w1 0 0 ∧ w2 = w1) ⟨rfl, rfl⟩) (cwV 0 hts gL_law_X7_thrown rfl rfl rfl (by decide +kernel) ⟨Nat.le_of_ble_eq_true rfl, Nat.le_of_ble_eq_true rfl⟩) (lw_pm hC hS hM hPm) rfl rfl hl.1 rfl (lv_room (Nat.le_of_ble_eq_true rfl)) dL_law_855 ⟨hcell, hslot⟩) hS hJ hM hPc hPo (fun r2 w2 H locs hq hPm hPc hPo hS => ?_)
  obtain ⟨e2, e3⟩ := hq
  rw [e3] at hPm
  rw [g1] at e2
  subst e2
  refine lv_iload hx hb dL_law_858 (lv_at hl 1 rfl) ?_
  refine lv_icmp_eq (tgt := 865) hx hb dL_law_860 (by decide) (fun _ => ?_) (fun c9 => absurd rfl c9)
  refine lv_iload hx hb dL_law_865 (lv_at hl 1 rfl) ?_
  refine lv_if_ne (tgt := 882) hx hb dL_law_867 (by decide) (fun c9 => ?_) (fun c9 => ?_)
  · refine lv_goto (tgt := 1226) hx hb dL_law_882 (by decide) ?_
    exact K _ _ _ ⟨L1, ad1, al1, u1, w1, o1, hal1, hJJ, hJ, hPc, hPm, hPo⟩ hS (lv_sub hl [2, 3, 4, 5, 6] rfl)
  have hn0 := nI_no0 hn2 c9
  refine lv_aload_n hx hb dL_law_870 rfl (lv_at hl 5 rfl) ?_
  refine lv_iconst (v := 0) hx hb dL_law_871 (by decide) ?_
  refine va_lald (cA := cJ) (n := 1) (f := o1) hx hb hK hPo 0 3 rfl rfl (show ¬ ((0 : Int32) < 0 ∨ 1 ≤ (0 : Int32).toNatClampNeg) by decide) dL_law_872 ?_
  refine W.eq (g2 := F0 m 873 ls [.long r.toInt64]) (by rw [← ho hn0]; rfl) ?_
  refine lv_iload hx hb dL_law_873 (lv_at hl 0 rfl) ?_
  refine lv_i2l (v := r1.toInt64) hx hb dL_law_875 rfl ?_
  refine W.lcmp hx hb dL_law_876 ?_
  refine lv_if_eq (tgt := 882) hx hb dL_law_877 (by decide) (fun _ => ?_) (fun c8 => absurd (by rw [g2 hn0]; exact lg_same _) c8)
  refine lv_goto (tgt := 1226) hx hb dL_law_882 (by decide) ?_
  exact K _ _ _ ⟨L1, ad1, al1, u1, w1, o1, hal1, hJJ, hJ, hPc, hPm, hPo⟩ hS (lv_sub hl [2, 3, 4, 5, 6] rfl)
set_option maxRecDepth 100000 in
set_option maxHeartbeats 4000000 in
theorem law_c12 {p : Program} {l : Launch} {e : Env} {s : State} {m : MethodId} {b Ls : Nat} {xs : Nat → Int32} {below : List Frame} {meth : Method} {c : Code} {D : va_G} {cI cG cZ cJ : ClassId} {ts : Nat × Nat} {x0 qo : Nat} {adm : Nat → Nat} (F : LF p l s m b Ls xs meth c D cI cG cZ cJ ts qo adm) {i : Int32} (hi1 : vp_in (i + 1) Ls) (hi2 : vp_in (i + 2) Ls) (hi3 : vp_in (i + 3) Ls) (hi4 : vp_in (i + 4) Ls) {cells slots : Nat} (hcell : cells + 8 ≤ 303322) (hslot : slots + 4000 ≤ 8186138) (K : LW p l e s m b below meth c D cI cG cZ cJ x0 qo adm i (cells + 8) (slots + 4000) 1226) : LW p l e s m b below meth c D cI cG cZ cJ x0 qo adm i cells slots 885 := by
  obtain ⟨C0, hflag, hC, hX, hN, hM⟩ := F
  obtain ⟨hx, hb, hr, hml, hown0, hts0, hXs, hbl, hlocks, -⟩ := C0
  have hown : s.vm.findClass RL = some m.cls := hown0
  have hts : ∀ w ∈ wsL_law, w.before #[Value.ref b] s = true := fun w h => hts0 w (wsL_law_in w h)
  have hK := hC.1
  have hbA : ¬ AL s b := Nat.not_le.mpr hbl
  intro H locs ls hst hS hl
  obtain ⟨L, ad, al, u, w, o, hal, hJJ, hJ, hPc, hPm, hPo⟩ := hst
  obtain ⟨hwd, hL, hLb, e0, hd⟩ := id hJ
  subst e0
  refine lv_aload_n hx hb dL_law_885 rfl (lv_at hl 1 rfl) ?_
  refine lv_aload_n hx hb dL_law_886 rfl (lv_at hl 0 rfl) ?_
  refine lv_iload hx hb dL_law_887 (lv_at hl 4 rfl) ?_
  refine lv_iconst (v := 1) hx hb dL_law_889 (by decide) ?_
  refine lv_iadd hx hb dL_law_890 ?_
  refine va_sld hx hb hXs hbl hbA hS hi1 dL_law_891 ?_
  refine lv_aload_n hx hb dL_law_892 rfl (lv_at hl 0 rfl) ?_
  refine lv_iload hx hb dL_law_893 (lv_at hl 4 rfl) ?_
  refine lv_iconst (v := 2) hx hb dL_law_895 (by decide) ?_
  refine lv_iadd hx hb dL_law_896 ?_
  refine va_sld hx hb hXs hbl hbA hS hi2 dL_law_897 ?_
  refine lv_aload_n hx hb dL_law_898 rfl (lv_at hl 3 rfl) ?_
  refine lw_cw (Rr := RM (f_X7_value (xs (i + 1).toNatClampNeg) (xs (i + 2).toNatClampNeg) w)) (vx_runSW (As := [.ref (ad 0), .int (xs (i + 1).toNatClampNeg), .int (xs (i + 2).toNatClampNeg), .ref qo]) (rest := []) ⟨hx, hb, hml, hown, hts⟩ (c_L_value hflag hL hLb hwd qo H.size (fun k hk => (hd k hk).2.1) u o (xs (i + 1).toNatClampNeg) (xs (i + 2).toNatClampNeg) (RM (f_X7_value (xs (i + 1).toNatClampNeg) (xs (i + 2).toNatClampNeg) w)) (x_value hJJ (fun r u9 hk => rm_0 hal hk) (fun u9 hk => Or.inl ⟨rfl, rm_1 hal hk⟩) (fun u9 hk => Or.inr ⟨rfl, rm_2 hal hk⟩))) (vx_cwSW 4 hts gL_law_L_value rfl rfl rfl (by decide +kernel) ⟨Nat.le_of_ble_eq_true rfl, Nat.le_of_ble_eq_true rfl⟩) (lw_pw hC hX hN hS hJ hM hPc hPo) rfl rfl hl.1 rfl (lv_room (Nat.le_of_ble_eq_true rfl)) dL_law_899 ⟨Nat.le_trans (Nat.add_le_add_left (by decide : 2 ≤ 8) cells) hcell, Nat.le_trans (Nat.add_le_add_left (Nat.le_of_ble_eq_true rfl : 12 ≤ 4000) slots) hslot⟩) hS hJ hM hPo hPm (fun k L1 ad1 al1 u1 o1 H locs hJ hR hPc hPo hPm hS => ?_)
  refine W.widen (k := cells + 8) (n := slots + 4000) (Nat.add_le_add_left (by decide) _) (Nat.add_le_add_left (Nat.le_of_ble_eq_true rfl) _) ?_
  obtain ⟨hal1, n, r, rfl, hn2, ho, hk⟩ := hR
  refine lv_istore (lv' := [(5, .int (nI n)), (0, .ref b), (1, .ref (ad 0)), (2, .ref (adm 0)), (3, .ref qo), (4, .int i)]) hx hb dL_law_902 hl (by decide) rfl (fun ls hl => ?_)
  refine lv_aload_n hx hb dL_law_904 rfl (lv_at hl 3 rfl) ?_
  refine lv_aload_n hx hb dL_law_905 rfl (lv_at hl 1 rfl) ?_
  refine lv_iload hx hb dL_law_906 (lv_at hl 5 rfl) ?_
  refine lv_iconst (v := 1) hx hb dL_law_908 (by decide) ?_
  refine lv_iadd hx hb dL_law_909 ?_
  refine va_sld hx hb hXs hbl hbA hS hi1 dL_law_910 ?_
  refine lv_aload_n hx hb dL_law_911 rfl (lv_at hl 1 rfl) ?_
  refine lv_iload hx hb dL_law_912 (lv_at hl 5 rfl) ?_
  refine lv_iconst (v := 2) hx hb dL_law_914 (by decide) ?_
  refine lv_iadd hx hb dL_law_915 ?_
  refine va_sld hx hb hXs hbl hbA hS hi2 dL_law_916 ?_
  refine lw_cm (va_runV (C := RX7) (As := [.int (xs (i + 1).toNatClampNeg), .int (xs (i + 2).toNatClampNeg)]) (rest := []) ⟨hx, hb, hml, hown, hts⟩ (c_X7_value hM.1 H.size w (xs (i + 1).toNatClampNeg) (xs (i + 2).toNatClampNeg) _ (hk (fun r9 w9 => w9 0 0 = nI n ∧ (n = 0 → r9 = r) ∧ JJ al1 u1 w9) (fun r9 w9 g1 g2 g3 => ⟨g1, g2, g3⟩))) (cwV 2 hts gL_law_X7_value rfl rfl rfl (by decide +kernel) ⟨Nat.le_of_ble_eq_true rfl, Nat.le_of_ble_eq_true rfl⟩) (lw_pm hC hS hM hPm) rfl rfl hl.1 rfl (lv_room (Nat.le_of_ble_eq_true rfl)) dL_law_917 ⟨hcell, hslot⟩) hS hJ hM hPc hPo (fun r1 w1 H locs hq hPm hPc hPo hS => ?_)
  obtain ⟨g1, g2, hJJ⟩ := hq
  refine lv_istore (lv' := [(6, .int r1), (5, .int (nI n)), (0, .ref b), (1, .ref (ad 0)), (2, .ref (adm 0)), (3, .ref qo), (4, .int i)]) hx hb dL_law_920 hl (by decide) rfl (fun ls hl => ?_)
  refine lv_aload_n hx hb dL_law_922 rfl (lv_at hl 4 rfl) ?_
  refine lw_cm (va_runV (C := RX7) (As := []) (rest := []) ⟨hx, hb, hml, hown, hts⟩ (c_X7_thrown hM.1 H.size w1 (fun r2 w2 => r2 = w1 0 0 ∧ w2 = w1) ⟨rfl, rfl⟩) (cwV 0 hts gL_law_X7_thrown rfl rfl rfl (by decide +kernel) ⟨Nat.le_of_ble_eq_true rfl, Nat.le_of_ble_eq_true rfl⟩) (lw_pm hC hS hM hPm) rfl rfl hl.1 rfl (lv_room (Nat.le_of_ble_eq_true rfl)) dL_law_923 ⟨hcell, hslot⟩) hS hJ hM hPc hPo (fun r2 w2 H locs hq hPm hPc hPo hS => ?_)
  obtain ⟨e2, e3⟩ := hq
  rw [e3] at hPm
  rw [g1] at e2
  subst e2
  refine lv_iload hx hb dL_law_926 (lv_at hl 1 rfl) ?_
  refine lv_icmp_eq (tgt := 933) hx hb dL_law_928 (by decide) (fun _ => ?_) (fun c9 => absurd rfl c9)
  refine lv_iload hx hb dL_law_933 (lv_at hl 1 rfl) ?_
  refine lv_if_ne (tgt := 950) hx hb dL_law_935 (by decide) (fun c9 => ?_) (fun c9 => ?_)
  · refine lv_goto (tgt := 1226) hx hb dL_law_950 (by decide) ?_
    exact K _ _ _ ⟨L1, ad1, al1, u1, w1, o1, hal1, hJJ, hJ, hPc, hPm, hPo⟩ hS (lv_sub hl [2, 3, 4, 5, 6] rfl)
  have hn0 := nI_no0 hn2 c9
  refine lv_aload_n hx hb dL_law_938 rfl (lv_at hl 5 rfl) ?_
  refine lv_iconst (v := 0) hx hb dL_law_939 (by decide) ?_
  refine va_lald (cA := cJ) (n := 1) (f := o1) hx hb hK hPo 0 3 rfl rfl (show ¬ ((0 : Int32) < 0 ∨ 1 ≤ (0 : Int32).toNatClampNeg) by decide) dL_law_940 ?_
  refine W.eq (g2 := F0 m 941 ls [.long r.toInt64]) (by rw [← ho hn0]; rfl) ?_
  refine lv_iload hx hb dL_law_941 (lv_at hl 0 rfl) ?_
  refine lv_i2l (v := r1.toInt64) hx hb dL_law_943 rfl ?_
  refine W.lcmp hx hb dL_law_944 ?_
  refine lv_if_eq (tgt := 950) hx hb dL_law_945 (by decide) (fun _ => ?_) (fun c8 => absurd (by rw [g2 hn0]; exact lg_same _) c8)
  refine lv_goto (tgt := 1226) hx hb dL_law_950 (by decide) ?_
  exact K _ _ _ ⟨L1, ad1, al1, u1, w1, o1, hal1, hJJ, hJ, hPc, hPm, hPo⟩ hS (lv_sub hl [2, 3, 4, 5, 6] rfl)
set_option maxRecDepth 100000 in
set_option maxHeartbeats 4000000 in
theorem law_c13 {p : Program} {l : Launch} {e : Env} {s : State} {m : MethodId} {b Ls : Nat} {xs : Nat → Int32} {below : List Frame} {meth : Method} {c : Code} {D : va_G} {cI cG cZ cJ : ClassId} {ts : Nat × Nat} {x0 qo : Nat} {adm : Nat → Nat} (F : LF p l s m b Ls xs meth c D cI cG cZ cJ ts qo adm) {i : Int32} (hi1 : vp_in (i + 1) Ls) (hi2 : vp_in (i + 2) Ls) (hi3 : vp_in (i + 3) Ls) (hi4 : vp_in (i + 4) Ls) {cells slots : Nat} (hcell : cells + 8 ≤ 303322) (hslot : slots + 4000 ≤ 8186138) (K : LW p l e s m b below meth c D cI cG cZ cJ x0 qo adm i (cells + 8) (slots + 4000) 1226) : LW p l e s m b below meth c D cI cG cZ cJ x0 qo adm i cells slots 953 := by
  obtain ⟨C0, hflag, hC, hX, hN, hM⟩ := F
  obtain ⟨hx, hb, hr, hml, hown0, hts0, hXs, hbl, hlocks, -⟩ := C0
  have hown : s.vm.findClass RL = some m.cls := hown0
  have hts : ∀ w ∈ wsL_law, w.before #[Value.ref b] s = true := fun w h => hts0 w (wsL_law_in w h)
  have hK := hC.1
  have hbA : ¬ AL s b := Nat.not_le.mpr hbl
  intro H locs ls hst hS hl
  obtain ⟨L, ad, al, u, w, o, hal, hJJ, hJ, hPc, hPm, hPo⟩ := hst
  obtain ⟨hwd, hL, hLb, e0, hd⟩ := id hJ
  subst e0
  refine lv_aload_n hx hb dL_law_953 rfl (lv_at hl 1 rfl) ?_
  refine W.widen (k := cells + 8) (n := slots + 4000) (Nat.le_add_right _ _) (Nat.le_add_right _ _) ?_
  refine lw_cc (va_runV (C := RX6) (As := []) (rest := []) ⟨hx, hb, hml, hown, hts⟩ (c_X6_weighs hL hwd H.size u (fun r u1 => ∀ Q9 : Int32 → St → Prop, (∀ w9, JJ al u1 w9 → Q9 r w9) → f_X7_weighs_ w Q9) (x_weighs hJJ (fun r u9 hk => hk))) (cwV 0 hts gL_law_X6_weighs rfl rfl rfl (by decide +kernel) ⟨Nat.le_of_ble_eq_true rfl, Nat.le_of_ble_eq_true rfl⟩) (lw_pc hC hS hJ hPc) rfl rfl hl.1 rfl (lv_room (Nat.le_of_ble_eq_true rfl)) dL_law_954 ⟨hcell, hslot⟩) hS hJ hM hPm hPo (fun r u1 H locs hk hPc hPm hPo hS => ?_)
  refine lv_aload_n hx hb dL_law_957 rfl (lv_at hl 2 rfl) ?_
  refine lw_cm (va_runV (C := RX7) (As := []) (rest := [.int r]) ⟨hx, hb, hml, hown, hts⟩ (c_X7_weighs_ hM.1 H.size w _ (hk (fun r9 w9 => r9 = r ∧ JJ al u1 w9) (fun w9 g => ⟨rfl, g⟩))) (cwV 0 hts gL_law_X7_weighs_ rfl rfl rfl (by decide +kernel) ⟨Nat.le_of_ble_eq_true rfl, Nat.le_of_ble_eq_true rfl⟩) (lw_pm hC hS hM hPm) rfl rfl hl.1 rfl (lv_room (Nat.le_of_ble_eq_true rfl)) dL_law_958 ⟨hcell, hslot⟩) hS hJ hM hPc hPo (fun r1 w1 H locs hq hPm hPc hPo hS => ?_)
  obtain ⟨rfl, hJJ⟩ := hq
  refine lv_icmp_eq (tgt := 1226) hx hb dL_law_961 (by decide) (fun _ => ?_) (fun c9 => absurd rfl c9)
  exact K _ _ _ ⟨L, ad, al, u1, w1, o, hal, hJJ, hJ, hPc, hPm, hPo⟩ hS (lv_sub hl [0, 1, 2, 3, 4] rfl)
set_option maxRecDepth 100000 in
set_option maxHeartbeats 4000000 in
theorem law_c14 {p : Program} {l : Launch} {e : Env} {s : State} {m : MethodId} {b Ls : Nat} {xs : Nat → Int32} {below : List Frame} {meth : Method} {c : Code} {D : va_G} {cI cG cZ cJ : ClassId} {ts : Nat × Nat} {x0 qo : Nat} {adm : Nat → Nat} (F : LF p l s m b Ls xs meth c D cI cG cZ cJ ts qo adm) {i : Int32} (hi1 : vp_in (i + 1) Ls) (hi2 : vp_in (i + 2) Ls) (hi3 : vp_in (i + 3) Ls) (hi4 : vp_in (i + 4) Ls) {cells slots : Nat} (hcell : cells + 8 ≤ 303322) (hslot : slots + 4000 ≤ 8186138) (K : LW p l e s m b below meth c D cI cG cZ cJ x0 qo adm i (cells + 8) (slots + 4000) 1226) : LW p l e s m b below meth c D cI cG cZ cJ x0 qo adm i cells slots 966 := by
  obtain ⟨C0, hflag, hC, hX, hN, hM⟩ := F
  obtain ⟨hx, hb, hr, hml, hown0, hts0, hXs, hbl, hlocks, -⟩ := C0
  have hown : s.vm.findClass RL = some m.cls := hown0
  have hts : ∀ w ∈ wsL_law, w.before #[Value.ref b] s = true := fun w h => hts0 w (wsL_law_in w h)
  have hK := hC.1
  have hbA : ¬ AL s b := Nat.not_le.mpr hbl
  intro H locs ls hst hS hl
  obtain ⟨L, ad, al, u, w, o, hal, hJJ, hJ, hPc, hPm, hPo⟩ := hst
  obtain ⟨hwd, hL, hLb, e0, hd⟩ := id hJ
  subst e0
  refine lv_aload_n hx hb dL_law_966 rfl (lv_at hl 1 rfl) ?_
  refine lv_aload_n hx hb dL_law_967 rfl (lv_at hl 0 rfl) ?_
  refine lv_iload hx hb dL_law_968 (lv_at hl 4 rfl) ?_
  refine lv_iconst (v := 1) hx hb dL_law_970 (by decide) ?_
  refine lv_iadd hx hb dL_law_971 ?_
  refine va_sld hx hb hXs hbl hbA hS hi1 dL_law_972 ?_
  refine lv_aload_n hx hb dL_law_973 rfl (lv_at hl 0 rfl) ?_
  refine lv_iload hx hb dL_law_974 (lv_at hl 4 rfl) ?_
  refine lv_iconst (v := 2) hx hb dL_law_976 (by decide) ?_
  refine lv_iadd hx hb dL_law_977 ?_
  refine va_sld hx hb hXs hbl hbA hS hi2 dL_law_978 ?_
  refine lv_aload_n hx hb dL_law_979 rfl (lv_at hl 3 rfl) ?_
  refine lw_cw (Rr := RM (f_X7_way (xs (i + 1).toNatClampNeg) (xs (i + 2).toNatClampNeg) w)) (vx_runSW (As := [.ref (ad 0), .int (xs (i + 1).toNatClampNeg), .int (xs (i + 2).toNatClampNeg), .ref qo]) (rest := []) ⟨hx, hb, hml, hown, hts⟩ (c_L_way hflag hL hLb hwd qo H.size (fun k hk => (hd k hk).2.1) u o (xs (i + 1).toNatClampNeg) (xs (i + 2).toNatClampNeg) (RM (f_X7_way (xs (i + 1).toNatClampNeg) (xs (i + 2).toNatClampNeg) w)) (x_way hJJ (fun r u9 hk => rm_0 hal hk) (fun u9 hk => Or.inl ⟨rfl, rm_1 hal hk⟩) (fun u9 hk => Or.inr ⟨rfl, rm_2 hal hk⟩))) (vx_cwSW 4 hts gL_law_L_way rfl rfl rfl (by decide +kernel) ⟨Nat.le_of_ble_eq_true rfl, Nat.le_of_ble_eq_true rfl⟩) (lw_pw hC hX hN hS hJ hM hPc hPo) rfl rfl hl.1 rfl (lv_room (Nat.le_of_ble_eq_true rfl)) dL_law_980 ⟨Nat.le_trans (Nat.add_le_add_left (by decide : 3 ≤ 8) cells) hcell, Nat.le_trans (Nat.add_le_add_left (Nat.le_of_ble_eq_true rfl : 18 ≤ 4000) slots) hslot⟩) hS hJ hM hPo hPm (fun k L1 ad1 al1 u1 o1 H locs hJ hR hPc hPo hPm hS => ?_)
  refine W.widen (k := cells + 8) (n := slots + 4000) (Nat.add_le_add_left (by decide) _) (Nat.add_le_add_left (Nat.le_of_ble_eq_true rfl) _) ?_
  obtain ⟨hal1, n, r, rfl, hn2, ho, hk⟩ := hR
  refine lv_istore (lv' := [(5, .int (nI n)), (0, .ref b), (1, .ref (ad 0)), (2, .ref (adm 0)), (3, .ref qo), (4, .int i)]) hx hb dL_law_983 hl (by decide) rfl (fun ls hl => ?_)
  refine lv_aload_n hx hb dL_law_985 rfl (lv_at hl 3 rfl) ?_
  refine lv_aload_n hx hb dL_law_986 rfl (lv_at hl 1 rfl) ?_
  refine lv_iload hx hb dL_law_987 (lv_at hl 5 rfl) ?_
  refine lv_iconst (v := 1) hx hb dL_law_989 (by decide) ?_
  refine lv_iadd hx hb dL_law_990 ?_
  refine va_sld hx hb hXs hbl hbA hS hi1 dL_law_991 ?_
  refine lv_aload_n hx hb dL_law_992 rfl (lv_at hl 1 rfl) ?_
  refine lv_iload hx hb dL_law_993 (lv_at hl 5 rfl) ?_
  refine lv_iconst (v := 2) hx hb dL_law_995 (by decide) ?_
  refine lv_iadd hx hb dL_law_996 ?_
  refine va_sld hx hb hXs hbl hbA hS hi2 dL_law_997 ?_
  refine lw_cm (va_runV (C := RX7) (As := [.int (xs (i + 1).toNatClampNeg), .int (xs (i + 2).toNatClampNeg)]) (rest := []) ⟨hx, hb, hml, hown, hts⟩ (c_X7_way hM.1 H.size w (xs (i + 1).toNatClampNeg) (xs (i + 2).toNatClampNeg) _ (hk (fun r9 w9 => w9 0 0 = nI n ∧ (n = 0 → r9 = r) ∧ JJ al1 u1 w9) (fun r9 w9 g1 g2 g3 => ⟨g1, g2, g3⟩))) (cwV 2 hts gL_law_X7_way rfl rfl rfl (by decide +kernel) ⟨Nat.le_of_ble_eq_true rfl, Nat.le_of_ble_eq_true rfl⟩) (lw_pm hC hS hM hPm) rfl rfl hl.1 rfl (lv_room (Nat.le_of_ble_eq_true rfl)) dL_law_998 ⟨hcell, hslot⟩) hS hJ hM hPc hPo (fun r1 w1 H locs hq hPm hPc hPo hS => ?_)
  obtain ⟨g1, g2, hJJ⟩ := hq
  refine lv_istore (lv' := [(6, .int r1), (5, .int (nI n)), (0, .ref b), (1, .ref (ad 0)), (2, .ref (adm 0)), (3, .ref qo), (4, .int i)]) hx hb dL_law_1001 hl (by decide) rfl (fun ls hl => ?_)
  refine lv_aload_n hx hb dL_law_1003 rfl (lv_at hl 4 rfl) ?_
  refine lw_cm (va_runV (C := RX7) (As := []) (rest := []) ⟨hx, hb, hml, hown, hts⟩ (c_X7_thrown hM.1 H.size w1 (fun r2 w2 => r2 = w1 0 0 ∧ w2 = w1) ⟨rfl, rfl⟩) (cwV 0 hts gL_law_X7_thrown rfl rfl rfl (by decide +kernel) ⟨Nat.le_of_ble_eq_true rfl, Nat.le_of_ble_eq_true rfl⟩) (lw_pm hC hS hM hPm) rfl rfl hl.1 rfl (lv_room (Nat.le_of_ble_eq_true rfl)) dL_law_1004 ⟨hcell, hslot⟩) hS hJ hM hPc hPo (fun r2 w2 H locs hq hPm hPc hPo hS => ?_)
  obtain ⟨e2, e3⟩ := hq
  rw [e3] at hPm
  rw [g1] at e2
  subst e2
  refine lv_iload hx hb dL_law_1007 (lv_at hl 1 rfl) ?_
  refine lv_icmp_eq (tgt := 1014) hx hb dL_law_1009 (by decide) (fun _ => ?_) (fun c9 => absurd rfl c9)
  refine lv_iload hx hb dL_law_1014 (lv_at hl 1 rfl) ?_
  refine lv_if_ne (tgt := 1031) hx hb dL_law_1016 (by decide) (fun c9 => ?_) (fun c9 => ?_)
  · refine lv_goto (tgt := 1226) hx hb dL_law_1031 (by decide) ?_
    exact K _ _ _ ⟨L1, ad1, al1, u1, w1, o1, hal1, hJJ, hJ, hPc, hPm, hPo⟩ hS (lv_sub hl [2, 3, 4, 5, 6] rfl)
  have hn0 := nI_no0 hn2 c9
  refine lv_aload_n hx hb dL_law_1019 rfl (lv_at hl 5 rfl) ?_
  refine lv_iconst (v := 0) hx hb dL_law_1020 (by decide) ?_
  refine va_lald (cA := cJ) (n := 1) (f := o1) hx hb hK hPo 0 3 rfl rfl (show ¬ ((0 : Int32) < 0 ∨ 1 ≤ (0 : Int32).toNatClampNeg) by decide) dL_law_1021 ?_
  refine W.eq (g2 := F0 m 1022 ls [.long r.toInt64]) (by rw [← ho hn0]; rfl) ?_
  refine lv_iload hx hb dL_law_1022 (lv_at hl 0 rfl) ?_
  refine lv_i2l (v := r1.toInt64) hx hb dL_law_1024 rfl ?_
  refine W.lcmp hx hb dL_law_1025 ?_
  refine lv_if_eq (tgt := 1031) hx hb dL_law_1026 (by decide) (fun _ => ?_) (fun c8 => absurd (by rw [g2 hn0]; exact lg_same _) c8)
  refine lv_goto (tgt := 1226) hx hb dL_law_1031 (by decide) ?_
  exact K _ _ _ ⟨L1, ad1, al1, u1, w1, o1, hal1, hJJ, hJ, hPc, hPm, hPo⟩ hS (lv_sub hl [2, 3, 4, 5, 6] rfl)
set_option maxRecDepth 100000 in
set_option maxHeartbeats 4000000 in
theorem law_c15 {p : Program} {l : Launch} {e : Env} {s : State} {m : MethodId} {b Ls : Nat} {xs : Nat → Int32} {below : List Frame} {meth : Method} {c : Code} {D : va_G} {cI cG cZ cJ : ClassId} {ts : Nat × Nat} {x0 qo : Nat} {adm : Nat → Nat} (F : LF p l s m b Ls xs meth c D cI cG cZ cJ ts qo adm) {i : Int32} (hi1 : vp_in (i + 1) Ls) (hi2 : vp_in (i + 2) Ls) (hi3 : vp_in (i + 3) Ls) (hi4 : vp_in (i + 4) Ls) {cells slots : Nat} (hcell : cells + 8 ≤ 303322) (hslot : slots + 4000 ≤ 8186138) (K : LW p l e s m b below meth c D cI cG cZ cJ x0 qo adm i (cells + 8) (slots + 4000) 1226) : LW p l e s m b below meth c D cI cG cZ cJ x0 qo adm i cells slots 1034 := by
  obtain ⟨C0, hflag, hC, hX, hN, hM⟩ := F
  obtain ⟨hx, hb, hr, hml, hown0, hts0, hXs, hbl, hlocks, -⟩ := C0
  have hown : s.vm.findClass RL = some m.cls := hown0
  have hts : ∀ w ∈ wsL_law, w.before #[Value.ref b] s = true := fun w h => hts0 w (wsL_law_in w h)
  have hK := hC.1
  have hbA : ¬ AL s b := Nat.not_le.mpr hbl
  intro H locs ls hst hS hl
  obtain ⟨L, ad, al, u, w, o, hal, hJJ, hJ, hPc, hPm, hPo⟩ := hst
  obtain ⟨hwd, hL, hLb, e0, hd⟩ := id hJ
  subst e0
  refine lv_aload_n hx hb dL_law_1034 rfl (lv_at hl 1 rfl) ?_
  refine lv_aload_n hx hb dL_law_1035 rfl (lv_at hl 0 rfl) ?_
  refine lv_iload hx hb dL_law_1036 (lv_at hl 4 rfl) ?_
  refine lv_iconst (v := 1) hx hb dL_law_1038 (by decide) ?_
  refine lv_iadd hx hb dL_law_1039 ?_
  refine va_sld hx hb hXs hbl hbA hS hi1 dL_law_1040 ?_
  refine lv_aload_n hx hb dL_law_1041 rfl (lv_at hl 0 rfl) ?_
  refine lv_iload hx hb dL_law_1042 (lv_at hl 4 rfl) ?_
  refine lv_iconst (v := 2) hx hb dL_law_1044 (by decide) ?_
  refine lv_iadd hx hb dL_law_1045 ?_
  refine va_sld hx hb hXs hbl hbA hS hi2 dL_law_1046 ?_
  refine lv_aload_n hx hb dL_law_1047 rfl (lv_at hl 0 rfl) ?_
  refine lv_iload hx hb dL_law_1048 (lv_at hl 4 rfl) ?_
  refine lv_iconst (v := 3) hx hb dL_law_1050 (by decide) ?_
  refine lv_iadd hx hb dL_law_1051 ?_
  refine va_sld hx hb hXs hbl hbA hS hi3 dL_law_1052 ?_
  refine lv_aload_n hx hb dL_law_1053 rfl (lv_at hl 3 rfl) ?_
  refine lw_cw (Rr := RM (f_X7_step (xs (i + 1).toNatClampNeg) (xs (i + 2).toNatClampNeg) (xs (i + 3).toNatClampNeg) w)) (vx_runSW (As := [.ref (ad 0), .int (xs (i + 1).toNatClampNeg), .int (xs (i + 2).toNatClampNeg), .int (xs (i + 3).toNatClampNeg), .ref qo]) (rest := []) ⟨hx, hb, hml, hown, hts⟩ (c_L_step hflag hL hLb hwd qo H.size (fun k hk => (hd k hk).2.1) u o (xs (i + 1).toNatClampNeg) (xs (i + 2).toNatClampNeg) (xs (i + 3).toNatClampNeg) (RM (f_X7_step (xs (i + 1).toNatClampNeg) (xs (i + 2).toNatClampNeg) (xs (i + 3).toNatClampNeg) w)) (x_step hJJ (fun r u9 hk => rm_0 hal hk) (fun u9 hk => Or.inl ⟨rfl, rm_1 hal hk⟩) (fun u9 hk => Or.inr ⟨rfl, rm_2 hal hk⟩))) (vx_cwSW 5 hts gL_law_L_step rfl rfl rfl (by decide +kernel) ⟨Nat.le_of_ble_eq_true rfl, Nat.le_of_ble_eq_true rfl⟩) (lw_pw hC hX hN hS hJ hM hPc hPo) rfl rfl hl.1 rfl (lv_room (Nat.le_of_ble_eq_true rfl)) dL_law_1054 ⟨Nat.le_trans (Nat.add_le_add_left (by decide : 4 ≤ 8) cells) hcell, Nat.le_trans (Nat.add_le_add_left (Nat.le_of_ble_eq_true rfl : 24 ≤ 4000) slots) hslot⟩) hS hJ hM hPo hPm (fun k L1 ad1 al1 u1 o1 H locs hJ hR hPc hPo hPm hS => ?_)
  refine W.widen (k := cells + 8) (n := slots + 4000) (Nat.add_le_add_left (by decide) _) (Nat.add_le_add_left (Nat.le_of_ble_eq_true rfl) _) ?_
  obtain ⟨hal1, n, r, rfl, hn2, ho, hk⟩ := hR
  refine lv_istore (lv' := [(5, .int (nI n)), (0, .ref b), (1, .ref (ad 0)), (2, .ref (adm 0)), (3, .ref qo), (4, .int i)]) hx hb dL_law_1057 hl (by decide) rfl (fun ls hl => ?_)
  refine lv_aload_n hx hb dL_law_1059 rfl (lv_at hl 3 rfl) ?_
  refine lv_aload_n hx hb dL_law_1060 rfl (lv_at hl 1 rfl) ?_
  refine lv_iload hx hb dL_law_1061 (lv_at hl 5 rfl) ?_
  refine lv_iconst (v := 1) hx hb dL_law_1063 (by decide) ?_
  refine lv_iadd hx hb dL_law_1064 ?_
  refine va_sld hx hb hXs hbl hbA hS hi1 dL_law_1065 ?_
  refine lv_aload_n hx hb dL_law_1066 rfl (lv_at hl 1 rfl) ?_
  refine lv_iload hx hb dL_law_1067 (lv_at hl 5 rfl) ?_
  refine lv_iconst (v := 2) hx hb dL_law_1069 (by decide) ?_
  refine lv_iadd hx hb dL_law_1070 ?_
  refine va_sld hx hb hXs hbl hbA hS hi2 dL_law_1071 ?_
  refine lv_aload_n hx hb dL_law_1072 rfl (lv_at hl 1 rfl) ?_
  refine lv_iload hx hb dL_law_1073 (lv_at hl 5 rfl) ?_
  refine lv_iconst (v := 3) hx hb dL_law_1075 (by decide) ?_
  refine lv_iadd hx hb dL_law_1076 ?_
  refine va_sld hx hb hXs hbl hbA hS hi3 dL_law_1077 ?_
  refine lw_cm (va_runV (C := RX7) (As := [.int (xs (i + 1).toNatClampNeg), .int (xs (i + 2).toNatClampNeg), .int (xs (i + 3).toNatClampNeg)]) (rest := []) ⟨hx, hb, hml, hown, hts⟩ (c_X7_step hM.1 H.size w (xs (i + 1).toNatClampNeg) (xs (i + 2).toNatClampNeg) (xs (i + 3).toNatClampNeg) _ (hk (fun r9 w9 => w9 0 0 = nI n ∧ (n = 0 → r9 = r) ∧ JJ al1 u1 w9) (fun r9 w9 g1 g2 g3 => ⟨g1, g2, g3⟩))) (cwV 3 hts gL_law_X7_step rfl rfl rfl (by decide +kernel) ⟨Nat.le_of_ble_eq_true rfl, Nat.le_of_ble_eq_true rfl⟩) (lw_pm hC hS hM hPm) rfl rfl hl.1 rfl (lv_room (Nat.le_of_ble_eq_true rfl)) dL_law_1078 ⟨hcell, hslot⟩) hS hJ hM hPc hPo (fun r1 w1 H locs hq hPm hPc hPo hS => ?_)
  obtain ⟨g1, g2, hJJ⟩ := hq
  refine lv_istore (lv' := [(6, .int r1), (5, .int (nI n)), (0, .ref b), (1, .ref (ad 0)), (2, .ref (adm 0)), (3, .ref qo), (4, .int i)]) hx hb dL_law_1081 hl (by decide) rfl (fun ls hl => ?_)
  refine lv_aload_n hx hb dL_law_1083 rfl (lv_at hl 4 rfl) ?_
  refine lw_cm (va_runV (C := RX7) (As := []) (rest := []) ⟨hx, hb, hml, hown, hts⟩ (c_X7_thrown hM.1 H.size w1 (fun r2 w2 => r2 = w1 0 0 ∧ w2 = w1) ⟨rfl, rfl⟩) (cwV 0 hts gL_law_X7_thrown rfl rfl rfl (by decide +kernel) ⟨Nat.le_of_ble_eq_true rfl, Nat.le_of_ble_eq_true rfl⟩) (lw_pm hC hS hM hPm) rfl rfl hl.1 rfl (lv_room (Nat.le_of_ble_eq_true rfl)) dL_law_1084 ⟨hcell, hslot⟩) hS hJ hM hPc hPo (fun r2 w2 H locs hq hPm hPc hPo hS => ?_)
  obtain ⟨e2, e3⟩ := hq
  rw [e3] at hPm
  rw [g1] at e2
  subst e2
  refine lv_iload hx hb dL_law_1087 (lv_at hl 1 rfl) ?_
  refine lv_icmp_eq (tgt := 1094) hx hb dL_law_1089 (by decide) (fun _ => ?_) (fun c9 => absurd rfl c9)
  refine lv_iload hx hb dL_law_1094 (lv_at hl 1 rfl) ?_
  refine lv_if_ne (tgt := 1111) hx hb dL_law_1096 (by decide) (fun c9 => ?_) (fun c9 => ?_)
  · refine lv_goto (tgt := 1226) hx hb dL_law_1111 (by decide) ?_
    exact K _ _ _ ⟨L1, ad1, al1, u1, w1, o1, hal1, hJJ, hJ, hPc, hPm, hPo⟩ hS (lv_sub hl [2, 3, 4, 5, 6] rfl)
  have hn0 := nI_no0 hn2 c9
  refine lv_aload_n hx hb dL_law_1099 rfl (lv_at hl 5 rfl) ?_
  refine lv_iconst (v := 0) hx hb dL_law_1100 (by decide) ?_
  refine va_lald (cA := cJ) (n := 1) (f := o1) hx hb hK hPo 0 3 rfl rfl (show ¬ ((0 : Int32) < 0 ∨ 1 ≤ (0 : Int32).toNatClampNeg) by decide) dL_law_1101 ?_
  refine W.eq (g2 := F0 m 1102 ls [.long r.toInt64]) (by rw [← ho hn0]; rfl) ?_
  refine lv_iload hx hb dL_law_1102 (lv_at hl 0 rfl) ?_
  refine lv_i2l (v := r1.toInt64) hx hb dL_law_1104 rfl ?_
  refine W.lcmp hx hb dL_law_1105 ?_
  refine lv_if_eq (tgt := 1111) hx hb dL_law_1106 (by decide) (fun _ => ?_) (fun c8 => absurd (by rw [g2 hn0]; exact lg_same _) c8)
  refine lv_goto (tgt := 1226) hx hb dL_law_1111 (by decide) ?_
  exact K _ _ _ ⟨L1, ad1, al1, u1, w1, o1, hal1, hJJ, hJ, hPc, hPm, hPo⟩ hS (lv_sub hl [2, 3, 4, 5, 6] rfl)
set_option maxRecDepth 100000 in
set_option maxHeartbeats 4000000 in
theorem law_c16 {p : Program} {l : Launch} {e : Env} {s : State} {m : MethodId} {b Ls : Nat} {xs : Nat → Int32} {below : List Frame} {meth : Method} {c : Code} {D : va_G} {cI cG cZ cJ : ClassId} {ts : Nat × Nat} {x0 qo : Nat} {adm : Nat → Nat} (F : LF p l s m b Ls xs meth c D cI cG cZ cJ ts qo adm) {i : Int32} (hi1 : vp_in (i + 1) Ls) (hi2 : vp_in (i + 2) Ls) (hi3 : vp_in (i + 3) Ls) (hi4 : vp_in (i + 4) Ls) {cells slots : Nat} (hcell : cells + 8 ≤ 303322) (hslot : slots + 4000 ≤ 8186138) (K : LW p l e s m b below meth c D cI cG cZ cJ x0 qo adm i (cells + 8) (slots + 4000) 1226) : LW p l e s m b below meth c D cI cG cZ cJ x0 qo adm i cells slots 1114 := by
  obtain ⟨C0, hflag, hC, hX, hN, hM⟩ := F
  obtain ⟨hx, hb, hr, hml, hown0, hts0, hXs, hbl, hlocks, -⟩ := C0
  have hown : s.vm.findClass RL = some m.cls := hown0
  have hts : ∀ w ∈ wsL_law, w.before #[Value.ref b] s = true := fun w h => hts0 w (wsL_law_in w h)
  have hK := hC.1
  have hbA : ¬ AL s b := Nat.not_le.mpr hbl
  intro H locs ls hst hS hl
  obtain ⟨L, ad, al, u, w, o, hal, hJJ, hJ, hPc, hPm, hPo⟩ := hst
  obtain ⟨hwd, hL, hLb, e0, hd⟩ := id hJ
  subst e0
  refine lv_aload_n hx hb dL_law_1114 rfl (lv_at hl 1 rfl) ?_
  refine lv_aload_n hx hb dL_law_1115 rfl (lv_at hl 0 rfl) ?_
  refine lv_iload hx hb dL_law_1116 (lv_at hl 4 rfl) ?_
  refine lv_iconst (v := 1) hx hb dL_law_1118 (by decide) ?_
  refine lv_iadd hx hb dL_law_1119 ?_
  refine va_sld hx hb hXs hbl hbA hS hi1 dL_law_1120 ?_
  refine lv_aload_n hx hb dL_law_1121 rfl (lv_at hl 3 rfl) ?_
  refine lw_cw (Rr := RM (f_X7_orbits (xs (i + 1).toNatClampNeg) w)) (vx_runSW (As := [.ref (ad 0), .int (xs (i + 1).toNatClampNeg), .ref qo]) (rest := []) ⟨hx, hb, hml, hown, hts⟩ (c_L_orbits hflag hL hLb hwd qo H.size (fun k hk => (hd k hk).2.1) u o (xs (i + 1).toNatClampNeg) (RM (f_X7_orbits (xs (i + 1).toNatClampNeg) w)) (x_orbits hJJ (fun r u9 hk => rm_0 hal hk) (fun u9 hk => ⟨rfl, rm_1 hal hk⟩))) (vx_cwSW 3 hts gL_law_L_orbits rfl rfl rfl (by decide +kernel) ⟨Nat.le_of_ble_eq_true rfl, Nat.le_of_ble_eq_true rfl⟩) (lw_pw hC hX hN hS hJ hM hPc hPo) rfl rfl hl.1 rfl (lv_room (Nat.le_of_ble_eq_true rfl)) dL_law_1122 ⟨Nat.le_trans (Nat.add_le_add_left (by decide : 1 ≤ 8) cells) hcell, Nat.le_trans (Nat.add_le_add_left (Nat.le_of_ble_eq_true rfl : 6 ≤ 4000) slots) hslot⟩) hS hJ hM hPo hPm (fun k L1 ad1 al1 u1 o1 H locs hJ hR hPc hPo hPm hS => ?_)
  refine W.widen (k := cells + 8) (n := slots + 4000) (Nat.add_le_add_left (by decide) _) (Nat.add_le_add_left (Nat.le_of_ble_eq_true rfl) _) ?_
  obtain ⟨hal1, n, r, rfl, hn2, ho, hk⟩ := hR
  refine lv_istore (lv' := [(5, .int (nI n)), (0, .ref b), (1, .ref (ad 0)), (2, .ref (adm 0)), (3, .ref qo), (4, .int i)]) hx hb dL_law_1125 hl (by decide) rfl (fun ls hl => ?_)
  refine lv_aload_n hx hb dL_law_1127 rfl (lv_at hl 3 rfl) ?_
  refine lv_aload_n hx hb dL_law_1128 rfl (lv_at hl 1 rfl) ?_
  refine lv_iload hx hb dL_law_1129 (lv_at hl 5 rfl) ?_
  refine lv_iconst (v := 1) hx hb dL_law_1131 (by decide) ?_
  refine lv_iadd hx hb dL_law_1132 ?_
  refine va_sld hx hb hXs hbl hbA hS hi1 dL_law_1133 ?_
  refine lw_cm (va_runV (C := RX7) (As := [.int (xs (i + 1).toNatClampNeg)]) (rest := []) ⟨hx, hb, hml, hown, hts⟩ (c_X7_orbits hM.1 H.size w (xs (i + 1).toNatClampNeg) _ (hk (fun r9 w9 => w9 0 0 = nI n ∧ (n = 0 → r9 = r) ∧ JJ al1 u1 w9) (fun r9 w9 g1 g2 g3 => ⟨g1, g2, g3⟩))) (cwV 1 hts gL_law_X7_orbits rfl rfl rfl (by decide +kernel) ⟨Nat.le_of_ble_eq_true rfl, Nat.le_of_ble_eq_true rfl⟩) (lw_pm hC hS hM hPm) rfl rfl hl.1 rfl (lv_room (Nat.le_of_ble_eq_true rfl)) dL_law_1134 ⟨hcell, hslot⟩) hS hJ hM hPc hPo (fun r1 w1 H locs hq hPm hPc hPo hS => ?_)
  obtain ⟨g1, g2, hJJ⟩ := hq
  refine lv_istore (lv' := [(6, .int r1), (5, .int (nI n)), (0, .ref b), (1, .ref (ad 0)), (2, .ref (adm 0)), (3, .ref qo), (4, .int i)]) hx hb dL_law_1137 hl (by decide) rfl (fun ls hl => ?_)
  refine lv_aload_n hx hb dL_law_1139 rfl (lv_at hl 4 rfl) ?_
  refine lw_cm (va_runV (C := RX7) (As := []) (rest := []) ⟨hx, hb, hml, hown, hts⟩ (c_X7_thrown hM.1 H.size w1 (fun r2 w2 => r2 = w1 0 0 ∧ w2 = w1) ⟨rfl, rfl⟩) (cwV 0 hts gL_law_X7_thrown rfl rfl rfl (by decide +kernel) ⟨Nat.le_of_ble_eq_true rfl, Nat.le_of_ble_eq_true rfl⟩) (lw_pm hC hS hM hPm) rfl rfl hl.1 rfl (lv_room (Nat.le_of_ble_eq_true rfl)) dL_law_1140 ⟨hcell, hslot⟩) hS hJ hM hPc hPo (fun r2 w2 H locs hq hPm hPc hPo hS => ?_)
  obtain ⟨e2, e3⟩ := hq
  rw [e3] at hPm
  rw [g1] at e2
  subst e2
  refine lv_iload hx hb dL_law_1143 (lv_at hl 1 rfl) ?_
  refine lv_icmp_eq (tgt := 1150) hx hb dL_law_1145 (by decide) (fun _ => ?_) (fun c9 => absurd rfl c9)
  refine lv_iload hx hb dL_law_1150 (lv_at hl 1 rfl) ?_
  refine lv_if_ne (tgt := 1167) hx hb dL_law_1152 (by decide) (fun c9 => ?_) (fun c9 => ?_)
  · refine lv_goto (tgt := 1226) hx hb dL_law_1167 (by decide) ?_
    exact K _ _ _ ⟨L1, ad1, al1, u1, w1, o1, hal1, hJJ, hJ, hPc, hPm, hPo⟩ hS (lv_sub hl [2, 3, 4, 5, 6] rfl)
  have hn0 := nI_no0 hn2 c9
  refine lv_aload_n hx hb dL_law_1155 rfl (lv_at hl 5 rfl) ?_
  refine lv_iconst (v := 0) hx hb dL_law_1156 (by decide) ?_
  refine va_lald (cA := cJ) (n := 1) (f := o1) hx hb hK hPo 0 3 rfl rfl (show ¬ ((0 : Int32) < 0 ∨ 1 ≤ (0 : Int32).toNatClampNeg) by decide) dL_law_1157 ?_
  refine W.eq (g2 := F0 m 1158 ls [.long r.toInt64]) (by rw [← ho hn0]; rfl) ?_
  refine lv_iload hx hb dL_law_1158 (lv_at hl 0 rfl) ?_
  refine lv_i2l (v := r1.toInt64) hx hb dL_law_1160 rfl ?_
  refine W.lcmp hx hb dL_law_1161 ?_
  refine lv_if_eq (tgt := 1167) hx hb dL_law_1162 (by decide) (fun _ => ?_) (fun c8 => absurd (by rw [g2 hn0]; exact lg_same _) c8)
  refine lv_goto (tgt := 1226) hx hb dL_law_1167 (by decide) ?_
  exact K _ _ _ ⟨L1, ad1, al1, u1, w1, o1, hal1, hJJ, hJ, hPc, hPm, hPo⟩ hS (lv_sub hl [2, 3, 4, 5, 6] rfl)
set_option maxRecDepth 100000 in
set_option maxHeartbeats 4000000 in
theorem law_c17 {p : Program} {l : Launch} {e : Env} {s : State} {m : MethodId} {b Ls : Nat} {xs : Nat → Int32} {below : List Frame} {meth : Method} {c : Code} {D : va_G} {cI cG cZ cJ : ClassId} {ts : Nat × Nat} {x0 qo : Nat} {adm : Nat → Nat} (F : LF p l s m b Ls xs meth c D cI cG cZ cJ ts qo adm) {i : Int32} (hi1 : vp_in (i + 1) Ls) (hi2 : vp_in (i + 2) Ls) (hi3 : vp_in (i + 3) Ls) (hi4 : vp_in (i + 4) Ls) {cells slots : Nat} (hcell : cells + 8 ≤ 303322) (hslot : slots + 4000 ≤ 8186138) (K : LW p l e s m b below meth c D cI cG cZ cJ x0 qo adm i (cells + 8) (slots + 4000) 1226) : LW p l e s m b below meth c D cI cG cZ cJ x0 qo adm i cells slots 1170 := by
  obtain ⟨C0, hflag, hC, hX, hN, hM⟩ := F
  obtain ⟨hx, hb, hr, hml, hown0, hts0, hXs, hbl, hlocks, -⟩ := C0
  have hown : s.vm.findClass RL = some m.cls := hown0
  have hts : ∀ w ∈ wsL_law, w.before #[Value.ref b] s = true := fun w h => hts0 w (wsL_law_in w h)
  have hK := hC.1
  have hbA : ¬ AL s b := Nat.not_le.mpr hbl
  intro H locs ls hst hS hl
  obtain ⟨L, ad, al, u, w, o, hal, hJJ, hJ, hPc, hPm, hPo⟩ := hst
  obtain ⟨hwd, hL, hLb, e0, hd⟩ := id hJ
  subst e0
  refine lv_aload_n hx hb dL_law_1170 rfl (lv_at hl 1 rfl) ?_
  refine lv_aload_n hx hb dL_law_1171 rfl (lv_at hl 0 rfl) ?_
  refine lv_iload hx hb dL_law_1172 (lv_at hl 4 rfl) ?_
  refine lv_iconst (v := 1) hx hb dL_law_1174 (by decide) ?_
  refine lv_iadd hx hb dL_law_1175 ?_
  refine va_sld hx hb hXs hbl hbA hS hi1 dL_law_1176 ?_
  refine lv_aload_n hx hb dL_law_1177 rfl (lv_at hl 3 rfl) ?_
  refine lw_cw (Rr := RM (f_X7_orbitsAnew (xs (i + 1).toNatClampNeg) w)) (vx_runSW (As := [.ref (ad 0), .int (xs (i + 1).toNatClampNeg), .ref qo]) (rest := []) ⟨hx, hb, hml, hown, hts⟩ (c_L_orbitsAnew hflag hL hLb hwd qo H.size (fun k hk => (hd k hk).2.1) u o (xs (i + 1).toNatClampNeg) (RM (f_X7_orbitsAnew (xs (i + 1).toNatClampNeg) w)) (x_orbitsA hJJ (fun r u9 hk => rm_0 hal hk) (fun u9 hk => ⟨rfl, rm_1 hal hk⟩))) (vx_cwSW 3 hts gL_law_L_orbitsAnew rfl rfl rfl (by decide +kernel) ⟨Nat.le_of_ble_eq_true rfl, Nat.le_of_ble_eq_true rfl⟩) (lw_pw hC hX hN hS hJ hM hPc hPo) rfl rfl hl.1 rfl (lv_room (Nat.le_of_ble_eq_true rfl)) dL_law_1178 ⟨Nat.le_trans (Nat.add_le_add_left (by decide : 1 ≤ 8) cells) hcell, Nat.le_trans (Nat.add_le_add_left (Nat.le_of_ble_eq_true rfl : 6 ≤ 4000) slots) hslot⟩) hS hJ hM hPo hPm (fun k L1 ad1 al1 u1 o1 H locs hJ hR hPc hPo hPm hS => ?_)
  refine W.widen (k := cells + 8) (n := slots + 4000) (Nat.add_le_add_left (by decide) _) (Nat.add_le_add_left (Nat.le_of_ble_eq_true rfl) _) ?_
  obtain ⟨hal1, n, r, rfl, hn2, ho, hk⟩ := hR
  refine lv_istore (lv' := [(5, .int (nI n)), (0, .ref b), (1, .ref (ad 0)), (2, .ref (adm 0)), (3, .ref qo), (4, .int i)]) hx hb dL_law_1181 hl (by decide) rfl (fun ls hl => ?_)
  refine lv_aload_n hx hb dL_law_1183 rfl (lv_at hl 3 rfl) ?_
  refine lv_aload_n hx hb dL_law_1184 rfl (lv_at hl 1 rfl) ?_
  refine lv_iload hx hb dL_law_1185 (lv_at hl 5 rfl) ?_
  refine lv_iconst (v := 1) hx hb dL_law_1187 (by decide) ?_
  refine lv_iadd hx hb dL_law_1188 ?_
  refine va_sld hx hb hXs hbl hbA hS hi1 dL_law_1189 ?_
  refine lw_cm (va_runV (C := RX7) (As := [.int (xs (i + 1).toNatClampNeg)]) (rest := []) ⟨hx, hb, hml, hown, hts⟩ (c_X7_orbitsAnew hM.1 H.size w (xs (i + 1).toNatClampNeg) _ (hk (fun r9 w9 => w9 0 0 = nI n ∧ (n = 0 → r9 = r) ∧ JJ al1 u1 w9) (fun r9 w9 g1 g2 g3 => ⟨g1, g2, g3⟩))) (cwV 1 hts gL_law_X7_orbitsAnew rfl rfl rfl (by decide +kernel) ⟨Nat.le_of_ble_eq_true rfl, Nat.le_of_ble_eq_true rfl⟩) (lw_pm hC hS hM hPm) rfl rfl hl.1 rfl (lv_room (Nat.le_of_ble_eq_true rfl)) dL_law_1190 ⟨hcell, hslot⟩) hS hJ hM hPc hPo (fun r1 w1 H locs hq hPm hPc hPo hS => ?_)
  obtain ⟨g1, g2, hJJ⟩ := hq
  refine lv_istore (lv' := [(6, .int r1), (5, .int (nI n)), (0, .ref b), (1, .ref (ad 0)), (2, .ref (adm 0)), (3, .ref qo), (4, .int i)]) hx hb dL_law_1193 hl (by decide) rfl (fun ls hl => ?_)
  refine lv_aload_n hx hb dL_law_1195 rfl (lv_at hl 4 rfl) ?_
  refine lw_cm (va_runV (C := RX7) (As := []) (rest := []) ⟨hx, hb, hml, hown, hts⟩ (c_X7_thrown hM.1 H.size w1 (fun r2 w2 => r2 = w1 0 0 ∧ w2 = w1) ⟨rfl, rfl⟩) (cwV 0 hts gL_law_X7_thrown rfl rfl rfl (by decide +kernel) ⟨Nat.le_of_ble_eq_true rfl, Nat.le_of_ble_eq_true rfl⟩) (lw_pm hC hS hM hPm) rfl rfl hl.1 rfl (lv_room (Nat.le_of_ble_eq_true rfl)) dL_law_1196 ⟨hcell, hslot⟩) hS hJ hM hPc hPo (fun r2 w2 H locs hq hPm hPc hPo hS => ?_)
  obtain ⟨e2, e3⟩ := hq
  rw [e3] at hPm
  rw [g1] at e2
  subst e2
  refine lv_iload hx hb dL_law_1199 (lv_at hl 1 rfl) ?_
  refine lv_icmp_eq (tgt := 1206) hx hb dL_law_1201 (by decide) (fun _ => ?_) (fun c9 => absurd rfl c9)
  refine lv_iload hx hb dL_law_1206 (lv_at hl 1 rfl) ?_
  refine lv_if_ne (tgt := 1223) hx hb dL_law_1208 (by decide) (fun c9 => ?_) (fun c9 => ?_)
  · refine lv_goto (tgt := 1226) hx hb dL_law_1223 (by decide) ?_
    exact K _ _ _ ⟨L1, ad1, al1, u1, w1, o1, hal1, hJJ, hJ, hPc, hPm, hPo⟩ hS (lv_sub hl [2, 3, 4, 5, 6] rfl)
  have hn0 := nI_no0 hn2 c9
  refine lv_aload_n hx hb dL_law_1211 rfl (lv_at hl 5 rfl) ?_
  refine lv_iconst (v := 0) hx hb dL_law_1212 (by decide) ?_
  refine va_lald (cA := cJ) (n := 1) (f := o1) hx hb hK hPo 0 3 rfl rfl (show ¬ ((0 : Int32) < 0 ∨ 1 ≤ (0 : Int32).toNatClampNeg) by decide) dL_law_1213 ?_
  refine W.eq (g2 := F0 m 1214 ls [.long r.toInt64]) (by rw [← ho hn0]; rfl) ?_
  refine lv_iload hx hb dL_law_1214 (lv_at hl 0 rfl) ?_
  refine lv_i2l (v := r1.toInt64) hx hb dL_law_1216 rfl ?_
  refine W.lcmp hx hb dL_law_1217 ?_
  refine lv_if_eq (tgt := 1223) hx hb dL_law_1218 (by decide) (fun _ => ?_) (fun c8 => absurd (by rw [g2 hn0]; exact lg_same _) c8)
  refine lv_goto (tgt := 1226) hx hb dL_law_1223 (by decide) ?_
  exact K _ _ _ ⟨L1, ad1, al1, u1, w1, o1, hal1, hJJ, hJ, hPc, hPm, hPo⟩ hS (lv_sub hl [2, 3, 4, 5, 6] rfl)
