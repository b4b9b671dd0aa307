/-! the law's cases -/
theorem rm_0 {f : (Int32 → St → Prop) → Prop} {al : Nat} {u : St} {r : Int32} (hal : al ≤ 4) (h : MK f al 0 r u) : RM f 0 r.toInt64 al u := ⟨hal, 0, r, rfl, Nat.zero_le _, fun _ => rfl, h⟩
theorem rm_1 {f : (Int32 → St → Prop) → Prop} {al : Nat} {u : St} {o : Int64} (hal : al ≤ 4) (h : MK f al 1 0 u) : RM f 1 o al u := ⟨hal, 1, 0, rfl, by decide, bad0 (by decide), h⟩
theorem rm_2 {f : (Int32 → St → Prop) → Prop} {al : Nat} {u : St} {o : Int64} (hal : al ≤ 4) (h : MK f al 2 0 u) : RM f 2 o al u := ⟨hal, 2, 0, rfl, by decide, bad0 (by decide), h⟩
set_option maxRecDepth 100000 in
set_option maxHeartbeats 4000000 in
theorem law_c0 {p : Program} {l : Launch} {e : Env} {s : State} {m : MethodId} {b Ls : Nat} {xs : Nat → Int32} {below : List Frame} {meth : Method} {c : Code} {D : va_G} {cI cG cZ cJ : ClassId} {ts : Nat × Nat} {x0 qo : Nat} {adm : Nat → Nat} (F : LF p l s m b Ls xs meth c D cI cG cZ cJ ts qo adm) {i : Int32} (hi1 : vp_in (i + 1) Ls) (hi2 : vp_in (i + 2) Ls) (hi3 : vp_in (i + 3) Ls) (hi4 : vp_in (i + 4) Ls) {cells slots : Nat} (hcell : cells + 8 ≤ 303322) (hslot : slots + 4000 ≤ 8186138) (K : LW p l e s m b below meth c D cI cG cZ cJ x0 qo adm i (cells + 8) (slots + 4000) 1226) : LW p l e s m b below meth c D cI cG cZ cJ x0 qo adm i cells slots 124 := by
  obtain ⟨C0, hflag, hC, hX, hN, hM⟩ := F
  obtain ⟨hx, hb, hr, hml, hown0, hts0, hXs, hbl, hlocks, -⟩ := C0
  have hown : s.vm.findClass RL = some m.cls := hown0
  have hts : ∀ w ∈ wsL_law, w.before #[Value.ref b] s = true := fun w h => hts0 w (wsL_law_in w h)
  have hK := hC.1
  have hbA : ¬ AL s b := Nat.not_le.mpr hbl
  intro H locs ls hst hS hl
  obtain ⟨L, ad, al, u, w, o, hal, hJJ, hJ, hPc, hPm, hPo⟩ := hst
  obtain ⟨hwd, hL, hLb, e0, hd⟩ := id hJ
  subst e0
  refine lv_aload_n hx hb dL_law_124 rfl (lv_at hl 1 rfl) ?_
  refine lv_aload_n hx hb dL_law_125 rfl (lv_at hl 0 rfl) ?_
  refine lv_iload hx hb dL_law_126 (lv_at hl 4 rfl) ?_
  refine lv_iconst (v := 1) hx hb dL_law_128 (by decide) ?_
  refine lv_iadd hx hb dL_law_129 ?_
  refine va_sld hx hb hXs hbl hbA hS hi1 dL_law_130 ?_
  refine lv_aload_n hx hb dL_law_131 rfl (lv_at hl 3 rfl) ?_
  refine lw_cw (Rr := RM (f_X7_prime (xs (i + 1).toNatClampNeg) w)) (vx_runSW (As := [.ref (ad 0), .int (xs (i + 1).toNatClampNeg), .ref qo]) (rest := []) ⟨hx, hb, hml, hown, hts⟩ (c_L_prime hflag hL hLb hwd qo H.size (fun k hk => (hd k hk).2.1) u o (xs (i + 1).toNatClampNeg) (RM (f_X7_prime (xs (i + 1).toNatClampNeg) w)) (x_prime hJJ (fun r u9 hk => rm_0 hal hk) (fun u9 hk => ⟨rfl, rm_1 hal hk⟩))) (vx_cwSW 3 hts gL_law_L_prime rfl rfl rfl (by decide +kernel) ⟨Nat.le_of_ble_eq_true rfl, Nat.le_of_ble_eq_true rfl⟩) (lw_pw hC hX hN hS hJ hM hPc hPo) rfl rfl hl.1 rfl (lv_room (Nat.le_of_ble_eq_true rfl)) dL_law_132 ⟨Nat.le_trans (Nat.add_le_add_left (by decide : 1 ≤ 8) cells) hcell, Nat.le_trans (Nat.add_le_add_left (Nat.le_of_ble_eq_true rfl : 6 ≤ 4000) slots) hslot⟩) hS hJ hM hPo hPm (fun k L1 ad1 al1 u1 o1 H locs hJ hR hPc hPo hPm hS => ?_)
  refine W.widen (k := cells + 8) (n := slots + 4000) (Nat.add_le_add_left (by decide) _) (Nat.add_le_add_left (Nat.le_of_ble_eq_true rfl) _) ?_
  obtain ⟨hal1, n, r, rfl, hn2, ho, hk⟩ := hR
  refine lv_istore (lv' := [(5, .int (nI n)), (0, .ref b), (1, .ref (ad 0)), (2, .ref (adm 0)), (3, .ref qo), (4, .int i)]) hx hb dL_law_135 hl (by decide) rfl (fun ls hl => ?_)
  refine lv_aload_n hx hb dL_law_137 rfl (lv_at hl 3 rfl) ?_
  refine lv_aload_n hx hb dL_law_138 rfl (lv_at hl 1 rfl) ?_
  refine lv_iload hx hb dL_law_139 (lv_at hl 5 rfl) ?_
  refine lv_iconst (v := 1) hx hb dL_law_141 (by decide) ?_
  refine lv_iadd hx hb dL_law_142 ?_
  refine va_sld hx hb hXs hbl hbA hS hi1 dL_law_143 ?_
  refine lw_cm (va_runV (C := RX7) (As := [.int (xs (i + 1).toNatClampNeg)]) (rest := []) ⟨hx, hb, hml, hown, hts⟩ (c_X7_prime hM.1 H.size w (xs (i + 1).toNatClampNeg) _ (hk (fun r9 w9 => w9 0 0 = nI n ∧ (n = 0 → r9 = r) ∧ JJ al1 u1 w9) (fun r9 w9 g1 g2 g3 => ⟨g1, g2, g3⟩))) (cwV 1 hts gL_law_X7_prime rfl rfl rfl (by decide +kernel) ⟨Nat.le_of_ble_eq_true rfl, Nat.le_of_ble_eq_true rfl⟩) (lw_pm hC hS hM hPm) rfl rfl hl.1 rfl (lv_room (Nat.le_of_ble_eq_true rfl)) dL_law_144 ⟨hcell, hslot⟩) hS hJ hM hPc hPo (fun r1 w1 H locs hq hPm hPc hPo hS => ?_)
  obtain ⟨g1, g2, hJJ⟩ := hq
  refine lv_istore (lv' := [(6, .int r1), (5, .int (nI n)), (0, .ref b), (1, .ref (ad 0)), (2, .ref (adm 0)), (3, .ref qo), (4, .int i)]) hx hb dL_law_147 hl (by decide) rfl (fun ls hl => ?_)
  refine lv_aload_n hx hb dL_law_149 rfl (lv_at hl 4 rfl) ?_
  refine lw_cm (va_runV (C := RX7) (As := []) (rest := []) ⟨hx, hb, hml, hown, hts⟩ (c_X7_thrown hM.1 H.size w1 (fun r2 w2 => r2 = w1 0 0 ∧ w2 = w1) ⟨rfl, rfl⟩) (cwV 0 hts gL_law_X7_thrown rfl rfl rfl (by decide +kernel) ⟨Nat.le_of_ble_eq_true rfl, Nat.le_of_ble_eq_true rfl⟩) (lw_pm hC hS hM hPm) rfl rfl hl.1 rfl (lv_room (Nat.le_of_ble_eq_true rfl)) dL_law_150 ⟨hcell, hslot⟩) hS hJ hM hPc hPo (fun r2 w2 H locs hq hPm hPc hPo hS => ?_)
  obtain ⟨e2, e3⟩ := hq
  rw [e3] at hPm
  rw [g1] at e2
  subst e2
  refine lv_iload hx hb dL_law_153 (lv_at hl 1 rfl) ?_
  refine lv_icmp_eq (tgt := 160) hx hb dL_law_155 (by decide) (fun _ => ?_) (fun c9 => absurd rfl c9)
  refine lv_iload hx hb dL_law_160 (lv_at hl 1 rfl) ?_
  refine lv_if_ne (tgt := 177) hx hb dL_law_162 (by decide) (fun c9 => ?_) (fun c9 => ?_)
  · refine lv_goto (tgt := 1226) hx hb dL_law_177 (by decide) ?_
    exact K _ _ _ ⟨L1, ad1, al1, u1, w1, o1, hal1, hJJ, hJ, hPc, hPm, hPo⟩ hS (lv_sub hl [2, 3, 4, 5, 6] rfl)
  have hn0 := nI_no0 hn2 c9
  refine lv_aload_n hx hb dL_law_165 rfl (lv_at hl 5 rfl) ?_
  refine lv_iconst (v := 0) hx hb dL_law_166 (by decide) ?_
  refine va_lald (cA := cJ) (n := 1) (f := o1) hx hb hK hPo 0 3 rfl rfl (show ¬ ((0 : Int32) < 0 ∨ 1 ≤ (0 : Int32).toNatClampNeg) by decide) dL_law_167 ?_
  refine W.eq (g2 := F0 m 168 ls [.long r.toInt64]) (by rw [← ho hn0]; rfl) ?_
  refine lv_iload hx hb dL_law_168 (lv_at hl 0 rfl) ?_
  refine lv_i2l (v := r1.toInt64) hx hb dL_law_170 rfl ?_
  refine W.lcmp hx hb dL_law_171 ?_
  refine lv_if_eq (tgt := 177) hx hb dL_law_172 (by decide) (fun _ => ?_) (fun c8 => absurd (by rw [g2 hn0]; exact lg_same _) c8)
  refine lv_goto (tgt := 1226) hx hb dL_law_177 (by decide) ?_
  exact K _ _ _ ⟨L1, ad1, al1, u1, w1, o1, hal1, hJJ, hJ, hPc, hPm, hPo⟩ hS (lv_sub hl [2, 3, 4, 5, 6] rfl)
set_option maxRecDepth 100000 in
set_option maxHeartbeats 4000000 in
theorem law_c1 {p : Program} {l : Launch} {e : Env} {s : State} {m : MethodId} {b Ls : Nat} {xs : Nat → Int32} {below : List Frame} {meth : Method} {c : Code} {D : va_G} {cI cG cZ cJ : ClassId} {ts : Nat × Nat} {x0 qo : Nat} {adm : Nat → Nat} (F : LF p l s m b Ls xs meth c D cI cG cZ cJ ts qo adm) {i : Int32} (hi1 : vp_in (i + 1) Ls) (hi2 : vp_in (i + 2) Ls) (hi3 : vp_in (i + 3) Ls) (hi4 : vp_in (i + 4) Ls) {cells slots : Nat} (hcell : cells + 8 ≤ 303322) (hslot : slots + 4000 ≤ 8186138) (K : LW p l e s m b below meth c D cI cG cZ cJ x0 qo adm i (cells + 8) (slots + 4000) 1226) : LW p l e s m b below meth c D cI cG cZ cJ x0 qo adm i cells slots 180 := by
  obtain ⟨C0, hflag, hC, hX, hN, hM⟩ := F
  obtain ⟨hx, hb, hr, hml, hown0, hts0, hXs, hbl, hlocks, -⟩ := C0
  have hown : s.vm.findClass RL = some m.cls := hown0
  have hts : ∀ w ∈ wsL_law, w.before #[Value.ref b] s = true := fun w h => hts0 w (wsL_law_in w h)
  have hK := hC.1
  have hbA : ¬ AL s b := Nat.not_le.mpr hbl
  intro H locs ls hst hS hl
  obtain ⟨L, ad, al, u, w, o, hal, hJJ, hJ, hPc, hPm, hPo⟩ := hst
  obtain ⟨hwd, hL, hLb, e0, hd⟩ := id hJ
  subst e0
  refine lv_aload_n hx hb dL_law_180 rfl (lv_at hl 1 rfl) ?_
  refine lv_aload_n hx hb dL_law_181 rfl (lv_at hl 0 rfl) ?_
  refine lv_iload hx hb dL_law_182 (lv_at hl 4 rfl) ?_
  refine lv_iconst (v := 1) hx hb dL_law_184 (by decide) ?_
  refine lv_iadd hx hb dL_law_185 ?_
  refine va_sld hx hb hXs hbl hbA hS hi1 dL_law_186 ?_
  refine lv_aload_n hx hb dL_law_187 rfl (lv_at hl 0 rfl) ?_
  refine lv_iload hx hb dL_law_188 (lv_at hl 4 rfl) ?_
  refine lv_iconst (v := 2) hx hb dL_law_190 (by decide) ?_
  refine lv_iadd hx hb dL_law_191 ?_
  refine va_sld hx hb hXs hbl hbA hS hi2 dL_law_192 ?_
  refine lv_aload_n hx hb dL_law_193 rfl (lv_at hl 3 rfl) ?_
  refine lw_cw (Rr := RM (f_X7_form (xs (i + 1).toNatClampNeg) (xs (i + 2).toNatClampNeg) w)) (vx_runSW (As := [.ref (ad 0), .int (xs (i + 1).toNatClampNeg), .int (xs (i + 2).toNatClampNeg), .ref qo]) (rest := []) ⟨hx, hb, hml, hown, hts⟩ (c_L_form hflag hL hLb hwd qo H.size (fun k hk => (hd k hk).2.1) u o (xs (i + 1).toNatClampNeg) (xs (i + 2).toNatClampNeg) (RM (f_X7_form (xs (i + 1).toNatClampNeg) (xs (i + 2).toNatClampNeg) w)) (x_form hJJ (fun r u9 hk => rm_0 hal hk) (fun u9 hk => Or.inl ⟨rfl, rm_1 hal hk⟩) (fun u9 hk => Or.inr ⟨rfl, rm_2 hal hk⟩))) (vx_cwSW 4 hts gL_law_L_form rfl rfl rfl (by decide +kernel) ⟨Nat.le_of_ble_eq_true rfl, Nat.le_of_ble_eq_true rfl⟩) (lw_pw hC hX hN hS hJ hM hPc hPo) rfl rfl hl.1 rfl (lv_room (Nat.le_of_ble_eq_true rfl)) dL_law_194 ⟨Nat.le_trans (Nat.add_le_add_left (by decide : 1 ≤ 8) cells) hcell, Nat.le_trans (Nat.add_le_add_left (Nat.le_of_ble_eq_true rfl : 6 ≤ 4000) slots) hslot⟩) hS hJ hM hPo hPm (fun k L1 ad1 al1 u1 o1 H locs hJ hR hPc hPo hPm hS => ?_)
  refine W.widen (k := cells + 8) (n := slots + 4000) (Nat.add_le_add_left (by decide) _) (Nat.add_le_add_left (Nat.le_of_ble_eq_true rfl) _) ?_
  obtain ⟨hal1, n, r, rfl, hn2, ho, hk⟩ := hR
  refine lv_istore (lv' := [(5, .int (nI n)), (0, .ref b), (1, .ref (ad 0)), (2, .ref (adm 0)), (3, .ref qo), (4, .int i)]) hx hb dL_law_197 hl (by decide) rfl (fun ls hl => ?_)
  refine lv_aload_n hx hb dL_law_199 rfl (lv_at hl 3 rfl) ?_
  refine lv_aload_n hx hb dL_law_200 rfl (lv_at hl 1 rfl) ?_
  refine lv_iload hx hb dL_law_201 (lv_at hl 5 rfl) ?_
  refine lv_iconst (v := 1) hx hb dL_law_203 (by decide) ?_
  refine lv_iadd hx hb dL_law_204 ?_
  refine va_sld hx hb hXs hbl hbA hS hi1 dL_law_205 ?_
  refine lv_aload_n hx hb dL_law_206 rfl (lv_at hl 1 rfl) ?_
  refine lv_iload hx hb dL_law_207 (lv_at hl 5 rfl) ?_
  refine lv_iconst (v := 2) hx hb dL_law_209 (by decide) ?_
  refine lv_iadd hx hb dL_law_210 ?_
  refine va_sld hx hb hXs hbl hbA hS hi2 dL_law_211 ?_
  refine lw_cm (va_runV (C := RX7) (As := [.int (xs (i + 1).toNatClampNeg), .int (xs (i + 2).toNatClampNeg)]) (rest := []) ⟨hx, hb, hml, hown, hts⟩ (c_X7_form hM.1 H.size w (xs (i + 1).toNatClampNeg) (xs (i + 2).toNatClampNeg) _ (hk (fun r9 w9 => w9 0 0 = nI n ∧ (n = 0 → r9 = r) ∧ JJ al1 u1 w9) (fun r9 w9 g1 g2 g3 => ⟨g1, g2, g3⟩))) (cwV 2 hts gL_law_X7_form rfl rfl rfl (by decide +kernel) ⟨Nat.le_of_ble_eq_true rfl, Nat.le_of_ble_eq_true rfl⟩) (lw_pm hC hS hM hPm) rfl rfl hl.1 rfl (lv_room (Nat.le_of_ble_eq_true rfl)) dL_law_212 ⟨hcell, hslot⟩) hS hJ hM hPc hPo (fun r1 w1 H locs hq hPm hPc hPo hS => ?_)
  obtain ⟨g1, g2, hJJ⟩ := hq
  refine lv_istore (lv' := [(6, .int r1), (5, .int (nI n)), (0, .ref b), (1, .ref (ad 0)), (2, .ref (adm 0)), (3, .ref qo), (4, .int i)]) hx hb dL_law_215 hl (by decide) rfl (fun ls hl => ?_)
  refine lv_aload_n hx hb dL_law_217 rfl (lv_at hl 4 rfl) ?_
  refine lw_cm (va_runV (C := RX7) (As := []) (rest := []) ⟨hx, hb, hml, hown, hts⟩ (c_X7_thrown hM.1 H.size w1 (fun r2 w2 => r2 = w1 0 0 ∧ w2 = w1) ⟨rfl, rfl⟩) (cwV 0 hts gL_law_X7_thrown rfl rfl rfl (by decide +kernel) ⟨Nat.le_of_ble_eq_true rfl, Nat.le_of_ble_eq_true rfl⟩) (lw_pm hC hS hM hPm) rfl rfl hl.1 rfl (lv_room (Nat.le_of_ble_eq_true rfl)) dL_law_218 ⟨hcell, hslot⟩) hS hJ hM hPc hPo (fun r2 w2 H locs hq hPm hPc hPo hS => ?_)
  obtain ⟨e2, e3⟩ := hq
  rw [e3] at hPm
  rw [g1] at e2
  subst e2
  refine lv_iload hx hb dL_law_221 (lv_at hl 1 rfl) ?_
  refine lv_icmp_eq (tgt := 228) hx hb dL_law_223 (by decide) (fun _ => ?_) (fun c9 => absurd rfl c9)
  refine lv_iload hx hb dL_law_228 (lv_at hl 1 rfl) ?_
  refine lv_if_ne (tgt := 245) hx hb dL_law_230 (by decide) (fun c9 => ?_) (fun c9 => ?_)
  · refine lv_goto (tgt := 1226) hx hb dL_law_245 (by decide) ?_
    exact K _ _ _ ⟨L1, ad1, al1, u1, w1, o1, hal1, hJJ, hJ, hPc, hPm, hPo⟩ hS (lv_sub hl [2, 3, 4, 5, 6] rfl)
  have hn0 := nI_no0 hn2 c9
  refine lv_aload_n hx hb dL_law_233 rfl (lv_at hl 5 rfl) ?_
  refine lv_iconst (v := 0) hx hb dL_law_234 (by decide) ?_
  refine va_lald (cA := cJ) (n := 1) (f := o1) hx hb hK hPo 0 3 rfl rfl (show ¬ ((0 : Int32) < 0 ∨ 1 ≤ (0 : Int32).toNatClampNeg) by decide) dL_law_235 ?_
  refine W.eq (g2 := F0 m 236 ls [.long r.toInt64]) (by rw [← ho hn0]; rfl) ?_
  refine lv_iload hx hb dL_law_236 (lv_at hl 0 rfl) ?_
  refine lv_i2l (v := r1.toInt64) hx hb dL_law_238 rfl ?_
  refine W.lcmp hx hb dL_law_239 ?_
  refine lv_if_eq (tgt := 245) hx hb dL_law_240 (by decide) (fun _ => ?_) (fun c8 => absurd (by rw [g2 hn0]; exact lg_same _) c8)
  refine lv_goto (tgt := 1226) hx hb dL_law_245 (by decide) ?_
  exact K _ _ _ ⟨L1, ad1, al1, u1, w1, o1, hal1, hJJ, hJ, hPc, hPm, hPo⟩ hS (lv_sub hl [2, 3, 4, 5, 6] rfl)
set_option maxRecDepth 100000 in
set_option maxHeartbeats 4000000 in
theorem law_c2 {p : Program} {l : Launch} {e : Env} {s : State} {m : MethodId} {b Ls : Nat} {xs : Nat → Int32} {below : List Frame} {meth : Method} {c : Code} {D : va_G} {cI cG cZ cJ : ClassId} {ts : Nat × Nat} {x0 qo : Nat} {adm : Nat → Nat} (F : LF p l s m b Ls xs meth c D cI cG cZ cJ ts qo adm) {i : Int32} (hi1 : vp_in (i + 1) Ls) (hi2 : vp_in (i + 2) Ls) (hi3 : vp_in (i + 3) Ls) (hi4 : vp_in (i + 4) Ls) {cells slots : Nat} (hcell : cells + 8 ≤ 303322) (hslot : slots + 4000 ≤ 8186138) (K : LW p l e s m b below meth c D cI cG cZ cJ x0 qo adm i (cells + 8) (slots + 4000) 1226) : LW p l e s m b below meth c D cI cG cZ cJ x0 qo adm i cells slots 248 := by
  obtain ⟨C0, hflag, hC, hX, hN, hM⟩ := F
  obtain ⟨hx, hb, hr, hml, hown0, hts0, hXs, hbl, hlocks, -⟩ := C0
  have hown : s.vm.findClass RL = some m.cls := hown0
  have hts : ∀ w ∈ wsL_law, w.before #[Value.ref b] s = true := fun w h => hts0 w (wsL_law_in w h)
  have hK := hC.1
  have hbA : ¬ AL s b := Nat.not_le.mpr hbl
  intro H locs ls hst hS hl
  obtain ⟨L, ad, al, u, w, o, hal, hJJ, hJ, hPc, hPm, hPo⟩ := hst
  obtain ⟨hwd, hL, hLb, e0, hd⟩ := id hJ
  subst e0
  refine lv_aload_n hx hb dL_law_248 rfl (lv_at hl 1 rfl) ?_
  refine lv_aload_n hx hb dL_law_249 rfl (lv_at hl 0 rfl) ?_
  refine lv_iload hx hb dL_law_250 (lv_at hl 4 rfl) ?_
  refine lv_iconst (v := 1) hx hb dL_law_252 (by decide) ?_
  refine lv_iadd hx hb dL_law_253 ?_
  refine va_sld hx hb hXs hbl hbA hS hi1 dL_law_254 ?_
  refine lv_aload_n hx hb dL_law_255 rfl (lv_at hl 0 rfl) ?_
  refine lv_iload hx hb dL_law_256 (lv_at hl 4 rfl) ?_
  refine lv_iconst (v := 2) hx hb dL_law_258 (by decide) ?_
  refine lv_iadd hx hb dL_law_259 ?_
  refine va_sld hx hb hXs hbl hbA hS hi2 dL_law_260 ?_
  refine lv_aload_n hx hb dL_law_261 rfl (lv_at hl 3 rfl) ?_
  refine lw_cw (Rr := RM (f_X7_formIs (xs (i + 1).toNatClampNeg) (xs (i + 2).toNatClampNeg) w)) (vx_runSW (As := [.ref (ad 0), .int (xs (i + 1).toNatClampNeg), .int (xs (i + 2).toNatClampNeg), .ref qo]) (rest := []) ⟨hx, hb, hml, hown, hts⟩ (c_L_formIs hflag hL hLb hwd qo H.size (fun k hk => (hd k hk).2.1) u o (xs (i + 1).toNatClampNeg) (xs (i + 2).toNatClampNeg) (RM (f_X7_formIs (xs (i + 1).toNatClampNeg) (xs (i + 2).toNatClampNeg) w)) (x_formIs hJJ (fun r u9 hk => rm_0 hal hk) (fun u9 hk => Or.inl ⟨rfl, rm_1 hal hk⟩) (fun u9 hk => Or.inr ⟨rfl, rm_2 hal hk⟩))) (vx_cwSW 4 hts gL_law_L_formIs rfl rfl rfl (by decide +kernel) ⟨Nat.le_of_ble_eq_true rfl, Nat.le_of_ble_eq_true rfl⟩) (lw_pw hC hX hN hS hJ hM hPc hPo) rfl rfl hl.1 rfl (lv_room (Nat.le_of_ble_eq_true rfl)) dL_law_262 ⟨Nat.le_trans (Nat.add_le_add_left (by decide : 2 ≤ 8) cells) hcell, Nat.le_trans (Nat.add_le_add_left (Nat.le_of_ble_eq_true rfl : 12 ≤ 4000) slots) hslot⟩) hS hJ hM hPo hPm (fun k L1 ad1 al1 u1 o1 H locs hJ hR hPc hPo hPm hS => ?_)
  refine W.widen (k := cells + 8) (n := slots + 4000) (Nat.add_le_add_left (by decide) _) (Nat.add_le_add_left (Nat.le_of_ble_eq_true rfl) _) ?_
  obtain ⟨hal1, n, r, rfl, hn2, ho, hk⟩ := hR
  refine lv_istore (lv' := [(5, .int (nI n)), (0, .ref b), (1, .ref (ad 0)), (2, .ref (adm 0)), (3, .ref qo), (4, .int i)]) hx hb dL_law_265 hl (by decide) rfl (fun ls hl => ?_)
  refine lv_aload_n hx hb dL_law_267 rfl (lv_at hl 3 rfl) ?_
  refine lv_aload_n hx hb dL_law_268 rfl (lv_at hl 1 rfl) ?_
  refine lv_iload hx hb dL_law_269 (lv_at hl 5 rfl) ?_
  refine lv_iconst (v := 1) hx hb dL_law_271 (by decide) ?_
  refine lv_iadd hx hb dL_law_272 ?_
  refine va_sld hx hb hXs hbl hbA hS hi1 dL_law_273 ?_
  refine lv_aload_n hx hb dL_law_274 rfl (lv_at hl 1 rfl) ?_
  refine lv_iload hx hb dL_law_275 (lv_at hl 5 rfl) ?_
  refine lv_iconst (v := 2) hx hb dL_law_277 (by decide) ?_
  refine lv_iadd hx hb dL_law_278 ?_
  refine va_sld hx hb hXs hbl hbA hS hi2 dL_law_279 ?_
  refine lw_cm (va_runV (C := RX7) (As := [.int (xs (i + 1).toNatClampNeg), .int (xs (i + 2).toNatClampNeg)]) (rest := []) ⟨hx, hb, hml, hown, hts⟩ (c_X7_formIs hM.1 H.size w (xs (i + 1).toNatClampNeg) (xs (i + 2).toNatClampNeg) _ (hk (fun r9 w9 => w9 0 0 = nI n ∧ (n = 0 → r9 = r) ∧ JJ al1 u1 w9) (fun r9 w9 g1 g2 g3 => ⟨g1, g2, g3⟩))) (cwV 2 hts gL_law_X7_formIs rfl rfl rfl (by decide +kernel) ⟨Nat.le_of_ble_eq_true rfl, Nat.le_of_ble_eq_true rfl⟩) (lw_pm hC hS hM hPm) rfl rfl hl.1 rfl (lv_room (Nat.le_of_ble_eq_true rfl)) dL_law_280 ⟨hcell, hslot⟩) hS hJ hM hPc hPo (fun r1 w1 H locs hq hPm hPc hPo hS => ?_)
  obtain ⟨g1, g2, hJJ⟩ := hq
  refine lv_istore (lv' := [(6, .int r1), (5, .int (nI n)), (0, .ref b), (1, .ref (ad 0)), (2, .ref (adm 0)), (3, .ref qo), (4, .int i)]) hx hb dL_law_283 hl (by decide) rfl (fun ls hl => ?_)
  refine lv_aload_n hx hb dL_law_285 rfl (lv_at hl 4 rfl) ?_
  refine lw_cm (va_runV (C := RX7) (As := []) (rest := []) ⟨hx, hb, hml, hown, hts⟩ (c_X7_thrown hM.1 H.size w1 (fun r2 w2 => r2 = w1 0 0 ∧ w2 = w1) ⟨rfl, rfl⟩) (cwV 0 hts gL_law_X7_thrown rfl rfl rfl (by decide +kernel) ⟨Nat.le_of_ble_eq_true rfl, Nat.le_of_ble_eq_true rfl⟩) (lw_pm hC hS hM hPm) rfl rfl hl.1 rfl (lv_room (Nat.le_of_ble_eq_true rfl)) dL_law_286 ⟨hcell, hslot⟩) hS hJ hM hPc hPo (fun r2 w2 H locs hq hPm hPc hPo hS => ?_)
  obtain ⟨e2, e3⟩ := hq
  rw [e3] at hPm
  rw [g1] at e2
  subst e2
  refine lv_iload hx hb dL_law_289 (lv_at hl 1 rfl) ?_
  refine lv_icmp_eq (tgt := 296) hx hb dL_law_291 (by decide) (fun _ => ?_) (fun c9 => absurd rfl c9)
  refine lv_iload hx hb dL_law_296 (lv_at hl 1 rfl) ?_
  refine lv_if_ne (tgt := 313) hx hb dL_law_298 (by decide) (fun c9 => ?_) (fun c9 => ?_)
  · refine lv_goto (tgt := 1226) hx hb dL_law_313 (by decide) ?_
    exact K _ _ _ ⟨L1, ad1, al1, u1, w1, o1, hal1, hJJ, hJ, hPc, hPm, hPo⟩ hS (lv_sub hl [2, 3, 4, 5, 6] rfl)
  have hn0 := nI_no0 hn2 c9
  refine lv_aload_n hx hb dL_law_301 rfl (lv_at hl 5 rfl) ?_
  refine lv_iconst (v := 0) hx hb dL_law_302 (by decide) ?_
  refine va_lald (cA := cJ) (n := 1) (f := o1) hx hb hK hPo 0 3 rfl rfl (show ¬ ((0 : Int32) < 0 ∨ 1 ≤ (0 : Int32).toNatClampNeg) by decide) dL_law_303 ?_
  refine W.eq (g2 := F0 m 304 ls [.long r.toInt64]) (by rw [← ho hn0]; rfl) ?_
  refine lv_iload hx hb dL_law_304 (lv_at hl 0 rfl) ?_
  refine lv_i2l (v := r1.toInt64) hx hb dL_law_306 rfl ?_
  refine W.lcmp hx hb dL_law_307 ?_
  refine lv_if_eq (tgt := 313) hx hb dL_law_308 (by decide) (fun _ => ?_) (fun c8 => absurd (by rw [g2 hn0]; exact lg_same _) c8)
  refine lv_goto (tgt := 1226) hx hb dL_law_313 (by decide) ?_
  exact K _ _ _ ⟨L1, ad1, al1, u1, w1, o1, hal1, hJJ, hJ, hPc, hPm, hPo⟩ hS (lv_sub hl [2, 3, 4, 5, 6] rfl)
set_option maxRecDepth 100000 in
set_option maxHeartbeats 4000000 in
theorem law_c3 {p : Program} {l : Launch} {e : Env} {s : State} {m : MethodId} {b Ls : Nat} {xs : Nat → Int32} {below : List Frame} {meth : Method} {c : Code} {D : va_G} {cI cG cZ cJ : ClassId} {ts : Nat × Nat} {x0 qo : Nat} {adm : Nat → Nat} (F : LF p l s m b Ls xs meth c D cI cG cZ cJ ts qo adm) {i : Int32} (hi1 : vp_in (i + 1) Ls) (hi2 : vp_in (i + 2) Ls) (hi3 : vp_in (i + 3) Ls) (hi4 : vp_in (i + 4) Ls) {cells slots : Nat} (hcell : cells + 8 ≤ 303322) (hslot : slots + 4000 ≤ 8186138) (K : LW p l e s m b below meth c D cI cG cZ cJ x0 qo adm i (cells + 8) (slots + 4000) 1226) : LW p l e s m b below meth c D cI cG cZ cJ x0 qo adm i cells slots 316 := by
  obtain ⟨C0, hflag, hC, hX, hN, hM⟩ := F
  obtain ⟨hx, hb, hr, hml, hown0, hts0, hXs, hbl, hlocks, -⟩ := C0
  have hown : s.vm.findClass RL = some m.cls := hown0
  have hts : ∀ w ∈ wsL_law, w.before #[Value.ref b] s = true := fun w h => hts0 w (wsL_law_in w h)
  have hK := hC.1
  have hbA : ¬ AL s b := Nat.not_le.mpr hbl
  intro H locs ls hst hS hl
  obtain ⟨L, ad, al, u, w, o, hal, hJJ, hJ, hPc, hPm, hPo⟩ := hst
  obtain ⟨hwd, hL, hLb, e0, hd⟩ := id hJ
  subst e0
  refine lv_aload_n hx hb dL_law_316 rfl (lv_at hl 1 rfl) ?_
  refine lv_aload_n hx hb dL_law_317 rfl (lv_at hl 0 rfl) ?_
  refine lv_iload hx hb dL_law_318 (lv_at hl 4 rfl) ?_
  refine lv_iconst (v := 1) hx hb dL_law_320 (by decide) ?_
  refine lv_iadd hx hb dL_law_321 ?_
  refine va_sld hx hb hXs hbl hbA hS hi1 dL_law_322 ?_
  refine lv_aload_n hx hb dL_law_323 rfl (lv_at hl 0 rfl) ?_
  refine lv_iload hx hb dL_law_324 (lv_at hl 4 rfl) ?_
  refine lv_iconst (v := 2) hx hb dL_law_326 (by decide) ?_
  refine lv_iadd hx hb dL_law_327 ?_
  refine va_sld hx hb hXs hbl hbA hS hi2 dL_law_328 ?_
  refine lv_aload_n hx hb dL_law_329 rfl (lv_at hl 0 rfl) ?_
  refine lv_iload hx hb dL_law_330 (lv_at hl 4 rfl) ?_
  refine lv_iconst (v := 3) hx hb dL_law_332 (by decide) ?_
  refine lv_iadd hx hb dL_law_333 ?_
  refine va_sld hx hb hXs hbl hbA hS hi3 dL_law_334 ?_
  refine lv_aload_n hx hb dL_law_335 rfl (lv_at hl 3 rfl) ?_
  refine lw_cw (Rr := RM (f_X7_at (xs (i + 1).toNatClampNeg) (xs (i + 2).toNatClampNeg) (xs (i + 3).toNatClampNeg) w)) (vx_runSW (As := [.ref (ad 0), .int (xs (i + 1).toNatClampNeg), .int (xs (i + 2).toNatClampNeg), .int (xs (i + 3).toNatClampNeg), .ref qo]) (rest := []) ⟨hx, hb, hml, hown, hts⟩ (c_L_at hflag hL hLb hwd qo H.size (fun k hk => (hd k hk).2.1) u o (xs (i + 1).toNatClampNeg) (xs (i + 2).toNatClampNeg) (xs (i + 3).toNatClampNeg) (RM (f_X7_at (xs (i + 1).toNatClampNeg) (xs (i + 2).toNatClampNeg) (xs (i + 3).toNatClampNeg) w)) (x_at hJJ (fun r u9 hk => rm_0 hal hk) (fun u9 hk => Or.inl ⟨rfl, rm_1 hal hk⟩) (fun u9 hk => Or.inr ⟨rfl, rm_2 hal hk⟩))) (vx_cwSW 5 hts gL_law_L_at rfl rfl rfl (by decide +kernel) ⟨Nat.le_of_ble_eq_true rfl, Nat.le_of_ble_eq_true rfl⟩) (lw_pw hC hX hN hS hJ hM hPc hPo) rfl rfl hl.1 rfl (lv_room (Nat.le_of_ble_eq_true rfl)) dL_law_336 ⟨Nat.le_trans (Nat.add_le_add_left (by decide : 2 ≤ 8) cells) hcell, Nat.le_trans (Nat.add_le_add_left (Nat.le_of_ble_eq_true rfl : 12 ≤ 4000) slots) hslot⟩) hS hJ hM hPo hPm (fun k L1 ad1 al1 u1 o1 H locs hJ hR hPc hPo hPm hS => ?_)
  refine W.widen (k := cells + 8) (n := slots + 4000) (Nat.add_le_add_left (by decide) _) (Nat.add_le_add_left (Nat.le_of_ble_eq_true rfl) _) ?_
  obtain ⟨hal1, n, r, rfl, hn2, ho, hk⟩ := hR
  refine lv_istore (lv' := [(5, .int (nI n)), (0, .ref b), (1, .ref (ad 0)), (2, .ref (adm 0)), (3, .ref qo), (4, .int i)]) hx hb dL_law_339 hl (by decide) rfl (fun ls hl => ?_)
  refine lv_aload_n hx hb dL_law_341 rfl (lv_at hl 3 rfl) ?_
  refine lv_aload_n hx hb dL_law_342 rfl (lv_at hl 1 rfl) ?_
  refine lv_iload hx hb dL_law_343 (lv_at hl 5 rfl) ?_
  refine lv_iconst (v := 1) hx hb dL_law_345 (by decide) ?_
  refine lv_iadd hx hb dL_law_346 ?_
  refine va_sld hx hb hXs hbl hbA hS hi1 dL_law_347 ?_
  refine lv_aload_n hx hb dL_law_348 rfl (lv_at hl 1 rfl) ?_
  refine lv_iload hx hb dL_law_349 (lv_at hl 5 rfl) ?_
  refine lv_iconst (v := 2) hx hb dL_law_351 (by decide) ?_
  refine lv_iadd hx hb dL_law_352 ?_
  refine va_sld hx hb hXs hbl hbA hS hi2 dL_law_353 ?_
  refine lv_aload_n hx hb dL_law_354 rfl (lv_at hl 1 rfl) ?_
  refine lv_iload hx hb dL_law_355 (lv_at hl 5 rfl) ?_
  refine lv_iconst (v := 3) hx hb dL_law_357 (by decide) ?_
  refine lv_iadd hx hb dL_law_358 ?_
  refine va_sld hx hb hXs hbl hbA hS hi3 dL_law_359 ?_
  refine lw_cm (va_runV (C := RX7) (As := [.int (xs (i + 1).toNatClampNeg), .int (xs (i + 2).toNatClampNeg), .int (xs (i + 3).toNatClampNeg)]) (rest := []) ⟨hx, hb, hml, hown, hts⟩ (c_X7_at hM.1 H.size w (xs (i + 1).toNatClampNeg) (xs (i + 2).toNatClampNeg) (xs (i + 3).toNatClampNeg) _ (hk (fun r9 w9 => w9 0 0 = nI n ∧ (n = 0 → r9 = r) ∧ JJ al1 u1 w9) (fun r9 w9 g1 g2 g3 => ⟨g1, g2, g3⟩))) (cwV 3 hts gL_law_X7_at rfl rfl rfl (by decide +kernel) ⟨Nat.le_of_ble_eq_true rfl, Nat.le_of_ble_eq_true rfl⟩) (lw_pm hC hS hM hPm) rfl rfl hl.1 rfl (lv_room (Nat.le_of_ble_eq_true rfl)) dL_law_360 ⟨hcell, hslot⟩) hS hJ hM hPc hPo (fun r1 w1 H locs hq hPm hPc hPo hS => ?_)
  obtain ⟨g1, g2, hJJ⟩ := hq
  refine lv_istore (lv' := [(6, .int r1), (5, .int (nI n)), (0, .ref b), (1, .ref (ad 0)), (2, .ref (adm 0)), (3, .ref qo), (4, .int i)]) hx hb dL_law_363 hl (by decide) rfl (fun ls hl => ?_)
  refine lv_aload_n hx hb dL_law_365 rfl (lv_at hl 4 rfl) ?_
  refine lw_cm (va_runV (C := RX7) (As := []) (rest := []) ⟨hx, hb, hml, hown, hts⟩ (c_X7_thrown hM.1 H.size w1 (fun r2 w2 => r2 = w1 0 0 ∧ w2 = w1) ⟨rfl, rfl⟩) (cwV 0 hts gL_law_X7_thrown rfl rfl rfl (by decide +kernel) ⟨Nat.le_of_ble_eq_true rfl, Nat.le_of_ble_eq_true rfl⟩) (lw_pm hC hS hM hPm) rfl rfl hl.1 rfl (lv_room (Nat.le_of_ble_eq_true rfl)) dL_law_366 ⟨hcell, hslot⟩) hS hJ hM hPc hPo (fun r2 w2 H locs hq hPm hPc hPo hS => ?_)
  obtain ⟨e2, e3⟩ := hq
  rw [e3] at hPm
  rw [g1] at e2
  subst e2
  refine lv_iload hx hb dL_law_369 (lv_at hl 1 rfl) ?_
  refine lv_icmp_eq (tgt := 376) hx hb dL_law_371 (by decide) (fun _ => ?_) (fun c9 => absurd rfl c9)
  refine lv_iload hx hb dL_law_376 (lv_at hl 1 rfl) ?_
  refine lv_if_ne (tgt := 393) hx hb dL_law_378 (by decide) (fun c9 => ?_) (fun c9 => ?_)
  · refine lv_goto (tgt := 1226) hx hb dL_law_393 (by decide) ?_
    exact K _ _ _ ⟨L1, ad1, al1, u1, w1, o1, hal1, hJJ, hJ, hPc, hPm, hPo⟩ hS (lv_sub hl [2, 3, 4, 5, 6] rfl)
  have hn0 := nI_no0 hn2 c9
  refine lv_aload_n hx hb dL_law_381 rfl (lv_at hl 5 rfl) ?_
  refine lv_iconst (v := 0) hx hb dL_law_382 (by decide) ?_
  refine va_lald (cA := cJ) (n := 1) (f := o1) hx hb hK hPo 0 3 rfl rfl (show ¬ ((0 : Int32) < 0 ∨ 1 ≤ (0 : Int32).toNatClampNeg) by decide) dL_law_383 ?_
  refine W.eq (g2 := F0 m 384 ls [.long r.toInt64]) (by rw [← ho hn0]; rfl) ?_
  refine lv_iload hx hb dL_law_384 (lv_at hl 0 rfl) ?_
  refine lv_i2l (v := r1.toInt64) hx hb dL_law_386 rfl ?_
  refine W.lcmp hx hb dL_law_387 ?_
  refine lv_if_eq (tgt := 393) hx hb dL_law_388 (by decide) (fun _ => ?_) (fun c8 => absurd (by rw [g2 hn0]; exact lg_same _) c8)
  refine lv_goto (tgt := 1226) hx hb dL_law_393 (by decide) ?_
  exact K _ _ _ ⟨L1, ad1, al1, u1, w1, o1, hal1, hJJ, hJ, hPc, hPm, hPo⟩ hS (lv_sub hl [2, 3, 4, 5, 6] rfl)
set_option maxRecDepth 100000 in
set_option maxHeartbeats 4000000 in
theorem law_c4 {p : Program} {l : Launch} {e : Env} {s : State} {m : MethodId} {b Ls : Nat} {xs : Nat → Int32} {below : List Frame} {meth : Method} {c : Code} {D : va_G} {cI cG cZ cJ : ClassId} {ts : Nat × Nat} {x0 qo : Nat} {adm : Nat → Nat} (F : LF p l s m b Ls xs meth c D cI cG cZ cJ ts qo adm) {i : Int32} (hi1 : vp_in (i + 1) Ls) (hi2 : vp_in (i + 2) Ls) (hi3 : vp_in (i + 3) Ls) (hi4 : vp_in (i + 4) Ls) {cells slots : Nat} (hcell : cells + 8 ≤ 303322) (hslot : slots + 4000 ≤ 8186138) (K : LW p l e s m b below meth c D cI cG cZ cJ x0 qo adm i (cells + 8) (slots + 4000) 1226) : LW p l e s m b below meth c D cI cG cZ cJ x0 qo adm i cells slots 396 := by
  obtain ⟨C0, hflag, hC, hX, hN, hM⟩ := F
  obtain ⟨hx, hb, hr, hml, hown0, hts0, hXs, hbl, hlocks, -⟩ := C0
  have hown : s.vm.findClass RL = some m.cls := hown0
  have hts : ∀ w ∈ wsL_law, w.before #[Value.ref b] s = true := fun w h => hts0 w (wsL_law_in w h)
  have hK := hC.1
  have hbA : ¬ AL s b := Nat.not_le.mpr hbl
  intro H locs ls hst hS hl
  obtain ⟨L, ad, al, u, w, o, hal, hJJ, hJ, hPc, hPm, hPo⟩ := hst
  obtain ⟨hwd, hL, hLb, e0, hd⟩ := id hJ
  subst e0
  refine lv_aload_n hx hb dL_law_396 rfl (lv_at hl 1 rfl) ?_
  refine lv_aload_n hx hb dL_law_397 rfl (lv_at hl 0 rfl) ?_
  refine lv_iload hx hb dL_law_398 (lv_at hl 4 rfl) ?_
  refine lv_iconst (v := 1) hx hb dL_law_400 (by decide) ?_
  refine lv_iadd hx hb dL_law_401 ?_
  refine va_sld hx hb hXs hbl hbA hS hi1 dL_law_402 ?_
  refine lv_aload_n hx hb dL_law_403 rfl (lv_at hl 0 rfl) ?_
  refine lv_iload hx hb dL_law_404 (lv_at hl 4 rfl) ?_
  refine lv_iconst (v := 2) hx hb dL_law_406 (by decide) ?_
  refine lv_iadd hx hb dL_law_407 ?_
  refine va_sld hx hb hXs hbl hbA hS hi2 dL_law_408 ?_
  refine lv_aload_n hx hb dL_law_409 rfl (lv_at hl 3 rfl) ?_
  refine lw_cw (Rr := RM (f_X7_multiplicity (xs (i + 1).toNatClampNeg) (xs (i + 2).toNatClampNeg) w)) (vx_runSW (As := [.ref (ad 0), .int (xs (i + 1).toNatClampNeg), .int (xs (i + 2).toNatClampNeg), .ref qo]) (rest := []) ⟨hx, hb, hml, hown, hts⟩ (c_L_multiplicity hflag hL hLb hwd qo H.size (fun k hk => (hd k hk).2.1) u o (xs (i + 1).toNatClampNeg) (xs (i + 2).toNatClampNeg) (RM (f_X7_multiplicity (xs (i + 1).toNatClampNeg) (xs (i + 2).toNatClampNeg) w)) (x_mult hJJ (fun r u9 hk => rm_0 hal hk) (fun u9 hk => ⟨rfl, rm_1 hal hk⟩))) (vx_cwSW 4 hts gL_law_L_multiplicity rfl rfl rfl (by decide +kernel) ⟨Nat.le_of_ble_eq_true rfl, Nat.le_of_ble_eq_true rfl⟩) (lw_pw hC hX hN hS hJ hM hPc hPo) rfl rfl hl.1 rfl (lv_room (Nat.le_of_ble_eq_true rfl)) dL_law_410 ⟨Nat.le_trans (Nat.add_le_add_left (by decide : 2 ≤ 8) cells) hcell, Nat.le_trans (Nat.add_le_add_left (Nat.le_of_ble_eq_true rfl : 12 ≤ 4000) slots) hslot⟩) hS hJ hM hPo hPm (fun k L1 ad1 al1 u1 o1 H locs hJ hR hPc hPo hPm hS => ?_)
  refine W.widen (k := cells + 8) (n := slots + 4000) (Nat.add_le_add_left (by decide) _) (Nat.add_le_add_left (Nat.le_of_ble_eq_true rfl) _) ?_
  obtain ⟨hal1, n, r, rfl, hn2, ho, hk⟩ := hR
  refine lv_istore (lv' := [(5, .int (nI n)), (0, .ref b), (1, .ref (ad 0)), (2, .ref (adm 0)), (3, .ref qo), (4, .int i)]) hx hb dL_law_413 hl (by decide) rfl (fun ls hl => ?_)
  refine lv_aload_n hx hb dL_law_415 rfl (lv_at hl 3 rfl) ?_
  refine lv_aload_n hx hb dL_law_416 rfl (lv_at hl 1 rfl) ?_
  refine lv_iload hx hb dL_law_417 (lv_at hl 5 rfl) ?_
  refine lv_iconst (v := 1) hx hb dL_law_419 (by decide) ?_
  refine lv_iadd hx hb dL_law_420 ?_
  refine va_sld hx hb hXs hbl hbA hS hi1 dL_law_421 ?_
  refine lv_aload_n hx hb dL_law_422 rfl (lv_at hl 1 rfl) ?_
  refine lv_iload hx hb dL_law_423 (lv_at hl 5 rfl) ?_
  refine lv_iconst (v := 2) hx hb dL_law_425 (by decide) ?_
  refine lv_iadd hx hb dL_law_426 ?_
  refine va_sld hx hb hXs hbl hbA hS hi2 dL_law_427 ?_
  refine lw_cm (va_runV (C := RX7) (As := [.int (xs (i + 1).toNatClampNeg), .int (xs (i + 2).toNatClampNeg)]) (rest := []) ⟨hx, hb, hml, hown, hts⟩ (c_X7_multiplicity hM.1 H.size w (xs (i + 1).toNatClampNeg) (xs (i + 2).toNatClampNeg) _ (hk (fun r9 w9 => w9 0 0 = nI n ∧ (n = 0 → r9 = r) ∧ JJ al1 u1 w9) (fun r9 w9 g1 g2 g3 => ⟨g1, g2, g3⟩))) (cwV 2 hts gL_law_X7_multiplicity rfl rfl rfl (by decide +kernel) ⟨Nat.le_of_ble_eq_true rfl, Nat.le_of_ble_eq_true rfl⟩) (lw_pm hC hS hM hPm) rfl rfl hl.1 rfl (lv_room (Nat.le_of_ble_eq_true rfl)) dL_law_428 ⟨hcell, hslot⟩) hS hJ hM hPc hPo (fun r1 w1 H locs hq hPm hPc hPo hS => ?_)
  obtain ⟨g1, g2, hJJ⟩ := hq
  refine lv_istore (lv' := [(6, .int r1), (5, .int (nI n)), (0, .ref b), (1, .ref (ad 0)), (2, .ref (adm 0)), (3, .ref qo), (4, .int i)]) hx hb dL_law_431 hl (by decide) rfl (fun ls hl => ?_)
  refine lv_aload_n hx hb dL_law_433 rfl (lv_at hl 4 rfl) ?_
  refine lw_cm (va_runV (C := RX7) (As := []) (rest := []) ⟨hx, hb, hml, hown, hts⟩ (c_X7_thrown hM.1 H.size w1 (fun r2 w2 => r2 = w1 0 0 ∧ w2 = w1) ⟨rfl, rfl⟩) (cwV 0 hts gL_law_X7_thrown rfl rfl rfl (by decide +kernel) ⟨Nat.le_of_ble_eq_true rfl, Nat.le_of_ble_eq_true rfl⟩) (lw_pm hC hS hM hPm) rfl rfl hl.1 rfl (lv_room (Nat.le_of_ble_eq_true rfl)) dL_law_434 ⟨hcell, hslot⟩) hS hJ hM hPc hPo (fun r2 w2 H locs hq hPm hPc hPo hS => ?_)
  obtain ⟨e2, e3⟩ := hq
  rw [e3] at hPm
  rw [g1] at e2
  subst e2
  refine lv_iload hx hb dL_law_437 (lv_at hl 1 rfl) ?_
  refine lv_icmp_eq (tgt := 444) hx hb dL_law_439 (by decide) (fun _ => ?_) (fun c9 => absurd rfl c9)
  refine lv_iload hx hb dL_law_444 (lv_at hl 1 rfl) ?_
  refine lv_if_ne (tgt := 461) hx hb dL_law_446 (by decide) (fun c9 => ?_) (fun c9 => ?_)
  · refine lv_goto (tgt := 1226) hx hb dL_law_461 (by decide) ?_
    exact K _ _ _ ⟨L1, ad1, al1, u1, w1, o1, hal1, hJJ, hJ, hPc, hPm, hPo⟩ hS (lv_sub hl [2, 3, 4, 5, 6] rfl)
  have hn0 := nI_no0 hn2 c9
  refine lv_aload_n hx hb dL_law_449 rfl (lv_at hl 5 rfl) ?_
  refine lv_iconst (v := 0) hx hb dL_law_450 (by decide) ?_
  refine va_lald (cA := cJ) (n := 1) (f := o1) hx hb hK hPo 0 3 rfl rfl (show ¬ ((0 : Int32) < 0 ∨ 1 ≤ (0 : Int32).toNatClampNeg) by decide) dL_law_451 ?_
  refine W.eq (g2 := F0 m 452 ls [.long r.toInt64]) (by rw [← ho hn0]; rfl) ?_
  refine lv_iload hx hb dL_law_452 (lv_at hl 0 rfl) ?_
  refine lv_i2l (v := r1.toInt64) hx hb dL_law_454 rfl ?_
  refine W.lcmp hx hb dL_law_455 ?_
  refine lv_if_eq (tgt := 461) hx hb dL_law_456 (by decide) (fun _ => ?_) (fun c8 => absurd (by rw [g2 hn0]; exact lg_same _) c8)
  refine lv_goto (tgt := 1226) hx hb dL_law_461 (by decide) ?_
  exact K _ _ _ ⟨L1, ad1, al1, u1, w1, o1, hal1, hJJ, hJ, hPc, hPm, hPo⟩ hS (lv_sub hl [2, 3, 4, 5, 6] rfl)
set_option maxRecDepth 100000 in
set_option maxHeartbeats 4000000 in
theorem law_c5 {p : Program} {l : Launch} {e : Env} {s : State} {m : MethodId} {b Ls : Nat} {xs : Nat → Int32} {below : List Frame} {meth : Method} {c : Code} {D : va_G} {cI cG cZ cJ : ClassId} {ts : Nat × Nat} {x0 qo : Nat} {adm : Nat → Nat} (F : LF p l s m b Ls xs meth c D cI cG cZ cJ ts qo adm) {i : Int32} (hi1 : vp_in (i + 1) Ls) (hi2 : vp_in (i + 2) Ls) (hi3 : vp_in (i + 3) Ls) (hi4 : vp_in (i + 4) Ls) {cells slots : Nat} (hcell : cells + 8 ≤ 303322) (hslot : slots + 4000 ≤ 8186138) (K : LW p l e s m b below meth c D cI cG cZ cJ x0 qo adm i (cells + 8) (slots + 4000) 1226) : LW p l e s m b below meth c D cI cG cZ cJ x0 qo adm i cells slots 464 := by
  obtain ⟨C0, hflag, hC, hX, hN, hM⟩ := F
  obtain ⟨hx, hb, hr, hml, hown0, hts0, hXs, hbl, hlocks, -⟩ := C0
  have hown : s.vm.findClass RL = some m.cls := hown0
  have hts : ∀ w ∈ wsL_law, w.before #[Value.ref b] s = true := fun w h => hts0 w (wsL_law_in w h)
  have hK := hC.1
  have hbA : ¬ AL s b := Nat.not_le.mpr hbl
  intro H locs ls hst hS hl
  obtain ⟨L, ad, al, u, w, o, hal, hJJ, hJ, hPc, hPm, hPo⟩ := hst
  obtain ⟨hwd, hL, hLb, e0, hd⟩ := id hJ
  subst e0
  refine lv_aload_n hx hb dL_law_464 rfl (lv_at hl 1 rfl) ?_
  refine lv_aload_n hx hb dL_law_465 rfl (lv_at hl 0 rfl) ?_
  refine lv_iload hx hb dL_law_466 (lv_at hl 4 rfl) ?_
  refine lv_iconst (v := 1) hx hb dL_law_468 (by decide) ?_
  refine lv_iadd hx hb dL_law_469 ?_
  refine va_sld hx hb hXs hbl hbA hS hi1 dL_law_470 ?_
  refine lv_aload_n hx hb dL_law_471 rfl (lv_at hl 0 rfl) ?_
  refine lv_iload hx hb dL_law_472 (lv_at hl 4 rfl) ?_
  refine lv_iconst (v := 2) hx hb dL_law_474 (by decide) ?_
  refine lv_iadd hx hb dL_law_475 ?_
  refine va_sld hx hb hXs hbl hbA hS hi2 dL_law_476 ?_
  refine lv_aload_n hx hb dL_law_477 rfl (lv_at hl 0 rfl) ?_
  refine lv_iload hx hb dL_law_478 (lv_at hl 4 rfl) ?_
  refine lv_iconst (v := 3) hx hb dL_law_480 (by decide) ?_
  refine lv_iadd hx hb dL_law_481 ?_
  refine va_sld hx hb hXs hbl hbA hS hi3 dL_law_482 ?_
  refine lv_aload_n hx hb dL_law_483 rfl (lv_at hl 0 rfl) ?_
  refine lv_iload hx hb dL_law_484 (lv_at hl 4 rfl) ?_
  refine lv_iconst (v := 4) hx hb dL_law_486 (by decide) ?_
  refine lv_iadd hx hb dL_law_487 ?_
  refine va_sld hx hb hXs hbl hbA hS hi4 dL_law_488 ?_
  refine lv_aload_n hx hb dL_law_489 rfl (lv_at hl 3 rfl) ?_
  refine lw_cw (Rr := RM (f_X7_generator (xs (i + 1).toNatClampNeg) (xs (i + 2).toNatClampNeg) (xs (i + 3).toNatClampNeg) (xs (i + 4).toNatClampNeg) w)) (vx_runSW (As := [.ref (ad 0), .int (xs (i + 1).toNatClampNeg), .int (xs (i + 2).toNatClampNeg), .int (xs (i + 3).toNatClampNeg), .int (xs (i + 4).toNatClampNeg), .ref qo]) (rest := []) ⟨hx, hb, hml, hown, hts⟩ (c_L_generator hflag hL hLb hwd qo H.size (fun k hk => (hd k hk).2.1) u o (xs (i + 1).toNatClampNeg) (xs (i + 2).toNatClampNeg) (xs (i + 3).toNatClampNeg) (xs (i + 4).toNatClampNeg) (RM (f_X7_generator (xs (i + 1).toNatClampNeg) (xs (i + 2).toNatClampNeg) (xs (i + 3).toNatClampNeg) (xs (i + 4).toNatClampNeg) w)) (x_gen hal hJJ (fun al2 r u9 _ h4 hk => rm_0 h4 hk) (fun u9 hk => Or.inl ⟨rfl, rm_1 hal hk⟩) (fun u9 hk => Or.inr ⟨rfl, rm_2 hal hk⟩))) (vx_cwSW 6 hts gL_law_L_generator rfl rfl rfl (by decide +kernel) ⟨Nat.le_of_ble_eq_true rfl, Nat.le_of_ble_eq_true rfl⟩) (lw_pw hC hX hN hS hJ hM hPc hPo) rfl rfl hl.1 rfl (lv_room (Nat.le_of_ble_eq_true rfl)) dL_law_490 ⟨Nat.le_trans (Nat.add_le_add_left (by decide : 2 ≤ 8) cells) hcell, Nat.le_trans (Nat.add_le_add_left (Nat.le_of_ble_eq_true rfl : 3902 ≤ 4000) slots) hslot⟩) hS hJ hM hPo hPm (fun k L1 ad1 al1 u1 o1 H locs hJ hR hPc hPo hPm hS => ?_)
  refine W.widen (k := cells + 8) (n := slots + 4000) (Nat.add_le_add_left (by decide) _) (Nat.add_le_add_left (Nat.le_of_ble_eq_true rfl) _) ?_
  obtain ⟨hal1, n, r, rfl, hn2, ho, hk⟩ := hR
  refine lv_istore (lv' := [(5, .int (nI n)), (0, .ref b), (1, .ref (ad 0)), (2, .ref (adm 0)), (3, .ref qo), (4, .int i)]) hx hb dL_law_493 hl (by decide) rfl (fun ls hl => ?_)
  refine lv_aload_n hx hb dL_law_495 rfl (lv_at hl 3 rfl) ?_
  refine lv_aload_n hx hb dL_law_496 rfl (lv_at hl 1 rfl) ?_
  refine lv_iload hx hb dL_law_497 (lv_at hl 5 rfl) ?_
  refine lv_iconst (v := 1) hx hb dL_law_499 (by decide) ?_
  refine lv_iadd hx hb dL_law_500 ?_
  refine va_sld hx hb hXs hbl hbA hS hi1 dL_law_501 ?_
  refine lv_aload_n hx hb dL_law_502 rfl (lv_at hl 1 rfl) ?_
  refine lv_iload hx hb dL_law_503 (lv_at hl 5 rfl) ?_
  refine lv_iconst (v := 2) hx hb dL_law_505 (by decide) ?_
  refine lv_iadd hx hb dL_law_506 ?_
  refine va_sld hx hb hXs hbl hbA hS hi2 dL_law_507 ?_
  refine lv_aload_n hx hb dL_law_508 rfl (lv_at hl 1 rfl) ?_
  refine lv_iload hx hb dL_law_509 (lv_at hl 5 rfl) ?_
  refine lv_iconst (v := 3) hx hb dL_law_511 (by decide) ?_
  refine lv_iadd hx hb dL_law_512 ?_
  refine va_sld hx hb hXs hbl hbA hS hi3 dL_law_513 ?_
  refine lv_aload_n hx hb dL_law_514 rfl (lv_at hl 1 rfl) ?_
  refine lv_iload hx hb dL_law_515 (lv_at hl 5 rfl) ?_
  refine lv_iconst (v := 4) hx hb dL_law_517 (by decide) ?_
  refine lv_iadd hx hb dL_law_518 ?_
  refine va_sld hx hb hXs hbl hbA hS hi4 dL_law_519 ?_
  refine lw_cm (va_runV (C := RX7) (As := [.int (xs (i + 1).toNatClampNeg), .int (xs (i + 2).toNatClampNeg), .int (xs (i + 3).toNatClampNeg), .int (xs (i + 4).toNatClampNeg)]) (rest := []) ⟨hx, hb, hml, hown, hts⟩ (c_X7_generator hM.1 H.size w (xs (i + 1).toNatClampNeg) (xs (i + 2).toNatClampNeg) (xs (i + 3).toNatClampNeg) (xs (i + 4).toNatClampNeg) _ (hk (fun r9 w9 => w9 0 0 = nI n ∧ (n = 0 → r9 = r) ∧ JJ al1 u1 w9) (fun r9 w9 g1 g2 g3 => ⟨g1, g2, g3⟩))) (cwV 4 hts gL_law_X7_generator rfl rfl rfl (by decide +kernel) ⟨Nat.le_of_ble_eq_true rfl, Nat.le_of_ble_eq_true rfl⟩) (lw_pm hC hS hM hPm) rfl rfl hl.1 rfl (lv_room (Nat.le_of_ble_eq_true rfl)) dL_law_520 ⟨hcell, hslot⟩) hS hJ hM hPc hPo (fun r1 w1 H locs hq hPm hPc hPo hS => ?_)
  obtain ⟨g1, g2, hJJ⟩ := hq
  refine lv_istore (lv' := [(6, .int r1), (5, .int (nI n)), (0, .ref b), (1, .ref (ad 0)), (2, .ref (adm 0)), (3, .ref qo), (4, .int i)]) hx hb dL_law_523 hl (by decide) rfl (fun ls hl => ?_)
  refine lv_aload_n hx hb dL_law_525 rfl (lv_at hl 4 rfl) ?_
  refine lw_cm (va_runV (C := RX7) (As := []) (rest := []) ⟨hx, hb, hml, hown, hts⟩ (c_X7_thrown hM.1 H.size w1 (fun r2 w2 => r2 = w1 0 0 ∧ w2 = w1) ⟨rfl, rfl⟩) (cwV 0 hts gL_law_X7_thrown rfl rfl rfl (by decide +kernel) ⟨Nat.le_of_ble_eq_true rfl, Nat.le_of_ble_eq_true rfl⟩) (lw_pm hC hS hM hPm) rfl rfl hl.1 rfl (lv_room (Nat.le_of_ble_eq_true rfl)) dL_law_526 ⟨hcell, hslot⟩) hS hJ hM hPc hPo (fun r2 w2 H locs hq hPm hPc hPo hS => ?_)
  obtain ⟨e2, e3⟩ := hq
  rw [e3] at hPm
  rw [g1] at e2
  subst e2
  refine lv_iload hx hb dL_law_529 (lv_at hl 1 rfl) ?_
  refine lv_icmp_eq (tgt := 536) hx hb dL_law_531 (by decide) (fun _ => ?_) (fun c9 => absurd rfl c9)
  refine lv_iload hx hb dL_law_536 (lv_at hl 1 rfl) ?_
  refine lv_if_ne (tgt := 553) hx hb dL_law_538 (by decide) (fun c9 => ?_) (fun c9 => ?_)
  · refine lv_goto (tgt := 1226) hx hb dL_law_553 (by decide) ?_
    exact K _ _ _ ⟨L1, ad1, al1, u1, w1, o1, hal1, hJJ, hJ, hPc, hPm, hPo⟩ hS (lv_sub hl [2, 3, 4, 5, 6] rfl)
  have hn0 := nI_no0 hn2 c9
  refine lv_aload_n hx hb dL_law_541 rfl (lv_at hl 5 rfl) ?_
  refine lv_iconst (v := 0) hx hb dL_law_542 (by decide) ?_
  refine va_lald (cA := cJ) (n := 1) (f := o1) hx hb hK hPo 0 3 rfl rfl (show ¬ ((0 : Int32) < 0 ∨ 1 ≤ (0 : Int32).toNatClampNeg) by decide) dL_law_543 ?_
  refine W.eq (g2 := F0 m 544 ls [.long r.toInt64]) (by rw [← ho hn0]; rfl) ?_
  refine lv_iload hx hb dL_law_544 (lv_at hl 0 rfl) ?_
  refine lv_i2l (v := r1.toInt64) hx hb dL_law_546 rfl ?_
  refine W.lcmp hx hb dL_law_547 ?_
  refine lv_if_eq (tgt := 553) hx hb dL_law_548 (by decide) (fun _ => ?_) (fun c8 => absurd (by rw [g2 hn0]; exact lg_same _) c8)
  refine lv_goto (tgt := 1226) hx hb dL_law_553 (by decide) ?_
  exact K _ _ _ ⟨L1, ad1, al1, u1, w1, o1, hal1, hJJ, hJ, hPc, hPm, hPo⟩ hS (lv_sub hl [2, 3, 4, 5, 6] rfl)
set_option maxRecDepth 100000 in
set_option maxHeartbeats 4000000 in
theorem law_c6 {p : Program} {l : Launch} {e : Env} {s : State} {m : MethodId} {b Ls : Nat} {xs : Nat → Int32} {below : List Frame} {meth : Method} {c : Code} {D : va_G} {cI cG cZ cJ : ClassId} {ts : Nat × Nat} {x0 qo : Nat} {adm : Nat → Nat} (F : LF p l s m b Ls xs meth c D cI cG cZ cJ ts qo adm) {i : Int32} (hi1 : vp_in (i + 1) Ls) (hi2 : vp_in (i + 2) Ls) (hi3 : vp_in (i + 3) Ls) (hi4 : vp_in (i + 4) Ls) {cells slots : Nat} (hcell : cells + 8 ≤ 303322) (hslot : slots + 4000 ≤ 8186138) (K : LW p l e s m b below meth c D cI cG cZ cJ x0 qo adm i (cells + 8) (slots + 4000) 1226) : LW p l e s m b below meth c D cI cG cZ cJ x0 qo adm i cells slots 556 := by
  obtain ⟨C0, hflag, hC, hX, hN, hM⟩ := F
  obtain ⟨hx, hb, hr, hml, hown0, hts0, hXs, hbl, hlocks, -⟩ := C0
  have hown : s.vm.findClass RL = some m.cls := hown0
  have hts : ∀ w ∈ wsL_law, w.before #[Value.ref b] s = true := fun w h => hts0 w (wsL_law_in w h)
  have hK := hC.1
  have hbA : ¬ AL s b := Nat.not_le.mpr hbl
  intro H locs ls hst hS hl
  obtain ⟨L, ad, al, u, w, o, hal, hJJ, hJ, hPc, hPm, hPo⟩ := hst
  obtain ⟨hwd, hL, hLb, e0, hd⟩ := id hJ
  subst e0
  refine lv_aload_n hx hb dL_law_556 rfl (lv_at hl 1 rfl) ?_
  refine W.widen (k := cells + 8) (n := slots + 4000) (Nat.le_add_right _ _) (Nat.le_add_right _ _) ?_
  refine lw_cc (va_runV (C := RX6) (As := []) (rest := []) ⟨hx, hb, hml, hown, hts⟩ (c_X6_order hL hwd H.size u (fun r u1 => ∀ Q9 : Int32 → St → Prop, (∀ w9, JJ al u1 w9 → Q9 r w9) → f_X7_order w Q9) (x_order hJJ (fun r hk => hk))) (cwV 0 hts gL_law_X6_order rfl rfl rfl (by decide +kernel) ⟨Nat.le_of_ble_eq_true rfl, Nat.le_of_ble_eq_true rfl⟩) (lw_pc hC hS hJ hPc) rfl rfl hl.1 rfl (lv_room (Nat.le_of_ble_eq_true rfl)) dL_law_557 ⟨hcell, hslot⟩) hS hJ hM hPm hPo (fun r u1 H locs hk hPc hPm hPo hS => ?_)
  refine lv_aload_n hx hb dL_law_560 rfl (lv_at hl 2 rfl) ?_
  refine lw_cm (va_runV (C := RX7) (As := []) (rest := [.int r]) ⟨hx, hb, hml, hown, hts⟩ (c_X7_order hM.1 H.size w _ (hk (fun r9 w9 => r9 = r ∧ JJ al u1 w9) (fun w9 g => ⟨rfl, g⟩))) (cwV 0 hts gL_law_X7_order rfl rfl rfl (by decide +kernel) ⟨Nat.le_of_ble_eq_true rfl, Nat.le_of_ble_eq_true rfl⟩) (lw_pm hC hS hM hPm) rfl rfl hl.1 rfl (lv_room (Nat.le_of_ble_eq_true rfl)) dL_law_561 ⟨hcell, hslot⟩) hS hJ hM hPc hPo (fun r1 w1 H locs hq hPm hPc hPo hS => ?_)
  obtain ⟨rfl, hJJ⟩ := hq
  refine lv_icmp_eq (tgt := 1226) hx hb dL_law_564 (by decide) (fun _ => ?_) (fun c9 => absurd rfl c9)
  exact K _ _ _ ⟨L, ad, al, u1, w1, o, hal, hJJ, hJ, hPc, hPm, hPo⟩ hS (lv_sub hl [0, 1, 2, 3, 4] rfl)
set_option maxRecDepth 100000 in
set_option maxHeartbeats 4000000 in
theorem law_c7 {p : Program} {l : Launch} {e : Env} {s : State} {m : MethodId} {b Ls : Nat} {xs : Nat → Int32} {below : List Frame} {meth : Method} {c : Code} {D : va_G} {cI cG cZ cJ : ClassId} {ts : Nat × Nat} {x0 qo : Nat} {adm : Nat → Nat} (F : LF p l s m b Ls xs meth c D cI cG cZ cJ ts qo adm) {i : Int32} (hi1 : vp_in (i + 1) Ls) (hi2 : vp_in (i + 2) Ls) (hi3 : vp_in (i + 3) Ls) (hi4 : vp_in (i + 4) Ls) {cells slots : Nat} (hcell : cells + 8 ≤ 303322) (hslot : slots + 4000 ≤ 8186138) (K : LW p l e s m b below meth c D cI cG cZ cJ x0 qo adm i (cells + 8) (slots + 4000) 1226) : LW p l e s m b below meth c D cI cG cZ cJ x0 qo adm i cells slots 569 := by
  obtain ⟨C0, hflag, hC, hX, hN, hM⟩ := F
  obtain ⟨hx, hb, hr, hml, hown0, hts0, hXs, hbl, hlocks, -⟩ := C0
  have hown : s.vm.findClass RL = some m.cls := hown0
  have hts : ∀ w ∈ wsL_law, w.before #[Value.ref b] s = true := fun w h => hts0 w (wsL_law_in w h)
  have hK := hC.1
  have hbA : ¬ AL s b := Nat.not_le.mpr hbl
  intro H locs ls hst hS hl
  obtain ⟨L, ad, al, u, w, o, hal, hJJ, hJ, hPc, hPm, hPo⟩ := hst
  obtain ⟨hwd, hL, hLb, e0, hd⟩ := id hJ
  subst e0
  refine lv_aload_n hx hb dL_law_569 rfl (lv_at hl 1 rfl) ?_
  refine lv_aload_n hx hb dL_law_570 rfl (lv_at hl 0 rfl) ?_
  refine lv_iload hx hb dL_law_571 (lv_at hl 4 rfl) ?_
  refine lv_iconst (v := 1) hx hb dL_law_573 (by decide) ?_
  refine lv_iadd hx hb dL_law_574 ?_
  refine va_sld hx hb hXs hbl hbA hS hi1 dL_law_575 ?_
  refine lv_aload_n hx hb dL_law_576 rfl (lv_at hl 0 rfl) ?_
  refine lv_iload hx hb dL_law_577 (lv_at hl 4 rfl) ?_
  refine lv_iconst (v := 2) hx hb dL_law_579 (by decide) ?_
  refine lv_iadd hx hb dL_law_580 ?_
  refine va_sld hx hb hXs hbl hbA hS hi2 dL_law_581 ?_
  refine lv_aload_n hx hb dL_law_582 rfl (lv_at hl 3 rfl) ?_
  refine lw_cw (Rr := RM (f_X7_changed (xs (i + 1).toNatClampNeg) (xs (i + 2).toNatClampNeg) w)) (vx_runSW (As := [.ref (ad 0), .int (xs (i + 1).toNatClampNeg), .int (xs (i + 2).toNatClampNeg), .ref qo]) (rest := []) ⟨hx, hb, hml, hown, hts⟩ (c_L_changed hflag hL hLb hwd qo H.size (fun k hk => (hd k hk).2.1) u o (xs (i + 1).toNatClampNeg) (xs (i + 2).toNatClampNeg) (RM (f_X7_changed (xs (i + 1).toNatClampNeg) (xs (i + 2).toNatClampNeg) w)) (x_changed hJJ (fun r u9 hk => rm_0 hal hk) (fun u9 hk => ⟨rfl, rm_1 hal hk⟩))) (vx_cwSW 4 hts gL_law_L_changed rfl rfl rfl (by decide +kernel) ⟨Nat.le_of_ble_eq_true rfl, Nat.le_of_ble_eq_true rfl⟩) (lw_pw hC hX hN hS hJ hM hPc hPo) rfl rfl hl.1 rfl (lv_room (Nat.le_of_ble_eq_true rfl)) dL_law_583 ⟨Nat.le_trans (Nat.add_le_add_left (by decide : 2 ≤ 8) cells) hcell, Nat.le_trans (Nat.add_le_add_left (Nat.le_of_ble_eq_true rfl : 12 ≤ 4000) slots) hslot⟩) hS hJ hM hPo hPm (fun k L1 ad1 al1 u1 o1 H locs hJ hR hPc hPo hPm hS => ?_)
  refine W.widen (k := cells + 8) (n := slots + 4000) (Nat.add_le_add_left (by decide) _) (Nat.add_le_add_left (Nat.le_of_ble_eq_true rfl) _) ?_
  obtain ⟨hal1, n, r, rfl, hn2, ho, hk⟩ := hR
  refine lv_istore (lv' := [(5, .int (nI n)), (0, .ref b), (1, .ref (ad 0)), (2, .ref (adm 0)), (3, .ref qo), (4, .int i)]) hx hb dL_law_586 hl (by decide) rfl (fun ls hl => ?_)
  refine lv_aload_n hx hb dL_law_588 rfl (lv_at hl 3 rfl) ?_
  refine lv_aload_n hx hb dL_law_589 rfl (lv_at hl 1 rfl) ?_
  refine lv_iload hx hb dL_law_590 (lv_at hl 5 rfl) ?_
  refine lv_iconst (v := 1) hx hb dL_law_592 (by decide) ?_
  refine lv_iadd hx hb dL_law_593 ?_
  refine va_sld hx hb hXs hbl hbA hS hi1 dL_law_594 ?_
  refine lv_aload_n hx hb dL_law_595 rfl (lv_at hl 1 rfl) ?_
  refine lv_iload hx hb dL_law_596 (lv_at hl 5 rfl) ?_
  refine lv_iconst (v := 2) hx hb dL_law_598 (by decide) ?_
  refine lv_iadd hx hb dL_law_599 ?_
  refine va_sld hx hb hXs hbl hbA hS hi2 dL_law_600 ?_
  refine lw_cm (va_runV (C := RX7) (As := [.int (xs (i + 1).toNatClampNeg), .int (xs (i + 2).toNatClampNeg)]) (rest := []) ⟨hx, hb, hml, hown, hts⟩ (c_X7_changed hM.1 H.size w (xs (i + 1).toNatClampNeg) (xs (i + 2).toNatClampNeg) _ (hk (fun r9 w9 => w9 0 0 = nI n ∧ (n = 0 → r9 = r) ∧ JJ al1 u1 w9) (fun r9 w9 g1 g2 g3 => ⟨g1, g2, g3⟩))) (cwV 2 hts gL_law_X7_changed rfl rfl rfl (by decide +kernel) ⟨Nat.le_of_ble_eq_true rfl, Nat.le_of_ble_eq_true rfl⟩) (lw_pm hC hS hM hPm) rfl rfl hl.1 rfl (lv_room (Nat.le_of_ble_eq_true rfl)) dL_law_601 ⟨hcell, hslot⟩) hS hJ hM hPc hPo (fun r1 w1 H locs hq hPm hPc hPo hS => ?_)
  obtain ⟨g1, g2, hJJ⟩ := hq
  refine lv_istore (lv' := [(6, .int r1), (5, .int (nI n)), (0, .ref b), (1, .ref (ad 0)), (2, .ref (adm 0)), (3, .ref qo), (4, .int i)]) hx hb dL_law_604 hl (by decide) rfl (fun ls hl => ?_)
  refine lv_aload_n hx hb dL_law_606 rfl (lv_at hl 4 rfl) ?_
  refine lw_cm (va_runV (C := RX7) (As := []) (rest := []) ⟨hx, hb, hml, hown, hts⟩ (c_X7_thrown hM.1 H.size w1 (fun r2 w2 => r2 = w1 0 0 ∧ w2 = w1) ⟨rfl, rfl⟩) (cwV 0 hts gL_law_X7_thrown rfl rfl rfl (by decide +kernel) ⟨Nat.le_of_ble_eq_true rfl, Nat.le_of_ble_eq_true rfl⟩) (lw_pm hC hS hM hPm) rfl rfl hl.1 rfl (lv_room (Nat.le_of_ble_eq_true rfl)) dL_law_607 ⟨hcell, hslot⟩) hS hJ hM hPc hPo (fun r2 w2 H locs hq hPm hPc hPo hS => ?_)
  obtain ⟨e2, e3⟩ := hq
  rw [e3] at hPm
  rw [g1] at e2
  subst e2
  refine lv_iload hx hb dL_law_610 (lv_at hl 1 rfl) ?_
  refine lv_icmp_eq (tgt := 617) hx hb dL_law_612 (by decide) (fun _ => ?_) (fun c9 => absurd rfl c9)
  refine lv_iload hx hb dL_law_617 (lv_at hl 1 rfl) ?_
  refine lv_if_ne (tgt := 634) hx hb dL_law_619 (by decide) (fun c9 => ?_) (fun c9 => ?_)
  · refine lv_goto (tgt := 1226) hx hb dL_law_634 (by decide) ?_
    exact K _ _ _ ⟨L1, ad1, al1, u1, w1, o1, hal1, hJJ, hJ, hPc, hPm, hPo⟩ hS (lv_sub hl [2, 3, 4, 5, 6] rfl)
  have hn0 := nI_no0 hn2 c9
  refine lv_aload_n hx hb dL_law_622 rfl (lv_at hl 5 rfl) ?_
  refine lv_iconst (v := 0) hx hb dL_law_623 (by decide) ?_
  refine va_lald (cA := cJ) (n := 1) (f := o1) hx hb hK hPo 0 3 rfl rfl (show ¬ ((0 : Int32) < 0 ∨ 1 ≤ (0 : Int32).toNatClampNeg) by decide) dL_law_624 ?_
  refine W.eq (g2 := F0 m 625 ls [.long r.toInt64]) (by rw [← ho hn0]; rfl) ?_
  refine lv_iload hx hb dL_law_625 (lv_at hl 0 rfl) ?_
  refine lv_i2l (v := r1.toInt64) hx hb dL_law_627 rfl ?_
  refine W.lcmp hx hb dL_law_628 ?_
  refine lv_if_eq (tgt := 634) hx hb dL_law_629 (by decide) (fun _ => ?_) (fun c8 => absurd (by rw [g2 hn0]; exact lg_same _) c8)
  refine lv_goto (tgt := 1226) hx hb dL_law_634 (by decide) ?_
  exact K _ _ _ ⟨L1, ad1, al1, u1, w1, o1, hal1, hJJ, hJ, hPc, hPm, hPo⟩ hS (lv_sub hl [2, 3, 4, 5, 6] rfl)
set_option maxRecDepth 100000 in
set_option maxHeartbeats 4000000 in
theorem law_c8 {p : Program} {l : Launch} {e : Env} {s : State} {m : MethodId} {b Ls : Nat} {xs : Nat → Int32} {below : List Frame} {meth : Method} {c : Code} {D : va_G} {cI cG cZ cJ : ClassId} {ts : Nat × Nat} {x0 qo : Nat} {adm : Nat → Nat} (F : LF p l s m b Ls xs meth c D cI cG cZ cJ ts qo adm) {i : Int32} (hi1 : vp_in (i + 1) Ls) (hi2 : vp_in (i + 2) Ls) (hi3 : vp_in (i + 3) Ls) (hi4 : vp_in (i + 4) Ls) {cells slots : Nat} (hcell : cells + 8 ≤ 303322) (hslot : slots + 4000 ≤ 8186138) (K : LW p l e s m b below meth c D cI cG cZ cJ x0 qo adm i (cells + 8) (slots + 4000) 1226) : LW p l e s m b below meth c D cI cG cZ cJ x0 qo adm i cells slots 637 := by
  obtain ⟨C0, hflag, hC, hX, hN, hM⟩ := F
  obtain ⟨hx, hb, hr, hml, hown0, hts0, hXs, hbl, hlocks, -⟩ := C0
  have hown : s.vm.findClass RL = some m.cls := hown0
  have hts : ∀ w ∈ wsL_law, w.before #[Value.ref b] s = true := fun w h => hts0 w (wsL_law_in w h)
  have hK := hC.1
  have hbA : ¬ AL s b := Nat.not_le.mpr hbl
  intro H locs ls hst hS hl
  obtain ⟨L, ad, al, u, w, o, hal, hJJ, hJ, hPc, hPm, hPo⟩ := hst
  obtain ⟨hwd, hL, hLb, e0, hd⟩ := id hJ
  subst e0
  refine lv_aload_n hx hb dL_law_637 rfl (lv_at hl 1 rfl) ?_
  refine lv_aload_n hx hb dL_law_638 rfl (lv_at hl 0 rfl) ?_
  refine lv_iload hx hb dL_law_639 (lv_at hl 4 rfl) ?_
  refine lv_iconst (v := 1) hx hb dL_law_641 (by decide) ?_
  refine lv_iadd hx hb dL_law_642 ?_
  refine va_sld hx hb hXs hbl hbA hS hi1 dL_law_643 ?_
  refine lv_aload_n hx hb dL_law_644 rfl (lv_at hl 3 rfl) ?_
  refine lw_cw (Rr := RM (f_X7_average (xs (i + 1).toNatClampNeg) w)) (vx_runSW (As := [.ref (ad 0), .int (xs (i + 1).toNatClampNeg), .ref qo]) (rest := []) ⟨hx, hb, hml, hown, hts⟩ (c_L_average hflag hL hLb hwd qo H.size (fun k hk => (hd k hk).2.1) u o (xs (i + 1).toNatClampNeg) (RM (f_X7_average (xs (i + 1).toNatClampNeg) w)) (x_average hJJ (fun r u9 hk => rm_0 hal hk) (fun u9 hk => ⟨rfl, rm_1 hal hk⟩))) (vx_cwSW 3 hts gL_law_L_average rfl rfl rfl (by decide +kernel) ⟨Nat.le_of_ble_eq_true rfl, Nat.le_of_ble_eq_true rfl⟩) (lw_pw hC hX hN hS hJ hM hPc hPo) rfl rfl hl.1 rfl (lv_room (Nat.le_of_ble_eq_true rfl)) dL_law_645 ⟨Nat.le_trans (Nat.add_le_add_left (by decide : 1 ≤ 8) cells) hcell, Nat.le_trans (Nat.add_le_add_left (Nat.le_of_ble_eq_true rfl : 6 ≤ 4000) slots) hslot⟩) hS hJ hM hPo hPm (fun k L1 ad1 al1 u1 o1 H locs hJ hR hPc hPo hPm hS => ?_)
  refine W.widen (k := cells + 8) (n := slots + 4000) (Nat.add_le_add_left (by decide) _) (Nat.add_le_add_left (Nat.le_of_ble_eq_true rfl) _) ?_
  obtain ⟨hal1, n, r, rfl, hn2, ho, hk⟩ := hR
  refine lv_istore (lv' := [(5, .int (nI n)), (0, .ref b), (1, .ref (ad 0)), (2, .ref (adm 0)), (3, .ref qo), (4, .int i)]) hx hb dL_law_648 hl (by decide) rfl (fun ls hl => ?_)
  refine lv_aload_n hx hb dL_law_650 rfl (lv_at hl 3 rfl) ?_
  refine lv_aload_n hx hb dL_law_651 rfl (lv_at hl 1 rfl) ?_
  refine lv_iload hx hb dL_law_652 (lv_at hl 5 rfl) ?_
  refine lv_iconst (v := 1) hx hb dL_law_654 (by decide) ?_
  refine lv_iadd hx hb dL_law_655 ?_
  refine va_sld hx hb hXs hbl hbA hS hi1 dL_law_656 ?_
  refine lw_cm (va_runV (C := RX7) (As := [.int (xs (i + 1).toNatClampNeg)]) (rest := []) ⟨hx, hb, hml, hown, hts⟩ (c_X7_average hM.1 H.size w (xs (i + 1).toNatClampNeg) _ (hk (fun r9 w9 => w9 0 0 = nI n ∧ (n = 0 → r9 = r) ∧ JJ al1 u1 w9) (fun r9 w9 g1 g2 g3 => ⟨g1, g2, g3⟩))) (cwV 1 hts gL_law_X7_average rfl rfl rfl (by decide +kernel) ⟨Nat.le_of_ble_eq_true rfl, Nat.le_of_ble_eq_true rfl⟩) (lw_pm hC hS hM hPm) rfl rfl hl.1 rfl (lv_room (Nat.le_of_ble_eq_true rfl)) dL_law_657 ⟨hcell, hslot⟩) hS hJ hM hPc hPo (fun r1 w1 H locs hq hPm hPc hPo hS => ?_)
  obtain ⟨g1, g2, hJJ⟩ := hq
  refine lv_istore (lv' := [(6, .int r1), (5, .int (nI n)), (0, .ref b), (1, .ref (ad 0)), (2, .ref (adm 0)), (3, .ref qo), (4, .int i)]) hx hb dL_law_660 hl (by decide) rfl (fun ls hl => ?_)
  refine lv_aload_n hx hb dL_law_662 rfl (lv_at hl 4 rfl) ?_
  refine lw_cm (va_runV (C := RX7) (As := []) (rest := []) ⟨hx, hb, hml, hown, hts⟩ (c_X7_thrown hM.1 H.size w1 (fun r2 w2 => r2 = w1 0 0 ∧ w2 = w1) ⟨rfl, rfl⟩) (cwV 0 hts gL_law_X7_thrown rfl rfl rfl (by decide +kernel) ⟨Nat.le_of_ble_eq_true rfl, Nat.le_of_ble_eq_true rfl⟩) (lw_pm hC hS hM hPm) rfl rfl hl.1 rfl (lv_room (Nat.le_of_ble_eq_true rfl)) dL_law_663 ⟨hcell, hslot⟩) hS hJ hM hPc hPo (fun r2 w2 H locs hq hPm hPc hPo hS => ?_)
  obtain ⟨e2, e3⟩ := hq
  rw [e3] at hPm
  rw [g1] at e2
  subst e2
  refine lv_iload hx hb dL_law_666 (lv_at hl 1 rfl) ?_
  refine lv_icmp_eq (tgt := 673) hx hb dL_law_668 (by decide) (fun _ => ?_) (fun c9 => absurd rfl c9)
  refine lv_iload hx hb dL_law_673 (lv_at hl 1 rfl) ?_
  refine lv_if_ne (tgt := 690) hx hb dL_law_675 (by decide) (fun c9 => ?_) (fun c9 => ?_)
  · refine lv_goto (tgt := 1226) hx hb dL_law_690 (by decide) ?_
    exact K _ _ _ ⟨L1, ad1, al1, u1, w1, o1, hal1, hJJ, hJ, hPc, hPm, hPo⟩ hS (lv_sub hl [2, 3, 4, 5, 6] rfl)
  have hn0 := nI_no0 hn2 c9
  refine lv_aload_n hx hb dL_law_678 rfl (lv_at hl 5 rfl) ?_
  refine lv_iconst (v := 0) hx hb dL_law_679 (by decide) ?_
  refine va_lald (cA := cJ) (n := 1) (f := o1) hx hb hK hPo 0 3 rfl rfl (show ¬ ((0 : Int32) < 0 ∨ 1 ≤ (0 : Int32).toNatClampNeg) by decide) dL_law_680 ?_
  refine W.eq (g2 := F0 m 681 ls [.long r.toInt64]) (by rw [← ho hn0]; rfl) ?_
  refine lv_iload hx hb dL_law_681 (lv_at hl 0 rfl) ?_
  refine lv_i2l (v := r1.toInt64) hx hb dL_law_683 rfl ?_
  refine W.lcmp hx hb dL_law_684 ?_
  refine lv_if_eq (tgt := 690) hx hb dL_law_685 (by decide) (fun _ => ?_) (fun c8 => absurd (by rw [g2 hn0]; exact lg_same _) c8)
  refine lv_goto (tgt := 1226) hx hb dL_law_690 (by decide) ?_
  exact K _ _ _ ⟨L1, ad1, al1, u1, w1, o1, hal1, hJJ, hJ, hPc, hPm, hPo⟩ hS (lv_sub hl [2, 3, 4, 5, 6] rfl)
