set_option maxRecDepth 100000 in
set_option maxHeartbeats 4000000 in
theorem law_body {p : Program} {l : Launch} {e : Env} {s : State} {m : MethodId} {b Ls : Nat} {xs : Nat → Int32} {below : List Frame} {meth : Method} {c : Code} {D : va_G} {cI cG cZ cJ : ClassId} {ts : Nat × Nat} {x0 qo : Nat} {adm : Nat → Nat} (F : LF p l s m b Ls xs meth c D cI cG cZ cJ ts qo adm) {i : Int32} (hi0 : vp_in i Ls) (hi1 : vp_in (i + 1) Ls) (hi2 : vp_in (i + 2) Ls) (hi3 : vp_in (i + 3) Ls) (hi4 : vp_in (i + 4) Ls) {cells slots : Nat} (hcell : cells + 8 ≤ 303322) (hslot : slots + 4000 ≤ 8186138) (K : LW p l e s m b below meth c D cI cG cZ cJ x0 qo adm i (cells + 8) (slots + 4000) 1226) : LW p l e s m b below meth c D cI cG cZ cJ x0 qo adm i cells slots 32 := by
  have F0' := F
  obtain ⟨C0, hflag, hC, hX, hN, hM⟩ := F
  obtain ⟨hx, hb, hr, hml, hown0, hts0, hXs, hbl, hlocks, -⟩ := C0
  have hown : s.vm.findClass RL = some m.cls := hown0
  have hts : ∀ w ∈ wsL_law, w.before #[Value.ref b] s = true := fun w h => hts0 w (wsL_law_in w h)
  have hK := hC.1
  have hbA : ¬ AL s b := Nat.not_le.mpr hbl
  intro H locs ls hst hS hl
  refine lv_aload_n hx hb dL_law_32 rfl (lv_at hl 0 rfl) ?_
  refine lv_iload hx hb dL_law_33 (lv_at hl 4 rfl) ?_
  refine va_sld hx hb hXs hbl hbA hS hi0 dL_law_35 ?_
  refine lv_bipush (v := 31) hx hb dL_law_36 (by decide) ?_
  refine lv_iand hx hb dL_law_38 ?_
  refine lv_topi (fun v ev => ?_)
  by_cases q0 : v = 0
  · refine lv_tableIn (off := 85) (tgt := 124) hx hb dL_law_39 (by rw [q0]; decide) (by rw [q0]; decide) (by rw [q0]; rfl) (by decide) ?_
    exact law_c0 F0' hi1 hi2 hi3 hi4 hcell hslot K _ _ _ hst hS hl
  by_cases q1 : v = 1
  · refine lv_tableIn (off := 141) (tgt := 180) hx hb dL_law_39 (by rw [q1]; decide) (by rw [q1]; decide) (by rw [q1]; rfl) (by decide) ?_
    exact law_c1 F0' hi1 hi2 hi3 hi4 hcell hslot K _ _ _ hst hS hl
  by_cases q2 : v = 2
  · refine lv_tableIn (off := 209) (tgt := 248) hx hb dL_law_39 (by rw [q2]; decide) (by rw [q2]; decide) (by rw [q2]; rfl) (by decide) ?_
    exact law_c2 F0' hi1 hi2 hi3 hi4 hcell hslot K _ _ _ hst hS hl
  by_cases q3 : v = 3
  · refine lv_tableIn (off := 277) (tgt := 316) hx hb dL_law_39 (by rw [q3]; decide) (by rw [q3]; decide) (by rw [q3]; rfl) (by decide) ?_
    exact law_c3 F0' hi1 hi2 hi3 hi4 hcell hslot K _ _ _ hst hS hl
  by_cases q4 : v = 4
  · refine lv_tableIn (off := 357) (tgt := 396) hx hb dL_law_39 (by rw [q4]; decide) (by rw [q4]; decide) (by rw [q4]; rfl) (by decide) ?_
    exact law_c4 F0' hi1 hi2 hi3 hi4 hcell hslot K _ _ _ hst hS hl
  by_cases q5 : v = 5
  · refine lv_tableIn (off := 425) (tgt := 464) hx hb dL_law_39 (by rw [q5]; decide) (by rw [q5]; decide) (by rw [q5]; rfl) (by decide) ?_
    exact law_c5 F0' hi1 hi2 hi3 hi4 hcell hslot K _ _ _ hst hS hl
  by_cases q6 : v = 6
  · refine lv_tableIn (off := 517) (tgt := 556) hx hb dL_law_39 (by rw [q6]; decide) (by rw [q6]; decide) (by rw [q6]; rfl) (by decide) ?_
    exact law_c6 F0' hi1 hi2 hi3 hi4 hcell hslot K _ _ _ hst hS hl
  by_cases q7 : v = 7
  · refine lv_tableIn (off := 530) (tgt := 569) hx hb dL_law_39 (by rw [q7]; decide) (by rw [q7]; decide) (by rw [q7]; rfl) (by decide) ?_
    exact law_c7 F0' hi1 hi2 hi3 hi4 hcell hslot K _ _ _ hst hS hl
  by_cases q8 : v = 8
  · refine lv_tableIn (off := 598) (tgt := 637) hx hb dL_law_39 (by rw [q8]; decide) (by rw [q8]; decide) (by rw [q8]; rfl) (by decide) ?_
    exact law_c8 F0' hi1 hi2 hi3 hi4 hcell hslot K _ _ _ hst hS hl
  by_cases q9 : v = 9
  · refine lv_tableIn (off := 654) (tgt := 693) hx hb dL_law_39 (by rw [q9]; decide) (by rw [q9]; decide) (by rw [q9]; rfl) (by decide) ?_
    exact law_c9 F0' hi1 hi2 hi3 hi4 hcell hslot K _ _ _ hst hS hl
  by_cases q10 : v = 10
  · refine lv_tableIn (off := 710) (tgt := 749) hx hb dL_law_39 (by rw [q10]; decide) (by rw [q10]; decide) (by rw [q10]; rfl) (by decide) ?_
    exact law_c10 F0' hi1 hi2 hi3 hi4 hcell hslot K _ _ _ hst hS hl
  by_cases q11 : v = 11
  · refine lv_tableIn (off := 766) (tgt := 805) hx hb dL_law_39 (by rw [q11]; decide) (by rw [q11]; decide) (by rw [q11]; rfl) (by decide) ?_
    exact law_c11 F0' hi1 hi2 hi3 hi4 hcell hslot K _ _ _ hst hS hl
  by_cases q12 : v = 12
  · refine lv_tableIn (off := 846) (tgt := 885) hx hb dL_law_39 (by rw [q12]; decide) (by rw [q12]; decide) (by rw [q12]; rfl) (by decide) ?_
    exact law_c12 F0' hi1 hi2 hi3 hi4 hcell hslot K _ _ _ hst hS hl
  by_cases q13 : v = 13
  · refine lv_tableIn (off := 914) (tgt := 953) hx hb dL_law_39 (by rw [q13]; decide) (by rw [q13]; decide) (by rw [q13]; rfl) (by decide) ?_
    exact law_c13 F0' hi1 hi2 hi3 hi4 hcell hslot K _ _ _ hst hS hl
  by_cases q14 : v = 14
  · refine lv_tableIn (off := 927) (tgt := 966) hx hb dL_law_39 (by rw [q14]; decide) (by rw [q14]; decide) (by rw [q14]; rfl) (by decide) ?_
    exact law_c14 F0' hi1 hi2 hi3 hi4 hcell hslot K _ _ _ hst hS hl
  by_cases q15 : v = 15
  · refine lv_tableIn (off := 995) (tgt := 1034) hx hb dL_law_39 (by rw [q15]; decide) (by rw [q15]; decide) (by rw [q15]; rfl) (by decide) ?_
    exact law_c15 F0' hi1 hi2 hi3 hi4 hcell hslot K _ _ _ hst hS hl
  by_cases q16 : v = 16
  · refine lv_tableIn (off := 1075) (tgt := 1114) hx hb dL_law_39 (by rw [q16]; decide) (by rw [q16]; decide) (by rw [q16]; rfl) (by decide) ?_
    exact law_c16 F0' hi1 hi2 hi3 hi4 hcell hslot K _ _ _ hst hS hl
  by_cases q17 : v = 17
  · refine lv_tableIn (off := 1131) (tgt := 1170) hx hb dL_law_39 (by rw [q17]; decide) (by rw [q17]; decide) (by rw [q17]; rfl) (by decide) ?_
    exact law_c17 F0' hi1 hi2 hi3 hi4 hcell hslot K _ _ _ hst hS hl
  refine lv_tableOut (tgt := 1226) hx hb dL_law_39 (by have z0 := lv_neT (a := 0) q0 rfl; have z1 := lv_neT (a := 1) q1 rfl; have z2 := lv_neT (a := 2) q2 rfl; have z3 := lv_neT (a := 3) q3 rfl; have z4 := lv_neT (a := 4) q4 rfl; have z5 := lv_neT (a := 5) q5 rfl; have z6 := lv_neT (a := 6) q6 rfl; have z7 := lv_neT (a := 7) q7 rfl; have z8 := lv_neT (a := 8) q8 rfl; have z9 := lv_neT (a := 9) q9 rfl; have z10 := lv_neT (a := 10) q10 rfl; have z11 := lv_neT (a := 11) q11 rfl; have z12 := lv_neT (a := 12) q12 rfl; have z13 := lv_neT (a := 13) q13 rfl; have z14 := lv_neT (a := 14) q14 rfl; have z15 := lv_neT (a := 15) q15 rfl; have z16 := lv_neT (a := 16) q16 rfl; have z17 := lv_neT (a := 17) q17 rfl; omega) (by decide) ?_
  refine W.widen (k := cells + 8) (n := slots + 4000) (Nat.le_add_right _ _) (Nat.le_add_right _ _) ?_
  exact K _ _ _ hst hS hl
set_option maxRecDepth 100000 in
set_option maxHeartbeats 4000000 in
theorem law_loop {p : Program} {l : Launch} {e : Env} {s : State} {m : MethodId} {b Ls : Nat} {xs : Nat → Int32} {below : List Frame} {meth : Method} {c : Code} {D : va_G} {cI cG cZ cJ : ClassId} {ts : Nat × Nat} {x0 qo : Nat} {adm : Nat → Nat} (F : LF p l s m b Ls xs meth c D cI cG cZ cJ ts qo adm) (hLs : Ls ≤ 2560) : ∀ (n k : Nat), Ls + 1 ≤ n + 5 * k → 5 * k ≤ Ls → LW p l e s m b below meth c D cI cG cZ cJ x0 qo adm (nI (5 * k)) (100 + 8 * k) (30000 + 4000 * k) 23 := by
  intro n
  induction n with
  | zero => intro k h1 h2; omega
  | succ n ih =>
    intro k h1 h2
    have F0' := F
    obtain ⟨C0, hflag, hC, hX, hN, hM⟩ := F
    obtain ⟨hx, hb, hr, hml, hown0, hts0, hXs, hbl, hlocks, -⟩ := C0
    have hown : s.vm.findClass RL = some m.cls := hown0
    have hts : ∀ w ∈ wsL_law, w.before #[Value.ref b] s = true := fun w h => hts0 w (wsL_law_in w h)
    have hK := hC.1
    have hbA : ¬ AL s b := Nat.not_le.mpr hbl
    intro H locs ls hst hS hl
    refine lv_iload hx hb dL_law_23 (lv_at hl 4 rfl) ?_
    refine lv_aload_n hx hb dL_law_25 rfl (lv_at hl 0 rfl) ?_
    refine va_slen hx hb hXs hbl hbA hS dL_law_26 ?_
    refine lv_iconst (v := 5) hx hb dL_law_27 (by decide) ?_
    refine lv_isub hx hb dL_law_28 ?_
    have hcmp : (Int32.ofNat Ls - 5 < nI (5 * k)) ↔ Ls < 5 * k + 5 := by
      have e1 : Int32.ofNat Ls - 5 = iI ((Ls : Int) - 5) := by
        rw [← iI_sub]
        show nI Ls - iI 5 = _
        rw [iI_n]
      rw [e1, iI_n, iI_lt (by omega) (by omega) (by omega) (by omega)]
      omega
    refine lv_icmp_gt (tgt := 1232) hx hb dL_law_29 (by decide) (fun c9 => ?_) (fun c9 => ?_)
    · refine lv_iconst (v := 1) hx hb dL_law_1232 (by decide) ?_
      refine va_forget hS.2.2 ?_
      refine W.widen (k := 303322) (n := 8186138) (by omega) (by omega) ?_
      exact lw_ret hx hb hr hlocks dL_law_1233
    · have h5 : 5 * k + 5 ≤ Ls := Nat.not_lt.mp (fun g => c9 (hcmp.mpr g))
      have hin : ∀ j : Nat, j ≤ 4 → vp_in (nI (5 * k + j)) Ls := fun j hj => vp_in_nI (by omega) (by omega)
      have eadd : ∀ j : Nat, nI (5 * k) + nI j = nI (5 * k + j) := fun j => by rw [iI_n, iI_n, iI_n, iI_add]; rfl
      refine law_body F0' (i := nI (5 * k)) (hin 0 (by omega)) (by rw [show (1 : Int32) = nI 1 from rfl, eadd]; exact hin 1 (by omega)) (by rw [show (2 : Int32) = nI 2 from rfl, eadd]; exact hin 2 (by omega)) (by rw [show (3 : Int32) = nI 3 from rfl, eadd]; exact hin 3 (by omega)) (by rw [show (4 : Int32) = nI 4 from rfl, eadd]; exact hin 4 (by omega)) (cells := 100 + 8 * k) (slots := 30000 + 4000 * k) (by omega) (by omega) ?_ _ _ _ hst hS hl
      intro H locs ls hst hS hl
      have e5 : nI (5 * (k + 1)) = nI (5 * k) + 5 := by rw [show (5 : Int32) = nI 5 from rfl, eadd]; rfl
      refine lv_iinc (v := nI (5 * (k + 1))) (lv' := [(4, .int (nI (5 * (k + 1)))), (0, .ref b), (1, .ref x0), (2, .ref (adm 0)), (3, .ref qo)]) hx hb dL_law_1226 hl (k := 4) rfl (by rw [e5]; rfl) (by decide) rfl (fun ls hl => ?_)
      refine lv_goto (tgt := 23) hx hb dL_law_1229 (by decide) ?_
      refine W.widen (k := 100 + 8 * (k + 1)) (n := 30000 + 4000 * (k + 1)) (by omega) (by omega) ?_
      exact ih (k + 1) (by omega) (by omega) _ _ _ hst hS (lv_sub hl [1, 2, 3, 4, 0] rfl)
