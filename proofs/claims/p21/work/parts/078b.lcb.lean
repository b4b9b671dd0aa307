set_option maxRecDepth 100000 in
set_option maxHeartbeats 8000000 in
theorem w_L_law_B546 {p : Program} {l : Launch} {e : Env} {s : State} {m : MethodId} {b : Nat} {below : List Frame} {meth : Method} {c : Code} {D : va_G} {cI cG cZ cJ : ClassId} {ts : Nat × Nat} {L : List Nat} {ad : Nat → Nat} {al : Nat} (hflag : l.stackTraces = false) (hX : XW s) (hN : NCW s) {cells slots : Nat} (hcell : cells + 60 ≤ 600104) (hslot : slots + 6000 ≤ 7301314) (K : Nat → Int32 → Int32 → Int32 → Int32 → Int32 → Int32 → St → Prop) {a8 a9 : Int32} (hK : ∀ (L : List Nat) (ad : Nat → Nat) (al : Nat) (b2 b3 b4 b5 b6 b7 : Int32) (u : St) (H : Heap) (locs : List Loc) (ls : Array Slot), FX RL wsL_law cL_law 18 (some .boolean) D cI cG cZ cJ ts L ad p s m #[Value.ref b] meth c → Lf L al → Lb L al → cA L ad s.heap.size = AL s → K al b2 b3 b4 b5 b6 b7 u → va_P D vwCl (cW cI cG L ad al u) H → va_S (cA L ad s.heap.size) s.heap H locs → lv_has ls 18 [(0, .ref b), (1, .ref (ad 0)), (2, .int b2), (3, .int b3), (4, .int b4), (5, .int b5), (6, .int b6), (7, .int b7), (8, .int a8), (9, .int a9)] → W p l e room_1 s m #[Value.ref b] below meth c H locs (cells + 60) (slots + 6000) (lw_Z below #[Value.ref b] s) (F0 m 1268 ls []))
    (hL : Lf L al) (hLb : Lb L al) (hA9 : cA L ad s.heap.size = AL s) (X : FX RL wsL_law cL_law 18 (some .boolean) D cI cG cZ cJ ts L ad p s m #[Value.ref b] meth c) (a2 : Int32) (a3 : Int32) (a4 : Int32) (a5 : Int32) (a6 : Int32) (a7 : Int32) (a11 : Int32) (a13 : Int32) (u : St) (H : Heap) (locs : List Loc) (ls : Array Slot) (h : f_L_law_B546 al a2 a3 a4 a5 a6 a7 a8 a9 a11 a13 K u) (hP : va_P D vwCl (cW cI cG L ad al u) H) (hS : va_S (cA L ad s.heap.size) s.heap H locs) (hl : lv_has ls 18 [(0, .ref b), (1, .ref (ad 0)), (2, .int a2), (3, .int a3), (4, .int a4), (5, .int a5), (6, .int a6), (7, .int a7), (8, .int a8), (9, .int a9), (11, .int a11), (13, .int a13)]) : W p l e room_1 s m #[Value.ref b] below meth c H locs (cells + 0) (slots + 0) (lw_Z below #[Value.ref b] s) (F0 m 546 ls []) := by
  obtain ⟨hx, hb, hml, hown, hts, hr, hlocks, hwd, hC⟩ := id X
  have hK0 := hC.1
  have m0 : 0 ∈ L := hL 0 (by omega)
  obtain ⟨i0, hi0⟩ := wL_ix m0
  unfold f_L_law_B546 at h
  refine lv_iload hx hb dL_law_546 (lv_at hl 10 rfl) ?_
  refine lv_bipush (v := 11) hx hb dL_law_548 (by decide) ?_
  refine lv_ishr hx hb dL_law_550 ?_
  refine lv_iload hx hb dL_law_551 (lv_at hl 4 rfl) ?_
  refine lv_irem hx hb dL_law_553 h.1 ?_
  replace h := h.2
  refine lv_topi (fun v15 ev15 => ?_)
  replace h := h v15 ev15
  refine lv_istore (lv' := [(15, .int v15), (0, .ref b), (1, .ref (ad 0)), (2, .int a2), (3, .int a3), (4, .int a4), (5, .int a5), (6, .int a6), (7, .int a7), (8, .int a8), (9, .int a9), (11, .int a11), (13, .int a13)]) hx hb dL_law_554 hl (by decide) rfl (fun ls hl => ?_)
  refine lv_aload_n hx hb dL_law_556 rfl (lv_at hl 2 rfl) ?_
  refine lv_iload hx hb dL_law_557 (lv_at hl 12 rfl) ?_
  refine lv_iconst (v := 0) hx hb dL_law_559 (by decide) ?_
  refine cc_i (va_runV (C := RX6) (As := [.int a13, .int 0]) (rest := []) ⟨hx, hb, hml, hown, hts⟩ (cN_X6_formIs hL hwd H.size u a13 0 _ h) (cwV 2 hts gL_law_X6_formIs rfl rfl rfl (by decide +kernel) ⟨Nat.le_of_ble_eq_true rfl, Nat.le_of_ble_eq_true rfl⟩) (pcV hC hP hS (cg_0 hi0) rfl) rfl rfl hl.1 rfl (lv_room (Nat.le_of_ble_eq_true rfl)) dL_law_560 ⟨Nat.le_trans (by omega : cells + 0 + 0 ≤ cells + 60) hcell, Nat.le_trans (by omega : slots + 0 + 0 ≤ slots + 6000) hslot⟩) hS (cA_mono hS.1) (fun v16 u17 H locs h hP hS => ?_)
  refine lv_istore (lv' := [(16, .int v16), (15, .int v15), (0, .ref b), (1, .ref (ad 0)), (2, .int a2), (3, .int a3), (4, .int a4), (5, .int a5), (6, .int a6), (7, .int a7), (8, .int a8), (9, .int a9), (11, .int a11), (13, .int a13)]) hx hb dL_law_563 hl (by decide) rfl (fun ls hl => ?_)
  refine lv_aload_n hx hb dL_law_565 rfl (lv_at hl 3 rfl) ?_
  refine lv_iconst (v := 3) hx hb dL_law_566 (by decide) ?_
  refine lv_iload hx hb dL_law_567 (lv_at hl 13 rfl) ?_
  refine lv_iload hx hb dL_law_569 (lv_at hl 1 rfl) ?_
  refine lv_iconst (v := 0) hx hb dL_law_571 (by decide) ?_
  refine cc_iM (vx_runSW (As := [.ref (ad 0), .int 3, .int a13, .int v15, .int 0]) (rest := []) ⟨hx, hb, hml, hown, hts⟩ (c_L_ask hflag hL hwd H.size u17 3 a13 v15 0 _ h) (vx_cwSW 5 hts gL_law_L_ask rfl rfl rfl (by decide +kernel) ⟨Nat.le_of_ble_eq_true rfl, Nat.le_of_ble_eq_true rfl⟩) (pcSN hC hX hN hP hS) rfl rfl hl.1 rfl (lv_room (Nat.le_of_ble_eq_true rfl)) dL_law_572 ⟨Nat.le_trans (by omega : cells + 0 + 4 ≤ cells + 60) hcell, Nat.le_trans (by omega : slots + 0 + 24 ≤ slots + 6000) hslot⟩) hS (cA_mono hS.1) (fun v18 u19 H locs h hP hS => ?_)
  refine W.widen (k := cells + 4) (n := slots + 24) (by omega) (by omega) ?_
  refine lv_istore (lv' := [(17, .int v18), (16, .int v16), (15, .int v15), (0, .ref b), (1, .ref (ad 0)), (2, .int a2), (3, .int a3), (4, .int a4), (5, .int a5), (6, .int a6), (7, .int a7), (8, .int a8), (9, .int a9), (11, .int a11), (13, .int a13)]) hx hb dL_law_575 hl (by decide) rfl (fun ls hl => ?_)
  refine lv_iload hx hb dL_law_577 (lv_at hl 0 rfl) ?_
  obtain ⟨R21, h, hR21⟩ := h
  have key21 : ∀ (v20 : Int32) (u22 : St) (H : Heap) (locs : List Loc), R21 v20 u22 → va_P D vwCl (cW cI cG L ad al u22) H → va_S (cA L ad s.heap.size) s.heap H locs → W p l e room_1 s m #[Value.ref b] below meth c H locs (cells + 4) (slots + 24) (lw_Z below #[Value.ref b] s) (F0 m 628 ls [.int v20]) := by
    intro v20 u22 H locs h hP hS
    replace h := hR21 v20 u22 h
    refine lv_istore (lv' := [(7, .int v20), (17, .int v18), (16, .int v16), (15, .int v15), (0, .ref b), (1, .ref (ad 0)), (2, .int a2), (3, .int a3), (4, .int a4), (5, .int a5), (6, .int a6), (8, .int a8), (9, .int a9), (11, .int a11), (13, .int a13)]) hx hb dL_law_628 hl (by decide) rfl (fun ls hl => ?_)
    refine lv_iload_n hx hb dL_law_630 rfl (lv_at hl 7 rfl) ?_
    refine lv_bipush (v := 20) hx hb dL_law_631 (by decide) ?_
    refine lv_icmp_ge (tgt := 732) hx hb dL_law_633 (by decide) (fun c23 => ?_) (fun c23 => ?_)
    · replace h := h.1 c23
      refine lv_goto (tgt := 1268) hx hb dL_law_732 (by decide) ?_
      refine W.widen (k := cells + 60) (n := slots + 6000) (by omega) (by omega) ?_
      exact hK _ _ _ a2 a3 a4 a5 a6 v20 _ _ _ _ X hL hLb hA9 h hP hS (lv_sub hl [4, 5, 6, 7, 8, 9, 10, 0, 11, 12] rfl)
    · replace h := h.2 c23
      refine lv_iload hx hb dL_law_636 (lv_at hl 0 rfl) ?_
      refine lv_if_eq (tgt := 732) hx hb dL_law_638 (by decide) (fun c24 => ?_) (fun c24 => ?_)
      · replace h := h.1 c24
        refine lv_goto (tgt := 1268) hx hb dL_law_732 (by decide) ?_
        refine W.widen (k := cells + 60) (n := slots + 6000) (by omega) (by omega) ?_
        exact hK _ _ _ a2 a3 a4 a5 a6 v20 _ _ _ _ X hL hLb hA9 h hP hS (lv_sub hl [4, 5, 6, 7, 8, 9, 10, 0, 11, 12] rfl)
      · replace h := h.2 c24
        refine lv_aload_n hx hb dL_law_641 rfl (lv_at hl 5 rfl) ?_
        refine lv_iconst (v := 1) hx hb dL_law_642 (by decide) ?_
        refine lv_iload hx hb dL_law_643 (lv_at hl 2 rfl) ?_
        refine lv_iload hx hb dL_law_645 (lv_at hl 1 rfl) ?_
        refine lv_iconst (v := 0) hx hb dL_law_647 (by decide) ?_
        refine cc_iM (vx_runSW (As := [.ref (ad 0), .int 1, .int v16, .int v18, .int 0]) (rest := []) ⟨hx, hb, hml, hown, hts⟩ (c_L_ask hflag hL hwd H.size u22 1 v16 v18 0 _ h) (vx_cwSW 5 hts gL_law_L_ask rfl rfl rfl (by decide +kernel) ⟨Nat.le_of_ble_eq_true rfl, Nat.le_of_ble_eq_true rfl⟩) (pcSN hC hX hN hP hS) rfl rfl hl.1 rfl (lv_room (Nat.le_of_ble_eq_true rfl)) dL_law_648 ⟨Nat.le_trans (by omega : cells + 4 + 4 ≤ cells + 60) hcell, Nat.le_trans (by omega : slots + 24 + 24 ≤ slots + 6000) hslot⟩) hS (cA_mono hS.1) (fun v25 u26 H locs h hP hS => ?_)
        refine W.widen (k := cells + 8) (n := slots + 48) (by omega) (by omega) ?_
        refine lv_iload_n hx hb dL_law_651 rfl (lv_at hl 7 rfl) ?_
        obtain ⟨R28, h, hR28⟩ := h
        have key28 : ∀ (v27 : Int32) (u29 : St) (H : Heap) (locs : List Loc), R28 v27 u29 → va_P D vwCl (cW cI cG L ad al u29) H → va_S (cA L ad s.heap.size) s.heap H locs → W p l e room_1 s m #[Value.ref b] below meth c H locs (cells + 28) (slots + 168) (lw_Z below #[Value.ref b] s) (F0 m 724 ls [.int v27]) := by
          intro v27 u29 H locs h hP hS
          replace h := hR28 v27 u29 h
          refine lv_istore (lv' := [(7, .int v27), (17, .int v18), (16, .int v16), (15, .int v15), (0, .ref b), (1, .ref (ad 0)), (2, .int a2), (3, .int a3), (4, .int a4), (5, .int a5), (6, .int a6), (8, .int a8), (9, .int a9), (11, .int a11), (13, .int a13)]) hx hb dL_law_724 hl (by decide) rfl (fun ls hl => ?_)
          obtain ⟨v30, ev30⟩ : ∃ y : Int32, y = a6 + 1 := ⟨_, rfl⟩
          refine lv_iinc (v := v30) (lv' := [(6, .int v30), (7, .int v27), (17, .int v18), (16, .int v16), (15, .int v15), (0, .ref b), (1, .ref (ad 0)), (2, .int a2), (3, .int a3), (4, .int a4), (5, .int a5), (8, .int a8), (9, .int a9), (11, .int a11), (13, .int a13)]) hx hb dL_law_726 hl (k := 10) rfl (by rw [ev30]; rfl) (by decide) rfl (fun ls hl => ?_)
          replace h := h v30 ev30
          obtain ⟨v31, ev31⟩ : ∃ y : Int32, y = a3 + 1 := ⟨_, rfl⟩
          refine lv_iinc (v := v31) (lv' := [(3, .int v31), (6, .int v30), (7, .int v27), (17, .int v18), (16, .int v16), (15, .int v15), (0, .ref b), (1, .ref (ad 0)), (2, .int a2), (4, .int a4), (5, .int a5), (8, .int a8), (9, .int a9), (11, .int a11), (13, .int a13)]) hx hb dL_law_729 hl (k := 8) rfl (by rw [ev31]; rfl) (by decide) rfl (fun ls hl => ?_)
          replace h := h v31 ev31
          refine lv_goto (tgt := 1268) hx hb dL_law_732 (by decide) ?_
          refine W.widen (k := cells + 60) (n := slots + 6000) (by omega) (by omega) ?_
          exact hK _ _ _ a2 v31 a4 a5 v30 v27 _ _ _ _ X hL hLb hA9 h hP hS (lv_sub hl [6, 7, 8, 0, 9, 10, 1, 2, 11, 12] rfl)
        clear hR28
        refine lv_icmp_ne (tgt := 723) hx hb dL_law_652 (by decide) (fun c32 => ?_) (fun c32 => ?_)
        · replace h := h.1 c32
          refine lv_iconst (v := 0) hx hb dL_law_723 (by decide) ?_
          refine W.widen (k := cells + 28) (n := slots + 168) (by omega) (by omega) ?_
          exact key28 0 _ _ _ h hP hS
        · replace h := h.2 c32
          refine lv_aload_n hx hb dL_law_655 rfl (lv_at hl 5 rfl) ?_
          refine lv_iload_n hx hb dL_law_656 rfl (lv_at hl 7 rfl) ?_
          refine lv_iconst (v := 2) hx hb dL_law_657 (by decide) ?_
          refine cc_i (va_runV (C := RX6) (As := [.int a3, .int 2]) (rest := []) ⟨hx, hb, hml, hown, hts⟩ (cN_X6_formIs hL hwd H.size u26 a3 2 _ h) (cwV 2 hts gL_law_X6_formIs rfl rfl rfl (by decide +kernel) ⟨Nat.le_of_ble_eq_true rfl, Nat.le_of_ble_eq_true rfl⟩) (pcV hC hP hS (cg_0 hi0) rfl) rfl rfl hl.1 rfl (lv_room (Nat.le_of_ble_eq_true rfl)) dL_law_658 ⟨Nat.le_trans (by omega : cells + 8 + 0 ≤ cells + 60) hcell, Nat.le_trans (by omega : slots + 48 + 0 ≤ slots + 6000) hslot⟩) hS (cA_mono hS.1) (fun v33 u34 H locs h hP hS => ?_)
          refine lv_aload_n hx hb dL_law_661 rfl (lv_at hl 5 rfl) ?_
          refine lv_iload hx hb dL_law_662 (lv_at hl 14 rfl) ?_
          refine lv_iconst (v := 2) hx hb dL_law_664 (by decide) ?_
          refine cc_i (va_runV (C := RX6) (As := [.int a13, .int 2]) (rest := [.int v33]) ⟨hx, hb, hml, hown, hts⟩ (cN_X6_formIs hL hwd H.size u34 a13 2 _ h) (cwV 2 hts gL_law_X6_formIs rfl rfl rfl (by decide +kernel) ⟨Nat.le_of_ble_eq_true rfl, Nat.le_of_ble_eq_true rfl⟩) (pcV hC hP hS (cg_0 hi0) rfl) rfl rfl hl.1 rfl (lv_room (Nat.le_of_ble_eq_true rfl)) dL_law_665 ⟨Nat.le_trans (by omega : cells + 8 + 0 ≤ cells + 60) hcell, Nat.le_trans (by omega : slots + 48 + 0 ≤ slots + 6000) hslot⟩) hS (cA_mono hS.1) (fun v35 u36 H locs h hP hS => ?_)
          refine lv_icmp_ne (tgt := 723) hx hb dL_law_668 (by decide) (fun c37 => ?_) (fun c37 => ?_)
          · replace h := h.1 c37
            refine lv_iconst (v := 0) hx hb dL_law_723 (by decide) ?_
            refine W.widen (k := cells + 28) (n := slots + 168) (by omega) (by omega) ?_
            exact key28 0 _ _ _ h hP hS
          · replace h := h.2 c37
            refine lv_aload_n hx hb dL_law_671 rfl (lv_at hl 5 rfl) ?_
            refine lv_iload_n hx hb dL_law_672 rfl (lv_at hl 7 rfl) ?_
            refine lv_iconst (v := 3) hx hb dL_law_673 (by decide) ?_
            refine cc_i (va_runV (C := RX6) (As := [.int a3, .int 3]) (rest := []) ⟨hx, hb, hml, hown, hts⟩ (cN_X6_formIs hL hwd H.size u36 a3 3 _ h) (cwV 2 hts gL_law_X6_formIs rfl rfl rfl (by decide +kernel) ⟨Nat.le_of_ble_eq_true rfl, Nat.le_of_ble_eq_true rfl⟩) (pcV hC hP hS (cg_0 hi0) rfl) rfl rfl hl.1 rfl (lv_room (Nat.le_of_ble_eq_true rfl)) dL_law_674 ⟨Nat.le_trans (by omega : cells + 8 + 0 ≤ cells + 60) hcell, Nat.le_trans (by omega : slots + 48 + 0 ≤ slots + 6000) hslot⟩) hS (cA_mono hS.1) (fun v38 u39 H locs h hP hS => ?_)
            refine lv_aload_n hx hb dL_law_677 rfl (lv_at hl 5 rfl) ?_
            refine lv_iload hx hb dL_law_678 (lv_at hl 14 rfl) ?_
            refine lv_iconst (v := 3) hx hb dL_law_680 (by decide) ?_
            refine cc_i (va_runV (C := RX6) (As := [.int a13, .int 3]) (rest := [.int v38]) ⟨hx, hb, hml, hown, hts⟩ (cN_X6_formIs hL hwd H.size u39 a13 3 _ h) (cwV 2 hts gL_law_X6_formIs rfl rfl rfl (by decide +kernel) ⟨Nat.le_of_ble_eq_true rfl, Nat.le_of_ble_eq_true rfl⟩) (pcV hC hP hS (cg_0 hi0) rfl) rfl rfl hl.1 rfl (lv_room (Nat.le_of_ble_eq_true rfl)) dL_law_681 ⟨Nat.le_trans (by omega : cells + 8 + 0 ≤ cells + 60) hcell, Nat.le_trans (by omega : slots + 48 + 0 ≤ slots + 6000) hslot⟩) hS (cA_mono hS.1) (fun v40 u41 H locs h hP hS => ?_)
            refine lv_icmp_ne (tgt := 723) hx hb dL_law_684 (by decide) (fun c42 => ?_) (fun c42 => ?_)
            · replace h := h.1 c42
              refine lv_iconst (v := 0) hx hb dL_law_723 (by decide) ?_
              refine W.widen (k := cells + 28) (n := slots + 168) (by omega) (by omega) ?_
              exact key28 0 _ _ _ h hP hS
            · replace h := h.2 c42
              refine lv_iload hx hb dL_law_687 (lv_at hl 10 rfl) ?_
              refine lv_bipush (v := 9) hx hb dL_law_689 (by decide) ?_
              refine lv_icmp_gt (tgt := 719) hx hb dL_law_691 (by decide) (fun c43 => ?_) (fun c43 => ?_)
              · replace h := h.1 c43
                refine lv_iconst (v := 1) hx hb dL_law_719 (by decide) ?_
                refine lv_goto (tgt := 724) hx hb dL_law_720 (by decide) ?_
                refine W.widen (k := cells + 28) (n := slots + 168) (by omega) (by omega) ?_
                exact key28 1 _ _ _ h hP hS
              · replace h := h.2 c43
                refine lv_aload_n hx hb dL_law_694 rfl (lv_at hl 5 rfl) ?_
                refine lv_iload_n hx hb dL_law_695 rfl (lv_at hl 6 rfl) ?_
                refine lv_iload hx hb dL_law_696 (lv_at hl 14 rfl) ?_
                refine lv_iload_n hx hb dL_law_698 rfl (lv_at hl 7 rfl) ?_
                refine cc_iM (va_runS (As := [.ref (ad 0), .int a2, .int a13, .int a3]) (rest := []) ⟨hx, hb, hml, hown, hts⟩ (c_L_isWay hflag hL hwd H.size u41 a2 a13 a3 _ h) (va_cwS 4 hts gL_law_L_isWay rfl rfl rfl (by decide +kernel) ⟨Nat.le_of_ble_eq_true rfl, Nat.le_of_ble_eq_true rfl⟩) (pcSN hC hX hN hP hS) rfl rfl hl.1 rfl (lv_room (Nat.le_of_ble_eq_true rfl)) dL_law_699 ⟨Nat.le_trans (by omega : cells + 8 + 16 ≤ cells + 60) hcell, Nat.le_trans (by omega : slots + 48 + 96 ≤ slots + 6000) hslot⟩) hS (cA_mono hS.1) (fun v44 u45 H locs h hP hS => ?_)
                refine W.widen (k := cells + 24) (n := slots + 144) (by omega) (by omega) ?_
                refine lv_if_eq (tgt := 723) hx hb dL_law_702 (by decide) (fun c46 => ?_) (fun c46 => ?_)
                · replace h := h.1 c46
                  refine lv_iconst (v := 0) hx hb dL_law_723 (by decide) ?_
                  refine W.widen (k := cells + 28) (n := slots + 168) (by omega) (by omega) ?_
                  exact key28 0 _ _ _ h hP hS
                · replace h := h.2 c46
                  refine lv_aload_n hx hb dL_law_705 rfl (lv_at hl 5 rfl) ?_
                  refine lv_bipush (v := 7) hx hb dL_law_706 (by decide) ?_
                  refine lv_iload hx hb dL_law_708 (lv_at hl 14 rfl) ?_
                  refine lv_iload_n hx hb dL_law_710 rfl (lv_at hl 7 rfl) ?_
                  refine lv_iconst (v := 0) hx hb dL_law_711 (by decide) ?_
                  refine cc_iM (vx_runSW (As := [.ref (ad 0), .int 7, .int a13, .int a3, .int 0]) (rest := []) ⟨hx, hb, hml, hown, hts⟩ (c_L_ask hflag hL hwd H.size u45 7 a13 a3 0 _ h) (vx_cwSW 5 hts gL_law_L_ask rfl rfl rfl (by decide +kernel) ⟨Nat.le_of_ble_eq_true rfl, Nat.le_of_ble_eq_true rfl⟩) (pcSN hC hX hN hP hS) rfl rfl hl.1 rfl (lv_room (Nat.le_of_ble_eq_true rfl)) dL_law_712 ⟨Nat.le_trans (by omega : cells + 24 + 4 ≤ cells + 60) hcell, Nat.le_trans (by omega : slots + 144 + 24 ≤ slots + 6000) hslot⟩) hS (cA_mono hS.1) (fun v47 u48 H locs h hP hS => ?_)
                  refine W.widen (k := cells + 28) (n := slots + 168) (by omega) (by omega) ?_
                  refine lv_iconst (v := 1) hx hb dL_law_715 (by decide) ?_
                  refine lv_icmp_gt (tgt := 723) hx hb dL_law_716 (by decide) (fun c49 => ?_) (fun c49 => ?_)
                  · replace h := h.1 c49
                    refine lv_iconst (v := 0) hx hb dL_law_723 (by decide) ?_
                    exact key28 0 _ _ _ h hP hS
                  · replace h := h.2 c49
                    refine lv_iconst (v := 1) hx hb dL_law_719 (by decide) ?_
                    refine lv_goto (tgt := 724) hx hb dL_law_720 (by decide) ?_
                    exact key28 1 _ _ _ h hP hS
  clear hR21
  refine lv_if_lt (tgt := 627) hx hb dL_law_579 (by decide) (fun c50 => ?_) (fun c50 => ?_)
  · replace h := h.1 c50
    refine lv_iconst (v := 0) hx hb dL_law_627 (by decide) ?_
    exact key21 0 _ _ _ h hP hS
  · replace h := h.2 c50
    refine lv_iload hx hb dL_law_582 (lv_at hl 0 rfl) ?_
    refine lv_iload_n hx hb dL_law_584 rfl (lv_at hl 5 rfl) ?_
    refine lv_iload hx hb dL_law_585 (lv_at hl 1 rfl) ?_
    refine lv_iconst (v := 1) hx hb dL_law_587 (by decide) ?_
    refine lv_iadd hx hb dL_law_588 ?_
    refine cc_i (va_runS (As := [.int a2, .int (v16 + 1)]) (rest := [.int v18]) ⟨hx, hb, hml, hown, hts⟩ (c_L_power hL hwd H.size u19 a2 (v16 + 1) _ h) (va_cwS 2 hts gL_law_L_power rfl rfl rfl (by decide +kernel) ⟨Nat.le_of_ble_eq_true rfl, Nat.le_of_ble_eq_true rfl⟩) (pcS hC hP hS) rfl rfl hl.1 rfl (lv_room (Nat.le_of_ble_eq_true rfl)) dL_law_589 ⟨Nat.le_trans (by omega : cells + 4 + 0 ≤ cells + 60) hcell, Nat.le_trans (by omega : slots + 24 + 0 ≤ slots + 6000) hslot⟩) hS (cA_mono hS.1) (fun v51 u52 H locs h hP hS => ?_)
    refine lv_icmp_ge (tgt := 627) hx hb dL_law_592 (by decide) (fun c53 => ?_) (fun c53 => ?_)
    · replace h := h.1 c53
      refine lv_iconst (v := 0) hx hb dL_law_627 (by decide) ?_
      exact key21 0 _ _ _ h hP hS
    · replace h := h.2 c53
      refine lv_aload_n hx hb dL_law_595 rfl (lv_at hl 4 rfl) ?_
      refine lv_iload hx hb dL_law_596 (lv_at hl 14 rfl) ?_
      refine lv_iconst (v := 1) hx hb dL_law_598 (by decide) ?_
      refine cc_i (va_runV (C := RX6) (As := [.int a13, .int 1]) (rest := []) ⟨hx, hb, hml, hown, hts⟩ (cN_X6_formIs hL hwd H.size u52 a13 1 _ h) (cwV 2 hts gL_law_X6_formIs rfl rfl rfl (by decide +kernel) ⟨Nat.le_of_ble_eq_true rfl, Nat.le_of_ble_eq_true rfl⟩) (pcV hC hP hS (cg_0 hi0) rfl) rfl rfl hl.1 rfl (lv_room (Nat.le_of_ble_eq_true rfl)) dL_law_599 ⟨Nat.le_trans (by omega : cells + 4 + 0 ≤ cells + 60) hcell, Nat.le_trans (by omega : slots + 24 + 0 ≤ slots + 6000) hslot⟩) hS (cA_mono hS.1) (fun v54 u55 H locs h hP hS => ?_)
      have key57 : ∀ v56 : Int32, ((¬ v54 = 0) → v56 = 0) → ((v54 = 0) → v56 = 1) → W p l e room_1 s m #[Value.ref b] below meth c H locs (cells + 4) (slots + 24) (lw_Z below #[Value.ref b] s) (F0 m 610 ls [.int v56]) := by
        intro v56 q57_0 q57_1
        replace h := h v56 q57_0 q57_1
        refine lv_iload hx hb dL_law_610 (lv_at hl 0 rfl) ?_
        have key59 : ∀ v58 : Int32, ((¬ v18 = 0) → v58 = 0) → ((v18 = 0) → v58 = 1) → W p l e room_1 s m #[Value.ref b] below meth c H locs (cells + 4) (slots + 24) (lw_Z below #[Value.ref b] s) (F0 m 620 ls [.int v58, .int v56]) := by
          intro v58 q59_0 q59_1
          replace h := h v58 q59_0 q59_1
          refine lv_icmp_ne (tgt := 627) hx hb dL_law_620 (by decide) (fun c60 => ?_) (fun c60 => ?_)
          · replace h := h.1 c60
            refine lv_iconst (v := 0) hx hb dL_law_627 (by decide) ?_
            exact key21 0 _ _ _ h hP hS
          · replace h := h.2 c60
            refine lv_iconst (v := 1) hx hb dL_law_623 (by decide) ?_
            refine lv_goto (tgt := 628) hx hb dL_law_624 (by decide) ?_
            exact key21 1 _ _ _ h hP hS
        clear h
        refine lv_if_ne (tgt := 619) hx hb dL_law_612 (by decide) (fun c58 => ?_) (fun c58 => ?_)
        · skip
          refine lv_iconst (v := 0) hx hb dL_law_619 (by decide) ?_
          exact key59 0 (fun _ => rfl) (fun n9 => absurd n9 c58)
        · skip
          refine lv_iconst (v := 1) hx hb dL_law_615 (by decide) ?_
          refine lv_goto (tgt := 620) hx hb dL_law_616 (by decide) ?_
          exact key59 1 (fun n9 => absurd c58 n9) (fun _ => rfl)
      clear h
      refine lv_if_ne (tgt := 609) hx hb dL_law_602 (by decide) (fun c56 => ?_) (fun c56 => ?_)
      · skip
        refine lv_iconst (v := 0) hx hb dL_law_609 (by decide) ?_
        exact key57 0 (fun _ => rfl) (fun n9 => absurd n9 c56)
      · skip
        refine lv_iconst (v := 1) hx hb dL_law_605 (by decide) ?_
        refine lv_goto (tgt := 610) hx hb dL_law_606 (by decide) ?_
        exact key57 1 (fun n9 => absurd c56 n9) (fun _ => rfl)
set_option maxRecDepth 100000 in
set_option maxHeartbeats 8000000 in
theorem w_L_law_B495 {p : Program} {l : Launch} {e : Env} {s : State} {m : MethodId} {b : Nat} {below : List Frame} {meth : Method} {c : Code} {D : va_G} {cI cG cZ cJ : ClassId} {ts : Nat × Nat} {L : List Nat} {ad : Nat → Nat} {al : Nat} (hflag : l.stackTraces = false) (hX : XW s) (hN : NCW s) {cells slots : Nat} (hcell : cells + 60 ≤ 600104) (hslot : slots + 6000 ≤ 7301314) (K : Nat → Int32 → Int32 → Int32 → Int32 → Int32 → Int32 → St → Prop) {a8 a9 : Int32} (hK : ∀ (L : List Nat) (ad : Nat → Nat) (al : Nat) (b2 b3 b4 b5 b6 b7 : Int32) (u : St) (H : Heap) (locs : List Loc) (ls : Array Slot), FX RL wsL_law cL_law 18 (some .boolean) D cI cG cZ cJ ts L ad p s m #[Value.ref b] meth c → Lf L al → Lb L al → cA L ad s.heap.size = AL s → K al b2 b3 b4 b5 b6 b7 u → va_P D vwCl (cW cI cG L ad al u) H → va_S (cA L ad s.heap.size) s.heap H locs → lv_has ls 18 [(0, .ref b), (1, .ref (ad 0)), (2, .int b2), (3, .int b3), (4, .int b4), (5, .int b5), (6, .int b6), (7, .int b7), (8, .int a8), (9, .int a9)] → W p l e room_1 s m #[Value.ref b] below meth c H locs (cells + 60) (slots + 6000) (lw_Z below #[Value.ref b] s) (F0 m 1268 ls []))
    (hL : Lf L al) (hLb : Lb L al) (hA9 : cA L ad s.heap.size = AL s) (X : FX RL wsL_law cL_law 18 (some .boolean) D cI cG cZ cJ ts L ad p s m #[Value.ref b] meth c) (a2 : Int32) (a3 : Int32) (a4 : Int32) (a5 : Int32) (a6 : Int32) (a7 : Int32) (a13 : Int32) (u : St) (H : Heap) (locs : List Loc) (ls : Array Slot) (h : f_L_law_B495 al a2 a3 a4 a5 a6 a7 a8 a9 a13 K u) (hP : va_P D vwCl (cW cI cG L ad al u) H) (hS : va_S (cA L ad s.heap.size) s.heap H locs) (hl : lv_has ls 18 [(0, .ref b), (1, .ref (ad 0)), (2, .int a2), (3, .int a3), (4, .int a4), (5, .int a5), (6, .int a6), (7, .int a7), (8, .int a8), (9, .int a9), (13, .int a13)]) : W p l e room_1 s m #[Value.ref b] below meth c H locs (cells + 0) (slots + 0) (lw_Z below #[Value.ref b] s) (F0 m 495 ls []) := by
  obtain ⟨hx, hb, hml, hown, hts, hr, hlocks, hwd, hC⟩ := id X
  have hK0 := hC.1
  have m0 : 0 ∈ L := hL 0 (by omega)
  obtain ⟨i0, hi0⟩ := wL_ix m0
  unfold f_L_law_B495 at h
  refine lv_aload_n hx hb dL_law_495 rfl (lv_at hl 1 rfl) ?_
  refine cc_i (va_runV (C := RX6) (As := []) (rest := []) ⟨hx, hb, hml, hown, hts⟩ (c_X6_weighs hL hwd H.size u _ h) (cwV 0 hts gL_law_X6_weighs rfl rfl rfl (by decide +kernel) ⟨Nat.le_of_ble_eq_true rfl, Nat.le_of_ble_eq_true rfl⟩) (pcV hC hP hS (cg_0 hi0) rfl) rfl rfl hl.1 rfl (lv_room (Nat.le_of_ble_eq_true rfl)) dL_law_496 ⟨Nat.le_trans (by omega : cells + 0 + 0 ≤ cells + 60) hcell, Nat.le_trans (by omega : slots + 0 + 0 ≤ slots + 6000) hslot⟩) hS (cA_mono hS.1) (fun v15 u16 H locs h hP hS => ?_)
  obtain ⟨R17, h, hR17⟩ := h
  have key17 : ∀  (u18 : St) (H : Heap) (locs : List Loc), R17 u18 → va_P D vwCl (cW cI cG L ad al u18) H → va_S (cA L ad s.heap.size) s.heap H locs → W p l e room_1 s m #[Value.ref b] below meth c H locs (cells + 0) (slots + 0) (lw_Z below #[Value.ref b] s) (F0 m 528 ls []) := by
    intro  u18 H locs h hP hS
    replace h := hR17 u18 h
    refine lv_iconst (v := 0) hx hb dL_law_528 (by decide) ?_
    refine lv_istore (lv' := [(7, .int 0), (0, .ref b), (1, .ref (ad 0)), (2, .int a2), (3, .int a3), (4, .int a4), (5, .int a5), (6, .int a6), (8, .int a8), (9, .int a9), (13, .int a13)]) hx hb dL_law_529 hl (by decide) rfl (fun ls hl => ?_)
    refine lv_goto (tgt := 1268) hx hb dL_law_531 (by decide) ?_
    refine W.widen (k := cells + 60) (n := slots + 6000) (by omega) (by omega) ?_
    exact hK _ _ _ a2 a3 a4 a5 a6 0 _ _ _ _ X hL hLb hA9 h hP hS (lv_sub hl [1, 2, 3, 4, 5, 6, 7, 0, 8, 9] rfl)
  clear hR17
  refine lv_if_eq (tgt := 528) hx hb dL_law_499 (by decide) (fun c19 => ?_) (fun c19 => ?_)
  · replace h := h.1 c19
    exact key17  _ _ _ h hP hS
  · replace h := h.2 c19
    refine lv_aload_n hx hb dL_law_502 rfl (lv_at hl 1 rfl) ?_
    refine lv_iload_n hx hb dL_law_503 rfl (lv_at hl 2 rfl) ?_
    refine lv_iload hx hb dL_law_504 (lv_at hl 10 rfl) ?_
    refine lv_iload hx hb dL_law_506 (lv_at hl 9 rfl) ?_
    refine lv_bipush (v := 40) hx hb dL_law_508 (by decide) ?_
    have key21 : ∀ v20 : Int32, ((40 ≤ a9) → v20 = 0) → ((¬ 40 ≤ a9) → v20 = 1) → W p l e room_1 s m #[Value.ref b] below meth c H locs (cells + 0) (slots + 0) (lw_Z below #[Value.ref b] s) (F0 m 518 ls [.int v20, .int a13, .int a2, .ref (ad 0)]) := by
      intro v20 q21_0 q21_1
      replace h := h v20 q21_0 q21_1
      refine cc_i (va_runS (As := [.ref (ad 0), .int a2, .int a13, .int v20]) (rest := []) ⟨hx, hb, hml, hown, hts⟩ (c_L_isForm hL hwd H.size u16 a2 a13 v20 _ h) (va_cwS 4 hts gL_law_L_isForm rfl rfl rfl (by decide +kernel) ⟨Nat.le_of_ble_eq_true rfl, Nat.le_of_ble_eq_true rfl⟩) (pcS hC hP hS) rfl rfl hl.1 rfl (lv_room (Nat.le_of_ble_eq_true rfl)) dL_law_518 ⟨Nat.le_trans (by omega : cells + 0 + 0 ≤ cells + 60) hcell, Nat.le_trans (by omega : slots + 0 + 0 ≤ slots + 6000) hslot⟩) hS (cA_mono hS.1) (fun v22 u23 H locs h hP hS => ?_)
      refine lv_if_eq (tgt := 528) hx hb dL_law_521 (by decide) (fun c24 => ?_) (fun c24 => ?_)
      · replace h := h.1 c24
        exact key17  _ _ _ h hP hS
      · replace h := h.2 c24
        refine lv_iconst (v := 1) hx hb dL_law_524 (by decide) ?_
        refine lv_goto (tgt := 529) hx hb dL_law_525 (by decide) ?_
        refine lv_istore (lv' := [(7, .int 1), (0, .ref b), (1, .ref (ad 0)), (2, .int a2), (3, .int a3), (4, .int a4), (5, .int a5), (6, .int a6), (8, .int a8), (9, .int a9), (13, .int a13)]) hx hb dL_law_529 hl (by decide) rfl (fun ls hl => ?_)
        refine lv_goto (tgt := 1268) hx hb dL_law_531 (by decide) ?_
        refine W.widen (k := cells + 60) (n := slots + 6000) (by omega) (by omega) ?_
        exact hK _ _ _ a2 a3 a4 a5 a6 1 _ _ _ _ X hL hLb hA9 h hP hS (lv_sub hl [1, 2, 3, 4, 5, 6, 7, 0, 8, 9] rfl)
    clear h
    refine lv_icmp_ge (tgt := 517) hx hb dL_law_510 (by decide) (fun c20 => ?_) (fun c20 => ?_)
    · skip
      refine lv_iconst (v := 0) hx hb dL_law_517 (by decide) ?_
      exact key21 0 (fun _ => rfl) (fun n9 => absurd c20 n9)
    · skip
      refine lv_iconst (v := 1) hx hb dL_law_513 (by decide) ?_
      refine lv_goto (tgt := 518) hx hb dL_law_514 (by decide) ?_
      exact key21 1 (fun n9 => absurd n9 c20) (fun _ => rfl)
set_option maxRecDepth 100000 in
set_option maxHeartbeats 8000000 in
theorem w_L_law_B451 {p : Program} {l : Launch} {e : Env} {s : State} {m : MethodId} {b : Nat} {below : List Frame} {meth : Method} {c : Code} {D : va_G} {cI cG cZ cJ : ClassId} {ts : Nat × Nat} {L : List Nat} {ad : Nat → Nat} {al : Nat} (hflag : l.stackTraces = false) (hX : XW s) (hN : NCW s) {cells slots : Nat} (hcell : cells + 60 ≤ 600104) (hslot : slots + 6000 ≤ 7301314) (K : Nat → Int32 → Int32 → Int32 → Int32 → Int32 → Int32 → St → Prop) {a8 a9 : Int32} (hK : ∀ (L : List Nat) (ad : Nat → Nat) (al : Nat) (b2 b3 b4 b5 b6 b7 : Int32) (u : St) (H : Heap) (locs : List Loc) (ls : Array Slot), FX RL wsL_law cL_law 18 (some .boolean) D cI cG cZ cJ ts L ad p s m #[Value.ref b] meth c → Lf L al → Lb L al → cA L ad s.heap.size = AL s → K al b2 b3 b4 b5 b6 b7 u → va_P D vwCl (cW cI cG L ad al u) H → va_S (cA L ad s.heap.size) s.heap H locs → lv_has ls 18 [(0, .ref b), (1, .ref (ad 0)), (2, .int b2), (3, .int b3), (4, .int b4), (5, .int b5), (6, .int b6), (7, .int b7), (8, .int a8), (9, .int a9)] → W p l e room_1 s m #[Value.ref b] below meth c H locs (cells + 60) (slots + 6000) (lw_Z below #[Value.ref b] s) (F0 m 1268 ls []))
    (hL : Lf L al) (hLb : Lb L al) (hA9 : cA L ad s.heap.size = AL s) (X : FX RL wsL_law cL_law 18 (some .boolean) D cI cG cZ cJ ts L ad p s m #[Value.ref b] meth c) (a2 : Int32) (a3 : Int32) (a4 : Int32) (a5 : Int32) (a6 : Int32) (a7 : Int32) (u : St) (H : Heap) (locs : List Loc) (ls : Array Slot) (h : f_L_law_B451 al a2 a3 a4 a5 a6 a7 a8 a9 K u) (hP : va_P D vwCl (cW cI cG L ad al u) H) (hS : va_S (cA L ad s.heap.size) s.heap H locs) (hl : lv_has ls 18 [(0, .ref b), (1, .ref (ad 0)), (2, .int a2), (3, .int a3), (4, .int a4), (5, .int a5), (6, .int a6), (7, .int a7), (8, .int a8), (9, .int a9)]) : W p l e room_1 s m #[Value.ref b] below meth c H locs (cells + 0) (slots + 0) (lw_Z below #[Value.ref b] s) (F0 m 451 ls []) := by
  obtain ⟨hx, hb, hml, hown, hts, hr, hlocks, hwd, hC⟩ := id X
  have hK0 := hC.1
  have m0 : 0 ∈ L := hL 0 (by omega)
  obtain ⟨i0, hi0⟩ := wL_ix m0
  unfold f_L_law_B451 at h
  refine lv_aload_n hx hb dL_law_451 rfl (lv_at hl 1 rfl) ?_
  refine lv_iconst (v := 2) hx hb dL_law_452 (by decide) ?_
  refine lv_iconst (v := 0) hx hb dL_law_453 (by decide) ?_
  refine lv_iconst (v := 0) hx hb dL_law_454 (by decide) ?_
  refine lv_iconst (v := 0) hx hb dL_law_455 (by decide) ?_
  refine cc_iM (vx_runSW (As := [.ref (ad 0), .int 2, .int 0, .int 0, .int 0]) (rest := []) ⟨hx, hb, hml, hown, hts⟩ (c_L_ask hflag hL hwd H.size u 2 0 0 0 _ h) (vx_cwSW 5 hts gL_law_L_ask rfl rfl rfl (by decide +kernel) ⟨Nat.le_of_ble_eq_true rfl, Nat.le_of_ble_eq_true rfl⟩) (pcSN hC hX hN hP hS) rfl rfl hl.1 rfl (lv_room (Nat.le_of_ble_eq_true rfl)) dL_law_456 ⟨Nat.le_trans (by omega : cells + 0 + 4 ≤ cells + 60) hcell, Nat.le_trans (by omega : slots + 0 + 24 ≤ slots + 6000) hslot⟩) hS (cA_mono hS.1) (fun v15 u16 H locs h hP hS => ?_)
  refine W.widen (k := cells + 4) (n := slots + 24) (by omega) (by omega) ?_
  refine lv_bipush (v := (-11)) hx hb dL_law_459 (by decide) ?_
  obtain ⟨R17, h, hR17⟩ := h
  have key17 : ∀  (u18 : St) (H : Heap) (locs : List Loc), R17 u18 → va_P D vwCl (cW cI cG L ad al u18) H → va_S (cA L ad s.heap.size) s.heap H locs → W p l e room_1 s m #[Value.ref b] below meth c H locs (cells + 8) (slots + 48) (lw_Z below #[Value.ref b] s) (F0 m 482 ls []) := by
    intro  u18 H locs h hP hS
    replace h := hR17 u18 h
    refine lv_iconst (v := 0) hx hb dL_law_482 (by decide) ?_
    refine lv_istore (lv' := [(7, .int 0), (0, .ref b), (1, .ref (ad 0)), (2, .int a2), (3, .int a3), (4, .int a4), (5, .int a5), (6, .int a6), (8, .int a8), (9, .int a9)]) hx hb dL_law_483 hl (by decide) rfl (fun ls hl => ?_)
    refine lv_goto (tgt := 1268) hx hb dL_law_485 (by decide) ?_
    refine W.widen (k := cells + 60) (n := slots + 6000) (by omega) (by omega) ?_
    exact hK _ _ _ a2 a3 a4 a5 a6 0 _ _ _ _ X hL hLb hA9 h hP hS (lv_sub hl [1, 2, 3, 4, 5, 6, 7, 0, 8, 9] rfl)
  clear hR17
  refine lv_icmp_ne (tgt := 482) hx hb dL_law_461 (by decide) (fun c19 => ?_) (fun c19 => ?_)
  · replace h := h.1 c19
    refine W.widen (k := cells + 8) (n := slots + 48) (by omega) (by omega) ?_
    exact key17  _ _ _ h hP hS
  · replace h := h.2 c19
    refine lv_aload_n hx hb dL_law_464 rfl (lv_at hl 1 rfl) ?_
    refine lv_bipush (v := 7) hx hb dL_law_465 (by decide) ?_
    refine lv_iconst (v := 0) hx hb dL_law_467 (by decide) ?_
    refine lv_iconst (v := 0) hx hb dL_law_468 (by decide) ?_
    refine lv_iconst (v := 0) hx hb dL_law_469 (by decide) ?_
    refine cc_iM (vx_runSW (As := [.ref (ad 0), .int 7, .int 0, .int 0, .int 0]) (rest := []) ⟨hx, hb, hml, hown, hts⟩ (c_L_ask hflag hL hwd H.size u16 7 0 0 0 _ h) (vx_cwSW 5 hts gL_law_L_ask rfl rfl rfl (by decide +kernel) ⟨Nat.le_of_ble_eq_true rfl, Nat.le_of_ble_eq_true rfl⟩) (pcSN hC hX hN hP hS) rfl rfl hl.1 rfl (lv_room (Nat.le_of_ble_eq_true rfl)) dL_law_470 ⟨Nat.le_trans (by omega : cells + 4 + 4 ≤ cells + 60) hcell, Nat.le_trans (by omega : slots + 24 + 24 ≤ slots + 6000) hslot⟩) hS (cA_mono hS.1) (fun v20 u21 H locs h hP hS => ?_)
    refine W.widen (k := cells + 8) (n := slots + 48) (by omega) (by omega) ?_
    refine lv_bipush (v := (-11)) hx hb dL_law_473 (by decide) ?_
    refine lv_icmp_ne (tgt := 482) hx hb dL_law_475 (by decide) (fun c22 => ?_) (fun c22 => ?_)
    · replace h := h.1 c22
      exact key17  _ _ _ h hP hS
    · replace h := h.2 c22
      refine lv_iconst (v := 1) hx hb dL_law_478 (by decide) ?_
      refine lv_goto (tgt := 483) hx hb dL_law_479 (by decide) ?_
      refine lv_istore (lv' := [(7, .int 1), (0, .ref b), (1, .ref (ad 0)), (2, .int a2), (3, .int a3), (4, .int a4), (5, .int a5), (6, .int a6), (8, .int a8), (9, .int a9)]) hx hb dL_law_483 hl (by decide) rfl (fun ls hl => ?_)
      refine lv_goto (tgt := 1268) hx hb dL_law_485 (by decide) ?_
      refine W.widen (k := cells + 60) (n := slots + 6000) (by omega) (by omega) ?_
      exact hK _ _ _ a2 a3 a4 a5 a6 1 _ _ _ _ X hL hLb hA9 h hP hS (lv_sub hl [1, 2, 3, 4, 5, 6, 7, 0, 8, 9] rfl)
set_option maxRecDepth 100000 in
set_option maxHeartbeats 8000000 in
theorem w_L_law_B447 {p : Program} {l : Launch} {e : Env} {s : State} {m : MethodId} {b : Nat} {below : List Frame} {meth : Method} {c : Code} {D : va_G} {cI cG cZ cJ : ClassId} {ts : Nat × Nat} {L : List Nat} {ad : Nat → Nat} {al : Nat} (hflag : l.stackTraces = false) (hX : XW s) (hN : NCW s) {cells slots : Nat} (hcell : cells + 60 ≤ 600104) (hslot : slots + 6000 ≤ 7301314) (K : Nat → Int32 → Int32 → Int32 → Int32 → Int32 → Int32 → St → Prop) {a8 a9 : Int32} (hK : ∀ (L : List Nat) (ad : Nat → Nat) (al : Nat) (b2 b3 b4 b5 b6 b7 : Int32) (u : St) (H : Heap) (locs : List Loc) (ls : Array Slot), FX RL wsL_law cL_law 18 (some .boolean) D cI cG cZ cJ ts L ad p s m #[Value.ref b] meth c → Lf L al → Lb L al → cA L ad s.heap.size = AL s → K al b2 b3 b4 b5 b6 b7 u → va_P D vwCl (cW cI cG L ad al u) H → va_S (cA L ad s.heap.size) s.heap H locs → lv_has ls 18 [(0, .ref b), (1, .ref (ad 0)), (2, .int b2), (3, .int b3), (4, .int b4), (5, .int b5), (6, .int b6), (7, .int b7), (8, .int a8), (9, .int a9)] → W p l e room_1 s m #[Value.ref b] below meth c H locs (cells + 60) (slots + 6000) (lw_Z below #[Value.ref b] s) (F0 m 1268 ls []))
    (hL : Lf L al) (hLb : Lb L al) (hA9 : cA L ad s.heap.size = AL s) (X : FX RL wsL_law cL_law 18 (some .boolean) D cI cG cZ cJ ts L ad p s m #[Value.ref b] meth c) (a2 : Int32) (a3 : Int32) (a4 : Int32) (a5 : Int32) (a6 : Int32) (a7 : Int32) (a11 : Int32) (a12 : Int32) (a13 : Int32) (a14 : Int32) (u : St) (H : Heap) (locs : List Loc) (ls : Array Slot) (h : f_L_law_B447 al a2 a3 a4 a5 a6 a7 a8 a9 a11 a12 a13 a14 K u) (hP : va_P D vwCl (cW cI cG L ad al u) H) (hS : va_S (cA L ad s.heap.size) s.heap H locs) (hl : lv_has ls 18 [(0, .ref b), (1, .ref (ad 0)), (2, .int a2), (3, .int a3), (4, .int a4), (5, .int a5), (6, .int a6), (7, .int a7), (8, .int a8), (9, .int a9), (11, .int a11), (12, .int a12), (13, .int a13), (14, .int a14)]) : W p l e room_1 s m #[Value.ref b] below meth c H locs (cells + 0) (slots + 0) (lw_Z below #[Value.ref b] s) (F0 m 447 ls []) := by
  obtain ⟨hx, hb, hml, hown, hts, hr, hlocks, hwd, hC⟩ := id X
  have hK0 := hC.1
  have m0 : 0 ∈ L := hL 0 (by omega)
  obtain ⟨i0, hi0⟩ := wL_ix m0
  unfold f_L_law_B447 at h
  refine lv_iload_n hx hb dL_law_447 rfl (lv_at hl 3 rfl) ?_
  refine lv_if_ne (tgt := 488) hx hb dL_law_448 (by decide) (fun c11 => ?_) (fun c11 => ?_)
  · replace h := h.1 c11
    refine lv_iload hx hb dL_law_488 (lv_at hl 11 rfl) ?_
    refine lv_bipush (v := 9) hx hb dL_law_490 (by decide) ?_
    refine lv_icmp_ge (tgt := 534) hx hb dL_law_492 (by decide) (fun c12 => ?_) (fun c12 => ?_)
    · replace h := h.1 c12
      refine lv_iload hx hb dL_law_534 (lv_at hl 11 rfl) ?_
      refine lv_bipush (v := 13) hx hb dL_law_536 (by decide) ?_
      refine lv_icmp_ge (tgt := 735) hx hb dL_law_538 (by decide) (fun c13 => ?_) (fun c13 => ?_)
      · replace h := h.1 c13
        exact w_L_law_B735 hflag hX hN hcell hslot K hK hL hLb hA9 X a2 a3 a4 a5 a6 a7 a11 a12 a13 a14 _ _ _ _ h hP hS (lv_sub hl [0, 1, 2, 3, 4, 5, 6, 7, 8, 9, 10, 11, 12, 13] rfl)
      · replace h := h.2 c13
        refine lv_iload hx hb dL_law_541 (lv_at hl 4 rfl) ?_
        refine lv_if_le (tgt := 735) hx hb dL_law_543 (by decide) (fun c14 => ?_) (fun c14 => ?_)
        · replace h := h.1 c14
          exact w_L_law_B735 hflag hX hN hcell hslot K hK hL hLb hA9 X a2 a3 a4 a5 a6 a7 a11 a12 a13 a14 _ _ _ _ h hP hS (lv_sub hl [0, 1, 2, 3, 4, 5, 6, 7, 8, 9, 10, 11, 12, 13] rfl)
        · replace h := h.2 c14
          exact w_L_law_B546 hflag hX hN hcell hslot K hK hL hLb hA9 X a2 a3 a4 a5 a6 a7 a11 a13 _ _ _ _ h hP hS (lv_sub hl [0, 1, 2, 3, 4, 5, 6, 7, 8, 9, 10, 12] rfl)
    · replace h := h.2 c12
      exact w_L_law_B495 hflag hX hN hcell hslot K hK hL hLb hA9 X a2 a3 a4 a5 a6 a7 a13 _ _ _ _ h hP hS (lv_sub hl [0, 1, 2, 3, 4, 5, 6, 7, 8, 9, 12] rfl)
  · replace h := h.2 c11
    exact w_L_law_B451 hflag hX hN hcell hslot K hK hL hLb hA9 X a2 a3 a4 a5 a6 a7 _ _ _ _ h hP hS (lv_sub hl [0, 1, 2, 3, 4, 5, 6, 7, 8, 9] rfl)
set_option maxRecDepth 100000 in
set_option maxHeartbeats 8000000 in
theorem w_L_law_B376 {p : Program} {l : Launch} {e : Env} {s : State} {m : MethodId} {b : Nat} {below : List Frame} {meth : Method} {c : Code} {D : va_G} {cI cG cZ cJ : ClassId} {ts : Nat × Nat} {L : List Nat} {ad : Nat → Nat} {al : Nat} (hflag : l.stackTraces = false) (hX : XW s) (hN : NCW s) {cells slots : Nat} (hcell : cells + 60 ≤ 600104) (hslot : slots + 6000 ≤ 7301314) (K : Nat → Int32 → Int32 → Int32 → Int32 → Int32 → Int32 → St → Prop) {a8 a9 : Int32} (hK : ∀ (L : List Nat) (ad : Nat → Nat) (al : Nat) (b2 b3 b4 b5 b6 b7 : Int32) (u : St) (H : Heap) (locs : List Loc) (ls : Array Slot), FX RL wsL_law cL_law 18 (some .boolean) D cI cG cZ cJ ts L ad p s m #[Value.ref b] meth c → Lf L al → Lb L al → cA L ad s.heap.size = AL s → K al b2 b3 b4 b5 b6 b7 u → va_P D vwCl (cW cI cG L ad al u) H → va_S (cA L ad s.heap.size) s.heap H locs → lv_has ls 18 [(0, .ref b), (1, .ref (ad 0)), (2, .int b2), (3, .int b3), (4, .int b4), (5, .int b5), (6, .int b6), (7, .int b7), (8, .int a8), (9, .int a9)] → W p l e room_1 s m #[Value.ref b] below meth c H locs (cells + 60) (slots + 6000) (lw_Z below #[Value.ref b] s) (F0 m 1268 ls []))
    (hL : Lf L al) (hLb : Lb L al) (hA9 : cA L ad s.heap.size = AL s) (X : FX RL wsL_law cL_law 18 (some .boolean) D cI cG cZ cJ ts L ad p s m #[Value.ref b] meth c) (a2 : Int32) (a3 : Int32) (a4 : Int32) (a5 : Int32) (a6 : Int32) (a7 : Int32) (a11 : Int32) (a12 : Int32) (a13 : Int32) (a14 : Int32) (u : St) (H : Heap) (locs : List Loc) (ls : Array Slot) (h : f_L_law_B376 al a2 a3 a4 a5 a6 a7 a8 a9 a11 a12 a13 a14 K u) (hP : va_P D vwCl (cW cI cG L ad al u) H) (hS : va_S (cA L ad s.heap.size) s.heap H locs) (hl : lv_has ls 18 [(0, .ref b), (1, .ref (ad 0)), (2, .int a2), (3, .int a3), (4, .int a4), (5, .int a5), (6, .int a6), (7, .int a7), (8, .int a8), (9, .int a9), (11, .int a11), (12, .int a12), (13, .int a13), (14, .int a14)]) : W p l e room_1 s m #[Value.ref b] below meth c H locs (cells + 0) (slots + 0) (lw_Z below #[Value.ref b] s) (F0 m 376 ls []) := by
  obtain ⟨hx, hb, hml, hown, hts, hr, hlocks, hwd, hC⟩ := id X
  have hK0 := hC.1
  have m0 : 0 ∈ L := hL 0 (by omega)
  obtain ⟨i0, hi0⟩ := wL_ix m0
  unfold f_L_law_B376 at h
  refine lv_iload hx hb dL_law_376 (lv_at hl 10 rfl) ?_
  refine lv_bipush (v := 7) hx hb dL_law_378 (by decide) ?_
  refine lv_iand hx hb dL_law_380 ?_
  refine lv_if_ne (tgt := 447) hx hb dL_law_381 (by decide) (fun c11 => ?_) (fun c11 => ?_)
  · replace h := h.1 c11
    exact w_L_law_B447 hflag hX hN hcell hslot K hK hL hLb hA9 X a2 a3 a4 a5 a6 a7 a11 a12 a13 a14 _ _ _ _ h hP hS (lv_sub hl [0, 1, 2, 3, 4, 5, 6, 7, 8, 9, 10, 11, 12, 13] rfl)
  · replace h := h.2 c11
    refine lv_iload hx hb dL_law_384 (lv_at hl 10 rfl) ?_
    refine lv_iconst (v := 3) hx hb dL_law_386 (by decide) ?_
    refine lv_ishr hx hb dL_law_387 ?_
    refine lv_iconst (v := 3) hx hb dL_law_388 (by decide) ?_
    refine lv_irem hx hb dL_law_389 (by decide) ?_
    refine lv_topi (fun v12 ev12 => ?_)
    replace h := h v12 ev12
    refine lv_istore (lv' := [(15, .int v12), (0, .ref b), (1, .ref (ad 0)), (2, .int a2), (3, .int a3), (4, .int a4), (5, .int a5), (6, .int a6), (7, .int a7), (8, .int a8), (9, .int a9), (11, .int a11), (12, .int a12), (13, .int a13), (14, .int a14)]) hx hb dL_law_390 hl (by decide) rfl (fun ls hl => ?_)
    refine lv_aload_n hx hb dL_law_392 rfl (lv_at hl 2 rfl) ?_
    refine lv_iconst (v := 0) hx hb dL_law_393 (by decide) ?_
    refine lv_iload hx hb dL_law_394 (lv_at hl 0 rfl) ?_
    refine lv_iconst (v := 2) hx hb dL_law_396 (by decide) ?_
    have key14 : ∀ v13 : Int32, ((2 ≤ v12) → v13 = 5) → ((¬ 2 ≤ v12) → v13 = (v12 + 2)) → W p l e room_1 s m #[Value.ref b] below meth c H locs (cells + 0) (slots + 0) (lw_Z below #[Value.ref b] s) (F0 m 408 ls [.int v13, .int 0, .ref (ad 0)]) := by
      intro v13 q14_0 q14_1
      replace h := h v13 q14_0 q14_1
      refine lv_iconst (v := 0) hx hb dL_law_408 (by decide) ?_
      refine lv_iconst (v := 0) hx hb dL_law_409 (by decide) ?_
      refine cc_iM (vx_runSW (As := [.ref (ad 0), .int 0, .int v13, .int 0, .int 0]) (rest := []) ⟨hx, hb, hml, hown, hts⟩ (c_L_ask hflag hL hwd H.size u 0 v13 0 0 _ h) (vx_cwSW 5 hts gL_law_L_ask rfl rfl rfl (by decide +kernel) ⟨Nat.le_of_ble_eq_true rfl, Nat.le_of_ble_eq_true rfl⟩) (pcSN hC hX hN hP hS) rfl rfl hl.1 rfl (lv_room (Nat.le_of_ble_eq_true rfl)) dL_law_410 ⟨Nat.le_trans (by omega : cells + 0 + 4 ≤ cells + 60) hcell, Nat.le_trans (by omega : slots + 0 + 24 ≤ slots + 6000) hslot⟩) hS (cA_mono hS.1) (fun v15 u16 H locs h hP hS => ?_)
      refine W.widen (k := cells + 4) (n := slots + 24) (by omega) (by omega) ?_
      refine lv_iload_n hx hb dL_law_413 rfl (lv_at hl 3 rfl) ?_
      have key18 : ∀ v17 : Int32, ((¬ v15 = a2) → v17 = 0) → ((v15 = a2) → v17 = 1) → W p l e room_1 s m #[Value.ref b] below meth c H locs (cells + 4) (slots + 24) (lw_Z below #[Value.ref b] s) (F0 m 422 ls [.int v17]) := by
        intro v17 q18_0 q18_1
        replace h := h v17 q18_0 q18_1
        refine lv_istore (lv' := [(7, .int v17), (15, .int v12), (0, .ref b), (1, .ref (ad 0)), (2, .int a2), (3, .int a3), (4, .int a4), (5, .int a5), (6, .int a6), (8, .int a8), (9, .int a9), (11, .int a11), (12, .int a12), (13, .int a13), (14, .int a14)]) hx hb dL_law_422 hl (by decide) rfl (fun ls hl => ?_)
        refine lv_iload hx hb dL_law_424 (lv_at hl 1 rfl) ?_
        refine lv_iconst (v := 2) hx hb dL_law_426 (by decide) ?_
        have key20 : ∀ v19 : Int32, ((2 ≤ v12) → v19 = 5) → ((¬ 2 ≤ v12) → v19 = (v12 + 2)) → W p l e room_1 s m #[Value.ref b] below meth c H locs (cells + 4) (slots + 24) (lw_Z below #[Value.ref b] s) (F0 m 438 ls [.int v19]) := by
          intro v19 q20_0 q20_1
          replace h := h v19 q20_0 q20_1
          refine lv_istore_n (lv' := [(2, .int v19), (7, .int v17), (15, .int v12), (0, .ref b), (1, .ref (ad 0)), (3, .int a3), (4, .int a4), (5, .int a5), (6, .int a6), (8, .int a8), (9, .int a9), (11, .int a11), (12, .int a12), (13, .int a13), (14, .int a14)]) hx hb dL_law_438 rfl hl (by decide) rfl (fun ls hl => ?_)
          refine lv_iconst (v := 0) hx hb dL_law_439 (by decide) ?_
          refine lv_istore_n (lv' := [(3, .int 0), (2, .int v19), (7, .int v17), (15, .int v12), (0, .ref b), (1, .ref (ad 0)), (4, .int a4), (5, .int a5), (6, .int a6), (8, .int a8), (9, .int a9), (11, .int a11), (12, .int a12), (13, .int a13), (14, .int a14)]) hx hb dL_law_440 rfl hl (by decide) rfl (fun ls hl => ?_)
          refine lv_iconst (v := 0) hx hb dL_law_441 (by decide) ?_
          refine lv_istore (lv' := [(4, .int 0), (3, .int 0), (2, .int v19), (7, .int v17), (15, .int v12), (0, .ref b), (1, .ref (ad 0)), (5, .int a5), (6, .int a6), (8, .int a8), (9, .int a9), (11, .int a11), (12, .int a12), (13, .int a13), (14, .int a14)]) hx hb dL_law_442 hl (by decide) rfl (fun ls hl => ?_)
          refine lv_goto (tgt := 1268) hx hb dL_law_444 (by decide) ?_
          refine W.widen (k := cells + 60) (n := slots + 6000) (by omega) (by omega) ?_
          exact hK _ _ _ v19 0 0 a5 a6 v17 _ _ _ _ X hL hLb hA9 h hP hS (lv_sub hl [5, 6, 2, 1, 0, 7, 8, 3, 9, 10] rfl)
        clear h
        refine lv_icmp_ge (tgt := 437) hx hb dL_law_427 (by decide) (fun c19 => ?_) (fun c19 => ?_)
        · skip
          refine lv_iconst (v := 5) hx hb dL_law_437 (by decide) ?_
          exact key20 5 (fun _ => rfl) (fun n9 => absurd c19 n9)
        · skip
          refine lv_iload hx hb dL_law_430 (lv_at hl 1 rfl) ?_
          refine lv_iconst (v := 2) hx hb dL_law_432 (by decide) ?_
          refine lv_iadd hx hb dL_law_433 ?_
          refine lv_goto (tgt := 438) hx hb dL_law_434 (by decide) ?_
          exact key20 (v12 + 2) (fun n9 => absurd n9 c19) (fun _ => rfl)
      clear h
      refine lv_icmp_ne (tgt := 421) hx hb dL_law_414 (by decide) (fun c17 => ?_) (fun c17 => ?_)
      · skip
        refine lv_iconst (v := 0) hx hb dL_law_421 (by decide) ?_
        exact key18 0 (fun _ => rfl) (fun n9 => absurd n9 c17)
      · skip
        refine lv_iconst (v := 1) hx hb dL_law_417 (by decide) ?_
        refine lv_goto (tgt := 422) hx hb dL_law_418 (by decide) ?_
        exact key18 1 (fun n9 => absurd c17 n9) (fun _ => rfl)
    clear h
    refine lv_icmp_ge (tgt := 407) hx hb dL_law_397 (by decide) (fun c13 => ?_) (fun c13 => ?_)
    · skip
      refine lv_iconst (v := 5) hx hb dL_law_407 (by decide) ?_
      exact key14 5 (fun _ => rfl) (fun n9 => absurd c13 n9)
    · skip
      refine lv_iload hx hb dL_law_400 (lv_at hl 0 rfl) ?_
      refine lv_iconst (v := 2) hx hb dL_law_402 (by decide) ?_
      refine lv_iadd hx hb dL_law_403 ?_
      refine lv_goto (tgt := 408) hx hb dL_law_404 (by decide) ?_
      exact key14 (v12 + 2) (fun n9 => absurd n9 c13) (fun _ => rfl)
set_option maxRecDepth 100000 in
set_option maxHeartbeats 8000000 in
theorem w_L_law_B228 {p : Program} {l : Launch} {e : Env} {s : State} {m : MethodId} {b : Nat} {below : List Frame} {meth : Method} {c : Code} {D : va_G} {cI cG cZ cJ : ClassId} {ts : Nat × Nat} {L : List Nat} {ad : Nat → Nat} {al : Nat} (hflag : l.stackTraces = false) (hX : XW s) (hN : NCW s) {cells slots : Nat} (hcell : cells + 60 ≤ 600104) (hslot : slots + 6000 ≤ 7301314) (K : Nat → Int32 → Int32 → Int32 → Int32 → Int32 → Int32 → St → Prop) {a8 a9 : Int32} (hK : ∀ (L : List Nat) (ad : Nat → Nat) (al : Nat) (b2 b3 b4 b5 b6 b7 : Int32) (u : St) (H : Heap) (locs : List Loc) (ls : Array Slot), FX RL wsL_law cL_law 18 (some .boolean) D cI cG cZ cJ ts L ad p s m #[Value.ref b] meth c → Lf L al → Lb L al → cA L ad s.heap.size = AL s → K al b2 b3 b4 b5 b6 b7 u → va_P D vwCl (cW cI cG L ad al u) H → va_S (cA L ad s.heap.size) s.heap H locs → lv_has ls 18 [(0, .ref b), (1, .ref (ad 0)), (2, .int b2), (3, .int b3), (4, .int b4), (5, .int b5), (6, .int b6), (7, .int b7), (8, .int a8), (9, .int a9)] → W p l e room_1 s m #[Value.ref b] below meth c H locs (cells + 60) (slots + 6000) (lw_Z below #[Value.ref b] s) (F0 m 1268 ls []))
    (hL : Lf L al) (hLb : Lb L al) (hA9 : cA L ad s.heap.size = AL s) (X : FX RL wsL_law cL_law 18 (some .boolean) D cI cG cZ cJ ts L ad p s m #[Value.ref b] meth c) (a2 : Int32) (a3 : Int32) (a4 : Int32) (a5 : Int32) (a6 : Int32) (a7 : Int32) (a11 : Int32) (u : St) (H : Heap) (locs : List Loc) (ls : Array Slot) (h : f_L_law_B228 al a2 a3 a4 a5 a6 a7 a8 a9 a11 K u) (hP : va_P D vwCl (cW cI cG L ad al u) H) (hS : va_S (cA L ad s.heap.size) s.heap H locs) (hl : lv_has ls 18 [(0, .ref b), (1, .ref (ad 0)), (2, .int a2), (3, .int a3), (4, .int a4), (5, .int a5), (6, .int a6), (7, .int a7), (8, .int a8), (9, .int a9), (11, .int a11)]) : W p l e room_1 s m #[Value.ref b] below meth c H locs (cells + 0) (slots + 0) (lw_Z below #[Value.ref b] s) (F0 m 228 ls []) := by
  obtain ⟨hx, hb, hml, hown, hts, hr, hlocks, hwd, hC⟩ := id X
  have hK0 := hC.1
  have m0 : 0 ∈ L := hL 0 (by omega)
  obtain ⟨i0, hi0⟩ := wL_ix m0
  unfold f_L_law_B228 at h
  refine lv_iload hx hb dL_law_228 (lv_at hl 10 rfl) ?_
  refine lv_iconst (v := 3) hx hb dL_law_230 (by decide) ?_
  refine lv_ishr hx hb dL_law_231 ?_
  refine lv_iload_n hx hb dL_law_232 rfl (lv_at hl 2 rfl) ?_
  refine lv_iconst (v := 4) hx hb dL_law_233 (by decide) ?_
  refine cc_i (va_runS (As := [.int a2, .int 4]) (rest := [.int (a11 >>> (3 &&& 31))]) ⟨hx, hb, hml, hown, hts⟩ (c_L_power hL hwd H.size u a2 4 _ h) (va_cwS 2 hts gL_law_L_power rfl rfl rfl (by decide +kernel) ⟨Nat.le_of_ble_eq_true rfl, Nat.le_of_ble_eq_true rfl⟩) (pcS hC hP hS) rfl rfl hl.1 rfl (lv_room (Nat.le_of_ble_eq_true rfl)) dL_law_234 ⟨Nat.le_trans (by omega : cells + 0 + 0 ≤ cells + 60) hcell, Nat.le_trans (by omega : slots + 0 + 0 ≤ slots + 6000) hslot⟩) hS (cA_mono hS.1) (fun v11 u12 H locs h hP hS => ?_)
  refine lv_irem hx hb dL_law_237 h.1 ?_
  replace h := h.2
  refine lv_topi (fun v13 ev13 => ?_)
  replace h := h v13 ev13
  refine lv_istore (lv' := [(15, .int v13), (0, .ref b), (1, .ref (ad 0)), (2, .int a2), (3, .int a3), (4, .int a4), (5, .int a5), (6, .int a6), (7, .int a7), (8, .int a8), (9, .int a9), (11, .int a11)]) hx hb dL_law_238 hl (by decide) rfl (fun ls hl => ?_)
  refine lv_aload_n hx hb dL_law_240 rfl (lv_at hl 2 rfl) ?_
  refine lv_iload hx hb dL_law_241 (lv_at hl 0 rfl) ?_
  refine lv_iload_n hx hb dL_law_243 rfl (lv_at hl 3 rfl) ?_
  refine lv_irem hx hb dL_law_244 h.1 ?_
  replace h := h.2
  refine lv_topi (fun v14 ev14 => ?_)
  replace h := h v14 ev14
  refine lv_iload hx hb dL_law_245 (lv_at hl 0 rfl) ?_
  refine lv_iload_n hx hb dL_law_247 rfl (lv_at hl 3 rfl) ?_
  refine lv_idiv hx hb dL_law_248 h.1 ?_
  replace h := h.2
  refine lv_topi (fun v15 ev15 => ?_)
  replace h := h v15 ev15
  refine lv_iload_n hx hb dL_law_249 rfl (lv_at hl 3 rfl) ?_
  refine lv_irem hx hb dL_law_250 h.1 ?_
  replace h := h.2
  refine lv_topi (fun v16 ev16 => ?_)
  replace h := h v16 ev16
  refine lv_iload hx hb dL_law_251 (lv_at hl 0 rfl) ?_
  refine lv_iload_n hx hb dL_law_253 rfl (lv_at hl 3 rfl) ?_
  refine lv_iload_n hx hb dL_law_254 rfl (lv_at hl 3 rfl) ?_
  refine lv_imul hx hb dL_law_255 ?_
  refine lv_idiv hx hb dL_law_256 h.1 ?_
  replace h := h.2
  refine lv_topi (fun v17 ev17 => ?_)
  replace h := h v17 ev17
  refine lv_iload_n hx hb dL_law_257 rfl (lv_at hl 3 rfl) ?_
  refine lv_irem hx hb dL_law_258 h.1 ?_
  replace h := h.2
  refine lv_topi (fun v18 ev18 => ?_)
  replace h := h v18 ev18
  refine lv_iload hx hb dL_law_259 (lv_at hl 0 rfl) ?_
  refine lv_iload_n hx hb dL_law_261 rfl (lv_at hl 3 rfl) ?_
  refine lv_iload_n hx hb dL_law_262 rfl (lv_at hl 3 rfl) ?_
  refine lv_imul hx hb dL_law_263 ?_
  refine lv_iload_n hx hb dL_law_264 rfl (lv_at hl 3 rfl) ?_
  refine lv_imul hx hb dL_law_265 ?_
  refine lv_idiv hx hb dL_law_266 h.1 ?_
  replace h := h.2
  refine lv_topi (fun v19 ev19 => ?_)
  replace h := h v19 ev19
  refine lw_g (vx_runSW (As := [.ref (ad 0), .int v14, .int v16, .int v18, .int v19]) (rest := []) ⟨hx, hb, hml, hown, hts⟩ (c_L_generator hflag hL hLb hwd H.size u12 v14 v16 v18 v19 _ h) (vx_cwSW 5 hts gL_law_L_generator rfl rfl rfl (by decide +kernel) ⟨Nat.le_of_ble_eq_true rfl, Nat.le_of_ble_eq_true rfl⟩) (pcSN hC hX hN hP hS) rfl rfl hl.1 rfl (lv_room (Nat.le_of_ble_eq_true rfl)) dL_law_267 ⟨Nat.le_trans (by omega : cells + 0 + 2 ≤ cells + 60) hcell, Nat.le_trans (by omega : slots + 0 + 3902 ≤ slots + 6000) hslot⟩) hS hC (fun v20 L9 ad9 al9 u21 H locs hXT h hP hS hC => ?_)
  refine W.widen (k := cells + 2) (n := slots + 3902) (by omega) (by omega) ?_
  have e0 : ad9 0 = ad 0 := hXT.2.2.2.2 0 (by decide)
  rw [← e0] at hl
  have X : FX RL wsL_law cL_law 18 (some .boolean) D cI cG cZ cJ ts L9 ad9 p s m #[Value.ref b] meth c := ⟨hx, hb, hml, hown, hts, hr, hlocks, hXT.1, hC⟩
  have hA9 := hXT.2.2.2.1.trans hA9
  have hL := hXT.2.1
  have hLb := hXT.2.2.1
  have hwd := hXT.1
  refine lv_istore (lv' := [(16, .int v20), (15, .int v13), (0, .ref b), (1, .ref (ad9 0)), (2, .int a2), (3, .int a3), (4, .int a4), (5, .int a5), (6, .int a6), (7, .int a7), (8, .int a8), (9, .int a9), (11, .int a11)]) hx hb dL_law_270 hl (by decide) rfl (fun ls hl => ?_)
  refine lv_iload hx hb dL_law_272 (lv_at hl 1 rfl) ?_
  refine lv_iload_n hx hb dL_law_274 rfl (lv_at hl 4 rfl) ?_
  refine lv_irem hx hb dL_law_275 h.1 ?_
  replace h := h.2
  refine lv_topi (fun v40 ev40 => ?_)
  replace h := h v40 ev40
  refine lv_iload hx hb dL_law_276 (lv_at hl 1 rfl) ?_
  refine lv_iload_n hx hb dL_law_278 rfl (lv_at hl 4 rfl) ?_
  refine lv_iload_n hx hb dL_law_279 rfl (lv_at hl 4 rfl) ?_
  refine lv_imul hx hb dL_law_280 ?_
  refine lv_iload_n hx hb dL_law_281 rfl (lv_at hl 4 rfl) ?_
  refine lv_imul hx hb dL_law_282 ?_
  refine lv_idiv hx hb dL_law_283 h.1 ?_
  replace h := h.2
  refine lv_topi (fun v41 ev41 => ?_)
  replace h := h v41 ev41
  refine lv_imul hx hb dL_law_284 ?_
  refine lv_iload hx hb dL_law_285 (lv_at hl 1 rfl) ?_
  refine lv_iload_n hx hb dL_law_287 rfl (lv_at hl 4 rfl) ?_
  refine lv_idiv hx hb dL_law_288 h.1 ?_
  replace h := h.2
  refine lv_topi (fun v42 ev42 => ?_)
  replace h := h v42 ev42
  refine lv_iload_n hx hb dL_law_289 rfl (lv_at hl 4 rfl) ?_
  refine lv_irem hx hb dL_law_290 h.1 ?_
  replace h := h.2
  refine lv_topi (fun v43 ev43 => ?_)
  replace h := h v43 ev43
  refine lv_iload hx hb dL_law_291 (lv_at hl 1 rfl) ?_
  refine lv_iload_n hx hb dL_law_293 rfl (lv_at hl 4 rfl) ?_
  refine lv_iload_n hx hb dL_law_294 rfl (lv_at hl 4 rfl) ?_
  refine lv_imul hx hb dL_law_295 ?_
  refine lv_idiv hx hb dL_law_296 h.1 ?_
  replace h := h.2
  refine lv_topi (fun v44 ev44 => ?_)
  replace h := h v44 ev44
  refine lv_iload_n hx hb dL_law_297 rfl (lv_at hl 4 rfl) ?_
  refine lv_irem hx hb dL_law_298 h.1 ?_
  replace h := h.2
  refine lv_topi (fun v45 ev45 => ?_)
  replace h := h v45 ev45
  refine lv_imul hx hb dL_law_299 ?_
  refine lv_isub hx hb dL_law_300 ?_
  refine lv_iload_n hx hb dL_law_301 rfl (lv_at hl 4 rfl) ?_
  refine lv_irem hx hb dL_law_302 h.1 ?_
  replace h := h.2
  refine lv_topi (fun v46 ev46 => ?_)
  replace h := h v46 ev46
  refine lv_iload_n hx hb dL_law_303 rfl (lv_at hl 4 rfl) ?_
  refine lv_iadd hx hb dL_law_304 ?_
  refine lv_iload_n hx hb dL_law_305 rfl (lv_at hl 4 rfl) ?_
  refine lv_irem hx hb dL_law_306 h.1 ?_
  replace h := h.2
  refine lv_topi (fun v47 ev47 => ?_)
  replace h := h v47 ev47
  have key49 : ∀ v48 : Int32, ((v47 ≤ 0) → v48 = 0) → ((¬ v47 ≤ 0) → v48 = 1) → W p l e room_1 s m #[Value.ref b] below meth c H locs (cells + 2) (slots + 3902) (lw_Z below #[Value.ref b] s) (F0 m 315 ls [.int v48]) := by
    intro v48 q49_0 q49_1
    replace h := h v48 q49_0 q49_1
    refine lv_istore (lv' := [(17, .int v48), (16, .int v20), (15, .int v13), (0, .ref b), (1, .ref (ad9 0)), (2, .int a2), (3, .int a3), (4, .int a4), (5, .int a5), (6, .int a6), (7, .int a7), (8, .int a8), (9, .int a9), (11, .int a11)]) hx hb dL_law_315 hl (by decide) rfl (fun ls hl => ?_)
    refine lv_iload hx hb dL_law_317 (lv_at hl 1 rfl) ?_
    refine lv_iload hx hb dL_law_319 (lv_at hl 0 rfl) ?_
    have key51 : ∀ v50 : Int32, ((¬ v48 = 0) → (¬ a4 = 4) → v50 = a4) → ((¬ v48 = 0) → (a4 = 4) → v50 = (-13)) → ((v48 = 0) → v50 = (-12)) → W p l e room_1 s m #[Value.ref b] below meth c H locs (cells + 2) (slots + 3902) (lw_Z below #[Value.ref b] s) (F0 m 342 ls [.int v50, .int v20]) := by
      intro v50 q51_0 q51_1 q51_2
      replace h := h v50 q51_0 q51_1 q51_2
      have key53 : ∀ v52 : Int32, ((¬ v20 = v50) → v52 = 0) → ((v20 = v50) → v52 = 1) → W p l e room_1 s m #[Value.ref b] below meth c H locs (cells + 2) (slots + 3902) (lw_Z below #[Value.ref b] s) (F0 m 350 ls [.int v52]) := by
        intro v52 q53_0 q53_1
        replace h := h v52 q53_0 q53_1
        refine lv_istore (lv' := [(7, .int v52), (17, .int v48), (16, .int v20), (15, .int v13), (0, .ref b), (1, .ref (ad9 0)), (2, .int a2), (3, .int a3), (4, .int a4), (5, .int a5), (6, .int a6), (8, .int a8), (9, .int a9), (11, .int a11)]) hx hb dL_law_350 hl (by decide) rfl (fun ls hl => ?_)
        refine lv_iload hx hb dL_law_352 (lv_at hl 8 rfl) ?_
        refine lv_iload hx hb dL_law_354 (lv_at hl 2 rfl) ?_
        have key55 : ∀ v54 : Int32, ((v20 < 0) → v54 = 0) → ((¬ v20 < 0) → v54 = 1) → W p l e room_1 s m #[Value.ref b] below meth c H locs (cells + 2) (slots + 3902) (lw_Z below #[Value.ref b] s) (F0 m 364 ls [.int v54, .int a4]) := by
          intro v54 q55_0 q55_1
          replace h := h v54 q55_0 q55_1
          refine lv_iadd hx hb dL_law_364 ?_
          refine lv_topi (fun v56 ev56 => ?_)
          replace h := h v56 ev56
          refine lv_istore (lv' := [(4, .int v56), (7, .int v52), (17, .int v48), (16, .int v20), (15, .int v13), (0, .ref b), (1, .ref (ad9 0)), (2, .int a2), (3, .int a3), (5, .int a5), (6, .int a6), (8, .int a8), (9, .int a9), (11, .int a11)]) hx hb dL_law_365 hl (by decide) rfl (fun ls hl => ?_)
          refine lv_goto (tgt := 1268) hx hb dL_law_367 (by decide) ?_
          refine W.widen (k := cells + 60) (n := slots + 6000) (by omega) (by omega) ?_
          exact hK _ _ _ a2 a3 v56 a5 a6 v52 _ _ _ _ X hL hLb hA9 h hP hS (lv_sub hl [5, 6, 7, 8, 0, 9, 10, 1, 11, 12] rfl)
        clear h
        refine lv_if_lt (tgt := 363) hx hb dL_law_356 (by decide) (fun c54 => ?_) (fun c54 => ?_)
        · skip
          refine lv_iconst (v := 0) hx hb dL_law_363 (by decide) ?_
          exact key55 0 (fun _ => rfl) (fun n9 => absurd c54 n9)
        · skip
          refine lv_iconst (v := 1) hx hb dL_law_359 (by decide) ?_
          refine lv_goto (tgt := 364) hx hb dL_law_360 (by decide) ?_
          exact key55 1 (fun n9 => absurd n9 c54) (fun _ => rfl)
      clear h
      refine lv_icmp_ne (tgt := 349) hx hb dL_law_342 (by decide) (fun c52 => ?_) (fun c52 => ?_)
      · skip
        refine lv_iconst (v := 0) hx hb dL_law_349 (by decide) ?_
        exact key53 0 (fun _ => rfl) (fun n9 => absurd n9 c52)
      · skip
        refine lv_iconst (v := 1) hx hb dL_law_345 (by decide) ?_
        refine lv_goto (tgt := 350) hx hb dL_law_346 (by decide) ?_
        exact key53 1 (fun n9 => absurd c52 n9) (fun _ => rfl)
    clear h
    refine lv_if_ne (tgt := 329) hx hb dL_law_321 (by decide) (fun c50 => ?_) (fun c50 => ?_)
    · skip
      refine lv_iload hx hb dL_law_329 (lv_at hl 7 rfl) ?_
      refine lv_iconst (v := 4) hx hb dL_law_331 (by decide) ?_
      refine lv_icmp_ne (tgt := 340) hx hb dL_law_332 (by decide) (fun c51 => ?_) (fun c51 => ?_)
      · skip
        refine lv_iload hx hb dL_law_340 (lv_at hl 7 rfl) ?_
        exact key51 a4 (fun _ _ => rfl) (fun _ n9 => absurd n9 c51) (fun n9 => absurd n9 c50)
      · skip
        refine lv_bipush (v := (-13)) hx hb dL_law_335 (by decide) ?_
        refine lv_goto (tgt := 342) hx hb dL_law_337 (by decide) ?_
        exact key51 (-13) (fun _ n9 => absurd c51 n9) (fun _ _ => rfl) (fun n9 => absurd n9 c50)
    · skip
      refine lv_bipush (v := (-12)) hx hb dL_law_324 (by decide) ?_
      refine lv_goto (tgt := 342) hx hb dL_law_326 (by decide) ?_
      exact key51 (-12) (fun n9 _ => absurd c50 n9) (fun n9 _ => absurd c50 n9) (fun _ => rfl)
  clear h
  refine lv_if_le (tgt := 314) hx hb dL_law_307 (by decide) (fun c48 => ?_) (fun c48 => ?_)
  · skip
    refine lv_iconst (v := 0) hx hb dL_law_314 (by decide) ?_
    exact key49 0 (fun _ => rfl) (fun n9 => absurd c48 n9)
  · skip
    refine lv_iconst (v := 1) hx hb dL_law_310 (by decide) ?_
    refine lv_goto (tgt := 315) hx hb dL_law_311 (by decide) ?_
    exact key49 1 (fun n9 => absurd n9 c48) (fun _ => rfl)
set_option maxRecDepth 100000 in
set_option maxHeartbeats 8000000 in
theorem w_L_law_B149 {p : Program} {l : Launch} {e : Env} {s : State} {m : MethodId} {b : Nat} {below : List Frame} {meth : Method} {c : Code} {D : va_G} {cI cG cZ cJ : ClassId} {ts : Nat × Nat} {L : List Nat} {ad : Nat → Nat} {al : Nat} (hflag : l.stackTraces = false) (hX : XW s) (hN : NCW s) {cells slots : Nat} (hcell : cells + 60 ≤ 600104) (hslot : slots + 6000 ≤ 7301314) (K : Nat → Int32 → Int32 → Int32 → Int32 → Int32 → Int32 → St → Prop) {a8 a9 : Int32} (hK : ∀ (L : List Nat) (ad : Nat → Nat) (al : Nat) (b2 b3 b4 b5 b6 b7 : Int32) (u : St) (H : Heap) (locs : List Loc) (ls : Array Slot), FX RL wsL_law cL_law 18 (some .boolean) D cI cG cZ cJ ts L ad p s m #[Value.ref b] meth c → Lf L al → Lb L al → cA L ad s.heap.size = AL s → K al b2 b3 b4 b5 b6 b7 u → va_P D vwCl (cW cI cG L ad al u) H → va_S (cA L ad s.heap.size) s.heap H locs → lv_has ls 18 [(0, .ref b), (1, .ref (ad 0)), (2, .int b2), (3, .int b3), (4, .int b4), (5, .int b5), (6, .int b6), (7, .int b7), (8, .int a8), (9, .int a9)] → W p l e room_1 s m #[Value.ref b] below meth c H locs (cells + 60) (slots + 6000) (lw_Z below #[Value.ref b] s) (F0 m 1268 ls []))
    (hL : Lf L al) (hLb : Lb L al) (hA9 : cA L ad s.heap.size = AL s) (X : FX RL wsL_law cL_law 18 (some .boolean) D cI cG cZ cJ ts L ad p s m #[Value.ref b] meth c) (a2 : Int32) (a3 : Int32) (a4 : Int32) (a5 : Int32) (a6 : Int32) (a7 : Int32) (a11 : Int32) (u : St) (H : Heap) (locs : List Loc) (ls : Array Slot) (h : f_L_law_B149 al a2 a3 a4 a5 a6 a7 a8 a9 a11 K u) (hP : va_P D vwCl (cW cI cG L ad al u) H) (hS : va_S (cA L ad s.heap.size) s.heap H locs) (hl : lv_has ls 18 [(0, .ref b), (1, .ref (ad 0)), (2, .int a2), (3, .int a3), (4, .int a4), (5, .int a5), (6, .int a6), (7, .int a7), (8, .int a8), (9, .int a9), (11, .int a11)]) : W p l e room_1 s m #[Value.ref b] below meth c H locs (cells + 0) (slots + 0) (lw_Z below #[Value.ref b] s) (F0 m 149 ls []) := by
  obtain ⟨hx, hb, hml, hown, hts, hr, hlocks, hwd, hC⟩ := id X
  have hK0 := hC.1
  have m0 : 0 ∈ L := hL 0 (by omega)
  obtain ⟨i0, hi0⟩ := wL_ix m0
  unfold f_L_law_B149 at h
  refine lv_iconst (v := 1) hx hb dL_law_149 (by decide) ?_
  refine lv_iload hx hb dL_law_150 (lv_at hl 10 rfl) ?_
  refine lv_iconst (v := 2) hx hb dL_law_152 (by decide) ?_
  refine lv_ishr hx hb dL_law_153 ?_
  refine lv_iconst (v := 4) hx hb dL_law_154 (by decide) ?_
  refine lv_irem hx hb dL_law_155 (by decide) ?_
  refine lv_topi (fun v11 ev11 => ?_)
  replace h := h v11 ev11
  refine lv_iadd hx hb dL_law_156 ?_
  refine lv_topi (fun v12 ev12 => ?_)
  replace h := h v12 ev12
  refine lv_istore (lv' := [(15, .int v12), (0, .ref b), (1, .ref (ad 0)), (2, .int a2), (3, .int a3), (4, .int a4), (5, .int a5), (6, .int a6), (7, .int a7), (8, .int a8), (9, .int a9), (11, .int a11)]) hx hb dL_law_157 hl (by decide) rfl (fun ls hl => ?_)
  refine lv_aload_n hx hb dL_law_159 rfl (lv_at hl 2 rfl) ?_
  refine lv_iconst (v := 1) hx hb dL_law_160 (by decide) ?_
  refine lv_iload hx hb dL_law_161 (lv_at hl 0 rfl) ?_
  refine lv_iload hx hb dL_law_163 (lv_at hl 11 rfl) ?_
  refine lv_iconst (v := 5) hx hb dL_law_165 (by decide) ?_
  refine lv_ishr hx hb dL_law_166 ?_
  refine lv_iload_n hx hb dL_law_167 rfl (lv_at hl 3 rfl) ?_
  refine lv_iload hx hb dL_law_168 (lv_at hl 0 rfl) ?_
  refine lv_iconst (v := 1) hx hb dL_law_170 (by decide) ?_
  refine lv_iadd hx hb dL_law_171 ?_
  refine cc_i (va_runS (As := [.int a2, .int (v12 + 1)]) (rest := [.int (a11 >>> (5 &&& 31)), .int v12, .int 1, .ref (ad 0)]) ⟨hx, hb, hml, hown, hts⟩ (c_L_power hL hwd H.size u a2 (v12 + 1) _ h) (va_cwS 2 hts gL_law_L_power rfl rfl rfl (by decide +kernel) ⟨Nat.le_of_ble_eq_true rfl, Nat.le_of_ble_eq_true rfl⟩) (pcS hC hP hS) rfl rfl hl.1 rfl (lv_room (Nat.le_of_ble_eq_true rfl)) dL_law_172 ⟨Nat.le_trans (by omega : cells + 0 + 0 ≤ cells + 60) hcell, Nat.le_trans (by omega : slots + 0 + 0 ≤ slots + 6000) hslot⟩) hS (cA_mono hS.1) (fun v13 u14 H locs h hP hS => ?_)
  refine lv_irem hx hb dL_law_175 h.1 ?_
  replace h := h.2
  refine lv_topi (fun v15 ev15 => ?_)
  replace h := h v15 ev15
  refine lv_iconst (v := 0) hx hb dL_law_176 (by decide) ?_
  refine cc_iM (vx_runSW (As := [.ref (ad 0), .int 1, .int v12, .int v15, .int 0]) (rest := []) ⟨hx, hb, hml, hown, hts⟩ (c_L_ask hflag hL hwd H.size u14 1 v12 v15 0 _ h) (vx_cwSW 5 hts gL_law_L_ask rfl rfl rfl (by decide +kernel) ⟨Nat.le_of_ble_eq_true rfl, Nat.le_of_ble_eq_true rfl⟩) (pcSN hC hX hN hP hS) rfl rfl hl.1 rfl (lv_room (Nat.le_of_ble_eq_true rfl)) dL_law_177 ⟨Nat.le_trans (by omega : cells + 0 + 4 ≤ cells + 60) hcell, Nat.le_trans (by omega : slots + 0 + 24 ≤ slots + 6000) hslot⟩) hS (cA_mono hS.1) (fun v16 u17 H locs h hP hS => ?_)
  refine W.widen (k := cells + 4) (n := slots + 24) (by omega) (by omega) ?_
  refine lv_istore (lv' := [(16, .int v16), (15, .int v12), (0, .ref b), (1, .ref (ad 0)), (2, .int a2), (3, .int a3), (4, .int a4), (5, .int a5), (6, .int a6), (7, .int a7), (8, .int a8), (9, .int a9), (11, .int a11)]) hx hb dL_law_180 hl (by decide) rfl (fun ls hl => ?_)
  refine lv_iload hx hb dL_law_182 (lv_at hl 0 rfl) ?_
  refine lv_iload_n hx hb dL_law_184 rfl (lv_at hl 5 rfl) ?_
  refine lv_bipush (v := 20) hx hb dL_law_185 (by decide) ?_
  have key19 : ∀ v18 : Int32, ((¬ a3 = 20) → v18 = a3) → ((a3 = 20) → v18 = (-13)) → W p l e room_1 s m #[Value.ref b] below meth c H locs (cells + 4) (slots + 24) (lw_Z below #[Value.ref b] s) (F0 m 196 ls [.int v18, .int v16]) := by
    intro v18 q19_0 q19_1
    replace h := h v18 q19_0 q19_1
    have key21 : ∀ v20 : Int32, ((¬ v16 = v18) → v20 = 0) → ((v16 = v18) → v20 = 1) → W p l e room_1 s m #[Value.ref b] below meth c H locs (cells + 4) (slots + 24) (lw_Z below #[Value.ref b] s) (F0 m 204 ls [.int v20]) := by
      intro v20 q21_0 q21_1
      replace h := h v20 q21_0 q21_1
      refine lv_istore (lv' := [(7, .int v20), (16, .int v16), (15, .int v12), (0, .ref b), (1, .ref (ad 0)), (2, .int a2), (3, .int a3), (4, .int a4), (5, .int a5), (6, .int a6), (8, .int a8), (9, .int a9), (11, .int a11)]) hx hb dL_law_204 hl (by decide) rfl (fun ls hl => ?_)
      refine lv_iload_n hx hb dL_law_206 rfl (lv_at hl 6 rfl) ?_
      refine lv_iload hx hb dL_law_207 (lv_at hl 1 rfl) ?_
      have key23 : ∀ v22 : Int32, ((v16 < 0) → v22 = 0) → ((¬ v16 < 0) → v22 = 1) → W p l e room_1 s m #[Value.ref b] below meth c H locs (cells + 4) (slots + 24) (lw_Z below #[Value.ref b] s) (F0 m 217 ls [.int v22, .int a3]) := by
        intro v22 q23_0 q23_1
        replace h := h v22 q23_0 q23_1
        refine lv_iadd hx hb dL_law_217 ?_
        refine lv_topi (fun v24 ev24 => ?_)
        replace h := h v24 ev24
        refine lv_istore_n (lv' := [(3, .int v24), (7, .int v20), (16, .int v16), (15, .int v12), (0, .ref b), (1, .ref (ad 0)), (2, .int a2), (4, .int a4), (5, .int a5), (6, .int a6), (8, .int a8), (9, .int a9), (11, .int a11)]) hx hb dL_law_218 rfl hl (by decide) rfl (fun ls hl => ?_)
        refine lv_goto (tgt := 1268) hx hb dL_law_219 (by decide) ?_
        refine W.widen (k := cells + 60) (n := slots + 6000) (by omega) (by omega) ?_
        exact hK _ _ _ a2 v24 a4 a5 a6 v20 _ _ _ _ X hL hLb hA9 h hP hS (lv_sub hl [4, 5, 6, 0, 7, 8, 9, 1, 10, 11] rfl)
      clear h
      refine lv_if_lt (tgt := 216) hx hb dL_law_209 (by decide) (fun c22 => ?_) (fun c22 => ?_)
      · skip
        refine lv_iconst (v := 0) hx hb dL_law_216 (by decide) ?_
        exact key23 0 (fun _ => rfl) (fun n9 => absurd c22 n9)
      · skip
        refine lv_iconst (v := 1) hx hb dL_law_212 (by decide) ?_
        refine lv_goto (tgt := 217) hx hb dL_law_213 (by decide) ?_
        exact key23 1 (fun n9 => absurd n9 c22) (fun _ => rfl)
    clear h
    refine lv_icmp_ne (tgt := 203) hx hb dL_law_196 (by decide) (fun c20 => ?_) (fun c20 => ?_)
    · skip
      refine lv_iconst (v := 0) hx hb dL_law_203 (by decide) ?_
      exact key21 0 (fun _ => rfl) (fun n9 => absurd n9 c20)
    · skip
      refine lv_iconst (v := 1) hx hb dL_law_199 (by decide) ?_
      refine lv_goto (tgt := 204) hx hb dL_law_200 (by decide) ?_
      exact key21 1 (fun n9 => absurd c20 n9) (fun _ => rfl)
  clear h
  refine lv_icmp_ne (tgt := 195) hx hb dL_law_187 (by decide) (fun c18 => ?_) (fun c18 => ?_)
  · skip
    refine lv_iload_n hx hb dL_law_195 rfl (lv_at hl 5 rfl) ?_
    exact key19 a3 (fun _ => rfl) (fun n9 => absurd n9 c18)
  · skip
    refine lv_bipush (v := (-13)) hx hb dL_law_190 (by decide) ?_
    refine lv_goto (tgt := 196) hx hb dL_law_192 (by decide) ?_
    exact key19 (-13) (fun n9 => absurd c18 n9) (fun _ => rfl)
set_option maxRecDepth 100000 in
set_option maxHeartbeats 8000000 in
theorem w_L_law_B79 {p : Program} {l : Launch} {e : Env} {s : State} {m : MethodId} {b : Nat} {below : List Frame} {meth : Method} {c : Code} {D : va_G} {cI cG cZ cJ : ClassId} {ts : Nat × Nat} {L : List Nat} {ad : Nat → Nat} {al : Nat} (hflag : l.stackTraces = false) (hX : XW s) (hN : NCW s) {cells slots : Nat} (hcell : cells + 60 ≤ 600104) (hslot : slots + 6000 ≤ 7301314) (K : Nat → Int32 → Int32 → Int32 → Int32 → Int32 → Int32 → St → Prop) {a8 a9 : Int32} (hK : ∀ (L : List Nat) (ad : Nat → Nat) (al : Nat) (b2 b3 b4 b5 b6 b7 : Int32) (u : St) (H : Heap) (locs : List Loc) (ls : Array Slot), FX RL wsL_law cL_law 18 (some .boolean) D cI cG cZ cJ ts L ad p s m #[Value.ref b] meth c → Lf L al → Lb L al → cA L ad s.heap.size = AL s → K al b2 b3 b4 b5 b6 b7 u → va_P D vwCl (cW cI cG L ad al u) H → va_S (cA L ad s.heap.size) s.heap H locs → lv_has ls 18 [(0, .ref b), (1, .ref (ad 0)), (2, .int b2), (3, .int b3), (4, .int b4), (5, .int b5), (6, .int b6), (7, .int b7), (8, .int a8), (9, .int a9)] → W p l e room_1 s m #[Value.ref b] below meth c H locs (cells + 60) (slots + 6000) (lw_Z below #[Value.ref b] s) (F0 m 1268 ls []))
    (hL : Lf L al) (hLb : Lb L al) (hA9 : cA L ad s.heap.size = AL s) (X : FX RL wsL_law cL_law 18 (some .boolean) D cI cG cZ cJ ts L ad p s m #[Value.ref b] meth c) (a2 : Int32) (a3 : Int32) (a4 : Int32) (a5 : Int32) (a6 : Int32) (a7 : Int32) (a10 : Int32) (u : St) (H : Heap) (locs : List Loc) (ls : Array Slot) (h : f_L_law_B79 al a2 a3 a4 a5 a6 a7 a8 a9 a10 K u) (hP : va_P D vwCl (cW cI cG L ad al u) H) (hS : va_S (cA L ad s.heap.size) s.heap H locs) (hl : lv_has ls 18 [(0, .ref b), (1, .ref (ad 0)), (2, .int a2), (3, .int a3), (4, .int a4), (5, .int a5), (6, .int a6), (7, .int a7), (8, .int a8), (9, .int a9), (10, .int a10)]) : W p l e room_1 s m #[Value.ref b] below meth c H locs (cells + 0) (slots + 0) (lw_Z below #[Value.ref b] s) (F0 m 79 ls []) := by
  obtain ⟨hx, hb, hml, hown, hts, hr, hlocks, hwd, hC⟩ := id X
  have hK0 := hC.1
  have m0 : 0 ∈ L := hL 0 (by omega)
  obtain ⟨i0, hi0⟩ := wL_ix m0
  have lk0 := hts (.constant RL 74 (134217727)) (by decide +kernel)
  unfold f_L_law_B79 at h
  refine lv_iload hx hb dL_law_79 (lv_at hl 10 rfl) ?_
  refine lv_iconst (v := 5) hx hb dL_law_81 (by decide) ?_
  refine lv_ishr hx hb dL_law_82 ?_
  refine lv_ldc (v := 134217727) hx hb hown lk0 dL_law_83 ?_
  refine lv_iand hx hb dL_law_85 ?_
  refine lv_topi (fun v1 ev1 => ?_)
  replace h := h v1 ev1
  refine lv_istore (lv' := [(11, .int v1), (0, .ref b), (1, .ref (ad 0)), (2, .int a2), (3, .int a3), (4, .int a4), (5, .int a5), (6, .int a6), (7, .int a7), (8, .int a8), (9, .int a9), (10, .int a10)]) hx hb dL_law_86 hl (by decide) rfl (fun ls hl => ?_)
  refine lv_iload hx hb dL_law_88 (lv_at hl 10 rfl) ?_
  refine lv_iconst (v := 4) hx hb dL_law_90 (by decide) ?_
  obtain ⟨R3, h, hR3⟩ := h
  have key3 : ∀ (v2 : Int32), R3 v2 → W p l e room_1 s m #[Value.ref b] below meth c H locs (cells + 0) (slots + 0) (lw_Z below #[Value.ref b] s) (F0 m 108 ls [.int v2]) := by
    intro v2 h
    replace h := hR3 v2 h
    refine lv_istore (lv' := [(12, .int v2), (11, .int v1), (0, .ref b), (1, .ref (ad 0)), (2, .int a2), (3, .int a3), (4, .int a4), (5, .int a5), (6, .int a6), (7, .int a7), (8, .int a8), (9, .int a9), (10, .int a10)]) hx hb dL_law_108 hl (by decide) rfl (fun ls hl => ?_)
    refine lv_iload_n hx hb dL_law_110 rfl (lv_at hl 5 rfl) ?_
    obtain ⟨R5, h, hR5⟩ := h
    have key5 : ∀ (v4 : Int32), R5 v4 → W p l e room_1 s m #[Value.ref b] below meth c H locs (cells + 0) (slots + 0) (lw_Z below #[Value.ref b] s) (F0 m 124 ls [.int v4]) := by
      intro v4 h
      replace h := hR5 v4 h
      refine lv_istore (lv' := [(13, .int v4), (12, .int v2), (11, .int v1), (0, .ref b), (1, .ref (ad 0)), (2, .int a2), (3, .int a3), (4, .int a4), (5, .int a5), (6, .int a6), (7, .int a7), (8, .int a8), (9, .int a9), (10, .int a10)]) hx hb dL_law_124 hl (by decide) rfl (fun ls hl => ?_)
      refine lv_iload_n hx hb dL_law_126 rfl (lv_at hl 6 rfl) ?_
      obtain ⟨R7, h, hR7⟩ := h
      have key7 : ∀ (v6 : Int32), R7 v6 → W p l e room_1 s m #[Value.ref b] below meth c H locs (cells + 0) (slots + 0) (lw_Z below #[Value.ref b] s) (F0 m 141 ls [.int v6]) := by
        intro v6 h
        replace h := hR7 v6 h
        refine lv_istore (lv' := [(14, .int v6), (13, .int v4), (12, .int v2), (11, .int v1), (0, .ref b), (1, .ref (ad 0)), (2, .int a2), (3, .int a3), (4, .int a4), (5, .int a5), (6, .int a6), (7, .int a7), (8, .int a8), (9, .int a9), (10, .int a10)]) hx hb dL_law_141 hl (by decide) rfl (fun ls hl => ?_)
        refine lv_iload hx hb dL_law_143 (lv_at hl 2 rfl) ?_
        refine lv_iconst (v := 2) hx hb dL_law_145 (by decide) ?_
        refine lv_icmp_ge (tgt := 222) hx hb dL_law_146 (by decide) (fun c8 => ?_) (fun c8 => ?_)
        · replace h := h.1 c8
          refine lv_iload hx hb dL_law_222 (lv_at hl 2 rfl) ?_
          refine lv_iconst (v := 4) hx hb dL_law_224 (by decide) ?_
          refine lv_icmp_ge (tgt := 370) hx hb dL_law_225 (by decide) (fun c9 => ?_) (fun c9 => ?_)
          · replace h := h.1 c9
            refine lv_iload hx hb dL_law_370 (lv_at hl 2 rfl) ?_
            refine lv_iconst (v := 4) hx hb dL_law_372 (by decide) ?_
            refine lv_icmp_ne (tgt := 447) hx hb dL_law_373 (by decide) (fun c10 => ?_) (fun c10 => ?_)
            · replace h := h.1 c10
              exact w_L_law_B447 hflag hX hN hcell hslot K hK hL hLb hA9 X a2 a3 a4 a5 a6 a7 v1 v2 v4 v6 _ _ _ _ h hP hS (lv_sub hl [4, 5, 6, 7, 8, 9, 10, 11, 12, 13, 3, 2, 1, 0] rfl)
            · replace h := h.2 c10
              exact w_L_law_B376 hflag hX hN hcell hslot K hK hL hLb hA9 X a2 a3 a4 a5 a6 a7 v1 v2 v4 v6 _ _ _ _ h hP hS (lv_sub hl [4, 5, 6, 7, 8, 9, 10, 11, 12, 13, 3, 2, 1, 0] rfl)
          · replace h := h.2 c9
            exact w_L_law_B228 hflag hX hN hcell hslot K hK hL hLb hA9 X a2 a3 a4 a5 a6 a7 v1 _ _ _ _ h hP hS (lv_sub hl [4, 5, 6, 7, 8, 9, 10, 11, 12, 13, 3] rfl)
        · replace h := h.2 c8
          exact w_L_law_B149 hflag hX hN hcell hslot K hK hL hLb hA9 X a2 a3 a4 a5 a6 a7 v1 _ _ _ _ h hP hS (lv_sub hl [4, 5, 6, 7, 8, 9, 10, 11, 12, 13, 3] rfl)
      clear hR7
      refine lv_if_ne (tgt := 134) hx hb dL_law_127 (by decide) (fun c11 => ?_) (fun c11 => ?_)
      · replace h := h.1 c11
        refine lv_iload hx hb dL_law_134 (lv_at hl 2 rfl) ?_
        refine lv_bipush (v := 6) hx hb dL_law_136 (by decide) ?_
        refine lv_ishr hx hb dL_law_138 ?_
        refine lv_iload_n hx hb dL_law_139 rfl (lv_at hl 6 rfl) ?_
        refine lv_irem hx hb dL_law_140 h.1 ?_
        replace h := h.2
        refine lv_topi (fun v12 ev12 => ?_)
        replace h := h v12 ev12
        exact key7 v12 h
      · replace h := h.2 c11
        refine lv_iconst (v := 0) hx hb dL_law_130 (by decide) ?_
        refine lv_goto (tgt := 141) hx hb dL_law_131 (by decide) ?_
        exact key7 0 h
    clear hR5
    refine lv_if_ne (tgt := 118) hx hb dL_law_111 (by decide) (fun c13 => ?_) (fun c13 => ?_)
    · replace h := h.1 c13
      refine lv_iload hx hb dL_law_118 (lv_at hl 1 rfl) ?_
      refine lv_iconst (v := 1) hx hb dL_law_120 (by decide) ?_
      refine lv_ishr hx hb dL_law_121 ?_
      refine lv_iload_n hx hb dL_law_122 rfl (lv_at hl 5 rfl) ?_
      refine lv_irem hx hb dL_law_123 h.1 ?_
      replace h := h.2
      refine lv_topi (fun v14 ev14 => ?_)
      replace h := h v14 ev14
      exact key5 v14 h
    · replace h := h.2 c13
      refine lv_iconst (v := 0) hx hb dL_law_114 (by decide) ?_
      refine lv_goto (tgt := 124) hx hb dL_law_115 (by decide) ?_
      exact key5 0 h
  clear hR3
  refine lv_icmp_ge (tgt := 103) hx hb dL_law_91 (by decide) (fun c15 => ?_) (fun c15 => ?_)
  · replace h := h.1 c15
    refine lv_iload hx hb dL_law_103 (lv_at hl 11 rfl) ?_
    refine lv_bipush (v := 31) hx hb dL_law_105 (by decide) ?_
    refine lv_iand hx hb dL_law_107 ?_
    exact key3 (a10 &&& 31) h
  · replace h := h.2 c15
    refine lv_iconst (v := 2) hx hb dL_law_94 (by decide) ?_
    refine lv_iload hx hb dL_law_95 (lv_at hl 10 rfl) ?_
    refine lv_iconst (v := 2) hx hb dL_law_97 (by decide) ?_
    refine lv_irem hx hb dL_law_98 (by decide) ?_
    refine lv_topi (fun v16 ev16 => ?_)
    replace h := h v16 ev16
    refine lv_imul hx hb dL_law_99 ?_
    refine lv_goto (tgt := 108) hx hb dL_law_100 (by decide) ?_
    exact key3 (2 * v16) h
