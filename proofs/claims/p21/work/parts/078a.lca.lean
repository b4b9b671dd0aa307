/-! the law's turn -/
set_option maxRecDepth 100000 in
set_option maxHeartbeats 8000000 in
theorem w_L_law_B1236 {p : Program} {l : Launch} {e : Env} {s : State} {m : MethodId} {b : Nat} {below : List Frame} {meth : Method} {c : Code} {D : va_G} {cI cG cZ cJ : ClassId} {ts : Nat × Nat} {L : List Nat} {ad : Nat → Nat} {al : Nat} (hflag : l.stackTraces = false) (hX : XW s) (hN : NCW s) {cells slots : Nat} (hcell : cells + 60 ≤ 600104) (hslot : slots + 6000 ≤ 7301314) (K : Nat → Int32 → Int32 → Int32 → Int32 → Int32 → Int32 → St → Prop) {a8 a9 : Int32} (hK : ∀ (L : List Nat) (ad : Nat → Nat) (al : Nat) (b2 b3 b4 b5 b6 b7 : Int32) (u : St) (H : Heap) (locs : List Loc) (ls : Array Slot), FX RL wsL_law cL_law 18 (some .boolean) D cI cG cZ cJ ts L ad p s m #[Value.ref b] meth c → Lf L al → Lb L al → cA L ad s.heap.size = AL s → K al b2 b3 b4 b5 b6 b7 u → va_P D vwCl (cW cI cG L ad al u) H → va_S (cA L ad s.heap.size) s.heap H locs → lv_has ls 18 [(0, .ref b), (1, .ref (ad 0)), (2, .int b2), (3, .int b3), (4, .int b4), (5, .int b5), (6, .int b6), (7, .int b7), (8, .int a8), (9, .int a9)] → W p l e room_1 s m #[Value.ref b] below meth c H locs (cells + 60) (slots + 6000) (lw_Z below #[Value.ref b] s) (F0 m 1268 ls []))
    (hL : Lf L al) (hLb : Lb L al) (hA9 : cA L ad s.heap.size = AL s) (X : FX RL wsL_law cL_law 18 (some .boolean) D cI cG cZ cJ ts L ad p s m #[Value.ref b] meth c) (a2 : Int32) (a3 : Int32) (a4 : Int32) (a5 : Int32) (a6 : Int32) (a7 : Int32) (a13 : Int32) (u : St) (H : Heap) (locs : List Loc) (ls : Array Slot) (h : f_L_law_B1236 al a2 a3 a4 a5 a6 a7 a8 a9 a13 K u) (hP : va_P D vwCl (cW cI cG L ad al u) H) (hS : va_S (cA L ad s.heap.size) s.heap H locs) (hl : lv_has ls 18 [(0, .ref b), (1, .ref (ad 0)), (2, .int a2), (3, .int a3), (4, .int a4), (5, .int a5), (6, .int a6), (7, .int a7), (8, .int a8), (9, .int a9), (13, .int a13)]) : W p l e room_1 s m #[Value.ref b] below meth c H locs (cells + 0) (slots + 0) (lw_Z below #[Value.ref b] s) (F0 m 1236 ls []) := by
  obtain ⟨hx, hb, hml, hown, hts, hr, hlocks, hwd, hC⟩ := id X
  have hK0 := hC.1
  have m0 : 0 ∈ L := hL 0 (by omega)
  obtain ⟨i0, hi0⟩ := wL_ix m0
  unfold f_L_law_B1236 at h
  obtain ⟨v19, ev19⟩ : ∃ y : Int32, y = a5 + 1 := ⟨_, rfl⟩
  refine lv_iinc (v := v19) (lv' := [(5, .int v19), (0, .ref b), (1, .ref (ad 0)), (2, .int a2), (3, .int a3), (4, .int a4), (6, .int a6), (7, .int a7), (8, .int a8), (9, .int a9), (13, .int a13)]) hx hb dL_law_1236 hl (k := 5) rfl (by rw [ev19]; rfl) (by decide) rfl (fun ls hl => ?_)
  replace h := h v19 ev19
  refine lv_iload hx hb dL_law_1239 (lv_at hl 0 rfl) ?_
  refine lv_bipush (v := 12) hx hb dL_law_1241 (by decide) ?_
  obtain ⟨R20, h, hR20⟩ := h
  have key20 : ∀  (u21 : St) (H : Heap) (locs : List Loc), R20 u21 → va_P D vwCl (cW cI cG L ad al u21) H → va_S (cA L ad s.heap.size) s.heap H locs → W p l e room_1 s m #[Value.ref b] below meth c H locs (cells + 0) (slots + 0) (lw_Z below #[Value.ref b] s) (F0 m 1261 ls []) := by
    intro  u21 H locs h hP hS
    replace h := hR20 u21 h
    refine lv_iconst (v := 1) hx hb dL_law_1261 (by decide) ?_
    refine lv_goto (tgt := 1266) hx hb dL_law_1262 (by decide) ?_
    refine lv_istore (lv' := [(7, .int 1), (5, .int v19), (0, .ref b), (1, .ref (ad 0)), (2, .int a2), (3, .int a3), (4, .int a4), (6, .int a6), (8, .int a8), (9, .int a9), (13, .int a13)]) hx hb dL_law_1266 hl (by decide) rfl (fun ls hl => ?_)
    refine W.widen (k := cells + 60) (n := slots + 6000) (by omega) (by omega) ?_
    exact hK _ _ _ a2 a3 a4 v19 a6 1 _ _ _ _ X hL hLb hA9 h hP hS (lv_sub hl [2, 3, 4, 5, 6, 1, 7, 0, 8, 9] rfl)
  clear hR20
  refine lv_icmp_gt (tgt := 1261) hx hb dL_law_1243 (by decide) (fun c22 => ?_) (fun c22 => ?_)
  · replace h := h.1 c22
    exact key20  _ _ _ h hP hS
  · replace h := h.2 c22
    refine lv_aload_n hx hb dL_law_1246 rfl (lv_at hl 2 rfl) ?_
    refine cc_i (va_runV (C := RX6) (As := []) (rest := []) ⟨hx, hb, hml, hown, hts⟩ (c_X6_order hL hwd H.size u _ h) (cwV 0 hts gL_law_X6_order rfl rfl rfl (by decide +kernel) ⟨Nat.le_of_ble_eq_true rfl, Nat.le_of_ble_eq_true rfl⟩) (pcV hC hP hS (cg_0 hi0) rfl) rfl rfl hl.1 rfl (lv_room (Nat.le_of_ble_eq_true rfl)) dL_law_1247 ⟨Nat.le_trans (by omega : cells + 0 + 0 ≤ cells + 60) hcell, Nat.le_trans (by omega : slots + 0 + 0 ≤ slots + 6000) hslot⟩) hS (cA_mono hS.1) (fun v23 u24 H locs h hP hS => ?_)
    refine lv_aload_n hx hb dL_law_1250 rfl (lv_at hl 2 rfl) ?_
    refine lv_iload hx hb dL_law_1251 (lv_at hl 10 rfl) ?_
    refine lv_iconst (v := 5) hx hb dL_law_1253 (by decide) ?_
    refine cc_i (va_runV (C := RX6) (As := [.int a13, .int 5]) (rest := [.int v23]) ⟨hx, hb, hml, hown, hts⟩ (cN_X6_formIs hL hwd H.size u24 a13 5 _ h) (cwV 2 hts gL_law_X6_formIs rfl rfl rfl (by decide +kernel) ⟨Nat.le_of_ble_eq_true rfl, Nat.le_of_ble_eq_true rfl⟩) (pcV hC hP hS (cg_0 hi0) rfl) rfl rfl hl.1 rfl (lv_room (Nat.le_of_ble_eq_true rfl)) dL_law_1254 ⟨Nat.le_trans (by omega : cells + 0 + 0 ≤ cells + 60) hcell, Nat.le_trans (by omega : slots + 0 + 0 ≤ slots + 6000) hslot⟩) hS (cA_mono hS.1) (fun v25 u26 H locs h hP hS => ?_)
    refine lv_irem hx hb dL_law_1257 h.1 ?_
    replace h := h.2
    refine lv_topi (fun v27 ev27 => ?_)
    replace h := h v27 ev27
    refine lv_if_ne (tgt := 1265) hx hb dL_law_1258 (by decide) (fun c28 => ?_) (fun c28 => ?_)
    · replace h := h.1 c28
      refine lv_iconst (v := 0) hx hb dL_law_1265 (by decide) ?_
      refine lv_istore (lv' := [(7, .int 0), (5, .int v19), (0, .ref b), (1, .ref (ad 0)), (2, .int a2), (3, .int a3), (4, .int a4), (6, .int a6), (8, .int a8), (9, .int a9), (13, .int a13)]) hx hb dL_law_1266 hl (by decide) rfl (fun ls hl => ?_)
      refine W.widen (k := cells + 60) (n := slots + 6000) (by omega) (by omega) ?_
      exact hK _ _ _ a2 a3 a4 v19 a6 0 _ _ _ _ X hL hLb hA9 h hP hS (lv_sub hl [2, 3, 4, 5, 6, 1, 7, 0, 8, 9] rfl)
    · replace h := h.2 c28
      exact key20  _ _ _ h hP hS
set_option maxRecDepth 100000 in
set_option maxHeartbeats 8000000 in
theorem w_L_law_B1156 {p : Program} {l : Launch} {e : Env} {s : State} {m : MethodId} {b : Nat} {below : List Frame} {meth : Method} {c : Code} {D : va_G} {cI cG cZ cJ : ClassId} {ts : Nat × Nat} {L : List Nat} {ad : Nat → Nat} {al : Nat} (hflag : l.stackTraces = false) (hX : XW s) (hN : NCW s) {cells slots : Nat} (hcell : cells + 60 ≤ 600104) (hslot : slots + 6000 ≤ 7301314) (K : Nat → Int32 → Int32 → Int32 → Int32 → Int32 → Int32 → St → Prop) {a8 a9 : Int32} (hK : ∀ (L : List Nat) (ad : Nat → Nat) (al : Nat) (b2 b3 b4 b5 b6 b7 : Int32) (u : St) (H : Heap) (locs : List Loc) (ls : Array Slot), FX RL wsL_law cL_law 18 (some .boolean) D cI cG cZ cJ ts L ad p s m #[Value.ref b] meth c → Lf L al → Lb L al → cA L ad s.heap.size = AL s → K al b2 b3 b4 b5 b6 b7 u → va_P D vwCl (cW cI cG L ad al u) H → va_S (cA L ad s.heap.size) s.heap H locs → lv_has ls 18 [(0, .ref b), (1, .ref (ad 0)), (2, .int b2), (3, .int b3), (4, .int b4), (5, .int b5), (6, .int b6), (7, .int b7), (8, .int a8), (9, .int a9)] → W p l e room_1 s m #[Value.ref b] below meth c H locs (cells + 60) (slots + 6000) (lw_Z below #[Value.ref b] s) (F0 m 1268 ls []))
    (hL : Lf L al) (hLb : Lb L al) (hA9 : cA L ad s.heap.size = AL s) (X : FX RL wsL_law cL_law 18 (some .boolean) D cI cG cZ cJ ts L ad p s m #[Value.ref b] meth c) (a2 : Int32) (a3 : Int32) (a4 : Int32) (a5 : Int32) (a6 : Int32) (a7 : Int32) (a11 : Int32) (u : St) (H : Heap) (locs : List Loc) (ls : Array Slot) (h : f_L_law_B1156 al a2 a3 a4 a5 a6 a7 a8 a9 a11 K u) (hP : va_P D vwCl (cW cI cG L ad al u) H) (hS : va_S (cA L ad s.heap.size) s.heap H locs) (hl : lv_has ls 18 [(0, .ref b), (1, .ref (ad 0)), (2, .int a2), (3, .int a3), (4, .int a4), (5, .int a5), (6, .int a6), (7, .int a7), (8, .int a8), (9, .int a9), (11, .int a11)]) : W p l e room_1 s m #[Value.ref b] below meth c H locs (cells + 0) (slots + 0) (lw_Z below #[Value.ref b] s) (F0 m 1156 ls []) := by
  obtain ⟨hx, hb, hml, hown, hts, hr, hlocks, hwd, hC⟩ := id X
  have hK0 := hC.1
  have m0 : 0 ∈ L := hL 0 (by omega)
  obtain ⟨i0, hi0⟩ := wL_ix m0
  unfold f_L_law_B1156 at h
  obtain ⟨v19, ev19⟩ : ∃ y : Int32, y = a5 + 2 := ⟨_, rfl⟩
  refine lv_iinc (v := v19) (lv' := [(5, .int v19), (0, .ref b), (1, .ref (ad 0)), (2, .int a2), (3, .int a3), (4, .int a4), (6, .int a6), (7, .int a7), (8, .int a8), (9, .int a9), (11, .int a11)]) hx hb dL_law_1156 hl (k := 5) rfl (by rw [ev19]; rfl) (by decide) rfl (fun ls hl => ?_)
  replace h := h v19 ev19
  refine lv_iconst (v := 1) hx hb dL_law_1159 (by decide) ?_
  refine lv_iload hx hb dL_law_1160 (lv_at hl 10 rfl) ?_
  refine lv_bipush (v := 9) hx hb dL_law_1162 (by decide) ?_
  refine lv_ishr hx hb dL_law_1164 ?_
  refine lv_iconst (v := 4) hx hb dL_law_1165 (by decide) ?_
  refine lv_irem hx hb dL_law_1166 (by decide) ?_
  refine lv_topi (fun v20 ev20 => ?_)
  replace h := h v20 ev20
  refine lv_iadd hx hb dL_law_1167 ?_
  refine lv_topi (fun v21 ev21 => ?_)
  replace h := h v21 ev21
  refine lv_istore (lv' := [(15, .int v21), (5, .int v19), (0, .ref b), (1, .ref (ad 0)), (2, .int a2), (3, .int a3), (4, .int a4), (6, .int a6), (7, .int a7), (8, .int a8), (9, .int a9), (11, .int a11)]) hx hb dL_law_1168 hl (by decide) rfl (fun ls hl => ?_)
  refine lv_iload hx hb dL_law_1170 (lv_at hl 1 rfl) ?_
  refine lv_bipush (v := 12) hx hb dL_law_1172 (by decide) ?_
  obtain ⟨R22, h, hR22⟩ := h
  have key22 : ∀  (u23 : St) (H : Heap) (locs : List Loc), R22 u23 → va_P D vwCl (cW cI cG L ad al u23) H → va_S (cA L ad s.heap.size) s.heap H locs → W p l e room_1 s m #[Value.ref b] below meth c H locs (cells + 0) (slots + 0) (lw_Z below #[Value.ref b] s) (F0 m 1226 ls []) := by
    intro  u23 H locs h hP hS
    replace h := hR22 u23 h
    refine lv_iconst (v := 1) hx hb dL_law_1226 (by decide) ?_
    refine lv_goto (tgt := 1231) hx hb dL_law_1227 (by decide) ?_
    refine lv_istore (lv' := [(7, .int 1), (15, .int v21), (5, .int v19), (0, .ref b), (1, .ref (ad 0)), (2, .int a2), (3, .int a3), (4, .int a4), (6, .int a6), (8, .int a8), (9, .int a9), (11, .int a11)]) hx hb dL_law_1231 hl (by decide) rfl (fun ls hl => ?_)
    refine lv_goto (tgt := 1268) hx hb dL_law_1233 (by decide) ?_
    refine W.widen (k := cells + 60) (n := slots + 6000) (by omega) (by omega) ?_
    exact hK _ _ _ a2 a3 a4 v19 a6 1 _ _ _ _ X hL hLb hA9 h hP hS (lv_sub hl [3, 4, 5, 6, 7, 2, 8, 0, 9, 10] rfl)
  clear hR22
  refine lv_icmp_gt (tgt := 1226) hx hb dL_law_1174 (by decide) (fun c24 => ?_) (fun c24 => ?_)
  · replace h := h.1 c24
    exact key22  _ _ _ h hP hS
  · replace h := h.2 c24
    refine lv_aload_n hx hb dL_law_1177 rfl (lv_at hl 3 rfl) ?_
    refine lv_iload hx hb dL_law_1178 (lv_at hl 0 rfl) ?_
    refine cc_i (va_runV (C := RX6) (As := [.int v21]) (rest := []) ⟨hx, hb, hml, hown, hts⟩ (cN_X6_dimension hL hwd H.size u v21 _ h) (cwV 1 hts gL_law_X6_dimension rfl rfl rfl (by decide +kernel) ⟨Nat.le_of_ble_eq_true rfl, Nat.le_of_ble_eq_true rfl⟩) (pcV hC hP hS (cg_0 hi0) rfl) rfl rfl hl.1 rfl (lv_room (Nat.le_of_ble_eq_true rfl)) dL_law_1180 ⟨Nat.le_trans (by omega : cells + 0 + 0 ≤ cells + 60) hcell, Nat.le_trans (by omega : slots + 0 + 0 ≤ slots + 6000) hslot⟩) hS (cA_mono hS.1) (fun v25 u26 H locs h hP hS => ?_)
    refine lv_aload_n hx hb dL_law_1183 rfl (lv_at hl 3 rfl) ?_
    refine lv_iload hx hb dL_law_1184 (lv_at hl 0 rfl) ?_
    refine cc_i (va_runV (C := RX6) (As := [.int v21]) (rest := [.int v25]) ⟨hx, hb, hml, hown, hts⟩ (cN_X6_dimensionAnew hL hwd H.size u26 v21 _ h) (cwV 1 hts gL_law_X6_dimensionAnew rfl rfl rfl (by decide +kernel) ⟨Nat.le_of_ble_eq_true rfl, Nat.le_of_ble_eq_true rfl⟩) (pcV hC hP hS (cg_0 hi0) rfl) rfl rfl hl.1 rfl (lv_room (Nat.le_of_ble_eq_true rfl)) dL_law_1186 ⟨Nat.le_trans (by omega : cells + 0 + 0 ≤ cells + 60) hcell, Nat.le_trans (by omega : slots + 0 + 0 ≤ slots + 6000) hslot⟩) hS (cA_mono hS.1) (fun v27 u28 H locs h hP hS => ?_)
    obtain ⟨R29, h, hR29⟩ := h
    have key29 : ∀  (u30 : St) (H : Heap) (locs : List Loc), R29 u30 → va_P D vwCl (cW cI cG L ad al u30) H → va_S (cA L ad s.heap.size) s.heap H locs → W p l e room_1 s m #[Value.ref b] below meth c H locs (cells + 0) (slots + 0) (lw_Z below #[Value.ref b] s) (F0 m 1230 ls []) := by
      intro  u30 H locs h hP hS
      replace h := hR29 u30 h
      refine lv_iconst (v := 0) hx hb dL_law_1230 (by decide) ?_
      refine lv_istore (lv' := [(7, .int 0), (15, .int v21), (5, .int v19), (0, .ref b), (1, .ref (ad 0)), (2, .int a2), (3, .int a3), (4, .int a4), (6, .int a6), (8, .int a8), (9, .int a9), (11, .int a11)]) hx hb dL_law_1231 hl (by decide) rfl (fun ls hl => ?_)
      refine lv_goto (tgt := 1268) hx hb dL_law_1233 (by decide) ?_
      refine W.widen (k := cells + 60) (n := slots + 6000) (by omega) (by omega) ?_
      exact hK _ _ _ a2 a3 a4 v19 a6 0 _ _ _ _ X hL hLb hA9 h hP hS (lv_sub hl [3, 4, 5, 6, 7, 2, 8, 0, 9, 10] rfl)
    clear hR29
    refine lv_icmp_ne (tgt := 1230) hx hb dL_law_1189 (by decide) (fun c31 => ?_) (fun c31 => ?_)
    · replace h := h.1 c31
      exact key29  _ _ _ h hP hS
    · replace h := h.2 c31
      refine lv_aload_n hx hb dL_law_1192 rfl (lv_at hl 3 rfl) ?_
      refine lv_iload hx hb dL_law_1193 (lv_at hl 0 rfl) ?_
      refine cc_i (va_runV (C := RX6) (As := [.int v21]) (rest := []) ⟨hx, hb, hml, hown, hts⟩ (cN_X6_orbits hL hwd H.size u28 v21 _ h) (cwV 1 hts gL_law_X6_orbits rfl rfl rfl (by decide +kernel) ⟨Nat.le_of_ble_eq_true rfl, Nat.le_of_ble_eq_true rfl⟩) (pcV hC hP hS (cg_0 hi0) rfl) rfl rfl hl.1 rfl (lv_room (Nat.le_of_ble_eq_true rfl)) dL_law_1195 ⟨Nat.le_trans (by omega : cells + 0 + 0 ≤ cells + 60) hcell, Nat.le_trans (by omega : slots + 0 + 0 ≤ slots + 6000) hslot⟩) hS (cA_mono hS.1) (fun v32 u33 H locs h hP hS => ?_)
      refine lv_aload_n hx hb dL_law_1198 rfl (lv_at hl 3 rfl) ?_
      refine lv_iload hx hb dL_law_1199 (lv_at hl 0 rfl) ?_
      refine cc_i (va_runV (C := RX6) (As := [.int v21]) (rest := [.int v32]) ⟨hx, hb, hml, hown, hts⟩ (cN_X6_orbitsAnew hL hwd H.size u33 v21 _ h) (cwV 1 hts gL_law_X6_orbitsAnew rfl rfl rfl (by decide +kernel) ⟨Nat.le_of_ble_eq_true rfl, Nat.le_of_ble_eq_true rfl⟩) (pcV hC hP hS (cg_0 hi0) rfl) rfl rfl hl.1 rfl (lv_room (Nat.le_of_ble_eq_true rfl)) dL_law_1201 ⟨Nat.le_trans (by omega : cells + 0 + 0 ≤ cells + 60) hcell, Nat.le_trans (by omega : slots + 0 + 0 ≤ slots + 6000) hslot⟩) hS (cA_mono hS.1) (fun v34 u35 H locs h hP hS => ?_)
      refine lv_icmp_ne (tgt := 1230) hx hb dL_law_1204 (by decide) (fun c36 => ?_) (fun c36 => ?_)
      · replace h := h.1 c36
        exact key29  _ _ _ h hP hS
      · replace h := h.2 c36
        refine lv_aload_n hx hb dL_law_1207 rfl (lv_at hl 3 rfl) ?_
        refine lv_iload hx hb dL_law_1208 (lv_at hl 0 rfl) ?_
        refine cc_i (va_runV (C := RX6) (As := [.int v21]) (rest := []) ⟨hx, hb, hml, hown, hts⟩ (cN_X6_orbits hL hwd H.size u35 v21 _ h) (cwV 1 hts gL_law_X6_orbits rfl rfl rfl (by decide +kernel) ⟨Nat.le_of_ble_eq_true rfl, Nat.le_of_ble_eq_true rfl⟩) (pcV hC hP hS (cg_0 hi0) rfl) rfl rfl hl.1 rfl (lv_room (Nat.le_of_ble_eq_true rfl)) dL_law_1210 ⟨Nat.le_trans (by omega : cells + 0 + 0 ≤ cells + 60) hcell, Nat.le_trans (by omega : slots + 0 + 0 ≤ slots + 6000) hslot⟩) hS (cA_mono hS.1) (fun v37 u38 H locs h hP hS => ?_)
        refine lv_iload_n hx hb dL_law_1213 rfl (lv_at hl 4 rfl) ?_
        refine lv_aload_n hx hb dL_law_1214 rfl (lv_at hl 3 rfl) ?_
        refine lv_iload hx hb dL_law_1215 (lv_at hl 0 rfl) ?_
        refine cc_i (va_runV (C := RX6) (As := [.int v21]) (rest := [.int a2, .int v37]) ⟨hx, hb, hml, hown, hts⟩ (cN_X6_dimension hL hwd H.size u38 v21 _ h) (cwV 1 hts gL_law_X6_dimension rfl rfl rfl (by decide +kernel) ⟨Nat.le_of_ble_eq_true rfl, Nat.le_of_ble_eq_true rfl⟩) (pcV hC hP hS (cg_0 hi0) rfl) rfl rfl hl.1 rfl (lv_room (Nat.le_of_ble_eq_true rfl)) dL_law_1217 ⟨Nat.le_trans (by omega : cells + 0 + 0 ≤ cells + 60) hcell, Nat.le_trans (by omega : slots + 0 + 0 ≤ slots + 6000) hslot⟩) hS (cA_mono hS.1) (fun v39 u40 H locs h hP hS => ?_)
        refine cc_i (va_runS (As := [.int a2, .int v39]) (rest := [.int v37]) ⟨hx, hb, hml, hown, hts⟩ (c_L_power hL hwd H.size u40 a2 v39 _ h) (va_cwS 2 hts gL_law_L_power rfl rfl rfl (by decide +kernel) ⟨Nat.le_of_ble_eq_true rfl, Nat.le_of_ble_eq_true rfl⟩) (pcS hC hP hS) rfl rfl hl.1 rfl (lv_room (Nat.le_of_ble_eq_true rfl)) dL_law_1220 ⟨Nat.le_trans (by omega : cells + 0 + 0 ≤ cells + 60) hcell, Nat.le_trans (by omega : slots + 0 + 0 ≤ slots + 6000) hslot⟩) hS (cA_mono hS.1) (fun v41 u42 H locs h hP hS => ?_)
        refine lv_icmp_lt (tgt := 1230) hx hb dL_law_1223 (by decide) (fun c43 => ?_) (fun c43 => ?_)
        · replace h := h.1 c43
          exact key29  _ _ _ h hP hS
        · replace h := h.2 c43
          exact key22  _ _ _ h hP hS
set_option maxRecDepth 100000 in
set_option maxHeartbeats 8000000 in
theorem w_L_law_B1058 {p : Program} {l : Launch} {e : Env} {s : State} {m : MethodId} {b : Nat} {below : List Frame} {meth : Method} {c : Code} {D : va_G} {cI cG cZ cJ : ClassId} {ts : Nat × Nat} {L : List Nat} {ad : Nat → Nat} {al : Nat} (hflag : l.stackTraces = false) (hX : XW s) (hN : NCW s) {cells slots : Nat} (hcell : cells + 60 ≤ 600104) (hslot : slots + 6000 ≤ 7301314) (K : Nat → Int32 → Int32 → Int32 → Int32 → Int32 → Int32 → St → Prop) {a8 a9 : Int32} (hK : ∀ (L : List Nat) (ad : Nat → Nat) (al : Nat) (b2 b3 b4 b5 b6 b7 : Int32) (u : St) (H : Heap) (locs : List Loc) (ls : Array Slot), FX RL wsL_law cL_law 18 (some .boolean) D cI cG cZ cJ ts L ad p s m #[Value.ref b] meth c → Lf L al → Lb L al → cA L ad s.heap.size = AL s → K al b2 b3 b4 b5 b6 b7 u → va_P D vwCl (cW cI cG L ad al u) H → va_S (cA L ad s.heap.size) s.heap H locs → lv_has ls 18 [(0, .ref b), (1, .ref (ad 0)), (2, .int b2), (3, .int b3), (4, .int b4), (5, .int b5), (6, .int b6), (7, .int b7), (8, .int a8), (9, .int a9)] → W p l e room_1 s m #[Value.ref b] below meth c H locs (cells + 60) (slots + 6000) (lw_Z below #[Value.ref b] s) (F0 m 1268 ls []))
    (hL : Lf L al) (hLb : Lb L al) (hA9 : cA L ad s.heap.size = AL s) (X : FX RL wsL_law cL_law 18 (some .boolean) D cI cG cZ cJ ts L ad p s m #[Value.ref b] meth c) (a2 : Int32) (a3 : Int32) (a4 : Int32) (a5 : Int32) (a6 : Int32) (a7 : Int32) (a13 : Int32) (u : St) (H : Heap) (locs : List Loc) (ls : Array Slot) (h : f_L_law_B1058 al a2 a3 a4 a5 a6 a7 a8 a9 a13 K u) (hP : va_P D vwCl (cW cI cG L ad al u) H) (hS : va_S (cA L ad s.heap.size) s.heap H locs) (hl : lv_has ls 18 [(0, .ref b), (1, .ref (ad 0)), (2, .int a2), (3, .int a3), (4, .int a4), (5, .int a5), (6, .int a6), (7, .int a7), (8, .int a8), (9, .int a9), (13, .int a13)]) : W p l e room_1 s m #[Value.ref b] below meth c H locs (cells + 0) (slots + 0) (lw_Z below #[Value.ref b] s) (F0 m 1058 ls []) := by
  obtain ⟨hx, hb, hml, hown, hts, hr, hlocks, hwd, hC⟩ := id X
  have hK0 := hC.1
  have m0 : 0 ∈ L := hL 0 (by omega)
  obtain ⟨i0, hi0⟩ := wL_ix m0
  unfold f_L_law_B1058 at h
  obtain ⟨v19, ev19⟩ : ∃ y : Int32, y = a5 + 1 := ⟨_, rfl⟩
  refine lv_iinc (v := v19) (lv' := [(5, .int v19), (0, .ref b), (1, .ref (ad 0)), (2, .int a2), (3, .int a3), (4, .int a4), (6, .int a6), (7, .int a7), (8, .int a8), (9, .int a9), (13, .int a13)]) hx hb dL_law_1058 hl (k := 5) rfl (by rw [ev19]; rfl) (by decide) rfl (fun ls hl => ?_)
  replace h := h v19 ev19
  refine lv_iload hx hb dL_law_1061 (lv_at hl 0 rfl) ?_
  refine lv_bipush (v := 12) hx hb dL_law_1063 (by decide) ?_
  obtain ⟨R21, h, hR21⟩ := h
  have key21 : ∀ (v20 : Int32) (u22 : St) (H : Heap) (locs : List Loc), R21 v20 u22 → va_P D vwCl (cW cI cG L ad al u22) H → va_S (cA L ad s.heap.size) s.heap H locs → W p l e room_1 s m #[Value.ref b] below meth c H locs (cells + 4) (slots + 24) (lw_Z below #[Value.ref b] s) (F0 m 1081 ls [.int v20]) := by
    intro v20 u22 H locs h hP hS
    replace h := hR21 v20 u22 h
    refine lv_istore (lv' := [(15, .int v20), (5, .int v19), (0, .ref b), (1, .ref (ad 0)), (2, .int a2), (3, .int a3), (4, .int a4), (6, .int a6), (7, .int a7), (8, .int a8), (9, .int a9), (13, .int a13)]) hx hb dL_law_1081 hl (by decide) rfl (fun ls hl => ?_)
    refine lv_iload hx hb dL_law_1083 (lv_at hl 0 rfl) ?_
    refine lv_if_lt (tgt := 1146) hx hb dL_law_1085 (by decide) (fun c23 => ?_) (fun c23 => ?_)
    · replace h := h.1 c23
      refine lv_goto (tgt := 1268) hx hb dL_law_1146 (by decide) ?_
      refine W.widen (k := cells + 60) (n := slots + 6000) (by omega) (by omega) ?_
      exact hK _ _ _ a2 a3 a4 v19 a6 a7 _ _ _ _ X hL hLb hA9 h hP hS (lv_sub hl [2, 3, 4, 5, 6, 1, 7, 8, 9, 10] rfl)
    · replace h := h.2 c23
      refine lv_iload_n hx hb dL_law_1088 rfl (lv_at hl 5 rfl) ?_
      refine lv_bipush (v := 20) hx hb dL_law_1089 (by decide) ?_
      refine lv_icmp_ge (tgt := 1146) hx hb dL_law_1091 (by decide) (fun c24 => ?_) (fun c24 => ?_)
      · replace h := h.1 c24
        refine lv_goto (tgt := 1268) hx hb dL_law_1146 (by decide) ?_
        refine W.widen (k := cells + 60) (n := slots + 6000) (by omega) (by omega) ?_
        exact hK _ _ _ a2 a3 a4 v19 a6 a7 _ _ _ _ X hL hLb hA9 h hP hS (lv_sub hl [2, 3, 4, 5, 6, 1, 7, 8, 9, 10] rfl)
      · replace h := h.2 c24
        refine lv_aload_n hx hb dL_law_1094 rfl (lv_at hl 3 rfl) ?_
        refine lv_iconst (v := 1) hx hb dL_law_1095 (by decide) ?_
        refine lv_aload_n hx hb dL_law_1096 rfl (lv_at hl 3 rfl) ?_
        refine lv_iload hx hb dL_law_1097 (lv_at hl 11 rfl) ?_
        refine lv_iconst (v := 0) hx hb dL_law_1099 (by decide) ?_
        refine cc_i (va_runV (C := RX6) (As := [.int a13, .int 0]) (rest := [.int 1, .ref (ad 0)]) ⟨hx, hb, hml, hown, hts⟩ (cN_X6_formIs hL hwd H.size u22 a13 0 _ h) (cwV 2 hts gL_law_X6_formIs rfl rfl rfl (by decide +kernel) ⟨Nat.le_of_ble_eq_true rfl, Nat.le_of_ble_eq_true rfl⟩) (pcV hC hP hS (cg_0 hi0) rfl) rfl rfl hl.1 rfl (lv_room (Nat.le_of_ble_eq_true rfl)) dL_law_1100 ⟨Nat.le_trans (by omega : cells + 4 + 0 ≤ cells + 60) hcell, Nat.le_trans (by omega : slots + 24 + 0 ≤ slots + 6000) hslot⟩) hS (cA_mono hS.1) (fun v25 u26 H locs h hP hS => ?_)
        refine lv_iload hx hb dL_law_1103 (lv_at hl 0 rfl) ?_
        refine lv_iconst (v := 0) hx hb dL_law_1105 (by decide) ?_
        refine cc_iM (vx_runSW (As := [.ref (ad 0), .int 1, .int v25, .int v20, .int 0]) (rest := []) ⟨hx, hb, hml, hown, hts⟩ (c_L_ask hflag hL hwd H.size u26 1 v25 v20 0 _ h) (vx_cwSW 5 hts gL_law_L_ask rfl rfl rfl (by decide +kernel) ⟨Nat.le_of_ble_eq_true rfl, Nat.le_of_ble_eq_true rfl⟩) (pcSN hC hX hN hP hS) rfl rfl hl.1 rfl (lv_room (Nat.le_of_ble_eq_true rfl)) dL_law_1106 ⟨Nat.le_trans (by omega : cells + 4 + 4 ≤ cells + 60) hcell, Nat.le_trans (by omega : slots + 24 + 24 ≤ slots + 6000) hslot⟩) hS (cA_mono hS.1) (fun v27 u28 H locs h hP hS => ?_)
        refine W.widen (k := cells + 8) (n := slots + 48) (by omega) (by omega) ?_
        refine lv_iload_n hx hb dL_law_1109 rfl (lv_at hl 5 rfl) ?_
        obtain ⟨R30, h, hR30⟩ := h
        have key30 : ∀ (v29 : Int32) (u31 : St) (H : Heap) (locs : List Loc), R30 v29 u31 → va_P D vwCl (cW cI cG L ad al u31) H → va_S (cA L ad s.heap.size) s.heap H locs → W p l e room_1 s m #[Value.ref b] below meth c H locs (cells + 12) (slots + 72) (lw_Z below #[Value.ref b] s) (F0 m 1141 ls [.int v29]) := by
          intro v29 u31 H locs h hP hS
          replace h := hR30 v29 u31 h
          refine lv_istore (lv' := [(7, .int v29), (15, .int v20), (5, .int v19), (0, .ref b), (1, .ref (ad 0)), (2, .int a2), (3, .int a3), (4, .int a4), (6, .int a6), (8, .int a8), (9, .int a9), (13, .int a13)]) hx hb dL_law_1141 hl (by decide) rfl (fun ls hl => ?_)
          obtain ⟨v32, ev32⟩ : ∃ y : Int32, y = a3 + 1 := ⟨_, rfl⟩
          refine lv_iinc (v := v32) (lv' := [(3, .int v32), (7, .int v29), (15, .int v20), (5, .int v19), (0, .ref b), (1, .ref (ad 0)), (2, .int a2), (4, .int a4), (6, .int a6), (8, .int a8), (9, .int a9), (13, .int a13)]) hx hb dL_law_1143 hl (k := 6) rfl (by rw [ev32]; rfl) (by decide) rfl (fun ls hl => ?_)
          replace h := h v32 ev32
          refine lv_goto (tgt := 1268) hx hb dL_law_1146 (by decide) ?_
          refine W.widen (k := cells + 60) (n := slots + 6000) (by omega) (by omega) ?_
          exact hK _ _ _ a2 v32 a4 v19 a6 v29 _ _ _ _ X hL hLb hA9 h hP hS (lv_sub hl [4, 5, 6, 0, 7, 3, 8, 1, 9, 10] rfl)
        clear hR30
        refine lv_icmp_ne (tgt := 1140) hx hb dL_law_1110 (by decide) (fun c33 => ?_) (fun c33 => ?_)
        · replace h := h.1 c33
          refine lv_iconst (v := 0) hx hb dL_law_1140 (by decide) ?_
          refine W.widen (k := cells + 12) (n := slots + 72) (by omega) (by omega) ?_
          exact key30 0 _ _ _ h hP hS
        · replace h := h.2 c33
          refine lv_aload_n hx hb dL_law_1113 rfl (lv_at hl 3 rfl) ?_
          refine lv_iload_n hx hb dL_law_1114 rfl (lv_at hl 5 rfl) ?_
          refine lv_iconst (v := 4) hx hb dL_law_1115 (by decide) ?_
          refine cc_i (va_runV (C := RX6) (As := [.int a3, .int 4]) (rest := []) ⟨hx, hb, hml, hown, hts⟩ (cN_X6_formIs hL hwd H.size u28 a3 4 _ h) (cwV 2 hts gL_law_X6_formIs rfl rfl rfl (by decide +kernel) ⟨Nat.le_of_ble_eq_true rfl, Nat.le_of_ble_eq_true rfl⟩) (pcV hC hP hS (cg_0 hi0) rfl) rfl rfl hl.1 rfl (lv_room (Nat.le_of_ble_eq_true rfl)) dL_law_1116 ⟨Nat.le_trans (by omega : cells + 8 + 0 ≤ cells + 60) hcell, Nat.le_trans (by omega : slots + 48 + 0 ≤ slots + 6000) hslot⟩) hS (cA_mono hS.1) (fun v34 u35 H locs h hP hS => ?_)
          refine lv_iconst (v := 1) hx hb dL_law_1119 (by decide) ?_
          refine lv_icmp_ne (tgt := 1140) hx hb dL_law_1120 (by decide) (fun c36 => ?_) (fun c36 => ?_)
          · replace h := h.1 c36
            refine lv_iconst (v := 0) hx hb dL_law_1140 (by decide) ?_
            refine W.widen (k := cells + 12) (n := slots + 72) (by omega) (by omega) ?_
            exact key30 0 _ _ _ h hP hS
          · replace h := h.2 c36
            refine lv_aload_n hx hb dL_law_1123 rfl (lv_at hl 3 rfl) ?_
            refine lv_iconst (v := 4) hx hb dL_law_1124 (by decide) ?_
            refine lv_iload_n hx hb dL_law_1125 rfl (lv_at hl 5 rfl) ?_
            refine lv_iconst (v := 0) hx hb dL_law_1126 (by decide) ?_
            refine lv_iconst (v := 0) hx hb dL_law_1127 (by decide) ?_
            refine cc_iM (vx_runSW (As := [.ref (ad 0), .int 4, .int a3, .int 0, .int 0]) (rest := []) ⟨hx, hb, hml, hown, hts⟩ (c_L_ask hflag hL hwd H.size u35 4 a3 0 0 _ h) (vx_cwSW 5 hts gL_law_L_ask rfl rfl rfl (by decide +kernel) ⟨Nat.le_of_ble_eq_true rfl, Nat.le_of_ble_eq_true rfl⟩) (pcSN hC hX hN hP hS) rfl rfl hl.1 rfl (lv_room (Nat.le_of_ble_eq_true rfl)) dL_law_1128 ⟨Nat.le_trans (by omega : cells + 8 + 4 ≤ cells + 60) hcell, Nat.le_trans (by omega : slots + 48 + 24 ≤ slots + 6000) hslot⟩) hS (cA_mono hS.1) (fun v37 u38 H locs h hP hS => ?_)
            refine W.widen (k := cells + 12) (n := slots + 72) (by omega) (by omega) ?_
            refine lv_iload hx hb dL_law_1131 (lv_at hl 0 rfl) ?_
            refine lv_icmp_ne (tgt := 1140) hx hb dL_law_1133 (by decide) (fun c39 => ?_) (fun c39 => ?_)
            · replace h := h.1 c39
              refine lv_iconst (v := 0) hx hb dL_law_1140 (by decide) ?_
              exact key30 0 _ _ _ h hP hS
            · replace h := h.2 c39
              refine lv_iconst (v := 1) hx hb dL_law_1136 (by decide) ?_
              refine lv_goto (tgt := 1141) hx hb dL_law_1137 (by decide) ?_
              exact key30 1 _ _ _ h hP hS
  clear hR21
  refine lv_icmp_le (tgt := 1072) hx hb dL_law_1065 (by decide) (fun c40 => ?_) (fun c40 => ?_)
  · replace h := h.1 c40
    refine lv_aload_n hx hb dL_law_1072 rfl (lv_at hl 2 rfl) ?_
    refine lv_iconst (v := 4) hx hb dL_law_1073 (by decide) ?_
    refine lv_iload hx hb dL_law_1074 (lv_at hl 10 rfl) ?_
    refine lv_iconst (v := 0) hx hb dL_law_1076 (by decide) ?_
    refine lv_iconst (v := 0) hx hb dL_law_1077 (by decide) ?_
    refine cc_iM (vx_runSW (As := [.ref (ad 0), .int 4, .int a13, .int 0, .int 0]) (rest := []) ⟨hx, hb, hml, hown, hts⟩ (c_L_ask hflag hL hwd H.size u 4 a13 0 0 _ h) (vx_cwSW 5 hts gL_law_L_ask rfl rfl rfl (by decide +kernel) ⟨Nat.le_of_ble_eq_true rfl, Nat.le_of_ble_eq_true rfl⟩) (pcSN hC hX hN hP hS) rfl rfl hl.1 rfl (lv_room (Nat.le_of_ble_eq_true rfl)) dL_law_1078 ⟨Nat.le_trans (by omega : cells + 0 + 4 ≤ cells + 60) hcell, Nat.le_trans (by omega : slots + 0 + 24 ≤ slots + 6000) hslot⟩) hS (cA_mono hS.1) (fun v41 u42 H locs h hP hS => ?_)
    refine W.widen (k := cells + 4) (n := slots + 24) (by omega) (by omega) ?_
    exact key21 v41 _ _ _ h hP hS
  · replace h := h.2 c40
    refine lv_iconst (v := (-1)) hx hb dL_law_1068 (by decide) ?_
    refine lv_goto (tgt := 1081) hx hb dL_law_1069 (by decide) ?_
    refine W.widen (k := cells + 4) (n := slots + 24) (by omega) (by omega) ?_
    exact key21 (-1) _ _ _ h hP hS
set_option maxRecDepth 100000 in
set_option maxHeartbeats 8000000 in
theorem w_L_law_B983 {p : Program} {l : Launch} {e : Env} {s : State} {m : MethodId} {b : Nat} {below : List Frame} {meth : Method} {c : Code} {D : va_G} {cI cG cZ cJ : ClassId} {ts : Nat × Nat} {L : List Nat} {ad : Nat → Nat} {al : Nat} (hflag : l.stackTraces = false) (hX : XW s) (hN : NCW s) {cells slots : Nat} (hcell : cells + 60 ≤ 600104) (hslot : slots + 6000 ≤ 7301314) (K : Nat → Int32 → Int32 → Int32 → Int32 → Int32 → Int32 → St → Prop) {a8 a9 : Int32} (hK : ∀ (L : List Nat) (ad : Nat → Nat) (al : Nat) (b2 b3 b4 b5 b6 b7 : Int32) (u : St) (H : Heap) (locs : List Loc) (ls : Array Slot), FX RL wsL_law cL_law 18 (some .boolean) D cI cG cZ cJ ts L ad p s m #[Value.ref b] meth c → Lf L al → Lb L al → cA L ad s.heap.size = AL s → K al b2 b3 b4 b5 b6 b7 u → va_P D vwCl (cW cI cG L ad al u) H → va_S (cA L ad s.heap.size) s.heap H locs → lv_has ls 18 [(0, .ref b), (1, .ref (ad 0)), (2, .int b2), (3, .int b3), (4, .int b4), (5, .int b5), (6, .int b6), (7, .int b7), (8, .int a8), (9, .int a9)] → W p l e room_1 s m #[Value.ref b] below meth c H locs (cells + 60) (slots + 6000) (lw_Z below #[Value.ref b] s) (F0 m 1268 ls []))
    (hL : Lf L al) (hLb : Lb L al) (hA9 : cA L ad s.heap.size = AL s) (X : FX RL wsL_law cL_law 18 (some .boolean) D cI cG cZ cJ ts L ad p s m #[Value.ref b] meth c) (a2 : Int32) (a3 : Int32) (a4 : Int32) (a5 : Int32) (a6 : Int32) (a7 : Int32) (a13 : Int32) (a14 : Int32) (u : St) (H : Heap) (locs : List Loc) (ls : Array Slot) (h : f_L_law_B983 al a2 a3 a4 a5 a6 a7 a8 a9 a13 a14 K u) (hP : va_P D vwCl (cW cI cG L ad al u) H) (hS : va_S (cA L ad s.heap.size) s.heap H locs) (hl : lv_has ls 18 [(0, .ref b), (1, .ref (ad 0)), (2, .int a2), (3, .int a3), (4, .int a4), (5, .int a5), (6, .int a6), (7, .int a7), (8, .int a8), (9, .int a9), (13, .int a13), (14, .int a14)]) : W p l e room_1 s m #[Value.ref b] below meth c H locs (cells + 0) (slots + 0) (lw_Z below #[Value.ref b] s) (F0 m 983 ls []) := by
  obtain ⟨hx, hb, hml, hown, hts, hr, hlocks, hwd, hC⟩ := id X
  have hK0 := hC.1
  have m0 : 0 ∈ L := hL 0 (by omega)
  obtain ⟨i0, hi0⟩ := wL_ix m0
  unfold f_L_law_B983 at h
  obtain ⟨v19, ev19⟩ : ∃ y : Int32, y = a5 + 1 := ⟨_, rfl⟩
  refine lv_iinc (v := v19) (lv' := [(5, .int v19), (0, .ref b), (1, .ref (ad 0)), (2, .int a2), (3, .int a3), (4, .int a4), (6, .int a6), (7, .int a7), (8, .int a8), (9, .int a9), (13, .int a13), (14, .int a14)]) hx hb dL_law_983 hl (k := 5) rfl (by rw [ev19]; rfl) (by decide) rfl (fun ls hl => ?_)
  replace h := h v19 ev19
  refine lv_iload hx hb dL_law_986 (lv_at hl 0 rfl) ?_
  refine lv_bipush (v := 12) hx hb dL_law_988 (by decide) ?_
  obtain ⟨R20, h, hR20⟩ := h
  have key20 : ∀  (u21 : St) (H : Heap) (locs : List Loc), R20 u21 → va_P D vwCl (cW cI cG L ad al u21) H → va_S (cA L ad s.heap.size) s.heap H locs → W p l e room_1 s m #[Value.ref b] below meth c H locs (cells + 16) (slots + 96) (lw_Z below #[Value.ref b] s) (F0 m 1041 ls []) := by
    intro  u21 H locs h hP hS
    replace h := hR20 u21 h
    refine lv_iconst (v := 1) hx hb dL_law_1041 (by decide) ?_
    refine lv_goto (tgt := 1046) hx hb dL_law_1042 (by decide) ?_
    refine lv_istore (lv' := [(7, .int 1), (5, .int v19), (0, .ref b), (1, .ref (ad 0)), (2, .int a2), (3, .int a3), (4, .int a4), (6, .int a6), (8, .int a8), (9, .int a9), (13, .int a13), (14, .int a14)]) hx hb dL_law_1046 hl (by decide) rfl (fun ls hl => ?_)
    refine lv_goto (tgt := 1268) hx hb dL_law_1048 (by decide) ?_
    refine W.widen (k := cells + 60) (n := slots + 6000) (by omega) (by omega) ?_
    exact hK _ _ _ a2 a3 a4 v19 a6 1 _ _ _ _ X hL hLb hA9 h hP hS (lv_sub hl [2, 3, 4, 5, 6, 1, 7, 0, 8, 9] rfl)
  clear hR20
  refine lv_icmp_gt (tgt := 1041) hx hb dL_law_990 (by decide) (fun c22 => ?_) (fun c22 => ?_)
  · replace h := h.1 c22
    refine W.widen (k := cells + 16) (n := slots + 96) (by omega) (by omega) ?_
    exact key20  _ _ _ h hP hS
  · replace h := h.2 c22
    refine lv_aload_n hx hb dL_law_993 rfl (lv_at hl 2 rfl) ?_
    refine lv_iload hx hb dL_law_994 (lv_at hl 10 rfl) ?_
    refine lv_iconst (v := 0) hx hb dL_law_996 (by decide) ?_
    refine cc_i (va_runV (C := RX6) (As := [.int a13, .int 0]) (rest := []) ⟨hx, hb, hml, hown, hts⟩ (cN_X6_formIs hL hwd H.size u a13 0 _ h) (cwV 2 hts gL_law_X6_formIs rfl rfl rfl (by decide +kernel) ⟨Nat.le_of_ble_eq_true rfl, Nat.le_of_ble_eq_true rfl⟩) (pcV hC hP hS (cg_0 hi0) rfl) rfl rfl hl.1 rfl (lv_room (Nat.le_of_ble_eq_true rfl)) dL_law_997 ⟨Nat.le_trans (by omega : cells + 0 + 0 ≤ cells + 60) hcell, Nat.le_trans (by omega : slots + 0 + 0 ≤ slots + 6000) hslot⟩) hS (cA_mono hS.1) (fun v23 u24 H locs h hP hS => ?_)
    refine lv_aload_n hx hb dL_law_1000 rfl (lv_at hl 2 rfl) ?_
    refine lv_iload hx hb dL_law_1001 (lv_at hl 11 rfl) ?_
    refine lv_iconst (v := 0) hx hb dL_law_1003 (by decide) ?_
    refine cc_i (va_runV (C := RX6) (As := [.int a14, .int 0]) (rest := [.int v23]) ⟨hx, hb, hml, hown, hts⟩ (cN_X6_formIs hL hwd H.size u24 a14 0 _ h) (cwV 2 hts gL_law_X6_formIs rfl rfl rfl (by decide +kernel) ⟨Nat.le_of_ble_eq_true rfl, Nat.le_of_ble_eq_true rfl⟩) (pcV hC hP hS (cg_0 hi0) rfl) rfl rfl hl.1 rfl (lv_room (Nat.le_of_ble_eq_true rfl)) dL_law_1004 ⟨Nat.le_trans (by omega : cells + 0 + 0 ≤ cells + 60) hcell, Nat.le_trans (by omega : slots + 0 + 0 ≤ slots + 6000) hslot⟩) hS (cA_mono hS.1) (fun v25 u26 H locs h hP hS => ?_)
    obtain ⟨R27, h, hR27⟩ := h
    have key27 : ∀  (u28 : St) (H : Heap) (locs : List Loc), R27 u28 → va_P D vwCl (cW cI cG L ad al u28) H → va_S (cA L ad s.heap.size) s.heap H locs → W p l e room_1 s m #[Value.ref b] below meth c H locs (cells + 16) (slots + 96) (lw_Z below #[Value.ref b] s) (F0 m 1045 ls []) := by
      intro  u28 H locs h hP hS
      replace h := hR27 u28 h
      refine lv_iconst (v := 0) hx hb dL_law_1045 (by decide) ?_
      refine lv_istore (lv' := [(7, .int 0), (5, .int v19), (0, .ref b), (1, .ref (ad 0)), (2, .int a2), (3, .int a3), (4, .int a4), (6, .int a6), (8, .int a8), (9, .int a9), (13, .int a13), (14, .int a14)]) hx hb dL_law_1046 hl (by decide) rfl (fun ls hl => ?_)
      refine lv_goto (tgt := 1268) hx hb dL_law_1048 (by decide) ?_
      refine W.widen (k := cells + 60) (n := slots + 6000) (by omega) (by omega) ?_
      exact hK _ _ _ a2 a3 a4 v19 a6 0 _ _ _ _ X hL hLb hA9 h hP hS (lv_sub hl [2, 3, 4, 5, 6, 1, 7, 0, 8, 9] rfl)
    clear hR27
    refine lv_icmp_ne (tgt := 1025) hx hb dL_law_1007 (by decide) (fun c29 => ?_) (fun c29 => ?_)
    · replace h := h.1 c29
      refine lv_aload_n hx hb dL_law_1025 rfl (lv_at hl 2 rfl) ?_
      refine lv_bipush (v := 7) hx hb dL_law_1026 (by decide) ?_
      refine lv_iload hx hb dL_law_1028 (lv_at hl 10 rfl) ?_
      refine lv_iload hx hb dL_law_1030 (lv_at hl 11 rfl) ?_
      refine lv_iconst (v := 0) hx hb dL_law_1032 (by decide) ?_
      refine cc_iM (vx_runSW (As := [.ref (ad 0), .int 7, .int a13, .int a14, .int 0]) (rest := []) ⟨hx, hb, hml, hown, hts⟩ (c_L_ask hflag hL hwd H.size u26 7 a13 a14 0 _ h) (vx_cwSW 5 hts gL_law_L_ask rfl rfl rfl (by decide +kernel) ⟨Nat.le_of_ble_eq_true rfl, Nat.le_of_ble_eq_true rfl⟩) (pcSN hC hX hN hP hS) rfl rfl hl.1 rfl (lv_room (Nat.le_of_ble_eq_true rfl)) dL_law_1033 ⟨Nat.le_trans (by omega : cells + 0 + 4 ≤ cells + 60) hcell, Nat.le_trans (by omega : slots + 0 + 24 ≤ slots + 6000) hslot⟩) hS (cA_mono hS.1) (fun v30 u31 H locs h hP hS => ?_)
      refine W.widen (k := cells + 4) (n := slots + 24) (by omega) (by omega) ?_
      refine lv_bipush (v := (-12)) hx hb dL_law_1036 (by decide) ?_
      refine lv_icmp_ne (tgt := 1045) hx hb dL_law_1038 (by decide) (fun c32 => ?_) (fun c32 => ?_)
      · replace h := h.1 c32
        refine W.widen (k := cells + 16) (n := slots + 96) (by omega) (by omega) ?_
        exact key27  _ _ _ h hP hS
      · replace h := h.2 c32
        refine W.widen (k := cells + 16) (n := slots + 96) (by omega) (by omega) ?_
        exact key20  _ _ _ h hP hS
    · replace h := h.2 c29
      refine lv_aload_n hx hb dL_law_1010 rfl (lv_at hl 2 rfl) ?_
      refine lv_iload_n hx hb dL_law_1011 rfl (lv_at hl 3 rfl) ?_
      refine lv_iload hx hb dL_law_1012 (lv_at hl 10 rfl) ?_
      refine lv_iload hx hb dL_law_1014 (lv_at hl 11 rfl) ?_
      refine cc_iM (va_runS (As := [.ref (ad 0), .int a2, .int a13, .int a14]) (rest := []) ⟨hx, hb, hml, hown, hts⟩ (c_L_isWay hflag hL hwd H.size u26 a2 a13 a14 _ h) (va_cwS 4 hts gL_law_L_isWay rfl rfl rfl (by decide +kernel) ⟨Nat.le_of_ble_eq_true rfl, Nat.le_of_ble_eq_true rfl⟩) (pcSN hC hX hN hP hS) rfl rfl hl.1 rfl (lv_room (Nat.le_of_ble_eq_true rfl)) dL_law_1016 ⟨Nat.le_trans (by omega : cells + 0 + 16 ≤ cells + 60) hcell, Nat.le_trans (by omega : slots + 0 + 96 ≤ slots + 6000) hslot⟩) hS (cA_mono hS.1) (fun v33 u34 H locs h hP hS => ?_)
      refine W.widen (k := cells + 16) (n := slots + 96) (by omega) (by omega) ?_
      refine lv_if_eq (tgt := 1045) hx hb dL_law_1019 (by decide) (fun c35 => ?_) (fun c35 => ?_)
      · replace h := h.1 c35
        exact key27  _ _ _ h hP hS
      · replace h := h.2 c35
        refine lv_goto (tgt := 1041) hx hb dL_law_1022 (by decide) ?_
        exact key20  _ _ _ h hP hS
set_option maxRecDepth 100000 in
set_option maxHeartbeats 8000000 in
theorem w_L_law_B871 {p : Program} {l : Launch} {e : Env} {s : State} {m : MethodId} {b : Nat} {below : List Frame} {meth : Method} {c : Code} {D : va_G} {cI cG cZ cJ : ClassId} {ts : Nat × Nat} {L : List Nat} {ad : Nat → Nat} {al : Nat} (hflag : l.stackTraces = false) (hX : XW s) (hN : NCW s) {cells slots : Nat} (hcell : cells + 60 ≤ 600104) (hslot : slots + 6000 ≤ 7301314) (K : Nat → Int32 → Int32 → Int32 → Int32 → Int32 → Int32 → St → Prop) {a8 a9 : Int32} (hK : ∀ (L : List Nat) (ad : Nat → Nat) (al : Nat) (b2 b3 b4 b5 b6 b7 : Int32) (u : St) (H : Heap) (locs : List Loc) (ls : Array Slot), FX RL wsL_law cL_law 18 (some .boolean) D cI cG cZ cJ ts L ad p s m #[Value.ref b] meth c → Lf L al → Lb L al → cA L ad s.heap.size = AL s → K al b2 b3 b4 b5 b6 b7 u → va_P D vwCl (cW cI cG L ad al u) H → va_S (cA L ad s.heap.size) s.heap H locs → lv_has ls 18 [(0, .ref b), (1, .ref (ad 0)), (2, .int b2), (3, .int b3), (4, .int b4), (5, .int b5), (6, .int b6), (7, .int b7), (8, .int a8), (9, .int a9)] → W p l e room_1 s m #[Value.ref b] below meth c H locs (cells + 60) (slots + 6000) (lw_Z below #[Value.ref b] s) (F0 m 1268 ls []))
    (hL : Lf L al) (hLb : Lb L al) (hA9 : cA L ad s.heap.size = AL s) (X : FX RL wsL_law cL_law 18 (some .boolean) D cI cG cZ cJ ts L ad p s m #[Value.ref b] meth c) (a2 : Int32) (a3 : Int32) (a4 : Int32) (a5 : Int32) (a6 : Int32) (a7 : Int32) (a11 : Int32) (a13 : Int32) (a14 : Int32) (u : St) (H : Heap) (locs : List Loc) (ls : Array Slot) (h : f_L_law_B871 al a2 a3 a4 a5 a6 a7 a8 a9 a11 a13 a14 K u) (hP : va_P D vwCl (cW cI cG L ad al u) H) (hS : va_S (cA L ad s.heap.size) s.heap H locs) (hl : lv_has ls 18 [(0, .ref b), (1, .ref (ad 0)), (2, .int a2), (3, .int a3), (4, .int a4), (5, .int a5), (6, .int a6), (7, .int a7), (8, .int a8), (9, .int a9), (11, .int a11), (13, .int a13), (14, .int a14)]) : W p l e room_1 s m #[Value.ref b] below meth c H locs (cells + 0) (slots + 0) (lw_Z below #[Value.ref b] s) (F0 m 871 ls []) := by
  obtain ⟨hx, hb, hml, hown, hts, hr, hlocks, hwd, hC⟩ := id X
  have hK0 := hC.1
  have m0 : 0 ∈ L := hL 0 (by omega)
  obtain ⟨i0, hi0⟩ := wL_ix m0
  unfold f_L_law_B871 at h
  refine lv_iload hx hb dL_law_871 (lv_at hl 10 rfl) ?_
  refine lv_bipush (v := 11) hx hb dL_law_873 (by decide) ?_
  refine lv_ishr hx hb dL_law_875 ?_
  refine lv_iconst (v := 5) hx hb dL_law_876 (by decide) ?_
  refine lv_irem hx hb dL_law_877 (by decide) ?_
  refine lv_topi (fun v19 ev19 => ?_)
  replace h := h v19 ev19
  refine lv_istore (lv' := [(15, .int v19), (0, .ref b), (1, .ref (ad 0)), (2, .int a2), (3, .int a3), (4, .int a4), (5, .int a5), (6, .int a6), (7, .int a7), (8, .int a8), (9, .int a9), (11, .int a11), (13, .int a13), (14, .int a14)]) hx hb dL_law_878 hl (by decide) rfl (fun ls hl => ?_)
  refine lv_aload_n hx hb dL_law_880 rfl (lv_at hl 2 rfl) ?_
  refine lv_iconst (v := 5) hx hb dL_law_881 (by decide) ?_
  refine lv_iload hx hb dL_law_882 (lv_at hl 12 rfl) ?_
  refine lv_iload hx hb dL_law_884 (lv_at hl 13 rfl) ?_
  refine lv_iload hx hb dL_law_886 (lv_at hl 0 rfl) ?_
  refine cc_iM (vx_runSW (As := [.ref (ad 0), .int 5, .int a13, .int a14, .int v19]) (rest := []) ⟨hx, hb, hml, hown, hts⟩ (c_L_ask hflag hL hwd H.size u 5 a13 a14 v19 _ h) (vx_cwSW 5 hts gL_law_L_ask rfl rfl rfl (by decide +kernel) ⟨Nat.le_of_ble_eq_true rfl, Nat.le_of_ble_eq_true rfl⟩) (pcSN hC hX hN hP hS) rfl rfl hl.1 rfl (lv_room (Nat.le_of_ble_eq_true rfl)) dL_law_888 ⟨Nat.le_trans (by omega : cells + 0 + 4 ≤ cells + 60) hcell, Nat.le_trans (by omega : slots + 0 + 24 ≤ slots + 6000) hslot⟩) hS (cA_mono hS.1) (fun v20 u21 H locs h hP hS => ?_)
  refine W.widen (k := cells + 4) (n := slots + 24) (by omega) (by omega) ?_
  refine lv_istore (lv' := [(16, .int v20), (15, .int v19), (0, .ref b), (1, .ref (ad 0)), (2, .int a2), (3, .int a3), (4, .int a4), (5, .int a5), (6, .int a6), (7, .int a7), (8, .int a8), (9, .int a9), (11, .int a11), (13, .int a13), (14, .int a14)]) hx hb dL_law_891 hl (by decide) rfl (fun ls hl => ?_)
  refine lv_aload_n hx hb dL_law_893 rfl (lv_at hl 3 rfl) ?_
  refine lv_iconst (v := 5) hx hb dL_law_894 (by decide) ?_
  refine lv_iload hx hb dL_law_895 (lv_at hl 14 rfl) ?_
  refine lv_iload hx hb dL_law_897 (lv_at hl 13 rfl) ?_
  refine lv_iload hx hb dL_law_899 (lv_at hl 1 rfl) ?_
  refine cc_iM (vx_runSW (As := [.ref (ad 0), .int 5, .int a14, .int a13, .int v19]) (rest := []) ⟨hx, hb, hml, hown, hts⟩ (c_L_ask hflag hL hwd H.size u21 5 a14 a13 v19 _ h) (vx_cwSW 5 hts gL_law_L_ask rfl rfl rfl (by decide +kernel) ⟨Nat.le_of_ble_eq_true rfl, Nat.le_of_ble_eq_true rfl⟩) (pcSN hC hX hN hP hS) rfl rfl hl.1 rfl (lv_room (Nat.le_of_ble_eq_true rfl)) dL_law_901 ⟨Nat.le_trans (by omega : cells + 4 + 4 ≤ cells + 60) hcell, Nat.le_trans (by omega : slots + 24 + 24 ≤ slots + 6000) hslot⟩) hS (cA_mono hS.1) (fun v22 u23 H locs h hP hS => ?_)
  refine W.widen (k := cells + 8) (n := slots + 48) (by omega) (by omega) ?_
  refine lv_istore (lv' := [(17, .int v22), (16, .int v20), (15, .int v19), (0, .ref b), (1, .ref (ad 0)), (2, .int a2), (3, .int a3), (4, .int a4), (5, .int a5), (6, .int a6), (7, .int a7), (8, .int a8), (9, .int a9), (11, .int a11), (13, .int a13), (14, .int a14)]) hx hb dL_law_904 hl (by decide) rfl (fun ls hl => ?_)
  refine lv_iload hx hb dL_law_906 (lv_at hl 1 rfl) ?_
  refine lv_if_ge (tgt := 933) hx hb dL_law_908 (by decide) (fun c24 => ?_) (fun c24 => ?_)
  · replace h := h.1 c24
    refine lv_iload hx hb dL_law_933 (lv_at hl 2 rfl) ?_
    refine lv_iconst (v := 2) hx hb dL_law_935 (by decide) ?_
    refine lv_irem hx hb dL_law_936 (by decide) ?_
    refine lv_topi (fun v25 ev25 => ?_)
    replace h := h v25 ev25
    refine lv_if_ne (tgt := 955) hx hb dL_law_937 (by decide) (fun c26 => ?_) (fun c26 => ?_)
    · replace h := h.1 c26
      refine lv_iload_n hx hb dL_law_955 rfl (lv_at hl 5 rfl) ?_
      refine lv_iload hx hb dL_law_956 (lv_at hl 1 rfl) ?_
      refine lv_iload hx hb dL_law_958 (lv_at hl 0 rfl) ?_
      refine cc_i (va_runS (As := [.int a2, .int v20, .int v22]) (rest := []) ⟨hx, hb, hml, hown, hts⟩ (c_L_plus hL hwd H.size u23 a2 v20 v22 _ h) (va_cwS 3 hts gL_law_L_plus rfl rfl rfl (by decide +kernel) ⟨Nat.le_of_ble_eq_true rfl, Nat.le_of_ble_eq_true rfl⟩) (pcS hC hP hS) rfl rfl hl.1 rfl (lv_room (Nat.le_of_ble_eq_true rfl)) dL_law_960 ⟨Nat.le_trans (by omega : cells + 8 + 0 ≤ cells + 60) hcell, Nat.le_trans (by omega : slots + 48 + 0 ≤ slots + 6000) hslot⟩) hS (cA_mono hS.1) (fun v27 u28 H locs h hP hS => ?_)
      refine lv_if_ne (tgt := 970) hx hb dL_law_963 (by decide) (fun c29 => ?_) (fun c29 => ?_)
      · replace h := h.1 c29
        refine lv_iconst (v := 0) hx hb dL_law_970 (by decide) ?_
        refine lv_istore (lv' := [(7, .int 0), (17, .int v22), (16, .int v20), (15, .int v19), (0, .ref b), (1, .ref (ad 0)), (2, .int a2), (3, .int a3), (4, .int a4), (5, .int a5), (6, .int a6), (8, .int a8), (9, .int a9), (11, .int a11), (13, .int a13), (14, .int a14)]) hx hb dL_law_971 hl (by decide) rfl (fun ls hl => ?_)
        refine lv_goto (tgt := 1268) hx hb dL_law_973 (by decide) ?_
        refine W.widen (k := cells + 60) (n := slots + 6000) (by omega) (by omega) ?_
        exact hK _ _ _ a2 a3 a4 a5 a6 0 _ _ _ _ X hL hLb hA9 h hP hS (lv_sub hl [4, 5, 6, 7, 8, 9, 10, 0, 11, 12] rfl)
      · replace h := h.2 c29
        refine lv_iconst (v := 1) hx hb dL_law_966 (by decide) ?_
        refine lv_goto (tgt := 971) hx hb dL_law_967 (by decide) ?_
        refine lv_istore (lv' := [(7, .int 1), (17, .int v22), (16, .int v20), (15, .int v19), (0, .ref b), (1, .ref (ad 0)), (2, .int a2), (3, .int a3), (4, .int a4), (5, .int a5), (6, .int a6), (8, .int a8), (9, .int a9), (11, .int a11), (13, .int a13), (14, .int a14)]) hx hb dL_law_971 hl (by decide) rfl (fun ls hl => ?_)
        refine lv_goto (tgt := 1268) hx hb dL_law_973 (by decide) ?_
        refine W.widen (k := cells + 60) (n := slots + 6000) (by omega) (by omega) ?_
        exact hK _ _ _ a2 a3 a4 a5 a6 1 _ _ _ _ X hL hLb hA9 h hP hS (lv_sub hl [4, 5, 6, 7, 8, 9, 10, 0, 11, 12] rfl)
    · replace h := h.2 c26
      refine lv_iload hx hb dL_law_940 (lv_at hl 1 rfl) ?_
      refine lv_iload hx hb dL_law_942 (lv_at hl 0 rfl) ?_
      refine lv_icmp_ne (tgt := 951) hx hb dL_law_944 (by decide) (fun c30 => ?_) (fun c30 => ?_)
      · replace h := h.1 c30
        refine lv_iconst (v := 0) hx hb dL_law_951 (by decide) ?_
        refine lv_goto (tgt := 971) hx hb dL_law_952 (by decide) ?_
        refine lv_istore (lv' := [(7, .int 0), (17, .int v22), (16, .int v20), (15, .int v19), (0, .ref b), (1, .ref (ad 0)), (2, .int a2), (3, .int a3), (4, .int a4), (5, .int a5), (6, .int a6), (8, .int a8), (9, .int a9), (11, .int a11), (13, .int a13), (14, .int a14)]) hx hb dL_law_971 hl (by decide) rfl (fun ls hl => ?_)
        refine lv_goto (tgt := 1268) hx hb dL_law_973 (by decide) ?_
        refine W.widen (k := cells + 60) (n := slots + 6000) (by omega) (by omega) ?_
        exact hK _ _ _ a2 a3 a4 a5 a6 0 _ _ _ _ X hL hLb hA9 h hP hS (lv_sub hl [4, 5, 6, 7, 8, 9, 10, 0, 11, 12] rfl)
      · replace h := h.2 c30
        refine lv_iconst (v := 1) hx hb dL_law_947 (by decide) ?_
        refine lv_goto (tgt := 971) hx hb dL_law_948 (by decide) ?_
        refine lv_istore (lv' := [(7, .int 1), (17, .int v22), (16, .int v20), (15, .int v19), (0, .ref b), (1, .ref (ad 0)), (2, .int a2), (3, .int a3), (4, .int a4), (5, .int a5), (6, .int a6), (8, .int a8), (9, .int a9), (11, .int a11), (13, .int a13), (14, .int a14)]) hx hb dL_law_971 hl (by decide) rfl (fun ls hl => ?_)
        refine lv_goto (tgt := 1268) hx hb dL_law_973 (by decide) ?_
        refine W.widen (k := cells + 60) (n := slots + 6000) (by omega) (by omega) ?_
        exact hK _ _ _ a2 a3 a4 a5 a6 1 _ _ _ _ X hL hLb hA9 h hP hS (lv_sub hl [4, 5, 6, 7, 8, 9, 10, 0, 11, 12] rfl)
  · replace h := h.2 c24
    refine lv_iload hx hb dL_law_911 (lv_at hl 1 rfl) ?_
    refine lv_bipush (v := (-12)) hx hb dL_law_913 (by decide) ?_
    obtain ⟨R31, h, hR31⟩ := h
    have key31 : R31  → W p l e room_1 s m #[Value.ref b] below meth c H locs (cells + 8) (slots + 48) (lw_Z below #[Value.ref b] s) (F0 m 929 ls []) := by
      intro  h
      replace h := hR31  h
      refine lv_iconst (v := 0) hx hb dL_law_929 (by decide) ?_
      refine lv_goto (tgt := 971) hx hb dL_law_930 (by decide) ?_
      refine lv_istore (lv' := [(7, .int 0), (17, .int v22), (16, .int v20), (15, .int v19), (0, .ref b), (1, .ref (ad 0)), (2, .int a2), (3, .int a3), (4, .int a4), (5, .int a5), (6, .int a6), (8, .int a8), (9, .int a9), (11, .int a11), (13, .int a13), (14, .int a14)]) hx hb dL_law_971 hl (by decide) rfl (fun ls hl => ?_)
      refine lv_goto (tgt := 1268) hx hb dL_law_973 (by decide) ?_
      refine W.widen (k := cells + 60) (n := slots + 6000) (by omega) (by omega) ?_
      exact hK _ _ _ a2 a3 a4 a5 a6 0 _ _ _ _ X hL hLb hA9 h hP hS (lv_sub hl [4, 5, 6, 7, 8, 9, 10, 0, 11, 12] rfl)
    clear hR31
    refine lv_icmp_ne (tgt := 929) hx hb dL_law_915 (by decide) (fun c32 => ?_) (fun c32 => ?_)
    · replace h := h.1 c32
      exact key31  h
    · replace h := h.2 c32
      refine lv_iload hx hb dL_law_918 (lv_at hl 0 rfl) ?_
      refine lv_bipush (v := (-12)) hx hb dL_law_920 (by decide) ?_
      refine lv_icmp_ne (tgt := 929) hx hb dL_law_922 (by decide) (fun c33 => ?_) (fun c33 => ?_)
      · replace h := h.1 c33
        exact key31  h
      · replace h := h.2 c33
        refine lv_iconst (v := 1) hx hb dL_law_925 (by decide) ?_
        refine lv_goto (tgt := 971) hx hb dL_law_926 (by decide) ?_
        refine lv_istore (lv' := [(7, .int 1), (17, .int v22), (16, .int v20), (15, .int v19), (0, .ref b), (1, .ref (ad 0)), (2, .int a2), (3, .int a3), (4, .int a4), (5, .int a5), (6, .int a6), (8, .int a8), (9, .int a9), (11, .int a11), (13, .int a13), (14, .int a14)]) hx hb dL_law_971 hl (by decide) rfl (fun ls hl => ?_)
        refine lv_goto (tgt := 1268) hx hb dL_law_973 (by decide) ?_
        refine W.widen (k := cells + 60) (n := slots + 6000) (by omega) (by omega) ?_
        exact hK _ _ _ a2 a3 a4 a5 a6 1 _ _ _ _ X hL hLb hA9 h hP hS (lv_sub hl [4, 5, 6, 7, 8, 9, 10, 0, 11, 12] rfl)
set_option maxRecDepth 100000 in
set_option maxHeartbeats 8000000 in
theorem w_L_law_B742 {p : Program} {l : Launch} {e : Env} {s : State} {m : MethodId} {b : Nat} {below : List Frame} {meth : Method} {c : Code} {D : va_G} {cI cG cZ cJ : ClassId} {ts : Nat × Nat} {L : List Nat} {ad : Nat → Nat} {al : Nat} (hflag : l.stackTraces = false) (hX : XW s) (hN : NCW s) {cells slots : Nat} (hcell : cells + 60 ≤ 600104) (hslot : slots + 6000 ≤ 7301314) (K : Nat → Int32 → Int32 → Int32 → Int32 → Int32 → Int32 → St → Prop) {a8 a9 : Int32} (hK : ∀ (L : List Nat) (ad : Nat → Nat) (al : Nat) (b2 b3 b4 b5 b6 b7 : Int32) (u : St) (H : Heap) (locs : List Loc) (ls : Array Slot), FX RL wsL_law cL_law 18 (some .boolean) D cI cG cZ cJ ts L ad p s m #[Value.ref b] meth c → Lf L al → Lb L al → cA L ad s.heap.size = AL s → K al b2 b3 b4 b5 b6 b7 u → va_P D vwCl (cW cI cG L ad al u) H → va_S (cA L ad s.heap.size) s.heap H locs → lv_has ls 18 [(0, .ref b), (1, .ref (ad 0)), (2, .int b2), (3, .int b3), (4, .int b4), (5, .int b5), (6, .int b6), (7, .int b7), (8, .int a8), (9, .int a9)] → W p l e room_1 s m #[Value.ref b] below meth c H locs (cells + 60) (slots + 6000) (lw_Z below #[Value.ref b] s) (F0 m 1268 ls []))
    (hL : Lf L al) (hLb : Lb L al) (hA9 : cA L ad s.heap.size = AL s) (X : FX RL wsL_law cL_law 18 (some .boolean) D cI cG cZ cJ ts L ad p s m #[Value.ref b] meth c) (a2 : Int32) (a3 : Int32) (a4 : Int32) (a5 : Int32) (a6 : Int32) (a7 : Int32) (a11 : Int32) (a13 : Int32) (a14 : Int32) (u : St) (H : Heap) (locs : List Loc) (ls : Array Slot) (h : f_L_law_B742 al a2 a3 a4 a5 a6 a7 a8 a9 a11 a13 a14 K u) (hP : va_P D vwCl (cW cI cG L ad al u) H) (hS : va_S (cA L ad s.heap.size) s.heap H locs) (hl : lv_has ls 18 [(0, .ref b), (1, .ref (ad 0)), (2, .int a2), (3, .int a3), (4, .int a4), (5, .int a5), (6, .int a6), (7, .int a7), (8, .int a8), (9, .int a9), (11, .int a11), (13, .int a13), (14, .int a14)]) : W p l e room_1 s m #[Value.ref b] below meth c H locs (cells + 0) (slots + 0) (lw_Z below #[Value.ref b] s) (F0 m 742 ls []) := by
  obtain ⟨hx, hb, hml, hown, hts, hr, hlocks, hwd, hC⟩ := id X
  have hK0 := hC.1
  have m0 : 0 ∈ L := hL 0 (by omega)
  obtain ⟨i0, hi0⟩ := wL_ix m0
  unfold f_L_law_B742 at h
  refine lv_iload hx hb dL_law_742 (lv_at hl 4 rfl) ?_
  refine lv_if_le (tgt := 1268) hx hb dL_law_744 (by decide) (fun c19 => ?_) (fun c19 => ?_)
  · replace h := h.1 c19
    refine W.widen (k := cells + 60) (n := slots + 6000) (by omega) (by omega) ?_
    exact hK _ _ _ a2 a3 a4 a5 a6 a7 _ _ _ _ X hL hLb hA9 h hP hS (lv_sub hl [0, 1, 2, 3, 4, 5, 6, 7, 8, 9] rfl)
  · replace h := h.2 c19
    refine lv_iload_n hx hb dL_law_747 rfl (lv_at hl 3 rfl) ?_
    refine lv_bipush (v := 20) hx hb dL_law_748 (by decide) ?_
    refine lv_icmp_ge (tgt := 1268) hx hb dL_law_750 (by decide) (fun c20 => ?_) (fun c20 => ?_)
    · replace h := h.1 c20
      refine W.widen (k := cells + 60) (n := slots + 6000) (by omega) (by omega) ?_
      exact hK _ _ _ a2 a3 a4 a5 a6 a7 _ _ _ _ X hL hLb hA9 h hP hS (lv_sub hl [0, 1, 2, 3, 4, 5, 6, 7, 8, 9] rfl)
    · replace h := h.2 c20
      refine lv_aload_n hx hb dL_law_753 rfl (lv_at hl 1 rfl) ?_
      refine lv_iload hx hb dL_law_754 (lv_at hl 11 rfl) ?_
      refine lv_iconst (v := 0) hx hb dL_law_756 (by decide) ?_
      refine cc_i (va_runV (C := RX6) (As := [.int a13, .int 0]) (rest := []) ⟨hx, hb, hml, hown, hts⟩ (cN_X6_formIs hL hwd H.size u a13 0 _ h) (cwV 2 hts gL_law_X6_formIs rfl rfl rfl (by decide +kernel) ⟨Nat.le_of_ble_eq_true rfl, Nat.le_of_ble_eq_true rfl⟩) (pcV hC hP hS (cg_0 hi0) rfl) rfl rfl hl.1 rfl (lv_room (Nat.le_of_ble_eq_true rfl)) dL_law_757 ⟨Nat.le_trans (by omega : cells + 0 + 0 ≤ cells + 60) hcell, Nat.le_trans (by omega : slots + 0 + 0 ≤ slots + 6000) hslot⟩) hS (cA_mono hS.1) (fun v21 u22 H locs h hP hS => ?_)
      refine lv_aload_n hx hb dL_law_760 rfl (lv_at hl 1 rfl) ?_
      refine lv_iload hx hb dL_law_761 (lv_at hl 12 rfl) ?_
      refine lv_iconst (v := 0) hx hb dL_law_763 (by decide) ?_
      refine cc_i (va_runV (C := RX6) (As := [.int a14, .int 0]) (rest := [.int v21]) ⟨hx, hb, hml, hown, hts⟩ (cN_X6_formIs hL hwd H.size u22 a14 0 _ h) (cwV 2 hts gL_law_X6_formIs rfl rfl rfl (by decide +kernel) ⟨Nat.le_of_ble_eq_true rfl, Nat.le_of_ble_eq_true rfl⟩) (pcV hC hP hS (cg_0 hi0) rfl) rfl rfl hl.1 rfl (lv_room (Nat.le_of_ble_eq_true rfl)) dL_law_764 ⟨Nat.le_trans (by omega : cells + 0 + 0 ≤ cells + 60) hcell, Nat.le_trans (by omega : slots + 0 + 0 ≤ slots + 6000) hslot⟩) hS (cA_mono hS.1) (fun v23 u24 H locs h hP hS => ?_)
      refine lv_icmp_ne (tgt := 1268) hx hb dL_law_767 (by decide) (fun c25 => ?_) (fun c25 => ?_)
      · replace h := h.1 c25
        refine W.widen (k := cells + 60) (n := slots + 6000) (by omega) (by omega) ?_
        exact hK _ _ _ a2 a3 a4 a5 a6 a7 _ _ _ _ X hL hLb hA9 h hP hS (lv_sub hl [0, 1, 2, 3, 4, 5, 6, 7, 8, 9] rfl)
      · replace h := h.2 c25
        refine lv_iload hx hb dL_law_770 (lv_at hl 10 rfl) ?_
        refine lv_bipush (v := 11) hx hb dL_law_772 (by decide) ?_
        refine lv_ishr hx hb dL_law_774 ?_
        refine lv_iload hx hb dL_law_775 (lv_at hl 4 rfl) ?_
        refine lv_irem hx hb dL_law_777 h.1 ?_
        replace h := h.2
        refine lv_topi (fun v26 ev26 => ?_)
        replace h := h v26 ev26
        refine lv_istore (lv' := [(15, .int v26), (0, .ref b), (1, .ref (ad 0)), (2, .int a2), (3, .int a3), (4, .int a4), (5, .int a5), (6, .int a6), (7, .int a7), (8, .int a8), (9, .int a9), (11, .int a11), (13, .int a13), (14, .int a14)]) hx hb dL_law_778 hl (by decide) rfl (fun ls hl => ?_)
        refine lv_aload_n hx hb dL_law_780 rfl (lv_at hl 2 rfl) ?_
        refine lv_iconst (v := 1) hx hb dL_law_781 (by decide) ?_
        refine lv_aload_n hx hb dL_law_782 rfl (lv_at hl 2 rfl) ?_
        refine lv_iload hx hb dL_law_783 (lv_at hl 12 rfl) ?_
        refine lv_iconst (v := 0) hx hb dL_law_785 (by decide) ?_
        refine cc_i (va_runV (C := RX6) (As := [.int a13, .int 0]) (rest := [.int 1, .ref (ad 0)]) ⟨hx, hb, hml, hown, hts⟩ (cN_X6_formIs hL hwd H.size u24 a13 0 _ h) (cwV 2 hts gL_law_X6_formIs rfl rfl rfl (by decide +kernel) ⟨Nat.le_of_ble_eq_true rfl, Nat.le_of_ble_eq_true rfl⟩) (pcV hC hP hS (cg_0 hi0) rfl) rfl rfl hl.1 rfl (lv_room (Nat.le_of_ble_eq_true rfl)) dL_law_786 ⟨Nat.le_trans (by omega : cells + 0 + 0 ≤ cells + 60) hcell, Nat.le_trans (by omega : slots + 0 + 0 ≤ slots + 6000) hslot⟩) hS (cA_mono hS.1) (fun v27 u28 H locs h hP hS => ?_)
        refine lv_iload_n hx hb dL_law_789 rfl (lv_at hl 3 rfl) ?_
        refine lv_aload_n hx hb dL_law_790 rfl (lv_at hl 2 rfl) ?_
        refine lv_iload hx hb dL_law_791 (lv_at hl 12 rfl) ?_
        refine lv_iconst (v := 1) hx hb dL_law_793 (by decide) ?_
        refine cc_i (va_runV (C := RX6) (As := [.int a13, .int 1]) (rest := [.int a2, .int v27, .int 1, .ref (ad 0)]) ⟨hx, hb, hml, hown, hts⟩ (cN_X6_formIs hL hwd H.size u28 a13 1 _ h) (cwV 2 hts gL_law_X6_formIs rfl rfl rfl (by decide +kernel) ⟨Nat.le_of_ble_eq_true rfl, Nat.le_of_ble_eq_true rfl⟩) (pcV hC hP hS (cg_0 hi0) rfl) rfl rfl hl.1 rfl (lv_room (Nat.le_of_ble_eq_true rfl)) dL_law_794 ⟨Nat.le_trans (by omega : cells + 0 + 0 ≤ cells + 60) hcell, Nat.le_trans (by omega : slots + 0 + 0 ≤ slots + 6000) hslot⟩) hS (cA_mono hS.1) (fun v29 u30 H locs h hP hS => ?_)
        refine lv_aload_n hx hb dL_law_797 rfl (lv_at hl 2 rfl) ?_
        refine lv_iload hx hb dL_law_798 (lv_at hl 13 rfl) ?_
        refine lv_iconst (v := 1) hx hb dL_law_800 (by decide) ?_
        refine cc_i (va_runV (C := RX6) (As := [.int a14, .int 1]) (rest := [.int v29, .int a2, .int v27, .int 1, .ref (ad 0)]) ⟨hx, hb, hml, hown, hts⟩ (cN_X6_formIs hL hwd H.size u30 a14 1 _ h) (cwV 2 hts gL_law_X6_formIs rfl rfl rfl (by decide +kernel) ⟨Nat.le_of_ble_eq_true rfl, Nat.le_of_ble_eq_true rfl⟩) (pcV hC hP hS (cg_0 hi0) rfl) rfl rfl hl.1 rfl (lv_room (Nat.le_of_ble_eq_true rfl)) dL_law_801 ⟨Nat.le_trans (by omega : cells + 0 + 0 ≤ cells + 60) hcell, Nat.le_trans (by omega : slots + 0 + 0 ≤ slots + 6000) hslot⟩) hS (cA_mono hS.1) (fun v31 u32 H locs h hP hS => ?_)
        refine cc_i (va_runS (As := [.int a2, .int v29, .int v31]) (rest := [.int v27, .int 1, .ref (ad 0)]) ⟨hx, hb, hml, hown, hts⟩ (c_L_plus hL hwd H.size u32 a2 v29 v31 _ h) (va_cwS 3 hts gL_law_L_plus rfl rfl rfl (by decide +kernel) ⟨Nat.le_of_ble_eq_true rfl, Nat.le_of_ble_eq_true rfl⟩) (pcS hC hP hS) rfl rfl hl.1 rfl (lv_room (Nat.le_of_ble_eq_true rfl)) dL_law_804 ⟨Nat.le_trans (by omega : cells + 0 + 0 ≤ cells + 60) hcell, Nat.le_trans (by omega : slots + 0 + 0 ≤ slots + 6000) hslot⟩) hS (cA_mono hS.1) (fun v33 u34 H locs h hP hS => ?_)
        refine lv_iconst (v := 0) hx hb dL_law_807 (by decide) ?_
        refine cc_iM (vx_runSW (As := [.ref (ad 0), .int 1, .int v27, .int v33, .int 0]) (rest := []) ⟨hx, hb, hml, hown, hts⟩ (c_L_ask hflag hL hwd H.size u34 1 v27 v33 0 _ h) (vx_cwSW 5 hts gL_law_L_ask rfl rfl rfl (by decide +kernel) ⟨Nat.le_of_ble_eq_true rfl, Nat.le_of_ble_eq_true rfl⟩) (pcSN hC hX hN hP hS) rfl rfl hl.1 rfl (lv_room (Nat.le_of_ble_eq_true rfl)) dL_law_808 ⟨Nat.le_trans (by omega : cells + 0 + 4 ≤ cells + 60) hcell, Nat.le_trans (by omega : slots + 0 + 24 ≤ slots + 6000) hslot⟩) hS (cA_mono hS.1) (fun v35 u36 H locs h hP hS => ?_)
        refine W.widen (k := cells + 4) (n := slots + 24) (by omega) (by omega) ?_
        refine lv_iload_n hx hb dL_law_811 rfl (lv_at hl 4 rfl) ?_
        obtain ⟨R38, h, hR38⟩ := h
        have key38 : ∀ (v37 : Int32) (u39 : St) (H : Heap) (locs : List Loc), R38 v37 u39 → va_P D vwCl (cW cI cG L ad al u39) H → va_S (cA L ad s.heap.size) s.heap H locs → W p l e room_1 s m #[Value.ref b] below meth c H locs (cells + 16) (slots + 96) (lw_Z below #[Value.ref b] s) (F0 m 856 ls [.int v37]) := by
          intro v37 u39 H locs h hP hS
          replace h := hR38 v37 u39 h
          refine lv_istore (lv' := [(7, .int v37), (15, .int v26), (0, .ref b), (1, .ref (ad 0)), (2, .int a2), (3, .int a3), (4, .int a4), (5, .int a5), (6, .int a6), (8, .int a8), (9, .int a9), (11, .int a11), (13, .int a13), (14, .int a14)]) hx hb dL_law_856 hl (by decide) rfl (fun ls hl => ?_)
          obtain ⟨v40, ev40⟩ : ∃ y : Int32, y = a3 + 1 := ⟨_, rfl⟩
          refine lv_iinc (v := v40) (lv' := [(3, .int v40), (7, .int v37), (15, .int v26), (0, .ref b), (1, .ref (ad 0)), (2, .int a2), (4, .int a4), (5, .int a5), (6, .int a6), (8, .int a8), (9, .int a9), (11, .int a11), (13, .int a13), (14, .int a14)]) hx hb dL_law_858 hl (k := 5) rfl (by rw [ev40]; rfl) (by decide) rfl (fun ls hl => ?_)
          replace h := h v40 ev40
          refine lv_goto (tgt := 1268) hx hb dL_law_861 (by decide) ?_
          refine W.widen (k := cells + 60) (n := slots + 6000) (by omega) (by omega) ?_
          exact hK _ _ _ a2 v40 a4 a5 a6 v37 _ _ _ _ X hL hLb hA9 h hP hS (lv_sub hl [3, 4, 5, 0, 6, 7, 8, 1, 9, 10] rfl)
        clear hR38
        refine lv_icmp_ne (tgt := 855) hx hb dL_law_812 (by decide) (fun c41 => ?_) (fun c41 => ?_)
        · replace h := h.1 c41
          refine lv_iconst (v := 0) hx hb dL_law_855 (by decide) ?_
          refine W.widen (k := cells + 16) (n := slots + 96) (by omega) (by omega) ?_
          exact key38 0 _ _ _ h hP hS
        · replace h := h.2 c41
          refine lv_aload_n hx hb dL_law_815 rfl (lv_at hl 2 rfl) ?_
          refine lv_iconst (v := 3) hx hb dL_law_816 (by decide) ?_
          refine lv_iload_n hx hb dL_law_817 rfl (lv_at hl 4 rfl) ?_
          refine lv_iload hx hb dL_law_818 (lv_at hl 0 rfl) ?_
          refine lv_iconst (v := 0) hx hb dL_law_820 (by decide) ?_
          refine cc_iM (vx_runSW (As := [.ref (ad 0), .int 3, .int a3, .int v26, .int 0]) (rest := []) ⟨hx, hb, hml, hown, hts⟩ (c_L_ask hflag hL hwd H.size u36 3 a3 v26 0 _ h) (vx_cwSW 5 hts gL_law_L_ask rfl rfl rfl (by decide +kernel) ⟨Nat.le_of_ble_eq_true rfl, Nat.le_of_ble_eq_true rfl⟩) (pcSN hC hX hN hP hS) rfl rfl hl.1 rfl (lv_room (Nat.le_of_ble_eq_true rfl)) dL_law_821 ⟨Nat.le_trans (by omega : cells + 4 + 4 ≤ cells + 60) hcell, Nat.le_trans (by omega : slots + 24 + 24 ≤ slots + 6000) hslot⟩) hS (cA_mono hS.1) (fun v42 u43 H locs h hP hS => ?_)
          refine W.widen (k := cells + 8) (n := slots + 48) (by omega) (by omega) ?_
          refine lv_iload_n hx hb dL_law_824 rfl (lv_at hl 3 rfl) ?_
          refine lv_aload_n hx hb dL_law_825 rfl (lv_at hl 2 rfl) ?_
          refine lv_iconst (v := 3) hx hb dL_law_826 (by decide) ?_
          refine lv_iload hx hb dL_law_827 (lv_at hl 12 rfl) ?_
          refine lv_iload hx hb dL_law_829 (lv_at hl 0 rfl) ?_
          refine lv_iconst (v := 0) hx hb dL_law_831 (by decide) ?_
          refine cc_iM (vx_runSW (As := [.ref (ad 0), .int 3, .int a13, .int v26, .int 0]) (rest := [.int a2, .int v42]) ⟨hx, hb, hml, hown, hts⟩ (c_L_ask hflag hL hwd H.size u43 3 a13 v26 0 _ h) (vx_cwSW 5 hts gL_law_L_ask rfl rfl rfl (by decide +kernel) ⟨Nat.le_of_ble_eq_true rfl, Nat.le_of_ble_eq_true rfl⟩) (pcSN hC hX hN hP hS) rfl rfl hl.1 rfl (lv_room (Nat.le_of_ble_eq_true rfl)) dL_law_832 ⟨Nat.le_trans (by omega : cells + 8 + 4 ≤ cells + 60) hcell, Nat.le_trans (by omega : slots + 48 + 24 ≤ slots + 6000) hslot⟩) hS (cA_mono hS.1) (fun v44 u45 H locs h hP hS => ?_)
          refine W.widen (k := cells + 12) (n := slots + 72) (by omega) (by omega) ?_
          refine lv_aload_n hx hb dL_law_835 rfl (lv_at hl 2 rfl) ?_
          refine lv_iconst (v := 3) hx hb dL_law_836 (by decide) ?_
          refine lv_iload hx hb dL_law_837 (lv_at hl 13 rfl) ?_
          refine lv_iload hx hb dL_law_839 (lv_at hl 0 rfl) ?_
          refine lv_iconst (v := 0) hx hb dL_law_841 (by decide) ?_
          refine cc_iM (vx_runSW (As := [.ref (ad 0), .int 3, .int a14, .int v26, .int 0]) (rest := [.int v44, .int a2, .int v42]) ⟨hx, hb, hml, hown, hts⟩ (c_L_ask hflag hL hwd H.size u45 3 a14 v26 0 _ h) (vx_cwSW 5 hts gL_law_L_ask rfl rfl rfl (by decide +kernel) ⟨Nat.le_of_ble_eq_true rfl, Nat.le_of_ble_eq_true rfl⟩) (pcSN hC hX hN hP hS) rfl rfl hl.1 rfl (lv_room (Nat.le_of_ble_eq_true rfl)) dL_law_842 ⟨Nat.le_trans (by omega : cells + 12 + 4 ≤ cells + 60) hcell, Nat.le_trans (by omega : slots + 72 + 24 ≤ slots + 6000) hslot⟩) hS (cA_mono hS.1) (fun v46 u47 H locs h hP hS => ?_)
          refine W.widen (k := cells + 16) (n := slots + 96) (by omega) (by omega) ?_
          refine cc_i (va_runS (As := [.int a2, .int v44, .int v46]) (rest := [.int v42]) ⟨hx, hb, hml, hown, hts⟩ (c_L_plus hL hwd H.size u47 a2 v44 v46 _ h) (va_cwS 3 hts gL_law_L_plus rfl rfl rfl (by decide +kernel) ⟨Nat.le_of_ble_eq_true rfl, Nat.le_of_ble_eq_true rfl⟩) (pcS hC hP hS) rfl rfl hl.1 rfl (lv_room (Nat.le_of_ble_eq_true rfl)) dL_law_845 ⟨Nat.le_trans (by omega : cells + 16 + 0 ≤ cells + 60) hcell, Nat.le_trans (by omega : slots + 96 + 0 ≤ slots + 6000) hslot⟩) hS (cA_mono hS.1) (fun v48 u49 H locs h hP hS => ?_)
          refine lv_icmp_ne (tgt := 855) hx hb dL_law_848 (by decide) (fun c50 => ?_) (fun c50 => ?_)
          · replace h := h.1 c50
            refine lv_iconst (v := 0) hx hb dL_law_855 (by decide) ?_
            exact key38 0 _ _ _ h hP hS
          · replace h := h.2 c50
            refine lv_iconst (v := 1) hx hb dL_law_851 (by decide) ?_
            refine lv_goto (tgt := 856) hx hb dL_law_852 (by decide) ?_
            exact key38 1 _ _ _ h hP hS
set_option maxRecDepth 100000 in
set_option maxHeartbeats 8000000 in
theorem w_L_law_B735 {p : Program} {l : Launch} {e : Env} {s : State} {m : MethodId} {b : Nat} {below : List Frame} {meth : Method} {c : Code} {D : va_G} {cI cG cZ cJ : ClassId} {ts : Nat × Nat} {L : List Nat} {ad : Nat → Nat} {al : Nat} (hflag : l.stackTraces = false) (hX : XW s) (hN : NCW s) {cells slots : Nat} (hcell : cells + 60 ≤ 600104) (hslot : slots + 6000 ≤ 7301314) (K : Nat → Int32 → Int32 → Int32 → Int32 → Int32 → Int32 → St → Prop) {a8 a9 : Int32} (hK : ∀ (L : List Nat) (ad : Nat → Nat) (al : Nat) (b2 b3 b4 b5 b6 b7 : Int32) (u : St) (H : Heap) (locs : List Loc) (ls : Array Slot), FX RL wsL_law cL_law 18 (some .boolean) D cI cG cZ cJ ts L ad p s m #[Value.ref b] meth c → Lf L al → Lb L al → cA L ad s.heap.size = AL s → K al b2 b3 b4 b5 b6 b7 u → va_P D vwCl (cW cI cG L ad al u) H → va_S (cA L ad s.heap.size) s.heap H locs → lv_has ls 18 [(0, .ref b), (1, .ref (ad 0)), (2, .int b2), (3, .int b3), (4, .int b4), (5, .int b5), (6, .int b6), (7, .int b7), (8, .int a8), (9, .int a9)] → W p l e room_1 s m #[Value.ref b] below meth c H locs (cells + 60) (slots + 6000) (lw_Z below #[Value.ref b] s) (F0 m 1268 ls []))
    (hL : Lf L al) (hLb : Lb L al) (hA9 : cA L ad s.heap.size = AL s) (X : FX RL wsL_law cL_law 18 (some .boolean) D cI cG cZ cJ ts L ad p s m #[Value.ref b] meth c) (a2 : Int32) (a3 : Int32) (a4 : Int32) (a5 : Int32) (a6 : Int32) (a7 : Int32) (a11 : Int32) (a12 : Int32) (a13 : Int32) (a14 : Int32) (u : St) (H : Heap) (locs : List Loc) (ls : Array Slot) (h : f_L_law_B735 al a2 a3 a4 a5 a6 a7 a8 a9 a11 a12 a13 a14 K u) (hP : va_P D vwCl (cW cI cG L ad al u) H) (hS : va_S (cA L ad s.heap.size) s.heap H locs) (hl : lv_has ls 18 [(0, .ref b), (1, .ref (ad 0)), (2, .int a2), (3, .int a3), (4, .int a4), (5, .int a5), (6, .int a6), (7, .int a7), (8, .int a8), (9, .int a9), (11, .int a11), (12, .int a12), (13, .int a13), (14, .int a14)]) : W p l e room_1 s m #[Value.ref b] below meth c H locs (cells + 0) (slots + 0) (lw_Z below #[Value.ref b] s) (F0 m 735 ls []) := by
  obtain ⟨hx, hb, hml, hown, hts, hr, hlocks, hwd, hC⟩ := id X
  have hK0 := hC.1
  have m0 : 0 ∈ L := hL 0 (by omega)
  obtain ⟨i0, hi0⟩ := wL_ix m0
  unfold f_L_law_B735 at h
  refine lv_iload hx hb dL_law_735 (lv_at hl 11 rfl) ?_
  refine lv_bipush (v := 17) hx hb dL_law_737 (by decide) ?_
  refine lv_icmp_ge (tgt := 864) hx hb dL_law_739 (by decide) (fun c14 => ?_) (fun c14 => ?_)
  · replace h := h.1 c14
    refine lv_iload hx hb dL_law_864 (lv_at hl 11 rfl) ?_
    refine lv_bipush (v := 20) hx hb dL_law_866 (by decide) ?_
    refine lv_icmp_ge (tgt := 976) hx hb dL_law_868 (by decide) (fun c15 => ?_) (fun c15 => ?_)
    · replace h := h.1 c15
      refine lv_iload hx hb dL_law_976 (lv_at hl 11 rfl) ?_
      refine lv_bipush (v := 23) hx hb dL_law_978 (by decide) ?_
      refine lv_icmp_ge (tgt := 1051) hx hb dL_law_980 (by decide) (fun c16 => ?_) (fun c16 => ?_)
      · replace h := h.1 c16
        refine lv_iload hx hb dL_law_1051 (lv_at hl 11 rfl) ?_
        refine lv_bipush (v := 26) hx hb dL_law_1053 (by decide) ?_
        refine lv_icmp_ge (tgt := 1149) hx hb dL_law_1055 (by decide) (fun c17 => ?_) (fun c17 => ?_)
        · replace h := h.1 c17
          refine lv_iload hx hb dL_law_1149 (lv_at hl 11 rfl) ?_
          refine lv_bipush (v := 29) hx hb dL_law_1151 (by decide) ?_
          refine lv_icmp_ge (tgt := 1236) hx hb dL_law_1153 (by decide) (fun c18 => ?_) (fun c18 => ?_)
          · replace h := h.1 c18
            exact w_L_law_B1236 hflag hX hN hcell hslot K hK hL hLb hA9 X a2 a3 a4 a5 a6 a7 a13 _ _ _ _ h hP hS (lv_sub hl [0, 1, 2, 3, 4, 5, 6, 7, 8, 9, 12] rfl)
          · replace h := h.2 c18
            exact w_L_law_B1156 hflag hX hN hcell hslot K hK hL hLb hA9 X a2 a3 a4 a5 a6 a7 a11 _ _ _ _ h hP hS (lv_sub hl [0, 1, 2, 3, 4, 5, 6, 7, 8, 9, 10] rfl)
        · replace h := h.2 c17
          exact w_L_law_B1058 hflag hX hN hcell hslot K hK hL hLb hA9 X a2 a3 a4 a5 a6 a7 a13 _ _ _ _ h hP hS (lv_sub hl [0, 1, 2, 3, 4, 5, 6, 7, 8, 9, 12] rfl)
      · replace h := h.2 c16
        exact w_L_law_B983 hflag hX hN hcell hslot K hK hL hLb hA9 X a2 a3 a4 a5 a6 a7 a13 a14 _ _ _ _ h hP hS (lv_sub hl [0, 1, 2, 3, 4, 5, 6, 7, 8, 9, 12, 13] rfl)
    · replace h := h.2 c15
      exact w_L_law_B871 hflag hX hN hcell hslot K hK hL hLb hA9 X a2 a3 a4 a5 a6 a7 a11 a13 a14 _ _ _ _ h hP hS (lv_sub hl [0, 1, 2, 3, 4, 5, 6, 7, 8, 9, 10, 12, 13] rfl)
  · replace h := h.2 c14
    exact w_L_law_B742 hflag hX hN hcell hslot K hK hL hLb hA9 X a2 a3 a4 a5 a6 a7 a11 a13 a14 _ _ _ _ h hP hS (lv_sub hl [0, 1, 2, 3, 4, 5, 6, 7, 8, 9, 10, 12, 13] rfl)
