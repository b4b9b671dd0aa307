/-! the law's loop -/
theorem cA_AL {s : State} {L : List Nat} {ad : Nat → Nat} (h : ∀ k ∈ L, s.heap.size ≤ ad k) : cA L ad s.heap.size = AL s := by
  funext q
  refine propext ⟨fun g => ?_, fun g => Or.inr g⟩
  rcases g with ⟨k, hk, rfl⟩ | g
  · exact h k hk
  · exact g
theorem cW_kept {D : va_G} {cI cG : ClassId} {L : List Nat} {ad : Nat → Nat} {al : Nat} {u : St} {H H1 : Heap} (h : va_P D vwCl (cW cI cG L ad al u) H) (hq : ∀ k ∈ L, H1[ad k]? = H[ad k]?) : va_P D vwCl (cW cI cG L ad al u) H1 := h.kept (fun k q hk => by
  obtain ⟨a, ha, rfl⟩ := wL_some hk
  exact hq a (List.mem_of_getElem? ha))
theorem cW_lt {D : va_G} {cI cG : ClassId} {L : List Nat} {ad : Nat → Nat} {al : Nat} {u : St} {H : Heap} (h : va_P D vwCl (cW cI cG L ad al u) H) {k : Nat} (hk : k ∈ L) : ad k < H.size := by
  obtain ⟨i, hi⟩ := wL_ix hk
  exact (h i _ (wL_get hi)).lt
/-- what stands at the end of a turn -/
def KK : Nat → Int32 → Int32 → Int32 → Int32 → Int32 → Int32 → St → Prop := fun al b2 b3 b4 _ _ b7 u => al ≤ 4 ∧ b7 = 1 ∧ ∃ (pp ng nf : Nat) (M F C : Nat → Nat), CI al pp ng M nf F C u ∧ b2 = nI pp ∧ b3 = nI nf ∧ b4 = nI ng
theorem KK_ok : KG KK := fun al p ng nf M D C x5 x6 v hal hC => ⟨hal, rfl, p, ng, nf, M, D, C, hC, rfl, rfl, rfl⟩
set_option maxRecDepth 100000 in
set_option maxHeartbeats 8000000 in
theorem law_loop {p : Program} {l : Launch} {e : Env} {s : State} {m : MethodId} {b Ls : Nat} {xs : Nat → Int32} {below : List Frame} {meth : Method} {c : Code} {D : va_G} {cI cG cZ cJ : ClassId} {ts : Nat × Nat} (hXs : va_X b Ls xs s s.heap) (hbl : b < s.heap.size) (hLs : Ls ≤ 260) (hflag : l.stackTraces = false) (hX : XW s) (hN : NCW s) {T : Nat} (hT : T ≤ 230) :
    ∀ (n k : Nat), k + n = T → ∀ (L : List Nat) (ad : Nat → Nat) (al pp ng nf : Nat) (M F C : Nat → Nat) (x5 x6 : Int32) (u : St) (H : Heap) (locs : List Loc) (ls : Array Slot), FX RL wsL_law cL_law 18 (some .boolean) D cI cG cZ cJ ts L ad p s m #[Value.ref b] meth c → Lf L al → Lb L al → cA L ad s.heap.size = AL s → al ≤ 4 → CI al pp ng M nf F C u → va_P D vwCl (cW cI cG L ad al u) H → va_S (cA L ad s.heap.size) s.heap H locs → lv_has ls 18 [(0, .ref b), (1, .ref (ad 0)), (2, .int (nI pp)), (3, .int (nI nf)), (4, .int (nI ng)), (5, .int x5), (6, .int x6), (7, .int 1), (8, .int (nI T)), (9, .int (nI k))] → W p l e room_1 s m #[Value.ref b] below meth c H locs (100 + 60 * k) (30000 + 6000 * k) (lw_Z below #[Value.ref b] s) (F0 m 59 ls []) := by
  intro n
  induction n with
  | zero =>
    intro k hk L ad al pp ng nf M F C x5 x6 u H locs ls X hL hLb hA9 hal hCI hP hS hl
    obtain ⟨hx, hb, hml, hown, hts, hr, hlocks, hwd, hC⟩ := id X
    refine lv_iload hx hb dL_law_59 (lv_at hl 9 rfl) ?_
    refine lv_iload hx hb dL_law_61 (lv_at hl 8 rfl) ?_
    refine lv_icmp_ge (tgt := 1274) hx hb dL_law_63 (by decide) (fun _ => ?_) (fun q => absurd (nI_le (by omega) (by omega)) q)
    refine lv_iload hx hb dL_law_1274 (lv_at hl 7 rfl) ?_
    have hS2 := hS.2.2
    rw [hA9] at hS2
    refine va_forget hS2 ?_
    refine W.widen (k := 600104) (n := 7301314) (by omega) (by omega) ?_
    exact lw_ret hx hb hr hlocks dL_law_1276
  | succ n ih =>
    intro k hk L ad al pp ng nf M F C x5 x6 u H locs ls X hL hLb hA9 hal hCI hP hS hl
    obtain ⟨hx, hb, hml, hown, hts, hr, hlocks, hwd, hC⟩ := id X
    have hbA : ¬ cA L ad s.heap.size b := by rw [hA9]; exact Nat.not_le.mpr hbl
    refine lv_iload hx hb dL_law_59 (lv_at hl 9 rfl) ?_
    refine lv_iload hx hb dL_law_61 (lv_at hl 8 rfl) ?_
    refine lv_icmp_ge (tgt := 1274) hx hb dL_law_63 (by decide) (fun q => absurd q (nI_ge (by omega) (by omega))) (fun _ => ?_)
    refine lv_iload hx hb dL_law_66 (lv_at hl 7 rfl) ?_
    refine lv_if_eq (tgt := 1274) hx hb dL_law_68 (by decide) (fun q => absurd q (by decide)) (fun _ => ?_)
    refine lv_aload_n hx hb dL_law_71 rfl (lv_at hl 0 rfl) ?_
    refine lv_iload hx hb dL_law_72 (lv_at hl 9 rfl) ?_
    refine va_calli (va_runS (As := [.ref b, .int (nI k)]) (rest := []) ⟨hx, hb, hml, hown, hts⟩ (c_L_draw (b := b) (Ls := Ls) (xs := xs) H.size (nI k) (fun q => vp_in_nI (Nat.not_le.mp (fun g => q (nI_le g (by omega)))) (by omega))) (va_cwS 2 hts gL_law_L_draw rfl rfl rfl (by decide +kernel) ⟨Nat.le_of_ble_eq_true rfl, Nat.le_of_ble_eq_true rfl⟩) ⟨fun a U g mk q => by obtain ⟨h1, h2, h3, h4⟩ := q; exact ⟨h1, h2, va_X.moved (u := U) (U := U.calling g mk a) (Vm.Alike.refl U.vm) h3, h4⟩, fun U hU hW => ⟨rfl, by rw [hU], by rw [hU]; exact va_X.moved hW.alike (hXs.kept (hS.2.1 b hbl hbA)), Nat.lt_of_lt_of_le hbl hS.1⟩⟩ rfl rfl hl.1 rfl (lv_room (Nat.le_of_ble_eq_true rfl)) dL_law_74 ⟨Nat.le_trans (by omega : 100 + 60 * k + 0 ≤ 600104) (Nat.le_refl _), Nat.le_trans (by omega : 30000 + 6000 * k + 0 ≤ 7301314) (Nat.le_refl _)⟩) hS (fun q h1 h2 => absurd h1 (Nat.not_lt.mpr h2)) (fun q h1 => Or.inr (Nat.le_trans hS.1 h1)) (fun x10 z t H1 locs1 ht hvm hq hB hz1 hk1 hS1 => ?_)
    have hP1 : va_P D vwCl (cW cI cG L ad al u) H1 := cW_kept hP (fun j hj => hk1 _ (cW_lt hP hj) (Nat.not_le.mpr (cW_lt hP hj)))
    refine lv_istore (lv' := [(10, .int x10), (0, .ref b), (1, .ref (ad 0)), (2, .int (nI pp)), (3, .int (nI nf)), (4, .int (nI ng)), (5, .int x5), (6, .int x6), (7, .int 1), (8, .int (nI T)), (9, .int (nI k))]) hx hb dL_law_77 hl (by decide) rfl (fun ls hl => ?_)
    refine w_L_law_B79 hflag hX hN (cells := 100 + 60 * k) (slots := 30000 + 6000 * k) (by omega) (by omega) KK (a8 := nI T) (a9 := nI k) (fun L ad al b2 b3 b4 b5 b6 b7 u H locs ls X hL hLb hA9 hK9 hP hS hl => ?_) hL hLb hA9 X _ _ _ _ _ _ _ u H1 locs1 ls (b79 KK_ok hal hCI) hP1 hS1 (lv_sub hl [1, 2, 3, 4, 5, 6, 7, 8, 9, 10, 0] rfl)
    obtain ⟨hal, rfl, pp, ng, nf, M, F, C, hCI, rfl, rfl, rfl⟩ := hK9
    obtain ⟨hx, hb, hml, hown, hts, hr, hlocks, hwd, hC⟩ := id X
    refine lv_iinc (v := nI (k + 1)) (lv' := [(9, .int (nI (k + 1))), (0, .ref b), (1, .ref (ad 0)), (2, .int (nI pp)), (3, .int (nI nf)), (4, .int (nI ng)), (5, .int b5), (6, .int b6), (7, .int 1), (8, .int (nI T))]) hx hb dL_law_1268 hl (k := 9) rfl (by rw [← nI_1]; rfl) (by decide) rfl (fun ls hl => ?_)
    refine lv_goto (tgt := 59) hx hb dL_law_1271 (by decide) ?_
    refine W.widen (k := 100 + 60 * (k + 1)) (n := 30000 + 6000 * (k + 1)) (by omega) (by omega) ?_
    exact ih (k + 1) (by omega) L ad al pp ng nf M F C b5 b6 u H locs ls X hL hLb hA9 hal hCI hP hS (lv_sub hl [1, 2, 3, 4, 5, 6, 7, 8, 9, 0] rfl)
