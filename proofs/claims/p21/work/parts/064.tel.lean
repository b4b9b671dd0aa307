/-! a generator that is made: one more object and its array in the world -/
theorem last_P {D : va_G} {cl : List vw_C} {ws w1 : va_W} {H : Heap} (h : va_P D cl (ws ++ w1) H) : va_P D cl w1 H := h.by (fun k => ws.length + k) (fun k q hk => by rw [List.getElem?_append_right (Nat.le_add_right _ _), Nat.add_sub_cancel_left]; exact hk)
theorem last_D {A : Nat → Prop} {ws w1 : va_W} (h : va_D A (ws ++ w1)) : va_D A w1 := h.by (fun k => ws.length + k) (fun k q hk => by rw [List.getElem?_append_right (Nat.le_add_right _ _), Nat.add_sub_cancel_left]; exact hk) (fun i j _ _ e => by omega)
theorem ext_join {A0 : Nat → Prop} {D : va_G} {cl : List vw_C} {ws w1 : va_W} {x : Nat × va_E} {H H1 : Heap} (hP : va_P D cl (ws ++ [x]) H) (hD : va_D A0 (ws ++ [x])) (hk : ∀ q : Nat, q < H.size → ¬ va_A [x] H.size q → H1[q]? = H[q]?) (hF : ∀ q, va_A [x] H.size q → A0 q) (hP1 : va_P D cl w1 H1) (hD1 : va_D (va_A [x] H.size) w1) : va_P D cl (ws ++ w1) H1 ∧ va_D A0 (ws ++ w1) := by
  have at1 : ∀ (k : Nat) (q : Nat × va_E), ws[k]? = some q → (ws ++ [x])[k]? = some q := fun k q hq => by
    rw [List.getElem?_append_left (List.getElem?_eq_some_iff.mp hq).1]; exact hq
  have hxl : (ws ++ [x])[ws.length]? = some x := by simp
  have apart : ∀ (k : Nat) (q : Nat × va_E), ws[k]? = some q → q.1 < H.size ∧ ¬ va_A [x] H.size q.1 := by
    intro k q hq
    have hk1 : k < ws.length := (List.getElem?_eq_some_iff.mp hq).1
    have hl := (hP k q (at1 k q hq)).lt
    refine ⟨hl, fun h => ?_⟩
    rcases h with ⟨j, e, h⟩ | h
    · have hj : j < 1 := (List.getElem?_eq_some_iff.mp h).1
      have hj0 : j = 0 := by omega
      subst hj0
      have hx : x = (q.1, e) := Option.some.inj h
      have := hD.1 k ws.length q x (at1 k q hq) hxl (by rw [hx])
      omega
    · omega
  refine ⟨va_P.app (fun k q hq => ?_) hP1, va_D.app ⟨fun i j p q hi hj he => hD.1 i j p q (at1 i p hi) (at1 j q hj) he, fun k q hq => hD.2 k q (at1 k q hq)⟩ (hD1.weaken (fun k q _ h => hF q.1 h)) (fun i j x y hx hy hxy => ?_)⟩
  · obtain ⟨g1, g2⟩ := apart k q hq
    exact (hP k q (at1 k q hq)).kept (hk q.1 g1 g2)
  · exact (apart i x hx).2 (by rw [hxy]; exact hD1.2 j y hy)
def LN (L : List Nat) (al : Nat) : List Nat := L ++ [22 + 2 * al, 23 + 2 * al]
def adN (ad : Nat → Nat) (al q0 q1 : Nat) : Nat → Nat := fun k => if k = 22 + 2 * al then q0 else if k = 23 + 2 * al then q1 else ad k
/-- no place beyond the generators that are there -/
def Lb (L : List Nat) (al : Nat) : Prop := ∀ q ∈ L, q < 22 + 2 * al
theorem adN_o {ad : Nat → Nat} {al q0 q1 k : Nat} (h : k < 22 + 2 * al) : adN ad al q0 q1 k = ad k := by
  unfold adN
  rw [if_neg (by omega), if_neg (by omega)]
theorem adN_0 {ad : Nat → Nat} {al q0 q1 : Nat} : adN ad al q0 q1 (22 + 2 * al) = q0 := if_pos rfl
theorem adN_1 {ad : Nat → Nat} {al q0 q1 : Nat} : adN ad al q0 q1 (23 + 2 * al) = q1 := by
  unfold adN
  rw [if_neg (by omega), if_pos rfl]
theorem newG_s {u : St} {al j : Nat} (h : j ≠ 8 + al) : newG al u 0 j = u 0 j := by
  unfold newG
  rw [su_kn _ _ _ h, sa_n _ _ (by omega)]
theorem newG_n {u : St} {al k : Nat} (h : k ≠ 0) (h1 : k ≠ 23 + 2 * al) : newG al u k = u k := by
  unfold newG
  rw [su_n _ _ _ h, sa_n _ _ h1]
section GN
variable {cI cG : ClassId} {L : List Nat} {ad : Nat → Nat} {al q0 q1 : Nat} {u : St}
theorem cE_N {q : Nat} (h : q < 22 + 2 * al) : cE cI cG (adN ad al q0 q1) al (newG al u 0) (newG al u q) q = cE cI cG ad al (u 0) (u q) q := by
  have hs : ∀ j, j < 8 → newG al u 0 j = u 0 j := fun j hj => newG_s (by omega)
  have ha : ∀ k, k < 22 → adN ad al q0 q1 k = ad k := fun k hk => adN_o (by omega)
  match q with
  | 0 => simp only [cE, hs 7 (by decide), ha 1 (by decide), ha 2 (by decide), ha 3 (by decide), ha 4 (by decide), ha 5 (by decide), ha 7 (by decide), ha 8 (by decide), ha 9 (by decide), ha 10 (by decide), ha 11 (by decide), ha 12 (by decide)]
  | 1 => simp only [cE, hs 0 (by decide)]
  | 2 => simp only [cE, hs 1 (by decide), ha 1 (by decide), ha 13 (by decide)]
  | 3 => simp only [cE, hs 2 (by decide), hs 3 (by decide), ha 1 (by decide), ha 14 (by decide)]
  | 4 => simp only [cE, hs 4 (by decide), hs 5 (by decide), ha 1 (by decide), ha 6 (by decide), ha 15 (by decide), ha 16 (by decide)]
  | 5 => simp only [cE, hs 6 (by decide), ha 4 (by decide), ha 17 (by decide), ha 18 (by decide), ha 19 (by decide), ha 20 (by decide), ha 21 (by decide)]
  | 6 =>
    have e : (fun i => if i < al then some (adN ad al q0 q1 (22 + 2 * i)) else none) = (fun i => if i < al then some (ad (22 + 2 * i)) else none) := by
      funext i
      by_cases hi : i < al
      · rw [if_pos hi, if_pos hi, adN_o (by omega)]
      · rw [if_neg hi, if_neg hi]
    simp only [cE, e]
  | q + 7 =>
    simp only [cE]
    rw [newG_n (show q + 7 ≠ 0 by omega) (by omega)]
    by_cases h1 : q < 15
    · rw [if_pos h1, if_pos h1]
    · rw [if_neg h1, if_neg h1]
      by_cases h2 : q % 2 = 1
      · rw [if_pos h2, if_pos h2, adN_o (by omega), newG_s (by omega)]
      · rw [if_neg h2, if_neg h2]
theorem cW_N (hb : Lb L al) : cW cI cG (LN L al) (adN ad al q0 q1) al (newG al u) = cW cI cG L ad al u ++ [(q0, .inr (3, [.ref q1, .int 0])), (q1, .inl (cI, 3900, .inl (fun _ => 0)))] := by
  unfold cW wL LN
  rw [List.map_append]
  congr 1
  · exact List.map_congr_left (fun q hq => by dsimp only; rw [adN_o (hb q hq), cE_N (hb q hq)])
  · have e0 : newG al u 0 (8 + al) = 0 := su_kk _ _ _ _
    have e1 : newG al u (23 + 2 * al) = fun _ => 0 := by
      unfold newG
      rw [su_n _ _ _ (by omega), sa_k]
    have e2 : lenC (23 + 2 * al) = 3900 := by
      unfold lenC
      split <;> first | omega | rfl
    simp only [List.map_cons, List.map_nil]
    rw [cE_gen, cE_arr (Or.inr ⟨by omega, by omega⟩), adN_0, adN_1, e0, e1, e2]
theorem cu_al {D : va_G} {H : Heap} {i : Nat} (hw : WD L ad) (h : L[i]? = some 6) (hP : va_P D vwCl ((cW cI cG L ad al u).set i (ad 6, .inl (cG, 4, .inr (.inr (.inr (.inr (va_up (fun i => if i < al then some (ad (22 + 2 * i)) else none) al (some (ad (22 + 2 * al)))))))))) H) : va_P D vwCl (cW cI cG L ad (al + 1) u) H := by
  have e : (cW cI cG L ad al u).set i (ad 6, .inl (cG, 4, .inr (.inr (.inr (.inr (va_up (fun i => if i < al then some (ad (22 + 2 * i)) else none) al (some (ad (22 + 2 * al))))))))) = cW cI cG L ad (al + 1) u := by
    refine wL_set hw.1 h (fun q => ?_)
    by_cases hq : q = 6
    · subst hq
      rw [if_pos rfl]
      have e : va_up (fun i => if i < al then some (ad (22 + 2 * i)) else none) al (some (ad (22 + 2 * al))) = (fun i => if i < al + 1 then some (ad (22 + 2 * i)) else none) := by
        funext j
        unfold va_up
        by_cases hj : j = al
        · subst hj; rw [if_pos rfl, if_pos (Nat.lt_succ_self _)]
        · rw [if_neg hj]
          dsimp only
          by_cases hj2 : j < al
          · rw [if_pos hj2, if_pos (by omega)]
          · rw [if_neg hj2, if_neg (by omega)]
      simp only [cE, e]
    · rw [if_neg hq]
      match q with
      | 0 => rfl
      | 1 => rfl
      | 2 => rfl
      | 3 => rfl
      | 4 => rfl
      | 5 => rfl
      | 6 => exact absurd rfl hq
      | q + 7 => rfl
  rw [← e]; exact hP
theorem WD_of {f : Nat → va_E} {A : Nat → Prop} (hn : NdL L) (h : va_D A (wL L ad f)) : WD L ad := ⟨hn, fun q hq r hr e => by
  obtain ⟨i, hi⟩ := wL_ix hq
  obtain ⟨j, hj⟩ := wL_ix hr
  have := h.1 i j _ _ (wL_get hi) (wL_get hj) e
  subst this
  exact Option.some.inj (hi.symm.trans hj)⟩
theorem NdL_N (hn : NdL L) (hb : Lb L al) : NdL (LN L al) := by
  have key : ∀ (i q : Nat), (LN L al)[i]? = some q → (L[i]? = some q ∧ q < 22 + 2 * al) ∨ (i = L.length ∧ q = 22 + 2 * al) ∨ (i = L.length + 1 ∧ q = 23 + 2 * al) := by
    intro i q hi
    unfold LN at hi
    by_cases hl : i < L.length
    · rw [List.getElem?_append_left hl] at hi
      exact Or.inl ⟨hi, hb q (List.mem_of_getElem? hi)⟩
    · rw [List.getElem?_append_right (by omega)] at hi
      have h2 : i - L.length < 2 := (List.getElem?_eq_some_iff.mp hi).1
      by_cases h0 : i - L.length = 0
      · rw [h0] at hi
        exact Or.inr (Or.inl ⟨by omega, (Option.some.inj hi).symm⟩)
      · have h1 : i - L.length = 1 := by omega
        rw [h1] at hi
        exact Or.inr (Or.inr ⟨by omega, (Option.some.inj hi).symm⟩)
  intro i j q hi hj
  rcases key i q hi with ⟨a1, a2⟩ | ⟨a1, a2⟩ | ⟨a1, a2⟩ <;> rcases key j q hj with ⟨b1, b2⟩ | ⟨b1, b2⟩ | ⟨b1, b2⟩ <;> first | exact hn i j q a1 b1 | omega
theorem cA_N {sz : Nat} (hb : Lb L al) (h0 : cA L ad sz q0) (h1 : cA L ad sz q1) : cA (LN L al) (adN ad al q0 q1) sz = cA L ad sz := by
  funext q
  refine propext ⟨fun h => ?_, fun h => ?_⟩
  · rcases h with ⟨k, hk, rfl⟩ | h
    · rcases List.mem_append.mp hk with hk | hk
      · exact Or.inl ⟨k, hk, adN_o (hb k hk)⟩
      · simp only [List.mem_cons, List.not_mem_nil, or_false] at hk
        rcases hk with rfl | rfl
        · rw [adN_0]; exact h0
        · rw [adN_1]; exact h1
    · exact Or.inr h
  · rcases h with ⟨k, hk, rfl⟩ | h
    · exact Or.inl ⟨k, List.mem_append_left _ hk, (adN_o (hb k hk)).symm⟩
    · exact Or.inr h
theorem Lf_N (h : Lf L al) : Lf (LN L al) (al + 1) := by
  intro q hq
  by_cases h0 : q < 22 + 2 * al
  · exact List.mem_append_left _ (h q h0)
  · refine List.mem_append_right _ ?_
    have : q = 22 + 2 * al ∨ q = 23 + 2 * al := by omega
    rcases this with rfl | rfl <;> simp
theorem Lb_N (h : Lb L al) : Lb (LN L al) (al + 1) := by
  intro q hq
  rcases List.mem_append.mp hq with hq | hq
  · have := h q hq; omega
  · simp only [List.mem_cons, List.not_mem_nil, or_false] at hq
    omega
/-- the class's world, some generators later -/
def XT (L : List Nat) (ad : Nat → Nat) (sz : Nat) (L' : List Nat) (ad' : Nat → Nat) (al' : Nat) : Prop := WD L' ad' ∧ Lf L' al' ∧ Lb L' al' ∧ cA L' ad' sz = cA L ad sz ∧ ∀ k, k < 22 → ad' k = ad k
theorem XT.rf {sz : Nat} (h : WD L ad) (h1 : Lf L al) (h2 : Lb L al) : XT L ad sz L ad al := ⟨h, h1, h2, rfl, fun _ _ => rfl⟩
theorem XT.mono {s0 sz : Nat} {L' : List Nat} {ad' : Nat → Nat} {al' : Nat} (hz : s0 ≤ sz) (h : XT L ad sz L' ad' al') : XT L ad s0 L' ad' al' := by
  obtain ⟨h1, h2, h3, h4, h5⟩ := h
  refine ⟨h1, h2, h3, ?_, h5⟩
  funext q
  refine propext ⟨fun g => ?_, fun g => ?_⟩
  · rcases g with g | g
    · exact cA_mono hz q (by rw [← h4]; exact Or.inl g)
    · exact Or.inr g
  · rcases g with g | g
    · exact cA_mono hz q (by rw [h4]; exact Or.inl g)
    · exact Or.inr g
end GN
abbrev ZT : Type := (Nat → Nat) × List Nat × Nat × St
def QZ (L : List Nat) (ad : Nat → Nat) (sz : Nat) (Q : Nat → St → Prop) (z : ZT) : Prop := XT L ad sz z.2.1 z.1 z.2.2.1 ∧ Q z.2.2.1 z.2.2.2
def BZ (D : va_G) (cI cG : ClassId) (z : ZT) (t : State) : Prop := va_P D vwCl (cW cI cG z.2.1 z.1 z.2.2.1 z.2.2.2) t.heap
set_option maxRecDepth 100000 in
set_option maxHeartbeats 4000000 in
theorem w_X4_tellgo {p : Program} {l : Launch} {e : Env} {s : State} {m : MethodId} {args : Array Value} {below : List Frame} {meth : Method} {c : Code} {D : va_G} {cI cG cZ cJ : ClassId} {ts : Nat × Nat} {L : List Nat} {ad : Nat → Nat} {al : Nat} {L0 : List Nat} {ad0 : Nat → Nat} {g : Nat} (hL : Lf L al) (hg : g < al) (X : FX RX4 wsX4_tell cX4_tell 7 none D cI cG cZ cJ ts L ad p s m args meth c) (hXT : XT L0 ad0 s.heap.size L ad al) (a1 a2 a3 a4 : Int32) (Q : Nat → St → Prop) (u : St) (H : Heap) (locs : List Loc) (ls : Array Slot) (h : f_X4_tellgo al g a1 a2 a3 a4 u Q) (hP : va_P D vwCl (cW cI cG L ad al u) H) (hS : va_S (cA L ad s.heap.size) s.heap H locs) (hl : lv_has ls 7 [(6, .ref (ad (22 + 2 * g))), (0, .ref (ad 4)), (1, .int a1), (2, .int a2), (3, .int a3), (4, .int a4), (5, .ref (ad 2))]) : W p l e (headSpec wsX4_tell { frames := 5, cells := 2, slots := 3902, locals := 122 }).room s m args below meth c H locs 2 3902 (MQ below (va_Qv (QZ L0 ad0 s.heap.size Q) (BZ D cI cG) (cA L0 ad0 s.heap.size)) args s 2 3902 (cA L0 ad0 s.heap.size)) (F0 m 56 ls []) := by
  obtain ⟨hx, hb, hml, hown, hts, hr, hlocks, hwd, hC⟩ := id X
  have hK := hC.1
  obtain ⟨i1, hi1⟩ := wL_ix (hL 1 (by omega))
  obtain ⟨i4, hi4⟩ := wL_ix (hL 4 (by omega))
  obtain ⟨ig, hig⟩ := wL_ix (hL (22 + 2 * g) (by omega))
  have lk0 := hts (.fieldLink RX4 24 "FormForge$Group" "field" "LFormForge$Field;") (by decide +kernel)
  have lk1 := hts (.fieldLink RX4 31 "FormForge$Group" "told" "I") (by decide +kernel)
  have n4 : ∀ w ∈ wsX40, w ∈ wsX4_tell := by decide +kernel
  unfold f_X4_tellgo at h
  refine lv_aload hx hb dX4_tell_56 (lv_at hl 0 rfl) ?_
  refine lv_aload_n hx hb dX4_tell_58 rfl (lv_at hl 1 rfl) ?_
  refine va_get (C := RX4) (T := TX4) (N := 6) hx hb hts n4 hown hK hP i4 (cg_4 hi4) rfl 0 (by decide) lk0 (fun _ h9 => h9) rfl dX4_tell_59 ?_
  refine lv_iload_n hx hb dX4_tell_62 rfl (lv_at hl 2 rfl) ?_
  refine lv_iload_n hx hb dX4_tell_63 rfl (lv_at hl 3 rfl) ?_
  refine lv_iload_n hx hb dX4_tell_64 rfl (lv_at hl 4 rfl) ?_
  refine lv_iload hx hb dX4_tell_65 (lv_at hl 5 rfl) ?_
  refine cc_i (va_runV (C := RX2) (As := [.int a1, .int a2, .int a3, .int a4]) (rest := [.ref (ad (22 + 2 * g))]) ⟨hx, hb, hml, hown, hts⟩ (c_X2_table hL.g hwd H.size u a1 a2 a3 a4 _ h) (cwV 4 hts gX4_tell_X2_table rfl rfl rfl (by decide +kernel) ⟨Nat.le_of_ble_eq_true rfl, Nat.le_of_ble_eq_true rfl⟩) (pcV hC hP hS (cg_1 hi1) rfl) rfl rfl hl.1 rfl (lv_room (Nat.le_of_ble_eq_true rfl)) dX4_tell_67 ⟨Nat.le_of_ble_eq_true rfl, Nat.le_of_ble_eq_true rfl⟩) hS (cA_mono hS.1) (fun v1 u2 H locs h hP hS => ?_)
  refine lv_aload_n hx hb dX4_tell_70 rfl (lv_at hl 1 rfl) ?_
  refine va_get (C := RX4) (T := TX4) (N := 6) hx hb hts n4 hown hK hP i4 (cg_4 hi4) rfl 0 (by decide) lk0 (fun _ h9 => h9) rfl dX4_tell_71 ?_
  refine lv_aload hx hb dX4_tell_74 (lv_at hl 6 rfl) ?_
  refine cc_v (va_runV (C := RX3) (As := [.int v1, .ref (ad 1), .ref (ad 2)]) (rest := []) ⟨hx, hb, hml, hown, hts⟩ (c_X3_become hL hg hwd H.size u2 v1 _ h) (cwV 3 hts gX4_tell_X3_become rfl rfl rfl (by decide +kernel) ⟨Nat.le_of_ble_eq_true rfl, Nat.le_of_ble_eq_true rfl⟩) (pcV hC hP hS (cg_g hig) rfl) rfl rfl hl.1 rfl (lv_room (Nat.le_of_ble_eq_true rfl)) dX4_tell_76 ⟨Nat.le_of_ble_eq_true rfl, Nat.le_of_ble_eq_true rfl⟩) hS (cA_mono hS.1) (fun u3 H locs h hP hS => ?_)
  refine lv_aload_n hx hb dX4_tell_79 rfl (lv_at hl 1 rfl) ?_
  refine lv_dup hx hb dX4_tell_80 rfl ?_
  refine va_get (C := RX4) (T := TX4) (N := 6) hx hb hts n4 hown hK hP i4 (cg_4 hi4) rfl 4 (by decide) lk1 (fun _ h9 => h9) rfl dX4_tell_81 ?_
  refine lv_iconst (v := 1) hx hb dX4_tell_84 (by decide) ?_
  refine lv_iadd hx hb dX4_tell_85 ?_
  refine va_put (C := RX4) (T := TX4) (N := 6) (ty := .int) (v := .int (u3 0 4 + 1)) hx hb hts n4 tyX4 tyX4_ok nmX4 hown hK hP (cD hwd) hS i4 (cg_4 hi4) rfl 4 (by decide) lk1 (fun _ h9 => h9) rfl (by decide +kernel) rfl rfl (Nat.le_of_ble_eq_true rfl) dX4_tell_86 (fun H locs hP _ hS => ?_)
  replace hP := cu_gtold hwd hi4 hP
  obtain ⟨u4, e4⟩ : ∃ y : St, y = su u3 0 4 (u3 0 4 + 1) := ⟨_, rfl⟩
  rw [← e4] at hP
  replace h := h u4 e4
  refine lv_aload_n hx hb dX4_tell_89 rfl (lv_at hl 1 rfl) ?_
  refine cc_v (va_runV (C := RX4) (As := []) (rest := []) ⟨hx, hb, hml, hown, hts⟩ (c_X4_close hL.g hwd H.size u4 _ h) (cwV 0 hts gX4_tell_X4_close rfl rfl rfl (by decide +kernel) ⟨Nat.le_of_ble_eq_true rfl, Nat.le_of_ble_eq_true rfl⟩) (pcV hC hP hS (cg_4 hi4) rfl) rfl rfl hl.1 rfl (lv_room (Nat.le_of_ble_eq_true rfl)) dX4_tell_90 ⟨Nat.le_of_ble_eq_true rfl, Nat.le_of_ble_eq_true rfl⟩) hS (cA_mono hS.1) (fun u5 H locs h hP hS => ?_)
  have hS : va_S (cA L0 ad0 s.heap.size) s.heap H locs := by rw [← hXT.2.2.2.1]; exact hS
  exact W.vret hx hb hr (fun t ht hW => ⟨⟨(ad, L, al, u5), rfl, ⟨hXT, h⟩, by show va_P _ _ _ t.heap; rw [ht]; exact hP⟩, hS.F ht⟩) hS.2.2 dX4_tell_93
set_option maxRecDepth 100000 in
set_option maxHeartbeats 4000000 in
theorem w_X4_tellnew {p : Program} {l : Launch} {e : Env} {s : State} {m : MethodId} {args : Array Value} {below : List Frame} {meth : Method} {c : Code} {D : va_G} {cI cG cZ cJ : ClassId} {ts : Nat × Nat} {L : List Nat} {ad : Nat → Nat} {al : Nat} {L0 : List Nat} {ad0 : Nat → Nat} (hL : Lf L (al + 1)) (X : FX RX4 wsX4_tell cX4_tell 7 none D cI cG cZ cJ ts L ad p s m args meth c) (hXT : XT L0 ad0 s.heap.size L ad (al + 1)) (a1 a2 a3 a4 : Int32) (Q : Nat → St → Prop) (u : St) (H : Heap) (locs : List Loc) (ls : Array Slot) (hin : vp_in (u 0 4) 4) (hal : (u 0 4).toNatClampNeg = al) (h : f_X4_tellgo (al + 1) al a1 a2 a3 a4 u Q) (hP : va_P D vwCl (cW cI cG L ad al u) H) (hS : va_S (cA L ad s.heap.size) s.heap H locs) (hl : lv_has ls 7 [(6, .null), (0, .ref (ad 4)), (1, .int a1), (2, .int a2), (3, .int a3), (4, .int a4), (5, .ref (ad 2))]) : W p l e (headSpec wsX4_tell { frames := 5, cells := 2, slots := 3902, locals := 122 }).room s m args below meth c H locs 2 3902 (MQ below (va_Qv (QZ L0 ad0 s.heap.size Q) (BZ D cI cG) (cA L0 ad0 s.heap.size)) args s 2 3902 (cA L0 ad0 s.heap.size)) (F0 m 43 ls [.ref (ad (22 + 2 * al))]) := by
  obtain ⟨hx, hb, hml, hown, hts, hr, hlocks, hwd, hC⟩ := id X
  have hK := hC.1
  obtain ⟨i4, hi4⟩ := wL_ix (hL 4 (by omega))
  obtain ⟨i6, hi6⟩ := wL_ix (hL 6 (by omega))
  obtain ⟨ig, hig⟩ := wL_ix (hL (22 + 2 * al) (by omega))
  have lk0 := hts (.fieldLink RX4 31 "FormForge$Group" "told" "I") (by decide +kernel)
  have lk1 := hts (.fieldLink RX4 11 "FormForge$Group" "generators" "[LFormForge$Generator;") (by decide +kernel)
  have n4 : ∀ w ∈ wsX40, w ∈ wsX4_tell := by decide +kernel
  refine lv_astore (lv' := [(6, .ref (ad (22 + 2 * al))), (0, .ref (ad 4)), (1, .int a1), (2, .int a2), (3, .int a3), (4, .int a4), (5, .ref (ad 2))]) hx hb dX4_tell_43 hl (by decide) rfl (fun ls hl => ?_)
  refine lv_aload_n hx hb dX4_tell_45 rfl (lv_at hl 1 rfl) ?_
  refine va_get (C := RX4) (T := TX4) (N := 6) hx hb hts n4 hown hK hP i4 (cg_4 hi4) rfl 1 (by decide) lk1 (fun _ h9 => h9) rfl dX4_tell_46 ?_
  refine lv_aload_n hx hb dX4_tell_49 rfl (lv_at hl 1 rfl) ?_
  refine va_get (C := RX4) (T := TX4) (N := 6) hx hb hts n4 hown hK hP i4 (cg_4 hi4) rfl 4 (by decide) lk0 (fun _ h9 => h9) rfl dX4_tell_50 ?_
  refine lv_aload hx hb dX4_tell_53 (lv_at hl 0 rfl) ?_
  refine va_astq hx hb hK hP (cD hwd) hS i6 1 ig 3 (cg_6 hi6) rfl (cg_g hig) rfl hin dX4_tell_55 (fun H locs hP _ hS => ?_)
  rw [hal] at hP
  replace hP := cu_al hwd hi6 hP
  exact w_X4_tellgo hL (Nat.lt_succ_self al) X hXT a1 a2 a3 a4 Q u _ _ _ h hP hS hl
set_option maxRecDepth 100000 in
set_option maxHeartbeats 4000000 in
theorem w_X4_tell {p : Program} {l : Launch} {e : Env} {s : State} {m : MethodId} {args : Array Value} {below : List Frame} {meth : Method} {c : Code} {D : va_G} {cI cG cZ cJ : ClassId} {ts : Nat × Nat} {L : List Nat} {ad : Nat → Nat} {al : Nat} (hL : Lf L al) (hLb : Lb L al) (X : FX RX4 wsX4_tell cX4_tell 7 none D cI cG cZ cJ ts L ad p s m args meth c) (a1 a2 a3 a4 : Int32) (Q : Nat → St → Prop) (u : St) (H : Heap) (locs : List Loc) (ls : Array Slot) (h : f_X4_tell al a1 a2 a3 a4 u Q) (hP : va_P D vwCl (cW cI cG L ad al u) H) (hS : va_S (cA L ad s.heap.size) s.heap H locs) (hl : lv_has ls 7 [(0, .ref (ad 4)), (1, .int a1), (2, .int a2), (3, .int a3), (4, .int a4), (5, .ref (ad 2))]) : W p l e (headSpec wsX4_tell { frames := 5, cells := 2, slots := 3902, locals := 122 }).room s m args below meth c H locs 0 0 (MQ below (va_Qv (QZ L ad s.heap.size Q) (BZ D cI cG) (cA L ad s.heap.size)) args s 2 3902 (cA L ad s.heap.size)) (F0 m 0 ls []) := by
  obtain ⟨hx, hb, hml, hown, hts, hr, hlocks, hwd, hC⟩ := id X
  have hK := hC.1
  obtain ⟨i4, hi4⟩ := wL_ix (hL 4 (by omega))
  obtain ⟨i6, hi6⟩ := wL_ix (hL 6 (by omega))
  have lk0 := hts (.fieldLink RX4 31 "FormForge$Group" "told" "I") (by decide +kernel)
  have lk1 := hts (.fieldLink RX4 11 "FormForge$Group" "generators" "[LFormForge$Generator;") (by decide +kernel)
  have n4 : ∀ w ∈ wsX40, w ∈ wsX4_tell := by decide +kernel
  have n3 : ∀ w ∈ wsX30, w ∈ wsX4_tell := by decide +kernel
  have hN6 := hC.2.1 _ (List.mem_of_getElem? (i := 6) rfl)
  have hend : Q al u → W p l e (headSpec wsX4_tell { frames := 5, cells := 2, slots := 3902, locals := 122 }).room s m args below meth c H locs 0 0 (MQ below (va_Qv (QZ L ad s.heap.size Q) (BZ D cI cG) (cA L ad s.heap.size)) args s 2 3902 (cA L ad s.heap.size)) (F0 m 19 ls []) := by
    intro hq
    refine W.widen (k := 2) (n := 3902) (Nat.le_of_ble_eq_true rfl) (Nat.le_of_ble_eq_true rfl) ?_
    exact W.vret hx hb hr (fun t ht hW => ⟨⟨(ad, L, al, u), rfl, ⟨XT.rf hwd hL hLb, hq⟩, by show va_P _ _ _ t.heap; rw [ht]; exact hP⟩, hS.F ht⟩) hS.2.2 dX4_tell_19
  unfold f_X4_tell at h
  refine lv_aload_n hx hb dX4_tell_0 rfl (lv_at hl 0 rfl) ?_
  refine va_get (C := RX4) (T := TX4) (N := 6) hx hb hts n4 hown hK hP i4 (cg_4 hi4) rfl 4 (by decide) lk0 (fun _ h9 => h9) rfl dX4_tell_1 ?_
  refine lv_if_lt (tgt := 19) hx hb dX4_tell_4 (by decide) (fun c1 => ?_) (fun c1 => ?_)
  · exact hend (h.1 c1)
  replace h := h.2 c1
  refine lv_aload_n hx hb dX4_tell_7 rfl (lv_at hl 0 rfl) ?_
  refine va_get (C := RX4) (T := TX4) (N := 6) hx hb hts n4 hown hK hP i4 (cg_4 hi4) rfl 4 (by decide) lk0 (fun _ h9 => h9) rfl dX4_tell_8 ?_
  refine lv_aload_n hx hb dX4_tell_11 rfl (lv_at hl 0 rfl) ?_
  refine va_get (C := RX4) (T := TX4) (N := 6) hx hb hts n4 hown hK hP i4 (cg_4 hi4) rfl 1 (by decide) lk1 (fun _ h9 => h9) rfl dX4_tell_12 ?_
  refine va_alen (v := 4) hx hb hK hP i6 1 (cg_6 hi6) rfl rfl dX4_tell_15 ?_
  refine lv_icmp_lt (tgt := 20) hx hb dX4_tell_16 (by decide) (fun c2 => ?_) (fun c2 => ?_)
  · replace h := h.2 (Int32.not_le.mpr c2)
    refine lv_aload_n hx hb dX4_tell_20 rfl (lv_at hl 0 rfl) ?_
    refine va_get (C := RX4) (T := TX4) (N := 6) hx hb hts n4 hown hK hP i4 (cg_4 hi4) rfl 1 (by decide) lk1 (fun _ h9 => h9) rfl dX4_tell_21 ?_
    refine lv_aload_n hx hb dX4_tell_24 rfl (lv_at hl 0 rfl) ?_
    refine va_get (C := RX4) (T := TX4) (N := 6) hx hb hts n4 hown hK hP i4 (cg_4 hi4) rfl 4 (by decide) lk0 (fun _ h9 => h9) rfl dX4_tell_25 ?_
    have hin := h.1
    refine va_aldq hx hb hK hP i6 1 (cg_6 hi6) rfl hin dX4_tell_28 ?_
    replace h := h.2
    by_cases hlt : (u 0 4).toNatClampNeg < al
    · refine W.eq (g2 := F0 m 29 ls [.ref (ad (22 + 2 * (u 0 4).toNatClampNeg))]) (by rw [if_pos hlt]; rfl) ?_
      refine lv_astore (lv' := [(6, .ref (ad (22 + 2 * (u 0 4).toNatClampNeg))), (0, .ref (ad 4)), (1, .int a1), (2, .int a2), (3, .int a3), (4, .int a4), (5, .ref (ad 2))]) hx hb dX4_tell_29 hl (by decide) rfl (fun ls hl => ?_)
      refine lv_aload hx hb dX4_tell_31 (lv_at hl 0 rfl) ?_
      refine lv_ifnonnull (tgt := 56) hx hb dX4_tell_33 (by decide) ?_
      refine W.widen (k := 2) (n := 3902) (Nat.le_of_ble_eq_true rfl) (Nat.le_of_ble_eq_true rfl) ?_
      exact w_X4_tellgo hL hlt X (XT.rf hwd hL hLb) a1 a2 a3 a4 Q u _ _ _ (h.1 hlt) hP hS hl
    · obtain ⟨hal, h⟩ := h.2 hlt
      refine W.eq (g2 := F0 m 29 ls [.null]) (by rw [if_neg hlt]; rfl) ?_
      refine lv_astoreN (lv' := [(6, .null), (0, .ref (ad 4)), (1, .int a1), (2, .int a2), (3, .int a3), (4, .int a4), (5, .ref (ad 2))]) hx hb dX4_tell_29 hl (by decide) rfl (fun ls hl => ?_)
      refine lv_aloadN hx hb dX4_tell_31 (lv_at hl 0 rfl) ?_
      refine lv_ifnonnullN hx hb dX4_tell_33 ?_
      refine va_new (ci := 3) (fs := [.null, .int 0]) (C := RX3) (T := TX3) (N := 2) hx hb hts n3 tyX3 tyX3_ok hown (hts (.classLink RX4 9 RX3) (by decide +kernel)) (hts (.instantiable RX3 2) (by decide +kernel)) (hts (.initialized RX3) (by decide +kernel)) hK hP (cD hwd) hS (fun q h => Or.inr h) rfl (fun j hj => by rcases (show j = 0 ∨ j = 1 by omega) with rfl | rfl <;> rfl) (Nat.le_of_ble_eq_true rfl) (Nat.le_of_ble_eq_true rfl) dX4_tell_36 (fun q0 H hP hD hS => ?_)
      refine lv_dup hx hb dX4_tell_39 rfl ?_
      have hFc : ∀ q, va_A [(q0, .inr (3, [.null, .int 0]))] H.size q → cA L ad s.heap.size q := fun q h9 => h9.elim (fun ⟨k, e, h9⟩ => (last_D hD).2 k _ h9) (fun h9 => Or.inr (Nat.le_trans hS.1 h9))
      refine va_callv (va_runIN (As := []) (rest := [.ref q0]) ⟨hx, hb, hml, hown, hts⟩ (c_X3_init (D := D) (cI := cI) (cG := cG) (cZ := cZ) (cJ := cJ) q0 H.size) ⟨va_cnB (host := RX6) 0 hts gX4_tell_X3_init_n35 rfl rfl rfl hN6 (hts (.initialized RX3) (by decide +kernel)) (by decide +kernel) ⟨Nat.le_of_ble_eq_true rfl, Nat.le_of_ble_eq_true rfl⟩, rfl, hts (.instanceMethod yX3_init) (by decide +kernel)⟩ ⟨fun a U g mk q => by obtain ⟨q0, q1, qP, qK, qD⟩ := q; exact ⟨q0, q1, qP, va_K.moved (u := U) (U := U.calling g mk a) (Vm.Alike.refl U.vm) qK, qD⟩, fun U hU hW => ⟨rfl, by rw [hU], by rw [hU]; exact last_P hP, va_K.moved hW.alike hK, (last_D hD).weaken (fun _ _ _ _ => trivial)⟩⟩ rfl rfl hl.1 rfl (lv_room (Nat.le_of_ble_eq_true rfl)) dX4_tell_40 ⟨Nat.le_of_ble_eq_true rfl, Nat.le_of_ble_eq_true rfl⟩) hS (fun q _ h => hFc q h) hFc (fun q1 t H1 locs ht hvm _ hB hz1 hk1 hS => ?_)
      obtain ⟨hP1, hD1⟩ := hB
      rw [ht] at hP1
      obtain ⟨hP, hD⟩ := ext_join hP hD hk1 hFc hP1 hD1
      have a0 : cA L ad s.heap.size q0 := (last_D hD).2 0 _ rfl
      have a1' : cA L ad s.heap.size q1 := (last_D hD).2 1 _ rfl
      rw [← cW_N hLb] at hP hD
      have hcA := cA_N hLb a0 a1'
      have hwd' : WD (LN L al) (adN ad al q0 q1) := WD_of (NdL_N hwd.1 hLb) hD
      have hC' : CX D cI cG cZ cJ ts (cA (LN L al) (adN ad al q0 q1) s.heap.size) s s.heap := by rw [hcA]; exact hC
      have X' : FX RX4 wsX4_tell cX4_tell 7 none D cI cG cZ cJ ts (LN L al) (adN ad al q0 q1) p s m args meth c := ⟨hx, hb, hml, hown, hts, hr, hlocks, hwd', hC'⟩
      have hS : va_S (cA (LN L al) (adN ad al q0 q1) s.heap.size) s.heap H1 locs := by rw [hcA]; exact hS
      have e4 : adN ad al q0 q1 4 = ad 4 := adN_o (by omega)
      have e2 : adN ad al q0 q1 2 = ad 2 := adN_o (by omega)
      rw [← e4, ← e2] at hl
      have hXT : XT L ad s.heap.size (LN L al) (adN ad al q0 q1) (al + 1) := ⟨hwd', Lf_N hL, Lb_N hLb, hcA, fun k hk => adN_o (by omega)⟩
      have e5 : newG al u 0 4 = u 0 4 := newG_s (by omega)
      refine W.eq (g2 := F0 m 43 ls [.ref (adN ad al q0 q1 (22 + 2 * al))]) (by rw [adN_0]) ?_
      refine W.widen (k := 2) (n := 3902) (Nat.le_of_ble_eq_true rfl) (Nat.le_of_ble_eq_true rfl) ?_
      exact w_X4_tellnew (Lf_N hL) X' hXT a1 a2 a3 a4 Q (newG al u) _ _ _ (by rw [e5]; exact hin) (by rw [e5]; exact hal) h hP hS hl
  · exact hend (h.1 (Int32.not_lt.mp c2))
set_option maxRecDepth 100000 in
set_option maxHeartbeats 4000000 in
theorem c_X4_tell {l : Launch} {D : va_G} {cI cG cZ cJ : ClassId} {ts : Nat × Nat} {L : List Nat} {ad : Nat → Nat} {al : Nat} (hL : Lf L al) (hLb : Lb L al) (hwd : WD L ad) (sz : Nat) (u : St) (a1 a2 a3 a4 : Int32) (Q : Nat → St → Prop) (h : f_X4_tell al a1 a2 a3 a4 u Q) : Met l yX4_tell wsX4_tell ({ frames := 5, cells := 2, slots := 3902, locals := 122 }) (va_Pc [.ref (ad 4), .int a1, .int a2, .int a3, .int a4, .ref (ad 2)] (PC D cI cG cZ cJ ts L ad al sz u)) (va_Qv (QZ L ad sz Q) (BZ D cI cG) (cA L ad sz)) 2 3902 (cA L ad sz) := by
  refine Met.ofW (cc := cX4_tell) (maxL := 7) (ret := none) (by decide) rfl ?_
  intro p e s m args below meth c s₁ B hml hv
  obtain ⟨rfl, hsz, hP, hC⟩ := hv
  subst hsz
  have X : FX RX4 wsX4_tell cX4_tell 7 none D cI cG cZ cJ ts L ad p s m _ meth c := ⟨B.exec, B.bytes, hml, findClass_of_methodNamed B.named, atoms_spec (ws := wsX4_tell) B.pre, B.returns, B.notSynchronized, hwd, hC⟩
  have hl := lv_entry ([.ref (ad 4), .int a1, .int a2, .int a3, .int a4, .ref (ad 2)]) (n := 7) (Nat.le_of_ble_eq_true rfl)
  rw [lg_entry_eq]
  generalize (lg_sl ([.ref (ad 4), .int a1, .int a2, .int a3, .int a4, .ref (ad 2)]) ++ List.replicate (7 - (lg_sl ([.ref (ad 4), .int a1, .int a2, .int a3, .int a4, .ref (ad 2)])).length) Slot.unset).toArray = ls at hl ⊢
  exact w_X4_tell hL hLb X a1 a2 a3 a4 Q u _ _ _ h hP va_S.rf hl
