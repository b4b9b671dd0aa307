def f_X4_pick (al : Nat) (a1 : Int32) (u : St) (Q : Option Nat → St → Prop) : Prop :=
  ((a1 < 0 → Q none u) ∧ (¬ a1 < 0 → (((u 0 4) ≤ a1 → Q none u) ∧ (¬ (u 0 4) ≤ a1 → ((4 ≤ a1 → Q none u) ∧ (¬ 4 ≤ a1 → (vp_in a1 4 ∧ Q (if a1.toNatClampNeg < al then some a1.toNatClampNeg else none) u)))))))
def f_X6_readC (al : Nat) (a1 : Int32) (u : St) (Q : Int32 → St → Prop) : Prop :=
  ((a1 < 0 → Q 0 u) ∧ (¬ a1 < 0 → ((16 ≤ a1 → Q 0 u) ∧ (¬ 16 ≤ a1 → (vp_in a1 16 ∧ ∀ v3 : Int32, v3 = stC a1.toNatClampNeg → Q v3 u)))))
def f_X6_readS (al : Nat) (a1 : Int32) (u : St) (Q : Int32 → St → Prop) : Prop :=
  ((a1 < 0 → Q 0 u) ∧ (¬ a1 < 0 → ((5 ≤ a1 → Q 0 u) ∧ (¬ 5 ≤ a1 → (vp_in a1 5 ∧ ∀ v3 : Int32, v3 = stS a1.toNatClampNeg → Q v3 u)))))
def f_J7_fill_53178_L5_s (k0 : Nat) (a1 : Int32) (a3 : Int32) (Q : St → Prop) (K0 : St → Prop) (rec : Int32 → St → Prop) (a2 : Int32) (u : St) : Prop :=
 ((a3 ≤ a2 → K0 u) ∧ (¬ a3 ≤ a2 → (vp_in a2 (lenC k0) ∧ ∀ u3 : St, u3 = su u k0 a2.toNatClampNeg a1 → (∀ v4 : Int32, v4 = a2 + 1 → rec v4 u3))))
def f_J7_fill_53178_L5 (k0 : Nat) (a1 : Int32) (a3 : Int32) (Q : St → Prop) (K0 : St → Prop) : Nat → Int32 → St → Prop
  | 0 => fun _ _ => False
  | n + 1 => f_J7_fill_53178_L5_s k0 a1 a3 Q K0 (f_J7_fill_53178_L5 k0 a1 a3 Q K0 n)
def f_J7_fill_53178 (k0 : Nat) (a1 : Int32) (u : St) (Q : St → Prop) : Prop :=
 (∀ v1 : Int32, v1 = (nI (lenC k0)) → (∃ n5, f_J7_fill_53178_L5 k0 a1 v1 Q (fun u6 => Q u6) n5 0 u))
def f_X2_table (al : Nat) (a1 : Int32) (a2 : Int32) (a3 : Int32) (a4 : Int32) (u : St) (Q : Int32 → St → Prop) : Prop :=
  Q (a1 + ((u 0 0) * (a2 + ((u 0 0) * (a3 + ((u 0 0) * a4)))))) u
def f_X6_read (al : Nat) (k0 : Nat) (a1 : Int32) (u : St) (Q : Int32 → St → Prop) : Prop :=
 ((a1 < 0 → Q 0 u) ∧ (¬ a1 < 0 → (((nI (lenC k0)) ≤ a1 → Q 0 u) ∧ (¬ (nI (lenC k0)) ≤ a1 → (vp_in a1 (lenC k0) ∧ ∀ v3 : Int32, v3 = u k0 a1.toNatClampNeg → Q v3 u)))))
def f_X6_write (al : Nat) (k0 : Nat) (a1 : Int32) (a2 : Int32) (u : St) (Q : St → Prop) : Prop :=
 ((a1 < 0 → Q u) ∧ (¬ a1 < 0 → (((nI (lenC k0)) ≤ a1 → Q u) ∧ (¬ (nI (lenC k0)) ≤ a1 → (vp_in a1 (lenC k0) ∧ ∀ u3 : St, u3 = su u k0 a1.toNatClampNeg a2 → Q u3)))))
def f_X4_find (al : Nat) (a1 : Int32) (u : St) (Q : St → Prop) : Prop :=
  f_X6_read al 16 a1 u (fun v1 u2 => ((¬ v1 = 0 → Q u2) ∧ (v1 = 0 → ((480 ≤ (u2 0 5) → Q u2) ∧ (¬ 480 ≤ (u2 0 5) → f_X6_write al 16 a1 1 u2 (fun u5 => f_X6_write al 15 (u5 0 5) a1 u5 (fun u6 => (∀ u7 : St, u7 = su u6 0 5 ((u6 0 5) + 1) → Q u7))))))))
def f_X4_matrix (al : Nat) (a1 : Int32) (u : St) (Q : Int32 → St → Prop) : Prop :=
  f_X6_read al 15 a1 u (fun v1 u2 => Q v1 u2)
def f_X4_generatorMatrix (al : Nat) (a1 : Int32) (u : St) (Q : Int32 → St → Prop) : Prop :=
  f_X4_pick al a1 u (fun o3 u2 => (o3 = none → f_X2_table al 1 0 0 1 u2 (fun v5 u6 => Q v5 u6)) ∧ (∀ j4, j4 < al → o3 = some j4 → Q (u2 0 (8 + j4)) u2))
def f_X2_howMany_L4_s (al : Nat) (a1 : Int32) (Q : Int32 → St → Prop) (K0 : Int32 → St → Prop) (rec : Int32 → Int32 → St → Prop) (a2 : Int32) (a3 : Int32) (u : St) : Prop :=
 ((a1 ≤ a3 → K0 a2 u) ∧ (¬ a1 ≤ a3 → (∀ v2 : Int32, v2 = (a2 * (u 0 0)) → (∀ v3 : Int32, v3 = a3 + 1 → rec v2 v3 u))))
def f_X2_howMany_L4 (al : Nat) (a1 : Int32) (Q : Int32 → St → Prop) (K0 : Int32 → St → Prop) : Nat → Int32 → Int32 → St → Prop
  | 0 => fun _ _ _ => False
  | n + 1 => f_X2_howMany_L4_s al a1 Q K0 (f_X2_howMany_L4 al a1 Q K0 n)
def f_X2_howMany (al : Nat) (a1 : Int32) (u : St) (Q : Int32 → St → Prop) : Prop :=
 (∃ n4, f_X2_howMany_L4 al a1 Q (fun v5 u6 => Q v5 u6) n4 1 0 u)
def f_J9_floorMod_7cf53 (a0 : Int32) (a1 : Int32) (u : St) (Q : Int32 → St → Prop) : Prop :=
 (¬ a1 = 0 ∧ (∀ v1 : Int32, v1 = (a0 - a0 / a1 * a1) → ((0 ≤ (a0 ^^^ a1) → Q v1 u) ∧ (¬ 0 ≤ (a0 ^^^ a1) → ((v1 = 0 → Q v1 u) ∧ (¬ v1 = 0 → Q (v1 + a1) u))))))
def f_X2_rest (al : Nat) (a1 : Int32) (u : St) (Q : Int32 → St → Prop) : Prop :=
 (((u 0 0) ≤ 0 → Q 0 u) ∧ (¬ (u 0 0) ≤ 0 → f_J9_floorMod_7cf53 a1 (u 0 0) u (fun v2 u3 => Q v2 u3)))
def f_X2_digit (al : Nat) (a1 : Int32) (a2 : Int32) (u : St) (Q : Int32 → St → Prop) : Prop :=
  f_X2_howMany al a2 u (fun v1 u2 => ((v1 ≤ 0 → Q 0 u2) ∧ (¬ v1 ≤ 0 → (¬ v1 = 0 ∧ (∀ v4 : Int32, v4 = (a1 / v1) → f_X2_rest al v4 u2 (fun v5 u6 => Q v5 u6))))))
def f_X2_product (al : Nat) (a1 : Int32) (a2 : Int32) (u : St) (Q : Int32 → St → Prop) : Prop :=
  f_X2_digit al a1 0 u (fun v1 u2 => f_X2_digit al a1 1 u2 (fun v3 u4 => f_X2_digit al a1 2 u4 (fun v5 u6 => f_X2_digit al a1 3 u6 (fun v7 u8 => f_X2_digit al a2 0 u8 (fun v9 u10 => f_X2_digit al a2 1 u10 (fun v11 u12 => f_X2_digit al a2 2 u12 (fun v13 u14 => f_X2_digit al a2 3 u14 (fun v15 u16 => f_X2_rest al ((v1 * v9) + (v3 * v13)) u16 (fun v17 u18 => f_X2_rest al ((v1 * v11) + (v3 * v15)) u18 (fun v19 u20 => f_X2_rest al ((v5 * v9) + (v7 * v13)) u20 (fun v21 u22 => f_X2_rest al ((v5 * v11) + (v7 * v15)) u22 (fun v23 u24 => f_X2_table al v17 v19 v21 v23 u24 (fun v25 u26 => Q v25 u26)))))))))))))
def f_X4_close_L47_s (al : Nat) (a1 : Int32) (Q : St → Prop) (K0 : St → Prop) (rec : Int32 → St → Prop) (a2 : Int32) (u : St) : Prop :=
 (((u 0 4) ≤ a2 → K0 u) ∧ (¬ (u 0 4) ≤ a2 → f_X4_matrix al a1 u (fun v9 u10 => f_X4_generatorMatrix al a2 u10 (fun v11 u12 => f_X2_product al v9 v11 u12 (fun v13 u14 => f_X4_find al v13 u14 (fun u15 => (∀ v16 : Int32, v16 = a2 + 1 → rec v16 u15)))))))
def f_X4_close_L47 (al : Nat) (a1 : Int32) (Q : St → Prop) (K0 : St → Prop) : Nat → Int32 → St → Prop
  | 0 => fun _ _ => False
  | n + 1 => f_X4_close_L47_s al a1 Q K0 (f_X4_close_L47 al a1 Q K0 n)
def f_X4_close_L30_s (al : Nat) (Q : St → Prop) (K0 : St → Prop) (rec : Int32 → St → Prop) (a1 : Int32) (u : St) : Prop :=
 (((u 0 5) ≤ a1 → K0 u) ∧ (¬ (u 0 5) ≤ a1 → ((480 ≤ a1 → K0 u) ∧ (¬ 480 ≤ a1 → (∃ n17, f_X4_close_L47 al a1 Q (fun u18 => (∀ v19 : Int32, v19 = a1 + 1 → rec v19 u18)) n17 0 u)))))
def f_X4_close_L30 (al : Nat) (Q : St → Prop) (K0 : St → Prop) : Nat → Int32 → St → Prop
  | 0 => fun _ _ => False
  | n + 1 => f_X4_close_L30_s al Q K0 (f_X4_close_L30 al Q K0 n)
def f_X4_close (al : Nat) (u : St) (Q : St → Prop) : Prop :=
  f_J7_fill_53178 16 0 u (fun u1 => (∀ u2 : St, u2 = su u1 0 5 0 → f_X2_table al 1 0 0 1 u2 (fun v3 u4 => f_X4_find al v3 u4 (fun u5 => (∃ n20, f_X4_close_L30 al Q (fun u21 => Q u21) n20 0 u5)))))
def f_X4_forget (al : Nat) (u : St) (Q : St → Prop) : Prop :=
 (∀ u1 : St, u1 = su u 0 4 0 → f_X4_close al u1 (fun u2 => Q u2))
def f_X6_prime (al : Nat) (a1 : Int32) (u : St) (Q : Int32 → St → Prop) (QX : String → St → Prop) : Prop :=
 ((a1 = 2 → (∀ v2 : Int32, v2 = (u 0 0) → (∀ u3 : St, u3 = su u 0 0 a1 → (∀ u4 : St, u4 = su u3 0 7 0 → f_X4_forget al u4 (fun u5 => f_J7_fill_53178 12 0 u5 (fun u6 => Q v2 u6)))))) ∧ (¬ a1 = 2 → ((a1 = 3 → (∀ v8 : Int32, v8 = (u 0 0) → (∀ u9 : St, u9 = su u 0 0 a1 → (∀ u10 : St, u10 = su u9 0 7 0 → f_X4_forget al u10 (fun u11 => f_J7_fill_53178 12 0 u11 (fun u12 => Q v8 u12)))))) ∧ (¬ a1 = 3 → ((a1 = 5 → (∀ v14 : Int32, v14 = (u 0 0) → (∀ u15 : St, u15 = su u 0 0 a1 → (∀ u16 : St, u16 = su u15 0 7 0 → f_X4_forget al u16 (fun u17 => f_J7_fill_53178 12 0 u17 (fun u18 => Q v14 u18)))))) ∧ (¬ a1 = 5 → QX "java/lang/IllegalArgumentException" u))))))
def f_X6_isDegree (al : Nat) (a0 : Int32) (u : St) (Q : Int32 → St → Prop) : Prop :=
 ((a0 < 1 → Q 0 u) ∧ (¬ a0 < 1 → ((4 < a0 → Q 0 u) ∧ (¬ 4 < a0 → Q 1 u))))
def f_X6_form (al : Nat) (a1 : Int32) (a2 : Int32) (u : St) (Q : Int32 → St → Prop) (QX : String → St → Prop) : Prop :=
  f_X6_isDegree al a1 u (fun v1 u2 => ((v1 = 0 → QX "java/lang/IllegalArgumentException" u2) ∧ (¬ v1 = 0 → ((a2 < 0 → QX "java/lang/IllegalArgumentException" u2) ∧ (¬ a2 < 0 → f_X2_howMany al (a1 + 1) u2 (fun v5 u6 => ((a2 < v5 → (((u6 0 7) < 20 → f_X6_write al 7 (u6 0 7) a1 u6 (fun u9 => f_X6_write al 8 (u9 0 7) a2 u9 (fun u10 => (∀ u11 : St, u11 = su u10 0 7 ((u10 0 7) + 1) → Q ((u11 0 7) - 1) u11)))) ∧ (¬ (u6 0 7) < 20 → QX "java/lang/IllegalStateException" u6))) ∧ (¬ a2 < v5 → QX "java/lang/IllegalArgumentException" u6))))))))
def f_X6_checkForm (al : Nat) (a1 : Int32) (u : St) (Q : St → Prop) (QX : String → St → Prop) : Prop :=
 ((a1 < 0 → QX "java/lang/IndexOutOfBoundsException" u) ∧ (¬ a1 < 0 → ((a1 < (u 0 7) → Q u) ∧ (¬ a1 < (u 0 7) → QX "java/lang/IndexOutOfBoundsException" u))))
def f_X2_spell_L5_s (al : Nat) (k2 : Nat) (Q : St → Prop) (K0 : St → Prop) (rec : Int32 → Int32 → St → Prop) (a3 : Int32) (a4 : Int32) (u : St) : Prop :=
 ((5 ≤ a4 → K0 u) ∧ (¬ 5 ≤ a4 → f_X2_rest al a3 u (fun v2 u3 => f_X6_write al k2 a4 v2 u3 (fun u4 => (((u4 0 0) ≤ 0 → (∀ v6 : Int32, v6 = a4 + 1 → rec 0 v6 u4)) ∧ (¬ (u4 0 0) ≤ 0 → (¬ (u4 0 0) = 0 ∧ (∀ v7 : Int32, v7 = (a3 / (u4 0 0)) → (∀ v8 : Int32, v8 = a4 + 1 → rec v7 v8 u4)))))))))
def f_X2_spell_L5 (al : Nat) (k2 : Nat) (Q : St → Prop) (K0 : St → Prop) : Nat → Int32 → Int32 → St → Prop
  | 0 => fun _ _ _ => False
  | n + 1 => f_X2_spell_L5_s al k2 Q K0 (f_X2_spell_L5 al k2 Q K0 n)
def f_X2_spell (al : Nat) (a1 : Int32) (k2 : Nat) (u : St) (Q : St → Prop) : Prop :=
 (∃ n9, f_X2_spell_L5 al k2 Q (fun u10 => Q u10) n9 a1 0 u)
def f_X6_divideByY_L15_s (al : Nat) (a1 : Int32) (Q : Int32 → St → Prop) (K0 : St → Prop) (rec : Int32 → St → Prop) (a2 : Int32) (u : St) : Prop :=
 ((a1 ≤ a2 → K0 u) ∧ (¬ a1 ≤ a2 → f_X6_read al 9 (a2 + 1) u (fun v5 u6 => f_X6_write al 9 a2 v5 u6 (fun u7 => (∀ v8 : Int32, v8 = a2 + 1 → rec v8 u7)))))
def f_X6_divideByY_L15 (al : Nat) (a1 : Int32) (Q : Int32 → St → Prop) (K0 : St → Prop) : Nat → Int32 → St → Prop
  | 0 => fun _ _ => False
  | n + 1 => f_X6_divideByY_L15_s al a1 Q K0 (f_X6_divideByY_L15 al a1 Q K0 n)
def f_X6_divideByY (al : Nat) (a1 : Int32) (u : St) (Q : Int32 → St → Prop) : Prop :=
  f_X6_read al 9 0 u (fun v1 u2 => ((v1 = 0 → (∃ n9, f_X6_divideByY_L15 al a1 Q (fun u10 => Q 1 u10) n9 0 u2)) ∧ (¬ v1 = 0 → Q 0 u2)))
def f_X6_divideByPoint_L5_s (al : Nat) (a1 : Int32) (a2 : Int32) (Q : Int32 → St → Prop) (K0 : Int32 → St → Prop) (rec : Int32 → Int32 → St → Prop) (a3 : Int32) (a4 : Int32) (u : St) : Prop :=
 ((a1 < a4 → K0 a3 u) ∧ (¬ a1 < a4 → f_X6_read al 9 a4 u (fun v2 u3 => f_X2_rest al (v2 + (a2 * a3)) u3 (fun v4 u5 => f_X6_write al 9 a4 v4 u5 (fun u6 => (∀ v7 : Int32, v7 = a4 + 1 → rec v4 v7 u6))))))
def f_X6_divideByPoint_L5 (al : Nat) (a1 : Int32) (a2 : Int32) (Q : Int32 → St → Prop) (K0 : Int32 → St → Prop) : Nat → Int32 → Int32 → St → Prop
  | 0 => fun _ _ _ => False
  | n + 1 => f_X6_divideByPoint_L5_s al a1 a2 Q K0 (f_X6_divideByPoint_L5 al a1 a2 Q K0 n)
def f_X6_divideByPoint (al : Nat) (a1 : Int32) (a2 : Int32) (u : St) (Q : Int32 → St → Prop) : Prop :=
 (∃ n8, f_X6_divideByPoint_L5 al a1 a2 Q (fun v9 u10 => ((¬ v9 = 0 → Q 0 u10) ∧ (v9 = 0 → Q 1 u10))) n8 0 0 u)
def f_X6_divisions_L18_s (al : Nat) (a3 : Int32) (Q : Int32 → St → Prop) (K0 : Int32 → St → Prop) (K1 : Int32 → St → Prop) (rec : Int32 → Int32 → St → Prop) (a4 : Int32) (a5 : Int32) (u : St) : Prop :=
 ((a5 < 0 → K1 a4 u) ∧ (¬ a5 < 0 → ((¬ a3 = (u 0 0) → f_X6_divideByPoint al a5 a3 u (fun v4 u5 => ((¬ v4 = 0 → (∀ v7 : Int32, v7 = a4 + 1 → (∀ v8 : Int32, v8 = a5 + (-1) → rec v7 v8 u5))) ∧ (v4 = 0 → K0 a4 u5)))) ∧ (a3 = (u 0 0) → f_X6_divideByY al a5 u (fun v9 u10 => ((¬ v9 = 0 → (∀ v12 : Int32, v12 = a4 + 1 → (∀ v13 : Int32, v13 = a5 + (-1) → rec v12 v13 u10))) ∧ (v9 = 0 → K0 a4 u10)))))))
def f_X6_divisions_L18 (al : Nat) (a3 : Int32) (Q : Int32 → St → Prop) (K0 : Int32 → St → Prop) (K1 : Int32 → St → Prop) : Nat → Int32 → Int32 → St → Prop
  | 0 => fun _ _ _ => False
  | n + 1 => f_X6_divisions_L18_s al a3 Q K0 K1 (f_X6_divisions_L18 al a3 Q K0 K1 n)
def f_X6_divisions (al : Nat) (a1 : Int32) (a2 : Int32) (a3 : Int32) (u : St) (Q : Int32 → St → Prop) : Prop :=
  f_X2_spell al a2 9 u (fun u1 => (∃ n14, f_X6_divisions_L18 al a3 Q (fun v15 u16 => Q v15 u16) (fun v17 u18 => Q v17 u18) n14 0 a1 u1))
def f_X6_countRoots_L5_s (al : Nat) (a1 : Int32) (a2 : Int32) (Q : Int32 → St → Prop) (K0 : Int32 → St → Prop) (rec : Int32 → Int32 → St → Prop) (a3 : Int32) (a4 : Int32) (u : St) : Prop :=
 (((u 0 0) < a4 → K0 a3 u) ∧ (¬ (u 0 0) < a4 → f_X6_divisions al a1 a2 a4 u (fun v2 u3 => ((v2 ≤ 0 → (∀ v5 : Int32, v5 = a4 + 1 → rec a3 v5 u3)) ∧ (¬ v2 ≤ 0 → (∀ v6 : Int32, v6 = a3 + 1 → (∀ v7 : Int32, v7 = a4 + 1 → rec v6 v7 u3)))))))
def f_X6_countRoots_L5 (al : Nat) (a1 : Int32) (a2 : Int32) (Q : Int32 → St → Prop) (K0 : Int32 → St → Prop) : Nat → Int32 → Int32 → St → Prop
  | 0 => fun _ _ _ => False
  | n + 1 => f_X6_countRoots_L5_s al a1 a2 Q K0 (f_X6_countRoots_L5 al a1 a2 Q K0 n)
def f_X6_countRoots (al : Nat) (a1 : Int32) (a2 : Int32) (u : St) (Q : Int32 → St → Prop) : Prop :=
 (∃ n8, f_X6_countRoots_L5 al a1 a2 Q (fun v9 u10 => Q v9 u10) n8 0 0 u)
def f_X6_isNull_L2_s (al : Nat) (a1 : Int32) (a2 : Int32) (Q : Int32 → St → Prop) (K0 : St → Prop) (K1 : St → Prop) (rec : Int32 → St → Prop) (a3 : Int32) (u : St) : Prop :=
 (((u 0 0) < a3 → K1 u) ∧ (¬ (u 0 0) < a3 → f_X6_divisions al a1 a2 a3 u (fun v2 u3 => (((2 * v2) ≤ a1 → (∀ v5 : Int32, v5 = a3 + 1 → rec v5 u3)) ∧ (¬ (2 * v2) ≤ a1 → K0 u3)))))
def f_X6_isNull_L2 (al : Nat) (a1 : Int32) (a2 : Int32) (Q : Int32 → St → Prop) (K0 : St → Prop) (K1 : St → Prop) : Nat → Int32 → St → Prop
  | 0 => fun _ _ => False
  | n + 1 => f_X6_isNull_L2_s al a1 a2 Q K0 K1 (f_X6_isNull_L2 al a1 a2 Q K0 K1 n)
def f_X6_isNull (al : Nat) (a1 : Int32) (a2 : Int32) (u : St) (Q : Int32 → St → Prop) : Prop :=
 (∃ n6, f_X6_isNull_L2 al a1 a2 Q (fun u7 => Q 1 u7) (fun u8 => Q 0 u8) n6 0 u)
def f_X3_image (al : Nat) (g : Nat) (a1 : Int32) (a2 : Int32) (u : St) (Q : Int32 → St → Prop) : Prop :=
  f_X6_readS al a1 u (fun v1 u2 => f_X6_read al (23 + 2 * g) (v1 + a2) u2 (fun v3 u4 => Q v3 u4))
def f_X4_image (al : Nat) (a1 : Int32) (a2 : Int32) (a3 : Int32) (u : St) (Q : Int32 → St → Prop) : Prop :=
  f_X4_pick al a1 u (fun o3 u2 => (o3 = none → Q a3 u2) ∧ (∀ j4, j4 < al → o3 = some j4 → f_X3_image al j4 a2 a3 u2 (fun v5 u6 => Q v5 u6)))
def f_X4_leaves_L2_s (al : Nat) (a1 : Int32) (a2 : Int32) (Q : Int32 → St → Prop) (K0 : St → Prop) (K1 : St → Prop) (rec : Int32 → St → Prop) (a3 : Int32) (u : St) : Prop :=
 (((u 0 4) ≤ a3 → K1 u) ∧ (¬ (u 0 4) ≤ a3 → f_X4_image al a3 a1 a2 u (fun v2 u3 => ((v2 = a2 → (∀ v5 : Int32, v5 = a3 + 1 → rec v5 u3)) ∧ (¬ v2 = a2 → K0 u3)))))
def f_X4_leaves_L2 (al : Nat) (a1 : Int32) (a2 : Int32) (Q : Int32 → St → Prop) (K0 : St → Prop) (K1 : St → Prop) : Nat → Int32 → St → Prop
  | 0 => fun _ _ => False
  | n + 1 => f_X4_leaves_L2_s al a1 a2 Q K0 K1 (f_X4_leaves_L2 al a1 a2 Q K0 K1 n)
def f_X4_leaves (al : Nat) (a1 : Int32) (a2 : Int32) (u : St) (Q : Int32 → St → Prop) : Prop :=
 (∃ n6, f_X4_leaves_L2 al a1 a2 Q (fun u7 => Q 0 u7) (fun u8 => Q 1 u8) n6 0 u)
def f_X5_clear (al : Nat) (u : St) (Q : St → Prop) : Prop :=
  f_J7_fill_53178 17 0 u (fun u1 => Q u1)
def f_X5_met (al : Nat) (a1 : Int32) (u : St) (Q : Int32 → St → Prop) : Prop :=
  f_X6_read al 17 a1 u (fun v1 u2 => ((v1 ≤ 0 → Q 0 u2) ∧ (¬ v1 ≤ 0 → Q 1 u2)))
def f_X5_reach (al : Nat) (a1 : Int32) (a2 : Int32) (a3 : Int32) (a4 : Int32) (u : St) (Q : St → Prop) : Prop :=
  f_X5_met al a1 u (fun v1 u2 => ((¬ v1 = 0 → Q u2) ∧ (v1 = 0 → ((480 ≤ (u2 0 6) → Q u2) ∧ (¬ 480 ≤ (u2 0 6) → f_X6_write al 18 (u2 0 6) a1 u2 (fun u5 => f_X6_write al 19 (u5 0 6) a2 u5 (fun u6 => f_X6_write al 20 (u6 0 6) a3 u6 (fun u7 => f_X6_write al 21 (u7 0 6) a4 u7 (fun u8 => (∀ u9 : St, u9 = su u8 0 6 ((u8 0 6) + 1) → f_X6_write al 17 a1 (u9 0 6) u9 (fun u10 => Q u10)))))))))))
def f_X5_go_L43_s (al : Nat) (a1 : Int32) (a3 : Int32) (a4 : Int32) (Q : St → Prop) (K0 : St → Prop) (rec : Int32 → St → Prop) (a5 : Int32) (u : St) : Prop :=
 (((u 0 4) ≤ a5 → K0 u) ∧ (¬ (u 0 4) ≤ a5 → f_X4_image al a5 a1 a4 u (fun v8 u9 => f_X6_read al 21 a3 u9 (fun v10 u11 => f_X5_reach al v8 a3 a5 (v10 + 1) u11 (fun u12 => (∀ v13 : Int32, v13 = a5 + 1 → rec v13 u12))))))
def f_X5_go_L43 (al : Nat) (a1 : Int32) (a3 : Int32) (a4 : Int32) (Q : St → Prop) (K0 : St → Prop) : Nat → Int32 → St → Prop
  | 0 => fun _ _ => False
  | n + 1 => f_X5_go_L43_s al a1 a3 a4 Q K0 (f_X5_go_L43 al a1 a3 a4 Q K0 n)
def f_X5_go_L15_s (al : Nat) (a1 : Int32) (Q : St → Prop) (K0 : St → Prop) (rec : Int32 → St → Prop) (a3 : Int32) (u : St) : Prop :=
 (((u 0 6) ≤ a3 → K0 u) ∧ (¬ (u 0 6) ≤ a3 → ((480 ≤ a3 → K0 u) ∧ (¬ 480 ≤ a3 → f_X6_read al 18 a3 u (fun v5 u6 => (∃ n14, f_X5_go_L43 al a1 a3 v5 Q (fun u15 => (∀ v16 : Int32, v16 = a3 + 1 → rec v16 u15)) n14 0 u6))))))
def f_X5_go_L15 (al : Nat) (a1 : Int32) (Q : St → Prop) (K0 : St → Prop) : Nat → Int32 → St → Prop
  | 0 => fun _ _ => False
  | n + 1 => f_X5_go_L15_s al a1 Q K0 (f_X5_go_L15 al a1 Q K0 n)
def f_X5_go (al : Nat) (a1 : Int32) (a2 : Int32) (u : St) (Q : St → Prop) : Prop :=
 (∀ u1 : St, u1 = su u 0 6 0 → f_X5_reach al a2 0 (-1) 0 u1 (fun u2 => (∃ n17, f_X5_go_L15 al a1 Q (fun u18 => Q u18) n17 0 u2)))
def f_X5_alone (al : Nat) (a1 : Int32) (a2 : Int32) (u : St) (Q : St → Prop) : Prop :=
  f_X5_clear al u (fun u1 => f_X5_go al a1 a2 u1 (fun u2 => Q u2))
def f_J9_min_7cf53 (a0 : Int32) (a1 : Int32) (u : St) (Q : Int32 → St → Prop) : Prop :=
 ((a1 < a0 → Q a1 u) ∧ (¬ a1 < a0 → Q a0 u))
def f_X5_leastCode_L11_s (al : Nat) (Q : Int32 → St → Prop) (K0 : Int32 → St → Prop) (rec : Int32 → Int32 → St → Prop) (a1 : Int32) (a2 : Int32) (u : St) : Prop :=
 (((u 0 6) ≤ a2 → K0 a1 u) ∧ (¬ (u 0 6) ≤ a2 → f_X6_read al 18 a2 u (fun v4 u5 => (∀ v6 : Int32, v6 = (if v4 < a1 then v4 else a1) → (∀ v7 : Int32, v7 = a2 + 1 → rec v6 v7 u5)))))
def f_X5_leastCode_L11 (al : Nat) (Q : Int32 → St → Prop) (K0 : Int32 → St → Prop) : Nat → Int32 → Int32 → St → Prop
  | 0 => fun _ _ _ => False
  | n + 1 => f_X5_leastCode_L11_s al Q K0 (f_X5_leastCode_L11 al Q K0 n)
def f_X5_leastCode (al : Nat) (u : St) (Q : Int32 → St → Prop) : Prop :=
  f_X6_read al 18 0 u (fun v1 u2 => (∃ n8, f_X5_leastCode_L11 al Q (fun v9 u10 => Q v9 u10) n8 v1 1 u2))
def f_X6_formIs (al : Nat) (a1 : Int32) (a2 : Int32) (u : St) (Q : Int32 → St → Prop) (QX : String → St → Prop) : Prop :=
  f_X6_checkForm al a1 u (fun u1 => f_X6_read al 7 a1 u1 (fun v2 u3 => f_X6_read al 8 a1 u3 (fun v4 u5 => ((a2 = 0 → Q v2 u5) ∧ (a2 = 1 → Q v4 u5) ∧ (a2 = 2 → f_X6_countRoots al v2 v4 u5 (fun v8 u9 => Q v8 u9)) ∧ (a2 = 3 → f_X6_isNull al v2 v4 u5 (fun v11 u12 => ((v11 = 0 → Q 0 u12) ∧ (¬ v11 = 0 → Q 1 u12)))) ∧ (a2 = 4 → f_X4_leaves al v2 v4 u5 (fun v15 u16 => ((v15 = 0 → Q 0 u16) ∧ (¬ v15 = 0 → Q 1 u16)))) ∧ (a2 = 5 → f_X5_alone al v2 v4 u5 (fun u19 => Q (u19 0 6) u19)) ∧ (a2 = 6 → f_X5_alone al v2 v4 u5 (fun u21 => f_X5_leastCode al u21 (fun v22 u23 => Q v22 u23))) ∧ (¬ a2 = 0 ∧ ¬ a2 = 1 ∧ ¬ a2 = 2 ∧ ¬ a2 = 3 ∧ ¬ a2 = 4 ∧ ¬ a2 = 5 ∧ ¬ a2 = 6 → QX "java/lang/IllegalArgumentException" u5))))) QX
def f_X2_has (al : Nat) (a1 : Int32) (u : St) (Q : Int32 → St → Prop) : Prop :=
 ((a1 < 0 → Q 0 u) ∧ (¬ a1 < 0 → (((u 0 0) ≤ a1 → Q 0 u) ∧ (¬ (u 0 0) ≤ a1 → Q 1 u))))
def f_X2_power_L5_s (al : Nat) (a1 : Int32) (a2 : Int32) (Q : Int32 → St → Prop) (K0 : Int32 → St → Prop) (rec : Int32 → Int32 → St → Prop) (a3 : Int32) (a4 : Int32) (u : St) : Prop :=
 ((a2 ≤ a4 → K0 a3 u) ∧ (¬ a2 ≤ a4 → f_X2_rest al (a3 * a1) u (fun v2 u3 => (∀ v4 : Int32, v4 = a4 + 1 → rec v2 v4 u3))))
def f_X2_power_L5 (al : Nat) (a1 : Int32) (a2 : Int32) (Q : Int32 → St → Prop) (K0 : Int32 → St → Prop) : Nat → Int32 → Int32 → St → Prop
  | 0 => fun _ _ _ => False
  | n + 1 => f_X2_power_L5_s al a1 a2 Q K0 (f_X2_power_L5 al a1 a2 Q K0 n)
def f_X2_power (al : Nat) (a1 : Int32) (a2 : Int32) (u : St) (Q : Int32 → St → Prop) : Prop :=
 (∃ n5, f_X2_power_L5 al a1 a2 Q (fun v6 u7 => Q v6 u7) n5 1 0 u)
def f_X6_at_L72_s (al : Nat) (a2 : Int32) (a3 : Int32) (a4 : Int32) (Q : Int32 → St → Prop) (QX : String → St → Prop) (K0 : Int32 → St → Prop) (rec : Int32 → Int32 → St → Prop) (a5 : Int32) (a6 : Int32) (u : St) : Prop :=
 ((a4 < a6 → K0 a5 u) ∧ (¬ a4 < a6 → f_X6_read al 9 a6 u (fun v14 u15 => f_X2_power al a2 (a4 - a6) u15 (fun v16 u17 => f_X2_power al a3 a6 u17 (fun v18 u19 => (∀ v20 : Int32, v20 = (a5 + ((v14 * v16) * v18)) → (∀ v21 : Int32, v21 = a6 + 1 → rec v20 v21 u19)))))))
def f_X6_at_L72 (al : Nat) (a2 : Int32) (a3 : Int32) (a4 : Int32) (Q : Int32 → St → Prop) (QX : String → St → Prop) (K0 : Int32 → St → Prop) : Nat → Int32 → Int32 → St → Prop
  | 0 => fun _ _ _ => False
  | n + 1 => f_X6_at_L72_s al a2 a3 a4 Q QX K0 (f_X6_at_L72 al a2 a3 a4 Q QX K0 n)
def f_X6_at (al : Nat) (a1 : Int32) (a2 : Int32) (a3 : Int32) (u : St) (Q : Int32 → St → Prop) (QX : String → St → Prop) : Prop :=
  f_X6_checkForm al a1 u (fun u1 => f_X2_has al a2 u1 (fun v2 u3 => ((v2 = 0 → QX "java/lang/IllegalArgumentException" u3) ∧ (¬ v2 = 0 → f_X2_has al a3 u3 (fun v5 u6 => ((¬ v5 = 0 → f_X6_read al 7 a1 u6 (fun v8 u9 => f_X6_read al 8 a1 u9 (fun v10 u11 => f_X2_spell al v10 9 u11 (fun u12 => (∃ n22, f_X6_at_L72 al a2 a3 v8 Q QX (fun v23 u24 => f_X2_rest al v23 u24 (fun v25 u26 => Q v25 u26)) n22 0 0 u12))))) ∧ (v5 = 0 → QX "java/lang/IllegalArgumentException" u6))))))) QX
def f_X6_multiplicity (al : Nat) (a1 : Int32) (a2 : Int32) (u : St) (Q : Int32 → St → Prop) (QX : String → St → Prop) : Prop :=
  f_X6_checkForm al a1 u (fun u1 => ((a2 < 0 → QX "java/lang/IndexOutOfBoundsException" u1) ∧ (¬ a2 < 0 → ((a2 ≤ (u1 0 0) → f_X6_read al 7 a1 u1 (fun v4 u5 => f_X6_read al 8 a1 u5 (fun v6 u7 => f_X6_divisions al v4 v6 a2 u7 (fun v8 u9 => Q v8 u9)))) ∧ (¬ a2 ≤ (u1 0 0) → QX "java/lang/IndexOutOfBoundsException" u1))))) QX
def f_X6_order (al : Nat) (u : St) (Q : Int32 → St → Prop) : Prop :=
  Q (u 0 5) u
def f_X6_changed (al : Nat) (a1 : Int32) (a2 : Int32) (u : St) (Q : Int32 → St → Prop) (QX : String → St → Prop) : Prop :=
  f_X6_checkForm al a1 u (fun u1 => ((a2 < 0 → QX "java/lang/IndexOutOfBoundsException" u1) ∧ (¬ a2 < 0 → ((a2 < (u1 0 4) → f_X6_read al 7 a1 u1 (fun v4 u5 => f_X6_read al 8 a1 u5 (fun v6 u7 => f_X4_image al a2 v4 v6 u7 (fun v8 u9 => Q v8 u9)))) ∧ (¬ a2 < (u1 0 4) → QX "java/lang/IndexOutOfBoundsException" u1))))) QX
def f_X2_inverse_L2_s (al : Nat) (a1 : Int32) (Q : Int32 → St → Prop) (K0 : Int32 → St → Prop) (K1 : St → Prop) (rec : Int32 → St → Prop) (a2 : Int32) (u : St) : Prop :=
 (((u 0 0) ≤ a2 → K1 u) ∧ (¬ (u 0 0) ≤ a2 → f_X2_rest al a1 u (fun v2 u3 => f_X2_rest al (v2 * a2) u3 (fun v4 u5 => ((¬ v4 = 1 → (∀ v7 : Int32, v7 = a2 + 1 → rec v7 u5)) ∧ (v4 = 1 → K0 a2 u5))))))
def f_X2_inverse_L2 (al : Nat) (a1 : Int32) (Q : Int32 → St → Prop) (K0 : Int32 → St → Prop) (K1 : St → Prop) : Nat → Int32 → St → Prop
  | 0 => fun _ _ => False
  | n + 1 => f_X2_inverse_L2_s al a1 Q K0 K1 (f_X2_inverse_L2 al a1 Q K0 K1 n)
def f_X2_inverse (al : Nat) (a1 : Int32) (u : St) (Q : Int32 → St → Prop) : Prop :=
 (∃ n8, f_X2_inverse_L2 al a1 Q (fun v9 u10 => Q v9 u10) (fun u11 => Q 0 u11) n8 1 u)
def f_X2_total_L14_s (al : Nat) (Q : Int32 → St → Prop) (K0 : Int32 → St → Prop) (rec : Int32 → Int32 → Int32 → Int32 → Int32 → St → Prop) (a3 : Int32) (a4 : Int32) (a5 : Int32) (a6 : Int32) (a7 : Int32) (u : St) : Prop :=
 ((5 ≤ a7 → K0 a3 u) ∧ (¬ 5 ≤ a7 → (((u 0 0) ≤ 0 → K0 a3 u) ∧ (¬ (u 0 0) ≤ 0 → (¬ (u 0 0) = 0 ∧ (∀ v3 : Int32, v3 = (a4 - a4 / (u 0 0) * (u 0 0)) → (¬ (u 0 0) = 0 ∧ (∀ v4 : Int32, v4 = (a5 - a5 / (u 0 0) * (u 0 0)) → (¬ (u 0 0) = 0 ∧ (∀ v5 : Int32, v5 = ((v3 + v4) - (v3 + v4) / (u 0 0) * (u 0 0)) → (∀ v6 : Int32, v6 = (a3 + (v5 * a6)) → (¬ (u 0 0) = 0 ∧ (∀ v7 : Int32, v7 = (a4 / (u 0 0)) → (¬ (u 0 0) = 0 ∧ (∀ v8 : Int32, v8 = (a5 / (u 0 0)) → (∀ v9 : Int32, v9 = (a6 * (u 0 0)) → (∀ v10 : Int32, v10 = a7 + 1 → rec v6 v7 v8 v9 v10 u)))))))))))))))))
def f_X2_total_L14 (al : Nat) (Q : Int32 → St → Prop) (K0 : Int32 → St → Prop) : Nat → Int32 → Int32 → Int32 → Int32 → Int32 → St → Prop
  | 0 => fun _ _ _ _ _ _ => False
  | n + 1 => f_X2_total_L14_s al Q K0 (f_X2_total_L14 al Q K0 n)
def f_X2_total (al : Nat) (a1 : Int32) (a2 : Int32) (u : St) (Q : Int32 → St → Prop) : Prop :=
 (∃ n11, f_X2_total_L14 al Q (fun v12 u13 => Q v12 u13) n11 0 a1 a2 1 0 u)
def f_X5_sumOfCodes_L4_s (al : Nat) (Q : Int32 → St → Prop) (K0 : Int32 → St → Prop) (rec : Int32 → Int32 → St → Prop) (a1 : Int32) (a2 : Int32) (u : St) : Prop :=
 (((u 0 6) ≤ a2 → K0 a1 u) ∧ (¬ (u 0 6) ≤ a2 → f_X6_read al 18 a2 u (fun v2 u3 => f_X2_total al a1 v2 u3 (fun v4 u5 => (∀ v6 : Int32, v6 = a2 + 1 → rec v4 v6 u5)))))
def f_X5_sumOfCodes_L4 (al : Nat) (Q : Int32 → St → Prop) (K0 : Int32 → St → Prop) : Nat → Int32 → Int32 → St → Prop
  | 0 => fun _ _ _ => False
  | n + 1 => f_X5_sumOfCodes_L4_s al Q K0 (f_X5_sumOfCodes_L4 al Q K0 n)
def f_X5_sumOfCodes (al : Nat) (u : St) (Q : Int32 → St → Prop) : Prop :=
 (∃ n7, f_X5_sumOfCodes_L4 al Q (fun v8 u9 => Q v8 u9) n7 0 0 u)
def f_X2_multiple_L5_s (al : Nat) (a1 : Int32) (a2 : Int32) (Q : Int32 → St → Prop) (K0 : Int32 → St → Prop) (rec : Int32 → Int32 → St → Prop) (a3 : Int32) (a4 : Int32) (u : St) : Prop :=
 ((a2 ≤ a4 → K0 a3 u) ∧ (¬ a2 ≤ a4 → f_X2_total al a3 a1 u (fun v2 u3 => (∀ v4 : Int32, v4 = a4 + 1 → rec v2 v4 u3))))
def f_X2_multiple_L5 (al : Nat) (a1 : Int32) (a2 : Int32) (Q : Int32 → St → Prop) (K0 : Int32 → St → Prop) : Nat → Int32 → Int32 → St → Prop
  | 0 => fun _ _ _ => False
  | n + 1 => f_X2_multiple_L5_s al a1 a2 Q K0 (f_X2_multiple_L5 al a1 a2 Q K0 n)
def f_X2_multiple (al : Nat) (a1 : Int32) (a2 : Int32) (u : St) (Q : Int32 → St → Prop) : Prop :=
 (∃ n5, f_X2_multiple_L5 al a1 a2 Q (fun v6 u7 => Q v6 u7) n5 0 0 u)
def f_X6_average (al : Nat) (a1 : Int32) (u : St) (Q : Int32 → St → Prop) (QX : String → St → Prop) : Prop :=
  f_X6_checkForm al a1 u (fun u1 => f_X2_inverse al (u1 0 5) u1 (fun v2 u3 => ((¬ v2 = 0 → f_X6_read al 7 a1 u3 (fun v5 u6 => f_X6_read al 8 a1 u6 (fun v7 u8 => f_X5_alone al v5 v7 u8 (fun u9 => (((u9 0 6) ≤ 0 → f_X5_sumOfCodes al u9 (fun v11 u12 => f_X2_rest al (0 * v2) u12 (fun v13 u14 => f_X2_multiple al v11 v13 u14 (fun v15 u16 => Q v15 u16)))) ∧ (¬ (u9 0 6) ≤ 0 → (¬ (u9 0 6) = 0 ∧ (∀ v17 : Int32, v17 = ((u9 0 5) / (u9 0 6)) → f_X5_sumOfCodes al u9 (fun v18 u19 => f_X2_rest al (v17 * v2) u19 (fun v20 u21 => f_X2_multiple al v18 v20 u21 (fun v22 u23 => Q v22 u23))))))))))) ∧ (v2 = 0 → Q (-1) u3)))) QX
def f_X6_checkDegree (al : Nat) (a0 : Int32) (u : St) (Q : St → Prop) (QX : String → St → Prop) : Prop :=
  f_X6_isDegree al a0 u (fun v1 u2 => ((¬ v1 = 0 → Q u2) ∧ (v1 = 0 → QX "java/lang/IllegalArgumentException" u2)))
def f_X1_begin (al : Nat) (a1 : Int32) (u : St) (Q : St → Prop) : Prop :=
 (∀ u1 : St, u1 = su u 0 2 a1 → (∀ u2 : St, u2 = su u1 0 3 0 → Q u2))
def f_X0_cell (al : Nat) (a1 : Int32) (a2 : Int32) (u : St) (Q : Int32 → St → Prop) : Prop :=
  f_X6_read al 13 ((a1 * 5) + a2) u (fun v1 u2 => Q v1 u2)
def f_X0_multiply_L8_s (al : Nat) (a1 : Int32) (a2 : Int32) (a3 : Int32) (a4 : Int32) (Q : St → Prop) (K0 : St → Prop) (rec : Int32 → St → Prop) (a5 : Int32) (u : St) : Prop :=
 ((a5 < 0 → K0 u) ∧ (¬ a5 < 0 → (((u 0 1) < a5 → ((a5 ≤ 0 → f_X2_rest al (0 + 0) u (fun v5 u6 => f_X6_write al 13 ((a2 * 5) + a5) v5 u6 (fun u7 => (∀ v8 : Int32, v8 = a5 + (-1) → rec v8 u7)))) ∧ (¬ a5 ≤ 0 → f_X0_cell al a1 (a5 - 1) u (fun v9 u10 => (∀ v11 : Int32, v11 = (a4 * v9) → f_X2_rest al (0 + v11) u10 (fun v12 u13 => f_X6_write al 13 ((a2 * 5) + a5) v12 u13 (fun u14 => (∀ v15 : Int32, v15 = a5 + (-1) → rec v15 u14)))))))) ∧ (¬ (u 0 1) < a5 → f_X0_cell al a1 a5 u (fun v16 u17 => (∀ v18 : Int32, v18 = (a3 * v16) → ((a5 ≤ 0 → f_X2_rest al (v18 + 0) u17 (fun v20 u21 => f_X6_write al 13 ((a2 * 5) + a5) v20 u21 (fun u22 => (∀ v23 : Int32, v23 = a5 + (-1) → rec v23 u22)))) ∧ (¬ a5 ≤ 0 → f_X0_cell al a1 (a5 - 1) u17 (fun v24 u25 => (∀ v26 : Int32, v26 = (a4 * v24) → f_X2_rest al (v18 + v26) u25 (fun v27 u28 => f_X6_write al 13 ((a2 * 5) + a5) v27 u28 (fun u29 => (∀ v30 : Int32, v30 = a5 + (-1) → rec v30 u29)))))))))))))
def f_X0_multiply_L8 (al : Nat) (a1 : Int32) (a2 : Int32) (a3 : Int32) (a4 : Int32) (Q : St → Prop) (K0 : St → Prop) : Nat → Int32 → St → Prop
  | 0 => fun _ _ => False
  | n + 1 => f_X0_multiply_L8_s al a1 a2 a3 a4 Q K0 (f_X0_multiply_L8 al a1 a2 a3 a4 Q K0 n)
def f_X0_multiply (al : Nat) (a1 : Int32) (a2 : Int32) (a3 : Int32) (a4 : Int32) (u : St) (Q : St → Prop) : Prop :=
 (∀ v1 : Int32, v1 = ((u 0 1) + 1) → (∃ n31, f_X0_multiply_L8 al a1 a2 a3 a4 Q (fun u32 => Q u32) n31 v1 u))
def f_X0_fill_L84_s (al : Nat) (a2 : Int32) (a3 : Int32) (a4 : Int32) (a5 : Int32) (a6 : Int32) (a7 : Int32) (Q : St → Prop) (K0 : St → Prop) (rec : Int32 → St → Prop) (a8 : Int32) (u : St) : Prop :=
 ((a7 < a8 → K0 u) ∧ (¬ a7 < a8 → f_X0_multiply al a8 a8 a3 a4 u (fun u14 => (∀ v15 : Int32, v15 = a8 + 1 → rec v15 u14))))
def f_X0_fill_L84 (al : Nat) (a2 : Int32) (a3 : Int32) (a4 : Int32) (a5 : Int32) (a6 : Int32) (a7 : Int32) (Q : St → Prop) (K0 : St → Prop) : Nat → Int32 → St → Prop
  | 0 => fun _ _ => False
  | n + 1 => f_X0_fill_L84_s al a2 a3 a4 a5 a6 a7 Q K0 (f_X0_fill_L84 al a2 a3 a4 a5 a6 a7 Q K0 n)
def f_X0_fill_L55_s (al : Nat) (a2 : Int32) (a3 : Int32) (a4 : Int32) (a5 : Int32) (a6 : Int32) (Q : St → Prop) (K0 : St → Prop) (rec : Int32 → St → Prop) (a7 : Int32) (u : St) : Prop :=
 ((a2 ≤ a7 → K0 u) ∧ (¬ a2 ≤ a7 → (∀ u11 : St, u11 = su u 0 1 a7 → f_X0_multiply al a7 (a7 + 1) a5 a6 u11 (fun u12 => (∃ n16, f_X0_fill_L84 al a2 a3 a4 a5 a6 a7 Q (fun u17 => (∀ v18 : Int32, v18 = a7 + 1 → rec v18 u17)) n16 0 u12)))))
def f_X0_fill_L55 (al : Nat) (a2 : Int32) (a3 : Int32) (a4 : Int32) (a5 : Int32) (a6 : Int32) (Q : St → Prop) (K0 : St → Prop) : Nat → Int32 → St → Prop
  | 0 => fun _ _ => False
  | n + 1 => f_X0_fill_L55_s al a2 a3 a4 a5 a6 Q K0 (f_X0_fill_L55 al a2 a3 a4 a5 a6 Q K0 n)
def f_X0_fill (al : Nat) (a1 : Int32) (a2 : Int32) (u : St) (Q : St → Prop) : Prop :=
  f_X2_digit al a1 0 u (fun v1 u2 => f_X2_digit al a1 1 u2 (fun v3 u4 => f_X2_digit al a1 2 u4 (fun v5 u6 => f_X2_digit al a1 3 u6 (fun v7 u8 => f_X6_write al 13 0 1 u8 (fun u9 => (∃ n19, f_X0_fill_L55 al a2 v1 v3 v5 v7 Q (fun u20 => (∀ u21 : St, u21 = su u20 0 1 a2 → Q u21)) n19 0 u9))))))
def f_X1_put (al : Nat) (a1 : Int32) (a2 : Int32) (a3 : Int32) (u : St) (Q : St → Prop) : Prop :=
  f_X2_rest al a3 u (fun v1 u2 => f_X6_write al 14 ((a1 * 5) + a2) v1 u2 (fun u3 => Q u3))
def f_X1_askToLeave_L12_s (al : Nat) (a2 : Int32) (Q : St → Prop) (K0 : St → Prop) (rec : Int32 → St → Prop) (a3 : Int32) (u : St) : Prop :=
 (((u 0 2) ≤ a3 → K0 u) ∧ (¬ (u 0 2) ≤ a3 → f_X0_cell al a3 a2 u (fun v3 u4 => ((¬ a3 = a2 → f_X1_put al (u 0 3) a3 (v3 - 0) u4 (fun u6 => (∀ v7 : Int32, v7 = a3 + 1 → rec v7 u6))) ∧ (a3 = a2 → f_X1_put al (u 0 3) a3 (v3 - 1) u4 (fun u8 => (∀ v9 : Int32, v9 = a3 + 1 → rec v9 u8)))))))
def f_X1_askToLeave_L12 (al : Nat) (a2 : Int32) (Q : St → Prop) (K0 : St → Prop) : Nat → Int32 → St → Prop
  | 0 => fun _ _ => False
  | n + 1 => f_X1_askToLeave_L12_s al a2 Q K0 (f_X1_askToLeave_L12 al a2 Q K0 n)
def f_X1_askToLeave_L2_s (al : Nat) (Q : St → Prop) (K0 : St → Prop) (rec : Int32 → St → Prop) (a2 : Int32) (u : St) : Prop :=
 (((u 0 2) ≤ a2 → K0 u) ∧ (¬ (u 0 2) ≤ a2 → (∃ n10, f_X1_askToLeave_L12 al a2 Q (fun u11 => (∀ u12 : St, u12 = su u11 0 3 ((u11 0 3) + 1) → (∀ v13 : Int32, v13 = a2 + 1 → rec v13 u12))) n10 0 u)))
def f_X1_askToLeave_L2 (al : Nat) (Q : St → Prop) (K0 : St → Prop) : Nat → Int32 → St → Prop
  | 0 => fun _ _ => False
  | n + 1 => f_X1_askToLeave_L2_s al Q K0 (f_X1_askToLeave_L2 al Q K0 n)
def f_X1_askToLeave (al : Nat) (u : St) (Q : St → Prop) : Prop :=
 (∃ n14, f_X1_askToLeave_L2 al Q (fun u15 => Q u15) n14 0 u)
def f_X1_cell (al : Nat) (a1 : Int32) (a2 : Int32) (u : St) (Q : Int32 → St → Prop) : Prop :=
  f_X6_read al 14 ((a1 * 5) + a2) u (fun v1 u2 => Q v1 u2)
def f_X1_findPivot_L2_s (al : Nat) (a2 : Int32) (Q : Int32 → St → Prop) (K0 : Int32 → St → Prop) (K1 : St → Prop) (rec : Int32 → St → Prop) (a3 : Int32) (u : St) : Prop :=
 (((u 0 3) ≤ a3 → K1 u) ∧ (¬ (u 0 3) ≤ a3 → f_X1_cell al a3 a2 u (fun v2 u3 => ((v2 = 0 → (∀ v5 : Int32, v5 = a3 + 1 → rec v5 u3)) ∧ (¬ v2 = 0 → K0 a3 u3)))))
def f_X1_findPivot_L2 (al : Nat) (a2 : Int32) (Q : Int32 → St → Prop) (K0 : Int32 → St → Prop) (K1 : St → Prop) : Nat → Int32 → St → Prop
  | 0 => fun _ _ => False
  | n + 1 => f_X1_findPivot_L2_s al a2 Q K0 K1 (f_X1_findPivot_L2 al a2 Q K0 K1 n)
def f_X1_findPivot (al : Nat) (a1 : Int32) (a2 : Int32) (u : St) (Q : Int32 → St → Prop) : Prop :=
 (∃ n6, f_X1_findPivot_L2 al a2 Q (fun v7 u8 => Q v7 u8) (fun u9 => Q (-1) u9) n6 a1 u)
def f_X1_swap_L2_s (al : Nat) (a1 : Int32) (a2 : Int32) (Q : St → Prop) (K0 : St → Prop) (rec : Int32 → St → Prop) (a3 : Int32) (u : St) : Prop :=
 (((u 0 2) ≤ a3 → K0 u) ∧ (¬ (u 0 2) ≤ a3 → f_X1_cell al a1 a3 u (fun v2 u3 => f_X1_cell al a2 a3 u3 (fun v4 u5 => f_X1_put al a1 a3 v4 u5 (fun u6 => f_X1_put al a2 a3 v2 u6 (fun u7 => (∀ v8 : Int32, v8 = a3 + 1 → rec v8 u7)))))))
def f_X1_swap_L2 (al : Nat) (a1 : Int32) (a2 : Int32) (Q : St → Prop) (K0 : St → Prop) : Nat → Int32 → St → Prop
  | 0 => fun _ _ => False
  | n + 1 => f_X1_swap_L2_s al a1 a2 Q K0 (f_X1_swap_L2 al a1 a2 Q K0 n)
def f_X1_swap (al : Nat) (a1 : Int32) (a2 : Int32) (u : St) (Q : St → Prop) : Prop :=
 (∃ n9, f_X1_swap_L2 al a1 a2 Q (fun u10 => Q u10) n9 0 u)
def f_X1_clearBelow_L49_s (al : Nat) (a1 : Int32) (a2 : Int32) (a3 : Int32) (a4 : Int32) (a5 : Int32) (Q : St → Prop) (K0 : St → Prop) (rec : Int32 → St → Prop) (a6 : Int32) (u : St) : Prop :=
 ((a5 = 0 → K0 u) ∧ (¬ a5 = 0 → (((u 0 2) ≤ a6 → K0 u) ∧ (¬ (u 0 2) ≤ a6 → f_X1_cell al a4 a6 u (fun v13 u14 => f_X1_cell al a1 a6 u14 (fun v15 u16 => f_X1_put al a4 a6 (v13 - (a5 * v15)) u16 (fun u17 => (∀ v18 : Int32, v18 = a6 + 1 → rec v18 u17))))))))
def f_X1_clearBelow_L49 (al : Nat) (a1 : Int32) (a2 : Int32) (a3 : Int32) (a4 : Int32) (a5 : Int32) (Q : St → Prop) (K0 : St → Prop) : Nat → Int32 → St → Prop
  | 0 => fun _ _ => False
  | n + 1 => f_X1_clearBelow_L49_s al a1 a2 a3 a4 a5 Q K0 (f_X1_clearBelow_L49 al a1 a2 a3 a4 a5 Q K0 n)
def f_X1_clearBelow_L19_s (al : Nat) (a1 : Int32) (a2 : Int32) (a3 : Int32) (Q : St → Prop) (K0 : St → Prop) (rec : Int32 → St → Prop) (a4 : Int32) (u : St) : Prop :=
 (((u 0 3) ≤ a4 → K0 u) ∧ (¬ (u 0 3) ≤ a4 → f_X1_cell al a4 a2 u (fun v7 u8 => f_X2_rest al (v7 * a3) u8 (fun v9 u10 => (∃ n19, f_X1_clearBelow_L49 al a1 a2 a3 a4 v9 Q (fun u20 => (∀ v21 : Int32, v21 = a4 + 1 → rec v21 u20)) n19 a2 u10)))))
def f_X1_clearBelow_L19 (al : Nat) (a1 : Int32) (a2 : Int32) (a3 : Int32) (Q : St → Prop) (K0 : St → Prop) : Nat → Int32 → St → Prop
  | 0 => fun _ _ => False
  | n + 1 => f_X1_clearBelow_L19_s al a1 a2 a3 Q K0 (f_X1_clearBelow_L19 al a1 a2 a3 Q K0 n)
def f_X1_clearBelow (al : Nat) (a1 : Int32) (a2 : Int32) (u : St) (Q : St → Prop) : Prop :=
  f_X1_cell al a1 a2 u (fun v1 u2 => f_X2_inverse al v1 u2 (fun v3 u4 => (∀ v5 : Int32, v5 = (a1 + 1) → (∃ n22, f_X1_clearBelow_L19 al a1 a2 v3 Q (fun u23 => Q u23) n22 v5 u4))))
def f_X1_freedom_L4_s (al : Nat) (Q : Int32 → St → Prop) (K0 : Int32 → St → Prop) (rec : Int32 → Int32 → St → Prop) (a1 : Int32) (a2 : Int32) (u : St) : Prop :=
 (((u 0 2) ≤ a2 → K0 a1 u) ∧ (¬ (u 0 2) ≤ a2 → f_X1_findPivot al a1 a2 u (fun v2 u3 => ((v2 = (-1) → (∀ v5 : Int32, v5 = a2 + 1 → rec a1 v5 u3)) ∧ (¬ v2 = (-1) → f_X1_swap al a1 v2 u3 (fun u6 => f_X1_clearBelow al a1 a2 u6 (fun u7 => (∀ v8 : Int32, v8 = a1 + 1 → (∀ v9 : Int32, v9 = a2 + 1 → rec v8 v9 u7)))))))))
def f_X1_freedom_L4 (al : Nat) (Q : Int32 → St → Prop) (K0 : Int32 → St → Prop) : Nat → Int32 → Int32 → St → Prop
  | 0 => fun _ _ _ => False
  | n + 1 => f_X1_freedom_L4_s al Q K0 (f_X1_freedom_L4 al Q K0 n)
def f_X1_freedom (al : Nat) (u : St) (Q : Int32 → St → Prop) : Prop :=
 (∃ n10, f_X1_freedom_L4 al Q (fun v11 u12 => Q ((u12 0 2) - v11) u12) n10 0 0 u)
def f_X6_dimension_L16_s (al : Nat) (a1 : Int32) (Q : Int32 → St → Prop) (QX : String → St → Prop) (K0 : St → Prop) (rec : Int32 → St → Prop) (a2 : Int32) (u : St) : Prop :=
 (((u 0 4) ≤ a2 → K0 u) ∧ (¬ (u 0 4) ≤ a2 → f_X4_generatorMatrix al a2 u (fun v4 u5 => f_X0_fill al v4 a1 u5 (fun u6 => f_X1_askToLeave al u6 (fun u7 => (∀ v8 : Int32, v8 = a2 + 1 → rec v8 u7))))))
def f_X6_dimension_L16 (al : Nat) (a1 : Int32) (Q : Int32 → St → Prop) (QX : String → St → Prop) (K0 : St → Prop) : Nat → Int32 → St → Prop
  | 0 => fun _ _ => False
  | n + 1 => f_X6_dimension_L16_s al a1 Q QX K0 (f_X6_dimension_L16 al a1 Q QX K0 n)
def f_X6_dimension (al : Nat) (a1 : Int32) (u : St) (Q : Int32 → St → Prop) (QX : String → St → Prop) : Prop :=
  f_X6_checkDegree al a1 u (fun u1 => f_X1_begin al (a1 + 1) u1 (fun u2 => (∃ n9, f_X6_dimension_L16 al a1 Q QX (fun u10 => f_X1_freedom al u10 (fun v11 u12 => Q v11 u12)) n9 0 u2))) QX
def f_X2_exponent_L2_s (al : Nat) (a1 : Int32) (Q : Int32 → St → Prop) (K0 : Int32 → St → Prop) (rec : Int32 → St → Prop) (a2 : Int32) (u : St) : Prop :=
 ((5 ≤ a2 → K0 a2 u) ∧ (¬ 5 ≤ a2 → f_X2_howMany al a2 u (fun v2 u3 => ((a1 ≤ v2 → K0 a2 u3) ∧ (¬ a1 ≤ v2 → (∀ v5 : Int32, v5 = a2 + 1 → rec v5 u3))))))
def f_X2_exponent_L2 (al : Nat) (a1 : Int32) (Q : Int32 → St → Prop) (K0 : Int32 → St → Prop) : Nat → Int32 → St → Prop
  | 0 => fun _ _ => False
  | n + 1 => f_X2_exponent_L2_s al a1 Q K0 (f_X2_exponent_L2 al a1 Q K0 n)
def f_X2_exponent (al : Nat) (a1 : Int32) (u : St) (Q : Int32 → St → Prop) : Prop :=
 (∃ n6, f_X2_exponent_L2 al a1 Q (fun v7 u8 => Q v7 u8) n6 0 u)
def f_X6_dimensionAnew_L20_s (al : Nat) (a1 : Int32) (a2 : Int32) (Q : Int32 → St → Prop) (QX : String → St → Prop) (K0 : Int32 → St → Prop) (rec : Int32 → Int32 → St → Prop) (a3 : Int32) (a4 : Int32) (u : St) : Prop :=
 ((a2 ≤ a4 → K0 a3 u) ∧ (¬ a2 ≤ a4 → f_X4_leaves al a1 a4 u (fun v5 u6 => ((v5 = 0 → (∀ v8 : Int32, v8 = a4 + 1 → rec a3 v8 u6)) ∧ (¬ v5 = 0 → (∀ v9 : Int32, v9 = a3 + 1 → (∀ v10 : Int32, v10 = a4 + 1 → rec v9 v10 u6)))))))
def f_X6_dimensionAnew_L20 (al : Nat) (a1 : Int32) (a2 : Int32) (Q : Int32 → St → Prop) (QX : String → St → Prop) (K0 : Int32 → St → Prop) : Nat → Int32 → Int32 → St → Prop
  | 0 => fun _ _ _ => False
  | n + 1 => f_X6_dimensionAnew_L20_s al a1 a2 Q QX K0 (f_X6_dimensionAnew_L20 al a1 a2 Q QX K0 n)
def f_X6_dimensionAnew (al : Nat) (a1 : Int32) (u : St) (Q : Int32 → St → Prop) (QX : String → St → Prop) : Prop :=
  f_X6_checkDegree al a1 u (fun u1 => f_X2_howMany al (a1 + 1) u1 (fun v2 u3 => (∃ n11, f_X6_dimensionAnew_L20 al a1 v2 Q QX (fun v12 u13 => f_X2_exponent al v12 u13 (fun v14 u15 => Q v14 u15)) n11 0 0 u3))) QX
def f_X6_falling_L4_s (al : Nat) (a0 : Int32) (a1 : Int32) (Q : Int32 → St → Prop) (K0 : Int32 → St → Prop) (rec : Int32 → Int32 → St → Prop) (a2 : Int32) (a3 : Int32) (u : St) : Prop :=
 ((a1 ≤ a3 → K0 a2 u) ∧ (¬ a1 ≤ a3 → (∀ v2 : Int32, v2 = (a2 * (a0 - a3)) → (∀ v3 : Int32, v3 = a3 + 1 → rec v2 v3 u))))
def f_X6_falling_L4 (al : Nat) (a0 : Int32) (a1 : Int32) (Q : Int32 → St → Prop) (K0 : Int32 → St → Prop) : Nat → Int32 → Int32 → St → Prop
  | 0 => fun _ _ _ => False
  | n + 1 => f_X6_falling_L4_s al a0 a1 Q K0 (f_X6_falling_L4 al a0 a1 Q K0 n)
def f_X6_falling (al : Nat) (a0 : Int32) (a1 : Int32) (u : St) (Q : Int32 → St → Prop) : Prop :=
 (∃ n4, f_X6_falling_L4 al a0 a1 Q (fun v5 u6 => Q v5 u6) n4 1 0 u)
def f_X6_derive_L30_s (al : Nat) (k4 : Nat) (a2 : Int32) (a3 : Int32) (a5 : Int32) (Q : St → Prop) (K0 : St → Prop) (rec : Int32 → St → Prop) (a6 : Int32) (u : St) : Prop :=
 (((a5 - a2) < a6 → K0 u) ∧ (¬ (a5 - a2) < a6 → f_X6_falling al (a5 - a6) a2 u (fun v7 u8 => f_X6_falling al a6 a3 u8 (fun v9 u10 => (∀ v11 : Int32, v11 = (v7 * v9) → f_X6_read al k4 a6 u10 (fun v12 u13 => f_X2_rest al (v12 * v11) u13 (fun v14 u15 => f_X6_write al k4 (a6 - a3) v14 u15 (fun u16 => (∀ v17 : Int32, v17 = a6 + 1 → rec v17 u16)))))))))
def f_X6_derive_L30 (al : Nat) (k4 : Nat) (a2 : Int32) (a3 : Int32) (a5 : Int32) (Q : St → Prop) (K0 : St → Prop) : Nat → Int32 → St → Prop
  | 0 => fun _ _ => False
  | n + 1 => f_X6_derive_L30_s al k4 a2 a3 a5 Q K0 (f_X6_derive_L30 al k4 a2 a3 a5 Q K0 n)
def f_X6_derive (al : Nat) (a1 : Int32) (a2 : Int32) (a3 : Int32) (k4 : Nat) (u : St) (Q : St → Prop) : Prop :=
  f_X6_read al 7 a1 u (fun v1 u2 => f_X6_read al 8 a1 u2 (fun v3 u4 => f_X2_spell al v3 k4 u4 (fun u5 => (∃ n18, f_X6_derive_L30 al k4 a2 a3 v1 Q (fun u19 => Q u19) n18 a3 u5))))
def f_X6_choose (al : Nat) (a0 : Int32) (a1 : Int32) (u : St) (Q : Int32 → St → Prop) : Prop :=
 f_X6_readC al ((a0 * 4) + a1) u (fun v1 u2 => Q v1 u2)
def f_X6_addProduct_L12_s (al : Nat) (a1 : Int32) (a2 : Int32) (a3 : Int32) (a4 : Int32) (Q : St → Prop) (K0 : St → Prop) (rec : Int32 → St → Prop) (a5 : Int32) (u : St) : Prop :=
 ((a3 < a5 → K0 u) ∧ (¬ a3 < a5 → f_X6_read al 9 a4 u (fun v3 u4 => f_X6_read al 10 a5 u4 (fun v5 u6 => (∀ v7 : Int32, v7 = ((a1 * v3) * v5) → f_X6_read al 11 (a4 + a5) u6 (fun v8 u9 => f_X2_rest al (v8 + v7) u9 (fun v10 u11 => f_X6_write al 11 (a4 + a5) v10 u11 (fun u12 => (∀ v13 : Int32, v13 = a5 + 1 → rec v13 u12)))))))))
def f_X6_addProduct_L12 (al : Nat) (a1 : Int32) (a2 : Int32) (a3 : Int32) (a4 : Int32) (Q : St → Prop) (K0 : St → Prop) : Nat → Int32 → St → Prop
  | 0 => fun _ _ => False
  | n + 1 => f_X6_addProduct_L12_s al a1 a2 a3 a4 Q K0 (f_X6_addProduct_L12 al a1 a2 a3 a4 Q K0 n)
def f_X6_addProduct_L3_s (al : Nat) (a1 : Int32) (a2 : Int32) (a3 : Int32) (Q : St → Prop) (K0 : St → Prop) (rec : Int32 → St → Prop) (a4 : Int32) (u : St) : Prop :=
 ((a2 < a4 → K0 u) ∧ (¬ a2 < a4 → (∃ n14, f_X6_addProduct_L12 al a1 a2 a3 a4 Q (fun u15 => (∀ v16 : Int32, v16 = a4 + 1 → rec v16 u15)) n14 0 u)))
def f_X6_addProduct_L3 (al : Nat) (a1 : Int32) (a2 : Int32) (a3 : Int32) (Q : St → Prop) (K0 : St → Prop) : Nat → Int32 → St → Prop
  | 0 => fun _ _ => False
  | n + 1 => f_X6_addProduct_L3_s al a1 a2 a3 Q K0 (f_X6_addProduct_L3 al a1 a2 a3 Q K0 n)
def f_X6_addProduct (al : Nat) (a1 : Int32) (a2 : Int32) (a3 : Int32) (u : St) (Q : St → Prop) : Prop :=
 (∃ n17, f_X6_addProduct_L3 al a1 a2 a3 Q (fun u18 => Q u18) n17 0 u)
def f_X2_code_L7_s (al : Nat) (k1 : Nat) (Q : Int32 → St → Prop) (K0 : Int32 → St → Prop) (rec : Int32 → Int32 → St → Prop) (a3 : Int32) (a4 : Int32) (u : St) : Prop :=
 ((a4 < 0 → K0 a3 u) ∧ (¬ a4 < 0 → f_X6_read al k1 a4 u (fun v3 u4 => (∀ v5 : Int32, v5 = ((a3 * (u 0 0)) + v3) → (∀ v6 : Int32, v6 = a4 + (-1) → rec v5 v6 u4)))))
def f_X2_code_L7 (al : Nat) (k1 : Nat) (Q : Int32 → St → Prop) (K0 : Int32 → St → Prop) : Nat → Int32 → Int32 → St → Prop
  | 0 => fun _ _ _ => False
  | n + 1 => f_X2_code_L7_s al k1 Q K0 (f_X2_code_L7 al k1 Q K0 n)
def f_X2_code (al : Nat) (k1 : Nat) (a2 : Int32) (u : St) (Q : Int32 → St → Prop) : Prop :=
 (∀ v1 : Int32, v1 = (a2 - 1) → (∃ n7, f_X2_code_L7 al k1 Q (fun v8 u9 => Q v8 u9) n7 0 v1 u))
def f_X6_transvectantCode_L35_s (al : Nat) (a1 : Int32) (a2 : Int32) (a3 : Int32) (a4 : Int32) (a5 : Int32) (Q : Int32 → St → Prop) (K0 : St → Prop) (rec : Int32 → St → Prop) (a6 : Int32) (u : St) : Prop :=
 ((a3 < a6 → K0 u) ∧ (¬ a3 < a6 → f_X6_derive al a1 (a3 - a6) a6 9 u (fun u9 => f_X6_derive al a2 a6 (a3 - a6) 10 u9 (fun u10 => (∀ v11 : Int32, v11 = (a6 - a6 / 2 * 2) → ((¬ v11 = 0 → f_X6_choose al a3 a6 u10 (fun v13 u14 => (∀ v15 : Int32, v15 = (-v13) → f_X6_addProduct al v15 a4 a5 u14 (fun u16 => (∀ v17 : Int32, v17 = a6 + 1 → rec v17 u16))))) ∧ (v11 = 0 → f_X6_choose al a3 a6 u10 (fun v18 u19 => f_X6_addProduct al v18 a4 a5 u19 (fun u20 => (∀ v21 : Int32, v21 = a6 + 1 → rec v21 u20))))))))))
def f_X6_transvectantCode_L35 (al : Nat) (a1 : Int32) (a2 : Int32) (a3 : Int32) (a4 : Int32) (a5 : Int32) (Q : Int32 → St → Prop) (K0 : St → Prop) : Nat → Int32 → St → Prop
  | 0 => fun _ _ => False
  | n + 1 => f_X6_transvectantCode_L35_s al a1 a2 a3 a4 a5 Q K0 (f_X6_transvectantCode_L35 al a1 a2 a3 a4 a5 Q K0 n)
def f_X6_transvectantCode (al : Nat) (a1 : Int32) (a2 : Int32) (a3 : Int32) (u : St) (Q : Int32 → St → Prop) : Prop :=
  f_X6_read al 7 a1 u (fun v1 u2 => (∀ v3 : Int32, v3 = (v1 - a3) → f_X6_read al 7 a2 u2 (fun v4 u5 => (∀ v6 : Int32, v6 = (v4 - a3) → f_J7_fill_53178 11 0 u5 (fun u7 => (∃ n22, f_X6_transvectantCode_L35 al a1 a2 a3 v3 v6 Q (fun u23 => f_X2_code al 11 ((v3 + v6) + 1) u23 (fun v24 u25 => Q v24 u25)) n22 0 u7))))))
def f_X6_transvectant (al : Nat) (a1 : Int32) (a2 : Int32) (a3 : Int32) (u : St) (Q : Int32 → St → Prop) (QX : String → St → Prop) : Prop :=
  f_X6_checkForm al a1 u (fun u1 => f_X6_checkForm al a2 u1 (fun u2 => f_X6_read al 7 a1 u2 (fun v3 u4 => f_X6_read al 7 a2 u4 (fun v5 u6 => (∀ v7 : Int32, v7 = (if v5 < v3 then v5 else v3) → ((a3 < 0 → QX "java/lang/IllegalArgumentException" u6) ∧ (¬ a3 < 0 → ((v7 < a3 → QX "java/lang/IllegalArgumentException" u6) ∧ (¬ v7 < a3 → f_X6_read al 7 a1 u6 (fun v10 u11 => f_X6_read al 7 a2 u11 (fun v12 u13 => f_X6_isDegree al ((v10 + v12) - (2 * a3)) u13 (fun v14 u15 => ((¬ v14 = 0 → f_X6_transvectantCode al a1 a2 a3 u15 (fun v17 u18 => Q v17 u18)) ∧ (v14 = 0 → QX "java/lang/IllegalArgumentException" u15))))))))))))) QX) QX
def f_X6_countValues (al : Nat) (a0 : Int32) (u : St) (Q : Int32 → St → Prop) : Prop :=
 ((a0 = 2 → Q 1 u) ∧ (a0 = 3 → Q 1 u) ∧ (a0 = 4 → Q 2 u) ∧ (¬ a0 = 2 ∧ ¬ a0 = 3 ∧ ¬ a0 = 4 → Q 0 u))
def f_X6_valueOf (al : Nat) (a1 : Int32) (a2 : Int32) (a3 : Int32) (u : St) (Q : Int32 → St → Prop) : Prop :=
  f_X2_spell al a2 9 u (fun u1 => f_X6_read al 9 0 u1 (fun v2 u3 => f_X6_read al 9 1 u3 (fun v4 u5 => f_X6_read al 9 2 u5 (fun v6 u7 => f_X6_read al 9 3 u7 (fun v8 u9 => f_X6_read al 9 4 u9 (fun v10 u11 => ((a1 = 2 → f_X2_rest al ((v4 * v4) - ((4 * v2) * v6)) u11 (fun v12 u13 => Q v12 u13)) ∧ (a1 = 3 → f_X2_rest al (((((((v4 * v4) * v6) * v6) - ((((4 * v2) * v6) * v6) * v6)) - ((((4 * v4) * v4) * v4) * v8)) - ((((27 * v2) * v2) * v8) * v8)) + ((((18 * v2) * v4) * v6) * v8)) u11 (fun v15 u16 => Q v15 u16)) ∧ (a1 = 4 → ((¬ a3 = 0 → f_X2_rest al (((((((72 * v2) * v6) * v10) + (((9 * v4) * v6) * v8)) - (((27 * v2) * v8) * v8)) - (((27 * v10) * v4) * v4)) - (((2 * v6) * v6) * v6)) u11 (fun v19 u20 => Q v19 u20)) ∧ (a3 = 0 → f_X2_rest al ((((12 * v2) * v10) - ((3 * v4) * v8)) + (v6 * v6)) u11 (fun v21 u22 => Q v21 u22)))) ∧ (¬ a1 = 2 ∧ ¬ a1 = 3 ∧ ¬ a1 = 4 → Q 0 u11))))))))
def f_X6_value (al : Nat) (a1 : Int32) (a2 : Int32) (u : St) (Q : Int32 → St → Prop) (QX : String → St → Prop) : Prop :=
  f_X6_checkForm al a1 u (fun u1 => f_X6_read al 7 a1 u1 (fun v2 u3 => ((a2 < 0 → QX "java/lang/IllegalArgumentException" u3) ∧ (¬ a2 < 0 → f_X6_countValues al v2 u3 (fun v5 u6 => ((a2 < v5 → f_X6_read al 8 a1 u6 (fun v8 u9 => f_X6_valueOf al v2 v8 a2 u9 (fun v10 u11 => Q v10 u11))) ∧ (¬ a2 < v5 → QX "java/lang/IllegalArgumentException" u6))))))) QX
def f_X2_determinant (al : Nat) (a1 : Int32) (u : St) (Q : Int32 → St → Prop) : Prop :=
  f_X2_digit al a1 0 u (fun v1 u2 => f_X2_digit al a1 3 u2 (fun v3 u4 => f_X2_digit al a1 1 u4 (fun v5 u6 => f_X2_digit al a1 2 u6 (fun v7 u8 => f_X2_rest al ((v1 * v3) - (v5 * v7)) u8 (fun v9 u10 => Q v9 u10)))))
def f_X6_weightOf (al : Nat) (a0 : Int32) (a1 : Int32) (u : St) (Q : Int32 → St → Prop) : Prop :=
 ((a0 = 2 → Q 2 u) ∧ (a0 = 4 → ((¬ a1 = 0 → Q 6 u) ∧ (a1 = 0 → Q 4 u))) ∧ (¬ a0 = 2 ∧ ¬ a0 = 4 → Q 6 u))
def f_X6_weighsBy_L32_s (al : Nat) (a1 : Int32) (a2 : Int32) (a4 : Int32) (a5 : Int32) (Q : Int32 → St → Prop) (K0 : St → Prop) (K1 : St → Prop) (rec : Int32 → St → Prop) (a6 : Int32) (u : St) : Prop :=
  f_X6_countValues al a1 u (fun v7 u8 => ((v7 ≤ a6 → K1 u8) ∧ (¬ v7 ≤ a6 → f_X6_weightOf al a1 a6 u8 (fun v10 u11 => f_X2_power al a4 v10 u11 (fun v12 u13 => f_X6_valueOf al a1 a5 a6 u13 (fun v14 u15 => f_X6_valueOf al a1 a2 a6 u15 (fun v16 u17 => f_X2_rest al (v16 * v12) u17 (fun v18 u19 => ((v14 = v18 → (∀ v21 : Int32, v21 = a6 + 1 → rec v21 u19)) ∧ (¬ v14 = v18 → K0 u19))))))))))
def f_X6_weighsBy_L32 (al : Nat) (a1 : Int32) (a2 : Int32) (a4 : Int32) (a5 : Int32) (Q : Int32 → St → Prop) (K0 : St → Prop) (K1 : St → Prop) : Nat → Int32 → St → Prop
  | 0 => fun _ _ => False
  | n + 1 => f_X6_weighsBy_L32_s al a1 a2 a4 a5 Q K0 K1 (f_X6_weighsBy_L32 al a1 a2 a4 a5 Q K0 K1 n)
def f_X6_weighsBy (al : Nat) (a1 : Int32) (a2 : Int32) (a3 : Int32) (u : St) (Q : Int32 → St → Prop) : Prop :=
  f_X4_generatorMatrix al a3 u (fun v1 u2 => f_X2_determinant al v1 u2 (fun v3 u4 => f_X4_image al a3 a1 a2 u4 (fun v5 u6 => (∃ n22, f_X6_weighsBy_L32 al a1 a2 v3 v5 Q (fun u23 => Q 0 u23) (fun u24 => Q 1 u24) n22 0 u6))))
def f_X6_weighs_L12_s (al : Nat) (a1 : Int32) (Q : Int32 → St → Prop) (K0 : St → Prop) (K1 : St → Prop) (rec : Int32 → St → Prop) (a2 : Int32) (u : St) : Prop :=
 (((u 0 4) ≤ a2 → K1 u) ∧ (¬ (u 0 4) ≤ a2 → f_X6_read al 7 a1 u (fun v3 u4 => f_X6_read al 8 a1 u4 (fun v5 u6 => f_X6_weighsBy al v3 v5 a2 u6 (fun v7 u8 => ((¬ v7 = 0 → (∀ v10 : Int32, v10 = a2 + 1 → rec v10 u8)) ∧ (v7 = 0 → K0 u8)))))))
def f_X6_weighs_L12 (al : Nat) (a1 : Int32) (Q : Int32 → St → Prop) (K0 : St → Prop) (K1 : St → Prop) : Nat → Int32 → St → Prop
  | 0 => fun _ _ => False
  | n + 1 => f_X6_weighs_L12_s al a1 Q K0 K1 (f_X6_weighs_L12 al a1 Q K0 K1 n)
def f_X6_weighs_L2_s (al : Nat) (Q : Int32 → St → Prop) (K0 : St → Prop) (K1 : St → Prop) (rec : Int32 → St → Prop) (a1 : Int32) (u : St) : Prop :=
 (((u 0 7) ≤ a1 → K1 u) ∧ (¬ (u 0 7) ≤ a1 → (∃ n11, f_X6_weighs_L12 al a1 Q (fun u12 => K0 u12) (fun u13 => (∀ v14 : Int32, v14 = a1 + 1 → rec v14 u13)) n11 0 u)))
def f_X6_weighs_L2 (al : Nat) (Q : Int32 → St → Prop) (K0 : St → Prop) (K1 : St → Prop) : Nat → Int32 → St → Prop
  | 0 => fun _ _ => False
  | n + 1 => f_X6_weighs_L2_s al Q K0 K1 (f_X6_weighs_L2 al Q K0 K1 n)
def f_X6_weighs (al : Nat) (u : St) (Q : Int32 → St → Prop) : Prop :=
 (∃ n15, f_X6_weighs_L2 al Q (fun u16 => Q 0 u16) (fun u17 => Q 1 u17) n15 0 u)
def f_X6_checkAlike (al : Nat) (a1 : Int32) (a2 : Int32) (u : St) (Q : St → Prop) (QX : String → St → Prop) : Prop :=
  f_X6_read al 7 a1 u (fun v1 u2 => f_X6_read al 7 a2 u2 (fun v3 u4 => ((v1 = v3 → Q u4) ∧ (¬ v1 = v3 → QX "java/lang/IllegalArgumentException" u4))))
def f_X5_stepsTo (al : Nat) (a1 : Int32) (u : St) (Q : Int32 → St → Prop) : Prop :=
  f_X5_met al a1 u (fun v1 u2 => ((v1 = 0 → Q (-1) u2) ∧ (¬ v1 = 0 → f_X6_read al 17 a1 u2 (fun v4 u5 => f_X6_read al 21 (v4 - 1) u5 (fun v6 u7 => Q v6 u7)))))
def f_X6_way (al : Nat) (a1 : Int32) (a2 : Int32) (u : St) (Q : Int32 → St → Prop) (QX : String → St → Prop) : Prop :=
  f_X6_checkForm al a1 u (fun u1 => f_X6_checkForm al a2 u1 (fun u2 => f_X6_checkAlike al a1 a2 u2 (fun u3 => f_X6_read al 7 a1 u3 (fun v4 u5 => f_X6_read al 8 a1 u5 (fun v6 u7 => f_X5_alone al v4 v6 u7 (fun u8 => f_X6_read al 8 a2 u8 (fun v9 u10 => f_X5_stepsTo al v9 u10 (fun v11 u12 => Q v11 u12)))))) QX) QX) QX
def f_X5_stepOnWayTo_L30_s (al : Nat) (a2 : Int32) (Q : Int32 → St → Prop) (K0 : Int32 → St → Prop) (rec : Int32 → Int32 → St → Prop) (a4 : Int32) (a5 : Int32) (u : St) : Prop :=
 ((a5 ≤ a2 → K0 a4 u) ∧ (¬ a5 ≤ a2 → f_X6_read al 19 a4 u (fun v9 u10 => (∀ v11 : Int32, v11 = a5 + (-1) → rec v9 v11 u10))))
def f_X5_stepOnWayTo_L30 (al : Nat) (a2 : Int32) (Q : Int32 → St → Prop) (K0 : Int32 → St → Prop) : Nat → Int32 → Int32 → St → Prop
  | 0 => fun _ _ _ => False
  | n + 1 => f_X5_stepOnWayTo_L30_s al a2 Q K0 (f_X5_stepOnWayTo_L30 al a2 Q K0 n)
def f_X5_stepOnWayTo (al : Nat) (a1 : Int32) (a2 : Int32) (u : St) (Q : Int32 → St → Prop) : Prop :=
  f_X5_stepsTo al a1 u (fun v1 u2 => ((a2 < v1 → f_X6_read al 17 a1 u2 (fun v4 u5 => (∀ v6 : Int32, v6 = (v4 - 1) → (∀ v7 : Int32, v7 = (v1 - 1) → (∃ n12, f_X5_stepOnWayTo_L30 al a2 Q (fun v13 u14 => f_X6_read al 20 v13 u14 (fun v15 u16 => Q v15 u16)) n12 v6 v7 u5))))) ∧ (¬ a2 < v1 → Q (-1) u2)))
def f_X6_step (al : Nat) (a1 : Int32) (a2 : Int32) (a3 : Int32) (u : St) (Q : Int32 → St → Prop) (QX : String → St → Prop) : Prop :=
  f_X6_checkForm al a1 u (fun u1 => f_X6_checkForm al a2 u1 (fun u2 => f_X6_checkAlike al a1 a2 u2 (fun u3 => ((0 ≤ a3 → f_X6_read al 7 a1 u3 (fun v5 u6 => f_X6_read al 8 a1 u6 (fun v7 u8 => f_X5_alone al v5 v7 u8 (fun u9 => f_X6_read al 8 a2 u9 (fun v10 u11 => f_X5_stepOnWayTo al v10 a3 u11 (fun v12 u13 => Q v12 u13)))))) ∧ (¬ 0 ≤ a3 → QX "java/lang/IllegalArgumentException" u3))) QX) QX) QX
def f_X6_orbits_L27_s (al : Nat) (a1 : Int32) (a2 : Int32) (Q : Int32 → St → Prop) (QX : String → St → Prop) (K0 : Int32 → St → Prop) (rec : Int32 → Int32 → St → Prop) (a3 : Int32) (a4 : Int32) (u : St) : Prop :=
 ((a2 ≤ a4 → K0 a3 u) ∧ (¬ a2 ≤ a4 → f_X5_met al a4 u (fun v6 u7 => ((¬ v6 = 0 → (∀ v9 : Int32, v9 = a4 + 1 → rec a3 v9 u7)) ∧ (v6 = 0 → f_X5_go al a1 a4 u7 (fun u10 => (∀ v11 : Int32, v11 = a3 + 1 → (∀ v12 : Int32, v12 = a4 + 1 → rec v11 v12 u10))))))))
def f_X6_orbits_L27 (al : Nat) (a1 : Int32) (a2 : Int32) (Q : Int32 → St → Prop) (QX : String → St → Prop) (K0 : Int32 → St → Prop) : Nat → Int32 → Int32 → St → Prop
  | 0 => fun _ _ _ => False
  | n + 1 => f_X6_orbits_L27_s al a1 a2 Q QX K0 (f_X6_orbits_L27 al a1 a2 Q QX K0 n)
def f_X6_orbits (al : Nat) (a1 : Int32) (u : St) (Q : Int32 → St → Prop) (QX : String → St → Prop) : Prop :=
  f_X6_checkDegree al a1 u (fun u1 => f_X2_howMany al (a1 + 1) u1 (fun v2 u3 => f_X5_clear al u3 (fun u4 => (∃ n13, f_X6_orbits_L27 al a1 v2 Q QX (fun v14 u15 => Q v14 u15) n13 0 0 u4)))) QX
def f_X6_countLeftForms_L4_s (al : Nat) (a1 : Int32) (Q : Int32 → St → Prop) (K0 : Int32 → St → Prop) (rec : Int32 → Int32 → St → Prop) (a2 : Int32) (a3 : Int32) (u : St) : Prop :=
 (((u 0 5) ≤ a3 → K0 a2 u) ∧ (¬ (u 0 5) ≤ a3 → f_X4_matrix al a3 u (fun v2 u3 => f_X0_fill al v2 a1 u3 (fun u4 => f_X1_begin al (a1 + 1) u4 (fun u5 => f_X1_askToLeave al u5 (fun u6 => f_X1_freedom al u6 (fun v7 u8 => f_X2_howMany al v7 u8 (fun v9 u10 => (∀ v11 : Int32, v11 = (a2 + v9) → (∀ v12 : Int32, v12 = a3 + 1 → rec v11 v12 u10))))))))))
def f_X6_countLeftForms_L4 (al : Nat) (a1 : Int32) (Q : Int32 → St → Prop) (K0 : Int32 → St → Prop) : Nat → Int32 → Int32 → St → Prop
  | 0 => fun _ _ _ => False
  | n + 1 => f_X6_countLeftForms_L4_s al a1 Q K0 (f_X6_countLeftForms_L4 al a1 Q K0 n)
def f_X6_countLeftForms (al : Nat) (a1 : Int32) (u : St) (Q : Int32 → St → Prop) : Prop :=
 (∃ n13, f_X6_countLeftForms_L4 al a1 Q (fun v14 u15 => Q v14 u15) n13 0 0 u)
def f_X6_orbitsAnew (al : Nat) (a1 : Int32) (u : St) (Q : Int32 → St → Prop) (QX : String → St → Prop) : Prop :=
  f_X6_checkDegree al a1 u (fun u1 => f_X6_read al 12 a1 u1 (fun v2 u3 => ((¬ v2 = 0 → (((u3 0 5) ≤ 0 → Q 0 u3) ∧ (¬ (u3 0 5) ≤ 0 → f_X6_read al 12 a1 u3 (fun v6 u7 => (¬ (u7 0 5) = 0 ∧ (∀ v8 : Int32, v8 = (v6 / (u7 0 5)) → Q v8 u7)))))) ∧ (v2 = 0 → f_X6_countLeftForms al a1 u3 (fun v9 u10 => f_X6_write al 12 a1 v9 u10 (fun u11 => (((u11 0 5) ≤ 0 → Q 0 u11) ∧ (¬ (u11 0 5) ≤ 0 → f_X6_read al 12 a1 u11 (fun v13 u14 => (¬ (u14 0 5) = 0 ∧ (∀ v15 : Int32, v15 = (v13 / (u14 0 5)) → Q v15 u14))))))))))) QX
def f_X0_code_L7_s (al : Nat) (a1 : Int32) (Q : Int32 → St → Prop) (K0 : Int32 → St → Prop) (rec : Int32 → Int32 → St → Prop) (a2 : Int32) (a3 : Int32) (u : St) : Prop :=
 ((a3 < 0 → K0 a2 u) ∧ (¬ a3 < 0 → f_X0_cell al a1 a3 u (fun v3 u4 => (∀ v5 : Int32, v5 = ((a2 * (u 0 0)) + v3) → (∀ v6 : Int32, v6 = a3 + (-1) → rec v5 v6 u4)))))
def f_X0_code_L7 (al : Nat) (a1 : Int32) (Q : Int32 → St → Prop) (K0 : Int32 → St → Prop) : Nat → Int32 → Int32 → St → Prop
  | 0 => fun _ _ _ => False
  | n + 1 => f_X0_code_L7_s al a1 Q K0 (f_X0_code_L7 al a1 Q K0 n)
def f_X0_code (al : Nat) (a1 : Int32) (u : St) (Q : Int32 → St → Prop) : Prop :=
 (∀ v1 : Int32, v1 = (u 0 1) → (∃ n7, f_X0_code_L7 al a1 Q (fun v8 u9 => Q v8 u9) n7 0 v1 u))
def f_X3_fillImages_L58_s (al : Nat) (g : Nat) (a1 : Int32) (a4 : Int32) (a5 : Int32) (a6 : Int32) (a7 : Int32) (a8 : Int32) (Q : St → Prop) (K0 : St → Prop) (rec : Int32 → St → Prop) (a9 : Int32) (u : St) : Prop :=
 ((a7 ≤ a9 → K0 u) ∧ (¬ a7 ≤ a9 → f_X6_read al (23 + 2 * g) ((a4 + a9) - a6) u (fun v12 u13 => f_X2_total al v12 a8 u13 (fun v14 u15 => f_X6_write al (23 + 2 * g) (a4 + a9) v14 u15 (fun u16 => (∀ v17 : Int32, v17 = a9 + 1 → rec v17 u16))))))
def f_X3_fillImages_L58 (al : Nat) (g : Nat) (a1 : Int32) (a4 : Int32) (a5 : Int32) (a6 : Int32) (a7 : Int32) (a8 : Int32) (Q : St → Prop) (K0 : St → Prop) : Nat → Int32 → St → Prop
  | 0 => fun _ _ => False
  | n + 1 => f_X3_fillImages_L58_s al g a1 a4 a5 a6 a7 a8 Q K0 (f_X3_fillImages_L58 al g a1 a4 a5 a6 a7 a8 Q K0 n)
def f_X3_fillImages_L22_s (al : Nat) (g : Nat) (a1 : Int32) (a4 : Int32) (Q : St → Prop) (K0 : St → Prop) (rec : Int32 → St → Prop) (a5 : Int32) (u : St) : Prop :=
 ((a1 < a5 → K0 u) ∧ (¬ a1 < a5 → f_X2_howMany al a5 u (fun v5 u6 => f_X2_howMany al (a5 + 1) u6 (fun v7 u8 => f_X0_code al a5 u8 (fun v9 u10 => (∃ n18, f_X3_fillImages_L58 al g a1 a4 a5 v5 v7 v9 Q (fun u19 => (∀ v20 : Int32, v20 = a5 + 1 → rec v20 u19)) n18 v5 u10))))))
def f_X3_fillImages_L22 (al : Nat) (g : Nat) (a1 : Int32) (a4 : Int32) (Q : St → Prop) (K0 : St → Prop) : Nat → Int32 → St → Prop
  | 0 => fun _ _ => False
  | n + 1 => f_X3_fillImages_L22_s al g a1 a4 Q K0 (f_X3_fillImages_L22 al g a1 a4 Q K0 n)
def f_X3_fillImages (al : Nat) (g : Nat) (a1 : Int32) (u : St) (Q : St → Prop) : Prop :=
  f_X6_readS al a1 u (fun v1 u2 => f_X6_write al (23 + 2 * g) v1 0 u2 (fun u3 => (∃ n21, f_X3_fillImages_L22 al g a1 v1 Q (fun u22 => Q u22) n21 0 u3)))
def f_X3_become_L8_s (al : Nat) (g : Nat) (Q : St → Prop) (K0 : St → Prop) (rec : Int32 → St → Prop) (a4 : Int32) (u : St) : Prop :=
 ((4 < a4 → K0 u) ∧ (¬ 4 < a4 → f_X0_fill al (u 0 (8 + g)) a4 u (fun u3 => f_X3_fillImages al g a4 u3 (fun u4 => (∀ v5 : Int32, v5 = a4 + 1 → rec v5 u4)))))
def f_X3_become_L8 (al : Nat) (g : Nat) (Q : St → Prop) (K0 : St → Prop) : Nat → Int32 → St → Prop
  | 0 => fun _ _ => False
  | n + 1 => f_X3_become_L8_s al g Q K0 (f_X3_become_L8 al g Q K0 n)
def f_X3_become (al : Nat) (g : Nat) (a1 : Int32) (u : St) (Q : St → Prop) : Prop :=
 (∀ u1 : St, u1 = su u 0 (8 + g) a1 → (∃ n6, f_X3_become_L8 al g Q (fun u7 => Q u7) n6 1 u1))

