def f_X4_pick (al : Nat) (a1 : Int32) (u : St) (Q : Option Nat → St → Prop) : Prop :=
  ((a1 < 0 → Q none u) ∧ (¬ a1 < 0 → (((u 0 4) ≤ a1 → Q none u) ∧ (¬ (u 0 4) ≤ a1 → ((4 ≤ a1 → Q none u) ∧ (¬ 4 ≤ a1 → (vp_in a1 4 ∧ Q (if a1.toNatClampNeg < al then some a1.toNatClampNeg else none) u)))))))
def f_X6_readC (al : Nat) (a1 : Int32) (u : St) (Q : Int32 → St → Prop) : Prop :=
  ((a1 < 0 → Q 0 u) ∧ (¬ a1 < 0 → ((16 ≤ a1 → Q 0 u) ∧ (¬ 16 ≤ a1 → (vp_in a1 16 ∧ ∀ v3 : Int32, v3 = stC a1.toNatClampNeg → Q v3 u)))))
def f_X6_readS (al : Nat) (a1 : Int32) (u : St) (Q : Int32 → St → Prop) : Prop :=
  ((a1 < 0 → Q 0 u) ∧ (¬ a1 < 0 → ((5 ≤ a1 → Q 0 u) ∧ (¬ 5 ≤ a1 → (vp_in a1 5 ∧ ∀ v3 : Int32, v3 = stS a1.toNatClampNeg → Q v3 u)))))
def f_J7_fill_53178_L5_s (k0 : Nat) (a1 : Int32) (a3 : Int32) (Q : St → Prop) (K0 : St → Prop) (rec : Int32 → St → Prop) (a2 : Int32) (u : St) : Prop :=
 ((a3 ≤ a2 → K0 u) ∧ (¬ a3 ≤ a2 → (vp_in a2 (lenC k0) ∧ ∀ u3 : St, u3 = su u k0 a2.toNatClampNeg a1 → (∀ v4 : Int32, v4 = a2 + 1 → rec v4 u3))))
def f_J7_fill_53178_L5 (k0 : Nat) (a1 : Int32) (a3 : Int32) (Q : St → Prop) (K0 : St → Prop) : Nat → Int32 → St → Prop
  | 0 => fun _ _ => False
  | n + 1 => f_J7_fill_53178_L5_s k0 a1 a3 Q K0 (f_J7_fill_53178_L5 k0 a1 a3 Q K0 n)
def f_J7_fill_53178 (k0 : Nat) (a1 : Int32) (u : St) (Q : St → Prop) : Prop :=
 (∀ v1 : Int32, v1 = (nI (lenC k0)) → (∃ n5, f_J7_fill_53178_L5 k0 a1 v1 Q (fun u6 => Q u6) n5 0 u))
def f_X2_table (al : Nat) (a1 : Int32) (a2 : Int32) (a3 : Int32) (a4 : Int32) (u : St) (Q : Int32 → St → Prop) : Prop :=
  Q (a1 + ((u 0 0) * (a2 + ((u 0 0) * (a3 + ((u 0 0) * a4)))))) u
def f_X6_read (al : Nat) (k0 : Nat) (a1 : Int32) (u : St) (Q : Int32 → St → Prop) : Prop :=
 ((a1 < 0 → Q 0 u) ∧ (¬ a1 < 0 → (((nI (lenC k0)) ≤ a1 → Q 0 u) ∧ (¬ (nI (lenC k0)) ≤ a1 → (vp_in a1 (lenC k0) ∧ ∀ v3 : Int32, v3 = u k0 a1.toNatClampNeg → Q v3 u)))))
def f_X6_write (al : Nat) (k0 : Nat) (a1 : Int32) (a2 : Int32) (u : St) (Q : St → Prop) : Prop :=
 ((a1 < 0 → Q u) ∧ (¬ a1 < 0 → (((nI (lenC k0)) ≤ a1 → Q u) ∧ (¬ (nI (lenC k0)) ≤ a1 → (vp_in a1 (lenC k0) ∧ ∀ u3 : St, u3 = su u k0 a1.toNatClampNeg a2 → Q u3)))))
def f_X4_find (al : Nat) (a1 : Int32) (u : St) (Q : St → Prop) : Prop :=
  f_X6_read al 16 a1 u (fun v1 u2 => ((¬ v1 = 0 → Q u2) ∧ (v1 = 0 → ((480 ≤ (u2 0 5) → Q u2) ∧ (¬ 480 ≤ (u2 0 5) → f_X6_write al 16 a1 1 u2 (fun u5 => f_X6_write al 15 (u5 0 5) a1 u5 (fun u6 => (∀ u7 : St, u7 = su u6 0 5 ((u6 0 5) + 1) → Q u7))))))))
def f_X4_matrix (al : Nat) (a1 : Int32) (u : St) (Q : Int32 → St → Prop) : Prop :=
  f_X6_read al 15 a1 u (fun v1 u2 => Q v1 u2)
def f_X4_generatorMatrix (al : Nat) (a1 : Int32) (u : St) (Q : Int32 → St → Prop) : Prop :=
  f_X4_pick al a1 u (fun o3 u2 => (o3 = none → f_X2_table al 1 0 0 1 u2 (fun v5 u6 => Q v5 u6)) ∧ (∀ j4, j4 < al → o3 = some j4 → Q (u2 0 (8 + j4)) u2))
def f_X2_howMany_L4_s (al : Nat) (a1 : Int32) (Q : Int32 → St → Prop) (K0 : Int32 → St → Prop) (rec : Int32 → Int32 → St → Prop) (a2 : Int32) (a3 : Int32) (u : St) : Prop :=
 ((a1 ≤ a3 → K0 a2 u) ∧ (¬ a1 ≤ a3 → (∀ v2 : Int32, v2 = (a2 * (u 0 0)) → (∀ v3 : Int32, v3 = a3 + 1 → rec v2 v3 u))))
def f_X2_howMany_L4 (al : Nat) (a1 : Int32) (Q : Int32 → St → Prop) (K0 : Int32 → St → Prop) : Nat → Int32 → Int32 → St → Prop
  | 0 => fun _ _ _ => False
  | n + 1 => f_X2_howMany_L4_s al a1 Q K0 (f_X2_howMany_L4 al a1 Q K0 n)
def f_X2_howMany (al : Nat) (a1 : Int32) (u : St) (Q : Int32 → St → Prop) : Prop :=
 (∃ n4, f_X2_howMany_L4 al a1 Q (fun v5 u6 => Q v5 u6) n4 1 0 u)
def f_J9_floorMod_7cf53 (a0 : Int32) (a1 : Int32) (u : St) (Q : Int32 → St → Prop) : Prop :=
 (¬ a1 = 0 ∧ (∀ v1 : Int32, v1 = (a0 - a0 / a1 * a1) → ((0 ≤ (a0 ^^^ a1) → Q v1 u) ∧ (¬ 0 ≤ (a0 ^^^ a1) → ((v1 = 0 → Q v1 u) ∧ (¬ v1 = 0 → Q (v1 + a1) u))))))
def f_X2_rest (al : Nat) (a1 : Int32) (u : St) (Q : Int32 → St → Prop) : Prop :=
 (((u 0 0) ≤ 0 → Q 0 u) ∧ (¬ (u 0 0) ≤ 0 → f_J9_floorMod_7cf53 a1 (u 0 0) u (fun v2 u3 => Q v2 u3)))
def f_X2_digit (al : Nat) (a1 : Int32) (a2 : Int32) (u : St) (Q : Int32 → St → Prop) : Prop :=
  f_X2_howMany al a2 u (fun v1 u2 => ((v1 ≤ 0 → Q 0 u2) ∧ (¬ v1 ≤ 0 → (¬ v1 = 0 ∧ (∀ v4 : Int32, v4 = (a1 / v1) → f_X2_rest al v4 u2 (fun v5 u6 => Q v5 u6))))))
def f_X2_product (al : Nat) (a1 : Int32) (a2 : Int32) (u : St) (Q : Int32 → St → Prop) : Prop :=
  f_X2_digit al a1 0 u (fun v1 u2 => f_X2_digit al a1 1 u2 (fun v3 u4 => f_X2_digit al a1 2 u4 (fun v5 u6 => f_X2_digit al a1 3 u6 (fun v7 u8 => f_X2_digit al a2 0 u8 (fun v9 u10 => f_X2_digit al a2 1 u10 (fun v11 u12 => f_X2_digit al a2 2 u12 (fun v13 u14 => f_X2_digit al a2 3 u14 (fun v15 u16 => f_X2_rest al ((v1 * v9) + (v3 * v13)) u16 (fun v17 u18 => f_X2_rest al ((v1 * v11) + (v3 * v15)) u18 (fun v19 u20 => f_X2_rest al ((v5 * v9) + (v7 * v13)) u20 (fun v21 u22 => f_X2_rest al ((v5 * v11) + (v7 * v15)) u22 (fun v23 u24 => f_X2_table al v17 v19 v21 v23 u24 (fun v25 u26 => Q v25 u26)))))))))))))
def f_X4_close_L47_s (al : Nat) (a1 : Int32) (Q : St → Prop) (K0 : St → Prop) (rec : Int32 → St → Prop) (a2 : Int32) (u : St) : Prop :=
 (((u 0 4) ≤ a2 → K0 u) ∧ (¬ (u 0 4) ≤ a2 → f_X4_matrix al a1 u (fun v9 u10 => f_X4_generatorMatrix al a2 u10 (fun v11 u12 => f_X2_product al v9 v11 u12 (fun v13 u14 => f_X4_find al v13 u14 (fun u15 => (∀ v16 : Int32, v16 = a2 + 1 → rec v16 u15)))))))
def f_X4_close_L47 (al : Nat) (a1 : Int32) (Q : St → Prop) (K0 : St → Prop) : Nat → Int32 → St → Prop
  | 0 => fun _ _ => False
  | n + 1 => f_X4_close_L47_s al a1 Q K0 (f_X4_close_L47 al a1 Q K0 n)
def f_X4_close_L30_s (al : Nat) (Q : St → Prop) (K0 : St → Prop) (rec : Int32 → St → Prop) (a1 : Int32) (u : St) : Prop :=
 (((u 0 5) ≤ a1 → K0 u) ∧ (¬ (u 0 5) ≤ a1 → ((480 ≤ a1 → K0 u) ∧ (¬ 480 ≤ a1 → (∃ n17, f_X4_close_L47 al a1 Q (fun u18 => (∀ v19 : Int32, v19 = a1 + 1 → rec v19 u18)) n17 0 u)))))
def f_X4_close_L30 (al : Nat) (Q : St → Prop) (K0 : St → Prop) : Nat → Int32 → St → Prop
  | 0 => fun _ _ => False
  | n + 1 => f_X4_close_L30_s al Q K0 (f_X4_close_L30 al Q K0 n)
def f_X4_close (al : Nat) (u : St) (Q : St → Prop) : Prop :=
  f_J7_fill_53178 16 0 u (fun u1 => (∀ u2 : St, u2 = su u1 0 5 0 → f_X2_table al 1 0 0 1 u2 (fun v3 u4 => f_X4_find al v3 u4 (fun u5 => (∃ n20, f_X4_close_L30 al Q (fun u21 => Q u21) n20 0 u5)))))
def f_X4_forget (al : Nat) (u : St) (Q : St → Prop) : Prop :=
 (∀ u1 : St, u1 = su u 0 4 0 → f_X4_close al u1 (fun u2 => Q u2))
def f_X6_prime (al : Nat) (a1 : Int32) (u : St) (Q : Int32 → St → Prop) (QX : String → St → Prop) : Prop :=
 ((a1 = 2 → (∀ v2 : Int32, v2 = (u 0 0) → (∀ u3 : St, u3 = su u 0 0 a1 → (∀ u4 : St, u4 = su u3 0 7 0 → f_X4_forget al u4 (fun u5 => f_J7_fill_53178 12 0 u5 (fun u6 => Q v2 u6)))))) ∧ (¬ a1 = 2 → ((a1 = 3 → (∀ v8 : Int32, v8 = (u 0 0) → (∀ u9 : St, u9 = su u 0 0 a1 → (∀ u10 : St, u10 = su u9 0 7 0 → f_X4_forget al u10 (fun u11 => f_J7_fill_53178 12 0 u11 (fun u12 => Q v8 u12)))))) ∧ (¬ a1 = 3 → ((a1 = 5 → (∀ v14 : Int32, v14 = (u 0 0) → (∀ u15 : St, u15 = su u 0 0 a1 → (∀ u16 : St, u16 = su u15 0 7 0 → f_X4_forget al u16 (fun u17 => f_J7_fill_53178 12 0 u17 (fun u18 => Q v14 u18)))))) ∧ (¬ a1 = 5 → QX "java/lang/IllegalArgumentException" u))))))
def f_X6_isDegree (al : Nat) (a0 : Int32) (u : St) (Q : Int32 → St → Prop) : Prop :=
 ((a0 < 1 → Q 0 u) ∧ (¬ a0 < 1 → ((4 < a0 → Q 0 u) ∧ (¬ 4 < a0 → Q 1 u))))
def f_X6_form (al : Nat) (a1 : Int32) (a2 : Int32) (u : St) (Q : Int32 → St → Prop) (QX : String → St → Prop) : Prop :=
  f_X6_isDegree al a1 u (fun v1 u2 => ((v1 = 0 → QX "java/lang/IllegalArgumentException" u2) ∧ (¬ v1 = 0 → ((a2 < 0 → QX "java/lang/IllegalArgumentException" u2) ∧ (¬ a2 < 0 → f_X2_howMany al (a1 + 1) u2 (fun v5 u6 => ((a2 < v5 → (((u6 0 7) < 20 → f_X6_write al 7 (u6 0 7) a1 u6 (fun u9 => f_X6_write al 8 (u9 0 7) a2 u9 (fun u10 => (∀ u11 : St, u11 = su u10 0 7 ((u10 0 7) + 1) → Q ((u11 0 7) - 1) u11)))) ∧ (¬ (u6 0 7) < 20 → QX "java/lang/IllegalStateException" u6))) ∧ (¬ a2 < v5 → QX "java/lang/IllegalArgumentException" u6))))))))
def f_X6_checkForm (al : Nat) (a1 : Int32) (u : St) (Q : St → Prop) (QX : String → St → Prop) : Prop :=
 ((a1 < 0 → QX "java/lang/IndexOutOfBoundsException" u) ∧ (¬ a1 < 0 → ((a1 < (u 0 7) → Q u) ∧ (¬ a1 < (u 0 7) → QX "java/lang/IndexOutOfBoundsException" u))))
def f_X2_spell_L5_s (al : Nat) (k2 : Nat) (Q : St → Prop) (K0 : St → Prop) (rec : Int32 → Int32 → St → Prop) (a3 : Int32) (a4 : Int32) (u : St) : Prop :=
 ((5 ≤ a4 → K0 u) ∧ (¬ 5 ≤ a4 → f_X2_rest al a3 u (fun v2 u3 => f_X6_write al k2 a4 v2 u3 (fun u4 => (((u4 0 0) ≤ 0 → (∀ v6 : Int32, v6 = a4 + 1 → rec 0 v6 u4)) ∧ (¬ (u4 0 0) ≤ 0 → (¬ (u4 0 0) = 0 ∧ (∀ v7 : Int32, v7 = (a3 / (u4 0 0)) → (∀ v8 : Int32, v8 = a4 + 1 → rec v7 v8 u4)))))))))
def f_X2_spell_L5 (al : Nat) (k2 : Nat) (Q : St → Prop) (K0 : St → Prop) : Nat → Int32 → Int32 → St → Prop
  | 0 => fun _ _ _ => False
  | n + 1 => f_X2_spell_L5_s al k2 Q K0 (f_X2_spell_L5 al k2 Q K0 n)
def f_X2_spell (al : Nat) (a1 : Int32) (k2 : Nat) (u : St) (Q : St → Prop) : Prop :=
 (∃ n9, f_X2_spell_L5 al k2 Q (fun u10 => Q u10) n9 a1 0 u)
def f_X6_divideByY_L15_s (al : Nat) (a1 : Int32) (Q : Int32 → St → Prop) (K0 : St → Prop) (rec : Int32 → St → Prop) (a2 : Int32) (u : St) : Prop :=
 ((a1 ≤ a2 → K0 u) ∧ (¬ a1 ≤ a2 → f_X6_read al 9 (a2 + 1) u (fun v5 u6 => f_X6_write al 9 a2 v5 u6 (fun u7 => (∀ v8 : Int32, v8 = a2 + 1 → rec v8 u7)))))
def f_X6_divideByY_L15 (al : Nat) (a1 : Int32) (Q : Int32 → St → Prop) (K0 : St → Prop) : Nat → Int32 → St → Prop
  | 0 => fun _ _ => False
  | n + 1 => f_X6_divideByY_L15_s al a1 Q K0 (f_X6_divideByY_L15 al a1 Q K0 n)
def f_X6_divideByY (al : Nat) (a1 : Int32) (u : St) (Q : Int32 → St → Prop) : Prop :=
  f_X6_read al 9 0 u (fun v1 u2 => ((v1 = 0 → (∃ n9, f_X6_divideByY_L15 al a1 Q (fun u10 => Q 1 u10) n9 0 u2)) ∧ (¬ v1 = 0 → Q 0 u2)))
def f_X6_divideByPoint_L5_s (al : Nat) (a1 : Int32) (a2 : Int32) (Q : Int32 → St → Prop) (K0 : Int32 → St → Prop) (rec : Int32 → Int32 → St → Prop) (a3 : Int32) (a4 : Int32) (u : St) : Prop :=
 ((a1 < a4 → K0 a3 u) ∧ (¬ a1 < a4 → f_X6_read al 9 a4 u (fun v2 u3 => f_X2_rest al (v2 + (a2 * a3)) u3 (fun v4 u5 => f_X6_write al 9 a4 v4 u5 (fun u6 => (∀ v7 : Int32, v7 = a4 + 1 → rec v4 v7 u6))))))
def f_X6_divideByPoint_L5 (al : Nat) (a1 : Int32) (a2 : Int32) (Q : Int32 → St → Prop) (K0 : Int32 → St → Prop) : Nat → Int32 → Int32 → St → Prop
  | 0 => fun _ _ _ => False
  | n + 1 => f_X6_divideByPoint_L5_s al a1 a2 Q K0 (f_X6_divideByPoint_L5 al a1 a2 Q K0 n)
def f_X6_divideByPoint (al : Nat) (a1 : Int32) (a2 : Int32) (u : St) (Q : Int32 → St → Prop) : Prop :=
 (∃ n8, f_X6_divideByPoint_L5 al a1 a2 Q (fun v9 u10 => ((¬ v9 = 0 → Q 0 u10) ∧ (v9 = 0 → Q 1 u10))) n8 0 0 u)
def f_X6_divisions_L18_s (al : Nat) (a3 : Int32) (Q : Int32 → St → Prop) (K0 : Int32 → St → Prop) (K1 : Int32 → St → Prop) (rec : Int32 → Int32 → St → Prop) (a4 : Int32) (a5 : Int32) (u : St) : Prop :=
 ((a5 < 0 → K1 a4 u) ∧ (¬ a5 < 0 → ((¬ a3 = (u 0 0) → f_X6_divideByPoint al a5 a3 u (fun v4 u5 => ((¬ v4 = 0 → (∀ v7 : Int32, v7 = a4 + 1 → (∀ v8 : Int32, v8 = a5 + (-1) → rec v7 v8 u5))) ∧ (v4 = 0 → K0 a4 u5)))) ∧ (a3 = (u 0 0) → f_X6_divideByY al a5 u (fun v9 u10 => ((¬ v9 = 0 → (∀ v12 : Int32, v12 = a4 + 1 → (∀ v13 : Int32, v13 = a5 + (-1) → rec v12 v13 u10))) ∧ (v9 = 0 → K0 a4 u10)))))))
def f_X6_divisions_L18 (al : Nat) (a3 : Int32) (Q : Int32 → St → Prop) (K0 : Int32 → St → Prop) (K1 : Int32 → St → Prop) : Nat → Int32 → Int32 → St → Prop
  | 0 => fun _ _ _ => False
  | n + 1 => f_X6_divisions_L18_s al a3 Q K0 K1 (f_X6_divisions_L18 al a3 Q K0 K1 n)
def f_X6_divisions (al : Nat) (a1 : Int32) (a2 : Int32) (a3 : Int32) (u : St) (Q : Int32 → St → Prop) : Prop :=
  f_X2_spell al a2 9 u (fun u1 => (∃ n14, f_X6_divisions_L18 al a3 Q (fun v15 u16 => Q v15 u16) (fun v17 u18 => Q v17 u18) n14 0 a1 u1))
def f_X6_countRoots_L5_s (al : Nat) (a1 : Int32) (a2 : Int32) (Q : Int32 → St → Prop) (K0 : Int32 → St → Prop) (rec : Int32 → Int32 → St → Prop) (a3 : Int32) (a4 : Int32) (u : St) : Prop :=
 (((u 0 0) < a4 → K0 a3 u) ∧ (¬ (u 0 0) < a4 → f_X6_divisions al a1 a2 a4 u (fun v2 u3 => ((v2 ≤ 0 → (∀ v5 : Int32, v5 = a4 + 1 → rec a3 v5 u3)) ∧ (¬ v2 ≤ 0 → (∀ v6 : Int32, v6 = a3 + 1 → (∀ v7 : Int32, v7 = a4 + 1 → rec v6 v7 u3)))))))
def f_X6_countRoots_L5 (al : Nat) (a1 : Int32) (a2 : Int32) (Q : Int32 → St → Prop) (K0 : Int32 → St → Prop) : Nat → Int32 → Int32 → St → Prop
  | 0 => fun _ _ _ => False
  | n + 1 => f_X6_countRoots_L5_s al a1 a2 Q K0 (f_X6_countRoots_L5 al a1 a2 Q K0 n)
def f_X6_countRoots (al : Nat) (a1 : Int32) (a2 : Int32) (u : St) (Q : Int32 → St → Prop) : Prop :=
 (∃ n8, f_X6_countRoots_L5 al a1 a2 Q (fun v9 u10 => Q v9 u10) n8 0 0 u)
def f_X6_isNull_L2_s (al : Nat) (a1 : Int32) (a2 : Int32) (Q : Int32 → St → Prop) (K0 : St → Prop) (K1 : St → Prop) (rec : Int32 → St → Prop) (a3 : Int32) (u : St) : Prop :=
 (((u 0 0) < a3 → K1 u) ∧ (¬ (u 0 0) < a3 → f_X6_divisions al a1 a2 a3 u (fun v2 u3 => (((2 * v2) ≤ a1 → (∀ v5 : Int32, v5 = a3 + 1 → rec v5 u3)) ∧ (¬ (2 * v2) ≤ a1 → K0 u3)))))
def f_X6_isNull_L2 (al : Nat) (a1 : Int32) (a2 : Int32) (Q : Int32 → St → Prop) (K0 : St → Prop) (K1 : St → Prop) : Nat → Int32 → St → Prop
  | 0 => fun _ _ => False
  | n + 1 => f_X6_isNull_L2_s al a1 a2 Q K0 K1 (f_X6_isNull_L2 al a1 a2 Q K0 K1 n)
def f_X6_isNull (al : Nat) (a1 : Int32) (a2 : Int32) (u : St) (Q : Int32 → St → Prop) : Prop :=
 (∃ n6, f_X6_isNull_L2 al a1 a2 Q (fun u7 => Q 1 u7) (fun u8 => Q 0 u8) n6 0 u)
def f_X3_image (al : Nat) (g : Nat) (a1 : Int32) (a2 : Int32) (u : St) (Q : Int32 → St → Prop) : Prop :=
  f_X6_readS al a1 u (fun v1 u2 => f_X6_read al (23 + 2 * g) (v1 + a2) u2 (fun v3 u4 => Q v3 u4))
def f_X4_image (al : Nat) (a1 : Int32) (a2 : Int32) (a3 : Int32) (u : St) (Q : Int32 → St → Prop) : Prop :=
  f_X4_pick al a1 u (fun o3 u2 => (o3 = none → Q a3 u2) ∧ (∀ j4, j4 < al → o3 = some j4 → f_X3_image al j4 a2 a3 u2 (fun v5 u6 => Q v5 u6)))
def f_X4_leaves_L2_s (al : Nat) (a1 : Int32) (a2 : Int32) (Q : Int32 → St → Prop) (K0 : St → Prop) (K1 : St → Prop) (rec : Int32 → St → Prop) (a3 : Int32) (u : St) : Prop :=
 (((u 0 4) ≤ a3 → K1 u) ∧ (¬ (u 0 4) ≤ a3 → f_X4_image al a3 a1 a2 u (fun v2 u3 => ((v2 = a2 → (∀ v5 : Int32, v5 = a3 + 1 → rec v5 u3)) ∧ (¬ v2 = a2 → K0 u3)))))
def f_X4_leaves_L2 (al : Nat) (a1 : Int32) (a2 : Int32) (Q : Int32 → St → Prop) (K0 : St → Prop) (K1 : St → Prop) : Nat → Int32 → St → Prop
  | 0 => fun _ _ => False
  | n + 1 => f_X4_leaves_L2_s al a1 a2 Q K0 K1 (f_X4_leaves_L2 al a1 a2 Q K0 K1 n)
def f_X4_leaves (al : Nat) (a1 : Int32) (a2 : Int32) (u : St) (Q : Int32 → St → Prop) : Prop :=
 (∃ n6, f_X4_leaves_L2 al a1 a2 Q (fun u7 => Q 0 u7) (fun u8 => Q 1 u8) n6 0 u)
def f_X5_clear (al : Nat) (u : St) (Q : St → Prop) : Prop :=
  f_J7_fill_53178 17 0 u (fun u1 => Q u1)
def f_X5_met (al : Nat) (a1 : Int32) (u : St) (Q : Int32 → St → Prop) : Prop :=
  f_X6_read al 17 a1 u (fun v1 u2 => ((v1 ≤ 0 → Q 0 u2) ∧ (¬ v1 ≤ 0 → Q 1 u2)))
def f_X5_reach (al : Nat) (a1 : Int32) (a2 : Int32) (a3 : Int32) (a4 : Int32) (u : St) (Q : St → Prop) : Prop :=
  f_X5_met al a1 u (fun v1 u2 => ((¬ v1 = 0 → Q u2) ∧ (v1 = 0 → ((480 ≤ (u2 0 6) → Q u2) ∧ (¬ 480 ≤ (u2 0 6) → f_X6_write al 18 (u2 0 6) a1 u2 (fun u5 => f_X6_write al 19 (u5 0 6) a2 u5 (fun u6 => f_X6_write al 20 (u6 0 6) a3 u6 (fun u7 => f_X6_write al 21 (u7 0 6) a4 u7 (fun u8 => (∀ u9 : St, u9 = su u8 0 6 ((u8 0 6) + 1) → f_X6_write al 17 a1 (u9 0 6) u9 (fun u10 => Q u10)))))))))))
def f_X5_go_L43_s (al : Nat) (a1 : Int32) (a3 : Int32) (a4 : Int32) (Q : St → Prop) (K0 : St → Prop) (rec : Int32 → St → Prop) (a5 : Int32) (u : St) : Prop :=
 (((u 0 4) ≤ a5 → K0 u) ∧ (¬ (u 0 4) ≤ a5 → f_X4_image al a5 a1 a4 u (fun v8 u9 => f_X6_read al 21 a3 u9 (fun v10 u11 => f_X5_reach al v8 a3 a5 (v10 + 1) u11 (fun u12 => (∀ v13 : Int32, v13 = a5 + 1 → rec v13 u12))))))
def f_X5_go_L43 (al : Nat) (a1 : Int32) (a3 : Int32) (a4 : Int32) (Q : St → Prop) (K0 : St → Prop) : Nat → Int32 → St → Prop
  | 0 => fun _ _ => False
  | n + 1 => f_X5_go_L43_s al a1 a3 a4 Q K0 (f_X5_go_L43 al a1 a3 a4 Q K0 n)
def f_X5_go_L15_s (al : Nat) (a1 : Int32) (Q : St → Prop) (K0 : St → Prop) (rec : Int32 → St → Prop) (a3 : Int32) (u : St) : Prop :=
 (((u 0 6) ≤ a3 → K0 u) ∧ (¬ (u 0 6) ≤ a3 → ((480 ≤ a3 → K0 u) ∧ (¬ 480 ≤ a3 → f_X6_read al 18 a3 u (fun v5 u6 => (∃ n14, f_X5_go_L43 al a1 a3 v5 Q (fun u15 => (∀ v16 : Int32, v16 = a3 + 1 → rec v16 u15)) n14 0 u6))))))
def f_X5_go_L15 (al : Nat) (a1 : Int32) (Q : St → Prop) (K0 : St → Prop) : Nat → Int32 → St → Prop
  | 0 => fun _ _ => False
  | n + 1 => f_X5_go_L15_s al a1 Q K0 (f_X5_go_L15 al a1 Q K0 n)
def f_X5_go (al : Nat) (a1 : Int32) (a2 : Int32) (u : St) (Q : St → Prop) : Prop :=
 (∀ u1 : St, u1 = su u 0 6 0 → f_X5_reach al a2 0 (-1) 0 u1 (fun u2 => (∃ n17, f_X5_go_L15 al a1 Q (fun u18 => Q u18) n17 0 u2)))
def f_X5_alone (al : Nat) (a1 : Int32) (a2 : Int32) (u : St) (Q : St → Prop) : Prop :=
  f_X5_clear al u (fun u1 => f_X5_go al a1 a2 u1 (fun u2 => Q u2))
def f_J9_min_7cf53 (a0 : Int32) (a1 : Int32) (u : St) (Q : Int32 → St → Prop) : Prop :=
 ((a1 < a0 → Q a1 u) ∧ (¬ a1 < a0 → Q a0 u))
def f_X5_leastCode_L11_s (al : Nat) (Q : Int32 → St → Prop) (K0 : Int32 → St → Prop) (rec : Int32 → Int32 → St → Prop) (a1 : Int32) (a2 : Int32) (u : St) : Prop :=
 (((u 0 6) ≤ a2 → K0 a1 u) ∧ (¬ (u 0 6) ≤ a2 → f_X6_read al 18 a2 u (fun v4 u5 => (∀ v6 : Int32, v6 = (if v4 < a1 then v4 else a1) → (∀ v7 : Int32, v7 = a2 + 1 → rec v6 v7 u5)))))
def f_X5_leastCode_L11 (al : Nat) (Q : Int32 → St → Prop) (K0 : Int32 → St → Prop) : Nat → Int32 → Int32 → St → Prop
  | 0 => fun _ _ _ => False
  | n + 1 => f_X5_leastCode_L11_s al Q K0 (f_X5_leastCode_L11 al Q K0 n)
def f_X5_leastCode (al : Nat) (u : St) (Q : Int32 → St → Prop) : Prop :=
  f_X6_read al 18 0 u (fun v1 u2 => (∃ n8, f_X5_leastCode_L11 al Q (fun v9 u10 => Q v9 u10) n8 v1 1 u2))
def f_X6_formIs (al : Nat) (a1 : Int32) (a2 : Int32) (u : St) (Q : Int32 → St → Prop) (QX : String → St → Prop) : Prop :=
  f_X6_checkForm al a1 u (fun u1 => f_X6_read al 7 a1 u1 (fun v2 u3 => f_X6_read al 8 a1 u3 (fun v4 u5 => ((a2 = 0 → Q v2 u5) ∧ (a2 = 1 → Q v4 u5) ∧ (a2 = 2 → f_X6_countRoots al v2 v4 u5 (fun v8 u9 => Q v8 u9)) ∧ (a2 = 3 → f_X6_isNull al v2 v4 u5 (fun v11 u12 => ((v11 = 0 → Q 0 u12) ∧ (¬ v11 = 0 → Q 1 u12)))) ∧ (a2 = 4 → f_X4_leaves al v2 v4 u5 (fun v15 u16 => ((v15 = 0 → Q 0 u16) ∧ (¬ v15 = 0 → Q 1 u16)))) ∧ (a2 = 5 → f_X5_alone al v2 v4 u5 (fun u19 => Q (u19 0 6) u19)) ∧ (a2 = 6 → f_X5_alone al v2 v4 u5 (fun u21 => f_X5_leastCode al u21 (fun v22 u23 => Q v22 u23))) ∧ (¬ a2 = 0 ∧ ¬ a2 = 1 ∧ ¬ a2 = 2 ∧ ¬ a2 = 3 ∧ ¬ a2 = 4 ∧ ¬ a2 = 5 ∧ ¬ a2 = 6 → QX "java/lang/IllegalArgumentException" u5))))) QX
def f_X2_has (al : Nat) (a1 : Int32) (u : St) (Q : Int32 → St → Prop) : Prop :=
 ((a1 < 0 → Q 0 u) ∧ (¬ a1 < 0 → (((u 0 0) ≤ a1 → Q 0 u) ∧ (¬ (u 0 0) ≤ a1 → Q 1 u))))
def f_X2_power_L5_s (al : Nat) (a1 : Int32) (a2 : Int32) (Q : Int32 → St → Prop) (K0 : Int32 → St → Prop) (rec : Int32 → Int32 → St → Prop) (a3 : Int32) (a4 : Int32) (u : St) : Prop :=
 ((a2 ≤ a4 → K0 a3 u) ∧ (¬ a2 ≤ a4 → f_X2_rest al (a3 * a1) u (fun v2 u3 => (∀ v4 : Int32, v4 = a4 + 1 → rec v2 v4 u3))))
def f_X2_power_L5 (al : Nat) (a1 : Int32) (a2 : Int32) (Q : Int32 → St → Prop) (K0 : Int32 → St → Prop) : Nat → Int32 → Int32 → St → Prop
  | 0 => fun _ _ _ => False
  | n + 1 => f_X2_power_L5_s al a1 a2 Q K0 (f_X2_power_L5 al a1 a2 Q K0 n)
def f_X2_power (al : Nat) (a1 : Int32) (a2 : Int32) (u : St) (Q : Int32 → St → Prop) : Prop :=
 (∃ n5, f_X2_power_L5 al a1 a2 Q (fun v6 u7 => Q v6 u7) n5 1 0 u)
def f_X6_at_L72_s (al : Nat) (a2 : Int32) (a3 : Int32) (a4 : Int32) (Q : Int32 → St → Prop) (QX : String → St → Prop) (K0 : Int32 → St → Prop) (rec : Int32 → Int32 → St → Prop) (a5 : Int32) (a6 : Int32) (u : St) : Prop :=
 ((a4 < a6 → K0 a5 u) ∧ (¬ a4 < a6 → f_X6_read al 9 a6 u (fun v14 u15 => f_X2_power al a2 (a4 - a6) u15 (fun v16 u17 => f_X2_power al a3 a6 u17 (fun v18 u19 => (∀ v20 : Int32, v20 = (a5 + ((v14 * v16) * v18)) → (∀ v21 : Int32, v21 = a6 + 1 → rec v20 v21 u19)))))))
def f_X6_at_L72 (al : Nat) (a2 : Int32) (a3 : Int32) (a4 : Int32) (Q : Int32 → St → Prop) (QX : String → St → Prop) (K0 : Int32 → St → Prop) : Nat → Int32 → Int32 → St → Prop
  | 0 => fun _ _ _ => False
  | n + 1 => f_X6_at_L72_s al a2 a3 a4 Q QX K0 (f_X6_at_L72 al a2 a3 a4 Q QX K0 n)
def f_X6_at (al : Nat) (a1 : Int32) (a2 : Int32) (a3 : Int32) (u : St) (Q : Int32 → St → Prop) (QX : String → St → Prop) : Prop :=
  f_X6_checkForm al a1 u (fun u1 => f_X2_has al a2 u1 (fun v2 u3 => ((v2 = 0 → QX "java/lang/IllegalArgumentException" u3) ∧ (¬ v2 = 0 → f_X2_has al a3 u3 (fun v5 u6 => ((¬ v5 = 0 → f_X6_read al 7 a1 u6 (fun v8 u9 => f_X6_read al 8 a1 u9 (fun v10 u11 => f_X2_spell al v10 9 u11 (fun u12 => (∃ n22, f_X6_at_L72 al a2 a3 v8 Q QX (fun v23 u24 => f_X2_rest al v23 u24 (fun v25 u26 => Q v25 u26)) n22 0 0 u12))))) ∧ (v5 = 0 → QX "java/lang/IllegalArgumentException" u6))))))) QX
def f_X6_multiplicity (al : Nat) (a1 : Int32) (a2 : Int32) (u : St) (Q : Int32 → St → Prop) (QX : String → St → Prop) : Prop :=
  f_X6_checkForm al a1 u (fun u1 => ((a2 < 0 → QX "java/lang/IndexOutOfBoundsException" u1) ∧ (¬ a2 < 0 → ((a2 ≤ (u1 0 0) → f_X6_read al 7 a1 u1 (fun v4 u5 => f_X6_read al 8 a1 u5 (fun v6 u7 => f_X6_divisions al v4 v6 a2 u7 (fun v8 u9 => Q v8 u9)))) ∧ (¬ a2 ≤ (u1 0 0) → QX "java/lang/IndexOutOfBoundsException" u1))))) QX
def f_X6_order (al : Nat) (u : St) (Q : Int32 → St → Prop) : Prop :=
  Q (u 0 5) u
def f_X6_changed (al : Nat) (a1 : Int32) (a2 : Int32) (u : St) (Q : Int32 → St → Prop) (QX : String → St → Prop) : Prop :=
  f_X6_checkForm al a1 u (fun u1 => ((a2 < 0 → QX "java/lang/IndexOutOfBoundsException" u1) ∧ (¬ a2 < 0 → ((a2 < (u1 0 4) → f_X6_read al 7 a1 u1 (fun v4 u5 => f_X6_read al 8 a1 u5 (fun v6 u7 => f_X4_image al a2 v4 v6 u7 (fun v8 u9 => Q v8 u9)))) ∧ (¬ a2 < (u1 0 4) → QX "java/lang/IndexOutOfBoundsException" u1))))) QX
def f_X2_inverse_L2_s (al : Nat) (a1 : Int32) (Q : Int32 → St → Prop) (K0 : Int32 → St → Prop) (K1 : St → Prop) (rec : Int32 → St → Prop) (a2 : Int32) (u : St) : Prop :=
 (((u 0 0) ≤ a2 → K1 u) ∧ (¬ (u 0 0) ≤ a2 → f_X2_rest al a1 u (fun v2 u3 => f_X2_rest al (v2 * a2) u3 (fun v4 u5 => ((¬ v4 = 1 → (∀ v7 : Int32, v7 = a2 + 1 → rec v7 u5)) ∧ (v4 = 1 → K0 a2 u5))))))
def f_X2_inverse_L2 (al : Nat) (a1 : Int32) (Q : Int32 → St → Prop) (K0 : Int32 → St → Prop) (K1 : St → Prop) : Nat → Int32 → St → Prop
  | 0 => fun _ _ => False
  | n + 1 => f_X2_inverse_L2_s al a1 Q K0 K1 (f_X2_inverse_L2 al a1 Q K0 K1 n)
def f_X2_inverse (al : Nat) (a1 : Int32) (u : St) (Q : Int32 → St → Prop) : Prop :=
 (∃ n8, f_X2_inverse_L2 al a1 Q (fun v9 u10 => Q v9 u10) (fun u11 => Q 0 u11) n8 1 u)
def f_X2_total_L14_s (al : Nat) (Q : Int32 → St → Prop) (K0 : Int32 → St → Prop) (rec : Int32 → Int32 → Int32 → Int32 → Int32 → St → Prop) (a3 : Int32) (a4 : Int32) (a5 : Int32) (a6 : Int32) (a7 : Int32) (u : St) : Prop :=
 ((5 ≤ a7 → K0 a3 u) ∧ (¬ 5 ≤ a7 → (((u 0 0) ≤ 0 → K0 a3 u) ∧ (¬ (u 0 0) ≤ 0 → (¬ (u 0 0) = 0 ∧ (∀ v3 : Int32, v3 = (a4 - a4 / (u 0 0) * (u 0 0)) → (¬ (u 0 0) = 0 ∧ (∀ v4 : Int32, v4 = (a5 - a5 / (u 0 0) * (u 0 0)) → (¬ (u 0 0) = 0 ∧ (∀ v5 : Int32, v5 = ((v3 + v4) - (v3 + v4) / (u 0 0) * (u 0 0)) → (∀ v6 : Int32, v6 = (a3 + (v5 * a6)) → (¬ (u 0 0) = 0 ∧ (∀ v7 : Int32, v7 = (a4 / (u 0 0)) → (¬ (u 0 0) = 0 ∧ (∀ v8 : Int32, v8 = (a5 / (u 0 0)) → (∀ v9 : Int32, v9 = (a6 * (u 0 0)) → (∀ v10 : Int32, v10 = a7 + 1 → rec v6 v7 v8 v9 v10 u)))))))))))))))))
def f_X2_total_L14 (al : Nat) (Q : Int32 → St → Prop) (K0 : Int32 → St → Prop) : Nat → Int32 → Int32 → Int32 → Int32 → Int32 → St → Prop
  | 0 => fun _ _ _ _ _ _ => False
  | n + 1 => f_X2_total_L14_s al Q K0 (f_X2_total_L14 al Q K0 n)
def f_X2_total (al : Nat) (a1 : Int32) (a2 : Int32) (u : St) (Q : Int32 → St → Prop) : Prop :=
 (∃ n11, f_X2_total_L14 al Q (fun v12 u13 => Q v12 u13) n11 0 a1 a2 1 0 u)
def f_X5_sumOfCodes_L4_s (al : Nat) (Q : Int32 → St → Prop) (K0 : Int32 → St → Prop) (rec : Int32 → Int32 → St → Prop) (a1 : Int32) (a2 : Int32) (u : St) : Prop :=
 (((u 0 6) ≤ a2 → K0 a1 u) ∧ (¬ (u 0 6) ≤ a2 → f_X6_read al 18 a2 u (fun v2 u3 => f_X2_total al a1 v2 u3 (fun v4 u5 => (∀ v6 : Int32, v6 = a2 + 1 → rec v4 v6 u5)))))
def f_X5_sumOfCodes_L4 (al : Nat) (Q : Int32 → St → Prop) (K0 : Int32 → St → Prop) : Nat → Int32 → Int32 → St → Prop
  | 0 => fun _ _ _ => False
  | n + 1 => f_X5_sumOfCodes_L4_s al Q K0 (f_X5_sumOfCodes_L4 al Q K0 n)
def f_X5_sumOfCodes (al : Nat) (u : St) (Q : Int32 → St → Prop) : Prop :=
 (∃ n7, f_X5_sumOfCodes_L4 al Q (fun v8 u9 => Q v8 u9) n7 0 0 u)
def f_X2_multiple_L5_s (al : Nat) (a1 : Int32) (a2 : Int32) (Q : Int32 → St → Prop) (K0 : Int32 → St → Prop) (rec : Int32 → Int32 → St → Prop) (a3 : Int32) (a4 : Int32) (u : St) : Prop :=
 ((a2 ≤ a4 → K0 a3 u) ∧ (¬ a2 ≤ a4 → f_X2_total al a3 a1 u (fun v2 u3 => (∀ v4 : Int32, v4 = a4 + 1 → rec v2 v4 u3))))
def f_X2_multiple_L5 (al : Nat) (a1 : Int32) (a2 : Int32) (Q : Int32 → St → Prop) (K0 : Int32 → St → Prop) : Nat → Int32 → Int32 → St → Prop
  | 0 => fun _ _ _ => False
  | n + 1 => f_X2_multiple_L5_s al a1 a2 Q K0 (f_X2_multiple_L5 al a1 a2 Q K0 n)
def f_X2_multiple (al : Nat) (a1 : Int32) (a2 : Int32) (u : St) (Q : Int32 → St → Prop) : Prop :=
 (∃ n5, f_X2_multiple_L5 al a1 a2 Q (fun v6 u7 => Q v6 u7) n5 0 0 u)
def f_X6_average (al : Nat) (a1 : Int32) (u : St) (Q : Int32 → St → Prop) (QX : String → St → Prop) : Prop :=
  f_X6_checkForm al a1 u (fun u1 => f_X2_inverse al (u1 0 5) u1 (fun v2 u3 => ((¬ v2 = 0 → f_X6_read al 7 a1 u3 (fun v5 u6 => f_X6_read al 8 a1 u6 (fun v7 u8 => f_X5_alone al v5 v7 u8 (fun u9 => (((u9 0 6) ≤ 0 → f_X5_sumOfCodes al u9 (fun v11 u12 => f_X2_rest al (0 * v2) u12 (fun v13 u14 => f_X2_multiple al v11 v13 u14 (fun v15 u16 => Q v15 u16)))) ∧ (¬ (u9 0 6) ≤ 0 → (¬ (u9 0 6) = 0 ∧ (∀ v17 : Int32, v17 = ((u9 0 5) / (u9 0 6)) → f_X5_sumOfCodes al u9 (fun v18 u19 => f_X2_rest al (v17 * v2) u19 (fun v20 u21 => f_X2_multiple al v18 v20 u21 (fun v22 u23 => Q v22 u23))))))))))) ∧ (v2 = 0 → Q (-1) u3)))) QX
def f_X6_checkDegree (al : Nat) (a0 : Int32) (u : St) (Q : St → Prop) (QX : String → St → Prop) : Prop :=
  f_X6_isDegree al a0 u (fun v1 u2 => ((¬ v1 = 0 → Q u2) ∧ (v1 = 0 → QX "java/lang/IllegalArgumentException" u2)))
def f_X1_begin (al : Nat) (a1 : Int32) (u : St) (Q : St → Prop) : Prop :=
 (∀ u1 : St, u1 = su u 0 2 a1 → (∀ u2 : St, u2 = su u1 0 3 0 → Q u2))
def f_X0_cell (al : Nat) (a1 : Int32) (a2 : Int32) (u : St) (Q : Int32 → St → Prop) : Prop :=
  f_X6_read al 13 ((a1 * 5) + a2) u (fun v1 u2 => Q v1 u2)
def f_X0_multiply_L8_s (al : Nat) (a1 : Int32) (a2 : Int32) (a3 : Int32) (a4 : Int32) (Q : St → Prop) (K0 : St → Prop) (rec : Int32 → St → Prop) (a5 : Int32) (u : St) : Prop :=
 ((a5 < 0 → K0 u) ∧ (¬ a5 < 0 → (((u 0 1) < a5 → ((a5 ≤ 0 → f_X2_rest al (0 + 0) u (fun v5 u6 => f_X6_write al 13 ((a2 * 5) + a5) v5 u6 (fun u7 => (∀ v8 : Int32, v8 = a5 + (-1) → rec v8 u7)))) ∧ (¬ a5 ≤ 0 → f_X0_cell al a1 (a5 - 1) u (fun v9 u10 => (∀ v11 : Int32, v11 = (a4 * v9) → f_X2_rest al (0 + v11) u10 (fun v12 u13 => f_X6_write al 13 ((a2 * 5) + a5) v12 u13 (fun u14 => (∀ v15 : Int32, v15 = a5 + (-1) → rec v15 u14)))))))) ∧ (¬ (u 0 1) < a5 → f_X0_cell al a1 a5 u (fun v16 u17 => (∀ v18 : Int32, v18 = (a3 * v16) → ((a5 ≤ 0 → f_X2_rest al (v18 + 0) u17 (fun v20 u21 => f_X6_write al 13 ((a2 * 5) + a5) v20 u21 (fun u22 => (∀ v23 : Int32, v23 = a5 + (-1) → rec v23 u22)))) ∧ (¬ a5 ≤ 0 → f_X0_cell al a1 (a5 - 1) u17 (fun v24 u25 => (∀ v26 : Int32, v26 = (a4 * v24) → f_X2_rest al (v18 + v26) u25 (fun v27 u28 => f_X6_write al 13 ((a2 * 5) + a5) v27 u28 (fun u29 => (∀ v30 : Int32, v30 = a5 + (-1) → rec v30 u29)))))))))))))
def f_X0_multiply_L8 (al : Nat) (a1 : Int32) (a2 : Int32) (a3 : Int32) (a4 : Int32) (Q : St → Prop) (K0 : St → Prop) : Nat → Int32 → St → Prop
  | 0 => fun _ _ => False
  | n + 1 => f_X0_multiply_L8_s al a1 a2 a3 a4 Q K0 (f_X0_multiply_L8 al a1 a2 a3 a4 Q K0 n)
def f_X0_multiply (al : Nat) (a1 : Int32) (a2 : Int32) (a3 : Int32) (a4 : Int32) (u : St) (Q : St → Prop) : Prop :=
 (∀ v1 : Int32, v1 = ((u 0 1) + 1) → (∃ n31, f_X0_multiply_L8 al a1 a2 a3 a4 Q (fun u32 => Q u32) n31 v1 u))
def f_X0_fill_L84_s (al : Nat) (a2 : Int32) (a3 : Int32) (a4 : Int32) (a5 : Int32) (a6 : Int32) (a7 : Int32) (Q : St → Prop) (K0 : St → Prop) (rec : Int32 → St → Prop) (a8 : Int32) (u : St) : Prop :=
 ((a7 < a8 → K0 u) ∧ (¬ a7 < a8 → f_X0_multiply al a8 a8 a3 a4 u (fun u14 => (∀ v15 : Int32, v15 = a8 + 1 → rec v15 u14))))
def f_X0_fill_L84 (al : Nat) (a2 : Int32) (a3 : Int32) (a4 : Int32) (a5 : Int32) (a6 : Int32) (a7 : Int32) (Q : St → Prop) (K0 : St → Prop) : Nat → Int32 → St → Prop
  | 0 => fun _ _ => False
  | n + 1 => f_X0_fill_L84_s al a2 a3 a4 a5 a6 a7 Q K0 (f_X0_fill_L84 al a2 a3 a4 a5 a6 a7 Q K0 n)
def f_X0_fill_L55_s (al : Nat) (a2 : Int32) (a3 : Int32) (a4 : Int32) (a5 : Int32) (a6 : Int32) (Q : St → Prop) (K0 : St → Prop) (rec : Int32 → St → Prop) (a7 : Int32) (u : St) : Prop :=
 ((a2 ≤ a7 → K0 u) ∧ (¬ a2 ≤ a7 → (∀ u11 : St, u11 = su u 0 1 a7 → f_X0_multiply al a7 (a7 + 1) a5 a6 u11 (fun u12 => (∃ n16, f_X0_fill_L84 al a2 a3 a4 a5 a6 a7 Q (fun u17 => (∀ v18 : Int32, v18 = a7 + 1 → rec v18 u17)) n16 0 u12)))))
def f_X0_fill_L55 (al : Nat) (a2 : Int32) (a3 : Int32) (a4 : Int32) (a5 : Int32) (a6 : Int32) (Q : St → Prop) (K0 : St → Prop) : Nat → Int32 → St → Prop
  | 0 => fun _ _ => False
  | n + 1 => f_X0_fill_L55_s al a2 a3 a4 a5 a6 Q K0 (f_X0_fill_L55 al a2 a3 a4 a5 a6 Q K0 n)
def f_X0_fill (al : Nat) (a1 : Int32) (a2 : Int32) (u : St) (Q : St → Prop) : Prop :=
  f_X2_digit al a1 0 u (fun v1 u2 => f_X2_digit al a1 1 u2 (fun v3 u4 => f_X2_digit al a1 2 u4 (fun v5 u6 => f_X2_digit al a1 3 u6 (fun v7 u8 => f_X6_write al 13 0 1 u8 (fun u9 => (∃ n19, f_X0_fill_L55 al a2 v1 v3 v5 v7 Q (fun u20 => (∀ u21 : St, u21 = su u20 0 1 a2 → Q u21)) n19 0 u9))))))
def f_X1_put (al : Nat) (a1 : Int32) (a2 : Int32) (a3 : Int32) (u : St) (Q : St → Prop) : Prop :=
  f_X2_rest al a3 u (fun v1 u2 => f_X6_write al 14 ((a1 * 5) + a2) v1 u2 (fun u3 => Q u3))
def f_X1_askToLeave_L12_s (al : Nat) (a2 : Int32) (Q : St → Prop) (K0 : St → Prop) (rec : Int32 → St → Prop) (a3 : Int32) (u : St) : Prop :=
 (((u 0 2) ≤ a3 → K0 u) ∧ (¬ (u 0 2) ≤ a3 → f_X0_cell al a3 a2 u (fun v3 u4 => ((¬ a3 = a2 → f_X1_put al (u 0 3) a3 (v3 - 0) u4 (fun u6 => (∀ v7 : Int32, v7 = a3 + 1 → rec v7 u6))) ∧ (a3 = a2 → f_X1_put al (u 0 3) a3 (v3 - 1) u4 (fun u8 => (∀ v9 : Int32, v9 = a3 + 1 → rec v9 u8)))))))
def f_X1_askToLeave_L12 (al : Nat) (a2 : Int32) (Q : St → Prop) (K0 : St → Prop) : Nat → Int32 → St → Prop
  | 0 => fun _ _ => False
  | n + 1 => f_X1_askToLeave_L12_s al a2 Q K0 (f_X1_askToLeave_L12 al a2 Q K0 n)
def f_X1_askToLeave_L2_s (al : Nat) (Q : St → Prop) (K0 : St → Prop) (rec : Int32 → St → Prop) (a2 : Int32) (u : St) : Prop :=
 (((u 0 2) ≤ a2 → K0 u) ∧ (¬ (u 0 2) ≤ a2 → (∃ n10, f_X1_askToLeave_L12 al a2 Q (fun u11 => (∀ u12 : St, u12 = su u11 0 3 ((u11 0 3) + 1) → (∀ v13 : Int32, v13 = a2 + 1 → rec v13 u12))) n10 0 u)))
def f_X1_askToLeave_L2 (al : Nat) (Q : St → Prop) (K0 : St → Prop) : Nat → Int32 → St → Prop
  | 0 => fun _ _ => False
  | n + 1 => f_X1_askToLeave_L2_s al Q K0 (f_X1_askToLeave_L2 al Q K0 n)
def f_X1_askToLeave (al : Nat) (u : St) (Q : St → Prop) : Prop :=
 (∃ n14, f_X1_askToLeave_L2 al Q (fun u15 => Q u15) n14 0 u)
def f_X1_cell (al : Nat) (a1 : Int32) (a2 : Int32) (u : St) (Q : Int32 → St → Prop) : Prop :=
  f_X6_read al 14 ((a1 * 5) + a2) u (fun v1 u2 => Q v1 u2)
def f_X1_findPivot_L2_s (al : Nat) (a2 : Int32) (Q : Int32 → St → Prop) (K0 : Int32 → St → Prop) (K1 : St → Prop) (rec : Int32 → St → Prop) (a3 : Int32) (u : St) : Prop :=
 (((u 0 3) ≤ a3 → K1 u) ∧ (¬ (u 0 3) ≤ a3 → f_X1_cell al a3 a2 u (fun v2 u3 => ((v2 = 0 → (∀ v5 : Int32, v5 = a3 + 1 → rec v5 u3)) ∧ (¬ v2 = 0 → K0 a3 u3)))))
def f_X1_findPivot_L2 (al : Nat) (a2 : Int32) (Q : Int32 → St → Prop) (K0 : Int32 → St → Prop) (K1 : St → Prop) : Nat → Int32 → St → Prop
  | 0 => fun _ _ => False
  | n + 1 => f_X1_findPivot_L2_s al a2 Q K0 K1 (f_X1_findPivot_L2 al a2 Q K0 K1 n)
def f_X1_findPivot (al : Nat) (a1 : Int32) (a2 : Int32) (u : St) (Q : Int32 → St → Prop) : Prop :=
 (∃ n6, f_X1_findPivot_L2 al a2 Q (fun v7 u8 => Q v7 u8) (fun u9 => Q (-1) u9) n6 a1 u)
def f_X1_swap_L2_s (al : Nat) (a1 : Int32) (a2 : Int32) (Q : St → Prop) (K0 : St → Prop) (rec : Int32 → St → Prop) (a3 : Int32) (u : St) : Prop :=
 (((u 0 2) ≤ a3 → K0 u) ∧ (¬ (u 0 2) ≤ a3 → f_X1_cell al a1 a3 u (fun v2 u3 => f_X1_cell al a2 a3 u3 (fun v4 u5 => f_X1_put al a1 a3 v4 u5 (fun u6 => f_X1_put al a2 a3 v2 u6 (fun u7 => (∀ v8 : Int32, v8 = a3 + 1 → rec v8 u7)))))))
def f_X1_swap_L2 (al : Nat) (a1 : Int32) (a2 : Int32) (Q : St → Prop) (K0 : St → Prop) : Nat → Int32 → St → Prop
  | 0 => fun _ _ => False
  | n + 1 => f_X1_swap_L2_s al a1 a2 Q K0 (f_X1_swap_L2 al a1 a2 Q K0 n)
def f_X1_swap (al : Nat) (a1 : Int32) (a2 : Int32) (u : St) (Q : St → Prop) : Prop :=
 (∃ n9, f_X1_swap_L2 al a1 a2 Q (fun u10 => Q u10) n9 0 u)
def f_X1_clearBelow_L49_s (al : Nat) (a1 : Int32) (a2 : Int32) (a3 : Int32) (a4 : Int32) (a5 : Int32) (Q : St → Prop) (K0 : St → Prop) (rec : Int32 → St → Prop) (a6 : Int32) (u : St) : Prop :=
 ((a5 = 0 → K0 u) ∧ (¬ a5 = 0 → (((u 0 2) ≤ a6 → K0 u) ∧ (¬ (u 0 2) ≤ a6 → f_X1_cell al a4 a6 u (fun v13 u14 => f_X1_cell al a1 a6 u14 (fun v15 u16 => f_X1_put al a4 a6 (v13 - (a5 * v15)) u16 (fun u17 => (∀ v18 : Int32, v18 = a6 + 1 → rec v18 u17))))))))
def f_X1_clearBelow_L49 (al : Nat) (a1 : Int32) (a2 : Int32) (a3 : Int32) (a4 : Int32) (a5 : Int32) (Q : St → Prop) (K0 : St → Prop) : Nat → Int32 → St → Prop
  | 0 => fun _ _ => False
  | n + 1 => f_X1_clearBelow_L49_s al a1 a2 a3 a4 a5 Q K0 (f_X1_clearBelow_L49 al a1 a2 a3 a4 a5 Q K0 n)
def f_X1_clearBelow_L19_s (al : Nat) (a1 : Int32) (a2 : Int32) (a3 : Int32) (Q : St → Prop) (K0 : St → Prop) (rec : Int32 → St → Prop) (a4 : Int32) (u : St) : Prop :=
 (((u 0 3) ≤ a4 → K0 u) ∧ (¬ (u 0 3) ≤ a4 → f_X1_cell al a4 a2 u (fun v7 u8 => f_X2_rest al (v7 * a3) u8 (fun v9 u10 => (∃ n19, f_X1_clearBelow_L49 al a1 a2 a3 a4 v9 Q (fun u20 => (∀ v21 : Int32, v21 = a4 + 1 → rec v21 u20)) n19 a2 u10)))))
def f_X1_clearBelow_L19 (al : Nat) (a1 : Int32) (a2 : Int32) (a3 : Int32) (Q : St → Prop) (K0 : St → Prop) : Nat → Int32 → St → Prop
  | 0 => fun _ _ => False
  | n + 1 => f_X1_clearBelow_L19_s al a1 a2 a3 Q K0 (f_X1_clearBelow_L19 al a1 a2 a3 Q K0 n)
def f_X1_clearBelow (al : Nat) (a1 : Int32) (a2 : Int32) (u : St) (Q : St → Prop) : Prop :=
  f_X1_cell al a1 a2 u (fun v1 u2 => f_X2_inverse al v1 u2 (fun v3 u4 => (∀ v5 : Int32, v5 = (a1 + 1) → (∃ n22, f_X1_clearBelow_L19 al a1 a2 v3 Q (fun u23 => Q u23) n22 v5 u4))))
def f_X1_freedom_L4_s (al : Nat) (Q : Int32 → St → Prop) (K0 : Int32 → St → Prop) (rec : Int32 → Int32 → St → Prop) (a1 : Int32) (a2 : Int32) (u : St) : Prop :=
 (((u 0 2) ≤ a2 → K0 a1 u) ∧ (¬ (u 0 2) ≤ a2 → f_X1_findPivot al a1 a2 u (fun v2 u3 => ((v2 = (-1) → (∀ v5 : Int32, v5 = a2 + 1 → rec a1 v5 u3)) ∧ (¬ v2 = (-1) → f_X1_swap al a1 v2 u3 (fun u6 => f_X1_clearBelow al a1 a2 u6 (fun u7 => (∀ v8 : Int32, v8 = a1 + 1 → (∀ v9 : Int32, v9 = a2 + 1 → rec v8 v9 u7)))))))))
def f_X1_freedom_L4 (al : Nat) (Q : Int32 → St → Prop) (K0 : Int32 → St → Prop) : Nat → Int32 → Int32 → St → Prop
  | 0 => fun _ _ _ => False
  | n + 1 => f_X1_freedom_L4_s al Q K0 (f_X1_freedom_L4 al Q K0 n)
def f_X1_freedom (al : Nat) (u : St) (Q : Int32 → St → Prop) : Prop :=
 (∃ n10, f_X1_freedom_L4 al Q (fun v11 u12 => Q ((u12 0 2) - v11) u12) n10 0 0 u)
def f_X6_dimension_L16_s (al : Nat) (a1 : Int32) (Q : Int32 → St → Prop) (QX : String → St → Prop) (K0 : St → Prop) (rec : Int32 → St → Prop) (a2 : Int32) (u : St) : Prop :=
 (((u 0 4) ≤ a2 → K0 u) ∧ (¬ (u 0 4) ≤ a2 → f_X4_generatorMatrix al a2 u (fun v4 u5 => f_X0_fill al v4 a1 u5 (fun u6 => f_X1_askToLeave al u6 (fun u7 => (∀ v8 : Int32, v8 = a2 + 1 → rec v8 u7))))))
def f_X6_dimension_L16 (al : Nat) (a1 : Int32) (Q : Int32 → St → Prop) (QX : String → St → Prop) (K0 : St → Prop) : Nat → Int32 → St → Prop
  | 0 => fun _ _ => False
  | n + 1 => f_X6_dimension_L16_s al a1 Q QX K0 (f_X6_dimension_L16 al a1 Q QX K0 n)
def f_X6_dimension (al : Nat) (a1 : Int32) (u : St) (Q : Int32 → St → Prop) (QX : String → St → Prop) : Prop :=
  f_X6_checkDegree al a1 u (fun u1 => f_X1_begin al (a1 + 1) u1 (fun u2 => (∃ n9, f_X6_dimension_L16 al a1 Q QX (fun u10 => f_X1_freedom al u10 (fun v11 u12 => Q v11 u12)) n9 0 u2))) QX
def f_X2_exponent_L2_s (al : Nat) (a1 : Int32) (Q : Int32 → St → Prop) (K0 : Int32 → St → Prop) (rec : Int32 → St → Prop) (a2 : Int32) (u : St) : Prop :=
 ((5 ≤ a2 → K0 a2 u) ∧ (¬ 5 ≤ a2 → f_X2_howMany al a2 u (fun v2 u3 => ((a1 ≤ v2 → K0 a2 u3) ∧ (¬ a1 ≤ v2 → (∀ v5 : Int32, v5 = a2 + 1 → rec v5 u3))))))
def f_X2_exponent_L2 (al : Nat) (a1 : Int32) (Q : Int32 → St → Prop) (K0 : Int32 → St → Prop) : Nat → Int32 → St → Prop
  | 0 => fun _ _ => False
  | n + 1 => f_X2_exponent_L2_s al a1 Q K0 (f_X2_exponent_L2 al a1 Q K0 n)
def f_X2_exponent (al : Nat) (a1 : Int32) (u : St) (Q : Int32 → St → Prop) : Prop :=
 (∃ n6, f_X2_exponent_L2 al a1 Q (fun v7 u8 => Q v7 u8) n6 0 u)
def f_X6_dimensionAnew_L20_s (al : Nat) (a1 : Int32) (a2 : Int32) (Q : Int32 → St → Prop) (QX : String → St → Prop) (K0 : Int32 → St → Prop) (rec : Int32 → Int32 → St → Prop) (a3 : Int32) (a4 : Int32) (u : St) : Prop :=
 ((a2 ≤ a4 → K0 a3 u) ∧ (¬ a2 ≤ a4 → f_X4_leaves al a1 a4 u (fun v5 u6 => ((v5 = 0 → (∀ v8 : Int32, v8 = a4 + 1 → rec a3 v8 u6)) ∧ (¬ v5 = 0 → (∀ v9 : Int32, v9 = a3 + 1 → (∀ v10 : Int32, v10 = a4 + 1 → rec v9 v10 u6)))))))
def f_X6_dimensionAnew_L20 (al : Nat) (a1 : Int32) (a2 : Int32) (Q : Int32 → St → Prop) (QX : String → St → Prop) (K0 : Int32 → St → Prop) : Nat → Int32 → Int32 → St → Prop
  | 0 => fun _ _ _ => False
  | n + 1 => f_X6_dimensionAnew_L20_s al a1 a2 Q QX K0 (f_X6_dimensionAnew_L20 al a1 a2 Q QX K0 n)
def f_X6_dimensionAnew (al : Nat) (a1 : Int32) (u : St) (Q : Int32 → St → Prop) (QX : String → St → Prop) : Prop :=
  f_X6_checkDegree al a1 u (fun u1 => f_X2_howMany al (a1 + 1) u1 (fun v2 u3 => (∃ n11, f_X6_dimensionAnew_L20 al a1 v2 Q QX (fun v12 u13 => f_X2_exponent al v12 u13 (fun v14 u15 => Q v14 u15)) n11 0 0 u3))) QX
def f_X6_falling_L4_s (al : Nat) (a0 : Int32) (a1 : Int32) (Q : Int32 → St → Prop) (K0 : Int32 → St → Prop) (rec : Int32 → Int32 → St → Prop) (a2 : Int32) (a3 : Int32) (u : St) : Prop :=
 ((a1 ≤ a3 → K0 a2 u) ∧ (¬ a1 ≤ a3 → (∀ v2 : Int32, v2 = (a2 * (a0 - a3)) → (∀ v3 : Int32, v3 = a3 + 1 → rec v2 v3 u))))
def f_X6_falling_L4 (al : Nat) (a0 : Int32) (a1 : Int32) (Q : Int32 → St → Prop) (K0 : Int32 → St → Prop) : Nat → Int32 → Int32 → St → Prop
  | 0 => fun _ _ _ => False
  | n + 1 => f_X6_falling_L4_s al a0 a1 Q K0 (f_X6_falling_L4 al a0 a1 Q K0 n)
def f_X6_falling (al : Nat) (a0 : Int32) (a1 : Int32) (u : St) (Q : Int32 → St → Prop) : Prop :=
 (∃ n4, f_X6_falling_L4 al a0 a1 Q (fun v5 u6 => Q v5 u6) n4 1 0 u)
def f_X6_derive_L30_s (al : Nat) (k4 : Nat) (a2 : Int32) (a3 : Int32) (a5 : Int32) (Q : St → Prop) (K0 : St → Prop) (rec : Int32 → St → Prop) (a6 : Int32) (u : St) : Prop :=
 (((a5 - a2) < a6 → K0 u) ∧ (¬ (a5 - a2) < a6 → f_X6_falling al (a5 - a6) a2 u (fun v7 u8 => f_X6_falling al a6 a3 u8 (fun v9 u10 => (∀ v11 : Int32, v11 = (v7 * v9) → f_X6_read al k4 a6 u10 (fun v12 u13 => f_X2_rest al (v12 * v11) u13 (fun v14 u15 => f_X6_write al k4 (a6 - a3) v14 u15 (fun u16 => (∀ v17 : Int32, v17 = a6 + 1 → rec v17 u16)))))))))
def f_X6_derive_L30 (al : Nat) (k4 : Nat) (a2 : Int32) (a3 : Int32) (a5 : Int32) (Q : St → Prop) (K0 : St → Prop) : Nat → Int32 → St → Prop
  | 0 => fun _ _ => False
  | n + 1 => f_X6_derive_L30_s al k4 a2 a3 a5 Q K0 (f_X6_derive_L30 al k4 a2 a3 a5 Q K0 n)
def f_X6_derive (al : Nat) (a1 : Int32) (a2 : Int32) (a3 : Int32) (k4 : Nat) (u : St) (Q : St → Prop) : Prop :=
  f_X6_read al 7 a1 u (fun v1 u2 => f_X6_read al 8 a1 u2 (fun v3 u4 => f_X2_spell al v3 k4 u4 (fun u5 => (∃ n18, f_X6_derive_L30 al k4 a2 a3 v1 Q (fun u19 => Q u19) n18 a3 u5))))
def f_X6_choose (al : Nat) (a0 : Int32) (a1 : Int32) (u : St) (Q : Int32 → St → Prop) : Prop :=
 f_X6_readC al ((a0 * 4) + a1) u (fun v1 u2 => Q v1 u2)
def f_X6_addProduct_L12_s (al : Nat) (a1 : Int32) (a2 : Int32) (a3 : Int32) (a4 : Int32) (Q : St → Prop) (K0 : St → Prop) (rec : Int32 → St → Prop) (a5 : Int32) (u : St) : Prop :=
 ((a3 < a5 → K0 u) ∧ (¬ a3 < a5 → f_X6_read al 9 a4 u (fun v3 u4 => f_X6_read al 10 a5 u4 (fun v5 u6 => (∀ v7 : Int32, v7 = ((a1 * v3) * v5) → f_X6_read al 11 (a4 + a5) u6 (fun v8 u9 => f_X2_rest al (v8 + v7) u9 (fun v10 u11 => f_X6_write al 11 (a4 + a5) v10 u11 (fun u12 => (∀ v13 : Int32, v13 = a5 + 1 → rec v13 u12)))))))))
def f_X6_addProduct_L12 (al : Nat) (a1 : Int32) (a2 : Int32) (a3 : Int32) (a4 : Int32) (Q : St → Prop) (K0 : St → Prop) : Nat → Int32 → St → Prop
  | 0 => fun _ _ => False
  | n + 1 => f_X6_addProduct_L12_s al a1 a2 a3 a4 Q K0 (f_X6_addProduct_L12 al a1 a2 a3 a4 Q K0 n)
def f_X6_addProduct_L3_s (al : Nat) (a1 : Int32) (a2 : Int32) (a3 : Int32) (Q : St → Prop) (K0 : St → Prop) (rec : Int32 → St → Prop) (a4 : Int32) (u : St) : Prop :=
 ((a2 < a4 → K0 u) ∧ (¬ a2 < a4 → (∃ n14, f_X6_addProduct_L12 al a1 a2 a3 a4 Q (fun u15 => (∀ v16 : Int32, v16 = a4 + 1 → rec v16 u15)) n14 0 u)))
def f_X6_addProduct_L3 (al : Nat) (a1 : Int32) (a2 : Int32) (a3 : Int32) (Q : St → Prop) (K0 : St → Prop) : Nat → Int32 → St → Prop
  | 0 => fun _ _ => False
  | n + 1 => f_X6_addProduct_L3_s al a1 a2 a3 Q K0 (f_X6_addProduct_L3 al a1 a2 a3 Q K0 n)
def f_X6_addProduct (al : Nat) (a1 : Int32) (a2 : Int32) (a3 : Int32) (u : St) (Q : St → Prop) : Prop :=
 (∃ n17, f_X6_addProduct_L3 al a1 a2 a3 Q (fun u18 => Q u18) n17 0 u)
def f_X2_code_L7_s (al : Nat) (k1 : Nat) (Q : Int32 → St → Prop) (K0 : Int32 → St → Prop) (rec : Int32 → Int32 → St → Prop) (a3 : Int32) (a4 : Int32) (u : St) : Prop :=
 ((a4 < 0 → K0 a3 u) ∧ (¬ a4 < 0 → f_X6_read al k1 a4 u (fun v3 u4 => (∀ v5 : Int32, v5 = ((a3 * (u 0 0)) + v3) → (∀ v6 : Int32, v6 = a4 + (-1) → rec v5 v6 u4)))))
def f_X2_code_L7 (al : Nat) (k1 : Nat) (Q : Int32 → St → Prop) (K0 : Int32 → St → Prop) : Nat → Int32 → Int32 → St → Prop
  | 0 => fun _ _ _ => False
  | n + 1 => f_X2_code_L7_s al k1 Q K0 (f_X2_code_L7 al k1 Q K0 n)
def f_X2_code (al : Nat) (k1 : Nat) (a2 : Int32) (u : St) (Q : Int32 → St → Prop) : Prop :=
 (∀ v1 : Int32, v1 = (a2 - 1) → (∃ n7, f_X2_code_L7 al k1 Q (fun v8 u9 => Q v8 u9) n7 0 v1 u))
def f_X6_transvectantCode_L35_s (al : Nat) (a1 : Int32) (a2 : Int32) (a3 : Int32) (a4 : Int32) (a5 : Int32) (Q : Int32 → St → Prop) (K0 : St → Prop) (rec : Int32 → St → Prop) (a6 : Int32) (u : St) : Prop :=
 ((a3 < a6 → K0 u) ∧ (¬ a3 < a6 → f_X6_derive al a1 (a3 - a6) a6 9 u (fun u9 => f_X6_derive al a2 a6 (a3 - a6) 10 u9 (fun u10 => (∀ v11 : Int32, v11 = (a6 - a6 / 2 * 2) → ((¬ v11 = 0 → f_X6_choose al a3 a6 u10 (fun v13 u14 => (∀ v15 : Int32, v15 = (-v13) → f_X6_addProduct al v15 a4 a5 u14 (fun u16 => (∀ v17 : Int32, v17 = a6 + 1 → rec v17 u16))))) ∧ (v11 = 0 → f_X6_choose al a3 a6 u10 (fun v18 u19 => f_X6_addProduct al v18 a4 a5 u19 (fun u20 => (∀ v21 : Int32, v21 = a6 + 1 → rec v21 u20))))))))))
def f_X6_transvectantCode_L35 (al : Nat) (a1 : Int32) (a2 : Int32) (a3 : Int32) (a4 : Int32) (a5 : Int32) (Q : Int32 → St → Prop) (K0 : St → Prop) : Nat → Int32 → St → Prop
  | 0 => fun _ _ => False
  | n + 1 => f_X6_transvectantCode_L35_s al a1 a2 a3 a4 a5 Q K0 (f_X6_transvectantCode_L35 al a1 a2 a3 a4 a5 Q K0 n)
def f_X6_transvectantCode (al : Nat) (a1 : Int32) (a2 : Int32) (a3 : Int32) (u : St) (Q : Int32 → St → Prop) : Prop :=
  f_X6_read al 7 a1 u (fun v1 u2 => (∀ v3 : Int32, v3 = (v1 - a3) → f_X6_read al 7 a2 u2 (fun v4 u5 => (∀ v6 : Int32, v6 = (v4 - a3) → f_J7_fill_53178 11 0 u5 (fun u7 => (∃ n22, f_X6_transvectantCode_L35 al a1 a2 a3 v3 v6 Q (fun u23 => f_X2_code al 11 ((v3 + v6) + 1) u23 (fun v24 u25 => Q v24 u25)) n22 0 u7))))))
def f_X6_transvectant (al : Nat) (a1 : Int32) (a2 : Int32) (a3 : Int32) (u : St) (Q : Int32 → St → Prop) (QX : String → St → Prop) : Prop :=
  f_X6_checkForm al a1 u (fun u1 => f_X6_checkForm al a2 u1 (fun u2 => f_X6_read al 7 a1 u2 (fun v3 u4 => f_X6_read al 7 a2 u4 (fun v5 u6 => (∀ v7 : Int32, v7 = (if v5 < v3 then v5 else v3) → ((a3 < 0 → QX "java/lang/IllegalArgumentException" u6) ∧ (¬ a3 < 0 → ((v7 < a3 → QX "java/lang/IllegalArgumentException" u6) ∧ (¬ v7 < a3 → f_X6_read al 7 a1 u6 (fun v10 u11 => f_X6_read al 7 a2 u11 (fun v12 u13 => f_X6_isDegree al ((v10 + v12) - (2 * a3)) u13 (fun v14 u15 => ((¬ v14 = 0 → f_X6_transvectantCode al a1 a2 a3 u15 (fun v17 u18 => Q v17 u18)) ∧ (v14 = 0 → QX "java/lang/IllegalArgumentException" u15))))))))))))) QX) QX
def f_X6_countValues (al : Nat) (a0 : Int32) (u : St) (Q : Int32 → St → Prop) : Prop :=
 ((a0 = 2 → Q 1 u) ∧ (a0 = 3 → Q 1 u) ∧ (a0 = 4 → Q 2 u) ∧ (¬ a0 = 2 ∧ ¬ a0 = 3 ∧ ¬ a0 = 4 → Q 0 u))
def f_X6_valueOf (al : Nat) (a1 : Int32) (a2 : Int32) (a3 : Int32) (u : St) (Q : Int32 → St → Prop) : Prop :=
  f_X2_spell al a2 9 u (fun u1 => f_X6_read al 9 0 u1 (fun v2 u3 => f_X6_read al 9 1 u3 (fun v4 u5 => f_X6_read al 9 2 u5 (fun v6 u7 => f_X6_read al 9 3 u7 (fun v8 u9 => f_X6_read al 9 4 u9 (fun v10 u11 => ((a1 = 2 → f_X2_rest al ((v4 * v4) - ((4 * v2) * v6)) u11 (fun v12 u13 => Q v12 u13)) ∧ (a1 = 3 → f_X2_rest al (((((((v4 * v4) * v6) * v6) - ((((4 * v2) * v6) * v6) * v6)) - ((((4 * v4) * v4) * v4) * v8)) - ((((27 * v2) * v2) * v8) * v8)) + ((((18 * v2) * v4) * v6) * v8)) u11 (fun v15 u16 => Q v15 u16)) ∧ (a1 = 4 → ((¬ a3 = 0 → f_X2_rest al (((((((72 * v2) * v6) * v10) + (((9 * v4) * v6) * v8)) - (((27 * v2) * v8) * v8)) - (((27 * v10) * v4) * v4)) - (((2 * v6) * v6) * v6)) u11 (fun v19 u20 => Q v19 u20)) ∧ (a3 = 0 → f_X2_rest al ((((12 * v2) * v10) - ((3 * v4) * v8)) + (v6 * v6)) u11 (fun v21 u22 => Q v21 u22)))) ∧ (¬ a1 = 2 ∧ ¬ a1 = 3 ∧ ¬ a1 = 4 → Q 0 u11))))))))
def f_X6_value (al : Nat) (a1 : Int32) (a2 : Int32) (u : St) (Q : Int32 → St → Prop) (QX : String → St → Prop) : Prop :=
  f_X6_checkForm al a1 u (fun u1 => f_X6_read al 7 a1 u1 (fun v2 u3 => ((a2 < 0 → QX "java/lang/IllegalArgumentException" u3) ∧ (¬ a2 < 0 → f_X6_countValues al v2 u3 (fun v5 u6 => ((a2 < v5 → f_X6_read al 8 a1 u6 (fun v8 u9 => f_X6_valueOf al v2 v8 a2 u9 (fun v10 u11 => Q v10 u11))) ∧ (¬ a2 < v5 → QX "java/lang/IllegalArgumentException" u6))))))) QX
def f_X2_determinant (al : Nat) (a1 : Int32) (u : St) (Q : Int32 → St → Prop) : Prop :=
  f_X2_digit al a1 0 u (fun v1 u2 => f_X2_digit al a1 3 u2 (fun v3 u4 => f_X2_digit al a1 1 u4 (fun v5 u6 => f_X2_digit al a1 2 u6 (fun v7 u8 => f_X2_rest al ((v1 * v3) - (v5 * v7)) u8 (fun v9 u10 => Q v9 u10)))))
def f_X6_weightOf (al : Nat) (a0 : Int32) (a1 : Int32) (u : St) (Q : Int32 → St → Prop) : Prop :=
 ((a0 = 2 → Q 2 u) ∧ (a0 = 4 → ((¬ a1 = 0 → Q 6 u) ∧ (a1 = 0 → Q 4 u))) ∧ (¬ a0 = 2 ∧ ¬ a0 = 4 → Q 6 u))
def f_X6_weighsBy_L32_s (al : Nat) (a1 : Int32) (a2 : Int32) (a4 : Int32) (a5 : Int32) (Q : Int32 → St → Prop) (K0 : St → Prop) (K1 : St → Prop) (rec : Int32 → St → Prop) (a6 : Int32) (u : St) : Prop :=
  f_X6_countValues al a1 u (fun v7 u8 => ((v7 ≤ a6 → K1 u8) ∧ (¬ v7 ≤ a6 → f_X6_weightOf al a1 a6 u8 (fun v10 u11 => f_X2_power al a4 v10 u11 (fun v12 u13 => f_X6_valueOf al a1 a5 a6 u13 (fun v14 u15 => f_X6_valueOf al a1 a2 a6 u15 (fun v16 u17 => f_X2_rest al (v16 * v12) u17 (fun v18 u19 => ((v14 = v18 → (∀ v21 : Int32, v21 = a6 + 1 → rec v21 u19)) ∧ (¬ v14 = v18 → K0 u19))))))))))
def f_X6_weighsBy_L32 (al : Nat) (a1 : Int32) (a2 : Int32) (a4 : Int32) (a5 : Int32) (Q : Int32 → St → Prop) (K0 : St → Prop) (K1 : St → Prop) : Nat → Int32 → St → Prop
  | 0 => fun _ _ => False
  | n + 1 => f_X6_weighsBy_L32_s al a1 a2 a4 a5 Q K0 K1 (f_X6_weighsBy_L32 al a1 a2 a4 a5 Q K0 K1 n)
def f_X6_weighsBy (al : Nat) (a1 : Int32) (a2 : Int32) (a3 : Int32) (u : St) (Q : Int32 → St → Prop) : Prop :=
  f_X4_generatorMatrix al a3 u (fun v1 u2 => f_X2_determinant al v1 u2 (fun v3 u4 => f_X4_image al a3 a1 a2 u4 (fun v5 u6 => (∃ n22, f_X6_weighsBy_L32 al a1 a2 v3 v5 Q (fun u23 => Q 0 u23) (fun u24 => Q 1 u24) n22 0 u6))))
def f_X6_weighs_L12_s (al : Nat) (a1 : Int32) (Q : Int32 → St → Prop) (K0 : St → Prop) (K1 : St → Prop) (rec : Int32 → St → Prop) (a2 : Int32) (u : St) : Prop :=
 (((u 0 4) ≤ a2 → K1 u) ∧ (¬ (u 0 4) ≤ a2 → f_X6_read al 7 a1 u (fun v3 u4 => f_X6_read al 8 a1 u4 (fun v5 u6 => f_X6_weighsBy al v3 v5 a2 u6 (fun v7 u8 => ((¬ v7 = 0 → (∀ v10 : Int32, v10 = a2 + 1 → rec v10 u8)) ∧ (v7 = 0 → K0 u8)))))))
def f_X6_weighs_L12 (al : Nat) (a1 : Int32) (Q : Int32 → St → Prop) (K0 : St → Prop) (K1 : St → Prop) : Nat → Int32 → St → Prop
  | 0 => fun _ _ => False
  | n + 1 => f_X6_weighs_L12_s al a1 Q K0 K1 (f_X6_weighs_L12 al a1 Q K0 K1 n)
def f_X6_weighs_L2_s (al : Nat) (Q : Int32 → St → Prop) (K0 : St → Prop) (K1 : St → Prop) (rec : Int32 → St → Prop) (a1 : Int32) (u : St) : Prop :=
 (((u 0 7) ≤ a1 → K1 u) ∧ (¬ (u 0 7) ≤ a1 → (∃ n11, f_X6_weighs_L12 al a1 Q (fun u12 => K0 u12) (fun u13 => (∀ v14 : Int32, v14 = a1 + 1 → rec v14 u13)) n11 0 u)))
def f_X6_weighs_L2 (al : Nat) (Q : Int32 → St → Prop) (K0 : St → Prop) (K1 : St → Prop) : Nat → Int32 → St → Prop
  | 0 => fun _ _ => False
  | n + 1 => f_X6_weighs_L2_s al Q K0 K1 (f_X6_weighs_L2 al Q K0 K1 n)
def f_X6_weighs (al : Nat) (u : St) (Q : Int32 → St → Prop) : Prop :=
 (∃ n15, f_X6_weighs_L2 al Q (fun u16 => Q 0 u16) (fun u17 => Q 1 u17) n15 0 u)
def f_X6_checkAlike (al : Nat) (a1 : Int32) (a2 : Int32) (u : St) (Q : St → Prop) (QX : String → St → Prop) : Prop :=
  f_X6_read al 7 a1 u (fun v1 u2 => f_X6_read al 7 a2 u2 (fun v3 u4 => ((v1 = v3 → Q u4) ∧ (¬ v1 = v3 → QX "java/lang/IllegalArgumentException" u4))))
def f_X5_stepsTo (al : Nat) (a1 : Int32) (u : St) (Q : Int32 → St → Prop) : Prop :=
  f_X5_met al a1 u (fun v1 u2 => ((v1 = 0 → Q (-1) u2) ∧ (¬ v1 = 0 → f_X6_read al 17 a1 u2 (fun v4 u5 => f_X6_read al 21 (v4 - 1) u5 (fun v6 u7 => Q v6 u7)))))
def f_X6_way (al : Nat) (a1 : Int32) (a2 : Int32) (u : St) (Q : Int32 → St → Prop) (QX : String → St → Prop) : Prop :=
  f_X6_checkForm al a1 u (fun u1 => f_X6_checkForm al a2 u1 (fun u2 => f_X6_checkAlike al a1 a2 u2 (fun u3 => f_X6_read al 7 a1 u3 (fun v4 u5 => f_X6_read al 8 a1 u5 (fun v6 u7 => f_X5_alone al v4 v6 u7 (fun u8 => f_X6_read al 8 a2 u8 (fun v9 u10 => f_X5_stepsTo al v9 u10 (fun v11 u12 => Q v11 u12)))))) QX) QX) QX
def f_X5_stepOnWayTo_L30_s (al : Nat) (a2 : Int32) (Q : Int32 → St → Prop) (K0 : Int32 → St → Prop) (rec : Int32 → Int32 → St → Prop) (a4 : Int32) (a5 : Int32) (u : St) : Prop :=
 ((a5 ≤ a2 → K0 a4 u) ∧ (¬ a5 ≤ a2 → f_X6_read al 19 a4 u (fun v9 u10 => (∀ v11 : Int32, v11 = a5 + (-1) → rec v9 v11 u10))))
def f_X5_stepOnWayTo_L30 (al : Nat) (a2 : Int32) (Q : Int32 → St → Prop) (K0 : Int32 → St → Prop) : Nat → Int32 → Int32 → St → Prop
  | 0 => fun _ _ _ => False
  | n + 1 => f_X5_stepOnWayTo_L30_s al a2 Q K0 (f_X5_stepOnWayTo_L30 al a2 Q K0 n)
def f_X5_stepOnWayTo (al : Nat) (a1 : Int32) (a2 : Int32) (u : St) (Q : Int32 → St → Prop) : Prop :=
  f_X5_stepsTo al a1 u (fun v1 u2 => ((a2 < v1 → f_X6_read al 17 a1 u2 (fun v4 u5 => (∀ v6 : Int32, v6 = (v4 - 1) → (∀ v7 : Int32, v7 = (v1 - 1) → (∃ n12, f_X5_stepOnWayTo_L30 al a2 Q (fun v13 u14 => f_X6_read al 20 v13 u14 (fun v15 u16 => Q v15 u16)) n12 v6 v7 u5))))) ∧ (¬ a2 < v1 → Q (-1) u2)))
def f_X6_step (al : Nat) (a1 : Int32) (a2 : Int32) (a3 : Int32) (u : St) (Q : Int32 → St → Prop) (QX : String → St → Prop) : Prop :=
  f_X6_checkForm al a1 u (fun u1 => f_X6_checkForm al a2 u1 (fun u2 => f_X6_checkAlike al a1 a2 u2 (fun u3 => ((0 ≤ a3 → f_X6_read al 7 a1 u3 (fun v5 u6 => f_X6_read al 8 a1 u6 (fun v7 u8 => f_X5_alone al v5 v7 u8 (fun u9 => f_X6_read al 8 a2 u9 (fun v10 u11 => f_X5_stepOnWayTo al v10 a3 u11 (fun v12 u13 => Q v12 u13)))))) ∧ (¬ 0 ≤ a3 → QX "java/lang/IllegalArgumentException" u3))) QX) QX) QX
def f_X6_orbits_L27_s (al : Nat) (a1 : Int32) (a2 : Int32) (Q : Int32 → St → Prop) (QX : String → St → Prop) (K0 : Int32 → St → Prop) (rec : Int32 → Int32 → St → Prop) (a3 : Int32) (a4 : Int32) (u : St) : Prop :=
 ((a2 ≤ a4 → K0 a3 u) ∧ (¬ a2 ≤ a4 → f_X5_met al a4 u (fun v6 u7 => ((¬ v6 = 0 → (∀ v9 : Int32, v9 = a4 + 1 → rec a3 v9 u7)) ∧ (v6 = 0 → f_X5_go al a1 a4 u7 (fun u10 => (∀ v11 : Int32, v11 = a3 + 1 → (∀ v12 : Int32, v12 = a4 + 1 → rec v11 v12 u10))))))))
def f_X6_orbits_L27 (al : Nat) (a1 : Int32) (a2 : Int32) (Q : Int32 → St → Prop) (QX : String → St → Prop) (K0 : Int32 → St → Prop) : Nat → Int32 → Int32 → St → Prop
  | 0 => fun _ _ _ => False
  | n + 1 => f_X6_orbits_L27_s al a1 a2 Q QX K0 (f_X6_orbits_L27 al a1 a2 Q QX K0 n)
def f_X6_orbits (al : Nat) (a1 : Int32) (u : St) (Q : Int32 → St → Prop) (QX : String → St → Prop) : Prop :=
  f_X6_checkDegree al a1 u (fun u1 => f_X2_howMany al (a1 + 1) u1 (fun v2 u3 => f_X5_clear al u3 (fun u4 => (∃ n13, f_X6_orbits_L27 al a1 v2 Q QX (fun v14 u15 => Q v14 u15) n13 0 0 u4)))) QX
def f_X6_countLeftForms_L4_s (al : Nat) (a1 : Int32) (Q : Int32 → St → Prop) (K0 : Int32 → St → Prop) (rec : Int32 → Int32 → St → Prop) (a2 : Int32) (a3 : Int32) (u : St) : Prop :=
 (((u 0 5) ≤ a3 → K0 a2 u) ∧ (¬ (u 0 5) ≤ a3 → f_X4_matrix al a3 u (fun v2 u3 => f_X0_fill al v2 a1 u3 (fun u4 => f_X1_begin al (a1 + 1) u4 (fun u5 => f_X1_askToLeave al u5 (fun u6 => f_X1_freedom al u6 (fun v7 u8 => f_X2_howMany al v7 u8 (fun v9 u10 => (∀ v11 : Int32, v11 = (a2 + v9) → (∀ v12 : Int32, v12 = a3 + 1 → rec v11 v12 u10))))))))))
def f_X6_countLeftForms_L4 (al : Nat) (a1 : Int32) (Q : Int32 → St → Prop) (K0 : Int32 → St → Prop) : Nat → Int32 → Int32 → St → Prop
  | 0 => fun _ _ _ => False
  | n + 1 => f_X6_countLeftForms_L4_s al a1 Q K0 (f_X6_countLeftForms_L4 al a1 Q K0 n)
def f_X6_countLeftForms (al : Nat) (a1 : Int32) (u : St) (Q : Int32 → St → Prop) : Prop :=
 (∃ n13, f_X6_countLeftForms_L4 al a1 Q (fun v14 u15 => Q v14 u15) n13 0 0 u)
def f_X6_orbitsAnew (al : Nat) (a1 : Int32) (u : St) (Q : Int32 → St → Prop) (QX : String → St → Prop) : Prop :=
  f_X6_checkDegree al a1 u (fun u1 => f_X6_read al 12 a1 u1 (fun v2 u3 => ((¬ v2 = 0 → (((u3 0 5) ≤ 0 → Q 0 u3) ∧ (¬ (u3 0 5) ≤ 0 → f_X6_read al 12 a1 u3 (fun v6 u7 => (¬ (u7 0 5) = 0 ∧ (∀ v8 : Int32, v8 = (v6 / (u7 0 5)) → Q v8 u7)))))) ∧ (v2 = 0 → f_X6_countLeftForms al a1 u3 (fun v9 u10 => f_X6_write al 12 a1 v9 u10 (fun u11 => (((u11 0 5) ≤ 0 → Q 0 u11) ∧ (¬ (u11 0 5) ≤ 0 → f_X6_read al 12 a1 u11 (fun v13 u14 => (¬ (u14 0 5) = 0 ∧ (∀ v15 : Int32, v15 = (v13 / (u14 0 5)) → Q v15 u14))))))))))) QX
def f_X7_thrown (u : St) (Q : Int32 → St → Prop) : Prop :=
  Q (u 0 0) u
def f_X7_holds (a1 : Int32) (u : St) (Q : Int32 → St → Prop) : Prop :=
 (∀ u1 : St, u1 = su u 0 0 a1 → ((¬ a1 = 0 → Q 0 u1) ∧ (a1 = 0 → Q 1 u1)))
def f_X7_isIn (a0 : Int32) (a1 : Int32) (a2 : Int32) (u : St) (Q : Int32 → St → Prop) : Prop :=
 ((a0 < a1 → Q 0 u) ∧ (¬ a0 < a1 → ((a2 < a0 → Q 0 u) ∧ (¬ a2 < a0 → Q 1 u))))
def f_X7_isForm (a1 : Int32) (u : St) (Q : Int32 → St → Prop) : Prop :=
  f_X7_isIn a1 0 ((u 0 2) - 1) u (fun v1 u2 => ((v1 = 0 ∨ v1 = 1) ∧ Q v1 u2))
def f_X7_isDegree (a1 : Int32) (u : St) (Q : Int32 → St → Prop) : Prop :=
  f_X7_isIn a1 1 4 u (fun v1 u2 => ((v1 = 0 ∨ v1 = 1) ∧ Q v1 u2))
def f_X7_isNumber (a1 : Int32) (u : St) (Q : Int32 → St → Prop) : Prop :=
  f_X7_isIn a1 0 ((u 0 1) - 1) u (fun v1 u2 => ((v1 = 0 ∨ v1 = 1) ∧ Q v1 u2))
def f_X7_power_L4_s (a1 : Int32) (Q : Int32 → St → Prop) (K0 : Int32 → St → Prop) (rec : Int32 → Int32 → St → Prop) (a2 : Int32) (a3 : Int32) (u : St) : Prop :=
 ((a1 ≤ a3 → K0 a2 u) ∧ (¬ a1 ≤ a3 → (∀ v2 : Int32, v2 = (a2 * (u 0 1)) → (∀ v3 : Int32, v3 = a3 + 1 → rec v2 v3 u))))
def f_X7_power_L4 (a1 : Int32) (Q : Int32 → St → Prop) (K0 : Int32 → St → Prop) : Nat → Int32 → Int32 → St → Prop
  | 0 => fun _ _ _ => False
  | n + 1 => f_X7_power_L4_s a1 Q K0 (f_X7_power_L4 a1 Q K0 n)
def f_X7_power (a1 : Int32) (u : St) (Q : Int32 → St → Prop) : Prop :=
 (∃ n4, f_X7_power_L4 a1 Q (fun v5 u6 => Q v5 u6) n4 1 0 u)
def f_X7_mod (a1 : Int32) (u : St) (Q : Int32 → St → Prop) : Prop :=
 (¬ (u 0 1) = 0 ∧ (∀ v1 : Int32, v1 = (a1 - a1 / (u 0 1) * (u 0 1)) → ((0 ≤ v1 → Q v1 u) ∧ (¬ 0 ≤ v1 → Q (v1 + (u 0 1)) u))))
def f_X7_figure (a1 : Int32) (a2 : Int32) (u : St) (Q : Int32 → St → Prop) : Prop :=
  f_X7_power a2 u (fun v1 u2 => (¬ v1 = 0 ∧ (∀ v3 : Int32, v3 = (a1 / v1) → (¬ (u2 0 1) = 0 ∧ (∀ v4 : Int32, v4 = (v3 - v3 / (u2 0 1) * (u2 0 1)) → Q v4 u2)))))
def f_X7_prime (a1 : Int32) (u : St) (Q : Int32 → St → Prop) : Prop :=
 ((a1 = 2 → f_X7_holds 0 u (fun v2 u3 => ((¬ v2 = 0 → (∀ v5 : Int32, v5 = (u3 0 1) → (∀ u6 : St, u6 = su u3 0 1 a1 → (∀ u7 : St, u7 = su u6 0 2 0 → (∀ u8 : St, u8 = su u7 0 3 0 → Q v5 u8))))) ∧ (v2 = 0 → Q 0 u3)))) ∧ (¬ a1 = 2 → ((a1 = 3 → f_X7_holds 0 u (fun v10 u11 => ((¬ v10 = 0 → (∀ v13 : Int32, v13 = (u11 0 1) → (∀ u14 : St, u14 = su u11 0 1 a1 → (∀ u15 : St, u15 = su u14 0 2 0 → (∀ u16 : St, u16 = su u15 0 3 0 → Q v13 u16))))) ∧ (v10 = 0 → Q 0 u11)))) ∧ (¬ a1 = 3 → ((¬ a1 = 5 → f_X7_holds 1 u (fun v18 u19 => ((¬ v18 = 0 → (∀ v21 : Int32, v21 = (u19 0 1) → (∀ u22 : St, u22 = su u19 0 1 a1 → (∀ u23 : St, u23 = su u22 0 2 0 → (∀ u24 : St, u24 = su u23 0 3 0 → Q v21 u24))))) ∧ (v18 = 0 → Q 0 u19)))) ∧ (a1 = 5 → f_X7_holds 0 u (fun v25 u26 => ((¬ v25 = 0 → (∀ v28 : Int32, v28 = (u26 0 1) → (∀ u29 : St, u29 = su u26 0 1 a1 → (∀ u30 : St, u30 = su u29 0 2 0 → (∀ u31 : St, u31 = su u30 0 3 0 → Q v28 u31))))) ∧ (v25 = 0 → Q 0 u26)))))))))
def f_X7_form (a1 : Int32) (a2 : Int32) (u : St) (Q : Int32 → St → Prop) : Prop :=
  f_X7_isDegree a1 u (fun v1 u2 => ((v1 = 0 → f_X7_holds 1 u2 (fun v5 u6 => ((¬ v5 = 0 → (vp_in (u6 0 2) 20 ∧ ∀ u8 : St, u8 = su u6 1 (u6 0 2).toNatClampNeg a1 → (vp_in (u8 0 2) 20 ∧ ∀ u9 : St, u9 = su u8 2 (u8 0 2).toNatClampNeg a2 → (∀ u10 : St, u10 = su u9 0 2 ((u9 0 2) + 1) → Q ((u10 0 2) - 1) u10)))) ∧ (v5 = 0 → Q 0 u6)))) ∧ (¬ v1 = 0 → f_X7_power (a1 + 1) u2 (fun v11 u12 => f_X7_isIn a2 0 (v11 - 1) u12 (fun v13 u14 => ((v13 = 0 → f_X7_holds 1 u14 (fun v17 u18 => ((¬ v17 = 0 → (vp_in (u18 0 2) 20 ∧ ∀ u20 : St, u20 = su u18 1 (u18 0 2).toNatClampNeg a1 → (vp_in (u20 0 2) 20 ∧ ∀ u21 : St, u21 = su u20 2 (u20 0 2).toNatClampNeg a2 → (∀ u22 : St, u22 = su u21 0 2 ((u21 0 2) + 1) → Q ((u22 0 2) - 1) u22)))) ∧ (v17 = 0 → Q 0 u18)))) ∧ (¬ v13 = 0 → ((¬ (u14 0 2) = 20 → f_X7_holds 0 u14 (fun v25 u26 => ((¬ v25 = 0 → (vp_in (u26 0 2) 20 ∧ ∀ u28 : St, u28 = su u26 1 (u26 0 2).toNatClampNeg a1 → (vp_in (u28 0 2) 20 ∧ ∀ u29 : St, u29 = su u28 2 (u28 0 2).toNatClampNeg a2 → (∀ u30 : St, u30 = su u29 0 2 ((u29 0 2) + 1) → Q ((u30 0 2) - 1) u30)))) ∧ (v25 = 0 → Q 0 u26)))) ∧ ((u14 0 2) = 20 → f_X7_holds 2 u14 (fun v31 u32 => ((¬ v31 = 0 → (vp_in (u32 0 2) 20 ∧ ∀ u34 : St, u34 = su u32 1 (u32 0 2).toNatClampNeg a1 → (vp_in (u34 0 2) 20 ∧ ∀ u35 : St, u35 = su u34 2 (u34 0 2).toNatClampNeg a2 → (∀ u36 : St, u36 = su u35 0 2 ((u35 0 2) + 1) → Q ((u36 0 2) - 1) u36)))) ∧ (v31 = 0 → Q 0 u32))))))))))))
def f_X7_valueAt_L38_s (a1 : Int32) (a2 : Int32) (a3 : Int32) (a4 : Int32) (a5 : Int32) (a6 : Int32) (Q : Int32 → St → Prop) (K0 : Int32 → St → Prop) (rec : Int32 → Int32 → St → Prop) (a7 : Int32) (a8 : Int32) (u : St) : Prop :=
 ((a4 ≤ a8 → K0 a7 u) ∧ (¬ a4 ≤ a8 → ((a6 ≤ a8 → f_X7_mod (a7 * a2) u (fun v8 u9 => (∀ v10 : Int32, v10 = a8 + 1 → rec v8 v10 u9))) ∧ (¬ a6 ≤ a8 → f_X7_mod (a7 * a3) u (fun v11 u12 => (∀ v13 : Int32, v13 = a8 + 1 → rec v11 v13 u12))))))
def f_X7_valueAt_L38 (a1 : Int32) (a2 : Int32) (a3 : Int32) (a4 : Int32) (a5 : Int32) (a6 : Int32) (Q : Int32 → St → Prop) (K0 : Int32 → St → Prop) : Nat → Int32 → Int32 → St → Prop
  | 0 => fun _ _ _ => False
  | n + 1 => f_X7_valueAt_L38_s a1 a2 a3 a4 a5 a6 Q K0 (f_X7_valueAt_L38 a1 a2 a3 a4 a5 a6 Q K0 n)
def f_X7_valueAt_L14_s (a1 : Int32) (a2 : Int32) (a3 : Int32) (a4 : Int32) (Q : Int32 → St → Prop) (K0 : Int32 → St → Prop) (rec : Int32 → Int32 → St → Prop) (a5 : Int32) (a6 : Int32) (u : St) : Prop :=
 ((a4 < a6 → K0 a5 u) ∧ (¬ a4 < a6 → (vp_in a1 20 ∧ ∀ v3 : Int32, v3 = u 2 a1.toNatClampNeg → f_X7_figure v3 a6 u (fun v4 u5 => (∃ n14, f_X7_valueAt_L38 a1 a2 a3 a4 a5 a6 Q (fun v15 u16 => (∀ v17 : Int32, v17 = (a5 + v15) → (∀ v18 : Int32, v18 = a6 + 1 → rec v17 v18 u16))) n14 v4 0 u5)))))
def f_X7_valueAt_L14 (a1 : Int32) (a2 : Int32) (a3 : Int32) (a4 : Int32) (Q : Int32 → St → Prop) (K0 : Int32 → St → Prop) : Nat → Int32 → Int32 → St → Prop
  | 0 => fun _ _ _ => False
  | n + 1 => f_X7_valueAt_L14_s a1 a2 a3 a4 Q K0 (f_X7_valueAt_L14 a1 a2 a3 a4 Q K0 n)
def f_X7_valueAt (a1 : Int32) (a2 : Int32) (a3 : Int32) (u : St) (Q : Int32 → St → Prop) : Prop :=
 (vp_in a1 20 ∧ ∀ v1 : Int32, v1 = u 1 a1.toNatClampNeg → (∃ n19, f_X7_valueAt_L14 a1 a2 a3 v1 Q (fun v20 u21 => f_X7_mod v20 u21 (fun v22 u23 => Q v22 u23)) n19 0 0 u))
def f_X7_at (a1 : Int32) (a2 : Int32) (a3 : Int32) (u : St) (Q : Int32 → St → Prop) : Prop :=
  f_X7_isForm a1 u (fun v1 u2 => ((¬ v1 = 0 → f_X7_isNumber a2 u2 (fun v4 u5 => ((v4 = 0 → f_X7_holds 2 u5 (fun v7 u8 => ((v7 = 0 → Q 0 u8) ∧ (¬ v7 = 0 → f_X7_valueAt a1 a2 a3 u8 (fun v10 u11 => Q v10 u11))))) ∧ (¬ v4 = 0 → f_X7_isNumber a3 u5 (fun v12 u13 => ((¬ v12 = 0 → f_X7_holds 0 u13 (fun v15 u16 => ((v15 = 0 → Q 0 u16) ∧ (¬ v15 = 0 → f_X7_valueAt a1 a2 a3 u16 (fun v18 u19 => Q v18 u19))))) ∧ (v12 = 0 → f_X7_holds 2 u13 (fun v20 u21 => ((v20 = 0 → Q 0 u21) ∧ (¬ v20 = 0 → f_X7_valueAt a1 a2 a3 u21 (fun v23 u24 => Q v23 u24))))))))))) ∧ (v1 = 0 → f_X7_holds 1 u2 (fun v25 u26 => ((v25 = 0 → Q 0 u26) ∧ (¬ v25 = 0 → f_X7_valueAt a1 a2 a3 u26 (fun v28 u29 => Q v28 u29)))))))
def f_X7_oftenAt_L23_s (a1 : Int32) (a2 : Int32) (a3 : Int32) (Q : Int32 → St → Prop) (K0 : St → Prop) (rec : Int32 → St → Prop) (a4 : Int32) (u : St) : Prop :=
 ((a3 < a4 → K0 u) ∧ (¬ a3 < a4 → (vp_in a1 20 ∧ ∀ v5 : Int32, v5 = u 2 a1.toNatClampNeg → f_X7_figure v5 a4 u (fun v6 u7 => (vp_in a4 5 ∧ ∀ u8 : St, u8 = su u7 8 a4.toNatClampNeg v6 → (∀ v9 : Int32, v9 = a4 + 1 → rec v9 u8))))))
def f_X7_oftenAt_L23 (a1 : Int32) (a2 : Int32) (a3 : Int32) (Q : Int32 → St → Prop) (K0 : St → Prop) : Nat → Int32 → St → Prop
  | 0 => fun _ _ => False
  | n + 1 => f_X7_oftenAt_L23_s a1 a2 a3 Q K0 (f_X7_oftenAt_L23 a1 a2 a3 Q K0 n)
def f_X7_oftenAt_L92_s (a2 : Int32) (a3 : Int32) (a4 : Int32) (Q : Int32 → St → Prop) (K0 : Int32 → St → Prop) (rec : Int32 → Int32 → St → Prop) (a6 : Int32) (a7 : Int32) (u : St) : Prop :=
 ((a3 < a7 → K0 a6 u) ∧ (¬ a3 < a7 → (((u 0 1) ≤ a2 → K0 a6 u) ∧ (¬ (u 0 1) ≤ a2 → (vp_in a7 5 ∧ ∀ v17 : Int32, v17 = u 8 a7.toNatClampNeg → f_X7_mod (v17 + (a2 * a6)) u (fun v18 u19 => (vp_in a7 5 ∧ ∀ u20 : St, u20 = su u19 8 a7.toNatClampNeg v18 → (∀ v21 : Int32, v21 = a7 + 1 → rec v18 v21 u20))))))))
def f_X7_oftenAt_L92 (a2 : Int32) (a3 : Int32) (a4 : Int32) (Q : Int32 → St → Prop) (K0 : Int32 → St → Prop) : Nat → Int32 → Int32 → St → Prop
  | 0 => fun _ _ _ => False
  | n + 1 => f_X7_oftenAt_L92_s a2 a3 a4 Q K0 (f_X7_oftenAt_L92 a2 a3 a4 Q K0 n)
def f_X7_oftenAt_L154_s (a2 : Int32) (a3 : Int32) (a4 : Int32) (a5 : Int32) (Q : Int32 → St → Prop) (K0 : St → Prop) (rec : Int32 → St → Prop) (a7 : Int32) (u : St) : Prop :=
 ((a3 ≤ a7 → K0 u) ∧ (¬ a3 ≤ a7 → ((a5 = 0 → K0 u) ∧ (¬ a5 = 0 → ((¬ a2 = (u 0 1) → K0 u) ∧ (a2 = (u 0 1) → (vp_in (a7 + 1) 5 ∧ ∀ v29 : Int32, v29 = u 8 (a7 + 1).toNatClampNeg → (vp_in a7 5 ∧ ∀ u30 : St, u30 = su u 8 a7.toNatClampNeg v29 → (∀ v31 : Int32, v31 = a7 + 1 → rec v31 u30)))))))))
def f_X7_oftenAt_L154 (a2 : Int32) (a3 : Int32) (a4 : Int32) (a5 : Int32) (Q : Int32 → St → Prop) (K0 : St → Prop) : Nat → Int32 → St → Prop
  | 0 => fun _ _ => False
  | n + 1 => f_X7_oftenAt_L154_s a2 a3 a4 a5 Q K0 (f_X7_oftenAt_L154 a2 a3 a4 a5 Q K0 n)
def f_X7_oftenAt_L60_s (a2 : Int32) (Q : Int32 → St → Prop) (K0 : Int32 → St → Prop) (rec : Int32 → Int32 → Int32 → St → Prop) (a3 : Int32) (a4 : Int32) (a5 : Int32) (u : St) : Prop :=
 ((a5 = 0 → K0 a4 u) ∧ (¬ a5 = 0 → ((a3 < 0 → K0 a4 u) ∧ (¬ a3 < 0 → ((¬ a2 = (u 0 1) → (∃ n22, f_X7_oftenAt_L92 a2 a3 a4 Q (fun v23 u24 => ((¬ v23 = 0 → (∃ n32, f_X7_oftenAt_L154 a2 a3 a4 0 Q (fun u33 => (∀ v35 : Int32, v35 = (a4 + 0) → (∀ v36 : Int32, v36 = a3 + (-1) → rec v36 v35 0 u33))) n32 0 u24)) ∧ (v23 = 0 → (∃ n37, f_X7_oftenAt_L154 a2 a3 a4 1 Q (fun u38 => (∀ v40 : Int32, v40 = (a4 + 1) → (∀ v41 : Int32, v41 = a3 + (-1) → rec v41 v40 1 u38))) n37 0 u24)))) n22 0 0 u)) ∧ (a2 = (u 0 1) → (vp_in 0 5 ∧ ∀ v42 : Int32, v42 = u 8 (0 : Int32).toNatClampNeg → (∃ n43, f_X7_oftenAt_L92 a2 a3 a4 Q (fun v44 u45 => ((¬ v44 = 0 → (∃ n47, f_X7_oftenAt_L154 a2 a3 a4 0 Q (fun u48 => (∀ v50 : Int32, v50 = (a4 + 0) → (∀ v51 : Int32, v51 = a3 + (-1) → rec v51 v50 0 u48))) n47 0 u45)) ∧ (v44 = 0 → (∃ n52, f_X7_oftenAt_L154 a2 a3 a4 1 Q (fun u53 => (∀ v55 : Int32, v55 = (a4 + 1) → (∀ v56 : Int32, v56 = a3 + (-1) → rec v56 v55 1 u53))) n52 0 u45)))) n43 v42 0 u))))))))
def f_X7_oftenAt_L60 (a2 : Int32) (Q : Int32 → St → Prop) (K0 : Int32 → St → Prop) : Nat → Int32 → Int32 → Int32 → St → Prop
  | 0 => fun _ _ _ _ => False
  | n + 1 => f_X7_oftenAt_L60_s a2 Q K0 (f_X7_oftenAt_L60 a2 Q K0 n)
def f_X7_oftenAt (a1 : Int32) (a2 : Int32) (u : St) (Q : Int32 → St → Prop) : Prop :=
 (vp_in a1 20 ∧ ∀ v1 : Int32, v1 = u 1 a1.toNatClampNeg → (vp_in a1 20 ∧ ∀ v2 : Int32, v2 = u 2 a1.toNatClampNeg → ((¬ v2 = 0 → (∃ n10, f_X7_oftenAt_L23 a1 a2 v1 Q (fun u11 => (∃ n57, f_X7_oftenAt_L60 a2 Q (fun v58 u59 => Q v58 u59) n57 v1 0 1 u11)) n10 0 u)) ∧ (v2 = 0 → Q (v1 + 1) u))))
def f_X7_multiplicity (a1 : Int32) (a2 : Int32) (u : St) (Q : Int32 → St → Prop) : Prop :=
  f_X7_isForm a1 u (fun v1 u2 => ((v1 = 0 → f_X7_holds 1 u2 (fun v4 u5 => ((v4 = 0 → Q 0 u5) ∧ (¬ v4 = 0 → f_X7_oftenAt a1 a2 u5 (fun v7 u8 => Q v7 u8))))) ∧ (¬ v1 = 0 → f_X7_isIn a2 0 (u2 0 1) u2 (fun v9 u10 => ((v9 = 0 → f_X7_holds 1 u10 (fun v12 u13 => ((v12 = 0 → Q 0 u13) ∧ (¬ v12 = 0 → f_X7_oftenAt a1 a2 u13 (fun v15 u16 => Q v15 u16))))) ∧ (¬ v9 = 0 → f_X7_holds 0 u10 (fun v17 u18 => ((v17 = 0 → Q 0 u18) ∧ (¬ v17 = 0 → f_X7_oftenAt a1 a2 u18 (fun v20 u21 => Q v20 u21))))))))))
def f_X7_roots_L4_s (a1 : Int32) (Q : Int32 → St → Prop) (K0 : Int32 → St → Prop) (rec : Int32 → Int32 → St → Prop) (a2 : Int32) (a3 : Int32) (u : St) : Prop :=
 (((u 0 1) < a3 → K0 a2 u) ∧ (¬ (u 0 1) < a3 → f_X7_oftenAt a1 a3 u (fun v2 u3 => ((v2 ≤ 0 → (∀ v5 : Int32, v5 = (a2 + 0) → (∀ v6 : Int32, v6 = a3 + 1 → rec v5 v6 u3))) ∧ (¬ v2 ≤ 0 → (∀ v7 : Int32, v7 = (a2 + 1) → (∀ v8 : Int32, v8 = a3 + 1 → rec v7 v8 u3)))))))
def f_X7_roots_L4 (a1 : Int32) (Q : Int32 → St → Prop) (K0 : Int32 → St → Prop) : Nat → Int32 → Int32 → St → Prop
  | 0 => fun _ _ _ => False
  | n + 1 => f_X7_roots_L4_s a1 Q K0 (f_X7_roots_L4 a1 Q K0 n)
def f_X7_roots (a1 : Int32) (u : St) (Q : Int32 → St → Prop) : Prop :=
 (∃ n9, f_X7_roots_L4 a1 Q (fun v10 u11 => Q v10 u11) n9 0 0 u)
def f_X7_isNull_L4_s (a1 : Int32) (Q : Int32 → St → Prop) (K0 : Int32 → St → Prop) (rec : Int32 → Int32 → St → Prop) (a2 : Int32) (a3 : Int32) (u : St) : Prop :=
 (((u 0 1) < a3 → K0 a2 u) ∧ (¬ (u 0 1) < a3 → f_X7_oftenAt a1 a3 u (fun v2 u3 => (vp_in a1 20 ∧ ∀ v4 : Int32, v4 = u3 1 a1.toNatClampNeg → (((2 * v2) ≤ v4 → (∀ v6 : Int32, v6 = a3 + 1 → rec a2 v6 u3)) ∧ (¬ (2 * v2) ≤ v4 → (∀ v7 : Int32, v7 = a3 + 1 → rec 1 v7 u3)))))))
def f_X7_isNull_L4 (a1 : Int32) (Q : Int32 → St → Prop) (K0 : Int32 → St → Prop) : Nat → Int32 → Int32 → St → Prop
  | 0 => fun _ _ _ => False
  | n + 1 => f_X7_isNull_L4_s a1 Q K0 (f_X7_isNull_L4 a1 Q K0 n)
def f_X7_isNull (a1 : Int32) (u : St) (Q : Int32 → St → Prop) : Prop :=
 (∃ n8, f_X7_isNull_L4 a1 Q (fun v9 u10 => Q v9 u10) n8 0 0 u)
def f_X7_generator (a1 : Int32) (a2 : Int32) (a3 : Int32) (a4 : Int32) (u : St) (Q : Int32 → St → Prop) : Prop :=
  f_X7_isNumber a1 u (fun v1 u2 => ((v1 = 0 → f_X7_holds 1 u2 (fun v5 u6 => ((¬ v5 = 0 → (∀ v8 : Int32, v8 = (4 * (u6 0 3)) → (vp_in v8 16 ∧ ∀ u9 : St, u9 = su u6 3 v8.toNatClampNeg a1 → (vp_in (v8 + 1) 16 ∧ ∀ u10 : St, u10 = su u9 3 (v8 + 1).toNatClampNeg a2 → (vp_in (v8 + 2) 16 ∧ ∀ u11 : St, u11 = su u10 3 (v8 + 2).toNatClampNeg a3 → (vp_in (v8 + 3) 16 ∧ ∀ u12 : St, u12 = su u11 3 (v8 + 3).toNatClampNeg a4 → (∀ u13 : St, u13 = su u12 0 3 ((u12 0 3) + 1) → Q ((u13 0 3) - 1) u13))))))) ∧ (v5 = 0 → Q 0 u6)))) ∧ (¬ v1 = 0 → f_X7_isNumber a2 u2 (fun v14 u15 => ((v14 = 0 → f_X7_holds 1 u15 (fun v18 u19 => ((¬ v18 = 0 → (∀ v21 : Int32, v21 = (4 * (u19 0 3)) → (vp_in v21 16 ∧ ∀ u22 : St, u22 = su u19 3 v21.toNatClampNeg a1 → (vp_in (v21 + 1) 16 ∧ ∀ u23 : St, u23 = su u22 3 (v21 + 1).toNatClampNeg a2 → (vp_in (v21 + 2) 16 ∧ ∀ u24 : St, u24 = su u23 3 (v21 + 2).toNatClampNeg a3 → (vp_in (v21 + 3) 16 ∧ ∀ u25 : St, u25 = su u24 3 (v21 + 3).toNatClampNeg a4 → (∀ u26 : St, u26 = su u25 0 3 ((u25 0 3) + 1) → Q ((u26 0 3) - 1) u26))))))) ∧ (v18 = 0 → Q 0 u19)))) ∧ (¬ v14 = 0 → f_X7_isNumber a3 u15 (fun v27 u28 => ((v27 = 0 → f_X7_holds 1 u28 (fun v31 u32 => ((¬ v31 = 0 → (∀ v34 : Int32, v34 = (4 * (u32 0 3)) → (vp_in v34 16 ∧ ∀ u35 : St, u35 = su u32 3 v34.toNatClampNeg a1 → (vp_in (v34 + 1) 16 ∧ ∀ u36 : St, u36 = su u35 3 (v34 + 1).toNatClampNeg a2 → (vp_in (v34 + 2) 16 ∧ ∀ u37 : St, u37 = su u36 3 (v34 + 2).toNatClampNeg a3 → (vp_in (v34 + 3) 16 ∧ ∀ u38 : St, u38 = su u37 3 (v34 + 3).toNatClampNeg a4 → (∀ u39 : St, u39 = su u38 0 3 ((u38 0 3) + 1) → Q ((u39 0 3) - 1) u39))))))) ∧ (v31 = 0 → Q 0 u32)))) ∧ (¬ v27 = 0 → f_X7_isNumber a4 u28 (fun v40 u41 => ((v40 = 0 → f_X7_holds 1 u41 (fun v44 u45 => ((¬ v44 = 0 → (∀ v47 : Int32, v47 = (4 * (u45 0 3)) → (vp_in v47 16 ∧ ∀ u48 : St, u48 = su u45 3 v47.toNatClampNeg a1 → (vp_in (v47 + 1) 16 ∧ ∀ u49 : St, u49 = su u48 3 (v47 + 1).toNatClampNeg a2 → (vp_in (v47 + 2) 16 ∧ ∀ u50 : St, u50 = su u49 3 (v47 + 2).toNatClampNeg a3 → (vp_in (v47 + 3) 16 ∧ ∀ u51 : St, u51 = su u50 3 (v47 + 3).toNatClampNeg a4 → (∀ u52 : St, u52 = su u51 0 3 ((u51 0 3) + 1) → Q ((u52 0 3) - 1) u52))))))) ∧ (v44 = 0 → Q 0 u45)))) ∧ (¬ v40 = 0 → f_X7_mod ((a1 * a4) - (a2 * a3)) u41 (fun v54 u55 => ((¬ v54 = 0 → ((¬ (u55 0 3) = 4 → f_X7_holds 0 u55 (fun v58 u59 => ((¬ v58 = 0 → (∀ v61 : Int32, v61 = (4 * (u59 0 3)) → (vp_in v61 16 ∧ ∀ u62 : St, u62 = su u59 3 v61.toNatClampNeg a1 → (vp_in (v61 + 1) 16 ∧ ∀ u63 : St, u63 = su u62 3 (v61 + 1).toNatClampNeg a2 → (vp_in (v61 + 2) 16 ∧ ∀ u64 : St, u64 = su u63 3 (v61 + 2).toNatClampNeg a3 → (vp_in (v61 + 3) 16 ∧ ∀ u65 : St, u65 = su u64 3 (v61 + 3).toNatClampNeg a4 → (∀ u66 : St, u66 = su u65 0 3 ((u65 0 3) + 1) → Q ((u66 0 3) - 1) u66))))))) ∧ (v58 = 0 → Q 0 u59)))) ∧ ((u55 0 3) = 4 → f_X7_holds 2 u55 (fun v67 u68 => ((¬ v67 = 0 → (∀ v70 : Int32, v70 = (4 * (u68 0 3)) → (vp_in v70 16 ∧ ∀ u71 : St, u71 = su u68 3 v70.toNatClampNeg a1 → (vp_in (v70 + 1) 16 ∧ ∀ u72 : St, u72 = su u71 3 (v70 + 1).toNatClampNeg a2 → (vp_in (v70 + 2) 16 ∧ ∀ u73 : St, u73 = su u72 3 (v70 + 2).toNatClampNeg a3 → (vp_in (v70 + 3) 16 ∧ ∀ u74 : St, u74 = su u73 3 (v70 + 3).toNatClampNeg a4 → (∀ u75 : St, u75 = su u74 0 3 ((u74 0 3) + 1) → Q ((u75 0 3) - 1) u75))))))) ∧ (v67 = 0 → Q 0 u68)))))) ∧ (v54 = 0 → f_X7_holds 1 u55 (fun v76 u77 => ((¬ v76 = 0 → (∀ v79 : Int32, v79 = (4 * (u77 0 3)) → (vp_in v79 16 ∧ ∀ u80 : St, u80 = su u77 3 v79.toNatClampNeg a1 → (vp_in (v79 + 1) 16 ∧ ∀ u81 : St, u81 = su u80 3 (v79 + 1).toNatClampNeg a2 → (vp_in (v79 + 2) 16 ∧ ∀ u82 : St, u82 = su u81 3 (v79 + 2).toNatClampNeg a3 → (vp_in (v79 + 3) 16 ∧ ∀ u83 : St, u83 = su u82 3 (v79 + 3).toNatClampNeg a4 → (∀ u84 : St, u84 = su u83 0 3 ((u83 0 3) + 1) → Q ((u84 0 3) - 1) u84))))))) ∧ (v76 = 0 → Q 0 u77))))))))))))))))))
def f_X7_joins (a1 : Int32) (u : St) (Q : St → Prop) : Prop :=
 (vp_in a1 625 ∧ ∀ v1 : Int32, v1 = u 4 a1.toNatClampNeg → ((¬ v1 = 0 → Q u) ∧ (v1 = 0 → (vp_in a1 625 ∧ ∀ u3 : St, u3 = su u 4 a1.toNatClampNeg (vp_nar .boolean 1) → (vp_in (u3 0 4) 480 ∧ ∀ u4 : St, u4 = su u3 5 (u3 0 4).toNatClampNeg a1 → (∀ u5 : St, u5 = su u4 0 4 ((u4 0 4) + 1) → Q u5))))))
def f_X7_behind (a1 : Int32) (a2 : Int32) (u : St) (Q : Int32 → St → Prop) : Prop :=
  f_X7_figure a1 0 u (fun v1 u2 => f_X7_figure a1 1 u2 (fun v3 u4 => f_X7_figure a1 2 u4 (fun v5 u6 => f_X7_figure a1 3 u6 (fun v7 u8 => (∀ v9 : Int32, v9 = (4 * a2) → (vp_in v9 16 ∧ ∀ v10 : Int32, v10 = u8 3 v9.toNatClampNeg → (vp_in (v9 + 2) 16 ∧ ∀ v11 : Int32, v11 = u8 3 (v9 + 2).toNatClampNeg → f_X7_mod ((v1 * v10) + (v3 * v11)) u8 (fun v12 u13 => (vp_in (v9 + 1) 16 ∧ ∀ v14 : Int32, v14 = u13 3 (v9 + 1).toNatClampNeg → (vp_in (v9 + 3) 16 ∧ ∀ v15 : Int32, v15 = u13 3 (v9 + 3).toNatClampNeg → f_X7_mod ((v1 * v14) + (v3 * v15)) u13 (fun v16 u17 => (vp_in v9 16 ∧ ∀ v18 : Int32, v18 = u17 3 v9.toNatClampNeg → (vp_in (v9 + 2) 16 ∧ ∀ v19 : Int32, v19 = u17 3 (v9 + 2).toNatClampNeg → f_X7_mod ((v5 * v18) + (v7 * v19)) u17 (fun v20 u21 => (vp_in (v9 + 1) 16 ∧ ∀ v22 : Int32, v22 = u21 3 (v9 + 1).toNatClampNeg → (vp_in (v9 + 3) 16 ∧ ∀ v23 : Int32, v23 = u21 3 (v9 + 3).toNatClampNeg → f_X7_mod ((v5 * v22) + (v7 * v23)) u21 (fun v24 u25 => Q (((v12 + ((u13 0 1) * v16)) + (((u17 0 1) * (u17 0 1)) * v20)) + ((((u21 0 1) * (u21 0 1)) * (u21 0 1)) * v24)) u25)))))))))))))))))
def f_X7_gathers_L2_s  (Q : St → Prop) (K0 : St → Prop) (rec : Int32 → St → Prop) (a1 : Int32) (u : St) : Prop :=
 ((625 ≤ a1 → K0 u) ∧ (¬ 625 ≤ a1 → (vp_in a1 625 ∧ ∀ u2 : St, u2 = su u 4 a1.toNatClampNeg (vp_nar .boolean 0) → (∀ v3 : Int32, v3 = a1 + 1 → rec v3 u2))))
def f_X7_gathers_L2  (Q : St → Prop) (K0 : St → Prop) : Nat → Int32 → St → Prop
  | 0 => fun _ _ => False
  | n + 1 => f_X7_gathers_L2_s Q K0 (f_X7_gathers_L2 Q K0 n)
def f_X7_gathers_L59_s (a1 : Int32) (Q : St → Prop) (K0 : St → Prop) (rec : Int32 → St → Prop) (a2 : Int32) (u : St) : Prop :=
 (((u 0 3) ≤ a2 → K0 u) ∧ (¬ (u 0 3) ≤ a2 → (vp_in a1 480 ∧ ∀ v10 : Int32, v10 = u 5 a1.toNatClampNeg → f_X7_behind v10 a2 u (fun v11 u12 => f_X7_joins v11 u12 (fun u13 => (∀ v14 : Int32, v14 = a2 + 1 → rec v14 u13))))))
def f_X7_gathers_L59 (a1 : Int32) (Q : St → Prop) (K0 : St → Prop) : Nat → Int32 → St → Prop
  | 0 => fun _ _ => False
  | n + 1 => f_X7_gathers_L59_s a1 Q K0 (f_X7_gathers_L59 a1 Q K0 n)
def f_X7_gathers_L49_s  (Q : St → Prop) (K0 : St → Prop) (rec : Int32 → St → Prop) (a1 : Int32) (u : St) : Prop :=
 (((u 0 4) ≤ a1 → K0 u) ∧ (¬ (u 0 4) ≤ a1 → (∃ n15, f_X7_gathers_L59 a1 Q (fun u16 => (∀ v17 : Int32, v17 = a1 + 1 → rec v17 u16)) n15 0 u)))
def f_X7_gathers_L49  (Q : St → Prop) (K0 : St → Prop) : Nat → Int32 → St → Prop
  | 0 => fun _ _ => False
  | n + 1 => f_X7_gathers_L49_s Q K0 (f_X7_gathers_L49 Q K0 n)
def f_X7_gathers (u : St) (Q : St → Prop) : Prop :=
 (∃ n4, f_X7_gathers_L2 Q (fun u5 => (∀ u6 : St, u6 = su u5 0 4 0 → f_X7_joins (1 + (((u6 0 1) * (u6 0 1)) * (u6 0 1))) u6 (fun u7 => (∃ n18, f_X7_gathers_L49 Q (fun u19 => Q u19) n18 0 u7)))) n4 0 u)
def f_X7_order (u : St) (Q : Int32 → St → Prop) : Prop :=
 (∀ u1 : St, u1 = su u 0 0 0 → f_X7_gathers u1 (fun u2 => Q (u2 0 4) u2))
def f_X7_generatorCode (a1 : Int32) (u : St) (Q : Int32 → St → Prop) : Prop :=
 (∀ v1 : Int32, v1 = (4 * a1) → (vp_in v1 16 ∧ ∀ v2 : Int32, v2 = u 3 v1.toNatClampNeg → (vp_in (v1 + 1) 16 ∧ ∀ v3 : Int32, v3 = u 3 (v1 + 1).toNatClampNeg → (vp_in (v1 + 2) 16 ∧ ∀ v4 : Int32, v4 = u 3 (v1 + 2).toNatClampNeg → (vp_in (v1 + 3) 16 ∧ ∀ v5 : Int32, v5 = u 3 (v1 + 3).toNatClampNeg → Q (((v2 + ((u 0 1) * v3)) + (((u 0 1) * (u 0 1)) * v4)) + ((((u 0 1) * (u 0 1)) * (u 0 1)) * v5)) u)))))
def f_X7_learns_L10_s (a1 : Int32) (a2 : Int32) (a3 : Int32) (Q : St → Prop) (K0 : St → Prop) (rec : Int32 → St → Prop) (a4 : Int32) (u : St) : Prop :=
 ((5 ≤ a4 → K0 u) ∧ (¬ 5 ≤ a4 → ((¬ a4 = 0 → (vp_in a4 5 ∧ ∀ u4 : St, u4 = su u 8 a4.toNatClampNeg 0 → (∀ v5 : Int32, v5 = a4 + 1 → rec v5 u4))) ∧ (a4 = 0 → (vp_in a4 5 ∧ ∀ u6 : St, u6 = su u 8 a4.toNatClampNeg 1 → (∀ v7 : Int32, v7 = a4 + 1 → rec v7 u6))))))
def f_X7_learns_L10 (a1 : Int32) (a2 : Int32) (a3 : Int32) (Q : St → Prop) (K0 : St → Prop) : Nat → Int32 → St → Prop
  | 0 => fun _ _ => False
  | n + 1 => f_X7_learns_L10_s a1 a2 a3 Q K0 (f_X7_learns_L10 a1 a2 a3 Q K0 n)
def f_X7_learns_L90_s (a1 : Int32) (a2 : Int32) (a3 : Int32) (a4 : Int32) (a5 : Int32) (a6 : Int32) (Q : St → Prop) (K0 : St → Prop) (rec : Int32 → St → Prop) (a7 : Int32) (u : St) : Prop :=
 ((a7 ≤ 0 → K0 u) ∧ (¬ a7 ≤ 0 → (vp_in a7 5 ∧ ∀ v19 : Int32, v19 = u 8 a7.toNatClampNeg → (vp_in (a7 - 1) 5 ∧ ∀ v20 : Int32, v20 = u 8 (a7 - 1).toNatClampNeg → f_X7_mod ((a5 * v19) + (a6 * v20)) u (fun v21 u22 => (vp_in a7 5 ∧ ∀ u23 : St, u23 = su u22 8 a7.toNatClampNeg v21 → (∀ v24 : Int32, v24 = a7 + (-1) → rec v24 u23)))))))
def f_X7_learns_L90 (a1 : Int32) (a2 : Int32) (a3 : Int32) (a4 : Int32) (a5 : Int32) (a6 : Int32) (Q : St → Prop) (K0 : St → Prop) : Nat → Int32 → St → Prop
  | 0 => fun _ _ => False
  | n + 1 => f_X7_learns_L90_s a1 a2 a3 a4 a5 a6 Q K0 (f_X7_learns_L90 a1 a2 a3 a4 a5 a6 Q K0 n)
def f_X7_learns_L42_s (a1 : Int32) (a2 : Int32) (a3 : Int32) (Q : St → Prop) (K0 : St → Prop) (rec : Int32 → St → Prop) (a4 : Int32) (u : St) : Prop :=
 ((a2 ≤ a4 → K0 u) ∧ (¬ a2 ≤ a4 → ((a3 ≤ a4 → f_X7_figure a1 0 u (fun v12 u13 => ((a3 ≤ a4 → f_X7_figure a1 1 u13 (fun v15 u16 => (∀ v17 : Int32, v17 = (a4 + 1) → (∃ n25, f_X7_learns_L90 a1 a2 a3 a4 v12 v15 Q (fun u26 => (vp_in 0 5 ∧ ∀ v27 : Int32, v27 = u26 8 (0 : Int32).toNatClampNeg → f_X7_mod (v12 * v27) u26 (fun v28 u29 => (vp_in 0 5 ∧ ∀ u30 : St, u30 = su u29 8 (0 : Int32).toNatClampNeg v28 → (∀ v31 : Int32, v31 = a4 + 1 → rec v31 u30))))) n25 v17 u16)))) ∧ (¬ a3 ≤ a4 → f_X7_figure a1 3 u13 (fun v32 u33 => (∀ v34 : Int32, v34 = (a4 + 1) → (∃ n35, f_X7_learns_L90 a1 a2 a3 a4 v12 v32 Q (fun u36 => (vp_in 0 5 ∧ ∀ v37 : Int32, v37 = u36 8 (0 : Int32).toNatClampNeg → f_X7_mod (v12 * v37) u36 (fun v38 u39 => (vp_in 0 5 ∧ ∀ u40 : St, u40 = su u39 8 (0 : Int32).toNatClampNeg v38 → (∀ v41 : Int32, v41 = a4 + 1 → rec v41 u40))))) n35 v34 u33))))))) ∧ (¬ a3 ≤ a4 → f_X7_figure a1 2 u (fun v42 u43 => ((a3 ≤ a4 → f_X7_figure a1 1 u43 (fun v45 u46 => (∀ v47 : Int32, v47 = (a4 + 1) → (∃ n48, f_X7_learns_L90 a1 a2 a3 a4 v42 v45 Q (fun u49 => (vp_in 0 5 ∧ ∀ v50 : Int32, v50 = u49 8 (0 : Int32).toNatClampNeg → f_X7_mod (v42 * v50) u49 (fun v51 u52 => (vp_in 0 5 ∧ ∀ u53 : St, u53 = su u52 8 (0 : Int32).toNatClampNeg v51 → (∀ v54 : Int32, v54 = a4 + 1 → rec v54 u53))))) n48 v47 u46)))) ∧ (¬ a3 ≤ a4 → f_X7_figure a1 3 u43 (fun v55 u56 => (∀ v57 : Int32, v57 = (a4 + 1) → (∃ n58, f_X7_learns_L90 a1 a2 a3 a4 v42 v55 Q (fun u59 => (vp_in 0 5 ∧ ∀ v60 : Int32, v60 = u59 8 (0 : Int32).toNatClampNeg → f_X7_mod (v42 * v60) u59 (fun v61 u62 => (vp_in 0 5 ∧ ∀ u63 : St, u63 = su u62 8 (0 : Int32).toNatClampNeg v61 → (∀ v64 : Int32, v64 = a4 + 1 → rec v64 u63))))) n58 v57 u56))))))))))
def f_X7_learns_L42 (a1 : Int32) (a2 : Int32) (a3 : Int32) (Q : St → Prop) (K0 : St → Prop) : Nat → Int32 → St → Prop
  | 0 => fun _ _ => False
  | n + 1 => f_X7_learns_L42_s a1 a2 a3 Q K0 (f_X7_learns_L42 a1 a2 a3 Q K0 n)
def f_X7_learns_L163_s (a1 : Int32) (a2 : Int32) (a3 : Int32) (Q : St → Prop) (K0 : St → Prop) (rec : Int32 → St → Prop) (a4 : Int32) (u : St) : Prop :=
 ((a2 < a4 → K0 u) ∧ (¬ a2 < a4 → (vp_in a4 5 ∧ ∀ v68 : Int32, v68 = u 8 a4.toNatClampNeg → (vp_in ((5 * a4) + a3) 25 ∧ ∀ u69 : St, u69 = su u 6 ((5 * a4) + a3).toNatClampNeg v68 → (∀ v70 : Int32, v70 = a4 + 1 → rec v70 u69)))))
def f_X7_learns_L163 (a1 : Int32) (a2 : Int32) (a3 : Int32) (Q : St → Prop) (K0 : St → Prop) : Nat → Int32 → St → Prop
  | 0 => fun _ _ => False
  | n + 1 => f_X7_learns_L163_s a1 a2 a3 Q K0 (f_X7_learns_L163 a1 a2 a3 Q K0 n)
def f_X7_learns_L2_s (a1 : Int32) (a2 : Int32) (Q : St → Prop) (K0 : St → Prop) (rec : Int32 → St → Prop) (a3 : Int32) (u : St) : Prop :=
 ((a2 < a3 → K0 u) ∧ (¬ a2 < a3 → (∃ n8, f_X7_learns_L10 a1 a2 a3 Q (fun u9 => (∃ n65, f_X7_learns_L42 a1 a2 a3 Q (fun u66 => (∃ n71, f_X7_learns_L163 a1 a2 a3 Q (fun u72 => (∀ v73 : Int32, v73 = a3 + 1 → rec v73 u72)) n71 0 u66)) n65 0 u9)) n8 0 u)))
def f_X7_learns_L2 (a1 : Int32) (a2 : Int32) (Q : St → Prop) (K0 : St → Prop) : Nat → Int32 → St → Prop
  | 0 => fun _ _ => False
  | n + 1 => f_X7_learns_L2_s a1 a2 Q K0 (f_X7_learns_L2 a1 a2 Q K0 n)
def f_X7_learns (a1 : Int32) (a2 : Int32) (u : St) (Q : St → Prop) : Prop :=
 (∃ n74, f_X7_learns_L2 a1 a2 Q (fun u75 => Q u75) n74 0 u)
def f_X7_made_L16_s (a1 : Int32) (a2 : Int32) (a3 : Int32) (a4 : Int32) (Q : Int32 → St → Prop) (K0 : Int32 → St → Prop) (rec : Int32 → Int32 → St → Prop) (a5 : Int32) (a6 : Int32) (u : St) : Prop :=
 ((a2 < a6 → K0 a5 u) ∧ (¬ a2 < a6 → (vp_in ((5 * a4) + a6) 25 ∧ ∀ v3 : Int32, v3 = u 6 ((5 * a4) + a6).toNatClampNeg → f_X7_figure a1 a6 u (fun v4 u5 => (∀ v6 : Int32, v6 = (a5 + (v3 * v4)) → (∀ v7 : Int32, v7 = a6 + 1 → rec v6 v7 u5))))))
def f_X7_made_L16 (a1 : Int32) (a2 : Int32) (a3 : Int32) (a4 : Int32) (Q : Int32 → St → Prop) (K0 : Int32 → St → Prop) : Nat → Int32 → Int32 → St → Prop
  | 0 => fun _ _ _ => False
  | n + 1 => f_X7_made_L16_s a1 a2 a3 a4 Q K0 (f_X7_made_L16 a1 a2 a3 a4 Q K0 n)
def f_X7_made_L5_s (a1 : Int32) (a2 : Int32) (Q : Int32 → St → Prop) (K0 : Int32 → St → Prop) (rec : Int32 → Int32 → St → Prop) (a3 : Int32) (a4 : Int32) (u : St) : Prop :=
 ((a4 < 0 → K0 a3 u) ∧ (¬ a4 < 0 → (∃ n8, f_X7_made_L16 a1 a2 a3 a4 Q (fun v9 u10 => f_X7_mod v9 u10 (fun v11 u12 => (∀ v13 : Int32, v13 = (((u10 0 1) * a3) + v11) → (∀ v14 : Int32, v14 = a4 + (-1) → rec v13 v14 u12)))) n8 0 0 u)))
def f_X7_made_L5 (a1 : Int32) (a2 : Int32) (Q : Int32 → St → Prop) (K0 : Int32 → St → Prop) : Nat → Int32 → Int32 → St → Prop
  | 0 => fun _ _ _ => False
  | n + 1 => f_X7_made_L5_s a1 a2 Q K0 (f_X7_made_L5 a1 a2 Q K0 n)
def f_X7_made (a1 : Int32) (a2 : Int32) (u : St) (Q : Int32 → St → Prop) : Prop :=
 (∃ n15, f_X7_made_L5 a1 a2 Q (fun v16 u17 => Q v16 u17) n15 0 a2 u)
def f_X7_changedBy (a1 : Int32) (a2 : Int32) (u : St) (Q : Int32 → St → Prop) : Prop :=
  f_X7_generatorCode a2 u (fun v1 u2 => (vp_in a1 20 ∧ ∀ v3 : Int32, v3 = u2 1 a1.toNatClampNeg → f_X7_learns v1 v3 u2 (fun u4 => (vp_in a1 20 ∧ ∀ v5 : Int32, v5 = u4 2 a1.toNatClampNeg → (vp_in a1 20 ∧ ∀ v6 : Int32, v6 = u4 1 a1.toNatClampNeg → f_X7_made v5 v6 u4 (fun v7 u8 => Q v7 u8))))))
def f_X7_changed (a1 : Int32) (a2 : Int32) (u : St) (Q : Int32 → St → Prop) : Prop :=
  f_X7_isForm a1 u (fun v1 u2 => ((v1 = 0 → f_X7_holds 1 u2 (fun v4 u5 => ((v4 = 0 → Q 0 u5) ∧ (¬ v4 = 0 → f_X7_changedBy a1 a2 u5 (fun v7 u8 => Q v7 u8))))) ∧ (¬ v1 = 0 → f_X7_isIn a2 0 ((u2 0 3) - 1) u2 (fun v9 u10 => ((v9 = 0 → f_X7_holds 1 u10 (fun v12 u13 => ((v12 = 0 → Q 0 u13) ∧ (¬ v12 = 0 → f_X7_changedBy a1 a2 u13 (fun v15 u16 => Q v15 u16))))) ∧ (¬ v9 = 0 → f_X7_holds 0 u10 (fun v17 u18 => ((v17 = 0 → Q 0 u18) ∧ (¬ v17 = 0 → f_X7_changedBy a1 a2 u18 (fun v20 u21 => Q v20 u21))))))))))
def f_X7_isFixed_L4_s (a1 : Int32) (Q : Int32 → St → Prop) (K0 : Int32 → St → Prop) (rec : Int32 → Int32 → St → Prop) (a2 : Int32) (a3 : Int32) (u : St) : Prop :=
 (((u 0 3) ≤ a3 → K0 a2 u) ∧ (¬ (u 0 3) ≤ a3 → ((a2 = 0 → (∀ v3 : Int32, v3 = a3 + 1 → rec 0 v3 u)) ∧ (¬ a2 = 0 → f_X7_changedBy a1 a3 u (fun v4 u5 => (vp_in a1 20 ∧ ∀ v6 : Int32, v6 = u5 2 a1.toNatClampNeg → ((¬ v4 = v6 → (∀ v8 : Int32, v8 = a3 + 1 → rec 0 v8 u5)) ∧ (v4 = v6 → (∀ v9 : Int32, v9 = a3 + 1 → rec 1 v9 u5)))))))))
def f_X7_isFixed_L4 (a1 : Int32) (Q : Int32 → St → Prop) (K0 : Int32 → St → Prop) : Nat → Int32 → Int32 → St → Prop
  | 0 => fun _ _ _ => False
  | n + 1 => f_X7_isFixed_L4_s a1 Q K0 (f_X7_isFixed_L4 a1 Q K0 n)
def f_X7_isFixed (a1 : Int32) (u : St) (Q : Int32 → St → Prop) : Prop :=
 (∃ n10, f_X7_isFixed_L4 a1 Q (fun v11 u12 => ((v11 = 0 → Q 0 u12) ∧ (¬ v11 = 0 → Q 1 u12))) n10 1 0 u)
def f_X7_inverse_L4_s (a1 : Int32) (Q : Int32 → St → Prop) (K0 : Int32 → St → Prop) (rec : Int32 → Int32 → St → Prop) (a2 : Int32) (a3 : Int32) (u : St) : Prop :=
 (((u 0 1) ≤ a3 → K0 a2 u) ∧ (¬ (u 0 1) ≤ a3 → f_X7_mod (a3 * a1) u (fun v2 u3 => ((¬ v2 = 1 → (∀ v5 : Int32, v5 = a3 + 1 → rec a2 v5 u3)) ∧ (v2 = 1 → (∀ v6 : Int32, v6 = a3 + 1 → rec a3 v6 u3))))))
def f_X7_inverse_L4 (a1 : Int32) (Q : Int32 → St → Prop) (K0 : Int32 → St → Prop) : Nat → Int32 → Int32 → St → Prop
  | 0 => fun _ _ _ => False
  | n + 1 => f_X7_inverse_L4_s a1 Q K0 (f_X7_inverse_L4 a1 Q K0 n)
def f_X7_inverse (a1 : Int32) (u : St) (Q : Int32 → St → Prop) : Prop :=
 (∃ n7, f_X7_inverse_L4 a1 Q (fun v8 u9 => Q v8 u9) n7 0 1 u)
def f_X7_averageOf_L27_s (a1 : Int32) (a2 : Int32) (a3 : Int32) (Q : Int32 → St → Prop) (K0 : St → Prop) (rec : Int32 → St → Prop) (a4 : Int32) (u : St) : Prop :=
 ((a2 < a4 → K0 u) ∧ (¬ a2 < a4 → (vp_in a4 5 ∧ ∀ u8 : St, u8 = su u 11 a4.toNatClampNeg 0 → (∀ v9 : Int32, v9 = a4 + 1 → rec v9 u8))))
def f_X7_averageOf_L27 (a1 : Int32) (a2 : Int32) (a3 : Int32) (Q : Int32 → St → Prop) (K0 : St → Prop) : Nat → Int32 → St → Prop
  | 0 => fun _ _ => False
  | n + 1 => f_X7_averageOf_L27_s a1 a2 a3 Q K0 (f_X7_averageOf_L27 a1 a2 a3 Q K0 n)
def f_X7_averageOf_L87_s (a1 : Int32) (a2 : Int32) (a3 : Int32) (a4 : Int32) (a5 : Int32) (Q : Int32 → St → Prop) (K0 : St → Prop) (rec : Int32 → St → Prop) (a6 : Int32) (u : St) : Prop :=
 ((a2 < a6 → K0 u) ∧ (¬ a2 < a6 → (vp_in a6 5 ∧ ∀ v19 : Int32, v19 = u 11 a6.toNatClampNeg → f_X7_figure a5 a6 u (fun v20 u21 => (vp_in a6 5 ∧ ∀ u22 : St, u22 = su u21 11 a6.toNatClampNeg (v19 + v20) → (∀ v23 : Int32, v23 = a6 + 1 → rec v23 u22))))))
def f_X7_averageOf_L87 (a1 : Int32) (a2 : Int32) (a3 : Int32) (a4 : Int32) (a5 : Int32) (Q : Int32 → St → Prop) (K0 : St → Prop) : Nat → Int32 → St → Prop
  | 0 => fun _ _ => False
  | n + 1 => f_X7_averageOf_L87_s a1 a2 a3 a4 a5 Q K0 (f_X7_averageOf_L87 a1 a2 a3 a4 a5 Q K0 n)
def f_X7_averageOf_L50_s (a1 : Int32) (a2 : Int32) (a3 : Int32) (Q : Int32 → St → Prop) (K0 : St → Prop) (rec : Int32 → St → Prop) (a4 : Int32) (u : St) : Prop :=
 (((u 0 4) ≤ a4 → K0 u) ∧ (¬ (u 0 4) ≤ a4 → (vp_in a4 480 ∧ ∀ v13 : Int32, v13 = u 5 a4.toNatClampNeg → f_X7_learns v13 a2 u (fun u14 => (vp_in a1 20 ∧ ∀ v15 : Int32, v15 = u14 2 a1.toNatClampNeg → f_X7_made v15 a2 u14 (fun v16 u17 => (∃ n24, f_X7_averageOf_L87 a1 a2 a3 a4 v16 Q (fun u25 => (∀ v26 : Int32, v26 = a4 + 1 → rec v26 u25)) n24 0 u17)))))))
def f_X7_averageOf_L50 (a1 : Int32) (a2 : Int32) (a3 : Int32) (Q : Int32 → St → Prop) (K0 : St → Prop) : Nat → Int32 → St → Prop
  | 0 => fun _ _ => False
  | n + 1 => f_X7_averageOf_L50_s a1 a2 a3 Q K0 (f_X7_averageOf_L50 a1 a2 a3 Q K0 n)
def f_X7_averageOf_L129_s (a3 : Int32) (Q : Int32 → St → Prop) (K0 : Int32 → St → Prop) (rec : Int32 → Int32 → St → Prop) (a4 : Int32) (a5 : Int32) (u : St) : Prop :=
 ((a5 < 0 → K0 a4 u) ∧ (¬ a5 < 0 → (vp_in a5 5 ∧ ∀ v30 : Int32, v30 = u 11 a5.toNatClampNeg → f_X7_mod v30 u (fun v31 u32 => f_X7_mod (v31 * a3) u32 (fun v33 u34 => (∀ v35 : Int32, v35 = (((u 0 1) * a4) + v33) → (∀ v36 : Int32, v36 = a5 + (-1) → rec v35 v36 u34)))))))
def f_X7_averageOf_L129 (a3 : Int32) (Q : Int32 → St → Prop) (K0 : Int32 → St → Prop) : Nat → Int32 → Int32 → St → Prop
  | 0 => fun _ _ _ => False
  | n + 1 => f_X7_averageOf_L129_s a3 Q K0 (f_X7_averageOf_L129 a3 Q K0 n)
def f_X7_averageOf (a1 : Int32) (u : St) (Q : Int32 → St → Prop) : Prop :=
  f_X7_gathers u (fun u1 => (vp_in a1 20 ∧ ∀ v2 : Int32, v2 = u1 1 a1.toNatClampNeg → f_X7_mod (u1 0 4) u1 (fun v3 u4 => f_X7_inverse v3 u4 (fun v5 u6 => (∃ n10, f_X7_averageOf_L27 a1 v2 v5 Q (fun u11 => (∃ n27, f_X7_averageOf_L50 a1 v2 v5 Q (fun u28 => (∃ n37, f_X7_averageOf_L129 v5 Q (fun v38 u39 => ((¬ v5 = 0 → Q v38 u39) ∧ (v5 = 0 → Q (-1) u39))) n37 0 v2 u28)) n27 0 u11)) n10 0 u6)))))
def f_X7_average (a1 : Int32) (u : St) (Q : Int32 → St → Prop) : Prop :=
  f_X7_isForm a1 u (fun v1 u2 => ((v1 = 0 → f_X7_holds 1 u2 (fun v4 u5 => ((v4 = 0 → Q 0 u5) ∧ (¬ v4 = 0 → f_X7_averageOf a1 u5 (fun v7 u8 => Q v7 u8))))) ∧ (¬ v1 = 0 → f_X7_holds 0 u2 (fun v9 u10 => ((v9 = 0 → Q 0 u10) ∧ (¬ v9 = 0 → f_X7_averageOf a1 u10 (fun v12 u13 => Q v12 u13)))))))
def f_X7_laysRows_L9_s (a1 : Int32) (a2 : Int32) (Q : St → Prop) (K0 : St → Prop) (rec : Int32 → St → Prop) (a3 : Int32) (u : St) : Prop :=
 ((a1 < a3 → K0 u) ∧ (¬ a1 < a3 → (vp_in ((5 * a2) + a3) 25 ∧ ∀ v3 : Int32, v3 = u 6 ((5 * a2) + a3).toNatClampNeg → ((¬ a2 = a3 → f_X7_mod (v3 - 0) u (fun v5 u6 => (vp_in ((5 * (u 0 5)) + a3) 100 ∧ ∀ u7 : St, u7 = su u6 7 ((5 * (u 0 5)) + a3).toNatClampNeg v5 → (∀ v8 : Int32, v8 = a3 + 1 → rec v8 u7)))) ∧ (a2 = a3 → f_X7_mod (v3 - 1) u (fun v9 u10 => (vp_in ((5 * (u 0 5)) + a3) 100 ∧ ∀ u11 : St, u11 = su u10 7 ((5 * (u 0 5)) + a3).toNatClampNeg v9 → (∀ v12 : Int32, v12 = a3 + 1 → rec v12 u11))))))))
def f_X7_laysRows_L9 (a1 : Int32) (a2 : Int32) (Q : St → Prop) (K0 : St → Prop) : Nat → Int32 → St → Prop
  | 0 => fun _ _ => False
  | n + 1 => f_X7_laysRows_L9_s a1 a2 Q K0 (f_X7_laysRows_L9 a1 a2 Q K0 n)
def f_X7_laysRows_L2_s (a1 : Int32) (Q : St → Prop) (K0 : St → Prop) (rec : Int32 → St → Prop) (a2 : Int32) (u : St) : Prop :=
 ((a1 < a2 → K0 u) ∧ (¬ a1 < a2 → (∃ n13, f_X7_laysRows_L9 a1 a2 Q (fun u14 => (∀ u15 : St, u15 = su u14 0 5 ((u14 0 5) + 1) → (∀ v16 : Int32, v16 = a2 + 1 → rec v16 u15))) n13 0 u)))
def f_X7_laysRows_L2 (a1 : Int32) (Q : St → Prop) (K0 : St → Prop) : Nat → Int32 → St → Prop
  | 0 => fun _ _ => False
  | n + 1 => f_X7_laysRows_L2_s a1 Q K0 (f_X7_laysRows_L2 a1 Q K0 n)
def f_X7_laysRows (a1 : Int32) (u : St) (Q : St → Prop) : Prop :=
 (∃ n17, f_X7_laysRows_L2 a1 Q (fun u18 => Q u18) n17 0 u)
def f_X7_free_L12_s (a1 : Int32) (a2 : Int32) (a3 : Int32) (Q : Int32 → St → Prop) (K0 : Int32 → St → Prop) (rec : Int32 → St → Prop) (a4 : Int32) (u : St) : Prop :=
 (((u 0 5) ≤ a4 → K0 a4 u) ∧ (¬ (u 0 5) ≤ a4 → (vp_in ((5 * a4) + a3) 100 ∧ ∀ v3 : Int32, v3 = u 7 ((5 * a4) + a3).toNatClampNeg → ((¬ v3 = 0 → K0 a4 u) ∧ (v3 = 0 → (∀ v5 : Int32, v5 = a4 + 1 → rec v5 u))))))
def f_X7_free_L12 (a1 : Int32) (a2 : Int32) (a3 : Int32) (Q : Int32 → St → Prop) (K0 : Int32 → St → Prop) : Nat → Int32 → St → Prop
  | 0 => fun _ _ => False
  | n + 1 => f_X7_free_L12_s a1 a2 a3 Q K0 (f_X7_free_L12 a1 a2 a3 Q K0 n)
def f_X7_free_L70_s (a1 : Int32) (a2 : Int32) (a3 : Int32) (a4 : Int32) (a5 : Int32) (Q : Int32 → St → Prop) (K0 : St → Prop) (rec : Int32 → St → Prop) (a6 : Int32) (u : St) : Prop :=
 ((a1 < a6 → K0 u) ∧ (¬ a1 < a6 → (vp_in ((5 * a4) + a6) 100 ∧ ∀ v15 : Int32, v15 = u 7 ((5 * a4) + a6).toNatClampNeg → f_X7_mod (v15 * a5) u (fun v16 u17 => (vp_in ((5 * a2) + a6) 100 ∧ ∀ v18 : Int32, v18 = u17 7 ((5 * a2) + a6).toNatClampNeg → (vp_in ((5 * a4) + a6) 100 ∧ ∀ u19 : St, u19 = su u17 7 ((5 * a4) + a6).toNatClampNeg v18 → (vp_in ((5 * a2) + a6) 100 ∧ ∀ u20 : St, u20 = su u19 7 ((5 * a2) + a6).toNatClampNeg v16 → (∀ v21 : Int32, v21 = a6 + 1 → rec v21 u20))))))))
def f_X7_free_L70 (a1 : Int32) (a2 : Int32) (a3 : Int32) (a4 : Int32) (a5 : Int32) (Q : Int32 → St → Prop) (K0 : St → Prop) : Nat → Int32 → St → Prop
  | 0 => fun _ _ => False
  | n + 1 => f_X7_free_L70_s a1 a2 a3 a4 a5 Q K0 (f_X7_free_L70 a1 a2 a3 a4 a5 Q K0 n)
def f_X7_free_L169_s (a1 : Int32) (a2 : Int32) (a3 : Int32) (a6 : Int32) (a7 : Int32) (Q : Int32 → St → Prop) (K0 : St → Prop) (rec : Int32 → St → Prop) (a8 : Int32) (u : St) : Prop :=
 ((a1 < a8 → K0 u) ∧ (¬ a1 < a8 → (vp_in ((5 * a6) + a8) 100 ∧ ∀ v28 : Int32, v28 = u 7 ((5 * a6) + a8).toNatClampNeg → (vp_in ((5 * a2) + a8) 100 ∧ ∀ v29 : Int32, v29 = u 7 ((5 * a2) + a8).toNatClampNeg → f_X7_mod (v28 - (a7 * v29)) u (fun v30 u31 => (vp_in ((5 * a6) + a8) 100 ∧ ∀ u32 : St, u32 = su u31 7 ((5 * a6) + a8).toNatClampNeg v30 → (∀ v33 : Int32, v33 = a8 + 1 → rec v33 u32)))))))
def f_X7_free_L169 (a1 : Int32) (a2 : Int32) (a3 : Int32) (a6 : Int32) (a7 : Int32) (Q : Int32 → St → Prop) (K0 : St → Prop) : Nat → Int32 → St → Prop
  | 0 => fun _ _ => False
  | n + 1 => f_X7_free_L169_s a1 a2 a3 a6 a7 Q K0 (f_X7_free_L169 a1 a2 a3 a6 a7 Q K0 n)
def f_X7_free_L144_s (a1 : Int32) (a2 : Int32) (a3 : Int32) (Q : Int32 → St → Prop) (K0 : St → Prop) (rec : Int32 → St → Prop) (a6 : Int32) (u : St) : Prop :=
 (((u 0 5) ≤ a6 → K0 u) ∧ (¬ (u 0 5) ≤ a6 → (vp_in ((5 * a6) + a3) 100 ∧ ∀ v26 : Int32, v26 = u 7 ((5 * a6) + a3).toNatClampNeg → (∃ n34, f_X7_free_L169 a1 a2 a3 a6 v26 Q (fun u35 => (∀ v36 : Int32, v36 = a6 + 1 → rec v36 u35)) n34 0 u))))
def f_X7_free_L144 (a1 : Int32) (a2 : Int32) (a3 : Int32) (Q : Int32 → St → Prop) (K0 : St → Prop) : Nat → Int32 → St → Prop
  | 0 => fun _ _ => False
  | n + 1 => f_X7_free_L144_s a1 a2 a3 Q K0 (f_X7_free_L144 a1 a2 a3 Q K0 n)
def f_X7_free_L4_s (a1 : Int32) (Q : Int32 → St → Prop) (K0 : Int32 → St → Prop) (rec : Int32 → Int32 → St → Prop) (a2 : Int32) (a3 : Int32) (u : St) : Prop :=
 ((a1 < a3 → K0 a2 u) ∧ (¬ a1 < a3 → (∃ n6, f_X7_free_L12 a1 a2 a3 Q (fun v7 u8 => (((u8 0 5) ≤ v7 → (∀ v10 : Int32, v10 = a3 + 1 → rec a2 v10 u8)) ∧ (¬ (u8 0 5) ≤ v7 → (vp_in ((5 * v7) + a3) 100 ∧ ∀ v11 : Int32, v11 = u8 7 ((5 * v7) + a3).toNatClampNeg → f_X7_inverse v11 u8 (fun v12 u13 => (∃ n22, f_X7_free_L70 a1 a2 a3 v7 v12 Q (fun u23 => (∀ v24 : Int32, v24 = (a2 + 1) → (∃ n37, f_X7_free_L144 a1 a2 a3 Q (fun u38 => (∀ v39 : Int32, v39 = a2 + 1 → (∀ v40 : Int32, v40 = a3 + 1 → rec v39 v40 u38))) n37 v24 u23))) n22 0 u13)))))) n6 a2 u)))
def f_X7_free_L4 (a1 : Int32) (Q : Int32 → St → Prop) (K0 : Int32 → St → Prop) : Nat → Int32 → Int32 → St → Prop
  | 0 => fun _ _ _ => False
  | n + 1 => f_X7_free_L4_s a1 Q K0 (f_X7_free_L4 a1 Q K0 n)
def f_X7_free (a1 : Int32) (u : St) (Q : Int32 → St → Prop) : Prop :=
 (∃ n41, f_X7_free_L4 a1 Q (fun v42 u43 => Q ((a1 + 1) - v42) u43) n41 0 0 u)
def f_X7_dimensionOf_L7_s (a1 : Int32) (Q : Int32 → St → Prop) (K0 : St → Prop) (rec : Int32 → St → Prop) (a2 : Int32) (u : St) : Prop :=
 (((u 0 3) ≤ a2 → K0 u) ∧ (¬ (u 0 3) ≤ a2 → f_X7_generatorCode a2 u (fun v3 u4 => f_X7_learns v3 a1 u4 (fun u5 => f_X7_laysRows a1 u5 (fun u6 => (∀ v7 : Int32, v7 = a2 + 1 → rec v7 u6))))))
def f_X7_dimensionOf_L7 (a1 : Int32) (Q : Int32 → St → Prop) (K0 : St → Prop) : Nat → Int32 → St → Prop
  | 0 => fun _ _ => False
  | n + 1 => f_X7_dimensionOf_L7_s a1 Q K0 (f_X7_dimensionOf_L7 a1 Q K0 n)
def f_X7_dimensionOf (a1 : Int32) (u : St) (Q : Int32 → St → Prop) : Prop :=
 (∀ u1 : St, u1 = su u 0 5 0 → (∃ n8, f_X7_dimensionOf_L7 a1 Q (fun u9 => f_X7_free a1 u9 (fun v10 u11 => Q v10 u11)) n8 0 u1))
def f_X7_dimension (a1 : Int32) (u : St) (Q : Int32 → St → Prop) : Prop :=
  f_X7_isDegree a1 u (fun v1 u2 => ((v1 = 0 → f_X7_holds 1 u2 (fun v4 u5 => ((v4 = 0 → Q 0 u5) ∧ (¬ v4 = 0 → f_X7_dimensionOf a1 u5 (fun v7 u8 => Q v7 u8))))) ∧ (¬ v1 = 0 → f_X7_holds 0 u2 (fun v9 u10 => ((v9 = 0 → Q 0 u10) ∧ (¬ v9 = 0 → f_X7_dimensionOf a1 u10 (fun v12 u13 => Q v12 u13)))))))
def f_X7_dimensionAnew (a1 : Int32) (u : St) (Q : Int32 → St → Prop) : Prop :=
  f_X7_isDegree a1 u (fun v1 u2 => ((v1 = 0 → f_X7_holds 1 u2 (fun v4 u5 => ((v4 = 0 → Q 0 u5) ∧ (¬ v4 = 0 → f_X7_dimensionOf a1 u5 (fun v7 u8 => Q v7 u8))))) ∧ (¬ v1 = 0 → f_X7_holds 0 u2 (fun v9 u10 => ((v9 = 0 → Q 0 u10) ∧ (¬ v9 = 0 → f_X7_dimensionOf a1 u10 (fun v12 u13 => Q v12 u13)))))))
def f_X7_derives_L12_s (k1 : Nat) (a2 : Int32) (a3 : Int32) (a4 : Int32) (a5 : Int32) (Q : St → Prop) (K0 : St → Prop) (rec : Int32 → St → Prop) (a6 : Int32) (u : St) : Prop :=
 (((a2 - a5) < a6 → K0 u) ∧ (¬ (a2 - a5) < a6 → (vp_in a6 (lenM k1) ∧ ∀ v3 : Int32, v3 = u k1 a6.toNatClampNeg → f_X7_mod (v3 * ((a2 - a5) - a6)) u (fun v4 u5 => (vp_in a6 (lenM k1) ∧ ∀ u6 : St, u6 = su u5 k1 a6.toNatClampNeg v4 → (∀ v7 : Int32, v7 = a6 + 1 → rec v7 u6))))))
def f_X7_derives_L12 (k1 : Nat) (a2 : Int32) (a3 : Int32) (a4 : Int32) (a5 : Int32) (Q : St → Prop) (K0 : St → Prop) : Nat → Int32 → St → Prop
  | 0 => fun _ _ => False
  | n + 1 => f_X7_derives_L12_s k1 a2 a3 a4 a5 Q K0 (f_X7_derives_L12 k1 a2 a3 a4 a5 Q K0 n)
def f_X7_derives_L3_s (k1 : Nat) (a2 : Int32) (a3 : Int32) (a4 : Int32) (Q : St → Prop) (K0 : St → Prop) (rec : Int32 → St → Prop) (a5 : Int32) (u : St) : Prop :=
 ((a3 ≤ a5 → K0 u) ∧ (¬ a3 ≤ a5 → (∃ n8, f_X7_derives_L12 k1 a2 a3 a4 a5 Q (fun u9 => (∀ v10 : Int32, v10 = a5 + 1 → rec v10 u9)) n8 0 u)))
def f_X7_derives_L3 (k1 : Nat) (a2 : Int32) (a3 : Int32) (a4 : Int32) (Q : St → Prop) (K0 : St → Prop) : Nat → Int32 → St → Prop
  | 0 => fun _ _ => False
  | n + 1 => f_X7_derives_L3_s k1 a2 a3 a4 Q K0 (f_X7_derives_L3 k1 a2 a3 a4 Q K0 n)
def f_X7_derives_L66_s (k1 : Nat) (a2 : Int32) (a3 : Int32) (a4 : Int32) (a5 : Int32) (Q : St → Prop) (K0 : St → Prop) (rec : Int32 → St → Prop) (a6 : Int32) (u : St) : Prop :=
 ((((a2 - a3) - a5) ≤ a6 → K0 u) ∧ (¬ ((a2 - a3) - a5) ≤ a6 → (vp_in (a6 + 1) (lenM k1) ∧ ∀ v15 : Int32, v15 = u k1 (a6 + 1).toNatClampNeg → f_X7_mod (v15 * (a6 + 1)) u (fun v16 u17 => (vp_in a6 (lenM k1) ∧ ∀ u18 : St, u18 = su u17 k1 a6.toNatClampNeg v16 → (∀ v19 : Int32, v19 = a6 + 1 → rec v19 u18))))))
def f_X7_derives_L66 (k1 : Nat) (a2 : Int32) (a3 : Int32) (a4 : Int32) (a5 : Int32) (Q : St → Prop) (K0 : St → Prop) : Nat → Int32 → St → Prop
  | 0 => fun _ _ => False
  | n + 1 => f_X7_derives_L66_s k1 a2 a3 a4 a5 Q K0 (f_X7_derives_L66 k1 a2 a3 a4 a5 Q K0 n)
def f_X7_derives_L56_s (k1 : Nat) (a2 : Int32) (a3 : Int32) (a4 : Int32) (Q : St → Prop) (K0 : St → Prop) (rec : Int32 → St → Prop) (a5 : Int32) (u : St) : Prop :=
 ((a4 ≤ a5 → K0 u) ∧ (¬ a4 ≤ a5 → (∃ n20, f_X7_derives_L66 k1 a2 a3 a4 a5 Q (fun u21 => (∀ v22 : Int32, v22 = a5 + 1 → rec v22 u21)) n20 0 u)))
def f_X7_derives_L56 (k1 : Nat) (a2 : Int32) (a3 : Int32) (a4 : Int32) (Q : St → Prop) (K0 : St → Prop) : Nat → Int32 → St → Prop
  | 0 => fun _ _ => False
  | n + 1 => f_X7_derives_L56_s k1 a2 a3 a4 Q K0 (f_X7_derives_L56 k1 a2 a3 a4 Q K0 n)
def f_X7_derives (k1 : Nat) (a2 : Int32) (a3 : Int32) (a4 : Int32) (u : St) (Q : St → Prop) : Prop :=
 (∃ n11, f_X7_derives_L3 k1 a2 a3 a4 Q (fun u12 => (∃ n23, f_X7_derives_L56 k1 a2 a3 a4 Q (fun u24 => Q u24) n23 0 u12)) n11 0 u)
def f_X7_choose_L4_s (a0 : Int32) (a1 : Int32) (Q : Int32 → St → Prop) (K0 : Int32 → St → Prop) (rec : Int32 → Int32 → St → Prop) (a2 : Int32) (a3 : Int32) (u : St) : Prop :=
 ((a1 ≤ a3 → K0 a2 u) ∧ (¬ a1 ≤ a3 → (¬ (a3 + 1) = 0 ∧ (∀ v2 : Int32, v2 = ((a2 * (a0 - a3)) / (a3 + 1)) → (∀ v3 : Int32, v3 = a3 + 1 → rec v2 v3 u)))))
def f_X7_choose_L4 (a0 : Int32) (a1 : Int32) (Q : Int32 → St → Prop) (K0 : Int32 → St → Prop) : Nat → Int32 → Int32 → St → Prop
  | 0 => fun _ _ _ => False
  | n + 1 => f_X7_choose_L4_s a0 a1 Q K0 (f_X7_choose_L4 a0 a1 Q K0 n)
def f_X7_choose (a0 : Int32) (a1 : Int32) (u : St) (Q : Int32 → St → Prop) : Prop :=
 (∃ n4, f_X7_choose_L4 a0 a1 Q (fun v5 u6 => Q v5 u6) n4 1 0 u)
def f_X7_transvected_L23_s (a1 : Int32) (a2 : Int32) (a3 : Int32) (a4 : Int32) (a5 : Int32) (Q : Int32 → St → Prop) (K0 : St → Prop) (rec : Int32 → St → Prop) (a6 : Int32) (u : St) : Prop :=
 ((9 ≤ a6 → K0 u) ∧ (¬ 9 ≤ a6 → (vp_in a6 9 ∧ ∀ u6 : St, u6 = su u 10 a6.toNatClampNeg 0 → (∀ v7 : Int32, v7 = a6 + 1 → rec v7 u6))))
def f_X7_transvected_L23 (a1 : Int32) (a2 : Int32) (a3 : Int32) (a4 : Int32) (a5 : Int32) (Q : Int32 → St → Prop) (K0 : St → Prop) : Nat → Int32 → St → Prop
  | 0 => fun _ _ => False
  | n + 1 => f_X7_transvected_L23_s a1 a2 a3 a4 a5 Q K0 (f_X7_transvected_L23 a1 a2 a3 a4 a5 Q K0 n)
def f_X7_transvected_L56_s (a1 : Int32) (a2 : Int32) (a3 : Int32) (a4 : Int32) (a5 : Int32) (a6 : Int32) (Q : Int32 → St → Prop) (K0 : St → Prop) (rec : Int32 → St → Prop) (a7 : Int32) (u : St) : Prop :=
 ((5 ≤ a7 → K0 u) ∧ (¬ 5 ≤ a7 → (vp_in a1 20 ∧ ∀ v12 : Int32, v12 = u 1 a1.toNatClampNeg → ((v12 < a7 → (vp_in a7 5 ∧ ∀ u14 : St, u14 = su u 8 a7.toNatClampNeg 0 → (vp_in a2 20 ∧ ∀ v15 : Int32, v15 = u14 1 a2.toNatClampNeg → ((v15 < a7 → (vp_in a7 5 ∧ ∀ u17 : St, u17 = su u14 9 a7.toNatClampNeg 0 → (∀ v18 : Int32, v18 = a7 + 1 → rec v18 u17))) ∧ (¬ v15 < a7 → (vp_in a2 20 ∧ ∀ v19 : Int32, v19 = u14 2 a2.toNatClampNeg → f_X7_figure v19 a7 u14 (fun v20 u21 => (vp_in a7 5 ∧ ∀ u22 : St, u22 = su u21 9 a7.toNatClampNeg v20 → (∀ v23 : Int32, v23 = a7 + 1 → rec v23 u22))))))))) ∧ (¬ v12 < a7 → (vp_in a1 20 ∧ ∀ v24 : Int32, v24 = u 2 a1.toNatClampNeg → f_X7_figure v24 a7 u (fun v25 u26 => (vp_in a7 5 ∧ ∀ u27 : St, u27 = su u26 8 a7.toNatClampNeg v25 → (vp_in a2 20 ∧ ∀ v28 : Int32, v28 = u27 1 a2.toNatClampNeg → ((v28 < a7 → (vp_in a7 5 ∧ ∀ u30 : St, u30 = su u27 9 a7.toNatClampNeg 0 → (∀ v31 : Int32, v31 = a7 + 1 → rec v31 u30))) ∧ (¬ v28 < a7 → (vp_in a2 20 ∧ ∀ v32 : Int32, v32 = u27 2 a2.toNatClampNeg → f_X7_figure v32 a7 u27 (fun v33 u34 => (vp_in a7 5 ∧ ∀ u35 : St, u35 = su u34 9 a7.toNatClampNeg v33 → (∀ v36 : Int32, v36 = a7 + 1 → rec v36 u35)))))))))))))))
def f_X7_transvected_L56 (a1 : Int32) (a2 : Int32) (a3 : Int32) (a4 : Int32) (a5 : Int32) (a6 : Int32) (Q : Int32 → St → Prop) (K0 : St → Prop) : Nat → Int32 → St → Prop
  | 0 => fun _ _ => False
  | n + 1 => f_X7_transvected_L56_s a1 a2 a3 a4 a5 a6 Q K0 (f_X7_transvected_L56 a1 a2 a3 a4 a5 a6 Q K0 n)
def f_X7_transvected_L217_s (a1 : Int32) (a2 : Int32) (a3 : Int32) (a4 : Int32) (a5 : Int32) (a6 : Int32) (a7 : Int32) (a8 : Int32) (Q : Int32 → St → Prop) (K0 : St → Prop) (rec : Int32 → St → Prop) (a9 : Int32) (u : St) : Prop :=
 ((a8 < a9 → K0 u) ∧ (¬ a8 < a9 → (vp_in a8 9 ∧ ∀ v50 : Int32, v50 = u 10 a8.toNatClampNeg → ((a4 < a9 → (vp_in a8 9 ∧ ∀ u52 : St, u52 = su u 10 a8.toNatClampNeg (v50 + 0) → (∀ v53 : Int32, v53 = a9 + 1 → rec v53 u52))) ∧ (¬ a4 < a9 → ((a5 < (a8 - a9) → (vp_in a8 9 ∧ ∀ u55 : St, u55 = su u 10 a8.toNatClampNeg (v50 + 0) → (∀ v56 : Int32, v56 = a9 + 1 → rec v56 u55))) ∧ (¬ a5 < (a8 - a9) → (vp_in a9 5 ∧ ∀ v57 : Int32, v57 = u 8 a9.toNatClampNeg → (vp_in (a8 - a9) 5 ∧ ∀ v58 : Int32, v58 = u 9 (a8 - a9).toNatClampNeg → f_X7_mod ((a7 * v57) * v58) u (fun v59 u60 => (vp_in a8 9 ∧ ∀ u61 : St, u61 = su u60 10 a8.toNatClampNeg (v50 + v59) → (∀ v62 : Int32, v62 = a9 + 1 → rec v62 u61))))))))))))
def f_X7_transvected_L217 (a1 : Int32) (a2 : Int32) (a3 : Int32) (a4 : Int32) (a5 : Int32) (a6 : Int32) (a7 : Int32) (a8 : Int32) (Q : Int32 → St → Prop) (K0 : St → Prop) : Nat → Int32 → St → Prop
  | 0 => fun _ _ => False
  | n + 1 => f_X7_transvected_L217_s a1 a2 a3 a4 a5 a6 a7 a8 Q K0 (f_X7_transvected_L217 a1 a2 a3 a4 a5 a6 a7 a8 Q K0 n)
def f_X7_transvected_L204_s (a1 : Int32) (a2 : Int32) (a3 : Int32) (a4 : Int32) (a5 : Int32) (a6 : Int32) (a7 : Int32) (Q : Int32 → St → Prop) (K0 : St → Prop) (rec : Int32 → St → Prop) (a8 : Int32) (u : St) : Prop :=
 (((a4 + a5) < a8 → K0 u) ∧ (¬ (a4 + a5) < a8 → (∃ n63, f_X7_transvected_L217 a1 a2 a3 a4 a5 a6 a7 a8 Q (fun u64 => (∀ v65 : Int32, v65 = a8 + 1 → rec v65 u64)) n63 0 u)))
def f_X7_transvected_L204 (a1 : Int32) (a2 : Int32) (a3 : Int32) (a4 : Int32) (a5 : Int32) (a6 : Int32) (a7 : Int32) (Q : Int32 → St → Prop) (K0 : St → Prop) : Nat → Int32 → St → Prop
  | 0 => fun _ _ => False
  | n + 1 => f_X7_transvected_L204_s a1 a2 a3 a4 a5 a6 a7 Q K0 (f_X7_transvected_L204 a1 a2 a3 a4 a5 a6 a7 Q K0 n)
def f_X7_transvected_L47_s (a1 : Int32) (a2 : Int32) (a3 : Int32) (a4 : Int32) (a5 : Int32) (Q : Int32 → St → Prop) (K0 : St → Prop) (rec : Int32 → St → Prop) (a6 : Int32) (u : St) : Prop :=
 ((a3 < a6 → K0 u) ∧ (¬ a3 < a6 → (∃ n37, f_X7_transvected_L56 a1 a2 a3 a4 a5 a6 Q (fun u38 => (vp_in a1 20 ∧ ∀ v39 : Int32, v39 = u38 1 a1.toNatClampNeg → f_X7_derives 8 v39 (a3 - a6) a6 u38 (fun u40 => (vp_in a2 20 ∧ ∀ v41 : Int32, v41 = u40 1 a2.toNatClampNeg → f_X7_derives 9 v41 a6 (a3 - a6) u40 (fun u42 => (∀ v43 : Int32, v43 = (a6 - a6 / 2 * 2) → ((¬ v43 = 0 → f_X7_choose a3 a6 u42 (fun v45 u46 => (∀ v47 : Int32, v47 = (-v45) → (∃ n66, f_X7_transvected_L204 a1 a2 a3 a4 a5 a6 v47 Q (fun u67 => (∀ v68 : Int32, v68 = a6 + 1 → rec v68 u67)) n66 0 u46)))) ∧ (v43 = 0 → f_X7_choose a3 a6 u42 (fun v69 u70 => (∃ n71, f_X7_transvected_L204 a1 a2 a3 a4 a5 a6 v69 Q (fun u72 => (∀ v73 : Int32, v73 = a6 + 1 → rec v73 u72)) n71 0 u70)))))))))) n37 0 u)))
def f_X7_transvected_L47 (a1 : Int32) (a2 : Int32) (a3 : Int32) (a4 : Int32) (a5 : Int32) (Q : Int32 → St → Prop) (K0 : St → Prop) : Nat → Int32 → St → Prop
  | 0 => fun _ _ => False
  | n + 1 => f_X7_transvected_L47_s a1 a2 a3 a4 a5 Q K0 (f_X7_transvected_L47 a1 a2 a3 a4 a5 Q K0 n)
def f_X7_transvected_L308_s  (Q : Int32 → St → Prop) (K0 : Int32 → St → Prop) (rec : Int32 → Int32 → St → Prop) (a6 : Int32) (a7 : Int32) (u : St) : Prop :=
 ((a7 < 0 → K0 a6 u) ∧ (¬ a7 < 0 → (vp_in a7 9 ∧ ∀ v78 : Int32, v78 = u 10 a7.toNatClampNeg → f_X7_mod v78 u (fun v79 u80 => (∀ v81 : Int32, v81 = (((u 0 1) * a6) + v79) → (∀ v82 : Int32, v82 = a7 + (-1) → rec v81 v82 u80))))))
def f_X7_transvected_L308  (Q : Int32 → St → Prop) (K0 : Int32 → St → Prop) : Nat → Int32 → Int32 → St → Prop
  | 0 => fun _ _ _ => False
  | n + 1 => f_X7_transvected_L308_s Q K0 (f_X7_transvected_L308 Q K0 n)
def f_X7_transvected (a1 : Int32) (a2 : Int32) (a3 : Int32) (u : St) (Q : Int32 → St → Prop) : Prop :=
 (vp_in a1 20 ∧ ∀ v1 : Int32, v1 = u 1 a1.toNatClampNeg → (∀ v2 : Int32, v2 = (v1 - a3) → (vp_in a2 20 ∧ ∀ v3 : Int32, v3 = u 1 a2.toNatClampNeg → (∀ v4 : Int32, v4 = (v3 - a3) → (∃ n8, f_X7_transvected_L23 a1 a2 a3 v2 v4 Q (fun u9 => (∃ n74, f_X7_transvected_L47 a1 a2 a3 v2 v4 Q (fun u75 => (∀ v76 : Int32, v76 = (v2 + v4) → (∃ n83, f_X7_transvected_L308 Q (fun v84 u85 => Q v84 u85) n83 0 v76 u75))) n74 0 u9)) n8 0 u)))))
def f_X7_transvectant (a1 : Int32) (a2 : Int32) (a3 : Int32) (u : St) (Q : Int32 → St → Prop) : Prop :=
  f_X7_isForm a1 u (fun v1 u2 => ((v1 = 0 → f_X7_holds 1 u2 (fun v6 u7 => ((v6 = 0 → Q 0 u7) ∧ (¬ v6 = 0 → f_X7_transvected a1 a2 a3 u7 (fun v9 u10 => Q v9 u10))))) ∧ (¬ v1 = 0 → f_X7_isForm a2 u2 (fun v11 u12 => ((v11 = 0 → f_X7_holds 1 u12 (fun v16 u17 => ((v16 = 0 → Q 0 u17) ∧ (¬ v16 = 0 → f_X7_transvected a1 a2 a3 u17 (fun v19 u20 => Q v19 u20))))) ∧ (¬ v11 = 0 → ((a3 < 0 → f_X7_holds 2 u12 (fun v25 u26 => ((v25 = 0 → Q 0 u26) ∧ (¬ v25 = 0 → f_X7_transvected a1 a2 a3 u26 (fun v28 u29 => Q v28 u29))))) ∧ (¬ a3 < 0 → (vp_in a1 20 ∧ ∀ v30 : Int32, v30 = u12 1 a1.toNatClampNeg → ((v30 < a3 → f_X7_holds 2 u12 (fun v34 u35 => ((v34 = 0 → Q 0 u35) ∧ (¬ v34 = 0 → f_X7_transvected a1 a2 a3 u35 (fun v37 u38 => Q v37 u38))))) ∧ (¬ v30 < a3 → (vp_in a2 20 ∧ ∀ v39 : Int32, v39 = u12 1 a2.toNatClampNeg → ((v39 < a3 → f_X7_holds 2 u12 (fun v43 u44 => ((v43 = 0 → Q 0 u44) ∧ (¬ v43 = 0 → f_X7_transvected a1 a2 a3 u44 (fun v46 u47 => Q v46 u47))))) ∧ (¬ v39 < a3 → (vp_in a1 20 ∧ ∀ v48 : Int32, v48 = u12 1 a1.toNatClampNeg → (vp_in a2 20 ∧ ∀ v49 : Int32, v49 = u12 1 a2.toNatClampNeg → f_X7_isDegree ((v48 + v49) - (2 * a3)) u12 (fun v50 u51 => ((v50 = 0 → f_X7_holds 2 u51 (fun v55 u56 => ((v55 = 0 → Q 0 u56) ∧ (¬ v55 = 0 → f_X7_transvected a1 a2 a3 u56 (fun v58 u59 => Q v58 u59))))) ∧ (¬ v50 = 0 → f_X7_holds 0 u51 (fun v62 u63 => ((v62 = 0 → Q 0 u63) ∧ (¬ v62 = 0 → f_X7_transvected a1 a2 a3 u63 (fun v65 u66 => Q v65 u66)))))))))))))))))))))))
def f_X7_values (a0 : Int32) (u : St) (Q : Int32 → St → Prop) : Prop :=
 ((¬ a0 = 1 → ((¬ a0 = 4 → Q 1 u) ∧ (a0 = 4 → Q 2 u))) ∧ (a0 = 1 → Q 0 u))
def f_X7_weight (a0 : Int32) (a1 : Int32) (u : St) (Q : Int32 → St → Prop) : Prop :=
 ((¬ a0 = 2 → ((¬ a0 = 4 → Q 6 u) ∧ (a0 = 4 → ((¬ a1 = 0 → Q 6 u) ∧ (a1 = 0 → Q 4 u))))) ∧ (a0 = 2 → Q 2 u))
def f_X7_valueOf (a1 : Int32) (a2 : Int32) (a3 : Int32) (u : St) (Q : Int32 → St → Prop) : Prop :=
  f_X7_figure a1 0 u (fun v1 u2 => f_X7_figure a1 1 u2 (fun v3 u4 => f_X7_figure a1 2 u4 (fun v5 u6 => f_X7_figure a1 3 u6 (fun v7 u8 => f_X7_figure a1 4 u8 (fun v9 u10 => ((¬ a2 = 2 → ((¬ a2 = 3 → ((¬ a3 = 0 → f_X7_mod (((((((72 * v1) * v5) * v9) + (((9 * v3) * v5) * v7)) - (((27 * v1) * v7) * v7)) - (((27 * v9) * v3) * v3)) - (((2 * v5) * v5) * v5)) u10 (fun v14 u15 => Q v14 u15)) ∧ (a3 = 0 → f_X7_mod ((((12 * v1) * v9) - ((3 * v3) * v7)) + (v5 * v5)) u10 (fun v16 u17 => Q v16 u17)))) ∧ (a2 = 3 → f_X7_mod (((((((v3 * v3) * v5) * v5) - ((((4 * v1) * v5) * v5) * v5)) - ((((4 * v3) * v3) * v3) * v7)) - ((((27 * v1) * v1) * v7) * v7)) + ((((18 * v1) * v3) * v5) * v7)) u10 (fun v18 u19 => Q v18 u19)))) ∧ (a2 = 2 → f_X7_mod ((v3 * v3) - ((4 * v1) * v5)) u10 (fun v20 u21 => Q v20 u21))))))))
def f_X7_value (a1 : Int32) (a2 : Int32) (u : St) (Q : Int32 → St → Prop) : Prop :=
  f_X7_isForm a1 u (fun v1 u2 => ((¬ v1 = 0 → (vp_in a1 20 ∧ ∀ v4 : Int32, v4 = u2 1 a1.toNatClampNeg → f_X7_values v4 u2 (fun v5 u6 => f_X7_isIn a2 0 (v5 - 1) u6 (fun v7 u8 => ((¬ v7 = 0 → f_X7_holds 0 u8 (fun v10 u11 => ((v10 = 0 → Q 0 u11) ∧ (¬ v10 = 0 → (vp_in a1 20 ∧ ∀ v13 : Int32, v13 = u11 2 a1.toNatClampNeg → (vp_in a1 20 ∧ ∀ v14 : Int32, v14 = u11 1 a1.toNatClampNeg → f_X7_valueOf v13 v14 a2 u11 (fun v15 u16 => Q v15 u16))))))) ∧ (v7 = 0 → f_X7_holds 2 u8 (fun v17 u18 => ((v17 = 0 → Q 0 u18) ∧ (¬ v17 = 0 → (vp_in a1 20 ∧ ∀ v20 : Int32, v20 = u18 2 a1.toNatClampNeg → (vp_in a1 20 ∧ ∀ v21 : Int32, v21 = u18 1 a1.toNatClampNeg → f_X7_valueOf v20 v21 a2 u18 (fun v22 u23 => Q v22 u23)))))))))))) ∧ (v1 = 0 → f_X7_holds 1 u2 (fun v24 u25 => ((v24 = 0 → Q 0 u25) ∧ (¬ v24 = 0 → (vp_in a1 20 ∧ ∀ v27 : Int32, v27 = u25 2 a1.toNatClampNeg → (vp_in a1 20 ∧ ∀ v28 : Int32, v28 = u25 1 a1.toNatClampNeg → f_X7_valueOf v27 v28 a2 u25 (fun v29 u30 => Q v29 u30)))))))))
def f_X7_weighs_L73_s (a1 : Int32) (a2 : Int32) (a3 : Int32) (a4 : Int32) (a5 : Int32) (Q : Int32 → St → Prop) (K0 : Int32 → St → Prop) (rec : Int32 → Int32 → St → Prop) (a6 : Int32) (a7 : Int32) (u : St) : Prop :=
  f_X7_weight a4 a2 u (fun v11 u12 => ((v11 ≤ a7 → K0 a6 u12) ∧ (¬ v11 ≤ a7 → f_X7_mod (a6 * a5) u12 (fun v14 u15 => (∀ v16 : Int32, v16 = a7 + 1 → rec v14 v16 u15)))))
def f_X7_weighs_L73 (a1 : Int32) (a2 : Int32) (a3 : Int32) (a4 : Int32) (a5 : Int32) (Q : Int32 → St → Prop) (K0 : Int32 → St → Prop) : Nat → Int32 → Int32 → St → Prop
  | 0 => fun _ _ _ => False
  | n + 1 => f_X7_weighs_L73_s a1 a2 a3 a4 a5 Q K0 (f_X7_weighs_L73 a1 a2 a3 a4 a5 Q K0 n)
def f_X7_weighs (a1 : Int32) (a2 : Int32) (a3 : Int32) (u : St) (Q : Int32 → St → Prop) : Prop :=
 (vp_in a1 20 ∧ ∀ v1 : Int32, v1 = u 1 a1.toNatClampNeg → (vp_in (4 * a3) 16 ∧ ∀ v2 : Int32, v2 = u 3 (4 * a3).toNatClampNeg → (vp_in ((4 * a3) + 3) 16 ∧ ∀ v3 : Int32, v3 = u 3 ((4 * a3) + 3).toNatClampNeg → (vp_in ((4 * a3) + 1) 16 ∧ ∀ v4 : Int32, v4 = u 3 ((4 * a3) + 1).toNatClampNeg → (vp_in ((4 * a3) + 2) 16 ∧ ∀ v5 : Int32, v5 = u 3 ((4 * a3) + 2).toNatClampNeg → f_X7_mod ((v2 * v3) - (v4 * v5)) u (fun v6 u7 => (vp_in a1 20 ∧ ∀ v8 : Int32, v8 = u7 2 a1.toNatClampNeg → f_X7_valueOf v8 v1 a2 u7 (fun v9 u10 => (∃ n17, f_X7_weighs_L73 a1 a2 a3 v1 v6 Q (fun v18 u19 => f_X7_changedBy a1 a3 u19 (fun v20 u21 => f_X7_valueOf v20 v1 a2 u21 (fun v22 u23 => ((¬ v22 = v18 → Q 0 u23) ∧ (v22 = v18 → Q 1 u23))))) n17 v9 0 u10)))))))))
def f_X7_weighAll_L14_s (a2 : Int32) (Q : Int32 → St → Prop) (K0 : Int32 → St → Prop) (rec : Int32 → Int32 → St → Prop) (a1 : Int32) (a3 : Int32) (u : St) : Prop :=
 (vp_in a2 20 ∧ ∀ v2 : Int32, v2 = u 1 a2.toNatClampNeg → f_X7_values v2 u (fun v3 u4 => (((v3 * (u4 0 3)) ≤ a3 → K0 a1 u4) ∧ (¬ (v3 * (u4 0 3)) ≤ a3 → ((a1 = 0 → (∀ v7 : Int32, v7 = a3 + 1 → rec 0 v7 u4)) ∧ (¬ a1 = 0 → (¬ (u4 0 3) = 0 ∧ (∀ v8 : Int32, v8 = (a3 / (u4 0 3)) → (¬ (u4 0 3) = 0 ∧ (∀ v9 : Int32, v9 = (a3 - a3 / (u4 0 3) * (u4 0 3)) → f_X7_weighs a2 v8 v9 u4 (fun v10 u11 => ((v10 = 0 → (∀ v13 : Int32, v13 = a3 + 1 → rec 0 v13 u11)) ∧ (¬ v10 = 0 → (∀ v14 : Int32, v14 = a3 + 1 → rec 1 v14 u11))))))))))))))
def f_X7_weighAll_L14 (a2 : Int32) (Q : Int32 → St → Prop) (K0 : Int32 → St → Prop) : Nat → Int32 → Int32 → St → Prop
  | 0 => fun _ _ _ => False
  | n + 1 => f_X7_weighAll_L14_s a2 Q K0 (f_X7_weighAll_L14 a2 Q K0 n)
def f_X7_weighAll_L4_s  (Q : Int32 → St → Prop) (K0 : Int32 → St → Prop) (rec : Int32 → Int32 → St → Prop) (a1 : Int32) (a2 : Int32) (u : St) : Prop :=
 (((u 0 2) ≤ a2 → K0 a1 u) ∧ (¬ (u 0 2) ≤ a2 → (∃ n15, f_X7_weighAll_L14 a2 Q (fun v16 u17 => (∀ v18 : Int32, v18 = a2 + 1 → rec v16 v18 u17)) n15 a1 0 u)))
def f_X7_weighAll_L4  (Q : Int32 → St → Prop) (K0 : Int32 → St → Prop) : Nat → Int32 → Int32 → St → Prop
  | 0 => fun _ _ _ => False
  | n + 1 => f_X7_weighAll_L4_s Q K0 (f_X7_weighAll_L4 Q K0 n)
def f_X7_weighAll (u : St) (Q : Int32 → St → Prop) : Prop :=
 (∃ n19, f_X7_weighAll_L4 Q (fun v20 u21 => ((v20 = 0 ∨ v20 = 1) ∧ Q v20 u21)) n19 1 0 u)
def f_X7_weighs_ (u : St) (Q : Int32 → St → Prop) : Prop :=
 (∀ u1 : St, u1 = su u 0 0 0 → f_X7_weighAll u1 (fun v2 u3 => ((v2 = 0 ∨ v2 = 1) ∧ Q v2 u3)))
def f_X7_goesOn_L2_s (a1 : Int32) (a2 : Int32) (Q : St → Prop) (K0 : St → Prop) (rec : Int32 → St → Prop) (a3 : Int32) (u : St) : Prop :=
  f_X7_power (a2 + 1) u (fun v1 u2 => ((v1 ≤ a3 → K0 u2) ∧ (¬ v1 ≤ a3 → (vp_in a3 3125 ∧ ∀ u4 : St, u4 = su u2 14 a3.toNatClampNeg (-1) → (∀ v5 : Int32, v5 = a3 + 1 → rec v5 u4)))))
def f_X7_goesOn_L2 (a1 : Int32) (a2 : Int32) (Q : St → Prop) (K0 : St → Prop) : Nat → Int32 → St → Prop
  | 0 => fun _ _ => False
  | n + 1 => f_X7_goesOn_L2_s a1 a2 Q K0 (f_X7_goesOn_L2 a1 a2 Q K0 n)
def f_X7_goesOn_L58_s (a2 : Int32) (a3 : Int32) (Q : St → Prop) (K0 : St → Prop) (rec : Int32 → St → Prop) (a4 : Int32) (u : St) : Prop :=
 (((u 0 3) ≤ a4 → K0 u) ∧ (¬ (u 0 3) ≤ a4 → f_X7_generatorCode a4 u (fun v13 u14 => f_X7_learns v13 a2 u14 (fun u15 => (vp_in a3 3125 ∧ ∀ v16 : Int32, v16 = u15 15 a3.toNatClampNeg → f_X7_made v16 a2 u15 (fun v17 u18 => (vp_in v17 3125 ∧ ∀ v19 : Int32, v19 = u18 14 v17.toNatClampNeg → ((¬ v19 = (-1) → (∀ v21 : Int32, v21 = a4 + 1 → rec v21 u18)) ∧ (v19 = (-1) → (vp_in a3 3125 ∧ ∀ v22 : Int32, v22 = u18 15 a3.toNatClampNeg → (vp_in v22 3125 ∧ ∀ v23 : Int32, v23 = u18 14 v22.toNatClampNeg → (vp_in v17 3125 ∧ ∀ u24 : St, u24 = su u18 14 v17.toNatClampNeg (v23 + 1) → (vp_in v17 3125 ∧ ∀ u25 : St, u25 = su u24 12 v17.toNatClampNeg a4 → (vp_in a3 3125 ∧ ∀ v26 : Int32, v26 = u25 15 a3.toNatClampNeg → (vp_in v17 3125 ∧ ∀ u27 : St, u27 = su u25 13 v17.toNatClampNeg v26 → (vp_in (u27 0 6) 3125 ∧ ∀ u28 : St, u28 = su u27 15 (u27 0 6).toNatClampNeg v17 → (∀ u29 : St, u29 = su u28 0 6 ((u28 0 6) + 1) → (∀ v30 : Int32, v30 = a4 + 1 → rec v30 u29))))))))))))))))))
def f_X7_goesOn_L58 (a2 : Int32) (a3 : Int32) (Q : St → Prop) (K0 : St → Prop) : Nat → Int32 → St → Prop
  | 0 => fun _ _ => False
  | n + 1 => f_X7_goesOn_L58_s a2 a3 Q K0 (f_X7_goesOn_L58 a2 a3 Q K0 n)
def f_X7_goesOn_L47_s (a2 : Int32) (Q : St → Prop) (K0 : St → Prop) (rec : Int32 → St → Prop) (a3 : Int32) (u : St) : Prop :=
 (((u 0 6) ≤ a3 → K0 u) ∧ (¬ (u 0 6) ≤ a3 → (∃ n31, f_X7_goesOn_L58 a2 a3 Q (fun u32 => (∀ v33 : Int32, v33 = a3 + 1 → rec v33 u32)) n31 0 u)))
def f_X7_goesOn_L47 (a2 : Int32) (Q : St → Prop) (K0 : St → Prop) : Nat → Int32 → St → Prop
  | 0 => fun _ _ => False
  | n + 1 => f_X7_goesOn_L47_s a2 Q K0 (f_X7_goesOn_L47 a2 Q K0 n)
def f_X7_goesOn (a1 : Int32) (a2 : Int32) (u : St) (Q : St → Prop) : Prop :=
 (∃ n6, f_X7_goesOn_L2 a1 a2 Q (fun u7 => (vp_in a1 3125 ∧ ∀ u8 : St, u8 = su u7 14 a1.toNatClampNeg 0 → (vp_in 0 3125 ∧ ∀ u9 : St, u9 = su u8 15 (0 : Int32).toNatClampNeg a1 → (∀ u10 : St, u10 = su u9 0 6 1 → (∃ n34, f_X7_goesOn_L47 a2 Q (fun u35 => Q u35) n34 0 u10))))) n6 0 u)
def f_X7_leastCode_L25_s  (Q : Int32 → St → Prop) (K0 : Int32 → St → Prop) (rec : Int32 → Int32 → St → Prop) (a2 : Int32) (a3 : Int32) (u : St) : Prop :=
 (((u 0 6) ≤ a3 → K0 a2 u) ∧ (¬ (u 0 6) ≤ a3 → (vp_in a3 3125 ∧ ∀ v6 : Int32, v6 = u 15 a3.toNatClampNeg → ((a2 ≤ v6 → (∀ v8 : Int32, v8 = a3 + 1 → rec a2 v8 u)) ∧ (¬ a2 ≤ v6 → (vp_in a3 3125 ∧ ∀ v9 : Int32, v9 = u 15 a3.toNatClampNeg → (∀ v10 : Int32, v10 = a3 + 1 → rec v9 v10 u)))))))
def f_X7_leastCode_L25  (Q : Int32 → St → Prop) (K0 : Int32 → St → Prop) : Nat → Int32 → Int32 → St → Prop
  | 0 => fun _ _ _ => False
  | n + 1 => f_X7_leastCode_L25_s Q K0 (f_X7_leastCode_L25 Q K0 n)
def f_X7_leastCode (a1 : Int32) (u : St) (Q : Int32 → St → Prop) : Prop :=
 (vp_in a1 20 ∧ ∀ v1 : Int32, v1 = u 2 a1.toNatClampNeg → (vp_in a1 20 ∧ ∀ v2 : Int32, v2 = u 1 a1.toNatClampNeg → f_X7_goesOn v1 v2 u (fun u3 => (vp_in a1 20 ∧ ∀ v4 : Int32, v4 = u3 2 a1.toNatClampNeg → (∃ n11, f_X7_leastCode_L25 Q (fun v12 u13 => Q v12 u13) n11 v4 0 u3)))))
def f_X7_inOrbit (a1 : Int32) (u : St) (Q : Int32 → St → Prop) : Prop :=
 (vp_in a1 20 ∧ ∀ v1 : Int32, v1 = u 2 a1.toNatClampNeg → (vp_in a1 20 ∧ ∀ v2 : Int32, v2 = u 1 a1.toNatClampNeg → f_X7_goesOn v1 v2 u (fun u3 => Q (u3 0 6) u3)))
def f_X7_told (a1 : Int32) (a2 : Int32) (u : St) (Q : Int32 → St → Prop) : Prop :=
 ((a2 = 0 → (vp_in a1 20 ∧ ∀ v1 : Int32, v1 = u 1 a1.toNatClampNeg → Q v1 u)) ∧ (a2 = 1 → (vp_in a1 20 ∧ ∀ v3 : Int32, v3 = u 2 a1.toNatClampNeg → Q v3 u)) ∧ (a2 = 2 → f_X7_roots a1 u (fun v5 u6 => Q v5 u6)) ∧ (a2 = 3 → f_X7_isNull a1 u (fun v8 u9 => Q v8 u9)) ∧ (a2 = 4 → f_X7_isFixed a1 u (fun v11 u12 => Q v11 u12)) ∧ (a2 = 5 → f_X7_inOrbit a1 u (fun v14 u15 => Q v14 u15)) ∧ (¬ a2 = 0 ∧ ¬ a2 = 1 ∧ ¬ a2 = 2 ∧ ¬ a2 = 3 ∧ ¬ a2 = 4 ∧ ¬ a2 = 5 → f_X7_leastCode a1 u (fun v17 u18 => Q v17 u18)))
def f_X7_formIs (a1 : Int32) (a2 : Int32) (u : St) (Q : Int32 → St → Prop) : Prop :=
  f_X7_isForm a1 u (fun v1 u2 => ((¬ v1 = 0 → f_X7_isIn a2 0 6 u2 (fun v4 u5 => ((¬ v4 = 0 → f_X7_holds 0 u5 (fun v7 u8 => ((v7 = 0 → Q 0 u8) ∧ (¬ v7 = 0 → f_X7_told a1 a2 u8 (fun v10 u11 => Q v10 u11))))) ∧ (v4 = 0 → f_X7_holds 2 u5 (fun v12 u13 => ((v12 = 0 → Q 0 u13) ∧ (¬ v12 = 0 → f_X7_told a1 a2 u13 (fun v15 u16 => Q v15 u16)))))))) ∧ (v1 = 0 → f_X7_holds 1 u2 (fun v17 u18 => ((v17 = 0 → Q 0 u18) ∧ (¬ v17 = 0 → f_X7_told a1 a2 u18 (fun v20 u21 => Q v20 u21)))))))
def f_X7_wayTo (a1 : Int32) (a2 : Int32) (u : St) (Q : Int32 → St → Prop) : Prop :=
 (vp_in a1 20 ∧ ∀ v1 : Int32, v1 = u 2 a1.toNatClampNeg → (vp_in a1 20 ∧ ∀ v2 : Int32, v2 = u 1 a1.toNatClampNeg → f_X7_goesOn v1 v2 u (fun u3 => (vp_in a2 20 ∧ ∀ v4 : Int32, v4 = u3 2 a2.toNatClampNeg → (vp_in v4 3125 ∧ ∀ v5 : Int32, v5 = u3 14 v4.toNatClampNeg → Q v5 u3)))))
def f_X7_way (a1 : Int32) (a2 : Int32) (u : St) (Q : Int32 → St → Prop) : Prop :=
  f_X7_isForm a1 u (fun v1 u2 => ((v1 = 0 → f_X7_holds 1 u2 (fun v5 u6 => ((v5 = 0 → Q 0 u6) ∧ (¬ v5 = 0 → f_X7_wayTo a1 a2 u6 (fun v8 u9 => Q v8 u9))))) ∧ (¬ v1 = 0 → f_X7_isForm a2 u2 (fun v10 u11 => ((v10 = 0 → f_X7_holds 1 u11 (fun v14 u15 => ((v14 = 0 → Q 0 u15) ∧ (¬ v14 = 0 → f_X7_wayTo a1 a2 u15 (fun v17 u18 => Q v17 u18))))) ∧ (¬ v10 = 0 → (vp_in a1 20 ∧ ∀ v20 : Int32, v20 = u11 1 a1.toNatClampNeg → (vp_in a2 20 ∧ ∀ v21 : Int32, v21 = u11 1 a2.toNatClampNeg → ((v20 = v21 → f_X7_holds 0 u11 (fun v23 u24 => ((v23 = 0 → Q 0 u24) ∧ (¬ v23 = 0 → f_X7_wayTo a1 a2 u24 (fun v26 u27 => Q v26 u27))))) ∧ (¬ v20 = v21 → f_X7_holds 2 u11 (fun v28 u29 => ((v28 = 0 → Q 0 u29) ∧ (¬ v28 = 0 → f_X7_wayTo a1 a2 u29 (fun v31 u32 => Q v31 u32))))))))))))))
def f_X7_stepAt_L28_s (a3 : Int32) (Q : Int32 → St → Prop) (K0 : Int32 → St → Prop) (rec : Int32 → Int32 → St → Prop) (a5 : Int32) (a6 : Int32) (u : St) : Prop :=
 ((a6 ≤ (a3 + 1) → K0 a5 u) ∧ (¬ a6 ≤ (a3 + 1) → (vp_in a5 3125 ∧ ∀ v6 : Int32, v6 = u 13 a5.toNatClampNeg → (∀ v7 : Int32, v7 = a6 + (-1) → rec v6 v7 u))))
def f_X7_stepAt_L28 (a3 : Int32) (Q : Int32 → St → Prop) (K0 : Int32 → St → Prop) : Nat → Int32 → Int32 → St → Prop
  | 0 => fun _ _ _ => False
  | n + 1 => f_X7_stepAt_L28_s a3 Q K0 (f_X7_stepAt_L28 a3 Q K0 n)
def f_X7_stepAt (a1 : Int32) (a2 : Int32) (a3 : Int32) (u : St) (Q : Int32 → St → Prop) : Prop :=
  f_X7_wayTo a1 a2 u (fun v1 u2 => ((a3 < v1 → (vp_in a2 20 ∧ ∀ v4 : Int32, v4 = u2 2 a2.toNatClampNeg → (∃ n8, f_X7_stepAt_L28 a3 Q (fun v9 u10 => (vp_in v9 3125 ∧ ∀ v11 : Int32, v11 = u10 12 v9.toNatClampNeg → Q v11 u10)) n8 v4 v1 u2))) ∧ (¬ a3 < v1 → Q (-1) u2)))
def f_X7_step (a1 : Int32) (a2 : Int32) (a3 : Int32) (u : St) (Q : Int32 → St → Prop) : Prop :=
  f_X7_isForm a1 u (fun v1 u2 => ((v1 = 0 → f_X7_holds 1 u2 (fun v5 u6 => ((v5 = 0 → Q 0 u6) ∧ (¬ v5 = 0 → f_X7_stepAt a1 a2 a3 u6 (fun v8 u9 => Q v8 u9))))) ∧ (¬ v1 = 0 → f_X7_isForm a2 u2 (fun v10 u11 => ((v10 = 0 → f_X7_holds 1 u11 (fun v14 u15 => ((v14 = 0 → Q 0 u15) ∧ (¬ v14 = 0 → f_X7_stepAt a1 a2 a3 u15 (fun v17 u18 => Q v17 u18))))) ∧ (¬ v10 = 0 → (vp_in a1 20 ∧ ∀ v20 : Int32, v20 = u11 1 a1.toNatClampNeg → (vp_in a2 20 ∧ ∀ v21 : Int32, v21 = u11 1 a2.toNatClampNeg → ((¬ v20 = v21 → f_X7_holds 2 u11 (fun v23 u24 => ((v23 = 0 → Q 0 u24) ∧ (¬ v23 = 0 → f_X7_stepAt a1 a2 a3 u24 (fun v26 u27 => Q v26 u27))))) ∧ (v20 = v21 → ((0 ≤ a3 → f_X7_holds 0 u11 (fun v29 u30 => ((v29 = 0 → Q 0 u30) ∧ (¬ v29 = 0 → f_X7_stepAt a1 a2 a3 u30 (fun v32 u33 => Q v32 u33))))) ∧ (¬ 0 ≤ a3 → f_X7_holds 2 u11 (fun v34 u35 => ((v34 = 0 → Q 0 u35) ∧ (¬ v34 = 0 → f_X7_stepAt a1 a2 a3 u35 (fun v37 u38 => Q v37 u38))))))))))))))))
def f_X7_orbitsOf_L8_s (a1 : Int32) (Q : Int32 → St → Prop) (K0 : Int32 → St → Prop) (rec : Int32 → Int32 → St → Prop) (a2 : Int32) (a3 : Int32) (u : St) : Prop :=
 (((u 0 4) ≤ a3 → K0 a2 u) ∧ (¬ (u 0 4) ≤ a3 → (vp_in a3 480 ∧ ∀ v3 : Int32, v3 = u 5 a3.toNatClampNeg → f_X7_learns v3 a1 u (fun u4 => (∀ u5 : St, u5 = su u4 0 5 0 → f_X7_laysRows a1 u5 (fun u6 => f_X7_free a1 u6 (fun v7 u8 => f_X7_power v7 u8 (fun v9 u10 => (∀ v11 : Int32, v11 = (a2 + v9) → (∀ v12 : Int32, v12 = a3 + 1 → rec v11 v12 u10))))))))))
def f_X7_orbitsOf_L8 (a1 : Int32) (Q : Int32 → St → Prop) (K0 : Int32 → St → Prop) : Nat → Int32 → Int32 → St → Prop
  | 0 => fun _ _ _ => False
  | n + 1 => f_X7_orbitsOf_L8_s a1 Q K0 (f_X7_orbitsOf_L8 a1 Q K0 n)
def f_X7_orbitsOf (a1 : Int32) (u : St) (Q : Int32 → St → Prop) : Prop :=
  f_X7_gathers u (fun u1 => (∃ n13, f_X7_orbitsOf_L8 a1 Q (fun v14 u15 => (¬ (u15 0 4) = 0 ∧ (∀ v16 : Int32, v16 = (v14 / (u15 0 4)) → Q v16 u15))) n13 0 0 u1))
def f_X7_orbits (a1 : Int32) (u : St) (Q : Int32 → St → Prop) : Prop :=
  f_X7_isDegree a1 u (fun v1 u2 => ((v1 = 0 → f_X7_holds 1 u2 (fun v4 u5 => ((v4 = 0 → Q 0 u5) ∧ (¬ v4 = 0 → f_X7_orbitsOf a1 u5 (fun v7 u8 => Q v7 u8))))) ∧ (¬ v1 = 0 → f_X7_holds 0 u2 (fun v9 u10 => ((v9 = 0 → Q 0 u10) ∧ (¬ v9 = 0 → f_X7_orbitsOf a1 u10 (fun v12 u13 => Q v12 u13)))))))
def f_X7_orbitsAnew (a1 : Int32) (u : St) (Q : Int32 → St → Prop) : Prop :=
  f_X7_isDegree a1 u (fun v1 u2 => ((v1 = 0 → f_X7_holds 1 u2 (fun v4 u5 => ((v4 = 0 → Q 0 u5) ∧ (¬ v4 = 0 → f_X7_orbitsOf a1 u5 (fun v7 u8 => Q v7 u8))))) ∧ (¬ v1 = 0 → f_X7_holds 0 u2 (fun v9 u10 => ((v9 = 0 → Q 0 u10) ∧ (¬ v9 = 0 → f_X7_orbitsOf a1 u10 (fun v12 u13 => Q v12 u13)))))))
def f_X0_code_L7_s (al : Nat) (a1 : Int32) (Q : Int32 → St → Prop) (K0 : Int32 → St → Prop) (rec : Int32 → Int32 → St → Prop) (a2 : Int32) (a3 : Int32) (u : St) : Prop :=
 ((a3 < 0 → K0 a2 u) ∧ (¬ a3 < 0 → f_X0_cell al a1 a3 u (fun v3 u4 => (∀ v5 : Int32, v5 = ((a2 * (u 0 0)) + v3) → (∀ v6 : Int32, v6 = a3 + (-1) → rec v5 v6 u4)))))
def f_X0_code_L7 (al : Nat) (a1 : Int32) (Q : Int32 → St → Prop) (K0 : Int32 → St → Prop) : Nat → Int32 → Int32 → St → Prop
  | 0 => fun _ _ _ => False
  | n + 1 => f_X0_code_L7_s al a1 Q K0 (f_X0_code_L7 al a1 Q K0 n)
def f_X0_code (al : Nat) (a1 : Int32) (u : St) (Q : Int32 → St → Prop) : Prop :=
 (∀ v1 : Int32, v1 = (u 0 1) → (∃ n7, f_X0_code_L7 al a1 Q (fun v8 u9 => Q v8 u9) n7 0 v1 u))
def f_X3_fillImages_L58_s (al : Nat) (g : Nat) (a1 : Int32) (a4 : Int32) (a5 : Int32) (a6 : Int32) (a7 : Int32) (a8 : Int32) (Q : St → Prop) (K0 : St → Prop) (rec : Int32 → St → Prop) (a9 : Int32) (u : St) : Prop :=
 ((a7 ≤ a9 → K0 u) ∧ (¬ a7 ≤ a9 → f_X6_read al (23 + 2 * g) ((a4 + a9) - a6) u (fun v12 u13 => f_X2_total al v12 a8 u13 (fun v14 u15 => f_X6_write al (23 + 2 * g) (a4 + a9) v14 u15 (fun u16 => (∀ v17 : Int32, v17 = a9 + 1 → rec v17 u16))))))
def f_X3_fillImages_L58 (al : Nat) (g : Nat) (a1 : Int32) (a4 : Int32) (a5 : Int32) (a6 : Int32) (a7 : Int32) (a8 : Int32) (Q : St → Prop) (K0 : St → Prop) : Nat → Int32 → St → Prop
  | 0 => fun _ _ => False
  | n + 1 => f_X3_fillImages_L58_s al g a1 a4 a5 a6 a7 a8 Q K0 (f_X3_fillImages_L58 al g a1 a4 a5 a6 a7 a8 Q K0 n)
def f_X3_fillImages_L22_s (al : Nat) (g : Nat) (a1 : Int32) (a4 : Int32) (Q : St → Prop) (K0 : St → Prop) (rec : Int32 → St → Prop) (a5 : Int32) (u : St) : Prop :=
 ((a1 < a5 → K0 u) ∧ (¬ a1 < a5 → f_X2_howMany al a5 u (fun v5 u6 => f_X2_howMany al (a5 + 1) u6 (fun v7 u8 => f_X0_code al a5 u8 (fun v9 u10 => (∃ n18, f_X3_fillImages_L58 al g a1 a4 a5 v5 v7 v9 Q (fun u19 => (∀ v20 : Int32, v20 = a5 + 1 → rec v20 u19)) n18 v5 u10))))))
def f_X3_fillImages_L22 (al : Nat) (g : Nat) (a1 : Int32) (a4 : Int32) (Q : St → Prop) (K0 : St → Prop) : Nat → Int32 → St → Prop
  | 0 => fun _ _ => False
  | n + 1 => f_X3_fillImages_L22_s al g a1 a4 Q K0 (f_X3_fillImages_L22 al g a1 a4 Q K0 n)
def f_X3_fillImages (al : Nat) (g : Nat) (a1 : Int32) (u : St) (Q : St → Prop) : Prop :=
  f_X6_readS al a1 u (fun v1 u2 => f_X6_write al (23 + 2 * g) v1 0 u2 (fun u3 => (∃ n21, f_X3_fillImages_L22 al g a1 v1 Q (fun u22 => Q u22) n21 0 u3)))
def f_X3_become_L8_s (al : Nat) (g : Nat) (Q : St → Prop) (K0 : St → Prop) (rec : Int32 → St → Prop) (a4 : Int32) (u : St) : Prop :=
 ((4 < a4 → K0 u) ∧ (¬ 4 < a4 → f_X0_fill al (u 0 (8 + g)) a4 u (fun u3 => f_X3_fillImages al g a4 u3 (fun u4 => (∀ v5 : Int32, v5 = a4 + 1 → rec v5 u4)))))
def f_X3_become_L8 (al : Nat) (g : Nat) (Q : St → Prop) (K0 : St → Prop) : Nat → Int32 → St → Prop
  | 0 => fun _ _ => False
  | n + 1 => f_X3_become_L8_s al g Q K0 (f_X3_become_L8 al g Q K0 n)
def f_X3_become (al : Nat) (g : Nat) (a1 : Int32) (u : St) (Q : St → Prop) : Prop :=
 (∀ u1 : St, u1 = su u 0 (8 + g) a1 → (∃ n6, f_X3_become_L8 al g Q (fun u7 => Q u7) n6 1 u1))
