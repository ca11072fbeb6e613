def tn_X3_init (g : bq_G) (E : bq_E) (n : Nat) (a0 : Nat) (x1 : Int32) (k : Nat) : Option bq_E :=
  if x1 ≤ 0 then
    ((bq_p (va_up E (n + 0) (.inl (g.2.1, 0, .inl (fun _ => 0)))) a0 3 0 (.ref (n + 0))).bind fun E1 =>
    some E1)
  else
    ((bq_p (va_up E (n + 0) (.inl (g.2.1, k, .inl (fun _ => 0)))) a0 3 0 (.ref (n + 0))).bind fun E2 =>
    some E2)

def tn_X2_init (g : bq_G) (E : bq_E) (n : Nat) (a0 : Nat) : Option bq_E :=
  (tn_X3_init g (va_up E (n + 0) (.inr (3, [.null, .int 0]))) (n + 1) (n + 0) (96 : Int32) 96).bind fun E1 =>
  (bq_p E1 a0 2 0 (.ref (n + 0))).bind fun E2 =>
  (tn_X3_init g (va_up E2 (n + 2) (.inr (3, [.null, .int 0]))) (n + 3) (n + 2) (96 : Int32) 96).bind fun E3 =>
  (bq_p E3 a0 2 1 (.ref (n + 2))).bind fun E4 =>
  (tn_X3_init g (va_up E4 (n + 4) (.inr (3, [.null, .int 0]))) (n + 5) (n + 4) (97 : Int32) 97).bind fun E5 =>
  (bq_p E5 a0 2 2 (.ref (n + 4))).bind fun E6 =>
  (tn_X3_init g (va_up E6 (n + 6) (.inr (3, [.null, .int 0]))) (n + 7) (n + 6) (97 : Int32) 97).bind fun E7 =>
  (bq_p E7 a0 2 3 (.ref (n + 6))).bind fun E8 =>
  (tn_X3_init g (va_up E8 (n + 8) (.inr (3, [.null, .int 0]))) (n + 9) (n + 8) (97 : Int32) 97).bind fun E9 =>
  (bq_p E9 a0 2 4 (.ref (n + 8))).bind fun E10 =>
  (bq_fr E10 a0 2 2).bind fun v11 =>
  (tw_X3_append E10 v11 (0 : Int32)).bind fun E12 =>
  (bq_fr E12 a0 2 3).bind fun v13 =>
  (tw_X3_append E12 v13 (0 : Int32)).bind fun E14 =>
  (bq_fr E14 a0 2 4).bind fun v15 =>
  (tw_X3_append E14 v15 (0 : Int32)).bind fun E16 =>
  some E16

def tn_X0_init (g : bq_G) (E : bq_E) (n : Nat) (a0 : Nat) : Option bq_E :=
  (bq_p E a0 0 0 (.int (-1 : Int32))).bind fun E1 =>
  (bq_p E1 a0 0 1 (.int (-1 : Int32))).bind fun E2 =>
  (bq_p E2 a0 0 2 (.int (-1 : Int32))).bind fun E3 =>
  (tn_X3_init g (va_up E3 (n + 0) (.inr (3, [.null, .int 0]))) (n + 1) (n + 0) (24 : Int32) 24).bind fun E4 =>
  (bq_p E4 a0 0 5 (.ref (n + 0))).bind fun E5 =>
  (tn_X3_init g (va_up E5 (n + 2) (.inr (3, [.null, .int 0]))) (n + 3) (n + 2) (24 : Int32) 24).bind fun E6 =>
  (bq_p E6 a0 0 6 (.ref (n + 2))).bind fun E7 =>
  (tn_X3_init g (va_up E7 (n + 4) (.inr (3, [.null, .int 0]))) (n + 5) (n + 4) (8 : Int32) 8).bind fun E8 =>
  (bq_p E8 a0 0 7 (.ref (n + 4))).bind fun E9 =>
  (tn_X2_init g (va_up E9 (n + 6) (.inr (2, [.null, .null, .null, .null, .null]))) (n + 7) (n + 6)).bind fun E10 =>
  (bq_p E10 a0 0 8 (.ref (n + 6))).bind fun E11 =>
  some E11

def tl_X4_init_63 (g : bq_G) (a0 lim : Nat) : Nat → Int32 → Nat → bq_E → Option bq_E
  | 0, _, _, _ => none
  | t + 1, y1, n1, E =>
    (bq_fr E a0 4 0).bind fun v51 =>
      (bq_len E v51).bind fun v52 =>
      if v52 ≤ y1 then (if n1 = lim then some E else none) else
    if n1 + 18 ≤ lim then
    ((bq_fr E a0 4 0).bind fun v71 =>
        (tn_X0_init g (va_up E (n1 + 0) (.inr (0, [.int 0, .int 0, .int 0, .int 0, .int 0, .null, .null, .null, .null]))) (n1 + 1) (n1 + 0)).bind fun E72 =>
        (bq_sr g E72 v71 y1 (n1 + 0) 0).bind fun E73 =>
        bq_let (y1 + 1) fun v74 =>
        tl_X4_init_63 g a0 lim t v74 (n1 + 18) E73)
    else none
def tn_X4_init (g : bq_G) (E : bq_E) (n : Nat) (a0 : Nat) : Option bq_E :=
  (bq_p (va_up E (n + 0) (.inl (g.2.2.2.1, 15, .inr (.inr (.inr (.inr (fun _ => none))))))) a0 4 0 (.ref (n + 0))).bind fun E1 =>
  (tn_X0_init g (va_up E1 (n + 1) (.inr (0, [.int 0, .int 0, .int 0, .int 0, .int 0, .null, .null, .null, .null]))) (n + 2) (n + 1)).bind fun E2 =>
  (bq_p E2 a0 4 1 (.ref (n + 1))).bind fun E3 =>
  (tn_X3_init g (va_up E3 (n + 19) (.inr (3, [.null, .int 0]))) (n + 20) (n + 19) (0 : Int32) 0).bind fun E4 =>
  (bq_p E4 a0 4 2 (.ref (n + 19))).bind fun E5 =>
  (bq_p E5 a0 4 3 (.int (1 : Int32))).bind fun E6 =>
  (bq_p E6 a0 4 4 (.int (4 : Int32))).bind fun E7 =>
  (bq_p E7 a0 4 5 (.int (2 : Int32))).bind fun E8 =>
  (bq_fr E8 a0 4 0).bind fun v9 =>
  (bq_fr E8 a0 4 1).bind fun v10 =>
  (bq_sr g E8 v9 (0 : Int32) v10 0).bind fun E11 =>
  tl_X4_init_63 g a0 (n + 273) bq_fuel (1 : Int32) (n + 21) E11

def tn_X5_init (g : bq_G) (E : bq_E) (n : Nat) (a0 : Nat) : Option bq_E :=
  (tn_X3_init g (va_up E (n + 0) (.inr (3, [.null, .int 0]))) (n + 1) (n + 0) (15 : Int32) 15).bind fun E1 =>
  (bq_p E1 a0 5 0 (.ref (n + 0))).bind fun E2 =>
  (tn_X3_init g (va_up E2 (n + 2) (.inr (3, [.null, .int 0]))) (n + 3) (n + 2) (15 : Int32) 15).bind fun E3 =>
  (bq_p E3 a0 5 1 (.ref (n + 2))).bind fun E4 =>
  some E4

def tl_X1_init_14 (g : bq_G) (a0 lim : Nat) : Nat → Int32 → Nat → bq_E → Option bq_E
  | 0, _, _, _ => none
  | t + 1, y1, n1, E =>
    (bq_fr E a0 1 0).bind fun v51 =>
      (bq_len E v51).bind fun v52 =>
      if v52 ≤ y1 then (if n1 = lim then some E else none) else
    if n1 + 274 ≤ lim then
    ((bq_fr E a0 1 0).bind fun v71 =>
        (tn_X4_init g (va_up E (n1 + 0) (.inr (4, [.null, .null, .null, .int 0, .int 0, .int 0, .int 0, .int 0, .int 0, .int 0, .int 0]))) (n1 + 1) (n1 + 0)).bind fun E72 =>
        (bq_sr g E72 v71 y1 (n1 + 0) 4).bind fun E73 =>
        bq_let (y1 + 1) fun v74 =>
        tl_X1_init_14 g a0 lim t v74 (n1 + 274) E73)
    else none
def tn_X1_init (g : bq_G) (E : bq_E) (n : Nat) (a0 : Nat) : Option bq_E :=
  (bq_p (va_up E (n + 0) (.inl (g.2.2.2.2, 4, .inr (.inr (.inr (.inr (fun _ => none))))))) a0 1 0 (.ref (n + 0))).bind fun E1 =>
  tl_X1_init_14 g a0 (n + 1097) bq_fuel (0 : Int32) (n + 1) E1

def tn_X6_init (g : bq_G) (E : bq_E) (n : Nat) (a0 : Nat) : Option bq_E :=
  (tn_X4_init g (va_up E (n + 0) (.inr (4, [.null, .null, .null, .int 0, .int 0, .int 0, .int 0, .int 0, .int 0, .int 0, .int 0]))) (n + 1) (n + 0)).bind fun E1 =>
  (bq_p E1 a0 6 0 (.ref (n + 0))).bind fun E2 =>
  (tn_X5_init g (va_up E2 (n + 274) (.inr (5, [.null, .null, .int 0, .int 0, .int 0, .int 0, .int 0]))) (n + 275) (n + 274)).bind fun E3 =>
  (bq_p E3 a0 6 1 (.ref (n + 274))).bind fun E4 =>
  (tn_X1_init g (va_up E4 (n + 279) (.inr (1, [.null, .int 0, .int 0]))) (n + 280) (n + 279)).bind fun E5 =>
  (bq_p E5 a0 6 2 (.ref (n + 279))).bind fun E6 =>
  some E6
