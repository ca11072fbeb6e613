def tl_X5_layPath_28 (a0 : Nat) (a1 : Nat) : Nat → Int32 → Int32 → bq_E → Option bq_E
  | 0, _, _, _ => none
  | n + 1, x3, x4, E =>
  if x4 < 0 then
    (some E)
  else
    ((tw_X4_at E a1 x3).bind fun v2801 =>
    (bq_fi E v2801 0 0).bind fun v2802 =>
    (bq_fr E a0 5 0).bind fun v2803 =>
    (tw_X3_insert E v2803 (0 : Int32) x3).bind fun E2804 =>
    (bq_fr E2804 a0 5 1).bind fun v2805 =>
    (tw_X4_at E2804 a1 v2802).bind fun v2806 =>
    (bq_fi E2804 v2806 0 1).bind fun v2807 =>
    bq_let (fun (b2808 : Int32) =>
      (tw_X3_insert E2804 v2805 (0 : Int32) b2808).bind fun E2809 =>
      bq_let (x4 + (-1)) fun v2810 =>
      tl_X5_layPath_28 a0 a1 n v2802 v2810 E2809) fun k75 =>
    if v2807 = x3 then
      (k75 (1 : Int32))
    else
      (k75 (2 : Int32)))
def tw_X5_layPath (E : bq_E) (a0 : Nat) (a1 : Nat) (x2 : Int32) : Option bq_E :=
  if bq_cls E a0 = 5 then
  ((bq_fr E a0 5 0).bind fun v1 =>
  (tw_X3_cutTo E v1 (0 : Int32)).bind fun E2 =>
  (bq_fr E2 a0 5 1).bind fun v3 =>
  (tw_X3_cutTo E2 v3 (0 : Int32)).bind fun E4 =>
  (tw_X4_at E4 a1 x2).bind fun v5 =>
  (bq_fi E4 v5 0 3).bind fun v6 =>
  tl_X5_layPath_28 a0 a1 bq_fuel x2 v6 E4)
  else none

def tw_X5_start (E : bq_E) (a0 : Nat) : Option bq_E :=
  if bq_cls E a0 = 5 then
  ((bq_p E a0 5 2 (.int (0 : Int32))).bind fun E1 =>
  (bq_p E1 a0 5 3 (.int (0 : Int32))).bind fun E2 =>
  (bq_p E2 a0 5 4 (.int (-1 : Int32))).bind fun E3 =>
  (bq_p E3 a0 5 5 (.int (-1 : Int32))).bind fun E4 =>
  (bq_p E4 a0 5 6 (.int (-1 : Int32))).bind fun E5 =>
  some E5)
  else none

def tl_X5_halve_8 (a0 : Nat) (a1 : Nat) (x2 : Int32) : Nat → Int32 → Int32 → bq_E → Option (Int32 × bq_E)
  | 0, _, _, _ => none
  | n + 1, x3, x4, E =>
  if x4 ≤ x3 then
    (some (x3, E))
  else
    (bq_let ((x3 + x4) / (2 : Int32)) fun v801 =>
    (bq_fi E a0 5 2).bind fun v802 =>
    (bq_p E a0 5 2 (.int (v802 + (1 : Int32)))).bind fun E803 =>
    (tw_X3_at E803 a1 v801 (10000 : Int32)).bind fun v804 =>
    if v804 < x2 then
      (bq_let (v801 + (1 : Int32)) fun v805 =>
      tl_X5_halve_8 a0 a1 x2 n v805 x4 E803)
    else
      (tl_X5_halve_8 a0 a1 x2 n x3 v801 E803))
def tw_X5_halve (E : bq_E) (a0 : Nat) (a1 : Nat) (x2 : Int32) : Option (Int32 × bq_E) :=
  if bq_cls E a0 = 5 then
  ((tw_X3_size E a1).bind fun v1 =>
  tl_X5_halve_8 a0 a1 x2 bq_fuel (0 : Int32) v1 E)
  else none

def tl_X5_stepBack_3 (a0 : Nat) (a1 : Nat) (x3 : Int32) (K : Int32 → bq_E → Option (Int32 × bq_E)) : Nat → Int32 → bq_E → Option (Int32 × bq_E)
  | 0, _, _ => none
  | n + 1, x4, E =>
  if x4 ≤ 0 then
    (some (x4, E))
  else
    ((bq_fi E a0 5 2).bind fun v301 =>
    (bq_p E a0 5 2 (.int (v301 + (1 : Int32)))).bind fun E302 =>
    (tw_X3_at E302 a1 (x4 - (1 : Int32)) (-1 : Int32)).bind fun v303 =>
    if x3 ≤ v303 then
      (bq_let (x4 + (-1)) fun v304 =>
      tl_X5_stepBack_3 a0 a1 x3 K n v304 E302)
    else
      (K x4 E302))
def tw_X5_stepBack (E : bq_E) (a0 : Nat) (a1 : Nat) (x2 : Int32) (x3 : Int32) : Option (Int32 × bq_E) :=
  if bq_cls E a0 = 5 then
  (tl_X5_stepBack_3 a0 a1 x3 (fun y1 E2 =>
    some (y1, E2)) bq_fuel x2 E)
  else none

def tw_X5_answerAt (E : bq_E) (a0 : Nat) (a1 : Nat) (x2 : Int32) (x3 : Int32) (x4 : Int32) : Option bq_E :=
  if bq_cls E a0 = 5 then
  ((tw_X4_at E a1 x2).bind fun v1 =>
  (tw_X0_firstUnmarked E v1 x3).bind fun v2 =>
  (bq_fi E a0 5 2).bind fun v3 =>
  (bq_p E a0 5 2 (.int (v3 + (v2 - x3)))).bind fun E4 =>
  (bq_fi E4 a0 5 2).bind fun v5 =>
  (bq_fr E4 v1 0 7).bind fun v6 =>
  (tw_X3_size E4 v6).bind fun v7 =>
  (bq_p E4 a0 5 2 (.int (v5 + v7))).bind fun E8 =>
  (bq_fr E8 v1 0 5).bind fun v9 =>
  (tw_X3_at E8 v9 v2 (10000 : Int32)).bind fun v10 =>
  (tw_X0_leastBuffered E8 v1 x4 v10).bind fun v11 =>
  bq_let (fun (b12 : Int32) =>
    (bq_p E8 a0 5 4 (.int b12)).bind fun E13 =>
    (bq_fi E13 a0 5 4).bind fun v14 =>
    if v14 = (-1 : Int32) then
      (some E13)
    else
      ((bq_fi E13 a0 5 5).bind fun v15 =>
      if v15 = (-1 : Int32) then
        ((bq_fi E13 a0 5 4).bind fun v16 =>
        (bq_p E13 a0 5 5 (.int v16)).bind fun E17 =>
        (bq_p E17 a0 5 6 (.int x2)).bind fun E18 =>
        some E18)
      else
        ((bq_fi E13 a0 5 4).bind fun v19 =>
        (bq_fi E13 a0 5 5).bind fun v20 =>
        if v20 ≤ v19 then
          (some E13)
        else
          ((bq_fi E13 a0 5 4).bind fun v21 =>
          (bq_p E13 a0 5 5 (.int v21)).bind fun E22 =>
          (bq_p E22 a0 5 6 (.int x2)).bind fun E23 =>
          some E23)))) fun k82 =>
  if (10000 : Int32) ≤ v11 then
    (k82 (-1 : Int32))
  else
    (k82 v11))
  else none

def tl_X5_searchPath_6 (a0 : Nat) (a1 : Nat) (x2 : Int32) : Nat → Int32 → bq_E → Option bq_E
  | 0, _, _ => none
  | n + 1, x3, E =>
  (bq_fr E a0 5 0).bind fun v601 =>
  (tw_X3_size E v601).bind fun v602 =>
  if v602 ≤ x3 then
    (some E)
  else
    ((bq_fr E a0 5 0).bind fun v603 =>
    (tw_X3_at E v603 x3 (0 : Int32)).bind fun v604 =>
    (tw_X4_at E a1 v604).bind fun v605 =>
    bq_let (fun (E606 : bq_E) =>
      (bq_fr E606 v605 0 8).bind fun v607 =>
      (bq_fi E606 a0 5 3).bind fun v608 =>
      (tw_X2_bridgeOf E606 v607 v608 (0 : Int32)).bind fun v609 =>
      (tw_X5_answerAt E606 a0 a1 v604 v609 x2).bind fun E610 =>
      bq_let (x3 + 1) fun v611 =>
      tl_X5_searchPath_6 a0 a1 x2 n v611 E610) fun k113 =>
    if x3 = 0 then
      ((bq_fr E v605 0 8).bind fun v623 =>
      (bq_fr E v623 2 0).bind fun v624 =>
      (tw_X5_halve E a0 v624 x2).bind fun v625 =>
      (bq_p v625.2 a0 5 3 (.int v625.1)).bind fun E626 =>
      k113 E626)
    else
      ((bq_fi E v605 0 0).bind fun v612 =>
      (tw_X4_at E a1 v612).bind fun v613 =>
      (bq_fr E v613 0 8).bind fun v614 =>
      (bq_fi E a0 5 3).bind fun v615 =>
      (bq_fr E a0 5 1).bind fun v616 =>
      (tw_X3_at E v616 x3 (1 : Int32)).bind fun v617 =>
      (tw_X2_bridgeOf E v614 v615 v617).bind fun v618 =>
      (bq_fr E v605 0 8).bind fun v619 =>
      (bq_fr E v619 2 0).bind fun v620 =>
      (tw_X5_stepBack E a0 v620 v618 x2).bind fun v621 =>
      (bq_p v621.2 a0 5 3 (.int v621.1)).bind fun E622 =>
      k113 E622))
def tw_X5_searchPath (E : bq_E) (a0 : Nat) (a1 : Nat) (x2 : Int32) : Option bq_E :=
  if bq_cls E a0 = 5 then
  ((tw_X5_start E a0).bind fun E1 =>
  tl_X5_searchPath_6 a0 a1 x2 bq_fuel (0 : Int32) E1)
  else none

def tw_X5_bridged (E : bq_E) (a0 : Nat) (a1 : Nat) (x2 : Int32) (x3 : Int32) : Option bq_E :=
  if bq_cls E a0 = 5 then
  ((tw_X5_layPath E a0 a1 x2).bind fun E1 =>
  (tw_X5_searchPath E1 a0 a1 x3).bind fun E2 =>
  some E2)
  else none
