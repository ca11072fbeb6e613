def tw_X4_at (E : bq_E) (a0 : Nat) (x1 : Int32) : Option Nat :=
  if bq_cls E a0 = 4 then
  (bq_let (fun (_ : Unit) =>
    (bq_fr E a0 4 1).bind fun v1 =>
    some v1) fun k22 =>
  if x1 < 0 then
    (k22 ())
  else
    ((bq_fr E a0 4 0).bind fun v2 =>
    (bq_len E v2).bind fun v3 =>
    if v3 ≤ x1 then
      (k22 ())
    else
      ((bq_fr E a0 4 0).bind fun v4 =>
      (bq_ar E v4 x1).bind fun v5 =>
      bq_opt v5
        ((bq_fr E a0 4 1).bind fun v7 =>
        some v7)
        (fun v6 =>
        some v6))))
  else none

def tl_X4_copyFrom_66 (a0 : Nat) (a1 : Nat) : Nat → Int32 → bq_E → Option bq_E
  | 0, _, _ => none
  | n + 1, x2, E =>
  (bq_fi E a0 4 3).bind fun v6601 =>
  if v6601 ≤ x2 then
    (some E)
  else
    ((tw_X4_at E a0 x2).bind fun v6602 =>
    (tw_X4_at E a1 x2).bind fun v6603 =>
    (tw_X0_copyFrom E v6602 v6603).bind fun E6604 =>
    bq_let (x2 + 1) fun v6605 =>
    tl_X4_copyFrom_66 a0 a1 n v6605 E6604)
def tw_X4_copyFrom (E : bq_E) (a0 : Nat) (a1 : Nat) : Option bq_E :=
  if bq_cls E a0 = 4 then
  ((bq_fi E a1 4 3).bind fun v1 =>
  (bq_p E a0 4 3 (.int v1)).bind fun E2 =>
  (bq_fi E2 a1 4 4).bind fun v3 =>
  (bq_p E2 a0 4 4 (.int v3)).bind fun E4 =>
  (bq_fi E4 a1 4 5).bind fun v5 =>
  (bq_p E4 a0 4 5 (.int v5)).bind fun E6 =>
  (bq_fi E6 a1 4 6).bind fun v7 =>
  (bq_p E6 a0 4 6 (.int v7)).bind fun E8 =>
  (bq_fi E8 a1 4 7).bind fun v9 =>
  (bq_p E8 a0 4 7 (.int v9)).bind fun E10 =>
  (bq_fi E10 a1 4 8).bind fun v11 =>
  (bq_p E10 a0 4 8 (.int v11)).bind fun E12 =>
  (bq_fi E12 a1 4 9).bind fun v13 =>
  (bq_p E12 a0 4 9 (.int v13)).bind fun E14 =>
  (bq_fi E14 a1 4 10).bind fun v15 =>
  (bq_p E14 a0 4 10 (.int v15)).bind fun E16 =>
  tl_X4_copyFrom_66 a0 a1 bq_fuel (0 : Int32) E16)
  else none

def tw_X4_entriesOf (E : bq_E) (a0 : Nat) (x1 : Int32) : Option Nat :=
  if bq_cls E a0 = 4 then
  (if x1 = (-1 : Int32) then
    ((bq_fr E a0 4 2).bind fun v4 =>
    some v4)
  else
    ((tw_X4_at E a0 x1).bind fun v1 =>
    (bq_fr E v1 0 8).bind fun v2 =>
    (bq_fr E v2 2 0).bind fun v3 =>
    some v3))
  else none

def tl_X4_buildUpFrom_14 (a0 : Nat) : Nat → Int32 → Nat → Int32 → bq_E → Option (Int32 × bq_E)
  | 0, _, _, _, _ => none
  | n + 1, x2, a3, x4, E =>
  if x4 < 0 then
    ((bq_fi E a0 4 9).bind fun v1401 =>
    (bq_p E a0 4 9 (.int (v1401 + x2))).bind fun E1402 =>
    some (x2, E1402))
  else
    ((bq_fr E a3 0 8).bind fun v1403 =>
    (bq_fr E a3 0 5).bind fun v1404 =>
    (bq_fi E a3 0 1).bind fun v1405 =>
    (tw_X4_entriesOf E a0 v1405).bind fun v1406 =>
    (bq_fi E a3 0 2).bind fun v1407 =>
    (tw_X4_entriesOf E a0 v1407).bind fun v1408 =>
    (bq_fi E a0 4 5).bind fun v1409 =>
    (tw_X2_build E v1403 v1404 v1406 v1408 v1409).bind fun E1410 =>
    (bq_fi E1410 a0 4 8).bind fun v1411 =>
    (bq_p E1410 a0 4 8 (.int (v1411 + (1 : Int32)))).bind fun E1412 =>
    (bq_fr E1412 a3 0 8).bind fun v1413 =>
    (tw_X2_size E1412 v1413).bind fun v1414 =>
    bq_let (x2 + v1414) fun v1415 =>
    (bq_fi E1412 a3 0 0).bind fun v1416 =>
    (tw_X4_at E1412 a0 v1416).bind fun v1417 =>
    bq_let (x4 + (-1)) fun v1418 =>
    tl_X4_buildUpFrom_14 a0 n v1415 v1417 v1418 E1412)
def tw_X4_buildUpFrom (E : bq_E) (a0 : Nat) (x1 : Int32) : Option (Int32 × bq_E) :=
  if bq_cls E a0 = 4 then
  ((tw_X4_at E a0 x1).bind fun v1 =>
  (bq_fi E v1 0 3).bind fun v2 =>
  tl_X4_buildUpFrom_14 a0 bq_fuel (0 : Int32) v1 v2 E)
  else none

def tw_X4_grow (E : bq_E) (a0 : Nat) (x1 : Int32) (x2 : Int32) : Option (Int32 × bq_E) :=
  if bq_cls E a0 = 4 then
  ((bq_fi E a0 4 3).bind fun v1 =>
  (tw_X4_at E a0 x1).bind fun v2 =>
  bq_let (fun (E3 : bq_E) =>
    (tw_X4_at E3 a0 v1).bind fun v4 =>
    (bq_fi E3 v2 0 3).bind fun v5 =>
    (tw_X0_begin E3 v4 x1 (v5 + (1 : Int32))).bind fun E6 =>
    (bq_fi E6 a0 4 3).bind fun v7 =>
    (bq_p E6 a0 4 3 (.int (v7 + (1 : Int32)))).bind fun E8 =>
    (tw_X4_buildUpFrom E8 a0 v1).bind fun v9 =>
    some (v1, v9.2)) fun k32 =>
  if x2 = (1 : Int32) then
    ((bq_p E v2 0 1 (.int v1)).bind fun E11 =>
    k32 E11)
  else
    ((bq_p E v2 0 2 (.int v1)).bind fun E10 =>
    k32 E10))
  else none

def tw_X4_renew (E : bq_E) (a0 : Nat) (x1 : Int32) : Option (Int32 × bq_E) :=
  if bq_cls E a0 = 4 then
  ((tw_X4_at E a0 x1).bind fun v1 =>
  (tw_X0_settle E v1).bind fun E2 =>
  (bq_fi E2 a0 4 10).bind fun v3 =>
  (bq_p E2 a0 4 10 (.int (v3 + (1 : Int32)))).bind fun E4 =>
  (tw_X4_buildUpFrom E4 a0 x1).bind fun v5 =>
  some (v5.1, v5.2))
  else none

def tw_X4_takeIn (E : bq_E) (a0 : Nat) (x1 : Int32) (x2 : Int32) : Option (Bool × bq_E) :=
  if bq_cls E a0 = 4 then
  ((tw_X4_at E a0 x1).bind fun v1 =>
  (tw_X0_holds E v1 x2).bind fun v2 =>
  if (bq_b v2) = 0 then
    ((tw_X0_takeIn E v1 x2).bind fun v3 =>
    bq_let (bq_b v3.1) fun v4 =>
    if v4 = 0 then
      (some (true, v3.2))
    else
      ((bq_fr v3.2 v1 0 7).bind fun v5 =>
      (tw_X3_size v3.2 v5).bind fun v6 =>
      (bq_fi v3.2 a0 4 4).bind fun v7 =>
      if v6 < v7 then
        (some (true, v3.2))
      else
        ((tw_X4_renew v3.2 a0 x1).bind fun v8 =>
        some (true, v8.2))))
  else
    (some (false, E)))
  else none

def tw_X4_drop (E : bq_E) (a0 : Nat) (x1 : Int32) (x2 : Int32) : Option (Bool × bq_E) :=
  if bq_cls E a0 = 4 then
  ((tw_X4_at E a0 x1).bind fun v1 =>
  (tw_X0_holds E v1 x2).bind fun v2 =>
  if (bq_b v2) = 0 then
    (some (false, E))
  else
    ((tw_X0_letGo E v1 x2).bind fun v3 =>
    bq_let (bq_b v3.1) fun v4 =>
    if v4 = 0 then
      (some (true, v3.2))
    else
      ((bq_fi v3.2 v1 0 4).bind fun v5 =>
      (bq_fr v3.2 v1 0 5).bind fun v6 =>
      (tw_X3_size v3.2 v6).bind fun v7 =>
      if ((2 : Int32) * v5) ≤ v7 then
        (some (true, v3.2))
      else
        ((tw_X4_renew v3.2 a0 x1).bind fun v8 =>
        some (true, v8.2)))))
  else none

def tl_X4_keysOfAll_4 (E : bq_E) (a0 : Nat) : Nat → Int32 → Int32 → Option Int32
  | 0, _, _ => none
  | n + 1, x1, x2 =>
  (bq_fi E a0 4 3).bind fun v401 =>
  if v401 ≤ x2 then
    (some x1)
  else
    ((tw_X4_at E a0 x2).bind fun v402 =>
    (tw_X0_keyCount E v402).bind fun v403 =>
    bq_let (x1 + v403) fun v404 =>
    bq_let (x2 + 1) fun v405 =>
    tl_X4_keysOfAll_4 E a0 n v404 v405)
def tw_X4_keysOfAll (E : bq_E) (a0 : Nat) : Option Int32 :=
  if bq_cls E a0 = 4 then
  (tl_X4_keysOfAll_4 E a0 bq_fuel (0 : Int32) (0 : Int32))
  else none

def tl_X4_entriesOfAll_4 (E : bq_E) (a0 : Nat) : Nat → Int32 → Int32 → Option Int32
  | 0, _, _ => none
  | n + 1, x1, x2 =>
  (bq_fi E a0 4 3).bind fun v401 =>
  if v401 ≤ x2 then
    (some x1)
  else
    ((tw_X4_at E a0 x2).bind fun v402 =>
    (bq_fr E v402 0 8).bind fun v403 =>
    (tw_X2_size E v403).bind fun v404 =>
    bq_let (x1 + v404) fun v405 =>
    bq_let (x2 + 1) fun v406 =>
    tl_X4_entriesOfAll_4 E a0 n v405 v406)
def tw_X4_entriesOfAll (E : bq_E) (a0 : Nat) : Option Int32 :=
  if bq_cls E a0 = 4 then
  (tl_X4_entriesOfAll_4 E a0 bq_fuel (0 : Int32) (0 : Int32))
  else none
