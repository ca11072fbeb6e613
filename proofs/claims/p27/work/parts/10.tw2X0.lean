def tw_X0_child (E : bq_E) (a0 : Nat) (x1 : Int32) : Option Int32 :=
  if bq_cls E a0 = 0 then
  (if x1 = (1 : Int32) then
    ((bq_fi E a0 0 1).bind fun v2 =>
    some v2)
  else
    ((bq_fi E a0 0 2).bind fun v1 =>
    some v1))
  else none

def tw_X0_isMarked (E : bq_E) (a0 : Nat) (x1 : Int32) : Option Bool :=
  if bq_cls E a0 = 0 then
  ((bq_fr E a0 0 6).bind fun v1 =>
  (tw_X3_at E v1 x1 (0 : Int32)).bind fun v2 =>
  if v2 = (1 : Int32) then
    (some true)
  else
    (some false))
  else none

def tw_X0_keyCount (E : bq_E) (a0 : Nat) : Option Int32 :=
  if bq_cls E a0 = 0 then
  ((bq_fr E a0 0 5).bind fun v1 =>
  (tw_X3_size E v1).bind fun v2 =>
  (bq_fi E a0 0 4).bind fun v3 =>
  (bq_fr E a0 0 7).bind fun v4 =>
  (tw_X3_size E v4).bind fun v5 =>
  some ((v2 - v3) + v5))
  else none

def tw_X0_isFull (E : bq_E) (a0 : Nat) : Option Bool :=
  if bq_cls E a0 = 0 then
  ((tw_X0_keyCount E a0).bind fun v1 =>
  if v1 < (24 : Int32) then
    (some false)
  else
    (some true))
  else none

def tw_X0_holds (E : bq_E) (a0 : Nat) (x1 : Int32) : Option Bool :=
  if bq_cls E a0 = 0 then
  ((bq_fr E a0 0 5).bind fun v1 =>
  (tw_X3_indexOf E v1 x1).bind fun v2 =>
  bq_let (fun (_ : Unit) =>
    (bq_fr E a0 0 7).bind fun v3 =>
    (tw_X3_indexOf E v3 x1).bind fun v4 =>
    if v4 = (-1 : Int32) then
      (some false)
    else
      (some true)) fun k22 =>
  if v2 = (-1 : Int32) then
    (k22 ())
  else
    ((tw_X0_isMarked E a0 v2).bind fun v5 =>
    if (bq_b v5) = 0 then
      (some true)
    else
      (k22 ())))
  else none

def tw_X0_takeIn (E : bq_E) (a0 : Nat) (x1 : Int32) : Option (Bool × bq_E) :=
  if bq_cls E a0 = 0 then
  ((bq_fr E a0 0 5).bind fun v1 =>
  (tw_X3_indexOf E v1 x1).bind fun v2 =>
  if v2 = (-1 : Int32) then
    ((bq_fr E a0 0 7).bind fun v7 =>
    (tw_X3_append E v7 x1).bind fun E8 =>
    some (true, E8))
  else
    ((bq_fr E a0 0 6).bind fun v3 =>
    (tw_X3_put E v3 v2 (0 : Int32)).bind fun E4 =>
    (bq_fi E4 a0 0 4).bind fun v5 =>
    (bq_p E4 a0 0 4 (.int (v5 - (1 : Int32)))).bind fun E6 =>
    some (false, E6)))
  else none

def tw_X0_letGo (E : bq_E) (a0 : Nat) (x1 : Int32) : Option (Bool × bq_E) :=
  if bq_cls E a0 = 0 then
  ((bq_fr E a0 0 7).bind fun v1 =>
  (tw_X3_indexOf E v1 x1).bind fun v2 =>
  if v2 = (-1 : Int32) then
    ((bq_fr E a0 0 6).bind fun v3 =>
    (bq_fr E a0 0 5).bind fun v4 =>
    (tw_X3_indexOf E v4 x1).bind fun v5 =>
    (tw_X3_put E v3 v5 (1 : Int32)).bind fun E6 =>
    (bq_fi E6 a0 0 4).bind fun v7 =>
    (bq_p E6 a0 0 4 (.int (v7 + (1 : Int32)))).bind fun E8 =>
    some (true, E8))
  else
    ((bq_fr E a0 0 7).bind fun v9 =>
    (tw_X3_cutOut E v9 v2).bind fun E10 =>
    some (false, E10)))
  else none

def tl_X0_settle_4 (a0 : Nat) (K : Int32 → Int32 → bq_E → Option bq_E) : Nat → Int32 → Int32 → bq_E → Option bq_E
  | 0, _, _, _ => none
  | n + 1, x1, x2, E =>
  (bq_fr E a0 0 5).bind fun v401 =>
  (tw_X3_size E v401).bind fun v402 =>
  if v402 ≤ x2 then
    (K x1 x2 E)
  else
    ((tw_X0_isMarked E a0 x2).bind fun v403 =>
    if (bq_b v403) = 0 then
      ((bq_fr E a0 0 5).bind fun v405 =>
      (bq_fr E a0 0 5).bind fun v406 =>
      (tw_X3_at E v406 x2 (0 : Int32)).bind fun v407 =>
      (tw_X3_put E v405 x1 v407).bind fun E408 =>
      bq_let (x1 + 1) fun v409 =>
      bq_let (x2 + 1) fun v410 =>
      tl_X0_settle_4 a0 K n v409 v410 E408)
    else
      (bq_let (x2 + 1) fun v404 =>
      tl_X0_settle_4 a0 K n x1 v404 E))
def tl_X0_settle_59 (a0 : Nat) (K : Int32 → bq_E → Option bq_E) : Nat → Int32 → bq_E → Option bq_E
  | 0, _, _ => none
  | n + 1, x2, E =>
  (bq_fr E a0 0 7).bind fun v5901 =>
  (tw_X3_size E v5901).bind fun v5902 =>
  if v5902 ≤ x2 then
    (K x2 E)
  else
    ((bq_fr E a0 0 7).bind fun v5903 =>
    (tw_X3_at E v5903 x2 (0 : Int32)).bind fun v5904 =>
    (bq_fr E a0 0 5).bind fun v5905 =>
    (bq_fr E a0 0 5).bind fun v5906 =>
    (tw_X3_firstAtLeast E v5906 v5904 (0 : Int32)).bind fun v5907 =>
    (tw_X3_insert E v5905 v5907 v5904).bind fun E5908 =>
    bq_let (x2 + 1) fun v5909 =>
    tl_X0_settle_59 a0 K n v5909 E5908)
def tl_X0_settle_121 (a0 : Nat) : Nat → Int32 → bq_E → Option bq_E
  | 0, _, _ => none
  | n + 1, x2, E =>
  (bq_fr E a0 0 5).bind fun v12101 =>
  (tw_X3_size E v12101).bind fun v12102 =>
  if v12102 ≤ x2 then
    ((bq_p E a0 0 4 (.int (0 : Int32))).bind fun E12103 =>
    some E12103)
  else
    ((bq_fr E a0 0 6).bind fun v12104 =>
    (tw_X3_append E v12104 (0 : Int32)).bind fun E12105 =>
    bq_let (x2 + 1) fun v12106 =>
    tl_X0_settle_121 a0 n v12106 E12105)
def tw_X0_settle (E : bq_E) (a0 : Nat) : Option bq_E :=
  if bq_cls E a0 = 0 then
  (tl_X0_settle_4 a0 (fun y1 y2 E3 =>
    (bq_fr E3 a0 0 5).bind fun v4 =>
  (tw_X3_cutTo E3 v4 y1).bind fun E5 =>
  tl_X0_settle_59 a0 (fun y6 E7 =>
    (bq_fr E7 a0 0 7).bind fun v8 =>
  (tw_X3_cutTo E7 v8 (0 : Int32)).bind fun E9 =>
  (bq_fr E9 a0 0 6).bind fun v10 =>
  (tw_X3_cutTo E9 v10 (0 : Int32)).bind fun E11 =>
  tl_X0_settle_121 a0 bq_fuel (0 : Int32) E11) bq_fuel (0 : Int32) E5) bq_fuel (0 : Int32) (0 : Int32) E)
  else none

def tl_X0_firstUnmarked_2 (E : bq_E) (a0 : Nat) : Nat → Int32 → Option Int32
  | 0, _ => none
  | n + 1, x2 =>
  (bq_fr E a0 0 5).bind fun v201 =>
  (tw_X3_size E v201).bind fun v202 =>
  if v202 ≤ x2 then
    (some x2)
  else
    ((bq_fr E a0 0 6).bind fun v203 =>
    (tw_X3_at E v203 x2 (0 : Int32)).bind fun v204 =>
    if v204 = (1 : Int32) then
      (bq_let (x2 + 1) fun v205 =>
      tl_X0_firstUnmarked_2 E a0 n v205)
    else
      (some x2))
def tw_X0_firstUnmarked (E : bq_E) (a0 : Nat) (x1 : Int32) : Option Int32 :=
  if bq_cls E a0 = 0 then
  (tl_X0_firstUnmarked_2 E a0 bq_fuel x1)
  else none

def tl_X0_leastBuffered_5 (E : bq_E) (a0 : Nat) (x1 : Int32) : Nat → Int32 → Int32 → Option Int32
  | 0, _, _ => none
  | n + 1, x3, x4 =>
  (bq_fr E a0 0 7).bind fun v501 =>
  (tw_X3_size E v501).bind fun v502 =>
  if v502 ≤ x4 then
    (some x3)
  else
    ((bq_fr E a0 0 7).bind fun v503 =>
    (tw_X3_at E v503 x4 (0 : Int32)).bind fun v504 =>
    if v504 < x1 then
      (bq_let (x4 + 1) fun v505 =>
      tl_X0_leastBuffered_5 E a0 x1 n x3 v505)
    else
      (if x3 ≤ v504 then
        (bq_let (x4 + 1) fun v506 =>
        tl_X0_leastBuffered_5 E a0 x1 n x3 v506)
      else
        (bq_let (x4 + 1) fun v507 =>
        tl_X0_leastBuffered_5 E a0 x1 n v504 v507)))
def tw_X0_leastBuffered (E : bq_E) (a0 : Nat) (x1 : Int32) (x2 : Int32) : Option Int32 :=
  if bq_cls E a0 = 0 then
  (tl_X0_leastBuffered_5 E a0 x1 bq_fuel x2 (0 : Int32))
  else none

def tl_X0_keyInOrder_14 (E : bq_E) (a0 : Nat) (x1 : Int32) : Nat → Int32 → Int32 → Option Int32
  | 0, _, _ => none
  | n + 1, x2, x3 =>
  if x1 < x3 then
    (some x2)
  else
    (bq_let (x2 + (1 : Int32)) fun v1401 =>
    (bq_fr E a0 0 5).bind fun v1402 =>
    (tw_X3_firstAtLeast E v1402 v1401 (0 : Int32)).bind fun v1403 =>
    (tw_X0_firstUnmarked E a0 v1403).bind fun v1404 =>
    (bq_fr E a0 0 5).bind fun v1405 =>
    (tw_X3_at E v1405 v1404 (10000 : Int32)).bind fun v1406 =>
    (tw_X0_leastBuffered E a0 v1401 v1406).bind fun v1407 =>
    bq_let (x3 + 1) fun v1408 =>
    tl_X0_keyInOrder_14 E a0 x1 n v1407 v1408)
def tw_X0_keyInOrder (E : bq_E) (a0 : Nat) (x1 : Int32) : Option Int32 :=
  if bq_cls E a0 = 0 then
  ((tw_X0_keyCount E a0).bind fun v1 =>
  if x1 < v1 then
    (tl_X0_keyInOrder_14 E a0 x1 bq_fuel (-1 : Int32) (0 : Int32))
  else
    (some (-1 : Int32)))
  else none

def tw_X0_begin (E : bq_E) (a0 : Nat) (x1 : Int32) (x2 : Int32) : Option bq_E :=
  if bq_cls E a0 = 0 then
  ((bq_p E a0 0 0 (.int x1)).bind fun E1 =>
  (bq_p E1 a0 0 1 (.int (-1 : Int32))).bind fun E2 =>
  (bq_p E2 a0 0 2 (.int (-1 : Int32))).bind fun E3 =>
  (bq_p E3 a0 0 3 (.int x2)).bind fun E4 =>
  (bq_p E4 a0 0 4 (.int (0 : Int32))).bind fun E5 =>
  (bq_fr E5 a0 0 5).bind fun v6 =>
  (tw_X3_cutTo E5 v6 (0 : Int32)).bind fun E7 =>
  (bq_fr E7 a0 0 6).bind fun v8 =>
  (tw_X3_cutTo E7 v8 (0 : Int32)).bind fun E9 =>
  (bq_fr E9 a0 0 7).bind fun v10 =>
  (tw_X3_cutTo E9 v10 (0 : Int32)).bind fun E11 =>
  some E11)
  else none

def tw_X0_copyFrom (E : bq_E) (a0 : Nat) (a1 : Nat) : Option bq_E :=
  if bq_cls E a0 = 0 then
  ((bq_fi E a1 0 0).bind fun v1 =>
  (bq_p E a0 0 0 (.int v1)).bind fun E2 =>
  (bq_fi E2 a1 0 1).bind fun v3 =>
  (bq_p E2 a0 0 1 (.int v3)).bind fun E4 =>
  (bq_fi E4 a1 0 2).bind fun v5 =>
  (bq_p E4 a0 0 2 (.int v5)).bind fun E6 =>
  (bq_fi E6 a1 0 3).bind fun v7 =>
  (bq_p E6 a0 0 3 (.int v7)).bind fun E8 =>
  (bq_fi E8 a1 0 4).bind fun v9 =>
  (bq_p E8 a0 0 4 (.int v9)).bind fun E10 =>
  (bq_fr E10 a0 0 5).bind fun v11 =>
  (bq_fr E10 a1 0 5).bind fun v12 =>
  (tw_X3_copyFrom E10 v11 v12).bind fun E13 =>
  (bq_fr E13 a0 0 6).bind fun v14 =>
  (bq_fr E13 a1 0 6).bind fun v15 =>
  (tw_X3_copyFrom E13 v14 v15).bind fun E16 =>
  (bq_fr E16 a0 0 7).bind fun v17 =>
  (bq_fr E16 a1 0 7).bind fun v18 =>
  (tw_X3_copyFrom E16 v17 v18).bind fun E19 =>
  (bq_fr E19 a0 0 8).bind fun v20 =>
  (bq_fr E19 a1 0 8).bind fun v21 =>
  (tw_X2_copyFrom E19 v20 v21).bind fun E22 =>
  some E22)
  else none
