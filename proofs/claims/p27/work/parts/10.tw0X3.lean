def tw_X3_at (E : bq_E) (a0 : Nat) (x1 : Int32) (x2 : Int32) : Option Int32 :=
  if bq_cls E a0 = 3 then
  (if x1 < 0 then
    (some x2)
  else
    ((bq_fi E a0 3 1).bind fun v1 =>
    if v1 ≤ x1 then
      (some x2)
    else
      ((bq_fr E a0 3 0).bind fun v2 =>
      (bq_len E v2).bind fun v3 =>
      if v3 ≤ x1 then
        (some x2)
      else
        ((bq_fr E a0 3 0).bind fun v4 =>
        (bq_ai E v4 x1).bind fun v5 =>
        some v5))))
  else none

def tw_X3_size (E : bq_E) (a0 : Nat) : Option Int32 :=
  if bq_cls E a0 = 3 then
  ((bq_fi E a0 3 1).bind fun v1 =>
  some v1)
  else none

def tl_X3_indexOf_2 (E : bq_E) (a0 : Nat) (x1 : Int32) : Nat → Int32 → Option Int32
  | 0, _ => none
  | n + 1, x2 =>
  (bq_fi E a0 3 1).bind fun v201 =>
  if v201 ≤ x2 then
    (some (-1 : Int32))
  else
    ((tw_X3_at E a0 x2 (0 : Int32)).bind fun v202 =>
    if v202 = x1 then
      (some x2)
    else
      (bq_let (x2 + 1) fun v203 =>
      tl_X3_indexOf_2 E a0 x1 n v203))
def tw_X3_indexOf (E : bq_E) (a0 : Nat) (x1 : Int32) : Option Int32 :=
  if bq_cls E a0 = 3 then
  (tl_X3_indexOf_2 E a0 x1 bq_fuel (0 : Int32))
  else none

def tw_X3_append (E : bq_E) (a0 : Nat) (x1 : Int32) : Option bq_E :=
  if bq_cls E a0 = 3 then
  ((bq_fi E a0 3 1).bind fun v1 =>
  if v1 < 0 then
    (some E)
  else
    ((bq_fi E a0 3 1).bind fun v2 =>
    (bq_fr E a0 3 0).bind fun v3 =>
    (bq_len E v3).bind fun v4 =>
    if v4 ≤ v2 then
      (some E)
    else
      ((bq_fr E a0 3 0).bind fun v5 =>
      (bq_fi E a0 3 1).bind fun v6 =>
      (bq_si E v5 v6 x1).bind fun E7 =>
      (bq_fi E7 a0 3 1).bind fun v8 =>
      (bq_p E7 a0 3 1 (.int (v8 + (1 : Int32)))).bind fun E9 =>
      some E9)))
  else none

def tw_X3_put (E : bq_E) (a0 : Nat) (x1 : Int32) (x2 : Int32) : Option bq_E :=
  if bq_cls E a0 = 3 then
  (if x1 < 0 then
    (some E)
  else
    ((bq_fi E a0 3 1).bind fun v1 =>
    if v1 ≤ x1 then
      (some E)
    else
      ((bq_fr E a0 3 0).bind fun v2 =>
      (bq_len E v2).bind fun v3 =>
      if v3 ≤ x1 then
        (some E)
      else
        ((bq_fr E a0 3 0).bind fun v4 =>
        (bq_si E v4 x1 x2).bind fun E5 =>
        some E5))))
  else none

def tl_X3_cutOut_15 (a0 : Nat) : Nat → Int32 → bq_E → Option bq_E
  | 0, _, _ => none
  | n + 1, x2, E =>
  (bq_fi E a0 3 1).bind fun v1501 =>
  if (v1501 - (1 : Int32)) ≤ x2 then
    ((bq_fi E a0 3 1).bind fun v1502 =>
    (bq_p E a0 3 1 (.int (v1502 - (1 : Int32)))).bind fun E1503 =>
    some E1503)
  else
    ((tw_X3_at E a0 (x2 + (1 : Int32)) (0 : Int32)).bind fun v1504 =>
    (tw_X3_put E a0 x2 v1504).bind fun E1505 =>
    bq_let (x2 + 1) fun v1506 =>
    tl_X3_cutOut_15 a0 n v1506 E1505)
def tw_X3_cutOut (E : bq_E) (a0 : Nat) (x1 : Int32) : Option bq_E :=
  if bq_cls E a0 = 3 then
  (if x1 < 0 then
    (some E)
  else
    ((bq_fi E a0 3 1).bind fun v1 =>
    if x1 < v1 then
      (tl_X3_cutOut_15 a0 bq_fuel x1 E)
    else
      (some E)))
  else none

def tw_X3_cutTo (E : bq_E) (a0 : Nat) (x1 : Int32) : Option bq_E :=
  if bq_cls E a0 = 3 then
  (if x1 < 0 then
    (some E)
  else
    ((bq_fi E a0 3 1).bind fun v1 =>
    if v1 ≤ x1 then
      (some E)
    else
      ((bq_p E a0 3 1 (.int x1)).bind fun E2 =>
      some E2)))
  else none

def tl_X3_firstAtLeast_2 (E : bq_E) (a0 : Nat) (x1 : Int32) : Nat → Int32 → Option Int32
  | 0, _ => none
  | n + 1, x3 =>
  if x3 < 0 then
    (some x3)
  else
    ((bq_fi E a0 3 1).bind fun v201 =>
    if v201 ≤ x3 then
      (some x3)
    else
      ((bq_fr E a0 3 0).bind fun v202 =>
      (bq_len E v202).bind fun v203 =>
      if v203 ≤ x3 then
        (some x3)
      else
        ((bq_fr E a0 3 0).bind fun v204 =>
        (bq_ai E v204 x3).bind fun v205 =>
        if x1 ≤ v205 then
          (some x3)
        else
          (bq_let (x3 + 1) fun v206 =>
          tl_X3_firstAtLeast_2 E a0 x1 n v206))))
def tw_X3_firstAtLeast (E : bq_E) (a0 : Nat) (x1 : Int32) (x2 : Int32) : Option Int32 :=
  if bq_cls E a0 = 3 then
  (tl_X3_firstAtLeast_2 E a0 x1 bq_fuel x2)
  else none

def tl_X3_insert_42 (a0 : Nat) (x1 : Int32) (x2 : Int32) : Nat → Int32 → bq_E → Option bq_E
  | 0, _, _ => none
  | n + 1, x3, E =>
  if x3 ≤ x1 then
    ((tw_X3_put E a0 x1 x2).bind fun E4201 =>
    some E4201)
  else
    ((tw_X3_at E a0 (x3 - (1 : Int32)) (0 : Int32)).bind fun v4202 =>
    (tw_X3_put E a0 x3 v4202).bind fun E4203 =>
    bq_let (x3 + (-1)) fun v4204 =>
    tl_X3_insert_42 a0 x1 x2 n v4204 E4203)
def tw_X3_insert (E : bq_E) (a0 : Nat) (x1 : Int32) (x2 : Int32) : Option bq_E :=
  if bq_cls E a0 = 3 then
  (if x1 < 0 then
    (some E)
  else
    ((bq_fi E a0 3 1).bind fun v1 =>
    if v1 < x1 then
      (some E)
    else
      ((bq_fi E a0 3 1).bind fun v2 =>
      (bq_fr E a0 3 0).bind fun v3 =>
      (bq_len E v3).bind fun v4 =>
      if v2 < v4 then
        ((bq_fi E a0 3 1).bind fun v5 =>
        (bq_p E a0 3 1 (.int (v5 + (1 : Int32)))).bind fun E6 =>
        (bq_fi E6 a0 3 1).bind fun v7 =>
        bq_let (v7 - (1 : Int32)) fun v8 =>
        tl_X3_insert_42 a0 x1 x2 bq_fuel v8 E6)
      else
        (some E))))
  else none

def tw_X3_copyFrom (E : bq_E) (a0 : Nat) (a1 : Nat) : Option bq_E :=
  if bq_cls E a0 = 3 then
  ((bq_fi E a1 3 1).bind fun v1 =>
  (bq_fr E a1 3 0).bind fun v2 =>
  (bq_len E v2).bind fun v3 =>
  (bq_fr E a0 3 0).bind fun v4 =>
  (bq_len E v4).bind fun v5 =>
  bq_let (if v5 < v3 then v5 else v3) fun v6 =>
  bq_let (if v6 < v1 then v6 else v1) fun v7 =>
  if v7 < 0 then
    (some E)
  else
    ((bq_fr E a1 3 0).bind fun v8 =>
    (bq_fr E a0 3 0).bind fun v9 =>
    (bq_cp E v8 (0 : Int32) v9 (0 : Int32) v7).bind fun E10 =>
    (bq_p E10 a0 3 1 (.int v7)).bind fun E11 =>
    some E11))
  else none
