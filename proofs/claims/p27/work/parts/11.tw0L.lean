def tw_L_low (E : bq_E) (x0 : Int32) (x1 : Int32) : Option Int32 :=
  if x1 = 0 then none else
  bq_let (bq_rem (x0 &&& (2147483647 : Int32)) x1) fun v1 =>
  some v1

def tw_L_adds (E : bq_E) (a0 : Nat) (x1 : Int32) (x2 : Int32) : Option (Int32 × bq_E) :=
  (tw_X6_addNode E a0 x1 x2).bind fun v1 =>
  bq_elim v1.1 (fun v2 =>
  some (v2, v1.2)) fun X3 => if X3 = "java/lang/IndexOutOfBoundsException" then (some ((-100001 : Int32), v1.2)) else if X3 = "java/lang/IllegalArgumentException" then (some ((-100002 : Int32), v1.2)) else if X3 = "java/lang/IllegalStateException" then (some ((-100003 : Int32), v1.2)) else none

def tw_L_puts (E : bq_E) (a0 : Nat) (x1 : Int32) (x2 : Int32) : Option (Int32 × bq_E) :=
  (tw_X6_add E a0 x1 x2).bind fun v1 =>
  bq_elim v1.1 (fun v2 =>
  if (bq_b v2) = 0 then
    (some ((0 : Int32), v1.2))
  else
    (some ((1 : Int32), v1.2))) fun X3 => if X3 = "java/lang/IndexOutOfBoundsException" then (some ((-100001 : Int32), v1.2)) else if X3 = "java/lang/IllegalArgumentException" then (some ((-100002 : Int32), v1.2)) else if X3 = "java/lang/IllegalStateException" then (some ((-100003 : Int32), v1.2)) else none

def tw_L_drops (E : bq_E) (a0 : Nat) (x1 : Int32) (x2 : Int32) : Option (Int32 × bq_E) :=
  (tw_X6_remove E a0 x1 x2).bind fun v1 =>
  bq_elim v1.1 (fun v2 =>
  if (bq_b v2) = 0 then
    (some ((0 : Int32), v1.2))
  else
    (some ((1 : Int32), v1.2))) fun X3 => if X3 = "java/lang/IndexOutOfBoundsException" then (some ((-100001 : Int32), v1.2)) else if X3 = "java/lang/IllegalArgumentException" then (some ((-100002 : Int32), v1.2)) else none

def tw_L_series (E : bq_E) (a0 : Nat) (x1 : Int32) (x2 : Int32) (x3 : Int32) (x4 : Int32) : Option (Int32 × bq_E) :=
  (tw_X6_addSeries E a0 x1 x2 x3 x4).bind fun v1 =>
  bq_elim v1.1 (fun v2 =>
  some (v2, v1.2)) fun X3 => if X3 = "java/lang/IndexOutOfBoundsException" then (some ((-100001 : Int32), v1.2)) else if X3 = "java/lang/IllegalArgumentException" then (some ((-100002 : Int32), v1.2)) else none

def tw_L_sizes (E : bq_E) (a0 : Nat) (x1 : Int32) (x2 : Int32) : Option (Int32 × bq_E) :=
  (tw_X6_setSizes E a0 x1 x2).bind fun v1 =>
  bq_elim v1.1 (fun v2 =>
  some (v2, v1.2)) fun X3 => if X3 = "java/lang/IllegalArgumentException" then (some ((-100002 : Int32), v1.2)) else none

def tw_L_builds (E : bq_E) (a0 : Nat) (x1 : Int32) : Option (Int32 × bq_E) :=
  (tw_X6_rebuild E a0 x1).bind fun v1 =>
  bq_elim v1.1 (fun v2 =>
  some (v2, v1.2)) fun X3 => if X3 = "java/lang/IndexOutOfBoundsException" then (some ((-100001 : Int32), v1.2)) else none

def tw_L_finds (E : bq_E) (a0 : Nat) (x1 : Int32) (x2 : Int32) : Option (Int32 × bq_E) :=
  (tw_X6_search E a0 x1 x2).bind fun v1 =>
  bq_elim v1.1 (fun v2 =>
  some (v2, v1.2)) fun X3 => if X3 = "java/lang/IndexOutOfBoundsException" then (some ((-100001 : Int32), v1.2)) else if X3 = "java/lang/IllegalArgumentException" then (some ((-100002 : Int32), v1.2)) else none

def tw_L_nodeOf (E : bq_E) (a0 : Nat) (x1 : Int32) (x2 : Int32) : Option (Int32 × bq_E) :=
  (tw_X6_node E a0 x1 x2).bind fun v1 =>
  bq_elim v1 (fun v2 =>
  some (v2, E)) fun X3 => if X3 = "java/lang/IndexOutOfBoundsException" then (some ((-100001 : Int32), E)) else if X3 = "java/lang/IllegalArgumentException" then (some ((-100002 : Int32), E)) else none

def tw_L_keyOf (E : bq_E) (a0 : Nat) (x1 : Int32) (x2 : Int32) : Option (Int32 × bq_E) :=
  (tw_X6_key E a0 x1 x2).bind fun v1 =>
  bq_elim v1 (fun v2 =>
  some (v2, E)) fun X3 => if X3 = "java/lang/IndexOutOfBoundsException" then (some ((-100001 : Int32), E)) else if X3 = "java/lang/IllegalArgumentException" then (some ((-100002 : Int32), E)) else none

def tw_L_baseOf (E : bq_E) (a0 : Nat) (x1 : Int32) (x2 : Int32) : Option (Int32 × bq_E) :=
  (tw_X6_baseKey E a0 x1 x2).bind fun v1 =>
  bq_elim v1 (fun v2 =>
  some (v2, E)) fun X3 => if X3 = "java/lang/IndexOutOfBoundsException" then (some ((-100001 : Int32), E)) else if X3 = "java/lang/IllegalArgumentException" then (some ((-100002 : Int32), E)) else none

def tw_L_bufferOf (E : bq_E) (a0 : Nat) (x1 : Int32) (x2 : Int32) : Option (Int32 × bq_E) :=
  (tw_X6_bufferKey E a0 x1 x2).bind fun v1 =>
  bq_elim v1 (fun v2 =>
  some (v2, E)) fun X3 => if X3 = "java/lang/IndexOutOfBoundsException" then (some ((-100001 : Int32), E)) else if X3 = "java/lang/IllegalArgumentException" then (some ((-100002 : Int32), E)) else none

def tw_L_countOf (E : bq_E) (a0 : Nat) (x1 : Int32) : Option (Int32 × bq_E) :=
  (tw_X6_count E a0 x1).bind fun v1 =>
  bq_elim v1 (fun v2 =>
  some (v2, E)) fun X3 => if X3 = "java/lang/IllegalArgumentException" then (some ((-100002 : Int32), E)) else none

def tl_L_inBase_6 (E : bq_E) (a0 : Nat) (a1 : Nat) (x2 : Int32) (x3 : Int32) : Nat → Int32 → Int32 → Option Int32
  | 0, _, _ => none
  | n + 1, x4, x5 =>
  (bq_ai E a1 x2).bind fun v601 =>
  if v601 ≤ x5 then
    (some x4)
  else
    ((bq_ai E a0 x5).bind fun v602 =>
    bq_let (bq_rem v602 (10000 : Int32)) fun v603 =>
    if v603 = x3 then
      (bq_let (x5 + 1) fun v605 =>
      tl_L_inBase_6 E a0 a1 x2 x3 n x5 v605)
    else
      (bq_let (x5 + 1) fun v604 =>
      tl_L_inBase_6 E a0 a1 x2 x3 n x4 v604))
def tw_L_inBase (E : bq_E) (a0 : Nat) (a1 : Nat) (x2 : Int32) (x3 : Int32) : Option Int32 :=
  tl_L_inBase_6 E a0 a1 x2 x3 bq_fuel (-1 : Int32) (0 : Int32)

def tl_L_inBuffer_6 (E : bq_E) (a0 : Nat) (a1 : Nat) (x2 : Int32) (x3 : Int32) : Nat → Int32 → Int32 → Option Int32
  | 0, _, _ => none
  | n + 1, x4, x5 =>
  (bq_ai E a1 ((8 : Int32) + x2)).bind fun v601 =>
  if v601 ≤ x5 then
    (some x4)
  else
    ((bq_ai E a0 (((8 : Int32) * x2) + x5)).bind fun v602 =>
    if v602 = x3 then
      (bq_let (x5 + 1) fun v604 =>
      tl_L_inBuffer_6 E a0 a1 x2 x3 n x5 v604)
    else
      (bq_let (x5 + 1) fun v603 =>
      tl_L_inBuffer_6 E a0 a1 x2 x3 n x4 v603))
def tw_L_inBuffer (E : bq_E) (a0 : Nat) (a1 : Nat) (x2 : Int32) (x3 : Int32) : Option Int32 :=
  tl_L_inBuffer_6 E a0 a1 x2 x3 bq_fuel (-1 : Int32) (0 : Int32)

def tw_L_has (E : bq_E) (a0 : Nat) (a1 : Nat) (a2 : Nat) (x3 : Int32) (x4 : Int32) : Option Bool :=
  (tw_L_inBase E a0 a2 x3 x4).bind fun v1 =>
  bq_let (fun (_ : Unit) =>
    (tw_L_inBuffer E a1 a2 x3 x4).bind fun v2 =>
    if v2 < 0 then
      (some false)
    else
      (some true)) fun k25 =>
  if v1 < 0 then
    (k25 ())
  else
    ((bq_ai E a0 v1).bind fun v3 =>
    if v3 < (10000 : Int32) then
      (some true)
    else
      (k25 ()))

def tl_L_marked_5 (E : bq_E) (a0 : Nat) (a1 : Nat) (x2 : Int32) : Nat → Int32 → Int32 → Option Int32
  | 0, _, _ => none
  | n + 1, x3, x4 =>
  (bq_ai E a1 x2).bind fun v501 =>
  if v501 ≤ x4 then
    (some x3)
  else
    ((bq_ai E a0 x4).bind fun v502 =>
    bq_let (x3 + (v502 / (10000 : Int32))) fun v503 =>
    bq_let (x4 + 1) fun v504 =>
    tl_L_marked_5 E a0 a1 x2 n v503 v504)
def tw_L_marked (E : bq_E) (a0 : Nat) (a1 : Nat) (x2 : Int32) : Option Int32 :=
  tl_L_marked_5 E a0 a1 x2 bq_fuel (0 : Int32) (0 : Int32)

def tw_L_size (E : bq_E) (a0 : Nat) (a1 : Nat) (x2 : Int32) : Option Int32 :=
  (bq_ai E a1 x2).bind fun v1 =>
  (bq_ai E a1 ((8 : Int32) + x2)).bind fun v2 =>
  (tw_L_marked E a0 a1 x2).bind fun v3 =>
  some ((v1 + v2) - v3)
