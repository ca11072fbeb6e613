def tw_L_addNode (E : bq_E) (a0 : Nat) (x1 : Int32) (x2 : Int32) (a3 : Nat) : Option (Int32 × bq_E) :=
  (tw_X6_addNode E a0 x1 x2).bind fun v1 =>
  bq_elim v1.1 (fun v2 =>
  (bq_sl v1.2 a3 (0 : Int32) (Int32.toInt64 v2)).bind fun E4 =>
  some ((0 : Int32), E4)) fun X3 => if X3 = "java/lang/IndexOutOfBoundsException" then (some ((1 : Int32), v1.2)) else if X3 = "java/lang/IllegalArgumentException" then (some ((2 : Int32), v1.2)) else if X3 = "java/lang/IllegalStateException" then (some ((3 : Int32), v1.2)) else none

def tw_L_add (E : bq_E) (a0 : Nat) (x1 : Int32) (x2 : Int32) (a3 : Nat) : Option (Int32 × bq_E) :=
  (tw_X6_add E a0 x1 x2).bind fun v1 =>
  bq_elim v1.1 (fun v2 =>
  if (bq_b v2) = 0 then
    ((bq_sl v1.2 a3 (0 : Int32) (0 : Int64)).bind fun E4 =>
    some ((0 : Int32), E4))
  else
    ((bq_sl v1.2 a3 (0 : Int32) (1 : Int64)).bind fun E5 =>
    some ((0 : Int32), E5))) fun X3 => if X3 = "java/lang/IndexOutOfBoundsException" then (some ((1 : Int32), v1.2)) else if X3 = "java/lang/IllegalArgumentException" then (some ((2 : Int32), v1.2)) else if X3 = "java/lang/IllegalStateException" then (some ((3 : Int32), v1.2)) else none

def tw_L_remove (E : bq_E) (a0 : Nat) (x1 : Int32) (x2 : Int32) (a3 : Nat) : Option (Int32 × bq_E) :=
  (tw_X6_remove E a0 x1 x2).bind fun v1 =>
  bq_elim v1.1 (fun v2 =>
  if (bq_b v2) = 0 then
    ((bq_sl v1.2 a3 (0 : Int32) (0 : Int64)).bind fun E4 =>
    some ((0 : Int32), E4))
  else
    ((bq_sl v1.2 a3 (0 : Int32) (1 : Int64)).bind fun E5 =>
    some ((0 : Int32), E5))) fun X3 => if X3 = "java/lang/IndexOutOfBoundsException" then (some ((1 : Int32), v1.2)) else if X3 = "java/lang/IllegalArgumentException" then (some ((2 : Int32), v1.2)) else none

def tw_L_addSeries (E : bq_E) (a0 : Nat) (x1 : Int32) (x2 : Int32) (x3 : Int32) (x4 : Int32) (a5 : Nat) : Option (Int32 × bq_E) :=
  (tw_X6_addSeries E a0 x1 x2 x3 x4).bind fun v1 =>
  bq_elim v1.1 (fun v2 =>
  (bq_sl v1.2 a5 (0 : Int32) (Int32.toInt64 v2)).bind fun E4 =>
  some ((0 : Int32), E4)) fun X3 => if X3 = "java/lang/IndexOutOfBoundsException" then (some ((1 : Int32), v1.2)) else if X3 = "java/lang/IllegalArgumentException" then (some ((2 : Int32), v1.2)) else none

def tw_L_setSizes (E : bq_E) (a0 : Nat) (x1 : Int32) (x2 : Int32) (a3 : Nat) : Option (Int32 × bq_E) :=
  (tw_X6_setSizes E a0 x1 x2).bind fun v1 =>
  bq_elim v1.1 (fun v2 =>
  (bq_sl v1.2 a3 (0 : Int32) (Int32.toInt64 v2)).bind fun E4 =>
  some ((0 : Int32), E4)) fun X3 => if X3 = "java/lang/IllegalArgumentException" then (some ((1 : Int32), v1.2)) else none

def tw_L_rebuild (E : bq_E) (a0 : Nat) (x1 : Int32) (a2 : Nat) : Option (Int32 × bq_E) :=
  (tw_X6_rebuild E a0 x1).bind fun v1 =>
  bq_elim v1.1 (fun v2 =>
  (bq_sl v1.2 a2 (0 : Int32) (Int32.toInt64 v2)).bind fun E4 =>
  some ((0 : Int32), E4)) fun X3 => if X3 = "java/lang/IndexOutOfBoundsException" then (some ((1 : Int32), v1.2)) else none

def tw_L_search (E : bq_E) (a0 : Nat) (x1 : Int32) (x2 : Int32) (a3 : Nat) : Option (Int32 × bq_E) :=
  (tw_X6_search E a0 x1 x2).bind fun v1 =>
  bq_elim v1.1 (fun v2 =>
  (bq_sl v1.2 a3 (0 : Int32) (Int32.toInt64 v2)).bind fun E4 =>
  some ((0 : Int32), E4)) fun X3 => if X3 = "java/lang/IndexOutOfBoundsException" then (some ((1 : Int32), v1.2)) else if X3 = "java/lang/IllegalArgumentException" then (some ((2 : Int32), v1.2)) else none

def tw_L_probes (E : bq_E) (a0 : Nat) (x1 : Int32) (x2 : Int32) (a3 : Nat) : Option (Int32 × bq_E) :=
  (tw_X6_probes E a0 x1 x2).bind fun v1 =>
  bq_elim v1.1 (fun v2 =>
  (bq_sl v1.2 a3 (0 : Int32) (Int32.toInt64 v2)).bind fun E4 =>
  some ((0 : Int32), E4)) fun X3 => if X3 = "java/lang/IndexOutOfBoundsException" then (some ((1 : Int32), v1.2)) else if X3 = "java/lang/IllegalArgumentException" then (some ((2 : Int32), v1.2)) else none

def tw_L_plainProbes (E : bq_E) (a0 : Nat) (x1 : Int32) (x2 : Int32) (a3 : Nat) : Option (Int32 × bq_E) :=
  (tw_X6_plainProbes E a0 x1 x2).bind fun v1 =>
  bq_elim v1.1 (fun v2 =>
  (bq_sl v1.2 a3 (0 : Int32) (Int32.toInt64 v2)).bind fun E4 =>
  some ((0 : Int32), E4)) fun X3 => if X3 = "java/lang/IndexOutOfBoundsException" then (some ((1 : Int32), v1.2)) else if X3 = "java/lang/IllegalArgumentException" then (some ((2 : Int32), v1.2)) else none

def tw_L_place (E : bq_E) (a0 : Nat) (x1 : Int32) (x2 : Int32) (a3 : Nat) : Option (Int32 × bq_E) :=
  (tw_X6_place E a0 x1 x2).bind fun v1 =>
  bq_elim v1.1 (fun v2 =>
  (bq_sl v1.2 a3 (0 : Int32) (Int32.toInt64 v2)).bind fun E4 =>
  some ((0 : Int32), E4)) fun X3 => if X3 = "java/lang/IndexOutOfBoundsException" then (some ((1 : Int32), v1.2)) else if X3 = "java/lang/IllegalArgumentException" then (some ((2 : Int32), v1.2)) else none

def tw_L_leastOnPath (E : bq_E) (a0 : Nat) (x1 : Int32) (x2 : Int32) (a3 : Nat) : Option (Int32 × bq_E) :=
  (tw_X6_leastOnPath E a0 x1 x2).bind fun v1 =>
  bq_elim v1.1 (fun v2 =>
  (bq_sl v1.2 a3 (0 : Int32) (Int32.toInt64 v2)).bind fun E4 =>
  some ((0 : Int32), E4)) fun X3 => if X3 = "java/lang/IndexOutOfBoundsException" then (some ((1 : Int32), v1.2)) else if X3 = "java/lang/IllegalArgumentException" then (some ((2 : Int32), v1.2)) else none

def tw_L_nearestOnPath (E : bq_E) (a0 : Nat) (x1 : Int32) (x2 : Int32) (a3 : Nat) : Option (Int32 × bq_E) :=
  (tw_X6_nearestOnPath E a0 x1 x2).bind fun v1 =>
  bq_elim v1.1 (fun v2 =>
  (bq_sl v1.2 a3 (0 : Int32) (Int32.toInt64 v2)).bind fun E4 =>
  some ((0 : Int32), E4)) fun X3 => if X3 = "java/lang/IndexOutOfBoundsException" then (some ((1 : Int32), v1.2)) else if X3 = "java/lang/IllegalArgumentException" then (some ((2 : Int32), v1.2)) else none

def tw_L_worst (E : bq_E) (a0 : Nat) (x1 : Int32) (a2 : Nat) : Option (Int32 × bq_E) :=
  (tw_X6_worst E a0 x1).bind fun v1 =>
  bq_elim v1.1 (fun v2 =>
  (bq_sl v1.2 a2 (0 : Int32) (Int32.toInt64 v2)).bind fun E4 =>
  some ((0 : Int32), E4)) fun X3 => if X3 = "java/lang/IndexOutOfBoundsException" then (some ((1 : Int32), v1.2)) else none

def tw_L_node (E : bq_E) (a0 : Nat) (x1 : Int32) (x2 : Int32) (a3 : Nat) : Option (Int32 × bq_E) :=
  (tw_X6_node E a0 x1 x2).bind fun v1 =>
  bq_elim v1 (fun v2 =>
  (bq_sl E a3 (0 : Int32) (Int32.toInt64 v2)).bind fun E4 =>
  some ((0 : Int32), E4)) fun X3 => if X3 = "java/lang/IndexOutOfBoundsException" then (some ((1 : Int32), E)) else if X3 = "java/lang/IllegalArgumentException" then (some ((2 : Int32), E)) else none

def tw_L_key (E : bq_E) (a0 : Nat) (x1 : Int32) (x2 : Int32) (a3 : Nat) : Option (Int32 × bq_E) :=
  (tw_X6_key E a0 x1 x2).bind fun v1 =>
  bq_elim v1 (fun v2 =>
  (bq_sl E a3 (0 : Int32) (Int32.toInt64 v2)).bind fun E4 =>
  some ((0 : Int32), E4)) fun X3 => if X3 = "java/lang/IndexOutOfBoundsException" then (some ((1 : Int32), E)) else if X3 = "java/lang/IllegalArgumentException" then (some ((2 : Int32), E)) else none

def tw_L_baseKey (E : bq_E) (a0 : Nat) (x1 : Int32) (x2 : Int32) (a3 : Nat) : Option (Int32 × bq_E) :=
  (tw_X6_baseKey E a0 x1 x2).bind fun v1 =>
  bq_elim v1 (fun v2 =>
  (bq_sl E a3 (0 : Int32) (Int32.toInt64 v2)).bind fun E4 =>
  some ((0 : Int32), E4)) fun X3 => if X3 = "java/lang/IndexOutOfBoundsException" then (some ((1 : Int32), E)) else if X3 = "java/lang/IllegalArgumentException" then (some ((2 : Int32), E)) else none

def tw_L_bufferKey (E : bq_E) (a0 : Nat) (x1 : Int32) (x2 : Int32) (a3 : Nat) : Option (Int32 × bq_E) :=
  (tw_X6_bufferKey E a0 x1 x2).bind fun v1 =>
  bq_elim v1 (fun v2 =>
  (bq_sl E a3 (0 : Int32) (Int32.toInt64 v2)).bind fun E4 =>
  some ((0 : Int32), E4)) fun X3 => if X3 = "java/lang/IndexOutOfBoundsException" then (some ((1 : Int32), E)) else if X3 = "java/lang/IllegalArgumentException" then (some ((2 : Int32), E)) else none

def tw_L_entry (E : bq_E) (a0 : Nat) (x1 : Int32) (x2 : Int32) (x3 : Int32) (a4 : Nat) : Option (Int32 × bq_E) :=
  (tw_X6_entry E a0 x1 x2 x3).bind fun v1 =>
  bq_elim v1 (fun v2 =>
  (bq_sl E a4 (0 : Int32) (Int32.toInt64 v2)).bind fun E4 =>
  some ((0 : Int32), E4)) fun X3 => if X3 = "java/lang/IndexOutOfBoundsException" then (some ((1 : Int32), E)) else if X3 = "java/lang/IllegalArgumentException" then (some ((2 : Int32), E)) else none

def tw_L_bridge (E : bq_E) (a0 : Nat) (x1 : Int32) (x2 : Int32) (x3 : Int32) (a4 : Nat) : Option (Int32 × bq_E) :=
  (tw_X6_bridge E a0 x1 x2 x3).bind fun v1 =>
  bq_elim v1 (fun v2 =>
  (bq_sl E a4 (0 : Int32) (Int32.toInt64 v2)).bind fun E4 =>
  some ((0 : Int32), E4)) fun X3 => if X3 = "java/lang/IndexOutOfBoundsException" then (some ((1 : Int32), E)) else if X3 = "java/lang/IllegalArgumentException" then (some ((2 : Int32), E)) else none

def tw_L_count (E : bq_E) (a0 : Nat) (x1 : Int32) (a2 : Nat) : Option (Int32 × bq_E) :=
  (tw_X6_count E a0 x1).bind fun v1 =>
  bq_elim v1 (fun v2 =>
  (bq_sl E a2 (0 : Int32) (Int32.toInt64 v2)).bind fun E4 =>
  some ((0 : Int32), E4)) fun X3 => if X3 = "java/lang/IllegalArgumentException" then (some ((1 : Int32), E)) else none

def tw_L_undo (E : bq_E) (a0 : Nat) (a1 : Nat) : Option (Int32 × bq_E) :=
  (tw_X6_undo E a0).bind fun v1 =>
  bq_elim v1.1 (fun v2 =>
  (bq_sl v1.2 a1 (0 : Int32) (Int32.toInt64 v2)).bind fun E4 =>
  some ((0 : Int32), E4)) fun X3 => if X3 = "java/lang/IllegalStateException" then (some ((1 : Int32), v1.2)) else none
