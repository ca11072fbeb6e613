def tw_X1_savedAt (E : bq_E) (a0 : Nat) (x1 : Int32) : Option (Option Nat) :=
  if bq_cls E a0 = 1 then
  (if x1 < 0 then
    (some none)
  else
    ((bq_fr E a0 1 0).bind fun v1 =>
    (bq_len E v1).bind fun v2 =>
    if v2 ≤ x1 then
      (some none)
    else
      ((bq_fr E a0 1 0).bind fun v3 =>
      (bq_ar E v3 x1).bind fun v4 =>
      some v4)))
  else none

def tw_X1_save (E : bq_E) (a0 : Nat) (a1 : Nat) : Option bq_E :=
  if bq_cls E a0 = 1 then
  ((bq_fi E a0 1 1).bind fun v1 =>
  (tw_X1_savedAt E a0 v1).bind fun v2 =>
  bq_opt v2
    (some E)
    (fun v3 =>
    (tw_X4_copyFrom E v3 a1).bind fun E4 =>
    (bq_fi E4 a0 1 1).bind fun v5 =>
    bq_let (fun (b6 : Int32) =>
      (bq_p E4 a0 1 1 (.int b6)).bind fun E7 =>
      (bq_fi E7 a0 1 2).bind fun v8 =>
      bq_let (if (4 : Int32) < (v8 + (1 : Int32)) then (4 : Int32) else (v8 + (1 : Int32))) fun v9 =>
      (bq_p E7 a0 1 2 (.int v9)).bind fun E10 =>
      some E10) fun k38 =>
    if (3 : Int32) ≤ v5 then
      (k38 (0 : Int32))
    else
      ((bq_fi E4 a0 1 1).bind fun v11 =>
      k38 (v11 + (1 : Int32)))))
  else none
