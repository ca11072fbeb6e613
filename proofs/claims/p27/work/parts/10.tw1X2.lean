def tw_X2_copyFrom (E : bq_E) (a0 : Nat) (a1 : Nat) : Option bq_E :=
  if bq_cls E a0 = 2 then
  ((bq_fr E a0 2 0).bind fun v1 =>
  (bq_fr E a1 2 0).bind fun v2 =>
  (tw_X3_copyFrom E v1 v2).bind fun E3 =>
  (bq_fr E3 a0 2 1).bind fun v4 =>
  (bq_fr E3 a1 2 1).bind fun v5 =>
  (tw_X3_copyFrom E3 v4 v5).bind fun E6 =>
  (bq_fr E6 a0 2 2).bind fun v7 =>
  (bq_fr E6 a1 2 2).bind fun v8 =>
  (tw_X3_copyFrom E6 v7 v8).bind fun E9 =>
  (bq_fr E9 a0 2 3).bind fun v10 =>
  (bq_fr E9 a1 2 3).bind fun v11 =>
  (tw_X3_copyFrom E9 v10 v11).bind fun E12 =>
  (bq_fr E12 a0 2 4).bind fun v13 =>
  (bq_fr E12 a1 2 4).bind fun v14 =>
  (tw_X3_copyFrom E12 v13 v14).bind fun E15 =>
  some E15)
  else none

def tw_X2_size (E : bq_E) (a0 : Nat) : Option Int32 :=
  if bq_cls E a0 = 2 then
  ((bq_fr E a0 2 0).bind fun v1 =>
  (tw_X3_size E v1).bind fun v2 =>
  some v2)
  else none

def tw_X2_bridgeOf (E : bq_E) (a0 : Nat) (x1 : Int32) (x2 : Int32) : Option Int32 :=
  if bq_cls E a0 = 2 then
  (bq_let (fun (b1 : Nat) =>
    (tw_X3_at E b1 x1 (0 : Int32)).bind fun v2 =>
    some v2) fun k27 =>
  if x2 = 0 then
    ((bq_fr E a0 2 2).bind fun v5 =>
    k27 v5)
  else
    (if x2 = (1 : Int32) then
      ((bq_fr E a0 2 3).bind fun v4 =>
      k27 v4)
    else
      ((bq_fr E a0 2 4).bind fun v3 =>
      k27 v3)))
  else none

def tl_X2_layBridges_10 (a0 : Nat) (a1 : Nat) (a2 : Nat) : Nat → Int32 → Int32 → bq_E → Option bq_E
  | 0, _, _, _ => none
  | n + 1, x3, x4, E =>
  (bq_fr E a0 2 0).bind fun v1001 =>
  (tw_X3_size E v1001).bind fun v1002 =>
  if v1002 < x4 then
    (some E)
  else
    ((bq_fr E a0 2 0).bind fun v1003 =>
    (tw_X3_at E v1003 x4 (10000 : Int32)).bind fun v1004 =>
    (tw_X3_firstAtLeast E a2 v1004 x3).bind fun v1005 =>
    (tw_X3_append E a1 v1005).bind fun E1006 =>
    bq_let (x4 + 1) fun v1007 =>
    tl_X2_layBridges_10 a0 a1 a2 n v1005 v1007 E1006)
def tw_X2_layBridges (E : bq_E) (a0 : Nat) (a1 : Nat) (a2 : Nat) : Option bq_E :=
  if bq_cls E a0 = 2 then
  ((tw_X3_cutTo E a1 (0 : Int32)).bind fun E1 =>
  tl_X2_layBridges_10 a0 a1 a2 bq_fuel (0 : Int32) (0 : Int32) E1)
  else none

def tl_X2_build_50 (a0 : Nat) (a1 : Nat) (a2 : Nat) (a3 : Nat) (x4 : Int32) (x8 : Int32) (K : Int32 → Int32 → Int32 → Int32 → bq_E → Option bq_E) : Nat → Int32 → Int32 → Int32 → Int32 → bq_E → Option bq_E
  | 0, _, _, _, _, _ => none
  | n + 1, x5, x6, x7, x9, E =>
  bq_let (fun (_ : Unit) =>
    (bq_fr E a0 2 2).bind fun v5001 =>
    (tw_X2_layBridges E a0 v5001 a1).bind fun E5002 =>
    (bq_fr E5002 a0 2 3).bind fun v5003 =>
    (tw_X2_layBridges E5002 a0 v5003 a2).bind fun E5004 =>
    (bq_fr E5004 a0 2 4).bind fun v5005 =>
    (tw_X2_layBridges E5004 a0 v5005 a3).bind fun E5006 =>
    some E5006) fun k191 =>
  if x8 ≤ x9 then
    (k191 ())
  else
    ((tw_X3_at E a1 x5 (10000 : Int32)).bind fun v5007 =>
    (tw_X3_at E a2 x6 (10000 : Int32)).bind fun v5008 =>
    (tw_X3_at E a3 x7 (10000 : Int32)).bind fun v5009 =>
    bq_let (if v5009 < v5008 then v5009 else v5008) fun v5010 =>
    bq_let (if v5010 < v5007 then v5010 else v5007) fun v5011 =>
    if v5011 = (10000 : Int32) then
      (K x5 x6 x7 x9 E)
    else
      ((bq_fr E a0 2 0).bind fun v5012 =>
      (tw_X3_append E v5012 v5011).bind fun E5013 =>
      if v5007 = v5011 then
        ((bq_fr E5013 a0 2 1).bind fun v5022 =>
        (tw_X3_append E5013 v5022 (0 : Int32)).bind fun E5023 =>
        bq_let (x5 + 1) fun v5024 =>
        bq_let (x9 + 1) fun v5025 =>
        tl_X2_build_50 a0 a1 a2 a3 x4 x8 K n v5024 x6 x7 v5025 E5023)
      else
        (if v5008 = v5011 then
          ((bq_fr E5013 a0 2 1).bind fun v5018 =>
          (tw_X3_append E5013 v5018 (1 : Int32)).bind fun E5019 =>
          bq_let (x6 + x4) fun v5020 =>
          bq_let (x9 + 1) fun v5021 =>
          tl_X2_build_50 a0 a1 a2 a3 x4 x8 K n x5 v5020 x7 v5021 E5019)
        else
          ((bq_fr E5013 a0 2 1).bind fun v5014 =>
          (tw_X3_append E5013 v5014 (2 : Int32)).bind fun E5015 =>
          bq_let (x7 + x4) fun v5016 =>
          bq_let (x9 + 1) fun v5017 =>
          tl_X2_build_50 a0 a1 a2 a3 x4 x8 K n x5 x6 v5016 v5017 E5015))))
def tw_X2_build (E : bq_E) (a0 : Nat) (a1 : Nat) (a2 : Nat) (a3 : Nat) (x4 : Int32) : Option bq_E :=
  if bq_cls E a0 = 2 then
  ((bq_fr E a0 2 0).bind fun v1 =>
  (tw_X3_cutTo E v1 (0 : Int32)).bind fun E2 =>
  (bq_fr E2 a0 2 1).bind fun v3 =>
  (tw_X3_cutTo E2 v3 (0 : Int32)).bind fun E4 =>
  bq_let (x4 - (1 : Int32)) fun v5 =>
  bq_let (x4 - (1 : Int32)) fun v6 =>
  (tw_X3_size E4 a1).bind fun v7 =>
  (tw_X3_size E4 a2).bind fun v8 =>
  (tw_X3_size E4 a3).bind fun v9 =>
  bq_let ((v7 + v8) + v9) fun v10 =>
  tl_X2_build_50 a0 a1 a2 a3 x4 v10 (fun y11 y12 y13 y14 E15 =>
    (bq_fr E15 a0 2 2).bind fun v16 =>
  (tw_X2_layBridges E15 a0 v16 a1).bind fun E17 =>
  (bq_fr E17 a0 2 3).bind fun v18 =>
  (tw_X2_layBridges E17 a0 v18 a2).bind fun E19 =>
  (bq_fr E19 a0 2 4).bind fun v20 =>
  (tw_X2_layBridges E19 a0 v20 a3).bind fun E21 =>
  some E21) bq_fuel (0 : Int32) v5 v6 (0 : Int32) E4)
  else none
