def tl_L_settle_69 (a0 : Nat) (a1 : Nat) (a2 : Nat) (x3 : Int32) (a4 : Nat) (x5 : Int32) (x6 : Int32) (x7 : Int32) (K : Int32 → bq_E → Option bq_E) : Nat → Int32 → bq_E → Option bq_E
  | 0, _, _ => none
  | n + 1, x8, E =>
  if x8 ≤ 0 then
    (K x8 E)
  else
    ((bq_ai E a4 (x8 - (1 : Int32))).bind fun v6901 =>
    if v6901 ≤ x7 then
      (K x8 E)
    else
      ((bq_ai E a4 (x8 - (1 : Int32))).bind fun v6902 =>
      (bq_si E a4 x8 v6902).bind fun E6903 =>
      bq_let (x8 + (-1)) fun v6904 =>
      tl_L_settle_69 a0 a1 a2 x3 a4 x5 x6 x7 K n v6904 E6903))
def tl_L_settle_12 (a0 : Nat) (a1 : Nat) (a2 : Nat) (x3 : Int32) (a4 : Nat) (K : Int32 → Int32 → bq_E → Option bq_E) : Nat → Int32 → Int32 → bq_E → Option bq_E
  | 0, _, _, _ => none
  | n + 1, x5, x6, E =>
  (bq_ai E a2 x3).bind fun v1201 =>
  (bq_ai E a2 ((8 : Int32) + x3)).bind fun v1202 =>
  if (v1201 + v1202) ≤ x6 then
    (K x5 x6 E)
  else
    ((bq_ai E a2 x3).bind fun v1203 =>
    bq_let (fun (b1204 : Int32) =>
      if (10000 : Int32) ≤ b1204 then
        (bq_let (x6 + 1) fun v1205 =>
        tl_L_settle_12 a0 a1 a2 x3 a4 K n x5 v1205 E)
      else
        (tl_L_settle_69 a0 a1 a2 x3 a4 x5 x6 b1204 (fun y1206 E1207 =>
          (bq_si E1207 a4 y1206 b1204).bind fun E1208 =>
        bq_let (x5 + 1) fun v1209 =>
        bq_let (x6 + 1) fun v1210 =>
        tl_L_settle_12 a0 a1 a2 x3 a4 K n v1209 v1210 E1208) bq_fuel x5 E)) fun k55 =>
    if v1203 ≤ x6 then
      ((bq_ai E a2 x3).bind fun v1219 =>
      (bq_ai E a1 ((((8 : Int32) * x3) + x6) - v1219)).bind fun v1220 =>
      k55 v1220)
    else
      ((bq_ai E a0 x6).bind fun v1221 =>
      k55 v1221))
def tl_L_settle_123 (a0 : Nat) (a2 : Nat) (x3 : Int32) (a4 : Nat) (x5 : Int32) : Nat → Int32 → bq_E → Option bq_E
  | 0, _, _ => none
  | n + 1, x6, E =>
  if x5 ≤ x6 then
    ((bq_si E a2 x3 x5).bind fun E12301 =>
    (bq_si E12301 a2 ((8 : Int32) + x3) (0 : Int32)).bind fun E12302 =>
    (bq_ai E12302 a2 (19 : Int32)).bind fun v12303 =>
    (bq_si E12302 a2 (19 : Int32) (v12303 + (1 : Int32))).bind fun E12304 =>
    some E12304)
  else
    ((bq_ai E a4 x6).bind fun v12305 =>
    (bq_si E a0 x6 v12305).bind fun E12306 =>
    bq_let (x6 + 1) fun v12307 =>
    tl_L_settle_123 a0 a2 x3 a4 x5 n v12307 E12306)
def ts_L_settle (E : bq_E) (q0 : Nat) (a0 : Nat) (a1 : Nat) (a2 : Nat) (x3 : Int32) : Option bq_E :=
  tl_L_settle_12 a0 a1 a2 x3 q0 (fun y1 y2 E3 =>
    tl_L_settle_123 a0 a2 x3 q0 y1 bq_fuel (0 : Int32) E3) bq_fuel (0 : Int32) (0 : Int32) E
