def tw_X7_thrown (E : bq_E) (a0 : Nat) : Option Int32 :=
  if bq_cls E a0 = 7 then
  ((bq_fi E a0 7 4).bind fun v1 =>
  some v1)
  else none

def tw_X7_in (E : bq_E) (x0 : Int32) (x1 : Int32) (x2 : Int32) : Option Bool :=
  if x0 < x1 then
    (some false)
  else
    (if x2 < x0 then
      (some false)
    else
      (some true))

def tw_X7_fails (E : bq_E) (a0 : Nat) (x1 : Int32) : Option (Int32 × bq_E) :=
  if bq_cls E a0 = 7 then
  ((bq_p E a0 7 4 (.int x1)).bind fun E1 =>
  some ((0 : Int32), E1))
  else none

def tw_X7_tells (E : bq_E) (a0 : Nat) (x1 : Int32) : Option (Int32 × bq_E) :=
  if bq_cls E a0 = 7 then
  ((bq_p E a0 7 4 (.int (0 : Int32))).bind fun E1 =>
  some (x1, E1))
  else none

def tl_X7_hold_2 (a0 : Nat) : Nat → Int32 → bq_E → Option bq_E
  | 0, _, _ => none
  | n + 1, x1, E =>
  if (8183 : Int32) ≤ x1 then
    (some E)
  else
    ((bq_fr E a0 7 2).bind fun v201 =>
    (bq_fr E a0 7 0).bind fun v202 =>
    (bq_ai E v202 x1).bind fun v203 =>
    (bq_si E v201 x1 v203).bind fun E204 =>
    bq_let (x1 + 1) fun v205 =>
    tl_X7_hold_2 a0 n v205 E204)
def tw_X7_hold (E : bq_E) (a0 : Nat) : Option bq_E :=
  if bq_cls E a0 = 7 then
  (tl_X7_hold_2 a0 bq_fuel (0 : Int32) E)
  else none

def tl_X7_ends_51 (a0 : Nat) (x1 : Int32) : Nat → Int32 → bq_E → Option (Int32 × bq_E)
  | 0, _, _ => none
  | n + 1, x2, E =>
  if (8183 : Int32) ≤ x2 then
    ((bq_fi E a0 7 3).bind fun v5101 =>
    (bq_p E a0 7 3 (.int (v5101 + (1 : Int32)))).bind fun E5102 =>
    (tw_X7_tells E5102 a0 x1).bind fun v5103 =>
    some (v5103.1, v5103.2))
  else
    ((bq_fr E a0 7 1).bind fun v5104 =>
    (bq_fi E a0 7 3).bind fun v5105 =>
    (bq_fr E a0 7 2).bind fun v5106 =>
    (bq_ai E v5106 x2).bind fun v5107 =>
    (bq_si E v5104 (((8183 : Int32) * v5105) + x2) v5107).bind fun E5108 =>
    bq_let (x2 + 1) fun v5109 =>
    tl_X7_ends_51 a0 x1 n v5109 E5108)
def tl_X7_ends_10 (a0 : Nat) (x1 : Int32) (K : Int32 → bq_E → Option (Int32 × bq_E)) : Nat → Int32 → bq_E → Option (Int32 × bq_E)
  | 0, _, _ => none
  | n + 1, x2, E =>
  if (24549 : Int32) ≤ x2 then
    (K x2 E)
  else
    ((bq_fr E a0 7 1).bind fun v1001 =>
    (bq_fr E a0 7 1).bind fun v1002 =>
    (bq_ai E v1002 (x2 + (8183 : Int32))).bind fun v1003 =>
    (bq_si E v1001 x2 v1003).bind fun E1004 =>
    bq_let (x2 + 1) fun v1005 =>
    tl_X7_ends_10 a0 x1 K n v1005 E1004)
def tw_X7_ends (E : bq_E) (a0 : Nat) (x1 : Int32) : Option (Int32 × bq_E) :=
  if bq_cls E a0 = 7 then
  ((bq_fi E a0 7 3).bind fun v1 =>
  bq_let (fun (E2 : bq_E) =>
    tl_X7_ends_51 a0 x1 bq_fuel (0 : Int32) E2) fun k49 =>
  if v1 = (4 : Int32) then
    (tl_X7_ends_10 a0 x1 (fun y16 E17 =>
      (bq_fi E17 a0 7 3).bind fun v18 =>
    (bq_p E17 a0 7 3 (.int (v18 - (1 : Int32)))).bind fun E19 =>
    k49 E19) bq_fuel (0 : Int32) E)
  else
    (k49 E))
  else none

def tw_X7_of (E : bq_E) (a0 : Nat) (x1 : Int32) (x2 : Int32) : Option Int32 :=
  if bq_cls E a0 = 7 then
  ((bq_fr E a0 7 0).bind fun v1 =>
  (bq_ai E v1 (((8 : Int32) + ((545 : Int32) * x1)) + x2)).bind fun v2 =>
  some v2)
  else none

def tw_X7_puts (E : bq_E) (a0 : Nat) (x1 : Int32) (x2 : Int32) (x3 : Int32) : Option bq_E :=
  if bq_cls E a0 = 7 then
  ((bq_fr E a0 7 0).bind fun v1 =>
  (bq_si E v1 (((8 : Int32) + ((545 : Int32) * x1)) + x2) x3).bind fun E2 =>
  some E2)
  else none

def tw_X7_isNode (E : bq_E) (a0 : Nat) (x1 : Int32) : Option Bool :=
  if bq_cls E a0 = 7 then
  ((bq_fr E a0 7 0).bind fun v1 =>
  (bq_ai E v1 (0 : Int32)).bind fun v2 =>
  (tw_X7_in E x1 (0 : Int32) (v2 - (1 : Int32))).bind fun v3 =>
  some v3)
  else none

def tw_X7_isKey (E : bq_E) (x0 : Int32) : Option Bool :=
  (tw_X7_in E x0 (0 : Int32) (9999 : Int32)).bind fun v1 =>
  some v1

def tw_X7_isSought (E : bq_E) (x0 : Int32) : Option Bool :=
  (tw_X7_in E x0 (0 : Int32) (10000 : Int32)).bind fun v1 =>
  some v1

def tl_X7_marked_4 (E : bq_E) (a0 : Nat) (x1 : Int32) : Nat → Int32 → Int32 → Option Int32
  | 0, _, _ => none
  | n + 1, x2, x3 =>
  (tw_X7_of E a0 x1 (3 : Int32)).bind fun v401 =>
  if v401 ≤ x3 then
    (some x2)
  else
    ((tw_X7_of E a0 x1 ((28 : Int32) + x3)).bind fun v402 =>
    bq_let (x2 + v402) fun v403 =>
    bq_let (x3 + 1) fun v404 =>
    tl_X7_marked_4 E a0 x1 n v403 v404)
def tw_X7_marked (E : bq_E) (a0 : Nat) (x1 : Int32) : Option Int32 :=
  if bq_cls E a0 = 7 then
  (tl_X7_marked_4 E a0 x1 bq_fuel (0 : Int32) (0 : Int32))
  else none

def tw_X7_keys (E : bq_E) (a0 : Nat) (x1 : Int32) : Option Int32 :=
  if bq_cls E a0 = 7 then
  ((tw_X7_of E a0 x1 (3 : Int32)).bind fun v1 =>
  (tw_X7_marked E a0 x1).bind fun v2 =>
  (tw_X7_of E a0 x1 (52 : Int32)).bind fun v3 =>
  some ((v1 - v2) + v3))
  else none

def tl_X7_inBase_5 (E : bq_E) (a0 : Nat) (x1 : Int32) (x2 : Int32) : Nat → Int32 → Int32 → Option Int32
  | 0, _, _ => none
  | n + 1, x3, x4 =>
  (tw_X7_of E a0 x1 (3 : Int32)).bind fun v501 =>
  if v501 ≤ x4 then
    (some x3)
  else
    ((tw_X7_of E a0 x1 ((4 : Int32) + x4)).bind fun v502 =>
    if v502 = x2 then
      (bq_let (x4 + 1) fun v504 =>
      tl_X7_inBase_5 E a0 x1 x2 n x4 v504)
    else
      (bq_let (x4 + 1) fun v503 =>
      tl_X7_inBase_5 E a0 x1 x2 n x3 v503))
def tw_X7_inBase (E : bq_E) (a0 : Nat) (x1 : Int32) (x2 : Int32) : Option Int32 :=
  if bq_cls E a0 = 7 then
  (tl_X7_inBase_5 E a0 x1 x2 bq_fuel (-1 : Int32) (0 : Int32))
  else none

def tl_X7_inBuffer_5 (E : bq_E) (a0 : Nat) (x1 : Int32) (x2 : Int32) : Nat → Int32 → Int32 → Option Int32
  | 0, _, _ => none
  | n + 1, x3, x4 =>
  (tw_X7_of E a0 x1 (52 : Int32)).bind fun v501 =>
  if v501 ≤ x4 then
    (some x3)
  else
    ((tw_X7_of E a0 x1 ((53 : Int32) + x4)).bind fun v502 =>
    if v502 = x2 then
      (bq_let (x4 + 1) fun v504 =>
      tl_X7_inBuffer_5 E a0 x1 x2 n x4 v504)
    else
      (bq_let (x4 + 1) fun v503 =>
      tl_X7_inBuffer_5 E a0 x1 x2 n x3 v503))
def tw_X7_inBuffer (E : bq_E) (a0 : Nat) (x1 : Int32) (x2 : Int32) : Option Int32 :=
  if bq_cls E a0 = 7 then
  (tl_X7_inBuffer_5 E a0 x1 x2 bq_fuel (-1 : Int32) (0 : Int32))
  else none

def tw_X7_has (E : bq_E) (a0 : Nat) (x1 : Int32) (x2 : Int32) : Option Bool :=
  if bq_cls E a0 = 7 then
  ((tw_X7_inBase E a0 x1 x2).bind fun v1 =>
  bq_let (fun (_ : Unit) =>
    (tw_X7_inBuffer E a0 x1 x2).bind fun v2 =>
    if v2 = (-1 : Int32) then
      (some false)
    else
      (some true)) fun k24 =>
  if v1 = (-1 : Int32) then
    (k24 ())
  else
    ((tw_X7_of E a0 x1 ((28 : Int32) + v1)).bind fun v3 =>
    if v3 = 0 then
      (some true)
    else
      (k24 ())))
  else none

def tl_X7_next_5 (E : bq_E) (a0 : Nat) (x1 : Int32) (x2 : Int32) (K : Int32 → Int32 → Option Int32) : Nat → Int32 → Int32 → Option Int32
  | 0, _, _ => none
  | n + 1, x3, x4 =>
  (tw_X7_of E a0 x1 (3 : Int32)).bind fun v501 =>
  if v501 ≤ x4 then
    (K x3 x4)
  else
    ((tw_X7_of E a0 x1 ((4 : Int32) + x4)).bind fun v502 =>
    (tw_X7_of E a0 x1 ((28 : Int32) + x4)).bind fun v503 =>
    if v503 = 0 then
      (if v502 < x2 then
        (bq_let (x4 + 1) fun v505 =>
        tl_X7_next_5 E a0 x1 x2 K n x3 v505)
      else
        (if x3 = (-1 : Int32) then
          (bq_let (x4 + 1) fun v506 =>
          tl_X7_next_5 E a0 x1 x2 K n v502 v506)
        else
          (if x3 ≤ v502 then
            (bq_let (x4 + 1) fun v507 =>
            tl_X7_next_5 E a0 x1 x2 K n x3 v507)
          else
            (bq_let (x4 + 1) fun v508 =>
            tl_X7_next_5 E a0 x1 x2 K n v502 v508))))
    else
      (bq_let (x4 + 1) fun v504 =>
      tl_X7_next_5 E a0 x1 x2 K n x3 v504))
def tl_X7_next_73 (E : bq_E) (a0 : Nat) (x1 : Int32) (x2 : Int32) : Nat → Int32 → Int32 → Option Int32
  | 0, _, _ => none
  | n + 1, x3, x4 =>
  (tw_X7_of E a0 x1 (52 : Int32)).bind fun v7301 =>
  if v7301 ≤ x4 then
    (some x3)
  else
    ((tw_X7_of E a0 x1 ((53 : Int32) + x4)).bind fun v7302 =>
    if v7302 < x2 then
      (bq_let (x4 + 1) fun v7303 =>
      tl_X7_next_73 E a0 x1 x2 n x3 v7303)
    else
      (if x3 = (-1 : Int32) then
        (bq_let (x4 + 1) fun v7304 =>
        tl_X7_next_73 E a0 x1 x2 n v7302 v7304)
      else
        (if x3 ≤ v7302 then
          (bq_let (x4 + 1) fun v7305 =>
          tl_X7_next_73 E a0 x1 x2 n x3 v7305)
        else
          (bq_let (x4 + 1) fun v7306 =>
          tl_X7_next_73 E a0 x1 x2 n v7302 v7306))))
def tw_X7_next (E : bq_E) (a0 : Nat) (x1 : Int32) (x2 : Int32) : Option Int32 :=
  if bq_cls E a0 = 7 then
  (tl_X7_next_5 E a0 x1 x2 (fun y1 y2 =>
    tl_X7_next_73 E a0 x1 x2 bq_fuel y1 (0 : Int32)) bq_fuel (-1 : Int32) (0 : Int32))
  else none

def tl_X7_enters_9 (a0 : Nat) (x1 : Int32) (x2 : Int32) (x3 : Int32) : Nat → Int32 → bq_E → Option bq_E
  | 0, _, _ => none
  | n + 1, x4, E =>
  if x4 ≤ 0 then
    ((tw_X7_puts E a0 x1 ((62 : Int32) + x4) x2).bind fun E901 =>
    (tw_X7_puts E901 a0 x1 ((158 : Int32) + x4) x3).bind fun E902 =>
    (tw_X7_of E902 a0 x1 (61 : Int32)).bind fun v903 =>
    (tw_X7_puts E902 a0 x1 (61 : Int32) (v903 + (1 : Int32))).bind fun E904 =>
    some E904)
  else
    ((tw_X7_of E a0 x1 (((62 : Int32) + x4) - (1 : Int32))).bind fun v905 =>
    bq_let (fun (_ : Unit) =>
      (tw_X7_of E a0 x1 (((62 : Int32) + x4) - (1 : Int32))).bind fun v906 =>
      (tw_X7_puts E a0 x1 ((62 : Int32) + x4) v906).bind fun E907 =>
      (tw_X7_of E907 a0 x1 (((158 : Int32) + x4) - (1 : Int32))).bind fun v908 =>
      (tw_X7_puts E907 a0 x1 ((158 : Int32) + x4) v908).bind fun E909 =>
      bq_let (x4 + (-1)) fun v910 =>
      tl_X7_enters_9 a0 x1 x2 x3 n v910 E909) fun k63 =>
    if x2 < v905 then
      (k63 ())
    else
      ((tw_X7_of E a0 x1 (((62 : Int32) + x4) - (1 : Int32))).bind fun v911 =>
      if v911 = x2 then
        ((tw_X7_of E a0 x1 (((158 : Int32) + x4) - (1 : Int32))).bind fun v916 =>
        if v916 ≤ x3 then
          ((tw_X7_puts E a0 x1 ((62 : Int32) + x4) x2).bind fun E917 =>
          (tw_X7_puts E917 a0 x1 ((158 : Int32) + x4) x3).bind fun E918 =>
          (tw_X7_of E918 a0 x1 (61 : Int32)).bind fun v919 =>
          (tw_X7_puts E918 a0 x1 (61 : Int32) (v919 + (1 : Int32))).bind fun E920 =>
          some E920)
        else
          (k63 ()))
      else
        ((tw_X7_puts E a0 x1 ((62 : Int32) + x4) x2).bind fun E912 =>
        (tw_X7_puts E912 a0 x1 ((158 : Int32) + x4) x3).bind fun E913 =>
        (tw_X7_of E913 a0 x1 (61 : Int32)).bind fun v914 =>
        (tw_X7_puts E913 a0 x1 (61 : Int32) (v914 + (1 : Int32))).bind fun E915 =>
        some E915)))
def tw_X7_enters (E : bq_E) (a0 : Nat) (x1 : Int32) (x2 : Int32) (x3 : Int32) : Option bq_E :=
  if bq_cls E a0 = 7 then
  ((tw_X7_of E a0 x1 (61 : Int32)).bind fun v1 =>
  tl_X7_enters_9 a0 x1 x2 x3 bq_fuel v1 E)
  else none

def tl_X7_less_24 (E : bq_E) (a0 : Nat) (x2 : Int32) (x3 : Int32) (x5 : Int32) : Nat → Int32 → Int32 → Option Int32
  | 0, _, _ => none
  | n + 1, x4, x6 =>
  if x5 = (-1 : Int32) then
    (some x4)
  else
    (bq_let (fun (b2401 : Int32) =>
      (tw_X7_of E a0 x5 b2401).bind fun v2402 =>
      if v2402 ≤ x6 then
        (some x4)
      else
        (bq_let (fun (b2403 : Int32) =>
          (tw_X7_of E a0 x5 (b2403 + x6)).bind fun v2404 =>
          if x3 ≤ v2404 then
            (bq_let (x4 + (0 : Int32)) fun v2405 =>
            bq_let (x6 + 1) fun v2406 =>
            tl_X7_less_24 E a0 x2 x3 x5 n v2405 v2406)
          else
            (bq_let (x4 + (1 : Int32)) fun v2407 =>
            bq_let (x6 + 1) fun v2408 =>
            tl_X7_less_24 E a0 x2 x3 x5 n v2407 v2408)) fun k66 =>
        if x2 = 0 then
          (k66 (4 : Int32))
        else
          (k66 (62 : Int32)))) fun k45 =>
    if x2 = 0 then
      (k45 (3 : Int32))
    else
      (k45 (61 : Int32)))
def tw_X7_less (E : bq_E) (a0 : Nat) (x1 : Int32) (x2 : Int32) (x3 : Int32) : Option Int32 :=
  if bq_cls E a0 = 7 then
  (bq_let (fun (b1 : Int32) =>
    tl_X7_less_24 E a0 x2 x3 b1 bq_fuel (0 : Int32) (0 : Int32)) fun k19 =>
  if x2 = 0 then
    (k19 x1)
  else
    ((tw_X7_of E a0 x1 ((0 : Int32) + x2)).bind fun v14 =>
    k19 v14))
  else none

def tl_X7_builds_10 (a0 : Nat) (x1 : Int32) (K : Int32 → bq_E → Option bq_E) : Nat → Int32 → bq_E → Option bq_E
  | 0, _, _ => none
  | n + 1, x2, E =>
  (tw_X7_of E a0 x1 (3 : Int32)).bind fun v1001 =>
  if v1001 ≤ x2 then
    (K x2 E)
  else
    ((tw_X7_of E a0 x1 ((4 : Int32) + x2)).bind fun v1002 =>
    (tw_X7_enters E a0 x1 v1002 (0 : Int32)).bind fun E1003 =>
    bq_let (x2 + 1) fun v1004 =>
    tl_X7_builds_10 a0 x1 K n v1004 E1003)
def tl_X7_builds_66 (a0 : Nat) (x1 : Int32) (x2 : Int32) (x3 : Int32) (K : Int32 → bq_E → Option bq_E) : Nat → Int32 → bq_E → Option bq_E
  | 0, _, _ => none
  | n + 1, x4, E =>
  if x3 = (-1 : Int32) then
    (K x4 E)
  else
    ((tw_X7_of E a0 x3 (61 : Int32)).bind fun v6601 =>
    if v6601 ≤ x4 then
      (K x4 E)
    else
      ((tw_X7_of E a0 x3 ((62 : Int32) + x4)).bind fun v6602 =>
      (tw_X7_enters E a0 x1 v6602 x2).bind fun E6603 =>
      (bq_fr E6603 a0 7 0).bind fun v6604 =>
      (bq_ai E6603 v6604 (2 : Int32)).bind fun v6605 =>
      bq_let (x4 + v6605) fun v6606 =>
      tl_X7_builds_66 a0 x1 x2 x3 K n v6606 E6603))
def tl_X7_builds_42 (a0 : Nat) (x1 : Int32) (K : Int32 → bq_E → Option bq_E) : Nat → Int32 → bq_E → Option bq_E
  | 0, _, _ => none
  | n + 1, x2, E =>
  if (2 : Int32) < x2 then
    (K x2 E)
  else
    ((tw_X7_of E a0 x1 ((0 : Int32) + x2)).bind fun v4201 =>
    (bq_fr E a0 7 0).bind fun v4202 =>
    (bq_ai E v4202 (2 : Int32)).bind fun v4203 =>
    bq_let (v4203 - (1 : Int32)) fun v4204 =>
    tl_X7_builds_66 a0 x1 x2 v4201 (fun y4205 E4206 =>
      bq_let (x2 + 1) fun v4207 =>
    tl_X7_builds_42 a0 x1 K n v4207 E4206) bq_fuel v4204 E)
def tl_X7_builds_137 (a0 : Nat) (x1 : Int32) (x2 : Int32) (x3 : Int32) (K : Int32 → bq_E → Option bq_E) : Nat → Int32 → bq_E → Option bq_E
  | 0, _, _ => none
  | n + 1, x4, E =>
  if (2 : Int32) < x4 then
    (K x4 E)
  else
    (bq_let (fun (b13701 : Int32) =>
      (tw_X7_less E a0 x1 x4 b13701).bind fun v13702 =>
      (tw_X7_puts E a0 x1 (((254 : Int32) + ((3 : Int32) * x3)) + x4) v13702).bind fun E13703 =>
      bq_let (x4 + 1) fun v13704 =>
      tl_X7_builds_137 a0 x1 x2 x3 K n v13704 E13703) fun k179 =>
    if x2 ≤ x3 then
      (k179 (10000 : Int32))
    else
      ((tw_X7_of E a0 x1 ((62 : Int32) + x3)).bind fun v13705 =>
      k179 v13705))
def tl_X7_builds_129 (a0 : Nat) (x1 : Int32) (x2 : Int32) : Nat → Int32 → bq_E → Option bq_E
  | 0, _, _ => none
  | n + 1, x3, E =>
  if x2 < x3 then
    ((bq_fr E a0 7 0).bind fun v12901 =>
    (bq_ai E v12901 (5 : Int32)).bind fun v12902 =>
    (bq_si E v12901 (5 : Int32) (v12902 + (1 : Int32))).bind fun E12903 =>
    (bq_fr E12903 a0 7 0).bind fun v12904 =>
    (bq_ai E12903 v12904 (6 : Int32)).bind fun v12905 =>
    (bq_si E12903 v12904 (6 : Int32) (v12905 + x2)).bind fun E12906 =>
    some E12906)
  else
    (tl_X7_builds_137 a0 x1 x2 x3 (fun y12907 E12908 =>
      bq_let (x3 + 1) fun v12909 =>
    tl_X7_builds_129 a0 x1 x2 n v12909 E12908) bq_fuel (0 : Int32) E)
def tw_X7_builds (E : bq_E) (a0 : Nat) (x1 : Int32) : Option bq_E :=
  if bq_cls E a0 = 7 then
  ((tw_X7_puts E a0 x1 (61 : Int32) (0 : Int32)).bind fun E1 =>
  tl_X7_builds_10 a0 x1 (fun y2 E3 =>
    tl_X7_builds_42 a0 x1 (fun y4 E5 =>
    (tw_X7_of E5 a0 x1 (61 : Int32)).bind fun v6 =>
  tl_X7_builds_129 a0 x1 v6 bq_fuel (0 : Int32) E5) bq_fuel (1 : Int32) E3) bq_fuel (0 : Int32) E1)
  else none

def tl_X7_buildsUp_4 (a0 : Nat) : Nat → Int32 → Int32 → bq_E → Option (Int32 × bq_E)
  | 0, _, _, _ => none
  | n + 1, x2, x3, E =>
  if x3 = (-1 : Int32) then
    (some (x2, E))
  else
    ((tw_X7_builds E a0 x3).bind fun E401 =>
    (tw_X7_of E401 a0 x3 (61 : Int32)).bind fun v402 =>
    bq_let (x2 + v402) fun v403 =>
    (tw_X7_of E401 a0 x3 (0 : Int32)).bind fun v404 =>
    tl_X7_buildsUp_4 a0 n v403 v404 E401)
def tw_X7_buildsUp (E : bq_E) (a0 : Nat) (x1 : Int32) : Option (Int32 × bq_E) :=
  if bq_cls E a0 = 7 then
  (tl_X7_buildsUp_4 a0 bq_fuel (0 : Int32) x1 E)
  else none

def tl_X7_rebuilds_9 (a0 : Nat) (x1 : Int32) (K : Int32 → Int32 → bq_E → Option (Int32 × bq_E)) : Nat → Int32 → Int32 → bq_E → Option (Int32 × bq_E)
  | 0, _, _, _ => none
  | n + 1, x2, x3, E =>
  if x3 = (-1 : Int32) then
    (K x2 x3 E)
  else
    ((bq_fr E a0 7 5).bind fun v901 =>
    (bq_si E v901 x2 x3).bind fun E902 =>
    bq_let (x2 + 1) fun v903 =>
    (tw_X7_next E902 a0 x1 (x3 + (1 : Int32))).bind fun v904 =>
    tl_X7_rebuilds_9 a0 x1 K n v903 v904 E902)
def tl_X7_rebuilds_53 (a0 : Nat) (x1 : Int32) (x2 : Int32) : Nat → Int32 → bq_E → Option (Int32 × bq_E)
  | 0, _, _ => none
  | n + 1, x3, E =>
  if (24 : Int32) ≤ x3 then
    ((bq_fr E a0 7 0).bind fun v5301 =>
    (bq_ai E v5301 (7 : Int32)).bind fun v5302 =>
    (bq_si E v5301 (7 : Int32) (v5302 + (1 : Int32))).bind fun E5303 =>
    (tw_X7_buildsUp E5303 a0 x1).bind fun v5304 =>
    some (v5304.1, v5304.2))
  else
    (bq_let (fun (b5305 : Int32) =>
      (tw_X7_puts E a0 x1 ((4 : Int32) + x3) b5305).bind fun E5306 =>
      (tw_X7_puts E5306 a0 x1 ((28 : Int32) + x3) (0 : Int32)).bind fun E5307 =>
      bq_let (x3 + 1) fun v5308 =>
      tl_X7_rebuilds_53 a0 x1 x2 n v5308 E5307) fun k79 =>
    if x2 ≤ x3 then
      (k79 (0 : Int32))
    else
      ((bq_fr E a0 7 5).bind fun v5309 =>
      (bq_ai E v5309 x3).bind fun v5310 =>
      k79 v5310))
def tw_X7_rebuilds (E : bq_E) (a0 : Nat) (x1 : Int32) : Option (Int32 × bq_E) :=
  if bq_cls E a0 = 7 then
  ((tw_X7_next E a0 x1 (0 : Int32)).bind fun v1 =>
  tl_X7_rebuilds_9 a0 x1 (fun y2 y3 E4 =>
    (tw_X7_puts E4 a0 x1 (3 : Int32) y2).bind fun E5 =>
  (tw_X7_puts E5 a0 x1 (52 : Int32) (0 : Int32)).bind fun E6 =>
  tl_X7_rebuilds_53 a0 x1 y2 bq_fuel (0 : Int32) E6) bq_fuel (0 : Int32) v1 E)
  else none

def tl_X7_addNode_82 (a0 : Nat) (x1 : Int32) (x2 : Int32) (x3 : Int32) (K : Int32 → bq_E → Option (Int32 × bq_E)) : Nat → Int32 → bq_E → Option (Int32 × bq_E)
  | 0, _, _ => none
  | n + 1, x4, E =>
  if (545 : Int32) ≤ x4 then
    (K x4 E)
  else
    ((tw_X7_puts E a0 x3 x4 (0 : Int32)).bind fun E8201 =>
    bq_let (x4 + 1) fun v8202 =>
    tl_X7_addNode_82 a0 x1 x2 x3 K n v8202 E8201)
def tw_X7_addNode (E : bq_E) (a0 : Nat) (x1 : Int32) (x2 : Int32) : Option (Int32 × bq_E) :=
  if bq_cls E a0 = 7 then
  ((tw_X7_isNode E a0 x1).bind fun v1 =>
  if (bq_b v1) = 0 then
    ((tw_X7_fails E a0 (1 : Int32)).bind fun v29 =>
    some (v29.1, v29.2))
  else
    ((tw_X7_in E x2 (1 : Int32) (2 : Int32)).bind fun v2 =>
    if (bq_b v2) = 0 then
      ((tw_X7_fails E a0 (2 : Int32)).bind fun v28 =>
      some (v28.1, v28.2))
    else
      ((bq_fr E a0 7 0).bind fun v3 =>
      (bq_ai E v3 (0 : Int32)).bind fun v4 =>
      bq_let (fun (_ : Unit) =>
        (tw_X7_fails E a0 (3 : Int32)).bind fun v5 =>
        some (v5.1, v5.2)) fun k52 =>
      if v4 = (15 : Int32) then
        (k52 ())
      else
        ((tw_X7_of E a0 x1 ((0 : Int32) + x2)).bind fun v6 =>
        if v6 = (-1 : Int32) then
          ((tw_X7_hold E a0).bind fun E7 =>
          (bq_fr E7 a0 7 0).bind fun v8 =>
          (bq_ai E7 v8 (0 : Int32)).bind fun v9 =>
          (bq_fr E7 a0 7 0).bind fun v10 =>
          (bq_ai E7 v10 (0 : Int32)).bind fun v11 =>
          (bq_si E7 v10 (0 : Int32) (v11 + (1 : Int32))).bind fun E12 =>
          tl_X7_addNode_82 a0 x1 x2 v9 (fun y13 E14 =>
            (tw_X7_puts E14 a0 v9 (0 : Int32) x1).bind fun E15 =>
          (tw_X7_puts E15 a0 v9 (1 : Int32) (-1 : Int32)).bind fun E16 =>
          (tw_X7_puts E16 a0 v9 (2 : Int32) (-1 : Int32)).bind fun E17 =>
          (tw_X7_puts E17 a0 x1 ((0 : Int32) + x2) v9).bind fun E18 =>
          (tw_X7_buildsUp E18 a0 v9).bind fun v19 =>
          if 0 ≤ v19.1 then
            ((tw_X7_ends v19.2 a0 v9).bind fun v20 =>
            some (v20.1, v20.2))
          else
            ((tw_X7_ends v19.2 a0 v19.1).bind fun v21 =>
            some (v21.1, v21.2))) bq_fuel (0 : Int32) E12)
        else
          (k52 ())))))
  else none

def tw_X7_comes (E : bq_E) (a0 : Nat) (x1 : Int32) (x2 : Int32) : Option bq_E :=
  if bq_cls E a0 = 7 then
  ((tw_X7_inBase E a0 x1 x2).bind fun v1 =>
  if v1 = (-1 : Int32) then
    ((tw_X7_of E a0 x1 (52 : Int32)).bind fun v2 =>
    (tw_X7_puts E a0 x1 ((53 : Int32) + v2) x2).bind fun E3 =>
    (tw_X7_of E3 a0 x1 (52 : Int32)).bind fun v4 =>
    (tw_X7_puts E3 a0 x1 (52 : Int32) (v4 + (1 : Int32))).bind fun E5 =>
    (tw_X7_of E5 a0 x1 (52 : Int32)).bind fun v6 =>
    (bq_fr E5 a0 7 0).bind fun v7 =>
    (bq_ai E5 v7 (1 : Int32)).bind fun v8 =>
    if v6 < v8 then
      (some E5)
    else
      ((tw_X7_rebuilds E5 a0 x1).bind fun v9 =>
      some v9.2))
  else
    ((tw_X7_puts E a0 x1 ((28 : Int32) + v1) (0 : Int32)).bind fun E10 =>
    some E10))
  else none

def tw_X7_add (E : bq_E) (a0 : Nat) (x1 : Int32) (x2 : Int32) : Option (Bool × bq_E) :=
  if bq_cls E a0 = 7 then
  ((tw_X7_isNode E a0 x1).bind fun v1 =>
  if (bq_b v1) = 0 then
    ((tw_X7_fails E a0 (1 : Int32)).bind fun v13 =>
    if v13.1 = 0 then
      (some (false, v13.2))
    else
      (some (true, v13.2)))
  else
    ((tw_X7_isKey E x2).bind fun v2 =>
    if (bq_b v2) = 0 then
      ((tw_X7_fails E a0 (2 : Int32)).bind fun v12 =>
      if v12.1 = 0 then
        (some (false, v12.2))
      else
        (some (true, v12.2)))
    else
      ((tw_X7_has E a0 x1 x2).bind fun v3 =>
      bq_let (bq_b v3) fun v4 =>
      bq_let (fun (_ : Unit) =>
        (tw_X7_hold E a0).bind fun E5 =>
        bq_let (fun (E6 : bq_E) =>
          bq_let (fun (b7 : Int32) =>
            (tw_X7_ends E6 a0 b7).bind fun v8 =>
            if v8.1 = (1 : Int32) then
              (some (true, v8.2))
            else
              (some (false, v8.2))) fun k102 =>
          if v4 = 0 then
            (k102 (1 : Int32))
          else
            (k102 (0 : Int32))) fun k92 =>
        if v4 = 0 then
          ((tw_X7_comes E5 a0 x1 x2).bind fun E9 =>
          k92 E9)
        else
          (k92 E5)) fun k78 =>
      if v4 = 0 then
        ((tw_X7_keys E a0 x1).bind fun v10 =>
        if v10 = (24 : Int32) then
          ((tw_X7_fails E a0 (3 : Int32)).bind fun v11 =>
          if v11.1 = 0 then
            (some (false, v11.2))
          else
            (some (true, v11.2)))
        else
          (k78 ()))
      else
        (k78 ()))))
  else none

def tl_X7_goes_70 (a0 : Nat) (x1 : Int32) : Nat → Int32 → bq_E → Option bq_E
  | 0, _, _ => none
  | n + 1, x4, E =>
  (tw_X7_of E a0 x1 (52 : Int32)).bind fun v7001 =>
  if v7001 ≤ x4 then
    (some E)
  else
    ((tw_X7_of E a0 x1 (((53 : Int32) + x4) + (1 : Int32))).bind fun v7002 =>
    (tw_X7_puts E a0 x1 ((53 : Int32) + x4) v7002).bind fun E7003 =>
    bq_let (x4 + 1) fun v7004 =>
    tl_X7_goes_70 a0 x1 n v7004 E7003)
def tw_X7_goes (E : bq_E) (a0 : Nat) (x1 : Int32) (x2 : Int32) : Option bq_E :=
  if bq_cls E a0 = 7 then
  ((tw_X7_inBuffer E a0 x1 x2).bind fun v1 =>
  if v1 = (-1 : Int32) then
    ((tw_X7_inBase E a0 x1 x2).bind fun v12 =>
    (tw_X7_puts E a0 x1 ((28 : Int32) + v12) (1 : Int32)).bind fun E13 =>
    (tw_X7_marked E13 a0 x1).bind fun v14 =>
    (tw_X7_of E13 a0 x1 (3 : Int32)).bind fun v15 =>
    if ((2 : Int32) * v14) ≤ v15 then
      (some E13)
    else
      ((tw_X7_rebuilds E13 a0 x1).bind fun v16 =>
      some v16.2))
  else
    ((tw_X7_of E a0 x1 (52 : Int32)).bind fun v2 =>
    (tw_X7_puts E a0 x1 (52 : Int32) (v2 - (1 : Int32))).bind fun E3 =>
    tl_X7_goes_70 a0 x1 bq_fuel v1 E3))
  else none

def tw_X7_remove (E : bq_E) (a0 : Nat) (x1 : Int32) (x2 : Int32) : Option (Bool × bq_E) :=
  if bq_cls E a0 = 7 then
  ((tw_X7_isNode E a0 x1).bind fun v1 =>
  if (bq_b v1) = 0 then
    ((tw_X7_fails E a0 (1 : Int32)).bind fun v11 =>
    if v11.1 = 0 then
      (some (false, v11.2))
    else
      (some (true, v11.2)))
  else
    ((tw_X7_isKey E x2).bind fun v2 =>
    if (bq_b v2) = 0 then
      ((tw_X7_fails E a0 (2 : Int32)).bind fun v10 =>
      if v10.1 = 0 then
        (some (false, v10.2))
      else
        (some (true, v10.2)))
    else
      ((tw_X7_hold E a0).bind fun E3 =>
      (tw_X7_has E3 a0 x1 x2).bind fun v4 =>
      bq_let (bq_b v4) fun v5 =>
      bq_let (fun (E6 : bq_E) =>
        bq_let (fun (b7 : Int32) =>
          (tw_X7_ends E6 a0 b7).bind fun v8 =>
          if v8.1 = (1 : Int32) then
            (some (true, v8.2))
          else
            (some (false, v8.2))) fun k74 =>
        if v5 = 0 then
          (k74 (0 : Int32))
        else
          (k74 (1 : Int32))) fun k64 =>
      if v5 = 0 then
        (k64 E3)
      else
        ((tw_X7_goes E3 a0 x1 x2).bind fun E9 =>
        k64 E9))))
  else none

def tl_X7_addSeries_59 (a0 : Nat) (x1 : Int32) (x2 : Int32) (x3 : Int32) (x4 : Int32) : Nat → Int32 → Int32 → bq_E → Option (Int32 × bq_E)
  | 0, _, _, _ => none
  | n + 1, x5, x6, E =>
  if x4 ≤ x6 then
    ((tw_X7_ends E a0 x5).bind fun v5901 =>
    some (v5901.1, v5901.2))
  else
    (if (9999 : Int32) < (x2 + (x6 * x3)) then
      ((tw_X7_ends E a0 x5).bind fun v5902 =>
      some (v5902.1, v5902.2))
    else
      ((tw_X7_keys E a0 x1).bind fun v5903 =>
      if (24 : Int32) ≤ v5903 then
        ((tw_X7_ends E a0 x5).bind fun v5904 =>
        some (v5904.1, v5904.2))
      else
        ((tw_X7_has E a0 x1 (x2 + (x6 * x3))).bind fun v5905 =>
        if (bq_b v5905) = 0 then
          ((tw_X7_comes E a0 x1 (x2 + (x6 * x3))).bind fun E5907 =>
          bq_let (x5 + 1) fun v5908 =>
          bq_let (x6 + 1) fun v5909 =>
          tl_X7_addSeries_59 a0 x1 x2 x3 x4 n v5908 v5909 E5907)
        else
          (bq_let (x6 + 1) fun v5906 =>
          tl_X7_addSeries_59 a0 x1 x2 x3 x4 n x5 v5906 E))))
def tw_X7_addSeries (E : bq_E) (a0 : Nat) (x1 : Int32) (x2 : Int32) (x3 : Int32) (x4 : Int32) : Option (Int32 × bq_E) :=
  if bq_cls E a0 = 7 then
  ((tw_X7_isNode E a0 x1).bind fun v1 =>
  if (bq_b v1) = 0 then
    ((tw_X7_fails E a0 (1 : Int32)).bind fun v22 =>
    some (v22.1, v22.2))
  else
    ((tw_X7_isKey E x2).bind fun v2 =>
    bq_let (fun (_ : Unit) =>
      (tw_X7_fails E a0 (2 : Int32)).bind fun v3 =>
      some (v3.1, v3.2)) fun k43 =>
    if (bq_b v2) = 0 then
      (k43 ())
    else
      ((tw_X7_in E x3 (1 : Int32) (999 : Int32)).bind fun v4 =>
      if (bq_b v4) = 0 then
        (k43 ())
      else
        ((tw_X7_in E x4 (1 : Int32) (24 : Int32)).bind fun v5 =>
        if (bq_b v5) = 0 then
          (k43 ())
        else
          ((tw_X7_hold E a0).bind fun E6 =>
          tl_X7_addSeries_59 a0 x1 x2 x3 x4 bq_fuel (0 : Int32) (0 : Int32) E6)))))
  else none

def tw_X7_setSizes (E : bq_E) (a0 : Nat) (x1 : Int32) (x2 : Int32) : Option (Int32 × bq_E) :=
  if bq_cls E a0 = 7 then
  ((tw_X7_in E x1 (1 : Int32) (8 : Int32)).bind fun v1 =>
  bq_let (fun (_ : Unit) =>
    (tw_X7_fails E a0 (1 : Int32)).bind fun v2 =>
    some (v2.1, v2.2)) fun k19 =>
  if (bq_b v1) = 0 then
    (k19 ())
  else
    ((tw_X7_in E x2 (2 : Int32) (5 : Int32)).bind fun v3 =>
    if (bq_b v3) = 0 then
      (k19 ())
    else
      ((tw_X7_hold E a0).bind fun E4 =>
      (bq_fr E4 a0 7 0).bind fun v5 =>
      (bq_ai E4 v5 (1 : Int32)).bind fun v6 =>
      (bq_fr E4 a0 7 0).bind fun v7 =>
      (bq_ai E4 v7 (2 : Int32)).bind fun v8 =>
      bq_let (((10 : Int32) * v6) + v8) fun v9 =>
      (bq_fr E4 a0 7 0).bind fun v10 =>
      (bq_si E4 v10 (1 : Int32) x1).bind fun E11 =>
      (bq_fr E11 a0 7 0).bind fun v12 =>
      (bq_si E11 v12 (2 : Int32) x2).bind fun E13 =>
      (tw_X7_ends E13 a0 v9).bind fun v14 =>
      some (v14.1, v14.2))))
  else none

def tw_X7_rebuild (E : bq_E) (a0 : Nat) (x1 : Int32) : Option (Int32 × bq_E) :=
  if bq_cls E a0 = 7 then
  ((tw_X7_isNode E a0 x1).bind fun v1 =>
  if (bq_b v1) = 0 then
    ((tw_X7_fails E a0 (1 : Int32)).bind fun v5 =>
    some (v5.1, v5.2))
  else
    ((tw_X7_hold E a0).bind fun E2 =>
    (tw_X7_rebuilds E2 a0 x1).bind fun v3 =>
    (tw_X7_ends v3.2 a0 v3.1).bind fun v4 =>
    some (v4.1, v4.2)))
  else none

def tl_X7_entriesOfAll_4 (E : bq_E) (a0 : Nat) : Nat → Int32 → Int32 → Option Int32
  | 0, _, _ => none
  | n + 1, x1, x2 =>
  (bq_fr E a0 7 0).bind fun v401 =>
  (bq_ai E v401 (0 : Int32)).bind fun v402 =>
  if v402 ≤ x2 then
    (some x1)
  else
    ((tw_X7_of E a0 x2 (61 : Int32)).bind fun v403 =>
    bq_let (x1 + v403) fun v404 =>
    bq_let (x2 + 1) fun v405 =>
    tl_X7_entriesOfAll_4 E a0 n v404 v405)
def tw_X7_entriesOfAll (E : bq_E) (a0 : Nat) : Option Int32 :=
  if bq_cls E a0 = 7 then
  (tl_X7_entriesOfAll_4 E a0 bq_fuel (0 : Int32) (0 : Int32))
  else none

def tl_X7_rebuildAll_15 (a0 : Nat) (K : Int32 → Int32 → bq_E → Option (Int32 × bq_E)) : Nat → Int32 → Int32 → bq_E → Option (Int32 × bq_E)
  | 0, _, _, _ => none
  | n + 1, x1, x2, E =>
  if x2 < 0 then
    (K x1 x2 E)
  else
    ((tw_X7_rebuilds E a0 x2).bind fun v1501 =>
    bq_let (x1 + v1501.1) fun v1502 =>
    bq_let (x2 + (-1)) fun v1503 =>
    tl_X7_rebuildAll_15 a0 K n v1502 v1503 v1501.2)
def tw_X7_rebuildAll (E : bq_E) (a0 : Nat) : Option (Int32 × bq_E) :=
  if bq_cls E a0 = 7 then
  ((tw_X7_hold E a0).bind fun E1 =>
  (bq_fr E1 a0 7 0).bind fun v2 =>
  (bq_ai E1 v2 (0 : Int32)).bind fun v3 =>
  bq_let (v3 - (1 : Int32)) fun v4 =>
  tl_X7_rebuildAll_15 a0 (fun y5 y6 E7 =>
    if 0 ≤ y5 then
    ((tw_X7_entriesOfAll E7 a0).bind fun v8 =>
    (tw_X7_ends E7 a0 v8).bind fun v9 =>
    some (v9.1, v9.2))
  else
    ((tw_X7_ends E7 a0 y5).bind fun v10 =>
    some (v10.1, v10.2))) bq_fuel (0 : Int32) v4 E1)
  else none

def tl_X7_lays_7 (a0 : Nat) (x1 : Int32) (K : Int32 → bq_E → Option bq_E) : Nat → Int32 → bq_E → Option bq_E
  | 0, _, _ => none
  | n + 1, x2, E =>
  if x2 = (-1 : Int32) then
    (K x2 E)
  else
    ((bq_fi E a0 7 7).bind fun v701 =>
    (bq_p E a0 7 7 (.int (v701 + (1 : Int32)))).bind fun E702 =>
    (tw_X7_of E702 a0 x2 (0 : Int32)).bind fun v703 =>
    tl_X7_lays_7 a0 x1 K n v703 E702)
def tl_X7_lays_41 (a0 : Nat) : Nat → Int32 → Int32 → bq_E → Option bq_E
  | 0, _, _, _ => none
  | n + 1, x2, x3, E =>
  if x3 < 0 then
    (some E)
  else
    ((bq_fr E a0 7 6).bind fun v4101 =>
    (bq_si E v4101 x3 x2).bind fun E4102 =>
    (tw_X7_of E4102 a0 x2 (0 : Int32)).bind fun v4103 =>
    bq_let (x3 + (-1)) fun v4104 =>
    tl_X7_lays_41 a0 n v4103 v4104 E4102)
def tw_X7_lays (E : bq_E) (a0 : Nat) (x1 : Int32) : Option bq_E :=
  if bq_cls E a0 = 7 then
  ((bq_p E a0 7 7 (.int (0 : Int32))).bind fun E1 =>
  tl_X7_lays_7 a0 x1 (fun y2 E3 =>
    (bq_fi E3 a0 7 7).bind fun v4 =>
  bq_let (v4 - (1 : Int32)) fun v5 =>
  tl_X7_lays_41 a0 bq_fuel x1 v5 E3) bq_fuel x1 E1)
  else none

def tl_X7_halves_6 (a0 : Nat) (x1 : Int32) (x2 : Int32) (x4 : Int32) : Nat → Int32 → Int32 → bq_E → Option (Int32 × bq_E)
  | 0, _, _, _ => none
  | n + 1, x5, x6, E =>
  if x6 ≤ x5 then
    (some (x5, E))
  else
    (bq_let ((x5 + x6) / (2 : Int32)) fun v601 =>
    (bq_fi E a0 7 8).bind fun v602 =>
    (bq_p E a0 7 8 (.int (v602 + (1 : Int32)))).bind fun E603 =>
    (tw_X7_of E603 a0 x1 (x2 + v601)).bind fun v604 =>
    if v604 < x4 then
      (bq_let (v601 + (1 : Int32)) fun v605 =>
      tl_X7_halves_6 a0 x1 x2 x4 n v605 x6 E603)
    else
      (tl_X7_halves_6 a0 x1 x2 x4 n x5 v601 E603))
def tw_X7_halves (E : bq_E) (a0 : Nat) (x1 : Int32) (x2 : Int32) (x3 : Int32) (x4 : Int32) : Option (Int32 × bq_E) :=
  if bq_cls E a0 = 7 then
  (tl_X7_halves_6 a0 x1 x2 x4 bq_fuel (0 : Int32) x3 E)
  else none

def tl_X7_answerFrom_3 (a0 : Nat) (x1 : Int32) (x3 : Int32) (K : Int32 → bq_E → Option (Int32 × bq_E)) : Nat → Int32 → bq_E → Option (Int32 × bq_E)
  | 0, _, _ => none
  | n + 1, x4, E =>
  (tw_X7_of E a0 x1 (3 : Int32)).bind fun v301 =>
  if v301 ≤ x4 then
    (K x4 E)
  else
    ((tw_X7_of E a0 x1 ((28 : Int32) + x4)).bind fun v302 =>
    if v302 = (1 : Int32) then
      ((bq_fi E a0 7 8).bind fun v303 =>
      (bq_p E a0 7 8 (.int (v303 + (1 : Int32)))).bind fun E304 =>
      bq_let (x4 + 1) fun v305 =>
      tl_X7_answerFrom_3 a0 x1 x3 K n v305 E304)
    else
      (K x4 E))
def tl_X7_answerFrom_73 (a0 : Nat) (x1 : Int32) (x3 : Int32) : Nat → Int32 → Int32 → bq_E → Option (Int32 × bq_E)
  | 0, _, _, _ => none
  | n + 1, x5, x6, E =>
  (tw_X7_of E a0 x1 (52 : Int32)).bind fun v7301 =>
  if v7301 ≤ x6 then
    (some (x5, E))
  else
    ((tw_X7_of E a0 x1 ((53 : Int32) + x6)).bind fun v7302 =>
    (bq_fi E a0 7 8).bind fun v7303 =>
    (bq_p E a0 7 8 (.int (v7303 + (1 : Int32)))).bind fun E7304 =>
    if v7302 < x3 then
      (bq_let (x6 + 1) fun v7305 =>
      tl_X7_answerFrom_73 a0 x1 x3 n x5 v7305 E7304)
    else
      (if x5 = (-1 : Int32) then
        (bq_let (x6 + 1) fun v7306 =>
        tl_X7_answerFrom_73 a0 x1 x3 n v7302 v7306 E7304)
      else
        (if x5 ≤ v7302 then
          (bq_let (x6 + 1) fun v7307 =>
          tl_X7_answerFrom_73 a0 x1 x3 n x5 v7307 E7304)
        else
          (bq_let (x6 + 1) fun v7308 =>
          tl_X7_answerFrom_73 a0 x1 x3 n v7302 v7308 E7304))))
def tw_X7_answerFrom (E : bq_E) (a0 : Nat) (x1 : Int32) (x2 : Int32) (x3 : Int32) : Option (Int32 × bq_E) :=
  if bq_cls E a0 = 7 then
  (tl_X7_answerFrom_3 a0 x1 x3 (fun y1 E2 =>
    (tw_X7_of E2 a0 x1 (3 : Int32)).bind fun v3 =>
  bq_let (fun (b4 : Int32) =>
    tl_X7_answerFrom_73 a0 x1 x3 bq_fuel b4 (0 : Int32) E2) fun k68 =>
  if v3 ≤ y1 then
    (k68 (-1 : Int32))
  else
    ((tw_X7_of E2 a0 x1 ((4 : Int32) + y1)).bind fun v19 =>
    k68 v19)) bq_fuel x2 E)
  else none

def tl_X7_goesBack_15 (a0 : Nat) (x1 : Int32) (x3 : Int32) : Nat → Int32 → Int32 → bq_E → Option (Int32 × bq_E)
  | 0, _, _, _ => none
  | n + 1, x4, x5, E =>
  if x5 = 0 then
    (some (x4, E))
  else
    ((bq_fi E a0 7 8).bind fun v1501 =>
    (bq_p E a0 7 8 (.int (v1501 + (1 : Int32)))).bind fun E1502 =>
    (tw_X7_of E1502 a0 x1 (((62 : Int32) + x4) - (1 : Int32))).bind fun v1503 =>
    bq_let (fun (b1504 : Int32) =>
      bq_let (fun (b1505 : Int32) =>
        bq_let (x4 - b1505) fun v1506 =>
        if b1504 = 0 then
          (tl_X7_goesBack_15 a0 x1 x3 n v1506 (0 : Int32) E1502)
        else
          (if v1506 ≤ 0 then
            (tl_X7_goesBack_15 a0 x1 x3 n v1506 (0 : Int32) E1502)
          else
            (tl_X7_goesBack_15 a0 x1 x3 n v1506 (1 : Int32) E1502))) fun k65 =>
      if b1504 = 0 then
        (k65 (0 : Int32))
      else
        (k65 (1 : Int32))) fun k51 =>
    if v1503 < x3 then
      (k51 (0 : Int32))
    else
      (k51 (1 : Int32)))
def tw_X7_goesBack (E : bq_E) (a0 : Nat) (x1 : Int32) (x2 : Int32) (x3 : Int32) : Option (Int32 × bq_E) :=
  if bq_cls E a0 = 7 then
  (bq_let (fun (b1 : Int32) =>
    tl_X7_goesBack_15 a0 x1 x3 bq_fuel x2 b1 E) fun k13 =>
  if x2 ≤ 0 then
    (k13 (0 : Int32))
  else
    (k13 (1 : Int32)))
  else none

def tl_X7_seeks_7 (a0 : Nat) (x1 : Int32) : Nat → Int32 → bq_E → Option bq_E
  | 0, _, _ => none
  | n + 1, x2, E =>
  (bq_fi E a0 7 7).bind fun v701 =>
  if v701 ≤ x2 then
    (some E)
  else
    ((bq_fr E a0 7 6).bind fun v702 =>
    (bq_ai E v702 x2).bind fun v703 =>
    bq_let (fun (b704 : Int32) (E705 : bq_E) =>
      (bq_fr E705 a0 7 9).bind fun v706 =>
      (bq_si E705 v706 x2 b704).bind fun E707 =>
      (bq_fr E707 a0 7 10).bind fun v708 =>
      (tw_X7_of E707 a0 v703 ((254 : Int32) + ((3 : Int32) * b704))).bind fun v709 =>
      (tw_X7_answerFrom E707 a0 v703 v709 x1).bind fun v710 =>
      (bq_si v710.2 v708 x2 v710.1).bind fun E711 =>
      bq_let (x2 + 1) fun v712 =>
      tl_X7_seeks_7 a0 x1 n v712 E711) fun k107 =>
    if x2 = 0 then
      ((tw_X7_of E a0 v703 (61 : Int32)).bind fun v723 =>
      (tw_X7_halves E a0 v703 (62 : Int32) v723 x1).bind fun v724 =>
      k107 v724.1 v724.2)
    else
      ((bq_fr E a0 7 6).bind fun v713 =>
      (bq_ai E v713 (x2 - (1 : Int32))).bind fun v714 =>
      (tw_X7_of E a0 v714 (1 : Int32)).bind fun v715 =>
      bq_let (fun (b716 : Int32) =>
        (bq_fr E a0 7 6).bind fun v717 =>
        (bq_ai E v717 (x2 - (1 : Int32))).bind fun v718 =>
        (bq_fr E a0 7 9).bind fun v719 =>
        (bq_ai E v719 (x2 - (1 : Int32))).bind fun v720 =>
        (tw_X7_of E a0 v718 (((254 : Int32) + ((3 : Int32) * v720)) + b716)).bind fun v721 =>
        (tw_X7_goesBack E a0 v703 v721 x1).bind fun v722 =>
        k107 v722.1 v722.2) fun k68 =>
      if v715 = v703 then
        (k68 (1 : Int32))
      else
        (k68 (2 : Int32))))
def tw_X7_seeks (E : bq_E) (a0 : Nat) (x1 : Int32) : Option bq_E :=
  if bq_cls E a0 = 7 then
  ((bq_p E a0 7 8 (.int (0 : Int32))).bind fun E1 =>
  tl_X7_seeks_7 a0 x1 bq_fuel (0 : Int32) E1)
  else none

def tw_X7_search (E : bq_E) (a0 : Nat) (x1 : Int32) (x2 : Int32) : Option (Int32 × bq_E) :=
  if bq_cls E a0 = 7 then
  ((tw_X7_isNode E a0 x1).bind fun v1 =>
  if (bq_b v1) = 0 then
    ((tw_X7_fails E a0 (1 : Int32)).bind fun v18 =>
    some (v18.1, v18.2))
  else
    ((tw_X7_isSought E x2).bind fun v2 =>
    if (bq_b v2) = 0 then
      ((tw_X7_fails E a0 (2 : Int32)).bind fun v17 =>
      some (v17.1, v17.2))
    else
      ((tw_X7_hold E a0).bind fun E3 =>
      (tw_X7_lays E3 a0 x1).bind fun E4 =>
      (tw_X7_seeks E4 a0 x2).bind fun E5 =>
      (bq_fr E5 a0 7 0).bind fun v6 =>
      (bq_ai E5 v6 (3 : Int32)).bind fun v7 =>
      (bq_si E5 v6 (3 : Int32) (v7 + (1 : Int32))).bind fun E8 =>
      (bq_fr E8 a0 7 0).bind fun v9 =>
      (bq_ai E8 v9 (4 : Int32)).bind fun v10 =>
      (bq_fi E8 a0 7 8).bind fun v11 =>
      (bq_si E8 v9 (4 : Int32) (v10 + v11)).bind fun E12 =>
      (bq_fr E12 a0 7 10).bind fun v13 =>
      (bq_fi E12 a0 7 7).bind fun v14 =>
      (bq_ai E12 v13 (v14 - (1 : Int32))).bind fun v15 =>
      (tw_X7_ends E12 a0 v15).bind fun v16 =>
      some (v16.1, v16.2))))
  else none

def tw_X7_asks (E : bq_E) (a0 : Nat) (x1 : Int32) (x2 : Int32) : Option (Int32 × bq_E) :=
  if bq_cls E a0 = 7 then
  ((tw_X7_isNode E a0 x1).bind fun v1 =>
  if (bq_b v1) = 0 then
    (some ((1 : Int32), E))
  else
    ((tw_X7_isSought E x2).bind fun v2 =>
    if (bq_b v2) = 0 then
      (some ((2 : Int32), E))
    else
      ((tw_X7_lays E a0 x1).bind fun E3 =>
      (tw_X7_seeks E3 a0 x2).bind fun E4 =>
      some ((0 : Int32), E4))))
  else none

def tw_X7_probes (E : bq_E) (a0 : Nat) (x1 : Int32) (x2 : Int32) : Option (Int32 × bq_E) :=
  if bq_cls E a0 = 7 then
  ((tw_X7_asks E a0 x1 x2).bind fun v1 =>
  if v1.1 ≤ 0 then
    ((bq_fi v1.2 a0 7 8).bind fun v2 =>
    (tw_X7_tells v1.2 a0 v2).bind fun v3 =>
    some (v3.1, v3.2))
  else
    ((tw_X7_fails v1.2 a0 v1.1).bind fun v4 =>
    some (v4.1, v4.2)))
  else none

def tl_X7_plainProbes_28 (a0 : Nat) (x2 : Int32) (K : Int32 → Int32 → bq_E → Option (Int32 × bq_E)) : Nat → Int32 → Int32 → bq_E → Option (Int32 × bq_E)
  | 0, _, _, _ => none
  | n + 1, x4, x5, E =>
  (bq_fi E a0 7 7).bind fun v2801 =>
  if v2801 ≤ x5 then
    (K x4 x5 E)
  else
    ((bq_fr E a0 7 6).bind fun v2802 =>
    (bq_ai E v2802 x5).bind fun v2803 =>
    (bq_fr E a0 7 6).bind fun v2804 =>
    (bq_ai E v2804 x5).bind fun v2805 =>
    (bq_fr E a0 7 6).bind fun v2806 =>
    (bq_ai E v2806 x5).bind fun v2807 =>
    (tw_X7_of E a0 v2807 (3 : Int32)).bind fun v2808 =>
    (tw_X7_halves E a0 v2805 (4 : Int32) v2808 x2).bind fun v2809 =>
    (tw_X7_answerFrom v2809.2 a0 v2803 v2809.1 x2).bind fun v2810 =>
    if v2810.1 = (-1 : Int32) then
      (bq_let (x4 + (0 : Int32)) fun v2813 =>
      bq_let (x5 + 1) fun v2814 =>
      tl_X7_plainProbes_28 a0 x2 K n v2813 v2814 v2810.2)
    else
      (bq_let (x4 + (1 : Int32)) fun v2811 =>
      bq_let (x5 + 1) fun v2812 =>
      tl_X7_plainProbes_28 a0 x2 K n v2811 v2812 v2810.2))
def tw_X7_plainProbes (E : bq_E) (a0 : Nat) (x1 : Int32) (x2 : Int32) : Option (Int32 × bq_E) :=
  if bq_cls E a0 = 7 then
  ((tw_X7_asks E a0 x1 x2).bind fun v1 =>
  if v1.1 ≤ 0 then
    ((bq_p v1.2 a0 7 8 (.int (0 : Int32))).bind fun E2 =>
    tl_X7_plainProbes_28 a0 x2 (fun y3 y4 E5 =>
      if 0 ≤ y3 then
      ((bq_fi E5 a0 7 8).bind fun v6 =>
      (tw_X7_tells E5 a0 v6).bind fun v7 =>
      some (v7.1, v7.2))
    else
      ((tw_X7_tells E5 a0 y3).bind fun v8 =>
      some (v8.1, v8.2))) bq_fuel (0 : Int32) (0 : Int32) E2)
  else
    ((tw_X7_fails v1.2 a0 v1.1).bind fun v29 =>
    some (v29.1, v29.2)))
  else none

def tw_X7_place (E : bq_E) (a0 : Nat) (x1 : Int32) (x2 : Int32) : Option (Int32 × bq_E) :=
  if bq_cls E a0 = 7 then
  ((tw_X7_asks E a0 x1 x2).bind fun v1 =>
  if v1.1 ≤ 0 then
    ((bq_fr v1.2 a0 7 9).bind fun v2 =>
    (bq_fi v1.2 a0 7 7).bind fun v3 =>
    (bq_ai v1.2 v2 (v3 - (1 : Int32))).bind fun v4 =>
    (tw_X7_tells v1.2 a0 v4).bind fun v5 =>
    some (v5.1, v5.2))
  else
    ((tw_X7_fails v1.2 a0 v1.1).bind fun v6 =>
    some (v6.1, v6.2)))
  else none

def tl_X7_leastStep_4 (E : bq_E) (a0 : Nat) : Nat → Int32 → Int32 → Option Int32
  | 0, _, _ => none
  | n + 1, x1, x2 =>
  (bq_fi E a0 7 7).bind fun v401 =>
  if v401 ≤ x2 then
    (some x1)
  else
    ((bq_fr E a0 7 10).bind fun v402 =>
    (bq_ai E v402 x2).bind fun v403 =>
    if v403 = (-1 : Int32) then
      (bq_let (x2 + 1) fun v404 =>
      tl_X7_leastStep_4 E a0 n x1 v404)
    else
      (if x1 = (-1 : Int32) then
        (bq_let (x2 + 1) fun v405 =>
        tl_X7_leastStep_4 E a0 n x2 v405)
      else
        ((bq_fr E a0 7 10).bind fun v406 =>
        (bq_ai E v406 x2).bind fun v407 =>
        (bq_fr E a0 7 10).bind fun v408 =>
        (bq_ai E v408 x1).bind fun v409 =>
        if v409 ≤ v407 then
          (bq_let (x2 + 1) fun v410 =>
          tl_X7_leastStep_4 E a0 n x1 v410)
        else
          (bq_let (x2 + 1) fun v411 =>
          tl_X7_leastStep_4 E a0 n x2 v411))))
def tw_X7_leastStep (E : bq_E) (a0 : Nat) : Option Int32 :=
  if bq_cls E a0 = 7 then
  (tl_X7_leastStep_4 E a0 bq_fuel (-1 : Int32) (0 : Int32))
  else none

def tw_X7_leastOnPath (E : bq_E) (a0 : Nat) (x1 : Int32) (x2 : Int32) : Option (Int32 × bq_E) :=
  if bq_cls E a0 = 7 then
  ((tw_X7_asks E a0 x1 x2).bind fun v1 =>
  if v1.1 ≤ 0 then
    ((tw_X7_leastStep v1.2 a0).bind fun v2 =>
    if v2 = (-1 : Int32) then
      ((tw_X7_tells v1.2 a0 (-1 : Int32)).bind fun v6 =>
      some (v6.1, v6.2))
    else
      ((bq_fr v1.2 a0 7 10).bind fun v3 =>
      (bq_ai v1.2 v3 v2).bind fun v4 =>
      (tw_X7_tells v1.2 a0 v4).bind fun v5 =>
      some (v5.1, v5.2)))
  else
    ((tw_X7_fails v1.2 a0 v1.1).bind fun v7 =>
    some (v7.1, v7.2)))
  else none

def tw_X7_nearestOnPath (E : bq_E) (a0 : Nat) (x1 : Int32) (x2 : Int32) : Option (Int32 × bq_E) :=
  if bq_cls E a0 = 7 then
  ((tw_X7_asks E a0 x1 x2).bind fun v1 =>
  if v1.1 ≤ 0 then
    ((tw_X7_leastStep v1.2 a0).bind fun v2 =>
    if v2 = (-1 : Int32) then
      ((tw_X7_tells v1.2 a0 (-1 : Int32)).bind fun v6 =>
      some (v6.1, v6.2))
    else
      ((bq_fr v1.2 a0 7 6).bind fun v3 =>
      (bq_ai v1.2 v3 v2).bind fun v4 =>
      (tw_X7_tells v1.2 a0 v4).bind fun v5 =>
      some (v5.1, v5.2)))
  else
    ((tw_X7_fails v1.2 a0 v1.1).bind fun v7 =>
    some (v7.1, v7.2)))
  else none

def tl_X7_worstOf_28 (a0 : Nat) (x3 : Int32) (K : Int32 → Int32 → bq_E → Option (Int32 × bq_E)) : Nat → Int32 → Int32 → bq_E → Option (Int32 × bq_E)
  | 0, _, _, _ => none
  | n + 1, x2, x4, E =>
  (bq_fr E a0 7 6).bind fun v2801 =>
  (bq_ai E v2801 x3).bind fun v2802 =>
  (tw_X7_of E a0 v2802 (61 : Int32)).bind fun v2803 =>
  if v2803 ≤ x4 then
    (K x2 x4 E)
  else
    ((bq_fr E a0 7 6).bind fun v2804 =>
    (bq_ai E v2804 x3).bind fun v2805 =>
    (tw_X7_of E a0 v2805 ((62 : Int32) + x4)).bind fun v2806 =>
    (tw_X7_seeks E a0 (v2806 + (1 : Int32))).bind fun E2807 =>
    (bq_fi E2807 a0 7 8).bind fun v2808 =>
    if v2808 ≤ x2 then
      (bq_let (x4 + 1) fun v2809 =>
      tl_X7_worstOf_28 a0 x3 K n x2 v2809 E2807)
    else
      ((bq_fi E2807 a0 7 8).bind fun v2810 =>
      bq_let (x4 + 1) fun v2811 =>
      tl_X7_worstOf_28 a0 x3 K n v2810 v2811 E2807))
def tl_X7_worstOf_17 (a0 : Nat) : Nat → Int32 → Int32 → bq_E → Option (Int32 × bq_E)
  | 0, _, _, _ => none
  | n + 1, x2, x3, E =>
  (bq_fi E a0 7 7).bind fun v1701 =>
  if v1701 ≤ x3 then
    (some (x2, E))
  else
    (tl_X7_worstOf_28 a0 x3 (fun y1702 y1703 E1704 =>
      bq_let (x3 + 1) fun v1705 =>
    tl_X7_worstOf_17 a0 n y1702 v1705 E1704) bq_fuel x2 (0 : Int32) E)
def tw_X7_worstOf (E : bq_E) (a0 : Nat) (x1 : Int32) : Option (Int32 × bq_E) :=
  if bq_cls E a0 = 7 then
  ((tw_X7_lays E a0 x1).bind fun E1 =>
  (tw_X7_seeks E1 a0 (0 : Int32)).bind fun E2 =>
  (bq_fi E2 a0 7 8).bind fun v3 =>
  tl_X7_worstOf_17 a0 bq_fuel v3 (0 : Int32) E2)
  else none

def tw_X7_worst (E : bq_E) (a0 : Nat) (x1 : Int32) : Option (Int32 × bq_E) :=
  if bq_cls E a0 = 7 then
  ((tw_X7_isNode E a0 x1).bind fun v1 =>
  if (bq_b v1) = 0 then
    ((tw_X7_fails E a0 (1 : Int32)).bind fun v2 =>
    some (v2.1, v2.2))
  else
    ((tw_X7_worstOf E a0 x1).bind fun v3 =>
    (tw_X7_tells v3.2 a0 v3.1).bind fun v4 =>
    some (v4.1, v4.2)))
  else none

def tw_X7_nodes (E : bq_E) (a0 : Nat) : Option (Int32 × bq_E) :=
  if bq_cls E a0 = 7 then
  ((bq_fr E a0 7 0).bind fun v1 =>
  (bq_ai E v1 (0 : Int32)).bind fun v2 =>
  (tw_X7_tells E a0 v2).bind fun v3 =>
  some (v3.1, v3.2))
  else none

def tw_X7_depth (E : bq_E) (a0 : Nat) (x1 : Int32) : Option (Int32 × bq_E) :=
  if bq_cls E a0 = 7 then
  ((tw_X7_lays E a0 x1).bind fun E1 =>
  (bq_fi E1 a0 7 7).bind fun v2 =>
  some ((v2 - (1 : Int32)), E1))
  else none

def tw_X7_value (E : bq_E) (a0 : Nat) (x1 : Int32) (x2 : Int32) : Option (Int32 × bq_E) :=
  if bq_cls E a0 = 7 then
  (if x2 = 0 then
    ((tw_X7_of E a0 x1 x2).bind fun v1 =>
    some (v1, E))
  else
  if x2 = 1 then
    ((tw_X7_of E a0 x1 x2).bind fun v2 =>
    some (v2, E))
  else
  if x2 = 2 then
    ((tw_X7_of E a0 x1 x2).bind fun v3 =>
    some (v3, E))
  else
  if x2 = 3 then
    ((tw_X7_depth E a0 x1).bind fun v4 =>
    some (v4.1, v4.2))
  else
  if x2 = 4 then
    ((tw_X7_keys E a0 x1).bind fun v5 =>
    some (v5, E))
  else
  if x2 = 5 then
    ((tw_X7_of E a0 x1 (3 : Int32)).bind fun v6 =>
    some (v6, E))
  else
  if x2 = 6 then
    ((tw_X7_marked E a0 x1).bind fun v7 =>
    some (v7, E))
  else
  if x2 = 7 then
    ((tw_X7_of E a0 x1 (52 : Int32)).bind fun v8 =>
    some (v8, E))
  else
  (tw_X7_of E a0 x1 (61 : Int32)).bind fun v9 =>
  some (v9, E))
  else none

def tw_X7_node (E : bq_E) (a0 : Nat) (x1 : Int32) (x2 : Int32) : Option (Int32 × bq_E) :=
  if bq_cls E a0 = 7 then
  ((tw_X7_isNode E a0 x1).bind fun v1 =>
  if (bq_b v1) = 0 then
    ((tw_X7_fails E a0 (1 : Int32)).bind fun v6 =>
    some (v6.1, v6.2))
  else
    ((tw_X7_in E x2 (0 : Int32) (8 : Int32)).bind fun v2 =>
    if (bq_b v2) = 0 then
      ((tw_X7_fails E a0 (2 : Int32)).bind fun v3 =>
      some (v3.1, v3.2))
    else
      ((tw_X7_value E a0 x1 x2).bind fun v4 =>
      (tw_X7_tells v4.2 a0 v4.1).bind fun v5 =>
      some (v5.1, v5.2))))
  else none

def tl_X7_key_34 (E : bq_E) (a0 : Nat) (x1 : Int32) (x2 : Int32) : Nat → Int32 → Int32 → Option (Int32 × bq_E)
  | 0, _, _ => none
  | n + 1, x3, x4 =>
  if x2 ≤ x4 then
    ((tw_X7_tells E a0 x3).bind fun v3401 =>
    some (v3401.1, v3401.2))
  else
    (if x3 = (-1 : Int32) then
      ((tw_X7_tells E a0 x3).bind fun v3402 =>
      some (v3402.1, v3402.2))
    else
      ((tw_X7_next E a0 x1 (x3 + (1 : Int32))).bind fun v3403 =>
      bq_let (x4 + 1) fun v3404 =>
      tl_X7_key_34 E a0 x1 x2 n v3403 v3404))
def tw_X7_key (E : bq_E) (a0 : Nat) (x1 : Int32) (x2 : Int32) : Option (Int32 × bq_E) :=
  if bq_cls E a0 = 7 then
  ((tw_X7_isNode E a0 x1).bind fun v1 =>
  if (bq_b v1) = 0 then
    ((tw_X7_fails E a0 (1 : Int32)).bind fun v12 =>
    some (v12.1, v12.2))
  else
    (if 0 ≤ x2 then
      ((tw_X7_next E a0 x1 (0 : Int32)).bind fun v2 =>
      tl_X7_key_34 E a0 x1 x2 bq_fuel v2 (0 : Int32))
    else
      ((tw_X7_fails E a0 (2 : Int32)).bind fun v11 =>
      some (v11.1, v11.2))))
  else none

def tw_X7_baseOf (E : bq_E) (a0 : Nat) (x1 : Int32) (x2 : Int32) : Option Int32 :=
  if bq_cls E a0 = 7 then
  ((tw_X7_of E a0 x1 ((4 : Int32) + x2)).bind fun v1 =>
  (tw_X7_of E a0 x1 ((28 : Int32) + x2)).bind fun v2 =>
  if v2 = (1 : Int32) then
    (some (v1 + (10000 : Int32)))
  else
    (some (v1 + (0 : Int32))))
  else none

def tw_X7_baseKey (E : bq_E) (a0 : Nat) (x1 : Int32) (x2 : Int32) : Option (Int32 × bq_E) :=
  if bq_cls E a0 = 7 then
  ((tw_X7_isNode E a0 x1).bind fun v1 =>
  if (bq_b v1) = 0 then
    ((tw_X7_fails E a0 (1 : Int32)).bind fun v7 =>
    some (v7.1, v7.2))
  else
    (if 0 ≤ x2 then
      ((tw_X7_of E a0 x1 (3 : Int32)).bind fun v2 =>
      if v2 ≤ x2 then
        ((tw_X7_tells E a0 (-1 : Int32)).bind fun v3 =>
        some (v3.1, v3.2))
      else
        ((tw_X7_baseOf E a0 x1 x2).bind fun v4 =>
        (tw_X7_tells E a0 v4).bind fun v5 =>
        some (v5.1, v5.2)))
    else
      ((tw_X7_fails E a0 (2 : Int32)).bind fun v6 =>
      some (v6.1, v6.2))))
  else none

def tw_X7_bufferKey (E : bq_E) (a0 : Nat) (x1 : Int32) (x2 : Int32) : Option (Int32 × bq_E) :=
  if bq_cls E a0 = 7 then
  ((tw_X7_isNode E a0 x1).bind fun v1 =>
  if (bq_b v1) = 0 then
    ((tw_X7_fails E a0 (1 : Int32)).bind fun v7 =>
    some (v7.1, v7.2))
  else
    (if 0 ≤ x2 then
      ((tw_X7_of E a0 x1 (52 : Int32)).bind fun v2 =>
      if v2 ≤ x2 then
        ((tw_X7_tells E a0 (-1 : Int32)).bind fun v3 =>
        some (v3.1, v3.2))
      else
        ((tw_X7_of E a0 x1 ((53 : Int32) + x2)).bind fun v4 =>
        (tw_X7_tells E a0 v4).bind fun v5 =>
        some (v5.1, v5.2)))
    else
      ((tw_X7_fails E a0 (2 : Int32)).bind fun v6 =>
      some (v6.1, v6.2))))
  else none

def tw_X7_entry (E : bq_E) (a0 : Nat) (x1 : Int32) (x2 : Int32) (x3 : Int32) : Option (Int32 × bq_E) :=
  if bq_cls E a0 = 7 then
  ((tw_X7_isNode E a0 x1).bind fun v1 =>
  if (bq_b v1) = 0 then
    ((tw_X7_fails E a0 (1 : Int32)).bind fun v9 =>
    some (v9.1, v9.2))
  else
    (bq_let (fun (_ : Unit) =>
      (tw_X7_fails E a0 (2 : Int32)).bind fun v2 =>
      some (v2.1, v2.2)) fun k27 =>
    if x2 < 0 then
      (k27 ())
    else
      ((tw_X7_in E x3 (0 : Int32) (1 : Int32)).bind fun v3 =>
      if (bq_b v3) = 0 then
        (k27 ())
      else
        ((tw_X7_of E a0 x1 (61 : Int32)).bind fun v4 =>
        if x2 < v4 then
          (bq_let (fun (b5 : Int32) =>
            (tw_X7_of E a0 x1 (b5 + x2)).bind fun v6 =>
            (tw_X7_tells E a0 v6).bind fun v7 =>
            some (v7.1, v7.2)) fun k63 =>
          if x3 = 0 then
            (k63 (62 : Int32))
          else
            (k63 (158 : Int32)))
        else
          ((tw_X7_tells E a0 (-1 : Int32)).bind fun v8 =>
          some (v8.1, v8.2))))))
  else none

def tw_X7_bridge (E : bq_E) (a0 : Nat) (x1 : Int32) (x2 : Int32) (x3 : Int32) : Option (Int32 × bq_E) :=
  if bq_cls E a0 = 7 then
  ((tw_X7_isNode E a0 x1).bind fun v1 =>
  if (bq_b v1) = 0 then
    ((tw_X7_fails E a0 (1 : Int32)).bind fun v8 =>
    some (v8.1, v8.2))
  else
    ((tw_X7_of E a0 x1 (61 : Int32)).bind fun v2 =>
    (tw_X7_in E x2 (0 : Int32) v2).bind fun v3 =>
    bq_let (fun (_ : Unit) =>
      (tw_X7_fails E a0 (2 : Int32)).bind fun v4 =>
      some (v4.1, v4.2)) fun k59 =>
    if (bq_b v3) = 0 then
      (k59 ())
    else
      ((tw_X7_in E x3 (0 : Int32) (2 : Int32)).bind fun v5 =>
      if (bq_b v5) = 0 then
        (k59 ())
      else
        ((tw_X7_of E a0 x1 (((254 : Int32) + ((3 : Int32) * x2)) + x3)).bind fun v6 =>
        (tw_X7_tells E a0 v6).bind fun v7 =>
        some (v7.1, v7.2)))))
  else none

def tl_X7_counted_18 (E : bq_E) (a0 : Nat) (x1 : Int32) : Nat → Int32 → Int32 → Option Int32
  | 0, _, _ => none
  | n + 1, x2, x3 =>
  (bq_fr E a0 7 0).bind fun v1801 =>
  (bq_ai E v1801 (0 : Int32)).bind fun v1802 =>
  if v1802 ≤ x3 then
    (some x2)
  else
    (if x1 = (5 : Int32) then
      ((tw_X7_keys E a0 x3).bind fun v1806 =>
      bq_let (x2 + v1806) fun v1807 =>
      bq_let (x3 + 1) fun v1808 =>
      tl_X7_counted_18 E a0 x1 n v1807 v1808)
    else
      ((tw_X7_of E a0 x3 (61 : Int32)).bind fun v1803 =>
      bq_let (x2 + v1803) fun v1804 =>
      bq_let (x3 + 1) fun v1805 =>
      tl_X7_counted_18 E a0 x1 n v1804 v1805))
def tw_X7_counted (E : bq_E) (a0 : Nat) (x1 : Int32) : Option Int32 :=
  if bq_cls E a0 = 7 then
  (if (5 : Int32) ≤ x1 then
    (tl_X7_counted_18 E a0 x1 bq_fuel (0 : Int32) (0 : Int32))
  else
    ((bq_fr E a0 7 0).bind fun v13 =>
    (bq_ai E v13 ((3 : Int32) + x1)).bind fun v14 =>
    some v14))
  else none

def tw_X7_count (E : bq_E) (a0 : Nat) (x1 : Int32) : Option (Int32 × bq_E) :=
  if bq_cls E a0 = 7 then
  ((tw_X7_in E x1 (0 : Int32) (6 : Int32)).bind fun v1 =>
  if (bq_b v1) = 0 then
    ((tw_X7_fails E a0 (1 : Int32)).bind fun v2 =>
    some (v2.1, v2.2))
  else
    ((tw_X7_counted E a0 x1).bind fun v3 =>
    (tw_X7_tells E a0 v3).bind fun v4 =>
    some (v4.1, v4.2)))
  else none

def tl_X7_undo_25 (a0 : Nat) : Nat → Int32 → bq_E → Option (Int32 × bq_E)
  | 0, _, _ => none
  | n + 1, x1, E =>
  if (8183 : Int32) ≤ x1 then
    ((bq_fi E a0 7 3).bind fun v2501 =>
    (tw_X7_tells E a0 v2501).bind fun v2502 =>
    some (v2502.1, v2502.2))
  else
    ((bq_fr E a0 7 0).bind fun v2503 =>
    (bq_fr E a0 7 1).bind fun v2504 =>
    (bq_fi E a0 7 3).bind fun v2505 =>
    (bq_ai E v2504 (((8183 : Int32) * v2505) + x1)).bind fun v2506 =>
    (bq_si E v2503 x1 v2506).bind fun E2507 =>
    bq_let (x1 + 1) fun v2508 =>
    tl_X7_undo_25 a0 n v2508 E2507)
def tw_X7_undo (E : bq_E) (a0 : Nat) : Option (Int32 × bq_E) :=
  if bq_cls E a0 = 7 then
  ((bq_fi E a0 7 3).bind fun v1 =>
  if v1 = 0 then
    ((tw_X7_fails E a0 (1 : Int32)).bind fun v16 =>
    some (v16.1, v16.2))
  else
    ((bq_fi E a0 7 3).bind fun v2 =>
    (bq_p E a0 7 3 (.int (v2 - (1 : Int32)))).bind fun E3 =>
    tl_X7_undo_25 a0 bq_fuel (0 : Int32) E3))
  else none

def tw_X7_mix (E : bq_E) (a0 : Nat) (x1 : Int32) : Option bq_E :=
  if bq_cls E a0 = 7 then
  ((bq_fl E a0 7 11).bind fun v1 =>
  (bq_p E a0 7 11 (.long (((31 : Int64) * v1) + (Int32.toInt64 x1)))).bind fun E2 =>
  some E2)
  else none

def tl_X7_mixNode_2 (a0 : Nat) (x1 : Int32) (K : Int32 → bq_E → Option bq_E) : Nat → Int32 → bq_E → Option bq_E
  | 0, _, _ => none
  | n + 1, x2, E =>
  if (9 : Int32) ≤ x2 then
    (K x2 E)
  else
    ((tw_X7_value E a0 x1 x2).bind fun v201 =>
    (tw_X7_mix v201.2 a0 v201.1).bind fun E202 =>
    bq_let (x2 + 1) fun v203 =>
    tl_X7_mixNode_2 a0 x1 K n v203 E202)
def tl_X7_mixNode_26 (a0 : Nat) (x1 : Int32) (K : Int32 → bq_E → Option bq_E) : Nat → Int32 → bq_E → Option bq_E
  | 0, _, _ => none
  | n + 1, x2, E =>
  (tw_X7_of E a0 x1 (3 : Int32)).bind fun v2601 =>
  if v2601 ≤ x2 then
    (K x2 E)
  else
    ((tw_X7_baseOf E a0 x1 x2).bind fun v2602 =>
    (tw_X7_mix E a0 v2602).bind fun E2603 =>
    bq_let (x2 + 1) fun v2604 =>
    tl_X7_mixNode_26 a0 x1 K n v2604 E2603)
def tl_X7_mixNode_54 (a0 : Nat) (x1 : Int32) (K : Int32 → bq_E → Option bq_E) : Nat → Int32 → bq_E → Option bq_E
  | 0, _, _ => none
  | n + 1, x2, E =>
  (tw_X7_of E a0 x1 (52 : Int32)).bind fun v5401 =>
  if v5401 ≤ x2 then
    (K x2 E)
  else
    ((tw_X7_of E a0 x1 ((53 : Int32) + x2)).bind fun v5402 =>
    (tw_X7_mix E a0 v5402).bind fun E5403 =>
    bq_let (x2 + 1) fun v5404 =>
    tl_X7_mixNode_54 a0 x1 K n v5404 E5403)
def tl_X7_mixNode_126 (a0 : Nat) (x1 : Int32) (x2 : Int32) (K : Int32 → bq_E → Option bq_E) : Nat → Int32 → bq_E → Option bq_E
  | 0, _, _ => none
  | n + 1, x3, E =>
  if (2 : Int32) < x3 then
    (K x3 E)
  else
    ((tw_X7_of E a0 x1 (((254 : Int32) + ((3 : Int32) * x2)) + x3)).bind fun v12601 =>
    (tw_X7_mix E a0 v12601).bind fun E12602 =>
    bq_let (x3 + 1) fun v12603 =>
    tl_X7_mixNode_126 a0 x1 x2 K n v12603 E12602)
def tl_X7_mixNode_86 (a0 : Nat) (x1 : Int32) : Nat → Int32 → bq_E → Option bq_E
  | 0, _, _ => none
  | n + 1, x2, E =>
  (tw_X7_of E a0 x1 (61 : Int32)).bind fun v8601 =>
  if v8601 ≤ x2 then
    ((tw_X7_worstOf E a0 x1).bind fun v8602 =>
    (tw_X7_mix v8602.2 a0 v8602.1).bind fun E8603 =>
    some E8603)
  else
    ((tw_X7_of E a0 x1 ((62 : Int32) + x2)).bind fun v8604 =>
    (tw_X7_mix E a0 v8604).bind fun E8605 =>
    (tw_X7_of E8605 a0 x1 ((158 : Int32) + x2)).bind fun v8606 =>
    (tw_X7_mix E8605 a0 v8606).bind fun E8607 =>
    tl_X7_mixNode_126 a0 x1 x2 (fun y8608 E8609 =>
      bq_let (x2 + 1) fun v8610 =>
    tl_X7_mixNode_86 a0 x1 n v8610 E8609) bq_fuel (0 : Int32) E8607)
def tw_X7_mixNode (E : bq_E) (a0 : Nat) (x1 : Int32) : Option bq_E :=
  if bq_cls E a0 = 7 then
  (tl_X7_mixNode_2 a0 x1 (fun y1 E2 =>
    tl_X7_mixNode_26 a0 x1 (fun y3 E4 =>
    tl_X7_mixNode_54 a0 x1 (fun y5 E6 =>
    tl_X7_mixNode_86 a0 x1 bq_fuel (0 : Int32) E6) bq_fuel (0 : Int32) E4) bq_fuel (0 : Int32) E2) bq_fuel (0 : Int32) E)
  else none

def tl_X7_digest_52 (a0 : Nat) (K : Int32 → bq_E → Option (Int64 × bq_E)) : Nat → Int32 → bq_E → Option (Int64 × bq_E)
  | 0, _, _ => none
  | n + 1, x1, E =>
  (bq_fr E a0 7 0).bind fun v5201 =>
  (bq_ai E v5201 (0 : Int32)).bind fun v5202 =>
  if v5202 ≤ x1 then
    (K x1 E)
  else
    ((tw_X7_mixNode E a0 x1).bind fun E5203 =>
    bq_let (x1 + 1) fun v5204 =>
    tl_X7_digest_52 a0 K n v5204 E5203)
def tl_X7_digest_75 (a0 : Nat) : Nat → Int32 → bq_E → Option (Int64 × bq_E)
  | 0, _, _ => none
  | n + 1, x1, E =>
  if (7 : Int32) ≤ x1 then
    ((bq_fl E a0 7 11).bind fun v7501 =>
    some (v7501, E))
  else
    ((tw_X7_counted E a0 x1).bind fun v7502 =>
    (tw_X7_mix E a0 v7502).bind fun E7503 =>
    bq_let (x1 + 1) fun v7504 =>
    tl_X7_digest_75 a0 n v7504 E7503)
def tw_X7_digest (E : bq_E) (a0 : Nat) : Option (Int64 × bq_E) :=
  if bq_cls E a0 = 7 then
  ((bq_p E a0 7 4 (.int (0 : Int32))).bind fun E1 =>
  (bq_p E1 a0 7 11 (.long (18592 : Int64))).bind fun E2 =>
  (bq_fi E2 a0 7 3).bind fun v3 =>
  (tw_X7_mix E2 a0 v3).bind fun E4 =>
  (bq_fr E4 a0 7 0).bind fun v5 =>
  (bq_ai E4 v5 (1 : Int32)).bind fun v6 =>
  (tw_X7_mix E4 a0 v6).bind fun E7 =>
  (bq_fr E7 a0 7 0).bind fun v8 =>
  (bq_ai E7 v8 (2 : Int32)).bind fun v9 =>
  (tw_X7_mix E7 a0 v9).bind fun E10 =>
  (bq_fr E10 a0 7 0).bind fun v11 =>
  (bq_ai E10 v11 (0 : Int32)).bind fun v12 =>
  (tw_X7_mix E10 a0 v12).bind fun E13 =>
  tl_X7_digest_52 a0 (fun y14 E15 =>
    tl_X7_digest_75 a0 bq_fuel (0 : Int32) E15) bq_fuel (0 : Int32) E13)
  else none
