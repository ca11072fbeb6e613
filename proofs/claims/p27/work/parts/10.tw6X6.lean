def tw_X6_requireNode (E : bq_E) (a0 : Nat) (x1 : Int32) : Option (Unit ⊕ String) :=
  if bq_cls E a0 = 6 then
  (bq_let (fun (_ : Unit) =>
    some (Sum.inr "java/lang/IndexOutOfBoundsException")) fun k15 =>
  if x1 < 0 then
    (k15 ())
  else
    ((bq_fr E a0 6 0).bind fun v1 =>
    (bq_fi E v1 4 3).bind fun v2 =>
    if x1 < v2 then
      (some (Sum.inl ()))
    else
      (k15 ())))
  else none

def tw_X6_require (E : bq_E) (a0 : Nat) (x1 : Int32) : Option (Unit ⊕ String) :=
  if bq_cls E a0 = 6 then
  (if x1 = 0 then
    (some (Sum.inr "java/lang/IllegalArgumentException"))
  else
    (some (Sum.inl ())))
  else none

def tw_X6_addNode (E : bq_E) (a0 : Nat) (x1 : Int32) (x2 : Int32) : Option ((Int32 ⊕ String) × bq_E) :=
  if bq_cls E a0 = 6 then
  ((tw_X6_requireNode E a0 x1).bind fun v1 =>
  bq_elim v1 (fun v2 =>
  bq_let (fun (b4 : Int32) =>
    (tw_X6_require E a0 b4).bind fun v5 =>
    bq_elim v5 (fun v6 =>
    (bq_fr E a0 6 0).bind fun v8 =>
    (bq_fi E v8 4 3).bind fun v9 =>
    bq_let (fun (_ : Unit) =>
      some (Sum.inr "java/lang/IllegalStateException", E)) fun k52 =>
    if v9 = (15 : Int32) then
      (k52 ())
    else
      ((bq_fr E a0 6 0).bind fun v10 =>
      (tw_X4_at E v10 x1).bind fun v11 =>
      (tw_X0_child E v11 x2).bind fun v12 =>
      if v12 = (-1 : Int32) then
        ((bq_fr E a0 6 2).bind fun v13 =>
        (bq_fr E a0 6 0).bind fun v14 =>
        (tw_X1_save E v13 v14).bind fun E15 =>
        (bq_fr E15 a0 6 0).bind fun v16 =>
        (tw_X4_grow E15 v16 x1 x2).bind fun v17 =>
        some (Sum.inl v17.1, v17.2))
      else
        (k52 ()))) fun X7 => some (Sum.inr X7, E)) fun k21 =>
  bq_let (fun (_ : Unit) =>
    k21 (1 : Int32)) fun k16 =>
  if x2 = (1 : Int32) then
    (k16 ())
  else
    (if x2 = (2 : Int32) then
      (k16 ())
    else
      (k21 (0 : Int32)))) fun X3 => some (Sum.inr X3, E))
  else none

def tw_X6_requireKey (E : bq_E) (a0 : Nat) (x1 : Int32) : Option (Unit ⊕ String) :=
  if bq_cls E a0 = 6 then
  (if x1 < 0 then
    ((tw_X6_require E a0 (0 : Int32)).bind fun v1 =>
    bq_elim v1 (fun v2 =>
    some (Sum.inl ())) fun X3 => some (Sum.inr X3))
  else
    (if (10000 : Int32) ≤ x1 then
      ((tw_X6_require E a0 (0 : Int32)).bind fun v4 =>
      bq_elim v4 (fun v5 =>
      some (Sum.inl ())) fun X6 => some (Sum.inr X6))
    else
      ((tw_X6_require E a0 (1 : Int32)).bind fun v7 =>
      bq_elim v7 (fun v8 =>
      some (Sum.inl ())) fun X9 => some (Sum.inr X9))))
  else none

def tw_X6_add (E : bq_E) (a0 : Nat) (x1 : Int32) (x2 : Int32) : Option ((Bool ⊕ String) × bq_E) :=
  if bq_cls E a0 = 6 then
  ((tw_X6_requireNode E a0 x1).bind fun v1 =>
  bq_elim v1 (fun v2 =>
  (tw_X6_requireKey E a0 x2).bind fun v4 =>
  bq_elim v4 (fun v5 =>
  (bq_fr E a0 6 0).bind fun v7 =>
  (tw_X4_at E v7 x1).bind fun v8 =>
  (tw_X0_holds E v8 x2).bind fun v9 =>
  bq_let (fun (_ : Unit) =>
    (bq_fr E a0 6 2).bind fun v10 =>
    (bq_fr E a0 6 0).bind fun v11 =>
    (tw_X1_save E v10 v11).bind fun E12 =>
    (bq_fr E12 a0 6 0).bind fun v13 =>
    (tw_X4_takeIn E12 v13 x1 x2).bind fun v14 =>
    some (Sum.inl v14.1, v14.2)) fun k44 =>
  if (bq_b v9) = 0 then
    ((tw_X0_isFull E v8).bind fun v15 =>
    if (bq_b v15) = 0 then
      (k44 ())
    else
      (some (Sum.inr "java/lang/IllegalStateException", E)))
  else
    (k44 ())) fun X6 => some (Sum.inr X6, E)) fun X3 => some (Sum.inr X3, E))
  else none

def tw_X6_remove (E : bq_E) (a0 : Nat) (x1 : Int32) (x2 : Int32) : Option ((Bool ⊕ String) × bq_E) :=
  if bq_cls E a0 = 6 then
  ((tw_X6_requireNode E a0 x1).bind fun v1 =>
  bq_elim v1 (fun v2 =>
  (tw_X6_requireKey E a0 x2).bind fun v4 =>
  bq_elim v4 (fun v5 =>
  (bq_fr E a0 6 2).bind fun v7 =>
  (bq_fr E a0 6 0).bind fun v8 =>
  (tw_X1_save E v7 v8).bind fun E9 =>
  (bq_fr E9 a0 6 0).bind fun v10 =>
  (tw_X4_drop E9 v10 x1 x2).bind fun v11 =>
  some (Sum.inl v11.1, v11.2)) fun X6 => some (Sum.inr X6, E)) fun X3 => some (Sum.inr X3, E))
  else none

def tl_X6_addSeries_73 (a0 : Nat) (x1 : Int32) (x3 : Int32) (x4 : Int32) : Nat → Int32 → Int32 → Int32 → bq_E → Option ((Int32 ⊕ String) × bq_E)
  | 0, _, _, _, _ => none
  | n + 1, x5, x6, x7, E =>
  if x4 ≤ x7 then
    (some (Sum.inl x6, E))
  else
    (if (10000 : Int32) ≤ x5 then
      (some (Sum.inl x6, E))
    else
      ((bq_fr E a0 6 0).bind fun v7301 =>
      (tw_X4_at E v7301 x1).bind fun v7302 =>
      (tw_X0_isFull E v7302).bind fun v7303 =>
      if (bq_b v7303) = 0 then
        ((bq_fr E a0 6 0).bind fun v7304 =>
        (tw_X4_takeIn E v7304 x1 x5).bind fun v7305 =>
        if (bq_b v7305.1) = 0 then
          (bq_let (x5 + x3) fun v7306 =>
          bq_let (x7 + 1) fun v7307 =>
          tl_X6_addSeries_73 a0 x1 x3 x4 n v7306 x6 v7307 v7305.2)
        else
          (bq_let (x6 + 1) fun v7308 =>
          bq_let (x5 + x3) fun v7309 =>
          bq_let (x7 + 1) fun v7310 =>
          tl_X6_addSeries_73 a0 x1 x3 x4 n v7309 v7308 v7310 v7305.2))
      else
        (some (Sum.inl x6, E))))
def tw_X6_addSeries (E : bq_E) (a0 : Nat) (x1 : Int32) (x2 : Int32) (x3 : Int32) (x4 : Int32) : Option ((Int32 ⊕ String) × bq_E) :=
  if bq_cls E a0 = 6 then
  ((tw_X6_requireNode E a0 x1).bind fun v1 =>
  bq_elim v1 (fun v2 =>
  (tw_X6_requireKey E a0 x2).bind fun v4 =>
  bq_elim v4 (fun v5 =>
  bq_let (fun (b7 : Int32) =>
    (tw_X6_require E a0 b7).bind fun v8 =>
    bq_elim v8 (fun v9 =>
    bq_let (fun (b11 : Int32) =>
      (tw_X6_require E a0 b11).bind fun v12 =>
      bq_elim v12 (fun v13 =>
      (bq_fr E a0 6 2).bind fun v15 =>
      (bq_fr E a0 6 0).bind fun v16 =>
      (tw_X1_save E v15 v16).bind fun E17 =>
      tl_X6_addSeries_73 a0 x1 x3 x4 bq_fuel x2 (0 : Int32) (0 : Int32) E17) fun X14 => some (Sum.inr X14, E)) fun k50 =>
    bq_let (fun (_ : Unit) =>
      k50 (0 : Int32)) fun k49 =>
    if x4 < (1 : Int32) then
      (k49 ())
    else
      (if (24 : Int32) < x4 then
        (k49 ())
      else
        (k50 (1 : Int32)))) fun X10 => some (Sum.inr X10, E)) fun k28 =>
  bq_let (fun (_ : Unit) =>
    k28 (0 : Int32)) fun k27 =>
  if x3 < (1 : Int32) then
    (k27 ())
  else
    (if (999 : Int32) < x3 then
      (k27 ())
    else
      (k28 (1 : Int32)))) fun X6 => some (Sum.inr X6, E)) fun X3 => some (Sum.inr X3, E))
  else none

def tw_X6_setSizes (E : bq_E) (a0 : Nat) (x1 : Int32) (x2 : Int32) : Option ((Int32 ⊕ String) × bq_E) :=
  if bq_cls E a0 = 6 then
  (bq_let (fun (b1 : Int32) =>
    (tw_X6_require E a0 b1).bind fun v2 =>
    bq_elim v2 (fun v3 =>
    bq_let (fun (b5 : Int32) =>
      (tw_X6_require E a0 b5).bind fun v6 =>
      bq_elim v6 (fun v7 =>
      (bq_fr E a0 6 2).bind fun v9 =>
      (bq_fr E a0 6 0).bind fun v10 =>
      (tw_X1_save E v9 v10).bind fun E11 =>
      (bq_fr E11 a0 6 0).bind fun v12 =>
      (bq_fi E11 v12 4 4).bind fun v13 =>
      (bq_fr E11 a0 6 0).bind fun v14 =>
      (bq_fi E11 v14 4 5).bind fun v15 =>
      bq_let (((10 : Int32) * v13) + v15) fun v16 =>
      (bq_fr E11 a0 6 0).bind fun v17 =>
      (bq_p E11 v17 4 4 (.int x1)).bind fun E18 =>
      (bq_fr E18 a0 6 0).bind fun v19 =>
      (bq_p E18 v19 4 5 (.int x2)).bind fun E20 =>
      some (Sum.inl v16, E20)) fun X8 => some (Sum.inr X8, E)) fun k36 =>
    bq_let (fun (_ : Unit) =>
      k36 (0 : Int32)) fun k35 =>
    if x2 < (2 : Int32) then
      (k35 ())
    else
      (if (5 : Int32) < x2 then
        (k35 ())
      else
        (k36 (1 : Int32)))) fun X4 => some (Sum.inr X4, E)) fun k17 =>
  bq_let (fun (_ : Unit) =>
    k17 (0 : Int32)) fun k16 =>
  if x1 < (1 : Int32) then
    (k16 ())
  else
    (if (8 : Int32) < x1 then
      (k16 ())
    else
      (k17 (1 : Int32))))
  else none

def tw_X6_rebuild (E : bq_E) (a0 : Nat) (x1 : Int32) : Option ((Int32 ⊕ String) × bq_E) :=
  if bq_cls E a0 = 6 then
  ((tw_X6_requireNode E a0 x1).bind fun v1 =>
  bq_elim v1 (fun v2 =>
  (bq_fr E a0 6 2).bind fun v4 =>
  (bq_fr E a0 6 0).bind fun v5 =>
  (tw_X1_save E v4 v5).bind fun E6 =>
  (bq_fr E6 a0 6 0).bind fun v7 =>
  (tw_X4_renew E6 v7 x1).bind fun v8 =>
  some (Sum.inl v8.1, v8.2)) fun X3 => some (Sum.inr X3, E))
  else none

def tw_X6_requireGoal (E : bq_E) (a0 : Nat) (x1 : Int32) : Option (Unit ⊕ String) :=
  if bq_cls E a0 = 6 then
  (if x1 < 0 then
    ((tw_X6_require E a0 (0 : Int32)).bind fun v1 =>
    bq_elim v1 (fun v2 =>
    some (Sum.inl ())) fun X3 => some (Sum.inr X3))
  else
    (if (10000 : Int32) < x1 then
      ((tw_X6_require E a0 (0 : Int32)).bind fun v4 =>
      bq_elim v4 (fun v5 =>
      some (Sum.inl ())) fun X6 => some (Sum.inr X6))
    else
      ((tw_X6_require E a0 (1 : Int32)).bind fun v7 =>
      bq_elim v7 (fun v8 =>
      some (Sum.inl ())) fun X9 => some (Sum.inr X9))))
  else none

def tw_X6_walkTo (E : bq_E) (a0 : Nat) (x1 : Int32) (x2 : Int32) : Option ((Nat ⊕ String) × bq_E) :=
  if bq_cls E a0 = 6 then
  ((tw_X6_requireNode E a0 x1).bind fun v1 =>
  bq_elim v1 (fun v2 =>
  (tw_X6_requireGoal E a0 x2).bind fun v4 =>
  bq_elim v4 (fun v5 =>
  (bq_fr E a0 6 1).bind fun v7 =>
  (bq_fr E a0 6 0).bind fun v8 =>
  (tw_X5_bridged E v7 v8 x1 x2).bind fun E9 =>
  (bq_fr E9 a0 6 1).bind fun v10 =>
  some (Sum.inl v10, E9)) fun X6 => some (Sum.inr X6, E)) fun X3 => some (Sum.inr X3, E))
  else none

def tw_X6_search (E : bq_E) (a0 : Nat) (x1 : Int32) (x2 : Int32) : Option ((Int32 ⊕ String) × bq_E) :=
  if bq_cls E a0 = 6 then
  ((tw_X6_walkTo E a0 x1 x2).bind fun v1 =>
  bq_elim v1.1 (fun v2 =>
  (bq_fr v1.2 a0 6 2).bind fun v4 =>
  (bq_fr v1.2 a0 6 0).bind fun v5 =>
  (tw_X1_save v1.2 v4 v5).bind fun E6 =>
  (bq_fr E6 a0 6 0).bind fun v7 =>
  (bq_fi E6 v7 4 6).bind fun v8 =>
  (bq_p E6 v7 4 6 (.int (v8 + (1 : Int32)))).bind fun E9 =>
  (bq_fr E9 a0 6 0).bind fun v10 =>
  (bq_fi E9 v10 4 7).bind fun v11 =>
  (bq_fi E9 v2 5 2).bind fun v12 =>
  (bq_p E9 v10 4 7 (.int (v11 + v12))).bind fun E13 =>
  (bq_fi E13 v2 5 4).bind fun v14 =>
  some (Sum.inl v14, E13)) fun X3 => some (Sum.inr X3, v1.2))
  else none

def tw_X6_nodes (E : bq_E) (a0 : Nat) : Option Int32 :=
  if bq_cls E a0 = 6 then
  ((bq_fr E a0 6 0).bind fun v1 =>
  (bq_fi E v1 4 3).bind fun v2 =>
  some v2)
  else none

def tw_X6_node (E : bq_E) (a0 : Nat) (x1 : Int32) (x2 : Int32) : Option (Int32 ⊕ String) :=
  if bq_cls E a0 = 6 then
  ((tw_X6_requireNode E a0 x1).bind fun v1 =>
  bq_elim v1 (fun v2 =>
  (bq_fr E a0 6 0).bind fun v4 =>
  (tw_X4_at E v4 x1).bind fun v5 =>
  if x2 = 0 then
    ((bq_fi E v5 0 0).bind fun v6 =>
    some (Sum.inl v6))
  else
  if x2 = 1 then
    ((bq_fi E v5 0 1).bind fun v7 =>
    some (Sum.inl v7))
  else
  if x2 = 2 then
    ((bq_fi E v5 0 2).bind fun v8 =>
    some (Sum.inl v8))
  else
  if x2 = 3 then
    ((bq_fi E v5 0 3).bind fun v9 =>
    some (Sum.inl v9))
  else
  if x2 = 4 then
    ((tw_X0_keyCount E v5).bind fun v10 =>
    some (Sum.inl v10))
  else
  if x2 = 5 then
    ((bq_fr E v5 0 5).bind fun v11 =>
    (tw_X3_size E v11).bind fun v12 =>
    some (Sum.inl v12))
  else
  if x2 = 6 then
    ((bq_fi E v5 0 4).bind fun v13 =>
    some (Sum.inl v13))
  else
  if x2 = 7 then
    ((bq_fr E v5 0 7).bind fun v14 =>
    (tw_X3_size E v14).bind fun v15 =>
    some (Sum.inl v15))
  else
  if x2 = 8 then
    ((bq_fr E v5 0 8).bind fun v16 =>
    (tw_X2_size E v16).bind fun v17 =>
    some (Sum.inl v17))
  else
  some (Sum.inr "java/lang/IllegalArgumentException")) fun X3 => some (Sum.inr X3))
  else none

def tw_X6_key (E : bq_E) (a0 : Nat) (x1 : Int32) (x2 : Int32) : Option (Int32 ⊕ String) :=
  if bq_cls E a0 = 6 then
  ((tw_X6_requireNode E a0 x1).bind fun v1 =>
  bq_elim v1 (fun v2 =>
  bq_let (fun (b4 : Int32) =>
    (tw_X6_require E a0 b4).bind fun v5 =>
    bq_elim v5 (fun v6 =>
    (bq_fr E a0 6 0).bind fun v8 =>
    (tw_X4_at E v8 x1).bind fun v9 =>
    (tw_X0_keyInOrder E v9 x2).bind fun v10 =>
    some (Sum.inl v10)) fun X7 => some (Sum.inr X7)) fun k15 =>
  if x2 < 0 then
    (k15 (0 : Int32))
  else
    (k15 (1 : Int32))) fun X3 => some (Sum.inr X3))
  else none

def tw_X6_baseKey (E : bq_E) (a0 : Nat) (x1 : Int32) (x2 : Int32) : Option (Int32 ⊕ String) :=
  if bq_cls E a0 = 6 then
  ((tw_X6_requireNode E a0 x1).bind fun v1 =>
  bq_elim v1 (fun v2 =>
  bq_let (fun (b4 : Int32) =>
    (tw_X6_require E a0 b4).bind fun v5 =>
    bq_elim v5 (fun v6 =>
    (bq_fr E a0 6 0).bind fun v8 =>
    (tw_X4_at E v8 x1).bind fun v9 =>
    (bq_fr E v9 0 5).bind fun v10 =>
    (tw_X3_at E v10 x2 (-1 : Int32)).bind fun v11 =>
    (tw_X0_isMarked E v9 x2).bind fun v12 =>
    if (bq_b v12) = 0 then
      (some (Sum.inl v11))
    else
      (some (Sum.inl (v11 + (10000 : Int32))))) fun X7 => some (Sum.inr X7)) fun k15 =>
  if x2 < 0 then
    (k15 (0 : Int32))
  else
    (k15 (1 : Int32))) fun X3 => some (Sum.inr X3))
  else none

def tw_X6_bufferKey (E : bq_E) (a0 : Nat) (x1 : Int32) (x2 : Int32) : Option (Int32 ⊕ String) :=
  if bq_cls E a0 = 6 then
  ((tw_X6_requireNode E a0 x1).bind fun v1 =>
  bq_elim v1 (fun v2 =>
  bq_let (fun (b4 : Int32) =>
    (tw_X6_require E a0 b4).bind fun v5 =>
    bq_elim v5 (fun v6 =>
    (bq_fr E a0 6 0).bind fun v8 =>
    (tw_X4_at E v8 x1).bind fun v9 =>
    (bq_fr E v9 0 7).bind fun v10 =>
    (tw_X3_at E v10 x2 (-1 : Int32)).bind fun v11 =>
    some (Sum.inl v11)) fun X7 => some (Sum.inr X7)) fun k15 =>
  if x2 < 0 then
    (k15 (0 : Int32))
  else
    (k15 (1 : Int32))) fun X3 => some (Sum.inr X3))
  else none

def tw_X6_count (E : bq_E) (a0 : Nat) (x1 : Int32) : Option (Int32 ⊕ String) :=
  if bq_cls E a0 = 6 then
  (if x1 = 0 then
    ((bq_fr E a0 6 0).bind fun v1 =>
    (bq_fi E v1 4 6).bind fun v2 =>
    some (Sum.inl v2))
  else
  if x1 = 1 then
    ((bq_fr E a0 6 0).bind fun v3 =>
    (bq_fi E v3 4 7).bind fun v4 =>
    some (Sum.inl v4))
  else
  if x1 = 2 then
    ((bq_fr E a0 6 0).bind fun v5 =>
    (bq_fi E v5 4 8).bind fun v6 =>
    some (Sum.inl v6))
  else
  if x1 = 3 then
    ((bq_fr E a0 6 0).bind fun v7 =>
    (bq_fi E v7 4 9).bind fun v8 =>
    some (Sum.inl v8))
  else
  if x1 = 4 then
    ((bq_fr E a0 6 0).bind fun v9 =>
    (bq_fi E v9 4 10).bind fun v10 =>
    some (Sum.inl v10))
  else
  if x1 = 5 then
    ((bq_fr E a0 6 0).bind fun v11 =>
    (tw_X4_keysOfAll E v11).bind fun v12 =>
    some (Sum.inl v12))
  else
  if x1 = 6 then
    ((bq_fr E a0 6 0).bind fun v13 =>
    (tw_X4_entriesOfAll E v13).bind fun v14 =>
    some (Sum.inl v14))
  else
  some (Sum.inr "java/lang/IllegalArgumentException"))
  else none
