noncomputable def tl_L_law_156 (xs : Nat → Int32) (Ln : Nat) (a0 : Nat) (a1 : Nat) (a2 : Nat) (a3 : Nat) (a4 : Nat) (a5 : Nat) (a6 : Nat) (x9 : Int32) (K : Int32 → Int32 → bq_E → Option Unit) : Nat → Int32 → Int32 → bq_E → Option Unit
  | 0, _, _, _ => none
  | n + 1, x8, x10, E =>
  if x9 ≤ x10 then
    (K x8 x10 E)
  else
    (if x8 = 0 then
      (K x8 x10 E)
    else
      ((tw_L_cell xs Ln ((1 : Int32) + x10)).bind fun v15601 =>
      bq_let (v15601 ^^^ ((7919 : Int32) * x10)) fun v15602 =>
      (tw_L_low E (v15602 >>> ((20 : Int32) &&& 31)) (3 : Int32)).bind fun v15603 =>
      bq_let (fun (b15604 : Nat) =>
        (tw_L_acts E a1 b15604 a5 a6 v15603 v15602).bind fun v15605 =>
        if (bq_b v15605.1) = 0 then
          (bq_let (x10 + 1) fun v15606 =>
          tl_L_law_156 xs Ln a0 a1 a2 a3 a4 a5 a6 x9 K n (0 : Int32) v15606 v15605.2)
        else
          ((tw_L_isSo v15605.2 a1 b15604 a5 a6 v15603 (v15602 >>> ((4 : Int32) &&& 31))).bind fun v15607 =>
          if (bq_b v15607.1) = 0 then
            (bq_let (x10 + 1) fun v15608 =>
            tl_L_law_156 xs Ln a0 a1 a2 a3 a4 a5 a6 x9 K n (0 : Int32) v15608 v15607.2)
          else
            (bq_let (x10 + 1) fun v15609 =>
            tl_L_law_156 xs Ln a0 a1 a2 a3 a4 a5 a6 x9 K n (1 : Int32) v15609 v15607.2))) fun k217 =>
      if v15603 = 0 then
        (k217 a2)
      else
        (if v15603 = (1 : Int32) then
          (k217 a3)
        else
          (k217 a4))))
noncomputable def tw_law (xs : Nat → Int32) (Ln b a1 a2 a3 a4 a5 a6 : Nat) (E : bq_E) : Option Unit :=
  (bq_si E a6 (16 : Int32) (3 : Int32)).bind fun E1 =>
  (bq_si E1 a6 (17 : Int32) (4 : Int32)).bind fun E2 =>
  (bq_si E2 a6 (18 : Int32) (2 : Int32)).bind fun E3 =>
  (tw_L_cell xs Ln (0 : Int32)).bind fun v4 =>
  (tw_L_low E3 v4 (2 : Int32)).bind fun v5 =>
  bq_let (fun (b6 : Int32) =>
    bq_let (fun (b7 : Int32) =>
      (tw_L_adds E3 a1 (0 : Int32) b7).bind fun v8 =>
      bq_let (fun (b9 : Int32) (E10 : bq_E) =>
        (tw_L_cell xs Ln (0 : Int32)).bind fun v11 =>
        (tw_L_low E10 (v11 >>> ((3 : Int32) &&& 31)) (60 : Int32)).bind fun v12 =>
        bq_let ((8 : Int32) + v12) fun v13 =>
        tl_L_law_156 xs Ln b a1 a2 a3 a4 a5 a6 v13 (fun y14 y15 E16 =>
          if y14 = 0 then
          (none)
        else
          ((tw_L_isSo E16 a1 a2 a5 a6 (0 : Int32) (77 : Int32)).bind fun v17 =>
          if (bq_b v17.1) = 0 then
            (none)
          else
            ((tw_L_isSo v17.2 a1 a3 a5 a6 (1 : Int32) (5000 : Int32)).bind fun v18 =>
            if (bq_b v18.1) = 0 then
              (none)
            else
              ((tw_L_isSo v18.2 a1 a4 a5 a6 (2 : Int32) (9999 : Int32)).bind fun v19 =>
              if (bq_b v19.1) = 0 then
                (none)
              else
                (some ()))))) 70 b9 (0 : Int32) E10) fun k134 =>
      bq_let (fun (E35 : bq_E) =>
        k134 (0 : Int32) E35) fun k133 =>
      if v8.1 = (1 : Int32) then
        ((tw_L_cell xs Ln (0 : Int32)).bind fun v36 =>
        (tw_L_low v8.2 (v36 >>> ((1 : Int32) &&& 31)) (2 : Int32)).bind fun v37 =>
        bq_let (fun (b38 : Int32) =>
          (tw_L_adds v8.2 a1 v37 b38).bind fun v39 =>
          if v39.1 = (2 : Int32) then
            ((tw_X6_nodes v39.2 a1).bind fun v40 =>
            if v40 = (3 : Int32) then
              (k134 (1 : Int32) v39.2)
            else
              (k133 v39.2))
          else
            (k133 v39.2)) fun k114 =>
        if b6 = 0 then
          (k114 (1 : Int32))
        else
          (k114 (2 : Int32)))
      else
        (k133 v8.2)) fun k85 =>
    if b6 = 0 then
      (k85 (2 : Int32))
    else
      (k85 (1 : Int32))) fun k71 =>
  if v5 = 0 then
    (k71 (1 : Int32))
  else
    (k71 (0 : Int32))
