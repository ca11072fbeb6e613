noncomputable def tw_L_put (E : bq_E) (a0 : Nat) (a1 : Nat) (a2 : Nat) (x3 : Int32) (x4 : Int32) : Option bq_E :=
  (tw_L_inBase E a0 a2 x3 x4).bind fun v1 =>
  if v1 < 0 then
    ((bq_ai E a2 ((8 : Int32) + x3)).bind fun v2 =>
    (bq_si E a1 (((8 : Int32) * x3) + v2) x4).bind fun E3 =>
    (bq_ai E3 a2 ((8 : Int32) + x3)).bind fun v4 =>
    (bq_si E3 a2 ((8 : Int32) + x3) (v4 + (1 : Int32))).bind fun E5 =>
    (bq_ai E5 a2 ((8 : Int32) + x3)).bind fun v6 =>
    (bq_ai E5 a2 (17 : Int32)).bind fun v7 =>
    if v6 < v7 then
      (some E5)
    else
      ((tw_L_settle E5 a0 a1 a2 x3).bind fun E8 =>
      some E8))
  else
    ((bq_si E a0 v1 x4).bind fun E9 =>
    some E9)

def tl_L_isSo_89 (a0 : Nat) (a1 : Nat) (a2 : Nat) (a3 : Nat) (x4 : Int32) (x5 : Int32) (K : Int32 → Int32 → bq_E → Option (Bool × bq_E)) : Nat → Int32 → Int32 → bq_E → Option (Bool × bq_E)
  | 0, _, _, _ => none
  | n + 1, x6, x7, E =>
  (bq_ai E a3 x4).bind fun v8901 =>
  if v8901 < x7 then
    (K x6 x7 E)
  else
    (if x6 = 0 then
      (K x6 x7 E)
    else
      ((tw_L_baseOf E a0 x4 x7).bind fun v8902 =>
      (bq_ai v8902.2 a3 x4).bind fun v8903 =>
      bq_let (fun (b8904 : Int32) =>
        if v8902.1 = b8904 then
          (bq_let (x7 + 1) fun v8906 =>
          tl_L_isSo_89 a0 a1 a2 a3 x4 x5 K n (1 : Int32) v8906 v8902.2)
        else
          (bq_let (x7 + 1) fun v8905 =>
          tl_L_isSo_89 a0 a1 a2 a3 x4 x5 K n (0 : Int32) v8905 v8902.2)) fun k128 =>
      if x7 = v8903 then
        (k128 (-1 : Int32))
      else
        ((bq_ai v8902.2 a1 x7).bind fun v8907 =>
        k128 v8907)))
def tl_L_isSo_147 (a0 : Nat) (a1 : Nat) (a2 : Nat) (a3 : Nat) (x4 : Int32) (x5 : Int32) (K : Int32 → Int32 → bq_E → Option (Bool × bq_E)) : Nat → Int32 → Int32 → bq_E → Option (Bool × bq_E)
  | 0, _, _, _ => none
  | n + 1, x6, x7, E =>
  (bq_ai E a3 ((8 : Int32) + x4)).bind fun v14701 =>
  if v14701 < x7 then
    (K x6 x7 E)
  else
    (if x6 = 0 then
      (K x6 x7 E)
    else
      ((tw_L_bufferOf E a0 x4 x7).bind fun v14702 =>
      (bq_ai v14702.2 a3 ((8 : Int32) + x4)).bind fun v14703 =>
      bq_let (fun (b14704 : Int32) =>
        if v14702.1 = b14704 then
          (bq_let (x7 + 1) fun v14706 =>
          tl_L_isSo_147 a0 a1 a2 a3 x4 x5 K n (1 : Int32) v14706 v14702.2)
        else
          (bq_let (x7 + 1) fun v14705 =>
          tl_L_isSo_147 a0 a1 a2 a3 x4 x5 K n (0 : Int32) v14705 v14702.2)) fun k198 =>
      if x7 = v14703 then
        (k198 (-1 : Int32))
      else
        ((bq_ai v14702.2 a2 (((8 : Int32) * x4) + x7)).bind fun v14707 =>
        k198 v14707)))
def tl_L_isSo_247 (E : bq_E) (a0 : Nat) (a1 : Nat) (a2 : Nat) (a3 : Nat) (x4 : Int32) (x5 : Int32) (x7 : Int32) (x8 : Int32) (x9 : Int32) (K : Int32 → Int32 → Option (Bool × bq_E)) : Nat → Int32 → Int32 → Option (Bool × bq_E)
  | 0, _, _ => none
  | n + 1, x10, x11 =>
  (bq_ai E a3 x4).bind fun v24701 =>
  (bq_ai E a3 ((8 : Int32) + x4)).bind fun v24702 =>
  if (v24701 + v24702) ≤ x11 then
    (K x10 x11)
  else
    ((bq_ai E a3 x4).bind fun v24703 =>
    bq_let (fun (b24704 : Int32) =>
      if (10000 : Int32) ≤ b24704 then
        (bq_let (x11 + 1) fun v24705 =>
        tl_L_isSo_247 E a0 a1 a2 a3 x4 x5 x7 x8 x9 K n x10 v24705)
      else
        (if b24704 ≤ x7 then
          (bq_let (x11 + 1) fun v24706 =>
          tl_L_isSo_247 E a0 a1 a2 a3 x4 x5 x7 x8 x9 K n x10 v24706)
        else
          (if x10 < 0 then
            (bq_let (x11 + 1) fun v24707 =>
            tl_L_isSo_247 E a0 a1 a2 a3 x4 x5 x7 x8 x9 K n b24704 v24707)
          else
            (if x10 ≤ b24704 then
              (bq_let (x11 + 1) fun v24708 =>
              tl_L_isSo_247 E a0 a1 a2 a3 x4 x5 x7 x8 x9 K n x10 v24708)
            else
              (bq_let (x11 + 1) fun v24709 =>
              tl_L_isSo_247 E a0 a1 a2 a3 x4 x5 x7 x8 x9 K n b24704 v24709))))) fun k295 =>
    if v24703 ≤ x11 then
      ((bq_ai E a3 x4).bind fun v24710 =>
      (bq_ai E a2 ((((8 : Int32) * x4) + x11) - v24710)).bind fun v24711 =>
      k295 v24711)
    else
      ((bq_ai E a1 x11).bind fun v24712 =>
      k295 v24712))
def tl_L_isSo_229 (a0 : Nat) (a1 : Nat) (a2 : Nat) (a3 : Nat) (x4 : Int32) (x5 : Int32) (x8 : Int32) (K : Int32 → Int32 → Int32 → bq_E → Option (Bool × bq_E)) : Nat → Int32 → Int32 → Int32 → bq_E → Option (Bool × bq_E)
  | 0, _, _, _, _ => none
  | n + 1, x6, x7, x9, E =>
  if x8 < x9 then
    (K x6 x7 x9 E)
  else
    (if x6 = 0 then
      (K x6 x7 x9 E)
    else
      (tl_L_isSo_247 E a0 a1 a2 a3 x4 x5 x7 x8 x9 (fun y22901 y22902 =>
        (tw_L_keyOf E a0 x4 x9).bind fun v22903 =>
      bq_let (fun (b22904 : Int32) =>
        if b22904 = 0 then
          (bq_let (x9 + 1) fun v22905 =>
          tl_L_isSo_229 a0 a1 a2 a3 x4 x5 x8 K n (0 : Int32) y22901 v22905 v22903.2)
        else
          (bq_let (bq_rem x9 (3 : Int32)) fun v22906 =>
          if 0 < v22906 then
            (bq_let (x9 + 1) fun v22907 =>
            tl_L_isSo_229 a0 a1 a2 a3 x4 x5 x8 K n (1 : Int32) y22901 v22907 v22903.2)
          else
            (if (9998 : Int32) < x7 then
              (bq_let (x9 + 1) fun v22908 =>
              tl_L_isSo_229 a0 a1 a2 a3 x4 x5 x8 K n (1 : Int32) y22901 v22908 v22903.2)
            else
              ((tw_L_finds v22903.2 a0 x4 (x7 + (1 : Int32))).bind fun v22909 =>
              if v22909.1 = y22901 then
                (bq_let (x9 + 1) fun v22911 =>
                tl_L_isSo_229 a0 a1 a2 a3 x4 x5 x8 K n (1 : Int32) y22901 v22911 v22909.2)
              else
                (bq_let (x9 + 1) fun v22910 =>
                tl_L_isSo_229 a0 a1 a2 a3 x4 x5 x8 K n (0 : Int32) y22901 v22910 v22909.2))))) fun k357 =>
      if v22903.1 = y22901 then
        (k357 (1 : Int32))
      else
        (k357 (0 : Int32))) bq_fuel (-1 : Int32) (0 : Int32)))
def tl_L_isSo_427 (E : bq_E) (a0 : Nat) (a1 : Nat) (a2 : Nat) (a3 : Nat) (x4 : Int32) (x6 : Int32) (x9 : Int32) (K : Int32 → Int32 → Option (Bool × bq_E)) : Nat → Int32 → Int32 → Option (Bool × bq_E)
  | 0, _, _ => none
  | n + 1, x10, x11 =>
  (bq_ai E a3 x4).bind fun v42701 =>
  (bq_ai E a3 ((8 : Int32) + x4)).bind fun v42702 =>
  if (v42701 + v42702) ≤ x11 then
    (K x10 x11)
  else
    ((bq_ai E a3 x4).bind fun v42703 =>
    bq_let (fun (b42704 : Int32) =>
      if (10000 : Int32) ≤ b42704 then
        (bq_let (x11 + 1) fun v42705 =>
        tl_L_isSo_427 E a0 a1 a2 a3 x4 x6 x9 K n x10 v42705)
      else
        (if b42704 < x9 then
          (bq_let (x11 + 1) fun v42706 =>
          tl_L_isSo_427 E a0 a1 a2 a3 x4 x6 x9 K n x10 v42706)
        else
          (if x10 < 0 then
            (bq_let (x11 + 1) fun v42707 =>
            tl_L_isSo_427 E a0 a1 a2 a3 x4 x6 x9 K n b42704 v42707)
          else
            (if x10 ≤ b42704 then
              (bq_let (x11 + 1) fun v42708 =>
              tl_L_isSo_427 E a0 a1 a2 a3 x4 x6 x9 K n x10 v42708)
            else
              (bq_let (x11 + 1) fun v42709 =>
              tl_L_isSo_427 E a0 a1 a2 a3 x4 x6 x9 K n b42704 v42709))))) fun k475 =>
    if v42703 ≤ x11 then
      ((bq_ai E a3 x4).bind fun v42710 =>
      (bq_ai E a2 ((((8 : Int32) * x4) + x11) - v42710)).bind fun v42711 =>
      k475 v42711)
    else
      ((bq_ai E a1 x11).bind fun v42712 =>
      k475 v42712))
def tw_L_isSo (E : bq_E) (a0 : Nat) (a1 : Nat) (a2 : Nat) (a3 : Nat) (x4 : Int32) (x5 : Int32) : Option (Bool × bq_E) :=
  (tw_L_nodeOf E a0 x4 (4 : Int32)).bind fun v1 =>
  (tw_L_size v1.2 a1 a3 x4).bind fun v2 =>
  bq_let (fun (b3 : Int32) (E4 : bq_E) =>
    tl_L_isSo_89 a0 a1 a2 a3 x4 x5 (fun y5 y6 E7 =>
      tl_L_isSo_147 a0 a1 a2 a3 x4 x5 (fun y8 y9 E10 =>
      (tw_L_size E10 a1 a3 x4).bind fun v11 =>
    tl_L_isSo_229 a0 a1 a2 a3 x4 x5 v11 (fun y12 y13 y14 E15 =>
      (tw_L_low E15 x5 (10001 : Int32)).bind fun v16 =>
    tl_L_isSo_427 E15 a0 a1 a2 a3 x4 y12 v16 (fun y17 y18 =>
      if y12 = 0 then
      (some (false, E15))
    else
      ((tw_L_finds E15 a0 x4 v16).bind fun v19 =>
      if v19.1 = y17 then
        ((tw_L_keyOf v19.2 a0 x4 (-1 : Int32)).bind fun v20 =>
        if v20.1 = (-100002 : Int32) then
          ((tw_L_baseOf v20.2 a0 x4 (-1 : Int32)).bind fun v21 =>
          if v21.1 = (-100002 : Int32) then
            ((tw_L_bufferOf v21.2 a0 x4 (-1 : Int32)).bind fun v22 =>
            if v22.1 = (-100002 : Int32) then
              (some (true, v22.2))
            else
              (some (false, v22.2)))
          else
            (some (false, v21.2)))
        else
          (some (false, v20.2)))
      else
        (some (false, v19.2)))) bq_fuel (-1 : Int32) (0 : Int32)) 30 y8 (-1 : Int32) (0 : Int32) E10) 30 y5 (0 : Int32) E7) 30 b3 (0 : Int32) E4) fun k84 =>
  bq_let (fun (E100 : bq_E) =>
    k84 (0 : Int32) E100) fun k83 =>
  if v1.1 = v2 then
    ((tw_L_nodeOf v1.2 a0 x4 (5 : Int32)).bind fun v101 =>
    (bq_ai v101.2 a3 x4).bind fun v102 =>
    if v101.1 = v102 then
      ((tw_L_nodeOf v101.2 a0 x4 (6 : Int32)).bind fun v103 =>
      (tw_L_marked v103.2 a1 a3 x4).bind fun v104 =>
      if v103.1 = v104 then
        ((tw_L_nodeOf v103.2 a0 x4 (7 : Int32)).bind fun v105 =>
        (bq_ai v105.2 a3 ((8 : Int32) + x4)).bind fun v106 =>
        if v105.1 = v106 then
          ((tw_L_countOf v105.2 a0 (4 : Int32)).bind fun v107 =>
          (bq_ai v107.2 a3 (19 : Int32)).bind fun v108 =>
          if v107.1 = v108 then
            (k84 (1 : Int32) v107.2)
          else
            (k83 v107.2))
        else
          (k83 v105.2))
      else
        (k83 v103.2))
    else
      (k83 v101.2))
  else
    (k83 v1.2)

def tl_L_acts_311 (a0 : Nat) (a2 : Nat) (a3 : Nat) (x4 : Int32) (x9 : Int32) (x10 : Int32) (K : Int32 → bq_E → Option (Bool × bq_E)) : Nat → Int32 → bq_E → Option (Bool × bq_E)
  | 0, _, _ => none
  | n + 1, x12, E =>
  (bq_ai E a3 ((8 : Int32) + x4)).bind fun v31101 =>
  if v31101 ≤ x12 then
    (K x12 E)
  else
    ((bq_ai E a2 ((((8 : Int32) * x4) + x12) + (1 : Int32))).bind fun v31102 =>
    (bq_si E a2 (((8 : Int32) * x4) + x12) v31102).bind fun E31103 =>
    bq_let (x12 + 1) fun v31104 =>
    tl_L_acts_311 a0 a2 a3 x4 x9 x10 K n v31104 E31103)
noncomputable def tl_L_acts_470 (a0 : Nat) (a1 : Nat) (a2 : Nat) (a3 : Nat) (x4 : Int32) (x7 : Int32) (x12 : Int32) (x13 : Int32) (K : Int32 → Int32 → Int32 → bq_E → Option (Bool × bq_E)) : Nat → Int32 → Int32 → Int32 → bq_E → Option (Bool × bq_E)
  | 0, _, _, _, _ => none
  | n + 1, x14, x15, x16, E =>
  if x13 ≤ x16 then
    (K x14 x15 x16 E)
  else
    (if (10000 : Int32) ≤ x15 then
      (K x14 x15 x16 E)
    else
      ((tw_L_size E a1 a3 x4).bind fun v47001 =>
      if (24 : Int32) ≤ v47001 then
        (K x14 x15 x16 E)
      else
        ((tw_L_has E a1 a2 a3 x4 x15).bind fun v47002 =>
        if (bq_b v47002) = 0 then
          ((tw_L_put E a1 a2 a3 x4 x15).bind fun E47005 =>
          bq_let (x14 + 1) fun v47006 =>
          bq_let (x15 + x12) fun v47007 =>
          bq_let (x16 + 1) fun v47008 =>
          tl_L_acts_470 a0 a1 a2 a3 x4 x7 x12 x13 K n v47006 v47007 v47008 E47005)
        else
          (bq_let (x15 + x12) fun v47003 =>
          bq_let (x16 + 1) fun v47004 =>
          tl_L_acts_470 a0 a1 a2 a3 x4 x7 x12 x13 K n x14 v47003 v47004 E))))
noncomputable def tw_L_acts (E : bq_E) (a0 : Nat) (a1 : Nat) (a2 : Nat) (a3 : Nat) (x4 : Int32) (x5 : Int32) : Option (Bool × bq_E) :=
  (tw_L_low E (x5 >>> ((3 : Int32) &&& 31)) (3 : Int32)).bind fun v1 =>
  bq_let (fun (b2 : Int32) =>
    (tw_L_low E (x5 >>> ((5 : Int32) &&& 31)) b2).bind fun v3 =>
    (tw_L_has E a1 a2 a3 x4 v3).bind fun v4 =>
    bq_let (bq_b v4) fun v5 =>
    (tw_L_low E x5 (10 : Int32)).bind fun v6 =>
    bq_let (fun (_ : Unit) =>
      (bq_ai E a3 x4).bind fun v7 =>
      bq_let (fun (b8 : Int32) =>
        (tw_L_has E a1 a2 a3 x4 b8).bind fun v9 =>
        bq_let (bq_b v9) fun v10 =>
        (tw_L_inBuffer E a2 a3 x4 b8).bind fun v11 =>
        bq_let (fun (E12 : bq_E) =>
          (tw_L_drops E12 a0 x4 b8).bind fun v13 =>
          if v10 = 0 then
            (if v13.1 = (0 : Int32) then
              (some (true, v13.2))
            else
              (some (false, v13.2)))
          else
            (if v13.1 = (1 : Int32) then
              (some (true, v13.2))
            else
              (some (false, v13.2)))) fun k404 =>
        if v11 < 0 then
          (if v10 = 0 then
            (k404 E)
          else
            ((tw_L_inBase E a1 a3 x4 b8).bind fun v14 =>
            (bq_ai E a1 v14).bind fun v15 =>
            (bq_si E a1 v14 (v15 + (10000 : Int32))).bind fun E16 =>
            (tw_L_marked E16 a1 a3 x4).bind fun v17 =>
            (bq_ai E16 a3 x4).bind fun v18 =>
            if ((2 : Int32) * v17) ≤ v18 then
              (k404 E16)
            else
              ((tw_L_settle E16 a1 a2 a3 x4).bind fun E19 =>
              k404 E19)))
        else
          ((bq_ai E a3 ((8 : Int32) + x4)).bind fun v20 =>
          (bq_si E a3 ((8 : Int32) + x4) (v20 - (1 : Int32))).bind fun E21 =>
          tl_L_acts_311 a0 a2 a3 x4 b8 v10 (fun y22 E23 =>
            k404 E23) bq_fuel v11 E21)) fun k266 =>
      bq_let (fun (_ : Unit) =>
        (bq_ai E a3 ((8 : Int32) + x4)).bind fun v32 =>
        bq_let (fun (_ : Unit) =>
          k266 v3) fun k264 =>
        if v32 ≤ 0 then
          (k264 ())
        else
          ((tw_L_low E (x5 >>> ((15 : Int32) &&& 31)) (2 : Int32)).bind fun v33 =>
          if v33 = 0 then
            ((bq_ai E a3 ((8 : Int32) + x4)).bind fun v34 =>
            (tw_L_low E (x5 >>> ((5 : Int32) &&& 31)) v34).bind fun v35 =>
            (bq_ai E a2 (((8 : Int32) * x4) + v35)).bind fun v36 =>
            k266 v36)
          else
            (k264 ()))) fun k217 =>
      if v7 ≤ 0 then
        (k217 ())
      else
        ((tw_L_low E (x5 >>> ((14 : Int32) &&& 31)) (2 : Int32)).bind fun v37 =>
        if v37 = 0 then
          ((bq_ai E a3 x4).bind fun v38 =>
          (tw_L_low E (x5 >>> ((5 : Int32) &&& 31)) v38).bind fun v39 =>
          (bq_ai E a1 v39).bind fun v40 =>
          bq_let (bq_rem v40 (10000 : Int32)) fun v41 =>
          k266 v41)
        else
          (k217 ()))) fun k178 =>
    bq_let (fun (_ : Unit) =>
      bq_let (fun (_ : Unit) =>
        bq_let (fun (E42 : bq_E) =>
          (tw_L_puts E42 a0 x4 v3).bind fun v43 =>
          if v5 = 0 then
            (if v43.1 = (1 : Int32) then
              (some (true, v43.2))
            else
              (some (false, v43.2)))
          else
            (if v43.1 = (0 : Int32) then
              (some (true, v43.2))
            else
              (some (false, v43.2)))) fun k151 =>
        if v5 = 0 then
          ((tw_L_put E a1 a2 a3 x4 v3).bind fun E44 =>
          k151 E44)
        else
          (k151 E)) fun k136 =>
      if v5 = 0 then
        ((tw_L_size E a1 a3 x4).bind fun v45 =>
        if v45 = (24 : Int32) then
          ((tw_L_puts E a0 x4 v3).bind fun v46 =>
          if v46.1 = (-100003 : Int32) then
            (some (true, v46.2))
          else
            (some (false, v46.2)))
        else
          (k136 ()))
      else
        (k136 ())) fun k100 =>
    if v6 = 0 then
      (k100 ())
    else
    if v6 = 1 then
      (k100 ())
    else
    if v6 = 2 then
      (k100 ())
    else
    if v6 = 3 then
      (k100 ())
    else
    if v6 = 4 then
      (k178 ())
    else
    if v6 = 5 then
      (k178 ())
    else
    if v6 = 6 then
      (k178 ())
    else
    if v6 = 7 then
      ((tw_L_low E (x5 >>> ((9 : Int32) &&& 31)) (999 : Int32)).bind fun v47 =>
      bq_let ((1 : Int32) + v47) fun v48 =>
      (tw_L_low E (x5 >>> ((12 : Int32) &&& 31)) (24 : Int32)).bind fun v49 =>
      bq_let ((1 : Int32) + v49) fun v50 =>
      tl_L_acts_470 a0 a1 a2 a3 x4 v3 v48 v50 (fun y51 y52 y53 E54 =>
        (tw_L_series E54 a0 x4 v3 v48 v50).bind fun v55 =>
      if v55.1 = y51 then
        (some (true, v55.2))
      else
        (some (false, v55.2))) 30 (0 : Int32) v3 (0 : Int32) E)
    else
    if v6 = 8 then
      ((bq_ai E a3 (17 : Int32)).bind fun v72 =>
      (bq_ai E a3 (18 : Int32)).bind fun v73 =>
      bq_let (((10 : Int32) * v72) + v73) fun v74 =>
      (tw_L_low E (x5 >>> ((5 : Int32) &&& 31)) (8 : Int32)).bind fun v75 =>
      (bq_si E a3 (17 : Int32) ((1 : Int32) + v75)).bind fun E76 =>
      (tw_L_low E76 (x5 >>> ((9 : Int32) &&& 31)) (4 : Int32)).bind fun v77 =>
      (bq_si E76 a3 (18 : Int32) ((2 : Int32) + v77)).bind fun E78 =>
      (bq_ai E78 a3 (17 : Int32)).bind fun v79 =>
      (bq_ai E78 a3 (18 : Int32)).bind fun v80 =>
      (tw_L_sizes E78 a0 v79 v80).bind fun v81 =>
      if v81.1 = v74 then
        (some (true, v81.2))
      else
        (some (false, v81.2)))
    else
    (tw_L_settle E a1 a2 a3 x4).bind fun E82 =>
    (tw_L_builds E82 a0 x4).bind fun v83 =>
    (bq_ai v83.2 a3 x4).bind fun v84 =>
    if v83.1 < v84 then
      (some (false, v83.2))
    else
      (some (true, v83.2))) fun k19 =>
  if v1 = 0 then
    (k19 (10000 : Int32))
  else
    (k19 (30 : Int32))
