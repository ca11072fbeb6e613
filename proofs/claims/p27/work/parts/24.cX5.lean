theorem kc_X5_layPath {E : bq_E} {a0 : Nat} {a1 : Nat} {x2 : Int32} {R : bq_E} (h : tw_X5_layPath E a0 a1 x2 = some R) : bq_cls E a0 = 5 := (bq_guard h).1
set_option maxHeartbeats 4000000 in
set_option maxRecDepth 100000 in
theorem c_X5_layPath {l : Launch} {g : bq_G} {L : List Nat} {z : Nat} {E : bq_E} {a0 : Nat} {a1 : Nat} {x2 : Int32} {R : bq_E} (h : tw_X5_layPath E a0 a1 x2 = some R) : bq_M l yX5_layPath cX5_layPath 6 none 2 45 [.ref a0, .ref a1, .int x2] g L E z none R := by
  unfold tw_X5_layPath at h
  obtain ⟨hcl, h⟩ := bq_guard h
  refine bq_enter (by decide) (Nat.le_of_ble_eq_true rfl) ?_
  intro p e s m args below meth c S hr hlocks hK hz hW ls hl
  have S : CallFix p m c cX5_layPath 6 s args bq_WA RX5 := S
  have hx := S.1
  have hb := S.2.1
  have hl : lv_has ls 6 [(0, .ref a0), (1, .ref a1), (2, .int x2)] := hl
  refine lv_aload_n hx hb dX5_layPath_0 rfl (lv_at hl 0 rfl) ?_
  obtain ⟨v1, hv, h⟩ := bq_bind h
  refine bq_getr S hK fl_X5_14 dX5_layPath_1 hv hW ?_
  refine lv_iconst (v := 0) hx hb dX5_layPath_4 (by decide) ?_
  obtain ⟨E2, hv, h⟩ := bq_bind h
  refine bq_callV S hK hz mv_X5_84 (c_X3_cutTo hv) (kc_X3_cutTo hv) dX5_layPath_5 [] (rest := []) rfl rfl rfl hl.1 (Nat.le_of_ble_eq_true rfl) ⟨Nat.le_of_ble_eq_true rfl, Nat.le_of_ble_eq_true rfl⟩ ⟨Nat.zero_le _, Nat.zero_le _⟩ hW (fun H locs hW => ?_)
  refine lv_aload_n hx hb dX5_layPath_8 rfl (lv_at hl 0 rfl) ?_
  obtain ⟨v3, hv, h⟩ := bq_bind h
  refine bq_getr S hK fl_X5_20 dX5_layPath_9 hv hW ?_
  refine lv_iconst (v := 0) hx hb dX5_layPath_12 (by decide) ?_
  obtain ⟨E4, hv, h⟩ := bq_bind h
  refine bq_callV S hK hz mv_X5_84 (c_X3_cutTo hv) (kc_X3_cutTo hv) dX5_layPath_13 [] (rest := []) rfl rfl rfl hl.1 (Nat.le_of_ble_eq_true rfl) ⟨Nat.le_of_ble_eq_true rfl, Nat.le_of_ble_eq_true rfl⟩ ⟨Nat.zero_le _, Nat.zero_le _⟩ hW (fun H locs hW => ?_)
  refine lv_iload_n hx hb dX5_layPath_16 rfl (lv_at hl 2 rfl) ?_
  refine lv_istore_n (lv' := [(3, .int x2), (0, .ref a0), (1, .ref a1), (2, .int x2)]) hx hb dX5_layPath_17 rfl hl (by decide) rfl (fun ls hl => ?_)
  refine lv_aload_n hx hb dX5_layPath_18 rfl (lv_at hl 2 rfl) ?_
  refine lv_iload_n hx hb dX5_layPath_19 rfl (lv_at hl 3 rfl) ?_
  obtain ⟨v5, hv, h⟩ := bq_bind h
  refine bq_callV S hK hz mv_X5_41 (c_X4_at hv) (kc_X4_at hv) dX5_layPath_20 [.ref v5] (rest := []) rfl rfl rfl hl.1 (Nat.le_of_ble_eq_true rfl) ⟨Nat.le_of_ble_eq_true rfl, Nat.le_of_ble_eq_true rfl⟩ ⟨Nat.zero_le _, Nat.zero_le _⟩ hW (fun H locs hW => ?_)
  obtain ⟨v6, hv, h⟩ := bq_bind h
  refine bq_geti S hK fl_X5_87 dX5_layPath_23 hv hW ?_
  refine lv_istore (lv' := [(4, .int v6), (3, .int x2), (0, .ref a0), (1, .ref a1), (2, .int x2)]) hx hb dX5_layPath_26 hl (by decide) rfl (fun ls hl => ?_)
  have hL28 : ∀ (n : Nat) (z10 : Int32) (z11 : Int32) (E12 : bq_E) (H1 : Heap) (locs1 : List Loc) (ls1 : Array Slot), tl_X5_layPath_28 a0 a1 n z10 z11 E12 = some R → bq_H g L E12 z s.heap H1 locs1 → lv_has ls1 6 [(0, .ref a0), (1, .ref a1), (3, .int z10), (4, .int z11)] → W p l e { frames := 2, cells := 0, slots := 0, locals := 45 } s m args below meth c H1 locs1 0 0 (MQ below (bq_Q g L R z none) args s 0 0 (bq_A z)) (F0 m 28 ls1 []) := by
    intro n
    induction n with
    | zero => intro z10 z11 E12 H locs ls h hW hl; cases h
    | succ n ih =>
      intro z10 z11 E12 H locs ls h hW hl
      rw [tl_X5_layPath_28.eq_2] at h
      refine lv_iload hx hb dX5_layPath_28 (lv_at hl 3 rfl) ?_
      refine lv_if_lt (tgt := 87) hx hb dX5_layPath_30 (by decide) (fun hc => ?_) (fun hc => ?_)
      · replace h := bq_ifT hc h
        cases h
        exact bq_retv S hr hlocks hK hz dX5_layPath_87 hW
      · replace h := bq_ifF hc h
        refine lv_aload_n hx hb dX5_layPath_33 rfl (lv_at hl 1 rfl) ?_
        refine lv_iload_n hx hb dX5_layPath_34 rfl (lv_at hl 2 rfl) ?_
        obtain ⟨v13, hv, h⟩ := bq_bind h
        refine bq_callV S hK hz mv_X5_41 (c_X4_at hv) (kc_X4_at hv) dX5_layPath_35 [.ref v13] (rest := []) rfl rfl rfl hl.1 (Nat.le_of_ble_eq_true rfl) ⟨Nat.le_of_ble_eq_true rfl, Nat.le_of_ble_eq_true rfl⟩ ⟨Nat.zero_le _, Nat.zero_le _⟩ hW (fun H locs hW => ?_)
        obtain ⟨v14, hv, h⟩ := bq_bind h
        refine bq_geti S hK fl_X5_90 dX5_layPath_38 hv hW ?_
        refine lv_istore (lv' := [(5, .int v14), (0, .ref a0), (1, .ref a1), (3, .int z10), (4, .int z11)]) hx hb dX5_layPath_41 hl (by decide) rfl (fun ls hl => ?_)
        refine lv_aload_n hx hb dX5_layPath_43 rfl (lv_at hl 1 rfl) ?_
        obtain ⟨v15, hv, h⟩ := bq_bind h
        refine bq_getr S hK fl_X5_14 dX5_layPath_44 hv hW ?_
        refine lv_iconst (v := 0) hx hb dX5_layPath_47 (by decide) ?_
        refine lv_iload_n hx hb dX5_layPath_48 rfl (lv_at hl 3 rfl) ?_
        obtain ⟨E16, hv, h⟩ := bq_bind h
        refine bq_callV S hK hz mv_X5_93 (c_X3_insert hv) (kc_X3_insert hv) dX5_layPath_49 [] (rest := []) rfl rfl rfl hl.1 (Nat.le_of_ble_eq_true rfl) ⟨Nat.le_of_ble_eq_true rfl, Nat.le_of_ble_eq_true rfl⟩ ⟨Nat.zero_le _, Nat.zero_le _⟩ hW (fun H locs hW => ?_)
        refine lv_aload_n hx hb dX5_layPath_52 rfl (lv_at hl 1 rfl) ?_
        obtain ⟨v17, hv, h⟩ := bq_bind h
        refine bq_getr S hK fl_X5_20 dX5_layPath_53 hv hW ?_
        refine lv_iconst (v := 0) hx hb dX5_layPath_56 (by decide) ?_
        refine lv_aload_n hx hb dX5_layPath_57 rfl (lv_at hl 2 rfl) ?_
        refine lv_iload hx hb dX5_layPath_58 (lv_at hl 0 rfl) ?_
        obtain ⟨v18, hv, h⟩ := bq_bind h
        refine bq_callV S hK hz mv_X5_41 (c_X4_at hv) (kc_X4_at hv) dX5_layPath_60 [.ref v18, .int (0 : Int32), .ref v17] (rest := [.int (0 : Int32), .ref v17]) rfl rfl rfl hl.1 (Nat.le_of_ble_eq_true rfl) ⟨Nat.le_of_ble_eq_true rfl, Nat.le_of_ble_eq_true rfl⟩ ⟨Nat.zero_le _, Nat.zero_le _⟩ hW (fun H locs hW => ?_)
        obtain ⟨v19, hv, h⟩ := bq_bind h
        refine bq_geti S hK fl_X5_97 dX5_layPath_63 hv hW ?_
        refine lv_iload_n hx hb dX5_layPath_66 rfl (lv_at hl 3 rfl) ?_
        obtain ⟨k75, ek75, h⟩ := bq_letK h
        have hjk75 : ∀ (b20 : Int32) (H1 : Heap) (locs1 : List Loc) (ls1 : Array Slot), k75 b20 = some R → bq_H g L E16 z s.heap H1 locs1 → lv_has ls1 6 [(0, .ref a0), (1, .ref a1), (4, .int z11), (5, .int v14)] → W p l e { frames := 2, cells := 0, slots := 0, locals := 45 } s m args below meth c H1 locs1 0 0 (MQ below (bq_Q g L R z none) args s 0 0 (bq_A z)) (F0 m 75 ls1 [.int b20, .int (0 : Int32), .ref v17]) := by
          intro b20 H locs ls h hW hl
          replace h := bq_kap1 ek75 h
          obtain ⟨E21, hv, h⟩ := bq_bind h
          refine bq_callV S hK hz mv_X5_93 (c_X3_insert hv) (kc_X3_insert hv) dX5_layPath_75 [] (rest := []) rfl rfl rfl hl.1 (Nat.le_of_ble_eq_true rfl) ⟨Nat.le_of_ble_eq_true rfl, Nat.le_of_ble_eq_true rfl⟩ ⟨Nat.zero_le _, Nat.zero_le _⟩ hW (fun H locs hW => ?_)
          refine lv_iload hx hb dX5_layPath_78 (lv_at hl 3 rfl) ?_
          refine lv_istore_n (lv' := [(3, .int v14), (0, .ref a0), (1, .ref a1), (4, .int z11), (5, .int v14)]) hx hb dX5_layPath_80 rfl hl (by decide) rfl (fun ls hl => ?_)
          obtain ⟨v22, ev22⟩ : ∃ y : Int32, y = z11 + (-1) := ⟨_, rfl⟩
          replace h := bq_letE ev22 h
          refine lv_iinc (v := v22) (lv' := [(4, .int v22), (3, .int v14), (0, .ref a0), (1, .ref a1), (5, .int v14)]) hx hb dX5_layPath_81 hl (k := 3) rfl (by rw [ev22]; rfl) (by decide) rfl (fun ls hl => ?_)
          refine lv_goto (tgt := 28) hx hb dX5_layPath_84 (by decide) ?_
          exact ih v14 v22 E21 _ _ _ h hW (lv_sub hl [2, 3, 1, 0] rfl)
        clear ek75
        refine lv_icmp_ne (tgt := 74) hx hb dX5_layPath_67 (by decide) (fun hc => ?_) (fun hc => ?_)
        · replace h := bq_ifF hc h
          refine lv_iconst (v := 2) hx hb dX5_layPath_74 (by decide) ?_
          exact hjk75 (2 : Int32) _ _ _ h hW (lv_sub hl [1, 2, 4, 0] rfl)
        · replace h := bq_ifT hc h
          refine lv_iconst (v := 1) hx hb dX5_layPath_70 (by decide) ?_
          refine lv_goto (tgt := 75) hx hb dX5_layPath_71 (by decide) ?_
          exact hjk75 (1 : Int32) _ _ _ h hW (lv_sub hl [1, 2, 4, 0] rfl)
  exact hL28 bq_fuel x2 v6 E4 _ _ _ h hW (lv_sub hl [2, 3, 1, 0] rfl)

theorem kc_X5_start {E : bq_E} {a0 : Nat} {R : bq_E} (h : tw_X5_start E a0 = some R) : bq_cls E a0 = 5 := (bq_guard h).1
set_option maxHeartbeats 4000000 in
set_option maxRecDepth 100000 in
theorem c_X5_start {l : Launch} {g : bq_G} {L : List Nat} {z : Nat} {E : bq_E} {a0 : Nat} {R : bq_E} (h : tw_X5_start E a0 = some R) : bq_M l yX5_start cX5_start 1 none 0 0 [.ref a0] g L E z none R := by
  unfold tw_X5_start at h
  obtain ⟨hcl, h⟩ := bq_guard h
  refine bq_enter (by decide) (Nat.le_of_ble_eq_true rfl) ?_
  intro p e s m args below meth c S hr hlocks hK hz hW ls hl
  have S : CallFix p m c cX5_start 1 s args bq_WA RX5 := S
  have hx := S.1
  have hb := S.2.1
  have hl : lv_has ls 1 [(0, .ref a0)] := hl
  refine lv_aload_n hx hb dX5_start_0 rfl (lv_at hl 0 rfl) ?_
  refine lv_iconst (v := 0) hx hb dX5_start_1 (by decide) ?_
  obtain ⟨E1, hv, h⟩ := bq_bind h
  refine bq_puti S hK fp_X5_63 dX5_start_2 hv hW (fun H locs hW => ?_)
  refine lv_aload_n hx hb dX5_start_5 rfl (lv_at hl 0 rfl) ?_
  refine lv_iconst (v := 0) hx hb dX5_start_6 (by decide) ?_
  obtain ⟨E2, hv, h⟩ := bq_bind h
  refine bq_puti S hK fp_X5_55 dX5_start_7 hv hW (fun H locs hW => ?_)
  refine lv_aload_n hx hb dX5_start_10 rfl (lv_at hl 0 rfl) ?_
  refine lv_iconst (v := (-1)) hx hb dX5_start_11 (by decide) ?_
  obtain ⟨E3, hv, h⟩ := bq_bind h
  refine bq_puti S hK fp_X5_100 dX5_start_12 hv hW (fun H locs hW => ?_)
  refine lv_aload_n hx hb dX5_start_15 rfl (lv_at hl 0 rfl) ?_
  refine lv_iconst (v := (-1)) hx hb dX5_start_16 (by decide) ?_
  obtain ⟨E4, hv, h⟩ := bq_bind h
  refine bq_puti S hK fp_X5_103 dX5_start_17 hv hW (fun H locs hW => ?_)
  refine lv_aload_n hx hb dX5_start_20 rfl (lv_at hl 0 rfl) ?_
  refine lv_iconst (v := (-1)) hx hb dX5_start_21 (by decide) ?_
  obtain ⟨E5, hv, h⟩ := bq_bind h
  refine bq_puti S hK fp_X5_106 dX5_start_22 hv hW (fun H locs hW => ?_)
  cases h
  exact bq_retv S hr hlocks hK hz dX5_start_25 hW

theorem kc_X5_halve {E : bq_E} {a0 : Nat} {a1 : Nat} {x2 : Int32} {R : (Int32 × bq_E)} (h : tw_X5_halve E a0 a1 x2 = some R) : bq_cls E a0 = 5 := (bq_guard h).1
set_option maxHeartbeats 4000000 in
set_option maxRecDepth 100000 in
theorem c_X5_halve {l : Launch} {g : bq_G} {L : List Nat} {z : Nat} {E : bq_E} {a0 : Nat} {a1 : Nat} {x2 : Int32} {R : (Int32 × bq_E)} (h : tw_X5_halve E a0 a1 x2 = some R) : bq_M l yX5_halve cX5_halve 6 (some .int) 1 22 [.ref a0, .ref a1, .int x2] g L E z (some (.int R.1)) R.2 := by
  unfold tw_X5_halve at h
  obtain ⟨hcl, h⟩ := bq_guard h
  refine bq_enter (by decide) (Nat.le_of_ble_eq_true rfl) ?_
  intro p e s m args below meth c S hr hlocks hK hz hW ls hl
  have S : CallFix p m c cX5_halve 6 s args bq_WA RX5 := S
  have hx := S.1
  have hb := S.2.1
  have hl : lv_has ls 6 [(0, .ref a0), (1, .ref a1), (2, .int x2)] := hl
  refine lv_iconst (v := 0) hx hb dX5_halve_0 (by decide) ?_
  refine lv_istore_n (lv' := [(3, .int (0 : Int32)), (0, .ref a0), (1, .ref a1), (2, .int x2)]) hx hb dX5_halve_1 rfl hl (by decide) rfl (fun ls hl => ?_)
  refine lv_aload_n hx hb dX5_halve_2 rfl (lv_at hl 2 rfl) ?_
  obtain ⟨v1, hv, h⟩ := bq_bind h
  refine bq_callV S hK hz mv_X5_33 (c_X3_size hv) (kc_X3_size hv) dX5_halve_3 [.int v1] (rest := []) rfl rfl rfl hl.1 (Nat.le_of_ble_eq_true rfl) ⟨Nat.le_of_ble_eq_true rfl, Nat.le_of_ble_eq_true rfl⟩ ⟨Nat.zero_le _, Nat.zero_le _⟩ hW (fun H locs hW => ?_)
  refine lv_istore (lv' := [(4, .int v1), (3, .int (0 : Int32)), (0, .ref a0), (1, .ref a1), (2, .int x2)]) hx hb dX5_halve_6 hl (by decide) rfl (fun ls hl => ?_)
  have hL8 : ∀ (n : Nat) (z5 : Int32) (z6 : Int32) (E7 : bq_E) (H1 : Heap) (locs1 : List Loc) (ls1 : Array Slot), tl_X5_halve_8 a0 a1 x2 n z5 z6 E7 = some R → bq_H g L E7 z s.heap H1 locs1 → lv_has ls1 6 [(0, .ref a0), (1, .ref a1), (2, .int x2), (3, .int z5), (4, .int z6)] → W p l e { frames := 1, cells := 0, slots := 0, locals := 22 } s m args below meth c H1 locs1 0 0 (MQ below (bq_Q g L R.2 z (some (.int R.1))) args s 0 0 (bq_A z)) (F0 m 8 ls1 []) := by
    intro n
    induction n with
    | zero => intro z5 z6 E7 H locs ls h hW hl; cases h
    | succ n ih =>
      intro z5 z6 E7 H locs ls h hW hl
      rw [tl_X5_halve_8.eq_2] at h
      refine lv_iload_n hx hb dX5_halve_8 rfl (lv_at hl 3 rfl) ?_
      refine lv_iload hx hb dX5_halve_9 (lv_at hl 4 rfl) ?_
      refine lv_icmp_ge (tgt := 60) hx hb dX5_halve_11 (by decide) (fun hc => ?_) (fun hc => ?_)
      · replace h := bq_ifT hc h
        refine lv_iload_n hx hb dX5_halve_60 rfl (lv_at hl 3 rfl) ?_
        cases h
        exact bq_reti S hr hlocks hK hz dX5_halve_61 hW
      · replace h := bq_ifF hc h
        refine lv_iload_n hx hb dX5_halve_14 rfl (lv_at hl 3 rfl) ?_
        refine lv_iload hx hb dX5_halve_15 (lv_at hl 4 rfl) ?_
        refine lv_iadd hx hb dX5_halve_17 ?_
        refine lv_iconst (v := 2) hx hb dX5_halve_18 (by decide) ?_
        refine lv_idiv hx hb dX5_halve_19 (by decide) ?_
        refine lv_topi (fun v8 ev8 => ?_)
        replace h := bq_letE ev8 h
        refine lv_istore (lv' := [(5, .int v8), (0, .ref a0), (1, .ref a1), (2, .int x2), (3, .int z5), (4, .int z6)]) hx hb dX5_halve_20 hl (by decide) rfl (fun ls hl => ?_)
        refine lv_aload_n hx hb dX5_halve_22 rfl (lv_at hl 1 rfl) ?_
        refine lv_dup hx hb dX5_halve_23 rfl ?_
        obtain ⟨v9, hv, h⟩ := bq_bind h
        refine bq_geti S hK fl_X5_63 dX5_halve_24 hv hW ?_
        refine lv_iconst (v := 1) hx hb dX5_halve_27 (by decide) ?_
        refine lv_iadd hx hb dX5_halve_28 ?_
        obtain ⟨E10, hv, h⟩ := bq_bind h
        refine bq_puti S hK fp_X5_63 dX5_halve_29 hv hW (fun H locs hW => ?_)
        refine lv_aload_n hx hb dX5_halve_32 rfl (lv_at hl 2 rfl) ?_
        refine lv_iload hx hb dX5_halve_33 (lv_at hl 0 rfl) ?_
        refine lv_sipush (v := 10000) hx hb dX5_halve_35 (by decide) ?_
        obtain ⟨v11, hv, h⟩ := bq_bind h
        refine bq_callV S hK hz mv_X5_37 (c_X3_at hv) (kc_X3_at hv) dX5_halve_38 [.int v11] (rest := []) rfl rfl rfl hl.1 (Nat.le_of_ble_eq_true rfl) ⟨Nat.le_of_ble_eq_true rfl, Nat.le_of_ble_eq_true rfl⟩ ⟨Nat.zero_le _, Nat.zero_le _⟩ hW (fun H locs hW => ?_)
        refine lv_iload_n hx hb dX5_halve_41 rfl (lv_at hl 3 rfl) ?_
        refine lv_icmp_lt (tgt := 52) hx hb dX5_halve_42 (by decide) (fun hc => ?_) (fun hc => ?_)
        · replace h := bq_ifT hc h
          refine lv_iload hx hb dX5_halve_52 (lv_at hl 0 rfl) ?_
          refine lv_iconst (v := 1) hx hb dX5_halve_54 (by decide) ?_
          refine lv_iadd hx hb dX5_halve_55 ?_
          refine lv_topi (fun v12 ev12 => ?_)
          replace h := bq_letE ev12 h
          refine lv_istore_n (lv' := [(3, .int v12), (5, .int v8), (0, .ref a0), (1, .ref a1), (2, .int x2), (4, .int z6)]) hx hb dX5_halve_56 rfl hl (by decide) rfl (fun ls hl => ?_)
          refine lv_goto (tgt := 8) hx hb dX5_halve_57 (by decide) ?_
          exact ih v12 z6 E10 _ _ _ h hW (lv_sub hl [2, 3, 4, 0, 5] rfl)
        · replace h := bq_ifF hc h
          refine lv_iload hx hb dX5_halve_45 (lv_at hl 0 rfl) ?_
          refine lv_istore (lv' := [(4, .int v8), (5, .int v8), (0, .ref a0), (1, .ref a1), (2, .int x2), (3, .int z5)]) hx hb dX5_halve_47 hl (by decide) rfl (fun ls hl => ?_)
          refine lv_goto (tgt := 57) hx hb dX5_halve_49 (by decide) ?_
          refine lv_goto (tgt := 8) hx hb dX5_halve_57 (by decide) ?_
          exact ih z5 v8 E10 _ _ _ h hW (lv_sub hl [2, 3, 4, 5, 0] rfl)
  exact hL8 bq_fuel (0 : Int32) v1 E _ _ _ h hW (lv_sub hl [2, 3, 4, 1, 0] rfl)

theorem kc_X5_stepBack {E : bq_E} {a0 : Nat} {a1 : Nat} {x2 : Int32} {x3 : Int32} {R : (Int32 × bq_E)} (h : tw_X5_stepBack E a0 a1 x2 x3 = some R) : bq_cls E a0 = 5 := (bq_guard h).1
set_option maxHeartbeats 4000000 in
set_option maxRecDepth 100000 in
theorem c_X5_stepBack {l : Launch} {g : bq_G} {L : List Nat} {z : Nat} {E : bq_E} {a0 : Nat} {a1 : Nat} {x2 : Int32} {x3 : Int32} {R : (Int32 × bq_E)} (h : tw_X5_stepBack E a0 a1 x2 x3 = some R) : bq_M l yX5_stepBack cX5_stepBack 5 (some .int) 1 22 [.ref a0, .ref a1, .int x2, .int x3] g L E z (some (.int R.1)) R.2 := by
  unfold tw_X5_stepBack at h
  obtain ⟨hcl, h⟩ := bq_guard h
  refine bq_enter (by decide) (Nat.le_of_ble_eq_true rfl) ?_
  intro p e s m args below meth c S hr hlocks hK hz hW ls hl
  have S : CallFix p m c cX5_stepBack 5 s args bq_WA RX5 := S
  have hx := S.1
  have hb := S.2.1
  have hl : lv_has ls 5 [(0, .ref a0), (1, .ref a1), (2, .int x2), (3, .int x3)] := hl
  refine lv_iload_n hx hb dX5_stepBack_0 rfl (lv_at hl 2 rfl) ?_
  refine lv_istore (lv' := [(4, .int x2), (0, .ref a0), (1, .ref a1), (2, .int x2), (3, .int x3)]) hx hb dX5_stepBack_1 hl (by decide) rfl (fun ls hl => ?_)
  have hL3 : ∀ (K : Int32 → bq_E → Option (Int32 × bq_E)) (hX : ∀ (u9 : Int32) (E10 : bq_E) (H1 : Heap) (locs1 : List Loc) (ls1 : Array Slot), K u9 E10 = some R → bq_H g L E10 z s.heap H1 locs1 → lv_has ls1 5 [(4, .int u9)] → W p l e { frames := 1, cells := 0, slots := 0, locals := 22 } s m args below meth c H1 locs1 0 0 (MQ below (bq_Q g L R.2 z (some (.int R.1))) args s 0 0 (bq_A z)) (F0 m 31 ls1 [])), ∀ (n : Nat) (z3 : Int32) (E4 : bq_E) (H1 : Heap) (locs1 : List Loc) (ls1 : Array Slot), tl_X5_stepBack_3 a0 a1 x3 K n z3 E4 = some R → bq_H g L E4 z s.heap H1 locs1 → lv_has ls1 5 [(0, .ref a0), (1, .ref a1), (3, .int x3), (4, .int z3)] → W p l e { frames := 1, cells := 0, slots := 0, locals := 22 } s m args below meth c H1 locs1 0 0 (MQ below (bq_Q g L R.2 z (some (.int R.1))) args s 0 0 (bq_A z)) (F0 m 3 ls1 []) := by
    intro K hX n
    induction n with
    | zero => intro z3 E4 H locs ls h hW hl; cases h
    | succ n ih =>
      intro z3 E4 H locs ls h hW hl
      rw [tl_X5_stepBack_3.eq_2] at h
      refine lv_iload hx hb dX5_stepBack_3 (lv_at hl 3 rfl) ?_
      refine lv_if_le (tgt := 40) hx hb dX5_stepBack_5 (by decide) (fun hc => ?_) (fun hc => ?_)
      · replace h := bq_ifT hc h
        refine lv_iload hx hb dX5_stepBack_40 (lv_at hl 3 rfl) ?_
        cases h
        exact bq_reti S hr hlocks hK hz dX5_stepBack_42 hW
      · replace h := bq_ifF hc h
        refine lv_aload_n hx hb dX5_stepBack_8 rfl (lv_at hl 0 rfl) ?_
        refine lv_dup hx hb dX5_stepBack_9 rfl ?_
        obtain ⟨v5, hv, h⟩ := bq_bind h
        refine bq_geti S hK fl_X5_63 dX5_stepBack_10 hv hW ?_
        refine lv_iconst (v := 1) hx hb dX5_stepBack_13 (by decide) ?_
        refine lv_iadd hx hb dX5_stepBack_14 ?_
        obtain ⟨E6, hv, h⟩ := bq_bind h
        refine bq_puti S hK fp_X5_63 dX5_stepBack_15 hv hW (fun H locs hW => ?_)
        refine lv_aload_n hx hb dX5_stepBack_18 rfl (lv_at hl 1 rfl) ?_
        refine lv_iload hx hb dX5_stepBack_19 (lv_at hl 3 rfl) ?_
        refine lv_iconst (v := 1) hx hb dX5_stepBack_21 (by decide) ?_
        refine lv_isub hx hb dX5_stepBack_22 ?_
        refine lv_iconst (v := (-1)) hx hb dX5_stepBack_23 (by decide) ?_
        obtain ⟨v7, hv, h⟩ := bq_bind h
        refine bq_callV S hK hz mv_X5_37 (c_X3_at hv) (kc_X3_at hv) dX5_stepBack_24 [.int v7] (rest := []) rfl rfl rfl hl.1 (Nat.le_of_ble_eq_true rfl) ⟨Nat.le_of_ble_eq_true rfl, Nat.le_of_ble_eq_true rfl⟩ ⟨Nat.zero_le _, Nat.zero_le _⟩ hW (fun H locs hW => ?_)
        refine lv_iload_n hx hb dX5_stepBack_27 rfl (lv_at hl 2 rfl) ?_
        refine lv_icmp_ge (tgt := 34) hx hb dX5_stepBack_28 (by decide) (fun hc => ?_) (fun hc => ?_)
        · replace h := bq_ifT hc h
          obtain ⟨v8, ev8⟩ : ∃ y : Int32, y = z3 + (-1) := ⟨_, rfl⟩
          replace h := bq_letE ev8 h
          refine lv_iinc (v := v8) (lv' := [(4, .int v8), (0, .ref a0), (1, .ref a1), (3, .int x3)]) hx hb dX5_stepBack_34 hl (k := 3) rfl (by rw [ev8]; rfl) (by decide) rfl (fun ls hl => ?_)
          refine lv_goto (tgt := 3) hx hb dX5_stepBack_37 (by decide) ?_
          exact ih v8 E6 _ _ _ h hW (lv_sub hl [1, 2, 3, 0] rfl)
        · replace h := bq_ifF hc h
          exact hX z3 E6 _ _ _ h hW (lv_sub hl [3] rfl)
  refine hL3 _ (fun y1 E2 H locs ls h hW hl => ?_) bq_fuel x2 E _ _ _ h hW (lv_sub hl [1, 2, 4, 0] rfl)
  refine lv_goto (tgt := 40) hx hb dX5_stepBack_31 (by decide) ?_
  refine lv_iload hx hb dX5_stepBack_40 (lv_at hl 0 rfl) ?_
  cases h
  exact bq_reti S hr hlocks hK hz dX5_stepBack_42 hW

theorem kc_X5_answerAt {E : bq_E} {a0 : Nat} {a1 : Nat} {x2 : Int32} {x3 : Int32} {x4 : Int32} {R : bq_E} (h : tw_X5_answerAt E a0 a1 x2 x3 x4 = some R) : bq_cls E a0 = 5 := (bq_guard h).1
set_option maxHeartbeats 4000000 in
set_option maxRecDepth 100000 in
theorem c_X5_answerAt {l : Launch} {g : bq_G} {L : List Nat} {z : Nat} {E : bq_E} {a0 : Nat} {a1 : Nat} {x2 : Int32} {x3 : Int32} {x4 : Int32} {R : bq_E} (h : tw_X5_answerAt E a0 a1 x2 x3 x4 = some R) : bq_M l yX5_answerAt cX5_answerAt 8 none 2 47 [.ref a0, .ref a1, .int x2, .int x3, .int x4] g L E z none R := by
  unfold tw_X5_answerAt at h
  obtain ⟨hcl, h⟩ := bq_guard h
  refine bq_enter (by decide) (Nat.le_of_ble_eq_true rfl) ?_
  intro p e s m args below meth c S hr hlocks hK hz hW ls hl
  have S : CallFix p m c cX5_answerAt 8 s args bq_WA RX5 := S
  have hx := S.1
  have hb := S.2.1
  have hl : lv_has ls 8 [(0, .ref a0), (1, .ref a1), (2, .int x2), (3, .int x3), (4, .int x4)] := hl
  refine lv_aload_n hx hb dX5_answerAt_0 rfl (lv_at hl 1 rfl) ?_
  refine lv_iload_n hx hb dX5_answerAt_1 rfl (lv_at hl 2 rfl) ?_
  obtain ⟨v1, hv, h⟩ := bq_bind h
  refine bq_callV S hK hz mv_X5_41 (c_X4_at hv) (kc_X4_at hv) dX5_answerAt_2 [.ref v1] (rest := []) rfl rfl rfl hl.1 (Nat.le_of_ble_eq_true rfl) ⟨Nat.le_of_ble_eq_true rfl, Nat.le_of_ble_eq_true rfl⟩ ⟨Nat.zero_le _, Nat.zero_le _⟩ hW (fun H locs hW => ?_)
  refine lv_astore (lv' := [(5, .ref v1), (0, .ref a0), (1, .ref a1), (2, .int x2), (3, .int x3), (4, .int x4)]) hx hb dX5_answerAt_5 hl (by decide) rfl (fun ls hl => ?_)
  refine lv_aload hx hb dX5_answerAt_7 (lv_at hl 0 rfl) ?_
  refine lv_iload_n hx hb dX5_answerAt_9 rfl (lv_at hl 4 rfl) ?_
  obtain ⟨v2, hv, h⟩ := bq_bind h
  refine bq_callV S hK hz mv_X5_116 (c_X0_firstUnmarked hv) (kc_X0_firstUnmarked hv) dX5_answerAt_10 [.int v2] (rest := []) rfl rfl rfl hl.1 (Nat.le_of_ble_eq_true rfl) ⟨Nat.le_of_ble_eq_true rfl, Nat.le_of_ble_eq_true rfl⟩ ⟨Nat.zero_le _, Nat.zero_le _⟩ hW (fun H locs hW => ?_)
  refine lv_istore (lv' := [(6, .int v2), (5, .ref v1), (0, .ref a0), (1, .ref a1), (2, .int x2), (3, .int x3), (4, .int x4)]) hx hb dX5_answerAt_13 hl (by decide) rfl (fun ls hl => ?_)
  refine lv_aload_n hx hb dX5_answerAt_15 rfl (lv_at hl 2 rfl) ?_
  refine lv_dup hx hb dX5_answerAt_16 rfl ?_
  obtain ⟨v3, hv, h⟩ := bq_bind h
  refine bq_geti S hK fl_X5_63 dX5_answerAt_17 hv hW ?_
  refine lv_iload hx hb dX5_answerAt_20 (lv_at hl 0 rfl) ?_
  refine lv_iload_n hx hb dX5_answerAt_22 rfl (lv_at hl 5 rfl) ?_
  refine lv_isub hx hb dX5_answerAt_23 ?_
  refine lv_iadd hx hb dX5_answerAt_24 ?_
  obtain ⟨E4, hv, h⟩ := bq_bind h
  refine bq_puti S hK fp_X5_63 dX5_answerAt_25 hv hW (fun H locs hW => ?_)
  refine lv_aload_n hx hb dX5_answerAt_28 rfl (lv_at hl 2 rfl) ?_
  refine lv_dup hx hb dX5_answerAt_29 rfl ?_
  obtain ⟨v5, hv, h⟩ := bq_bind h
  refine bq_geti S hK fl_X5_63 dX5_answerAt_30 hv hW ?_
  refine lv_aload hx hb dX5_answerAt_33 (lv_at hl 1 rfl) ?_
  obtain ⟨v6, hv, h⟩ := bq_bind h
  refine bq_getr S hK fl_X5_120 dX5_answerAt_35 hv hW ?_
  obtain ⟨v7, hv, h⟩ := bq_bind h
  refine bq_callV S hK hz mv_X5_33 (c_X3_size hv) (kc_X3_size hv) dX5_answerAt_38 [.int v7, .int v5, .ref a0] (rest := [.int v5, .ref a0]) rfl rfl rfl hl.1 (Nat.le_of_ble_eq_true rfl) ⟨Nat.le_of_ble_eq_true rfl, Nat.le_of_ble_eq_true rfl⟩ ⟨Nat.zero_le _, Nat.zero_le _⟩ hW (fun H locs hW => ?_)
  refine lv_iadd hx hb dX5_answerAt_41 ?_
  obtain ⟨E8, hv, h⟩ := bq_bind h
  refine bq_puti S hK fp_X5_63 dX5_answerAt_42 hv hW (fun H locs hW => ?_)
  refine lv_aload hx hb dX5_answerAt_45 (lv_at hl 1 rfl) ?_
  refine lv_iload hx hb dX5_answerAt_47 (lv_at hl 6 rfl) ?_
  refine lv_aload hx hb dX5_answerAt_49 (lv_at hl 1 rfl) ?_
  obtain ⟨v9, hv, h⟩ := bq_bind h
  refine bq_getr S hK fl_X5_46 dX5_answerAt_51 hv hW ?_
  refine lv_iload hx hb dX5_answerAt_54 (lv_at hl 0 rfl) ?_
  refine lv_sipush (v := 10000) hx hb dX5_answerAt_56 (by decide) ?_
  obtain ⟨v10, hv, h⟩ := bq_bind h
  refine bq_callV S hK hz mv_X5_37 (c_X3_at hv) (kc_X3_at hv) dX5_answerAt_59 [.int v10, .int x4, .ref v1] (rest := [.int x4, .ref v1]) rfl rfl rfl hl.1 (Nat.le_of_ble_eq_true rfl) ⟨Nat.le_of_ble_eq_true rfl, Nat.le_of_ble_eq_true rfl⟩ ⟨Nat.zero_le _, Nat.zero_le _⟩ hW (fun H locs hW => ?_)
  obtain ⟨v11, hv, h⟩ := bq_bind h
  refine bq_callV S hK hz mv_X5_123 (c_X0_leastBuffered hv) (kc_X0_leastBuffered hv) dX5_answerAt_62 [.int v11] (rest := []) rfl rfl rfl hl.1 (Nat.le_of_ble_eq_true rfl) ⟨Nat.le_of_ble_eq_true rfl, Nat.le_of_ble_eq_true rfl⟩ ⟨Nat.zero_le _, Nat.zero_le _⟩ hW (fun H locs hW => ?_)
  refine lv_istore (lv' := [(7, .int v11), (6, .int v2), (5, .ref v1), (0, .ref a0), (1, .ref a1), (2, .int x2), (3, .int x3), (4, .int x4)]) hx hb dX5_answerAt_65 hl (by decide) rfl (fun ls hl => ?_)
  refine lv_aload_n hx hb dX5_answerAt_67 rfl (lv_at hl 3 rfl) ?_
  refine lv_iload hx hb dX5_answerAt_68 (lv_at hl 0 rfl) ?_
  refine lv_sipush (v := 10000) hx hb dX5_answerAt_70 (by decide) ?_
  obtain ⟨k82, ek82, h⟩ := bq_letK h
  have hjk82 : ∀ (b12 : Int32) (H1 : Heap) (locs1 : List Loc) (ls1 : Array Slot), k82 b12 = some R → bq_H g L E8 z s.heap H1 locs1 → lv_has ls1 8 [(0, .ref a0), (2, .int x2)] → W p l e { frames := 2, cells := 0, slots := 0, locals := 47 } s m args below meth c H1 locs1 0 0 (MQ below (bq_Q g L R z none) args s 0 0 (bq_A z)) (F0 m 82 ls1 [.int b12, .ref a0]) := by
    intro b12 H locs ls h hW hl
    replace h := bq_kap1 ek82 h
    obtain ⟨E13, hv, h⟩ := bq_bind h
    refine bq_puti S hK fp_X5_100 dX5_answerAt_82 hv hW (fun H locs hW => ?_)
    refine lv_aload_n hx hb dX5_answerAt_85 rfl (lv_at hl 0 rfl) ?_
    obtain ⟨v14, hv, h⟩ := bq_bind h
    refine bq_geti S hK fl_X5_100 dX5_answerAt_86 hv hW ?_
    refine lv_iconst (v := (-1)) hx hb dX5_answerAt_89 (by decide) ?_
    refine lv_icmp_eq (tgt := 125) hx hb dX5_answerAt_90 (by decide) (fun hc => ?_) (fun hc => ?_)
    · replace h := bq_ifT hc h
      cases h
      exact bq_retv S hr hlocks hK hz dX5_answerAt_125 hW
    · replace h := bq_ifF hc h
      refine lv_aload_n hx hb dX5_answerAt_93 rfl (lv_at hl 0 rfl) ?_
      obtain ⟨v15, hv, h⟩ := bq_bind h
      refine bq_geti S hK fl_X5_103 dX5_answerAt_94 hv hW ?_
      refine lv_iconst (v := (-1)) hx hb dX5_answerAt_97 (by decide) ?_
      refine lv_icmp_eq (tgt := 112) hx hb dX5_answerAt_98 (by decide) (fun hc => ?_) (fun hc => ?_)
      · replace h := bq_ifT hc h
        refine lv_aload_n hx hb dX5_answerAt_112 rfl (lv_at hl 0 rfl) ?_
        refine lv_aload_n hx hb dX5_answerAt_113 rfl (lv_at hl 0 rfl) ?_
        obtain ⟨v16, hv, h⟩ := bq_bind h
        refine bq_geti S hK fl_X5_100 dX5_answerAt_114 hv hW ?_
        obtain ⟨E17, hv, h⟩ := bq_bind h
        refine bq_puti S hK fp_X5_103 dX5_answerAt_117 hv hW (fun H locs hW => ?_)
        refine lv_aload_n hx hb dX5_answerAt_120 rfl (lv_at hl 0 rfl) ?_
        refine lv_iload_n hx hb dX5_answerAt_121 rfl (lv_at hl 1 rfl) ?_
        obtain ⟨E18, hv, h⟩ := bq_bind h
        refine bq_puti S hK fp_X5_106 dX5_answerAt_122 hv hW (fun H locs hW => ?_)
        cases h
        exact bq_retv S hr hlocks hK hz dX5_answerAt_125 hW
      · replace h := bq_ifF hc h
        refine lv_aload_n hx hb dX5_answerAt_101 rfl (lv_at hl 0 rfl) ?_
        obtain ⟨v19, hv, h⟩ := bq_bind h
        refine bq_geti S hK fl_X5_100 dX5_answerAt_102 hv hW ?_
        refine lv_aload_n hx hb dX5_answerAt_105 rfl (lv_at hl 0 rfl) ?_
        obtain ⟨v20, hv, h⟩ := bq_bind h
        refine bq_geti S hK fl_X5_103 dX5_answerAt_106 hv hW ?_
        refine lv_icmp_ge (tgt := 125) hx hb dX5_answerAt_109 (by decide) (fun hc => ?_) (fun hc => ?_)
        · replace h := bq_ifT hc h
          cases h
          exact bq_retv S hr hlocks hK hz dX5_answerAt_125 hW
        · replace h := bq_ifF hc h
          refine lv_aload_n hx hb dX5_answerAt_112 rfl (lv_at hl 0 rfl) ?_
          refine lv_aload_n hx hb dX5_answerAt_113 rfl (lv_at hl 0 rfl) ?_
          obtain ⟨v21, hv, h⟩ := bq_bind h
          refine bq_geti S hK fl_X5_100 dX5_answerAt_114 hv hW ?_
          obtain ⟨E22, hv, h⟩ := bq_bind h
          refine bq_puti S hK fp_X5_103 dX5_answerAt_117 hv hW (fun H locs hW => ?_)
          refine lv_aload_n hx hb dX5_answerAt_120 rfl (lv_at hl 0 rfl) ?_
          refine lv_iload_n hx hb dX5_answerAt_121 rfl (lv_at hl 1 rfl) ?_
          obtain ⟨E23, hv, h⟩ := bq_bind h
          refine bq_puti S hK fp_X5_106 dX5_answerAt_122 hv hW (fun H locs hW => ?_)
          cases h
          exact bq_retv S hr hlocks hK hz dX5_answerAt_125 hW
  clear ek82
  refine lv_icmp_ge (tgt := 81) hx hb dX5_answerAt_73 (by decide) (fun hc => ?_) (fun hc => ?_)
  · replace h := bq_ifT hc h
    refine lv_iconst (v := (-1)) hx hb dX5_answerAt_81 (by decide) ?_
    exact hjk82 (-1 : Int32) _ _ _ h hW (lv_sub hl [3, 5] rfl)
  · replace h := bq_ifF hc h
    refine lv_iload hx hb dX5_answerAt_76 (lv_at hl 0 rfl) ?_
    refine lv_goto (tgt := 82) hx hb dX5_answerAt_78 (by decide) ?_
    exact hjk82 v11 _ _ _ h hW (lv_sub hl [3, 5] rfl)

theorem kc_X5_searchPath {E : bq_E} {a0 : Nat} {a1 : Nat} {x2 : Int32} {R : bq_E} (h : tw_X5_searchPath E a0 a1 x2 = some R) : bq_cls E a0 = 5 := (bq_guard h).1
set_option maxHeartbeats 4000000 in
set_option maxRecDepth 100000 in
theorem c_X5_searchPath {l : Launch} {g : bq_G} {L : List Nat} {z : Nat} {E : bq_E} {a0 : Nat} {a1 : Nat} {x2 : Int32} {R : bq_E} (h : tw_X5_searchPath E a0 a1 x2 = some R) : bq_M l yX5_searchPath cX5_searchPath 8 none 3 74 [.ref a0, .ref a1, .int x2] g L E z none R := by
  unfold tw_X5_searchPath at h
  obtain ⟨hcl, h⟩ := bq_guard h
  refine bq_enter (by decide) (Nat.le_of_ble_eq_true rfl) ?_
  intro p e s m args below meth c S hr hlocks hK hz hW ls hl
  have S : CallFix p m c cX5_searchPath 8 s args bq_WA RX5 := S
  have hx := S.1
  have hb := S.2.1
  have hl : lv_has ls 8 [(0, .ref a0), (1, .ref a1), (2, .int x2)] := hl
  refine lv_aload_n hx hb dX5_searchPath_0 rfl (lv_at hl 0 rfl) ?_
  obtain ⟨E1, hv, h⟩ := bq_bind h
  refine bq_callV S hK hz mv_X5_30 (c_X5_start hv) (kc_X5_start hv) dX5_searchPath_1 [] (rest := []) rfl rfl rfl hl.1 (Nat.le_of_ble_eq_true rfl) ⟨Nat.le_of_ble_eq_true rfl, Nat.le_of_ble_eq_true rfl⟩ ⟨Nat.zero_le _, Nat.zero_le _⟩ hW (fun H locs hW => ?_)
  refine lv_iconst (v := 0) hx hb dX5_searchPath_4 (by decide) ?_
  refine lv_istore_n (lv' := [(3, .int (0 : Int32)), (0, .ref a0), (1, .ref a1), (2, .int x2)]) hx hb dX5_searchPath_5 rfl hl (by decide) rfl (fun ls hl => ?_)
  have hL6 : ∀ (n : Nat) (z4 : Int32) (E5 : bq_E) (H1 : Heap) (locs1 : List Loc) (ls1 : Array Slot), tl_X5_searchPath_6 a0 a1 x2 n z4 E5 = some R → bq_H g L E5 z s.heap H1 locs1 → lv_has ls1 8 [(0, .ref a0), (1, .ref a1), (2, .int x2), (3, .int z4)] → W p l e { frames := 3, cells := 0, slots := 0, locals := 74 } s m args below meth c H1 locs1 0 0 (MQ below (bq_Q g L R z none) args s 0 0 (bq_A z)) (F0 m 6 ls1 []) := by
    intro n
    induction n with
    | zero => intro z4 E5 H locs ls h hW hl; cases h
    | succ n ih =>
      intro z4 E5 H locs ls h hW hl
      rw [tl_X5_searchPath_6.eq_2] at h
      refine lv_iload_n hx hb dX5_searchPath_6 rfl (lv_at hl 3 rfl) ?_
      refine lv_aload_n hx hb dX5_searchPath_7 rfl (lv_at hl 0 rfl) ?_
      obtain ⟨v6, hv, h⟩ := bq_bind h
      refine bq_getr S hK fl_X5_14 dX5_searchPath_8 hv hW ?_
      obtain ⟨v7, hv, h⟩ := bq_bind h
      refine bq_callV S hK hz mv_X5_33 (c_X3_size hv) (kc_X3_size hv) dX5_searchPath_11 [.int v7, .int z4] (rest := [.int z4]) rfl rfl rfl hl.1 (Nat.le_of_ble_eq_true rfl) ⟨Nat.le_of_ble_eq_true rfl, Nat.le_of_ble_eq_true rfl⟩ ⟨Nat.zero_le _, Nat.zero_le _⟩ hW (fun H locs hW => ?_)
      refine lv_icmp_ge (tgt := 140) hx hb dX5_searchPath_14 (by decide) (fun hc => ?_) (fun hc => ?_)
      · replace h := bq_ifT hc h
        cases h
        exact bq_retv S hr hlocks hK hz dX5_searchPath_140 hW
      · replace h := bq_ifF hc h
        refine lv_aload_n hx hb dX5_searchPath_17 rfl (lv_at hl 0 rfl) ?_
        obtain ⟨v8, hv, h⟩ := bq_bind h
        refine bq_getr S hK fl_X5_14 dX5_searchPath_18 hv hW ?_
        refine lv_iload_n hx hb dX5_searchPath_21 rfl (lv_at hl 3 rfl) ?_
        refine lv_iconst (v := 0) hx hb dX5_searchPath_22 (by decide) ?_
        obtain ⟨v9, hv, h⟩ := bq_bind h
        refine bq_callV S hK hz mv_X5_37 (c_X3_at hv) (kc_X3_at hv) dX5_searchPath_23 [.int v9] (rest := []) rfl rfl rfl hl.1 (Nat.le_of_ble_eq_true rfl) ⟨Nat.le_of_ble_eq_true rfl, Nat.le_of_ble_eq_true rfl⟩ ⟨Nat.zero_le _, Nat.zero_le _⟩ hW (fun H locs hW => ?_)
        refine lv_istore (lv' := [(4, .int v9), (0, .ref a0), (1, .ref a1), (2, .int x2), (3, .int z4)]) hx hb dX5_searchPath_26 hl (by decide) rfl (fun ls hl => ?_)
        refine lv_aload_n hx hb dX5_searchPath_28 rfl (lv_at hl 2 rfl) ?_
        refine lv_iload hx hb dX5_searchPath_29 (lv_at hl 0 rfl) ?_
        obtain ⟨v10, hv, h⟩ := bq_bind h
        refine bq_callV S hK hz mv_X5_41 (c_X4_at hv) (kc_X4_at hv) dX5_searchPath_31 [.ref v10] (rest := []) rfl rfl rfl hl.1 (Nat.le_of_ble_eq_true rfl) ⟨Nat.le_of_ble_eq_true rfl, Nat.le_of_ble_eq_true rfl⟩ ⟨Nat.zero_le _, Nat.zero_le _⟩ hW (fun H locs hW => ?_)
        refine lv_astore (lv' := [(5, .ref v10), (4, .int v9), (0, .ref a0), (1, .ref a1), (2, .int x2), (3, .int z4)]) hx hb dX5_searchPath_34 hl (by decide) rfl (fun ls hl => ?_)
        refine lv_iload_n hx hb dX5_searchPath_36 rfl (lv_at hl 5 rfl) ?_
        obtain ⟨k113, ek113, h⟩ := bq_letK h
        have hjk113 : ∀ (E11 : bq_E) (H1 : Heap) (locs1 : List Loc) (ls1 : Array Slot), k113 E11 = some R → bq_H g L E11 z s.heap H1 locs1 → lv_has ls1 8 [(0, .ref a0), (1, .ref a1), (2, .int x2), (3, .int z4), (4, .int v9), (5, .ref v10)] → W p l e { frames := 3, cells := 0, slots := 0, locals := 74 } s m args below meth c H1 locs1 0 0 (MQ below (bq_Q g L R z none) args s 0 0 (bq_A z)) (F0 m 113 ls1 []) := by
          intro E11 H locs ls h hW hl
          replace h := bq_kap1 ek113 h
          refine lv_aload_n hx hb dX5_searchPath_113 rfl (lv_at hl 0 rfl) ?_
          refine lv_aload_n hx hb dX5_searchPath_114 rfl (lv_at hl 1 rfl) ?_
          refine lv_iload hx hb dX5_searchPath_115 (lv_at hl 4 rfl) ?_
          refine lv_aload hx hb dX5_searchPath_117 (lv_at hl 5 rfl) ?_
          obtain ⟨v12, hv, h⟩ := bq_bind h
          refine bq_getr S hK fl_X5_66 dX5_searchPath_119 hv hW ?_
          refine lv_aload_n hx hb dX5_searchPath_122 rfl (lv_at hl 0 rfl) ?_
          obtain ⟨v13, hv, h⟩ := bq_bind h
          refine bq_geti S hK fl_X5_55 dX5_searchPath_123 hv hW ?_
          refine lv_iconst (v := 0) hx hb dX5_searchPath_126 (by decide) ?_
          obtain ⟨v14, hv, h⟩ := bq_bind h
          refine bq_callV S hK hz mv_X5_109 (c_X2_bridgeOf hv) (kc_X2_bridgeOf hv) dX5_searchPath_127 [.int v14, .int v9, .ref a1, .ref a0] (rest := [.int v9, .ref a1, .ref a0]) rfl rfl rfl hl.1 (Nat.le_of_ble_eq_true rfl) ⟨Nat.le_of_ble_eq_true rfl, Nat.le_of_ble_eq_true rfl⟩ ⟨Nat.zero_le _, Nat.zero_le _⟩ hW (fun H locs hW => ?_)
          refine lv_iload_n hx hb dX5_searchPath_130 rfl (lv_at hl 2 rfl) ?_
          obtain ⟨E15, hv, h⟩ := bq_bind h
          refine bq_callV S hK hz mv_X5_59 (c_X5_answerAt hv) (kc_X5_answerAt hv) dX5_searchPath_131 [] (rest := []) rfl rfl rfl hl.1 (Nat.le_of_ble_eq_true rfl) ⟨Nat.le_of_ble_eq_true rfl, Nat.le_of_ble_eq_true rfl⟩ ⟨Nat.zero_le _, Nat.zero_le _⟩ hW (fun H locs hW => ?_)
          obtain ⟨v16, ev16⟩ : ∃ y : Int32, y = z4 + 1 := ⟨_, rfl⟩
          replace h := bq_letE ev16 h
          refine lv_iinc (v := v16) (lv' := [(3, .int v16), (0, .ref a0), (1, .ref a1), (2, .int x2), (4, .int v9), (5, .ref v10)]) hx hb dX5_searchPath_134 hl (k := 3) rfl (by rw [ev16]; rfl) (by decide) rfl (fun ls hl => ?_)
          refine lv_goto (tgt := 6) hx hb dX5_searchPath_137 (by decide) ?_
          exact ih v16 E15 _ _ _ h hW (lv_sub hl [1, 2, 3, 0] rfl)
        clear ek113
        refine lv_if_ne (tgt := 60) hx hb dX5_searchPath_37 (by decide) (fun hc => ?_) (fun hc => ?_)
        · replace h := bq_ifF hc h
          refine lv_aload_n hx hb dX5_searchPath_60 rfl (lv_at hl 3 rfl) ?_
          refine lv_aload hx hb dX5_searchPath_61 (lv_at hl 0 rfl) ?_
          obtain ⟨v17, hv, h⟩ := bq_bind h
          refine bq_geti S hK fl_X5_90 dX5_searchPath_63 hv hW ?_
          obtain ⟨v18, hv, h⟩ := bq_bind h
          refine bq_callV S hK hz mv_X5_41 (c_X4_at hv) (kc_X4_at hv) dX5_searchPath_66 [.ref v18] (rest := []) rfl rfl rfl hl.1 (Nat.le_of_ble_eq_true rfl) ⟨Nat.le_of_ble_eq_true rfl, Nat.le_of_ble_eq_true rfl⟩ ⟨Nat.zero_le _, Nat.zero_le _⟩ hW (fun H locs hW => ?_)
          obtain ⟨v19, hv, h⟩ := bq_bind h
          refine bq_getr S hK fl_X5_66 dX5_searchPath_69 hv hW ?_
          refine lv_astore (lv' := [(6, .ref v19), (5, .ref v10), (4, .int v9), (0, .ref a0), (1, .ref a1), (2, .int x2), (3, .int z4)]) hx hb dX5_searchPath_72 hl (by decide) rfl (fun ls hl => ?_)
          refine lv_aload hx hb dX5_searchPath_74 (lv_at hl 0 rfl) ?_
          refine lv_aload_n hx hb dX5_searchPath_76 rfl (lv_at hl 3 rfl) ?_
          obtain ⟨v20, hv, h⟩ := bq_bind h
          refine bq_geti S hK fl_X5_55 dX5_searchPath_77 hv hW ?_
          refine lv_aload_n hx hb dX5_searchPath_80 rfl (lv_at hl 3 rfl) ?_
          obtain ⟨v21, hv, h⟩ := bq_bind h
          refine bq_getr S hK fl_X5_20 dX5_searchPath_81 hv hW ?_
          refine lv_iload_n hx hb dX5_searchPath_84 rfl (lv_at hl 6 rfl) ?_
          refine lv_iconst (v := 1) hx hb dX5_searchPath_85 (by decide) ?_
          obtain ⟨v22, hv, h⟩ := bq_bind h
          refine bq_callV S hK hz mv_X5_37 (c_X3_at hv) (kc_X3_at hv) dX5_searchPath_86 [.int v22, .int v20, .ref v19] (rest := [.int v20, .ref v19]) rfl rfl rfl hl.1 (Nat.le_of_ble_eq_true rfl) ⟨Nat.le_of_ble_eq_true rfl, Nat.le_of_ble_eq_true rfl⟩ ⟨Nat.zero_le _, Nat.zero_le _⟩ hW (fun H locs hW => ?_)
          obtain ⟨v23, hv, h⟩ := bq_bind h
          refine bq_callV S hK hz mv_X5_109 (c_X2_bridgeOf hv) (kc_X2_bridgeOf hv) dX5_searchPath_89 [.int v23] (rest := []) rfl rfl rfl hl.1 (Nat.le_of_ble_eq_true rfl) ⟨Nat.le_of_ble_eq_true rfl, Nat.le_of_ble_eq_true rfl⟩ ⟨Nat.zero_le _, Nat.zero_le _⟩ hW (fun H locs hW => ?_)
          refine lv_istore (lv' := [(7, .int v23), (6, .ref v19), (5, .ref v10), (4, .int v9), (0, .ref a0), (1, .ref a1), (2, .int x2), (3, .int z4)]) hx hb dX5_searchPath_92 hl (by decide) rfl (fun ls hl => ?_)
          refine lv_aload_n hx hb dX5_searchPath_94 rfl (lv_at hl 4 rfl) ?_
          refine lv_aload_n hx hb dX5_searchPath_95 rfl (lv_at hl 4 rfl) ?_
          refine lv_aload hx hb dX5_searchPath_96 (lv_at hl 2 rfl) ?_
          obtain ⟨v24, hv, h⟩ := bq_bind h
          refine bq_getr S hK fl_X5_66 dX5_searchPath_98 hv hW ?_
          obtain ⟨v25, hv, h⟩ := bq_bind h
          refine bq_getr S hK fl_X5_73 dX5_searchPath_101 hv hW ?_
          refine lv_iload hx hb dX5_searchPath_104 (lv_at hl 0 rfl) ?_
          refine lv_iload_n hx hb dX5_searchPath_106 rfl (lv_at hl 6 rfl) ?_
          obtain ⟨v26, hv, h⟩ := bq_bind h
          refine bq_callV S hK hz mv_X5_112 (c_X5_stepBack hv) (kc_X5_stepBack hv) dX5_searchPath_107 [.int v26.1, .ref a0] (rest := [.ref a0]) rfl rfl rfl hl.1 (Nat.le_of_ble_eq_true rfl) ⟨Nat.le_of_ble_eq_true rfl, Nat.le_of_ble_eq_true rfl⟩ ⟨Nat.zero_le _, Nat.zero_le _⟩ hW (fun H locs hW => ?_)
          obtain ⟨E27, hv, h⟩ := bq_bind h
          refine bq_puti S hK fp_X5_55 dX5_searchPath_110 hv hW (fun H locs hW => ?_)
          exact hjk113 E27 _ _ _ h hW (lv_sub hl [4, 5, 6, 7, 3, 2] rfl)
        · replace h := bq_ifT hc h
          refine lv_aload_n hx hb dX5_searchPath_40 rfl (lv_at hl 2 rfl) ?_
          refine lv_aload_n hx hb dX5_searchPath_41 rfl (lv_at hl 2 rfl) ?_
          refine lv_aload hx hb dX5_searchPath_42 (lv_at hl 0 rfl) ?_
          obtain ⟨v28, hv, h⟩ := bq_bind h
          refine bq_getr S hK fl_X5_66 dX5_searchPath_44 hv hW ?_
          obtain ⟨v29, hv, h⟩ := bq_bind h
          refine bq_getr S hK fl_X5_73 dX5_searchPath_47 hv hW ?_
          refine lv_iload_n hx hb dX5_searchPath_50 rfl (lv_at hl 4 rfl) ?_
          obtain ⟨v30, hv, h⟩ := bq_bind h
          refine bq_callV S hK hz mv_X5_51 (c_X5_halve hv) (kc_X5_halve hv) dX5_searchPath_51 [.int v30.1, .ref a0] (rest := [.ref a0]) rfl rfl rfl hl.1 (Nat.le_of_ble_eq_true rfl) ⟨Nat.le_of_ble_eq_true rfl, Nat.le_of_ble_eq_true rfl⟩ ⟨Nat.zero_le _, Nat.zero_le _⟩ hW (fun H locs hW => ?_)
          obtain ⟨E31, hv, h⟩ := bq_bind h
          refine bq_puti S hK fp_X5_55 dX5_searchPath_54 hv hW (fun H locs hW => ?_)
          refine lv_goto (tgt := 113) hx hb dX5_searchPath_57 (by decide) ?_
          exact hjk113 E31 _ _ _ h hW (lv_sub hl [2, 3, 4, 5, 1, 0] rfl)
  exact hL6 bq_fuel (0 : Int32) E1 _ _ _ h hW (lv_sub hl [1, 2, 3, 0] rfl)

theorem kc_X5_bridged {E : bq_E} {a0 : Nat} {a1 : Nat} {x2 : Int32} {x3 : Int32} {R : bq_E} (h : tw_X5_bridged E a0 a1 x2 x3 = some R) : bq_cls E a0 = 5 := (bq_guard h).1
set_option maxHeartbeats 4000000 in
set_option maxRecDepth 100000 in
theorem c_X5_bridged {l : Launch} {g : bq_G} {L : List Nat} {z : Nat} {E : bq_E} {a0 : Nat} {a1 : Nat} {x2 : Int32} {x3 : Int32} {R : bq_E} (h : tw_X5_bridged E a0 a1 x2 x3 = some R) : bq_M l yX5_bridged cX5_bridged 4 none 4 101 [.ref a0, .ref a1, .int x2, .int x3] g L E z none R := by
  unfold tw_X5_bridged at h
  obtain ⟨hcl, h⟩ := bq_guard h
  refine bq_enter (by decide) (Nat.le_of_ble_eq_true rfl) ?_
  intro p e s m args below meth c S hr hlocks hK hz hW ls hl
  have S : CallFix p m c cX5_bridged 4 s args bq_WA RX5 := S
  have hx := S.1
  have hb := S.2.1
  have hl : lv_has ls 4 [(0, .ref a0), (1, .ref a1), (2, .int x2), (3, .int x3)] := hl
  refine lv_aload_n hx hb dX5_bridged_0 rfl (lv_at hl 0 rfl) ?_
  refine lv_aload_n hx hb dX5_bridged_1 rfl (lv_at hl 1 rfl) ?_
  refine lv_iload_n hx hb dX5_bridged_2 rfl (lv_at hl 2 rfl) ?_
  obtain ⟨E1, hv, h⟩ := bq_bind h
  refine bq_callV S hK hz mv_X5_23 (c_X5_layPath hv) (kc_X5_layPath hv) dX5_bridged_3 [] (rest := []) rfl rfl rfl hl.1 (Nat.le_of_ble_eq_true rfl) ⟨Nat.le_of_ble_eq_true rfl, Nat.le_of_ble_eq_true rfl⟩ ⟨Nat.zero_le _, Nat.zero_le _⟩ hW (fun H locs hW => ?_)
  refine lv_aload_n hx hb dX5_bridged_6 rfl (lv_at hl 0 rfl) ?_
  refine lv_aload_n hx hb dX5_bridged_7 rfl (lv_at hl 1 rfl) ?_
  refine lv_iload_n hx hb dX5_bridged_8 rfl (lv_at hl 3 rfl) ?_
  obtain ⟨E2, hv, h⟩ := bq_bind h
  refine bq_callV S hK hz mv_X5_27 (c_X5_searchPath hv) (kc_X5_searchPath hv) dX5_bridged_9 [] (rest := []) rfl rfl rfl hl.1 (Nat.le_of_ble_eq_true rfl) ⟨Nat.le_of_ble_eq_true rfl, Nat.le_of_ble_eq_true rfl⟩ ⟨Nat.zero_le _, Nat.zero_le _⟩ hW (fun H locs hW => ?_)
  cases h
  exact bq_retv S hr hlocks hK hz dX5_bridged_12 hW
