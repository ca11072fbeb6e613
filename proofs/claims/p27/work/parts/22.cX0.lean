theorem kc_X0_child {E : bq_E} {a0 : Nat} {x1 : Int32} {R : Int32} (h : tw_X0_child E a0 x1 = some R) : bq_cls E a0 = 0 := (bq_guard h).1
set_option maxHeartbeats 4000000 in
set_option maxRecDepth 100000 in
theorem c_X0_child {l : Launch} {g : bq_G} {L : List Nat} {z : Nat} {E : bq_E} {a0 : Nat} {x1 : Int32} {R : Int32} (h : tw_X0_child E a0 x1 = some R) : bq_M l yX0_child cX0_child 2 (some .int) 0 0 [.ref a0, .int x1] g L E z (some (.int R)) E := by
  unfold tw_X0_child at h
  obtain ⟨hcl, h⟩ := bq_guard h
  refine bq_enter (by decide) (Nat.le_of_ble_eq_true rfl) ?_
  intro p e s m args below meth c S hr hlocks hK hz hW ls hl
  have S : CallFix p m c cX0_child 2 s args bq_WA RX0 := S
  have hx := S.1
  have hb := S.2.1
  have hl : lv_has ls 2 [(0, .ref a0), (1, .int x1)] := hl
  refine lv_iload_n hx hb dX0_child_0 rfl (lv_at hl 1 rfl) ?_
  refine lv_iconst (v := 1) hx hb dX0_child_1 (by decide) ?_
  refine lv_icmp_ne (tgt := 12) hx hb dX0_child_2 (by decide) (fun hc => ?_) (fun hc => ?_)
  · replace h := bq_ifF hc h
    refine lv_aload_n hx hb dX0_child_12 rfl (lv_at hl 0 rfl) ?_
    obtain ⟨v1, hv, h⟩ := bq_bind h
    refine bq_geti S hK fl_X0_18 dX0_child_13 hv hW ?_
    cases h
    exact bq_reti S hr hlocks hK hz dX0_child_16 hW
  · replace h := bq_ifT hc h
    refine lv_aload_n hx hb dX0_child_5 rfl (lv_at hl 0 rfl) ?_
    obtain ⟨v2, hv, h⟩ := bq_bind h
    refine bq_geti S hK fl_X0_15 dX0_child_6 hv hW ?_
    refine lv_goto (tgt := 16) hx hb dX0_child_9 (by decide) ?_
    cases h
    exact bq_reti S hr hlocks hK hz dX0_child_16 hW

theorem kc_X0_isMarked {E : bq_E} {a0 : Nat} {x1 : Int32} {R : Bool} (h : tw_X0_isMarked E a0 x1 = some R) : bq_cls E a0 = 0 := (bq_guard h).1
set_option maxHeartbeats 4000000 in
set_option maxRecDepth 100000 in
theorem c_X0_isMarked {l : Launch} {g : bq_G} {L : List Nat} {z : Nat} {E : bq_E} {a0 : Nat} {x1 : Int32} {R : Bool} (h : tw_X0_isMarked E a0 x1 = some R) : bq_M l yX0_isMarked cX0_isMarked 2 (some .boolean) 1 22 [.ref a0, .int x1] g L E z (some (.int (bq_b R))) E := by
  unfold tw_X0_isMarked at h
  obtain ⟨hcl, h⟩ := bq_guard h
  refine bq_enter (by decide) (Nat.le_of_ble_eq_true rfl) ?_
  intro p e s m args below meth c S hr hlocks hK hz hW ls hl
  have S : CallFix p m c cX0_isMarked 2 s args bq_WA RX0 := S
  have hx := S.1
  have hb := S.2.1
  have hl : lv_has ls 2 [(0, .ref a0), (1, .int x1)] := hl
  refine lv_aload_n hx hb dX0_isMarked_0 rfl (lv_at hl 0 rfl) ?_
  obtain ⟨v1, hv, h⟩ := bq_bind h
  refine bq_getr S hK fl_X0_30 dX0_isMarked_1 hv hW ?_
  refine lv_iload_n hx hb dX0_isMarked_4 rfl (lv_at hl 1 rfl) ?_
  refine lv_iconst (v := 0) hx hb dX0_isMarked_5 (by decide) ?_
  obtain ⟨v2, hv, h⟩ := bq_bind h
  refine bq_callV S hK hz mv_X0_43 (c_X3_at hv) (kc_X3_at hv) dX0_isMarked_6 [.int v2] (rest := []) rfl rfl rfl hl.1 (Nat.le_of_ble_eq_true rfl) ⟨Nat.le_of_ble_eq_true rfl, Nat.le_of_ble_eq_true rfl⟩ ⟨Nat.zero_le _, Nat.zero_le _⟩ hW (fun H locs hW => ?_)
  refine lv_iconst (v := 1) hx hb dX0_isMarked_9 (by decide) ?_
  refine lv_icmp_ne (tgt := 17) hx hb dX0_isMarked_10 (by decide) (fun hc => ?_) (fun hc => ?_)
  · replace h := bq_ifF hc h
    refine lv_iconst (v := 0) hx hb dX0_isMarked_17 (by decide) ?_
    cases h
    exact bq_retz S hr hlocks hK hz dX0_isMarked_18 _ rfl hW
  · replace h := bq_ifT hc h
    refine lv_iconst (v := 1) hx hb dX0_isMarked_13 (by decide) ?_
    refine lv_goto (tgt := 18) hx hb dX0_isMarked_14 (by decide) ?_
    cases h
    exact bq_retz S hr hlocks hK hz dX0_isMarked_18 _ rfl hW

theorem kc_X0_keyCount {E : bq_E} {a0 : Nat} {R : Int32} (h : tw_X0_keyCount E a0 = some R) : bq_cls E a0 = 0 := (bq_guard h).1
set_option maxHeartbeats 4000000 in
set_option maxRecDepth 100000 in
theorem c_X0_keyCount {l : Launch} {g : bq_G} {L : List Nat} {z : Nat} {E : bq_E} {a0 : Nat} {R : Int32} (h : tw_X0_keyCount E a0 = some R) : bq_M l yX0_keyCount cX0_keyCount 1 (some .int) 1 20 [.ref a0] g L E z (some (.int R)) E := by
  unfold tw_X0_keyCount at h
  obtain ⟨hcl, h⟩ := bq_guard h
  refine bq_enter (by decide) (Nat.le_of_ble_eq_true rfl) ?_
  intro p e s m args below meth c S hr hlocks hK hz hW ls hl
  have S : CallFix p m c cX0_keyCount 1 s args bq_WA RX0 := S
  have hx := S.1
  have hb := S.2.1
  have hl : lv_has ls 1 [(0, .ref a0)] := hl
  refine lv_aload_n hx hb dX0_keyCount_0 rfl (lv_at hl 0 rfl) ?_
  obtain ⟨v1, hv, h⟩ := bq_bind h
  refine bq_getr S hK fl_X0_26 dX0_keyCount_1 hv hW ?_
  obtain ⟨v2, hv, h⟩ := bq_bind h
  refine bq_callV S hK hz mv_X0_47 (c_X3_size hv) (kc_X3_size hv) dX0_keyCount_4 [.int v2] (rest := []) rfl rfl rfl hl.1 (Nat.le_of_ble_eq_true rfl) ⟨Nat.le_of_ble_eq_true rfl, Nat.le_of_ble_eq_true rfl⟩ ⟨Nat.zero_le _, Nat.zero_le _⟩ hW (fun H locs hW => ?_)
  refine lv_aload_n hx hb dX0_keyCount_7 rfl (lv_at hl 0 rfl) ?_
  obtain ⟨v3, hv, h⟩ := bq_bind h
  refine bq_geti S hK fl_X0_51 dX0_keyCount_8 hv hW ?_
  refine lv_isub hx hb dX0_keyCount_11 ?_
  refine lv_aload_n hx hb dX0_keyCount_12 rfl (lv_at hl 0 rfl) ?_
  obtain ⟨v4, hv, h⟩ := bq_bind h
  refine bq_getr S hK fl_X0_33 dX0_keyCount_13 hv hW ?_
  obtain ⟨v5, hv, h⟩ := bq_bind h
  refine bq_callV S hK hz mv_X0_47 (c_X3_size hv) (kc_X3_size hv) dX0_keyCount_16 [.int v5, .int (v2 - v3)] (rest := [.int (v2 - v3)]) rfl rfl rfl hl.1 (Nat.le_of_ble_eq_true rfl) ⟨Nat.le_of_ble_eq_true rfl, Nat.le_of_ble_eq_true rfl⟩ ⟨Nat.zero_le _, Nat.zero_le _⟩ hW (fun H locs hW => ?_)
  refine lv_iadd hx hb dX0_keyCount_19 ?_
  cases h
  exact bq_reti S hr hlocks hK hz dX0_keyCount_20 hW

theorem kc_X0_isFull {E : bq_E} {a0 : Nat} {R : Bool} (h : tw_X0_isFull E a0 = some R) : bq_cls E a0 = 0 := (bq_guard h).1
set_option maxHeartbeats 4000000 in
set_option maxRecDepth 100000 in
theorem c_X0_isFull {l : Launch} {g : bq_G} {L : List Nat} {z : Nat} {E : bq_E} {a0 : Nat} {R : Bool} (h : tw_X0_isFull E a0 = some R) : bq_M l yX0_isFull cX0_isFull 1 (some .boolean) 2 40 [.ref a0] g L E z (some (.int (bq_b R))) E := by
  unfold tw_X0_isFull at h
  obtain ⟨hcl, h⟩ := bq_guard h
  refine bq_enter (by decide) (Nat.le_of_ble_eq_true rfl) ?_
  intro p e s m args below meth c S hr hlocks hK hz hW ls hl
  have S : CallFix p m c cX0_isFull 1 s args bq_WA RX0 := S
  have hx := S.1
  have hb := S.2.1
  have hl : lv_has ls 1 [(0, .ref a0)] := hl
  refine lv_aload_n hx hb dX0_isFull_0 rfl (lv_at hl 0 rfl) ?_
  obtain ⟨v1, hv, h⟩ := bq_bind h
  refine bq_callV S hK hz mv_X0_54 (c_X0_keyCount hv) (kc_X0_keyCount hv) dX0_isFull_1 [.int v1] (rest := []) rfl rfl rfl hl.1 (Nat.le_of_ble_eq_true rfl) ⟨Nat.le_of_ble_eq_true rfl, Nat.le_of_ble_eq_true rfl⟩ ⟨Nat.zero_le _, Nat.zero_le _⟩ hW (fun H locs hW => ?_)
  refine lv_bipush (v := 24) hx hb dX0_isFull_4 (by decide) ?_
  refine lv_icmp_lt (tgt := 13) hx hb dX0_isFull_6 (by decide) (fun hc => ?_) (fun hc => ?_)
  · replace h := bq_ifT hc h
    refine lv_iconst (v := 0) hx hb dX0_isFull_13 (by decide) ?_
    cases h
    exact bq_retz S hr hlocks hK hz dX0_isFull_14 _ rfl hW
  · replace h := bq_ifF hc h
    refine lv_iconst (v := 1) hx hb dX0_isFull_9 (by decide) ?_
    refine lv_goto (tgt := 14) hx hb dX0_isFull_10 (by decide) ?_
    cases h
    exact bq_retz S hr hlocks hK hz dX0_isFull_14 _ rfl hW

theorem kc_X0_holds {E : bq_E} {a0 : Nat} {x1 : Int32} {R : Bool} (h : tw_X0_holds E a0 x1 = some R) : bq_cls E a0 = 0 := (bq_guard h).1
set_option maxHeartbeats 4000000 in
set_option maxRecDepth 100000 in
theorem c_X0_holds {l : Launch} {g : bq_G} {L : List Nat} {z : Nat} {E : bq_E} {a0 : Nat} {x1 : Int32} {R : Bool} (h : tw_X0_holds E a0 x1 = some R) : bq_M l yX0_holds cX0_holds 3 (some .boolean) 2 44 [.ref a0, .int x1] g L E z (some (.int (bq_b R))) E := by
  unfold tw_X0_holds at h
  obtain ⟨hcl, h⟩ := bq_guard h
  refine bq_enter (by decide) (Nat.le_of_ble_eq_true rfl) ?_
  intro p e s m args below meth c S hr hlocks hK hz hW ls hl
  have S : CallFix p m c cX0_holds 3 s args bq_WA RX0 := S
  have hx := S.1
  have hb := S.2.1
  have hl : lv_has ls 3 [(0, .ref a0), (1, .int x1)] := hl
  refine lv_aload_n hx hb dX0_holds_0 rfl (lv_at hl 0 rfl) ?_
  obtain ⟨v1, hv, h⟩ := bq_bind h
  refine bq_getr S hK fl_X0_26 dX0_holds_1 hv hW ?_
  refine lv_iload_n hx hb dX0_holds_4 rfl (lv_at hl 1 rfl) ?_
  obtain ⟨v2, hv, h⟩ := bq_bind h
  refine bq_callV S hK hz mv_X0_57 (c_X3_indexOf hv) (kc_X3_indexOf hv) dX0_holds_5 [.int v2] (rest := []) rfl rfl rfl hl.1 (Nat.le_of_ble_eq_true rfl) ⟨Nat.le_of_ble_eq_true rfl, Nat.le_of_ble_eq_true rfl⟩ ⟨Nat.zero_le _, Nat.zero_le _⟩ hW (fun H locs hW => ?_)
  refine lv_istore_n (lv' := [(2, .int v2), (0, .ref a0), (1, .int x1)]) hx hb dX0_holds_8 rfl hl (by decide) rfl (fun ls hl => ?_)
  refine lv_iload_n hx hb dX0_holds_9 rfl (lv_at hl 0 rfl) ?_
  refine lv_iconst (v := (-1)) hx hb dX0_holds_10 (by decide) ?_
  obtain ⟨k22, ek22, h⟩ := bq_letK h
  have hjk22 : ∀ (u0 : Unit) (H1 : Heap) (locs1 : List Loc) (ls1 : Array Slot), k22 u0 = some R → bq_H g L E z s.heap H1 locs1 → lv_has ls1 3 [(0, .ref a0), (1, .int x1)] → W p l e { frames := 2, cells := 0, slots := 0, locals := 44 } s m args below meth c H1 locs1 0 0 (MQ below (bq_Q g L E z (some (.int (bq_b R)))) args s 0 0 (bq_A z)) (F0 m 22 ls1 []) := by
    intro u0 H locs ls h hW hl
    replace h := bq_kap1 ek22 h
    refine lv_aload_n hx hb dX0_holds_22 rfl (lv_at hl 0 rfl) ?_
    obtain ⟨v3, hv, h⟩ := bq_bind h
    refine bq_getr S hK fl_X0_33 dX0_holds_23 hv hW ?_
    refine lv_iload_n hx hb dX0_holds_26 rfl (lv_at hl 1 rfl) ?_
    obtain ⟨v4, hv, h⟩ := bq_bind h
    refine bq_callV S hK hz mv_X0_57 (c_X3_indexOf hv) (kc_X3_indexOf hv) dX0_holds_27 [.int v4] (rest := []) rfl rfl rfl hl.1 (Nat.le_of_ble_eq_true rfl) ⟨Nat.le_of_ble_eq_true rfl, Nat.le_of_ble_eq_true rfl⟩ ⟨Nat.zero_le _, Nat.zero_le _⟩ hW (fun H locs hW => ?_)
    refine lv_iconst (v := (-1)) hx hb dX0_holds_30 (by decide) ?_
    refine lv_icmp_eq (tgt := 38) hx hb dX0_holds_31 (by decide) (fun hc => ?_) (fun hc => ?_)
    · replace h := bq_ifT hc h
      refine lv_iconst (v := 0) hx hb dX0_holds_38 (by decide) ?_
      cases h
      exact bq_retz S hr hlocks hK hz dX0_holds_39 _ rfl hW
    · replace h := bq_ifF hc h
      refine lv_iconst (v := 1) hx hb dX0_holds_34 (by decide) ?_
      refine lv_goto (tgt := 39) hx hb dX0_holds_35 (by decide) ?_
      cases h
      exact bq_retz S hr hlocks hK hz dX0_holds_39 _ rfl hW
  clear ek22
  refine lv_icmp_eq (tgt := 22) hx hb dX0_holds_11 (by decide) (fun hc => ?_) (fun hc => ?_)
  · replace h := bq_ifT hc h
    exact hjk22 () _ _ _ h hW (lv_sub hl [1, 2] rfl)
  · replace h := bq_ifF hc h
    refine lv_aload_n hx hb dX0_holds_14 rfl (lv_at hl 1 rfl) ?_
    refine lv_iload_n hx hb dX0_holds_15 rfl (lv_at hl 0 rfl) ?_
    obtain ⟨v5, hv, h⟩ := bq_bind h
    refine bq_callV S hK hz mv_X0_61 (c_X0_isMarked hv) (kc_X0_isMarked hv) dX0_holds_16 [.int (bq_b v5)] (rest := []) rfl rfl rfl hl.1 (Nat.le_of_ble_eq_true rfl) ⟨Nat.le_of_ble_eq_true rfl, Nat.le_of_ble_eq_true rfl⟩ ⟨Nat.zero_le _, Nat.zero_le _⟩ hW (fun H locs hW => ?_)
    refine lv_if_eq (tgt := 34) hx hb dX0_holds_19 (by decide) (fun hc => ?_) (fun hc => ?_)
    · replace h := bq_ifT hc h
      refine lv_iconst (v := 1) hx hb dX0_holds_34 (by decide) ?_
      refine lv_goto (tgt := 39) hx hb dX0_holds_35 (by decide) ?_
      cases h
      exact bq_retz S hr hlocks hK hz dX0_holds_39 _ rfl hW
    · replace h := bq_ifF hc h
      exact hjk22 () _ _ _ h hW (lv_sub hl [1, 2] rfl)

theorem kc_X0_takeIn {E : bq_E} {a0 : Nat} {x1 : Int32} {R : (Bool × bq_E)} (h : tw_X0_takeIn E a0 x1 = some R) : bq_cls E a0 = 0 := (bq_guard h).1
set_option maxHeartbeats 4000000 in
set_option maxRecDepth 100000 in
theorem c_X0_takeIn {l : Launch} {g : bq_G} {L : List Nat} {z : Nat} {E : bq_E} {a0 : Nat} {x1 : Int32} {R : (Bool × bq_E)} (h : tw_X0_takeIn E a0 x1 = some R) : bq_M l yX0_takeIn cX0_takeIn 3 (some .boolean) 2 44 [.ref a0, .int x1] g L E z (some (.int (bq_b R.1))) R.2 := by
  unfold tw_X0_takeIn at h
  obtain ⟨hcl, h⟩ := bq_guard h
  refine bq_enter (by decide) (Nat.le_of_ble_eq_true rfl) ?_
  intro p e s m args below meth c S hr hlocks hK hz hW ls hl
  have S : CallFix p m c cX0_takeIn 3 s args bq_WA RX0 := S
  have hx := S.1
  have hb := S.2.1
  have hl : lv_has ls 3 [(0, .ref a0), (1, .int x1)] := hl
  refine lv_aload_n hx hb dX0_takeIn_0 rfl (lv_at hl 0 rfl) ?_
  obtain ⟨v1, hv, h⟩ := bq_bind h
  refine bq_getr S hK fl_X0_26 dX0_takeIn_1 hv hW ?_
  refine lv_iload_n hx hb dX0_takeIn_4 rfl (lv_at hl 1 rfl) ?_
  obtain ⟨v2, hv, h⟩ := bq_bind h
  refine bq_callV S hK hz mv_X0_57 (c_X3_indexOf hv) (kc_X3_indexOf hv) dX0_takeIn_5 [.int v2] (rest := []) rfl rfl rfl hl.1 (Nat.le_of_ble_eq_true rfl) ⟨Nat.le_of_ble_eq_true rfl, Nat.le_of_ble_eq_true rfl⟩ ⟨Nat.zero_le _, Nat.zero_le _⟩ hW (fun H locs hW => ?_)
  refine lv_istore_n (lv' := [(2, .int v2), (0, .ref a0), (1, .int x1)]) hx hb dX0_takeIn_8 rfl hl (by decide) rfl (fun ls hl => ?_)
  refine lv_iload_n hx hb dX0_takeIn_9 rfl (lv_at hl 0 rfl) ?_
  refine lv_iconst (v := (-1)) hx hb dX0_takeIn_10 (by decide) ?_
  refine lv_icmp_ne (tgt := 24) hx hb dX0_takeIn_11 (by decide) (fun hc => ?_) (fun hc => ?_)
  · replace h := bq_ifF hc h
    refine lv_aload_n hx hb dX0_takeIn_24 rfl (lv_at hl 1 rfl) ?_
    obtain ⟨v3, hv, h⟩ := bq_bind h
    refine bq_getr S hK fl_X0_30 dX0_takeIn_25 hv hW ?_
    refine lv_iload_n hx hb dX0_takeIn_28 rfl (lv_at hl 0 rfl) ?_
    refine lv_iconst (v := 0) hx hb dX0_takeIn_29 (by decide) ?_
    obtain ⟨E4, hv, h⟩ := bq_bind h
    refine bq_callV S hK hz mv_X0_68 (c_X3_put hv) (kc_X3_put hv) dX0_takeIn_30 [] (rest := []) rfl rfl rfl hl.1 (Nat.le_of_ble_eq_true rfl) ⟨Nat.le_of_ble_eq_true rfl, Nat.le_of_ble_eq_true rfl⟩ ⟨Nat.zero_le _, Nat.zero_le _⟩ hW (fun H locs hW => ?_)
    refine lv_aload_n hx hb dX0_takeIn_33 rfl (lv_at hl 1 rfl) ?_
    refine lv_dup hx hb dX0_takeIn_34 rfl ?_
    obtain ⟨v5, hv, h⟩ := bq_bind h
    refine bq_geti S hK fl_X0_51 dX0_takeIn_35 hv hW ?_
    refine lv_iconst (v := 1) hx hb dX0_takeIn_38 (by decide) ?_
    refine lv_isub hx hb dX0_takeIn_39 ?_
    obtain ⟨E6, hv, h⟩ := bq_bind h
    refine bq_puti S hK fp_X0_51 dX0_takeIn_40 hv hW (fun H locs hW => ?_)
    refine lv_iconst (v := 0) hx hb dX0_takeIn_43 (by decide) ?_
    cases h
    exact bq_retz S hr hlocks hK hz dX0_takeIn_44 _ rfl hW
  · replace h := bq_ifT hc h
    refine lv_aload_n hx hb dX0_takeIn_14 rfl (lv_at hl 1 rfl) ?_
    obtain ⟨v7, hv, h⟩ := bq_bind h
    refine bq_getr S hK fl_X0_33 dX0_takeIn_15 hv hW ?_
    refine lv_iload_n hx hb dX0_takeIn_18 rfl (lv_at hl 2 rfl) ?_
    obtain ⟨E8, hv, h⟩ := bq_bind h
    refine bq_callV S hK hz mv_X0_65 (c_X3_append hv) (kc_X3_append hv) dX0_takeIn_19 [] (rest := []) rfl rfl rfl hl.1 (Nat.le_of_ble_eq_true rfl) ⟨Nat.le_of_ble_eq_true rfl, Nat.le_of_ble_eq_true rfl⟩ ⟨Nat.zero_le _, Nat.zero_le _⟩ hW (fun H locs hW => ?_)
    refine lv_iconst (v := 1) hx hb dX0_takeIn_22 (by decide) ?_
    cases h
    exact bq_retz S hr hlocks hK hz dX0_takeIn_23 _ rfl hW

theorem kc_X0_letGo {E : bq_E} {a0 : Nat} {x1 : Int32} {R : (Bool × bq_E)} (h : tw_X0_letGo E a0 x1 = some R) : bq_cls E a0 = 0 := (bq_guard h).1
set_option maxHeartbeats 4000000 in
set_option maxRecDepth 100000 in
theorem c_X0_letGo {l : Launch} {g : bq_G} {L : List Nat} {z : Nat} {E : bq_E} {a0 : Nat} {x1 : Int32} {R : (Bool × bq_E)} (h : tw_X0_letGo E a0 x1 = some R) : bq_M l yX0_letGo cX0_letGo 3 (some .boolean) 2 44 [.ref a0, .int x1] g L E z (some (.int (bq_b R.1))) R.2 := by
  unfold tw_X0_letGo at h
  obtain ⟨hcl, h⟩ := bq_guard h
  refine bq_enter (by decide) (Nat.le_of_ble_eq_true rfl) ?_
  intro p e s m args below meth c S hr hlocks hK hz hW ls hl
  have S : CallFix p m c cX0_letGo 3 s args bq_WA RX0 := S
  have hx := S.1
  have hb := S.2.1
  have hl : lv_has ls 3 [(0, .ref a0), (1, .int x1)] := hl
  refine lv_aload_n hx hb dX0_letGo_0 rfl (lv_at hl 0 rfl) ?_
  obtain ⟨v1, hv, h⟩ := bq_bind h
  refine bq_getr S hK fl_X0_33 dX0_letGo_1 hv hW ?_
  refine lv_iload_n hx hb dX0_letGo_4 rfl (lv_at hl 1 rfl) ?_
  obtain ⟨v2, hv, h⟩ := bq_bind h
  refine bq_callV S hK hz mv_X0_57 (c_X3_indexOf hv) (kc_X3_indexOf hv) dX0_letGo_5 [.int v2] (rest := []) rfl rfl rfl hl.1 (Nat.le_of_ble_eq_true rfl) ⟨Nat.le_of_ble_eq_true rfl, Nat.le_of_ble_eq_true rfl⟩ ⟨Nat.zero_le _, Nat.zero_le _⟩ hW (fun H locs hW => ?_)
  refine lv_istore_n (lv' := [(2, .int v2), (0, .ref a0), (1, .int x1)]) hx hb dX0_letGo_8 rfl hl (by decide) rfl (fun ls hl => ?_)
  refine lv_iload_n hx hb dX0_letGo_9 rfl (lv_at hl 0 rfl) ?_
  refine lv_iconst (v := (-1)) hx hb dX0_letGo_10 (by decide) ?_
  refine lv_icmp_eq (tgt := 24) hx hb dX0_letGo_11 (by decide) (fun hc => ?_) (fun hc => ?_)
  · replace h := bq_ifT hc h
    refine lv_aload_n hx hb dX0_letGo_24 rfl (lv_at hl 1 rfl) ?_
    obtain ⟨v3, hv, h⟩ := bq_bind h
    refine bq_getr S hK fl_X0_30 dX0_letGo_25 hv hW ?_
    refine lv_aload_n hx hb dX0_letGo_28 rfl (lv_at hl 1 rfl) ?_
    obtain ⟨v4, hv, h⟩ := bq_bind h
    refine bq_getr S hK fl_X0_26 dX0_letGo_29 hv hW ?_
    refine lv_iload_n hx hb dX0_letGo_32 rfl (lv_at hl 2 rfl) ?_
    obtain ⟨v5, hv, h⟩ := bq_bind h
    refine bq_callV S hK hz mv_X0_57 (c_X3_indexOf hv) (kc_X3_indexOf hv) dX0_letGo_33 [.int v5, .ref v3] (rest := [.ref v3]) rfl rfl rfl hl.1 (Nat.le_of_ble_eq_true rfl) ⟨Nat.le_of_ble_eq_true rfl, Nat.le_of_ble_eq_true rfl⟩ ⟨Nat.zero_le _, Nat.zero_le _⟩ hW (fun H locs hW => ?_)
    refine lv_iconst (v := 1) hx hb dX0_letGo_36 (by decide) ?_
    obtain ⟨E6, hv, h⟩ := bq_bind h
    refine bq_callV S hK hz mv_X0_68 (c_X3_put hv) (kc_X3_put hv) dX0_letGo_37 [] (rest := []) rfl rfl rfl hl.1 (Nat.le_of_ble_eq_true rfl) ⟨Nat.le_of_ble_eq_true rfl, Nat.le_of_ble_eq_true rfl⟩ ⟨Nat.zero_le _, Nat.zero_le _⟩ hW (fun H locs hW => ?_)
    refine lv_aload_n hx hb dX0_letGo_40 rfl (lv_at hl 1 rfl) ?_
    refine lv_dup hx hb dX0_letGo_41 rfl ?_
    obtain ⟨v7, hv, h⟩ := bq_bind h
    refine bq_geti S hK fl_X0_51 dX0_letGo_42 hv hW ?_
    refine lv_iconst (v := 1) hx hb dX0_letGo_45 (by decide) ?_
    refine lv_iadd hx hb dX0_letGo_46 ?_
    obtain ⟨E8, hv, h⟩ := bq_bind h
    refine bq_puti S hK fp_X0_51 dX0_letGo_47 hv hW (fun H locs hW => ?_)
    refine lv_iconst (v := 1) hx hb dX0_letGo_50 (by decide) ?_
    cases h
    exact bq_retz S hr hlocks hK hz dX0_letGo_51 _ rfl hW
  · replace h := bq_ifF hc h
    refine lv_aload_n hx hb dX0_letGo_14 rfl (lv_at hl 1 rfl) ?_
    obtain ⟨v9, hv, h⟩ := bq_bind h
    refine bq_getr S hK fl_X0_33 dX0_letGo_15 hv hW ?_
    refine lv_iload_n hx hb dX0_letGo_18 rfl (lv_at hl 0 rfl) ?_
    obtain ⟨E10, hv, h⟩ := bq_bind h
    refine bq_callV S hK hz mv_X0_72 (c_X3_cutOut hv) (kc_X3_cutOut hv) dX0_letGo_19 [] (rest := []) rfl rfl rfl hl.1 (Nat.le_of_ble_eq_true rfl) ⟨Nat.le_of_ble_eq_true rfl, Nat.le_of_ble_eq_true rfl⟩ ⟨Nat.zero_le _, Nat.zero_le _⟩ hW (fun H locs hW => ?_)
    refine lv_iconst (v := 0) hx hb dX0_letGo_22 (by decide) ?_
    cases h
    exact bq_retz S hr hlocks hK hz dX0_letGo_23 _ rfl hW

theorem kc_X0_settle {E : bq_E} {a0 : Nat} {R : bq_E} (h : tw_X0_settle E a0 = some R) : bq_cls E a0 = 0 := (bq_guard h).1
set_option maxHeartbeats 4000000 in
set_option maxRecDepth 100000 in
theorem c_X0_settle {l : Launch} {g : bq_G} {L : List Nat} {z : Nat} {E : bq_E} {a0 : Nat} {R : bq_E} (h : tw_X0_settle E a0 = some R) : bq_M l yX0_settle cX0_settle 4 none 2 45 [.ref a0] g L E z none R := by
  unfold tw_X0_settle at h
  obtain ⟨hcl, h⟩ := bq_guard h
  refine bq_enter (by decide) (Nat.le_of_ble_eq_true rfl) ?_
  intro p e s m args below meth c S hr hlocks hK hz hW ls hl
  have S : CallFix p m c cX0_settle 4 s args bq_WA RX0 := S
  have hx := S.1
  have hb := S.2.1
  have hl : lv_has ls 4 [(0, .ref a0)] := hl
  refine lv_iconst (v := 0) hx hb dX0_settle_0 (by decide) ?_
  refine lv_istore_n (lv' := [(1, .int (0 : Int32)), (0, .ref a0)]) hx hb dX0_settle_1 rfl hl (by decide) rfl (fun ls hl => ?_)
  refine lv_iconst (v := 0) hx hb dX0_settle_2 (by decide) ?_
  refine lv_istore_n (lv' := [(2, .int (0 : Int32)), (1, .int (0 : Int32)), (0, .ref a0)]) hx hb dX0_settle_3 rfl hl (by decide) rfl (fun ls hl => ?_)
  have hL4 : ∀ (K : Int32 → Int32 → bq_E → Option bq_E) (hX : ∀ (u48 : Int32) (u49 : Int32) (E50 : bq_E) (H1 : Heap) (locs1 : List Loc) (ls1 : Array Slot), K u48 u49 E50 = some R → bq_H g L E50 z s.heap H1 locs1 → lv_has ls1 4 [(0, .ref a0), (1, .int u48)] → W p l e { frames := 2, cells := 0, slots := 0, locals := 45 } s m args below meth c H1 locs1 0 0 (MQ below (bq_Q g L R z none) args s 0 0 (bq_A z)) (F0 m 49 ls1 [])), ∀ (n : Nat) (z35 : Int32) (z36 : Int32) (E37 : bq_E) (H1 : Heap) (locs1 : List Loc) (ls1 : Array Slot), tl_X0_settle_4 a0 K n z35 z36 E37 = some R → bq_H g L E37 z s.heap H1 locs1 → lv_has ls1 4 [(0, .ref a0), (1, .int z35), (2, .int z36)] → W p l e { frames := 2, cells := 0, slots := 0, locals := 45 } s m args below meth c H1 locs1 0 0 (MQ below (bq_Q g L R z none) args s 0 0 (bq_A z)) (F0 m 4 ls1 []) := by
    intro K hX n
    induction n with
    | zero => intro z35 z36 E37 H locs ls h hW hl; cases h
    | succ n ih =>
      intro z35 z36 E37 H locs ls h hW hl
      rw [tl_X0_settle_4.eq_2] at h
      refine lv_iload_n hx hb dX0_settle_4 rfl (lv_at hl 2 rfl) ?_
      refine lv_aload_n hx hb dX0_settle_5 rfl (lv_at hl 0 rfl) ?_
      obtain ⟨v38, hv, h⟩ := bq_bind h
      refine bq_getr S hK fl_X0_26 dX0_settle_6 hv hW ?_
      obtain ⟨v39, hv, h⟩ := bq_bind h
      refine bq_callV S hK hz mv_X0_47 (c_X3_size hv) (kc_X3_size hv) dX0_settle_9 [.int v39, .int z36] (rest := [.int z36]) rfl rfl rfl hl.1 (Nat.le_of_ble_eq_true rfl) ⟨Nat.le_of_ble_eq_true rfl, Nat.le_of_ble_eq_true rfl⟩ ⟨Nat.zero_le _, Nat.zero_le _⟩ hW (fun H locs hW => ?_)
      refine lv_icmp_ge (tgt := 49) hx hb dX0_settle_12 (by decide) (fun hc => ?_) (fun hc => ?_)
      · replace h := bq_ifT hc h
        exact hX z35 z36 E37 _ _ _ h hW (lv_sub hl [0, 1] rfl)
      · replace h := bq_ifF hc h
        refine lv_aload_n hx hb dX0_settle_15 rfl (lv_at hl 0 rfl) ?_
        refine lv_iload_n hx hb dX0_settle_16 rfl (lv_at hl 2 rfl) ?_
        obtain ⟨v40, hv, h⟩ := bq_bind h
        refine bq_callV S hK hz mv_X0_61 (c_X0_isMarked hv) (kc_X0_isMarked hv) dX0_settle_17 [.int (bq_b v40)] (rest := []) rfl rfl rfl hl.1 (Nat.le_of_ble_eq_true rfl) ⟨Nat.le_of_ble_eq_true rfl, Nat.le_of_ble_eq_true rfl⟩ ⟨Nat.zero_le _, Nat.zero_le _⟩ hW (fun H locs hW => ?_)
        refine lv_if_ne (tgt := 43) hx hb dX0_settle_20 (by decide) (fun hc => ?_) (fun hc => ?_)
        · replace h := bq_ifF hc h
          obtain ⟨v41, ev41⟩ : ∃ y : Int32, y = z36 + 1 := ⟨_, rfl⟩
          replace h := bq_letE ev41 h
          refine lv_iinc (v := v41) (lv' := [(2, .int v41), (0, .ref a0), (1, .int z35)]) hx hb dX0_settle_43 hl (k := 2) rfl (by rw [ev41]; rfl) (by decide) rfl (fun ls hl => ?_)
          refine lv_goto (tgt := 4) hx hb dX0_settle_46 (by decide) ?_
          exact ih z35 v41 E37 _ _ _ h hW (lv_sub hl [1, 2, 0] rfl)
        · replace h := bq_ifT hc h
          refine lv_aload_n hx hb dX0_settle_23 rfl (lv_at hl 0 rfl) ?_
          obtain ⟨v42, hv, h⟩ := bq_bind h
          refine bq_getr S hK fl_X0_26 dX0_settle_24 hv hW ?_
          refine lv_iload_n hx hb dX0_settle_27 rfl (lv_at hl 1 rfl) ?_
          refine lv_aload_n hx hb dX0_settle_28 rfl (lv_at hl 0 rfl) ?_
          obtain ⟨v43, hv, h⟩ := bq_bind h
          refine bq_getr S hK fl_X0_26 dX0_settle_29 hv hW ?_
          refine lv_iload_n hx hb dX0_settle_32 rfl (lv_at hl 2 rfl) ?_
          refine lv_iconst (v := 0) hx hb dX0_settle_33 (by decide) ?_
          obtain ⟨v44, hv, h⟩ := bq_bind h
          refine bq_callV S hK hz mv_X0_43 (c_X3_at hv) (kc_X3_at hv) dX0_settle_34 [.int v44, .int z35, .ref v42] (rest := [.int z35, .ref v42]) rfl rfl rfl hl.1 (Nat.le_of_ble_eq_true rfl) ⟨Nat.le_of_ble_eq_true rfl, Nat.le_of_ble_eq_true rfl⟩ ⟨Nat.zero_le _, Nat.zero_le _⟩ hW (fun H locs hW => ?_)
          obtain ⟨E45, hv, h⟩ := bq_bind h
          refine bq_callV S hK hz mv_X0_68 (c_X3_put hv) (kc_X3_put hv) dX0_settle_37 [] (rest := []) rfl rfl rfl hl.1 (Nat.le_of_ble_eq_true rfl) ⟨Nat.le_of_ble_eq_true rfl, Nat.le_of_ble_eq_true rfl⟩ ⟨Nat.zero_le _, Nat.zero_le _⟩ hW (fun H locs hW => ?_)
          obtain ⟨v46, ev46⟩ : ∃ y : Int32, y = z35 + 1 := ⟨_, rfl⟩
          replace h := bq_letE ev46 h
          refine lv_iinc (v := v46) (lv' := [(1, .int v46), (0, .ref a0), (2, .int z36)]) hx hb dX0_settle_40 hl (k := 1) rfl (by rw [ev46]; rfl) (by decide) rfl (fun ls hl => ?_)
          obtain ⟨v47, ev47⟩ : ∃ y : Int32, y = z36 + 1 := ⟨_, rfl⟩
          replace h := bq_letE ev47 h
          refine lv_iinc (v := v47) (lv' := [(2, .int v47), (1, .int v46), (0, .ref a0)]) hx hb dX0_settle_43 hl (k := 2) rfl (by rw [ev47]; rfl) (by decide) rfl (fun ls hl => ?_)
          refine lv_goto (tgt := 4) hx hb dX0_settle_46 (by decide) ?_
          exact ih v46 v47 E45 _ _ _ h hW (lv_sub hl [2, 1, 0] rfl)
  refine hL4 _ (fun y1 y2 E3 H locs ls h hW hl => ?_) bq_fuel (0 : Int32) (0 : Int32) E _ _ _ h hW (lv_sub hl [2, 1, 0] rfl)
  refine lv_aload_n hx hb dX0_settle_49 rfl (lv_at hl 0 rfl) ?_
  obtain ⟨v4, hv, h⟩ := bq_bind h
  refine bq_getr S hK fl_X0_26 dX0_settle_50 hv hW ?_
  refine lv_iload_n hx hb dX0_settle_53 rfl (lv_at hl 1 rfl) ?_
  obtain ⟨E5, hv, h⟩ := bq_bind h
  refine bq_callV S hK hz mv_X0_75 (c_X3_cutTo hv) (kc_X3_cutTo hv) dX0_settle_54 [] (rest := []) rfl rfl rfl hl.1 (Nat.le_of_ble_eq_true rfl) ⟨Nat.le_of_ble_eq_true rfl, Nat.le_of_ble_eq_true rfl⟩ ⟨Nat.zero_le _, Nat.zero_le _⟩ hW (fun H locs hW => ?_)
  refine lv_iconst (v := 0) hx hb dX0_settle_57 (by decide) ?_
  refine lv_istore_n (lv' := [(2, .int (0 : Int32)), (0, .ref a0), (1, .int y1)]) hx hb dX0_settle_58 rfl hl (by decide) rfl (fun ls hl => ?_)
  have hL59 : ∀ (K : Int32 → bq_E → Option bq_E) (hX : ∀ (u33 : Int32) (E34 : bq_E) (H1 : Heap) (locs1 : List Loc) (ls1 : Array Slot), K u33 E34 = some R → bq_H g L E34 z s.heap H1 locs1 → lv_has ls1 4 [(0, .ref a0)] → W p l e { frames := 2, cells := 0, slots := 0, locals := 45 } s m args below meth c H1 locs1 0 0 (MQ below (bq_Q g L R z none) args s 0 0 (bq_A z)) (F0 m 103 ls1 [])), ∀ (n : Nat) (z22 : Int32) (E23 : bq_E) (H1 : Heap) (locs1 : List Loc) (ls1 : Array Slot), tl_X0_settle_59 a0 K n z22 E23 = some R → bq_H g L E23 z s.heap H1 locs1 → lv_has ls1 4 [(0, .ref a0), (2, .int z22)] → W p l e { frames := 2, cells := 0, slots := 0, locals := 45 } s m args below meth c H1 locs1 0 0 (MQ below (bq_Q g L R z none) args s 0 0 (bq_A z)) (F0 m 59 ls1 []) := by
    intro K hX n
    induction n with
    | zero => intro z22 E23 H locs ls h hW hl; cases h
    | succ n ih =>
      intro z22 E23 H locs ls h hW hl
      rw [tl_X0_settle_59.eq_2] at h
      refine lv_iload_n hx hb dX0_settle_59 rfl (lv_at hl 1 rfl) ?_
      refine lv_aload_n hx hb dX0_settle_60 rfl (lv_at hl 0 rfl) ?_
      obtain ⟨v24, hv, h⟩ := bq_bind h
      refine bq_getr S hK fl_X0_33 dX0_settle_61 hv hW ?_
      obtain ⟨v25, hv, h⟩ := bq_bind h
      refine bq_callV S hK hz mv_X0_47 (c_X3_size hv) (kc_X3_size hv) dX0_settle_64 [.int v25, .int z22] (rest := [.int z22]) rfl rfl rfl hl.1 (Nat.le_of_ble_eq_true rfl) ⟨Nat.le_of_ble_eq_true rfl, Nat.le_of_ble_eq_true rfl⟩ ⟨Nat.zero_le _, Nat.zero_le _⟩ hW (fun H locs hW => ?_)
      refine lv_icmp_ge (tgt := 103) hx hb dX0_settle_67 (by decide) (fun hc => ?_) (fun hc => ?_)
      · replace h := bq_ifT hc h
        exact hX z22 E23 _ _ _ h hW (lv_sub hl [0] rfl)
      · replace h := bq_ifF hc h
        refine lv_aload_n hx hb dX0_settle_70 rfl (lv_at hl 0 rfl) ?_
        obtain ⟨v26, hv, h⟩ := bq_bind h
        refine bq_getr S hK fl_X0_33 dX0_settle_71 hv hW ?_
        refine lv_iload_n hx hb dX0_settle_74 rfl (lv_at hl 1 rfl) ?_
        refine lv_iconst (v := 0) hx hb dX0_settle_75 (by decide) ?_
        obtain ⟨v27, hv, h⟩ := bq_bind h
        refine bq_callV S hK hz mv_X0_43 (c_X3_at hv) (kc_X3_at hv) dX0_settle_76 [.int v27] (rest := []) rfl rfl rfl hl.1 (Nat.le_of_ble_eq_true rfl) ⟨Nat.le_of_ble_eq_true rfl, Nat.le_of_ble_eq_true rfl⟩ ⟨Nat.zero_le _, Nat.zero_le _⟩ hW (fun H locs hW => ?_)
        refine lv_istore_n (lv' := [(3, .int v27), (0, .ref a0), (2, .int z22)]) hx hb dX0_settle_79 rfl hl (by decide) rfl (fun ls hl => ?_)
        refine lv_aload_n hx hb dX0_settle_80 rfl (lv_at hl 1 rfl) ?_
        obtain ⟨v28, hv, h⟩ := bq_bind h
        refine bq_getr S hK fl_X0_26 dX0_settle_81 hv hW ?_
        refine lv_aload_n hx hb dX0_settle_84 rfl (lv_at hl 1 rfl) ?_
        obtain ⟨v29, hv, h⟩ := bq_bind h
        refine bq_getr S hK fl_X0_26 dX0_settle_85 hv hW ?_
        refine lv_iload_n hx hb dX0_settle_88 rfl (lv_at hl 0 rfl) ?_
        refine lv_iconst (v := 0) hx hb dX0_settle_89 (by decide) ?_
        obtain ⟨v30, hv, h⟩ := bq_bind h
        refine bq_callV S hK hz mv_X0_78 (c_X3_firstAtLeast hv) (kc_X3_firstAtLeast hv) dX0_settle_90 [.int v30, .ref v28] (rest := [.ref v28]) rfl rfl rfl hl.1 (Nat.le_of_ble_eq_true rfl) ⟨Nat.le_of_ble_eq_true rfl, Nat.le_of_ble_eq_true rfl⟩ ⟨Nat.zero_le _, Nat.zero_le _⟩ hW (fun H locs hW => ?_)
        refine lv_iload_n hx hb dX0_settle_93 rfl (lv_at hl 0 rfl) ?_
        obtain ⟨E31, hv, h⟩ := bq_bind h
        refine bq_callV S hK hz mv_X0_81 (c_X3_insert hv) (kc_X3_insert hv) dX0_settle_94 [] (rest := []) rfl rfl rfl hl.1 (Nat.le_of_ble_eq_true rfl) ⟨Nat.le_of_ble_eq_true rfl, Nat.le_of_ble_eq_true rfl⟩ ⟨Nat.zero_le _, Nat.zero_le _⟩ hW (fun H locs hW => ?_)
        obtain ⟨v32, ev32⟩ : ∃ y : Int32, y = z22 + 1 := ⟨_, rfl⟩
        replace h := bq_letE ev32 h
        refine lv_iinc (v := v32) (lv' := [(2, .int v32), (3, .int v27), (0, .ref a0)]) hx hb dX0_settle_97 hl (k := 2) rfl (by rw [ev32]; rfl) (by decide) rfl (fun ls hl => ?_)
        refine lv_goto (tgt := 59) hx hb dX0_settle_100 (by decide) ?_
        exact ih v32 E31 _ _ _ h hW (lv_sub hl [2, 0] rfl)
  refine hL59 _ (fun y6 E7 H locs ls h hW hl => ?_) bq_fuel (0 : Int32) E5 _ _ _ h hW (lv_sub hl [1, 0] rfl)
  refine lv_aload_n hx hb dX0_settle_103 rfl (lv_at hl 0 rfl) ?_
  obtain ⟨v8, hv, h⟩ := bq_bind h
  refine bq_getr S hK fl_X0_33 dX0_settle_104 hv hW ?_
  refine lv_iconst (v := 0) hx hb dX0_settle_107 (by decide) ?_
  obtain ⟨E9, hv, h⟩ := bq_bind h
  refine bq_callV S hK hz mv_X0_75 (c_X3_cutTo hv) (kc_X3_cutTo hv) dX0_settle_108 [] (rest := []) rfl rfl rfl hl.1 (Nat.le_of_ble_eq_true rfl) ⟨Nat.le_of_ble_eq_true rfl, Nat.le_of_ble_eq_true rfl⟩ ⟨Nat.zero_le _, Nat.zero_le _⟩ hW (fun H locs hW => ?_)
  refine lv_aload_n hx hb dX0_settle_111 rfl (lv_at hl 0 rfl) ?_
  obtain ⟨v10, hv, h⟩ := bq_bind h
  refine bq_getr S hK fl_X0_30 dX0_settle_112 hv hW ?_
  refine lv_iconst (v := 0) hx hb dX0_settle_115 (by decide) ?_
  obtain ⟨E11, hv, h⟩ := bq_bind h
  refine bq_callV S hK hz mv_X0_75 (c_X3_cutTo hv) (kc_X3_cutTo hv) dX0_settle_116 [] (rest := []) rfl rfl rfl hl.1 (Nat.le_of_ble_eq_true rfl) ⟨Nat.le_of_ble_eq_true rfl, Nat.le_of_ble_eq_true rfl⟩ ⟨Nat.zero_le _, Nat.zero_le _⟩ hW (fun H locs hW => ?_)
  refine lv_iconst (v := 0) hx hb dX0_settle_119 (by decide) ?_
  refine lv_istore_n (lv' := [(2, .int (0 : Int32)), (0, .ref a0)]) hx hb dX0_settle_120 rfl hl (by decide) rfl (fun ls hl => ?_)
  have hL121 : ∀ (n : Nat) (z14 : Int32) (E15 : bq_E) (H1 : Heap) (locs1 : List Loc) (ls1 : Array Slot), tl_X0_settle_121 a0 n z14 E15 = some R → bq_H g L E15 z s.heap H1 locs1 → lv_has ls1 4 [(0, .ref a0), (2, .int z14)] → W p l e { frames := 2, cells := 0, slots := 0, locals := 45 } s m args below meth c H1 locs1 0 0 (MQ below (bq_Q g L R z none) args s 0 0 (bq_A z)) (F0 m 121 ls1 []) := by
    intro n
    induction n with
    | zero => intro z14 E15 H locs ls h hW hl; cases h
    | succ n ih =>
      intro z14 E15 H locs ls h hW hl
      rw [tl_X0_settle_121.eq_2] at h
      refine lv_iload_n hx hb dX0_settle_121 rfl (lv_at hl 1 rfl) ?_
      refine lv_aload_n hx hb dX0_settle_122 rfl (lv_at hl 0 rfl) ?_
      obtain ⟨v16, hv, h⟩ := bq_bind h
      refine bq_getr S hK fl_X0_26 dX0_settle_123 hv hW ?_
      obtain ⟨v17, hv, h⟩ := bq_bind h
      refine bq_callV S hK hz mv_X0_47 (c_X3_size hv) (kc_X3_size hv) dX0_settle_126 [.int v17, .int z14] (rest := [.int z14]) rfl rfl rfl hl.1 (Nat.le_of_ble_eq_true rfl) ⟨Nat.le_of_ble_eq_true rfl, Nat.le_of_ble_eq_true rfl⟩ ⟨Nat.zero_le _, Nat.zero_le _⟩ hW (fun H locs hW => ?_)
      refine lv_icmp_ge (tgt := 146) hx hb dX0_settle_129 (by decide) (fun hc => ?_) (fun hc => ?_)
      · replace h := bq_ifT hc h
        refine lv_aload_n hx hb dX0_settle_146 rfl (lv_at hl 0 rfl) ?_
        refine lv_iconst (v := 0) hx hb dX0_settle_147 (by decide) ?_
        obtain ⟨E18, hv, h⟩ := bq_bind h
        refine bq_puti S hK fp_X0_51 dX0_settle_148 hv hW (fun H locs hW => ?_)
        cases h
        exact bq_retv S hr hlocks hK hz dX0_settle_151 hW
      · replace h := bq_ifF hc h
        refine lv_aload_n hx hb dX0_settle_132 rfl (lv_at hl 0 rfl) ?_
        obtain ⟨v19, hv, h⟩ := bq_bind h
        refine bq_getr S hK fl_X0_30 dX0_settle_133 hv hW ?_
        refine lv_iconst (v := 0) hx hb dX0_settle_136 (by decide) ?_
        obtain ⟨E20, hv, h⟩ := bq_bind h
        refine bq_callV S hK hz mv_X0_65 (c_X3_append hv) (kc_X3_append hv) dX0_settle_137 [] (rest := []) rfl rfl rfl hl.1 (Nat.le_of_ble_eq_true rfl) ⟨Nat.le_of_ble_eq_true rfl, Nat.le_of_ble_eq_true rfl⟩ ⟨Nat.zero_le _, Nat.zero_le _⟩ hW (fun H locs hW => ?_)
        obtain ⟨v21, ev21⟩ : ∃ y : Int32, y = z14 + 1 := ⟨_, rfl⟩
        replace h := bq_letE ev21 h
        refine lv_iinc (v := v21) (lv' := [(2, .int v21), (0, .ref a0)]) hx hb dX0_settle_140 hl (k := 1) rfl (by rw [ev21]; rfl) (by decide) rfl (fun ls hl => ?_)
        refine lv_goto (tgt := 121) hx hb dX0_settle_143 (by decide) ?_
        exact ih v21 E20 _ _ _ h hW (lv_sub hl [1, 0] rfl)
  exact hL121 bq_fuel (0 : Int32) E11 _ _ _ h hW (lv_sub hl [1, 0] rfl)

theorem kc_X0_firstUnmarked {E : bq_E} {a0 : Nat} {x1 : Int32} {R : Int32} (h : tw_X0_firstUnmarked E a0 x1 = some R) : bq_cls E a0 = 0 := (bq_guard h).1
set_option maxHeartbeats 4000000 in
set_option maxRecDepth 100000 in
theorem c_X0_firstUnmarked {l : Launch} {g : bq_G} {L : List Nat} {z : Nat} {E : bq_E} {a0 : Nat} {x1 : Int32} {R : Int32} (h : tw_X0_firstUnmarked E a0 x1 = some R) : bq_M l yX0_firstUnmarked cX0_firstUnmarked 3 (some .int) 1 22 [.ref a0, .int x1] g L E z (some (.int R)) E := by
  unfold tw_X0_firstUnmarked at h
  obtain ⟨hcl, h⟩ := bq_guard h
  refine bq_enter (by decide) (Nat.le_of_ble_eq_true rfl) ?_
  intro p e s m args below meth c S hr hlocks hK hz hW ls hl
  have S : CallFix p m c cX0_firstUnmarked 3 s args bq_WA RX0 := S
  have hx := S.1
  have hb := S.2.1
  have hl : lv_has ls 3 [(0, .ref a0), (1, .int x1)] := hl
  refine lv_iload_n hx hb dX0_firstUnmarked_0 rfl (lv_at hl 1 rfl) ?_
  refine lv_istore_n (lv' := [(2, .int x1), (0, .ref a0), (1, .int x1)]) hx hb dX0_firstUnmarked_1 rfl hl (by decide) rfl (fun ls hl => ?_)
  have hL2 : ∀ (n : Nat) (z2 : Int32) (H1 : Heap) (locs1 : List Loc) (ls1 : Array Slot), tl_X0_firstUnmarked_2 E a0 n z2 = some R → bq_H g L E z s.heap H1 locs1 → lv_has ls1 3 [(0, .ref a0), (2, .int z2)] → W p l e { frames := 1, cells := 0, slots := 0, locals := 22 } s m args below meth c H1 locs1 0 0 (MQ below (bq_Q g L E z (some (.int R))) args s 0 0 (bq_A z)) (F0 m 2 ls1 []) := by
    intro n
    induction n with
    | zero => intro z2 H locs ls h hW hl; cases h
    | succ n ih =>
      intro z2 H locs ls h hW hl
      rw [tl_X0_firstUnmarked_2.eq_2] at h
      refine lv_iload_n hx hb dX0_firstUnmarked_2 rfl (lv_at hl 1 rfl) ?_
      refine lv_aload_n hx hb dX0_firstUnmarked_3 rfl (lv_at hl 0 rfl) ?_
      obtain ⟨v3, hv, h⟩ := bq_bind h
      refine bq_getr S hK fl_X0_26 dX0_firstUnmarked_4 hv hW ?_
      obtain ⟨v4, hv, h⟩ := bq_bind h
      refine bq_callV S hK hz mv_X0_47 (c_X3_size hv) (kc_X3_size hv) dX0_firstUnmarked_7 [.int v4, .int z2] (rest := [.int z2]) rfl rfl rfl hl.1 (Nat.le_of_ble_eq_true rfl) ⟨Nat.le_of_ble_eq_true rfl, Nat.le_of_ble_eq_true rfl⟩ ⟨Nat.zero_le _, Nat.zero_le _⟩ hW (fun H locs hW => ?_)
      refine lv_icmp_ge (tgt := 32) hx hb dX0_firstUnmarked_10 (by decide) (fun hc => ?_) (fun hc => ?_)
      · replace h := bq_ifT hc h
        refine lv_iload_n hx hb dX0_firstUnmarked_32 rfl (lv_at hl 1 rfl) ?_
        cases h
        exact bq_reti S hr hlocks hK hz dX0_firstUnmarked_33 hW
      · replace h := bq_ifF hc h
        refine lv_aload_n hx hb dX0_firstUnmarked_13 rfl (lv_at hl 0 rfl) ?_
        obtain ⟨v5, hv, h⟩ := bq_bind h
        refine bq_getr S hK fl_X0_30 dX0_firstUnmarked_14 hv hW ?_
        refine lv_iload_n hx hb dX0_firstUnmarked_17 rfl (lv_at hl 1 rfl) ?_
        refine lv_iconst (v := 0) hx hb dX0_firstUnmarked_18 (by decide) ?_
        obtain ⟨v6, hv, h⟩ := bq_bind h
        refine bq_callV S hK hz mv_X0_43 (c_X3_at hv) (kc_X3_at hv) dX0_firstUnmarked_19 [.int v6] (rest := []) rfl rfl rfl hl.1 (Nat.le_of_ble_eq_true rfl) ⟨Nat.le_of_ble_eq_true rfl, Nat.le_of_ble_eq_true rfl⟩ ⟨Nat.zero_le _, Nat.zero_le _⟩ hW (fun H locs hW => ?_)
        refine lv_iconst (v := 1) hx hb dX0_firstUnmarked_22 (by decide) ?_
        refine lv_icmp_ne (tgt := 32) hx hb dX0_firstUnmarked_23 (by decide) (fun hc => ?_) (fun hc => ?_)
        · replace h := bq_ifF hc h
          refine lv_iload_n hx hb dX0_firstUnmarked_32 rfl (lv_at hl 1 rfl) ?_
          cases h
          exact bq_reti S hr hlocks hK hz dX0_firstUnmarked_33 hW
        · replace h := bq_ifT hc h
          obtain ⟨v7, ev7⟩ : ∃ y : Int32, y = z2 + 1 := ⟨_, rfl⟩
          replace h := bq_letE ev7 h
          refine lv_iinc (v := v7) (lv' := [(2, .int v7), (0, .ref a0)]) hx hb dX0_firstUnmarked_26 hl (k := 1) rfl (by rw [ev7]; rfl) (by decide) rfl (fun ls hl => ?_)
          refine lv_goto (tgt := 2) hx hb dX0_firstUnmarked_29 (by decide) ?_
          exact ih v7 _ _ _ h hW (lv_sub hl [1, 0] rfl)
  exact hL2 bq_fuel x1 _ _ _ h hW (lv_sub hl [1, 0] rfl)

theorem kc_X0_leastBuffered {E : bq_E} {a0 : Nat} {x1 : Int32} {x2 : Int32} {R : Int32} (h : tw_X0_leastBuffered E a0 x1 x2 = some R) : bq_cls E a0 = 0 := (bq_guard h).1
set_option maxHeartbeats 4000000 in
set_option maxRecDepth 100000 in
theorem c_X0_leastBuffered {l : Launch} {g : bq_G} {L : List Nat} {z : Nat} {E : bq_E} {a0 : Nat} {x1 : Int32} {x2 : Int32} {R : Int32} (h : tw_X0_leastBuffered E a0 x1 x2 = some R) : bq_M l yX0_leastBuffered cX0_leastBuffered 6 (some .int) 1 22 [.ref a0, .int x1, .int x2] g L E z (some (.int R)) E := by
  unfold tw_X0_leastBuffered at h
  obtain ⟨hcl, h⟩ := bq_guard h
  refine bq_enter (by decide) (Nat.le_of_ble_eq_true rfl) ?_
  intro p e s m args below meth c S hr hlocks hK hz hW ls hl
  have S : CallFix p m c cX0_leastBuffered 6 s args bq_WA RX0 := S
  have hx := S.1
  have hb := S.2.1
  have hl : lv_has ls 6 [(0, .ref a0), (1, .int x1), (2, .int x2)] := hl
  refine lv_iload_n hx hb dX0_leastBuffered_0 rfl (lv_at hl 2 rfl) ?_
  refine lv_istore_n (lv' := [(3, .int x2), (0, .ref a0), (1, .int x1), (2, .int x2)]) hx hb dX0_leastBuffered_1 rfl hl (by decide) rfl (fun ls hl => ?_)
  refine lv_iconst (v := 0) hx hb dX0_leastBuffered_2 (by decide) ?_
  refine lv_istore (lv' := [(4, .int (0 : Int32)), (3, .int x2), (0, .ref a0), (1, .int x1), (2, .int x2)]) hx hb dX0_leastBuffered_3 hl (by decide) rfl (fun ls hl => ?_)
  have hL5 : ∀ (n : Nat) (z3 : Int32) (z4 : Int32) (H1 : Heap) (locs1 : List Loc) (ls1 : Array Slot), tl_X0_leastBuffered_5 E a0 x1 n z3 z4 = some R → bq_H g L E z s.heap H1 locs1 → lv_has ls1 6 [(0, .ref a0), (1, .int x1), (3, .int z3), (4, .int z4)] → W p l e { frames := 1, cells := 0, slots := 0, locals := 22 } s m args below meth c H1 locs1 0 0 (MQ below (bq_Q g L E z (some (.int R))) args s 0 0 (bq_A z)) (F0 m 5 ls1 []) := by
    intro n
    induction n with
    | zero => intro z3 z4 H locs ls h hW hl; cases h
    | succ n ih =>
      intro z3 z4 H locs ls h hW hl
      rw [tl_X0_leastBuffered_5.eq_2] at h
      refine lv_iload hx hb dX0_leastBuffered_5 (lv_at hl 3 rfl) ?_
      refine lv_aload_n hx hb dX0_leastBuffered_7 rfl (lv_at hl 0 rfl) ?_
      obtain ⟨v5, hv, h⟩ := bq_bind h
      refine bq_getr S hK fl_X0_33 dX0_leastBuffered_8 hv hW ?_
      obtain ⟨v6, hv, h⟩ := bq_bind h
      refine bq_callV S hK hz mv_X0_47 (c_X3_size hv) (kc_X3_size hv) dX0_leastBuffered_11 [.int v6, .int z4] (rest := [.int z4]) rfl rfl rfl hl.1 (Nat.le_of_ble_eq_true rfl) ⟨Nat.le_of_ble_eq_true rfl, Nat.le_of_ble_eq_true rfl⟩ ⟨Nat.zero_le _, Nat.zero_le _⟩ hW (fun H locs hW => ?_)
      refine lv_icmp_ge (tgt := 50) hx hb dX0_leastBuffered_14 (by decide) (fun hc => ?_) (fun hc => ?_)
      · replace h := bq_ifT hc h
        refine lv_iload_n hx hb dX0_leastBuffered_50 rfl (lv_at hl 2 rfl) ?_
        cases h
        exact bq_reti S hr hlocks hK hz dX0_leastBuffered_51 hW
      · replace h := bq_ifF hc h
        refine lv_aload_n hx hb dX0_leastBuffered_17 rfl (lv_at hl 0 rfl) ?_
        obtain ⟨v7, hv, h⟩ := bq_bind h
        refine bq_getr S hK fl_X0_33 dX0_leastBuffered_18 hv hW ?_
        refine lv_iload hx hb dX0_leastBuffered_21 (lv_at hl 3 rfl) ?_
        refine lv_iconst (v := 0) hx hb dX0_leastBuffered_23 (by decide) ?_
        obtain ⟨v8, hv, h⟩ := bq_bind h
        refine bq_callV S hK hz mv_X0_43 (c_X3_at hv) (kc_X3_at hv) dX0_leastBuffered_24 [.int v8] (rest := []) rfl rfl rfl hl.1 (Nat.le_of_ble_eq_true rfl) ⟨Nat.le_of_ble_eq_true rfl, Nat.le_of_ble_eq_true rfl⟩ ⟨Nat.zero_le _, Nat.zero_le _⟩ hW (fun H locs hW => ?_)
        refine lv_istore (lv' := [(5, .int v8), (0, .ref a0), (1, .int x1), (3, .int z3), (4, .int z4)]) hx hb dX0_leastBuffered_27 hl (by decide) rfl (fun ls hl => ?_)
        refine lv_iload hx hb dX0_leastBuffered_29 (lv_at hl 0 rfl) ?_
        refine lv_iload_n hx hb dX0_leastBuffered_31 rfl (lv_at hl 2 rfl) ?_
        refine lv_icmp_lt (tgt := 44) hx hb dX0_leastBuffered_32 (by decide) (fun hc => ?_) (fun hc => ?_)
        · replace h := bq_ifT hc h
          obtain ⟨v9, ev9⟩ : ∃ y : Int32, y = z4 + 1 := ⟨_, rfl⟩
          replace h := bq_letE ev9 h
          refine lv_iinc (v := v9) (lv' := [(4, .int v9), (5, .int v8), (0, .ref a0), (1, .int x1), (3, .int z3)]) hx hb dX0_leastBuffered_44 hl (k := 4) rfl (by rw [ev9]; rfl) (by decide) rfl (fun ls hl => ?_)
          refine lv_goto (tgt := 5) hx hb dX0_leastBuffered_47 (by decide) ?_
          exact ih z3 v9 _ _ _ h hW (lv_sub hl [2, 3, 4, 0] rfl)
        · replace h := bq_ifF hc h
          refine lv_iload hx hb dX0_leastBuffered_35 (lv_at hl 0 rfl) ?_
          refine lv_iload_n hx hb dX0_leastBuffered_37 rfl (lv_at hl 3 rfl) ?_
          refine lv_icmp_ge (tgt := 44) hx hb dX0_leastBuffered_38 (by decide) (fun hc => ?_) (fun hc => ?_)
          · replace h := bq_ifT hc h
            obtain ⟨v10, ev10⟩ : ∃ y : Int32, y = z4 + 1 := ⟨_, rfl⟩
            replace h := bq_letE ev10 h
            refine lv_iinc (v := v10) (lv' := [(4, .int v10), (5, .int v8), (0, .ref a0), (1, .int x1), (3, .int z3)]) hx hb dX0_leastBuffered_44 hl (k := 4) rfl (by rw [ev10]; rfl) (by decide) rfl (fun ls hl => ?_)
            refine lv_goto (tgt := 5) hx hb dX0_leastBuffered_47 (by decide) ?_
            exact ih z3 v10 _ _ _ h hW (lv_sub hl [2, 3, 4, 0] rfl)
          · replace h := bq_ifF hc h
            refine lv_iload hx hb dX0_leastBuffered_41 (lv_at hl 0 rfl) ?_
            refine lv_istore_n (lv' := [(3, .int v8), (5, .int v8), (0, .ref a0), (1, .int x1), (4, .int z4)]) hx hb dX0_leastBuffered_43 rfl hl (by decide) rfl (fun ls hl => ?_)
            obtain ⟨v11, ev11⟩ : ∃ y : Int32, y = z4 + 1 := ⟨_, rfl⟩
            replace h := bq_letE ev11 h
            refine lv_iinc (v := v11) (lv' := [(4, .int v11), (3, .int v8), (5, .int v8), (0, .ref a0), (1, .int x1)]) hx hb dX0_leastBuffered_44 hl (k := 4) rfl (by rw [ev11]; rfl) (by decide) rfl (fun ls hl => ?_)
            refine lv_goto (tgt := 5) hx hb dX0_leastBuffered_47 (by decide) ?_
            exact ih v8 v11 _ _ _ h hW (lv_sub hl [3, 4, 1, 0] rfl)
  exact hL5 bq_fuel x2 (0 : Int32) _ _ _ h hW (lv_sub hl [2, 3, 1, 0] rfl)

theorem kc_X0_keyInOrder {E : bq_E} {a0 : Nat} {x1 : Int32} {R : Int32} (h : tw_X0_keyInOrder E a0 x1 = some R) : bq_cls E a0 = 0 := (bq_guard h).1
set_option maxHeartbeats 4000000 in
set_option maxRecDepth 100000 in
theorem c_X0_keyInOrder {l : Launch} {g : bq_G} {L : List Nat} {z : Nat} {E : bq_E} {a0 : Nat} {x1 : Int32} {R : Int32} (h : tw_X0_keyInOrder E a0 x1 = some R) : bq_M l yX0_keyInOrder cX0_keyInOrder 6 (some .int) 2 47 [.ref a0, .int x1] g L E z (some (.int R)) E := by
  unfold tw_X0_keyInOrder at h
  obtain ⟨hcl, h⟩ := bq_guard h
  refine bq_enter (by decide) (Nat.le_of_ble_eq_true rfl) ?_
  intro p e s m args below meth c S hr hlocks hK hz hW ls hl
  have S : CallFix p m c cX0_keyInOrder 6 s args bq_WA RX0 := S
  have hx := S.1
  have hb := S.2.1
  have hl : lv_has ls 6 [(0, .ref a0), (1, .int x1)] := hl
  refine lv_iload_n hx hb dX0_keyInOrder_0 rfl (lv_at hl 1 rfl) ?_
  refine lv_aload_n hx hb dX0_keyInOrder_1 rfl (lv_at hl 0 rfl) ?_
  obtain ⟨v1, hv, h⟩ := bq_bind h
  refine bq_callV S hK hz mv_X0_54 (c_X0_keyCount hv) (kc_X0_keyCount hv) dX0_keyInOrder_2 [.int v1, .int x1] (rest := [.int x1]) rfl rfl rfl hl.1 (Nat.le_of_ble_eq_true rfl) ⟨Nat.le_of_ble_eq_true rfl, Nat.le_of_ble_eq_true rfl⟩ ⟨Nat.zero_le _, Nat.zero_le _⟩ hW (fun H locs hW => ?_)
  refine lv_icmp_lt (tgt := 10) hx hb dX0_keyInOrder_5 (by decide) (fun hc => ?_) (fun hc => ?_)
  · replace h := bq_ifT hc h
    refine lv_iconst (v := (-1)) hx hb dX0_keyInOrder_10 (by decide) ?_
    refine lv_istore_n (lv' := [(2, .int (-1 : Int32)), (0, .ref a0), (1, .int x1)]) hx hb dX0_keyInOrder_11 rfl hl (by decide) rfl (fun ls hl => ?_)
    refine lv_iconst (v := 0) hx hb dX0_keyInOrder_12 (by decide) ?_
    refine lv_istore_n (lv' := [(3, .int (0 : Int32)), (2, .int (-1 : Int32)), (0, .ref a0), (1, .int x1)]) hx hb dX0_keyInOrder_13 rfl hl (by decide) rfl (fun ls hl => ?_)
    have hL14 : ∀ (n : Nat) (z4 : Int32) (z5 : Int32) (H1 : Heap) (locs1 : List Loc) (ls1 : Array Slot), tl_X0_keyInOrder_14 E a0 x1 n z4 z5 = some R → bq_H g L E z s.heap H1 locs1 → lv_has ls1 6 [(0, .ref a0), (1, .int x1), (2, .int z4), (3, .int z5)] → W p l e { frames := 2, cells := 0, slots := 0, locals := 47 } s m args below meth c H1 locs1 0 0 (MQ below (bq_Q g L E z (some (.int R))) args s 0 0 (bq_A z)) (F0 m 14 ls1 []) := by
      intro n
      induction n with
      | zero => intro z4 z5 H locs ls h hW hl; cases h
      | succ n ih =>
        intro z4 z5 H locs ls h hW hl
        rw [tl_X0_keyInOrder_14.eq_2] at h
        refine lv_iload_n hx hb dX0_keyInOrder_14 rfl (lv_at hl 3 rfl) ?_
        refine lv_iload_n hx hb dX0_keyInOrder_15 rfl (lv_at hl 1 rfl) ?_
        refine lv_icmp_gt (tgt := 65) hx hb dX0_keyInOrder_16 (by decide) (fun hc => ?_) (fun hc => ?_)
        · replace h := bq_ifT hc h
          refine lv_iload_n hx hb dX0_keyInOrder_65 rfl (lv_at hl 2 rfl) ?_
          cases h
          exact bq_reti S hr hlocks hK hz dX0_keyInOrder_66 hW
        · replace h := bq_ifF hc h
          refine lv_iload_n hx hb dX0_keyInOrder_19 rfl (lv_at hl 2 rfl) ?_
          refine lv_iconst (v := 1) hx hb dX0_keyInOrder_20 (by decide) ?_
          refine lv_iadd hx hb dX0_keyInOrder_21 ?_
          refine lv_topi (fun v6 ev6 => ?_)
          replace h := bq_letE ev6 h
          refine lv_istore (lv' := [(4, .int v6), (0, .ref a0), (1, .int x1), (2, .int z4), (3, .int z5)]) hx hb dX0_keyInOrder_22 hl (by decide) rfl (fun ls hl => ?_)
          refine lv_aload_n hx hb dX0_keyInOrder_24 rfl (lv_at hl 1 rfl) ?_
          refine lv_aload_n hx hb dX0_keyInOrder_25 rfl (lv_at hl 1 rfl) ?_
          obtain ⟨v7, hv, h⟩ := bq_bind h
          refine bq_getr S hK fl_X0_26 dX0_keyInOrder_26 hv hW ?_
          refine lv_iload hx hb dX0_keyInOrder_29 (lv_at hl 0 rfl) ?_
          refine lv_iconst (v := 0) hx hb dX0_keyInOrder_31 (by decide) ?_
          obtain ⟨v8, hv, h⟩ := bq_bind h
          refine bq_callV S hK hz mv_X0_78 (c_X3_firstAtLeast hv) (kc_X3_firstAtLeast hv) dX0_keyInOrder_32 [.int v8, .ref a0] (rest := [.ref a0]) rfl rfl rfl hl.1 (Nat.le_of_ble_eq_true rfl) ⟨Nat.le_of_ble_eq_true rfl, Nat.le_of_ble_eq_true rfl⟩ ⟨Nat.zero_le _, Nat.zero_le _⟩ hW (fun H locs hW => ?_)
          obtain ⟨v9, hv, h⟩ := bq_bind h
          refine bq_callV S hK hz mv_X0_84 (c_X0_firstUnmarked hv) (kc_X0_firstUnmarked hv) dX0_keyInOrder_35 [.int v9] (rest := []) rfl rfl rfl hl.1 (Nat.le_of_ble_eq_true rfl) ⟨Nat.le_of_ble_eq_true rfl, Nat.le_of_ble_eq_true rfl⟩ ⟨Nat.zero_le _, Nat.zero_le _⟩ hW (fun H locs hW => ?_)
          refine lv_istore (lv' := [(5, .int v9), (4, .int v6), (0, .ref a0), (1, .int x1), (2, .int z4), (3, .int z5)]) hx hb dX0_keyInOrder_38 hl (by decide) rfl (fun ls hl => ?_)
          refine lv_aload_n hx hb dX0_keyInOrder_40 rfl (lv_at hl 2 rfl) ?_
          refine lv_iload hx hb dX0_keyInOrder_41 (lv_at hl 1 rfl) ?_
          refine lv_aload_n hx hb dX0_keyInOrder_43 rfl (lv_at hl 2 rfl) ?_
          obtain ⟨v10, hv, h⟩ := bq_bind h
          refine bq_getr S hK fl_X0_26 dX0_keyInOrder_44 hv hW ?_
          refine lv_iload hx hb dX0_keyInOrder_47 (lv_at hl 0 rfl) ?_
          refine lv_sipush (v := 10000) hx hb dX0_keyInOrder_49 (by decide) ?_
          obtain ⟨v11, hv, h⟩ := bq_bind h
          refine bq_callV S hK hz mv_X0_43 (c_X3_at hv) (kc_X3_at hv) dX0_keyInOrder_52 [.int v11, .int v6, .ref a0] (rest := [.int v6, .ref a0]) rfl rfl rfl hl.1 (Nat.le_of_ble_eq_true rfl) ⟨Nat.le_of_ble_eq_true rfl, Nat.le_of_ble_eq_true rfl⟩ ⟨Nat.zero_le _, Nat.zero_le _⟩ hW (fun H locs hW => ?_)
          obtain ⟨v12, hv, h⟩ := bq_bind h
          refine bq_callV S hK hz mv_X0_87 (c_X0_leastBuffered hv) (kc_X0_leastBuffered hv) dX0_keyInOrder_55 [.int v12] (rest := []) rfl rfl rfl hl.1 (Nat.le_of_ble_eq_true rfl) ⟨Nat.le_of_ble_eq_true rfl, Nat.le_of_ble_eq_true rfl⟩ ⟨Nat.zero_le _, Nat.zero_le _⟩ hW (fun H locs hW => ?_)
          refine lv_istore_n (lv' := [(2, .int v12), (5, .int v9), (4, .int v6), (0, .ref a0), (1, .int x1), (3, .int z5)]) hx hb dX0_keyInOrder_58 rfl hl (by decide) rfl (fun ls hl => ?_)
          obtain ⟨v13, ev13⟩ : ∃ y : Int32, y = z5 + 1 := ⟨_, rfl⟩
          replace h := bq_letE ev13 h
          refine lv_iinc (v := v13) (lv' := [(3, .int v13), (2, .int v12), (5, .int v9), (4, .int v6), (0, .ref a0), (1, .int x1)]) hx hb dX0_keyInOrder_59 hl (k := 5) rfl (by rw [ev13]; rfl) (by decide) rfl (fun ls hl => ?_)
          refine lv_goto (tgt := 14) hx hb dX0_keyInOrder_62 (by decide) ?_
          exact ih v12 v13 _ _ _ h hW (lv_sub hl [4, 5, 1, 0] rfl)
    exact hL14 bq_fuel (-1 : Int32) (0 : Int32) _ _ _ h hW (lv_sub hl [2, 3, 1, 0] rfl)
  · replace h := bq_ifF hc h
    refine lv_iconst (v := (-1)) hx hb dX0_keyInOrder_8 (by decide) ?_
    cases h
    exact bq_reti S hr hlocks hK hz dX0_keyInOrder_9 hW

theorem kc_X0_begin {E : bq_E} {a0 : Nat} {x1 : Int32} {x2 : Int32} {R : bq_E} (h : tw_X0_begin E a0 x1 x2 = some R) : bq_cls E a0 = 0 := (bq_guard h).1
set_option maxHeartbeats 4000000 in
set_option maxRecDepth 100000 in
theorem c_X0_begin {l : Launch} {g : bq_G} {L : List Nat} {z : Nat} {E : bq_E} {a0 : Nat} {x1 : Int32} {x2 : Int32} {R : bq_E} (h : tw_X0_begin E a0 x1 x2 = some R) : bq_M l yX0_begin cX0_begin 3 none 1 21 [.ref a0, .int x1, .int x2] g L E z none R := by
  unfold tw_X0_begin at h
  obtain ⟨hcl, h⟩ := bq_guard h
  refine bq_enter (by decide) (Nat.le_of_ble_eq_true rfl) ?_
  intro p e s m args below meth c S hr hlocks hK hz hW ls hl
  have S : CallFix p m c cX0_begin 3 s args bq_WA RX0 := S
  have hx := S.1
  have hb := S.2.1
  have hl : lv_has ls 3 [(0, .ref a0), (1, .int x1), (2, .int x2)] := hl
  refine lv_aload_n hx hb dX0_begin_0 rfl (lv_at hl 0 rfl) ?_
  refine lv_iload_n hx hb dX0_begin_1 rfl (lv_at hl 1 rfl) ?_
  obtain ⟨E1, hv, h⟩ := bq_bind h
  refine bq_puti S hK fp_X0_9 dX0_begin_2 hv hW (fun H locs hW => ?_)
  refine lv_aload_n hx hb dX0_begin_5 rfl (lv_at hl 0 rfl) ?_
  refine lv_iconst (v := (-1)) hx hb dX0_begin_6 (by decide) ?_
  obtain ⟨E2, hv, h⟩ := bq_bind h
  refine bq_puti S hK fp_X0_15 dX0_begin_7 hv hW (fun H locs hW => ?_)
  refine lv_aload_n hx hb dX0_begin_10 rfl (lv_at hl 0 rfl) ?_
  refine lv_iconst (v := (-1)) hx hb dX0_begin_11 (by decide) ?_
  obtain ⟨E3, hv, h⟩ := bq_bind h
  refine bq_puti S hK fp_X0_18 dX0_begin_12 hv hW (fun H locs hW => ?_)
  refine lv_aload_n hx hb dX0_begin_15 rfl (lv_at hl 0 rfl) ?_
  refine lv_iload_n hx hb dX0_begin_16 rfl (lv_at hl 2 rfl) ?_
  obtain ⟨E4, hv, h⟩ := bq_bind h
  refine bq_puti S hK fp_X0_90 dX0_begin_17 hv hW (fun H locs hW => ?_)
  refine lv_aload_n hx hb dX0_begin_20 rfl (lv_at hl 0 rfl) ?_
  refine lv_iconst (v := 0) hx hb dX0_begin_21 (by decide) ?_
  obtain ⟨E5, hv, h⟩ := bq_bind h
  refine bq_puti S hK fp_X0_51 dX0_begin_22 hv hW (fun H locs hW => ?_)
  refine lv_aload_n hx hb dX0_begin_25 rfl (lv_at hl 0 rfl) ?_
  obtain ⟨v6, hv, h⟩ := bq_bind h
  refine bq_getr S hK fl_X0_26 dX0_begin_26 hv hW ?_
  refine lv_iconst (v := 0) hx hb dX0_begin_29 (by decide) ?_
  obtain ⟨E7, hv, h⟩ := bq_bind h
  refine bq_callV S hK hz mv_X0_75 (c_X3_cutTo hv) (kc_X3_cutTo hv) dX0_begin_30 [] (rest := []) rfl rfl rfl hl.1 (Nat.le_of_ble_eq_true rfl) ⟨Nat.le_of_ble_eq_true rfl, Nat.le_of_ble_eq_true rfl⟩ ⟨Nat.zero_le _, Nat.zero_le _⟩ hW (fun H locs hW => ?_)
  refine lv_aload_n hx hb dX0_begin_33 rfl (lv_at hl 0 rfl) ?_
  obtain ⟨v8, hv, h⟩ := bq_bind h
  refine bq_getr S hK fl_X0_30 dX0_begin_34 hv hW ?_
  refine lv_iconst (v := 0) hx hb dX0_begin_37 (by decide) ?_
  obtain ⟨E9, hv, h⟩ := bq_bind h
  refine bq_callV S hK hz mv_X0_75 (c_X3_cutTo hv) (kc_X3_cutTo hv) dX0_begin_38 [] (rest := []) rfl rfl rfl hl.1 (Nat.le_of_ble_eq_true rfl) ⟨Nat.le_of_ble_eq_true rfl, Nat.le_of_ble_eq_true rfl⟩ ⟨Nat.zero_le _, Nat.zero_le _⟩ hW (fun H locs hW => ?_)
  refine lv_aload_n hx hb dX0_begin_41 rfl (lv_at hl 0 rfl) ?_
  obtain ⟨v10, hv, h⟩ := bq_bind h
  refine bq_getr S hK fl_X0_33 dX0_begin_42 hv hW ?_
  refine lv_iconst (v := 0) hx hb dX0_begin_45 (by decide) ?_
  obtain ⟨E11, hv, h⟩ := bq_bind h
  refine bq_callV S hK hz mv_X0_75 (c_X3_cutTo hv) (kc_X3_cutTo hv) dX0_begin_46 [] (rest := []) rfl rfl rfl hl.1 (Nat.le_of_ble_eq_true rfl) ⟨Nat.le_of_ble_eq_true rfl, Nat.le_of_ble_eq_true rfl⟩ ⟨Nat.zero_le _, Nat.zero_le _⟩ hW (fun H locs hW => ?_)
  cases h
  exact bq_retv S hr hlocks hK hz dX0_begin_49 hW

theorem kc_X0_copyFrom {E : bq_E} {a0 : Nat} {a1 : Nat} {R : bq_E} (h : tw_X0_copyFrom E a0 a1 = some R) : bq_cls E a0 = 0 := (bq_guard h).1
set_option maxHeartbeats 4000000 in
set_option maxRecDepth 100000 in
theorem c_X0_copyFrom {l : Launch} {g : bq_G} {L : List Nat} {z : Nat} {E : bq_E} {a0 : Nat} {a1 : Nat} {R : bq_E} (h : tw_X0_copyFrom E a0 a1 = some R) : bq_M l yX0_copyFrom cX0_copyFrom 2 none 3 83 [.ref a0, .ref a1] g L E z none R := by
  unfold tw_X0_copyFrom at h
  obtain ⟨hcl, h⟩ := bq_guard h
  refine bq_enter (by decide) (Nat.le_of_ble_eq_true rfl) ?_
  intro p e s m args below meth c S hr hlocks hK hz hW ls hl
  have S : CallFix p m c cX0_copyFrom 2 s args bq_WA RX0 := S
  have hx := S.1
  have hb := S.2.1
  have hl : lv_has ls 2 [(0, .ref a0), (1, .ref a1)] := hl
  refine lv_aload_n hx hb dX0_copyFrom_0 rfl (lv_at hl 0 rfl) ?_
  refine lv_aload_n hx hb dX0_copyFrom_1 rfl (lv_at hl 1 rfl) ?_
  obtain ⟨v1, hv, h⟩ := bq_bind h
  refine bq_geti S hK fl_X0_9 dX0_copyFrom_2 hv hW ?_
  obtain ⟨E2, hv, h⟩ := bq_bind h
  refine bq_puti S hK fp_X0_9 dX0_copyFrom_5 hv hW (fun H locs hW => ?_)
  refine lv_aload_n hx hb dX0_copyFrom_8 rfl (lv_at hl 0 rfl) ?_
  refine lv_aload_n hx hb dX0_copyFrom_9 rfl (lv_at hl 1 rfl) ?_
  obtain ⟨v3, hv, h⟩ := bq_bind h
  refine bq_geti S hK fl_X0_15 dX0_copyFrom_10 hv hW ?_
  obtain ⟨E4, hv, h⟩ := bq_bind h
  refine bq_puti S hK fp_X0_15 dX0_copyFrom_13 hv hW (fun H locs hW => ?_)
  refine lv_aload_n hx hb dX0_copyFrom_16 rfl (lv_at hl 0 rfl) ?_
  refine lv_aload_n hx hb dX0_copyFrom_17 rfl (lv_at hl 1 rfl) ?_
  obtain ⟨v5, hv, h⟩ := bq_bind h
  refine bq_geti S hK fl_X0_18 dX0_copyFrom_18 hv hW ?_
  obtain ⟨E6, hv, h⟩ := bq_bind h
  refine bq_puti S hK fp_X0_18 dX0_copyFrom_21 hv hW (fun H locs hW => ?_)
  refine lv_aload_n hx hb dX0_copyFrom_24 rfl (lv_at hl 0 rfl) ?_
  refine lv_aload_n hx hb dX0_copyFrom_25 rfl (lv_at hl 1 rfl) ?_
  obtain ⟨v7, hv, h⟩ := bq_bind h
  refine bq_geti S hK fl_X0_90 dX0_copyFrom_26 hv hW ?_
  obtain ⟨E8, hv, h⟩ := bq_bind h
  refine bq_puti S hK fp_X0_90 dX0_copyFrom_29 hv hW (fun H locs hW => ?_)
  refine lv_aload_n hx hb dX0_copyFrom_32 rfl (lv_at hl 0 rfl) ?_
  refine lv_aload_n hx hb dX0_copyFrom_33 rfl (lv_at hl 1 rfl) ?_
  obtain ⟨v9, hv, h⟩ := bq_bind h
  refine bq_geti S hK fl_X0_51 dX0_copyFrom_34 hv hW ?_
  obtain ⟨E10, hv, h⟩ := bq_bind h
  refine bq_puti S hK fp_X0_51 dX0_copyFrom_37 hv hW (fun H locs hW => ?_)
  refine lv_aload_n hx hb dX0_copyFrom_40 rfl (lv_at hl 0 rfl) ?_
  obtain ⟨v11, hv, h⟩ := bq_bind h
  refine bq_getr S hK fl_X0_26 dX0_copyFrom_41 hv hW ?_
  refine lv_aload_n hx hb dX0_copyFrom_44 rfl (lv_at hl 1 rfl) ?_
  obtain ⟨v12, hv, h⟩ := bq_bind h
  refine bq_getr S hK fl_X0_26 dX0_copyFrom_45 hv hW ?_
  obtain ⟨E13, hv, h⟩ := bq_bind h
  refine bq_callV S hK hz mv_X0_93 (c_X3_copyFrom hv) (kc_X3_copyFrom hv) dX0_copyFrom_48 [] (rest := []) rfl rfl rfl hl.1 (Nat.le_of_ble_eq_true rfl) ⟨Nat.le_of_ble_eq_true rfl, Nat.le_of_ble_eq_true rfl⟩ ⟨Nat.zero_le _, Nat.zero_le _⟩ hW (fun H locs hW => ?_)
  refine lv_aload_n hx hb dX0_copyFrom_51 rfl (lv_at hl 0 rfl) ?_
  obtain ⟨v14, hv, h⟩ := bq_bind h
  refine bq_getr S hK fl_X0_30 dX0_copyFrom_52 hv hW ?_
  refine lv_aload_n hx hb dX0_copyFrom_55 rfl (lv_at hl 1 rfl) ?_
  obtain ⟨v15, hv, h⟩ := bq_bind h
  refine bq_getr S hK fl_X0_30 dX0_copyFrom_56 hv hW ?_
  obtain ⟨E16, hv, h⟩ := bq_bind h
  refine bq_callV S hK hz mv_X0_93 (c_X3_copyFrom hv) (kc_X3_copyFrom hv) dX0_copyFrom_59 [] (rest := []) rfl rfl rfl hl.1 (Nat.le_of_ble_eq_true rfl) ⟨Nat.le_of_ble_eq_true rfl, Nat.le_of_ble_eq_true rfl⟩ ⟨Nat.zero_le _, Nat.zero_le _⟩ hW (fun H locs hW => ?_)
  refine lv_aload_n hx hb dX0_copyFrom_62 rfl (lv_at hl 0 rfl) ?_
  obtain ⟨v17, hv, h⟩ := bq_bind h
  refine bq_getr S hK fl_X0_33 dX0_copyFrom_63 hv hW ?_
  refine lv_aload_n hx hb dX0_copyFrom_66 rfl (lv_at hl 1 rfl) ?_
  obtain ⟨v18, hv, h⟩ := bq_bind h
  refine bq_getr S hK fl_X0_33 dX0_copyFrom_67 hv hW ?_
  obtain ⟨E19, hv, h⟩ := bq_bind h
  refine bq_callV S hK hz mv_X0_93 (c_X3_copyFrom hv) (kc_X3_copyFrom hv) dX0_copyFrom_70 [] (rest := []) rfl rfl rfl hl.1 (Nat.le_of_ble_eq_true rfl) ⟨Nat.le_of_ble_eq_true rfl, Nat.le_of_ble_eq_true rfl⟩ ⟨Nat.zero_le _, Nat.zero_le _⟩ hW (fun H locs hW => ?_)
  refine lv_aload_n hx hb dX0_copyFrom_73 rfl (lv_at hl 0 rfl) ?_
  obtain ⟨v20, hv, h⟩ := bq_bind h
  refine bq_getr S hK fl_X0_39 dX0_copyFrom_74 hv hW ?_
  refine lv_aload_n hx hb dX0_copyFrom_77 rfl (lv_at hl 1 rfl) ?_
  obtain ⟨v21, hv, h⟩ := bq_bind h
  refine bq_getr S hK fl_X0_39 dX0_copyFrom_78 hv hW ?_
  obtain ⟨E22, hv, h⟩ := bq_bind h
  refine bq_callV S hK hz mv_X0_97 (c_X2_copyFrom hv) (kc_X2_copyFrom hv) dX0_copyFrom_81 [] (rest := []) rfl rfl rfl hl.1 (Nat.le_of_ble_eq_true rfl) ⟨Nat.le_of_ble_eq_true rfl, Nat.le_of_ble_eq_true rfl⟩ ⟨Nat.zero_le _, Nat.zero_le _⟩ hW (fun H locs hW => ?_)
  cases h
  exact bq_retv S hr hlocks hK hz dX0_copyFrom_84 hW
