theorem kc_X6_requireNode {E : bq_E} {a0 : Nat} {x1 : Int32} {R : (Unit ⊕ String)} (h : tw_X6_requireNode E a0 x1 = some R) : bq_cls E a0 = 6 := (bq_guard h).1
set_option maxHeartbeats 4000000 in
set_option maxRecDepth 100000 in
theorem cr_X6_requireNode {l : Launch} {g : bq_G} {L : List Nat} {z : Nat} {E : bq_E} {a0 : Nat} {x1 : Int32} {R : Unit} (h : tw_X6_requireNode E a0 x1 = some (Sum.inl R)) : bq_M l yX6_requireNode cX6_requireNode 2 none 0 0 [.ref a0, .int x1] g L E z none E := by
  unfold tw_X6_requireNode at h
  obtain ⟨hcl, h⟩ := bq_guard h
  refine bq_enter (by decide) (Nat.le_of_ble_eq_true rfl) ?_
  intro p e s m args below meth c S hr hlocks hK hz hW ls hl
  have S : CallFix p m c cX6_requireNode 2 s args bq_WA RX6 := S
  have hx := S.1
  have hb := S.2.1
  have hl : lv_has ls 2 [(0, .ref a0), (1, .int x1)] := hl
  refine lv_iload_n hx hb dX6_requireNode_0 rfl (lv_at hl 1 rfl) ?_
  obtain ⟨k15, ek15, h⟩ := bq_letK h
  have hjk15 : ∀ (u0 : Unit) (H1 : Heap) (locs1 : List Loc) (ls1 : Array Slot), k15 u0 = some (Sum.inl R) → bq_H g L E z s.heap H1 locs1 → lv_has ls1 2 [] → W p l e { frames := 0, cells := 0, slots := 0, locals := 0 } s m args below meth c H1 locs1 0 0 (MQ below (bq_Q g L E z none) args s 0 0 (bq_A z)) (F0 m 15 ls1 []) := by
    intro u0 H locs ls h hW hl
    replace h := bq_kap1 ek15 h
    cases h
  clear ek15
  refine lv_if_lt (tgt := 15) hx hb dX6_requireNode_1 (by decide) (fun hc => ?_) (fun hc => ?_)
  · replace h := bq_ifT hc h
    exact hjk15 () _ _ _ h hW (lv_sub hl [] rfl)
  · replace h := bq_ifF hc h
    refine lv_iload_n hx hb dX6_requireNode_4 rfl (lv_at hl 1 rfl) ?_
    refine lv_aload_n hx hb dX6_requireNode_5 rfl (lv_at hl 0 rfl) ?_
    obtain ⟨v1, hv, h⟩ := bq_bind h
    refine bq_getr S hK fl_X6_10 dX6_requireNode_6 hv hW ?_
    obtain ⟨v2, hv, h⟩ := bq_bind h
    refine bq_geti S hK fl_X6_38 dX6_requireNode_9 hv hW ?_
    refine lv_icmp_lt (tgt := 25) hx hb dX6_requireNode_12 (by decide) (fun hc => ?_) (fun hc => ?_)
    · replace h := bq_ifT hc h
      cases h
      exact bq_retv S hr hlocks hK hz dX6_requireNode_25 hW
    · replace h := bq_ifF hc h
      exact hjk15 () _ _ _ h hW (lv_sub hl [] rfl)

theorem kc_X6_require {E : bq_E} {a0 : Nat} {x1 : Int32} {R : (Unit ⊕ String)} (h : tw_X6_require E a0 x1 = some R) : bq_cls E a0 = 6 := (bq_guard h).1
set_option maxHeartbeats 4000000 in
set_option maxRecDepth 100000 in
theorem cr_X6_require {l : Launch} {g : bq_G} {L : List Nat} {z : Nat} {E : bq_E} {a0 : Nat} {x1 : Int32} {R : Unit} (h : tw_X6_require E a0 x1 = some (Sum.inl R)) : bq_M l yX6_require cX6_require 2 none 0 0 [.ref a0, .int x1] g L E z none E := by
  unfold tw_X6_require at h
  obtain ⟨hcl, h⟩ := bq_guard h
  refine bq_enter (by decide) (Nat.le_of_ble_eq_true rfl) ?_
  intro p e s m args below meth c S hr hlocks hK hz hW ls hl
  have S : CallFix p m c cX6_require 2 s args bq_WA RX6 := S
  have hx := S.1
  have hb := S.2.1
  have hl : lv_has ls 2 [(0, .ref a0), (1, .int x1)] := hl
  refine lv_iload_n hx hb dX6_require_0 rfl (lv_at hl 1 rfl) ?_
  refine lv_if_ne (tgt := 14) hx hb dX6_require_1 (by decide) (fun hc => ?_) (fun hc => ?_)
  · replace h := bq_ifF hc h
    cases h
    exact bq_retv S hr hlocks hK hz dX6_require_14 hW
  · replace h := bq_ifT hc h
    cases h

theorem kc_X6_addNode {E : bq_E} {a0 : Nat} {x1 : Int32} {x2 : Int32} {R : ((Int32 ⊕ String) × bq_E)} (h : tw_X6_addNode E a0 x1 x2 = some R) : bq_cls E a0 = 6 := (bq_guard h).1
set_option maxHeartbeats 4000000 in
set_option maxRecDepth 100000 in
theorem cr_X6_addNode {l : Launch} {g : bq_G} {L : List Nat} {z : Nat} {E : bq_E} {a0 : Nat} {x1 : Int32} {x2 : Int32} {R : Int32} {E9 : bq_E} (h : tw_X6_addNode E a0 x1 x2 = some (Sum.inl R, E9)) : bq_M l yX6_addNode cX6_addNode 3 (some .int) 6 148 [.ref a0, .int x1, .int x2] g L E z (some (.int R)) E9 := by
  unfold tw_X6_addNode at h
  obtain ⟨hcl, h⟩ := bq_guard h
  refine bq_enter (by decide) (Nat.le_of_ble_eq_true rfl) ?_
  intro p e s m args below meth c S hr hlocks hK hz hW ls hl
  have S : CallFix p m c cX6_addNode 3 s args bq_WA RX6 := S
  have hx := S.1
  have hb := S.2.1
  have hl : lv_has ls 3 [(0, .ref a0), (1, .int x1), (2, .int x2)] := hl
  refine lv_aload_n hx hb dX6_addNode_0 rfl (lv_at hl 0 rfl) ?_
  refine lv_iload_n hx hb dX6_addNode_1 rfl (lv_at hl 1 rfl) ?_
  obtain ⟨v1, hv, h⟩ := bq_bind h
  obtain v2 | X3 := v1
  rotate_left
  · replace h := bq_elimR h
    cases h
  replace h := bq_elimL h
  refine bq_callV S hK hz mv_X6_30 (cr_X6_requireNode hv) (kc_X6_requireNode hv) dX6_addNode_2 [] (rest := []) rfl rfl rfl hl.1 (Nat.le_of_ble_eq_true rfl) ⟨Nat.le_of_ble_eq_true rfl, Nat.le_of_ble_eq_true rfl⟩ ⟨Nat.zero_le _, Nat.zero_le _⟩ hW (fun H locs hW => ?_)
  refine lv_aload_n hx hb dX6_addNode_5 rfl (lv_at hl 0 rfl) ?_
  refine lv_iload_n hx hb dX6_addNode_6 rfl (lv_at hl 2 rfl) ?_
  refine lv_iconst (v := 1) hx hb dX6_addNode_7 (by decide) ?_
  obtain ⟨k21, ek21, h⟩ := bq_letK h
  have hjk21 : ∀ (b4 : Int32) (H1 : Heap) (locs1 : List Loc) (ls1 : Array Slot), k21 b4 = some (Sum.inl R, E9) → bq_H g L E z s.heap H1 locs1 → lv_has ls1 3 [(0, .ref a0), (1, .int x1), (2, .int x2)] → W p l e { frames := 6, cells := 0, slots := 0, locals := 148 } s m args below meth c H1 locs1 0 0 (MQ below (bq_Q g L E9 z (some (.int R))) args s 0 0 (bq_A z)) (F0 m 21 ls1 [.int b4, .ref a0]) := by
    intro b4 H locs ls h hW hl
    replace h := bq_kap1 ek21 h
    obtain ⟨v5, hv, h⟩ := bq_bind h
    obtain v6 | X7 := v5
    rotate_left
    · replace h := bq_elimR h
      cases h
    replace h := bq_elimL h
    refine bq_callV S hK hz mv_X6_34 (cr_X6_require hv) (kc_X6_require hv) dX6_addNode_21 [] (rest := []) rfl rfl rfl hl.1 (Nat.le_of_ble_eq_true rfl) ⟨Nat.le_of_ble_eq_true rfl, Nat.le_of_ble_eq_true rfl⟩ ⟨Nat.zero_le _, Nat.zero_le _⟩ hW (fun H locs hW => ?_)
    refine lv_aload_n hx hb dX6_addNode_24 rfl (lv_at hl 0 rfl) ?_
    obtain ⟨v8, hv, h⟩ := bq_bind h
    refine bq_getr S hK fl_X6_10 dX6_addNode_25 hv hW ?_
    obtain ⟨v9, hv, h⟩ := bq_bind h
    refine bq_geti S hK fl_X6_38 dX6_addNode_28 hv hW ?_
    refine lv_bipush (v := 15) hx hb dX6_addNode_31 (by decide) ?_
    obtain ⟨k52, ek52, h⟩ := bq_letK h
    have hjk52 : ∀ (u0 : Unit) (H1 : Heap) (locs1 : List Loc) (ls1 : Array Slot), k52 u0 = some (Sum.inl R, E9) → bq_H g L E z s.heap H1 locs1 → lv_has ls1 3 [] → W p l e { frames := 6, cells := 0, slots := 0, locals := 148 } s m args below meth c H1 locs1 0 0 (MQ below (bq_Q g L E9 z (some (.int R))) args s 0 0 (bq_A z)) (F0 m 52 ls1 []) := by
      intro u0 H locs ls h hW hl
      replace h := bq_kap1 ek52 h
      cases h
    clear ek52
    refine lv_icmp_eq (tgt := 52) hx hb dX6_addNode_33 (by decide) (fun hc => ?_) (fun hc => ?_)
    · replace h := bq_ifT hc h
      exact hjk52 () _ _ _ h hW (lv_sub hl [] rfl)
    · replace h := bq_ifF hc h
      refine lv_aload_n hx hb dX6_addNode_36 rfl (lv_at hl 0 rfl) ?_
      obtain ⟨v10, hv, h⟩ := bq_bind h
      refine bq_getr S hK fl_X6_10 dX6_addNode_37 hv hW ?_
      refine lv_iload_n hx hb dX6_addNode_40 rfl (lv_at hl 1 rfl) ?_
      obtain ⟨v11, hv, h⟩ := bq_bind h
      refine bq_callV S hK hz mv_X6_42 (c_X4_at hv) (kc_X4_at hv) dX6_addNode_41 [.ref v11] (rest := []) rfl rfl rfl hl.1 (Nat.le_of_ble_eq_true rfl) ⟨Nat.le_of_ble_eq_true rfl, Nat.le_of_ble_eq_true rfl⟩ ⟨Nat.zero_le _, Nat.zero_le _⟩ hW (fun H locs hW => ?_)
      refine lv_iload_n hx hb dX6_addNode_44 rfl (lv_at hl 2 rfl) ?_
      obtain ⟨v12, hv, h⟩ := bq_bind h
      refine bq_callV S hK hz mv_X6_46 (c_X0_child hv) (kc_X0_child hv) dX6_addNode_45 [.int v12] (rest := []) rfl rfl rfl hl.1 (Nat.le_of_ble_eq_true rfl) ⟨Nat.le_of_ble_eq_true rfl, Nat.le_of_ble_eq_true rfl⟩ ⟨Nat.zero_le _, Nat.zero_le _⟩ hW (fun H locs hW => ?_)
      refine lv_iconst (v := (-1)) hx hb dX6_addNode_48 (by decide) ?_
      refine lv_icmp_eq (tgt := 62) hx hb dX6_addNode_49 (by decide) (fun hc => ?_) (fun hc => ?_)
      · replace h := bq_ifT hc h
        refine lv_aload_n hx hb dX6_addNode_62 rfl (lv_at hl 0 rfl) ?_
        obtain ⟨v13, hv, h⟩ := bq_bind h
        refine bq_getr S hK fl_X6_26 dX6_addNode_63 hv hW ?_
        refine lv_aload_n hx hb dX6_addNode_66 rfl (lv_at hl 0 rfl) ?_
        obtain ⟨v14, hv, h⟩ := bq_bind h
        refine bq_getr S hK fl_X6_10 dX6_addNode_67 hv hW ?_
        obtain ⟨E15, hv, h⟩ := bq_bind h
        refine bq_callV S hK hz mv_X6_59 (c_X1_save hv) (kc_X1_save hv) dX6_addNode_70 [] (rest := []) rfl rfl rfl hl.1 (Nat.le_of_ble_eq_true rfl) ⟨Nat.le_of_ble_eq_true rfl, Nat.le_of_ble_eq_true rfl⟩ ⟨Nat.zero_le _, Nat.zero_le _⟩ hW (fun H locs hW => ?_)
        refine lv_aload_n hx hb dX6_addNode_73 rfl (lv_at hl 0 rfl) ?_
        obtain ⟨v16, hv, h⟩ := bq_bind h
        refine bq_getr S hK fl_X6_10 dX6_addNode_74 hv hW ?_
        refine lv_iload_n hx hb dX6_addNode_77 rfl (lv_at hl 1 rfl) ?_
        refine lv_iload_n hx hb dX6_addNode_78 rfl (lv_at hl 2 rfl) ?_
        obtain ⟨v17, hv, h⟩ := bq_bind h
        refine bq_callV S hK hz mv_X6_63 (c_X4_grow hv) (kc_X4_grow hv) dX6_addNode_79 [.int v17.1] (rest := []) rfl rfl rfl hl.1 (Nat.le_of_ble_eq_true rfl) ⟨Nat.le_of_ble_eq_true rfl, Nat.le_of_ble_eq_true rfl⟩ ⟨Nat.zero_le _, Nat.zero_le _⟩ hW (fun H locs hW => ?_)
        cases h
        exact bq_reti S hr hlocks hK hz dX6_addNode_82 hW
      · replace h := bq_ifF hc h
        exact hjk52 () _ _ _ h hW (lv_sub hl [] rfl)
  clear ek21
  obtain ⟨k16, ek16, h⟩ := bq_letK h
  have hjk16 : ∀ (u0 : Unit) (H1 : Heap) (locs1 : List Loc) (ls1 : Array Slot), k16 u0 = some (Sum.inl R, E9) → bq_H g L E z s.heap H1 locs1 → lv_has ls1 3 [(0, .ref a0), (1, .int x1), (2, .int x2)] → W p l e { frames := 6, cells := 0, slots := 0, locals := 148 } s m args below meth c H1 locs1 0 0 (MQ below (bq_Q g L E9 z (some (.int R))) args s 0 0 (bq_A z)) (F0 m 16 ls1 [.ref a0]) := by
    intro u0 H locs ls h hW hl
    replace h := bq_kap1 ek16 h
    refine lv_iconst (v := 1) hx hb dX6_addNode_16 (by decide) ?_
    refine lv_goto (tgt := 21) hx hb dX6_addNode_17 (by decide) ?_
    exact hjk21 (1 : Int32) _ _ _ h hW (lv_sub hl [0, 1, 2] rfl)
  clear ek16
  refine lv_icmp_eq (tgt := 16) hx hb dX6_addNode_8 (by decide) (fun hc => ?_) (fun hc => ?_)
  · replace h := bq_ifT hc h
    exact hjk16 () _ _ _ h hW (lv_sub hl [0, 1, 2] rfl)
  · replace h := bq_ifF hc h
    refine lv_iload_n hx hb dX6_addNode_11 rfl (lv_at hl 2 rfl) ?_
    refine lv_iconst (v := 2) hx hb dX6_addNode_12 (by decide) ?_
    refine lv_icmp_ne (tgt := 20) hx hb dX6_addNode_13 (by decide) (fun hc => ?_) (fun hc => ?_)
    · replace h := bq_ifF hc h
      refine lv_iconst (v := 0) hx hb dX6_addNode_20 (by decide) ?_
      exact hjk21 (0 : Int32) _ _ _ h hW (lv_sub hl [0, 1, 2] rfl)
    · replace h := bq_ifT hc h
      exact hjk16 () _ _ _ h hW (lv_sub hl [0, 1, 2] rfl)

theorem kc_X6_requireKey {E : bq_E} {a0 : Nat} {x1 : Int32} {R : (Unit ⊕ String)} (h : tw_X6_requireKey E a0 x1 = some R) : bq_cls E a0 = 6 := (bq_guard h).1
set_option maxHeartbeats 4000000 in
set_option maxRecDepth 100000 in
theorem cr_X6_requireKey {l : Launch} {g : bq_G} {L : List Nat} {z : Nat} {E : bq_E} {a0 : Nat} {x1 : Int32} {R : Unit} (h : tw_X6_requireKey E a0 x1 = some (Sum.inl R)) : bq_M l yX6_requireKey cX6_requireKey 2 none 1 21 [.ref a0, .int x1] g L E z none E := by
  unfold tw_X6_requireKey at h
  obtain ⟨hcl, h⟩ := bq_guard h
  refine bq_enter (by decide) (Nat.le_of_ble_eq_true rfl) ?_
  intro p e s m args below meth c S hr hlocks hK hz hW ls hl
  have S : CallFix p m c cX6_requireKey 2 s args bq_WA RX6 := S
  have hx := S.1
  have hb := S.2.1
  have hl : lv_has ls 2 [(0, .ref a0), (1, .int x1)] := hl
  refine lv_aload_n hx hb dX6_requireKey_0 rfl (lv_at hl 0 rfl) ?_
  refine lv_iload_n hx hb dX6_requireKey_1 rfl (lv_at hl 1 rfl) ?_
  refine lv_if_lt (tgt := 16) hx hb dX6_requireKey_2 (by decide) (fun hc => ?_) (fun hc => ?_)
  · replace h := bq_ifT hc h
    refine lv_iconst (v := 0) hx hb dX6_requireKey_16 (by decide) ?_
    obtain ⟨v1, hv, h⟩ := bq_bind h
    obtain v2 | X3 := v1
    rotate_left
    · replace h := bq_elimR h
      cases h
    replace h := bq_elimL h
    refine bq_callV S hK hz mv_X6_34 (cr_X6_require hv) (kc_X6_require hv) dX6_requireKey_17 [] (rest := []) rfl rfl rfl hl.1 (Nat.le_of_ble_eq_true rfl) ⟨Nat.le_of_ble_eq_true rfl, Nat.le_of_ble_eq_true rfl⟩ ⟨Nat.zero_le _, Nat.zero_le _⟩ hW (fun H locs hW => ?_)
    cases h
    exact bq_retv S hr hlocks hK hz dX6_requireKey_20 hW
  · replace h := bq_ifF hc h
    refine lv_iload_n hx hb dX6_requireKey_5 rfl (lv_at hl 1 rfl) ?_
    refine lv_sipush (v := 10000) hx hb dX6_requireKey_6 (by decide) ?_
    refine lv_icmp_ge (tgt := 16) hx hb dX6_requireKey_9 (by decide) (fun hc => ?_) (fun hc => ?_)
    · replace h := bq_ifT hc h
      refine lv_iconst (v := 0) hx hb dX6_requireKey_16 (by decide) ?_
      obtain ⟨v4, hv, h⟩ := bq_bind h
      obtain v5 | X6 := v4
      rotate_left
      · replace h := bq_elimR h
        cases h
      replace h := bq_elimL h
      refine bq_callV S hK hz mv_X6_34 (cr_X6_require hv) (kc_X6_require hv) dX6_requireKey_17 [] (rest := []) rfl rfl rfl hl.1 (Nat.le_of_ble_eq_true rfl) ⟨Nat.le_of_ble_eq_true rfl, Nat.le_of_ble_eq_true rfl⟩ ⟨Nat.zero_le _, Nat.zero_le _⟩ hW (fun H locs hW => ?_)
      cases h
      exact bq_retv S hr hlocks hK hz dX6_requireKey_20 hW
    · replace h := bq_ifF hc h
      refine lv_iconst (v := 1) hx hb dX6_requireKey_12 (by decide) ?_
      refine lv_goto (tgt := 17) hx hb dX6_requireKey_13 (by decide) ?_
      obtain ⟨v7, hv, h⟩ := bq_bind h
      obtain v8 | X9 := v7
      rotate_left
      · replace h := bq_elimR h
        cases h
      replace h := bq_elimL h
      refine bq_callV S hK hz mv_X6_34 (cr_X6_require hv) (kc_X6_require hv) dX6_requireKey_17 [] (rest := []) rfl rfl rfl hl.1 (Nat.le_of_ble_eq_true rfl) ⟨Nat.le_of_ble_eq_true rfl, Nat.le_of_ble_eq_true rfl⟩ ⟨Nat.zero_le _, Nat.zero_le _⟩ hW (fun H locs hW => ?_)
      cases h
      exact bq_retv S hr hlocks hK hz dX6_requireKey_20 hW

theorem kc_X6_add {E : bq_E} {a0 : Nat} {x1 : Int32} {x2 : Int32} {R : ((Bool ⊕ String) × bq_E)} (h : tw_X6_add E a0 x1 x2 = some R) : bq_cls E a0 = 6 := (bq_guard h).1
set_option maxHeartbeats 4000000 in
set_option maxRecDepth 100000 in
theorem cr_X6_add {l : Launch} {g : bq_G} {L : List Nat} {z : Nat} {E : bq_E} {a0 : Nat} {x1 : Int32} {x2 : Int32} {R : Bool} {E9 : bq_E} (h : tw_X6_add E a0 x1 x2 = some (Sum.inl R, E9)) : bq_M l yX6_add cX6_add 4 (some .boolean) 6 149 [.ref a0, .int x1, .int x2] g L E z (some (.int (bq_b R))) E9 := by
  unfold tw_X6_add at h
  obtain ⟨hcl, h⟩ := bq_guard h
  refine bq_enter (by decide) (Nat.le_of_ble_eq_true rfl) ?_
  intro p e s m args below meth c S hr hlocks hK hz hW ls hl
  have S : CallFix p m c cX6_add 4 s args bq_WA RX6 := S
  have hx := S.1
  have hb := S.2.1
  have hl : lv_has ls 4 [(0, .ref a0), (1, .int x1), (2, .int x2)] := hl
  refine lv_aload_n hx hb dX6_add_0 rfl (lv_at hl 0 rfl) ?_
  refine lv_iload_n hx hb dX6_add_1 rfl (lv_at hl 1 rfl) ?_
  obtain ⟨v1, hv, h⟩ := bq_bind h
  obtain v2 | X3 := v1
  rotate_left
  · replace h := bq_elimR h
    cases h
  replace h := bq_elimL h
  refine bq_callV S hK hz mv_X6_30 (cr_X6_requireNode hv) (kc_X6_requireNode hv) dX6_add_2 [] (rest := []) rfl rfl rfl hl.1 (Nat.le_of_ble_eq_true rfl) ⟨Nat.le_of_ble_eq_true rfl, Nat.le_of_ble_eq_true rfl⟩ ⟨Nat.zero_le _, Nat.zero_le _⟩ hW (fun H locs hW => ?_)
  refine lv_aload_n hx hb dX6_add_5 rfl (lv_at hl 0 rfl) ?_
  refine lv_iload_n hx hb dX6_add_6 rfl (lv_at hl 2 rfl) ?_
  obtain ⟨v4, hv, h⟩ := bq_bind h
  obtain v5 | X6 := v4
  rotate_left
  · replace h := bq_elimR h
    cases h
  replace h := bq_elimL h
  refine bq_callV S hK hz mv_X6_67 (cr_X6_requireKey hv) (kc_X6_requireKey hv) dX6_add_7 [] (rest := []) rfl rfl rfl hl.1 (Nat.le_of_ble_eq_true rfl) ⟨Nat.le_of_ble_eq_true rfl, Nat.le_of_ble_eq_true rfl⟩ ⟨Nat.zero_le _, Nat.zero_le _⟩ hW (fun H locs hW => ?_)
  refine lv_aload_n hx hb dX6_add_10 rfl (lv_at hl 0 rfl) ?_
  obtain ⟨v7, hv, h⟩ := bq_bind h
  refine bq_getr S hK fl_X6_10 dX6_add_11 hv hW ?_
  refine lv_iload_n hx hb dX6_add_14 rfl (lv_at hl 1 rfl) ?_
  obtain ⟨v8, hv, h⟩ := bq_bind h
  refine bq_callV S hK hz mv_X6_42 (c_X4_at hv) (kc_X4_at hv) dX6_add_15 [.ref v8] (rest := []) rfl rfl rfl hl.1 (Nat.le_of_ble_eq_true rfl) ⟨Nat.le_of_ble_eq_true rfl, Nat.le_of_ble_eq_true rfl⟩ ⟨Nat.zero_le _, Nat.zero_le _⟩ hW (fun H locs hW => ?_)
  refine lv_astore_n (lv' := [(3, .ref v8), (0, .ref a0), (1, .int x1), (2, .int x2)]) hx hb dX6_add_18 rfl hl (by decide) rfl (fun ls hl => ?_)
  refine lv_aload_n hx hb dX6_add_19 rfl (lv_at hl 0 rfl) ?_
  refine lv_iload_n hx hb dX6_add_20 rfl (lv_at hl 3 rfl) ?_
  obtain ⟨v9, hv, h⟩ := bq_bind h
  refine bq_callV S hK hz mv_X6_70 (c_X0_holds hv) (kc_X0_holds hv) dX6_add_21 [.int (bq_b v9)] (rest := []) rfl rfl rfl hl.1 (Nat.le_of_ble_eq_true rfl) ⟨Nat.le_of_ble_eq_true rfl, Nat.le_of_ble_eq_true rfl⟩ ⟨Nat.zero_le _, Nat.zero_le _⟩ hW (fun H locs hW => ?_)
  obtain ⟨k44, ek44, h⟩ := bq_letK h
  have hjk44 : ∀ (u0 : Unit) (H1 : Heap) (locs1 : List Loc) (ls1 : Array Slot), k44 u0 = some (Sum.inl R, E9) → bq_H g L E z s.heap H1 locs1 → lv_has ls1 4 [(0, .ref a0), (1, .int x1), (2, .int x2)] → W p l e { frames := 6, cells := 0, slots := 0, locals := 149 } s m args below meth c H1 locs1 0 0 (MQ below (bq_Q g L E9 z (some (.int (bq_b R)))) args s 0 0 (bq_A z)) (F0 m 44 ls1 []) := by
    intro u0 H locs ls h hW hl
    replace h := bq_kap1 ek44 h
    refine lv_aload_n hx hb dX6_add_44 rfl (lv_at hl 0 rfl) ?_
    obtain ⟨v10, hv, h⟩ := bq_bind h
    refine bq_getr S hK fl_X6_26 dX6_add_45 hv hW ?_
    refine lv_aload_n hx hb dX6_add_48 rfl (lv_at hl 0 rfl) ?_
    obtain ⟨v11, hv, h⟩ := bq_bind h
    refine bq_getr S hK fl_X6_10 dX6_add_49 hv hW ?_
    obtain ⟨E12, hv, h⟩ := bq_bind h
    refine bq_callV S hK hz mv_X6_59 (c_X1_save hv) (kc_X1_save hv) dX6_add_52 [] (rest := []) rfl rfl rfl hl.1 (Nat.le_of_ble_eq_true rfl) ⟨Nat.le_of_ble_eq_true rfl, Nat.le_of_ble_eq_true rfl⟩ ⟨Nat.zero_le _, Nat.zero_le _⟩ hW (fun H locs hW => ?_)
    refine lv_aload_n hx hb dX6_add_55 rfl (lv_at hl 0 rfl) ?_
    obtain ⟨v13, hv, h⟩ := bq_bind h
    refine bq_getr S hK fl_X6_10 dX6_add_56 hv hW ?_
    refine lv_iload_n hx hb dX6_add_59 rfl (lv_at hl 1 rfl) ?_
    refine lv_iload_n hx hb dX6_add_60 rfl (lv_at hl 2 rfl) ?_
    obtain ⟨v14, hv, h⟩ := bq_bind h
    refine bq_callV S hK hz mv_X6_80 (c_X4_takeIn hv) (kc_X4_takeIn hv) dX6_add_61 [.int (bq_b v14.1)] (rest := []) rfl rfl rfl hl.1 (Nat.le_of_ble_eq_true rfl) ⟨Nat.le_of_ble_eq_true rfl, Nat.le_of_ble_eq_true rfl⟩ ⟨Nat.zero_le _, Nat.zero_le _⟩ hW (fun H locs hW => ?_)
    cases h
    exact bq_retz S hr hlocks hK hz dX6_add_64 _ rfl hW
  clear ek44
  refine lv_if_ne (tgt := 44) hx hb dX6_add_24 (by decide) (fun hc => ?_) (fun hc => ?_)
  · replace h := bq_ifF hc h
    exact hjk44 () _ _ _ h hW (lv_sub hl [1, 2, 3] rfl)
  · replace h := bq_ifT hc h
    refine lv_aload_n hx hb dX6_add_27 rfl (lv_at hl 0 rfl) ?_
    obtain ⟨v15, hv, h⟩ := bq_bind h
    refine bq_callV S hK hz mv_X6_74 (c_X0_isFull hv) (kc_X0_isFull hv) dX6_add_28 [.int (bq_b v15)] (rest := []) rfl rfl rfl hl.1 (Nat.le_of_ble_eq_true rfl) ⟨Nat.le_of_ble_eq_true rfl, Nat.le_of_ble_eq_true rfl⟩ ⟨Nat.zero_le _, Nat.zero_le _⟩ hW (fun H locs hW => ?_)
    refine lv_if_eq (tgt := 44) hx hb dX6_add_31 (by decide) (fun hc => ?_) (fun hc => ?_)
    · replace h := bq_ifT hc h
      exact hjk44 () _ _ _ h hW (lv_sub hl [1, 2, 3] rfl)
    · replace h := bq_ifF hc h
      cases h

theorem kc_X6_remove {E : bq_E} {a0 : Nat} {x1 : Int32} {x2 : Int32} {R : ((Bool ⊕ String) × bq_E)} (h : tw_X6_remove E a0 x1 x2 = some R) : bq_cls E a0 = 6 := (bq_guard h).1
set_option maxHeartbeats 4000000 in
set_option maxRecDepth 100000 in
theorem cr_X6_remove {l : Launch} {g : bq_G} {L : List Nat} {z : Nat} {E : bq_E} {a0 : Nat} {x1 : Int32} {x2 : Int32} {R : Bool} {E9 : bq_E} (h : tw_X6_remove E a0 x1 x2 = some (Sum.inl R, E9)) : bq_M l yX6_remove cX6_remove 3 (some .boolean) 6 149 [.ref a0, .int x1, .int x2] g L E z (some (.int (bq_b R))) E9 := by
  unfold tw_X6_remove at h
  obtain ⟨hcl, h⟩ := bq_guard h
  refine bq_enter (by decide) (Nat.le_of_ble_eq_true rfl) ?_
  intro p e s m args below meth c S hr hlocks hK hz hW ls hl
  have S : CallFix p m c cX6_remove 3 s args bq_WA RX6 := S
  have hx := S.1
  have hb := S.2.1
  have hl : lv_has ls 3 [(0, .ref a0), (1, .int x1), (2, .int x2)] := hl
  refine lv_aload_n hx hb dX6_remove_0 rfl (lv_at hl 0 rfl) ?_
  refine lv_iload_n hx hb dX6_remove_1 rfl (lv_at hl 1 rfl) ?_
  obtain ⟨v1, hv, h⟩ := bq_bind h
  obtain v2 | X3 := v1
  rotate_left
  · replace h := bq_elimR h
    cases h
  replace h := bq_elimL h
  refine bq_callV S hK hz mv_X6_30 (cr_X6_requireNode hv) (kc_X6_requireNode hv) dX6_remove_2 [] (rest := []) rfl rfl rfl hl.1 (Nat.le_of_ble_eq_true rfl) ⟨Nat.le_of_ble_eq_true rfl, Nat.le_of_ble_eq_true rfl⟩ ⟨Nat.zero_le _, Nat.zero_le _⟩ hW (fun H locs hW => ?_)
  refine lv_aload_n hx hb dX6_remove_5 rfl (lv_at hl 0 rfl) ?_
  refine lv_iload_n hx hb dX6_remove_6 rfl (lv_at hl 2 rfl) ?_
  obtain ⟨v4, hv, h⟩ := bq_bind h
  obtain v5 | X6 := v4
  rotate_left
  · replace h := bq_elimR h
    cases h
  replace h := bq_elimL h
  refine bq_callV S hK hz mv_X6_67 (cr_X6_requireKey hv) (kc_X6_requireKey hv) dX6_remove_7 [] (rest := []) rfl rfl rfl hl.1 (Nat.le_of_ble_eq_true rfl) ⟨Nat.le_of_ble_eq_true rfl, Nat.le_of_ble_eq_true rfl⟩ ⟨Nat.zero_le _, Nat.zero_le _⟩ hW (fun H locs hW => ?_)
  refine lv_aload_n hx hb dX6_remove_10 rfl (lv_at hl 0 rfl) ?_
  obtain ⟨v7, hv, h⟩ := bq_bind h
  refine bq_getr S hK fl_X6_26 dX6_remove_11 hv hW ?_
  refine lv_aload_n hx hb dX6_remove_14 rfl (lv_at hl 0 rfl) ?_
  obtain ⟨v8, hv, h⟩ := bq_bind h
  refine bq_getr S hK fl_X6_10 dX6_remove_15 hv hW ?_
  obtain ⟨E9, hv, h⟩ := bq_bind h
  refine bq_callV S hK hz mv_X6_59 (c_X1_save hv) (kc_X1_save hv) dX6_remove_18 [] (rest := []) rfl rfl rfl hl.1 (Nat.le_of_ble_eq_true rfl) ⟨Nat.le_of_ble_eq_true rfl, Nat.le_of_ble_eq_true rfl⟩ ⟨Nat.zero_le _, Nat.zero_le _⟩ hW (fun H locs hW => ?_)
  refine lv_aload_n hx hb dX6_remove_21 rfl (lv_at hl 0 rfl) ?_
  obtain ⟨v10, hv, h⟩ := bq_bind h
  refine bq_getr S hK fl_X6_10 dX6_remove_22 hv hW ?_
  refine lv_iload_n hx hb dX6_remove_25 rfl (lv_at hl 1 rfl) ?_
  refine lv_iload_n hx hb dX6_remove_26 rfl (lv_at hl 2 rfl) ?_
  obtain ⟨v11, hv, h⟩ := bq_bind h
  refine bq_callV S hK hz mv_X6_84 (c_X4_drop hv) (kc_X4_drop hv) dX6_remove_27 [.int (bq_b v11.1)] (rest := []) rfl rfl rfl hl.1 (Nat.le_of_ble_eq_true rfl) ⟨Nat.le_of_ble_eq_true rfl, Nat.le_of_ble_eq_true rfl⟩ ⟨Nat.zero_le _, Nat.zero_le _⟩ hW (fun H locs hW => ?_)
  cases h
  exact bq_retz S hr hlocks hK hz dX6_remove_30 _ rfl hW

theorem kc_X6_addSeries {E : bq_E} {a0 : Nat} {x1 : Int32} {x2 : Int32} {x3 : Int32} {x4 : Int32} {R : ((Int32 ⊕ String) × bq_E)} (h : tw_X6_addSeries E a0 x1 x2 x3 x4 = some R) : bq_cls E a0 = 6 := (bq_guard h).1
set_option maxHeartbeats 4000000 in
set_option maxRecDepth 100000 in
theorem cr_X6_addSeries {l : Launch} {g : bq_G} {L : List Nat} {z : Nat} {E : bq_E} {a0 : Nat} {x1 : Int32} {x2 : Int32} {x3 : Int32} {x4 : Int32} {R : Int32} {E9 : bq_E} (h : tw_X6_addSeries E a0 x1 x2 x3 x4 = some (Sum.inl R, E9)) : bq_M l yX6_addSeries cX6_addSeries 8 (some .int) 6 149 [.ref a0, .int x1, .int x2, .int x3, .int x4] g L E z (some (.int R)) E9 := by
  unfold tw_X6_addSeries at h
  obtain ⟨hcl, h⟩ := bq_guard h
  refine bq_enter (by decide) (Nat.le_of_ble_eq_true rfl) ?_
  intro p e s m args below meth c S hr hlocks hK hz hW ls hl
  have S : CallFix p m c cX6_addSeries 8 s args bq_WA RX6 := S
  have hx := S.1
  have hb := S.2.1
  have hl : lv_has ls 8 [(0, .ref a0), (1, .int x1), (2, .int x2), (3, .int x3), (4, .int x4)] := hl
  refine lv_aload_n hx hb dX6_addSeries_0 rfl (lv_at hl 0 rfl) ?_
  refine lv_iload_n hx hb dX6_addSeries_1 rfl (lv_at hl 1 rfl) ?_
  obtain ⟨v1, hv, h⟩ := bq_bind h
  obtain v2 | X3 := v1
  rotate_left
  · replace h := bq_elimR h
    cases h
  replace h := bq_elimL h
  refine bq_callV S hK hz mv_X6_30 (cr_X6_requireNode hv) (kc_X6_requireNode hv) dX6_addSeries_2 [] (rest := []) rfl rfl rfl hl.1 (Nat.le_of_ble_eq_true rfl) ⟨Nat.le_of_ble_eq_true rfl, Nat.le_of_ble_eq_true rfl⟩ ⟨Nat.zero_le _, Nat.zero_le _⟩ hW (fun H locs hW => ?_)
  refine lv_aload_n hx hb dX6_addSeries_5 rfl (lv_at hl 0 rfl) ?_
  refine lv_iload_n hx hb dX6_addSeries_6 rfl (lv_at hl 2 rfl) ?_
  obtain ⟨v4, hv, h⟩ := bq_bind h
  obtain v5 | X6 := v4
  rotate_left
  · replace h := bq_elimR h
    cases h
  replace h := bq_elimL h
  refine bq_callV S hK hz mv_X6_67 (cr_X6_requireKey hv) (kc_X6_requireKey hv) dX6_addSeries_7 [] (rest := []) rfl rfl rfl hl.1 (Nat.le_of_ble_eq_true rfl) ⟨Nat.le_of_ble_eq_true rfl, Nat.le_of_ble_eq_true rfl⟩ ⟨Nat.zero_le _, Nat.zero_le _⟩ hW (fun H locs hW => ?_)
  refine lv_aload_n hx hb dX6_addSeries_10 rfl (lv_at hl 0 rfl) ?_
  refine lv_iload_n hx hb dX6_addSeries_11 rfl (lv_at hl 3 rfl) ?_
  refine lv_iconst (v := 1) hx hb dX6_addSeries_12 (by decide) ?_
  obtain ⟨k28, ek28, h⟩ := bq_letK h
  have hjk28 : ∀ (b7 : Int32) (H1 : Heap) (locs1 : List Loc) (ls1 : Array Slot), k28 b7 = some (Sum.inl R, E9) → bq_H g L E z s.heap H1 locs1 → lv_has ls1 8 [(0, .ref a0), (1, .int x1), (2, .int x2), (3, .int x3), (4, .int x4)] → W p l e { frames := 6, cells := 0, slots := 0, locals := 149 } s m args below meth c H1 locs1 0 0 (MQ below (bq_Q g L E9 z (some (.int R))) args s 0 0 (bq_A z)) (F0 m 28 ls1 [.int b7, .ref a0]) := by
    intro b7 H locs ls h hW hl
    replace h := bq_kap1 ek28 h
    obtain ⟨v8, hv, h⟩ := bq_bind h
    obtain v9 | X10 := v8
    rotate_left
    · replace h := bq_elimR h
      cases h
    replace h := bq_elimL h
    refine bq_callV S hK hz mv_X6_34 (cr_X6_require hv) (kc_X6_require hv) dX6_addSeries_28 [] (rest := []) rfl rfl rfl hl.1 (Nat.le_of_ble_eq_true rfl) ⟨Nat.le_of_ble_eq_true rfl, Nat.le_of_ble_eq_true rfl⟩ ⟨Nat.zero_le _, Nat.zero_le _⟩ hW (fun H locs hW => ?_)
    refine lv_aload_n hx hb dX6_addSeries_31 rfl (lv_at hl 0 rfl) ?_
    refine lv_iload hx hb dX6_addSeries_32 (lv_at hl 4 rfl) ?_
    refine lv_iconst (v := 1) hx hb dX6_addSeries_34 (by decide) ?_
    obtain ⟨k50, ek50, h⟩ := bq_letK h
    have hjk50 : ∀ (b11 : Int32) (H1 : Heap) (locs1 : List Loc) (ls1 : Array Slot), k50 b11 = some (Sum.inl R, E9) → bq_H g L E z s.heap H1 locs1 → lv_has ls1 8 [(0, .ref a0), (1, .int x1), (2, .int x2), (3, .int x3), (4, .int x4)] → W p l e { frames := 6, cells := 0, slots := 0, locals := 149 } s m args below meth c H1 locs1 0 0 (MQ below (bq_Q g L E9 z (some (.int R))) args s 0 0 (bq_A z)) (F0 m 50 ls1 [.int b11, .ref a0]) := by
      intro b11 H locs ls h hW hl
      replace h := bq_kap1 ek50 h
      obtain ⟨v12, hv, h⟩ := bq_bind h
      obtain v13 | X14 := v12
      rotate_left
      · replace h := bq_elimR h
        cases h
      replace h := bq_elimL h
      refine bq_callV S hK hz mv_X6_34 (cr_X6_require hv) (kc_X6_require hv) dX6_addSeries_50 [] (rest := []) rfl rfl rfl hl.1 (Nat.le_of_ble_eq_true rfl) ⟨Nat.le_of_ble_eq_true rfl, Nat.le_of_ble_eq_true rfl⟩ ⟨Nat.zero_le _, Nat.zero_le _⟩ hW (fun H locs hW => ?_)
      refine lv_aload_n hx hb dX6_addSeries_53 rfl (lv_at hl 0 rfl) ?_
      obtain ⟨v15, hv, h⟩ := bq_bind h
      refine bq_getr S hK fl_X6_26 dX6_addSeries_54 hv hW ?_
      refine lv_aload_n hx hb dX6_addSeries_57 rfl (lv_at hl 0 rfl) ?_
      obtain ⟨v16, hv, h⟩ := bq_bind h
      refine bq_getr S hK fl_X6_10 dX6_addSeries_58 hv hW ?_
      obtain ⟨E17, hv, h⟩ := bq_bind h
      refine bq_callV S hK hz mv_X6_59 (c_X1_save hv) (kc_X1_save hv) dX6_addSeries_61 [] (rest := []) rfl rfl rfl hl.1 (Nat.le_of_ble_eq_true rfl) ⟨Nat.le_of_ble_eq_true rfl, Nat.le_of_ble_eq_true rfl⟩ ⟨Nat.zero_le _, Nat.zero_le _⟩ hW (fun H locs hW => ?_)
      refine lv_iload_n hx hb dX6_addSeries_64 rfl (lv_at hl 2 rfl) ?_
      refine lv_istore (lv' := [(5, .int x2), (0, .ref a0), (1, .int x1), (2, .int x2), (3, .int x3), (4, .int x4)]) hx hb dX6_addSeries_65 hl (by decide) rfl (fun ls hl => ?_)
      refine lv_iconst (v := 0) hx hb dX6_addSeries_67 (by decide) ?_
      refine lv_istore (lv' := [(6, .int (0 : Int32)), (5, .int x2), (0, .ref a0), (1, .int x1), (2, .int x2), (3, .int x3), (4, .int x4)]) hx hb dX6_addSeries_68 hl (by decide) rfl (fun ls hl => ?_)
      refine lv_iconst (v := 0) hx hb dX6_addSeries_70 (by decide) ?_
      refine lv_istore (lv' := [(7, .int (0 : Int32)), (6, .int (0 : Int32)), (5, .int x2), (0, .ref a0), (1, .int x1), (2, .int x2), (3, .int x3), (4, .int x4)]) hx hb dX6_addSeries_71 hl (by decide) rfl (fun ls hl => ?_)
      have hL73 : ∀ (n : Nat) (z22 : Int32) (z23 : Int32) (z24 : Int32) (E25 : bq_E) (H1 : Heap) (locs1 : List Loc) (ls1 : Array Slot), tl_X6_addSeries_73 a0 x1 x3 x4 n z22 z23 z24 E25 = some (Sum.inl R, E9) → bq_H g L E25 z s.heap H1 locs1 → lv_has ls1 8 [(0, .ref a0), (1, .int x1), (3, .int x3), (4, .int x4), (5, .int z22), (6, .int z23), (7, .int z24)] → W p l e { frames := 6, cells := 0, slots := 0, locals := 149 } s m args below meth c H1 locs1 0 0 (MQ below (bq_Q g L E9 z (some (.int R))) args s 0 0 (bq_A z)) (F0 m 73 ls1 []) := by
        intro n
        induction n with
        | zero => intro z22 z23 z24 E25 H locs ls h hW hl; cases h
        | succ n ih =>
          intro z22 z23 z24 E25 H locs ls h hW hl
          rw [tl_X6_addSeries_73.eq_2] at h
          refine lv_iload hx hb dX6_addSeries_73 (lv_at hl 6 rfl) ?_
          refine lv_iload hx hb dX6_addSeries_75 (lv_at hl 3 rfl) ?_
          refine lv_icmp_ge (tgt := 130) hx hb dX6_addSeries_77 (by decide) (fun hc => ?_) (fun hc => ?_)
          · replace h := bq_ifT hc h
            refine lv_iload hx hb dX6_addSeries_130 (lv_at hl 5 rfl) ?_
            cases h
            exact bq_reti S hr hlocks hK hz dX6_addSeries_132 hW
          · replace h := bq_ifF hc h
            refine lv_iload hx hb dX6_addSeries_80 (lv_at hl 4 rfl) ?_
            refine lv_sipush (v := 10000) hx hb dX6_addSeries_82 (by decide) ?_
            refine lv_icmp_ge (tgt := 130) hx hb dX6_addSeries_85 (by decide) (fun hc => ?_) (fun hc => ?_)
            · replace h := bq_ifT hc h
              refine lv_iload hx hb dX6_addSeries_130 (lv_at hl 5 rfl) ?_
              cases h
              exact bq_reti S hr hlocks hK hz dX6_addSeries_132 hW
            · replace h := bq_ifF hc h
              refine lv_aload_n hx hb dX6_addSeries_88 rfl (lv_at hl 0 rfl) ?_
              obtain ⟨v26, hv, h⟩ := bq_bind h
              refine bq_getr S hK fl_X6_10 dX6_addSeries_89 hv hW ?_
              refine lv_iload_n hx hb dX6_addSeries_92 rfl (lv_at hl 1 rfl) ?_
              obtain ⟨v27, hv, h⟩ := bq_bind h
              refine bq_callV S hK hz mv_X6_42 (c_X4_at hv) (kc_X4_at hv) dX6_addSeries_93 [.ref v27] (rest := []) rfl rfl rfl hl.1 (Nat.le_of_ble_eq_true rfl) ⟨Nat.le_of_ble_eq_true rfl, Nat.le_of_ble_eq_true rfl⟩ ⟨Nat.zero_le _, Nat.zero_le _⟩ hW (fun H locs hW => ?_)
              obtain ⟨v28, hv, h⟩ := bq_bind h
              refine bq_callV S hK hz mv_X6_74 (c_X0_isFull hv) (kc_X0_isFull hv) dX6_addSeries_96 [.int (bq_b v28)] (rest := []) rfl rfl rfl hl.1 (Nat.le_of_ble_eq_true rfl) ⟨Nat.le_of_ble_eq_true rfl, Nat.le_of_ble_eq_true rfl⟩ ⟨Nat.zero_le _, Nat.zero_le _⟩ hW (fun H locs hW => ?_)
              refine lv_if_ne (tgt := 130) hx hb dX6_addSeries_99 (by decide) (fun hc => ?_) (fun hc => ?_)
              · replace h := bq_ifF hc h
                refine lv_iload hx hb dX6_addSeries_130 (lv_at hl 5 rfl) ?_
                cases h
                exact bq_reti S hr hlocks hK hz dX6_addSeries_132 hW
              · replace h := bq_ifT hc h
                refine lv_aload_n hx hb dX6_addSeries_102 rfl (lv_at hl 0 rfl) ?_
                obtain ⟨v29, hv, h⟩ := bq_bind h
                refine bq_getr S hK fl_X6_10 dX6_addSeries_103 hv hW ?_
                refine lv_iload_n hx hb dX6_addSeries_106 rfl (lv_at hl 1 rfl) ?_
                refine lv_iload hx hb dX6_addSeries_107 (lv_at hl 4 rfl) ?_
                obtain ⟨v30, hv, h⟩ := bq_bind h
                refine bq_callV S hK hz mv_X6_80 (c_X4_takeIn hv) (kc_X4_takeIn hv) dX6_addSeries_109 [.int (bq_b v30.1)] (rest := []) rfl rfl rfl hl.1 (Nat.le_of_ble_eq_true rfl) ⟨Nat.le_of_ble_eq_true rfl, Nat.le_of_ble_eq_true rfl⟩ ⟨Nat.zero_le _, Nat.zero_le _⟩ hW (fun H locs hW => ?_)
                refine lv_if_eq (tgt := 118) hx hb dX6_addSeries_112 (by decide) (fun hc => ?_) (fun hc => ?_)
                · replace h := bq_ifT hc h
                  refine lv_iload hx hb dX6_addSeries_118 (lv_at hl 4 rfl) ?_
                  refine lv_iload_n hx hb dX6_addSeries_120 rfl (lv_at hl 2 rfl) ?_
                  refine lv_iadd hx hb dX6_addSeries_121 ?_
                  refine lv_topi (fun v31 ev31 => ?_)
                  replace h := bq_letE ev31 h
                  refine lv_istore (lv' := [(5, .int v31), (0, .ref a0), (1, .int x1), (3, .int x3), (4, .int x4), (6, .int z23), (7, .int z24)]) hx hb dX6_addSeries_122 hl (by decide) rfl (fun ls hl => ?_)
                  obtain ⟨v32, ev32⟩ : ∃ y : Int32, y = z24 + 1 := ⟨_, rfl⟩
                  replace h := bq_letE ev32 h
                  refine lv_iinc (v := v32) (lv' := [(7, .int v32), (5, .int v31), (0, .ref a0), (1, .int x1), (3, .int x3), (4, .int x4), (6, .int z23)]) hx hb dX6_addSeries_124 hl (k := 6) rfl (by rw [ev32]; rfl) (by decide) rfl (fun ls hl => ?_)
                  refine lv_goto (tgt := 73) hx hb dX6_addSeries_127 (by decide) ?_
                  exact ih v31 z23 v32 v30.2 _ _ _ h hW (lv_sub hl [2, 3, 4, 5, 1, 6, 0] rfl)
                · replace h := bq_ifF hc h
                  obtain ⟨v33, ev33⟩ : ∃ y : Int32, y = z23 + 1 := ⟨_, rfl⟩
                  replace h := bq_letE ev33 h
                  refine lv_iinc (v := v33) (lv' := [(6, .int v33), (0, .ref a0), (1, .int x1), (3, .int x3), (4, .int x4), (5, .int z22), (7, .int z24)]) hx hb dX6_addSeries_115 hl (k := 5) rfl (by rw [ev33]; rfl) (by decide) rfl (fun ls hl => ?_)
                  refine lv_iload hx hb dX6_addSeries_118 (lv_at hl 5 rfl) ?_
                  refine lv_iload_n hx hb dX6_addSeries_120 rfl (lv_at hl 3 rfl) ?_
                  refine lv_iadd hx hb dX6_addSeries_121 ?_
                  refine lv_topi (fun v34 ev34 => ?_)
                  replace h := bq_letE ev34 h
                  refine lv_istore (lv' := [(5, .int v34), (6, .int v33), (0, .ref a0), (1, .int x1), (3, .int x3), (4, .int x4), (7, .int z24)]) hx hb dX6_addSeries_122 hl (by decide) rfl (fun ls hl => ?_)
                  obtain ⟨v35, ev35⟩ : ∃ y : Int32, y = z24 + 1 := ⟨_, rfl⟩
                  replace h := bq_letE ev35 h
                  refine lv_iinc (v := v35) (lv' := [(7, .int v35), (5, .int v34), (6, .int v33), (0, .ref a0), (1, .int x1), (3, .int x3), (4, .int x4)]) hx hb dX6_addSeries_124 hl (k := 6) rfl (by rw [ev35]; rfl) (by decide) rfl (fun ls hl => ?_)
                  refine lv_goto (tgt := 73) hx hb dX6_addSeries_127 (by decide) ?_
                  exact ih v34 v33 v35 v30.2 _ _ _ h hW (lv_sub hl [3, 4, 5, 6, 1, 2, 0] rfl)
      exact hL73 bq_fuel x2 (0 : Int32) (0 : Int32) E17 _ _ _ h hW (lv_sub hl [3, 4, 6, 7, 2, 1, 0] rfl)
    clear ek50
    obtain ⟨k49, ek49, h⟩ := bq_letK h
    have hjk49 : ∀ (u0 : Unit) (H1 : Heap) (locs1 : List Loc) (ls1 : Array Slot), k49 u0 = some (Sum.inl R, E9) → bq_H g L E z s.heap H1 locs1 → lv_has ls1 8 [(0, .ref a0), (1, .int x1), (2, .int x2), (3, .int x3), (4, .int x4)] → W p l e { frames := 6, cells := 0, slots := 0, locals := 149 } s m args below meth c H1 locs1 0 0 (MQ below (bq_Q g L E9 z (some (.int R))) args s 0 0 (bq_A z)) (F0 m 49 ls1 [.ref a0]) := by
      intro u0 H locs ls h hW hl
      replace h := bq_kap1 ek49 h
      refine lv_iconst (v := 0) hx hb dX6_addSeries_49 (by decide) ?_
      exact hjk50 (0 : Int32) _ _ _ h hW (lv_sub hl [0, 1, 2, 3, 4] rfl)
    clear ek49
    refine lv_icmp_lt (tgt := 49) hx hb dX6_addSeries_35 (by decide) (fun hc => ?_) (fun hc => ?_)
    · replace h := bq_ifT hc h
      exact hjk49 () _ _ _ h hW (lv_sub hl [0, 1, 2, 3, 4] rfl)
    · replace h := bq_ifF hc h
      refine lv_iload hx hb dX6_addSeries_38 (lv_at hl 4 rfl) ?_
      refine lv_bipush (v := 24) hx hb dX6_addSeries_40 (by decide) ?_
      refine lv_icmp_gt (tgt := 49) hx hb dX6_addSeries_42 (by decide) (fun hc => ?_) (fun hc => ?_)
      · replace h := bq_ifT hc h
        exact hjk49 () _ _ _ h hW (lv_sub hl [0, 1, 2, 3, 4] rfl)
      · replace h := bq_ifF hc h
        refine lv_iconst (v := 1) hx hb dX6_addSeries_45 (by decide) ?_
        refine lv_goto (tgt := 50) hx hb dX6_addSeries_46 (by decide) ?_
        exact hjk50 (1 : Int32) _ _ _ h hW (lv_sub hl [0, 1, 2, 3, 4] rfl)
  clear ek28
  obtain ⟨k27, ek27, h⟩ := bq_letK h
  have hjk27 : ∀ (u0 : Unit) (H1 : Heap) (locs1 : List Loc) (ls1 : Array Slot), k27 u0 = some (Sum.inl R, E9) → bq_H g L E z s.heap H1 locs1 → lv_has ls1 8 [(0, .ref a0), (1, .int x1), (2, .int x2), (3, .int x3), (4, .int x4)] → W p l e { frames := 6, cells := 0, slots := 0, locals := 149 } s m args below meth c H1 locs1 0 0 (MQ below (bq_Q g L E9 z (some (.int R))) args s 0 0 (bq_A z)) (F0 m 27 ls1 [.ref a0]) := by
    intro u0 H locs ls h hW hl
    replace h := bq_kap1 ek27 h
    refine lv_iconst (v := 0) hx hb dX6_addSeries_27 (by decide) ?_
    exact hjk28 (0 : Int32) _ _ _ h hW (lv_sub hl [0, 1, 2, 3, 4] rfl)
  clear ek27
  refine lv_icmp_lt (tgt := 27) hx hb dX6_addSeries_13 (by decide) (fun hc => ?_) (fun hc => ?_)
  · replace h := bq_ifT hc h
    exact hjk27 () _ _ _ h hW (lv_sub hl [0, 1, 2, 3, 4] rfl)
  · replace h := bq_ifF hc h
    refine lv_iload_n hx hb dX6_addSeries_16 rfl (lv_at hl 3 rfl) ?_
    refine lv_sipush (v := 999) hx hb dX6_addSeries_17 (by decide) ?_
    refine lv_icmp_gt (tgt := 27) hx hb dX6_addSeries_20 (by decide) (fun hc => ?_) (fun hc => ?_)
    · replace h := bq_ifT hc h
      exact hjk27 () _ _ _ h hW (lv_sub hl [0, 1, 2, 3, 4] rfl)
    · replace h := bq_ifF hc h
      refine lv_iconst (v := 1) hx hb dX6_addSeries_23 (by decide) ?_
      refine lv_goto (tgt := 28) hx hb dX6_addSeries_24 (by decide) ?_
      exact hjk28 (1 : Int32) _ _ _ h hW (lv_sub hl [0, 1, 2, 3, 4] rfl)

theorem kc_X6_setSizes {E : bq_E} {a0 : Nat} {x1 : Int32} {x2 : Int32} {R : ((Int32 ⊕ String) × bq_E)} (h : tw_X6_setSizes E a0 x1 x2 = some R) : bq_cls E a0 = 6 := (bq_guard h).1
set_option maxHeartbeats 4000000 in
set_option maxRecDepth 100000 in
theorem cr_X6_setSizes {l : Launch} {g : bq_G} {L : List Nat} {z : Nat} {E : bq_E} {a0 : Nat} {x1 : Int32} {x2 : Int32} {R : Int32} {E9 : bq_E} (h : tw_X6_setSizes E a0 x1 x2 = some (Sum.inl R, E9)) : bq_M l yX6_setSizes cX6_setSizes 4 (some .int) 6 148 [.ref a0, .int x1, .int x2] g L E z (some (.int R)) E9 := by
  unfold tw_X6_setSizes at h
  obtain ⟨hcl, h⟩ := bq_guard h
  refine bq_enter (by decide) (Nat.le_of_ble_eq_true rfl) ?_
  intro p e s m args below meth c S hr hlocks hK hz hW ls hl
  have S : CallFix p m c cX6_setSizes 4 s args bq_WA RX6 := S
  have hx := S.1
  have hb := S.2.1
  have hl : lv_has ls 4 [(0, .ref a0), (1, .int x1), (2, .int x2)] := hl
  refine lv_aload_n hx hb dX6_setSizes_0 rfl (lv_at hl 0 rfl) ?_
  refine lv_iload_n hx hb dX6_setSizes_1 rfl (lv_at hl 1 rfl) ?_
  refine lv_iconst (v := 1) hx hb dX6_setSizes_2 (by decide) ?_
  obtain ⟨k17, ek17, h⟩ := bq_letK h
  have hjk17 : ∀ (b1 : Int32) (H1 : Heap) (locs1 : List Loc) (ls1 : Array Slot), k17 b1 = some (Sum.inl R, E9) → bq_H g L E z s.heap H1 locs1 → lv_has ls1 4 [(0, .ref a0), (1, .int x1), (2, .int x2)] → W p l e { frames := 6, cells := 0, slots := 0, locals := 148 } s m args below meth c H1 locs1 0 0 (MQ below (bq_Q g L E9 z (some (.int R))) args s 0 0 (bq_A z)) (F0 m 17 ls1 [.int b1, .ref a0]) := by
    intro b1 H locs ls h hW hl
    replace h := bq_kap1 ek17 h
    obtain ⟨v2, hv, h⟩ := bq_bind h
    obtain v3 | X4 := v2
    rotate_left
    · replace h := bq_elimR h
      cases h
    replace h := bq_elimL h
    refine bq_callV S hK hz mv_X6_34 (cr_X6_require hv) (kc_X6_require hv) dX6_setSizes_17 [] (rest := []) rfl rfl rfl hl.1 (Nat.le_of_ble_eq_true rfl) ⟨Nat.le_of_ble_eq_true rfl, Nat.le_of_ble_eq_true rfl⟩ ⟨Nat.zero_le _, Nat.zero_le _⟩ hW (fun H locs hW => ?_)
    refine lv_aload_n hx hb dX6_setSizes_20 rfl (lv_at hl 0 rfl) ?_
    refine lv_iload_n hx hb dX6_setSizes_21 rfl (lv_at hl 2 rfl) ?_
    refine lv_iconst (v := 2) hx hb dX6_setSizes_22 (by decide) ?_
    obtain ⟨k36, ek36, h⟩ := bq_letK h
    have hjk36 : ∀ (b5 : Int32) (H1 : Heap) (locs1 : List Loc) (ls1 : Array Slot), k36 b5 = some (Sum.inl R, E9) → bq_H g L E z s.heap H1 locs1 → lv_has ls1 4 [(0, .ref a0), (1, .int x1), (2, .int x2)] → W p l e { frames := 6, cells := 0, slots := 0, locals := 148 } s m args below meth c H1 locs1 0 0 (MQ below (bq_Q g L E9 z (some (.int R))) args s 0 0 (bq_A z)) (F0 m 36 ls1 [.int b5, .ref a0]) := by
      intro b5 H locs ls h hW hl
      replace h := bq_kap1 ek36 h
      obtain ⟨v6, hv, h⟩ := bq_bind h
      obtain v7 | X8 := v6
      rotate_left
      · replace h := bq_elimR h
        cases h
      replace h := bq_elimL h
      refine bq_callV S hK hz mv_X6_34 (cr_X6_require hv) (kc_X6_require hv) dX6_setSizes_36 [] (rest := []) rfl rfl rfl hl.1 (Nat.le_of_ble_eq_true rfl) ⟨Nat.le_of_ble_eq_true rfl, Nat.le_of_ble_eq_true rfl⟩ ⟨Nat.zero_le _, Nat.zero_le _⟩ hW (fun H locs hW => ?_)
      refine lv_aload_n hx hb dX6_setSizes_39 rfl (lv_at hl 0 rfl) ?_
      obtain ⟨v9, hv, h⟩ := bq_bind h
      refine bq_getr S hK fl_X6_26 dX6_setSizes_40 hv hW ?_
      refine lv_aload_n hx hb dX6_setSizes_43 rfl (lv_at hl 0 rfl) ?_
      obtain ⟨v10, hv, h⟩ := bq_bind h
      refine bq_getr S hK fl_X6_10 dX6_setSizes_44 hv hW ?_
      obtain ⟨E11, hv, h⟩ := bq_bind h
      refine bq_callV S hK hz mv_X6_59 (c_X1_save hv) (kc_X1_save hv) dX6_setSizes_47 [] (rest := []) rfl rfl rfl hl.1 (Nat.le_of_ble_eq_true rfl) ⟨Nat.le_of_ble_eq_true rfl, Nat.le_of_ble_eq_true rfl⟩ ⟨Nat.zero_le _, Nat.zero_le _⟩ hW (fun H locs hW => ?_)
      refine lv_bipush (v := 10) hx hb dX6_setSizes_50 (by decide) ?_
      refine lv_aload_n hx hb dX6_setSizes_52 rfl (lv_at hl 0 rfl) ?_
      obtain ⟨v12, hv, h⟩ := bq_bind h
      refine bq_getr S hK fl_X6_10 dX6_setSizes_53 hv hW ?_
      obtain ⟨v13, hv, h⟩ := bq_bind h
      refine bq_geti S hK fl_X6_87 dX6_setSizes_56 hv hW ?_
      refine lv_imul hx hb dX6_setSizes_59 ?_
      refine lv_aload_n hx hb dX6_setSizes_60 rfl (lv_at hl 0 rfl) ?_
      obtain ⟨v14, hv, h⟩ := bq_bind h
      refine bq_getr S hK fl_X6_10 dX6_setSizes_61 hv hW ?_
      obtain ⟨v15, hv, h⟩ := bq_bind h
      refine bq_geti S hK fl_X6_90 dX6_setSizes_64 hv hW ?_
      refine lv_iadd hx hb dX6_setSizes_67 ?_
      refine lv_topi (fun v16 ev16 => ?_)
      replace h := bq_letE ev16 h
      refine lv_istore_n (lv' := [(3, .int v16), (0, .ref a0), (1, .int x1), (2, .int x2)]) hx hb dX6_setSizes_68 rfl hl (by decide) rfl (fun ls hl => ?_)
      refine lv_aload_n hx hb dX6_setSizes_69 rfl (lv_at hl 1 rfl) ?_
      obtain ⟨v17, hv, h⟩ := bq_bind h
      refine bq_getr S hK fl_X6_10 dX6_setSizes_70 hv hW ?_
      refine lv_iload_n hx hb dX6_setSizes_73 rfl (lv_at hl 2 rfl) ?_
      obtain ⟨E18, hv, h⟩ := bq_bind h
      refine bq_puti S hK fp_X6_87 dX6_setSizes_74 hv hW (fun H locs hW => ?_)
      refine lv_aload_n hx hb dX6_setSizes_77 rfl (lv_at hl 1 rfl) ?_
      obtain ⟨v19, hv, h⟩ := bq_bind h
      refine bq_getr S hK fl_X6_10 dX6_setSizes_78 hv hW ?_
      refine lv_iload_n hx hb dX6_setSizes_81 rfl (lv_at hl 3 rfl) ?_
      obtain ⟨E20, hv, h⟩ := bq_bind h
      refine bq_puti S hK fp_X6_90 dX6_setSizes_82 hv hW (fun H locs hW => ?_)
      refine lv_iload_n hx hb dX6_setSizes_85 rfl (lv_at hl 0 rfl) ?_
      cases h
      exact bq_reti S hr hlocks hK hz dX6_setSizes_86 hW
    clear ek36
    obtain ⟨k35, ek35, h⟩ := bq_letK h
    have hjk35 : ∀ (u0 : Unit) (H1 : Heap) (locs1 : List Loc) (ls1 : Array Slot), k35 u0 = some (Sum.inl R, E9) → bq_H g L E z s.heap H1 locs1 → lv_has ls1 4 [(0, .ref a0), (1, .int x1), (2, .int x2)] → W p l e { frames := 6, cells := 0, slots := 0, locals := 148 } s m args below meth c H1 locs1 0 0 (MQ below (bq_Q g L E9 z (some (.int R))) args s 0 0 (bq_A z)) (F0 m 35 ls1 [.ref a0]) := by
      intro u0 H locs ls h hW hl
      replace h := bq_kap1 ek35 h
      refine lv_iconst (v := 0) hx hb dX6_setSizes_35 (by decide) ?_
      exact hjk36 (0 : Int32) _ _ _ h hW (lv_sub hl [0, 1, 2] rfl)
    clear ek35
    refine lv_icmp_lt (tgt := 35) hx hb dX6_setSizes_23 (by decide) (fun hc => ?_) (fun hc => ?_)
    · replace h := bq_ifT hc h
      exact hjk35 () _ _ _ h hW (lv_sub hl [0, 1, 2] rfl)
    · replace h := bq_ifF hc h
      refine lv_iload_n hx hb dX6_setSizes_26 rfl (lv_at hl 2 rfl) ?_
      refine lv_iconst (v := 5) hx hb dX6_setSizes_27 (by decide) ?_
      refine lv_icmp_gt (tgt := 35) hx hb dX6_setSizes_28 (by decide) (fun hc => ?_) (fun hc => ?_)
      · replace h := bq_ifT hc h
        exact hjk35 () _ _ _ h hW (lv_sub hl [0, 1, 2] rfl)
      · replace h := bq_ifF hc h
        refine lv_iconst (v := 1) hx hb dX6_setSizes_31 (by decide) ?_
        refine lv_goto (tgt := 36) hx hb dX6_setSizes_32 (by decide) ?_
        exact hjk36 (1 : Int32) _ _ _ h hW (lv_sub hl [0, 1, 2] rfl)
  clear ek17
  obtain ⟨k16, ek16, h⟩ := bq_letK h
  have hjk16 : ∀ (u0 : Unit) (H1 : Heap) (locs1 : List Loc) (ls1 : Array Slot), k16 u0 = some (Sum.inl R, E9) → bq_H g L E z s.heap H1 locs1 → lv_has ls1 4 [(0, .ref a0), (1, .int x1), (2, .int x2)] → W p l e { frames := 6, cells := 0, slots := 0, locals := 148 } s m args below meth c H1 locs1 0 0 (MQ below (bq_Q g L E9 z (some (.int R))) args s 0 0 (bq_A z)) (F0 m 16 ls1 [.ref a0]) := by
    intro u0 H locs ls h hW hl
    replace h := bq_kap1 ek16 h
    refine lv_iconst (v := 0) hx hb dX6_setSizes_16 (by decide) ?_
    exact hjk17 (0 : Int32) _ _ _ h hW (lv_sub hl [0, 1, 2] rfl)
  clear ek16
  refine lv_icmp_lt (tgt := 16) hx hb dX6_setSizes_3 (by decide) (fun hc => ?_) (fun hc => ?_)
  · replace h := bq_ifT hc h
    exact hjk16 () _ _ _ h hW (lv_sub hl [0, 1, 2] rfl)
  · replace h := bq_ifF hc h
    refine lv_iload_n hx hb dX6_setSizes_6 rfl (lv_at hl 1 rfl) ?_
    refine lv_bipush (v := 8) hx hb dX6_setSizes_7 (by decide) ?_
    refine lv_icmp_gt (tgt := 16) hx hb dX6_setSizes_9 (by decide) (fun hc => ?_) (fun hc => ?_)
    · replace h := bq_ifT hc h
      exact hjk16 () _ _ _ h hW (lv_sub hl [0, 1, 2] rfl)
    · replace h := bq_ifF hc h
      refine lv_iconst (v := 1) hx hb dX6_setSizes_12 (by decide) ?_
      refine lv_goto (tgt := 17) hx hb dX6_setSizes_13 (by decide) ?_
      exact hjk17 (1 : Int32) _ _ _ h hW (lv_sub hl [0, 1, 2] rfl)

theorem kc_X6_rebuild {E : bq_E} {a0 : Nat} {x1 : Int32} {R : ((Int32 ⊕ String) × bq_E)} (h : tw_X6_rebuild E a0 x1 = some R) : bq_cls E a0 = 6 := (bq_guard h).1
set_option maxHeartbeats 4000000 in
set_option maxRecDepth 100000 in
theorem cr_X6_rebuild {l : Launch} {g : bq_G} {L : List Nat} {z : Nat} {E : bq_E} {a0 : Nat} {x1 : Int32} {R : Int32} {E9 : bq_E} (h : tw_X6_rebuild E a0 x1 = some (Sum.inl R, E9)) : bq_M l yX6_rebuild cX6_rebuild 2 (some .int) 6 148 [.ref a0, .int x1] g L E z (some (.int R)) E9 := by
  unfold tw_X6_rebuild at h
  obtain ⟨hcl, h⟩ := bq_guard h
  refine bq_enter (by decide) (Nat.le_of_ble_eq_true rfl) ?_
  intro p e s m args below meth c S hr hlocks hK hz hW ls hl
  have S : CallFix p m c cX6_rebuild 2 s args bq_WA RX6 := S
  have hx := S.1
  have hb := S.2.1
  have hl : lv_has ls 2 [(0, .ref a0), (1, .int x1)] := hl
  refine lv_aload_n hx hb dX6_rebuild_0 rfl (lv_at hl 0 rfl) ?_
  refine lv_iload_n hx hb dX6_rebuild_1 rfl (lv_at hl 1 rfl) ?_
  obtain ⟨v1, hv, h⟩ := bq_bind h
  obtain v2 | X3 := v1
  rotate_left
  · replace h := bq_elimR h
    cases h
  replace h := bq_elimL h
  refine bq_callV S hK hz mv_X6_30 (cr_X6_requireNode hv) (kc_X6_requireNode hv) dX6_rebuild_2 [] (rest := []) rfl rfl rfl hl.1 (Nat.le_of_ble_eq_true rfl) ⟨Nat.le_of_ble_eq_true rfl, Nat.le_of_ble_eq_true rfl⟩ ⟨Nat.zero_le _, Nat.zero_le _⟩ hW (fun H locs hW => ?_)
  refine lv_aload_n hx hb dX6_rebuild_5 rfl (lv_at hl 0 rfl) ?_
  obtain ⟨v4, hv, h⟩ := bq_bind h
  refine bq_getr S hK fl_X6_26 dX6_rebuild_6 hv hW ?_
  refine lv_aload_n hx hb dX6_rebuild_9 rfl (lv_at hl 0 rfl) ?_
  obtain ⟨v5, hv, h⟩ := bq_bind h
  refine bq_getr S hK fl_X6_10 dX6_rebuild_10 hv hW ?_
  obtain ⟨E6, hv, h⟩ := bq_bind h
  refine bq_callV S hK hz mv_X6_59 (c_X1_save hv) (kc_X1_save hv) dX6_rebuild_13 [] (rest := []) rfl rfl rfl hl.1 (Nat.le_of_ble_eq_true rfl) ⟨Nat.le_of_ble_eq_true rfl, Nat.le_of_ble_eq_true rfl⟩ ⟨Nat.zero_le _, Nat.zero_le _⟩ hW (fun H locs hW => ?_)
  refine lv_aload_n hx hb dX6_rebuild_16 rfl (lv_at hl 0 rfl) ?_
  obtain ⟨v7, hv, h⟩ := bq_bind h
  refine bq_getr S hK fl_X6_10 dX6_rebuild_17 hv hW ?_
  refine lv_iload_n hx hb dX6_rebuild_20 rfl (lv_at hl 1 rfl) ?_
  obtain ⟨v8, hv, h⟩ := bq_bind h
  refine bq_callV S hK hz mv_X6_93 (c_X4_renew hv) (kc_X4_renew hv) dX6_rebuild_21 [.int v8.1] (rest := []) rfl rfl rfl hl.1 (Nat.le_of_ble_eq_true rfl) ⟨Nat.le_of_ble_eq_true rfl, Nat.le_of_ble_eq_true rfl⟩ ⟨Nat.zero_le _, Nat.zero_le _⟩ hW (fun H locs hW => ?_)
  cases h
  exact bq_reti S hr hlocks hK hz dX6_rebuild_24 hW

theorem kc_X6_requireGoal {E : bq_E} {a0 : Nat} {x1 : Int32} {R : (Unit ⊕ String)} (h : tw_X6_requireGoal E a0 x1 = some R) : bq_cls E a0 = 6 := (bq_guard h).1
set_option maxHeartbeats 4000000 in
set_option maxRecDepth 100000 in
theorem cr_X6_requireGoal {l : Launch} {g : bq_G} {L : List Nat} {z : Nat} {E : bq_E} {a0 : Nat} {x1 : Int32} {R : Unit} (h : tw_X6_requireGoal E a0 x1 = some (Sum.inl R)) : bq_M l yX6_requireGoal cX6_requireGoal 2 none 1 21 [.ref a0, .int x1] g L E z none E := by
  unfold tw_X6_requireGoal at h
  obtain ⟨hcl, h⟩ := bq_guard h
  refine bq_enter (by decide) (Nat.le_of_ble_eq_true rfl) ?_
  intro p e s m args below meth c S hr hlocks hK hz hW ls hl
  have S : CallFix p m c cX6_requireGoal 2 s args bq_WA RX6 := S
  have hx := S.1
  have hb := S.2.1
  have hl : lv_has ls 2 [(0, .ref a0), (1, .int x1)] := hl
  refine lv_aload_n hx hb dX6_requireGoal_0 rfl (lv_at hl 0 rfl) ?_
  refine lv_iload_n hx hb dX6_requireGoal_1 rfl (lv_at hl 1 rfl) ?_
  refine lv_if_lt (tgt := 16) hx hb dX6_requireGoal_2 (by decide) (fun hc => ?_) (fun hc => ?_)
  · replace h := bq_ifT hc h
    refine lv_iconst (v := 0) hx hb dX6_requireGoal_16 (by decide) ?_
    obtain ⟨v1, hv, h⟩ := bq_bind h
    obtain v2 | X3 := v1
    rotate_left
    · replace h := bq_elimR h
      cases h
    replace h := bq_elimL h
    refine bq_callV S hK hz mv_X6_34 (cr_X6_require hv) (kc_X6_require hv) dX6_requireGoal_17 [] (rest := []) rfl rfl rfl hl.1 (Nat.le_of_ble_eq_true rfl) ⟨Nat.le_of_ble_eq_true rfl, Nat.le_of_ble_eq_true rfl⟩ ⟨Nat.zero_le _, Nat.zero_le _⟩ hW (fun H locs hW => ?_)
    cases h
    exact bq_retv S hr hlocks hK hz dX6_requireGoal_20 hW
  · replace h := bq_ifF hc h
    refine lv_iload_n hx hb dX6_requireGoal_5 rfl (lv_at hl 1 rfl) ?_
    refine lv_sipush (v := 10000) hx hb dX6_requireGoal_6 (by decide) ?_
    refine lv_icmp_gt (tgt := 16) hx hb dX6_requireGoal_9 (by decide) (fun hc => ?_) (fun hc => ?_)
    · replace h := bq_ifT hc h
      refine lv_iconst (v := 0) hx hb dX6_requireGoal_16 (by decide) ?_
      obtain ⟨v4, hv, h⟩ := bq_bind h
      obtain v5 | X6 := v4
      rotate_left
      · replace h := bq_elimR h
        cases h
      replace h := bq_elimL h
      refine bq_callV S hK hz mv_X6_34 (cr_X6_require hv) (kc_X6_require hv) dX6_requireGoal_17 [] (rest := []) rfl rfl rfl hl.1 (Nat.le_of_ble_eq_true rfl) ⟨Nat.le_of_ble_eq_true rfl, Nat.le_of_ble_eq_true rfl⟩ ⟨Nat.zero_le _, Nat.zero_le _⟩ hW (fun H locs hW => ?_)
      cases h
      exact bq_retv S hr hlocks hK hz dX6_requireGoal_20 hW
    · replace h := bq_ifF hc h
      refine lv_iconst (v := 1) hx hb dX6_requireGoal_12 (by decide) ?_
      refine lv_goto (tgt := 17) hx hb dX6_requireGoal_13 (by decide) ?_
      obtain ⟨v7, hv, h⟩ := bq_bind h
      obtain v8 | X9 := v7
      rotate_left
      · replace h := bq_elimR h
        cases h
      replace h := bq_elimL h
      refine bq_callV S hK hz mv_X6_34 (cr_X6_require hv) (kc_X6_require hv) dX6_requireGoal_17 [] (rest := []) rfl rfl rfl hl.1 (Nat.le_of_ble_eq_true rfl) ⟨Nat.le_of_ble_eq_true rfl, Nat.le_of_ble_eq_true rfl⟩ ⟨Nat.zero_le _, Nat.zero_le _⟩ hW (fun H locs hW => ?_)
      cases h
      exact bq_retv S hr hlocks hK hz dX6_requireGoal_20 hW

theorem kc_X6_walkTo {E : bq_E} {a0 : Nat} {x1 : Int32} {x2 : Int32} {R : ((Nat ⊕ String) × bq_E)} (h : tw_X6_walkTo E a0 x1 x2 = some R) : bq_cls E a0 = 6 := (bq_guard h).1
set_option maxHeartbeats 4000000 in
set_option maxRecDepth 100000 in
theorem cr_X6_walkTo {l : Launch} {g : bq_G} {L : List Nat} {z : Nat} {E : bq_E} {a0 : Nat} {x1 : Int32} {x2 : Int32} {R : Nat} {E9 : bq_E} (h : tw_X6_walkTo E a0 x1 x2 = some (Sum.inl R, E9)) : bq_M l yX6_walkTo cX6_walkTo 3 (some (.object "BridgedCatalogs$Walk")) 5 124 [.ref a0, .int x1, .int x2] g L E z (some (.ref R)) E9 := by
  unfold tw_X6_walkTo at h
  obtain ⟨hcl, h⟩ := bq_guard h
  refine bq_enter (by decide) (Nat.le_of_ble_eq_true rfl) ?_
  intro p e s m args below meth c S hr hlocks hK hz hW ls hl
  have S : CallFix p m c cX6_walkTo 3 s args bq_WA RX6 := S
  have hx := S.1
  have hb := S.2.1
  have hl : lv_has ls 3 [(0, .ref a0), (1, .int x1), (2, .int x2)] := hl
  refine lv_aload_n hx hb dX6_walkTo_0 rfl (lv_at hl 0 rfl) ?_
  refine lv_iload_n hx hb dX6_walkTo_1 rfl (lv_at hl 1 rfl) ?_
  obtain ⟨v1, hv, h⟩ := bq_bind h
  obtain v2 | X3 := v1
  rotate_left
  · replace h := bq_elimR h
    cases h
  replace h := bq_elimL h
  refine bq_callV S hK hz mv_X6_30 (cr_X6_requireNode hv) (kc_X6_requireNode hv) dX6_walkTo_2 [] (rest := []) rfl rfl rfl hl.1 (Nat.le_of_ble_eq_true rfl) ⟨Nat.le_of_ble_eq_true rfl, Nat.le_of_ble_eq_true rfl⟩ ⟨Nat.zero_le _, Nat.zero_le _⟩ hW (fun H locs hW => ?_)
  refine lv_aload_n hx hb dX6_walkTo_5 rfl (lv_at hl 0 rfl) ?_
  refine lv_iload_n hx hb dX6_walkTo_6 rfl (lv_at hl 2 rfl) ?_
  obtain ⟨v4, hv, h⟩ := bq_bind h
  obtain v5 | X6 := v4
  rotate_left
  · replace h := bq_elimR h
    cases h
  replace h := bq_elimL h
  refine bq_callV S hK hz mv_X6_119 (cr_X6_requireGoal hv) (kc_X6_requireGoal hv) dX6_walkTo_7 [] (rest := []) rfl rfl rfl hl.1 (Nat.le_of_ble_eq_true rfl) ⟨Nat.le_of_ble_eq_true rfl, Nat.le_of_ble_eq_true rfl⟩ ⟨Nat.zero_le _, Nat.zero_le _⟩ hW (fun H locs hW => ?_)
  refine lv_aload_n hx hb dX6_walkTo_10 rfl (lv_at hl 0 rfl) ?_
  obtain ⟨v7, hv, h⟩ := bq_bind h
  refine bq_getr S hK fl_X6_19 dX6_walkTo_11 hv hW ?_
  refine lv_aload_n hx hb dX6_walkTo_14 rfl (lv_at hl 0 rfl) ?_
  obtain ⟨v8, hv, h⟩ := bq_bind h
  refine bq_getr S hK fl_X6_10 dX6_walkTo_15 hv hW ?_
  refine lv_iload_n hx hb dX6_walkTo_18 rfl (lv_at hl 1 rfl) ?_
  refine lv_iload_n hx hb dX6_walkTo_19 rfl (lv_at hl 2 rfl) ?_
  obtain ⟨E9, hv, h⟩ := bq_bind h
  refine bq_callV S hK hz mv_X6_139 (c_X5_bridged hv) (kc_X5_bridged hv) dX6_walkTo_20 [] (rest := []) rfl rfl rfl hl.1 (Nat.le_of_ble_eq_true rfl) ⟨Nat.le_of_ble_eq_true rfl, Nat.le_of_ble_eq_true rfl⟩ ⟨Nat.zero_le _, Nat.zero_le _⟩ hW (fun H locs hW => ?_)
  refine lv_aload_n hx hb dX6_walkTo_23 rfl (lv_at hl 0 rfl) ?_
  obtain ⟨v10, hv, h⟩ := bq_bind h
  refine bq_getr S hK fl_X6_19 dX6_walkTo_24 hv hW ?_
  cases h
  exact bq_reta S hr hlocks hK hz dX6_walkTo_27 hW

theorem kc_X6_search {E : bq_E} {a0 : Nat} {x1 : Int32} {x2 : Int32} {R : ((Int32 ⊕ String) × bq_E)} (h : tw_X6_search E a0 x1 x2 = some R) : bq_cls E a0 = 6 := (bq_guard h).1
set_option maxHeartbeats 4000000 in
set_option maxRecDepth 100000 in
theorem cr_X6_search {l : Launch} {g : bq_G} {L : List Nat} {z : Nat} {E : bq_E} {a0 : Nat} {x1 : Int32} {x2 : Int32} {R : Int32} {E9 : bq_E} (h : tw_X6_search E a0 x1 x2 = some (Sum.inl R, E9)) : bq_M l yX6_search cX6_search 4 (some .int) 6 148 [.ref a0, .int x1, .int x2] g L E z (some (.int R)) E9 := by
  unfold tw_X6_search at h
  obtain ⟨hcl, h⟩ := bq_guard h
  refine bq_enter (by decide) (Nat.le_of_ble_eq_true rfl) ?_
  intro p e s m args below meth c S hr hlocks hK hz hW ls hl
  have S : CallFix p m c cX6_search 4 s args bq_WA RX6 := S
  have hx := S.1
  have hb := S.2.1
  have hl : lv_has ls 4 [(0, .ref a0), (1, .int x1), (2, .int x2)] := hl
  refine lv_aload_n hx hb dX6_search_0 rfl (lv_at hl 0 rfl) ?_
  refine lv_iload_n hx hb dX6_search_1 rfl (lv_at hl 1 rfl) ?_
  refine lv_iload_n hx hb dX6_search_2 rfl (lv_at hl 2 rfl) ?_
  obtain ⟨v1, hv, h⟩ := bq_bind h
  rcases hq : v1.1 with v2 | X3
  all_goals rw [hq] at h
  all_goals replace hv := bq_pairE hq hv
  rotate_left
  · replace h := bq_elimR h
    cases h
  replace h := bq_elimL h
  refine bq_callV S hK hz mv_X6_103 (cr_X6_walkTo hv) (kc_X6_walkTo hv) dX6_search_3 [.ref v2] (rest := []) rfl rfl rfl hl.1 (Nat.le_of_ble_eq_true rfl) ⟨Nat.le_of_ble_eq_true rfl, Nat.le_of_ble_eq_true rfl⟩ ⟨Nat.zero_le _, Nat.zero_le _⟩ hW (fun H locs hW => ?_)
  refine lv_astore_n (lv' := [(3, .ref v2), (0, .ref a0), (1, .int x1), (2, .int x2)]) hx hb dX6_search_6 rfl hl (by decide) rfl (fun ls hl => ?_)
  refine lv_aload_n hx hb dX6_search_7 rfl (lv_at hl 1 rfl) ?_
  obtain ⟨v4, hv, h⟩ := bq_bind h
  refine bq_getr S hK fl_X6_26 dX6_search_8 hv hW ?_
  refine lv_aload_n hx hb dX6_search_11 rfl (lv_at hl 1 rfl) ?_
  obtain ⟨v5, hv, h⟩ := bq_bind h
  refine bq_getr S hK fl_X6_10 dX6_search_12 hv hW ?_
  obtain ⟨E6, hv, h⟩ := bq_bind h
  refine bq_callV S hK hz mv_X6_59 (c_X1_save hv) (kc_X1_save hv) dX6_search_15 [] (rest := []) rfl rfl rfl hl.1 (Nat.le_of_ble_eq_true rfl) ⟨Nat.le_of_ble_eq_true rfl, Nat.le_of_ble_eq_true rfl⟩ ⟨Nat.zero_le _, Nat.zero_le _⟩ hW (fun H locs hW => ?_)
  refine lv_aload_n hx hb dX6_search_18 rfl (lv_at hl 1 rfl) ?_
  obtain ⟨v7, hv, h⟩ := bq_bind h
  refine bq_getr S hK fl_X6_10 dX6_search_19 hv hW ?_
  refine lv_dup hx hb dX6_search_22 rfl ?_
  obtain ⟨v8, hv, h⟩ := bq_bind h
  refine bq_geti S hK fl_X6_107 dX6_search_23 hv hW ?_
  refine lv_iconst (v := 1) hx hb dX6_search_26 (by decide) ?_
  refine lv_iadd hx hb dX6_search_27 ?_
  obtain ⟨E9, hv, h⟩ := bq_bind h
  refine bq_puti S hK fp_X6_107 dX6_search_28 hv hW (fun H locs hW => ?_)
  refine lv_aload_n hx hb dX6_search_31 rfl (lv_at hl 1 rfl) ?_
  obtain ⟨v10, hv, h⟩ := bq_bind h
  refine bq_getr S hK fl_X6_10 dX6_search_32 hv hW ?_
  refine lv_dup hx hb dX6_search_35 rfl ?_
  obtain ⟨v11, hv, h⟩ := bq_bind h
  refine bq_geti S hK fl_X6_110 dX6_search_36 hv hW ?_
  refine lv_aload_n hx hb dX6_search_39 rfl (lv_at hl 0 rfl) ?_
  obtain ⟨v12, hv, h⟩ := bq_bind h
  refine bq_geti S hK fl_X6_113 dX6_search_40 hv hW ?_
  refine lv_iadd hx hb dX6_search_43 ?_
  obtain ⟨E13, hv, h⟩ := bq_bind h
  refine bq_puti S hK fp_X6_110 dX6_search_44 hv hW (fun H locs hW => ?_)
  refine lv_aload_n hx hb dX6_search_47 rfl (lv_at hl 0 rfl) ?_
  obtain ⟨v14, hv, h⟩ := bq_bind h
  refine bq_geti S hK fl_X6_116 dX6_search_48 hv hW ?_
  cases h
  exact bq_reti S hr hlocks hK hz dX6_search_51 hW

theorem kc_X6_nodes {E : bq_E} {a0 : Nat} {R : Int32} (h : tw_X6_nodes E a0 = some R) : bq_cls E a0 = 6 := (bq_guard h).1
set_option maxHeartbeats 4000000 in
set_option maxRecDepth 100000 in
theorem c_X6_nodes {l : Launch} {g : bq_G} {L : List Nat} {z : Nat} {E : bq_E} {a0 : Nat} {R : Int32} (h : tw_X6_nodes E a0 = some R) : bq_M l yX6_nodes cX6_nodes 1 (some .int) 0 0 [.ref a0] g L E z (some (.int R)) E := by
  unfold tw_X6_nodes at h
  obtain ⟨hcl, h⟩ := bq_guard h
  refine bq_enter (by decide) (Nat.le_of_ble_eq_true rfl) ?_
  intro p e s m args below meth c S hr hlocks hK hz hW ls hl
  have S : CallFix p m c cX6_nodes 1 s args bq_WA RX6 := S
  have hx := S.1
  have hb := S.2.1
  have hl : lv_has ls 1 [(0, .ref a0)] := hl
  refine lv_aload_n hx hb dX6_nodes_0 rfl (lv_at hl 0 rfl) ?_
  obtain ⟨v1, hv, h⟩ := bq_bind h
  refine bq_getr S hK fl_X6_10 dX6_nodes_1 hv hW ?_
  obtain ⟨v2, hv, h⟩ := bq_bind h
  refine bq_geti S hK fl_X6_38 dX6_nodes_4 hv hW ?_
  cases h
  exact bq_reti S hr hlocks hK hz dX6_nodes_7 hW

theorem kc_X6_node {E : bq_E} {a0 : Nat} {x1 : Int32} {x2 : Int32} {R : (Int32 ⊕ String)} (h : tw_X6_node E a0 x1 x2 = some R) : bq_cls E a0 = 6 := (bq_guard h).1
set_option maxHeartbeats 4000000 in
set_option maxRecDepth 100000 in
theorem cr_X6_node {l : Launch} {g : bq_G} {L : List Nat} {z : Nat} {E : bq_E} {a0 : Nat} {x1 : Int32} {x2 : Int32} {R : Int32} (h : tw_X6_node E a0 x1 x2 = some (Sum.inl R)) : bq_M l yX6_node cX6_node 4 (some .int) 2 40 [.ref a0, .int x1, .int x2] g L E z (some (.int R)) E := by
  unfold tw_X6_node at h
  obtain ⟨hcl, h⟩ := bq_guard h
  refine bq_enter (by decide) (Nat.le_of_ble_eq_true rfl) ?_
  intro p e s m args below meth c S hr hlocks hK hz hW ls hl
  have S : CallFix p m c cX6_node 4 s args bq_WA RX6 := S
  have hx := S.1
  have hb := S.2.1
  have hl : lv_has ls 4 [(0, .ref a0), (1, .int x1), (2, .int x2)] := hl
  refine lv_aload_n hx hb dX6_node_0 rfl (lv_at hl 0 rfl) ?_
  refine lv_iload_n hx hb dX6_node_1 rfl (lv_at hl 1 rfl) ?_
  obtain ⟨v1, hv, h⟩ := bq_bind h
  obtain v2 | X3 := v1
  rotate_left
  · replace h := bq_elimR h
    cases h
  replace h := bq_elimL h
  refine bq_callV S hK hz mv_X6_30 (cr_X6_requireNode hv) (kc_X6_requireNode hv) dX6_node_2 [] (rest := []) rfl rfl rfl hl.1 (Nat.le_of_ble_eq_true rfl) ⟨Nat.le_of_ble_eq_true rfl, Nat.le_of_ble_eq_true rfl⟩ ⟨Nat.zero_le _, Nat.zero_le _⟩ hW (fun H locs hW => ?_)
  refine lv_aload_n hx hb dX6_node_5 rfl (lv_at hl 0 rfl) ?_
  obtain ⟨v4, hv, h⟩ := bq_bind h
  refine bq_getr S hK fl_X6_10 dX6_node_6 hv hW ?_
  refine lv_iload_n hx hb dX6_node_9 rfl (lv_at hl 1 rfl) ?_
  obtain ⟨v5, hv, h⟩ := bq_bind h
  refine bq_callV S hK hz mv_X6_42 (c_X4_at hv) (kc_X4_at hv) dX6_node_10 [.ref v5] (rest := []) rfl rfl rfl hl.1 (Nat.le_of_ble_eq_true rfl) ⟨Nat.le_of_ble_eq_true rfl, Nat.le_of_ble_eq_true rfl⟩ ⟨Nat.zero_le _, Nat.zero_le _⟩ hW (fun H locs hW => ?_)
  refine lv_astore_n (lv' := [(3, .ref v5), (0, .ref a0), (1, .int x1), (2, .int x2)]) hx hb dX6_node_13 rfl hl (by decide) rfl (fun ls hl => ?_)
  refine lv_iload_n hx hb dX6_node_14 rfl (lv_at hl 3 rfl) ?_
  by_cases hc0 : x2 = 0
  · replace h := bq_ifT hc0 h
    refine lv_tableIn (tgt := 64) (off := 49) hx hb dX6_node_15 (by rw [hc0]; decide) (by rw [hc0]; decide) (by rw [hc0]; rfl) (by decide) ?_
    refine lv_aload_n hx hb dX6_node_64 rfl (lv_at hl 0 rfl) ?_
    obtain ⟨v6, hv, h⟩ := bq_bind h
    refine bq_geti S hK fl_X6_142 dX6_node_65 hv hW ?_
    cases h
    exact bq_reti S hr hlocks hK hz dX6_node_68 hW
  replace h := bq_ifF hc0 h
  by_cases hc1 : x2 = 1
  · replace h := bq_ifT hc1 h
    refine lv_tableIn (tgt := 69) (off := 54) hx hb dX6_node_15 (by rw [hc1]; decide) (by rw [hc1]; decide) (by rw [hc1]; rfl) (by decide) ?_
    refine lv_aload_n hx hb dX6_node_69 rfl (lv_at hl 0 rfl) ?_
    obtain ⟨v7, hv, h⟩ := bq_bind h
    refine bq_geti S hK fl_X6_145 dX6_node_70 hv hW ?_
    cases h
    exact bq_reti S hr hlocks hK hz dX6_node_73 hW
  replace h := bq_ifF hc1 h
  by_cases hc2 : x2 = 2
  · replace h := bq_ifT hc2 h
    refine lv_tableIn (tgt := 74) (off := 59) hx hb dX6_node_15 (by rw [hc2]; decide) (by rw [hc2]; decide) (by rw [hc2]; rfl) (by decide) ?_
    refine lv_aload_n hx hb dX6_node_74 rfl (lv_at hl 0 rfl) ?_
    obtain ⟨v8, hv, h⟩ := bq_bind h
    refine bq_geti S hK fl_X6_148 dX6_node_75 hv hW ?_
    cases h
    exact bq_reti S hr hlocks hK hz dX6_node_78 hW
  replace h := bq_ifF hc2 h
  by_cases hc3 : x2 = 3
  · replace h := bq_ifT hc3 h
    refine lv_tableIn (tgt := 79) (off := 64) hx hb dX6_node_15 (by rw [hc3]; decide) (by rw [hc3]; decide) (by rw [hc3]; rfl) (by decide) ?_
    refine lv_aload_n hx hb dX6_node_79 rfl (lv_at hl 0 rfl) ?_
    obtain ⟨v9, hv, h⟩ := bq_bind h
    refine bq_geti S hK fl_X6_151 dX6_node_80 hv hW ?_
    cases h
    exact bq_reti S hr hlocks hK hz dX6_node_83 hW
  replace h := bq_ifF hc3 h
  by_cases hc4 : x2 = 4
  · replace h := bq_ifT hc4 h
    refine lv_tableIn (tgt := 84) (off := 69) hx hb dX6_node_15 (by rw [hc4]; decide) (by rw [hc4]; decide) (by rw [hc4]; rfl) (by decide) ?_
    refine lv_aload_n hx hb dX6_node_84 rfl (lv_at hl 0 rfl) ?_
    obtain ⟨v10, hv, h⟩ := bq_bind h
    refine bq_callV S hK hz mv_X6_154 (c_X0_keyCount hv) (kc_X0_keyCount hv) dX6_node_85 [.int v10] (rest := []) rfl rfl rfl hl.1 (Nat.le_of_ble_eq_true rfl) ⟨Nat.le_of_ble_eq_true rfl, Nat.le_of_ble_eq_true rfl⟩ ⟨Nat.zero_le _, Nat.zero_le _⟩ hW (fun H locs hW => ?_)
    cases h
    exact bq_reti S hr hlocks hK hz dX6_node_88 hW
  replace h := bq_ifF hc4 h
  by_cases hc5 : x2 = 5
  · replace h := bq_ifT hc5 h
    refine lv_tableIn (tgt := 89) (off := 74) hx hb dX6_node_15 (by rw [hc5]; decide) (by rw [hc5]; decide) (by rw [hc5]; rfl) (by decide) ?_
    refine lv_aload_n hx hb dX6_node_89 rfl (lv_at hl 0 rfl) ?_
    obtain ⟨v11, hv, h⟩ := bq_bind h
    refine bq_getr S hK fl_X6_157 dX6_node_90 hv hW ?_
    obtain ⟨v12, hv, h⟩ := bq_bind h
    refine bq_callV S hK hz mv_X6_161 (c_X3_size hv) (kc_X3_size hv) dX6_node_93 [.int v12] (rest := []) rfl rfl rfl hl.1 (Nat.le_of_ble_eq_true rfl) ⟨Nat.le_of_ble_eq_true rfl, Nat.le_of_ble_eq_true rfl⟩ ⟨Nat.zero_le _, Nat.zero_le _⟩ hW (fun H locs hW => ?_)
    cases h
    exact bq_reti S hr hlocks hK hz dX6_node_96 hW
  replace h := bq_ifF hc5 h
  by_cases hc6 : x2 = 6
  · replace h := bq_ifT hc6 h
    refine lv_tableIn (tgt := 97) (off := 82) hx hb dX6_node_15 (by rw [hc6]; decide) (by rw [hc6]; decide) (by rw [hc6]; rfl) (by decide) ?_
    refine lv_aload_n hx hb dX6_node_97 rfl (lv_at hl 0 rfl) ?_
    obtain ⟨v13, hv, h⟩ := bq_bind h
    refine bq_geti S hK fl_X6_165 dX6_node_98 hv hW ?_
    cases h
    exact bq_reti S hr hlocks hK hz dX6_node_101 hW
  replace h := bq_ifF hc6 h
  by_cases hc7 : x2 = 7
  · replace h := bq_ifT hc7 h
    refine lv_tableIn (tgt := 102) (off := 87) hx hb dX6_node_15 (by rw [hc7]; decide) (by rw [hc7]; decide) (by rw [hc7]; rfl) (by decide) ?_
    refine lv_aload_n hx hb dX6_node_102 rfl (lv_at hl 0 rfl) ?_
    obtain ⟨v14, hv, h⟩ := bq_bind h
    refine bq_getr S hK fl_X6_168 dX6_node_103 hv hW ?_
    obtain ⟨v15, hv, h⟩ := bq_bind h
    refine bq_callV S hK hz mv_X6_161 (c_X3_size hv) (kc_X3_size hv) dX6_node_106 [.int v15] (rest := []) rfl rfl rfl hl.1 (Nat.le_of_ble_eq_true rfl) ⟨Nat.le_of_ble_eq_true rfl, Nat.le_of_ble_eq_true rfl⟩ ⟨Nat.zero_le _, Nat.zero_le _⟩ hW (fun H locs hW => ?_)
    cases h
    exact bq_reti S hr hlocks hK hz dX6_node_109 hW
  replace h := bq_ifF hc7 h
  by_cases hc8 : x2 = 8
  · replace h := bq_ifT hc8 h
    refine lv_tableIn (tgt := 110) (off := 95) hx hb dX6_node_15 (by rw [hc8]; decide) (by rw [hc8]; decide) (by rw [hc8]; rfl) (by decide) ?_
    refine lv_aload_n hx hb dX6_node_110 rfl (lv_at hl 0 rfl) ?_
    obtain ⟨v16, hv, h⟩ := bq_bind h
    refine bq_getr S hK fl_X6_171 dX6_node_111 hv hW ?_
    obtain ⟨v17, hv, h⟩ := bq_bind h
    refine bq_callV S hK hz mv_X6_175 (c_X2_size hv) (kc_X2_size hv) dX6_node_114 [.int v17] (rest := []) rfl rfl rfl hl.1 (Nat.le_of_ble_eq_true rfl) ⟨Nat.le_of_ble_eq_true rfl, Nat.le_of_ble_eq_true rfl⟩ ⟨Nat.zero_le _, Nat.zero_le _⟩ hW (fun H locs hW => ?_)
    cases h
    exact bq_reti S hr hlocks hK hz dX6_node_117 hW
  replace h := bq_ifF hc8 h
  have q0 : Int32.toInt x2 ≠ 0 := fun q => hc0 (Int32.toInt_inj.mp (q.trans (by decide)))
  have q1 : Int32.toInt x2 ≠ 1 := fun q => hc1 (Int32.toInt_inj.mp (q.trans (by decide)))
  have q2 : Int32.toInt x2 ≠ 2 := fun q => hc2 (Int32.toInt_inj.mp (q.trans (by decide)))
  have q3 : Int32.toInt x2 ≠ 3 := fun q => hc3 (Int32.toInt_inj.mp (q.trans (by decide)))
  have q4 : Int32.toInt x2 ≠ 4 := fun q => hc4 (Int32.toInt_inj.mp (q.trans (by decide)))
  have q5 : Int32.toInt x2 ≠ 5 := fun q => hc5 (Int32.toInt_inj.mp (q.trans (by decide)))
  have q6 : Int32.toInt x2 ≠ 6 := fun q => hc6 (Int32.toInt_inj.mp (q.trans (by decide)))
  have q7 : Int32.toInt x2 ≠ 7 := fun q => hc7 (Int32.toInt_inj.mp (q.trans (by decide)))
  have q8 : Int32.toInt x2 ≠ 8 := fun q => hc8 (Int32.toInt_inj.mp (q.trans (by decide)))
  refine lv_tableOut (tgt := 118) hx hb dX6_node_15 (by omega) (by decide) ?_
  cases h

theorem kc_X6_key {E : bq_E} {a0 : Nat} {x1 : Int32} {x2 : Int32} {R : (Int32 ⊕ String)} (h : tw_X6_key E a0 x1 x2 = some R) : bq_cls E a0 = 6 := (bq_guard h).1
set_option maxHeartbeats 4000000 in
set_option maxRecDepth 100000 in
theorem cr_X6_key {l : Launch} {g : bq_G} {L : List Nat} {z : Nat} {E : bq_E} {a0 : Nat} {x1 : Int32} {x2 : Int32} {R : Int32} (h : tw_X6_key E a0 x1 x2 = some (Sum.inl R)) : bq_M l yX6_key cX6_key 3 (some .int) 3 72 [.ref a0, .int x1, .int x2] g L E z (some (.int R)) E := by
  unfold tw_X6_key at h
  obtain ⟨hcl, h⟩ := bq_guard h
  refine bq_enter (by decide) (Nat.le_of_ble_eq_true rfl) ?_
  intro p e s m args below meth c S hr hlocks hK hz hW ls hl
  have S : CallFix p m c cX6_key 3 s args bq_WA RX6 := S
  have hx := S.1
  have hb := S.2.1
  have hl : lv_has ls 3 [(0, .ref a0), (1, .int x1), (2, .int x2)] := hl
  refine lv_aload_n hx hb dX6_key_0 rfl (lv_at hl 0 rfl) ?_
  refine lv_iload_n hx hb dX6_key_1 rfl (lv_at hl 1 rfl) ?_
  obtain ⟨v1, hv, h⟩ := bq_bind h
  obtain v2 | X3 := v1
  rotate_left
  · replace h := bq_elimR h
    cases h
  replace h := bq_elimL h
  refine bq_callV S hK hz mv_X6_30 (cr_X6_requireNode hv) (kc_X6_requireNode hv) dX6_key_2 [] (rest := []) rfl rfl rfl hl.1 (Nat.le_of_ble_eq_true rfl) ⟨Nat.le_of_ble_eq_true rfl, Nat.le_of_ble_eq_true rfl⟩ ⟨Nat.zero_le _, Nat.zero_le _⟩ hW (fun H locs hW => ?_)
  refine lv_aload_n hx hb dX6_key_5 rfl (lv_at hl 0 rfl) ?_
  refine lv_iload_n hx hb dX6_key_6 rfl (lv_at hl 2 rfl) ?_
  obtain ⟨k15, ek15, h⟩ := bq_letK h
  have hjk15 : ∀ (b4 : Int32) (H1 : Heap) (locs1 : List Loc) (ls1 : Array Slot), k15 b4 = some (Sum.inl R) → bq_H g L E z s.heap H1 locs1 → lv_has ls1 3 [(0, .ref a0), (1, .int x1), (2, .int x2)] → W p l e { frames := 3, cells := 0, slots := 0, locals := 72 } s m args below meth c H1 locs1 0 0 (MQ below (bq_Q g L E z (some (.int R))) args s 0 0 (bq_A z)) (F0 m 15 ls1 [.int b4, .ref a0]) := by
    intro b4 H locs ls h hW hl
    replace h := bq_kap1 ek15 h
    obtain ⟨v5, hv, h⟩ := bq_bind h
    obtain v6 | X7 := v5
    rotate_left
    · replace h := bq_elimR h
      cases h
    replace h := bq_elimL h
    refine bq_callV S hK hz mv_X6_34 (cr_X6_require hv) (kc_X6_require hv) dX6_key_15 [] (rest := []) rfl rfl rfl hl.1 (Nat.le_of_ble_eq_true rfl) ⟨Nat.le_of_ble_eq_true rfl, Nat.le_of_ble_eq_true rfl⟩ ⟨Nat.zero_le _, Nat.zero_le _⟩ hW (fun H locs hW => ?_)
    refine lv_aload_n hx hb dX6_key_18 rfl (lv_at hl 0 rfl) ?_
    obtain ⟨v8, hv, h⟩ := bq_bind h
    refine bq_getr S hK fl_X6_10 dX6_key_19 hv hW ?_
    refine lv_iload_n hx hb dX6_key_22 rfl (lv_at hl 1 rfl) ?_
    obtain ⟨v9, hv, h⟩ := bq_bind h
    refine bq_callV S hK hz mv_X6_42 (c_X4_at hv) (kc_X4_at hv) dX6_key_23 [.ref v9] (rest := []) rfl rfl rfl hl.1 (Nat.le_of_ble_eq_true rfl) ⟨Nat.le_of_ble_eq_true rfl, Nat.le_of_ble_eq_true rfl⟩ ⟨Nat.zero_le _, Nat.zero_le _⟩ hW (fun H locs hW => ?_)
    refine lv_iload_n hx hb dX6_key_26 rfl (lv_at hl 2 rfl) ?_
    obtain ⟨v10, hv, h⟩ := bq_bind h
    refine bq_callV S hK hz mv_X6_183 (c_X0_keyInOrder hv) (kc_X0_keyInOrder hv) dX6_key_27 [.int v10] (rest := []) rfl rfl rfl hl.1 (Nat.le_of_ble_eq_true rfl) ⟨Nat.le_of_ble_eq_true rfl, Nat.le_of_ble_eq_true rfl⟩ ⟨Nat.zero_le _, Nat.zero_le _⟩ hW (fun H locs hW => ?_)
    cases h
    exact bq_reti S hr hlocks hK hz dX6_key_30 hW
  clear ek15
  refine lv_if_lt (tgt := 14) hx hb dX6_key_7 (by decide) (fun hc => ?_) (fun hc => ?_)
  · replace h := bq_ifT hc h
    refine lv_iconst (v := 0) hx hb dX6_key_14 (by decide) ?_
    exact hjk15 (0 : Int32) _ _ _ h hW (lv_sub hl [0, 1, 2] rfl)
  · replace h := bq_ifF hc h
    refine lv_iconst (v := 1) hx hb dX6_key_10 (by decide) ?_
    refine lv_goto (tgt := 15) hx hb dX6_key_11 (by decide) ?_
    exact hjk15 (1 : Int32) _ _ _ h hW (lv_sub hl [0, 1, 2] rfl)

theorem kc_X6_baseKey {E : bq_E} {a0 : Nat} {x1 : Int32} {x2 : Int32} {R : (Int32 ⊕ String)} (h : tw_X6_baseKey E a0 x1 x2 = some R) : bq_cls E a0 = 6 := (bq_guard h).1
set_option maxHeartbeats 4000000 in
set_option maxRecDepth 100000 in
theorem cr_X6_baseKey {l : Launch} {g : bq_G} {L : List Nat} {z : Nat} {E : bq_E} {a0 : Nat} {x1 : Int32} {x2 : Int32} {R : Int32} (h : tw_X6_baseKey E a0 x1 x2 = some (Sum.inl R)) : bq_M l yX6_baseKey cX6_baseKey 5 (some .int) 2 43 [.ref a0, .int x1, .int x2] g L E z (some (.int R)) E := by
  unfold tw_X6_baseKey at h
  obtain ⟨hcl, h⟩ := bq_guard h
  refine bq_enter (by decide) (Nat.le_of_ble_eq_true rfl) ?_
  intro p e s m args below meth c S hr hlocks hK hz hW ls hl
  have S : CallFix p m c cX6_baseKey 5 s args bq_WA RX6 := S
  have hx := S.1
  have hb := S.2.1
  have hl : lv_has ls 5 [(0, .ref a0), (1, .int x1), (2, .int x2)] := hl
  refine lv_aload_n hx hb dX6_baseKey_0 rfl (lv_at hl 0 rfl) ?_
  refine lv_iload_n hx hb dX6_baseKey_1 rfl (lv_at hl 1 rfl) ?_
  obtain ⟨v1, hv, h⟩ := bq_bind h
  obtain v2 | X3 := v1
  rotate_left
  · replace h := bq_elimR h
    cases h
  replace h := bq_elimL h
  refine bq_callV S hK hz mv_X6_30 (cr_X6_requireNode hv) (kc_X6_requireNode hv) dX6_baseKey_2 [] (rest := []) rfl rfl rfl hl.1 (Nat.le_of_ble_eq_true rfl) ⟨Nat.le_of_ble_eq_true rfl, Nat.le_of_ble_eq_true rfl⟩ ⟨Nat.zero_le _, Nat.zero_le _⟩ hW (fun H locs hW => ?_)
  refine lv_aload_n hx hb dX6_baseKey_5 rfl (lv_at hl 0 rfl) ?_
  refine lv_iload_n hx hb dX6_baseKey_6 rfl (lv_at hl 2 rfl) ?_
  obtain ⟨k15, ek15, h⟩ := bq_letK h
  have hjk15 : ∀ (b4 : Int32) (H1 : Heap) (locs1 : List Loc) (ls1 : Array Slot), k15 b4 = some (Sum.inl R) → bq_H g L E z s.heap H1 locs1 → lv_has ls1 5 [(0, .ref a0), (1, .int x1), (2, .int x2)] → W p l e { frames := 2, cells := 0, slots := 0, locals := 43 } s m args below meth c H1 locs1 0 0 (MQ below (bq_Q g L E z (some (.int R))) args s 0 0 (bq_A z)) (F0 m 15 ls1 [.int b4, .ref a0]) := by
    intro b4 H locs ls h hW hl
    replace h := bq_kap1 ek15 h
    obtain ⟨v5, hv, h⟩ := bq_bind h
    obtain v6 | X7 := v5
    rotate_left
    · replace h := bq_elimR h
      cases h
    replace h := bq_elimL h
    refine bq_callV S hK hz mv_X6_34 (cr_X6_require hv) (kc_X6_require hv) dX6_baseKey_15 [] (rest := []) rfl rfl rfl hl.1 (Nat.le_of_ble_eq_true rfl) ⟨Nat.le_of_ble_eq_true rfl, Nat.le_of_ble_eq_true rfl⟩ ⟨Nat.zero_le _, Nat.zero_le _⟩ hW (fun H locs hW => ?_)
    refine lv_aload_n hx hb dX6_baseKey_18 rfl (lv_at hl 0 rfl) ?_
    obtain ⟨v8, hv, h⟩ := bq_bind h
    refine bq_getr S hK fl_X6_10 dX6_baseKey_19 hv hW ?_
    refine lv_iload_n hx hb dX6_baseKey_22 rfl (lv_at hl 1 rfl) ?_
    obtain ⟨v9, hv, h⟩ := bq_bind h
    refine bq_callV S hK hz mv_X6_42 (c_X4_at hv) (kc_X4_at hv) dX6_baseKey_23 [.ref v9] (rest := []) rfl rfl rfl hl.1 (Nat.le_of_ble_eq_true rfl) ⟨Nat.le_of_ble_eq_true rfl, Nat.le_of_ble_eq_true rfl⟩ ⟨Nat.zero_le _, Nat.zero_le _⟩ hW (fun H locs hW => ?_)
    refine lv_astore_n (lv' := [(3, .ref v9), (0, .ref a0), (1, .int x1), (2, .int x2)]) hx hb dX6_baseKey_26 rfl hl (by decide) rfl (fun ls hl => ?_)
    refine lv_aload_n hx hb dX6_baseKey_27 rfl (lv_at hl 0 rfl) ?_
    obtain ⟨v10, hv, h⟩ := bq_bind h
    refine bq_getr S hK fl_X6_157 dX6_baseKey_28 hv hW ?_
    refine lv_iload_n hx hb dX6_baseKey_31 rfl (lv_at hl 3 rfl) ?_
    refine lv_iconst (v := (-1)) hx hb dX6_baseKey_32 (by decide) ?_
    obtain ⟨v11, hv, h⟩ := bq_bind h
    refine bq_callV S hK hz mv_X6_186 (c_X3_at hv) (kc_X3_at hv) dX6_baseKey_33 [.int v11] (rest := []) rfl rfl rfl hl.1 (Nat.le_of_ble_eq_true rfl) ⟨Nat.le_of_ble_eq_true rfl, Nat.le_of_ble_eq_true rfl⟩ ⟨Nat.zero_le _, Nat.zero_le _⟩ hW (fun H locs hW => ?_)
    refine lv_istore (lv' := [(4, .int v11), (3, .ref v9), (0, .ref a0), (1, .int x1), (2, .int x2)]) hx hb dX6_baseKey_36 hl (by decide) rfl (fun ls hl => ?_)
    refine lv_aload_n hx hb dX6_baseKey_38 rfl (lv_at hl 1 rfl) ?_
    refine lv_iload_n hx hb dX6_baseKey_39 rfl (lv_at hl 4 rfl) ?_
    obtain ⟨v12, hv, h⟩ := bq_bind h
    refine bq_callV S hK hz mv_X6_188 (c_X0_isMarked hv) (kc_X0_isMarked hv) dX6_baseKey_40 [.int (bq_b v12)] (rest := []) rfl rfl rfl hl.1 (Nat.le_of_ble_eq_true rfl) ⟨Nat.le_of_ble_eq_true rfl, Nat.le_of_ble_eq_true rfl⟩ ⟨Nat.zero_le _, Nat.zero_le _⟩ hW (fun H locs hW => ?_)
    refine lv_if_eq (tgt := 55) hx hb dX6_baseKey_43 (by decide) (fun hc => ?_) (fun hc => ?_)
    · replace h := bq_ifT hc h
      refine lv_iload hx hb dX6_baseKey_55 (lv_at hl 0 rfl) ?_
      cases h
      exact bq_reti S hr hlocks hK hz dX6_baseKey_57 hW
    · replace h := bq_ifF hc h
      refine lv_iload hx hb dX6_baseKey_46 (lv_at hl 0 rfl) ?_
      refine lv_sipush (v := 10000) hx hb dX6_baseKey_48 (by decide) ?_
      refine lv_iadd hx hb dX6_baseKey_51 ?_
      refine lv_goto (tgt := 57) hx hb dX6_baseKey_52 (by decide) ?_
      cases h
      exact bq_reti S hr hlocks hK hz dX6_baseKey_57 hW
  clear ek15
  refine lv_if_lt (tgt := 14) hx hb dX6_baseKey_7 (by decide) (fun hc => ?_) (fun hc => ?_)
  · replace h := bq_ifT hc h
    refine lv_iconst (v := 0) hx hb dX6_baseKey_14 (by decide) ?_
    exact hjk15 (0 : Int32) _ _ _ h hW (lv_sub hl [0, 1, 2] rfl)
  · replace h := bq_ifF hc h
    refine lv_iconst (v := 1) hx hb dX6_baseKey_10 (by decide) ?_
    refine lv_goto (tgt := 15) hx hb dX6_baseKey_11 (by decide) ?_
    exact hjk15 (1 : Int32) _ _ _ h hW (lv_sub hl [0, 1, 2] rfl)

theorem kc_X6_bufferKey {E : bq_E} {a0 : Nat} {x1 : Int32} {x2 : Int32} {R : (Int32 ⊕ String)} (h : tw_X6_bufferKey E a0 x1 x2 = some R) : bq_cls E a0 = 6 := (bq_guard h).1
set_option maxHeartbeats 4000000 in
set_option maxRecDepth 100000 in
theorem cr_X6_bufferKey {l : Launch} {g : bq_G} {L : List Nat} {z : Nat} {E : bq_E} {a0 : Nat} {x1 : Int32} {x2 : Int32} {R : Int32} (h : tw_X6_bufferKey E a0 x1 x2 = some (Sum.inl R)) : bq_M l yX6_bufferKey cX6_bufferKey 3 (some .int) 1 22 [.ref a0, .int x1, .int x2] g L E z (some (.int R)) E := by
  unfold tw_X6_bufferKey at h
  obtain ⟨hcl, h⟩ := bq_guard h
  refine bq_enter (by decide) (Nat.le_of_ble_eq_true rfl) ?_
  intro p e s m args below meth c S hr hlocks hK hz hW ls hl
  have S : CallFix p m c cX6_bufferKey 3 s args bq_WA RX6 := S
  have hx := S.1
  have hb := S.2.1
  have hl : lv_has ls 3 [(0, .ref a0), (1, .int x1), (2, .int x2)] := hl
  refine lv_aload_n hx hb dX6_bufferKey_0 rfl (lv_at hl 0 rfl) ?_
  refine lv_iload_n hx hb dX6_bufferKey_1 rfl (lv_at hl 1 rfl) ?_
  obtain ⟨v1, hv, h⟩ := bq_bind h
  obtain v2 | X3 := v1
  rotate_left
  · replace h := bq_elimR h
    cases h
  replace h := bq_elimL h
  refine bq_callV S hK hz mv_X6_30 (cr_X6_requireNode hv) (kc_X6_requireNode hv) dX6_bufferKey_2 [] (rest := []) rfl rfl rfl hl.1 (Nat.le_of_ble_eq_true rfl) ⟨Nat.le_of_ble_eq_true rfl, Nat.le_of_ble_eq_true rfl⟩ ⟨Nat.zero_le _, Nat.zero_le _⟩ hW (fun H locs hW => ?_)
  refine lv_aload_n hx hb dX6_bufferKey_5 rfl (lv_at hl 0 rfl) ?_
  refine lv_iload_n hx hb dX6_bufferKey_6 rfl (lv_at hl 2 rfl) ?_
  obtain ⟨k15, ek15, h⟩ := bq_letK h
  have hjk15 : ∀ (b4 : Int32) (H1 : Heap) (locs1 : List Loc) (ls1 : Array Slot), k15 b4 = some (Sum.inl R) → bq_H g L E z s.heap H1 locs1 → lv_has ls1 3 [(0, .ref a0), (1, .int x1), (2, .int x2)] → W p l e { frames := 1, cells := 0, slots := 0, locals := 22 } s m args below meth c H1 locs1 0 0 (MQ below (bq_Q g L E z (some (.int R))) args s 0 0 (bq_A z)) (F0 m 15 ls1 [.int b4, .ref a0]) := by
    intro b4 H locs ls h hW hl
    replace h := bq_kap1 ek15 h
    obtain ⟨v5, hv, h⟩ := bq_bind h
    obtain v6 | X7 := v5
    rotate_left
    · replace h := bq_elimR h
      cases h
    replace h := bq_elimL h
    refine bq_callV S hK hz mv_X6_34 (cr_X6_require hv) (kc_X6_require hv) dX6_bufferKey_15 [] (rest := []) rfl rfl rfl hl.1 (Nat.le_of_ble_eq_true rfl) ⟨Nat.le_of_ble_eq_true rfl, Nat.le_of_ble_eq_true rfl⟩ ⟨Nat.zero_le _, Nat.zero_le _⟩ hW (fun H locs hW => ?_)
    refine lv_aload_n hx hb dX6_bufferKey_18 rfl (lv_at hl 0 rfl) ?_
    obtain ⟨v8, hv, h⟩ := bq_bind h
    refine bq_getr S hK fl_X6_10 dX6_bufferKey_19 hv hW ?_
    refine lv_iload_n hx hb dX6_bufferKey_22 rfl (lv_at hl 1 rfl) ?_
    obtain ⟨v9, hv, h⟩ := bq_bind h
    refine bq_callV S hK hz mv_X6_42 (c_X4_at hv) (kc_X4_at hv) dX6_bufferKey_23 [.ref v9] (rest := []) rfl rfl rfl hl.1 (Nat.le_of_ble_eq_true rfl) ⟨Nat.le_of_ble_eq_true rfl, Nat.le_of_ble_eq_true rfl⟩ ⟨Nat.zero_le _, Nat.zero_le _⟩ hW (fun H locs hW => ?_)
    obtain ⟨v10, hv, h⟩ := bq_bind h
    refine bq_getr S hK fl_X6_168 dX6_bufferKey_26 hv hW ?_
    refine lv_iload_n hx hb dX6_bufferKey_29 rfl (lv_at hl 2 rfl) ?_
    refine lv_iconst (v := (-1)) hx hb dX6_bufferKey_30 (by decide) ?_
    obtain ⟨v11, hv, h⟩ := bq_bind h
    refine bq_callV S hK hz mv_X6_186 (c_X3_at hv) (kc_X3_at hv) dX6_bufferKey_31 [.int v11] (rest := []) rfl rfl rfl hl.1 (Nat.le_of_ble_eq_true rfl) ⟨Nat.le_of_ble_eq_true rfl, Nat.le_of_ble_eq_true rfl⟩ ⟨Nat.zero_le _, Nat.zero_le _⟩ hW (fun H locs hW => ?_)
    cases h
    exact bq_reti S hr hlocks hK hz dX6_bufferKey_34 hW
  clear ek15
  refine lv_if_lt (tgt := 14) hx hb dX6_bufferKey_7 (by decide) (fun hc => ?_) (fun hc => ?_)
  · replace h := bq_ifT hc h
    refine lv_iconst (v := 0) hx hb dX6_bufferKey_14 (by decide) ?_
    exact hjk15 (0 : Int32) _ _ _ h hW (lv_sub hl [0, 1, 2] rfl)
  · replace h := bq_ifF hc h
    refine lv_iconst (v := 1) hx hb dX6_bufferKey_10 (by decide) ?_
    refine lv_goto (tgt := 15) hx hb dX6_bufferKey_11 (by decide) ?_
    exact hjk15 (1 : Int32) _ _ _ h hW (lv_sub hl [0, 1, 2] rfl)

theorem kc_X6_count {E : bq_E} {a0 : Nat} {x1 : Int32} {R : (Int32 ⊕ String)} (h : tw_X6_count E a0 x1 = some R) : bq_cls E a0 = 6 := (bq_guard h).1
set_option maxHeartbeats 4000000 in
set_option maxRecDepth 100000 in
theorem cr_X6_count {l : Launch} {g : bq_G} {L : List Nat} {z : Nat} {E : bq_E} {a0 : Nat} {x1 : Int32} {R : Int32} (h : tw_X6_count E a0 x1 = some (Sum.inl R)) : bq_M l yX6_count cX6_count 2 (some .int) 3 62 [.ref a0, .int x1] g L E z (some (.int R)) E := by
  unfold tw_X6_count at h
  obtain ⟨hcl, h⟩ := bq_guard h
  refine bq_enter (by decide) (Nat.le_of_ble_eq_true rfl) ?_
  intro p e s m args below meth c S hr hlocks hK hz hW ls hl
  have S : CallFix p m c cX6_count 2 s args bq_WA RX6 := S
  have hx := S.1
  have hb := S.2.1
  have hl : lv_has ls 2 [(0, .ref a0), (1, .int x1)] := hl
  refine lv_iload_n hx hb dX6_count_0 rfl (lv_at hl 1 rfl) ?_
  by_cases hc0 : x1 = 0
  · replace h := bq_ifT hc0 h
    refine lv_tableIn (tgt := 44) (off := 43) hx hb dX6_count_1 (by rw [hc0]; decide) (by rw [hc0]; decide) (by rw [hc0]; rfl) (by decide) ?_
    refine lv_aload_n hx hb dX6_count_44 rfl (lv_at hl 0 rfl) ?_
    obtain ⟨v1, hv, h⟩ := bq_bind h
    refine bq_getr S hK fl_X6_10 dX6_count_45 hv hW ?_
    obtain ⟨v2, hv, h⟩ := bq_bind h
    refine bq_geti S hK fl_X6_107 dX6_count_48 hv hW ?_
    cases h
    exact bq_reti S hr hlocks hK hz dX6_count_51 hW
  replace h := bq_ifF hc0 h
  by_cases hc1 : x1 = 1
  · replace h := bq_ifT hc1 h
    refine lv_tableIn (tgt := 52) (off := 51) hx hb dX6_count_1 (by rw [hc1]; decide) (by rw [hc1]; decide) (by rw [hc1]; rfl) (by decide) ?_
    refine lv_aload_n hx hb dX6_count_52 rfl (lv_at hl 0 rfl) ?_
    obtain ⟨v3, hv, h⟩ := bq_bind h
    refine bq_getr S hK fl_X6_10 dX6_count_53 hv hW ?_
    obtain ⟨v4, hv, h⟩ := bq_bind h
    refine bq_geti S hK fl_X6_110 dX6_count_56 hv hW ?_
    cases h
    exact bq_reti S hr hlocks hK hz dX6_count_59 hW
  replace h := bq_ifF hc1 h
  by_cases hc2 : x1 = 2
  · replace h := bq_ifT hc2 h
    refine lv_tableIn (tgt := 60) (off := 59) hx hb dX6_count_1 (by rw [hc2]; decide) (by rw [hc2]; decide) (by rw [hc2]; rfl) (by decide) ?_
    refine lv_aload_n hx hb dX6_count_60 rfl (lv_at hl 0 rfl) ?_
    obtain ⟨v5, hv, h⟩ := bq_bind h
    refine bq_getr S hK fl_X6_10 dX6_count_61 hv hW ?_
    obtain ⟨v6, hv, h⟩ := bq_bind h
    refine bq_geti S hK fl_X6_200 dX6_count_64 hv hW ?_
    cases h
    exact bq_reti S hr hlocks hK hz dX6_count_67 hW
  replace h := bq_ifF hc2 h
  by_cases hc3 : x1 = 3
  · replace h := bq_ifT hc3 h
    refine lv_tableIn (tgt := 68) (off := 67) hx hb dX6_count_1 (by rw [hc3]; decide) (by rw [hc3]; decide) (by rw [hc3]; rfl) (by decide) ?_
    refine lv_aload_n hx hb dX6_count_68 rfl (lv_at hl 0 rfl) ?_
    obtain ⟨v7, hv, h⟩ := bq_bind h
    refine bq_getr S hK fl_X6_10 dX6_count_69 hv hW ?_
    obtain ⟨v8, hv, h⟩ := bq_bind h
    refine bq_geti S hK fl_X6_203 dX6_count_72 hv hW ?_
    cases h
    exact bq_reti S hr hlocks hK hz dX6_count_75 hW
  replace h := bq_ifF hc3 h
  by_cases hc4 : x1 = 4
  · replace h := bq_ifT hc4 h
    refine lv_tableIn (tgt := 76) (off := 75) hx hb dX6_count_1 (by rw [hc4]; decide) (by rw [hc4]; decide) (by rw [hc4]; rfl) (by decide) ?_
    refine lv_aload_n hx hb dX6_count_76 rfl (lv_at hl 0 rfl) ?_
    obtain ⟨v9, hv, h⟩ := bq_bind h
    refine bq_getr S hK fl_X6_10 dX6_count_77 hv hW ?_
    obtain ⟨v10, hv, h⟩ := bq_bind h
    refine bq_geti S hK fl_X6_206 dX6_count_80 hv hW ?_
    cases h
    exact bq_reti S hr hlocks hK hz dX6_count_83 hW
  replace h := bq_ifF hc4 h
  by_cases hc5 : x1 = 5
  · replace h := bq_ifT hc5 h
    refine lv_tableIn (tgt := 84) (off := 83) hx hb dX6_count_1 (by rw [hc5]; decide) (by rw [hc5]; decide) (by rw [hc5]; rfl) (by decide) ?_
    refine lv_aload_n hx hb dX6_count_84 rfl (lv_at hl 0 rfl) ?_
    obtain ⟨v11, hv, h⟩ := bq_bind h
    refine bq_getr S hK fl_X6_10 dX6_count_85 hv hW ?_
    obtain ⟨v12, hv, h⟩ := bq_bind h
    refine bq_callV S hK hz mv_X6_209 (c_X4_keysOfAll hv) (kc_X4_keysOfAll hv) dX6_count_88 [.int v12] (rest := []) rfl rfl rfl hl.1 (Nat.le_of_ble_eq_true rfl) ⟨Nat.le_of_ble_eq_true rfl, Nat.le_of_ble_eq_true rfl⟩ ⟨Nat.zero_le _, Nat.zero_le _⟩ hW (fun H locs hW => ?_)
    cases h
    exact bq_reti S hr hlocks hK hz dX6_count_91 hW
  replace h := bq_ifF hc5 h
  by_cases hc6 : x1 = 6
  · replace h := bq_ifT hc6 h
    refine lv_tableIn (tgt := 92) (off := 91) hx hb dX6_count_1 (by rw [hc6]; decide) (by rw [hc6]; decide) (by rw [hc6]; rfl) (by decide) ?_
    refine lv_aload_n hx hb dX6_count_92 rfl (lv_at hl 0 rfl) ?_
    obtain ⟨v13, hv, h⟩ := bq_bind h
    refine bq_getr S hK fl_X6_10 dX6_count_93 hv hW ?_
    obtain ⟨v14, hv, h⟩ := bq_bind h
    refine bq_callV S hK hz mv_X6_99 (c_X4_entriesOfAll hv) (kc_X4_entriesOfAll hv) dX6_count_96 [.int v14] (rest := []) rfl rfl rfl hl.1 (Nat.le_of_ble_eq_true rfl) ⟨Nat.le_of_ble_eq_true rfl, Nat.le_of_ble_eq_true rfl⟩ ⟨Nat.zero_le _, Nat.zero_le _⟩ hW (fun H locs hW => ?_)
    cases h
    exact bq_reti S hr hlocks hK hz dX6_count_99 hW
  replace h := bq_ifF hc6 h
  have q0 : Int32.toInt x1 ≠ 0 := fun q => hc0 (Int32.toInt_inj.mp (q.trans (by decide)))
  have q1 : Int32.toInt x1 ≠ 1 := fun q => hc1 (Int32.toInt_inj.mp (q.trans (by decide)))
  have q2 : Int32.toInt x1 ≠ 2 := fun q => hc2 (Int32.toInt_inj.mp (q.trans (by decide)))
  have q3 : Int32.toInt x1 ≠ 3 := fun q => hc3 (Int32.toInt_inj.mp (q.trans (by decide)))
  have q4 : Int32.toInt x1 ≠ 4 := fun q => hc4 (Int32.toInt_inj.mp (q.trans (by decide)))
  have q5 : Int32.toInt x1 ≠ 5 := fun q => hc5 (Int32.toInt_inj.mp (q.trans (by decide)))
  have q6 : Int32.toInt x1 ≠ 6 := fun q => hc6 (Int32.toInt_inj.mp (q.trans (by decide)))
  refine lv_tableOut (tgt := 100) hx hb dX6_count_1 (by omega) (by decide) ?_
  cases h
