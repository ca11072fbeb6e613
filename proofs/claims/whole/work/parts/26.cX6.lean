theorem kc_X6_requireNode {E : bq_E} {a0 : Nat} {x1 : Int32} {R : (Unit ⊕ String)} (h : tw_X6_requireNode E a0 x1 = some R) : bq_cls E a0 = 6 := (bq_guard h).1
set_option maxHeartbeats 4000000 in
set_option maxRecDepth 100000 in
theorem cr_X6_requireNode {l : Launch} {g : bq_G} {L : List Nat} {z : Nat} {E : bq_E} {a0 : Nat} {x1 : Int32} {R : Unit} (h : tw_X6_requireNode E a0 x1 = some (Sum.inl R)) : bq_M l yX6_requireNode cX6_requireNode 2 none 0 0 [.ref a0, .int x1] g L E z none E := by
  unfold tw_X6_requireNode at h
  obtain ⟨hcl, h⟩ := bq_guard h
  refine bq_enter (by decide) (Nat.le_of_ble_eq_true rfl) ?_
  intro p e s m args below meth c S hr hlocks hK hz hW ls hl
  have S : CallFix p m c cX6_requireNode 2 s args bq_WA RX6 := S
  have hx := S.1
  have hb := S.2.1
  have hl : lv_has ls 2 [(0, .ref a0), (1, .int x1)] := hl
  refine lv_iload_n hx hb dX6_requireNode_0 rfl (lv_at hl 1 rfl) ?_
  obtain ⟨k15, ek15, h⟩ := bq_letK h
  have hjk15 : ∀ (u0 : Unit) (H1 : Heap) (locs1 : List Loc) (ls1 : Array Slot), k15 u0 = some (Sum.inl R) → bq_H g L E z s.heap H1 locs1 → lv_has ls1 2 [] → W p l e { frames := 0, cells := 0, slots := 0, locals := 0 } s m args below meth c H1 locs1 0 0 (MQ below (bq_Q g L E z none) args s 0 0 (bq_A z)) (F0 m 15 ls1 []) := by
    intro u0 H locs ls h hW hl
    replace h := bq_kap1 ek15 h
    cases h
  clear ek15
  refine lv_if_lt (tgt := 15) hx hb dX6_requireNode_1 (by decide) (fun hc => ?_) (fun hc => ?_)
  · replace h := bq_ifT hc h
    exact hjk15 () _ _ _ h hW (lv_sub hl [] rfl)
  · replace h := bq_ifF hc h
    refine lv_iload_n hx hb dX6_requireNode_4 rfl (lv_at hl 1 rfl) ?_
    refine lv_aload_n hx hb dX6_requireNode_5 rfl (lv_at hl 0 rfl) ?_
    obtain ⟨v1, hv, h⟩ := bq_bind h
    refine bq_getr S hK fl_X6_10 dX6_requireNode_6 hv hW ?_
    obtain ⟨v2, hv, h⟩ := bq_bind h
    refine bq_geti S hK fl_X6_38 dX6_requireNode_9 hv hW ?_
    refine lv_icmp_lt (tgt := 25) hx hb dX6_requireNode_12 (by decide) (fun hc => ?_) (fun hc => ?_)
    · replace h := bq_ifT hc h
      cases h
      exact bq_retv S hr hlocks hK hz dX6_requireNode_25 hW
    · replace h := bq_ifF hc h
      exact hjk15 () _ _ _ h hW (lv_sub hl [] rfl)

theorem kc_X6_require {E : bq_E} {a0 : Nat} {x1 : Int32} {R : (Unit ⊕ String)} (h : tw_X6_require E a0 x1 = some R) : bq_cls E a0 = 6 := (bq_guard h).1
set_option maxHeartbeats 4000000 in
set_option maxRecDepth 100000 in
theorem cr_X6_require {l : Launch} {g : bq_G} {L : List Nat} {z : Nat} {E : bq_E} {a0 : Nat} {x1 : Int32} {R : Unit} (h : tw_X6_require E a0 x1 = some (Sum.inl R)) : bq_M l yX6_require cX6_require 2 none 0 0 [.ref a0, .int x1] g L E z none E := by
  unfold tw_X6_require at h
  obtain ⟨hcl, h⟩ := bq_guard h
  refine bq_enter (by decide) (Nat.le_of_ble_eq_true rfl) ?_
  intro p e s m args below meth c S hr hlocks hK hz hW ls hl
  have S : CallFix p m c cX6_require 2 s args bq_WA RX6 := S
  have hx := S.1
  have hb := S.2.1
  have hl : lv_has ls 2 [(0, .ref a0), (1, .int x1)] := hl
  refine lv_iload_n hx hb dX6_require_0 rfl (lv_at hl 1 rfl) ?_
  refine lv_if_ne (tgt := 14) hx hb dX6_require_1 (by decide) (fun hc => ?_) (fun hc => ?_)
  · replace h := bq_ifF hc h
    cases h
    exact bq_retv S hr hlocks hK hz dX6_require_14 hW
  · replace h := bq_ifT hc h
    cases h

theorem kc_X6_addNode {E : bq_E} {a0 : Nat} {x1 : Int32} {x2 : Int32} {R : ((Int32 ⊕ String) × bq_E)} (h : tw_X6_addNode E a0 x1 x2 = some R) : bq_cls E a0 = 6 := (bq_guard h).1
set_option maxHeartbeats 4000000 in
set_option maxRecDepth 100000 in
theorem cr_X6_addNode {l : Launch} {g : bq_G} {L : List Nat} {z : Nat} {E : bq_E} {a0 : Nat} {x1 : Int32} {x2 : Int32} {R : Int32} {E9 : bq_E} (h : tw_X6_addNode E a0 x1 x2 = some (Sum.inl R, E9)) : bq_M l yX6_addNode cX6_addNode 3 (some .int) 6 148 [.ref a0, .int x1, .int x2] g L E z (some (.int R)) E9 := by
  unfold tw_X6_addNode at h
  obtain ⟨hcl, h⟩ := bq_guard h
  refine bq_enter (by decide) (Nat.le_of_ble_eq_true rfl) ?_
  intro p e s m args below meth c S hr hlocks hK hz hW ls hl
  have S : CallFix p m c cX6_addNode 3 s args bq_WA RX6 := S
  have hx := S.1
  have hb := S.2.1
  have hl : lv_has ls 3 [(0, .ref a0), (1, .int x1), (2, .int x2)] := hl
  refine lv_aload_n hx hb dX6_addNode_0 rfl (lv_at hl 0 rfl) ?_
  refine lv_iload_n hx hb dX6_addNode_1 rfl (lv_at hl 1 rfl) ?_
  obtain ⟨v1, hv, h⟩ := bq_bind h
  obtain v2 | X3 := v1
  rotate_left
  · replace h := bq_elimR h
    cases h
  replace h := bq_elimL h
  refine bq_callV S hK hz mv_X6_30 (cr_X6_requireNode hv) (kc_X6_requireNode hv) dX6_addNode_2 [] (rest := []) rfl rfl rfl hl.1 (Nat.le_of_ble_eq_true rfl) ⟨Nat.le_of_ble_eq_true rfl, Nat.le_of_ble_eq_true rfl⟩ ⟨Nat.zero_le _, Nat.zero_le _⟩ hW (fun H locs hW => ?_)
  refine lv_aload_n hx hb dX6_addNode_5 rfl (lv_at hl 0 rfl) ?_
  refine lv_iload_n hx hb dX6_addNode_6 rfl (lv_at hl 2 rfl) ?_
  refine lv_iconst (v := 1) hx hb dX6_addNode_7 (by decide) ?_
  obtain ⟨k21, ek21, h⟩ := bq_letK h
  have hjk21 : ∀ (b4 : Int32) (H1 : Heap) (locs1 : List Loc) (ls1 : Array Slot), k21 b4 = some (Sum.inl R, E9) → bq_H g L E z s.heap H1 locs1 → lv_has ls1 3 [(0, .ref a0), (1, .int x1), (2, .int x2)] → W p l e { frames := 6, cells := 0, slots := 0, locals := 148 } s m args below meth c H1 locs1 0 0 (MQ below (bq_Q g L E9 z (some (.int R))) args s 0 0 (bq_A z)) (F0 m 21 ls1 [.int b4, .ref a0]) := by
    intro b4 H locs ls h hW hl
    replace h := bq_kap1 ek21 h
    obtain ⟨v5, hv, h⟩ := bq_bind h
    obtain v6 | X7 := v5
    rotate_left
    · replace h := bq_elimR h
      cases h
    replace h := bq_elimL h
    refine bq_callV S hK hz mv_X6_34 (cr_X6_require hv) (kc_X6_require hv) dX6_addNode_21 [] (rest := []) rfl rfl rfl hl.1 (Nat.le_of_ble_eq_true rfl) ⟨Nat.le_of_ble_eq_true rfl, Nat.le_of_ble_eq_true rfl⟩ ⟨Nat.zero_le _, Nat.zero_le _⟩ hW (fun H locs hW => ?_)
    refine lv_aload_n hx hb dX6_addNode_24 rfl (lv_at hl 0 rfl) ?_
    obtain ⟨v8, hv, h⟩ := bq_bind h
    refine bq_getr S hK fl_X6_10 dX6_addNode_25 hv hW ?_
    obtain ⟨v9, hv, h⟩ := bq_bind h
    refine bq_geti S hK fl_X6_38 dX6_addNode_28 hv hW ?_
    refine lv_bipush (v := 15) hx hb dX6_addNode_31 (by decide) ?_
    obtain ⟨k52, ek52, h⟩ := bq_letK h
    have hjk52 : ∀ (u0 : Unit) (H1 : Heap) (locs1 : List Loc) (ls1 : Array Slot), k52 u0 = some (Sum.inl R, E9) → bq_H g L E z s.heap H1 locs1 → lv_has ls1 3 [] → W p l e { frames := 6, cells := 0, slots := 0, locals := 148 } s m args below meth c H1 locs1 0 0 (MQ below (bq_Q g L E9 z (some (.int R))) args s 0 0 (bq_A z)) (F0 m 52 ls1 []) := by
      intro u0 H locs ls h hW hl
      replace h := bq_kap1 ek52 h
      cases h
    clear ek52
    refine lv_icmp_eq (tgt := 52) hx hb dX6_addNode_33 (by decide) (fun hc => ?_) (fun hc => ?_)
    · replace h := bq_ifT hc h
      exact hjk52 () _ _ _ h hW (lv_sub hl [] rfl)
    · replace h := bq_ifF hc h
      refine lv_aload_n hx hb dX6_addNode_36 rfl (lv_at hl 0 rfl) ?_
      obtain ⟨v10, hv, h⟩ := bq_bind h
      refine bq_getr S hK fl_X6_10 dX6_addNode_37 hv hW ?_
      refine lv_iload_n hx hb dX6_addNode_40 rfl (lv_at hl 1 rfl) ?_
      obtain ⟨v11, hv, h⟩ := bq_bind h
      refine bq_callV S hK hz mv_X6_42 (c_X4_at hv) (kc_X4_at hv) dX6_addNode_41 [.ref v11] (rest := []) rfl rfl rfl hl.1 (Nat.le_of_ble_eq_true rfl) ⟨Nat.le_of_ble_eq_true rfl, Nat.le_of_ble_eq_true rfl⟩ ⟨Nat.zero_le _, Nat.zero_le _⟩ hW (fun H locs hW => ?_)
      refine lv_iload_n hx hb dX6_addNode_44 rfl (lv_at hl 2 rfl) ?_
      obtain ⟨v12, hv, h⟩ := bq_bind h
      refine bq_callV S hK hz mv_X6_46 (c_X0_child hv) (kc_X0_child hv) dX6_addNode_45 [.int v12] (rest := []) rfl rfl rfl hl.1 (Nat.le_of_ble_eq_true rfl) ⟨Nat.le_of_ble_eq_true rfl, Nat.le_of_ble_eq_true rfl⟩ ⟨Nat.zero_le _, Nat.zero_le _⟩ hW (fun H locs hW => ?_)
      refine lv_iconst (v := (-1)) hx hb dX6_addNode_48 (by decide) ?_
      refine lv_icmp_eq (tgt := 62) hx hb dX6_addNode_49 (by decide) (fun hc => ?_) (fun hc => ?_)
      · replace h := bq_ifT hc h
        refine lv_aload_n hx hb dX6_addNode_62 rfl (lv_at hl 0 rfl) ?_
        obtain ⟨v13, hv, h⟩ := bq_bind h
        refine bq_getr S hK fl_X6_26 dX6_addNode_63 hv hW ?_
        refine lv_aload_n hx hb dX6_addNode_66 rfl (lv_at hl 0 rfl) ?_
        obtain ⟨v14, hv, h⟩ := bq_bind h
        refine bq_getr S hK fl_X6_10 dX6_addNode_67 hv hW ?_
        obtain ⟨E15, hv, h⟩ := bq_bind h
        refine bq_callV S hK hz mv_X6_59 (c_X1_save hv) (kc_X1_save hv) dX6_addNode_70 [] (rest := []) rfl rfl rfl hl.1 (Nat.le_of_ble_eq_true rfl) ⟨Nat.le_of_ble_eq_true rfl, Nat.le_of_ble_eq_true rfl⟩ ⟨Nat.zero_le _, Nat.zero_le _⟩ hW (fun H locs hW => ?_)
        refine lv_aload_n hx hb dX6_addNode_73 rfl (lv_at hl 0 rfl) ?_
        obtain ⟨v16, hv, h⟩ := bq_bind h
        refine bq_getr S hK fl_X6_10 dX6_addNode_74 hv hW ?_
        refine lv_iload_n hx hb dX6_addNode_77 rfl (lv_at hl 1 rfl) ?_
        refine lv_iload_n hx hb dX6_addNode_78 rfl (lv_at hl 2 rfl) ?_
        obtain ⟨v17, hv, h⟩ := bq_bind h
        refine bq_callV S hK hz mv_X6_63 (c_X4_grow hv) (kc_X4_grow hv) dX6_addNode_79 [.int v17.1] (rest := []) rfl rfl rfl hl.1 (Nat.le_of_ble_eq_true rfl) ⟨Nat.le_of_ble_eq_true rfl, Nat.le_of_ble_eq_true rfl⟩ ⟨Nat.zero_le _, Nat.zero_le _⟩ hW (fun H locs hW => ?_)
        cases h
        exact bq_reti S hr hlocks hK hz dX6_addNode_82 hW
      · replace h := bq_ifF hc h
        exact hjk52 () _ _ _ h hW (lv_sub hl [] rfl)
  clear ek21
  obtain ⟨k16, ek16, h⟩ := bq_letK h
  have hjk16 : ∀ (u0 : Unit) (H1 : Heap) (locs1 : List Loc) (ls1 : Array Slot), k16 u0 = some (Sum.inl R, E9) → bq_H g L E z s.heap H1 locs1 → lv_has ls1 3 [(0, .ref a0), (1, .int x1), (2, .int x2)] → W p l e { frames := 6, cells := 0, slots := 0, locals := 148 } s m args below meth c H1 locs1 0 0 (MQ below (bq_Q g L E9 z (some (.int R))) args s 0 0 (bq_A z)) (F0 m 16 ls1 [.ref a0]) := by
    intro u0 H locs ls h hW hl
    replace h := bq_kap1 ek16 h
    refine lv_iconst (v := 1) hx hb dX6_addNode_16 (by decide) ?_
    refine lv_goto (tgt := 21) hx hb dX6_addNode_17 (by decide) ?_
    exact hjk21 (1 : Int32) _ _ _ h hW (lv_sub hl [0, 1, 2] rfl)
  clear ek16
  refine lv_icmp_eq (tgt := 16) hx hb dX6_addNode_8 (by decide) (fun hc => ?_) (fun hc => ?_)
  · replace h := bq_ifT hc h
    exact hjk16 () _ _ _ h hW (lv_sub hl [0, 1, 2] rfl)
  · replace h := bq_ifF hc h
    refine lv_iload_n hx hb dX6_addNode_11 rfl (lv_at hl 2 rfl) ?_
    refine lv_iconst (v := 2) hx hb dX6_addNode_12 (by decide) ?_
    refine lv_icmp_ne (tgt := 20) hx hb dX6_addNode_13 (by decide) (fun hc => ?_) (fun hc => ?_)
    · replace h := bq_ifF hc h
      refine lv_iconst (v := 0) hx hb dX6_addNode_20 (by decide) ?_
      exact hjk21 (0 : Int32) _ _ _ h hW (lv_sub hl [0, 1, 2] rfl)
    · replace h := bq_ifT hc h
      exact hjk16 () _ _ _ h hW (lv_sub hl [0, 1, 2] rfl)

theorem kc_X6_requireKey {E : bq_E} {a0 : Nat} {x1 : Int32} {R : (Unit ⊕ String)} (h : tw_X6_requireKey E a0 x1 = some R) : bq_cls E a0 = 6 := (bq_guard h).1
set_option maxHeartbeats 4000000 in
set_option maxRecDepth 100000 in
theorem cr_X6_requireKey {l : Launch} {g : bq_G} {L : List Nat} {z : Nat} {E : bq_E} {a0 : Nat} {x1 : Int32} {R : Unit} (h : tw_X6_requireKey E a0 x1 = some (Sum.inl R)) : bq_M l yX6_requireKey cX6_requireKey 2 none 1 21 [.ref a0, .int x1] g L E z none E := by
  unfold tw_X6_requireKey at h
  obtain ⟨hcl, h⟩ := bq_guard h
  refine bq_enter (by decide) (Nat.le_of_ble_eq_true rfl) ?_
  intro p e s m args below meth c S hr hlocks hK hz hW ls hl
  have S : CallFix p m c cX6_requireKey 2 s args bq_WA RX6 := S
  have hx := S.1
  have hb := S.2.1
  have hl : lv_has ls 2 [(0, .ref a0), (1, .int x1)] := hl
  refine lv_aload_n hx hb dX6_requireKey_0 rfl (lv_at hl 0 rfl) ?_
  refine lv_iload_n hx hb dX6_requireKey_1 rfl (lv_at hl 1 rfl) ?_
  refine lv_if_lt (tgt := 16) hx hb dX6_requireKey_2 (by decide) (fun hc => ?_) (fun hc => ?_)
  · replace h := bq_ifT hc h
    refine lv_iconst (v := 0) hx hb dX6_requireKey_16 (by decide) ?_
    obtain ⟨v1, hv, h⟩ := bq_bind h
    obtain v2 | X3 := v1
    rotate_left
    · replace h := bq_elimR h
      cases h
    replace h := bq_elimL h
    refine bq_callV S hK hz mv_X6_34 (cr_X6_require hv) (kc_X6_require hv) dX6_requireKey_17 [] (rest := []) rfl rfl rfl hl.1 (Nat.le_of_ble_eq_true rfl) ⟨Nat.le_of_ble_eq_true rfl, Nat.le_of_ble_eq_true rfl⟩ ⟨Nat.zero_le _, Nat.zero_le _⟩ hW (fun H locs hW => ?_)
    cases h
    exact bq_retv S hr hlocks hK hz dX6_requireKey_20 hW
  · replace h := bq_ifF hc h
    refine lv_iload_n hx hb dX6_requireKey_5 rfl (lv_at hl 1 rfl) ?_
    refine lv_sipush (v := 10000) hx hb dX6_requireKey_6 (by decide) ?_
    refine lv_icmp_ge (tgt := 16) hx hb dX6_requireKey_9 (by decide) (fun hc => ?_) (fun hc => ?_)
    · replace h := bq_ifT hc h
      refine lv_iconst (v := 0) hx hb dX6_requireKey_16 (by decide) ?_
      obtain ⟨v4, hv, h⟩ := bq_bind h
      obtain v5 | X6 := v4
      rotate_left
      · replace h := bq_elimR h
        cases h
      replace h := bq_elimL h
      refine bq_callV S hK hz mv_X6_34 (cr_X6_require hv) (kc_X6_require hv) dX6_requireKey_17 [] (rest := []) rfl rfl rfl hl.1 (Nat.le_of_ble_eq_true rfl) ⟨Nat.le_of_ble_eq_true rfl, Nat.le_of_ble_eq_true rfl⟩ ⟨Nat.zero_le _, Nat.zero_le _⟩ hW (fun H locs hW => ?_)
      cases h
      exact bq_retv S hr hlocks hK hz dX6_requireKey_20 hW
    · replace h := bq_ifF hc h
      refine lv_iconst (v := 1) hx hb dX6_requireKey_12 (by decide) ?_
      refine lv_goto (tgt := 17) hx hb dX6_requireKey_13 (by decide) ?_
      obtain ⟨v7, hv, h⟩ := bq_bind h
      obtain v8 | X9 := v7
      rotate_left
      · replace h := bq_elimR h
        cases h
      replace h := bq_elimL h
      refine bq_callV S hK hz mv_X6_34 (cr_X6_require hv) (kc_X6_require hv) dX6_requireKey_17 [] (rest := []) rfl rfl rfl hl.1 (Nat.le_of_ble_eq_true rfl) ⟨Nat.le_of_ble_eq_true rfl, Nat.le_of_ble_eq_true rfl⟩ ⟨Nat.zero_le _, Nat.zero_le _⟩ hW (fun H locs hW => ?_)
      cases h
      exact bq_retv S hr hlocks hK hz dX6_requireKey_20 hW

theorem kc_X6_add {E : bq_E} {a0 : Nat} {x1 : Int32} {x2 : Int32} {R : ((Bool ⊕ String) × bq_E)} (h : tw_X6_add E a0 x1 x2 = some R) : bq_cls E a0 = 6 := (bq_guard h).1
set_option maxHeartbeats 4000000 in
set_option maxRecDepth 100000 in
theorem cr_X6_add {l : Launch} {g : bq_G} {L : List Nat} {z : Nat} {E : bq_E} {a0 : Nat} {x1 : Int32} {x2 : Int32} {R : Bool} {E9 : bq_E} (h : tw_X6_add E a0 x1 x2 = some (Sum.inl R, E9)) : bq_M l yX6_add cX6_add 4 (some .boolean) 6 149 [.ref a0, .int x1, .int x2] g L E z (some (.int (bq_b R))) E9 := by
  unfold tw_X6_add at h
  obtain ⟨hcl, h⟩ := bq_guard h
  refine bq_enter (by decide) (Nat.le_of_ble_eq_true rfl) ?_
  intro p e s m args below meth c S hr hlocks hK hz hW ls hl
  have S : CallFix p m c cX6_add 4 s args bq_WA RX6 := S
  have hx := S.1
  have hb := S.2.1
  have hl : lv_has ls 4 [(0, .ref a0), (1, .int x1), (2, .int x2)] := hl
  refine lv_aload_n hx hb dX6_add_0 rfl (lv_at hl 0 rfl) ?_
  refine lv_iload_n hx hb dX6_add_1 rfl (lv_at hl 1 rfl) ?_
  obtain ⟨v1, hv, h⟩ := bq_bind h
  obtain v2 | X3 := v1
  rotate_left
  · replace h := bq_elimR h
    cases h
  replace h := bq_elimL h
  refine bq_callV S hK hz mv_X6_30 (cr_X6_requireNode hv) (kc_X6_requireNode hv) dX6_add_2 [] (rest := []) rfl rfl rfl hl.1 (Nat.le_of_ble_eq_true rfl) ⟨Nat.le_of_ble_eq_true rfl, Nat.le_of_ble_eq_true rfl⟩ ⟨Nat.zero_le _, Nat.zero_le _⟩ hW (fun H locs hW => ?_)
  refine lv_aload_n hx hb dX6_add_5 rfl (lv_at hl 0 rfl) ?_
  refine lv_iload_n hx hb dX6_add_6 rfl (lv_at hl 2 rfl) ?_
  obtain ⟨v4, hv, h⟩ := bq_bind h
  obtain v5 | X6 := v4
  rotate_left
  · replace h := bq_elimR h
    cases h
  replace h := bq_elimL h
  refine bq_callV S hK hz mv_X6_67 (cr_X6_requireKey hv) (kc_X6_requireKey hv) dX6_add_7 [] (rest := []) rfl rfl rfl hl.1 (Nat.le_of_ble_eq_true rfl) ⟨Nat.le_of_ble_eq_true rfl, Nat.le_of_ble_eq_true rfl⟩ ⟨Nat.zero_le _, Nat.zero_le _⟩ hW (fun H locs hW => ?_)
  refine lv_aload_n hx hb dX6_add_10 rfl (lv_at hl 0 rfl) ?_
  obtain ⟨v7, hv, h⟩ := bq_bind h
  refine bq_getr S hK fl_X6_10 dX6_add_11 hv hW ?_
  refine lv_iload_n hx hb dX6_add_14 rfl (lv_at hl 1 rfl) ?_
  obtain ⟨v8, hv, h⟩ := bq_bind h
  refine bq_callV S hK hz mv_X6_42 (c_X4_at hv) (kc_X4_at hv) dX6_add_15 [.ref v8] (rest := []) rfl rfl rfl hl.1 (Nat.le_of_ble_eq_true rfl) ⟨Nat.le_of_ble_eq_true rfl, Nat.le_of_ble_eq_true rfl⟩ ⟨Nat.zero_le _, Nat.zero_le _⟩ hW (fun H locs hW => ?_)
  refine lv_astore_n (lv' := [(3, .ref v8), (0, .ref a0), (1, .int x1), (2, .int x2)]) hx hb dX6_add_18 rfl hl (by decide) rfl (fun ls hl => ?_)
  refine lv_aload_n hx hb dX6_add_19 rfl (lv_at hl 0 rfl) ?_
  refine lv_iload_n hx hb dX6_add_20 rfl (lv_at hl 3 rfl) ?_
  obtain ⟨v9, hv, h⟩ := bq_bind h
  refine bq_callV S hK hz mv_X6_70 (c_X0_holds hv) (kc_X0_holds hv) dX6_add_21 [.int (bq_b v9)] (rest := []) rfl rfl rfl hl.1 (Nat.le_of_ble_eq_true rfl) ⟨Nat.le_of_ble_eq_true rfl, Nat.le_of_ble_eq_true rfl⟩ ⟨Nat.zero_le _, Nat.zero_le _⟩ hW (fun H locs hW => ?_)
  obtain ⟨k44, ek44, h⟩ := bq_letK h
  have hjk44 : ∀ (u0 : Unit) (H1 : Heap) (locs1 : List Loc) (ls1 : Array Slot), k44 u0 = some (Sum.inl R, E9) → bq_H g L E z s.heap H1 locs1 → lv_has ls1 4 [(0, .ref a0), (1, .int x1), (2, .int x2)] → W p l e { frames := 6, cells := 0, slots := 0, locals := 149 } s m args below meth c H1 locs1 0 0 (MQ below (bq_Q g L E9 z (some (.int (bq_b R)))) args s 0 0 (bq_A z)) (F0 m 44 ls1 []) := by
    intro u0 H locs ls h hW hl
    replace h := bq_kap1 ek44 h
    refine lv_aload_n hx hb dX6_add_44 rfl (lv_at hl 0 rfl) ?_
    obtain ⟨v10, hv, h⟩ := bq_bind h
    refine bq_getr S hK fl_X6_26 dX6_add_45 hv hW ?_
    refine lv_aload_n hx hb dX6_add_48 rfl (lv_at hl 0 rfl) ?_
    obtain ⟨v11, hv, h⟩ := bq_bind h
    refine bq_getr S hK fl_X6_10 dX6_add_49 hv hW ?_
    obtain ⟨E12, hv, h⟩ := bq_bind h
    refine bq_callV S hK hz mv_X6_59 (c_X1_save hv) (kc_X1_save hv) dX6_add_52 [] (rest := []) rfl rfl rfl hl.1 (Nat.le_of_ble_eq_true rfl) ⟨Nat.le_of_ble_eq_true rfl, Nat.le_of_ble_eq_true rfl⟩ ⟨Nat.zero_le _, Nat.zero_le _⟩ hW (fun H locs hW => ?_)
    refine lv_aload_n hx hb dX6_add_55 rfl (lv_at hl 0 rfl) ?_
    obtain ⟨v13, hv, h⟩ := bq_bind h
    refine bq_getr S hK fl_X6_10 dX6_add_56 hv hW ?_
    refine lv_iload_n hx hb dX6_add_59 rfl (lv_at hl 1 rfl) ?_
    refine lv_iload_n hx hb dX6_add_60 rfl (lv_at hl 2 rfl) ?_
    obtain ⟨v14, hv, h⟩ := bq_bind h
    refine bq_callV S hK hz mv_X6_80 (c_X4_takeIn hv) (kc_X4_takeIn hv) dX6_add_61 [.int (bq_b v14.1)] (rest := []) rfl rfl rfl hl.1 (Nat.le_of_ble_eq_true rfl) ⟨Nat.le_of_ble_eq_true rfl, Nat.le_of_ble_eq_true rfl⟩ ⟨Nat.zero_le _, Nat.zero_le _⟩ hW (fun H locs hW => ?_)
    cases h
    exact bq_retz S hr hlocks hK hz dX6_add_64 _ rfl hW
  clear ek44
  refine lv_if_ne (tgt := 44) hx hb dX6_add_24 (by decide) (fun hc => ?_) (fun hc => ?_)
  · replace h := bq_ifF hc h
    exact hjk44 () _ _ _ h hW (lv_sub hl [1, 2, 3] rfl)
  · replace h := bq_ifT hc h
    refine lv_aload_n hx hb dX6_add_27 rfl (lv_at hl 0 rfl) ?_
    obtain ⟨v15, hv, h⟩ := bq_bind h
    refine bq_callV S hK hz mv_X6_74 (c_X0_isFull hv) (kc_X0_isFull hv) dX6_add_28 [.int (bq_b v15)] (rest := []) rfl rfl rfl hl.1 (Nat.le_of_ble_eq_true rfl) ⟨Nat.le_of_ble_eq_true rfl, Nat.le_of_ble_eq_true rfl⟩ ⟨Nat.zero_le _, Nat.zero_le _⟩ hW (fun H locs hW => ?_)
    refine lv_if_eq (tgt := 44) hx hb dX6_add_31 (by decide) (fun hc => ?_) (fun hc => ?_)
    · replace h := bq_ifT hc h
      exact hjk44 () _ _ _ h hW (lv_sub hl [1, 2, 3] rfl)
    · replace h := bq_ifF hc h
      cases h

theorem kc_X6_remove {E : bq_E} {a0 : Nat} {x1 : Int32} {x2 : Int32} {R : ((Bool ⊕ String) × bq_E)} (h : tw_X6_remove E a0 x1 x2 = some R) : bq_cls E a0 = 6 := (bq_guard h).1
set_option maxHeartbeats 4000000 in
set_option maxRecDepth 100000 in
theorem cr_X6_remove {l : Launch} {g : bq_G} {L : List Nat} {z : Nat} {E : bq_E} {a0 : Nat} {x1 : Int32} {x2 : Int32} {R : Bool} {E9 : bq_E} (h : tw_X6_remove E a0 x1 x2 = some (Sum.inl R, E9)) : bq_M l yX6_remove cX6_remove 3 (some .boolean) 6 149 [.ref a0, .int x1, .int x2] g L E z (some (.int (bq_b R))) E9 := by
  unfold tw_X6_remove at h
  obtain ⟨hcl, h⟩ := bq_guard h
  refine bq_enter (by decide) (Nat.le_of_ble_eq_true rfl) ?_
  intro p e s m args below meth c S hr hlocks hK hz hW ls hl
  have S : CallFix p m c cX6_remove 3 s args bq_WA RX6 := S
  have hx := S.1
  have hb := S.2.1
  have hl : lv_has ls 3 [(0, .ref a0), (1, .int x1), (2, .int x2)] := hl
  refine lv_aload_n hx hb dX6_remove_0 rfl (lv_at hl 0 rfl) ?_
  refine lv_iload_n hx hb dX6_remove_1 rfl (lv_at hl 1 rfl) ?_
  obtain ⟨v1, hv, h⟩ := bq_bind h
  obtain v2 | X3 := v1
  rotate_left
  · replace h := bq_elimR h
    cases h
  replace h := bq_elimL h
  refine bq_callV S hK hz mv_X6_30 (cr_X6_requireNode hv) (kc_X6_requireNode hv) dX6_remove_2 [] (rest := []) rfl rfl rfl hl.1 (Nat.le_of_ble_eq_true rfl) ⟨Nat.le_of_ble_eq_true rfl, Nat.le_of_ble_eq_true rfl⟩ ⟨Nat.zero_le _, Nat.zero_le _⟩ hW (fun H locs hW => ?_)
  refine lv_aload_n hx hb dX6_remove_5 rfl (lv_at hl 0 rfl) ?_
  refine lv_iload_n hx hb dX6_remove_6 rfl (lv_at hl 2 rfl) ?_
  obtain ⟨v4, hv, h⟩ := bq_bind h
  obtain v5 | X6 := v4
  rotate_left
  · replace h := bq_elimR h
    cases h
  replace h := bq_elimL h
  refine bq_callV S hK hz mv_X6_67 (cr_X6_requireKey hv) (kc_X6_requireKey hv) dX6_remove_7 [] (rest := []) rfl rfl rfl hl.1 (Nat.le_of_ble_eq_true rfl) ⟨Nat.le_of_ble_eq_true rfl, Nat.le_of_ble_eq_true rfl⟩ ⟨Nat.zero_le _, Nat.zero_le _⟩ hW (fun H locs hW => ?_)
  refine lv_aload_n hx hb dX6_remove_10 rfl (lv_at hl 0 rfl) ?_
  obtain ⟨v7, hv, h⟩ := bq_bind h
  refine bq_getr S hK fl_X6_26 dX6_remove_11 hv hW ?_
  refine lv_aload_n hx hb dX6_remove_14 rfl (lv_at hl 0 rfl) ?_
  obtain ⟨v8, hv, h⟩ := bq_bind h
  refine bq_getr S hK fl_X6_10 dX6_remove_15 hv hW ?_
  obtain ⟨E9, hv, h⟩ := bq_bind h
  refine bq_callV S hK hz mv_X6_59 (c_X1_save hv) (kc_X1_save hv) dX6_remove_18 [] (rest := []) rfl rfl rfl hl.1 (Nat.le_of_ble_eq_true rfl) ⟨Nat.le_of_ble_eq_true rfl, Nat.le_of_ble_eq_true rfl⟩ ⟨Nat.zero_le _, Nat.zero_le _⟩ hW (fun H locs hW => ?_)
  refine lv_aload_n hx hb dX6_remove_21 rfl (lv_at hl 0 rfl) ?_
  obtain ⟨v10, hv, h⟩ := bq_bind h
  refine bq_getr S hK fl_X6_10 dX6_remove_22 hv hW ?_
  refine lv_iload_n hx hb dX6_remove_25 rfl (lv_at hl 1 rfl) ?_
  refine lv_iload_n hx hb dX6_remove_26 rfl (lv_at hl 2 rfl) ?_
  obtain ⟨v11, hv, h⟩ := bq_bind h
  refine bq_callV S hK hz mv_X6_84 (c_X4_drop hv) (kc_X4_drop hv) dX6_remove_27 [.int (bq_b v11.1)] (rest := []) rfl rfl rfl hl.1 (Nat.le_of_ble_eq_true rfl) ⟨Nat.le_of_ble_eq_true rfl, Nat.le_of_ble_eq_true rfl⟩ ⟨Nat.zero_le _, Nat.zero_le _⟩ hW (fun H locs hW => ?_)
  cases h
  exact bq_retz S hr hlocks hK hz dX6_remove_30 _ rfl hW

theorem kc_X6_addSeries {E : bq_E} {a0 : Nat} {x1 : Int32} {x2 : Int32} {x3 : Int32} {x4 : Int32} {R : ((Int32 ⊕ String) × bq_E)} (h : tw_X6_addSeries E a0 x1 x2 x3 x4 = some R) : bq_cls E a0 = 6 := (bq_guard h).1
set_option maxHeartbeats 4000000 in
set_option maxRecDepth 100000 in
theorem cr_X6_addSeries {l : Launch} {g : bq_G} {L : List Nat} {z : Nat} {E : bq_E} {a0 : Nat} {x1 : Int32} {x2 : Int32} {x3 : Int32} {x4 : Int32} {R : Int32} {E9 : bq_E} (h : tw_X6_addSeries E a0 x1 x2 x3 x4 = some (Sum.inl R, E9)) : bq_M l yX6_addSeries cX6_addSeries 8 (some .int) 6 149 [.ref a0, .int x1, .int x2, .int x3, .int x4] g L E z (some (.int R)) E9 := by
  unfold tw_X6_addSeries at h
  obtain ⟨hcl, h⟩ := bq_guard h
  refine bq_enter (by decide) (Nat.le_of_ble_eq_true rfl) ?_
  intro p e s m args below meth c S hr hlocks hK hz hW ls hl
  have S : CallFix p m c cX6_addSeries 8 s args bq_WA RX6 := S
  have hx := S.1
  have hb := S.2.1
  have hl : lv_has ls 8 [(0, .ref a0), (1, .int x1), (2, .int x2), (3, .int x3), (4, .int x4)] := hl
  refine lv_aload_n hx hb dX6_addSeries_0 rfl (lv_at hl 0 rfl) ?_
  refine lv_iload_n hx hb dX6_addSeries_1 rfl (lv_at hl 1 rfl) ?_
  obtain ⟨v1, hv, h⟩ := bq_bind h
  obtain v2 | X3 := v1
  rotate_left
  · replace h := bq_elimR h
    cases h
  replace h := bq_elimL h
  refine bq_callV S hK hz mv_X6_30 (cr_X6_requireNode hv) (kc_X6_requireNode hv) dX6_addSeries_2 [] (rest := []) rfl rfl rfl hl.1 (Nat.le_of_ble_eq_true rfl) ⟨Nat.le_of_ble_eq_true rfl, Nat.le_of_ble_eq_true rfl⟩ ⟨Nat.zero_le _, Nat.zero_le _⟩ hW (fun H locs hW => ?_)
  refine lv_aload_n hx hb dX6_addSeries_5 rfl (lv_at hl 0 rfl) ?_
  refine lv_iload_n hx hb dX6_addSeries_6 rfl (lv_at hl 2 rfl) ?_
  obtain ⟨v4, hv, h⟩ := bq_bind h
  obtain v5 | X6 := v4
  rotate_left
  · replace h := bq_elimR h
    cases h
  replace h := bq_elimL h
  refine bq_callV S hK hz mv_X6_67 (cr_X6_requireKey hv) (kc_X6_requireKey hv) dX6_addSeries_7 [] (rest := []) rfl rfl rfl hl.1 (Nat.le_of_ble_eq_true rfl) ⟨Nat.le_of_ble_eq_true rfl, Nat.le_of_ble_eq_true rfl⟩ ⟨Nat.zero_le _, Nat.zero_le _⟩ hW (fun H locs hW => ?_)
  refine lv_aload_n hx hb dX6_addSeries_10 rfl (lv_at hl 0 rfl) ?_
  refine lv_iload_n hx hb dX6_addSeries_11 rfl (lv_at hl 3 rfl) ?_
  refine lv_iconst (v := 1) hx hb dX6_addSeries_12 (by decide) ?_
  obtain ⟨k28, ek28, h⟩ := bq_letK h
  have hjk28 : ∀ (b7 : Int32) (H1 : Heap) (locs1 : List Loc) (ls1 : Array Slot), k28 b7 = some (Sum.inl R, E9) → bq_H g L E z s.heap H1 locs1 → lv_has ls1 8 [(0, .ref a0), (1, .int x1), (2, .int x2), (3, .int x3), (4, .int x4)] → W p l e { frames := 6, cells := 0, slots := 0, locals := 149 } s m args below meth c H1 locs1 0 0 (MQ below (bq_Q g L E9 z (some (.int R))) args s 0 0 (bq_A z)) (F0 m 28 ls1 [.int b7, .ref a0]) := by
    intro b7 H locs ls h hW hl
    replace h := bq_kap1 ek28 h
    obtain ⟨v8, hv, h⟩ := bq_bind h
    obtain v9 | X10 := v8
    rotate_left
    · replace h := bq_elimR h
      cases h
    replace h := bq_elimL h
    refine bq_callV S hK hz mv_X6_34 (cr_X6_require hv) (kc_X6_require hv) dX6_addSeries_28 [] (rest := []) rfl rfl rfl hl.1 (Nat.le_of_ble_eq_true rfl) ⟨Nat.le_of_ble_eq_true rfl, Nat.le_of_ble_eq_true rfl⟩ ⟨Nat.zero_le _, Nat.zero_le _⟩ hW (fun H locs hW => ?_)
    refine lv_aload_n hx hb dX6_addSeries_31 rfl (lv_at hl 0 rfl) ?_
    refine lv_iload hx hb dX6_addSeries_32 (lv_at hl 4 rfl) ?_
    refine lv_iconst (v := 1) hx hb dX6_addSeries_34 (by decide) ?_
    obtain ⟨k50, ek50, h⟩ := bq_letK h
    have hjk50 : ∀ (b11 : Int32) (H1 : Heap) (locs1 : List Loc) (ls1 : Array Slot), k50 b11 = some (Sum.inl R, E9) → bq_H g L E z s.heap H1 locs1 → lv_has ls1 8 [(0, .ref a0), (1, .int x1), (2, .int x2), (3, .int x3), (4, .int x4)] → W p l e { frames := 6, cells := 0, slots := 0, locals := 149 } s m args below meth c H1 locs1 0 0 (MQ below (bq_Q g L E9 z (some (.int R))) args s 0 0 (bq_A z)) (F0 m 50 ls1 [.int b11, .ref a0]) := by
      intro b11 H locs ls h hW hl
      replace h := bq_kap1 ek50 h
      obtain ⟨v12, hv, h⟩ := bq_bind h
      obtain v13 | X14 := v12
      rotate_left
      · replace h := bq_elimR h
        cases h
      replace h := bq_elimL h
      refine bq_callV S hK hz mv_X6_34 (cr_X6_require hv) (kc_X6_require hv) dX6_addSeries_50 [] (rest := []) rfl rfl rfl hl.1 (Nat.le_of_ble_eq_true rfl) ⟨Nat.le_of_ble_eq_true rfl, Nat.le_of_ble_eq_true rfl⟩ ⟨Nat.zero_le _, Nat.zero_le _⟩ hW (fun H locs hW => ?_)
      refine lv_aload_n hx hb dX6_addSeries_53 rfl (lv_at hl 0 rfl) ?_
      obtain ⟨v15, hv, h⟩ := bq_bind h
      refine bq_getr S hK fl_X6_26 dX6_addSeries_54 hv hW ?_
      refine lv_aload_n hx hb dX6_addSeries_57 rfl (lv_at hl 0 rfl) ?_
      obtain ⟨v16, hv, h⟩ := bq_bind h
      refine bq_getr S hK fl_X6_10 dX6_addSeries_58 hv hW ?_
      obtain ⟨E17, hv, h⟩ := bq_bind h
      refine bq_callV S hK hz mv_X6_59 (c_X1_save hv) (kc_X1_save hv) dX6_addSeries_61 [] (rest := []) rfl rfl rfl hl.1 (Nat.le_of_ble_eq_true rfl) ⟨Nat.le_of_ble_eq_true rfl, Nat.le_of_ble_eq_true rfl⟩ ⟨Nat.zero_le _, Nat.zero_le _⟩ hW (fun H locs hW => ?_)
      refine lv_iload_n hx hb dX6_addSeries_64 rfl (lv_at hl 2 rfl) ?_
      refine lv_istore (lv' := [(5, .int x2), (0, .ref a0), (1, .int x1), (2, .int x2), (3, .int x3), (4, .int x4)]) hx hb dX6_addSeries_65 hl (by decide) rfl (fun ls hl => ?_)
      refine lv_iconst (v := 0) hx hb dX6_addSeries_67 (by decide) ?_
      refine lv_istore (lv' := [(6, .int (0 : Int32)), (5, .int x2), (0, .ref a0), (1, .int x1), (2, .int x2), (3, .int x3), (4, .int x4)]) hx hb dX6_addSeries_68 hl (by decide) rfl (fun ls hl => ?_)
      refine lv_iconst (v := 0) hx hb dX6_addSeries_70 (by decide) ?_
      refine lv_istore (lv' := [(7, .int (0 : Int32)), (6, .int (0 : Int32)), (5, .int x2), (0, .ref a0), (1, .int x1), (2, .int x2), (3, .int x3), (4, .int x4)]) hx hb dX6_addSeries_71 hl (by decide) rfl (fun ls hl => ?_)
      have hL73 : ∀ (n : Nat) (z22 : Int32) (z23 : Int32) (z24 : Int32) (E25 : bq_E) (H1 : Heap) (locs1 : List Loc) (ls1 : Array Slot), tl_X6_addSeries_73 a0 x1 x3 x4 n z22 z23 z24 E25 = some (Sum.inl R, E9) → bq_H g L E25 z s.heap H1 locs1 → lv_has ls1 8 [(0, .ref a0), (1, .int x1), (3, .int x3), (4, .int x4), (5, .int z22), (6, .int z23), (7, .int z24)] → W p l e { frames := 6, cells := 0, slots := 0, locals := 149 } s m args below meth c H1 locs1 0 0 (MQ below (bq_Q g L E9 z (some (.int R))) args s 0 0 (bq_A z)) (F0 m 73 ls1 []) := by
        intro n
        induction n with
        | zero => intro z22 z23 z24 E25 H locs ls h hW hl; cases h
        | succ n ih =>
          intro z22 z23 z24 E25 H locs ls h hW hl
          rw [tl_X6_addSeries_73.eq_2] at h
          refine lv_iload hx hb dX6_addSeries_73 (lv_at hl 6 rfl) ?_
          refine lv_iload hx hb dX6_addSeries_75 (lv_at hl 3 rfl) ?_
          refine lv_icmp_ge (tgt := 130) hx hb dX6_addSeries_77 (by decide) (fun hc => ?_) (fun hc => ?_)
          · replace h := bq_ifT hc h
            refine lv_iload hx hb dX6_addSeries_130 (lv_at hl 5 rfl) ?_
            cases h
            exact bq_reti S hr hlocks hK hz dX6_addSeries_132 hW
          · replace h := bq_ifF hc h
            refine lv_iload hx hb dX6_addSeries_80 (lv_at hl 4 rfl) ?_
            refine lv_sipush (v := 10000) hx hb dX6_addSeries_82 (by decide) ?_
            refine lv_icmp_ge (tgt := 130) hx hb dX6_addSeries_85 (by decide) (fun hc => ?_) (fun hc => ?_)
            · replace h := bq_ifT hc h
              refine lv_iload hx hb dX6_addSeries_130 (lv_at hl 5 rfl) ?_
              cases h
              exact bq_reti S hr hlocks hK hz dX6_addSeries_132 hW
            · replace h := bq_ifF hc h
              refine lv_aload_n hx hb dX6_addSeries_88 rfl (lv_at hl 0 rfl) ?_
              obtain ⟨v26, hv, h⟩ := bq_bind h
              refine bq_getr S hK fl_X6_10 dX6_addSeries_89 hv hW ?_
              refine lv_iload_n hx hb dX6_addSeries_92 rfl (lv_at hl 1 rfl) ?_
              obtain ⟨v27, hv, h⟩ := bq_bind h
              refine bq_callV S hK hz mv_X6_42 (c_X4_at hv) (kc_X4_at hv) dX6_addSeries_93 [.ref v27] (rest := []) rfl rfl rfl hl.1 (Nat.le_of_ble_eq_true rfl) ⟨Nat.le_of_ble_eq_true rfl, Nat.le_of_ble_eq_true rfl⟩ ⟨Nat.zero_le _, Nat.zero_le _⟩ hW (fun H locs hW => ?_)
              obtain ⟨v28, hv, h⟩ := bq_bind h
              refine bq_callV S hK hz mv_X6_74 (c_X0_isFull hv) (kc_X0_isFull hv) dX6_addSeries_96 [.int (bq_b v28)] (rest := []) rfl rfl rfl hl.1 (Nat.le_of_ble_eq_true rfl) ⟨Nat.le_of_ble_eq_true rfl, Nat.le_of_ble_eq_true rfl⟩ ⟨Nat.zero_le _, Nat.zero_le _⟩ hW (fun H locs hW => ?_)
              refine lv_if_ne (tgt := 130) hx hb dX6_addSeries_99 (by decide) (fun hc => ?_) (fun hc => ?_)
              · replace h := bq_ifF hc h
                refine lv_iload hx hb dX6_addSeries_130 (lv_at hl 5 rfl) ?_
                cases h
                exact bq_reti S hr hlocks hK hz dX6_addSeries_132 hW
              · replace h := bq_ifT hc h
                refine lv_aload_n hx hb dX6_addSeries_102 rfl (lv_at hl 0 rfl) ?_
                obtain ⟨v29, hv, h⟩ := bq_bind h
                refine bq_getr S hK fl_X6_10 dX6_addSeries_103 hv hW ?_
                refine lv_iload_n hx hb dX6_addSeries_106 rfl (lv_at hl 1 rfl) ?_
                refine lv_iload hx hb dX6_addSeries_107 (lv_at hl 4 rfl) ?_
                obtain ⟨v30, hv, h⟩ := bq_bind h
                refine bq_callV S hK hz mv_X6_80 (c_X4_takeIn hv) (kc_X4_takeIn hv) dX6_addSeries_109 [.int (bq_b v30.1)] (rest := []) rfl rfl rfl hl.1 (Nat.le_of_ble_eq_true rfl) ⟨Nat.le_of_ble_eq_true rfl, Nat.le_of_ble_eq_true rfl⟩ ⟨Nat.zero_le _, Nat.zero_le _⟩ hW (fun H locs hW => ?_)
                refine lv_if_eq (tgt := 118) hx hb dX6_addSeries_112 (by decide) (fun hc => ?_) (fun hc => ?_)
                · replace h := bq_ifT hc h
                  refine lv_iload hx hb dX6_addSeries_118 (lv_at hl 4 rfl) ?_
                  refine lv_iload_n hx hb dX6_addSeries_120 rfl (lv_at hl 2 rfl) ?_
                  refine lv_iadd hx hb dX6_addSeries_121 ?_
                  refine lv_topi (fun v31 ev31 => ?_)
                  replace h := bq_letE ev31 h
                  refine lv_istore (lv' := [(5, .int v31), (0, .ref a0), (1, .int x1), (3, .int x3), (4, .int x4), (6, .int z23), (7, .int z24)]) hx hb dX6_addSeries_122 hl (by decide) rfl (fun ls hl => ?_)
                  obtain ⟨v32, ev32⟩ : ∃ y : Int32, y = z24 + 1 := ⟨_, rfl⟩
                  replace h := bq_letE ev32 h
                  refine lv_iinc (v := v32) (lv' := [(7, .int v32), (5, .int v31), (0, .ref a0), (1, .int x1), (3, .int x3), (4, .int x4), (6, .int z23)]) hx hb dX6_addSeries_124 hl (k := 6) rfl (by rw [ev32]; rfl) (by decide) rfl (fun ls hl => ?_)
                  refine lv_goto (tgt := 73) hx hb dX6_addSeries_127 (by decide) ?_
                  exact ih v31 z23 v32 v30.2 _ _ _ h hW (lv_sub hl [2, 3, 4, 5, 1, 6, 0] rfl)
                · replace h := bq_ifF hc h
                  obtain ⟨v33, ev33⟩ : ∃ y : Int32, y = z23 + 1 := ⟨_, rfl⟩
                  replace h := bq_letE ev33 h
                  refine lv_iinc (v := v33) (lv' := [(6, .int v33), (0, .ref a0), (1, .int x1), (3, .int x3), (4, .int x4), (5, .int z22), (7, .int z24)]) hx hb dX6_addSeries_115 hl (k := 5) rfl (by rw [ev33]; rfl) (by decide) rfl (fun ls hl => ?_)
                  refine lv_iload hx hb dX6_addSeries_118 (lv_at hl 5 rfl) ?_
                  refine lv_iload_n hx hb dX6_addSeries_120 rfl (lv_at hl 3 rfl) ?_
                  refine lv_iadd hx hb dX6_addSeries_121 ?_
                  refine lv_topi (fun v34 ev34 => ?_)
                  replace h := bq_letE ev34 h
                  refine lv_istore (lv' := [(5, .int v34), (6, .int v33), (0, .ref a0), (1, .int x1), (3, .int x3), (4, .int x4), (7, .int z24)]) hx hb dX6_addSeries_122 hl (by decide) rfl (fun ls hl => ?_)
                  obtain ⟨v35, ev35⟩ : ∃ y : Int32, y = z24 + 1 := ⟨_, rfl⟩
                  replace h := bq_letE ev35 h
                  refine lv_iinc (v := v35) (lv' := [(7, .int v35), (5, .int v34), (6, .int v33), (0, .ref a0), (1, .int x1), (3, .int x3), (4, .int x4)]) hx hb dX6_addSeries_124 hl (k := 6) rfl (by rw [ev35]; rfl) (by decide) rfl (fun ls hl => ?_)
                  refine lv_goto (tgt := 73) hx hb dX6_addSeries_127 (by decide) ?_
                  exact ih v34 v33 v35 v30.2 _ _ _ h hW (lv_sub hl [3, 4, 5, 6, 1, 2, 0] rfl)
      exact hL73 bq_fuel x2 (0 : Int32) (0 : Int32) E17 _ _ _ h hW (lv_sub hl [3, 4, 6, 7, 2, 1, 0] rfl)
    clear ek50
    obtain ⟨k49, ek49, h⟩ := bq_letK h
    have hjk49 : ∀ (u0 : Unit) (H1 : Heap) (locs1 : List Loc) (ls1 : Array Slot), k49 u0 = some (Sum.inl R, E9) → bq_H g L E z s.heap H1 locs1 → lv_has ls1 8 [(0, .ref a0), (1, .int x1), (2, .int x2), (3, .int x3), (4, .int x4)] → W p l e { frames := 6, cells := 0, slots := 0, locals := 149 } s m args below meth c H1 locs1 0 0 (MQ below (bq_Q g L E9 z (some (.int R))) args s 0 0 (bq_A z)) (F0 m 49 ls1 [.ref a0]) := by
      intro u0 H locs ls h hW hl
      replace h := bq_kap1 ek49 h
      refine lv_iconst (v := 0) hx hb dX6_addSeries_49 (by decide) ?_
      exact hjk50 (0 : Int32) _ _ _ h hW (lv_sub hl [0, 1, 2, 3, 4] rfl)
    clear ek49
    refine lv_icmp_lt (tgt := 49) hx hb dX6_addSeries_35 (by decide) (fun hc => ?_) (fun hc => ?_)
    · replace h := bq_ifT hc h
      exact hjk49 () _ _ _ h hW (lv_sub hl [0, 1, 2, 3, 4] rfl)
    · replace h := bq_ifF hc h
      refine lv_iload hx hb dX6_addSeries_38 (lv_at hl 4 rfl) ?_
      refine lv_bipush (v := 24) hx hb dX6_addSeries_40 (by decide) ?_
      refine lv_icmp_gt (tgt := 49) hx hb dX6_addSeries_42 (by decide) (fun hc => ?_) (fun hc => ?_)
      · replace h := bq_ifT hc h
        exact hjk49 () _ _ _ h hW (lv_sub hl [0, 1, 2, 3, 4] rfl)
      · replace h := bq_ifF hc h
        refine lv_iconst (v := 1) hx hb dX6_addSeries_45 (by decide) ?_
        refine lv_goto (tgt := 50) hx hb dX6_addSeries_46 (by decide) ?_
        exact hjk50 (1 : Int32) _ _ _ h hW (lv_sub hl [0, 1, 2, 3, 4] rfl)
  clear ek28
  obtain ⟨k27, ek27, h⟩ := bq_letK h
  have hjk27 : ∀ (u0 : Unit) (H1 : Heap) (locs1 : List Loc) (ls1 : Array Slot), k27 u0 = some (Sum.inl R, E9) → bq_H g L E z s.heap H1 locs1 → lv_has ls1 8 [(0, .ref a0), (1, .int x1), (2, .int x2), (3, .int x3), (4, .int x4)] → W p l e { frames := 6, cells := 0, slots := 0, locals := 149 } s m args below meth c H1 locs1 0 0 (MQ below (bq_Q g L E9 z (some (.int R))) args s 0 0 (bq_A z)) (F0 m 27 ls1 [.ref a0]) := by
    intro u0 H locs ls h hW hl
    replace h := bq_kap1 ek27 h
    refine lv_iconst (v := 0) hx hb dX6_addSeries_27 (by decide) ?_
    exact hjk28 (0 : Int32) _ _ _ h hW (lv_sub hl [0, 1, 2, 3, 4] rfl)
  clear ek27
  refine lv_icmp_lt (tgt := 27) hx hb dX6_addSeries_13 (by decide) (fun hc => ?_) (fun hc => ?_)
  · replace h := bq_ifT hc h
    exact hjk27 () _ _ _ h hW (lv_sub hl [0, 1, 2, 3, 4] rfl)
  · replace h := bq_ifF hc h
    refine lv_iload_n hx hb dX6_addSeries_16 rfl (lv_at hl 3 rfl) ?_
    refine lv_sipush (v := 999) hx hb dX6_addSeries_17 (by decide) ?_
    refine lv_icmp_gt (tgt := 27) hx hb dX6_addSeries_20 (by decide) (fun hc => ?_) (fun hc => ?_)
    · replace h := bq_ifT hc h
      exact hjk27 () _ _ _ h hW (lv_sub hl [0, 1, 2, 3, 4] rfl)
    · replace h := bq_ifF hc h
      refine lv_iconst (v := 1) hx hb dX6_addSeries_23 (by decide) ?_
      refine lv_goto (tgt := 28) hx hb dX6_addSeries_24 (by decide) ?_
      exact hjk28 (1 : Int32) _ _ _ h hW (lv_sub hl [0, 1, 2, 3, 4] rfl)

theorem kc_X6_setSizes {E : bq_E} {a0 : Nat} {x1 : Int32} {x2 : Int32} {R : ((Int32 ⊕ String) × bq_E)} (h : tw_X6_setSizes E a0 x1 x2 = some R) : bq_cls E a0 = 6 := (bq_guard h).1
set_option maxHeartbeats 4000000 in
set_option maxRecDepth 100000 in
theorem cr_X6_setSizes {l : Launch} {g : bq_G} {L : List Nat} {z : Nat} {E : bq_E} {a0 : Nat} {x1 : Int32} {x2 : Int32} {R : Int32} {E9 : bq_E} (h : tw_X6_setSizes E a0 x1 x2 = some (Sum.inl R, E9)) : bq_M l yX6_setSizes cX6_setSizes 4 (some .int) 6 148 [.ref a0, .int x1, .int x2] g L E z (some (.int R)) E9 := by
  unfold tw_X6_setSizes at h
  obtain ⟨hcl, h⟩ := bq_guard h
  refine bq_enter (by decide) (Nat.le_of_ble_eq_true rfl) ?_
  intro p e s m args below meth c S hr hlocks hK hz hW ls hl
  have S : CallFix p m c cX6_setSizes 4 s args bq_WA RX6 := S
  have hx := S.1
  have hb := S.2.1
  have hl : lv_has ls 4 [(0, .ref a0), (1, .int x1), (2, .int x2)] := hl
  refine lv_aload_n hx hb dX6_setSizes_0 rfl (lv_at hl 0 rfl) ?_
  refine lv_iload_n hx hb dX6_setSizes_1 rfl (lv_at hl 1 rfl) ?_
  refine lv_iconst (v := 1) hx hb dX6_setSizes_2 (by decide) ?_
  obtain ⟨k17, ek17, h⟩ := bq_letK h
  have hjk17 : ∀ (b1 : Int32) (H1 : Heap) (locs1 : List Loc) (ls1 : Array Slot), k17 b1 = some (Sum.inl R, E9) → bq_H g L E z s.heap H1 locs1 → lv_has ls1 4 [(0, .ref a0), (1, .int x1), (2, .int x2)] → W p l e { frames := 6, cells := 0, slots := 0, locals := 148 } s m args below meth c H1 locs1 0 0 (MQ below (bq_Q g L E9 z (some (.int R))) args s 0 0 (bq_A z)) (F0 m 17 ls1 [.int b1, .ref a0]) := by
    intro b1 H locs ls h hW hl
    replace h := bq_kap1 ek17 h
    obtain ⟨v2, hv, h⟩ := bq_bind h
    obtain v3 | X4 := v2
    rotate_left
    · replace h := bq_elimR h
      cases h
    replace h := bq_elimL h
    refine bq_callV S hK hz mv_X6_34 (cr_X6_require hv) (kc_X6_require hv) dX6_setSizes_17 [] (rest := []) rfl rfl rfl hl.1 (Nat.le_of_ble_eq_true rfl) ⟨Nat.le_of_ble_eq_true rfl, Nat.le_of_ble_eq_true rfl⟩ ⟨Nat.zero_le _, Nat.zero_le _⟩ hW (fun H locs hW => ?_)
    refine lv_aload_n hx hb dX6_setSizes_20 rfl (lv_at hl 0 rfl) ?_
    refine lv_iload_n hx hb dX6_setSizes_21 rfl (lv_at hl 2 rfl) ?_
    refine lv_iconst (v := 2) hx hb dX6_setSizes_22 (by decide) ?_
    obtain ⟨k36, ek36, h⟩ := bq_letK h
    have hjk36 : ∀ (b5 : Int32) (H1 : Heap) (locs1 : List Loc) (ls1 : Array Slot), k36 b5 = some (Sum.inl R, E9) → bq_H g L E z s.heap H1 locs1 → lv_has ls1 4 [(0, .ref a0), (1, .int x1), (2, .int x2)] → W p l e { frames := 6, cells := 0, slots := 0, locals := 148 } s m args below meth c H1 locs1 0 0 (MQ below (bq_Q g L E9 z (some (.int R))) args s 0 0 (bq_A z)) (F0 m 36 ls1 [.int b5, .ref a0]) := by
      intro b5 H locs ls h hW hl
      replace h := bq_kap1 ek36 h
      obtain ⟨v6, hv, h⟩ := bq_bind h
      obtain v7 | X8 := v6
      rotate_left
      · replace h := bq_elimR h
        cases h
      replace h := bq_elimL h
      refine bq_callV S hK hz mv_X6_34 (cr_X6_require hv) (kc_X6_require hv) dX6_setSizes_36 [] (rest := []) rfl rfl rfl hl.1 (Nat.le_of_ble_eq_true rfl) ⟨Nat.le_of_ble_eq_true rfl, Nat.le_of_ble_eq_true rfl⟩ ⟨Nat.zero_le _, Nat.zero_le _⟩ hW (fun H locs hW => ?_)
      refine lv_aload_n hx hb dX6_setSizes_39 rfl (lv_at hl 0 rfl) ?_
      obtain ⟨v9, hv, h⟩ := bq_bind h
      refine bq_getr S hK fl_X6_26 dX6_setSizes_40 hv hW ?_
      refine lv_aload_n hx hb dX6_setSizes_43 rfl (lv_at hl 0 rfl) ?_
      obtain ⟨v10, hv, h⟩ := bq_bind h
      refine bq_getr S hK fl_X6_10 dX6_setSizes_44 hv hW ?_
      obtain ⟨E11, hv, h⟩ := bq_bind h
      refine bq_callV S hK hz mv_X6_59 (c_X1_save hv) (kc_X1_save hv) dX6_setSizes_47 [] (rest := []) rfl rfl rfl hl.1 (Nat.le_of_ble_eq_true rfl) ⟨Nat.le_of_ble_eq_true rfl, Nat.le_of_ble_eq_true rfl⟩ ⟨Nat.zero_le _, Nat.zero_le _⟩ hW (fun H locs hW => ?_)
      refine lv_bipush (v := 10) hx hb dX6_setSizes_50 (by decide) ?_
      refine lv_aload_n hx hb dX6_setSizes_52 rfl (lv_at hl 0 rfl) ?_
      obtain ⟨v12, hv, h⟩ := bq_bind h
      refine bq_getr S hK fl_X6_10 dX6_setSizes_53 hv hW ?_
      obtain ⟨v13, hv, h⟩ := bq_bind h
      refine bq_geti S hK fl_X6_87 dX6_setSizes_56 hv hW ?_
      refine lv_imul hx hb dX6_setSizes_59 ?_
      refine lv_aload_n hx hb dX6_setSizes_60 rfl (lv_at hl 0 rfl) ?_
      obtain ⟨v14, hv, h⟩ := bq_bind h
      refine bq_getr S hK fl_X6_10 dX6_setSizes_61 hv hW ?_
      obtain ⟨v15, hv, h⟩ := bq_bind h
      refine bq_geti S hK fl_X6_90 dX6_setSizes_64 hv hW ?_
      refine lv_iadd hx hb dX6_setSizes_67 ?_
      refine lv_topi (fun v16 ev16 => ?_)
      replace h := bq_letE ev16 h
      refine lv_istore_n (lv' := [(3, .int v16), (0, .ref a0), (1, .int x1), (2, .int x2)]) hx hb dX6_setSizes_68 rfl hl (by decide) rfl (fun ls hl => ?_)
      refine lv_aload_n hx hb dX6_setSizes_69 rfl (lv_at hl 1 rfl) ?_
      obtain ⟨v17, hv, h⟩ := bq_bind h
      refine bq_getr S hK fl_X6_10 dX6_setSizes_70 hv hW ?_
      refine lv_iload_n hx hb dX6_setSizes_73 rfl (lv_at hl 2 rfl) ?_
      obtain ⟨E18, hv, h⟩ := bq_bind h
      refine bq_puti S hK fp_X6_87 dX6_setSizes_74 hv hW (fun H locs hW => ?_)
      refine lv_aload_n hx hb dX6_setSizes_77 rfl (lv_at hl 1 rfl) ?_
      obtain ⟨v19, hv, h⟩ := bq_bind h
      refine bq_getr S hK fl_X6_10 dX6_setSizes_78 hv hW ?_
      refine lv_iload_n hx hb dX6_setSizes_81 rfl (lv_at hl 3 rfl) ?_
      obtain ⟨E20, hv, h⟩ := bq_bind h
      refine bq_puti S hK fp_X6_90 dX6_setSizes_82 hv hW (fun H locs hW => ?_)
      refine lv_iload_n hx hb dX6_setSizes_85 rfl (lv_at hl 0 rfl) ?_
      cases h
      exact bq_reti S hr hlocks hK hz dX6_setSizes_86 hW
    clear ek36
    obtain ⟨k35, ek35, h⟩ := bq_letK h
    have hjk35 : ∀ (u0 : Unit) (H1 : Heap) (locs1 : List Loc) (ls1 : Array Slot), k35 u0 = some (Sum.inl R, E9) → bq_H g L E z s.heap H1 locs1 → lv_has ls1 4 [(0, .ref a0), (1, .int x1), (2, .int x2)] → W p l e { frames := 6, cells := 0, slots := 0, locals := 148 } s m args below meth c H1 locs1 0 0 (MQ below (bq_Q g L E9 z (some (.int R))) args s 0 0 (bq_A z)) (F0 m 35 ls1 [.ref a0]) := by
      intro u0 H locs ls h hW hl
      replace h := bq_kap1 ek35 h
      refine lv_iconst (v := 0) hx hb dX6_setSizes_35 (by decide) ?_
      exact hjk36 (0 : Int32) _ _ _ h hW (lv_sub hl [0, 1, 2] rfl)
    clear ek35
    refine lv_icmp_lt (tgt := 35) hx hb dX6_setSizes_23 (by decide) (fun hc => ?_) (fun hc => ?_)
    · replace h := bq_ifT hc h
      exact hjk35 () _ _ _ h hW (lv_sub hl [0, 1, 2] rfl)
    · replace h := bq_ifF hc h
      refine lv_iload_n hx hb dX6_setSizes_26 rfl (lv_at hl 2 rfl) ?_
      refine lv_iconst (v := 5) hx hb dX6_setSizes_27 (by decide) ?_
      refine lv_icmp_gt (tgt := 35) hx hb dX6_setSizes_28 (by decide) (fun hc => ?_) (fun hc => ?_)
      · replace h := bq_ifT hc h
        exact hjk35 () _ _ _ h hW (lv_sub hl [0, 1, 2] rfl)
      · replace h := bq_ifF hc h
        refine lv_iconst (v := 1) hx hb dX6_setSizes_31 (by decide) ?_
        refine lv_goto (tgt := 36) hx hb dX6_setSizes_32 (by decide) ?_
        exact hjk36 (1 : Int32) _ _ _ h hW (lv_sub hl [0, 1, 2] rfl)
  clear ek17
  obtain ⟨k16, ek16, h⟩ := bq_letK h
  have hjk16 : ∀ (u0 : Unit) (H1 : Heap) (locs1 : List Loc) (ls1 : Array Slot), k16 u0 = some (Sum.inl R, E9) → bq_H g L E z s.heap H1 locs1 → lv_has ls1 4 [(0, .ref a0), (1, .int x1), (2, .int x2)] → W p l e { frames := 6, cells := 0, slots := 0, locals := 148 } s m args below meth c H1 locs1 0 0 (MQ below (bq_Q g L E9 z (some (.int R))) args s 0 0 (bq_A z)) (F0 m 16 ls1 [.ref a0]) := by
    intro u0 H locs ls h hW hl
    replace h := bq_kap1 ek16 h
    refine lv_iconst (v := 0) hx hb dX6_setSizes_16 (by decide) ?_
    exact hjk17 (0 : Int32) _ _ _ h hW (lv_sub hl [0, 1, 2] rfl)
  clear ek16
  refine lv_icmp_lt (tgt := 16) hx hb dX6_setSizes_3 (by decide) (fun hc => ?_) (fun hc => ?_)
  · replace h := bq_ifT hc h
    exact hjk16 () _ _ _ h hW (lv_sub hl [0, 1, 2] rfl)
  · replace h := bq_ifF hc h
    refine lv_iload_n hx hb dX6_setSizes_6 rfl (lv_at hl 1 rfl) ?_
    refine lv_bipush (v := 8) hx hb dX6_setSizes_7 (by decide) ?_
    refine lv_icmp_gt (tgt := 16) hx hb dX6_setSizes_9 (by decide) (fun hc => ?_) (fun hc => ?_)
    · replace h := bq_ifT hc h
      exact hjk16 () _ _ _ h hW (lv_sub hl [0, 1, 2] rfl)
    · replace h := bq_ifF hc h
      refine lv_iconst (v := 1) hx hb dX6_setSizes_12 (by decide) ?_
      refine lv_goto (tgt := 17) hx hb dX6_setSizes_13 (by decide) ?_
      exact hjk17 (1 : Int32) _ _ _ h hW (lv_sub hl [0, 1, 2] rfl)

theorem kc_X6_rebuild {E : bq_E} {a0 : Nat} {x1 : Int32} {R : ((Int32 ⊕ String) × bq_E)} (h : tw_X6_rebuild E a0 x1 = some R) : bq_cls E a0 = 6 := (bq_guard h).1
set_option maxHeartbeats 4000000 in
set_option maxRecDepth 100000 in
theorem cr_X6_rebuild {l : Launch} {g : bq_G} {L : List Nat} {z : Nat} {E : bq_E} {a0 : Nat} {x1 : Int32} {R : Int32} {E9 : bq_E} (h : tw_X6_rebuild E a0 x1 = some (Sum.inl R, E9)) : bq_M l yX6_rebuild cX6_rebuild 2 (some .int) 6 148 [.ref a0, .int x1] g L E z (some (.int R)) E9 := by
  unfold tw_X6_rebuild at h
  obtain ⟨hcl, h⟩ := bq_guard h
  refine bq_enter (by decide) (Nat.le_of_ble_eq_true rfl) ?_
  intro p e s m args below meth c S hr hlocks hK hz hW ls hl
  have S : CallFix p m c cX6_rebuild 2 s args bq_WA RX6 := S
  have hx := S.1
  have hb := S.2.1
  have hl : lv_has ls 2 [(0, .ref a0), (1, .int x1)] := hl
  refine lv_aload_n hx hb dX6_rebuild_0 rfl (lv_at hl 0 rfl) ?_
  refine lv_iload_n hx hb dX6_rebuild_1 rfl (lv_at hl 1 rfl) ?_
  obtain ⟨v1, hv, h⟩ := bq_bind h
  obtain v2 | X3 := v1
  rotate_left
  · replace h := bq_elimR h
    cases h
  replace h := bq_elimL h
  refine bq_callV S hK hz mv_X6_30 (cr_X6_requireNode hv) (kc_X6_requireNode hv) dX6_rebuild_2 [] (rest := []) rfl rfl rfl hl.1 (Nat.le_of_ble_eq_true rfl) ⟨Nat.le_of_ble_eq_true rfl, Nat.le_of_ble_eq_true rfl⟩ ⟨Nat.zero_le _, Nat.zero_le _⟩ hW (fun H locs hW => ?_)
  refine lv_aload_n hx hb dX6_rebuild_5 rfl (lv_at hl 0 rfl) ?_
  obtain ⟨v4, hv, h⟩ := bq_bind h
  refine bq_getr S hK fl_X6_26 dX6_rebuild_6 hv hW ?_
  refine lv_aload_n hx hb dX6_rebuild_9 rfl (lv_at hl 0 rfl) ?_
  obtain ⟨v5, hv, h⟩ := bq_bind h
  refine bq_getr S hK fl_X6_10 dX6_rebuild_10 hv hW ?_
  obtain ⟨E6, hv, h⟩ := bq_bind h
  refine bq_callV S hK hz mv_X6_59 (c_X1_save hv) (kc_X1_save hv) dX6_rebuild_13 [] (rest := []) rfl rfl rfl hl.1 (Nat.le_of_ble_eq_true rfl) ⟨Nat.le_of_ble_eq_true rfl, Nat.le_of_ble_eq_true rfl⟩ ⟨Nat.zero_le _, Nat.zero_le _⟩ hW (fun H locs hW => ?_)
  refine lv_aload_n hx hb dX6_rebuild_16 rfl (lv_at hl 0 rfl) ?_
  obtain ⟨v7, hv, h⟩ := bq_bind h
  refine bq_getr S hK fl_X6_10 dX6_rebuild_17 hv hW ?_
  refine lv_iload_n hx hb dX6_rebuild_20 rfl (lv_at hl 1 rfl) ?_
  obtain ⟨v8, hv, h⟩ := bq_bind h
  refine bq_callV S hK hz mv_X6_93 (c_X4_renew hv) (kc_X4_renew hv) dX6_rebuild_21 [.int v8.1] (rest := []) rfl rfl rfl hl.1 (Nat.le_of_ble_eq_true rfl) ⟨Nat.le_of_ble_eq_true rfl, Nat.le_of_ble_eq_true rfl⟩ ⟨Nat.zero_le _, Nat.zero_le _⟩ hW (fun H locs hW => ?_)
  cases h
  exact bq_reti S hr hlocks hK hz dX6_rebuild_24 hW

theorem kc_X6_rebuildAll {E : bq_E} {a0 : Nat} {R : (Int32 × bq_E)} (h : tw_X6_rebuildAll E a0 = some R) : bq_cls E a0 = 6 := (bq_guard h).1
set_option maxHeartbeats 4000000 in
set_option maxRecDepth 100000 in
theorem c_X6_rebuildAll {l : Launch} {g : bq_G} {L : List Nat} {z : Nat} {E : bq_E} {a0 : Nat} {R : (Int32 × bq_E)} (h : tw_X6_rebuildAll E a0 = some R) : bq_M l yX6_rebuildAll cX6_rebuildAll 1 (some .int) 6 148 [.ref a0] g L E z (some (.int R.1)) R.2 := by
  unfold tw_X6_rebuildAll at h
  obtain ⟨hcl, h⟩ := bq_guard h
  refine bq_enter (by decide) (Nat.le_of_ble_eq_true rfl) ?_
  intro p e s m args below meth c S hr hlocks hK hz hW ls hl
  have S : CallFix p m c cX6_rebuildAll 1 s args bq_WA RX6 := S
  have hx := S.1
  have hb := S.2.1
  have hl : lv_has ls 1 [(0, .ref a0)] := hl
  refine lv_aload_n hx hb dX6_rebuildAll_0 rfl (lv_at hl 0 rfl) ?_
  obtain ⟨v1, hv, h⟩ := bq_bind h
  refine bq_getr S hK fl_X6_26 dX6_rebuildAll_1 hv hW ?_
  refine lv_aload_n hx hb dX6_rebuildAll_4 rfl (lv_at hl 0 rfl) ?_
  obtain ⟨v2, hv, h⟩ := bq_bind h
  refine bq_getr S hK fl_X6_10 dX6_rebuildAll_5 hv hW ?_
  obtain ⟨E3, hv, h⟩ := bq_bind h
  refine bq_callV S hK hz mv_X6_59 (c_X1_save hv) (kc_X1_save hv) dX6_rebuildAll_8 [] (rest := []) rfl rfl rfl hl.1 (Nat.le_of_ble_eq_true rfl) ⟨Nat.le_of_ble_eq_true rfl, Nat.le_of_ble_eq_true rfl⟩ ⟨Nat.zero_le _, Nat.zero_le _⟩ hW (fun H locs hW => ?_)
  refine lv_aload_n hx hb dX6_rebuildAll_11 rfl (lv_at hl 0 rfl) ?_
  obtain ⟨v4, hv, h⟩ := bq_bind h
  refine bq_getr S hK fl_X6_10 dX6_rebuildAll_12 hv hW ?_
  obtain ⟨E5, hv, h⟩ := bq_bind h
  refine bq_callV S hK hz mv_X6_96 (c_X4_renewAll hv) (kc_X4_renewAll hv) dX6_rebuildAll_15 [] (rest := []) rfl rfl rfl hl.1 (Nat.le_of_ble_eq_true rfl) ⟨Nat.le_of_ble_eq_true rfl, Nat.le_of_ble_eq_true rfl⟩ ⟨Nat.zero_le _, Nat.zero_le _⟩ hW (fun H locs hW => ?_)
  refine lv_aload_n hx hb dX6_rebuildAll_18 rfl (lv_at hl 0 rfl) ?_
  obtain ⟨v6, hv, h⟩ := bq_bind h
  refine bq_getr S hK fl_X6_10 dX6_rebuildAll_19 hv hW ?_
  obtain ⟨v7, hv, h⟩ := bq_bind h
  refine bq_callV S hK hz mv_X6_99 (c_X4_entriesOfAll hv) (kc_X4_entriesOfAll hv) dX6_rebuildAll_22 [.int v7] (rest := []) rfl rfl rfl hl.1 (Nat.le_of_ble_eq_true rfl) ⟨Nat.le_of_ble_eq_true rfl, Nat.le_of_ble_eq_true rfl⟩ ⟨Nat.zero_le _, Nat.zero_le _⟩ hW (fun H locs hW => ?_)
  cases h
  exact bq_reti S hr hlocks hK hz dX6_rebuildAll_25 hW

theorem kc_X6_requireGoal {E : bq_E} {a0 : Nat} {x1 : Int32} {R : (Unit ⊕ String)} (h : tw_X6_requireGoal E a0 x1 = some R) : bq_cls E a0 = 6 := (bq_guard h).1
set_option maxHeartbeats 4000000 in
set_option maxRecDepth 100000 in
theorem cr_X6_requireGoal {l : Launch} {g : bq_G} {L : List Nat} {z : Nat} {E : bq_E} {a0 : Nat} {x1 : Int32} {R : Unit} (h : tw_X6_requireGoal E a0 x1 = some (Sum.inl R)) : bq_M l yX6_requireGoal cX6_requireGoal 2 none 1 21 [.ref a0, .int x1] g L E z none E := by
  unfold tw_X6_requireGoal at h
  obtain ⟨hcl, h⟩ := bq_guard h
  refine bq_enter (by decide) (Nat.le_of_ble_eq_true rfl) ?_
  intro p e s m args below meth c S hr hlocks hK hz hW ls hl
  have S : CallFix p m c cX6_requireGoal 2 s args bq_WA RX6 := S
  have hx := S.1
  have hb := S.2.1
  have hl : lv_has ls 2 [(0, .ref a0), (1, .int x1)] := hl
  refine lv_aload_n hx hb dX6_requireGoal_0 rfl (lv_at hl 0 rfl) ?_
  refine lv_iload_n hx hb dX6_requireGoal_1 rfl (lv_at hl 1 rfl) ?_
  refine lv_if_lt (tgt := 16) hx hb dX6_requireGoal_2 (by decide) (fun hc => ?_) (fun hc => ?_)
  · replace h := bq_ifT hc h
    refine lv_iconst (v := 0) hx hb dX6_requireGoal_16 (by decide) ?_
    obtain ⟨v1, hv, h⟩ := bq_bind h
    obtain v2 | X3 := v1
    rotate_left
    · replace h := bq_elimR h
      cases h
    replace h := bq_elimL h
    refine bq_callV S hK hz mv_X6_34 (cr_X6_require hv) (kc_X6_require hv) dX6_requireGoal_17 [] (rest := []) rfl rfl rfl hl.1 (Nat.le_of_ble_eq_true rfl) ⟨Nat.le_of_ble_eq_true rfl, Nat.le_of_ble_eq_true rfl⟩ ⟨Nat.zero_le _, Nat.zero_le _⟩ hW (fun H locs hW => ?_)
    cases h
    exact bq_retv S hr hlocks hK hz dX6_requireGoal_20 hW
  · replace h := bq_ifF hc h
    refine lv_iload_n hx hb dX6_requireGoal_5 rfl (lv_at hl 1 rfl) ?_
    refine lv_sipush (v := 10000) hx hb dX6_requireGoal_6 (by decide) ?_
    refine lv_icmp_gt (tgt := 16) hx hb dX6_requireGoal_9 (by decide) (fun hc => ?_) (fun hc => ?_)
    · replace h := bq_ifT hc h
      refine lv_iconst (v := 0) hx hb dX6_requireGoal_16 (by decide) ?_
      obtain ⟨v4, hv, h⟩ := bq_bind h
      obtain v5 | X6 := v4
      rotate_left
      · replace h := bq_elimR h
        cases h
      replace h := bq_elimL h
      refine bq_callV S hK hz mv_X6_34 (cr_X6_require hv) (kc_X6_require hv) dX6_requireGoal_17 [] (rest := []) rfl rfl rfl hl.1 (Nat.le_of_ble_eq_true rfl) ⟨Nat.le_of_ble_eq_true rfl, Nat.le_of_ble_eq_true rfl⟩ ⟨Nat.zero_le _, Nat.zero_le _⟩ hW (fun H locs hW => ?_)
      cases h
      exact bq_retv S hr hlocks hK hz dX6_requireGoal_20 hW
    · replace h := bq_ifF hc h
      refine lv_iconst (v := 1) hx hb dX6_requireGoal_12 (by decide) ?_
      refine lv_goto (tgt := 17) hx hb dX6_requireGoal_13 (by decide) ?_
      obtain ⟨v7, hv, h⟩ := bq_bind h
      obtain v8 | X9 := v7
      rotate_left
      · replace h := bq_elimR h
        cases h
      replace h := bq_elimL h
      refine bq_callV S hK hz mv_X6_34 (cr_X6_require hv) (kc_X6_require hv) dX6_requireGoal_17 [] (rest := []) rfl rfl rfl hl.1 (Nat.le_of_ble_eq_true rfl) ⟨Nat.le_of_ble_eq_true rfl, Nat.le_of_ble_eq_true rfl⟩ ⟨Nat.zero_le _, Nat.zero_le _⟩ hW (fun H locs hW => ?_)
      cases h
      exact bq_retv S hr hlocks hK hz dX6_requireGoal_20 hW

theorem kc_X6_walkTo {E : bq_E} {a0 : Nat} {x1 : Int32} {x2 : Int32} {R : ((Nat ⊕ String) × bq_E)} (h : tw_X6_walkTo E a0 x1 x2 = some R) : bq_cls E a0 = 6 := (bq_guard h).1
set_option maxHeartbeats 4000000 in
set_option maxRecDepth 100000 in
theorem cr_X6_walkTo {l : Launch} {g : bq_G} {L : List Nat} {z : Nat} {E : bq_E} {a0 : Nat} {x1 : Int32} {x2 : Int32} {R : Nat} {E9 : bq_E} (h : tw_X6_walkTo E a0 x1 x2 = some (Sum.inl R, E9)) : bq_M l yX6_walkTo cX6_walkTo 3 (some (.object "BridgedCatalogs$Walk")) 5 124 [.ref a0, .int x1, .int x2] g L E z (some (.ref R)) E9 := by
  unfold tw_X6_walkTo at h
  obtain ⟨hcl, h⟩ := bq_guard h
  refine bq_enter (by decide) (Nat.le_of_ble_eq_true rfl) ?_
  intro p e s m args below meth c S hr hlocks hK hz hW ls hl
  have S : CallFix p m c cX6_walkTo 3 s args bq_WA RX6 := S
  have hx := S.1
  have hb := S.2.1
  have hl : lv_has ls 3 [(0, .ref a0), (1, .int x1), (2, .int x2)] := hl
  refine lv_aload_n hx hb dX6_walkTo_0 rfl (lv_at hl 0 rfl) ?_
  refine lv_iload_n hx hb dX6_walkTo_1 rfl (lv_at hl 1 rfl) ?_
  obtain ⟨v1, hv, h⟩ := bq_bind h
  obtain v2 | X3 := v1
  rotate_left
  · replace h := bq_elimR h
    cases h
  replace h := bq_elimL h
  refine bq_callV S hK hz mv_X6_30 (cr_X6_requireNode hv) (kc_X6_requireNode hv) dX6_walkTo_2 [] (rest := []) rfl rfl rfl hl.1 (Nat.le_of_ble_eq_true rfl) ⟨Nat.le_of_ble_eq_true rfl, Nat.le_of_ble_eq_true rfl⟩ ⟨Nat.zero_le _, Nat.zero_le _⟩ hW (fun H locs hW => ?_)
  refine lv_aload_n hx hb dX6_walkTo_5 rfl (lv_at hl 0 rfl) ?_
  refine lv_iload_n hx hb dX6_walkTo_6 rfl (lv_at hl 2 rfl) ?_
  obtain ⟨v4, hv, h⟩ := bq_bind h
  obtain v5 | X6 := v4
  rotate_left
  · replace h := bq_elimR h
    cases h
  replace h := bq_elimL h
  refine bq_callV S hK hz mv_X6_119 (cr_X6_requireGoal hv) (kc_X6_requireGoal hv) dX6_walkTo_7 [] (rest := []) rfl rfl rfl hl.1 (Nat.le_of_ble_eq_true rfl) ⟨Nat.le_of_ble_eq_true rfl, Nat.le_of_ble_eq_true rfl⟩ ⟨Nat.zero_le _, Nat.zero_le _⟩ hW (fun H locs hW => ?_)
  refine lv_aload_n hx hb dX6_walkTo_10 rfl (lv_at hl 0 rfl) ?_
  obtain ⟨v7, hv, h⟩ := bq_bind h
  refine bq_getr S hK fl_X6_19 dX6_walkTo_11 hv hW ?_
  refine lv_aload_n hx hb dX6_walkTo_14 rfl (lv_at hl 0 rfl) ?_
  obtain ⟨v8, hv, h⟩ := bq_bind h
  refine bq_getr S hK fl_X6_10 dX6_walkTo_15 hv hW ?_
  refine lv_iload_n hx hb dX6_walkTo_18 rfl (lv_at hl 1 rfl) ?_
  refine lv_iload_n hx hb dX6_walkTo_19 rfl (lv_at hl 2 rfl) ?_
  obtain ⟨E9, hv, h⟩ := bq_bind h
  refine bq_callV S hK hz mv_X6_139 (c_X5_bridged hv) (kc_X5_bridged hv) dX6_walkTo_20 [] (rest := []) rfl rfl rfl hl.1 (Nat.le_of_ble_eq_true rfl) ⟨Nat.le_of_ble_eq_true rfl, Nat.le_of_ble_eq_true rfl⟩ ⟨Nat.zero_le _, Nat.zero_le _⟩ hW (fun H locs hW => ?_)
  refine lv_aload_n hx hb dX6_walkTo_23 rfl (lv_at hl 0 rfl) ?_
  obtain ⟨v10, hv, h⟩ := bq_bind h
  refine bq_getr S hK fl_X6_19 dX6_walkTo_24 hv hW ?_
  cases h
  exact bq_reta S hr hlocks hK hz dX6_walkTo_27 hW

theorem kc_X6_search {E : bq_E} {a0 : Nat} {x1 : Int32} {x2 : Int32} {R : ((Int32 ⊕ String) × bq_E)} (h : tw_X6_search E a0 x1 x2 = some R) : bq_cls E a0 = 6 := (bq_guard h).1
set_option maxHeartbeats 4000000 in
set_option maxRecDepth 100000 in
theorem cr_X6_search {l : Launch} {g : bq_G} {L : List Nat} {z : Nat} {E : bq_E} {a0 : Nat} {x1 : Int32} {x2 : Int32} {R : Int32} {E9 : bq_E} (h : tw_X6_search E a0 x1 x2 = some (Sum.inl R, E9)) : bq_M l yX6_search cX6_search 4 (some .int) 6 148 [.ref a0, .int x1, .int x2] g L E z (some (.int R)) E9 := by
  unfold tw_X6_search at h
  obtain ⟨hcl, h⟩ := bq_guard h
  refine bq_enter (by decide) (Nat.le_of_ble_eq_true rfl) ?_
  intro p e s m args below meth c S hr hlocks hK hz hW ls hl
  have S : CallFix p m c cX6_search 4 s args bq_WA RX6 := S
  have hx := S.1
  have hb := S.2.1
  have hl : lv_has ls 4 [(0, .ref a0), (1, .int x1), (2, .int x2)] := hl
  refine lv_aload_n hx hb dX6_search_0 rfl (lv_at hl 0 rfl) ?_
  refine lv_iload_n hx hb dX6_search_1 rfl (lv_at hl 1 rfl) ?_
  refine lv_iload_n hx hb dX6_search_2 rfl (lv_at hl 2 rfl) ?_
  obtain ⟨v1, hv, h⟩ := bq_bind h
  rcases hq : v1.1 with v2 | X3
  all_goals rw [hq] at h
  all_goals replace hv := bq_pairE hq hv
  rotate_left
  · replace h := bq_elimR h
    cases h
  replace h := bq_elimL h
  refine bq_callV S hK hz mv_X6_103 (cr_X6_walkTo hv) (kc_X6_walkTo hv) dX6_search_3 [.ref v2] (rest := []) rfl rfl rfl hl.1 (Nat.le_of_ble_eq_true rfl) ⟨Nat.le_of_ble_eq_true rfl, Nat.le_of_ble_eq_true rfl⟩ ⟨Nat.zero_le _, Nat.zero_le _⟩ hW (fun H locs hW => ?_)
  refine lv_astore_n (lv' := [(3, .ref v2), (0, .ref a0), (1, .int x1), (2, .int x2)]) hx hb dX6_search_6 rfl hl (by decide) rfl (fun ls hl => ?_)
  refine lv_aload_n hx hb dX6_search_7 rfl (lv_at hl 1 rfl) ?_
  obtain ⟨v4, hv, h⟩ := bq_bind h
  refine bq_getr S hK fl_X6_26 dX6_search_8 hv hW ?_
  refine lv_aload_n hx hb dX6_search_11 rfl (lv_at hl 1 rfl) ?_
  obtain ⟨v5, hv, h⟩ := bq_bind h
  refine bq_getr S hK fl_X6_10 dX6_search_12 hv hW ?_
  obtain ⟨E6, hv, h⟩ := bq_bind h
  refine bq_callV S hK hz mv_X6_59 (c_X1_save hv) (kc_X1_save hv) dX6_search_15 [] (rest := []) rfl rfl rfl hl.1 (Nat.le_of_ble_eq_true rfl) ⟨Nat.le_of_ble_eq_true rfl, Nat.le_of_ble_eq_true rfl⟩ ⟨Nat.zero_le _, Nat.zero_le _⟩ hW (fun H locs hW => ?_)
  refine lv_aload_n hx hb dX6_search_18 rfl (lv_at hl 1 rfl) ?_
  obtain ⟨v7, hv, h⟩ := bq_bind h
  refine bq_getr S hK fl_X6_10 dX6_search_19 hv hW ?_
  refine lv_dup hx hb dX6_search_22 rfl ?_
  obtain ⟨v8, hv, h⟩ := bq_bind h
  refine bq_geti S hK fl_X6_107 dX6_search_23 hv hW ?_
  refine lv_iconst (v := 1) hx hb dX6_search_26 (by decide) ?_
  refine lv_iadd hx hb dX6_search_27 ?_
  obtain ⟨E9, hv, h⟩ := bq_bind h
  refine bq_puti S hK fp_X6_107 dX6_search_28 hv hW (fun H locs hW => ?_)
  refine lv_aload_n hx hb dX6_search_31 rfl (lv_at hl 1 rfl) ?_
  obtain ⟨v10, hv, h⟩ := bq_bind h
  refine bq_getr S hK fl_X6_10 dX6_search_32 hv hW ?_
  refine lv_dup hx hb dX6_search_35 rfl ?_
  obtain ⟨v11, hv, h⟩ := bq_bind h
  refine bq_geti S hK fl_X6_110 dX6_search_36 hv hW ?_
  refine lv_aload_n hx hb dX6_search_39 rfl (lv_at hl 0 rfl) ?_
  obtain ⟨v12, hv, h⟩ := bq_bind h
  refine bq_geti S hK fl_X6_113 dX6_search_40 hv hW ?_
  refine lv_iadd hx hb dX6_search_43 ?_
  obtain ⟨E13, hv, h⟩ := bq_bind h
  refine bq_puti S hK fp_X6_110 dX6_search_44 hv hW (fun H locs hW => ?_)
  refine lv_aload_n hx hb dX6_search_47 rfl (lv_at hl 0 rfl) ?_
  obtain ⟨v14, hv, h⟩ := bq_bind h
  refine bq_geti S hK fl_X6_116 dX6_search_48 hv hW ?_
  cases h
  exact bq_reti S hr hlocks hK hz dX6_search_51 hW

theorem kc_X6_probes {E : bq_E} {a0 : Nat} {x1 : Int32} {x2 : Int32} {R : ((Int32 ⊕ String) × bq_E)} (h : tw_X6_probes E a0 x1 x2 = some R) : bq_cls E a0 = 6 := (bq_guard h).1
set_option maxHeartbeats 4000000 in
set_option maxRecDepth 100000 in
theorem cr_X6_probes {l : Launch} {g : bq_G} {L : List Nat} {z : Nat} {E : bq_E} {a0 : Nat} {x1 : Int32} {x2 : Int32} {R : Int32} {E9 : bq_E} (h : tw_X6_probes E a0 x1 x2 = some (Sum.inl R, E9)) : bq_M l yX6_probes cX6_probes 3 (some .int) 6 146 [.ref a0, .int x1, .int x2] g L E z (some (.int R)) E9 := by
  unfold tw_X6_probes at h
  obtain ⟨hcl, h⟩ := bq_guard h
  refine bq_enter (by decide) (Nat.le_of_ble_eq_true rfl) ?_
  intro p e s m args below meth c S hr hlocks hK hz hW ls hl
  have S : CallFix p m c cX6_probes 3 s args bq_WA RX6 := S
  have hx := S.1
  have hb := S.2.1
  have hl : lv_has ls 3 [(0, .ref a0), (1, .int x1), (2, .int x2)] := hl
  refine lv_aload_n hx hb dX6_probes_0 rfl (lv_at hl 0 rfl) ?_
  refine lv_iload_n hx hb dX6_probes_1 rfl (lv_at hl 1 rfl) ?_
  refine lv_iload_n hx hb dX6_probes_2 rfl (lv_at hl 2 rfl) ?_
  obtain ⟨v1, hv, h⟩ := bq_bind h
  rcases hq : v1.1 with v2 | X3
  all_goals rw [hq] at h
  all_goals replace hv := bq_pairE hq hv
  rotate_left
  · replace h := bq_elimR h
    cases h
  replace h := bq_elimL h
  refine bq_callV S hK hz mv_X6_103 (cr_X6_walkTo hv) (kc_X6_walkTo hv) dX6_probes_3 [.ref v2] (rest := []) rfl rfl rfl hl.1 (Nat.le_of_ble_eq_true rfl) ⟨Nat.le_of_ble_eq_true rfl, Nat.le_of_ble_eq_true rfl⟩ ⟨Nat.zero_le _, Nat.zero_le _⟩ hW (fun H locs hW => ?_)
  obtain ⟨v4, hv, h⟩ := bq_bind h
  refine bq_geti S hK fl_X6_113 dX6_probes_6 hv hW ?_
  cases h
  exact bq_reti S hr hlocks hK hz dX6_probes_9 hW

theorem kc_X6_plainProbes {E : bq_E} {a0 : Nat} {x1 : Int32} {x2 : Int32} {R : ((Int32 ⊕ String) × bq_E)} (h : tw_X6_plainProbes E a0 x1 x2 = some R) : bq_cls E a0 = 6 := (bq_guard h).1
set_option maxHeartbeats 4000000 in
set_option maxRecDepth 100000 in
theorem cr_X6_plainProbes {l : Launch} {g : bq_G} {L : List Nat} {z : Nat} {E : bq_E} {a0 : Nat} {x1 : Int32} {x2 : Int32} {R : Int32} {E9 : bq_E} (h : tw_X6_plainProbes E a0 x1 x2 = some (Sum.inl R, E9)) : bq_M l yX6_plainProbes cX6_plainProbes 3 (some .int) 4 99 [.ref a0, .int x1, .int x2] g L E z (some (.int R)) E9 := by
  unfold tw_X6_plainProbes at h
  obtain ⟨hcl, h⟩ := bq_guard h
  refine bq_enter (by decide) (Nat.le_of_ble_eq_true rfl) ?_
  intro p e s m args below meth c S hr hlocks hK hz hW ls hl
  have S : CallFix p m c cX6_plainProbes 3 s args bq_WA RX6 := S
  have hx := S.1
  have hb := S.2.1
  have hl : lv_has ls 3 [(0, .ref a0), (1, .int x1), (2, .int x2)] := hl
  refine lv_aload_n hx hb dX6_plainProbes_0 rfl (lv_at hl 0 rfl) ?_
  refine lv_iload_n hx hb dX6_plainProbes_1 rfl (lv_at hl 1 rfl) ?_
  obtain ⟨v1, hv, h⟩ := bq_bind h
  obtain v2 | X3 := v1
  rotate_left
  · replace h := bq_elimR h
    cases h
  replace h := bq_elimL h
  refine bq_callV S hK hz mv_X6_30 (cr_X6_requireNode hv) (kc_X6_requireNode hv) dX6_plainProbes_2 [] (rest := []) rfl rfl rfl hl.1 (Nat.le_of_ble_eq_true rfl) ⟨Nat.le_of_ble_eq_true rfl, Nat.le_of_ble_eq_true rfl⟩ ⟨Nat.zero_le _, Nat.zero_le _⟩ hW (fun H locs hW => ?_)
  refine lv_aload_n hx hb dX6_plainProbes_5 rfl (lv_at hl 0 rfl) ?_
  refine lv_iload_n hx hb dX6_plainProbes_6 rfl (lv_at hl 2 rfl) ?_
  obtain ⟨v4, hv, h⟩ := bq_bind h
  obtain v5 | X6 := v4
  rotate_left
  · replace h := bq_elimR h
    cases h
  replace h := bq_elimL h
  refine bq_callV S hK hz mv_X6_119 (cr_X6_requireGoal hv) (kc_X6_requireGoal hv) dX6_plainProbes_7 [] (rest := []) rfl rfl rfl hl.1 (Nat.le_of_ble_eq_true rfl) ⟨Nat.le_of_ble_eq_true rfl, Nat.le_of_ble_eq_true rfl⟩ ⟨Nat.zero_le _, Nat.zero_le _⟩ hW (fun H locs hW => ?_)
  refine lv_aload_n hx hb dX6_plainProbes_10 rfl (lv_at hl 0 rfl) ?_
  obtain ⟨v7, hv, h⟩ := bq_bind h
  refine bq_getr S hK fl_X6_19 dX6_plainProbes_11 hv hW ?_
  refine lv_aload_n hx hb dX6_plainProbes_14 rfl (lv_at hl 0 rfl) ?_
  obtain ⟨v8, hv, h⟩ := bq_bind h
  refine bq_getr S hK fl_X6_10 dX6_plainProbes_15 hv hW ?_
  refine lv_iload_n hx hb dX6_plainProbes_18 rfl (lv_at hl 1 rfl) ?_
  refine lv_iload_n hx hb dX6_plainProbes_19 rfl (lv_at hl 2 rfl) ?_
  obtain ⟨E9, hv, h⟩ := bq_bind h
  refine bq_callV S hK hz mv_X6_122 (c_X5_plain hv) (kc_X5_plain hv) dX6_plainProbes_20 [] (rest := []) rfl rfl rfl hl.1 (Nat.le_of_ble_eq_true rfl) ⟨Nat.le_of_ble_eq_true rfl, Nat.le_of_ble_eq_true rfl⟩ ⟨Nat.zero_le _, Nat.zero_le _⟩ hW (fun H locs hW => ?_)
  refine lv_aload_n hx hb dX6_plainProbes_23 rfl (lv_at hl 0 rfl) ?_
  obtain ⟨v10, hv, h⟩ := bq_bind h
  refine bq_getr S hK fl_X6_19 dX6_plainProbes_24 hv hW ?_
  obtain ⟨v11, hv, h⟩ := bq_bind h
  refine bq_geti S hK fl_X6_113 dX6_plainProbes_27 hv hW ?_
  cases h
  exact bq_reti S hr hlocks hK hz dX6_plainProbes_30 hW

theorem kc_X6_place {E : bq_E} {a0 : Nat} {x1 : Int32} {x2 : Int32} {R : ((Int32 ⊕ String) × bq_E)} (h : tw_X6_place E a0 x1 x2 = some R) : bq_cls E a0 = 6 := (bq_guard h).1
set_option maxHeartbeats 4000000 in
set_option maxRecDepth 100000 in
theorem cr_X6_place {l : Launch} {g : bq_G} {L : List Nat} {z : Nat} {E : bq_E} {a0 : Nat} {x1 : Int32} {x2 : Int32} {R : Int32} {E9 : bq_E} (h : tw_X6_place E a0 x1 x2 = some (Sum.inl R, E9)) : bq_M l yX6_place cX6_place 3 (some .int) 6 146 [.ref a0, .int x1, .int x2] g L E z (some (.int R)) E9 := by
  unfold tw_X6_place at h
  obtain ⟨hcl, h⟩ := bq_guard h
  refine bq_enter (by decide) (Nat.le_of_ble_eq_true rfl) ?_
  intro p e s m args below meth c S hr hlocks hK hz hW ls hl
  have S : CallFix p m c cX6_place 3 s args bq_WA RX6 := S
  have hx := S.1
  have hb := S.2.1
  have hl : lv_has ls 3 [(0, .ref a0), (1, .int x1), (2, .int x2)] := hl
  refine lv_aload_n hx hb dX6_place_0 rfl (lv_at hl 0 rfl) ?_
  refine lv_iload_n hx hb dX6_place_1 rfl (lv_at hl 1 rfl) ?_
  refine lv_iload_n hx hb dX6_place_2 rfl (lv_at hl 2 rfl) ?_
  obtain ⟨v1, hv, h⟩ := bq_bind h
  rcases hq : v1.1 with v2 | X3
  all_goals rw [hq] at h
  all_goals replace hv := bq_pairE hq hv
  rotate_left
  · replace h := bq_elimR h
    cases h
  replace h := bq_elimL h
  refine bq_callV S hK hz mv_X6_103 (cr_X6_walkTo hv) (kc_X6_walkTo hv) dX6_place_3 [.ref v2] (rest := []) rfl rfl rfl hl.1 (Nat.le_of_ble_eq_true rfl) ⟨Nat.le_of_ble_eq_true rfl, Nat.le_of_ble_eq_true rfl⟩ ⟨Nat.zero_le _, Nat.zero_le _⟩ hW (fun H locs hW => ?_)
  obtain ⟨v4, hv, h⟩ := bq_bind h
  refine bq_geti S hK fl_X6_126 dX6_place_6 hv hW ?_
  cases h
  exact bq_reti S hr hlocks hK hz dX6_place_9 hW

theorem kc_X6_leastOnPath {E : bq_E} {a0 : Nat} {x1 : Int32} {x2 : Int32} {R : ((Int32 ⊕ String) × bq_E)} (h : tw_X6_leastOnPath E a0 x1 x2 = some R) : bq_cls E a0 = 6 := (bq_guard h).1
set_option maxHeartbeats 4000000 in
set_option maxRecDepth 100000 in
theorem cr_X6_leastOnPath {l : Launch} {g : bq_G} {L : List Nat} {z : Nat} {E : bq_E} {a0 : Nat} {x1 : Int32} {x2 : Int32} {R : Int32} {E9 : bq_E} (h : tw_X6_leastOnPath E a0 x1 x2 = some (Sum.inl R, E9)) : bq_M l yX6_leastOnPath cX6_leastOnPath 3 (some .int) 6 146 [.ref a0, .int x1, .int x2] g L E z (some (.int R)) E9 := by
  unfold tw_X6_leastOnPath at h
  obtain ⟨hcl, h⟩ := bq_guard h
  refine bq_enter (by decide) (Nat.le_of_ble_eq_true rfl) ?_
  intro p e s m args below meth c S hr hlocks hK hz hW ls hl
  have S : CallFix p m c cX6_leastOnPath 3 s args bq_WA RX6 := S
  have hx := S.1
  have hb := S.2.1
  have hl : lv_has ls 3 [(0, .ref a0), (1, .int x1), (2, .int x2)] := hl
  refine lv_aload_n hx hb dX6_leastOnPath_0 rfl (lv_at hl 0 rfl) ?_
  refine lv_iload_n hx hb dX6_leastOnPath_1 rfl (lv_at hl 1 rfl) ?_
  refine lv_iload_n hx hb dX6_leastOnPath_2 rfl (lv_at hl 2 rfl) ?_
  obtain ⟨v1, hv, h⟩ := bq_bind h
  rcases hq : v1.1 with v2 | X3
  all_goals rw [hq] at h
  all_goals replace hv := bq_pairE hq hv
  rotate_left
  · replace h := bq_elimR h
    cases h
  replace h := bq_elimL h
  refine bq_callV S hK hz mv_X6_103 (cr_X6_walkTo hv) (kc_X6_walkTo hv) dX6_leastOnPath_3 [.ref v2] (rest := []) rfl rfl rfl hl.1 (Nat.le_of_ble_eq_true rfl) ⟨Nat.le_of_ble_eq_true rfl, Nat.le_of_ble_eq_true rfl⟩ ⟨Nat.zero_le _, Nat.zero_le _⟩ hW (fun H locs hW => ?_)
  obtain ⟨v4, hv, h⟩ := bq_bind h
  refine bq_geti S hK fl_X6_129 dX6_leastOnPath_6 hv hW ?_
  cases h
  exact bq_reti S hr hlocks hK hz dX6_leastOnPath_9 hW

theorem kc_X6_nearestOnPath {E : bq_E} {a0 : Nat} {x1 : Int32} {x2 : Int32} {R : ((Int32 ⊕ String) × bq_E)} (h : tw_X6_nearestOnPath E a0 x1 x2 = some R) : bq_cls E a0 = 6 := (bq_guard h).1
set_option maxHeartbeats 4000000 in
set_option maxRecDepth 100000 in
theorem cr_X6_nearestOnPath {l : Launch} {g : bq_G} {L : List Nat} {z : Nat} {E : bq_E} {a0 : Nat} {x1 : Int32} {x2 : Int32} {R : Int32} {E9 : bq_E} (h : tw_X6_nearestOnPath E a0 x1 x2 = some (Sum.inl R, E9)) : bq_M l yX6_nearestOnPath cX6_nearestOnPath 3 (some .int) 6 146 [.ref a0, .int x1, .int x2] g L E z (some (.int R)) E9 := by
  unfold tw_X6_nearestOnPath at h
  obtain ⟨hcl, h⟩ := bq_guard h
  refine bq_enter (by decide) (Nat.le_of_ble_eq_true rfl) ?_
  intro p e s m args below meth c S hr hlocks hK hz hW ls hl
  have S : CallFix p m c cX6_nearestOnPath 3 s args bq_WA RX6 := S
  have hx := S.1
  have hb := S.2.1
  have hl : lv_has ls 3 [(0, .ref a0), (1, .int x1), (2, .int x2)] := hl
  refine lv_aload_n hx hb dX6_nearestOnPath_0 rfl (lv_at hl 0 rfl) ?_
  refine lv_iload_n hx hb dX6_nearestOnPath_1 rfl (lv_at hl 1 rfl) ?_
  refine lv_iload_n hx hb dX6_nearestOnPath_2 rfl (lv_at hl 2 rfl) ?_
  obtain ⟨v1, hv, h⟩ := bq_bind h
  rcases hq : v1.1 with v2 | X3
  all_goals rw [hq] at h
  all_goals replace hv := bq_pairE hq hv
  rotate_left
  · replace h := bq_elimR h
    cases h
  replace h := bq_elimL h
  refine bq_callV S hK hz mv_X6_103 (cr_X6_walkTo hv) (kc_X6_walkTo hv) dX6_nearestOnPath_3 [.ref v2] (rest := []) rfl rfl rfl hl.1 (Nat.le_of_ble_eq_true rfl) ⟨Nat.le_of_ble_eq_true rfl, Nat.le_of_ble_eq_true rfl⟩ ⟨Nat.zero_le _, Nat.zero_le _⟩ hW (fun H locs hW => ?_)
  obtain ⟨v4, hv, h⟩ := bq_bind h
  refine bq_geti S hK fl_X6_132 dX6_nearestOnPath_6 hv hW ?_
  cases h
  exact bq_reti S hr hlocks hK hz dX6_nearestOnPath_9 hW

theorem kc_X6_worst {E : bq_E} {a0 : Nat} {x1 : Int32} {R : ((Int32 ⊕ String) × bq_E)} (h : tw_X6_worst E a0 x1 = some R) : bq_cls E a0 = 6 := (bq_guard h).1
set_option maxHeartbeats 4000000 in
set_option maxRecDepth 100000 in
theorem cr_X6_worst {l : Launch} {g : bq_G} {L : List Nat} {z : Nat} {E : bq_E} {a0 : Nat} {x1 : Int32} {R : Int32} {E9 : bq_E} (h : tw_X6_worst E a0 x1 = some (Sum.inl R, E9)) : bq_M l yX6_worst cX6_worst 2 (some .int) 5 129 [.ref a0, .int x1] g L E z (some (.int R)) E9 := by
  unfold tw_X6_worst at h
  obtain ⟨hcl, h⟩ := bq_guard h
  refine bq_enter (by decide) (Nat.le_of_ble_eq_true rfl) ?_
  intro p e s m args below meth c S hr hlocks hK hz hW ls hl
  have S : CallFix p m c cX6_worst 2 s args bq_WA RX6 := S
  have hx := S.1
  have hb := S.2.1
  have hl : lv_has ls 2 [(0, .ref a0), (1, .int x1)] := hl
  refine lv_aload_n hx hb dX6_worst_0 rfl (lv_at hl 0 rfl) ?_
  refine lv_iload_n hx hb dX6_worst_1 rfl (lv_at hl 1 rfl) ?_
  obtain ⟨v1, hv, h⟩ := bq_bind h
  obtain v2 | X3 := v1
  rotate_left
  · replace h := bq_elimR h
    cases h
  replace h := bq_elimL h
  refine bq_callV S hK hz mv_X6_30 (cr_X6_requireNode hv) (kc_X6_requireNode hv) dX6_worst_2 [] (rest := []) rfl rfl rfl hl.1 (Nat.le_of_ble_eq_true rfl) ⟨Nat.le_of_ble_eq_true rfl, Nat.le_of_ble_eq_true rfl⟩ ⟨Nat.zero_le _, Nat.zero_le _⟩ hW (fun H locs hW => ?_)
  refine lv_aload_n hx hb dX6_worst_5 rfl (lv_at hl 0 rfl) ?_
  obtain ⟨v4, hv, h⟩ := bq_bind h
  refine bq_getr S hK fl_X6_19 dX6_worst_6 hv hW ?_
  refine lv_aload_n hx hb dX6_worst_9 rfl (lv_at hl 0 rfl) ?_
  obtain ⟨v5, hv, h⟩ := bq_bind h
  refine bq_getr S hK fl_X6_10 dX6_worst_10 hv hW ?_
  refine lv_iload_n hx hb dX6_worst_13 rfl (lv_at hl 1 rfl) ?_
  obtain ⟨v6, hv, h⟩ := bq_bind h
  refine bq_callV S hK hz mv_X6_135 (c_X5_mostProbes hv) (kc_X5_mostProbes hv) dX6_worst_14 [.int v6.1] (rest := []) rfl rfl rfl hl.1 (Nat.le_of_ble_eq_true rfl) ⟨Nat.le_of_ble_eq_true rfl, Nat.le_of_ble_eq_true rfl⟩ ⟨Nat.zero_le _, Nat.zero_le _⟩ hW (fun H locs hW => ?_)
  cases h
  exact bq_reti S hr hlocks hK hz dX6_worst_17 hW

theorem kc_X6_nodes {E : bq_E} {a0 : Nat} {R : Int32} (h : tw_X6_nodes E a0 = some R) : bq_cls E a0 = 6 := (bq_guard h).1
set_option maxHeartbeats 4000000 in
set_option maxRecDepth 100000 in
theorem c_X6_nodes {l : Launch} {g : bq_G} {L : List Nat} {z : Nat} {E : bq_E} {a0 : Nat} {R : Int32} (h : tw_X6_nodes E a0 = some R) : bq_M l yX6_nodes cX6_nodes 1 (some .int) 0 0 [.ref a0] g L E z (some (.int R)) E := by
  unfold tw_X6_nodes at h
  obtain ⟨hcl, h⟩ := bq_guard h
  refine bq_enter (by decide) (Nat.le_of_ble_eq_true rfl) ?_
  intro p e s m args below meth c S hr hlocks hK hz hW ls hl
  have S : CallFix p m c cX6_nodes 1 s args bq_WA RX6 := S
  have hx := S.1
  have hb := S.2.1
  have hl : lv_has ls 1 [(0, .ref a0)] := hl
  refine lv_aload_n hx hb dX6_nodes_0 rfl (lv_at hl 0 rfl) ?_
  obtain ⟨v1, hv, h⟩ := bq_bind h
  refine bq_getr S hK fl_X6_10 dX6_nodes_1 hv hW ?_
  obtain ⟨v2, hv, h⟩ := bq_bind h
  refine bq_geti S hK fl_X6_38 dX6_nodes_4 hv hW ?_
  cases h
  exact bq_reti S hr hlocks hK hz dX6_nodes_7 hW

theorem kc_X6_node {E : bq_E} {a0 : Nat} {x1 : Int32} {x2 : Int32} {R : (Int32 ⊕ String)} (h : tw_X6_node E a0 x1 x2 = some R) : bq_cls E a0 = 6 := (bq_guard h).1
set_option maxHeartbeats 4000000 in
set_option maxRecDepth 100000 in
theorem cr_X6_node {l : Launch} {g : bq_G} {L : List Nat} {z : Nat} {E : bq_E} {a0 : Nat} {x1 : Int32} {x2 : Int32} {R : Int32} (h : tw_X6_node E a0 x1 x2 = some (Sum.inl R)) : bq_M l yX6_node cX6_node 4 (some .int) 2 40 [.ref a0, .int x1, .int x2] g L E z (some (.int R)) E := by
  unfold tw_X6_node at h
  obtain ⟨hcl, h⟩ := bq_guard h
  refine bq_enter (by decide) (Nat.le_of_ble_eq_true rfl) ?_
  intro p e s m args below meth c S hr hlocks hK hz hW ls hl
  have S : CallFix p m c cX6_node 4 s args bq_WA RX6 := S
  have hx := S.1
  have hb := S.2.1
  have hl : lv_has ls 4 [(0, .ref a0), (1, .int x1), (2, .int x2)] := hl
  refine lv_aload_n hx hb dX6_node_0 rfl (lv_at hl 0 rfl) ?_
  refine lv_iload_n hx hb dX6_node_1 rfl (lv_at hl 1 rfl) ?_
  obtain ⟨v1, hv, h⟩ := bq_bind h
  obtain v2 | X3 := v1
  rotate_left
  · replace h := bq_elimR h
    cases h
  replace h := bq_elimL h
  refine bq_callV S hK hz mv_X6_30 (cr_X6_requireNode hv) (kc_X6_requireNode hv) dX6_node_2 [] (rest := []) rfl rfl rfl hl.1 (Nat.le_of_ble_eq_true rfl) ⟨Nat.le_of_ble_eq_true rfl, Nat.le_of_ble_eq_true rfl⟩ ⟨Nat.zero_le _, Nat.zero_le _⟩ hW (fun H locs hW => ?_)
  refine lv_aload_n hx hb dX6_node_5 rfl (lv_at hl 0 rfl) ?_
  obtain ⟨v4, hv, h⟩ := bq_bind h
  refine bq_getr S hK fl_X6_10 dX6_node_6 hv hW ?_
  refine lv_iload_n hx hb dX6_node_9 rfl (lv_at hl 1 rfl) ?_
  obtain ⟨v5, hv, h⟩ := bq_bind h
  refine bq_callV S hK hz mv_X6_42 (c_X4_at hv) (kc_X4_at hv) dX6_node_10 [.ref v5] (rest := []) rfl rfl rfl hl.1 (Nat.le_of_ble_eq_true rfl) ⟨Nat.le_of_ble_eq_true rfl, Nat.le_of_ble_eq_true rfl⟩ ⟨Nat.zero_le _, Nat.zero_le _⟩ hW (fun H locs hW => ?_)
  refine lv_astore_n (lv' := [(3, .ref v5), (0, .ref a0), (1, .int x1), (2, .int x2)]) hx hb dX6_node_13 rfl hl (by decide) rfl (fun ls hl => ?_)
  refine lv_iload_n hx hb dX6_node_14 rfl (lv_at hl 3 rfl) ?_
  by_cases hc0 : x2 = 0
  · replace h := bq_ifT hc0 h
    refine lv_tableIn (tgt := 64) (off := 49) hx hb dX6_node_15 (by rw [hc0]; decide) (by rw [hc0]; decide) (by rw [hc0]; rfl) (by decide) ?_
    refine lv_aload_n hx hb dX6_node_64 rfl (lv_at hl 0 rfl) ?_
    obtain ⟨v6, hv, h⟩ := bq_bind h
    refine bq_geti S hK fl_X6_142 dX6_node_65 hv hW ?_
    cases h
    exact bq_reti S hr hlocks hK hz dX6_node_68 hW
  replace h := bq_ifF hc0 h
  by_cases hc1 : x2 = 1
  · replace h := bq_ifT hc1 h
    refine lv_tableIn (tgt := 69) (off := 54) hx hb dX6_node_15 (by rw [hc1]; decide) (by rw [hc1]; decide) (by rw [hc1]; rfl) (by decide) ?_
    refine lv_aload_n hx hb dX6_node_69 rfl (lv_at hl 0 rfl) ?_
    obtain ⟨v7, hv, h⟩ := bq_bind h
    refine bq_geti S hK fl_X6_145 dX6_node_70 hv hW ?_
    cases h
    exact bq_reti S hr hlocks hK hz dX6_node_73 hW
  replace h := bq_ifF hc1 h
  by_cases hc2 : x2 = 2
  · replace h := bq_ifT hc2 h
    refine lv_tableIn (tgt := 74) (off := 59) hx hb dX6_node_15 (by rw [hc2]; decide) (by rw [hc2]; decide) (by rw [hc2]; rfl) (by decide) ?_
    refine lv_aload_n hx hb dX6_node_74 rfl (lv_at hl 0 rfl) ?_
    obtain ⟨v8, hv, h⟩ := bq_bind h
    refine bq_geti S hK fl_X6_148 dX6_node_75 hv hW ?_
    cases h
    exact bq_reti S hr hlocks hK hz dX6_node_78 hW
  replace h := bq_ifF hc2 h
  by_cases hc3 : x2 = 3
  · replace h := bq_ifT hc3 h
    refine lv_tableIn (tgt := 79) (off := 64) hx hb dX6_node_15 (by rw [hc3]; decide) (by rw [hc3]; decide) (by rw [hc3]; rfl) (by decide) ?_
    refine lv_aload_n hx hb dX6_node_79 rfl (lv_at hl 0 rfl) ?_
    obtain ⟨v9, hv, h⟩ := bq_bind h
    refine bq_geti S hK fl_X6_151 dX6_node_80 hv hW ?_
    cases h
    exact bq_reti S hr hlocks hK hz dX6_node_83 hW
  replace h := bq_ifF hc3 h
  by_cases hc4 : x2 = 4
  · replace h := bq_ifT hc4 h
    refine lv_tableIn (tgt := 84) (off := 69) hx hb dX6_node_15 (by rw [hc4]; decide) (by rw [hc4]; decide) (by rw [hc4]; rfl) (by decide) ?_
    refine lv_aload_n hx hb dX6_node_84 rfl (lv_at hl 0 rfl) ?_
    obtain ⟨v10, hv, h⟩ := bq_bind h
    refine bq_callV S hK hz mv_X6_154 (c_X0_keyCount hv) (kc_X0_keyCount hv) dX6_node_85 [.int v10] (rest := []) rfl rfl rfl hl.1 (Nat.le_of_ble_eq_true rfl) ⟨Nat.le_of_ble_eq_true rfl, Nat.le_of_ble_eq_true rfl⟩ ⟨Nat.zero_le _, Nat.zero_le _⟩ hW (fun H locs hW => ?_)
    cases h
    exact bq_reti S hr hlocks hK hz dX6_node_88 hW
  replace h := bq_ifF hc4 h
  by_cases hc5 : x2 = 5
  · replace h := bq_ifT hc5 h
    refine lv_tableIn (tgt := 89) (off := 74) hx hb dX6_node_15 (by rw [hc5]; decide) (by rw [hc5]; decide) (by rw [hc5]; rfl) (by decide) ?_
    refine lv_aload_n hx hb dX6_node_89 rfl (lv_at hl 0 rfl) ?_
    obtain ⟨v11, hv, h⟩ := bq_bind h
    refine bq_getr S hK fl_X6_157 dX6_node_90 hv hW ?_
    obtain ⟨v12, hv, h⟩ := bq_bind h
    refine bq_callV S hK hz mv_X6_161 (c_X3_size hv) (kc_X3_size hv) dX6_node_93 [.int v12] (rest := []) rfl rfl rfl hl.1 (Nat.le_of_ble_eq_true rfl) ⟨Nat.le_of_ble_eq_true rfl, Nat.le_of_ble_eq_true rfl⟩ ⟨Nat.zero_le _, Nat.zero_le _⟩ hW (fun H locs hW => ?_)
    cases h
    exact bq_reti S hr hlocks hK hz dX6_node_96 hW
  replace h := bq_ifF hc5 h
  by_cases hc6 : x2 = 6
  · replace h := bq_ifT hc6 h
    refine lv_tableIn (tgt := 97) (off := 82) hx hb dX6_node_15 (by rw [hc6]; decide) (by rw [hc6]; decide) (by rw [hc6]; rfl) (by decide) ?_
    refine lv_aload_n hx hb dX6_node_97 rfl (lv_at hl 0 rfl) ?_
    obtain ⟨v13, hv, h⟩ := bq_bind h
    refine bq_geti S hK fl_X6_165 dX6_node_98 hv hW ?_
    cases h
    exact bq_reti S hr hlocks hK hz dX6_node_101 hW
  replace h := bq_ifF hc6 h
  by_cases hc7 : x2 = 7
  · replace h := bq_ifT hc7 h
    refine lv_tableIn (tgt := 102) (off := 87) hx hb dX6_node_15 (by rw [hc7]; decide) (by rw [hc7]; decide) (by rw [hc7]; rfl) (by decide) ?_
    refine lv_aload_n hx hb dX6_node_102 rfl (lv_at hl 0 rfl) ?_
    obtain ⟨v14, hv, h⟩ := bq_bind h
    refine bq_getr S hK fl_X6_168 dX6_node_103 hv hW ?_
    obtain ⟨v15, hv, h⟩ := bq_bind h
    refine bq_callV S hK hz mv_X6_161 (c_X3_size hv) (kc_X3_size hv) dX6_node_106 [.int v15] (rest := []) rfl rfl rfl hl.1 (Nat.le_of_ble_eq_true rfl) ⟨Nat.le_of_ble_eq_true rfl, Nat.le_of_ble_eq_true rfl⟩ ⟨Nat.zero_le _, Nat.zero_le _⟩ hW (fun H locs hW => ?_)
    cases h
    exact bq_reti S hr hlocks hK hz dX6_node_109 hW
  replace h := bq_ifF hc7 h
  by_cases hc8 : x2 = 8
  · replace h := bq_ifT hc8 h
    refine lv_tableIn (tgt := 110) (off := 95) hx hb dX6_node_15 (by rw [hc8]; decide) (by rw [hc8]; decide) (by rw [hc8]; rfl) (by decide) ?_
    refine lv_aload_n hx hb dX6_node_110 rfl (lv_at hl 0 rfl) ?_
    obtain ⟨v16, hv, h⟩ := bq_bind h
    refine bq_getr S hK fl_X6_171 dX6_node_111 hv hW ?_
    obtain ⟨v17, hv, h⟩ := bq_bind h
    refine bq_callV S hK hz mv_X6_175 (c_X2_size hv) (kc_X2_size hv) dX6_node_114 [.int v17] (rest := []) rfl rfl rfl hl.1 (Nat.le_of_ble_eq_true rfl) ⟨Nat.le_of_ble_eq_true rfl, Nat.le_of_ble_eq_true rfl⟩ ⟨Nat.zero_le _, Nat.zero_le _⟩ hW (fun H locs hW => ?_)
    cases h
    exact bq_reti S hr hlocks hK hz dX6_node_117 hW
  replace h := bq_ifF hc8 h
  have q0 : Int32.toInt x2 ≠ 0 := fun q => hc0 (Int32.toInt_inj.mp (q.trans (by decide)))
  have q1 : Int32.toInt x2 ≠ 1 := fun q => hc1 (Int32.toInt_inj.mp (q.trans (by decide)))
  have q2 : Int32.toInt x2 ≠ 2 := fun q => hc2 (Int32.toInt_inj.mp (q.trans (by decide)))
  have q3 : Int32.toInt x2 ≠ 3 := fun q => hc3 (Int32.toInt_inj.mp (q.trans (by decide)))
  have q4 : Int32.toInt x2 ≠ 4 := fun q => hc4 (Int32.toInt_inj.mp (q.trans (by decide)))
  have q5 : Int32.toInt x2 ≠ 5 := fun q => hc5 (Int32.toInt_inj.mp (q.trans (by decide)))
  have q6 : Int32.toInt x2 ≠ 6 := fun q => hc6 (Int32.toInt_inj.mp (q.trans (by decide)))
  have q7 : Int32.toInt x2 ≠ 7 := fun q => hc7 (Int32.toInt_inj.mp (q.trans (by decide)))
  have q8 : Int32.toInt x2 ≠ 8 := fun q => hc8 (Int32.toInt_inj.mp (q.trans (by decide)))
  refine lv_tableOut (tgt := 118) hx hb dX6_node_15 (by omega) (by decide) ?_
  cases h

theorem kc_X6_key {E : bq_E} {a0 : Nat} {x1 : Int32} {x2 : Int32} {R : (Int32 ⊕ String)} (h : tw_X6_key E a0 x1 x2 = some R) : bq_cls E a0 = 6 := (bq_guard h).1
set_option maxHeartbeats 4000000 in
set_option maxRecDepth 100000 in
theorem cr_X6_key {l : Launch} {g : bq_G} {L : List Nat} {z : Nat} {E : bq_E} {a0 : Nat} {x1 : Int32} {x2 : Int32} {R : Int32} (h : tw_X6_key E a0 x1 x2 = some (Sum.inl R)) : bq_M l yX6_key cX6_key 3 (some .int) 3 72 [.ref a0, .int x1, .int x2] g L E z (some (.int R)) E := by
  unfold tw_X6_key at h
  obtain ⟨hcl, h⟩ := bq_guard h
  refine bq_enter (by decide) (Nat.le_of_ble_eq_true rfl) ?_
  intro p e s m args below meth c S hr hlocks hK hz hW ls hl
  have S : CallFix p m c cX6_key 3 s args bq_WA RX6 := S
  have hx := S.1
  have hb := S.2.1
  have hl : lv_has ls 3 [(0, .ref a0), (1, .int x1), (2, .int x2)] := hl
  refine lv_aload_n hx hb dX6_key_0 rfl (lv_at hl 0 rfl) ?_
  refine lv_iload_n hx hb dX6_key_1 rfl (lv_at hl 1 rfl) ?_
  obtain ⟨v1, hv, h⟩ := bq_bind h
  obtain v2 | X3 := v1
  rotate_left
  · replace h := bq_elimR h
    cases h
  replace h := bq_elimL h
  refine bq_callV S hK hz mv_X6_30 (cr_X6_requireNode hv) (kc_X6_requireNode hv) dX6_key_2 [] (rest := []) rfl rfl rfl hl.1 (Nat.le_of_ble_eq_true rfl) ⟨Nat.le_of_ble_eq_true rfl, Nat.le_of_ble_eq_true rfl⟩ ⟨Nat.zero_le _, Nat.zero_le _⟩ hW (fun H locs hW => ?_)
  refine lv_aload_n hx hb dX6_key_5 rfl (lv_at hl 0 rfl) ?_
  refine lv_iload_n hx hb dX6_key_6 rfl (lv_at hl 2 rfl) ?_
  obtain ⟨k15, ek15, h⟩ := bq_letK h
  have hjk15 : ∀ (b4 : Int32) (H1 : Heap) (locs1 : List Loc) (ls1 : Array Slot), k15 b4 = some (Sum.inl R) → bq_H g L E z s.heap H1 locs1 → lv_has ls1 3 [(0, .ref a0), (1, .int x1), (2, .int x2)] → W p l e { frames := 3, cells := 0, slots := 0, locals := 72 } s m args below meth c H1 locs1 0 0 (MQ below (bq_Q g L E z (some (.int R))) args s 0 0 (bq_A z)) (F0 m 15 ls1 [.int b4, .ref a0]) := by
    intro b4 H locs ls h hW hl
    replace h := bq_kap1 ek15 h
    obtain ⟨v5, hv, h⟩ := bq_bind h
    obtain v6 | X7 := v5
    rotate_left
    · replace h := bq_elimR h
      cases h
    replace h := bq_elimL h
    refine bq_callV S hK hz mv_X6_34 (cr_X6_require hv) (kc_X6_require hv) dX6_key_15 [] (rest := []) rfl rfl rfl hl.1 (Nat.le_of_ble_eq_true rfl) ⟨Nat.le_of_ble_eq_true rfl, Nat.le_of_ble_eq_true rfl⟩ ⟨Nat.zero_le _, Nat.zero_le _⟩ hW (fun H locs hW => ?_)
    refine lv_aload_n hx hb dX6_key_18 rfl (lv_at hl 0 rfl) ?_
    obtain ⟨v8, hv, h⟩ := bq_bind h
    refine bq_getr S hK fl_X6_10 dX6_key_19 hv hW ?_
    refine lv_iload_n hx hb dX6_key_22 rfl (lv_at hl 1 rfl) ?_
    obtain ⟨v9, hv, h⟩ := bq_bind h
    refine bq_callV S hK hz mv_X6_42 (c_X4_at hv) (kc_X4_at hv) dX6_key_23 [.ref v9] (rest := []) rfl rfl rfl hl.1 (Nat.le_of_ble_eq_true rfl) ⟨Nat.le_of_ble_eq_true rfl, Nat.le_of_ble_eq_true rfl⟩ ⟨Nat.zero_le _, Nat.zero_le _⟩ hW (fun H locs hW => ?_)
    refine lv_iload_n hx hb dX6_key_26 rfl (lv_at hl 2 rfl) ?_
    obtain ⟨v10, hv, h⟩ := bq_bind h
    refine bq_callV S hK hz mv_X6_183 (c_X0_keyInOrder hv) (kc_X0_keyInOrder hv) dX6_key_27 [.int v10] (rest := []) rfl rfl rfl hl.1 (Nat.le_of_ble_eq_true rfl) ⟨Nat.le_of_ble_eq_true rfl, Nat.le_of_ble_eq_true rfl⟩ ⟨Nat.zero_le _, Nat.zero_le _⟩ hW (fun H locs hW => ?_)
    cases h
    exact bq_reti S hr hlocks hK hz dX6_key_30 hW
  clear ek15
  refine lv_if_lt (tgt := 14) hx hb dX6_key_7 (by decide) (fun hc => ?_) (fun hc => ?_)
  · replace h := bq_ifT hc h
    refine lv_iconst (v := 0) hx hb dX6_key_14 (by decide) ?_
    exact hjk15 (0 : Int32) _ _ _ h hW (lv_sub hl [0, 1, 2] rfl)
  · replace h := bq_ifF hc h
    refine lv_iconst (v := 1) hx hb dX6_key_10 (by decide) ?_
    refine lv_goto (tgt := 15) hx hb dX6_key_11 (by decide) ?_
    exact hjk15 (1 : Int32) _ _ _ h hW (lv_sub hl [0, 1, 2] rfl)

theorem kc_X6_baseKey {E : bq_E} {a0 : Nat} {x1 : Int32} {x2 : Int32} {R : (Int32 ⊕ String)} (h : tw_X6_baseKey E a0 x1 x2 = some R) : bq_cls E a0 = 6 := (bq_guard h).1
set_option maxHeartbeats 4000000 in
set_option maxRecDepth 100000 in
theorem cr_X6_baseKey {l : Launch} {g : bq_G} {L : List Nat} {z : Nat} {E : bq_E} {a0 : Nat} {x1 : Int32} {x2 : Int32} {R : Int32} (h : tw_X6_baseKey E a0 x1 x2 = some (Sum.inl R)) : bq_M l yX6_baseKey cX6_baseKey 5 (some .int) 2 43 [.ref a0, .int x1, .int x2] g L E z (some (.int R)) E := by
  unfold tw_X6_baseKey at h
  obtain ⟨hcl, h⟩ := bq_guard h
  refine bq_enter (by decide) (Nat.le_of_ble_eq_true rfl) ?_
  intro p e s m args below meth c S hr hlocks hK hz hW ls hl
  have S : CallFix p m c cX6_baseKey 5 s args bq_WA RX6 := S
  have hx := S.1
  have hb := S.2.1
  have hl : lv_has ls 5 [(0, .ref a0), (1, .int x1), (2, .int x2)] := hl
  refine lv_aload_n hx hb dX6_baseKey_0 rfl (lv_at hl 0 rfl) ?_
  refine lv_iload_n hx hb dX6_baseKey_1 rfl (lv_at hl 1 rfl) ?_
  obtain ⟨v1, hv, h⟩ := bq_bind h
  obtain v2 | X3 := v1
  rotate_left
  · replace h := bq_elimR h
    cases h
  replace h := bq_elimL h
  refine bq_callV S hK hz mv_X6_30 (cr_X6_requireNode hv) (kc_X6_requireNode hv) dX6_baseKey_2 [] (rest := []) rfl rfl rfl hl.1 (Nat.le_of_ble_eq_true rfl) ⟨Nat.le_of_ble_eq_true rfl, Nat.le_of_ble_eq_true rfl⟩ ⟨Nat.zero_le _, Nat.zero_le _⟩ hW (fun H locs hW => ?_)
  refine lv_aload_n hx hb dX6_baseKey_5 rfl (lv_at hl 0 rfl) ?_
  refine lv_iload_n hx hb dX6_baseKey_6 rfl (lv_at hl 2 rfl) ?_
  obtain ⟨k15, ek15, h⟩ := bq_letK h
  have hjk15 : ∀ (b4 : Int32) (H1 : Heap) (locs1 : List Loc) (ls1 : Array Slot), k15 b4 = some (Sum.inl R) → bq_H g L E z s.heap H1 locs1 → lv_has ls1 5 [(0, .ref a0), (1, .int x1), (2, .int x2)] → W p l e { frames := 2, cells := 0, slots := 0, locals := 43 } s m args below meth c H1 locs1 0 0 (MQ below (bq_Q g L E z (some (.int R))) args s 0 0 (bq_A z)) (F0 m 15 ls1 [.int b4, .ref a0]) := by
    intro b4 H locs ls h hW hl
    replace h := bq_kap1 ek15 h
    obtain ⟨v5, hv, h⟩ := bq_bind h
    obtain v6 | X7 := v5
    rotate_left
    · replace h := bq_elimR h
      cases h
    replace h := bq_elimL h
    refine bq_callV S hK hz mv_X6_34 (cr_X6_require hv) (kc_X6_require hv) dX6_baseKey_15 [] (rest := []) rfl rfl rfl hl.1 (Nat.le_of_ble_eq_true rfl) ⟨Nat.le_of_ble_eq_true rfl, Nat.le_of_ble_eq_true rfl⟩ ⟨Nat.zero_le _, Nat.zero_le _⟩ hW (fun H locs hW => ?_)
    refine lv_aload_n hx hb dX6_baseKey_18 rfl (lv_at hl 0 rfl) ?_
    obtain ⟨v8, hv, h⟩ := bq_bind h
    refine bq_getr S hK fl_X6_10 dX6_baseKey_19 hv hW ?_
    refine lv_iload_n hx hb dX6_baseKey_22 rfl (lv_at hl 1 rfl) ?_
    obtain ⟨v9, hv, h⟩ := bq_bind h
    refine bq_callV S hK hz mv_X6_42 (c_X4_at hv) (kc_X4_at hv) dX6_baseKey_23 [.ref v9] (rest := []) rfl rfl rfl hl.1 (Nat.le_of_ble_eq_true rfl) ⟨Nat.le_of_ble_eq_true rfl, Nat.le_of_ble_eq_true rfl⟩ ⟨Nat.zero_le _, Nat.zero_le _⟩ hW (fun H locs hW => ?_)
    refine lv_astore_n (lv' := [(3, .ref v9), (0, .ref a0), (1, .int x1), (2, .int x2)]) hx hb dX6_baseKey_26 rfl hl (by decide) rfl (fun ls hl => ?_)
    refine lv_aload_n hx hb dX6_baseKey_27 rfl (lv_at hl 0 rfl) ?_
    obtain ⟨v10, hv, h⟩ := bq_bind h
    refine bq_getr S hK fl_X6_157 dX6_baseKey_28 hv hW ?_
    refine lv_iload_n hx hb dX6_baseKey_31 rfl (lv_at hl 3 rfl) ?_
    refine lv_iconst (v := (-1)) hx hb dX6_baseKey_32 (by decide) ?_
    obtain ⟨v11, hv, h⟩ := bq_bind h
    refine bq_callV S hK hz mv_X6_186 (c_X3_at hv) (kc_X3_at hv) dX6_baseKey_33 [.int v11] (rest := []) rfl rfl rfl hl.1 (Nat.le_of_ble_eq_true rfl) ⟨Nat.le_of_ble_eq_true rfl, Nat.le_of_ble_eq_true rfl⟩ ⟨Nat.zero_le _, Nat.zero_le _⟩ hW (fun H locs hW => ?_)
    refine lv_istore (lv' := [(4, .int v11), (3, .ref v9), (0, .ref a0), (1, .int x1), (2, .int x2)]) hx hb dX6_baseKey_36 hl (by decide) rfl (fun ls hl => ?_)
    refine lv_aload_n hx hb dX6_baseKey_38 rfl (lv_at hl 1 rfl) ?_
    refine lv_iload_n hx hb dX6_baseKey_39 rfl (lv_at hl 4 rfl) ?_
    obtain ⟨v12, hv, h⟩ := bq_bind h
    refine bq_callV S hK hz mv_X6_188 (c_X0_isMarked hv) (kc_X0_isMarked hv) dX6_baseKey_40 [.int (bq_b v12)] (rest := []) rfl rfl rfl hl.1 (Nat.le_of_ble_eq_true rfl) ⟨Nat.le_of_ble_eq_true rfl, Nat.le_of_ble_eq_true rfl⟩ ⟨Nat.zero_le _, Nat.zero_le _⟩ hW (fun H locs hW => ?_)
    refine lv_if_eq (tgt := 55) hx hb dX6_baseKey_43 (by decide) (fun hc => ?_) (fun hc => ?_)
    · replace h := bq_ifT hc h
      refine lv_iload hx hb dX6_baseKey_55 (lv_at hl 0 rfl) ?_
      cases h
      exact bq_reti S hr hlocks hK hz dX6_baseKey_57 hW
    · replace h := bq_ifF hc h
      refine lv_iload hx hb dX6_baseKey_46 (lv_at hl 0 rfl) ?_
      refine lv_sipush (v := 10000) hx hb dX6_baseKey_48 (by decide) ?_
      refine lv_iadd hx hb dX6_baseKey_51 ?_
      refine lv_goto (tgt := 57) hx hb dX6_baseKey_52 (by decide) ?_
      cases h
      exact bq_reti S hr hlocks hK hz dX6_baseKey_57 hW
  clear ek15
  refine lv_if_lt (tgt := 14) hx hb dX6_baseKey_7 (by decide) (fun hc => ?_) (fun hc => ?_)
  · replace h := bq_ifT hc h
    refine lv_iconst (v := 0) hx hb dX6_baseKey_14 (by decide) ?_
    exact hjk15 (0 : Int32) _ _ _ h hW (lv_sub hl [0, 1, 2] rfl)
  · replace h := bq_ifF hc h
    refine lv_iconst (v := 1) hx hb dX6_baseKey_10 (by decide) ?_
    refine lv_goto (tgt := 15) hx hb dX6_baseKey_11 (by decide) ?_
    exact hjk15 (1 : Int32) _ _ _ h hW (lv_sub hl [0, 1, 2] rfl)

theorem kc_X6_bufferKey {E : bq_E} {a0 : Nat} {x1 : Int32} {x2 : Int32} {R : (Int32 ⊕ String)} (h : tw_X6_bufferKey E a0 x1 x2 = some R) : bq_cls E a0 = 6 := (bq_guard h).1
set_option maxHeartbeats 4000000 in
set_option maxRecDepth 100000 in
theorem cr_X6_bufferKey {l : Launch} {g : bq_G} {L : List Nat} {z : Nat} {E : bq_E} {a0 : Nat} {x1 : Int32} {x2 : Int32} {R : Int32} (h : tw_X6_bufferKey E a0 x1 x2 = some (Sum.inl R)) : bq_M l yX6_bufferKey cX6_bufferKey 3 (some .int) 1 22 [.ref a0, .int x1, .int x2] g L E z (some (.int R)) E := by
  unfold tw_X6_bufferKey at h
  obtain ⟨hcl, h⟩ := bq_guard h
  refine bq_enter (by decide) (Nat.le_of_ble_eq_true rfl) ?_
  intro p e s m args below meth c S hr hlocks hK hz hW ls hl
  have S : CallFix p m c cX6_bufferKey 3 s args bq_WA RX6 := S
  have hx := S.1
  have hb := S.2.1
  have hl : lv_has ls 3 [(0, .ref a0), (1, .int x1), (2, .int x2)] := hl
  refine lv_aload_n hx hb dX6_bufferKey_0 rfl (lv_at hl 0 rfl) ?_
  refine lv_iload_n hx hb dX6_bufferKey_1 rfl (lv_at hl 1 rfl) ?_
  obtain ⟨v1, hv, h⟩ := bq_bind h
  obtain v2 | X3 := v1
  rotate_left
  · replace h := bq_elimR h
    cases h
  replace h := bq_elimL h
  refine bq_callV S hK hz mv_X6_30 (cr_X6_requireNode hv) (kc_X6_requireNode hv) dX6_bufferKey_2 [] (rest := []) rfl rfl rfl hl.1 (Nat.le_of_ble_eq_true rfl) ⟨Nat.le_of_ble_eq_true rfl, Nat.le_of_ble_eq_true rfl⟩ ⟨Nat.zero_le _, Nat.zero_le _⟩ hW (fun H locs hW => ?_)
  refine lv_aload_n hx hb dX6_bufferKey_5 rfl (lv_at hl 0 rfl) ?_
  refine lv_iload_n hx hb dX6_bufferKey_6 rfl (lv_at hl 2 rfl) ?_
  obtain ⟨k15, ek15, h⟩ := bq_letK h
  have hjk15 : ∀ (b4 : Int32) (H1 : Heap) (locs1 : List Loc) (ls1 : Array Slot), k15 b4 = some (Sum.inl R) → bq_H g L E z s.heap H1 locs1 → lv_has ls1 3 [(0, .ref a0), (1, .int x1), (2, .int x2)] → W p l e { frames := 1, cells := 0, slots := 0, locals := 22 } s m args below meth c H1 locs1 0 0 (MQ below (bq_Q g L E z (some (.int R))) args s 0 0 (bq_A z)) (F0 m 15 ls1 [.int b4, .ref a0]) := by
    intro b4 H locs ls h hW hl
    replace h := bq_kap1 ek15 h
    obtain ⟨v5, hv, h⟩ := bq_bind h
    obtain v6 | X7 := v5
    rotate_left
    · replace h := bq_elimR h
      cases h
    replace h := bq_elimL h
    refine bq_callV S hK hz mv_X6_34 (cr_X6_require hv) (kc_X6_require hv) dX6_bufferKey_15 [] (rest := []) rfl rfl rfl hl.1 (Nat.le_of_ble_eq_true rfl) ⟨Nat.le_of_ble_eq_true rfl, Nat.le_of_ble_eq_true rfl⟩ ⟨Nat.zero_le _, Nat.zero_le _⟩ hW (fun H locs hW => ?_)
    refine lv_aload_n hx hb dX6_bufferKey_18 rfl (lv_at hl 0 rfl) ?_
    obtain ⟨v8, hv, h⟩ := bq_bind h
    refine bq_getr S hK fl_X6_10 dX6_bufferKey_19 hv hW ?_
    refine lv_iload_n hx hb dX6_bufferKey_22 rfl (lv_at hl 1 rfl) ?_
    obtain ⟨v9, hv, h⟩ := bq_bind h
    refine bq_callV S hK hz mv_X6_42 (c_X4_at hv) (kc_X4_at hv) dX6_bufferKey_23 [.ref v9] (rest := []) rfl rfl rfl hl.1 (Nat.le_of_ble_eq_true rfl) ⟨Nat.le_of_ble_eq_true rfl, Nat.le_of_ble_eq_true rfl⟩ ⟨Nat.zero_le _, Nat.zero_le _⟩ hW (fun H locs hW => ?_)
    obtain ⟨v10, hv, h⟩ := bq_bind h
    refine bq_getr S hK fl_X6_168 dX6_bufferKey_26 hv hW ?_
    refine lv_iload_n hx hb dX6_bufferKey_29 rfl (lv_at hl 2 rfl) ?_
    refine lv_iconst (v := (-1)) hx hb dX6_bufferKey_30 (by decide) ?_
    obtain ⟨v11, hv, h⟩ := bq_bind h
    refine bq_callV S hK hz mv_X6_186 (c_X3_at hv) (kc_X3_at hv) dX6_bufferKey_31 [.int v11] (rest := []) rfl rfl rfl hl.1 (Nat.le_of_ble_eq_true rfl) ⟨Nat.le_of_ble_eq_true rfl, Nat.le_of_ble_eq_true rfl⟩ ⟨Nat.zero_le _, Nat.zero_le _⟩ hW (fun H locs hW => ?_)
    cases h
    exact bq_reti S hr hlocks hK hz dX6_bufferKey_34 hW
  clear ek15
  refine lv_if_lt (tgt := 14) hx hb dX6_bufferKey_7 (by decide) (fun hc => ?_) (fun hc => ?_)
  · replace h := bq_ifT hc h
    refine lv_iconst (v := 0) hx hb dX6_bufferKey_14 (by decide) ?_
    exact hjk15 (0 : Int32) _ _ _ h hW (lv_sub hl [0, 1, 2] rfl)
  · replace h := bq_ifF hc h
    refine lv_iconst (v := 1) hx hb dX6_bufferKey_10 (by decide) ?_
    refine lv_goto (tgt := 15) hx hb dX6_bufferKey_11 (by decide) ?_
    exact hjk15 (1 : Int32) _ _ _ h hW (lv_sub hl [0, 1, 2] rfl)

theorem kc_X6_entry {E : bq_E} {a0 : Nat} {x1 : Int32} {x2 : Int32} {x3 : Int32} {R : (Int32 ⊕ String)} (h : tw_X6_entry E a0 x1 x2 x3 = some R) : bq_cls E a0 = 6 := (bq_guard h).1
set_option maxHeartbeats 4000000 in
set_option maxRecDepth 100000 in
theorem cr_X6_entry {l : Launch} {g : bq_G} {L : List Nat} {z : Nat} {E : bq_E} {a0 : Nat} {x1 : Int32} {x2 : Int32} {x3 : Int32} {R : Int32} (h : tw_X6_entry E a0 x1 x2 x3 = some (Sum.inl R)) : bq_M l yX6_entry cX6_entry 5 (some .int) 1 22 [.ref a0, .int x1, .int x2, .int x3] g L E z (some (.int R)) E := by
  unfold tw_X6_entry at h
  obtain ⟨hcl, h⟩ := bq_guard h
  refine bq_enter (by decide) (Nat.le_of_ble_eq_true rfl) ?_
  intro p e s m args below meth c S hr hlocks hK hz hW ls hl
  have S : CallFix p m c cX6_entry 5 s args bq_WA RX6 := S
  have hx := S.1
  have hb := S.2.1
  have hl : lv_has ls 5 [(0, .ref a0), (1, .int x1), (2, .int x2), (3, .int x3)] := hl
  refine lv_aload_n hx hb dX6_entry_0 rfl (lv_at hl 0 rfl) ?_
  refine lv_iload_n hx hb dX6_entry_1 rfl (lv_at hl 1 rfl) ?_
  obtain ⟨v1, hv, h⟩ := bq_bind h
  obtain v2 | X3 := v1
  rotate_left
  · replace h := bq_elimR h
    cases h
  replace h := bq_elimL h
  refine bq_callV S hK hz mv_X6_30 (cr_X6_requireNode hv) (kc_X6_requireNode hv) dX6_entry_2 [] (rest := []) rfl rfl rfl hl.1 (Nat.le_of_ble_eq_true rfl) ⟨Nat.le_of_ble_eq_true rfl, Nat.le_of_ble_eq_true rfl⟩ ⟨Nat.zero_le _, Nat.zero_le _⟩ hW (fun H locs hW => ?_)
  refine lv_aload_n hx hb dX6_entry_5 rfl (lv_at hl 0 rfl) ?_
  refine lv_iload_n hx hb dX6_entry_6 rfl (lv_at hl 2 rfl) ?_
  obtain ⟨k15, ek15, h⟩ := bq_letK h
  have hjk15 : ∀ (b4 : Int32) (H1 : Heap) (locs1 : List Loc) (ls1 : Array Slot), k15 b4 = some (Sum.inl R) → bq_H g L E z s.heap H1 locs1 → lv_has ls1 5 [(0, .ref a0), (1, .int x1), (2, .int x2), (3, .int x3)] → W p l e { frames := 1, cells := 0, slots := 0, locals := 22 } s m args below meth c H1 locs1 0 0 (MQ below (bq_Q g L E z (some (.int R))) args s 0 0 (bq_A z)) (F0 m 15 ls1 [.int b4, .ref a0]) := by
    intro b4 H locs ls h hW hl
    replace h := bq_kap1 ek15 h
    obtain ⟨v5, hv, h⟩ := bq_bind h
    obtain v6 | X7 := v5
    rotate_left
    · replace h := bq_elimR h
      cases h
    replace h := bq_elimL h
    refine bq_callV S hK hz mv_X6_34 (cr_X6_require hv) (kc_X6_require hv) dX6_entry_15 [] (rest := []) rfl rfl rfl hl.1 (Nat.le_of_ble_eq_true rfl) ⟨Nat.le_of_ble_eq_true rfl, Nat.le_of_ble_eq_true rfl⟩ ⟨Nat.zero_le _, Nat.zero_le _⟩ hW (fun H locs hW => ?_)
    refine lv_aload_n hx hb dX6_entry_18 rfl (lv_at hl 0 rfl) ?_
    refine lv_iload_n hx hb dX6_entry_19 rfl (lv_at hl 3 rfl) ?_
    obtain ⟨k33, ek33, h⟩ := bq_letK h
    have hjk33 : ∀ (b8 : Int32) (H1 : Heap) (locs1 : List Loc) (ls1 : Array Slot), k33 b8 = some (Sum.inl R) → bq_H g L E z s.heap H1 locs1 → lv_has ls1 5 [(0, .ref a0), (1, .int x1), (2, .int x2), (3, .int x3)] → W p l e { frames := 1, cells := 0, slots := 0, locals := 22 } s m args below meth c H1 locs1 0 0 (MQ below (bq_Q g L E z (some (.int R))) args s 0 0 (bq_A z)) (F0 m 33 ls1 [.int b8, .ref a0]) := by
      intro b8 H locs ls h hW hl
      replace h := bq_kap1 ek33 h
      obtain ⟨v9, hv, h⟩ := bq_bind h
      obtain v10 | X11 := v9
      rotate_left
      · replace h := bq_elimR h
        cases h
      replace h := bq_elimL h
      refine bq_callV S hK hz mv_X6_34 (cr_X6_require hv) (kc_X6_require hv) dX6_entry_33 [] (rest := []) rfl rfl rfl hl.1 (Nat.le_of_ble_eq_true rfl) ⟨Nat.le_of_ble_eq_true rfl, Nat.le_of_ble_eq_true rfl⟩ ⟨Nat.zero_le _, Nat.zero_le _⟩ hW (fun H locs hW => ?_)
      refine lv_aload_n hx hb dX6_entry_36 rfl (lv_at hl 0 rfl) ?_
      obtain ⟨v12, hv, h⟩ := bq_bind h
      refine bq_getr S hK fl_X6_10 dX6_entry_37 hv hW ?_
      refine lv_iload_n hx hb dX6_entry_40 rfl (lv_at hl 1 rfl) ?_
      obtain ⟨v13, hv, h⟩ := bq_bind h
      refine bq_callV S hK hz mv_X6_42 (c_X4_at hv) (kc_X4_at hv) dX6_entry_41 [.ref v13] (rest := []) rfl rfl rfl hl.1 (Nat.le_of_ble_eq_true rfl) ⟨Nat.le_of_ble_eq_true rfl, Nat.le_of_ble_eq_true rfl⟩ ⟨Nat.zero_le _, Nat.zero_le _⟩ hW (fun H locs hW => ?_)
      obtain ⟨v14, hv, h⟩ := bq_bind h
      refine bq_getr S hK fl_X6_171 dX6_entry_44 hv hW ?_
      refine lv_astore (lv' := [(4, .ref v14), (0, .ref a0), (1, .int x1), (2, .int x2), (3, .int x3)]) hx hb dX6_entry_47 hl (by decide) rfl (fun ls hl => ?_)
      refine lv_iload_n hx hb dX6_entry_49 rfl (lv_at hl 4 rfl) ?_
      refine lv_if_ne (tgt := 66) hx hb dX6_entry_50 (by decide) (fun hc => ?_) (fun hc => ?_)
      · replace h := bq_ifF hc h
        refine lv_aload hx hb dX6_entry_66 (lv_at hl 0 rfl) ?_
        obtain ⟨v15, hv, h⟩ := bq_bind h
        refine bq_getr S hK fl_X6_194 dX6_entry_68 hv hW ?_
        refine lv_iload_n hx hb dX6_entry_71 rfl (lv_at hl 3 rfl) ?_
        refine lv_iconst (v := (-1)) hx hb dX6_entry_72 (by decide) ?_
        obtain ⟨v16, hv, h⟩ := bq_bind h
        refine bq_callV S hK hz mv_X6_186 (c_X3_at hv) (kc_X3_at hv) dX6_entry_73 [.int v16] (rest := []) rfl rfl rfl hl.1 (Nat.le_of_ble_eq_true rfl) ⟨Nat.le_of_ble_eq_true rfl, Nat.le_of_ble_eq_true rfl⟩ ⟨Nat.zero_le _, Nat.zero_le _⟩ hW (fun H locs hW => ?_)
        cases h
        exact bq_reti S hr hlocks hK hz dX6_entry_76 hW
      · replace h := bq_ifT hc h
        refine lv_aload hx hb dX6_entry_53 (lv_at hl 0 rfl) ?_
        obtain ⟨v17, hv, h⟩ := bq_bind h
        refine bq_getr S hK fl_X6_191 dX6_entry_55 hv hW ?_
        refine lv_iload_n hx hb dX6_entry_58 rfl (lv_at hl 3 rfl) ?_
        refine lv_iconst (v := (-1)) hx hb dX6_entry_59 (by decide) ?_
        obtain ⟨v18, hv, h⟩ := bq_bind h
        refine bq_callV S hK hz mv_X6_186 (c_X3_at hv) (kc_X3_at hv) dX6_entry_60 [.int v18] (rest := []) rfl rfl rfl hl.1 (Nat.le_of_ble_eq_true rfl) ⟨Nat.le_of_ble_eq_true rfl, Nat.le_of_ble_eq_true rfl⟩ ⟨Nat.zero_le _, Nat.zero_le _⟩ hW (fun H locs hW => ?_)
        refine lv_goto (tgt := 76) hx hb dX6_entry_63 (by decide) ?_
        cases h
        exact bq_reti S hr hlocks hK hz dX6_entry_76 hW
    clear ek33
    obtain ⟨k28, ek28, h⟩ := bq_letK h
    have hjk28 : ∀ (u0 : Unit) (H1 : Heap) (locs1 : List Loc) (ls1 : Array Slot), k28 u0 = some (Sum.inl R) → bq_H g L E z s.heap H1 locs1 → lv_has ls1 5 [(0, .ref a0), (1, .int x1), (2, .int x2), (3, .int x3)] → W p l e { frames := 1, cells := 0, slots := 0, locals := 22 } s m args below meth c H1 locs1 0 0 (MQ below (bq_Q g L E z (some (.int R))) args s 0 0 (bq_A z)) (F0 m 28 ls1 [.ref a0]) := by
      intro u0 H locs ls h hW hl
      replace h := bq_kap1 ek28 h
      refine lv_iconst (v := 1) hx hb dX6_entry_28 (by decide) ?_
      refine lv_goto (tgt := 33) hx hb dX6_entry_29 (by decide) ?_
      exact hjk33 (1 : Int32) _ _ _ h hW (lv_sub hl [0, 1, 2, 3] rfl)
    clear ek28
    refine lv_if_eq (tgt := 28) hx hb dX6_entry_20 (by decide) (fun hc => ?_) (fun hc => ?_)
    · replace h := bq_ifT hc h
      exact hjk28 () _ _ _ h hW (lv_sub hl [0, 1, 2, 3] rfl)
    · replace h := bq_ifF hc h
      refine lv_iload_n hx hb dX6_entry_23 rfl (lv_at hl 3 rfl) ?_
      refine lv_iconst (v := 1) hx hb dX6_entry_24 (by decide) ?_
      refine lv_icmp_ne (tgt := 32) hx hb dX6_entry_25 (by decide) (fun hc => ?_) (fun hc => ?_)
      · replace h := bq_ifF hc h
        refine lv_iconst (v := 0) hx hb dX6_entry_32 (by decide) ?_
        exact hjk33 (0 : Int32) _ _ _ h hW (lv_sub hl [0, 1, 2, 3] rfl)
      · replace h := bq_ifT hc h
        exact hjk28 () _ _ _ h hW (lv_sub hl [0, 1, 2, 3] rfl)
  clear ek15
  refine lv_if_lt (tgt := 14) hx hb dX6_entry_7 (by decide) (fun hc => ?_) (fun hc => ?_)
  · replace h := bq_ifT hc h
    refine lv_iconst (v := 0) hx hb dX6_entry_14 (by decide) ?_
    exact hjk15 (0 : Int32) _ _ _ h hW (lv_sub hl [0, 1, 2, 3] rfl)
  · replace h := bq_ifF hc h
    refine lv_iconst (v := 1) hx hb dX6_entry_10 (by decide) ?_
    refine lv_goto (tgt := 15) hx hb dX6_entry_11 (by decide) ?_
    exact hjk15 (1 : Int32) _ _ _ h hW (lv_sub hl [0, 1, 2, 3] rfl)

theorem kc_X6_bridge {E : bq_E} {a0 : Nat} {x1 : Int32} {x2 : Int32} {x3 : Int32} {R : (Int32 ⊕ String)} (h : tw_X6_bridge E a0 x1 x2 x3 = some R) : bq_cls E a0 = 6 := (bq_guard h).1
set_option maxHeartbeats 4000000 in
set_option maxRecDepth 100000 in
theorem cr_X6_bridge {l : Launch} {g : bq_G} {L : List Nat} {z : Nat} {E : bq_E} {a0 : Nat} {x1 : Int32} {x2 : Int32} {x3 : Int32} {R : Int32} (h : tw_X6_bridge E a0 x1 x2 x3 = some (Sum.inl R)) : bq_M l yX6_bridge cX6_bridge 5 (some .int) 2 45 [.ref a0, .int x1, .int x2, .int x3] g L E z (some (.int R)) E := by
  unfold tw_X6_bridge at h
  obtain ⟨hcl, h⟩ := bq_guard h
  refine bq_enter (by decide) (Nat.le_of_ble_eq_true rfl) ?_
  intro p e s m args below meth c S hr hlocks hK hz hW ls hl
  have S : CallFix p m c cX6_bridge 5 s args bq_WA RX6 := S
  have hx := S.1
  have hb := S.2.1
  have hl : lv_has ls 5 [(0, .ref a0), (1, .int x1), (2, .int x2), (3, .int x3)] := hl
  refine lv_aload_n hx hb dX6_bridge_0 rfl (lv_at hl 0 rfl) ?_
  refine lv_iload_n hx hb dX6_bridge_1 rfl (lv_at hl 1 rfl) ?_
  obtain ⟨v1, hv, h⟩ := bq_bind h
  obtain v2 | X3 := v1
  rotate_left
  · replace h := bq_elimR h
    cases h
  replace h := bq_elimL h
  refine bq_callV S hK hz mv_X6_30 (cr_X6_requireNode hv) (kc_X6_requireNode hv) dX6_bridge_2 [] (rest := []) rfl rfl rfl hl.1 (Nat.le_of_ble_eq_true rfl) ⟨Nat.le_of_ble_eq_true rfl, Nat.le_of_ble_eq_true rfl⟩ ⟨Nat.zero_le _, Nat.zero_le _⟩ hW (fun H locs hW => ?_)
  refine lv_aload_n hx hb dX6_bridge_5 rfl (lv_at hl 0 rfl) ?_
  obtain ⟨v4, hv, h⟩ := bq_bind h
  refine bq_getr S hK fl_X6_10 dX6_bridge_6 hv hW ?_
  refine lv_iload_n hx hb dX6_bridge_9 rfl (lv_at hl 1 rfl) ?_
  obtain ⟨v5, hv, h⟩ := bq_bind h
  refine bq_callV S hK hz mv_X6_42 (c_X4_at hv) (kc_X4_at hv) dX6_bridge_10 [.ref v5] (rest := []) rfl rfl rfl hl.1 (Nat.le_of_ble_eq_true rfl) ⟨Nat.le_of_ble_eq_true rfl, Nat.le_of_ble_eq_true rfl⟩ ⟨Nat.zero_le _, Nat.zero_le _⟩ hW (fun H locs hW => ?_)
  obtain ⟨v6, hv, h⟩ := bq_bind h
  refine bq_getr S hK fl_X6_171 dX6_bridge_13 hv hW ?_
  refine lv_astore (lv' := [(4, .ref v6), (0, .ref a0), (1, .int x1), (2, .int x2), (3, .int x3)]) hx hb dX6_bridge_16 hl (by decide) rfl (fun ls hl => ?_)
  refine lv_aload_n hx hb dX6_bridge_18 rfl (lv_at hl 1 rfl) ?_
  refine lv_iload_n hx hb dX6_bridge_19 rfl (lv_at hl 3 rfl) ?_
  obtain ⟨k37, ek37, h⟩ := bq_letK h
  have hjk37 : ∀ (b7 : Int32) (H1 : Heap) (locs1 : List Loc) (ls1 : Array Slot), k37 b7 = some (Sum.inl R) → bq_H g L E z s.heap H1 locs1 → lv_has ls1 5 [(0, .ref a0), (2, .int x2), (3, .int x3), (4, .ref v6)] → W p l e { frames := 2, cells := 0, slots := 0, locals := 45 } s m args below meth c H1 locs1 0 0 (MQ below (bq_Q g L E z (some (.int R))) args s 0 0 (bq_A z)) (F0 m 37 ls1 [.int b7, .ref a0]) := by
    intro b7 H locs ls h hW hl
    replace h := bq_kap1 ek37 h
    obtain ⟨v8, hv, h⟩ := bq_bind h
    obtain v9 | X10 := v8
    rotate_left
    · replace h := bq_elimR h
      cases h
    replace h := bq_elimL h
    refine bq_callV S hK hz mv_X6_34 (cr_X6_require hv) (kc_X6_require hv) dX6_bridge_37 [] (rest := []) rfl rfl rfl hl.1 (Nat.le_of_ble_eq_true rfl) ⟨Nat.le_of_ble_eq_true rfl, Nat.le_of_ble_eq_true rfl⟩ ⟨Nat.zero_le _, Nat.zero_le _⟩ hW (fun H locs hW => ?_)
    refine lv_aload_n hx hb dX6_bridge_40 rfl (lv_at hl 0 rfl) ?_
    refine lv_iload_n hx hb dX6_bridge_41 rfl (lv_at hl 2 rfl) ?_
    obtain ⟨k60, ek60, h⟩ := bq_letK h
    have hjk60 : ∀ (b11 : Int32) (H1 : Heap) (locs1 : List Loc) (ls1 : Array Slot), k60 b11 = some (Sum.inl R) → bq_H g L E z s.heap H1 locs1 → lv_has ls1 5 [(2, .int x2), (3, .int x3), (4, .ref v6)] → W p l e { frames := 2, cells := 0, slots := 0, locals := 45 } s m args below meth c H1 locs1 0 0 (MQ below (bq_Q g L E z (some (.int R))) args s 0 0 (bq_A z)) (F0 m 60 ls1 [.int b11, .ref a0]) := by
      intro b11 H locs ls h hW hl
      replace h := bq_kap1 ek60 h
      obtain ⟨v12, hv, h⟩ := bq_bind h
      obtain v13 | X14 := v12
      rotate_left
      · replace h := bq_elimR h
        cases h
      replace h := bq_elimL h
      refine bq_callV S hK hz mv_X6_34 (cr_X6_require hv) (kc_X6_require hv) dX6_bridge_60 [] (rest := []) rfl rfl rfl hl.1 (Nat.le_of_ble_eq_true rfl) ⟨Nat.le_of_ble_eq_true rfl, Nat.le_of_ble_eq_true rfl⟩ ⟨Nat.zero_le _, Nat.zero_le _⟩ hW (fun H locs hW => ?_)
      refine lv_aload hx hb dX6_bridge_63 (lv_at hl 2 rfl) ?_
      refine lv_iload_n hx hb dX6_bridge_65 rfl (lv_at hl 0 rfl) ?_
      refine lv_iload_n hx hb dX6_bridge_66 rfl (lv_at hl 1 rfl) ?_
      obtain ⟨v15, hv, h⟩ := bq_bind h
      refine bq_callV S hK hz mv_X6_197 (c_X2_bridgeOf hv) (kc_X2_bridgeOf hv) dX6_bridge_67 [.int v15] (rest := []) rfl rfl rfl hl.1 (Nat.le_of_ble_eq_true rfl) ⟨Nat.le_of_ble_eq_true rfl, Nat.le_of_ble_eq_true rfl⟩ ⟨Nat.zero_le _, Nat.zero_le _⟩ hW (fun H locs hW => ?_)
      cases h
      exact bq_reti S hr hlocks hK hz dX6_bridge_70 hW
    clear ek60
    obtain ⟨k55, ek55, h⟩ := bq_letK h
    have hjk55 : ∀ (u0 : Unit) (H1 : Heap) (locs1 : List Loc) (ls1 : Array Slot), k55 u0 = some (Sum.inl R) → bq_H g L E z s.heap H1 locs1 → lv_has ls1 5 [(2, .int x2), (3, .int x3), (4, .ref v6)] → W p l e { frames := 2, cells := 0, slots := 0, locals := 45 } s m args below meth c H1 locs1 0 0 (MQ below (bq_Q g L E z (some (.int R))) args s 0 0 (bq_A z)) (F0 m 55 ls1 [.ref a0]) := by
      intro u0 H locs ls h hW hl
      replace h := bq_kap1 ek55 h
      refine lv_iconst (v := 1) hx hb dX6_bridge_55 (by decide) ?_
      refine lv_goto (tgt := 60) hx hb dX6_bridge_56 (by decide) ?_
      exact hjk60 (1 : Int32) _ _ _ h hW (lv_sub hl [0, 1, 2] rfl)
    clear ek55
    refine lv_if_eq (tgt := 55) hx hb dX6_bridge_42 (by decide) (fun hc => ?_) (fun hc => ?_)
    · replace h := bq_ifT hc h
      exact hjk55 () _ _ _ h hW (lv_sub hl [1, 2, 3] rfl)
    · replace h := bq_ifF hc h
      refine lv_iload_n hx hb dX6_bridge_45 rfl (lv_at hl 2 rfl) ?_
      refine lv_iconst (v := 1) hx hb dX6_bridge_46 (by decide) ?_
      refine lv_icmp_eq (tgt := 55) hx hb dX6_bridge_47 (by decide) (fun hc => ?_) (fun hc => ?_)
      · replace h := bq_ifT hc h
        exact hjk55 () _ _ _ h hW (lv_sub hl [1, 2, 3] rfl)
      · replace h := bq_ifF hc h
        refine lv_iload_n hx hb dX6_bridge_50 rfl (lv_at hl 2 rfl) ?_
        refine lv_iconst (v := 2) hx hb dX6_bridge_51 (by decide) ?_
        refine lv_icmp_ne (tgt := 59) hx hb dX6_bridge_52 (by decide) (fun hc => ?_) (fun hc => ?_)
        · replace h := bq_ifF hc h
          refine lv_iconst (v := 0) hx hb dX6_bridge_59 (by decide) ?_
          exact hjk60 (0 : Int32) _ _ _ h hW (lv_sub hl [1, 2, 3] rfl)
        · replace h := bq_ifT hc h
          exact hjk55 () _ _ _ h hW (lv_sub hl [1, 2, 3] rfl)
  clear ek37
  obtain ⟨k36, ek36, h⟩ := bq_letK h
  have hjk36 : ∀ (u0 : Unit) (H1 : Heap) (locs1 : List Loc) (ls1 : Array Slot), k36 u0 = some (Sum.inl R) → bq_H g L E z s.heap H1 locs1 → lv_has ls1 5 [(0, .ref a0), (2, .int x2), (3, .int x3), (4, .ref v6)] → W p l e { frames := 2, cells := 0, slots := 0, locals := 45 } s m args below meth c H1 locs1 0 0 (MQ below (bq_Q g L E z (some (.int R))) args s 0 0 (bq_A z)) (F0 m 36 ls1 [.ref a0]) := by
    intro u0 H locs ls h hW hl
    replace h := bq_kap1 ek36 h
    refine lv_iconst (v := 0) hx hb dX6_bridge_36 (by decide) ?_
    exact hjk37 (0 : Int32) _ _ _ h hW (lv_sub hl [0, 1, 2, 3] rfl)
  clear ek36
  refine lv_if_lt (tgt := 36) hx hb dX6_bridge_20 (by decide) (fun hc => ?_) (fun hc => ?_)
  · replace h := bq_ifT hc h
    exact hjk36 () _ _ _ h hW (lv_sub hl [1, 3, 4, 0] rfl)
  · replace h := bq_ifF hc h
    refine lv_iload_n hx hb dX6_bridge_23 rfl (lv_at hl 3 rfl) ?_
    refine lv_aload hx hb dX6_bridge_24 (lv_at hl 0 rfl) ?_
    obtain ⟨v16, hv, h⟩ := bq_bind h
    refine bq_callV S hK hz mv_X6_175 (c_X2_size hv) (kc_X2_size hv) dX6_bridge_26 [.int v16, .int x2, .ref a0] (rest := [.int x2, .ref a0]) rfl rfl rfl hl.1 (Nat.le_of_ble_eq_true rfl) ⟨Nat.le_of_ble_eq_true rfl, Nat.le_of_ble_eq_true rfl⟩ ⟨Nat.zero_le _, Nat.zero_le _⟩ hW (fun H locs hW => ?_)
    refine lv_icmp_gt (tgt := 36) hx hb dX6_bridge_29 (by decide) (fun hc => ?_) (fun hc => ?_)
    · replace h := bq_ifT hc h
      exact hjk36 () _ _ _ h hW (lv_sub hl [1, 3, 4, 0] rfl)
    · replace h := bq_ifF hc h
      refine lv_iconst (v := 1) hx hb dX6_bridge_32 (by decide) ?_
      refine lv_goto (tgt := 37) hx hb dX6_bridge_33 (by decide) ?_
      exact hjk37 (1 : Int32) _ _ _ h hW (lv_sub hl [1, 3, 4, 0] rfl)

theorem kc_X6_count {E : bq_E} {a0 : Nat} {x1 : Int32} {R : (Int32 ⊕ String)} (h : tw_X6_count E a0 x1 = some R) : bq_cls E a0 = 6 := (bq_guard h).1
set_option maxHeartbeats 4000000 in
set_option maxRecDepth 100000 in
theorem cr_X6_count {l : Launch} {g : bq_G} {L : List Nat} {z : Nat} {E : bq_E} {a0 : Nat} {x1 : Int32} {R : Int32} (h : tw_X6_count E a0 x1 = some (Sum.inl R)) : bq_M l yX6_count cX6_count 2 (some .int) 3 62 [.ref a0, .int x1] g L E z (some (.int R)) E := by
  unfold tw_X6_count at h
  obtain ⟨hcl, h⟩ := bq_guard h
  refine bq_enter (by decide) (Nat.le_of_ble_eq_true rfl) ?_
  intro p e s m args below meth c S hr hlocks hK hz hW ls hl
  have S : CallFix p m c cX6_count 2 s args bq_WA RX6 := S
  have hx := S.1
  have hb := S.2.1
  have hl : lv_has ls 2 [(0, .ref a0), (1, .int x1)] := hl
  refine lv_iload_n hx hb dX6_count_0 rfl (lv_at hl 1 rfl) ?_
  by_cases hc0 : x1 = 0
  · replace h := bq_ifT hc0 h
    refine lv_tableIn (tgt := 44) (off := 43) hx hb dX6_count_1 (by rw [hc0]; decide) (by rw [hc0]; decide) (by rw [hc0]; rfl) (by decide) ?_
    refine lv_aload_n hx hb dX6_count_44 rfl (lv_at hl 0 rfl) ?_
    obtain ⟨v1, hv, h⟩ := bq_bind h
    refine bq_getr S hK fl_X6_10 dX6_count_45 hv hW ?_
    obtain ⟨v2, hv, h⟩ := bq_bind h
    refine bq_geti S hK fl_X6_107 dX6_count_48 hv hW ?_
    cases h
    exact bq_reti S hr hlocks hK hz dX6_count_51 hW
  replace h := bq_ifF hc0 h
  by_cases hc1 : x1 = 1
  · replace h := bq_ifT hc1 h
    refine lv_tableIn (tgt := 52) (off := 51) hx hb dX6_count_1 (by rw [hc1]; decide) (by rw [hc1]; decide) (by rw [hc1]; rfl) (by decide) ?_
    refine lv_aload_n hx hb dX6_count_52 rfl (lv_at hl 0 rfl) ?_
    obtain ⟨v3, hv, h⟩ := bq_bind h
    refine bq_getr S hK fl_X6_10 dX6_count_53 hv hW ?_
    obtain ⟨v4, hv, h⟩ := bq_bind h
    refine bq_geti S hK fl_X6_110 dX6_count_56 hv hW ?_
    cases h
    exact bq_reti S hr hlocks hK hz dX6_count_59 hW
  replace h := bq_ifF hc1 h
  by_cases hc2 : x1 = 2
  · replace h := bq_ifT hc2 h
    refine lv_tableIn (tgt := 60) (off := 59) hx hb dX6_count_1 (by rw [hc2]; decide) (by rw [hc2]; decide) (by rw [hc2]; rfl) (by decide) ?_
    refine lv_aload_n hx hb dX6_count_60 rfl (lv_at hl 0 rfl) ?_
    obtain ⟨v5, hv, h⟩ := bq_bind h
    refine bq_getr S hK fl_X6_10 dX6_count_61 hv hW ?_
    obtain ⟨v6, hv, h⟩ := bq_bind h
    refine bq_geti S hK fl_X6_200 dX6_count_64 hv hW ?_
    cases h
    exact bq_reti S hr hlocks hK hz dX6_count_67 hW
  replace h := bq_ifF hc2 h
  by_cases hc3 : x1 = 3
  · replace h := bq_ifT hc3 h
    refine lv_tableIn (tgt := 68) (off := 67) hx hb dX6_count_1 (by rw [hc3]; decide) (by rw [hc3]; decide) (by rw [hc3]; rfl) (by decide) ?_
    refine lv_aload_n hx hb dX6_count_68 rfl (lv_at hl 0 rfl) ?_
    obtain ⟨v7, hv, h⟩ := bq_bind h
    refine bq_getr S hK fl_X6_10 dX6_count_69 hv hW ?_
    obtain ⟨v8, hv, h⟩ := bq_bind h
    refine bq_geti S hK fl_X6_203 dX6_count_72 hv hW ?_
    cases h
    exact bq_reti S hr hlocks hK hz dX6_count_75 hW
  replace h := bq_ifF hc3 h
  by_cases hc4 : x1 = 4
  · replace h := bq_ifT hc4 h
    refine lv_tableIn (tgt := 76) (off := 75) hx hb dX6_count_1 (by rw [hc4]; decide) (by rw [hc4]; decide) (by rw [hc4]; rfl) (by decide) ?_
    refine lv_aload_n hx hb dX6_count_76 rfl (lv_at hl 0 rfl) ?_
    obtain ⟨v9, hv, h⟩ := bq_bind h
    refine bq_getr S hK fl_X6_10 dX6_count_77 hv hW ?_
    obtain ⟨v10, hv, h⟩ := bq_bind h
    refine bq_geti S hK fl_X6_206 dX6_count_80 hv hW ?_
    cases h
    exact bq_reti S hr hlocks hK hz dX6_count_83 hW
  replace h := bq_ifF hc4 h
  by_cases hc5 : x1 = 5
  · replace h := bq_ifT hc5 h
    refine lv_tableIn (tgt := 84) (off := 83) hx hb dX6_count_1 (by rw [hc5]; decide) (by rw [hc5]; decide) (by rw [hc5]; rfl) (by decide) ?_
    refine lv_aload_n hx hb dX6_count_84 rfl (lv_at hl 0 rfl) ?_
    obtain ⟨v11, hv, h⟩ := bq_bind h
    refine bq_getr S hK fl_X6_10 dX6_count_85 hv hW ?_
    obtain ⟨v12, hv, h⟩ := bq_bind h
    refine bq_callV S hK hz mv_X6_209 (c_X4_keysOfAll hv) (kc_X4_keysOfAll hv) dX6_count_88 [.int v12] (rest := []) rfl rfl rfl hl.1 (Nat.le_of_ble_eq_true rfl) ⟨Nat.le_of_ble_eq_true rfl, Nat.le_of_ble_eq_true rfl⟩ ⟨Nat.zero_le _, Nat.zero_le _⟩ hW (fun H locs hW => ?_)
    cases h
    exact bq_reti S hr hlocks hK hz dX6_count_91 hW
  replace h := bq_ifF hc5 h
  by_cases hc6 : x1 = 6
  · replace h := bq_ifT hc6 h
    refine lv_tableIn (tgt := 92) (off := 91) hx hb dX6_count_1 (by rw [hc6]; decide) (by rw [hc6]; decide) (by rw [hc6]; rfl) (by decide) ?_
    refine lv_aload_n hx hb dX6_count_92 rfl (lv_at hl 0 rfl) ?_
    obtain ⟨v13, hv, h⟩ := bq_bind h
    refine bq_getr S hK fl_X6_10 dX6_count_93 hv hW ?_
    obtain ⟨v14, hv, h⟩ := bq_bind h
    refine bq_callV S hK hz mv_X6_99 (c_X4_entriesOfAll hv) (kc_X4_entriesOfAll hv) dX6_count_96 [.int v14] (rest := []) rfl rfl rfl hl.1 (Nat.le_of_ble_eq_true rfl) ⟨Nat.le_of_ble_eq_true rfl, Nat.le_of_ble_eq_true rfl⟩ ⟨Nat.zero_le _, Nat.zero_le _⟩ hW (fun H locs hW => ?_)
    cases h
    exact bq_reti S hr hlocks hK hz dX6_count_99 hW
  replace h := bq_ifF hc6 h
  have q0 : Int32.toInt x1 ≠ 0 := fun q => hc0 (Int32.toInt_inj.mp (q.trans (by decide)))
  have q1 : Int32.toInt x1 ≠ 1 := fun q => hc1 (Int32.toInt_inj.mp (q.trans (by decide)))
  have q2 : Int32.toInt x1 ≠ 2 := fun q => hc2 (Int32.toInt_inj.mp (q.trans (by decide)))
  have q3 : Int32.toInt x1 ≠ 3 := fun q => hc3 (Int32.toInt_inj.mp (q.trans (by decide)))
  have q4 : Int32.toInt x1 ≠ 4 := fun q => hc4 (Int32.toInt_inj.mp (q.trans (by decide)))
  have q5 : Int32.toInt x1 ≠ 5 := fun q => hc5 (Int32.toInt_inj.mp (q.trans (by decide)))
  have q6 : Int32.toInt x1 ≠ 6 := fun q => hc6 (Int32.toInt_inj.mp (q.trans (by decide)))
  refine lv_tableOut (tgt := 100) hx hb dX6_count_1 (by omega) (by decide) ?_
  cases h

theorem kc_X6_undo {E : bq_E} {a0 : Nat} {R : ((Int32 ⊕ String) × bq_E)} (h : tw_X6_undo E a0 = some R) : bq_cls E a0 = 6 := (bq_guard h).1
set_option maxHeartbeats 4000000 in
set_option maxRecDepth 100000 in
theorem cr_X6_undo {l : Launch} {g : bq_G} {L : List Nat} {z : Nat} {E : bq_E} {a0 : Nat} {R : Int32} {E9 : bq_E} (h : tw_X6_undo E a0 = some (Sum.inl R, E9)) : bq_M l yX6_undo cX6_undo 1 (some .int) 6 149 [.ref a0] g L E z (some (.int R)) E9 := by
  unfold tw_X6_undo at h
  obtain ⟨hcl, h⟩ := bq_guard h
  refine bq_enter (by decide) (Nat.le_of_ble_eq_true rfl) ?_
  intro p e s m args below meth c S hr hlocks hK hz hW ls hl
  have S : CallFix p m c cX6_undo 1 s args bq_WA RX6 := S
  have hx := S.1
  have hb := S.2.1
  have hl : lv_has ls 1 [(0, .ref a0)] := hl
  refine lv_aload_n hx hb dX6_undo_0 rfl (lv_at hl 0 rfl) ?_
  obtain ⟨v1, hv, h⟩ := bq_bind h
  refine bq_getr S hK fl_X6_26 dX6_undo_1 hv hW ?_
  obtain ⟨v2, hv, h⟩ := bq_bind h
  refine bq_geti S hK fl_X6_214 dX6_undo_4 hv hW ?_
  refine lv_if_ne (tgt := 20) hx hb dX6_undo_7 (by decide) (fun hc => ?_) (fun hc => ?_)
  · replace h := bq_ifF hc h
    refine lv_aload_n hx hb dX6_undo_20 rfl (lv_at hl 0 rfl) ?_
    obtain ⟨v3, hv, h⟩ := bq_bind h
    refine bq_getr S hK fl_X6_26 dX6_undo_21 hv hW ?_
    refine lv_aload_n hx hb dX6_undo_24 rfl (lv_at hl 0 rfl) ?_
    obtain ⟨v4, hv, h⟩ := bq_bind h
    refine bq_getr S hK fl_X6_10 dX6_undo_25 hv hW ?_
    obtain ⟨E5, hv, h⟩ := bq_bind h
    refine bq_callV S hK hz mv_X6_217 (c_X1_restore hv) (kc_X1_restore hv) dX6_undo_28 [] (rest := []) rfl rfl rfl hl.1 (Nat.le_of_ble_eq_true rfl) ⟨Nat.le_of_ble_eq_true rfl, Nat.le_of_ble_eq_true rfl⟩ ⟨Nat.zero_le _, Nat.zero_le _⟩ hW (fun H locs hW => ?_)
    refine lv_aload_n hx hb dX6_undo_31 rfl (lv_at hl 0 rfl) ?_
    obtain ⟨v6, hv, h⟩ := bq_bind h
    refine bq_getr S hK fl_X6_26 dX6_undo_32 hv hW ?_
    obtain ⟨v7, hv, h⟩ := bq_bind h
    refine bq_geti S hK fl_X6_214 dX6_undo_35 hv hW ?_
    cases h
    exact bq_reti S hr hlocks hK hz dX6_undo_38 hW
  · replace h := bq_ifT hc h
    cases h

theorem kc_X6_withEntry {E : bq_E} {a0 : Nat} {x1 : Int64} {a3 : Nat} {x4 : Int32} {R : Int64} (h : tw_X6_withEntry E a0 x1 a3 x4 = some R) : bq_cls E a0 = 6 := (bq_guard h).1
set_option maxHeartbeats 4000000 in
set_option maxRecDepth 100000 in
theorem c_X6_withEntry {l : Launch} {g : bq_G} {L : List Nat} {z : Nat} {E : bq_E} {a0 : Nat} {x1 : Int64} {a3 : Nat} {x4 : Int32} {R : Int64} (h : tw_X6_withEntry E a0 x1 a3 x4 = some R) : bq_M l yX6_withEntry cX6_withEntry 8 (some .long) 2 45 [.ref a0, .long x1, .ref a3, .int x4] g L E z (some (.long R)) E := by
  unfold tw_X6_withEntry at h
  obtain ⟨hcl, h⟩ := bq_guard h
  refine bq_enter (by decide) (Nat.le_of_ble_eq_true rfl) ?_
  intro p e s m args below meth c S hr hlocks hK hz hW ls hl
  have S : CallFix p m c cX6_withEntry 8 s args bq_WA RX6 := S
  have hx := S.1
  have hb := S.2.1
  have hl : lv_has ls 8 [(0, .ref a0), (1, .long x1), (3, .ref a3), (4, .int x4)] := hl
  refine lv_lload_n hx hb dX6_withEntry_0 rfl (lv_at hl 1 rfl) ?_
  refine lv_lstore (lv' := [(5, .long x1), (0, .ref a0), (1, .long x1), (3, .ref a3), (4, .int x4)]) hx hb dX6_withEntry_1 hl (by decide) rfl (fun ls hl => ?_)
  refine lv_ldc2 (own := RX6) (v := 31) hx hb S.2.2.2.1 (S.2.2.2.2 _ (bq_wi 418 (by decide +kernel) rfl)) dX6_withEntry_3 ?_
  refine lv_lload hx hb dX6_withEntry_6 (lv_at hl 0 rfl) ?_
  refine lv_lmul hx hb dX6_withEntry_8 ?_
  refine lv_aload_n hx hb dX6_withEntry_9 rfl (lv_at hl 3 rfl) ?_
  obtain ⟨v1, hv, h⟩ := bq_bind h
  refine bq_getr S hK fl_X6_191 dX6_withEntry_10 hv hW ?_
  refine lv_iload hx hb dX6_withEntry_13 (lv_at hl 4 rfl) ?_
  refine lv_iconst (v := (-1)) hx hb dX6_withEntry_15 (by decide) ?_
  obtain ⟨v2, hv, h⟩ := bq_bind h
  refine bq_callV S hK hz mv_X6_186 (c_X3_at hv) (kc_X3_at hv) dX6_withEntry_16 [.int v2, .long ((31 : Int64) * x1)] (rest := [.long ((31 : Int64) * x1)]) rfl rfl rfl hl.1 (Nat.le_of_ble_eq_true rfl) ⟨Nat.le_of_ble_eq_true rfl, Nat.le_of_ble_eq_true rfl⟩ ⟨Nat.zero_le _, Nat.zero_le _⟩ hW (fun H locs hW => ?_)
  refine lv_i2l (v := Int32.toInt64 v2) hx hb dX6_withEntry_19 rfl ?_
  refine lv_ladd hx hb dX6_withEntry_20 ?_
  refine lv_topl (fun v3 ev3 => ?_)
  replace h := bq_letE ev3 h
  refine lv_lstore (lv' := [(5, .long v3), (0, .ref a0), (1, .long x1), (3, .ref a3), (4, .int x4)]) hx hb dX6_withEntry_21 hl (by decide) rfl (fun ls hl => ?_)
  refine lv_ldc2 (own := RX6) (v := 31) hx hb S.2.2.2.1 (S.2.2.2.2 _ (bq_wi 418 (by decide +kernel) rfl)) dX6_withEntry_23 ?_
  refine lv_lload hx hb dX6_withEntry_26 (lv_at hl 0 rfl) ?_
  refine lv_lmul hx hb dX6_withEntry_28 ?_
  refine lv_aload_n hx hb dX6_withEntry_29 rfl (lv_at hl 3 rfl) ?_
  obtain ⟨v4, hv, h⟩ := bq_bind h
  refine bq_getr S hK fl_X6_194 dX6_withEntry_30 hv hW ?_
  refine lv_iload hx hb dX6_withEntry_33 (lv_at hl 4 rfl) ?_
  refine lv_iconst (v := (-1)) hx hb dX6_withEntry_35 (by decide) ?_
  obtain ⟨v5, hv, h⟩ := bq_bind h
  refine bq_callV S hK hz mv_X6_186 (c_X3_at hv) (kc_X3_at hv) dX6_withEntry_36 [.int v5, .long ((31 : Int64) * v3)] (rest := [.long ((31 : Int64) * v3)]) rfl rfl rfl hl.1 (Nat.le_of_ble_eq_true rfl) ⟨Nat.le_of_ble_eq_true rfl, Nat.le_of_ble_eq_true rfl⟩ ⟨Nat.zero_le _, Nat.zero_le _⟩ hW (fun H locs hW => ?_)
  refine lv_i2l (v := Int32.toInt64 v5) hx hb dX6_withEntry_39 rfl ?_
  refine lv_ladd hx hb dX6_withEntry_40 ?_
  refine lv_topl (fun v6 ev6 => ?_)
  replace h := bq_letE ev6 h
  refine lv_lstore (lv' := [(5, .long v6), (0, .ref a0), (1, .long x1), (3, .ref a3), (4, .int x4)]) hx hb dX6_withEntry_41 hl (by decide) rfl (fun ls hl => ?_)
  refine lv_iconst (v := 0) hx hb dX6_withEntry_43 (by decide) ?_
  refine lv_istore (lv' := [(7, .int (0 : Int32)), (5, .long v6), (0, .ref a0), (1, .long x1), (3, .ref a3), (4, .int x4)]) hx hb dX6_withEntry_44 hl (by decide) rfl (fun ls hl => ?_)
  have hL46 : ∀ (n : Nat) (z9 : Int64) (z10 : Int32) (H1 : Heap) (locs1 : List Loc) (ls1 : Array Slot), tl_X6_withEntry_46 E a3 x4 n z9 z10 = some R → bq_H g L E z s.heap H1 locs1 → lv_has ls1 8 [(3, .ref a3), (4, .int x4), (5, .long z9), (7, .int z10)] → W p l e { frames := 2, cells := 0, slots := 0, locals := 45 } s m args below meth c H1 locs1 0 0 (MQ below (bq_Q g L E z (some (.long R))) args s 0 0 (bq_A z)) (F0 m 46 ls1 []) := by
    intro n
    induction n with
    | zero => intro z9 z10 H locs ls h hW hl; cases h
    | succ n ih =>
      intro z9 z10 H locs ls h hW hl
      rw [tl_X6_withEntry_46.eq_2] at h
      refine lv_iload hx hb dX6_withEntry_46 (lv_at hl 3 rfl) ?_
      refine lv_iconst (v := 2) hx hb dX6_withEntry_48 (by decide) ?_
      refine lv_icmp_gt (tgt := 76) hx hb dX6_withEntry_49 (by decide) (fun hc => ?_) (fun hc => ?_)
      · replace h := bq_ifT hc h
        refine lv_lload hx hb dX6_withEntry_76 (lv_at hl 2 rfl) ?_
        cases h
        exact bq_retl S hr hlocks hK hz dX6_withEntry_78 hW
      · replace h := bq_ifF hc h
        refine lv_ldc2 (own := RX6) (v := 31) hx hb S.2.2.2.1 (S.2.2.2.2 _ (bq_wi 418 (by decide +kernel) rfl)) dX6_withEntry_52 ?_
        refine lv_lload hx hb dX6_withEntry_55 (lv_at hl 2 rfl) ?_
        refine lv_lmul hx hb dX6_withEntry_57 ?_
        refine lv_aload_n hx hb dX6_withEntry_58 rfl (lv_at hl 0 rfl) ?_
        refine lv_iload hx hb dX6_withEntry_59 (lv_at hl 1 rfl) ?_
        refine lv_iload hx hb dX6_withEntry_61 (lv_at hl 3 rfl) ?_
        obtain ⟨v11, hv, h⟩ := bq_bind h
        refine bq_callV S hK hz mv_X6_197 (c_X2_bridgeOf hv) (kc_X2_bridgeOf hv) dX6_withEntry_63 [.int v11, .long ((31 : Int64) * z9)] (rest := [.long ((31 : Int64) * z9)]) rfl rfl rfl hl.1 (Nat.le_of_ble_eq_true rfl) ⟨Nat.le_of_ble_eq_true rfl, Nat.le_of_ble_eq_true rfl⟩ ⟨Nat.zero_le _, Nat.zero_le _⟩ hW (fun H locs hW => ?_)
        refine lv_i2l (v := Int32.toInt64 v11) hx hb dX6_withEntry_66 rfl ?_
        refine lv_ladd hx hb dX6_withEntry_67 ?_
        refine lv_topl (fun v12 ev12 => ?_)
        replace h := bq_letE ev12 h
        refine lv_lstore (lv' := [(5, .long v12), (3, .ref a3), (4, .int x4), (7, .int z10)]) hx hb dX6_withEntry_68 hl (by decide) rfl (fun ls hl => ?_)
        obtain ⟨v13, ev13⟩ : ∃ y : Int32, y = z10 + 1 := ⟨_, rfl⟩
        replace h := bq_letE ev13 h
        refine lv_iinc (v := v13) (lv' := [(7, .int v13), (5, .long v12), (3, .ref a3), (4, .int x4)]) hx hb dX6_withEntry_70 hl (k := 3) rfl (by rw [ev13]; rfl) (by decide) rfl (fun ls hl => ?_)
        refine lv_goto (tgt := 46) hx hb dX6_withEntry_73 (by decide) ?_
        exact ih v12 v13 _ _ _ h hW (lv_sub hl [2, 3, 1, 0] rfl)
  exact hL46 bq_fuel v6 (0 : Int32) _ _ _ h hW (lv_sub hl [4, 5, 1, 0] rfl)

theorem kc_X6_withNode {E : bq_E} {a0 : Nat} {x1 : Int64} {x3 : Int32} {R : ((Int64 ⊕ String) × bq_E)} (h : tw_X6_withNode E a0 x1 x3 = some R) : bq_cls E a0 = 6 := (bq_guard h).1
set_option maxHeartbeats 4000000 in
set_option maxRecDepth 100000 in
theorem cr_X6_withNode {l : Launch} {g : bq_G} {L : List Nat} {z : Nat} {E : bq_E} {a0 : Nat} {x1 : Int64} {x3 : Int32} {R : Int64} {E9 : bq_E} (h : tw_X6_withNode E a0 x1 x3 = some (Sum.inl R, E9)) : bq_M l yX6_withNode cX6_withNode 8 (some .long) 5 129 [.ref a0, .long x1, .int x3] g L E z (some (.long R)) E9 := by
  unfold tw_X6_withNode at h
  obtain ⟨hcl, h⟩ := bq_guard h
  refine bq_enter (by decide) (Nat.le_of_ble_eq_true rfl) ?_
  intro p e s m args below meth c S hr hlocks hK hz hW ls hl
  have S : CallFix p m c cX6_withNode 8 s args bq_WA RX6 := S
  have hx := S.1
  have hb := S.2.1
  have hl : lv_has ls 8 [(0, .ref a0), (1, .long x1), (3, .int x3)] := hl
  refine lv_aload_n hx hb dX6_withNode_0 rfl (lv_at hl 0 rfl) ?_
  obtain ⟨v1, hv, h⟩ := bq_bind h
  refine bq_getr S hK fl_X6_10 dX6_withNode_1 hv hW ?_
  refine lv_iload_n hx hb dX6_withNode_4 rfl (lv_at hl 2 rfl) ?_
  obtain ⟨v2, hv, h⟩ := bq_bind h
  refine bq_callV S hK hz mv_X6_42 (c_X4_at hv) (kc_X4_at hv) dX6_withNode_5 [.ref v2] (rest := []) rfl rfl rfl hl.1 (Nat.le_of_ble_eq_true rfl) ⟨Nat.le_of_ble_eq_true rfl, Nat.le_of_ble_eq_true rfl⟩ ⟨Nat.zero_le _, Nat.zero_le _⟩ hW (fun H locs hW => ?_)
  refine lv_astore (lv' := [(4, .ref v2), (0, .ref a0), (1, .long x1), (3, .int x3)]) hx hb dX6_withNode_8 hl (by decide) rfl (fun ls hl => ?_)
  refine lv_lload_n hx hb dX6_withNode_10 rfl (lv_at hl 2 rfl) ?_
  refine lv_lstore (lv' := [(5, .long x1), (4, .ref v2), (0, .ref a0), (1, .long x1), (3, .int x3)]) hx hb dX6_withNode_11 hl (by decide) rfl (fun ls hl => ?_)
  refine lv_iconst (v := 0) hx hb dX6_withNode_13 (by decide) ?_
  refine lv_istore (lv' := [(7, .int (0 : Int32)), (5, .long x1), (4, .ref v2), (0, .ref a0), (1, .long x1), (3, .int x3)]) hx hb dX6_withNode_14 hl (by decide) rfl (fun ls hl => ?_)
  have hL16 : ∀ (K : Int64 → Int32 → Option ((Int64 ⊕ String) × bq_E)) (hX : ∀ (u50 : Int64) (u51 : Int32) (H1 : Heap) (locs1 : List Loc) (ls1 : Array Slot), K u50 u51 = some (Sum.inl R, E9) → bq_H g L E z s.heap H1 locs1 → lv_has ls1 8 [(0, .ref a0), (3, .int x3), (4, .ref v2), (5, .long u50)] → W p l e { frames := 5, cells := 0, slots := 0, locals := 129 } s m args below meth c H1 locs1 0 0 (MQ below (bq_Q g L E9 z (some (.long R))) args s 0 0 (bq_A z)) (F0 m 46 ls1 [])), ∀ (n : Nat) (z43 : Int64) (z44 : Int32) (H1 : Heap) (locs1 : List Loc) (ls1 : Array Slot), tl_X6_withNode_16 E a0 x3 v2 K n z43 z44 = some (Sum.inl R, E9) → bq_H g L E z s.heap H1 locs1 → lv_has ls1 8 [(0, .ref a0), (3, .int x3), (4, .ref v2), (5, .long z43), (7, .int z44)] → W p l e { frames := 5, cells := 0, slots := 0, locals := 129 } s m args below meth c H1 locs1 0 0 (MQ below (bq_Q g L E9 z (some (.long R))) args s 0 0 (bq_A z)) (F0 m 16 ls1 []) := by
    intro K hX n
    induction n with
    | zero => intro z43 z44 H locs ls h hW hl; cases h
    | succ n ih =>
      intro z43 z44 H locs ls h hW hl
      rw [tl_X6_withNode_16.eq_2] at h
      refine lv_iload hx hb dX6_withNode_16 (lv_at hl 4 rfl) ?_
      refine lv_bipush (v := 8) hx hb dX6_withNode_18 (by decide) ?_
      refine lv_icmp_gt (tgt := 46) hx hb dX6_withNode_20 (by decide) (fun hc => ?_) (fun hc => ?_)
      · replace h := bq_ifT hc h
        exact hX z43 z44 _ _ _ h hW (lv_sub hl [0, 1, 2, 3] rfl)
      · replace h := bq_ifF hc h
        refine lv_ldc2 (own := RX6) (v := 31) hx hb S.2.2.2.1 (S.2.2.2.2 _ (bq_wi 418 (by decide +kernel) rfl)) dX6_withNode_23 ?_
        refine lv_lload hx hb dX6_withNode_26 (lv_at hl 3 rfl) ?_
        refine lv_lmul hx hb dX6_withNode_28 ?_
        refine lv_aload_n hx hb dX6_withNode_29 rfl (lv_at hl 0 rfl) ?_
        refine lv_iload_n hx hb dX6_withNode_30 rfl (lv_at hl 1 rfl) ?_
        refine lv_iload hx hb dX6_withNode_31 (lv_at hl 4 rfl) ?_
        obtain ⟨v45, hv, h⟩ := bq_bind h
        obtain v46 | X47 := v45
        rotate_left
        · replace h := bq_elimR h
          cases h
        replace h := bq_elimL h
        refine bq_callV S hK hz mv_X6_234 (cr_X6_node hv) (kc_X6_node hv) dX6_withNode_33 [.int v46, .long ((31 : Int64) * z43)] (rest := [.long ((31 : Int64) * z43)]) rfl rfl rfl hl.1 (Nat.le_of_ble_eq_true rfl) ⟨Nat.le_of_ble_eq_true rfl, Nat.le_of_ble_eq_true rfl⟩ ⟨Nat.zero_le _, Nat.zero_le _⟩ hW (fun H locs hW => ?_)
        refine lv_i2l (v := Int32.toInt64 v46) hx hb dX6_withNode_36 rfl ?_
        refine lv_ladd hx hb dX6_withNode_37 ?_
        refine lv_topl (fun v48 ev48 => ?_)
        replace h := bq_letE ev48 h
        refine lv_lstore (lv' := [(5, .long v48), (0, .ref a0), (3, .int x3), (4, .ref v2), (7, .int z44)]) hx hb dX6_withNode_38 hl (by decide) rfl (fun ls hl => ?_)
        obtain ⟨v49, ev49⟩ : ∃ y : Int32, y = z44 + 1 := ⟨_, rfl⟩
        replace h := bq_letE ev49 h
        refine lv_iinc (v := v49) (lv' := [(7, .int v49), (5, .long v48), (0, .ref a0), (3, .int x3), (4, .ref v2)]) hx hb dX6_withNode_40 hl (k := 4) rfl (by rw [ev49]; rfl) (by decide) rfl (fun ls hl => ?_)
        refine lv_goto (tgt := 16) hx hb dX6_withNode_43 (by decide) ?_
        exact ih v48 v49 _ _ _ h hW (lv_sub hl [2, 3, 4, 1, 0] rfl)
  refine hL16 _ (fun y3 y4 H locs ls h hW hl => ?_) bq_fuel x1 (0 : Int32) _ _ _ h hW (lv_sub hl [3, 5, 2, 1, 0] rfl)
  refine lv_iconst (v := 0) hx hb dX6_withNode_46 (by decide) ?_
  refine lv_istore (lv' := [(7, .int (0 : Int32)), (0, .ref a0), (3, .int x3), (4, .ref v2), (5, .long y3)]) hx hb dX6_withNode_47 hl (by decide) rfl (fun ls hl => ?_)
  have hL49 : ∀ (K : Int64 → Int32 → Option ((Int64 ⊕ String) × bq_E)) (hX : ∀ (u41 : Int64) (u42 : Int32) (H1 : Heap) (locs1 : List Loc) (ls1 : Array Slot), K u41 u42 = some (Sum.inl R, E9) → bq_H g L E z s.heap H1 locs1 → lv_has ls1 8 [(0, .ref a0), (3, .int x3), (4, .ref v2), (5, .long u41)] → W p l e { frames := 5, cells := 0, slots := 0, locals := 129 } s m args below meth c H1 locs1 0 0 (MQ below (bq_Q g L E9 z (some (.long R))) args s 0 0 (bq_A z)) (F0 m 85 ls1 [])), ∀ (n : Nat) (z32 : Int64) (z33 : Int32) (H1 : Heap) (locs1 : List Loc) (ls1 : Array Slot), tl_X6_withNode_49 E a0 x3 v2 K n z32 z33 = some (Sum.inl R, E9) → bq_H g L E z s.heap H1 locs1 → lv_has ls1 8 [(0, .ref a0), (3, .int x3), (4, .ref v2), (5, .long z32), (7, .int z33)] → W p l e { frames := 5, cells := 0, slots := 0, locals := 129 } s m args below meth c H1 locs1 0 0 (MQ below (bq_Q g L E9 z (some (.long R))) args s 0 0 (bq_A z)) (F0 m 49 ls1 []) := by
    intro K hX n
    induction n with
    | zero => intro z32 z33 H locs ls h hW hl; cases h
    | succ n ih =>
      intro z32 z33 H locs ls h hW hl
      rw [tl_X6_withNode_49.eq_2] at h
      refine lv_iload hx hb dX6_withNode_49 (lv_at hl 4 rfl) ?_
      refine lv_aload hx hb dX6_withNode_51 (lv_at hl 2 rfl) ?_
      obtain ⟨v34, hv, h⟩ := bq_bind h
      refine bq_getr S hK fl_X6_157 dX6_withNode_53 hv hW ?_
      obtain ⟨v35, hv, h⟩ := bq_bind h
      refine bq_callV S hK hz mv_X6_161 (c_X3_size hv) (kc_X3_size hv) dX6_withNode_56 [.int v35, .int z33] (rest := [.int z33]) rfl rfl rfl hl.1 (Nat.le_of_ble_eq_true rfl) ⟨Nat.le_of_ble_eq_true rfl, Nat.le_of_ble_eq_true rfl⟩ ⟨Nat.zero_le _, Nat.zero_le _⟩ hW (fun H locs hW => ?_)
      refine lv_icmp_ge (tgt := 85) hx hb dX6_withNode_59 (by decide) (fun hc => ?_) (fun hc => ?_)
      · replace h := bq_ifT hc h
        exact hX z32 z33 _ _ _ h hW (lv_sub hl [0, 1, 2, 3] rfl)
      · replace h := bq_ifF hc h
        refine lv_ldc2 (own := RX6) (v := 31) hx hb S.2.2.2.1 (S.2.2.2.2 _ (bq_wi 418 (by decide +kernel) rfl)) dX6_withNode_62 ?_
        refine lv_lload hx hb dX6_withNode_65 (lv_at hl 3 rfl) ?_
        refine lv_lmul hx hb dX6_withNode_67 ?_
        refine lv_aload_n hx hb dX6_withNode_68 rfl (lv_at hl 0 rfl) ?_
        refine lv_iload_n hx hb dX6_withNode_69 rfl (lv_at hl 1 rfl) ?_
        refine lv_iload hx hb dX6_withNode_70 (lv_at hl 4 rfl) ?_
        obtain ⟨v36, hv, h⟩ := bq_bind h
        obtain v37 | X38 := v36
        rotate_left
        · replace h := bq_elimR h
          cases h
        replace h := bq_elimL h
        refine bq_callV S hK hz mv_X6_237 (cr_X6_baseKey hv) (kc_X6_baseKey hv) dX6_withNode_72 [.int v37, .long ((31 : Int64) * z32)] (rest := [.long ((31 : Int64) * z32)]) rfl rfl rfl hl.1 (Nat.le_of_ble_eq_true rfl) ⟨Nat.le_of_ble_eq_true rfl, Nat.le_of_ble_eq_true rfl⟩ ⟨Nat.zero_le _, Nat.zero_le _⟩ hW (fun H locs hW => ?_)
        refine lv_i2l (v := Int32.toInt64 v37) hx hb dX6_withNode_75 rfl ?_
        refine lv_ladd hx hb dX6_withNode_76 ?_
        refine lv_topl (fun v39 ev39 => ?_)
        replace h := bq_letE ev39 h
        refine lv_lstore (lv' := [(5, .long v39), (0, .ref a0), (3, .int x3), (4, .ref v2), (7, .int z33)]) hx hb dX6_withNode_77 hl (by decide) rfl (fun ls hl => ?_)
        obtain ⟨v40, ev40⟩ : ∃ y : Int32, y = z33 + 1 := ⟨_, rfl⟩
        replace h := bq_letE ev40 h
        refine lv_iinc (v := v40) (lv' := [(7, .int v40), (5, .long v39), (0, .ref a0), (3, .int x3), (4, .ref v2)]) hx hb dX6_withNode_79 hl (k := 4) rfl (by rw [ev40]; rfl) (by decide) rfl (fun ls hl => ?_)
        refine lv_goto (tgt := 49) hx hb dX6_withNode_82 (by decide) ?_
        exact ih v39 v40 _ _ _ h hW (lv_sub hl [2, 3, 4, 1, 0] rfl)
  refine hL49 _ (fun y5 y6 H locs ls h hW hl => ?_) bq_fuel y3 (0 : Int32) _ _ _ h hW (lv_sub hl [1, 2, 3, 4, 0] rfl)
  refine lv_iconst (v := 0) hx hb dX6_withNode_85 (by decide) ?_
  refine lv_istore (lv' := [(7, .int (0 : Int32)), (0, .ref a0), (3, .int x3), (4, .ref v2), (5, .long y5)]) hx hb dX6_withNode_86 hl (by decide) rfl (fun ls hl => ?_)
  have hL88 : ∀ (K : Int64 → Int32 → Option ((Int64 ⊕ String) × bq_E)) (hX : ∀ (u30 : Int64) (u31 : Int32) (H1 : Heap) (locs1 : List Loc) (ls1 : Array Slot), K u30 u31 = some (Sum.inl R, E9) → bq_H g L E z s.heap H1 locs1 → lv_has ls1 8 [(0, .ref a0), (3, .int x3), (4, .ref v2), (5, .long u30)] → W p l e { frames := 5, cells := 0, slots := 0, locals := 129 } s m args below meth c H1 locs1 0 0 (MQ below (bq_Q g L E9 z (some (.long R))) args s 0 0 (bq_A z)) (F0 m 124 ls1 [])), ∀ (n : Nat) (z21 : Int64) (z22 : Int32) (H1 : Heap) (locs1 : List Loc) (ls1 : Array Slot), tl_X6_withNode_88 E a0 x3 v2 K n z21 z22 = some (Sum.inl R, E9) → bq_H g L E z s.heap H1 locs1 → lv_has ls1 8 [(0, .ref a0), (3, .int x3), (4, .ref v2), (5, .long z21), (7, .int z22)] → W p l e { frames := 5, cells := 0, slots := 0, locals := 129 } s m args below meth c H1 locs1 0 0 (MQ below (bq_Q g L E9 z (some (.long R))) args s 0 0 (bq_A z)) (F0 m 88 ls1 []) := by
    intro K hX n
    induction n with
    | zero => intro z21 z22 H locs ls h hW hl; cases h
    | succ n ih =>
      intro z21 z22 H locs ls h hW hl
      rw [tl_X6_withNode_88.eq_2] at h
      refine lv_iload hx hb dX6_withNode_88 (lv_at hl 4 rfl) ?_
      refine lv_aload hx hb dX6_withNode_90 (lv_at hl 2 rfl) ?_
      obtain ⟨v23, hv, h⟩ := bq_bind h
      refine bq_getr S hK fl_X6_168 dX6_withNode_92 hv hW ?_
      obtain ⟨v24, hv, h⟩ := bq_bind h
      refine bq_callV S hK hz mv_X6_161 (c_X3_size hv) (kc_X3_size hv) dX6_withNode_95 [.int v24, .int z22] (rest := [.int z22]) rfl rfl rfl hl.1 (Nat.le_of_ble_eq_true rfl) ⟨Nat.le_of_ble_eq_true rfl, Nat.le_of_ble_eq_true rfl⟩ ⟨Nat.zero_le _, Nat.zero_le _⟩ hW (fun H locs hW => ?_)
      refine lv_icmp_ge (tgt := 124) hx hb dX6_withNode_98 (by decide) (fun hc => ?_) (fun hc => ?_)
      · replace h := bq_ifT hc h
        exact hX z21 z22 _ _ _ h hW (lv_sub hl [0, 1, 2, 3] rfl)
      · replace h := bq_ifF hc h
        refine lv_ldc2 (own := RX6) (v := 31) hx hb S.2.2.2.1 (S.2.2.2.2 _ (bq_wi 418 (by decide +kernel) rfl)) dX6_withNode_101 ?_
        refine lv_lload hx hb dX6_withNode_104 (lv_at hl 3 rfl) ?_
        refine lv_lmul hx hb dX6_withNode_106 ?_
        refine lv_aload_n hx hb dX6_withNode_107 rfl (lv_at hl 0 rfl) ?_
        refine lv_iload_n hx hb dX6_withNode_108 rfl (lv_at hl 1 rfl) ?_
        refine lv_iload hx hb dX6_withNode_109 (lv_at hl 4 rfl) ?_
        obtain ⟨v25, hv, h⟩ := bq_bind h
        obtain v26 | X27 := v25
        rotate_left
        · replace h := bq_elimR h
          cases h
        replace h := bq_elimL h
        refine bq_callV S hK hz mv_X6_240 (cr_X6_bufferKey hv) (kc_X6_bufferKey hv) dX6_withNode_111 [.int v26, .long ((31 : Int64) * z21)] (rest := [.long ((31 : Int64) * z21)]) rfl rfl rfl hl.1 (Nat.le_of_ble_eq_true rfl) ⟨Nat.le_of_ble_eq_true rfl, Nat.le_of_ble_eq_true rfl⟩ ⟨Nat.zero_le _, Nat.zero_le _⟩ hW (fun H locs hW => ?_)
        refine lv_i2l (v := Int32.toInt64 v26) hx hb dX6_withNode_114 rfl ?_
        refine lv_ladd hx hb dX6_withNode_115 ?_
        refine lv_topl (fun v28 ev28 => ?_)
        replace h := bq_letE ev28 h
        refine lv_lstore (lv' := [(5, .long v28), (0, .ref a0), (3, .int x3), (4, .ref v2), (7, .int z22)]) hx hb dX6_withNode_116 hl (by decide) rfl (fun ls hl => ?_)
        obtain ⟨v29, ev29⟩ : ∃ y : Int32, y = z22 + 1 := ⟨_, rfl⟩
        replace h := bq_letE ev29 h
        refine lv_iinc (v := v29) (lv' := [(7, .int v29), (5, .long v28), (0, .ref a0), (3, .int x3), (4, .ref v2)]) hx hb dX6_withNode_118 hl (k := 4) rfl (by rw [ev29]; rfl) (by decide) rfl (fun ls hl => ?_)
        refine lv_goto (tgt := 88) hx hb dX6_withNode_121 (by decide) ?_
        exact ih v28 v29 _ _ _ h hW (lv_sub hl [2, 3, 4, 1, 0] rfl)
  refine hL88 _ (fun y7 y8 H locs ls h hW hl => ?_) bq_fuel y5 (0 : Int32) _ _ _ h hW (lv_sub hl [1, 2, 3, 4, 0] rfl)
  refine lv_iconst (v := 0) hx hb dX6_withNode_124 (by decide) ?_
  refine lv_istore (lv' := [(7, .int (0 : Int32)), (0, .ref a0), (3, .int x3), (4, .ref v2), (5, .long y7)]) hx hb dX6_withNode_125 hl (by decide) rfl (fun ls hl => ?_)
  have hL127 : ∀ (n : Nat) (z11 : Int64) (z12 : Int32) (H1 : Heap) (locs1 : List Loc) (ls1 : Array Slot), tl_X6_withNode_127 E a0 x3 v2 n z11 z12 = some (Sum.inl R, E9) → bq_H g L E z s.heap H1 locs1 → lv_has ls1 8 [(0, .ref a0), (3, .int x3), (4, .ref v2), (5, .long z11), (7, .int z12)] → W p l e { frames := 5, cells := 0, slots := 0, locals := 129 } s m args below meth c H1 locs1 0 0 (MQ below (bq_Q g L E9 z (some (.long R))) args s 0 0 (bq_A z)) (F0 m 127 ls1 []) := by
    intro n
    induction n with
    | zero => intro z11 z12 H locs ls h hW hl; cases h
    | succ n ih =>
      intro z11 z12 H locs ls h hW hl
      rw [tl_X6_withNode_127.eq_2] at h
      refine lv_iload hx hb dX6_withNode_127 (lv_at hl 4 rfl) ?_
      refine lv_aload hx hb dX6_withNode_129 (lv_at hl 2 rfl) ?_
      obtain ⟨v13, hv, h⟩ := bq_bind h
      refine bq_getr S hK fl_X6_171 dX6_withNode_131 hv hW ?_
      obtain ⟨v14, hv, h⟩ := bq_bind h
      refine bq_callV S hK hz mv_X6_175 (c_X2_size hv) (kc_X2_size hv) dX6_withNode_134 [.int v14, .int z12] (rest := [.int z12]) rfl rfl rfl hl.1 (Nat.le_of_ble_eq_true rfl) ⟨Nat.le_of_ble_eq_true rfl, Nat.le_of_ble_eq_true rfl⟩ ⟨Nat.zero_le _, Nat.zero_le _⟩ hW (fun H locs hW => ?_)
      refine lv_icmp_ge (tgt := 161) hx hb dX6_withNode_137 (by decide) (fun hc => ?_) (fun hc => ?_)
      · replace h := bq_ifT hc h
        refine lv_ldc2 (own := RX6) (v := 31) hx hb S.2.2.2.1 (S.2.2.2.2 _ (bq_wi 418 (by decide +kernel) rfl)) dX6_withNode_161 ?_
        refine lv_lload hx hb dX6_withNode_164 (lv_at hl 3 rfl) ?_
        refine lv_lmul hx hb dX6_withNode_166 ?_
        refine lv_aload_n hx hb dX6_withNode_167 rfl (lv_at hl 0 rfl) ?_
        obtain ⟨v15, hv, h⟩ := bq_bind h
        refine bq_getr S hK fl_X6_19 dX6_withNode_168 hv hW ?_
        refine lv_aload_n hx hb dX6_withNode_171 rfl (lv_at hl 0 rfl) ?_
        obtain ⟨v16, hv, h⟩ := bq_bind h
        refine bq_getr S hK fl_X6_10 dX6_withNode_172 hv hW ?_
        refine lv_iload_n hx hb dX6_withNode_175 rfl (lv_at hl 1 rfl) ?_
        obtain ⟨v17, hv, h⟩ := bq_bind h
        refine bq_callV S hK hz mv_X6_135 (c_X5_mostProbes hv) (kc_X5_mostProbes hv) dX6_withNode_176 [.int v17.1, .long ((31 : Int64) * z11)] (rest := [.long ((31 : Int64) * z11)]) rfl rfl rfl hl.1 (Nat.le_of_ble_eq_true rfl) ⟨Nat.le_of_ble_eq_true rfl, Nat.le_of_ble_eq_true rfl⟩ ⟨Nat.zero_le _, Nat.zero_le _⟩ hW (fun H locs hW => ?_)
        refine lv_i2l (v := Int32.toInt64 v17.1) hx hb dX6_withNode_179 rfl ?_
        refine lv_ladd hx hb dX6_withNode_180 ?_
        cases h
        exact bq_retl S hr hlocks hK hz dX6_withNode_181 hW
      · replace h := bq_ifF hc h
        refine lv_aload_n hx hb dX6_withNode_140 rfl (lv_at hl 0 rfl) ?_
        refine lv_lload hx hb dX6_withNode_141 (lv_at hl 3 rfl) ?_
        refine lv_aload hx hb dX6_withNode_143 (lv_at hl 2 rfl) ?_
        obtain ⟨v18, hv, h⟩ := bq_bind h
        refine bq_getr S hK fl_X6_171 dX6_withNode_145 hv hW ?_
        refine lv_iload hx hb dX6_withNode_148 (lv_at hl 4 rfl) ?_
        obtain ⟨v19, hv, h⟩ := bq_bind h
        refine bq_callV S hK hz mv_X6_243 (c_X6_withEntry hv) (kc_X6_withEntry hv) dX6_withNode_150 [.long v19] (rest := []) rfl rfl rfl hl.1 (Nat.le_of_ble_eq_true rfl) ⟨Nat.le_of_ble_eq_true rfl, Nat.le_of_ble_eq_true rfl⟩ ⟨Nat.zero_le _, Nat.zero_le _⟩ hW (fun H locs hW => ?_)
        refine lv_lstore (lv' := [(5, .long v19), (0, .ref a0), (3, .int x3), (4, .ref v2), (7, .int z12)]) hx hb dX6_withNode_153 hl (by decide) rfl (fun ls hl => ?_)
        obtain ⟨v20, ev20⟩ : ∃ y : Int32, y = z12 + 1 := ⟨_, rfl⟩
        replace h := bq_letE ev20 h
        refine lv_iinc (v := v20) (lv' := [(7, .int v20), (5, .long v19), (0, .ref a0), (3, .int x3), (4, .ref v2)]) hx hb dX6_withNode_155 hl (k := 4) rfl (by rw [ev20]; rfl) (by decide) rfl (fun ls hl => ?_)
        refine lv_goto (tgt := 127) hx hb dX6_withNode_158 (by decide) ?_
        exact ih v19 v20 _ _ _ h hW (lv_sub hl [2, 3, 4, 1, 0] rfl)
  exact hL127 bq_fuel y7 (0 : Int32) _ _ _ h hW (lv_sub hl [1, 2, 3, 4, 0] rfl)

theorem kc_X6_digest {E : bq_E} {a0 : Nat} {R : ((Int64 ⊕ String) × bq_E)} (h : tw_X6_digest E a0 = some R) : bq_cls E a0 = 6 := (bq_guard h).1
set_option maxHeartbeats 4000000 in
set_option maxRecDepth 100000 in
theorem cr_X6_digest {l : Launch} {g : bq_G} {L : List Nat} {z : Nat} {E : bq_E} {a0 : Nat} {R : Int64} {E9 : bq_E} (h : tw_X6_digest E a0 = some (Sum.inl R, E9)) : bq_M l yX6_digest cX6_digest 4 (some .long) 6 156 [.ref a0] g L E z (some (.long R)) E9 := by
  unfold tw_X6_digest at h
  obtain ⟨hcl, h⟩ := bq_guard h
  refine bq_enter (by decide) (Nat.le_of_ble_eq_true rfl) ?_
  intro p e s m args below meth c S hr hlocks hK hz hW ls hl
  have S : CallFix p m c cX6_digest 4 s args bq_WA RX6 := S
  have hx := S.1
  have hb := S.2.1
  have hl : lv_has ls 4 [(0, .ref a0)] := hl
  refine lv_ldc2 (own := RX6) (v := 18592) hx hb S.2.2.2.1 (S.2.2.2.2 _ (bq_wi 417 (by decide +kernel) rfl)) dX6_digest_0 ?_
  refine lv_lstore_n (lv' := [(1, .long (18592 : Int64)), (0, .ref a0)]) hx hb dX6_digest_3 rfl hl (by decide) rfl (fun ls hl => ?_)
  refine lv_ldc2 (own := RX6) (v := 31) hx hb S.2.2.2.1 (S.2.2.2.2 _ (bq_wi 418 (by decide +kernel) rfl)) dX6_digest_4 ?_
  refine lv_lload_n hx hb dX6_digest_7 rfl (lv_at hl 0 rfl) ?_
  refine lv_lmul hx hb dX6_digest_8 ?_
  refine lv_aload_n hx hb dX6_digest_9 rfl (lv_at hl 1 rfl) ?_
  obtain ⟨v1, hv, h⟩ := bq_bind h
  refine bq_getr S hK fl_X6_26 dX6_digest_10 hv hW ?_
  obtain ⟨v2, hv, h⟩ := bq_bind h
  refine bq_geti S hK fl_X6_214 dX6_digest_13 hv hW ?_
  refine lv_i2l (v := Int32.toInt64 v2) hx hb dX6_digest_16 rfl ?_
  refine lv_ladd hx hb dX6_digest_17 ?_
  refine lv_topl (fun v3 ev3 => ?_)
  replace h := bq_letE ev3 h
  refine lv_lstore_n (lv' := [(1, .long v3), (0, .ref a0)]) hx hb dX6_digest_18 rfl hl (by decide) rfl (fun ls hl => ?_)
  refine lv_ldc2 (own := RX6) (v := 31) hx hb S.2.2.2.1 (S.2.2.2.2 _ (bq_wi 418 (by decide +kernel) rfl)) dX6_digest_19 ?_
  refine lv_lload_n hx hb dX6_digest_22 rfl (lv_at hl 0 rfl) ?_
  refine lv_lmul hx hb dX6_digest_23 ?_
  refine lv_aload_n hx hb dX6_digest_24 rfl (lv_at hl 1 rfl) ?_
  obtain ⟨v4, hv, h⟩ := bq_bind h
  refine bq_getr S hK fl_X6_10 dX6_digest_25 hv hW ?_
  obtain ⟨v5, hv, h⟩ := bq_bind h
  refine bq_geti S hK fl_X6_87 dX6_digest_28 hv hW ?_
  refine lv_i2l (v := Int32.toInt64 v5) hx hb dX6_digest_31 rfl ?_
  refine lv_ladd hx hb dX6_digest_32 ?_
  refine lv_topl (fun v6 ev6 => ?_)
  replace h := bq_letE ev6 h
  refine lv_lstore_n (lv' := [(1, .long v6), (0, .ref a0)]) hx hb dX6_digest_33 rfl hl (by decide) rfl (fun ls hl => ?_)
  refine lv_ldc2 (own := RX6) (v := 31) hx hb S.2.2.2.1 (S.2.2.2.2 _ (bq_wi 418 (by decide +kernel) rfl)) dX6_digest_34 ?_
  refine lv_lload_n hx hb dX6_digest_37 rfl (lv_at hl 0 rfl) ?_
  refine lv_lmul hx hb dX6_digest_38 ?_
  refine lv_aload_n hx hb dX6_digest_39 rfl (lv_at hl 1 rfl) ?_
  obtain ⟨v7, hv, h⟩ := bq_bind h
  refine bq_getr S hK fl_X6_10 dX6_digest_40 hv hW ?_
  obtain ⟨v8, hv, h⟩ := bq_bind h
  refine bq_geti S hK fl_X6_90 dX6_digest_43 hv hW ?_
  refine lv_i2l (v := Int32.toInt64 v8) hx hb dX6_digest_46 rfl ?_
  refine lv_ladd hx hb dX6_digest_47 ?_
  refine lv_topl (fun v9 ev9 => ?_)
  replace h := bq_letE ev9 h
  refine lv_lstore_n (lv' := [(1, .long v9), (0, .ref a0)]) hx hb dX6_digest_48 rfl hl (by decide) rfl (fun ls hl => ?_)
  refine lv_ldc2 (own := RX6) (v := 31) hx hb S.2.2.2.1 (S.2.2.2.2 _ (bq_wi 418 (by decide +kernel) rfl)) dX6_digest_49 ?_
  refine lv_lload_n hx hb dX6_digest_52 rfl (lv_at hl 0 rfl) ?_
  refine lv_lmul hx hb dX6_digest_53 ?_
  refine lv_aload_n hx hb dX6_digest_54 rfl (lv_at hl 1 rfl) ?_
  obtain ⟨v10, hv, h⟩ := bq_bind h
  refine bq_callV S hK hz mv_X6_224 (c_X6_nodes hv) (kc_X6_nodes hv) dX6_digest_55 [.int v10, .long ((31 : Int64) * v9)] (rest := [.long ((31 : Int64) * v9)]) rfl rfl rfl hl.1 (Nat.le_of_ble_eq_true rfl) ⟨Nat.le_of_ble_eq_true rfl, Nat.le_of_ble_eq_true rfl⟩ ⟨Nat.zero_le _, Nat.zero_le _⟩ hW (fun H locs hW => ?_)
  refine lv_i2l (v := Int32.toInt64 v10) hx hb dX6_digest_58 rfl ?_
  refine lv_ladd hx hb dX6_digest_59 ?_
  refine lv_topl (fun v11 ev11 => ?_)
  replace h := bq_letE ev11 h
  refine lv_lstore_n (lv' := [(1, .long v11), (0, .ref a0)]) hx hb dX6_digest_60 rfl hl (by decide) rfl (fun ls hl => ?_)
  refine lv_iconst (v := 0) hx hb dX6_digest_61 (by decide) ?_
  refine lv_istore_n (lv' := [(3, .int (0 : Int32)), (1, .long v11), (0, .ref a0)]) hx hb dX6_digest_62 rfl hl (by decide) rfl (fun ls hl => ?_)
  have hL63 : ∀ (K : Int64 → Int32 → bq_E → Option ((Int64 ⊕ String) × bq_E)) (hX : ∀ (u33 : Int64) (u34 : Int32) (E35 : bq_E) (H1 : Heap) (locs1 : List Loc) (ls1 : Array Slot), K u33 u34 E35 = some (Sum.inl R, E9) → bq_H g L E35 z s.heap H1 locs1 → lv_has ls1 4 [(0, .ref a0), (1, .long u33)] → W p l e { frames := 6, cells := 0, slots := 0, locals := 156 } s m args below meth c H1 locs1 0 0 (MQ below (bq_Q g L E9 z (some (.long R))) args s 0 0 (bq_A z)) (F0 m 87 ls1 [])), ∀ (n : Nat) (z24 : Int64) (z25 : Int32) (E26 : bq_E) (H1 : Heap) (locs1 : List Loc) (ls1 : Array Slot), tl_X6_digest_63 a0 K n z24 z25 E26 = some (Sum.inl R, E9) → bq_H g L E26 z s.heap H1 locs1 → lv_has ls1 4 [(0, .ref a0), (1, .long z24), (3, .int z25)] → W p l e { frames := 6, cells := 0, slots := 0, locals := 156 } s m args below meth c H1 locs1 0 0 (MQ below (bq_Q g L E9 z (some (.long R))) args s 0 0 (bq_A z)) (F0 m 63 ls1 []) := by
    intro K hX n
    induction n with
    | zero => intro z24 z25 E26 H locs ls h hW hl; cases h
    | succ n ih =>
      intro z24 z25 E26 H locs ls h hW hl
      rw [tl_X6_digest_63.eq_2] at h
      refine lv_iload_n hx hb dX6_digest_63 rfl (lv_at hl 2 rfl) ?_
      refine lv_aload_n hx hb dX6_digest_64 rfl (lv_at hl 0 rfl) ?_
      obtain ⟨v27, hv, h⟩ := bq_bind h
      refine bq_getr S hK fl_X6_10 dX6_digest_65 hv hW ?_
      obtain ⟨v28, hv, h⟩ := bq_bind h
      refine bq_geti S hK fl_X6_38 dX6_digest_68 hv hW ?_
      refine lv_icmp_ge (tgt := 87) hx hb dX6_digest_71 (by decide) (fun hc => ?_) (fun hc => ?_)
      · replace h := bq_ifT hc h
        exact hX z24 z25 E26 _ _ _ h hW (lv_sub hl [0, 1] rfl)
      · replace h := bq_ifF hc h
        refine lv_aload_n hx hb dX6_digest_74 rfl (lv_at hl 0 rfl) ?_
        refine lv_lload_n hx hb dX6_digest_75 rfl (lv_at hl 1 rfl) ?_
        refine lv_iload_n hx hb dX6_digest_76 rfl (lv_at hl 2 rfl) ?_
        obtain ⟨v29, hv, h⟩ := bq_bind h
        rcases hq : v29.1 with v30 | X31
        all_goals rw [hq] at h
        all_goals replace hv := bq_pairE hq hv
        rotate_left
        · replace h := bq_elimR h
          cases h
        replace h := bq_elimL h
        refine bq_callV S hK hz mv_X6_227 (cr_X6_withNode hv) (kc_X6_withNode hv) dX6_digest_77 [.long v30] (rest := []) rfl rfl rfl hl.1 (Nat.le_of_ble_eq_true rfl) ⟨Nat.le_of_ble_eq_true rfl, Nat.le_of_ble_eq_true rfl⟩ ⟨Nat.zero_le _, Nat.zero_le _⟩ hW (fun H locs hW => ?_)
        refine lv_lstore_n (lv' := [(1, .long v30), (0, .ref a0), (3, .int z25)]) hx hb dX6_digest_80 rfl hl (by decide) rfl (fun ls hl => ?_)
        obtain ⟨v32, ev32⟩ : ∃ y : Int32, y = z25 + 1 := ⟨_, rfl⟩
        replace h := bq_letE ev32 h
        refine lv_iinc (v := v32) (lv' := [(3, .int v32), (1, .long v30), (0, .ref a0)]) hx hb dX6_digest_81 hl (k := 2) rfl (by rw [ev32]; rfl) (by decide) rfl (fun ls hl => ?_)
        refine lv_goto (tgt := 63) hx hb dX6_digest_84 (by decide) ?_
        exact ih v30 v32 v29.2 _ _ _ h hW (lv_sub hl [2, 1, 0] rfl)
  refine hL63 _ (fun y12 y13 E14 H locs ls h hW hl => ?_) bq_fuel v11 (0 : Int32) E _ _ _ h hW (lv_sub hl [2, 1, 0] rfl)
  refine lv_iconst (v := 0) hx hb dX6_digest_87 (by decide) ?_
  refine lv_istore_n (lv' := [(3, .int (0 : Int32)), (0, .ref a0), (1, .long y12)]) hx hb dX6_digest_88 rfl hl (by decide) rfl (fun ls hl => ?_)
  have hL89 : ∀ (n : Nat) (z17 : Int64) (z18 : Int32) (H1 : Heap) (locs1 : List Loc) (ls1 : Array Slot), tl_X6_digest_89 E14 a0 n z17 z18 = some (Sum.inl R, E9) → bq_H g L E14 z s.heap H1 locs1 → lv_has ls1 4 [(0, .ref a0), (1, .long z17), (3, .int z18)] → W p l e { frames := 6, cells := 0, slots := 0, locals := 156 } s m args below meth c H1 locs1 0 0 (MQ below (bq_Q g L E9 z (some (.long R))) args s 0 0 (bq_A z)) (F0 m 89 ls1 []) := by
    intro n
    induction n with
    | zero => intro z17 z18 H locs ls h hW hl; cases h
    | succ n ih =>
      intro z17 z18 H locs ls h hW hl
      rw [tl_X6_digest_89.eq_2] at h
      refine lv_iload_n hx hb dX6_digest_89 rfl (lv_at hl 2 rfl) ?_
      refine lv_bipush (v := 6) hx hb dX6_digest_90 (by decide) ?_
      refine lv_icmp_gt (tgt := 114) hx hb dX6_digest_92 (by decide) (fun hc => ?_) (fun hc => ?_)
      · replace h := bq_ifT hc h
        refine lv_lload_n hx hb dX6_digest_114 rfl (lv_at hl 1 rfl) ?_
        cases h
        exact bq_retl S hr hlocks hK hz dX6_digest_115 hW
      · replace h := bq_ifF hc h
        refine lv_ldc2 (own := RX6) (v := 31) hx hb S.2.2.2.1 (S.2.2.2.2 _ (bq_wi 418 (by decide +kernel) rfl)) dX6_digest_95 ?_
        refine lv_lload_n hx hb dX6_digest_98 rfl (lv_at hl 1 rfl) ?_
        refine lv_lmul hx hb dX6_digest_99 ?_
        refine lv_aload_n hx hb dX6_digest_100 rfl (lv_at hl 0 rfl) ?_
        refine lv_iload_n hx hb dX6_digest_101 rfl (lv_at hl 2 rfl) ?_
        obtain ⟨v19, hv, h⟩ := bq_bind h
        obtain v20 | X21 := v19
        rotate_left
        · replace h := bq_elimR h
          cases h
        replace h := bq_elimL h
        refine bq_callV S hK hz mv_X6_231 (cr_X6_count hv) (kc_X6_count hv) dX6_digest_102 [.int v20, .long ((31 : Int64) * z17)] (rest := [.long ((31 : Int64) * z17)]) rfl rfl rfl hl.1 (Nat.le_of_ble_eq_true rfl) ⟨Nat.le_of_ble_eq_true rfl, Nat.le_of_ble_eq_true rfl⟩ ⟨Nat.zero_le _, Nat.zero_le _⟩ hW (fun H locs hW => ?_)
        refine lv_i2l (v := Int32.toInt64 v20) hx hb dX6_digest_105 rfl ?_
        refine lv_ladd hx hb dX6_digest_106 ?_
        refine lv_topl (fun v22 ev22 => ?_)
        replace h := bq_letE ev22 h
        refine lv_lstore_n (lv' := [(1, .long v22), (0, .ref a0), (3, .int z18)]) hx hb dX6_digest_107 rfl hl (by decide) rfl (fun ls hl => ?_)
        obtain ⟨v23, ev23⟩ : ∃ y : Int32, y = z18 + 1 := ⟨_, rfl⟩
        replace h := bq_letE ev23 h
        refine lv_iinc (v := v23) (lv' := [(3, .int v23), (1, .long v22), (0, .ref a0)]) hx hb dX6_digest_108 hl (k := 2) rfl (by rw [ev23]; rfl) (by decide) rfl (fun ls hl => ?_)
        refine lv_goto (tgt := 89) hx hb dX6_digest_111 (by decide) ?_
        exact ih v22 v23 _ _ _ h hW (lv_sub hl [2, 1, 0] rfl)
  exact hL89 bq_fuel y12 (0 : Int32) _ _ _ h hW (lv_sub hl [1, 2, 0] rfl)
