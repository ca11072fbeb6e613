theorem kc_X2_copyFrom {E : bq_E} {a0 : Nat} {a1 : Nat} {R : bq_E} (h : tw_X2_copyFrom E a0 a1 = some R) : bq_cls E a0 = 2 := (bq_guard h).1
set_option maxHeartbeats 4000000 in
set_option maxRecDepth 100000 in
theorem c_X2_copyFrom {l : Launch} {g : bq_G} {L : List Nat} {z : Nat} {E : bq_E} {a0 : Nat} {a1 : Nat} {R : bq_E} (h : tw_X2_copyFrom E a0 a1 = some R) : bq_M l yX2_copyFrom cX2_copyFrom 2 none 2 62 [.ref a0, .ref a1] g L E z none R := by
  unfold tw_X2_copyFrom at h
  obtain ⟨hcl, h⟩ := bq_guard h
  refine bq_enter (by decide) (Nat.le_of_ble_eq_true rfl) ?_
  intro p e s m args below meth c S hr hlocks hK hz hW ls hl
  have S : CallFix p m c cX2_copyFrom 2 s args bq_WA RX2 := S
  have hx := S.1
  have hb := S.2.1
  have hl : lv_has ls 2 [(0, .ref a0), (1, .ref a1)] := hl
  refine lv_aload_n hx hb dX2_copyFrom_0 rfl (lv_at hl 0 rfl) ?_
  obtain ⟨v1, hv, h⟩ := bq_bind h
  refine bq_getr S hK fl_X2_14 dX2_copyFrom_1 hv hW ?_
  refine lv_aload_n hx hb dX2_copyFrom_4 rfl (lv_at hl 1 rfl) ?_
  obtain ⟨v2, hv, h⟩ := bq_bind h
  refine bq_getr S hK fl_X2_14 dX2_copyFrom_5 hv hW ?_
  obtain ⟨E3, hv, h⟩ := bq_bind h
  refine bq_callV S hK hz mv_X2_58 (c_X3_copyFrom hv) (kc_X3_copyFrom hv) dX2_copyFrom_8 [] (rest := []) rfl rfl rfl hl.1 (Nat.le_of_ble_eq_true rfl) ⟨Nat.le_of_ble_eq_true rfl, Nat.le_of_ble_eq_true rfl⟩ ⟨Nat.zero_le _, Nat.zero_le _⟩ hW (fun H locs hW => ?_)
  refine lv_aload_n hx hb dX2_copyFrom_11 rfl (lv_at hl 0 rfl) ?_
  obtain ⟨v4, hv, h⟩ := bq_bind h
  refine bq_getr S hK fl_X2_20 dX2_copyFrom_12 hv hW ?_
  refine lv_aload_n hx hb dX2_copyFrom_15 rfl (lv_at hl 1 rfl) ?_
  obtain ⟨v5, hv, h⟩ := bq_bind h
  refine bq_getr S hK fl_X2_20 dX2_copyFrom_16 hv hW ?_
  obtain ⟨E6, hv, h⟩ := bq_bind h
  refine bq_callV S hK hz mv_X2_58 (c_X3_copyFrom hv) (kc_X3_copyFrom hv) dX2_copyFrom_19 [] (rest := []) rfl rfl rfl hl.1 (Nat.le_of_ble_eq_true rfl) ⟨Nat.le_of_ble_eq_true rfl, Nat.le_of_ble_eq_true rfl⟩ ⟨Nat.zero_le _, Nat.zero_le _⟩ hW (fun H locs hW => ?_)
  refine lv_aload_n hx hb dX2_copyFrom_22 rfl (lv_at hl 0 rfl) ?_
  obtain ⟨v7, hv, h⟩ := bq_bind h
  refine bq_getr S hK fl_X2_23 dX2_copyFrom_23 hv hW ?_
  refine lv_aload_n hx hb dX2_copyFrom_26 rfl (lv_at hl 1 rfl) ?_
  obtain ⟨v8, hv, h⟩ := bq_bind h
  refine bq_getr S hK fl_X2_23 dX2_copyFrom_27 hv hW ?_
  obtain ⟨E9, hv, h⟩ := bq_bind h
  refine bq_callV S hK hz mv_X2_58 (c_X3_copyFrom hv) (kc_X3_copyFrom hv) dX2_copyFrom_30 [] (rest := []) rfl rfl rfl hl.1 (Nat.le_of_ble_eq_true rfl) ⟨Nat.le_of_ble_eq_true rfl, Nat.le_of_ble_eq_true rfl⟩ ⟨Nat.zero_le _, Nat.zero_le _⟩ hW (fun H locs hW => ?_)
  refine lv_aload_n hx hb dX2_copyFrom_33 rfl (lv_at hl 0 rfl) ?_
  obtain ⟨v10, hv, h⟩ := bq_bind h
  refine bq_getr S hK fl_X2_26 dX2_copyFrom_34 hv hW ?_
  refine lv_aload_n hx hb dX2_copyFrom_37 rfl (lv_at hl 1 rfl) ?_
  obtain ⟨v11, hv, h⟩ := bq_bind h
  refine bq_getr S hK fl_X2_26 dX2_copyFrom_38 hv hW ?_
  obtain ⟨E12, hv, h⟩ := bq_bind h
  refine bq_callV S hK hz mv_X2_58 (c_X3_copyFrom hv) (kc_X3_copyFrom hv) dX2_copyFrom_41 [] (rest := []) rfl rfl rfl hl.1 (Nat.le_of_ble_eq_true rfl) ⟨Nat.le_of_ble_eq_true rfl, Nat.le_of_ble_eq_true rfl⟩ ⟨Nat.zero_le _, Nat.zero_le _⟩ hW (fun H locs hW => ?_)
  refine lv_aload_n hx hb dX2_copyFrom_44 rfl (lv_at hl 0 rfl) ?_
  obtain ⟨v13, hv, h⟩ := bq_bind h
  refine bq_getr S hK fl_X2_29 dX2_copyFrom_45 hv hW ?_
  refine lv_aload_n hx hb dX2_copyFrom_48 rfl (lv_at hl 1 rfl) ?_
  obtain ⟨v14, hv, h⟩ := bq_bind h
  refine bq_getr S hK fl_X2_29 dX2_copyFrom_49 hv hW ?_
  obtain ⟨E15, hv, h⟩ := bq_bind h
  refine bq_callV S hK hz mv_X2_58 (c_X3_copyFrom hv) (kc_X3_copyFrom hv) dX2_copyFrom_52 [] (rest := []) rfl rfl rfl hl.1 (Nat.le_of_ble_eq_true rfl) ⟨Nat.le_of_ble_eq_true rfl, Nat.le_of_ble_eq_true rfl⟩ ⟨Nat.zero_le _, Nat.zero_le _⟩ hW (fun H locs hW => ?_)
  cases h
  exact bq_retv S hr hlocks hK hz dX2_copyFrom_55 hW

theorem kc_X2_size {E : bq_E} {a0 : Nat} {R : Int32} (h : tw_X2_size E a0 = some R) : bq_cls E a0 = 2 := (bq_guard h).1
set_option maxHeartbeats 4000000 in
set_option maxRecDepth 100000 in
theorem c_X2_size {l : Launch} {g : bq_G} {L : List Nat} {z : Nat} {E : bq_E} {a0 : Nat} {R : Int32} (h : tw_X2_size E a0 = some R) : bq_M l yX2_size cX2_size 1 (some .int) 1 20 [.ref a0] g L E z (some (.int R)) E := by
  unfold tw_X2_size at h
  obtain ⟨hcl, h⟩ := bq_guard h
  refine bq_enter (by decide) (Nat.le_of_ble_eq_true rfl) ?_
  intro p e s m args below meth c S hr hlocks hK hz hW ls hl
  have S : CallFix p m c cX2_size 1 s args bq_WA RX2 := S
  have hx := S.1
  have hb := S.2.1
  have hl : lv_has ls 1 [(0, .ref a0)] := hl
  refine lv_aload_n hx hb dX2_size_0 rfl (lv_at hl 0 rfl) ?_
  obtain ⟨v1, hv, h⟩ := bq_bind h
  refine bq_getr S hK fl_X2_14 dX2_size_1 hv hW ?_
  obtain ⟨v2, hv, h⟩ := bq_bind h
  refine bq_callV S hK hz mv_X2_35 (c_X3_size hv) (kc_X3_size hv) dX2_size_4 [.int v2] (rest := []) rfl rfl rfl hl.1 (Nat.le_of_ble_eq_true rfl) ⟨Nat.le_of_ble_eq_true rfl, Nat.le_of_ble_eq_true rfl⟩ ⟨Nat.zero_le _, Nat.zero_le _⟩ hW (fun H locs hW => ?_)
  cases h
  exact bq_reti S hr hlocks hK hz dX2_size_7 hW

theorem kc_X2_bridgeOf {E : bq_E} {a0 : Nat} {x1 : Int32} {x2 : Int32} {R : Int32} (h : tw_X2_bridgeOf E a0 x1 x2 = some R) : bq_cls E a0 = 2 := (bq_guard h).1
set_option maxHeartbeats 4000000 in
set_option maxRecDepth 100000 in
theorem c_X2_bridgeOf {l : Launch} {g : bq_G} {L : List Nat} {z : Nat} {E : bq_E} {a0 : Nat} {x1 : Int32} {x2 : Int32} {R : Int32} (h : tw_X2_bridgeOf E a0 x1 x2 = some R) : bq_M l yX2_bridgeOf cX2_bridgeOf 4 (some .int) 1 22 [.ref a0, .int x1, .int x2] g L E z (some (.int R)) E := by
  unfold tw_X2_bridgeOf at h
  obtain ⟨hcl, h⟩ := bq_guard h
  refine bq_enter (by decide) (Nat.le_of_ble_eq_true rfl) ?_
  intro p e s m args below meth c S hr hlocks hK hz hW ls hl
  have S : CallFix p m c cX2_bridgeOf 4 s args bq_WA RX2 := S
  have hx := S.1
  have hb := S.2.1
  have hl : lv_has ls 4 [(0, .ref a0), (1, .int x1), (2, .int x2)] := hl
  refine lv_iload_n hx hb dX2_bridgeOf_0 rfl (lv_at hl 2 rfl) ?_
  obtain ⟨k27, ek27, h⟩ := bq_letK h
  have hjk27 : ∀ (b1 : Nat) (H1 : Heap) (locs1 : List Loc) (ls1 : Array Slot), k27 b1 = some R → bq_H g L E z s.heap H1 locs1 → lv_has ls1 4 [(1, .int x1)] → W p l e { frames := 1, cells := 0, slots := 0, locals := 22 } s m args below meth c H1 locs1 0 0 (MQ below (bq_Q g L E z (some (.int R))) args s 0 0 (bq_A z)) (F0 m 27 ls1 [.ref b1]) := by
    intro b1 H locs ls h hW hl
    replace h := bq_kap1 ek27 h
    refine lv_astore_n (lv' := [(3, .ref b1), (1, .int x1)]) hx hb dX2_bridgeOf_27 rfl hl (by decide) rfl (fun ls hl => ?_)
    refine lv_aload_n hx hb dX2_bridgeOf_28 rfl (lv_at hl 0 rfl) ?_
    refine lv_iload_n hx hb dX2_bridgeOf_29 rfl (lv_at hl 1 rfl) ?_
    refine lv_iconst (v := 0) hx hb dX2_bridgeOf_30 (by decide) ?_
    obtain ⟨v2, hv, h⟩ := bq_bind h
    refine bq_callV S hK hz mv_X2_39 (c_X3_at hv) (kc_X3_at hv) dX2_bridgeOf_31 [.int v2] (rest := []) rfl rfl rfl hl.1 (Nat.le_of_ble_eq_true rfl) ⟨Nat.le_of_ble_eq_true rfl, Nat.le_of_ble_eq_true rfl⟩ ⟨Nat.zero_le _, Nat.zero_le _⟩ hW (fun H locs hW => ?_)
    cases h
    exact bq_reti S hr hlocks hK hz dX2_bridgeOf_34 hW
  clear ek27
  refine lv_if_ne (tgt := 11) hx hb dX2_bridgeOf_1 (by decide) (fun hc => ?_) (fun hc => ?_)
  · replace h := bq_ifF hc h
    refine lv_iload_n hx hb dX2_bridgeOf_11 rfl (lv_at hl 2 rfl) ?_
    refine lv_iconst (v := 1) hx hb dX2_bridgeOf_12 (by decide) ?_
    refine lv_icmp_ne (tgt := 23) hx hb dX2_bridgeOf_13 (by decide) (fun hc => ?_) (fun hc => ?_)
    · replace h := bq_ifF hc h
      refine lv_aload_n hx hb dX2_bridgeOf_23 rfl (lv_at hl 0 rfl) ?_
      obtain ⟨v3, hv, h⟩ := bq_bind h
      refine bq_getr S hK fl_X2_29 dX2_bridgeOf_24 hv hW ?_
      exact hjk27 v3 _ _ _ h hW (lv_sub hl [1] rfl)
    · replace h := bq_ifT hc h
      refine lv_aload_n hx hb dX2_bridgeOf_16 rfl (lv_at hl 0 rfl) ?_
      obtain ⟨v4, hv, h⟩ := bq_bind h
      refine bq_getr S hK fl_X2_26 dX2_bridgeOf_17 hv hW ?_
      refine lv_goto (tgt := 27) hx hb dX2_bridgeOf_20 (by decide) ?_
      exact hjk27 v4 _ _ _ h hW (lv_sub hl [1] rfl)
  · replace h := bq_ifT hc h
    refine lv_aload_n hx hb dX2_bridgeOf_4 rfl (lv_at hl 0 rfl) ?_
    obtain ⟨v5, hv, h⟩ := bq_bind h
    refine bq_getr S hK fl_X2_23 dX2_bridgeOf_5 hv hW ?_
    refine lv_goto (tgt := 27) hx hb dX2_bridgeOf_8 (by decide) ?_
    exact hjk27 v5 _ _ _ h hW (lv_sub hl [1] rfl)

theorem kc_X2_layBridges {E : bq_E} {a0 : Nat} {a1 : Nat} {a2 : Nat} {R : bq_E} (h : tw_X2_layBridges E a0 a1 a2 = some R) : bq_cls E a0 = 2 := (bq_guard h).1
set_option maxHeartbeats 4000000 in
set_option maxRecDepth 100000 in
theorem c_X2_layBridges {l : Launch} {g : bq_G} {L : List Nat} {z : Nat} {E : bq_E} {a0 : Nat} {a1 : Nat} {a2 : Nat} {R : bq_E} (h : tw_X2_layBridges E a0 a1 a2 = some R) : bq_M l yX2_layBridges cX2_layBridges 5 none 1 23 [.ref a0, .ref a1, .ref a2] g L E z none R := by
  unfold tw_X2_layBridges at h
  obtain ⟨hcl, h⟩ := bq_guard h
  refine bq_enter (by decide) (Nat.le_of_ble_eq_true rfl) ?_
  intro p e s m args below meth c S hr hlocks hK hz hW ls hl
  have S : CallFix p m c cX2_layBridges 5 s args bq_WA RX2 := S
  have hx := S.1
  have hb := S.2.1
  have hl : lv_has ls 5 [(0, .ref a0), (1, .ref a1), (2, .ref a2)] := hl
  refine lv_aload_n hx hb dX2_layBridges_0 rfl (lv_at hl 1 rfl) ?_
  refine lv_iconst (v := 0) hx hb dX2_layBridges_1 (by decide) ?_
  obtain ⟨E1, hv, h⟩ := bq_bind h
  refine bq_callV S hK hz mv_X2_43 (c_X3_cutTo hv) (kc_X3_cutTo hv) dX2_layBridges_2 [] (rest := []) rfl rfl rfl hl.1 (Nat.le_of_ble_eq_true rfl) ⟨Nat.le_of_ble_eq_true rfl, Nat.le_of_ble_eq_true rfl⟩ ⟨Nat.zero_le _, Nat.zero_le _⟩ hW (fun H locs hW => ?_)
  refine lv_iconst (v := 0) hx hb dX2_layBridges_5 (by decide) ?_
  refine lv_istore_n (lv' := [(3, .int (0 : Int32)), (0, .ref a0), (1, .ref a1), (2, .ref a2)]) hx hb dX2_layBridges_6 rfl hl (by decide) rfl (fun ls hl => ?_)
  refine lv_iconst (v := 0) hx hb dX2_layBridges_7 (by decide) ?_
  refine lv_istore (lv' := [(4, .int (0 : Int32)), (3, .int (0 : Int32)), (0, .ref a0), (1, .ref a1), (2, .ref a2)]) hx hb dX2_layBridges_8 hl (by decide) rfl (fun ls hl => ?_)
  have hL10 : ∀ (n : Nat) (z5 : Int32) (z6 : Int32) (E7 : bq_E) (H1 : Heap) (locs1 : List Loc) (ls1 : Array Slot), tl_X2_layBridges_10 a0 a1 a2 n z5 z6 E7 = some R → bq_H g L E7 z s.heap H1 locs1 → lv_has ls1 5 [(0, .ref a0), (1, .ref a1), (2, .ref a2), (3, .int z5), (4, .int z6)] → W p l e { frames := 1, cells := 0, slots := 0, locals := 23 } s m args below meth c H1 locs1 0 0 (MQ below (bq_Q g L R z none) args s 0 0 (bq_A z)) (F0 m 10 ls1 []) := by
    intro n
    induction n with
    | zero => intro z5 z6 E7 H locs ls h hW hl; cases h
    | succ n ih =>
      intro z5 z6 E7 H locs ls h hW hl
      rw [tl_X2_layBridges_10.eq_2] at h
      refine lv_iload hx hb dX2_layBridges_10 (lv_at hl 4 rfl) ?_
      refine lv_aload_n hx hb dX2_layBridges_12 rfl (lv_at hl 0 rfl) ?_
      obtain ⟨v8, hv, h⟩ := bq_bind h
      refine bq_getr S hK fl_X2_14 dX2_layBridges_13 hv hW ?_
      obtain ⟨v9, hv, h⟩ := bq_bind h
      refine bq_callV S hK hz mv_X2_35 (c_X3_size hv) (kc_X3_size hv) dX2_layBridges_16 [.int v9, .int z6] (rest := [.int z6]) rfl rfl rfl hl.1 (Nat.le_of_ble_eq_true rfl) ⟨Nat.le_of_ble_eq_true rfl, Nat.le_of_ble_eq_true rfl⟩ ⟨Nat.zero_le _, Nat.zero_le _⟩ hW (fun H locs hW => ?_)
      refine lv_icmp_gt (tgt := 51) hx hb dX2_layBridges_19 (by decide) (fun hc => ?_) (fun hc => ?_)
      · replace h := bq_ifT hc h
        cases h
        exact bq_retv S hr hlocks hK hz dX2_layBridges_51 hW
      · replace h := bq_ifF hc h
        refine lv_aload_n hx hb dX2_layBridges_22 rfl (lv_at hl 2 rfl) ?_
        refine lv_aload_n hx hb dX2_layBridges_23 rfl (lv_at hl 0 rfl) ?_
        obtain ⟨v10, hv, h⟩ := bq_bind h
        refine bq_getr S hK fl_X2_14 dX2_layBridges_24 hv hW ?_
        refine lv_iload hx hb dX2_layBridges_27 (lv_at hl 4 rfl) ?_
        refine lv_sipush (v := 10000) hx hb dX2_layBridges_29 (by decide) ?_
        obtain ⟨v11, hv, h⟩ := bq_bind h
        refine bq_callV S hK hz mv_X2_39 (c_X3_at hv) (kc_X3_at hv) dX2_layBridges_32 [.int v11, .ref a2] (rest := [.ref a2]) rfl rfl rfl hl.1 (Nat.le_of_ble_eq_true rfl) ⟨Nat.le_of_ble_eq_true rfl, Nat.le_of_ble_eq_true rfl⟩ ⟨Nat.zero_le _, Nat.zero_le _⟩ hW (fun H locs hW => ?_)
        refine lv_iload_n hx hb dX2_layBridges_35 rfl (lv_at hl 3 rfl) ?_
        obtain ⟨v12, hv, h⟩ := bq_bind h
        refine bq_callV S hK hz mv_X2_55 (c_X3_firstAtLeast hv) (kc_X3_firstAtLeast hv) dX2_layBridges_36 [.int v12] (rest := []) rfl rfl rfl hl.1 (Nat.le_of_ble_eq_true rfl) ⟨Nat.le_of_ble_eq_true rfl, Nat.le_of_ble_eq_true rfl⟩ ⟨Nat.zero_le _, Nat.zero_le _⟩ hW (fun H locs hW => ?_)
        refine lv_istore_n (lv' := [(3, .int v12), (0, .ref a0), (1, .ref a1), (2, .ref a2), (4, .int z6)]) hx hb dX2_layBridges_39 rfl hl (by decide) rfl (fun ls hl => ?_)
        refine lv_aload_n hx hb dX2_layBridges_40 rfl (lv_at hl 2 rfl) ?_
        refine lv_iload_n hx hb dX2_layBridges_41 rfl (lv_at hl 0 rfl) ?_
        obtain ⟨E13, hv, h⟩ := bq_bind h
        refine bq_callV S hK hz mv_X2_32 (c_X3_append hv) (kc_X3_append hv) dX2_layBridges_42 [] (rest := []) rfl rfl rfl hl.1 (Nat.le_of_ble_eq_true rfl) ⟨Nat.le_of_ble_eq_true rfl, Nat.le_of_ble_eq_true rfl⟩ ⟨Nat.zero_le _, Nat.zero_le _⟩ hW (fun H locs hW => ?_)
        obtain ⟨v14, ev14⟩ : ∃ y : Int32, y = z6 + 1 := ⟨_, rfl⟩
        replace h := bq_letE ev14 h
        refine lv_iinc (v := v14) (lv' := [(4, .int v14), (3, .int v12), (0, .ref a0), (1, .ref a1), (2, .ref a2)]) hx hb dX2_layBridges_45 hl (k := 4) rfl (by rw [ev14]; rfl) (by decide) rfl (fun ls hl => ?_)
        refine lv_goto (tgt := 10) hx hb dX2_layBridges_48 (by decide) ?_
        exact ih v12 v14 E13 _ _ _ h hW (lv_sub hl [2, 3, 4, 1, 0] rfl)
  exact hL10 bq_fuel (0 : Int32) (0 : Int32) E1 _ _ _ h hW (lv_sub hl [2, 3, 4, 1, 0] rfl)

theorem kc_X2_build {E : bq_E} {a0 : Nat} {a1 : Nat} {a2 : Nat} {a3 : Nat} {x4 : Int32} {R : bq_E} (h : tw_X2_build E a0 a1 a2 a3 x4 = some R) : bq_cls E a0 = 2 := (bq_guard h).1
set_option maxHeartbeats 4000000 in
set_option maxRecDepth 100000 in
theorem c_X2_build {l : Launch} {g : bq_G} {L : List Nat} {z : Nat} {E : bq_E} {a0 : Nat} {a1 : Nat} {a2 : Nat} {a3 : Nat} {x4 : Int32} {R : bq_E} (h : tw_X2_build E a0 a1 a2 a3 x4 = some R) : bq_M l yX2_build cX2_build 14 none 2 47 [.ref a0, .ref a1, .ref a2, .ref a3, .int x4] g L E z none R := by
  unfold tw_X2_build at h
  obtain ⟨hcl, h⟩ := bq_guard h
  refine bq_enter (by decide) (Nat.le_of_ble_eq_true rfl) ?_
  intro p e s m args below meth c S hr hlocks hK hz hW ls hl
  have S : CallFix p m c cX2_build 14 s args bq_WA RX2 := S
  have hx := S.1
  have hb := S.2.1
  have hl : lv_has ls 14 [(0, .ref a0), (1, .ref a1), (2, .ref a2), (3, .ref a3), (4, .int x4)] := hl
  refine lv_aload_n hx hb dX2_build_0 rfl (lv_at hl 0 rfl) ?_
  obtain ⟨v1, hv, h⟩ := bq_bind h
  refine bq_getr S hK fl_X2_14 dX2_build_1 hv hW ?_
  refine lv_iconst (v := 0) hx hb dX2_build_4 (by decide) ?_
  obtain ⟨E2, hv, h⟩ := bq_bind h
  refine bq_callV S hK hz mv_X2_43 (c_X3_cutTo hv) (kc_X3_cutTo hv) dX2_build_5 [] (rest := []) rfl rfl rfl hl.1 (Nat.le_of_ble_eq_true rfl) ⟨Nat.le_of_ble_eq_true rfl, Nat.le_of_ble_eq_true rfl⟩ ⟨Nat.zero_le _, Nat.zero_le _⟩ hW (fun H locs hW => ?_)
  refine lv_aload_n hx hb dX2_build_8 rfl (lv_at hl 0 rfl) ?_
  obtain ⟨v3, hv, h⟩ := bq_bind h
  refine bq_getr S hK fl_X2_20 dX2_build_9 hv hW ?_
  refine lv_iconst (v := 0) hx hb dX2_build_12 (by decide) ?_
  obtain ⟨E4, hv, h⟩ := bq_bind h
  refine bq_callV S hK hz mv_X2_43 (c_X3_cutTo hv) (kc_X3_cutTo hv) dX2_build_13 [] (rest := []) rfl rfl rfl hl.1 (Nat.le_of_ble_eq_true rfl) ⟨Nat.le_of_ble_eq_true rfl, Nat.le_of_ble_eq_true rfl⟩ ⟨Nat.zero_le _, Nat.zero_le _⟩ hW (fun H locs hW => ?_)
  refine lv_iconst (v := 0) hx hb dX2_build_16 (by decide) ?_
  refine lv_istore (lv' := [(5, .int (0 : Int32)), (0, .ref a0), (1, .ref a1), (2, .ref a2), (3, .ref a3), (4, .int x4)]) hx hb dX2_build_17 hl (by decide) rfl (fun ls hl => ?_)
  refine lv_iload hx hb dX2_build_19 (lv_at hl 5 rfl) ?_
  refine lv_iconst (v := 1) hx hb dX2_build_21 (by decide) ?_
  refine lv_isub hx hb dX2_build_22 ?_
  refine lv_topi (fun v5 ev5 => ?_)
  replace h := bq_letE ev5 h
  refine lv_istore (lv' := [(6, .int v5), (5, .int (0 : Int32)), (0, .ref a0), (1, .ref a1), (2, .ref a2), (3, .ref a3), (4, .int x4)]) hx hb dX2_build_23 hl (by decide) rfl (fun ls hl => ?_)
  refine lv_iload hx hb dX2_build_25 (lv_at hl 6 rfl) ?_
  refine lv_iconst (v := 1) hx hb dX2_build_27 (by decide) ?_
  refine lv_isub hx hb dX2_build_28 ?_
  refine lv_topi (fun v6 ev6 => ?_)
  replace h := bq_letE ev6 h
  refine lv_istore (lv' := [(7, .int v6), (6, .int v5), (5, .int (0 : Int32)), (0, .ref a0), (1, .ref a1), (2, .ref a2), (3, .ref a3), (4, .int x4)]) hx hb dX2_build_29 hl (by decide) rfl (fun ls hl => ?_)
  refine lv_aload_n hx hb dX2_build_31 rfl (lv_at hl 4 rfl) ?_
  obtain ⟨v7, hv, h⟩ := bq_bind h
  refine bq_callV S hK hz mv_X2_35 (c_X3_size hv) (kc_X3_size hv) dX2_build_32 [.int v7] (rest := []) rfl rfl rfl hl.1 (Nat.le_of_ble_eq_true rfl) ⟨Nat.le_of_ble_eq_true rfl, Nat.le_of_ble_eq_true rfl⟩ ⟨Nat.zero_le _, Nat.zero_le _⟩ hW (fun H locs hW => ?_)
  refine lv_aload_n hx hb dX2_build_35 rfl (lv_at hl 5 rfl) ?_
  obtain ⟨v8, hv, h⟩ := bq_bind h
  refine bq_callV S hK hz mv_X2_35 (c_X3_size hv) (kc_X3_size hv) dX2_build_36 [.int v8, .int v7] (rest := [.int v7]) rfl rfl rfl hl.1 (Nat.le_of_ble_eq_true rfl) ⟨Nat.le_of_ble_eq_true rfl, Nat.le_of_ble_eq_true rfl⟩ ⟨Nat.zero_le _, Nat.zero_le _⟩ hW (fun H locs hW => ?_)
  refine lv_iadd hx hb dX2_build_39 ?_
  refine lv_aload_n hx hb dX2_build_40 rfl (lv_at hl 6 rfl) ?_
  obtain ⟨v9, hv, h⟩ := bq_bind h
  refine bq_callV S hK hz mv_X2_35 (c_X3_size hv) (kc_X3_size hv) dX2_build_41 [.int v9, .int (v7 + v8)] (rest := [.int (v7 + v8)]) rfl rfl rfl hl.1 (Nat.le_of_ble_eq_true rfl) ⟨Nat.le_of_ble_eq_true rfl, Nat.le_of_ble_eq_true rfl⟩ ⟨Nat.zero_le _, Nat.zero_le _⟩ hW (fun H locs hW => ?_)
  refine lv_iadd hx hb dX2_build_44 ?_
  refine lv_topi (fun v10 ev10 => ?_)
  replace h := bq_letE ev10 h
  refine lv_istore (lv' := [(8, .int v10), (7, .int v6), (6, .int v5), (5, .int (0 : Int32)), (0, .ref a0), (1, .ref a1), (2, .ref a2), (3, .ref a3), (4, .int x4)]) hx hb dX2_build_45 hl (by decide) rfl (fun ls hl => ?_)
  refine lv_iconst (v := 0) hx hb dX2_build_47 (by decide) ?_
  refine lv_istore (lv' := [(9, .int (0 : Int32)), (8, .int v10), (7, .int v6), (6, .int v5), (5, .int (0 : Int32)), (0, .ref a0), (1, .ref a1), (2, .ref a2), (3, .ref a3), (4, .int x4)]) hx hb dX2_build_48 hl (by decide) rfl (fun ls hl => ?_)
  have hL50 : ∀ (K : Int32 → Int32 → Int32 → Int32 → bq_E → Option bq_E) (hX : ∀ (u52 : Int32) (u53 : Int32) (u54 : Int32) (u55 : Int32) (E56 : bq_E) (H1 : Heap) (locs1 : List Loc) (ls1 : Array Slot), K u52 u53 u54 u55 E56 = some R → bq_H g L E56 z s.heap H1 locs1 → lv_has ls1 14 [(0, .ref a0), (1, .ref a1), (2, .ref a2), (3, .ref a3)] → W p l e { frames := 2, cells := 0, slots := 0, locals := 47 } s m args below meth c H1 locs1 0 0 (MQ below (bq_Q g L R z none) args s 0 0 (bq_A z)) (F0 m 112 ls1 [])), ∀ (n : Nat) (z22 : Int32) (z23 : Int32) (z24 : Int32) (z25 : Int32) (E26 : bq_E) (H1 : Heap) (locs1 : List Loc) (ls1 : Array Slot), tl_X2_build_50 a0 a1 a2 a3 x4 v10 K n z22 z23 z24 z25 E26 = some R → bq_H g L E26 z s.heap H1 locs1 → lv_has ls1 14 [(0, .ref a0), (1, .ref a1), (2, .ref a2), (3, .ref a3), (4, .int x4), (5, .int z22), (6, .int z23), (7, .int z24), (8, .int v10), (9, .int z25)] → W p l e { frames := 2, cells := 0, slots := 0, locals := 47 } s m args below meth c H1 locs1 0 0 (MQ below (bq_Q g L R z none) args s 0 0 (bq_A z)) (F0 m 50 ls1 []) := by
    intro K hX n
    induction n with
    | zero => intro z22 z23 z24 z25 E26 H locs ls h hW hl; cases h
    | succ n ih =>
      intro z22 z23 z24 z25 E26 H locs ls h hW hl
      rw [tl_X2_build_50.eq_2] at h
      refine lv_iload hx hb dX2_build_50 (lv_at hl 9 rfl) ?_
      refine lv_iload hx hb dX2_build_52 (lv_at hl 8 rfl) ?_
      obtain ⟨k191, ek191, h⟩ := bq_letK h
      have hjk191 : ∀ (u0 : Unit) (H1 : Heap) (locs1 : List Loc) (ls1 : Array Slot), k191 u0 = some R → bq_H g L E26 z s.heap H1 locs1 → lv_has ls1 14 [(0, .ref a0), (1, .ref a1), (2, .ref a2), (3, .ref a3)] → W p l e { frames := 2, cells := 0, slots := 0, locals := 47 } s m args below meth c H1 locs1 0 0 (MQ below (bq_Q g L R z none) args s 0 0 (bq_A z)) (F0 m 191 ls1 []) := by
        intro u0 H locs ls h hW hl
        replace h := bq_kap1 ek191 h
        refine lv_aload_n hx hb dX2_build_191 rfl (lv_at hl 0 rfl) ?_
        refine lv_aload_n hx hb dX2_build_192 rfl (lv_at hl 0 rfl) ?_
        obtain ⟨v27, hv, h⟩ := bq_bind h
        refine bq_getr S hK fl_X2_23 dX2_build_193 hv hW ?_
        refine lv_aload_n hx hb dX2_build_196 rfl (lv_at hl 1 rfl) ?_
        obtain ⟨E28, hv, h⟩ := bq_bind h
        refine bq_callV S hK hz mv_X2_51 (c_X2_layBridges hv) (kc_X2_layBridges hv) dX2_build_197 [] (rest := []) rfl rfl rfl hl.1 (Nat.le_of_ble_eq_true rfl) ⟨Nat.le_of_ble_eq_true rfl, Nat.le_of_ble_eq_true rfl⟩ ⟨Nat.zero_le _, Nat.zero_le _⟩ hW (fun H locs hW => ?_)
        refine lv_aload_n hx hb dX2_build_200 rfl (lv_at hl 0 rfl) ?_
        refine lv_aload_n hx hb dX2_build_201 rfl (lv_at hl 0 rfl) ?_
        obtain ⟨v29, hv, h⟩ := bq_bind h
        refine bq_getr S hK fl_X2_26 dX2_build_202 hv hW ?_
        refine lv_aload_n hx hb dX2_build_205 rfl (lv_at hl 2 rfl) ?_
        obtain ⟨E30, hv, h⟩ := bq_bind h
        refine bq_callV S hK hz mv_X2_51 (c_X2_layBridges hv) (kc_X2_layBridges hv) dX2_build_206 [] (rest := []) rfl rfl rfl hl.1 (Nat.le_of_ble_eq_true rfl) ⟨Nat.le_of_ble_eq_true rfl, Nat.le_of_ble_eq_true rfl⟩ ⟨Nat.zero_le _, Nat.zero_le _⟩ hW (fun H locs hW => ?_)
        refine lv_aload_n hx hb dX2_build_209 rfl (lv_at hl 0 rfl) ?_
        refine lv_aload_n hx hb dX2_build_210 rfl (lv_at hl 0 rfl) ?_
        obtain ⟨v31, hv, h⟩ := bq_bind h
        refine bq_getr S hK fl_X2_29 dX2_build_211 hv hW ?_
        refine lv_aload_n hx hb dX2_build_214 rfl (lv_at hl 3 rfl) ?_
        obtain ⟨E32, hv, h⟩ := bq_bind h
        refine bq_callV S hK hz mv_X2_51 (c_X2_layBridges hv) (kc_X2_layBridges hv) dX2_build_215 [] (rest := []) rfl rfl rfl hl.1 (Nat.le_of_ble_eq_true rfl) ⟨Nat.le_of_ble_eq_true rfl, Nat.le_of_ble_eq_true rfl⟩ ⟨Nat.zero_le _, Nat.zero_le _⟩ hW (fun H locs hW => ?_)
        cases h
        exact bq_retv S hr hlocks hK hz dX2_build_218 hW
      clear ek191
      refine lv_icmp_ge (tgt := 191) hx hb dX2_build_54 (by decide) (fun hc => ?_) (fun hc => ?_)
      · replace h := bq_ifT hc h
        exact hjk191 () _ _ _ h hW (lv_sub hl [0, 1, 2, 3] rfl)
      · replace h := bq_ifF hc h
        refine lv_aload_n hx hb dX2_build_57 rfl (lv_at hl 1 rfl) ?_
        refine lv_iload hx hb dX2_build_58 (lv_at hl 5 rfl) ?_
        refine lv_sipush (v := 10000) hx hb dX2_build_60 (by decide) ?_
        obtain ⟨v33, hv, h⟩ := bq_bind h
        refine bq_callV S hK hz mv_X2_39 (c_X3_at hv) (kc_X3_at hv) dX2_build_63 [.int v33] (rest := []) rfl rfl rfl hl.1 (Nat.le_of_ble_eq_true rfl) ⟨Nat.le_of_ble_eq_true rfl, Nat.le_of_ble_eq_true rfl⟩ ⟨Nat.zero_le _, Nat.zero_le _⟩ hW (fun H locs hW => ?_)
        refine lv_istore (lv' := [(10, .int v33), (0, .ref a0), (1, .ref a1), (2, .ref a2), (3, .ref a3), (4, .int x4), (5, .int z22), (6, .int z23), (7, .int z24), (8, .int v10), (9, .int z25)]) hx hb dX2_build_66 hl (by decide) rfl (fun ls hl => ?_)
        refine lv_aload_n hx hb dX2_build_68 rfl (lv_at hl 3 rfl) ?_
        refine lv_iload hx hb dX2_build_69 (lv_at hl 7 rfl) ?_
        refine lv_sipush (v := 10000) hx hb dX2_build_71 (by decide) ?_
        obtain ⟨v34, hv, h⟩ := bq_bind h
        refine bq_callV S hK hz mv_X2_39 (c_X3_at hv) (kc_X3_at hv) dX2_build_74 [.int v34] (rest := []) rfl rfl rfl hl.1 (Nat.le_of_ble_eq_true rfl) ⟨Nat.le_of_ble_eq_true rfl, Nat.le_of_ble_eq_true rfl⟩ ⟨Nat.zero_le _, Nat.zero_le _⟩ hW (fun H locs hW => ?_)
        refine lv_istore (lv' := [(11, .int v34), (10, .int v33), (0, .ref a0), (1, .ref a1), (2, .ref a2), (3, .ref a3), (4, .int x4), (5, .int z22), (6, .int z23), (7, .int z24), (8, .int v10), (9, .int z25)]) hx hb dX2_build_77 hl (by decide) rfl (fun ls hl => ?_)
        refine lv_aload_n hx hb dX2_build_79 rfl (lv_at hl 5 rfl) ?_
        refine lv_iload hx hb dX2_build_80 (lv_at hl 9 rfl) ?_
        refine lv_sipush (v := 10000) hx hb dX2_build_82 (by decide) ?_
        obtain ⟨v35, hv, h⟩ := bq_bind h
        refine bq_callV S hK hz mv_X2_39 (c_X3_at hv) (kc_X3_at hv) dX2_build_85 [.int v35] (rest := []) rfl rfl rfl hl.1 (Nat.le_of_ble_eq_true rfl) ⟨Nat.le_of_ble_eq_true rfl, Nat.le_of_ble_eq_true rfl⟩ ⟨Nat.zero_le _, Nat.zero_le _⟩ hW (fun H locs hW => ?_)
        refine lv_istore (lv' := [(12, .int v35), (11, .int v34), (10, .int v33), (0, .ref a0), (1, .ref a1), (2, .ref a2), (3, .ref a3), (4, .int x4), (5, .int z22), (6, .int z23), (7, .int z24), (8, .int v10), (9, .int z25)]) hx hb dX2_build_88 hl (by decide) rfl (fun ls hl => ?_)
        refine lv_iload hx hb dX2_build_90 (lv_at hl 2 rfl) ?_
        refine lv_iload hx hb dX2_build_92 (lv_at hl 1 rfl) ?_
        refine lv_iload hx hb dX2_build_94 (lv_at hl 0 rfl) ?_
        refine va_mmin hx hb (S.2.2.1.trans hl.1.symm) S.2.2.2.1 (S.2.2.2.2 _ (bq_wi 456 (by decide +kernel) rfl)) (S.2.2.2.2 _ (bq_wi 412 (by decide +kernel) rfl)) (S.2.2.2.2 _ (bq_wi 30 (by decide +kernel) rfl)) (S.2.2.2.2 _ (bq_wi 413 (by decide +kernel) rfl)) (Nat.le_of_ble_eq_true rfl) (Nat.le_of_ble_eq_true rfl) (Nat.zero_le _) (Nat.zero_le _) dX2_build_96 ?_
        refine lv_topi (fun v36 ev36 => ?_)
        replace h := bq_letE ev36 h
        refine va_mmin hx hb (S.2.2.1.trans hl.1.symm) S.2.2.2.1 (S.2.2.2.2 _ (bq_wi 456 (by decide +kernel) rfl)) (S.2.2.2.2 _ (bq_wi 412 (by decide +kernel) rfl)) (S.2.2.2.2 _ (bq_wi 30 (by decide +kernel) rfl)) (S.2.2.2.2 _ (bq_wi 413 (by decide +kernel) rfl)) (Nat.le_of_ble_eq_true rfl) (Nat.le_of_ble_eq_true rfl) (Nat.zero_le _) (Nat.zero_le _) dX2_build_99 ?_
        refine lv_topi (fun v37 ev37 => ?_)
        replace h := bq_letE ev37 h
        refine lv_istore (lv' := [(13, .int v37), (12, .int v35), (11, .int v34), (10, .int v33), (0, .ref a0), (1, .ref a1), (2, .ref a2), (3, .ref a3), (4, .int x4), (5, .int z22), (6, .int z23), (7, .int z24), (8, .int v10), (9, .int z25)]) hx hb dX2_build_102 hl (by decide) rfl (fun ls hl => ?_)
        refine lv_iload hx hb dX2_build_104 (lv_at hl 0 rfl) ?_
        refine lv_sipush (v := 10000) hx hb dX2_build_106 (by decide) ?_
        refine lv_icmp_ne (tgt := 115) hx hb dX2_build_109 (by decide) (fun hc => ?_) (fun hc => ?_)
        · replace h := bq_ifF hc h
          refine lv_aload_n hx hb dX2_build_115 rfl (lv_at hl 4 rfl) ?_
          obtain ⟨v38, hv, h⟩ := bq_bind h
          refine bq_getr S hK fl_X2_14 dX2_build_116 hv hW ?_
          refine lv_iload hx hb dX2_build_119 (lv_at hl 0 rfl) ?_
          obtain ⟨E39, hv, h⟩ := bq_bind h
          refine bq_callV S hK hz mv_X2_32 (c_X3_append hv) (kc_X3_append hv) dX2_build_121 [] (rest := []) rfl rfl rfl hl.1 (Nat.le_of_ble_eq_true rfl) ⟨Nat.le_of_ble_eq_true rfl, Nat.le_of_ble_eq_true rfl⟩ ⟨Nat.zero_le _, Nat.zero_le _⟩ hW (fun H locs hW => ?_)
          refine lv_iload hx hb dX2_build_124 (lv_at hl 3 rfl) ?_
          refine lv_iload hx hb dX2_build_126 (lv_at hl 0 rfl) ?_
          refine lv_icmp_ne (tgt := 145) hx hb dX2_build_128 (by decide) (fun hc => ?_) (fun hc => ?_)
          · replace h := bq_ifF hc h
            refine lv_iload hx hb dX2_build_145 (lv_at hl 2 rfl) ?_
            refine lv_iload hx hb dX2_build_147 (lv_at hl 0 rfl) ?_
            refine lv_icmp_ne (tgt := 170) hx hb dX2_build_149 (by decide) (fun hc => ?_) (fun hc => ?_)
            · replace h := bq_ifF hc h
              refine lv_aload_n hx hb dX2_build_170 rfl (lv_at hl 4 rfl) ?_
              obtain ⟨v40, hv, h⟩ := bq_bind h
              refine bq_getr S hK fl_X2_20 dX2_build_171 hv hW ?_
              refine lv_iconst (v := 2) hx hb dX2_build_174 (by decide) ?_
              obtain ⟨E41, hv, h⟩ := bq_bind h
              refine bq_callV S hK hz mv_X2_32 (c_X3_append hv) (kc_X3_append hv) dX2_build_175 [] (rest := []) rfl rfl rfl hl.1 (Nat.le_of_ble_eq_true rfl) ⟨Nat.le_of_ble_eq_true rfl, Nat.le_of_ble_eq_true rfl⟩ ⟨Nat.zero_le _, Nat.zero_le _⟩ hW (fun H locs hW => ?_)
              refine lv_iload hx hb dX2_build_178 (lv_at hl 11 rfl) ?_
              refine lv_iload hx hb dX2_build_180 (lv_at hl 8 rfl) ?_
              refine lv_iadd hx hb dX2_build_182 ?_
              refine lv_topi (fun v42 ev42 => ?_)
              replace h := bq_letE ev42 h
              refine lv_istore (lv' := [(7, .int v42), (13, .int v37), (12, .int v35), (11, .int v34), (10, .int v33), (0, .ref a0), (1, .ref a1), (2, .ref a2), (3, .ref a3), (4, .int x4), (5, .int z22), (6, .int z23), (8, .int v10), (9, .int z25)]) hx hb dX2_build_183 hl (by decide) rfl (fun ls hl => ?_)
              obtain ⟨v43, ev43⟩ : ∃ y : Int32, y = z25 + 1 := ⟨_, rfl⟩
              replace h := bq_letE ev43 h
              refine lv_iinc (v := v43) (lv' := [(9, .int v43), (7, .int v42), (13, .int v37), (12, .int v35), (11, .int v34), (10, .int v33), (0, .ref a0), (1, .ref a1), (2, .ref a2), (3, .ref a3), (4, .int x4), (5, .int z22), (6, .int z23), (8, .int v10)]) hx hb dX2_build_185 hl (k := 13) rfl (by rw [ev43]; rfl) (by decide) rfl (fun ls hl => ?_)
              refine lv_goto (tgt := 50) hx hb dX2_build_188 (by decide) ?_
              exact ih z22 z23 v42 v43 E41 _ _ _ h hW (lv_sub hl [6, 7, 8, 9, 10, 11, 12, 1, 13, 0] rfl)
            · replace h := bq_ifT hc h
              refine lv_aload_n hx hb dX2_build_152 rfl (lv_at hl 4 rfl) ?_
              obtain ⟨v44, hv, h⟩ := bq_bind h
              refine bq_getr S hK fl_X2_20 dX2_build_153 hv hW ?_
              refine lv_iconst (v := 1) hx hb dX2_build_156 (by decide) ?_
              obtain ⟨E45, hv, h⟩ := bq_bind h
              refine bq_callV S hK hz mv_X2_32 (c_X3_append hv) (kc_X3_append hv) dX2_build_157 [] (rest := []) rfl rfl rfl hl.1 (Nat.le_of_ble_eq_true rfl) ⟨Nat.le_of_ble_eq_true rfl, Nat.le_of_ble_eq_true rfl⟩ ⟨Nat.zero_le _, Nat.zero_le _⟩ hW (fun H locs hW => ?_)
              refine lv_iload hx hb dX2_build_160 (lv_at hl 10 rfl) ?_
              refine lv_iload hx hb dX2_build_162 (lv_at hl 8 rfl) ?_
              refine lv_iadd hx hb dX2_build_164 ?_
              refine lv_topi (fun v46 ev46 => ?_)
              replace h := bq_letE ev46 h
              refine lv_istore (lv' := [(6, .int v46), (13, .int v37), (12, .int v35), (11, .int v34), (10, .int v33), (0, .ref a0), (1, .ref a1), (2, .ref a2), (3, .ref a3), (4, .int x4), (5, .int z22), (7, .int z24), (8, .int v10), (9, .int z25)]) hx hb dX2_build_165 hl (by decide) rfl (fun ls hl => ?_)
              refine lv_goto (tgt := 185) hx hb dX2_build_167 (by decide) ?_
              obtain ⟨v47, ev47⟩ : ∃ y : Int32, y = z25 + 1 := ⟨_, rfl⟩
              replace h := bq_letE ev47 h
              refine lv_iinc (v := v47) (lv' := [(9, .int v47), (6, .int v46), (13, .int v37), (12, .int v35), (11, .int v34), (10, .int v33), (0, .ref a0), (1, .ref a1), (2, .ref a2), (3, .ref a3), (4, .int x4), (5, .int z22), (7, .int z24), (8, .int v10)]) hx hb dX2_build_185 hl (k := 13) rfl (by rw [ev47]; rfl) (by decide) rfl (fun ls hl => ?_)
              refine lv_goto (tgt := 50) hx hb dX2_build_188 (by decide) ?_
              exact ih z22 v46 z24 v47 E45 _ _ _ h hW (lv_sub hl [6, 7, 8, 9, 10, 11, 1, 12, 13, 0] rfl)
          · replace h := bq_ifT hc h
            refine lv_aload_n hx hb dX2_build_131 rfl (lv_at hl 4 rfl) ?_
            obtain ⟨v48, hv, h⟩ := bq_bind h
            refine bq_getr S hK fl_X2_20 dX2_build_132 hv hW ?_
            refine lv_iconst (v := 0) hx hb dX2_build_135 (by decide) ?_
            obtain ⟨E49, hv, h⟩ := bq_bind h
            refine bq_callV S hK hz mv_X2_32 (c_X3_append hv) (kc_X3_append hv) dX2_build_136 [] (rest := []) rfl rfl rfl hl.1 (Nat.le_of_ble_eq_true rfl) ⟨Nat.le_of_ble_eq_true rfl, Nat.le_of_ble_eq_true rfl⟩ ⟨Nat.zero_le _, Nat.zero_le _⟩ hW (fun H locs hW => ?_)
            obtain ⟨v50, ev50⟩ : ∃ y : Int32, y = z22 + 1 := ⟨_, rfl⟩
            replace h := bq_letE ev50 h
            refine lv_iinc (v := v50) (lv' := [(5, .int v50), (13, .int v37), (12, .int v35), (11, .int v34), (10, .int v33), (0, .ref a0), (1, .ref a1), (2, .ref a2), (3, .ref a3), (4, .int x4), (6, .int z23), (7, .int z24), (8, .int v10), (9, .int z25)]) hx hb dX2_build_139 hl (k := 9) rfl (by rw [ev50]; rfl) (by decide) rfl (fun ls hl => ?_)
            refine lv_goto (tgt := 185) hx hb dX2_build_142 (by decide) ?_
            obtain ⟨v51, ev51⟩ : ∃ y : Int32, y = z25 + 1 := ⟨_, rfl⟩
            replace h := bq_letE ev51 h
            refine lv_iinc (v := v51) (lv' := [(9, .int v51), (5, .int v50), (13, .int v37), (12, .int v35), (11, .int v34), (10, .int v33), (0, .ref a0), (1, .ref a1), (2, .ref a2), (3, .ref a3), (4, .int x4), (6, .int z23), (7, .int z24), (8, .int v10)]) hx hb dX2_build_185 hl (k := 13) rfl (by rw [ev51]; rfl) (by decide) rfl (fun ls hl => ?_)
            refine lv_goto (tgt := 50) hx hb dX2_build_188 (by decide) ?_
            exact ih v50 z23 z24 v51 E49 _ _ _ h hW (lv_sub hl [6, 7, 8, 9, 10, 1, 11, 12, 13, 0] rfl)
        · replace h := bq_ifT hc h
          exact hX z22 z23 z24 z25 E26 _ _ _ h hW (lv_sub hl [4, 5, 6, 7] rfl)
  refine hL50 _ (fun y11 y12 y13 y14 E15 H locs ls h hW hl => ?_) bq_fuel (0 : Int32) v5 v6 (0 : Int32) E4 _ _ _ h hW (lv_sub hl [5, 6, 7, 8, 9, 4, 3, 2, 1, 0] rfl)
  refine lv_goto (tgt := 191) hx hb dX2_build_112 (by decide) ?_
  refine lv_aload_n hx hb dX2_build_191 rfl (lv_at hl 0 rfl) ?_
  refine lv_aload_n hx hb dX2_build_192 rfl (lv_at hl 0 rfl) ?_
  obtain ⟨v16, hv, h⟩ := bq_bind h
  refine bq_getr S hK fl_X2_23 dX2_build_193 hv hW ?_
  refine lv_aload_n hx hb dX2_build_196 rfl (lv_at hl 1 rfl) ?_
  obtain ⟨E17, hv, h⟩ := bq_bind h
  refine bq_callV S hK hz mv_X2_51 (c_X2_layBridges hv) (kc_X2_layBridges hv) dX2_build_197 [] (rest := []) rfl rfl rfl hl.1 (Nat.le_of_ble_eq_true rfl) ⟨Nat.le_of_ble_eq_true rfl, Nat.le_of_ble_eq_true rfl⟩ ⟨Nat.zero_le _, Nat.zero_le _⟩ hW (fun H locs hW => ?_)
  refine lv_aload_n hx hb dX2_build_200 rfl (lv_at hl 0 rfl) ?_
  refine lv_aload_n hx hb dX2_build_201 rfl (lv_at hl 0 rfl) ?_
  obtain ⟨v18, hv, h⟩ := bq_bind h
  refine bq_getr S hK fl_X2_26 dX2_build_202 hv hW ?_
  refine lv_aload_n hx hb dX2_build_205 rfl (lv_at hl 2 rfl) ?_
  obtain ⟨E19, hv, h⟩ := bq_bind h
  refine bq_callV S hK hz mv_X2_51 (c_X2_layBridges hv) (kc_X2_layBridges hv) dX2_build_206 [] (rest := []) rfl rfl rfl hl.1 (Nat.le_of_ble_eq_true rfl) ⟨Nat.le_of_ble_eq_true rfl, Nat.le_of_ble_eq_true rfl⟩ ⟨Nat.zero_le _, Nat.zero_le _⟩ hW (fun H locs hW => ?_)
  refine lv_aload_n hx hb dX2_build_209 rfl (lv_at hl 0 rfl) ?_
  refine lv_aload_n hx hb dX2_build_210 rfl (lv_at hl 0 rfl) ?_
  obtain ⟨v20, hv, h⟩ := bq_bind h
  refine bq_getr S hK fl_X2_29 dX2_build_211 hv hW ?_
  refine lv_aload_n hx hb dX2_build_214 rfl (lv_at hl 3 rfl) ?_
  obtain ⟨E21, hv, h⟩ := bq_bind h
  refine bq_callV S hK hz mv_X2_51 (c_X2_layBridges hv) (kc_X2_layBridges hv) dX2_build_215 [] (rest := []) rfl rfl rfl hl.1 (Nat.le_of_ble_eq_true rfl) ⟨Nat.le_of_ble_eq_true rfl, Nat.le_of_ble_eq_true rfl⟩ ⟨Nat.zero_le _, Nat.zero_le _⟩ hW (fun H locs hW => ?_)
  cases h
  exact bq_retv S hr hlocks hK hz dX2_build_218 hW
