theorem kc_X1_savedAt {E : bq_E} {a0 : Nat} {x1 : Int32} {R : (Option Nat)} (h : tw_X1_savedAt E a0 x1 = some R) : bq_cls E a0 = 1 := (bq_guard h).1
set_option maxHeartbeats 4000000 in
set_option maxRecDepth 100000 in
theorem c_X1_savedAt {l : Launch} {g : bq_G} {L : List Nat} {z : Nat} {E : bq_E} {a0 : Nat} {x1 : Int32} {R : (Option Nat)} (h : tw_X1_savedAt E a0 x1 = some R) : bq_M l yX1_savedAt cX1_savedAt 2 (some (.object "BridgedCatalogs$Tree")) 0 0 [.ref a0, .int x1] g L E z (some (va_rf R)) E := by
  unfold tw_X1_savedAt at h
  obtain ⟨hcl, h⟩ := bq_guard h
  refine bq_enter (by decide) (Nat.le_of_ble_eq_true rfl) ?_
  intro p e s m args below meth c S hr hlocks hK hz hW ls hl
  have S : CallFix p m c cX1_savedAt 2 s args bq_WA RX1 := S
  have hx := S.1
  have hb := S.2.1
  have hl : lv_has ls 2 [(0, .ref a0), (1, .int x1)] := hl
  refine lv_iload_n hx hb dX1_savedAt_0 rfl (lv_at hl 1 rfl) ?_
  refine lv_if_lt (tgt := 22) hx hb dX1_savedAt_1 (by decide) (fun hc => ?_) (fun hc => ?_)
  · replace h := bq_ifT hc h
    refine lv_null hx hb dX1_savedAt_22 ?_
    cases h
    exact bq_retn S hr hlocks hK hz dX1_savedAt_23 _ rfl hW
  · replace h := bq_ifF hc h
    refine lv_iload_n hx hb dX1_savedAt_4 rfl (lv_at hl 1 rfl) ?_
    refine lv_aload_n hx hb dX1_savedAt_5 rfl (lv_at hl 0 rfl) ?_
    obtain ⟨v1, hv, h⟩ := bq_bind h
    refine bq_getr S hK fl_X1_11 dX1_savedAt_6 hv hW ?_
    obtain ⟨v2, hv, h⟩ := bq_bind h
    refine bq_alen S hK dX1_savedAt_9 hv hW ?_
    refine lv_icmp_ge (tgt := 22) hx hb dX1_savedAt_10 (by decide) (fun hc => ?_) (fun hc => ?_)
    · replace h := bq_ifT hc h
      refine lv_null hx hb dX1_savedAt_22 ?_
      cases h
      exact bq_retn S hr hlocks hK hz dX1_savedAt_23 _ rfl hW
    · replace h := bq_ifF hc h
      refine lv_aload_n hx hb dX1_savedAt_13 rfl (lv_at hl 0 rfl) ?_
      obtain ⟨v3, hv, h⟩ := bq_bind h
      refine bq_getr S hK fl_X1_11 dX1_savedAt_14 hv hW ?_
      refine lv_iload_n hx hb dX1_savedAt_17 rfl (lv_at hl 1 rfl) ?_
      obtain ⟨v4, hv, h⟩ := bq_bind h
      refine bq_aald S hK dX1_savedAt_18 hv hW ?_
      refine lv_goto (tgt := 23) hx hb dX1_savedAt_19 (by decide) ?_
      cases h
      exact bq_retn S hr hlocks hK hz dX1_savedAt_23 _ rfl hW

theorem kc_X1_save {E : bq_E} {a0 : Nat} {a1 : Nat} {R : bq_E} (h : tw_X1_save E a0 a1 = some R) : bq_cls E a0 = 1 := (bq_guard h).1
set_option maxHeartbeats 4000000 in
set_option maxRecDepth 100000 in
theorem c_X1_save {l : Launch} {g : bq_G} {L : List Nat} {z : Nat} {E : bq_E} {a0 : Nat} {a1 : Nat} {R : bq_E} (h : tw_X1_save E a0 a1 = some R) : bq_M l yX1_save cX1_save 3 none 5 126 [.ref a0, .ref a1] g L E z none R := by
  unfold tw_X1_save at h
  obtain ⟨hcl, h⟩ := bq_guard h
  refine bq_enter (by decide) (Nat.le_of_ble_eq_true rfl) ?_
  intro p e s m args below meth c S hr hlocks hK hz hW ls hl
  have S : CallFix p m c cX1_save 3 s args bq_WA RX1 := S
  have hx := S.1
  have hb := S.2.1
  have hl : lv_has ls 3 [(0, .ref a0), (1, .ref a1)] := hl
  refine lv_aload_n hx hb dX1_save_0 rfl (lv_at hl 0 rfl) ?_
  refine lv_aload_n hx hb dX1_save_1 rfl (lv_at hl 0 rfl) ?_
  obtain ⟨v1, hv, h⟩ := bq_bind h
  refine bq_geti S hK fl_X1_18 dX1_save_2 hv hW ?_
  obtain ⟨v2, hv, h⟩ := bq_bind h
  refine bq_callV S hK hz mv_X1_22 (c_X1_savedAt hv) (kc_X1_savedAt hv) dX1_save_5 [va_rf v2] (rest := []) rfl rfl rfl hl.1 (Nat.le_of_ble_eq_true rfl) ⟨Nat.le_of_ble_eq_true rfl, Nat.le_of_ble_eq_true rfl⟩ ⟨Nat.zero_le _, Nat.zero_le _⟩ hW (fun H locs hW => ?_)
  obtain _ | v3 := v2
  · replace h := bq_optN h
    refine lv_astore_nN (lv' := [(2, .null), (0, .ref a0), (1, .ref a1)]) hx hb dX1_save_8 rfl hl (by decide) rfl (fun ls hl => ?_)
    refine lv_aload_nN hx hb dX1_save_9 rfl (lv_at hl 0 rfl) ?_
    refine lv_ifnonnullN hx hb dX1_save_10 ?_
    cases h
    exact bq_retv S hr hlocks hK hz dX1_save_13 hW
  · replace h := bq_optS h
    refine lv_astore_n (lv' := [(2, .ref v3), (0, .ref a0), (1, .ref a1)]) hx hb dX1_save_8 rfl hl (by decide) rfl (fun ls hl => ?_)
    refine lv_aload_n hx hb dX1_save_9 rfl (lv_at hl 0 rfl) ?_
    refine lv_ifnonnull (tgt := 14) hx hb dX1_save_10 (by decide) ?_
    refine lv_aload_n hx hb dX1_save_14 rfl (lv_at hl 0 rfl) ?_
    refine lv_aload_n hx hb dX1_save_15 rfl (lv_at hl 2 rfl) ?_
    obtain ⟨E4, hv, h⟩ := bq_bind h
    refine bq_callV S hK hz mv_X1_26 (c_X4_copyFrom hv) (kc_X4_copyFrom hv) dX1_save_16 [] (rest := []) rfl rfl rfl hl.1 (Nat.le_of_ble_eq_true rfl) ⟨Nat.le_of_ble_eq_true rfl, Nat.le_of_ble_eq_true rfl⟩ ⟨Nat.zero_le _, Nat.zero_le _⟩ hW (fun H locs hW => ?_)
    refine lv_aload_n hx hb dX1_save_19 rfl (lv_at hl 1 rfl) ?_
    refine lv_aload_n hx hb dX1_save_20 rfl (lv_at hl 1 rfl) ?_
    obtain ⟨v5, hv, h⟩ := bq_bind h
    refine bq_geti S hK fl_X1_18 dX1_save_21 hv hW ?_
    refine lv_iconst (v := 3) hx hb dX1_save_24 (by decide) ?_
    obtain ⟨k38, ek38, h⟩ := bq_letK h
    have hjk38 : ∀ (b6 : Int32) (H1 : Heap) (locs1 : List Loc) (ls1 : Array Slot), k38 b6 = some R → bq_H g L E4 z s.heap H1 locs1 → lv_has ls1 3 [(0, .ref a0)] → W p l e { frames := 5, cells := 0, slots := 0, locals := 126 } s m args below meth c H1 locs1 0 0 (MQ below (bq_Q g L R z none) args s 0 0 (bq_A z)) (F0 m 38 ls1 [.int b6, .ref a0]) := by
      intro b6 H locs ls h hW hl
      replace h := bq_kap1 ek38 h
      obtain ⟨E7, hv, h⟩ := bq_bind h
      refine bq_puti S hK fp_X1_18 dX1_save_38 hv hW (fun H locs hW => ?_)
      refine lv_aload_n hx hb dX1_save_41 rfl (lv_at hl 0 rfl) ?_
      refine lv_aload_n hx hb dX1_save_42 rfl (lv_at hl 0 rfl) ?_
      obtain ⟨v8, hv, h⟩ := bq_bind h
      refine bq_geti S hK fl_X1_30 dX1_save_43 hv hW ?_
      refine lv_iconst (v := 1) hx hb dX1_save_46 (by decide) ?_
      refine lv_iadd hx hb dX1_save_47 ?_
      refine lv_iconst (v := 4) hx hb dX1_save_48 (by decide) ?_
      refine va_mmin hx hb (S.2.2.1.trans hl.1.symm) S.2.2.2.1 (S.2.2.2.2 _ (bq_wi 422 (by decide +kernel) rfl)) (S.2.2.2.2 _ (bq_wi 412 (by decide +kernel) rfl)) (S.2.2.2.2 _ (bq_wi 30 (by decide +kernel) rfl)) (S.2.2.2.2 _ (bq_wi 413 (by decide +kernel) rfl)) (Nat.le_of_ble_eq_true rfl) (Nat.le_of_ble_eq_true rfl) (Nat.zero_le _) (Nat.zero_le _) dX1_save_49 ?_
      refine lv_topi (fun v9 ev9 => ?_)
      replace h := bq_letE ev9 h
      obtain ⟨E10, hv, h⟩ := bq_bind h
      refine bq_puti S hK fp_X1_30 dX1_save_52 hv hW (fun H locs hW => ?_)
      cases h
      exact bq_retv S hr hlocks hK hz dX1_save_55 hW
    clear ek38
    refine lv_icmp_ge (tgt := 37) hx hb dX1_save_25 (by decide) (fun hc => ?_) (fun hc => ?_)
    · replace h := bq_ifT hc h
      refine lv_iconst (v := 0) hx hb dX1_save_37 (by decide) ?_
      exact hjk38 (0 : Int32) _ _ _ h hW (lv_sub hl [1] rfl)
    · replace h := bq_ifF hc h
      refine lv_aload_n hx hb dX1_save_28 rfl (lv_at hl 1 rfl) ?_
      obtain ⟨v11, hv, h⟩ := bq_bind h
      refine bq_geti S hK fl_X1_18 dX1_save_29 hv hW ?_
      refine lv_iconst (v := 1) hx hb dX1_save_32 (by decide) ?_
      refine lv_iadd hx hb dX1_save_33 ?_
      refine lv_goto (tgt := 38) hx hb dX1_save_34 (by decide) ?_
      exact hjk38 (v11 + (1 : Int32)) _ _ _ h hW (lv_sub hl [1] rfl)
