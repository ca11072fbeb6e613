set_option maxHeartbeats 4000000 in
set_option maxRecDepth 100000 in
theorem cc_X3_init {l : Launch} {g : bq_G} {z n : Nat} {E : bq_E} {a0 : Nat} {x1 : Int32} {k : Nat} (hk0 : ¬ x1 < 0) (hk : Int32.toNatClampNeg x1 = k) (hk9 : k ≤ 100000) {R : bq_E} (h : tn_X3_init g E n a0 x1 k = some R) : bq_MC l yX3_init cX3_init 2 1 12 1 k [.ref a0, .int x1] g E z n R := by
  unfold tn_X3_init at h
  refine bq_enterC (by decide) (Nat.le_of_ble_eq_true rfl) ?_
  intro p e s m args below meth c S hr hlocks hin0 hK hzn hsz hN hW ls hl
  have S : CallFix p m c cX3_init 2 s args bq_WA RX3 := S
  have hx := S.1
  have hb := S.2.1
  have hin2 := hin0 rfl
  have hz : z ≤ s.heap.size := by omega
  have hl : lv_has ls 2 [(0, .ref a0), (1, .int x1)] := hl
  refine lv_aload_n hx hb dX3_init_0 rfl (lv_at hl 0 rfl) ?_
  refine W.objInit hx hb S.2.2.2.1 (S.2.2.2.2 _ (bq_wi 58 (by decide +kernel) rfl)) (S.2.2.2.2 _ (bq_wi 38 (by decide +kernel) rfl)) (S.2.2.2.2 _ (bq_wi 39 (by decide +kernel) rfl)) rfl (by rw [S.2.2.1]; exact hl.1) rfl dX3_init_1 (Nat.le_of_ble_eq_true rfl) (Nat.le_of_ble_eq_true rfl) ?_
  refine W.eq (g2 := F0 m 4 ls []) rfl ?_
  refine lv_aload_n hx hb dX3_init_4 rfl (lv_at hl 0 rfl) ?_
  refine lv_iload_n hx hb dX3_init_5 rfl (lv_at hl 1 rfl) ?_
  refine lv_if_le (tgt := 13) hx hb dX3_init_6 (by decide) (fun hc => ?_) (fun hc => ?_)
  · replace h := bq_ifT hc h
    refine lv_iconst (v := 0) hx hb dX3_init_13 (by decide) ?_
    refine bq_newI S hK hz (n := n + 0) (by omega) (by omega) (bq_wi 66 (by decide +kernel) rfl) dX3_init_14 (k := 0) (by decide) (by decide) (by decide) ⟨by show _ ≤ 1; omega, by show _ ≤ k; omega⟩ hW (fun H locs hW => ?_)
    obtain ⟨E1, hv, h⟩ := bq_bind h
    refine bq_putF S hK hin2 ff_X3_9 dX3_init_16 rfl rfl hv hW (fun H locs hW => ?_)
    cases h
    exact bq_retC S hr hlocks hK hz dX3_init_19 (by omega) (by omega) hW
  · replace h := bq_ifF hc h
    refine lv_iload_n hx hb dX3_init_9 rfl (lv_at hl 1 rfl) ?_
    refine lv_goto (tgt := 14) hx hb dX3_init_10 (by decide) ?_
    refine bq_newI S hK hz (n := n + 0) (by omega) (by omega) (bq_wi 66 (by decide +kernel) rfl) dX3_init_14 (k := k) hk0 hk hk9 ⟨by show _ ≤ 1; omega, by show _ ≤ k; omega⟩ hW (fun H locs hW => ?_)
    obtain ⟨E2, hv, h⟩ := bq_bind h
    refine bq_putF S hK hin2 ff_X3_9 dX3_init_16 rfl rfl hv hW (fun H locs hW => ?_)
    cases h
    exact bq_retC S hr hlocks hK hz dX3_init_19 (by omega) (by omega) hW

set_option maxHeartbeats 4000000 in
set_option maxRecDepth 100000 in
theorem cc_X2_init {l : Launch} {g : bq_G} {z n : Nat} {E : bq_E} {a0 : Nat} {R : bq_E} (h : tn_X2_init g E n a0 = some R) : bq_MC l yX2_init cX2_init 1 2 33 10 493 [.ref a0] g E z n R := by
  unfold tn_X2_init at h
  refine bq_enterC (by decide) (Nat.le_of_ble_eq_true rfl) ?_
  intro p e s m args below meth c S hr hlocks hin0 hK hzn hsz hN hW ls hl
  have S : CallFix p m c cX2_init 1 s args bq_WA RX2 := S
  have hx := S.1
  have hb := S.2.1
  have hin2 := hin0 rfl
  have hz : z ≤ s.heap.size := by omega
  have hl : lv_has ls 1 [(0, .ref a0)] := hl
  refine lv_aload_n hx hb dX2_init_0 rfl (lv_at hl 0 rfl) ?_
  refine W.objInit hx hb S.2.2.2.1 (S.2.2.2.2 _ (bq_wi 72 (by decide +kernel) rfl)) (S.2.2.2.2 _ (bq_wi 38 (by decide +kernel) rfl)) (S.2.2.2.2 _ (bq_wi 39 (by decide +kernel) rfl)) rfl (by rw [S.2.2.1]; exact hl.1) rfl dX2_init_1 (Nat.le_of_ble_eq_true rfl) (Nat.le_of_ble_eq_true rfl) ?_
  refine W.eq (g2 := F0 m 4 ls []) rfl ?_
  refine lv_aload_n hx hb dX2_init_4 rfl (lv_at hl 0 rfl) ?_
  refine bq_newO S hK hz (n := n + 0) (by omega) (by omega) (ci := 3) (C := RX3) (T := TX3) (N1 := 2) rfl inWX3 tyX3 tyX3_ok (bq_wi 73 (by decide +kernel) rfl) (bq_wi 54 (by decide +kernel) rfl) (bq_wi 20 (by decide +kernel) rfl) dX2_init_5 (fs := [.null, .int 0]) (fun j hj => by rcases (show j = 0 ∨ j = 1 by omega) with rfl | rfl <;> rfl) ⟨Nat.le_of_ble_eq_true rfl, Nat.le_of_ble_eq_true rfl⟩ hW (fun H locs hW => ?_)
  refine lv_dup hx hb dX2_init_8 rfl ?_
  refine lv_bipush (v := 96) hx hb dX2_init_9 (by decide) ?_
  obtain ⟨E1, hv, h⟩ := bq_bind h
  refine bq_callI S hK hz (n := n + 1) (by omega) hN (cc_X3_init (by decide) (by decide) (by decide) hv) (bq_wi 74 (by decide +kernel) rfl) (bq_wi 56 (by decide +kernel) rfl) (bq_wi 20 (by decide +kernel) rfl) (bq_wi 57 (by decide +kernel) rfl) rfl (by decide +kernel) dX2_init_11 (rest := [.ref (n + 0), .ref a0]) rfl rfl hl.1 (Nat.le_of_ble_eq_true rfl) ⟨Nat.le_of_ble_eq_true rfl, Nat.le_of_ble_eq_true rfl⟩ ⟨Nat.le_of_ble_eq_true rfl, Nat.le_of_ble_eq_true rfl⟩ hW (fun H locs hW => ?_)
  obtain ⟨E2, hv, h⟩ := bq_bind h
  refine bq_putF S hK hin2 ff_X2_14 dX2_init_14 rfl rfl hv hW (fun H locs hW => ?_)
  refine lv_aload_n hx hb dX2_init_17 rfl (lv_at hl 0 rfl) ?_
  refine bq_newO S hK hz (n := n + 2) (by omega) (by omega) (ci := 3) (C := RX3) (T := TX3) (N1 := 2) rfl inWX3 tyX3 tyX3_ok (bq_wi 73 (by decide +kernel) rfl) (bq_wi 54 (by decide +kernel) rfl) (bq_wi 20 (by decide +kernel) rfl) dX2_init_18 (fs := [.null, .int 0]) (fun j hj => by rcases (show j = 0 ∨ j = 1 by omega) with rfl | rfl <;> rfl) ⟨Nat.le_of_ble_eq_true rfl, Nat.le_of_ble_eq_true rfl⟩ hW (fun H locs hW => ?_)
  refine lv_dup hx hb dX2_init_21 rfl ?_
  refine lv_bipush (v := 96) hx hb dX2_init_22 (by decide) ?_
  obtain ⟨E3, hv, h⟩ := bq_bind h
  refine bq_callI S hK hz (n := n + 3) (by omega) hN (cc_X3_init (by decide) (by decide) (by decide) hv) (bq_wi 74 (by decide +kernel) rfl) (bq_wi 56 (by decide +kernel) rfl) (bq_wi 20 (by decide +kernel) rfl) (bq_wi 57 (by decide +kernel) rfl) rfl (by decide +kernel) dX2_init_24 (rest := [.ref (n + 2), .ref a0]) rfl rfl hl.1 (Nat.le_of_ble_eq_true rfl) ⟨Nat.le_of_ble_eq_true rfl, Nat.le_of_ble_eq_true rfl⟩ ⟨Nat.le_of_ble_eq_true rfl, Nat.le_of_ble_eq_true rfl⟩ hW (fun H locs hW => ?_)
  obtain ⟨E4, hv, h⟩ := bq_bind h
  refine bq_putF S hK hin2 ff_X2_20 dX2_init_27 rfl rfl hv hW (fun H locs hW => ?_)
  refine lv_aload_n hx hb dX2_init_30 rfl (lv_at hl 0 rfl) ?_
  refine bq_newO S hK hz (n := n + 4) (by omega) (by omega) (ci := 3) (C := RX3) (T := TX3) (N1 := 2) rfl inWX3 tyX3 tyX3_ok (bq_wi 73 (by decide +kernel) rfl) (bq_wi 54 (by decide +kernel) rfl) (bq_wi 20 (by decide +kernel) rfl) dX2_init_31 (fs := [.null, .int 0]) (fun j hj => by rcases (show j = 0 ∨ j = 1 by omega) with rfl | rfl <;> rfl) ⟨Nat.le_of_ble_eq_true rfl, Nat.le_of_ble_eq_true rfl⟩ hW (fun H locs hW => ?_)
  refine lv_dup hx hb dX2_init_34 rfl ?_
  refine lv_bipush (v := 97) hx hb dX2_init_35 (by decide) ?_
  obtain ⟨E5, hv, h⟩ := bq_bind h
  refine bq_callI S hK hz (n := n + 5) (by omega) hN (cc_X3_init (by decide) (by decide) (by decide) hv) (bq_wi 74 (by decide +kernel) rfl) (bq_wi 56 (by decide +kernel) rfl) (bq_wi 20 (by decide +kernel) rfl) (bq_wi 57 (by decide +kernel) rfl) rfl (by decide +kernel) dX2_init_37 (rest := [.ref (n + 4), .ref a0]) rfl rfl hl.1 (Nat.le_of_ble_eq_true rfl) ⟨Nat.le_of_ble_eq_true rfl, Nat.le_of_ble_eq_true rfl⟩ ⟨Nat.le_of_ble_eq_true rfl, Nat.le_of_ble_eq_true rfl⟩ hW (fun H locs hW => ?_)
  obtain ⟨E6, hv, h⟩ := bq_bind h
  refine bq_putF S hK hin2 ff_X2_23 dX2_init_40 rfl rfl hv hW (fun H locs hW => ?_)
  refine lv_aload_n hx hb dX2_init_43 rfl (lv_at hl 0 rfl) ?_
  refine bq_newO S hK hz (n := n + 6) (by omega) (by omega) (ci := 3) (C := RX3) (T := TX3) (N1 := 2) rfl inWX3 tyX3 tyX3_ok (bq_wi 73 (by decide +kernel) rfl) (bq_wi 54 (by decide +kernel) rfl) (bq_wi 20 (by decide +kernel) rfl) dX2_init_44 (fs := [.null, .int 0]) (fun j hj => by rcases (show j = 0 ∨ j = 1 by omega) with rfl | rfl <;> rfl) ⟨Nat.le_of_ble_eq_true rfl, Nat.le_of_ble_eq_true rfl⟩ hW (fun H locs hW => ?_)
  refine lv_dup hx hb dX2_init_47 rfl ?_
  refine lv_bipush (v := 97) hx hb dX2_init_48 (by decide) ?_
  obtain ⟨E7, hv, h⟩ := bq_bind h
  refine bq_callI S hK hz (n := n + 7) (by omega) hN (cc_X3_init (by decide) (by decide) (by decide) hv) (bq_wi 74 (by decide +kernel) rfl) (bq_wi 56 (by decide +kernel) rfl) (bq_wi 20 (by decide +kernel) rfl) (bq_wi 57 (by decide +kernel) rfl) rfl (by decide +kernel) dX2_init_50 (rest := [.ref (n + 6), .ref a0]) rfl rfl hl.1 (Nat.le_of_ble_eq_true rfl) ⟨Nat.le_of_ble_eq_true rfl, Nat.le_of_ble_eq_true rfl⟩ ⟨Nat.le_of_ble_eq_true rfl, Nat.le_of_ble_eq_true rfl⟩ hW (fun H locs hW => ?_)
  obtain ⟨E8, hv, h⟩ := bq_bind h
  refine bq_putF S hK hin2 ff_X2_26 dX2_init_53 rfl rfl hv hW (fun H locs hW => ?_)
  refine lv_aload_n hx hb dX2_init_56 rfl (lv_at hl 0 rfl) ?_
  refine bq_newO S hK hz (n := n + 8) (by omega) (by omega) (ci := 3) (C := RX3) (T := TX3) (N1 := 2) rfl inWX3 tyX3 tyX3_ok (bq_wi 73 (by decide +kernel) rfl) (bq_wi 54 (by decide +kernel) rfl) (bq_wi 20 (by decide +kernel) rfl) dX2_init_57 (fs := [.null, .int 0]) (fun j hj => by rcases (show j = 0 ∨ j = 1 by omega) with rfl | rfl <;> rfl) ⟨Nat.le_of_ble_eq_true rfl, Nat.le_of_ble_eq_true rfl⟩ hW (fun H locs hW => ?_)
  refine lv_dup hx hb dX2_init_60 rfl ?_
  refine lv_bipush (v := 97) hx hb dX2_init_61 (by decide) ?_
  obtain ⟨E9, hv, h⟩ := bq_bind h
  refine bq_callI S hK hz (n := n + 9) (by omega) hN (cc_X3_init (by decide) (by decide) (by decide) hv) (bq_wi 74 (by decide +kernel) rfl) (bq_wi 56 (by decide +kernel) rfl) (bq_wi 20 (by decide +kernel) rfl) (bq_wi 57 (by decide +kernel) rfl) rfl (by decide +kernel) dX2_init_63 (rest := [.ref (n + 8), .ref a0]) rfl rfl hl.1 (Nat.le_of_ble_eq_true rfl) ⟨Nat.le_of_ble_eq_true rfl, Nat.le_of_ble_eq_true rfl⟩ ⟨Nat.le_of_ble_eq_true rfl, Nat.le_of_ble_eq_true rfl⟩ hW (fun H locs hW => ?_)
  obtain ⟨E10, hv, h⟩ := bq_bind h
  refine bq_putF S hK hin2 ff_X2_29 dX2_init_66 rfl rfl hv hW (fun H locs hW => ?_)
  refine lv_aload_n hx hb dX2_init_69 rfl (lv_at hl 0 rfl) ?_
  obtain ⟨v11, hv, h⟩ := bq_bind h
  refine bq_getr S hK fl_X2_23 dX2_init_70 hv hW ?_
  refine lv_iconst (v := 0) hx hb dX2_init_73 (by decide) ?_
  obtain ⟨E12, hv, h⟩ := bq_bind h
  refine bq_callV S hK hz mv_X2_32 (c_X3_append hv) (kc_X3_append hv) dX2_init_74 [] (rest := []) rfl rfl rfl hl.1 (Nat.le_of_ble_eq_true rfl) ⟨Nat.le_of_ble_eq_true rfl, Nat.le_of_ble_eq_true rfl⟩ ⟨Nat.le_of_ble_eq_true rfl, Nat.le_of_ble_eq_true rfl⟩ hW (fun H locs hW => ?_)
  refine lv_aload_n hx hb dX2_init_77 rfl (lv_at hl 0 rfl) ?_
  obtain ⟨v13, hv, h⟩ := bq_bind h
  refine bq_getr S hK fl_X2_26 dX2_init_78 hv hW ?_
  refine lv_iconst (v := 0) hx hb dX2_init_81 (by decide) ?_
  obtain ⟨E14, hv, h⟩ := bq_bind h
  refine bq_callV S hK hz mv_X2_32 (c_X3_append hv) (kc_X3_append hv) dX2_init_82 [] (rest := []) rfl rfl rfl hl.1 (Nat.le_of_ble_eq_true rfl) ⟨Nat.le_of_ble_eq_true rfl, Nat.le_of_ble_eq_true rfl⟩ ⟨Nat.le_of_ble_eq_true rfl, Nat.le_of_ble_eq_true rfl⟩ hW (fun H locs hW => ?_)
  refine lv_aload_n hx hb dX2_init_85 rfl (lv_at hl 0 rfl) ?_
  obtain ⟨v15, hv, h⟩ := bq_bind h
  refine bq_getr S hK fl_X2_29 dX2_init_86 hv hW ?_
  refine lv_iconst (v := 0) hx hb dX2_init_89 (by decide) ?_
  obtain ⟨E16, hv, h⟩ := bq_bind h
  refine bq_callV S hK hz mv_X2_32 (c_X3_append hv) (kc_X3_append hv) dX2_init_90 [] (rest := []) rfl rfl rfl hl.1 (Nat.le_of_ble_eq_true rfl) ⟨Nat.le_of_ble_eq_true rfl, Nat.le_of_ble_eq_true rfl⟩ ⟨Nat.le_of_ble_eq_true rfl, Nat.le_of_ble_eq_true rfl⟩ hW (fun H locs hW => ?_)
  cases h
  exact bq_retC S hr hlocks hK hz dX2_init_93 (Nat.le_of_ble_eq_true rfl) (Nat.le_of_ble_eq_true rfl) hW

set_option maxHeartbeats 4000000 in
set_option maxRecDepth 100000 in
theorem cc_X0_init {l : Launch} {g : bq_G} {z n : Nat} {E : bq_E} {a0 : Nat} {R : bq_E} (h : tn_X0_init g E n a0 = some R) : bq_MC l yX0_init cX0_init 1 3 53 17 560 [.ref a0] g E z n R := by
  unfold tn_X0_init at h
  refine bq_enterC (by decide) (Nat.le_of_ble_eq_true rfl) ?_
  intro p e s m args below meth c S hr hlocks hin0 hK hzn hsz hN hW ls hl
  have S : CallFix p m c cX0_init 1 s args bq_WA RX0 := S
  have hx := S.1
  have hb := S.2.1
  have hin2 := hin0 rfl
  have hz : z ≤ s.heap.size := by omega
  have hl : lv_has ls 1 [(0, .ref a0)] := hl
  refine lv_aload_n hx hb dX0_init_0 rfl (lv_at hl 0 rfl) ?_
  refine W.objInit hx hb S.2.2.2.1 (S.2.2.2.2 _ (bq_wi 52 (by decide +kernel) rfl)) (S.2.2.2.2 _ (bq_wi 38 (by decide +kernel) rfl)) (S.2.2.2.2 _ (bq_wi 39 (by decide +kernel) rfl)) rfl (by rw [S.2.2.1]; exact hl.1) rfl dX0_init_1 (Nat.le_of_ble_eq_true rfl) (Nat.le_of_ble_eq_true rfl) ?_
  refine W.eq (g2 := F0 m 4 ls []) rfl ?_
  refine lv_aload_n hx hb dX0_init_4 rfl (lv_at hl 0 rfl) ?_
  refine lv_iconst (v := (-1)) hx hb dX0_init_5 (by decide) ?_
  obtain ⟨E1, hv, h⟩ := bq_bind h
  refine bq_puti S hK fp_X0_9 dX0_init_6 hv hW (fun H locs hW => ?_)
  refine lv_aload_n hx hb dX0_init_9 rfl (lv_at hl 0 rfl) ?_
  refine lv_iconst (v := (-1)) hx hb dX0_init_10 (by decide) ?_
  obtain ⟨E2, hv, h⟩ := bq_bind h
  refine bq_puti S hK fp_X0_15 dX0_init_11 hv hW (fun H locs hW => ?_)
  refine lv_aload_n hx hb dX0_init_14 rfl (lv_at hl 0 rfl) ?_
  refine lv_iconst (v := (-1)) hx hb dX0_init_15 (by decide) ?_
  obtain ⟨E3, hv, h⟩ := bq_bind h
  refine bq_puti S hK fp_X0_18 dX0_init_16 hv hW (fun H locs hW => ?_)
  refine lv_aload_n hx hb dX0_init_19 rfl (lv_at hl 0 rfl) ?_
  refine bq_newO S hK hz (n := n + 0) (by omega) (by omega) (ci := 3) (C := RX3) (T := TX3) (N1 := 2) rfl inWX3 tyX3 tyX3_ok (bq_wi 53 (by decide +kernel) rfl) (bq_wi 54 (by decide +kernel) rfl) (bq_wi 20 (by decide +kernel) rfl) dX0_init_20 (fs := [.null, .int 0]) (fun j hj => by rcases (show j = 0 ∨ j = 1 by omega) with rfl | rfl <;> rfl) ⟨Nat.le_of_ble_eq_true rfl, Nat.le_of_ble_eq_true rfl⟩ hW (fun H locs hW => ?_)
  refine lv_dup hx hb dX0_init_23 rfl ?_
  refine lv_bipush (v := 24) hx hb dX0_init_24 (by decide) ?_
  obtain ⟨E4, hv, h⟩ := bq_bind h
  refine bq_callI S hK hz (n := n + 1) (by omega) hN (cc_X3_init (by decide) (by decide) (by decide) hv) (bq_wi 55 (by decide +kernel) rfl) (bq_wi 56 (by decide +kernel) rfl) (bq_wi 20 (by decide +kernel) rfl) (bq_wi 57 (by decide +kernel) rfl) rfl (by decide +kernel) dX0_init_26 (rest := [.ref (n + 0), .ref a0]) rfl rfl hl.1 (Nat.le_of_ble_eq_true rfl) ⟨Nat.le_of_ble_eq_true rfl, Nat.le_of_ble_eq_true rfl⟩ ⟨Nat.le_of_ble_eq_true rfl, Nat.le_of_ble_eq_true rfl⟩ hW (fun H locs hW => ?_)
  obtain ⟨E5, hv, h⟩ := bq_bind h
  refine bq_putF S hK hin2 ff_X0_26 dX0_init_29 rfl rfl hv hW (fun H locs hW => ?_)
  refine lv_aload_n hx hb dX0_init_32 rfl (lv_at hl 0 rfl) ?_
  refine bq_newO S hK hz (n := n + 2) (by omega) (by omega) (ci := 3) (C := RX3) (T := TX3) (N1 := 2) rfl inWX3 tyX3 tyX3_ok (bq_wi 53 (by decide +kernel) rfl) (bq_wi 54 (by decide +kernel) rfl) (bq_wi 20 (by decide +kernel) rfl) dX0_init_33 (fs := [.null, .int 0]) (fun j hj => by rcases (show j = 0 ∨ j = 1 by omega) with rfl | rfl <;> rfl) ⟨Nat.le_of_ble_eq_true rfl, Nat.le_of_ble_eq_true rfl⟩ hW (fun H locs hW => ?_)
  refine lv_dup hx hb dX0_init_36 rfl ?_
  refine lv_bipush (v := 24) hx hb dX0_init_37 (by decide) ?_
  obtain ⟨E6, hv, h⟩ := bq_bind h
  refine bq_callI S hK hz (n := n + 3) (by omega) hN (cc_X3_init (by decide) (by decide) (by decide) hv) (bq_wi 55 (by decide +kernel) rfl) (bq_wi 56 (by decide +kernel) rfl) (bq_wi 20 (by decide +kernel) rfl) (bq_wi 57 (by decide +kernel) rfl) rfl (by decide +kernel) dX0_init_39 (rest := [.ref (n + 2), .ref a0]) rfl rfl hl.1 (Nat.le_of_ble_eq_true rfl) ⟨Nat.le_of_ble_eq_true rfl, Nat.le_of_ble_eq_true rfl⟩ ⟨Nat.le_of_ble_eq_true rfl, Nat.le_of_ble_eq_true rfl⟩ hW (fun H locs hW => ?_)
  obtain ⟨E7, hv, h⟩ := bq_bind h
  refine bq_putF S hK hin2 ff_X0_30 dX0_init_42 rfl rfl hv hW (fun H locs hW => ?_)
  refine lv_aload_n hx hb dX0_init_45 rfl (lv_at hl 0 rfl) ?_
  refine bq_newO S hK hz (n := n + 4) (by omega) (by omega) (ci := 3) (C := RX3) (T := TX3) (N1 := 2) rfl inWX3 tyX3 tyX3_ok (bq_wi 53 (by decide +kernel) rfl) (bq_wi 54 (by decide +kernel) rfl) (bq_wi 20 (by decide +kernel) rfl) dX0_init_46 (fs := [.null, .int 0]) (fun j hj => by rcases (show j = 0 ∨ j = 1 by omega) with rfl | rfl <;> rfl) ⟨Nat.le_of_ble_eq_true rfl, Nat.le_of_ble_eq_true rfl⟩ hW (fun H locs hW => ?_)
  refine lv_dup hx hb dX0_init_49 rfl ?_
  refine lv_bipush (v := 8) hx hb dX0_init_50 (by decide) ?_
  obtain ⟨E8, hv, h⟩ := bq_bind h
  refine bq_callI S hK hz (n := n + 5) (by omega) hN (cc_X3_init (by decide) (by decide) (by decide) hv) (bq_wi 55 (by decide +kernel) rfl) (bq_wi 56 (by decide +kernel) rfl) (bq_wi 20 (by decide +kernel) rfl) (bq_wi 57 (by decide +kernel) rfl) rfl (by decide +kernel) dX0_init_52 (rest := [.ref (n + 4), .ref a0]) rfl rfl hl.1 (Nat.le_of_ble_eq_true rfl) ⟨Nat.le_of_ble_eq_true rfl, Nat.le_of_ble_eq_true rfl⟩ ⟨Nat.le_of_ble_eq_true rfl, Nat.le_of_ble_eq_true rfl⟩ hW (fun H locs hW => ?_)
  obtain ⟨E9, hv, h⟩ := bq_bind h
  refine bq_putF S hK hin2 ff_X0_33 dX0_init_55 rfl rfl hv hW (fun H locs hW => ?_)
  refine lv_aload_n hx hb dX0_init_58 rfl (lv_at hl 0 rfl) ?_
  refine bq_newO S hK hz (n := n + 6) (by omega) (by omega) (ci := 2) (C := RX2) (T := TX2) (N1 := 5) rfl inWX2 tyX2 tyX2_ok (bq_wi 67 (by decide +kernel) rfl) (bq_wi 68 (by decide +kernel) rfl) (bq_wi 21 (by decide +kernel) rfl) dX0_init_59 (fs := [.null, .null, .null, .null, .null]) (fun j hj => by rcases (show j = 0 ∨ j = 1 ∨ j = 2 ∨ j = 3 ∨ j = 4 by omega) with rfl | rfl | rfl | rfl | rfl <;> rfl) ⟨Nat.le_of_ble_eq_true rfl, Nat.le_of_ble_eq_true rfl⟩ hW (fun H locs hW => ?_)
  refine lv_dup hx hb dX0_init_62 rfl ?_
  obtain ⟨E10, hv, h⟩ := bq_bind h
  refine bq_callI S hK hz (n := n + 7) (by omega) hN (cc_X2_init hv) (bq_wi 69 (by decide +kernel) rfl) (bq_wi 70 (by decide +kernel) rfl) (bq_wi 21 (by decide +kernel) rfl) (bq_wi 71 (by decide +kernel) rfl) rfl (by decide +kernel) dX0_init_63 (rest := [.ref (n + 6), .ref a0]) rfl rfl hl.1 (Nat.le_of_ble_eq_true rfl) ⟨Nat.le_of_ble_eq_true rfl, Nat.le_of_ble_eq_true rfl⟩ ⟨Nat.le_of_ble_eq_true rfl, Nat.le_of_ble_eq_true rfl⟩ hW (fun H locs hW => ?_)
  obtain ⟨E11, hv, h⟩ := bq_bind h
  refine bq_putF S hK hin2 ff_X0_39 dX0_init_66 rfl rfl hv hW (fun H locs hW => ?_)
  cases h
  exact bq_retC S hr hlocks hK hz dX0_init_69 (Nat.le_of_ble_eq_true rfl) (Nat.le_of_ble_eq_true rfl) hW

set_option maxHeartbeats 4000000 in
set_option maxRecDepth 100000 in
theorem cc_X4_init {l : Launch} {g : bq_G} {z n : Nat} {E : bq_E} {a0 : Nat} {R : bq_E} (h : tn_X4_init g E n a0 = some R) : bq_MC l yX4_init cX4_init 2 4 73 273 8552 [.ref a0] g E z n R := by
  unfold tn_X4_init at h
  refine bq_enterC (by decide) (Nat.le_of_ble_eq_true rfl) ?_
  intro p e s m args below meth c S hr hlocks hin0 hK hzn hsz hN hW ls hl
  have S : CallFix p m c cX4_init 2 s args bq_WA RX4 := S
  have hx := S.1
  have hb := S.2.1
  have hin2 := hin0 rfl
  have hz : z ≤ s.heap.size := by omega
  have hl : lv_has ls 2 [(0, .ref a0)] := hl
  refine lv_aload_n hx hb dX4_init_0 rfl (lv_at hl 0 rfl) ?_
  refine W.objInit hx hb S.2.2.2.1 (S.2.2.2.2 _ (bq_wi 45 (by decide +kernel) rfl)) (S.2.2.2.2 _ (bq_wi 38 (by decide +kernel) rfl)) (S.2.2.2.2 _ (bq_wi 39 (by decide +kernel) rfl)) rfl (by rw [S.2.2.1]; exact hl.1) rfl dX4_init_1 (Nat.le_of_ble_eq_true rfl) (Nat.le_of_ble_eq_true rfl) ?_
  refine W.eq (g2 := F0 m 4 ls []) rfl ?_
  refine lv_aload_n hx hb dX4_init_4 rfl (lv_at hl 0 rfl) ?_
  refine lv_bipush (v := 15) hx hb dX4_init_5 (by decide) ?_
  refine bq_newQ S hK hz (n := n + 0) (by omega) (by omega) (C := RX0) (bq_wi 46 (by decide +kernel) rfl) (hN _ (List.mem_of_getElem? (i := 47) (by decide +kernel)) rfl) 2 (cA0 := g.2.2.2.1) rfl (Or.inl rfl) dX4_init_7 (k := 15) (by decide) (by decide) (by decide) ⟨Nat.le_of_ble_eq_true rfl, Nat.le_of_ble_eq_true rfl⟩ hW (fun H locs hW => ?_)
  obtain ⟨E1, hv, h⟩ := bq_bind h
  refine bq_putF S hK hin2 ff_X4_11 dX4_init_10 rfl rfl hv hW (fun H locs hW => ?_)
  refine lv_aload_n hx hb dX4_init_13 rfl (lv_at hl 0 rfl) ?_
  refine bq_newO S hK hz (n := n + 1) (by omega) (by omega) (ci := 0) (C := RX0) (T := TX0) (N1 := 9) rfl inWX0 tyX0 tyX0_ok (bq_wi 46 (by decide +kernel) rfl) (bq_wi 48 (by decide +kernel) rfl) (bq_wi 19 (by decide +kernel) rfl) dX4_init_14 (fs := [.int 0, .int 0, .int 0, .int 0, .int 0, .null, .null, .null, .null]) (fun j hj => by rcases (show j = 0 ∨ j = 1 ∨ j = 2 ∨ j = 3 ∨ j = 4 ∨ j = 5 ∨ j = 6 ∨ j = 7 ∨ j = 8 by omega) with rfl | rfl | rfl | rfl | rfl | rfl | rfl | rfl | rfl <;> rfl) ⟨Nat.le_of_ble_eq_true rfl, Nat.le_of_ble_eq_true rfl⟩ hW (fun H locs hW => ?_)
  refine lv_dup hx hb dX4_init_17 rfl ?_
  obtain ⟨E2, hv, h⟩ := bq_bind h
  refine bq_callIN S hK hz (n := n + 2) (by omega) hN (host := "BridgedCatalogs") (cc_X0_init hv) (hN _ (List.mem_of_getElem? (i := 49) (by decide +kernel)) rfl) (bq_wi 50 (by decide +kernel) rfl) (bq_wi 19 (by decide +kernel) rfl) (bq_wi 51 (by decide +kernel) rfl) rfl (by decide +kernel) dX4_init_18 (rest := [.ref (n + 1), .ref a0]) rfl rfl hl.1 (Nat.le_of_ble_eq_true rfl) ⟨Nat.le_of_ble_eq_true rfl, Nat.le_of_ble_eq_true rfl⟩ ⟨Nat.le_of_ble_eq_true rfl, Nat.le_of_ble_eq_true rfl⟩ hW (fun H locs hW => ?_)
  obtain ⟨E3, hv, h⟩ := bq_bind h
  refine bq_putF S hK hin2 ff_X4_18 dX4_init_21 rfl rfl hv hW (fun H locs hW => ?_)
  refine lv_aload_n hx hb dX4_init_24 rfl (lv_at hl 0 rfl) ?_
  refine bq_newO S hK hz (n := n + 19) (by omega) (by omega) (ci := 3) (C := RX3) (T := TX3) (N1 := 2) rfl inWX3 tyX3 tyX3_ok (bq_wi 147 (by decide +kernel) rfl) (bq_wi 54 (by decide +kernel) rfl) (bq_wi 20 (by decide +kernel) rfl) dX4_init_25 (fs := [.null, .int 0]) (fun j hj => by rcases (show j = 0 ∨ j = 1 by omega) with rfl | rfl <;> rfl) ⟨Nat.le_of_ble_eq_true rfl, Nat.le_of_ble_eq_true rfl⟩ hW (fun H locs hW => ?_)
  refine lv_dup hx hb dX4_init_28 rfl ?_
  refine lv_iconst (v := 0) hx hb dX4_init_29 (by decide) ?_
  obtain ⟨E4, hv, h⟩ := bq_bind h
  refine bq_callI S hK hz (n := n + 20) (by omega) hN (cc_X3_init (by decide) (by decide) (by decide) hv) (bq_wi 148 (by decide +kernel) rfl) (bq_wi 56 (by decide +kernel) rfl) (bq_wi 20 (by decide +kernel) rfl) (bq_wi 57 (by decide +kernel) rfl) rfl (by decide +kernel) dX4_init_30 (rest := [.ref (n + 19), .ref a0]) rfl rfl hl.1 (Nat.le_of_ble_eq_true rfl) ⟨Nat.le_of_ble_eq_true rfl, Nat.le_of_ble_eq_true rfl⟩ ⟨Nat.le_of_ble_eq_true rfl, Nat.le_of_ble_eq_true rfl⟩ hW (fun H locs hW => ?_)
  obtain ⟨E5, hv, h⟩ := bq_bind h
  refine bq_putF S hK hin2 ff_X4_27 dX4_init_33 rfl rfl hv hW (fun H locs hW => ?_)
  refine lv_aload_n hx hb dX4_init_36 rfl (lv_at hl 0 rfl) ?_
  refine lv_iconst (v := 1) hx hb dX4_init_37 (by decide) ?_
  obtain ⟨E6, hv, h⟩ := bq_bind h
  refine bq_puti S hK fp_X4_31 dX4_init_38 hv hW (fun H locs hW => ?_)
  refine lv_aload_n hx hb dX4_init_41 rfl (lv_at hl 0 rfl) ?_
  refine lv_iconst (v := 4) hx hb dX4_init_42 (by decide) ?_
  obtain ⟨E7, hv, h⟩ := bq_bind h
  refine bq_puti S hK fp_X4_35 dX4_init_43 hv hW (fun H locs hW => ?_)
  refine lv_aload_n hx hb dX4_init_46 rfl (lv_at hl 0 rfl) ?_
  refine lv_iconst (v := 2) hx hb dX4_init_47 (by decide) ?_
  obtain ⟨E8, hv, h⟩ := bq_bind h
  refine bq_puti S hK fp_X4_38 dX4_init_48 hv hW (fun H locs hW => ?_)
  refine lv_aload_n hx hb dX4_init_51 rfl (lv_at hl 0 rfl) ?_
  obtain ⟨v9, hv, h⟩ := bq_bind h
  refine bq_getr S hK fl_X4_11 dX4_init_52 hv hW ?_
  refine lv_iconst (v := 0) hx hb dX4_init_55 (by decide) ?_
  refine lv_aload_n hx hb dX4_init_56 rfl (lv_at hl 0 rfl) ?_
  obtain ⟨v10, hv, h⟩ := bq_bind h
  refine bq_getr S hK fl_X4_18 dX4_init_57 hv hW ?_
  obtain ⟨E11, hv, h⟩ := bq_bind h
  refine bq_aast S hK (ci := 0) (by decide) dX4_init_60 hv hW (fun H locs hW => ?_)
  refine lv_iconst (v := 1) hx hb dX4_init_61 (by decide) ?_
  refine lv_istore_n (lv' := [(1, .int (1 : Int32)), (0, .ref a0)]) hx hb dX4_init_62 rfl hl (by decide) rfl (fun ls hl => ?_)
  have hL : ∀ (t : Nat) (y1 : Int32) (n1 : Nat) (E1 : bq_E) (j cl sl : Nat) (H1 : Heap) (locs1 : List Loc) (ls1 : Array Slot), tl_X4_init_63 g a0 (n + 273) t y1 n1 E1 = some R → cl = 21 + 18 * j → sl = 586 + 569 * j → n1 = n + cl → bq_H g (bq_L z n1) E1 z s.heap H1 locs1 → lv_has ls1 2 [(0, .ref a0), (1, .int y1)] → W p l e { frames := 4, cells := 273, slots := 8552, locals := 73 } s m args below meth c H1 locs1 cl sl (MQ below (bq_Q g (bq_L z (n + 273)) R z none) args s 273 8552 (bq_A z)) (F0 m 63 ls1 []) := by
    intro t
    induction t with
    | zero => intro y1 n1 E j cl sl H locs ls h _ _ _ hW hl; cases h
    | succ t ih =>
      intro y1 n1 E j cl sl H locs ls h hcl hsl hn1 hW hl
      rw [tl_X4_init_63.eq_2] at h
      refine lv_iload_n hx hb dX4_init_63 rfl (lv_at hl 1 rfl) ?_
      refine lv_aload_n hx hb dX4_init_64 rfl (lv_at hl 0 rfl) ?_
      obtain ⟨v51, hv, h⟩ := bq_bind h
      refine bq_getr S hK fl_X4_11 dX4_init_65 hv hW ?_
      obtain ⟨v52, hv, h⟩ := bq_bind h
      refine bq_alen S hK dX4_init_68 hv hW ?_
      refine lv_icmp_ge (tgt := 91) hx hb dX4_init_69 (by decide) (fun hc => ?_) (fun hc => ?_)
      · replace h := bq_ifT hc h
        obtain ⟨hq, h⟩ := bq_guard h
        cases h
        rw [hq] at hW
        exact bq_retC S hr hlocks hK hz dX4_init_91 (by omega) (by omega) hW
      · replace h := bq_ifF hc h
        obtain ⟨hg, h⟩ := bq_guard h
        refine lv_aload_n hx hb dX4_init_72 rfl (lv_at hl 0 rfl) ?_
        obtain ⟨v71, hv, h⟩ := bq_bind h
        refine bq_getr S hK fl_X4_11 dX4_init_73 hv hW ?_
        refine lv_iload_n hx hb dX4_init_76 rfl (lv_at hl 1 rfl) ?_
        refine bq_newO S hK hz (n := n1 + 0) (by omega) (by omega) (ci := 0) (C := RX0) (T := TX0) (N1 := 9) rfl inWX0 tyX0 tyX0_ok (bq_wi 46 (by decide +kernel) rfl) (bq_wi 48 (by decide +kernel) rfl) (bq_wi 19 (by decide +kernel) rfl) dX4_init_77 (fs := [.int 0, .int 0, .int 0, .int 0, .int 0, .null, .null, .null, .null]) (fun j hj => by rcases (show j = 0 ∨ j = 1 ∨ j = 2 ∨ j = 3 ∨ j = 4 ∨ j = 5 ∨ j = 6 ∨ j = 7 ∨ j = 8 by omega) with rfl | rfl | rfl | rfl | rfl | rfl | rfl | rfl | rfl <;> rfl) ⟨by show _ ≤ 273; omega, by show _ ≤ 8552; omega⟩ hW (fun H locs hW => ?_)
        refine lv_dup hx hb dX4_init_80 rfl ?_
        obtain ⟨E72, hv, h⟩ := bq_bind h
        refine bq_callIN S hK hz (n := n1 + 1) (by omega) hN (host := "BridgedCatalogs") (cc_X0_init hv) (hN _ (List.mem_of_getElem? (i := 49) (by decide +kernel)) rfl) (bq_wi 50 (by decide +kernel) rfl) (bq_wi 19 (by decide +kernel) rfl) (bq_wi 51 (by decide +kernel) rfl) rfl (by decide +kernel) dX4_init_81 (rest := [.ref (n1 + 0), .int y1, .ref v71]) rfl rfl hl.1 (Nat.le_of_ble_eq_true rfl) ⟨Nat.le_of_ble_eq_true rfl, Nat.le_of_ble_eq_true rfl⟩ ⟨by show _ ≤ 273; omega, by show _ ≤ 8552; omega⟩ hW (fun H locs hW => ?_)
        obtain ⟨E73, hv, h⟩ := bq_bind h
        refine bq_aast S hK (ci := 0) (by decide) dX4_init_84 hv hW (fun H locs hW => ?_)
        obtain ⟨v74, ev74⟩ : ∃ y : Int32, y = y1 + 1 := ⟨_, rfl⟩
        replace h := bq_letE ev74 h
        refine lv_iinc (v := v74) (lv' := [(1, .int v74), (0, .ref a0)]) hx hb dX4_init_85 hl (k := 1) rfl (by rw [ev74]; rfl) (by decide) rfl (fun ls hl => ?_)
        refine lv_goto (tgt := 63) hx hb dX4_init_88 (by decide) ?_
        exact ih _ _ _ (j + 1) _ _ _ _ _ h (by omega) (by omega) (by omega) hW (lv_sub hl [1, 0] rfl)
  exact hL bq_fuel (1 : Int32) (n + 21) E11 0 _ _ _ _ _ h rfl rfl rfl hW (lv_sub hl [1, 0] rfl)

set_option maxHeartbeats 4000000 in
set_option maxRecDepth 100000 in
theorem cc_X5_init {l : Launch} {g : bq_G} {z n : Nat} {E : bq_E} {a0 : Nat} {R : bq_E} (h : tn_X5_init g E n a0 = some R) : bq_MC l yX5_init cX5_init 1 2 33 4 34 [.ref a0] g E z n R := by
  unfold tn_X5_init at h
  refine bq_enterC (by decide) (Nat.le_of_ble_eq_true rfl) ?_
  intro p e s m args below meth c S hr hlocks hin0 hK hzn hsz hN hW ls hl
  have S : CallFix p m c cX5_init 1 s args bq_WA RX5 := S
  have hx := S.1
  have hb := S.2.1
  have hin2 := hin0 rfl
  have hz : z ≤ s.heap.size := by omega
  have hl : lv_has ls 1 [(0, .ref a0)] := hl
  refine lv_aload_n hx hb dX5_init_0 rfl (lv_at hl 0 rfl) ?_
  refine W.objInit hx hb S.2.2.2.1 (S.2.2.2.2 _ (bq_wi 196 (by decide +kernel) rfl)) (S.2.2.2.2 _ (bq_wi 38 (by decide +kernel) rfl)) (S.2.2.2.2 _ (bq_wi 39 (by decide +kernel) rfl)) rfl (by rw [S.2.2.1]; exact hl.1) rfl dX5_init_1 (Nat.le_of_ble_eq_true rfl) (Nat.le_of_ble_eq_true rfl) ?_
  refine W.eq (g2 := F0 m 4 ls []) rfl ?_
  refine lv_aload_n hx hb dX5_init_4 rfl (lv_at hl 0 rfl) ?_
  refine bq_newO S hK hz (n := n + 0) (by omega) (by omega) (ci := 3) (C := RX3) (T := TX3) (N1 := 2) rfl inWX3 tyX3 tyX3_ok (bq_wi 197 (by decide +kernel) rfl) (bq_wi 54 (by decide +kernel) rfl) (bq_wi 20 (by decide +kernel) rfl) dX5_init_5 (fs := [.null, .int 0]) (fun j hj => by rcases (show j = 0 ∨ j = 1 by omega) with rfl | rfl <;> rfl) ⟨Nat.le_of_ble_eq_true rfl, Nat.le_of_ble_eq_true rfl⟩ hW (fun H locs hW => ?_)
  refine lv_dup hx hb dX5_init_8 rfl ?_
  refine lv_bipush (v := 15) hx hb dX5_init_9 (by decide) ?_
  obtain ⟨E1, hv, h⟩ := bq_bind h
  refine bq_callI S hK hz (n := n + 1) (by omega) hN (cc_X3_init (by decide) (by decide) (by decide) hv) (bq_wi 198 (by decide +kernel) rfl) (bq_wi 56 (by decide +kernel) rfl) (bq_wi 20 (by decide +kernel) rfl) (bq_wi 57 (by decide +kernel) rfl) rfl (by decide +kernel) dX5_init_11 (rest := [.ref (n + 0), .ref a0]) rfl rfl hl.1 (Nat.le_of_ble_eq_true rfl) ⟨Nat.le_of_ble_eq_true rfl, Nat.le_of_ble_eq_true rfl⟩ ⟨Nat.le_of_ble_eq_true rfl, Nat.le_of_ble_eq_true rfl⟩ hW (fun H locs hW => ?_)
  obtain ⟨E2, hv, h⟩ := bq_bind h
  refine bq_putF S hK hin2 ff_X5_14 dX5_init_14 rfl rfl hv hW (fun H locs hW => ?_)
  refine lv_aload_n hx hb dX5_init_17 rfl (lv_at hl 0 rfl) ?_
  refine bq_newO S hK hz (n := n + 2) (by omega) (by omega) (ci := 3) (C := RX3) (T := TX3) (N1 := 2) rfl inWX3 tyX3 tyX3_ok (bq_wi 197 (by decide +kernel) rfl) (bq_wi 54 (by decide +kernel) rfl) (bq_wi 20 (by decide +kernel) rfl) dX5_init_18 (fs := [.null, .int 0]) (fun j hj => by rcases (show j = 0 ∨ j = 1 by omega) with rfl | rfl <;> rfl) ⟨Nat.le_of_ble_eq_true rfl, Nat.le_of_ble_eq_true rfl⟩ hW (fun H locs hW => ?_)
  refine lv_dup hx hb dX5_init_21 rfl ?_
  refine lv_bipush (v := 15) hx hb dX5_init_22 (by decide) ?_
  obtain ⟨E3, hv, h⟩ := bq_bind h
  refine bq_callI S hK hz (n := n + 3) (by omega) hN (cc_X3_init (by decide) (by decide) (by decide) hv) (bq_wi 198 (by decide +kernel) rfl) (bq_wi 56 (by decide +kernel) rfl) (bq_wi 20 (by decide +kernel) rfl) (bq_wi 57 (by decide +kernel) rfl) rfl (by decide +kernel) dX5_init_24 (rest := [.ref (n + 2), .ref a0]) rfl rfl hl.1 (Nat.le_of_ble_eq_true rfl) ⟨Nat.le_of_ble_eq_true rfl, Nat.le_of_ble_eq_true rfl⟩ ⟨Nat.le_of_ble_eq_true rfl, Nat.le_of_ble_eq_true rfl⟩ hW (fun H locs hW => ?_)
  obtain ⟨E4, hv, h⟩ := bq_bind h
  refine bq_putF S hK hin2 ff_X5_20 dX5_init_27 rfl rfl hv hW (fun H locs hW => ?_)
  cases h
  exact bq_retC S hr hlocks hK hz dX5_init_30 (Nat.le_of_ble_eq_true rfl) (Nat.le_of_ble_eq_true rfl) hW

set_option maxHeartbeats 4000000 in
set_option maxRecDepth 100000 in
theorem cc_X1_init {l : Launch} {g : bq_G} {z n : Nat} {E : bq_E} {a0 : Nat} {R : bq_E} (h : tn_X1_init g E n a0 = some R) : bq_MC l yX1_init cX1_init 2 5 94 1097 34256 [.ref a0] g E z n R := by
  unfold tn_X1_init at h
  refine bq_enterC (by decide) (Nat.le_of_ble_eq_true rfl) ?_
  intro p e s m args below meth c S hr hlocks hin0 hK hzn hsz hN hW ls hl
  have S : CallFix p m c cX1_init 2 s args bq_WA RX1 := S
  have hx := S.1
  have hb := S.2.1
  have hin2 := hin0 rfl
  have hz : z ≤ s.heap.size := by omega
  have hl : lv_has ls 2 [(0, .ref a0)] := hl
  refine lv_aload_n hx hb dX1_init_0 rfl (lv_at hl 0 rfl) ?_
  refine W.objInit hx hb S.2.2.2.1 (S.2.2.2.2 _ (bq_wi 228 (by decide +kernel) rfl)) (S.2.2.2.2 _ (bq_wi 38 (by decide +kernel) rfl)) (S.2.2.2.2 _ (bq_wi 39 (by decide +kernel) rfl)) rfl (by rw [S.2.2.1]; exact hl.1) rfl dX1_init_1 (Nat.le_of_ble_eq_true rfl) (Nat.le_of_ble_eq_true rfl) ?_
  refine W.eq (g2 := F0 m 4 ls []) rfl ?_
  refine lv_aload_n hx hb dX1_init_4 rfl (lv_at hl 0 rfl) ?_
  refine lv_iconst (v := 4) hx hb dX1_init_5 (by decide) ?_
  refine bq_newQ S hK hz (n := n + 0) (by omega) (by omega) (C := RX4) (bq_wi 229 (by decide +kernel) rfl) (hN _ (List.mem_of_getElem? (i := 230) (by decide +kernel)) rfl) 3 (cA0 := g.2.2.2.2) rfl (Or.inr rfl) dX1_init_6 (k := 4) (by decide) (by decide) (by decide) ⟨Nat.le_of_ble_eq_true rfl, Nat.le_of_ble_eq_true rfl⟩ hW (fun H locs hW => ?_)
  obtain ⟨E1, hv, h⟩ := bq_bind h
  refine bq_putF S hK hin2 ff_X1_11 dX1_init_9 rfl rfl hv hW (fun H locs hW => ?_)
  refine lv_iconst (v := 0) hx hb dX1_init_12 (by decide) ?_
  refine lv_istore_n (lv' := [(1, .int (0 : Int32)), (0, .ref a0)]) hx hb dX1_init_13 rfl hl (by decide) rfl (fun ls hl => ?_)
  have hL : ∀ (t : Nat) (y1 : Int32) (n1 : Nat) (E1 : bq_E) (j cl sl : Nat) (H1 : Heap) (locs1 : List Loc) (ls1 : Array Slot), tl_X1_init_14 g a0 (n + 1097) t y1 n1 E1 = some R → cl = 1 + 274 * j → sl = 4 + 8563 * j → n1 = n + cl → bq_H g (bq_L z n1) E1 z s.heap H1 locs1 → lv_has ls1 2 [(0, .ref a0), (1, .int y1)] → W p l e { frames := 5, cells := 1097, slots := 34256, locals := 94 } s m args below meth c H1 locs1 cl sl (MQ below (bq_Q g (bq_L z (n + 1097)) R z none) args s 1097 34256 (bq_A z)) (F0 m 14 ls1 []) := by
    intro t
    induction t with
    | zero => intro y1 n1 E j cl sl H locs ls h _ _ _ hW hl; cases h
    | succ t ih =>
      intro y1 n1 E j cl sl H locs ls h hcl hsl hn1 hW hl
      rw [tl_X1_init_14.eq_2] at h
      refine lv_iload_n hx hb dX1_init_14 rfl (lv_at hl 1 rfl) ?_
      refine lv_aload_n hx hb dX1_init_15 rfl (lv_at hl 0 rfl) ?_
      obtain ⟨v51, hv, h⟩ := bq_bind h
      refine bq_getr S hK fl_X1_11 dX1_init_16 hv hW ?_
      obtain ⟨v52, hv, h⟩ := bq_bind h
      refine bq_alen S hK dX1_init_19 hv hW ?_
      refine lv_icmp_ge (tgt := 42) hx hb dX1_init_20 (by decide) (fun hc => ?_) (fun hc => ?_)
      · replace h := bq_ifT hc h
        obtain ⟨hq, h⟩ := bq_guard h
        cases h
        rw [hq] at hW
        exact bq_retC S hr hlocks hK hz dX1_init_42 (by omega) (by omega) hW
      · replace h := bq_ifF hc h
        obtain ⟨hg, h⟩ := bq_guard h
        refine lv_aload_n hx hb dX1_init_23 rfl (lv_at hl 0 rfl) ?_
        obtain ⟨v71, hv, h⟩ := bq_bind h
        refine bq_getr S hK fl_X1_11 dX1_init_24 hv hW ?_
        refine lv_iload_n hx hb dX1_init_27 rfl (lv_at hl 1 rfl) ?_
        refine bq_newO S hK hz (n := n1 + 0) (by omega) (by omega) (ci := 4) (C := RX4) (T := TX4) (N1 := 11) rfl inWX4 tyX4 tyX4_ok (bq_wi 229 (by decide +kernel) rfl) (bq_wi 41 (by decide +kernel) rfl) (bq_wi 18 (by decide +kernel) rfl) dX1_init_28 (fs := [.null, .null, .null, .int 0, .int 0, .int 0, .int 0, .int 0, .int 0, .int 0, .int 0]) (fun j hj => by rcases (show j = 0 ∨ j = 1 ∨ j = 2 ∨ j = 3 ∨ j = 4 ∨ j = 5 ∨ j = 6 ∨ j = 7 ∨ j = 8 ∨ j = 9 ∨ j = 10 by omega) with rfl | rfl | rfl | rfl | rfl | rfl | rfl | rfl | rfl | rfl | rfl <;> rfl) ⟨by show _ ≤ 1097; omega, by show _ ≤ 34256; omega⟩ hW (fun H locs hW => ?_)
        refine lv_dup hx hb dX1_init_31 rfl ?_
        obtain ⟨E72, hv, h⟩ := bq_bind h
        refine bq_callI S hK hz (n := n1 + 1) (by omega) hN (cc_X4_init hv) (bq_wi 231 (by decide +kernel) rfl) (bq_wi 43 (by decide +kernel) rfl) (bq_wi 18 (by decide +kernel) rfl) (bq_wi 44 (by decide +kernel) rfl) rfl (by decide +kernel) dX1_init_32 (rest := [.ref (n1 + 0), .int y1, .ref v71]) rfl rfl hl.1 (Nat.le_of_ble_eq_true rfl) ⟨Nat.le_of_ble_eq_true rfl, Nat.le_of_ble_eq_true rfl⟩ ⟨by show _ ≤ 1097; omega, by show _ ≤ 34256; omega⟩ hW (fun H locs hW => ?_)
        obtain ⟨E73, hv, h⟩ := bq_bind h
        refine bq_aast S hK (ci := 4) (by decide) dX1_init_35 hv hW (fun H locs hW => ?_)
        obtain ⟨v74, ev74⟩ : ∃ y : Int32, y = y1 + 1 := ⟨_, rfl⟩
        replace h := bq_letE ev74 h
        refine lv_iinc (v := v74) (lv' := [(1, .int v74), (0, .ref a0)]) hx hb dX1_init_36 hl (k := 1) rfl (by rw [ev74]; rfl) (by decide) rfl (fun ls hl => ?_)
        refine lv_goto (tgt := 14) hx hb dX1_init_39 (by decide) ?_
        exact ih _ _ _ (j + 1) _ _ _ _ _ h (by omega) (by omega) (by omega) hW (lv_sub hl [1, 0] rfl)
  exact hL bq_fuel (0 : Int32) (n + 1) E1 0 _ _ _ _ _ h rfl rfl rfl hW (lv_sub hl [1, 0] rfl)

set_option maxHeartbeats 4000000 in
set_option maxRecDepth 100000 in
theorem cc_X6_init {l : Launch} {g : bq_G} {z n : Nat} {E : bq_E} {a0 : Nat} {R : bq_E} (h : tn_X6_init g E n a0 = some R) : bq_MC l yX6_init cX6_init 1 6 115 1377 42863 [.ref a0] g E z n R := by
  unfold tn_X6_init at h
  refine bq_enterC (by decide) (Nat.le_of_ble_eq_true rfl) ?_
  intro p e s m args below meth c S hr hlocks hin0 hK hzn hsz hN hW ls hl
  have S : CallFix p m c cX6_init 1 s args bq_WA RX6 := S
  have hx := S.1
  have hb := S.2.1
  have hin2 := hin0 rfl
  have hz : z ≤ s.heap.size := by omega
  have hl : lv_has ls 1 [(0, .ref a0)] := hl
  refine lv_aload_n hx hb dX6_init_0 rfl (lv_at hl 0 rfl) ?_
  refine W.objInit hx hb S.2.2.2.1 (S.2.2.2.2 _ (bq_wi 37 (by decide +kernel) rfl)) (S.2.2.2.2 _ (bq_wi 38 (by decide +kernel) rfl)) (S.2.2.2.2 _ (bq_wi 39 (by decide +kernel) rfl)) rfl (by rw [S.2.2.1]; exact hl.1) rfl dX6_init_1 (Nat.le_of_ble_eq_true rfl) (Nat.le_of_ble_eq_true rfl) ?_
  refine W.eq (g2 := F0 m 4 ls []) rfl ?_
  refine lv_aload_n hx hb dX6_init_4 rfl (lv_at hl 0 rfl) ?_
  refine bq_newO S hK hz (n := n + 0) (by omega) (by omega) (ci := 4) (C := RX4) (T := TX4) (N1 := 11) rfl inWX4 tyX4 tyX4_ok (bq_wi 40 (by decide +kernel) rfl) (bq_wi 41 (by decide +kernel) rfl) (bq_wi 18 (by decide +kernel) rfl) dX6_init_5 (fs := [.null, .null, .null, .int 0, .int 0, .int 0, .int 0, .int 0, .int 0, .int 0, .int 0]) (fun j hj => by rcases (show j = 0 ∨ j = 1 ∨ j = 2 ∨ j = 3 ∨ j = 4 ∨ j = 5 ∨ j = 6 ∨ j = 7 ∨ j = 8 ∨ j = 9 ∨ j = 10 by omega) with rfl | rfl | rfl | rfl | rfl | rfl | rfl | rfl | rfl | rfl | rfl <;> rfl) ⟨Nat.le_of_ble_eq_true rfl, Nat.le_of_ble_eq_true rfl⟩ hW (fun H locs hW => ?_)
  refine lv_dup hx hb dX6_init_8 rfl ?_
  obtain ⟨E1, hv, h⟩ := bq_bind h
  refine bq_callI S hK hz (n := n + 1) (by omega) hN (cc_X4_init hv) (bq_wi 42 (by decide +kernel) rfl) (bq_wi 43 (by decide +kernel) rfl) (bq_wi 18 (by decide +kernel) rfl) (bq_wi 44 (by decide +kernel) rfl) rfl (by decide +kernel) dX6_init_9 (rest := [.ref (n + 0), .ref a0]) rfl rfl hl.1 (Nat.le_of_ble_eq_true rfl) ⟨Nat.le_of_ble_eq_true rfl, Nat.le_of_ble_eq_true rfl⟩ ⟨Nat.le_of_ble_eq_true rfl, Nat.le_of_ble_eq_true rfl⟩ hW (fun H locs hW => ?_)
  obtain ⟨E2, hv, h⟩ := bq_bind h
  refine bq_putF S hK hin2 ff_X6_10 dX6_init_12 rfl rfl hv hW (fun H locs hW => ?_)
  refine lv_aload_n hx hb dX6_init_15 rfl (lv_at hl 0 rfl) ?_
  refine bq_newO S hK hz (n := n + 274) (by omega) (by omega) (ci := 5) (C := RX5) (T := TX5) (N1 := 7) rfl inWX5 tyX5 tyX5_ok (bq_wi 191 (by decide +kernel) rfl) (bq_wi 192 (by decide +kernel) rfl) (bq_wi 22 (by decide +kernel) rfl) dX6_init_16 (fs := [.null, .null, .int 0, .int 0, .int 0, .int 0, .int 0]) (fun j hj => by rcases (show j = 0 ∨ j = 1 ∨ j = 2 ∨ j = 3 ∨ j = 4 ∨ j = 5 ∨ j = 6 by omega) with rfl | rfl | rfl | rfl | rfl | rfl | rfl <;> rfl) ⟨Nat.le_of_ble_eq_true rfl, Nat.le_of_ble_eq_true rfl⟩ hW (fun H locs hW => ?_)
  refine lv_dup hx hb dX6_init_19 rfl ?_
  obtain ⟨E3, hv, h⟩ := bq_bind h
  refine bq_callIN S hK hz (n := n + 275) (by omega) hN (host := "BridgedCatalogs") (cc_X5_init hv) (hN _ (List.mem_of_getElem? (i := 193) (by decide +kernel)) rfl) (bq_wi 194 (by decide +kernel) rfl) (bq_wi 22 (by decide +kernel) rfl) (bq_wi 195 (by decide +kernel) rfl) rfl (by decide +kernel) dX6_init_20 (rest := [.ref (n + 274), .ref a0]) rfl rfl hl.1 (Nat.le_of_ble_eq_true rfl) ⟨Nat.le_of_ble_eq_true rfl, Nat.le_of_ble_eq_true rfl⟩ ⟨Nat.le_of_ble_eq_true rfl, Nat.le_of_ble_eq_true rfl⟩ hW (fun H locs hW => ?_)
  obtain ⟨E4, hv, h⟩ := bq_bind h
  refine bq_putF S hK hin2 ff_X6_19 dX6_init_23 rfl rfl hv hW (fun H locs hW => ?_)
  refine lv_aload_n hx hb dX6_init_26 rfl (lv_at hl 0 rfl) ?_
  refine bq_newO S hK hz (n := n + 279) (by omega) (by omega) (ci := 1) (C := RX1) (T := TX1) (N1 := 3) rfl inWX1 tyX1 tyX1_ok (bq_wi 223 (by decide +kernel) rfl) (bq_wi 224 (by decide +kernel) rfl) (bq_wi 23 (by decide +kernel) rfl) dX6_init_27 (fs := [.null, .int 0, .int 0]) (fun j hj => by rcases (show j = 0 ∨ j = 1 ∨ j = 2 by omega) with rfl | rfl | rfl <;> rfl) ⟨Nat.le_of_ble_eq_true rfl, Nat.le_of_ble_eq_true rfl⟩ hW (fun H locs hW => ?_)
  refine lv_dup hx hb dX6_init_30 rfl ?_
  obtain ⟨E5, hv, h⟩ := bq_bind h
  refine bq_callI S hK hz (n := n + 280) (by omega) hN (cc_X1_init hv) (bq_wi 225 (by decide +kernel) rfl) (bq_wi 226 (by decide +kernel) rfl) (bq_wi 23 (by decide +kernel) rfl) (bq_wi 227 (by decide +kernel) rfl) rfl (by decide +kernel) dX6_init_31 (rest := [.ref (n + 279), .ref a0]) rfl rfl hl.1 (Nat.le_of_ble_eq_true rfl) ⟨Nat.le_of_ble_eq_true rfl, Nat.le_of_ble_eq_true rfl⟩ ⟨Nat.le_of_ble_eq_true rfl, Nat.le_of_ble_eq_true rfl⟩ hW (fun H locs hW => ?_)
  obtain ⟨E6, hv, h⟩ := bq_bind h
  refine bq_putF S hK hin2 ff_X6_26 dX6_init_34 rfl rfl hv hW (fun H locs hW => ?_)
  cases h
  exact bq_retC S hr hlocks hK hz dX6_init_37 (Nat.le_of_ble_eq_true rfl) (Nat.le_of_ble_eq_true rfl) hW
