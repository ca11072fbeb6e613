theorem kc_X4_at {E : bq_E} {a0 : Nat} {x1 : Int32} {R : Nat} (h : tw_X4_at E a0 x1 = some R) : bq_cls E a0 = 4 := (bq_guard h).1
set_option maxHeartbeats 4000000 in
set_option maxRecDepth 100000 in
theorem c_X4_at {l : Launch} {g : bq_G} {L : List Nat} {z : Nat} {E : bq_E} {a0 : Nat} {x1 : Int32} {R : Nat} (h : tw_X4_at E a0 x1 = some R) : bq_M l yX4_at cX4_at 3 (some (.object "BridgedCatalogs$Catalog")) 0 0 [.ref a0, .int x1] g L E z (some (.ref R)) E := by
  unfold tw_X4_at at h
  obtain ⟨hcl, h⟩ := bq_guard h
  refine bq_enter (by decide) (Nat.le_of_ble_eq_true rfl) ?_
  intro p e s m args below meth c S hr hlocks hK hz hW ls hl
  have S : CallFix p m c cX4_at 3 s args bq_WA RX4 := S
  have hx := S.1
  have hb := S.2.1
  have hl : lv_has ls 3 [(0, .ref a0), (1, .int x1)] := hl
  refine lv_iload_n hx hb dX4_at_0 rfl (lv_at hl 1 rfl) ?_
  obtain ⟨k22, ek22, h⟩ := bq_letK h
  have hjk22 : ∀ (u0 : Unit) (H1 : Heap) (locs1 : List Loc) (ls1 : Array Slot), k22 u0 = some R → bq_H g L E z s.heap H1 locs1 → lv_has ls1 3 [(0, .ref a0)] → W p l e { frames := 0, cells := 0, slots := 0, locals := 0 } s m args below meth c H1 locs1 0 0 (MQ below (bq_Q g L E z (some (.ref R))) args s 0 0 (bq_A z)) (F0 m 22 ls1 []) := by
    intro u0 H locs ls h hW hl
    replace h := bq_kap1 ek22 h
    refine lv_null hx hb dX4_at_22 ?_
    refine lv_astore_nN (lv' := [(2, .null), (0, .ref a0)]) hx hb dX4_at_23 rfl hl (by decide) rfl (fun ls hl => ?_)
    refine lv_aload_nN hx hb dX4_at_24 rfl (lv_at hl 0 rfl) ?_
    refine lv_ifnullN (tgt := 32) hx hb dX4_at_25 (by decide) ?_
    refine lv_aload_n hx hb dX4_at_32 rfl (lv_at hl 1 rfl) ?_
    obtain ⟨v1, hv, h⟩ := bq_bind h
    refine bq_getr S hK fl_X4_18 dX4_at_33 hv hW ?_
    cases h
    exact bq_reta S hr hlocks hK hz dX4_at_36 hW
  clear ek22
  refine lv_if_lt (tgt := 22) hx hb dX4_at_1 (by decide) (fun hc => ?_) (fun hc => ?_)
  · replace h := bq_ifT hc h
    exact hjk22 () _ _ _ h hW (lv_sub hl [0] rfl)
  · replace h := bq_ifF hc h
    refine lv_iload_n hx hb dX4_at_4 rfl (lv_at hl 1 rfl) ?_
    refine lv_aload_n hx hb dX4_at_5 rfl (lv_at hl 0 rfl) ?_
    obtain ⟨v2, hv, h⟩ := bq_bind h
    refine bq_getr S hK fl_X4_11 dX4_at_6 hv hW ?_
    obtain ⟨v3, hv, h⟩ := bq_bind h
    refine bq_alen S hK dX4_at_9 hv hW ?_
    refine lv_icmp_ge (tgt := 22) hx hb dX4_at_10 (by decide) (fun hc => ?_) (fun hc => ?_)
    · replace h := bq_ifT hc h
      exact hjk22 () _ _ _ h hW (lv_sub hl [0] rfl)
    · replace h := bq_ifF hc h
      refine lv_aload_n hx hb dX4_at_13 rfl (lv_at hl 0 rfl) ?_
      obtain ⟨v4, hv, h⟩ := bq_bind h
      refine bq_getr S hK fl_X4_11 dX4_at_14 hv hW ?_
      refine lv_iload_n hx hb dX4_at_17 rfl (lv_at hl 1 rfl) ?_
      obtain ⟨v5, hv, h⟩ := bq_bind h
      refine bq_aald S hK dX4_at_18 hv hW ?_
      refine lv_goto (tgt := 23) hx hb dX4_at_19 (by decide) ?_
      obtain _ | v6 := v5
      · replace h := bq_optN h
        refine lv_astore_nN (lv' := [(2, .null), (0, .ref a0), (1, .int x1)]) hx hb dX4_at_23 rfl hl (by decide) rfl (fun ls hl => ?_)
        refine lv_aload_nN hx hb dX4_at_24 rfl (lv_at hl 0 rfl) ?_
        refine lv_ifnullN (tgt := 32) hx hb dX4_at_25 (by decide) ?_
        refine lv_aload_n hx hb dX4_at_32 rfl (lv_at hl 1 rfl) ?_
        obtain ⟨v7, hv, h⟩ := bq_bind h
        refine bq_getr S hK fl_X4_18 dX4_at_33 hv hW ?_
        cases h
        exact bq_reta S hr hlocks hK hz dX4_at_36 hW
      · replace h := bq_optS h
        refine lv_astore_n (lv' := [(2, .ref v6), (0, .ref a0), (1, .int x1)]) hx hb dX4_at_23 rfl hl (by decide) rfl (fun ls hl => ?_)
        refine lv_aload_n hx hb dX4_at_24 rfl (lv_at hl 0 rfl) ?_
        refine lv_ifnull hx hb dX4_at_25 ?_
        refine lv_aload_n hx hb dX4_at_28 rfl (lv_at hl 0 rfl) ?_
        refine lv_goto (tgt := 36) hx hb dX4_at_29 (by decide) ?_
        cases h
        exact bq_reta S hr hlocks hK hz dX4_at_36 hW

theorem kc_X4_copyFrom {E : bq_E} {a0 : Nat} {a1 : Nat} {R : bq_E} (h : tw_X4_copyFrom E a0 a1 = some R) : bq_cls E a0 = 4 := (bq_guard h).1
set_option maxHeartbeats 4000000 in
set_option maxRecDepth 100000 in
theorem c_X4_copyFrom {l : Launch} {g : bq_G} {L : List Nat} {z : Nat} {E : bq_E} {a0 : Nat} {a1 : Nat} {R : bq_E} (h : tw_X4_copyFrom E a0 a1 = some R) : bq_M l yX4_copyFrom cX4_copyFrom 3 none 4 104 [.ref a0, .ref a1] g L E z none R := by
  unfold tw_X4_copyFrom at h
  obtain ⟨hcl, h⟩ := bq_guard h
  refine bq_enter (by decide) (Nat.le_of_ble_eq_true rfl) ?_
  intro p e s m args below meth c S hr hlocks hK hz hW ls hl
  have S : CallFix p m c cX4_copyFrom 3 s args bq_WA RX4 := S
  have hx := S.1
  have hb := S.2.1
  have hl : lv_has ls 3 [(0, .ref a0), (1, .ref a1)] := hl
  refine lv_aload_n hx hb dX4_copyFrom_0 rfl (lv_at hl 0 rfl) ?_
  refine lv_aload_n hx hb dX4_copyFrom_1 rfl (lv_at hl 1 rfl) ?_
  obtain ⟨v1, hv, h⟩ := bq_bind h
  refine bq_geti S hK fl_X4_31 dX4_copyFrom_2 hv hW ?_
  obtain ⟨E2, hv, h⟩ := bq_bind h
  refine bq_puti S hK fp_X4_31 dX4_copyFrom_5 hv hW (fun H locs hW => ?_)
  refine lv_aload_n hx hb dX4_copyFrom_8 rfl (lv_at hl 0 rfl) ?_
  refine lv_aload_n hx hb dX4_copyFrom_9 rfl (lv_at hl 1 rfl) ?_
  obtain ⟨v3, hv, h⟩ := bq_bind h
  refine bq_geti S hK fl_X4_35 dX4_copyFrom_10 hv hW ?_
  obtain ⟨E4, hv, h⟩ := bq_bind h
  refine bq_puti S hK fp_X4_35 dX4_copyFrom_13 hv hW (fun H locs hW => ?_)
  refine lv_aload_n hx hb dX4_copyFrom_16 rfl (lv_at hl 0 rfl) ?_
  refine lv_aload_n hx hb dX4_copyFrom_17 rfl (lv_at hl 1 rfl) ?_
  obtain ⟨v5, hv, h⟩ := bq_bind h
  refine bq_geti S hK fl_X4_38 dX4_copyFrom_18 hv hW ?_
  obtain ⟨E6, hv, h⟩ := bq_bind h
  refine bq_puti S hK fp_X4_38 dX4_copyFrom_21 hv hW (fun H locs hW => ?_)
  refine lv_aload_n hx hb dX4_copyFrom_24 rfl (lv_at hl 0 rfl) ?_
  refine lv_aload_n hx hb dX4_copyFrom_25 rfl (lv_at hl 1 rfl) ?_
  obtain ⟨v7, hv, h⟩ := bq_bind h
  refine bq_geti S hK fl_X4_123 dX4_copyFrom_26 hv hW ?_
  obtain ⟨E8, hv, h⟩ := bq_bind h
  refine bq_puti S hK fp_X4_123 dX4_copyFrom_29 hv hW (fun H locs hW => ?_)
  refine lv_aload_n hx hb dX4_copyFrom_32 rfl (lv_at hl 0 rfl) ?_
  refine lv_aload_n hx hb dX4_copyFrom_33 rfl (lv_at hl 1 rfl) ?_
  obtain ⟨v9, hv, h⟩ := bq_bind h
  refine bq_geti S hK fl_X4_126 dX4_copyFrom_34 hv hW ?_
  obtain ⟨E10, hv, h⟩ := bq_bind h
  refine bq_puti S hK fp_X4_126 dX4_copyFrom_37 hv hW (fun H locs hW => ?_)
  refine lv_aload_n hx hb dX4_copyFrom_40 rfl (lv_at hl 0 rfl) ?_
  refine lv_aload_n hx hb dX4_copyFrom_41 rfl (lv_at hl 1 rfl) ?_
  obtain ⟨v11, hv, h⟩ := bq_bind h
  refine bq_geti S hK fl_X4_107 dX4_copyFrom_42 hv hW ?_
  obtain ⟨E12, hv, h⟩ := bq_bind h
  refine bq_puti S hK fp_X4_107 dX4_copyFrom_45 hv hW (fun H locs hW => ?_)
  refine lv_aload_n hx hb dX4_copyFrom_48 rfl (lv_at hl 0 rfl) ?_
  refine lv_aload_n hx hb dX4_copyFrom_49 rfl (lv_at hl 1 rfl) ?_
  obtain ⟨v13, hv, h⟩ := bq_bind h
  refine bq_geti S hK fl_X4_114 dX4_copyFrom_50 hv hW ?_
  obtain ⟨E14, hv, h⟩ := bq_bind h
  refine bq_puti S hK fp_X4_114 dX4_copyFrom_53 hv hW (fun H locs hW => ?_)
  refine lv_aload_n hx hb dX4_copyFrom_56 rfl (lv_at hl 0 rfl) ?_
  refine lv_aload_n hx hb dX4_copyFrom_57 rfl (lv_at hl 1 rfl) ?_
  obtain ⟨v15, hv, h⟩ := bq_bind h
  refine bq_geti S hK fl_X4_90 dX4_copyFrom_58 hv hW ?_
  obtain ⟨E16, hv, h⟩ := bq_bind h
  refine bq_puti S hK fp_X4_90 dX4_copyFrom_61 hv hW (fun H locs hW => ?_)
  refine lv_iconst (v := 0) hx hb dX4_copyFrom_64 (by decide) ?_
  refine lv_istore_n (lv' := [(2, .int (0 : Int32)), (0, .ref a0), (1, .ref a1)]) hx hb dX4_copyFrom_65 rfl hl (by decide) rfl (fun ls hl => ?_)
  have hL66 : ∀ (n : Nat) (z19 : Int32) (E20 : bq_E) (H1 : Heap) (locs1 : List Loc) (ls1 : Array Slot), tl_X4_copyFrom_66 a0 a1 n z19 E20 = some R → bq_H g L E20 z s.heap H1 locs1 → lv_has ls1 3 [(0, .ref a0), (1, .ref a1), (2, .int z19)] → W p l e { frames := 4, cells := 0, slots := 0, locals := 104 } s m args below meth c H1 locs1 0 0 (MQ below (bq_Q g L R z none) args s 0 0 (bq_A z)) (F0 m 66 ls1 []) := by
    intro n
    induction n with
    | zero => intro z19 E20 H locs ls h hW hl; cases h
    | succ n ih =>
      intro z19 E20 H locs ls h hW hl
      rw [tl_X4_copyFrom_66.eq_2] at h
      refine lv_iload_n hx hb dX4_copyFrom_66 rfl (lv_at hl 2 rfl) ?_
      refine lv_aload_n hx hb dX4_copyFrom_67 rfl (lv_at hl 0 rfl) ?_
      obtain ⟨v21, hv, h⟩ := bq_bind h
      refine bq_geti S hK fl_X4_31 dX4_copyFrom_68 hv hW ?_
      refine lv_icmp_ge (tgt := 93) hx hb dX4_copyFrom_71 (by decide) (fun hc => ?_) (fun hc => ?_)
      · replace h := bq_ifT hc h
        cases h
        exact bq_retv S hr hlocks hK hz dX4_copyFrom_93 hW
      · replace h := bq_ifF hc h
        refine lv_aload_n hx hb dX4_copyFrom_74 rfl (lv_at hl 0 rfl) ?_
        refine lv_iload_n hx hb dX4_copyFrom_75 rfl (lv_at hl 2 rfl) ?_
        obtain ⟨v22, hv, h⟩ := bq_bind h
        refine bq_callV S hK hz mv_X4_41 (c_X4_at hv) (kc_X4_at hv) dX4_copyFrom_76 [.ref v22] (rest := []) rfl rfl rfl hl.1 (Nat.le_of_ble_eq_true rfl) ⟨Nat.le_of_ble_eq_true rfl, Nat.le_of_ble_eq_true rfl⟩ ⟨Nat.zero_le _, Nat.zero_le _⟩ hW (fun H locs hW => ?_)
        refine lv_aload_n hx hb dX4_copyFrom_79 rfl (lv_at hl 1 rfl) ?_
        refine lv_iload_n hx hb dX4_copyFrom_80 rfl (lv_at hl 2 rfl) ?_
        obtain ⟨v23, hv, h⟩ := bq_bind h
        refine bq_callV S hK hz mv_X4_41 (c_X4_at hv) (kc_X4_at hv) dX4_copyFrom_81 [.ref v23, .ref v22] (rest := [.ref v22]) rfl rfl rfl hl.1 (Nat.le_of_ble_eq_true rfl) ⟨Nat.le_of_ble_eq_true rfl, Nat.le_of_ble_eq_true rfl⟩ ⟨Nat.zero_le _, Nat.zero_le _⟩ hW (fun H locs hW => ?_)
        obtain ⟨E24, hv, h⟩ := bq_bind h
        refine bq_callV S hK hz mv_X4_129 (c_X0_copyFrom hv) (kc_X0_copyFrom hv) dX4_copyFrom_84 [] (rest := []) rfl rfl rfl hl.1 (Nat.le_of_ble_eq_true rfl) ⟨Nat.le_of_ble_eq_true rfl, Nat.le_of_ble_eq_true rfl⟩ ⟨Nat.zero_le _, Nat.zero_le _⟩ hW (fun H locs hW => ?_)
        obtain ⟨v25, ev25⟩ : ∃ y : Int32, y = z19 + 1 := ⟨_, rfl⟩
        replace h := bq_letE ev25 h
        refine lv_iinc (v := v25) (lv' := [(2, .int v25), (0, .ref a0), (1, .ref a1)]) hx hb dX4_copyFrom_87 hl (k := 2) rfl (by rw [ev25]; rfl) (by decide) rfl (fun ls hl => ?_)
        refine lv_goto (tgt := 66) hx hb dX4_copyFrom_90 (by decide) ?_
        exact ih v25 E24 _ _ _ h hW (lv_sub hl [1, 2, 0] rfl)
  exact hL66 bq_fuel (0 : Int32) E16 _ _ _ h hW (lv_sub hl [1, 2, 0] rfl)

theorem kc_X4_entriesOf {E : bq_E} {a0 : Nat} {x1 : Int32} {R : Nat} (h : tw_X4_entriesOf E a0 x1 = some R) : bq_cls E a0 = 4 := (bq_guard h).1
set_option maxHeartbeats 4000000 in
set_option maxRecDepth 100000 in
theorem c_X4_entriesOf {l : Launch} {g : bq_G} {L : List Nat} {z : Nat} {E : bq_E} {a0 : Nat} {x1 : Int32} {R : Nat} (h : tw_X4_entriesOf E a0 x1 = some R) : bq_M l yX4_entriesOf cX4_entriesOf 2 (some (.object "BridgedCatalogs$Row")) 1 22 [.ref a0, .int x1] g L E z (some (.ref R)) E := by
  unfold tw_X4_entriesOf at h
  obtain ⟨hcl, h⟩ := bq_guard h
  refine bq_enter (by decide) (Nat.le_of_ble_eq_true rfl) ?_
  intro p e s m args below meth c S hr hlocks hK hz hW ls hl
  have S : CallFix p m c cX4_entriesOf 2 s args bq_WA RX4 := S
  have hx := S.1
  have hb := S.2.1
  have hl : lv_has ls 2 [(0, .ref a0), (1, .int x1)] := hl
  refine lv_iload_n hx hb dX4_entriesOf_0 rfl (lv_at hl 1 rfl) ?_
  refine lv_iconst (v := (-1)) hx hb dX4_entriesOf_1 (by decide) ?_
  refine lv_icmp_ne (tgt := 12) hx hb dX4_entriesOf_2 (by decide) (fun hc => ?_) (fun hc => ?_)
  · replace h := bq_ifF hc h
    refine lv_aload_n hx hb dX4_entriesOf_12 rfl (lv_at hl 0 rfl) ?_
    refine lv_iload_n hx hb dX4_entriesOf_13 rfl (lv_at hl 1 rfl) ?_
    obtain ⟨v1, hv, h⟩ := bq_bind h
    refine bq_callV S hK hz mv_X4_41 (c_X4_at hv) (kc_X4_at hv) dX4_entriesOf_14 [.ref v1] (rest := []) rfl rfl rfl hl.1 (Nat.le_of_ble_eq_true rfl) ⟨Nat.le_of_ble_eq_true rfl, Nat.le_of_ble_eq_true rfl⟩ ⟨Nat.zero_le _, Nat.zero_le _⟩ hW (fun H locs hW => ?_)
    obtain ⟨v2, hv, h⟩ := bq_bind h
    refine bq_getr S hK fl_X4_93 dX4_entriesOf_17 hv hW ?_
    obtain ⟨v3, hv, h⟩ := bq_bind h
    refine bq_getr S hK fl_X4_117 dX4_entriesOf_20 hv hW ?_
    cases h
    exact bq_reta S hr hlocks hK hz dX4_entriesOf_23 hW
  · replace h := bq_ifT hc h
    refine lv_aload_n hx hb dX4_entriesOf_5 rfl (lv_at hl 0 rfl) ?_
    obtain ⟨v4, hv, h⟩ := bq_bind h
    refine bq_getr S hK fl_X4_27 dX4_entriesOf_6 hv hW ?_
    refine lv_goto (tgt := 23) hx hb dX4_entriesOf_9 (by decide) ?_
    cases h
    exact bq_reta S hr hlocks hK hz dX4_entriesOf_23 hW

theorem kc_X4_buildUpFrom {E : bq_E} {a0 : Nat} {x1 : Int32} {R : (Int32 × bq_E)} (h : tw_X4_buildUpFrom E a0 x1 = some R) : bq_cls E a0 = 4 := (bq_guard h).1
set_option maxHeartbeats 4000000 in
set_option maxRecDepth 100000 in
theorem c_X4_buildUpFrom {l : Launch} {g : bq_G} {L : List Nat} {z : Nat} {E : bq_E} {a0 : Nat} {x1 : Int32} {R : (Int32 × bq_E)} (h : tw_X4_buildUpFrom E a0 x1 = some R) : bq_M l yX4_buildUpFrom cX4_buildUpFrom 5 (some .int) 3 80 [.ref a0, .int x1] g L E z (some (.int R.1)) R.2 := by
  unfold tw_X4_buildUpFrom at h
  obtain ⟨hcl, h⟩ := bq_guard h
  refine bq_enter (by decide) (Nat.le_of_ble_eq_true rfl) ?_
  intro p e s m args below meth c S hr hlocks hK hz hW ls hl
  have S : CallFix p m c cX4_buildUpFrom 5 s args bq_WA RX4 := S
  have hx := S.1
  have hb := S.2.1
  have hl : lv_has ls 5 [(0, .ref a0), (1, .int x1)] := hl
  refine lv_iconst (v := 0) hx hb dX4_buildUpFrom_0 (by decide) ?_
  refine lv_istore_n (lv' := [(2, .int (0 : Int32)), (0, .ref a0), (1, .int x1)]) hx hb dX4_buildUpFrom_1 rfl hl (by decide) rfl (fun ls hl => ?_)
  refine lv_aload_n hx hb dX4_buildUpFrom_2 rfl (lv_at hl 1 rfl) ?_
  refine lv_iload_n hx hb dX4_buildUpFrom_3 rfl (lv_at hl 2 rfl) ?_
  obtain ⟨v1, hv, h⟩ := bq_bind h
  refine bq_callV S hK hz mv_X4_41 (c_X4_at hv) (kc_X4_at hv) dX4_buildUpFrom_4 [.ref v1] (rest := []) rfl rfl rfl hl.1 (Nat.le_of_ble_eq_true rfl) ⟨Nat.le_of_ble_eq_true rfl, Nat.le_of_ble_eq_true rfl⟩ ⟨Nat.zero_le _, Nat.zero_le _⟩ hW (fun H locs hW => ?_)
  refine lv_astore_n (lv' := [(3, .ref v1), (2, .int (0 : Int32)), (0, .ref a0), (1, .int x1)]) hx hb dX4_buildUpFrom_7 rfl hl (by decide) rfl (fun ls hl => ?_)
  refine lv_aload_n hx hb dX4_buildUpFrom_8 rfl (lv_at hl 0 rfl) ?_
  obtain ⟨v2, hv, h⟩ := bq_bind h
  refine bq_geti S hK fl_X4_51 dX4_buildUpFrom_9 hv hW ?_
  refine lv_istore (lv' := [(4, .int v2), (3, .ref v1), (2, .int (0 : Int32)), (0, .ref a0), (1, .int x1)]) hx hb dX4_buildUpFrom_12 hl (by decide) rfl (fun ls hl => ?_)
  have hL14 : ∀ (n : Nat) (z7 : Int32) (z8 : Nat) (z9 : Int32) (E10 : bq_E) (H1 : Heap) (locs1 : List Loc) (ls1 : Array Slot), tl_X4_buildUpFrom_14 a0 n z7 z8 z9 E10 = some R → bq_H g L E10 z s.heap H1 locs1 → lv_has ls1 5 [(0, .ref a0), (2, .int z7), (3, .ref z8), (4, .int z9)] → W p l e { frames := 3, cells := 0, slots := 0, locals := 80 } s m args below meth c H1 locs1 0 0 (MQ below (bq_Q g L R.2 z (some (.int R.1))) args s 0 0 (bq_A z)) (F0 m 14 ls1 []) := by
    intro n
    induction n with
    | zero => intro z7 z8 z9 E10 H locs ls h hW hl; cases h
    | succ n ih =>
      intro z7 z8 z9 E10 H locs ls h hW hl
      rw [tl_X4_buildUpFrom_14.eq_2] at h
      refine lv_iload hx hb dX4_buildUpFrom_14 (lv_at hl 3 rfl) ?_
      refine lv_if_lt (tgt := 85) hx hb dX4_buildUpFrom_16 (by decide) (fun hc => ?_) (fun hc => ?_)
      · replace h := bq_ifT hc h
        refine lv_aload_n hx hb dX4_buildUpFrom_85 rfl (lv_at hl 0 rfl) ?_
        refine lv_dup hx hb dX4_buildUpFrom_86 rfl ?_
        obtain ⟨v11, hv, h⟩ := bq_bind h
        refine bq_geti S hK fl_X4_114 dX4_buildUpFrom_87 hv hW ?_
        refine lv_iload_n hx hb dX4_buildUpFrom_90 rfl (lv_at hl 1 rfl) ?_
        refine lv_iadd hx hb dX4_buildUpFrom_91 ?_
        obtain ⟨E12, hv, h⟩ := bq_bind h
        refine bq_puti S hK fp_X4_114 dX4_buildUpFrom_92 hv hW (fun H locs hW => ?_)
        refine lv_iload_n hx hb dX4_buildUpFrom_95 rfl (lv_at hl 1 rfl) ?_
        cases h
        exact bq_reti S hr hlocks hK hz dX4_buildUpFrom_96 hW
      · replace h := bq_ifF hc h
        refine lv_aload_n hx hb dX4_buildUpFrom_19 rfl (lv_at hl 2 rfl) ?_
        obtain ⟨v13, hv, h⟩ := bq_bind h
        refine bq_getr S hK fl_X4_93 dX4_buildUpFrom_20 hv hW ?_
        refine lv_aload_n hx hb dX4_buildUpFrom_23 rfl (lv_at hl 2 rfl) ?_
        obtain ⟨v14, hv, h⟩ := bq_bind h
        refine bq_getr S hK fl_X4_84 dX4_buildUpFrom_24 hv hW ?_
        refine lv_aload_n hx hb dX4_buildUpFrom_27 rfl (lv_at hl 0 rfl) ?_
        refine lv_aload_n hx hb dX4_buildUpFrom_28 rfl (lv_at hl 2 rfl) ?_
        obtain ⟨v15, hv, h⟩ := bq_bind h
        refine bq_geti S hK fl_X4_45 dX4_buildUpFrom_29 hv hW ?_
        obtain ⟨v16, hv, h⟩ := bq_bind h
        refine bq_callV S hK hz mv_X4_97 (c_X4_entriesOf hv) (kc_X4_entriesOf hv) dX4_buildUpFrom_32 [.ref v16, .ref v14, .ref v13] (rest := [.ref v14, .ref v13]) rfl rfl rfl hl.1 (Nat.le_of_ble_eq_true rfl) ⟨Nat.le_of_ble_eq_true rfl, Nat.le_of_ble_eq_true rfl⟩ ⟨Nat.zero_le _, Nat.zero_le _⟩ hW (fun H locs hW => ?_)
        refine lv_aload_n hx hb dX4_buildUpFrom_35 rfl (lv_at hl 0 rfl) ?_
        refine lv_aload_n hx hb dX4_buildUpFrom_36 rfl (lv_at hl 2 rfl) ?_
        obtain ⟨v17, hv, h⟩ := bq_bind h
        refine bq_geti S hK fl_X4_48 dX4_buildUpFrom_37 hv hW ?_
        obtain ⟨v18, hv, h⟩ := bq_bind h
        refine bq_callV S hK hz mv_X4_97 (c_X4_entriesOf hv) (kc_X4_entriesOf hv) dX4_buildUpFrom_40 [.ref v18, .ref v16, .ref v14, .ref v13] (rest := [.ref v16, .ref v14, .ref v13]) rfl rfl rfl hl.1 (Nat.le_of_ble_eq_true rfl) ⟨Nat.le_of_ble_eq_true rfl, Nat.le_of_ble_eq_true rfl⟩ ⟨Nat.zero_le _, Nat.zero_le _⟩ hW (fun H locs hW => ?_)
        refine lv_aload_n hx hb dX4_buildUpFrom_43 rfl (lv_at hl 0 rfl) ?_
        obtain ⟨v19, hv, h⟩ := bq_bind h
        refine bq_geti S hK fl_X4_38 dX4_buildUpFrom_44 hv hW ?_
        obtain ⟨E20, hv, h⟩ := bq_bind h
        refine bq_callV S hK hz mv_X4_101 (c_X2_build hv) (kc_X2_build hv) dX4_buildUpFrom_47 [] (rest := []) rfl rfl rfl hl.1 (Nat.le_of_ble_eq_true rfl) ⟨Nat.le_of_ble_eq_true rfl, Nat.le_of_ble_eq_true rfl⟩ ⟨Nat.zero_le _, Nat.zero_le _⟩ hW (fun H locs hW => ?_)
        refine lv_aload_n hx hb dX4_buildUpFrom_50 rfl (lv_at hl 0 rfl) ?_
        refine lv_dup hx hb dX4_buildUpFrom_51 rfl ?_
        obtain ⟨v21, hv, h⟩ := bq_bind h
        refine bq_geti S hK fl_X4_107 dX4_buildUpFrom_52 hv hW ?_
        refine lv_iconst (v := 1) hx hb dX4_buildUpFrom_55 (by decide) ?_
        refine lv_iadd hx hb dX4_buildUpFrom_56 ?_
        obtain ⟨E22, hv, h⟩ := bq_bind h
        refine bq_puti S hK fp_X4_107 dX4_buildUpFrom_57 hv hW (fun H locs hW => ?_)
        refine lv_iload_n hx hb dX4_buildUpFrom_60 rfl (lv_at hl 1 rfl) ?_
        refine lv_aload_n hx hb dX4_buildUpFrom_61 rfl (lv_at hl 2 rfl) ?_
        obtain ⟨v23, hv, h⟩ := bq_bind h
        refine bq_getr S hK fl_X4_93 dX4_buildUpFrom_62 hv hW ?_
        obtain ⟨v24, hv, h⟩ := bq_bind h
        refine bq_callV S hK hz mv_X4_110 (c_X2_size hv) (kc_X2_size hv) dX4_buildUpFrom_65 [.int v24, .int z7] (rest := [.int z7]) rfl rfl rfl hl.1 (Nat.le_of_ble_eq_true rfl) ⟨Nat.le_of_ble_eq_true rfl, Nat.le_of_ble_eq_true rfl⟩ ⟨Nat.zero_le _, Nat.zero_le _⟩ hW (fun H locs hW => ?_)
        refine lv_iadd hx hb dX4_buildUpFrom_68 ?_
        refine lv_topi (fun v25 ev25 => ?_)
        replace h := bq_letE ev25 h
        refine lv_istore_n (lv' := [(2, .int v25), (0, .ref a0), (3, .ref z8), (4, .int z9)]) hx hb dX4_buildUpFrom_69 rfl hl (by decide) rfl (fun ls hl => ?_)
        refine lv_aload_n hx hb dX4_buildUpFrom_70 rfl (lv_at hl 1 rfl) ?_
        refine lv_aload_n hx hb dX4_buildUpFrom_71 rfl (lv_at hl 2 rfl) ?_
        obtain ⟨v26, hv, h⟩ := bq_bind h
        refine bq_geti S hK fl_X4_111 dX4_buildUpFrom_72 hv hW ?_
        obtain ⟨v27, hv, h⟩ := bq_bind h
        refine bq_callV S hK hz mv_X4_41 (c_X4_at hv) (kc_X4_at hv) dX4_buildUpFrom_75 [.ref v27] (rest := []) rfl rfl rfl hl.1 (Nat.le_of_ble_eq_true rfl) ⟨Nat.le_of_ble_eq_true rfl, Nat.le_of_ble_eq_true rfl⟩ ⟨Nat.zero_le _, Nat.zero_le _⟩ hW (fun H locs hW => ?_)
        refine lv_astore_n (lv' := [(3, .ref v27), (2, .int v25), (0, .ref a0), (4, .int z9)]) hx hb dX4_buildUpFrom_78 rfl hl (by decide) rfl (fun ls hl => ?_)
        obtain ⟨v28, ev28⟩ : ∃ y : Int32, y = z9 + (-1) := ⟨_, rfl⟩
        replace h := bq_letE ev28 h
        refine lv_iinc (v := v28) (lv' := [(4, .int v28), (3, .ref v27), (2, .int v25), (0, .ref a0)]) hx hb dX4_buildUpFrom_79 hl (k := 3) rfl (by rw [ev28]; rfl) (by decide) rfl (fun ls hl => ?_)
        refine lv_goto (tgt := 14) hx hb dX4_buildUpFrom_82 (by decide) ?_
        exact ih v25 v27 v28 E22 _ _ _ h hW (lv_sub hl [3, 2, 1, 0] rfl)
  exact hL14 bq_fuel (0 : Int32) v1 v2 E _ _ _ h hW (lv_sub hl [3, 2, 1, 0] rfl)

theorem kc_X4_grow {E : bq_E} {a0 : Nat} {x1 : Int32} {x2 : Int32} {R : (Int32 × bq_E)} (h : tw_X4_grow E a0 x1 x2 = some R) : bq_cls E a0 = 4 := (bq_guard h).1
set_option maxHeartbeats 4000000 in
set_option maxRecDepth 100000 in
theorem c_X4_grow {l : Launch} {g : bq_G} {L : List Nat} {z : Nat} {E : bq_E} {a0 : Nat} {x1 : Int32} {x2 : Int32} {R : (Int32 × bq_E)} (h : tw_X4_grow E a0 x1 x2 = some R) : bq_M l yX4_grow cX4_grow 5 (some .int) 4 104 [.ref a0, .int x1, .int x2] g L E z (some (.int R.1)) R.2 := by
  unfold tw_X4_grow at h
  obtain ⟨hcl, h⟩ := bq_guard h
  refine bq_enter (by decide) (Nat.le_of_ble_eq_true rfl) ?_
  intro p e s m args below meth c S hr hlocks hK hz hW ls hl
  have S : CallFix p m c cX4_grow 5 s args bq_WA RX4 := S
  have hx := S.1
  have hb := S.2.1
  have hl : lv_has ls 5 [(0, .ref a0), (1, .int x1), (2, .int x2)] := hl
  refine lv_aload_n hx hb dX4_grow_0 rfl (lv_at hl 0 rfl) ?_
  obtain ⟨v1, hv, h⟩ := bq_bind h
  refine bq_geti S hK fl_X4_31 dX4_grow_1 hv hW ?_
  refine lv_istore_n (lv' := [(3, .int v1), (0, .ref a0), (1, .int x1), (2, .int x2)]) hx hb dX4_grow_4 rfl hl (by decide) rfl (fun ls hl => ?_)
  refine lv_aload_n hx hb dX4_grow_5 rfl (lv_at hl 1 rfl) ?_
  refine lv_iload_n hx hb dX4_grow_6 rfl (lv_at hl 2 rfl) ?_
  obtain ⟨v2, hv, h⟩ := bq_bind h
  refine bq_callV S hK hz mv_X4_41 (c_X4_at hv) (kc_X4_at hv) dX4_grow_7 [.ref v2] (rest := []) rfl rfl rfl hl.1 (Nat.le_of_ble_eq_true rfl) ⟨Nat.le_of_ble_eq_true rfl, Nat.le_of_ble_eq_true rfl⟩ ⟨Nat.zero_le _, Nat.zero_le _⟩ hW (fun H locs hW => ?_)
  refine lv_astore (lv' := [(4, .ref v2), (3, .int v1), (0, .ref a0), (1, .int x1), (2, .int x2)]) hx hb dX4_grow_10 hl (by decide) rfl (fun ls hl => ?_)
  refine lv_iload_n hx hb dX4_grow_12 rfl (lv_at hl 4 rfl) ?_
  refine lv_iconst (v := 1) hx hb dX4_grow_13 (by decide) ?_
  obtain ⟨k32, ek32, h⟩ := bq_letK h
  have hjk32 : ∀ (E3 : bq_E) (H1 : Heap) (locs1 : List Loc) (ls1 : Array Slot), k32 E3 = some R → bq_H g L E3 z s.heap H1 locs1 → lv_has ls1 5 [(0, .ref a0), (1, .int x1), (3, .int v1), (4, .ref v2)] → W p l e { frames := 4, cells := 0, slots := 0, locals := 104 } s m args below meth c H1 locs1 0 0 (MQ below (bq_Q g L R.2 z (some (.int R.1))) args s 0 0 (bq_A z)) (F0 m 32 ls1 []) := by
    intro E3 H locs ls h hW hl
    replace h := bq_kap1 ek32 h
    refine lv_aload_n hx hb dX4_grow_32 rfl (lv_at hl 0 rfl) ?_
    refine lv_iload_n hx hb dX4_grow_33 rfl (lv_at hl 2 rfl) ?_
    obtain ⟨v4, hv, h⟩ := bq_bind h
    refine bq_callV S hK hz mv_X4_41 (c_X4_at hv) (kc_X4_at hv) dX4_grow_34 [.ref v4] (rest := []) rfl rfl rfl hl.1 (Nat.le_of_ble_eq_true rfl) ⟨Nat.le_of_ble_eq_true rfl, Nat.le_of_ble_eq_true rfl⟩ ⟨Nat.zero_le _, Nat.zero_le _⟩ hW (fun H locs hW => ?_)
    refine lv_iload_n hx hb dX4_grow_37 rfl (lv_at hl 1 rfl) ?_
    refine lv_aload hx hb dX4_grow_38 (lv_at hl 3 rfl) ?_
    obtain ⟨v5, hv, h⟩ := bq_bind h
    refine bq_geti S hK fl_X4_51 dX4_grow_40 hv hW ?_
    refine lv_iconst (v := 1) hx hb dX4_grow_43 (by decide) ?_
    refine lv_iadd hx hb dX4_grow_44 ?_
    obtain ⟨E6, hv, h⟩ := bq_bind h
    refine bq_callV S hK hz mv_X4_54 (c_X0_begin hv) (kc_X0_begin hv) dX4_grow_45 [] (rest := []) rfl rfl rfl hl.1 (Nat.le_of_ble_eq_true rfl) ⟨Nat.le_of_ble_eq_true rfl, Nat.le_of_ble_eq_true rfl⟩ ⟨Nat.zero_le _, Nat.zero_le _⟩ hW (fun H locs hW => ?_)
    refine lv_aload_n hx hb dX4_grow_48 rfl (lv_at hl 0 rfl) ?_
    refine lv_dup hx hb dX4_grow_49 rfl ?_
    obtain ⟨v7, hv, h⟩ := bq_bind h
    refine bq_geti S hK fl_X4_31 dX4_grow_50 hv hW ?_
    refine lv_iconst (v := 1) hx hb dX4_grow_53 (by decide) ?_
    refine lv_iadd hx hb dX4_grow_54 ?_
    obtain ⟨E8, hv, h⟩ := bq_bind h
    refine bq_puti S hK fp_X4_31 dX4_grow_55 hv hW (fun H locs hW => ?_)
    refine lv_aload_n hx hb dX4_grow_58 rfl (lv_at hl 0 rfl) ?_
    refine lv_iload_n hx hb dX4_grow_59 rfl (lv_at hl 2 rfl) ?_
    obtain ⟨v9, hv, h⟩ := bq_bind h
    refine bq_callV S hK hz mv_X4_58 (c_X4_buildUpFrom hv) (kc_X4_buildUpFrom hv) dX4_grow_60 [.int v9.1] (rest := []) rfl rfl rfl hl.1 (Nat.le_of_ble_eq_true rfl) ⟨Nat.le_of_ble_eq_true rfl, Nat.le_of_ble_eq_true rfl⟩ ⟨Nat.zero_le _, Nat.zero_le _⟩ hW (fun H locs hW => ?_)
    refine lv_pop hx hb dX4_grow_63 rfl ?_
    refine lv_iload_n hx hb dX4_grow_64 rfl (lv_at hl 2 rfl) ?_
    cases h
    exact bq_reti S hr hlocks hK hz dX4_grow_65 hW
  clear ek32
  refine lv_icmp_ne (tgt := 26) hx hb dX4_grow_14 (by decide) (fun hc => ?_) (fun hc => ?_)
  · replace h := bq_ifF hc h
    refine lv_aload hx hb dX4_grow_26 (lv_at hl 0 rfl) ?_
    refine lv_iload_n hx hb dX4_grow_28 rfl (lv_at hl 1 rfl) ?_
    obtain ⟨E10, hv, h⟩ := bq_bind h
    refine bq_puti S hK fp_X4_48 dX4_grow_29 hv hW (fun H locs hW => ?_)
    exact hjk32 E10 _ _ _ h hW (lv_sub hl [2, 3, 1, 0] rfl)
  · replace h := bq_ifT hc h
    refine lv_aload hx hb dX4_grow_17 (lv_at hl 0 rfl) ?_
    refine lv_iload_n hx hb dX4_grow_19 rfl (lv_at hl 1 rfl) ?_
    obtain ⟨E11, hv, h⟩ := bq_bind h
    refine bq_puti S hK fp_X4_45 dX4_grow_20 hv hW (fun H locs hW => ?_)
    refine lv_goto (tgt := 32) hx hb dX4_grow_23 (by decide) ?_
    exact hjk32 E11 _ _ _ h hW (lv_sub hl [2, 3, 1, 0] rfl)

theorem kc_X4_renew {E : bq_E} {a0 : Nat} {x1 : Int32} {R : (Int32 × bq_E)} (h : tw_X4_renew E a0 x1 = some R) : bq_cls E a0 = 4 := (bq_guard h).1
set_option maxHeartbeats 4000000 in
set_option maxRecDepth 100000 in
theorem c_X4_renew {l : Launch} {g : bq_G} {L : List Nat} {z : Nat} {E : bq_E} {a0 : Nat} {x1 : Int32} {R : (Int32 × bq_E)} (h : tw_X4_renew E a0 x1 = some R) : bq_M l yX4_renew cX4_renew 2 (some .int) 4 104 [.ref a0, .int x1] g L E z (some (.int R.1)) R.2 := by
  unfold tw_X4_renew at h
  obtain ⟨hcl, h⟩ := bq_guard h
  refine bq_enter (by decide) (Nat.le_of_ble_eq_true rfl) ?_
  intro p e s m args below meth c S hr hlocks hK hz hW ls hl
  have S : CallFix p m c cX4_renew 2 s args bq_WA RX4 := S
  have hx := S.1
  have hb := S.2.1
  have hl : lv_has ls 2 [(0, .ref a0), (1, .int x1)] := hl
  refine lv_aload_n hx hb dX4_renew_0 rfl (lv_at hl 0 rfl) ?_
  refine lv_iload_n hx hb dX4_renew_1 rfl (lv_at hl 1 rfl) ?_
  obtain ⟨v1, hv, h⟩ := bq_bind h
  refine bq_callV S hK hz mv_X4_41 (c_X4_at hv) (kc_X4_at hv) dX4_renew_2 [.ref v1] (rest := []) rfl rfl rfl hl.1 (Nat.le_of_ble_eq_true rfl) ⟨Nat.le_of_ble_eq_true rfl, Nat.le_of_ble_eq_true rfl⟩ ⟨Nat.zero_le _, Nat.zero_le _⟩ hW (fun H locs hW => ?_)
  obtain ⟨E2, hv, h⟩ := bq_bind h
  refine bq_callV S hK hz mv_X4_87 (c_X0_settle hv) (kc_X0_settle hv) dX4_renew_5 [] (rest := []) rfl rfl rfl hl.1 (Nat.le_of_ble_eq_true rfl) ⟨Nat.le_of_ble_eq_true rfl, Nat.le_of_ble_eq_true rfl⟩ ⟨Nat.zero_le _, Nat.zero_le _⟩ hW (fun H locs hW => ?_)
  refine lv_aload_n hx hb dX4_renew_8 rfl (lv_at hl 0 rfl) ?_
  refine lv_dup hx hb dX4_renew_9 rfl ?_
  obtain ⟨v3, hv, h⟩ := bq_bind h
  refine bq_geti S hK fl_X4_90 dX4_renew_10 hv hW ?_
  refine lv_iconst (v := 1) hx hb dX4_renew_13 (by decide) ?_
  refine lv_iadd hx hb dX4_renew_14 ?_
  obtain ⟨E4, hv, h⟩ := bq_bind h
  refine bq_puti S hK fp_X4_90 dX4_renew_15 hv hW (fun H locs hW => ?_)
  refine lv_aload_n hx hb dX4_renew_18 rfl (lv_at hl 0 rfl) ?_
  refine lv_iload_n hx hb dX4_renew_19 rfl (lv_at hl 1 rfl) ?_
  obtain ⟨v5, hv, h⟩ := bq_bind h
  refine bq_callV S hK hz mv_X4_58 (c_X4_buildUpFrom hv) (kc_X4_buildUpFrom hv) dX4_renew_20 [.int v5.1] (rest := []) rfl rfl rfl hl.1 (Nat.le_of_ble_eq_true rfl) ⟨Nat.le_of_ble_eq_true rfl, Nat.le_of_ble_eq_true rfl⟩ ⟨Nat.zero_le _, Nat.zero_le _⟩ hW (fun H locs hW => ?_)
  cases h
  exact bq_reti S hr hlocks hK hz dX4_renew_23 hW

theorem kc_X4_takeIn {E : bq_E} {a0 : Nat} {x1 : Int32} {x2 : Int32} {R : (Bool × bq_E)} (h : tw_X4_takeIn E a0 x1 x2 = some R) : bq_cls E a0 = 4 := (bq_guard h).1
set_option maxHeartbeats 4000000 in
set_option maxRecDepth 100000 in
theorem c_X4_takeIn {l : Launch} {g : bq_G} {L : List Nat} {z : Nat} {E : bq_E} {a0 : Nat} {x1 : Int32} {x2 : Int32} {R : (Bool × bq_E)} (h : tw_X4_takeIn E a0 x1 x2 = some R) : bq_M l yX4_takeIn cX4_takeIn 5 (some .boolean) 5 125 [.ref a0, .int x1, .int x2] g L E z (some (.int (bq_b R.1))) R.2 := by
  unfold tw_X4_takeIn at h
  obtain ⟨hcl, h⟩ := bq_guard h
  refine bq_enter (by decide) (Nat.le_of_ble_eq_true rfl) ?_
  intro p e s m args below meth c S hr hlocks hK hz hW ls hl
  have S : CallFix p m c cX4_takeIn 5 s args bq_WA RX4 := S
  have hx := S.1
  have hb := S.2.1
  have hl : lv_has ls 5 [(0, .ref a0), (1, .int x1), (2, .int x2)] := hl
  refine lv_aload_n hx hb dX4_takeIn_0 rfl (lv_at hl 0 rfl) ?_
  refine lv_iload_n hx hb dX4_takeIn_1 rfl (lv_at hl 1 rfl) ?_
  obtain ⟨v1, hv, h⟩ := bq_bind h
  refine bq_callV S hK hz mv_X4_41 (c_X4_at hv) (kc_X4_at hv) dX4_takeIn_2 [.ref v1] (rest := []) rfl rfl rfl hl.1 (Nat.le_of_ble_eq_true rfl) ⟨Nat.le_of_ble_eq_true rfl, Nat.le_of_ble_eq_true rfl⟩ ⟨Nat.zero_le _, Nat.zero_le _⟩ hW (fun H locs hW => ?_)
  refine lv_astore_n (lv' := [(3, .ref v1), (0, .ref a0), (1, .int x1), (2, .int x2)]) hx hb dX4_takeIn_5 rfl hl (by decide) rfl (fun ls hl => ?_)
  refine lv_aload_n hx hb dX4_takeIn_6 rfl (lv_at hl 0 rfl) ?_
  refine lv_iload_n hx hb dX4_takeIn_7 rfl (lv_at hl 3 rfl) ?_
  obtain ⟨v2, hv, h⟩ := bq_bind h
  refine bq_callV S hK hz mv_X4_62 (c_X0_holds hv) (kc_X0_holds hv) dX4_takeIn_8 [.int (bq_b v2)] (rest := []) rfl rfl rfl hl.1 (Nat.le_of_ble_eq_true rfl) ⟨Nat.le_of_ble_eq_true rfl, Nat.le_of_ble_eq_true rfl⟩ ⟨Nat.zero_le _, Nat.zero_le _⟩ hW (fun H locs hW => ?_)
  refine lv_if_eq (tgt := 16) hx hb dX4_takeIn_11 (by decide) (fun hc => ?_) (fun hc => ?_)
  · replace h := bq_ifT hc h
    refine lv_aload_n hx hb dX4_takeIn_16 rfl (lv_at hl 0 rfl) ?_
    refine lv_iload_n hx hb dX4_takeIn_17 rfl (lv_at hl 3 rfl) ?_
    obtain ⟨v3, hv, h⟩ := bq_bind h
    refine bq_callV S hK hz mv_X4_66 (c_X0_takeIn hv) (kc_X0_takeIn hv) dX4_takeIn_18 [.int (bq_b v3.1)] (rest := []) rfl rfl rfl hl.1 (Nat.le_of_ble_eq_true rfl) ⟨Nat.le_of_ble_eq_true rfl, Nat.le_of_ble_eq_true rfl⟩ ⟨Nat.zero_le _, Nat.zero_le _⟩ hW (fun H locs hW => ?_)
    refine lv_topi (fun v4 ev4 => ?_)
    replace h := bq_letE ev4 h
    refine lv_istore (lv' := [(4, .int v4), (3, .ref v1), (0, .ref a0), (1, .int x1), (2, .int x2)]) hx hb dX4_takeIn_21 hl (by decide) rfl (fun ls hl => ?_)
    refine lv_iload hx hb dX4_takeIn_23 (lv_at hl 0 rfl) ?_
    refine lv_if_eq (tgt := 48) hx hb dX4_takeIn_25 (by decide) (fun hc => ?_) (fun hc => ?_)
    · replace h := bq_ifT hc h
      refine lv_iconst (v := 1) hx hb dX4_takeIn_48 (by decide) ?_
      cases h
      exact bq_retz S hr hlocks hK hz dX4_takeIn_49 _ rfl hW
    · replace h := bq_ifF hc h
      refine lv_aload_n hx hb dX4_takeIn_28 rfl (lv_at hl 1 rfl) ?_
      obtain ⟨v5, hv, h⟩ := bq_bind h
      refine bq_getr S hK fl_X4_69 dX4_takeIn_29 hv hW ?_
      obtain ⟨v6, hv, h⟩ := bq_bind h
      refine bq_callV S hK hz mv_X4_72 (c_X3_size hv) (kc_X3_size hv) dX4_takeIn_32 [.int v6] (rest := []) rfl rfl rfl hl.1 (Nat.le_of_ble_eq_true rfl) ⟨Nat.le_of_ble_eq_true rfl, Nat.le_of_ble_eq_true rfl⟩ ⟨Nat.zero_le _, Nat.zero_le _⟩ hW (fun H locs hW => ?_)
      refine lv_aload_n hx hb dX4_takeIn_35 rfl (lv_at hl 2 rfl) ?_
      obtain ⟨v7, hv, h⟩ := bq_bind h
      refine bq_geti S hK fl_X4_35 dX4_takeIn_36 hv hW ?_
      refine lv_icmp_lt (tgt := 48) hx hb dX4_takeIn_39 (by decide) (fun hc => ?_) (fun hc => ?_)
      · replace h := bq_ifT hc h
        refine lv_iconst (v := 1) hx hb dX4_takeIn_48 (by decide) ?_
        cases h
        exact bq_retz S hr hlocks hK hz dX4_takeIn_49 _ rfl hW
      · replace h := bq_ifF hc h
        refine lv_aload_n hx hb dX4_takeIn_42 rfl (lv_at hl 2 rfl) ?_
        refine lv_iload_n hx hb dX4_takeIn_43 rfl (lv_at hl 3 rfl) ?_
        obtain ⟨v8, hv, h⟩ := bq_bind h
        refine bq_callV S hK hz mv_X4_75 (c_X4_renew hv) (kc_X4_renew hv) dX4_takeIn_44 [.int v8.1] (rest := []) rfl rfl rfl hl.1 (Nat.le_of_ble_eq_true rfl) ⟨Nat.le_of_ble_eq_true rfl, Nat.le_of_ble_eq_true rfl⟩ ⟨Nat.zero_le _, Nat.zero_le _⟩ hW (fun H locs hW => ?_)
        refine lv_pop hx hb dX4_takeIn_47 rfl ?_
        refine lv_iconst (v := 1) hx hb dX4_takeIn_48 (by decide) ?_
        cases h
        exact bq_retz S hr hlocks hK hz dX4_takeIn_49 _ rfl hW
  · replace h := bq_ifF hc h
    refine lv_iconst (v := 0) hx hb dX4_takeIn_14 (by decide) ?_
    cases h
    exact bq_retz S hr hlocks hK hz dX4_takeIn_15 _ rfl hW

theorem kc_X4_drop {E : bq_E} {a0 : Nat} {x1 : Int32} {x2 : Int32} {R : (Bool × bq_E)} (h : tw_X4_drop E a0 x1 x2 = some R) : bq_cls E a0 = 4 := (bq_guard h).1
set_option maxHeartbeats 4000000 in
set_option maxRecDepth 100000 in
theorem c_X4_drop {l : Launch} {g : bq_G} {L : List Nat} {z : Nat} {E : bq_E} {a0 : Nat} {x1 : Int32} {x2 : Int32} {R : (Bool × bq_E)} (h : tw_X4_drop E a0 x1 x2 = some R) : bq_M l yX4_drop cX4_drop 5 (some .boolean) 5 125 [.ref a0, .int x1, .int x2] g L E z (some (.int (bq_b R.1))) R.2 := by
  unfold tw_X4_drop at h
  obtain ⟨hcl, h⟩ := bq_guard h
  refine bq_enter (by decide) (Nat.le_of_ble_eq_true rfl) ?_
  intro p e s m args below meth c S hr hlocks hK hz hW ls hl
  have S : CallFix p m c cX4_drop 5 s args bq_WA RX4 := S
  have hx := S.1
  have hb := S.2.1
  have hl : lv_has ls 5 [(0, .ref a0), (1, .int x1), (2, .int x2)] := hl
  refine lv_aload_n hx hb dX4_drop_0 rfl (lv_at hl 0 rfl) ?_
  refine lv_iload_n hx hb dX4_drop_1 rfl (lv_at hl 1 rfl) ?_
  obtain ⟨v1, hv, h⟩ := bq_bind h
  refine bq_callV S hK hz mv_X4_41 (c_X4_at hv) (kc_X4_at hv) dX4_drop_2 [.ref v1] (rest := []) rfl rfl rfl hl.1 (Nat.le_of_ble_eq_true rfl) ⟨Nat.le_of_ble_eq_true rfl, Nat.le_of_ble_eq_true rfl⟩ ⟨Nat.zero_le _, Nat.zero_le _⟩ hW (fun H locs hW => ?_)
  refine lv_astore_n (lv' := [(3, .ref v1), (0, .ref a0), (1, .int x1), (2, .int x2)]) hx hb dX4_drop_5 rfl hl (by decide) rfl (fun ls hl => ?_)
  refine lv_aload_n hx hb dX4_drop_6 rfl (lv_at hl 0 rfl) ?_
  refine lv_iload_n hx hb dX4_drop_7 rfl (lv_at hl 3 rfl) ?_
  obtain ⟨v2, hv, h⟩ := bq_bind h
  refine bq_callV S hK hz mv_X4_62 (c_X0_holds hv) (kc_X0_holds hv) dX4_drop_8 [.int (bq_b v2)] (rest := []) rfl rfl rfl hl.1 (Nat.le_of_ble_eq_true rfl) ⟨Nat.le_of_ble_eq_true rfl, Nat.le_of_ble_eq_true rfl⟩ ⟨Nat.zero_le _, Nat.zero_le _⟩ hW (fun H locs hW => ?_)
  refine lv_if_ne (tgt := 16) hx hb dX4_drop_11 (by decide) (fun hc => ?_) (fun hc => ?_)
  · replace h := bq_ifF hc h
    refine lv_aload_n hx hb dX4_drop_16 rfl (lv_at hl 0 rfl) ?_
    refine lv_iload_n hx hb dX4_drop_17 rfl (lv_at hl 3 rfl) ?_
    obtain ⟨v3, hv, h⟩ := bq_bind h
    refine bq_callV S hK hz mv_X4_78 (c_X0_letGo hv) (kc_X0_letGo hv) dX4_drop_18 [.int (bq_b v3.1)] (rest := []) rfl rfl rfl hl.1 (Nat.le_of_ble_eq_true rfl) ⟨Nat.le_of_ble_eq_true rfl, Nat.le_of_ble_eq_true rfl⟩ ⟨Nat.zero_le _, Nat.zero_le _⟩ hW (fun H locs hW => ?_)
    refine lv_topi (fun v4 ev4 => ?_)
    replace h := bq_letE ev4 h
    refine lv_istore (lv' := [(4, .int v4), (3, .ref v1), (0, .ref a0), (1, .int x1), (2, .int x2)]) hx hb dX4_drop_21 hl (by decide) rfl (fun ls hl => ?_)
    refine lv_iload hx hb dX4_drop_23 (lv_at hl 0 rfl) ?_
    refine lv_if_eq (tgt := 50) hx hb dX4_drop_25 (by decide) (fun hc => ?_) (fun hc => ?_)
    · replace h := bq_ifT hc h
      refine lv_iconst (v := 1) hx hb dX4_drop_50 (by decide) ?_
      cases h
      exact bq_retz S hr hlocks hK hz dX4_drop_51 _ rfl hW
    · replace h := bq_ifF hc h
      refine lv_iconst (v := 2) hx hb dX4_drop_28 (by decide) ?_
      refine lv_aload_n hx hb dX4_drop_29 rfl (lv_at hl 1 rfl) ?_
      obtain ⟨v5, hv, h⟩ := bq_bind h
      refine bq_geti S hK fl_X4_81 dX4_drop_30 hv hW ?_
      refine lv_imul hx hb dX4_drop_33 ?_
      refine lv_aload_n hx hb dX4_drop_34 rfl (lv_at hl 1 rfl) ?_
      obtain ⟨v6, hv, h⟩ := bq_bind h
      refine bq_getr S hK fl_X4_84 dX4_drop_35 hv hW ?_
      obtain ⟨v7, hv, h⟩ := bq_bind h
      refine bq_callV S hK hz mv_X4_72 (c_X3_size hv) (kc_X3_size hv) dX4_drop_38 [.int v7, .int ((2 : Int32) * v5)] (rest := [.int ((2 : Int32) * v5)]) rfl rfl rfl hl.1 (Nat.le_of_ble_eq_true rfl) ⟨Nat.le_of_ble_eq_true rfl, Nat.le_of_ble_eq_true rfl⟩ ⟨Nat.zero_le _, Nat.zero_le _⟩ hW (fun H locs hW => ?_)
      refine lv_icmp_le (tgt := 50) hx hb dX4_drop_41 (by decide) (fun hc => ?_) (fun hc => ?_)
      · replace h := bq_ifT hc h
        refine lv_iconst (v := 1) hx hb dX4_drop_50 (by decide) ?_
        cases h
        exact bq_retz S hr hlocks hK hz dX4_drop_51 _ rfl hW
      · replace h := bq_ifF hc h
        refine lv_aload_n hx hb dX4_drop_44 rfl (lv_at hl 2 rfl) ?_
        refine lv_iload_n hx hb dX4_drop_45 rfl (lv_at hl 3 rfl) ?_
        obtain ⟨v8, hv, h⟩ := bq_bind h
        refine bq_callV S hK hz mv_X4_75 (c_X4_renew hv) (kc_X4_renew hv) dX4_drop_46 [.int v8.1] (rest := []) rfl rfl rfl hl.1 (Nat.le_of_ble_eq_true rfl) ⟨Nat.le_of_ble_eq_true rfl, Nat.le_of_ble_eq_true rfl⟩ ⟨Nat.zero_le _, Nat.zero_le _⟩ hW (fun H locs hW => ?_)
        refine lv_pop hx hb dX4_drop_49 rfl ?_
        refine lv_iconst (v := 1) hx hb dX4_drop_50 (by decide) ?_
        cases h
        exact bq_retz S hr hlocks hK hz dX4_drop_51 _ rfl hW
  · replace h := bq_ifT hc h
    refine lv_iconst (v := 0) hx hb dX4_drop_14 (by decide) ?_
    cases h
    exact bq_retz S hr hlocks hK hz dX4_drop_15 _ rfl hW

theorem kc_X4_keysOfAll {E : bq_E} {a0 : Nat} {R : Int32} (h : tw_X4_keysOfAll E a0 = some R) : bq_cls E a0 = 4 := (bq_guard h).1
set_option maxHeartbeats 4000000 in
set_option maxRecDepth 100000 in
theorem c_X4_keysOfAll {l : Launch} {g : bq_G} {L : List Nat} {z : Nat} {E : bq_E} {a0 : Nat} {R : Int32} (h : tw_X4_keysOfAll E a0 = some R) : bq_M l yX4_keysOfAll cX4_keysOfAll 3 (some .int) 2 40 [.ref a0] g L E z (some (.int R)) E := by
  unfold tw_X4_keysOfAll at h
  obtain ⟨hcl, h⟩ := bq_guard h
  refine bq_enter (by decide) (Nat.le_of_ble_eq_true rfl) ?_
  intro p e s m args below meth c S hr hlocks hK hz hW ls hl
  have S : CallFix p m c cX4_keysOfAll 3 s args bq_WA RX4 := S
  have hx := S.1
  have hb := S.2.1
  have hl : lv_has ls 3 [(0, .ref a0)] := hl
  refine lv_iconst (v := 0) hx hb dX4_keysOfAll_0 (by decide) ?_
  refine lv_istore_n (lv' := [(1, .int (0 : Int32)), (0, .ref a0)]) hx hb dX4_keysOfAll_1 rfl hl (by decide) rfl (fun ls hl => ?_)
  refine lv_iconst (v := 0) hx hb dX4_keysOfAll_2 (by decide) ?_
  refine lv_istore_n (lv' := [(2, .int (0 : Int32)), (1, .int (0 : Int32)), (0, .ref a0)]) hx hb dX4_keysOfAll_3 rfl hl (by decide) rfl (fun ls hl => ?_)
  have hL4 : ∀ (n : Nat) (z3 : Int32) (z4 : Int32) (H1 : Heap) (locs1 : List Loc) (ls1 : Array Slot), tl_X4_keysOfAll_4 E a0 n z3 z4 = some R → bq_H g L E z s.heap H1 locs1 → lv_has ls1 3 [(0, .ref a0), (1, .int z3), (2, .int z4)] → W p l e { frames := 2, cells := 0, slots := 0, locals := 40 } s m args below meth c H1 locs1 0 0 (MQ below (bq_Q g L E z (some (.int R))) args s 0 0 (bq_A z)) (F0 m 4 ls1 []) := by
    intro n
    induction n with
    | zero => intro z3 z4 H locs ls h hW hl; cases h
    | succ n ih =>
      intro z3 z4 H locs ls h hW hl
      rw [tl_X4_keysOfAll_4.eq_2] at h
      refine lv_iload_n hx hb dX4_keysOfAll_4 rfl (lv_at hl 2 rfl) ?_
      refine lv_aload_n hx hb dX4_keysOfAll_5 rfl (lv_at hl 0 rfl) ?_
      obtain ⟨v5, hv, h⟩ := bq_bind h
      refine bq_geti S hK fl_X4_31 dX4_keysOfAll_6 hv hW ?_
      refine lv_icmp_ge (tgt := 29) hx hb dX4_keysOfAll_9 (by decide) (fun hc => ?_) (fun hc => ?_)
      · replace h := bq_ifT hc h
        refine lv_iload_n hx hb dX4_keysOfAll_29 rfl (lv_at hl 1 rfl) ?_
        cases h
        exact bq_reti S hr hlocks hK hz dX4_keysOfAll_30 hW
      · replace h := bq_ifF hc h
        refine lv_iload_n hx hb dX4_keysOfAll_12 rfl (lv_at hl 1 rfl) ?_
        refine lv_aload_n hx hb dX4_keysOfAll_13 rfl (lv_at hl 0 rfl) ?_
        refine lv_iload_n hx hb dX4_keysOfAll_14 rfl (lv_at hl 2 rfl) ?_
        obtain ⟨v6, hv, h⟩ := bq_bind h
        refine bq_callV S hK hz mv_X4_41 (c_X4_at hv) (kc_X4_at hv) dX4_keysOfAll_15 [.ref v6, .int z3] (rest := [.int z3]) rfl rfl rfl hl.1 (Nat.le_of_ble_eq_true rfl) ⟨Nat.le_of_ble_eq_true rfl, Nat.le_of_ble_eq_true rfl⟩ ⟨Nat.zero_le _, Nat.zero_le _⟩ hW (fun H locs hW => ?_)
        obtain ⟨v7, hv, h⟩ := bq_bind h
        refine bq_callV S hK hz mv_X4_120 (c_X0_keyCount hv) (kc_X0_keyCount hv) dX4_keysOfAll_18 [.int v7, .int z3] (rest := [.int z3]) rfl rfl rfl hl.1 (Nat.le_of_ble_eq_true rfl) ⟨Nat.le_of_ble_eq_true rfl, Nat.le_of_ble_eq_true rfl⟩ ⟨Nat.zero_le _, Nat.zero_le _⟩ hW (fun H locs hW => ?_)
        refine lv_iadd hx hb dX4_keysOfAll_21 ?_
        refine lv_topi (fun v8 ev8 => ?_)
        replace h := bq_letE ev8 h
        refine lv_istore_n (lv' := [(1, .int v8), (0, .ref a0), (2, .int z4)]) hx hb dX4_keysOfAll_22 rfl hl (by decide) rfl (fun ls hl => ?_)
        obtain ⟨v9, ev9⟩ : ∃ y : Int32, y = z4 + 1 := ⟨_, rfl⟩
        replace h := bq_letE ev9 h
        refine lv_iinc (v := v9) (lv' := [(2, .int v9), (1, .int v8), (0, .ref a0)]) hx hb dX4_keysOfAll_23 hl (k := 2) rfl (by rw [ev9]; rfl) (by decide) rfl (fun ls hl => ?_)
        refine lv_goto (tgt := 4) hx hb dX4_keysOfAll_26 (by decide) ?_
        exact ih v8 v9 _ _ _ h hW (lv_sub hl [2, 1, 0] rfl)
  exact hL4 bq_fuel (0 : Int32) (0 : Int32) _ _ _ h hW (lv_sub hl [2, 1, 0] rfl)

theorem kc_X4_entriesOfAll {E : bq_E} {a0 : Nat} {R : Int32} (h : tw_X4_entriesOfAll E a0 = some R) : bq_cls E a0 = 4 := (bq_guard h).1
set_option maxHeartbeats 4000000 in
set_option maxRecDepth 100000 in
theorem c_X4_entriesOfAll {l : Launch} {g : bq_G} {L : List Nat} {z : Nat} {E : bq_E} {a0 : Nat} {R : Int32} (h : tw_X4_entriesOfAll E a0 = some R) : bq_M l yX4_entriesOfAll cX4_entriesOfAll 3 (some .int) 2 40 [.ref a0] g L E z (some (.int R)) E := by
  unfold tw_X4_entriesOfAll at h
  obtain ⟨hcl, h⟩ := bq_guard h
  refine bq_enter (by decide) (Nat.le_of_ble_eq_true rfl) ?_
  intro p e s m args below meth c S hr hlocks hK hz hW ls hl
  have S : CallFix p m c cX4_entriesOfAll 3 s args bq_WA RX4 := S
  have hx := S.1
  have hb := S.2.1
  have hl : lv_has ls 3 [(0, .ref a0)] := hl
  refine lv_iconst (v := 0) hx hb dX4_entriesOfAll_0 (by decide) ?_
  refine lv_istore_n (lv' := [(1, .int (0 : Int32)), (0, .ref a0)]) hx hb dX4_entriesOfAll_1 rfl hl (by decide) rfl (fun ls hl => ?_)
  refine lv_iconst (v := 0) hx hb dX4_entriesOfAll_2 (by decide) ?_
  refine lv_istore_n (lv' := [(2, .int (0 : Int32)), (1, .int (0 : Int32)), (0, .ref a0)]) hx hb dX4_entriesOfAll_3 rfl hl (by decide) rfl (fun ls hl => ?_)
  have hL4 : ∀ (n : Nat) (z3 : Int32) (z4 : Int32) (H1 : Heap) (locs1 : List Loc) (ls1 : Array Slot), tl_X4_entriesOfAll_4 E a0 n z3 z4 = some R → bq_H g L E z s.heap H1 locs1 → lv_has ls1 3 [(0, .ref a0), (1, .int z3), (2, .int z4)] → W p l e { frames := 2, cells := 0, slots := 0, locals := 40 } s m args below meth c H1 locs1 0 0 (MQ below (bq_Q g L E z (some (.int R))) args s 0 0 (bq_A z)) (F0 m 4 ls1 []) := by
    intro n
    induction n with
    | zero => intro z3 z4 H locs ls h hW hl; cases h
    | succ n ih =>
      intro z3 z4 H locs ls h hW hl
      rw [tl_X4_entriesOfAll_4.eq_2] at h
      refine lv_iload_n hx hb dX4_entriesOfAll_4 rfl (lv_at hl 2 rfl) ?_
      refine lv_aload_n hx hb dX4_entriesOfAll_5 rfl (lv_at hl 0 rfl) ?_
      obtain ⟨v5, hv, h⟩ := bq_bind h
      refine bq_geti S hK fl_X4_31 dX4_entriesOfAll_6 hv hW ?_
      refine lv_icmp_ge (tgt := 32) hx hb dX4_entriesOfAll_9 (by decide) (fun hc => ?_) (fun hc => ?_)
      · replace h := bq_ifT hc h
        refine lv_iload_n hx hb dX4_entriesOfAll_32 rfl (lv_at hl 1 rfl) ?_
        cases h
        exact bq_reti S hr hlocks hK hz dX4_entriesOfAll_33 hW
      · replace h := bq_ifF hc h
        refine lv_iload_n hx hb dX4_entriesOfAll_12 rfl (lv_at hl 1 rfl) ?_
        refine lv_aload_n hx hb dX4_entriesOfAll_13 rfl (lv_at hl 0 rfl) ?_
        refine lv_iload_n hx hb dX4_entriesOfAll_14 rfl (lv_at hl 2 rfl) ?_
        obtain ⟨v6, hv, h⟩ := bq_bind h
        refine bq_callV S hK hz mv_X4_41 (c_X4_at hv) (kc_X4_at hv) dX4_entriesOfAll_15 [.ref v6, .int z3] (rest := [.int z3]) rfl rfl rfl hl.1 (Nat.le_of_ble_eq_true rfl) ⟨Nat.le_of_ble_eq_true rfl, Nat.le_of_ble_eq_true rfl⟩ ⟨Nat.zero_le _, Nat.zero_le _⟩ hW (fun H locs hW => ?_)
        obtain ⟨v7, hv, h⟩ := bq_bind h
        refine bq_getr S hK fl_X4_93 dX4_entriesOfAll_18 hv hW ?_
        obtain ⟨v8, hv, h⟩ := bq_bind h
        refine bq_callV S hK hz mv_X4_110 (c_X2_size hv) (kc_X2_size hv) dX4_entriesOfAll_21 [.int v8, .int z3] (rest := [.int z3]) rfl rfl rfl hl.1 (Nat.le_of_ble_eq_true rfl) ⟨Nat.le_of_ble_eq_true rfl, Nat.le_of_ble_eq_true rfl⟩ ⟨Nat.zero_le _, Nat.zero_le _⟩ hW (fun H locs hW => ?_)
        refine lv_iadd hx hb dX4_entriesOfAll_24 ?_
        refine lv_topi (fun v9 ev9 => ?_)
        replace h := bq_letE ev9 h
        refine lv_istore_n (lv' := [(1, .int v9), (0, .ref a0), (2, .int z4)]) hx hb dX4_entriesOfAll_25 rfl hl (by decide) rfl (fun ls hl => ?_)
        obtain ⟨v10, ev10⟩ : ∃ y : Int32, y = z4 + 1 := ⟨_, rfl⟩
        replace h := bq_letE ev10 h
        refine lv_iinc (v := v10) (lv' := [(2, .int v10), (1, .int v9), (0, .ref a0)]) hx hb dX4_entriesOfAll_26 hl (k := 2) rfl (by rw [ev10]; rfl) (by decide) rfl (fun ls hl => ?_)
        refine lv_goto (tgt := 4) hx hb dX4_entriesOfAll_29 (by decide) ?_
        exact ih v9 v10 _ _ _ h hW (lv_sub hl [2, 1, 0] rfl)
  exact hL4 bq_fuel (0 : Int32) (0 : Int32) _ _ _ h hW (lv_sub hl [2, 1, 0] rfl)
