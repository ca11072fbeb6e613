theorem kc_X3_at {E : bq_E} {a0 : Nat} {x1 : Int32} {x2 : Int32} {R : Int32} (h : tw_X3_at E a0 x1 x2 = some R) : bq_cls E a0 = 3 := (bq_guard h).1
set_option maxHeartbeats 4000000 in
set_option maxRecDepth 100000 in
theorem c_X3_at {l : Launch} {g : bq_G} {L : List Nat} {z : Nat} {E : bq_E} {a0 : Nat} {x1 : Int32} {x2 : Int32} {R : Int32} (h : tw_X3_at E a0 x1 x2 = some R) : bq_M l yX3_at cX3_at 3 (some .int) 0 0 [.ref a0, .int x1, .int x2] g L E z (some (.int R)) E := by
  unfold tw_X3_at at h
  obtain ⟨hcl, h⟩ := bq_guard h
  refine bq_enter (by decide) (Nat.le_of_ble_eq_true rfl) ?_
  intro p e s m args below meth c S hr hlocks hK hz hW ls hl
  have S : CallFix p m c cX3_at 3 s args bq_WA RX3 := S
  have hx := S.1
  have hb := S.2.1
  have hl : lv_has ls 3 [(0, .ref a0), (1, .int x1), (2, .int x2)] := hl
  refine lv_iload_n hx hb dX3_at_0 rfl (lv_at hl 1 rfl) ?_
  refine lv_if_lt (tgt := 30) hx hb dX3_at_1 (by decide) (fun hc => ?_) (fun hc => ?_)
  · replace h := bq_ifT hc h
    refine lv_iload_n hx hb dX3_at_30 rfl (lv_at hl 2 rfl) ?_
    cases h
    exact bq_reti S hr hlocks hK hz dX3_at_31 hW
  · replace h := bq_ifF hc h
    refine lv_iload_n hx hb dX3_at_4 rfl (lv_at hl 1 rfl) ?_
    refine lv_aload_n hx hb dX3_at_5 rfl (lv_at hl 0 rfl) ?_
    obtain ⟨v1, hv, h⟩ := bq_bind h
    refine bq_geti S hK fl_X3_15 dX3_at_6 hv hW ?_
    refine lv_icmp_ge (tgt := 30) hx hb dX3_at_9 (by decide) (fun hc => ?_) (fun hc => ?_)
    · replace h := bq_ifT hc h
      refine lv_iload_n hx hb dX3_at_30 rfl (lv_at hl 2 rfl) ?_
      cases h
      exact bq_reti S hr hlocks hK hz dX3_at_31 hW
    · replace h := bq_ifF hc h
      refine lv_iload_n hx hb dX3_at_12 rfl (lv_at hl 1 rfl) ?_
      refine lv_aload_n hx hb dX3_at_13 rfl (lv_at hl 0 rfl) ?_
      obtain ⟨v2, hv, h⟩ := bq_bind h
      refine bq_getr S hK fl_X3_9 dX3_at_14 hv hW ?_
      obtain ⟨v3, hv, h⟩ := bq_bind h
      refine bq_alen S hK dX3_at_17 hv hW ?_
      refine lv_icmp_ge (tgt := 30) hx hb dX3_at_18 (by decide) (fun hc => ?_) (fun hc => ?_)
      · replace h := bq_ifT hc h
        refine lv_iload_n hx hb dX3_at_30 rfl (lv_at hl 2 rfl) ?_
        cases h
        exact bq_reti S hr hlocks hK hz dX3_at_31 hW
      · replace h := bq_ifF hc h
        refine lv_aload_n hx hb dX3_at_21 rfl (lv_at hl 0 rfl) ?_
        obtain ⟨v4, hv, h⟩ := bq_bind h
        refine bq_getr S hK fl_X3_9 dX3_at_22 hv hW ?_
        refine lv_iload_n hx hb dX3_at_25 rfl (lv_at hl 1 rfl) ?_
        obtain ⟨v5, hv, h⟩ := bq_bind h
        refine bq_iald S hK dX3_at_26 hv hW ?_
        refine lv_goto (tgt := 31) hx hb dX3_at_27 (by decide) ?_
        cases h
        exact bq_reti S hr hlocks hK hz dX3_at_31 hW

theorem kc_X3_size {E : bq_E} {a0 : Nat} {R : Int32} (h : tw_X3_size E a0 = some R) : bq_cls E a0 = 3 := (bq_guard h).1
set_option maxHeartbeats 4000000 in
set_option maxRecDepth 100000 in
theorem c_X3_size {l : Launch} {g : bq_G} {L : List Nat} {z : Nat} {E : bq_E} {a0 : Nat} {R : Int32} (h : tw_X3_size E a0 = some R) : bq_M l yX3_size cX3_size 1 (some .int) 0 0 [.ref a0] g L E z (some (.int R)) E := by
  unfold tw_X3_size at h
  obtain ⟨hcl, h⟩ := bq_guard h
  refine bq_enter (by decide) (Nat.le_of_ble_eq_true rfl) ?_
  intro p e s m args below meth c S hr hlocks hK hz hW ls hl
  have S : CallFix p m c cX3_size 1 s args bq_WA RX3 := S
  have hx := S.1
  have hb := S.2.1
  have hl : lv_has ls 1 [(0, .ref a0)] := hl
  refine lv_aload_n hx hb dX3_size_0 rfl (lv_at hl 0 rfl) ?_
  obtain ⟨v1, hv, h⟩ := bq_bind h
  refine bq_geti S hK fl_X3_15 dX3_size_1 hv hW ?_
  cases h
  exact bq_reti S hr hlocks hK hz dX3_size_4 hW

theorem kc_X3_indexOf {E : bq_E} {a0 : Nat} {x1 : Int32} {R : Int32} (h : tw_X3_indexOf E a0 x1 = some R) : bq_cls E a0 = 3 := (bq_guard h).1
set_option maxHeartbeats 4000000 in
set_option maxRecDepth 100000 in
theorem c_X3_indexOf {l : Launch} {g : bq_G} {L : List Nat} {z : Nat} {E : bq_E} {a0 : Nat} {x1 : Int32} {R : Int32} (h : tw_X3_indexOf E a0 x1 = some R) : bq_M l yX3_indexOf cX3_indexOf 3 (some .int) 1 22 [.ref a0, .int x1] g L E z (some (.int R)) E := by
  unfold tw_X3_indexOf at h
  obtain ⟨hcl, h⟩ := bq_guard h
  refine bq_enter (by decide) (Nat.le_of_ble_eq_true rfl) ?_
  intro p e s m args below meth c S hr hlocks hK hz hW ls hl
  have S : CallFix p m c cX3_indexOf 3 s args bq_WA RX3 := S
  have hx := S.1
  have hb := S.2.1
  have hl : lv_has ls 3 [(0, .ref a0), (1, .int x1)] := hl
  refine lv_iconst (v := 0) hx hb dX3_indexOf_0 (by decide) ?_
  refine lv_istore_n (lv' := [(2, .int (0 : Int32)), (0, .ref a0), (1, .int x1)]) hx hb dX3_indexOf_1 rfl hl (by decide) rfl (fun ls hl => ?_)
  have hL2 : ∀ (n : Nat) (z2 : Int32) (H1 : Heap) (locs1 : List Loc) (ls1 : Array Slot), tl_X3_indexOf_2 E a0 x1 n z2 = some R → bq_H g L E z s.heap H1 locs1 → lv_has ls1 3 [(0, .ref a0), (1, .int x1), (2, .int z2)] → W p l e { frames := 1, cells := 0, slots := 0, locals := 22 } s m args below meth c H1 locs1 0 0 (MQ below (bq_Q g L E z (some (.int R))) args s 0 0 (bq_A z)) (F0 m 2 ls1 []) := by
    intro n
    induction n with
    | zero => intro z2 H locs ls h hW hl; cases h
    | succ n ih =>
      intro z2 H locs ls h hW hl
      rw [tl_X3_indexOf_2.eq_2] at h
      refine lv_iload_n hx hb dX3_indexOf_2 rfl (lv_at hl 2 rfl) ?_
      refine lv_aload_n hx hb dX3_indexOf_3 rfl (lv_at hl 0 rfl) ?_
      obtain ⟨v3, hv, h⟩ := bq_bind h
      refine bq_geti S hK fl_X3_15 dX3_indexOf_4 hv hW ?_
      refine lv_icmp_ge (tgt := 28) hx hb dX3_indexOf_7 (by decide) (fun hc => ?_) (fun hc => ?_)
      · replace h := bq_ifT hc h
        refine lv_iconst (v := (-1)) hx hb dX3_indexOf_28 (by decide) ?_
        cases h
        exact bq_reti S hr hlocks hK hz dX3_indexOf_29 hW
      · replace h := bq_ifF hc h
        refine lv_aload_n hx hb dX3_indexOf_10 rfl (lv_at hl 0 rfl) ?_
        refine lv_iload_n hx hb dX3_indexOf_11 rfl (lv_at hl 2 rfl) ?_
        refine lv_iconst (v := 0) hx hb dX3_indexOf_12 (by decide) ?_
        obtain ⟨v4, hv, h⟩ := bq_bind h
        refine bq_callV S hK hz mv_X3_19 (c_X3_at hv) (kc_X3_at hv) dX3_indexOf_13 [.int v4] (rest := []) rfl rfl rfl hl.1 (Nat.le_of_ble_eq_true rfl) ⟨Nat.le_of_ble_eq_true rfl, Nat.le_of_ble_eq_true rfl⟩ ⟨Nat.zero_le _, Nat.zero_le _⟩ hW (fun H locs hW => ?_)
        refine lv_iload_n hx hb dX3_indexOf_16 rfl (lv_at hl 1 rfl) ?_
        refine lv_icmp_ne (tgt := 22) hx hb dX3_indexOf_17 (by decide) (fun hc => ?_) (fun hc => ?_)
        · replace h := bq_ifF hc h
          obtain ⟨v5, ev5⟩ : ∃ y : Int32, y = z2 + 1 := ⟨_, rfl⟩
          replace h := bq_letE ev5 h
          refine lv_iinc (v := v5) (lv' := [(2, .int v5), (0, .ref a0), (1, .int x1)]) hx hb dX3_indexOf_22 hl (k := 2) rfl (by rw [ev5]; rfl) (by decide) rfl (fun ls hl => ?_)
          refine lv_goto (tgt := 2) hx hb dX3_indexOf_25 (by decide) ?_
          exact ih v5 _ _ _ h hW (lv_sub hl [1, 2, 0] rfl)
        · replace h := bq_ifT hc h
          refine lv_iload_n hx hb dX3_indexOf_20 rfl (lv_at hl 2 rfl) ?_
          cases h
          exact bq_reti S hr hlocks hK hz dX3_indexOf_21 hW
  exact hL2 bq_fuel (0 : Int32) _ _ _ h hW (lv_sub hl [1, 2, 0] rfl)

theorem kc_X3_append {E : bq_E} {a0 : Nat} {x1 : Int32} {R : bq_E} (h : tw_X3_append E a0 x1 = some R) : bq_cls E a0 = 3 := (bq_guard h).1
set_option maxHeartbeats 4000000 in
set_option maxRecDepth 100000 in
theorem c_X3_append {l : Launch} {g : bq_G} {L : List Nat} {z : Nat} {E : bq_E} {a0 : Nat} {x1 : Int32} {R : bq_E} (h : tw_X3_append E a0 x1 = some R) : bq_M l yX3_append cX3_append 2 none 0 0 [.ref a0, .int x1] g L E z none R := by
  unfold tw_X3_append at h
  obtain ⟨hcl, h⟩ := bq_guard h
  refine bq_enter (by decide) (Nat.le_of_ble_eq_true rfl) ?_
  intro p e s m args below meth c S hr hlocks hK hz hW ls hl
  have S : CallFix p m c cX3_append 2 s args bq_WA RX3 := S
  have hx := S.1
  have hb := S.2.1
  have hl : lv_has ls 2 [(0, .ref a0), (1, .int x1)] := hl
  refine lv_aload_n hx hb dX3_append_0 rfl (lv_at hl 0 rfl) ?_
  obtain ⟨v1, hv, h⟩ := bq_bind h
  refine bq_geti S hK fl_X3_15 dX3_append_1 hv hW ?_
  refine lv_if_lt (tgt := 39) hx hb dX3_append_4 (by decide) (fun hc => ?_) (fun hc => ?_)
  · replace h := bq_ifT hc h
    cases h
    exact bq_retv S hr hlocks hK hz dX3_append_39 hW
  · replace h := bq_ifF hc h
    refine lv_aload_n hx hb dX3_append_7 rfl (lv_at hl 0 rfl) ?_
    obtain ⟨v2, hv, h⟩ := bq_bind h
    refine bq_geti S hK fl_X3_15 dX3_append_8 hv hW ?_
    refine lv_aload_n hx hb dX3_append_11 rfl (lv_at hl 0 rfl) ?_
    obtain ⟨v3, hv, h⟩ := bq_bind h
    refine bq_getr S hK fl_X3_9 dX3_append_12 hv hW ?_
    obtain ⟨v4, hv, h⟩ := bq_bind h
    refine bq_alen S hK dX3_append_15 hv hW ?_
    refine lv_icmp_ge (tgt := 39) hx hb dX3_append_16 (by decide) (fun hc => ?_) (fun hc => ?_)
    · replace h := bq_ifT hc h
      cases h
      exact bq_retv S hr hlocks hK hz dX3_append_39 hW
    · replace h := bq_ifF hc h
      refine lv_aload_n hx hb dX3_append_19 rfl (lv_at hl 0 rfl) ?_
      obtain ⟨v5, hv, h⟩ := bq_bind h
      refine bq_getr S hK fl_X3_9 dX3_append_20 hv hW ?_
      refine lv_aload_n hx hb dX3_append_23 rfl (lv_at hl 0 rfl) ?_
      obtain ⟨v6, hv, h⟩ := bq_bind h
      refine bq_geti S hK fl_X3_15 dX3_append_24 hv hW ?_
      refine lv_iload_n hx hb dX3_append_27 rfl (lv_at hl 1 rfl) ?_
      obtain ⟨E7, hv, h⟩ := bq_bind h
      refine bq_iast S hK dX3_append_28 hv hW (fun H locs hW => ?_)
      refine lv_aload_n hx hb dX3_append_29 rfl (lv_at hl 0 rfl) ?_
      refine lv_dup hx hb dX3_append_30 rfl ?_
      obtain ⟨v8, hv, h⟩ := bq_bind h
      refine bq_geti S hK fl_X3_15 dX3_append_31 hv hW ?_
      refine lv_iconst (v := 1) hx hb dX3_append_34 (by decide) ?_
      refine lv_iadd hx hb dX3_append_35 ?_
      obtain ⟨E9, hv, h⟩ := bq_bind h
      refine bq_puti S hK fp_X3_15 dX3_append_36 hv hW (fun H locs hW => ?_)
      cases h
      exact bq_retv S hr hlocks hK hz dX3_append_39 hW

theorem kc_X3_put {E : bq_E} {a0 : Nat} {x1 : Int32} {x2 : Int32} {R : bq_E} (h : tw_X3_put E a0 x1 x2 = some R) : bq_cls E a0 = 3 := (bq_guard h).1
set_option maxHeartbeats 4000000 in
set_option maxRecDepth 100000 in
theorem c_X3_put {l : Launch} {g : bq_G} {L : List Nat} {z : Nat} {E : bq_E} {a0 : Nat} {x1 : Int32} {x2 : Int32} {R : bq_E} (h : tw_X3_put E a0 x1 x2 = some R) : bq_M l yX3_put cX3_put 3 none 0 0 [.ref a0, .int x1, .int x2] g L E z none R := by
  unfold tw_X3_put at h
  obtain ⟨hcl, h⟩ := bq_guard h
  refine bq_enter (by decide) (Nat.le_of_ble_eq_true rfl) ?_
  intro p e s m args below meth c S hr hlocks hK hz hW ls hl
  have S : CallFix p m c cX3_put 3 s args bq_WA RX3 := S
  have hx := S.1
  have hb := S.2.1
  have hl : lv_has ls 3 [(0, .ref a0), (1, .int x1), (2, .int x2)] := hl
  refine lv_iload_n hx hb dX3_put_0 rfl (lv_at hl 1 rfl) ?_
  refine lv_if_lt (tgt := 28) hx hb dX3_put_1 (by decide) (fun hc => ?_) (fun hc => ?_)
  · replace h := bq_ifT hc h
    cases h
    exact bq_retv S hr hlocks hK hz dX3_put_28 hW
  · replace h := bq_ifF hc h
    refine lv_iload_n hx hb dX3_put_4 rfl (lv_at hl 1 rfl) ?_
    refine lv_aload_n hx hb dX3_put_5 rfl (lv_at hl 0 rfl) ?_
    obtain ⟨v1, hv, h⟩ := bq_bind h
    refine bq_geti S hK fl_X3_15 dX3_put_6 hv hW ?_
    refine lv_icmp_ge (tgt := 28) hx hb dX3_put_9 (by decide) (fun hc => ?_) (fun hc => ?_)
    · replace h := bq_ifT hc h
      cases h
      exact bq_retv S hr hlocks hK hz dX3_put_28 hW
    · replace h := bq_ifF hc h
      refine lv_iload_n hx hb dX3_put_12 rfl (lv_at hl 1 rfl) ?_
      refine lv_aload_n hx hb dX3_put_13 rfl (lv_at hl 0 rfl) ?_
      obtain ⟨v2, hv, h⟩ := bq_bind h
      refine bq_getr S hK fl_X3_9 dX3_put_14 hv hW ?_
      obtain ⟨v3, hv, h⟩ := bq_bind h
      refine bq_alen S hK dX3_put_17 hv hW ?_
      refine lv_icmp_ge (tgt := 28) hx hb dX3_put_18 (by decide) (fun hc => ?_) (fun hc => ?_)
      · replace h := bq_ifT hc h
        cases h
        exact bq_retv S hr hlocks hK hz dX3_put_28 hW
      · replace h := bq_ifF hc h
        refine lv_aload_n hx hb dX3_put_21 rfl (lv_at hl 0 rfl) ?_
        obtain ⟨v4, hv, h⟩ := bq_bind h
        refine bq_getr S hK fl_X3_9 dX3_put_22 hv hW ?_
        refine lv_iload_n hx hb dX3_put_25 rfl (lv_at hl 1 rfl) ?_
        refine lv_iload_n hx hb dX3_put_26 rfl (lv_at hl 2 rfl) ?_
        obtain ⟨E5, hv, h⟩ := bq_bind h
        refine bq_iast S hK dX3_put_27 hv hW (fun H locs hW => ?_)
        cases h
        exact bq_retv S hr hlocks hK hz dX3_put_28 hW

theorem kc_X3_cutOut {E : bq_E} {a0 : Nat} {x1 : Int32} {R : bq_E} (h : tw_X3_cutOut E a0 x1 = some R) : bq_cls E a0 = 3 := (bq_guard h).1
set_option maxHeartbeats 4000000 in
set_option maxRecDepth 100000 in
theorem c_X3_cutOut {l : Launch} {g : bq_G} {L : List Nat} {z : Nat} {E : bq_E} {a0 : Nat} {x1 : Int32} {R : bq_E} (h : tw_X3_cutOut E a0 x1 = some R) : bq_M l yX3_cutOut cX3_cutOut 3 none 1 22 [.ref a0, .int x1] g L E z none R := by
  unfold tw_X3_cutOut at h
  obtain ⟨hcl, h⟩ := bq_guard h
  refine bq_enter (by decide) (Nat.le_of_ble_eq_true rfl) ?_
  intro p e s m args below meth c S hr hlocks hK hz hW ls hl
  have S : CallFix p m c cX3_cutOut 3 s args bq_WA RX3 := S
  have hx := S.1
  have hb := S.2.1
  have hl : lv_has ls 3 [(0, .ref a0), (1, .int x1)] := hl
  refine lv_iload_n hx hb dX3_cutOut_0 rfl (lv_at hl 1 rfl) ?_
  refine lv_if_lt (tgt := 12) hx hb dX3_cutOut_1 (by decide) (fun hc => ?_) (fun hc => ?_)
  · replace h := bq_ifT hc h
    cases h
    exact bq_retv S hr hlocks hK hz dX3_cutOut_12 hW
  · replace h := bq_ifF hc h
    refine lv_iload_n hx hb dX3_cutOut_4 rfl (lv_at hl 1 rfl) ?_
    refine lv_aload_n hx hb dX3_cutOut_5 rfl (lv_at hl 0 rfl) ?_
    obtain ⟨v1, hv, h⟩ := bq_bind h
    refine bq_geti S hK fl_X3_15 dX3_cutOut_6 hv hW ?_
    refine lv_icmp_lt (tgt := 13) hx hb dX3_cutOut_9 (by decide) (fun hc => ?_) (fun hc => ?_)
    · replace h := bq_ifT hc h
      refine lv_iload_n hx hb dX3_cutOut_13 rfl (lv_at hl 1 rfl) ?_
      refine lv_istore_n (lv' := [(2, .int x1), (0, .ref a0), (1, .int x1)]) hx hb dX3_cutOut_14 rfl hl (by decide) rfl (fun ls hl => ?_)
      have hL15 : ∀ (n : Nat) (z4 : Int32) (E5 : bq_E) (H1 : Heap) (locs1 : List Loc) (ls1 : Array Slot), tl_X3_cutOut_15 a0 n z4 E5 = some R → bq_H g L E5 z s.heap H1 locs1 → lv_has ls1 3 [(0, .ref a0), (2, .int z4)] → W p l e { frames := 1, cells := 0, slots := 0, locals := 22 } s m args below meth c H1 locs1 0 0 (MQ below (bq_Q g L R z none) args s 0 0 (bq_A z)) (F0 m 15 ls1 []) := by
        intro n
        induction n with
        | zero => intro z4 E5 H locs ls h hW hl; cases h
        | succ n ih =>
          intro z4 E5 H locs ls h hW hl
          rw [tl_X3_cutOut_15.eq_2] at h
          refine lv_iload_n hx hb dX3_cutOut_15 rfl (lv_at hl 1 rfl) ?_
          refine lv_aload_n hx hb dX3_cutOut_16 rfl (lv_at hl 0 rfl) ?_
          obtain ⟨v6, hv, h⟩ := bq_bind h
          refine bq_geti S hK fl_X3_15 dX3_cutOut_17 hv hW ?_
          refine lv_iconst (v := 1) hx hb dX3_cutOut_20 (by decide) ?_
          refine lv_isub hx hb dX3_cutOut_21 ?_
          refine lv_icmp_ge (tgt := 44) hx hb dX3_cutOut_22 (by decide) (fun hc => ?_) (fun hc => ?_)
          · replace h := bq_ifT hc h
            refine lv_aload_n hx hb dX3_cutOut_44 rfl (lv_at hl 0 rfl) ?_
            refine lv_dup hx hb dX3_cutOut_45 rfl ?_
            obtain ⟨v7, hv, h⟩ := bq_bind h
            refine bq_geti S hK fl_X3_15 dX3_cutOut_46 hv hW ?_
            refine lv_iconst (v := 1) hx hb dX3_cutOut_49 (by decide) ?_
            refine lv_isub hx hb dX3_cutOut_50 ?_
            obtain ⟨E8, hv, h⟩ := bq_bind h
            refine bq_puti S hK fp_X3_15 dX3_cutOut_51 hv hW (fun H locs hW => ?_)
            cases h
            exact bq_retv S hr hlocks hK hz dX3_cutOut_54 hW
          · replace h := bq_ifF hc h
            refine lv_aload_n hx hb dX3_cutOut_25 rfl (lv_at hl 0 rfl) ?_
            refine lv_iload_n hx hb dX3_cutOut_26 rfl (lv_at hl 1 rfl) ?_
            refine lv_aload_n hx hb dX3_cutOut_27 rfl (lv_at hl 0 rfl) ?_
            refine lv_iload_n hx hb dX3_cutOut_28 rfl (lv_at hl 1 rfl) ?_
            refine lv_iconst (v := 1) hx hb dX3_cutOut_29 (by decide) ?_
            refine lv_iadd hx hb dX3_cutOut_30 ?_
            refine lv_iconst (v := 0) hx hb dX3_cutOut_31 (by decide) ?_
            obtain ⟨v9, hv, h⟩ := bq_bind h
            refine bq_callV S hK hz mv_X3_19 (c_X3_at hv) (kc_X3_at hv) dX3_cutOut_32 [.int v9, .int z4, .ref a0] (rest := [.int z4, .ref a0]) rfl rfl rfl hl.1 (Nat.le_of_ble_eq_true rfl) ⟨Nat.le_of_ble_eq_true rfl, Nat.le_of_ble_eq_true rfl⟩ ⟨Nat.zero_le _, Nat.zero_le _⟩ hW (fun H locs hW => ?_)
            obtain ⟨E10, hv, h⟩ := bq_bind h
            refine bq_callV S hK hz mv_X3_23 (c_X3_put hv) (kc_X3_put hv) dX3_cutOut_35 [] (rest := []) rfl rfl rfl hl.1 (Nat.le_of_ble_eq_true rfl) ⟨Nat.le_of_ble_eq_true rfl, Nat.le_of_ble_eq_true rfl⟩ ⟨Nat.zero_le _, Nat.zero_le _⟩ hW (fun H locs hW => ?_)
            obtain ⟨v11, ev11⟩ : ∃ y : Int32, y = z4 + 1 := ⟨_, rfl⟩
            replace h := bq_letE ev11 h
            refine lv_iinc (v := v11) (lv' := [(2, .int v11), (0, .ref a0)]) hx hb dX3_cutOut_38 hl (k := 1) rfl (by rw [ev11]; rfl) (by decide) rfl (fun ls hl => ?_)
            refine lv_goto (tgt := 15) hx hb dX3_cutOut_41 (by decide) ?_
            exact ih v11 E10 _ _ _ h hW (lv_sub hl [1, 0] rfl)
      exact hL15 bq_fuel x1 E _ _ _ h hW (lv_sub hl [1, 0] rfl)
    · replace h := bq_ifF hc h
      cases h
      exact bq_retv S hr hlocks hK hz dX3_cutOut_12 hW

theorem kc_X3_cutTo {E : bq_E} {a0 : Nat} {x1 : Int32} {R : bq_E} (h : tw_X3_cutTo E a0 x1 = some R) : bq_cls E a0 = 3 := (bq_guard h).1
set_option maxHeartbeats 4000000 in
set_option maxRecDepth 100000 in
theorem c_X3_cutTo {l : Launch} {g : bq_G} {L : List Nat} {z : Nat} {E : bq_E} {a0 : Nat} {x1 : Int32} {R : bq_E} (h : tw_X3_cutTo E a0 x1 = some R) : bq_M l yX3_cutTo cX3_cutTo 2 none 0 0 [.ref a0, .int x1] g L E z none R := by
  unfold tw_X3_cutTo at h
  obtain ⟨hcl, h⟩ := bq_guard h
  refine bq_enter (by decide) (Nat.le_of_ble_eq_true rfl) ?_
  intro p e s m args below meth c S hr hlocks hK hz hW ls hl
  have S : CallFix p m c cX3_cutTo 2 s args bq_WA RX3 := S
  have hx := S.1
  have hb := S.2.1
  have hl : lv_has ls 2 [(0, .ref a0), (1, .int x1)] := hl
  refine lv_iload_n hx hb dX3_cutTo_0 rfl (lv_at hl 1 rfl) ?_
  refine lv_if_lt (tgt := 17) hx hb dX3_cutTo_1 (by decide) (fun hc => ?_) (fun hc => ?_)
  · replace h := bq_ifT hc h
    cases h
    exact bq_retv S hr hlocks hK hz dX3_cutTo_17 hW
  · replace h := bq_ifF hc h
    refine lv_iload_n hx hb dX3_cutTo_4 rfl (lv_at hl 1 rfl) ?_
    refine lv_aload_n hx hb dX3_cutTo_5 rfl (lv_at hl 0 rfl) ?_
    obtain ⟨v1, hv, h⟩ := bq_bind h
    refine bq_geti S hK fl_X3_15 dX3_cutTo_6 hv hW ?_
    refine lv_icmp_ge (tgt := 17) hx hb dX3_cutTo_9 (by decide) (fun hc => ?_) (fun hc => ?_)
    · replace h := bq_ifT hc h
      cases h
      exact bq_retv S hr hlocks hK hz dX3_cutTo_17 hW
    · replace h := bq_ifF hc h
      refine lv_aload_n hx hb dX3_cutTo_12 rfl (lv_at hl 0 rfl) ?_
      refine lv_iload_n hx hb dX3_cutTo_13 rfl (lv_at hl 1 rfl) ?_
      obtain ⟨E2, hv, h⟩ := bq_bind h
      refine bq_puti S hK fp_X3_15 dX3_cutTo_14 hv hW (fun H locs hW => ?_)
      cases h
      exact bq_retv S hr hlocks hK hz dX3_cutTo_17 hW

theorem kc_X3_firstAtLeast {E : bq_E} {a0 : Nat} {x1 : Int32} {x2 : Int32} {R : Int32} (h : tw_X3_firstAtLeast E a0 x1 x2 = some R) : bq_cls E a0 = 3 := (bq_guard h).1
set_option maxHeartbeats 4000000 in
set_option maxRecDepth 100000 in
theorem c_X3_firstAtLeast {l : Launch} {g : bq_G} {L : List Nat} {z : Nat} {E : bq_E} {a0 : Nat} {x1 : Int32} {x2 : Int32} {R : Int32} (h : tw_X3_firstAtLeast E a0 x1 x2 = some R) : bq_M l yX3_firstAtLeast cX3_firstAtLeast 4 (some .int) 0 0 [.ref a0, .int x1, .int x2] g L E z (some (.int R)) E := by
  unfold tw_X3_firstAtLeast at h
  obtain ⟨hcl, h⟩ := bq_guard h
  refine bq_enter (by decide) (Nat.le_of_ble_eq_true rfl) ?_
  intro p e s m args below meth c S hr hlocks hK hz hW ls hl
  have S : CallFix p m c cX3_firstAtLeast 4 s args bq_WA RX3 := S
  have hx := S.1
  have hb := S.2.1
  have hl : lv_has ls 4 [(0, .ref a0), (1, .int x1), (2, .int x2)] := hl
  refine lv_iload_n hx hb dX3_firstAtLeast_0 rfl (lv_at hl 2 rfl) ?_
  refine lv_istore_n (lv' := [(3, .int x2), (0, .ref a0), (1, .int x1), (2, .int x2)]) hx hb dX3_firstAtLeast_1 rfl hl (by decide) rfl (fun ls hl => ?_)
  have hL2 : ∀ (n : Nat) (z2 : Int32) (H1 : Heap) (locs1 : List Loc) (ls1 : Array Slot), tl_X3_firstAtLeast_2 E a0 x1 n z2 = some R → bq_H g L E z s.heap H1 locs1 → lv_has ls1 4 [(0, .ref a0), (1, .int x1), (3, .int z2)] → W p l e { frames := 0, cells := 0, slots := 0, locals := 0 } s m args below meth c H1 locs1 0 0 (MQ below (bq_Q g L E z (some (.int R))) args s 0 0 (bq_A z)) (F0 m 2 ls1 []) := by
    intro n
    induction n with
    | zero => intro z2 H locs ls h hW hl; cases h
    | succ n ih =>
      intro z2 H locs ls h hW hl
      rw [tl_X3_firstAtLeast_2.eq_2] at h
      refine lv_iload_n hx hb dX3_firstAtLeast_2 rfl (lv_at hl 2 rfl) ?_
      refine lv_if_lt (tgt := 39) hx hb dX3_firstAtLeast_3 (by decide) (fun hc => ?_) (fun hc => ?_)
      · replace h := bq_ifT hc h
        refine lv_iload_n hx hb dX3_firstAtLeast_39 rfl (lv_at hl 2 rfl) ?_
        cases h
        exact bq_reti S hr hlocks hK hz dX3_firstAtLeast_40 hW
      · replace h := bq_ifF hc h
        refine lv_iload_n hx hb dX3_firstAtLeast_6 rfl (lv_at hl 2 rfl) ?_
        refine lv_aload_n hx hb dX3_firstAtLeast_7 rfl (lv_at hl 0 rfl) ?_
        obtain ⟨v3, hv, h⟩ := bq_bind h
        refine bq_geti S hK fl_X3_15 dX3_firstAtLeast_8 hv hW ?_
        refine lv_icmp_ge (tgt := 39) hx hb dX3_firstAtLeast_11 (by decide) (fun hc => ?_) (fun hc => ?_)
        · replace h := bq_ifT hc h
          refine lv_iload_n hx hb dX3_firstAtLeast_39 rfl (lv_at hl 2 rfl) ?_
          cases h
          exact bq_reti S hr hlocks hK hz dX3_firstAtLeast_40 hW
        · replace h := bq_ifF hc h
          refine lv_iload_n hx hb dX3_firstAtLeast_14 rfl (lv_at hl 2 rfl) ?_
          refine lv_aload_n hx hb dX3_firstAtLeast_15 rfl (lv_at hl 0 rfl) ?_
          obtain ⟨v4, hv, h⟩ := bq_bind h
          refine bq_getr S hK fl_X3_9 dX3_firstAtLeast_16 hv hW ?_
          obtain ⟨v5, hv, h⟩ := bq_bind h
          refine bq_alen S hK dX3_firstAtLeast_19 hv hW ?_
          refine lv_icmp_ge (tgt := 39) hx hb dX3_firstAtLeast_20 (by decide) (fun hc => ?_) (fun hc => ?_)
          · replace h := bq_ifT hc h
            refine lv_iload_n hx hb dX3_firstAtLeast_39 rfl (lv_at hl 2 rfl) ?_
            cases h
            exact bq_reti S hr hlocks hK hz dX3_firstAtLeast_40 hW
          · replace h := bq_ifF hc h
            refine lv_aload_n hx hb dX3_firstAtLeast_23 rfl (lv_at hl 0 rfl) ?_
            obtain ⟨v6, hv, h⟩ := bq_bind h
            refine bq_getr S hK fl_X3_9 dX3_firstAtLeast_24 hv hW ?_
            refine lv_iload_n hx hb dX3_firstAtLeast_27 rfl (lv_at hl 2 rfl) ?_
            obtain ⟨v7, hv, h⟩ := bq_bind h
            refine bq_iald S hK dX3_firstAtLeast_28 hv hW ?_
            refine lv_iload_n hx hb dX3_firstAtLeast_29 rfl (lv_at hl 1 rfl) ?_
            refine lv_icmp_ge (tgt := 39) hx hb dX3_firstAtLeast_30 (by decide) (fun hc => ?_) (fun hc => ?_)
            · replace h := bq_ifT hc h
              refine lv_iload_n hx hb dX3_firstAtLeast_39 rfl (lv_at hl 2 rfl) ?_
              cases h
              exact bq_reti S hr hlocks hK hz dX3_firstAtLeast_40 hW
            · replace h := bq_ifF hc h
              obtain ⟨v8, ev8⟩ : ∃ y : Int32, y = z2 + 1 := ⟨_, rfl⟩
              replace h := bq_letE ev8 h
              refine lv_iinc (v := v8) (lv' := [(3, .int v8), (0, .ref a0), (1, .int x1)]) hx hb dX3_firstAtLeast_33 hl (k := 2) rfl (by rw [ev8]; rfl) (by decide) rfl (fun ls hl => ?_)
              refine lv_goto (tgt := 2) hx hb dX3_firstAtLeast_36 (by decide) ?_
              exact ih v8 _ _ _ h hW (lv_sub hl [1, 2, 0] rfl)
  exact hL2 bq_fuel x2 _ _ _ h hW (lv_sub hl [1, 2, 0] rfl)

theorem kc_X3_insert {E : bq_E} {a0 : Nat} {x1 : Int32} {x2 : Int32} {R : bq_E} (h : tw_X3_insert E a0 x1 x2 = some R) : bq_cls E a0 = 3 := (bq_guard h).1
set_option maxHeartbeats 4000000 in
set_option maxRecDepth 100000 in
theorem c_X3_insert {l : Launch} {g : bq_G} {L : List Nat} {z : Nat} {E : bq_E} {a0 : Nat} {x1 : Int32} {x2 : Int32} {R : bq_E} (h : tw_X3_insert E a0 x1 x2 = some R) : bq_M l yX3_insert cX3_insert 4 none 1 22 [.ref a0, .int x1, .int x2] g L E z none R := by
  unfold tw_X3_insert at h
  obtain ⟨hcl, h⟩ := bq_guard h
  refine bq_enter (by decide) (Nat.le_of_ble_eq_true rfl) ?_
  intro p e s m args below meth c S hr hlocks hK hz hW ls hl
  have S : CallFix p m c cX3_insert 4 s args bq_WA RX3 := S
  have hx := S.1
  have hb := S.2.1
  have hl : lv_has ls 4 [(0, .ref a0), (1, .int x1), (2, .int x2)] := hl
  refine lv_iload_n hx hb dX3_insert_0 rfl (lv_at hl 1 rfl) ?_
  refine lv_if_lt (tgt := 24) hx hb dX3_insert_1 (by decide) (fun hc => ?_) (fun hc => ?_)
  · replace h := bq_ifT hc h
    cases h
    exact bq_retv S hr hlocks hK hz dX3_insert_24 hW
  · replace h := bq_ifF hc h
    refine lv_iload_n hx hb dX3_insert_4 rfl (lv_at hl 1 rfl) ?_
    refine lv_aload_n hx hb dX3_insert_5 rfl (lv_at hl 0 rfl) ?_
    obtain ⟨v1, hv, h⟩ := bq_bind h
    refine bq_geti S hK fl_X3_15 dX3_insert_6 hv hW ?_
    refine lv_icmp_gt (tgt := 24) hx hb dX3_insert_9 (by decide) (fun hc => ?_) (fun hc => ?_)
    · replace h := bq_ifT hc h
      cases h
      exact bq_retv S hr hlocks hK hz dX3_insert_24 hW
    · replace h := bq_ifF hc h
      refine lv_aload_n hx hb dX3_insert_12 rfl (lv_at hl 0 rfl) ?_
      obtain ⟨v2, hv, h⟩ := bq_bind h
      refine bq_geti S hK fl_X3_15 dX3_insert_13 hv hW ?_
      refine lv_aload_n hx hb dX3_insert_16 rfl (lv_at hl 0 rfl) ?_
      obtain ⟨v3, hv, h⟩ := bq_bind h
      refine bq_getr S hK fl_X3_9 dX3_insert_17 hv hW ?_
      obtain ⟨v4, hv, h⟩ := bq_bind h
      refine bq_alen S hK dX3_insert_20 hv hW ?_
      refine lv_icmp_lt (tgt := 25) hx hb dX3_insert_21 (by decide) (fun hc => ?_) (fun hc => ?_)
      · replace h := bq_ifT hc h
        refine lv_aload_n hx hb dX3_insert_25 rfl (lv_at hl 0 rfl) ?_
        refine lv_dup hx hb dX3_insert_26 rfl ?_
        obtain ⟨v5, hv, h⟩ := bq_bind h
        refine bq_geti S hK fl_X3_15 dX3_insert_27 hv hW ?_
        refine lv_iconst (v := 1) hx hb dX3_insert_30 (by decide) ?_
        refine lv_iadd hx hb dX3_insert_31 ?_
        obtain ⟨E6, hv, h⟩ := bq_bind h
        refine bq_puti S hK fp_X3_15 dX3_insert_32 hv hW (fun H locs hW => ?_)
        refine lv_aload_n hx hb dX3_insert_35 rfl (lv_at hl 0 rfl) ?_
        obtain ⟨v7, hv, h⟩ := bq_bind h
        refine bq_geti S hK fl_X3_15 dX3_insert_36 hv hW ?_
        refine lv_iconst (v := 1) hx hb dX3_insert_39 (by decide) ?_
        refine lv_isub hx hb dX3_insert_40 ?_
        refine lv_topi (fun v8 ev8 => ?_)
        replace h := bq_letE ev8 h
        refine lv_istore_n (lv' := [(3, .int v8), (0, .ref a0), (1, .int x1), (2, .int x2)]) hx hb dX3_insert_41 rfl hl (by decide) rfl (fun ls hl => ?_)
        have hL42 : ∀ (n : Nat) (z11 : Int32) (E12 : bq_E) (H1 : Heap) (locs1 : List Loc) (ls1 : Array Slot), tl_X3_insert_42 a0 x1 x2 n z11 E12 = some R → bq_H g L E12 z s.heap H1 locs1 → lv_has ls1 4 [(0, .ref a0), (1, .int x1), (2, .int x2), (3, .int z11)] → W p l e { frames := 1, cells := 0, slots := 0, locals := 22 } s m args below meth c H1 locs1 0 0 (MQ below (bq_Q g L R z none) args s 0 0 (bq_A z)) (F0 m 42 ls1 []) := by
          intro n
          induction n with
          | zero => intro z11 E12 H locs ls h hW hl; cases h
          | succ n ih =>
            intro z11 E12 H locs ls h hW hl
            rw [tl_X3_insert_42.eq_2] at h
            refine lv_iload_n hx hb dX3_insert_42 rfl (lv_at hl 3 rfl) ?_
            refine lv_iload_n hx hb dX3_insert_43 rfl (lv_at hl 1 rfl) ?_
            refine lv_icmp_le (tgt := 66) hx hb dX3_insert_44 (by decide) (fun hc => ?_) (fun hc => ?_)
            · replace h := bq_ifT hc h
              refine lv_aload_n hx hb dX3_insert_66 rfl (lv_at hl 0 rfl) ?_
              refine lv_iload_n hx hb dX3_insert_67 rfl (lv_at hl 1 rfl) ?_
              refine lv_iload_n hx hb dX3_insert_68 rfl (lv_at hl 2 rfl) ?_
              obtain ⟨E13, hv, h⟩ := bq_bind h
              refine bq_callV S hK hz mv_X3_23 (c_X3_put hv) (kc_X3_put hv) dX3_insert_69 [] (rest := []) rfl rfl rfl hl.1 (Nat.le_of_ble_eq_true rfl) ⟨Nat.le_of_ble_eq_true rfl, Nat.le_of_ble_eq_true rfl⟩ ⟨Nat.zero_le _, Nat.zero_le _⟩ hW (fun H locs hW => ?_)
              cases h
              exact bq_retv S hr hlocks hK hz dX3_insert_72 hW
            · replace h := bq_ifF hc h
              refine lv_aload_n hx hb dX3_insert_47 rfl (lv_at hl 0 rfl) ?_
              refine lv_iload_n hx hb dX3_insert_48 rfl (lv_at hl 3 rfl) ?_
              refine lv_aload_n hx hb dX3_insert_49 rfl (lv_at hl 0 rfl) ?_
              refine lv_iload_n hx hb dX3_insert_50 rfl (lv_at hl 3 rfl) ?_
              refine lv_iconst (v := 1) hx hb dX3_insert_51 (by decide) ?_
              refine lv_isub hx hb dX3_insert_52 ?_
              refine lv_iconst (v := 0) hx hb dX3_insert_53 (by decide) ?_
              obtain ⟨v14, hv, h⟩ := bq_bind h
              refine bq_callV S hK hz mv_X3_19 (c_X3_at hv) (kc_X3_at hv) dX3_insert_54 [.int v14, .int z11, .ref a0] (rest := [.int z11, .ref a0]) rfl rfl rfl hl.1 (Nat.le_of_ble_eq_true rfl) ⟨Nat.le_of_ble_eq_true rfl, Nat.le_of_ble_eq_true rfl⟩ ⟨Nat.zero_le _, Nat.zero_le _⟩ hW (fun H locs hW => ?_)
              obtain ⟨E15, hv, h⟩ := bq_bind h
              refine bq_callV S hK hz mv_X3_23 (c_X3_put hv) (kc_X3_put hv) dX3_insert_57 [] (rest := []) rfl rfl rfl hl.1 (Nat.le_of_ble_eq_true rfl) ⟨Nat.le_of_ble_eq_true rfl, Nat.le_of_ble_eq_true rfl⟩ ⟨Nat.zero_le _, Nat.zero_le _⟩ hW (fun H locs hW => ?_)
              obtain ⟨v16, ev16⟩ : ∃ y : Int32, y = z11 + (-1) := ⟨_, rfl⟩
              replace h := bq_letE ev16 h
              refine lv_iinc (v := v16) (lv' := [(3, .int v16), (0, .ref a0), (1, .int x1), (2, .int x2)]) hx hb dX3_insert_60 hl (k := 3) rfl (by rw [ev16]; rfl) (by decide) rfl (fun ls hl => ?_)
              refine lv_goto (tgt := 42) hx hb dX3_insert_63 (by decide) ?_
              exact ih v16 E15 _ _ _ h hW (lv_sub hl [1, 2, 3, 0] rfl)
        exact hL42 bq_fuel v8 E6 _ _ _ h hW (lv_sub hl [1, 2, 3, 0] rfl)
      · replace h := bq_ifF hc h
        cases h
        exact bq_retv S hr hlocks hK hz dX3_insert_24 hW

theorem kc_X3_copyFrom {E : bq_E} {a0 : Nat} {a1 : Nat} {R : bq_E} (h : tw_X3_copyFrom E a0 a1 = some R) : bq_cls E a0 = 3 := (bq_guard h).1
set_option maxHeartbeats 4000000 in
set_option maxRecDepth 100000 in
theorem c_X3_copyFrom {l : Launch} {g : bq_G} {L : List Nat} {z : Nat} {E : bq_E} {a0 : Nat} {a1 : Nat} {R : bq_E} (h : tw_X3_copyFrom E a0 a1 = some R) : bq_M l yX3_copyFrom cX3_copyFrom 3 none 1 40 [.ref a0, .ref a1] g L E z none R := by
  unfold tw_X3_copyFrom at h
  obtain ⟨hcl, h⟩ := bq_guard h
  refine bq_enter (by decide) (Nat.le_of_ble_eq_true rfl) ?_
  intro p e s m args below meth c S hr hlocks hK hz hW ls hl
  have S : CallFix p m c cX3_copyFrom 3 s args bq_WA RX3 := S
  have hx := S.1
  have hb := S.2.1
  have hl : lv_has ls 3 [(0, .ref a0), (1, .ref a1)] := hl
  refine lv_aload_n hx hb dX3_copyFrom_0 rfl (lv_at hl 1 rfl) ?_
  obtain ⟨v1, hv, h⟩ := bq_bind h
  refine bq_geti S hK fl_X3_15 dX3_copyFrom_1 hv hW ?_
  refine lv_aload_n hx hb dX3_copyFrom_4 rfl (lv_at hl 1 rfl) ?_
  obtain ⟨v2, hv, h⟩ := bq_bind h
  refine bq_getr S hK fl_X3_9 dX3_copyFrom_5 hv hW ?_
  obtain ⟨v3, hv, h⟩ := bq_bind h
  refine bq_alen S hK dX3_copyFrom_8 hv hW ?_
  refine lv_aload_n hx hb dX3_copyFrom_9 rfl (lv_at hl 0 rfl) ?_
  obtain ⟨v4, hv, h⟩ := bq_bind h
  refine bq_getr S hK fl_X3_9 dX3_copyFrom_10 hv hW ?_
  obtain ⟨v5, hv, h⟩ := bq_bind h
  refine bq_alen S hK dX3_copyFrom_13 hv hW ?_
  refine va_mmin hx hb (S.2.2.1.trans hl.1.symm) S.2.2.2.1 (S.2.2.2.2 _ (bq_wi 411 (by decide +kernel) rfl)) (S.2.2.2.2 _ (bq_wi 412 (by decide +kernel) rfl)) (S.2.2.2.2 _ (bq_wi 30 (by decide +kernel) rfl)) (S.2.2.2.2 _ (bq_wi 413 (by decide +kernel) rfl)) (Nat.le_of_ble_eq_true rfl) (Nat.le_of_ble_eq_true rfl) (Nat.zero_le _) (Nat.zero_le _) dX3_copyFrom_14 ?_
  refine lv_topi (fun v6 ev6 => ?_)
  replace h := bq_letE ev6 h
  refine va_mmin hx hb (S.2.2.1.trans hl.1.symm) S.2.2.2.1 (S.2.2.2.2 _ (bq_wi 411 (by decide +kernel) rfl)) (S.2.2.2.2 _ (bq_wi 412 (by decide +kernel) rfl)) (S.2.2.2.2 _ (bq_wi 30 (by decide +kernel) rfl)) (S.2.2.2.2 _ (bq_wi 413 (by decide +kernel) rfl)) (Nat.le_of_ble_eq_true rfl) (Nat.le_of_ble_eq_true rfl) (Nat.zero_le _) (Nat.zero_le _) dX3_copyFrom_17 ?_
  refine lv_topi (fun v7 ev7 => ?_)
  replace h := bq_letE ev7 h
  refine lv_istore_n (lv' := [(2, .int v7), (0, .ref a0), (1, .ref a1)]) hx hb dX3_copyFrom_20 rfl hl (by decide) rfl (fun ls hl => ?_)
  refine lv_iload_n hx hb dX3_copyFrom_21 rfl (lv_at hl 0 rfl) ?_
  refine lv_if_lt (tgt := 44) hx hb dX3_copyFrom_22 (by decide) (fun hc => ?_) (fun hc => ?_)
  · replace h := bq_ifT hc h
    cases h
    exact bq_retv S hr hlocks hK hz dX3_copyFrom_44 hW
  · replace h := bq_ifF hc h
    refine lv_aload_n hx hb dX3_copyFrom_25 rfl (lv_at hl 2 rfl) ?_
    obtain ⟨v8, hv, h⟩ := bq_bind h
    refine bq_getr S hK fl_X3_9 dX3_copyFrom_26 hv hW ?_
    refine lv_iconst (v := 0) hx hb dX3_copyFrom_29 (by decide) ?_
    refine lv_aload_n hx hb dX3_copyFrom_30 rfl (lv_at hl 1 rfl) ?_
    obtain ⟨v9, hv, h⟩ := bq_bind h
    refine bq_getr S hK fl_X3_9 dX3_copyFrom_31 hv hW ?_
    refine lv_iconst (v := 0) hx hb dX3_copyFrom_34 (by decide) ?_
    refine lv_iload_n hx hb dX3_copyFrom_35 rfl (lv_at hl 0 rfl) ?_
    obtain ⟨E10, hv, h⟩ := bq_bind h
    refine bq_copy S hK hl.1.symm (bq_wi 414 (by decide +kernel) rfl) (bq_wi 416 (by decide +kernel) rfl) (bq_wi 415 (by decide +kernel) rfl) (bq_wi 31 (by decide +kernel) rfl) dX3_copyFrom_36 (Nat.le_of_ble_eq_true rfl) (Nat.le_of_ble_eq_true rfl) hv hW (fun H locs hW => ?_)
    refine lv_aload_n hx hb dX3_copyFrom_39 rfl (lv_at hl 1 rfl) ?_
    refine lv_iload_n hx hb dX3_copyFrom_40 rfl (lv_at hl 0 rfl) ?_
    obtain ⟨E11, hv, h⟩ := bq_bind h
    refine bq_puti S hK fp_X3_15 dX3_copyFrom_41 hv hW (fun H locs hW => ?_)
    cases h
    exact bq_retv S hr hlocks hK hz dX3_copyFrom_44 hW
