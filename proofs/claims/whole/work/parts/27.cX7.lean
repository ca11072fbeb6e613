theorem kc_X7_thrown {E : bq_E} {a0 : Nat} {R : Int32} (h : tw_X7_thrown E a0 = some R) : bq_cls E a0 = 7 := (bq_guard h).1
set_option maxHeartbeats 4000000 in
set_option maxRecDepth 100000 in
theorem c_X7_thrown {l : Launch} {g : bq_G} {L : List Nat} {z : Nat} {E : bq_E} {a0 : Nat} {R : Int32} (h : tw_X7_thrown E a0 = some R) : bq_M l yX7_thrown cX7_thrown 1 (some .int) 0 0 [.ref a0] g L E z (some (.int R)) E := by
  unfold tw_X7_thrown at h
  obtain ⟨hcl, h⟩ := bq_guard h
  refine bq_enter (by decide) (Nat.le_of_ble_eq_true rfl) ?_
  intro p e s m args below meth c S hr hlocks hK hz hW ls hl
  have S : CallFix p m c cX7_thrown 1 s args bq_WA RX7 := S
  have hx := S.1
  have hb := S.2.1
  have hl : lv_has ls 1 [(0, .ref a0)] := hl
  refine lv_aload_n hx hb dX7_thrown_0 rfl (lv_at hl 0 rfl) ?_
  obtain ⟨v1, hv, h⟩ := bq_bind h
  refine bq_geti S hK fl_X7_31 dX7_thrown_1 hv hW ?_
  cases h
  exact bq_reti S hr hlocks hK hz dX7_thrown_4 hW

set_option maxHeartbeats 4000000 in
set_option maxRecDepth 100000 in
theorem c_X7_in {l : Launch} {g : bq_G} {L : List Nat} {z : Nat} {E : bq_E} {x0 : Int32} {x1 : Int32} {x2 : Int32} {R : Bool} (h : tw_X7_in E x0 x1 x2 = some R) : bq_M l yX7_in cX7_in 3 (some .boolean) 0 0 [.int x0, .int x1, .int x2] g L E z (some (.int (bq_b R))) E := by
  unfold tw_X7_in at h
  refine bq_enter (by decide) (Nat.le_of_ble_eq_true rfl) ?_
  intro p e s m args below meth c S hr hlocks hK hz hW ls hl
  have S : CallFix p m c cX7_in 3 s args bq_WA RX7 := S
  have hx := S.1
  have hb := S.2.1
  have hl : lv_has ls 3 [(0, .int x0), (1, .int x1), (2, .int x2)] := hl
  refine lv_iload_n hx hb dX7_in_0 rfl (lv_at hl 0 rfl) ?_
  refine lv_iload_n hx hb dX7_in_1 rfl (lv_at hl 1 rfl) ?_
  refine lv_icmp_lt (tgt := 14) hx hb dX7_in_2 (by decide) (fun hc => ?_) (fun hc => ?_)
  · replace h := bq_ifT hc h
    refine lv_iconst (v := 0) hx hb dX7_in_14 (by decide) ?_
    cases h
    exact bq_retz S hr hlocks hK hz dX7_in_15 _ rfl hW
  · replace h := bq_ifF hc h
    refine lv_iload_n hx hb dX7_in_5 rfl (lv_at hl 0 rfl) ?_
    refine lv_iload_n hx hb dX7_in_6 rfl (lv_at hl 2 rfl) ?_
    refine lv_icmp_gt (tgt := 14) hx hb dX7_in_7 (by decide) (fun hc => ?_) (fun hc => ?_)
    · replace h := bq_ifT hc h
      refine lv_iconst (v := 0) hx hb dX7_in_14 (by decide) ?_
      cases h
      exact bq_retz S hr hlocks hK hz dX7_in_15 _ rfl hW
    · replace h := bq_ifF hc h
      refine lv_iconst (v := 1) hx hb dX7_in_10 (by decide) ?_
      refine lv_goto (tgt := 15) hx hb dX7_in_11 (by decide) ?_
      cases h
      exact bq_retz S hr hlocks hK hz dX7_in_15 _ rfl hW

theorem kc_X7_fails {E : bq_E} {a0 : Nat} {x1 : Int32} {R : (Int32 × bq_E)} (h : tw_X7_fails E a0 x1 = some R) : bq_cls E a0 = 7 := (bq_guard h).1
set_option maxHeartbeats 4000000 in
set_option maxRecDepth 100000 in
theorem c_X7_fails {l : Launch} {g : bq_G} {L : List Nat} {z : Nat} {E : bq_E} {a0 : Nat} {x1 : Int32} {R : (Int32 × bq_E)} (h : tw_X7_fails E a0 x1 = some R) : bq_M l yX7_fails cX7_fails 2 (some .int) 0 0 [.ref a0, .int x1] g L E z (some (.int R.1)) R.2 := by
  unfold tw_X7_fails at h
  obtain ⟨hcl, h⟩ := bq_guard h
  refine bq_enter (by decide) (Nat.le_of_ble_eq_true rfl) ?_
  intro p e s m args below meth c S hr hlocks hK hz hW ls hl
  have S : CallFix p m c cX7_fails 2 s args bq_WA RX7 := S
  have hx := S.1
  have hb := S.2.1
  have hl : lv_has ls 2 [(0, .ref a0), (1, .int x1)] := hl
  refine lv_aload_n hx hb dX7_fails_0 rfl (lv_at hl 0 rfl) ?_
  refine lv_iload_n hx hb dX7_fails_1 rfl (lv_at hl 1 rfl) ?_
  obtain ⟨E1, hv, h⟩ := bq_bind h
  refine bq_puti S hK fp_X7_31 dX7_fails_2 hv hW (fun H locs hW => ?_)
  refine lv_iconst (v := 0) hx hb dX7_fails_5 (by decide) ?_
  cases h
  exact bq_reti S hr hlocks hK hz dX7_fails_6 hW

theorem kc_X7_tells {E : bq_E} {a0 : Nat} {x1 : Int32} {R : (Int32 × bq_E)} (h : tw_X7_tells E a0 x1 = some R) : bq_cls E a0 = 7 := (bq_guard h).1
set_option maxHeartbeats 4000000 in
set_option maxRecDepth 100000 in
theorem c_X7_tells {l : Launch} {g : bq_G} {L : List Nat} {z : Nat} {E : bq_E} {a0 : Nat} {x1 : Int32} {R : (Int32 × bq_E)} (h : tw_X7_tells E a0 x1 = some R) : bq_M l yX7_tells cX7_tells 2 (some .int) 0 0 [.ref a0, .int x1] g L E z (some (.int R.1)) R.2 := by
  unfold tw_X7_tells at h
  obtain ⟨hcl, h⟩ := bq_guard h
  refine bq_enter (by decide) (Nat.le_of_ble_eq_true rfl) ?_
  intro p e s m args below meth c S hr hlocks hK hz hW ls hl
  have S : CallFix p m c cX7_tells 2 s args bq_WA RX7 := S
  have hx := S.1
  have hb := S.2.1
  have hl : lv_has ls 2 [(0, .ref a0), (1, .int x1)] := hl
  refine lv_aload_n hx hb dX7_tells_0 rfl (lv_at hl 0 rfl) ?_
  refine lv_iconst (v := 0) hx hb dX7_tells_1 (by decide) ?_
  obtain ⟨E1, hv, h⟩ := bq_bind h
  refine bq_puti S hK fp_X7_31 dX7_tells_2 hv hW (fun H locs hW => ?_)
  refine lv_iload_n hx hb dX7_tells_5 rfl (lv_at hl 1 rfl) ?_
  cases h
  exact bq_reti S hr hlocks hK hz dX7_tells_6 hW

theorem kc_X7_hold {E : bq_E} {a0 : Nat} {R : bq_E} (h : tw_X7_hold E a0 = some R) : bq_cls E a0 = 7 := (bq_guard h).1
set_option maxHeartbeats 4000000 in
set_option maxRecDepth 100000 in
theorem c_X7_hold {l : Launch} {g : bq_G} {L : List Nat} {z : Nat} {E : bq_E} {a0 : Nat} {R : bq_E} (h : tw_X7_hold E a0 = some R) : bq_M l yX7_hold cX7_hold 2 none 0 0 [.ref a0] g L E z none R := by
  unfold tw_X7_hold at h
  obtain ⟨hcl, h⟩ := bq_guard h
  refine bq_enter (by decide) (Nat.le_of_ble_eq_true rfl) ?_
  intro p e s m args below meth c S hr hlocks hK hz hW ls hl
  have S : CallFix p m c cX7_hold 2 s args bq_WA RX7 := S
  have hx := S.1
  have hb := S.2.1
  have hl : lv_has ls 2 [(0, .ref a0)] := hl
  refine lv_iconst (v := 0) hx hb dX7_hold_0 (by decide) ?_
  refine lv_istore_n (lv' := [(1, .int (0 : Int32)), (0, .ref a0)]) hx hb dX7_hold_1 rfl hl (by decide) rfl (fun ls hl => ?_)
  have hL2 : ∀ (n : Nat) (z3 : Int32) (E4 : bq_E) (H1 : Heap) (locs1 : List Loc) (ls1 : Array Slot), tl_X7_hold_2 a0 n z3 E4 = some R → bq_H g L E4 z s.heap H1 locs1 → lv_has ls1 2 [(0, .ref a0), (1, .int z3)] → W p l e { frames := 0, cells := 0, slots := 0, locals := 0 } s m args below meth c H1 locs1 0 0 (MQ below (bq_Q g L R z none) args s 0 0 (bq_A z)) (F0 m 2 ls1 []) := by
    intro n
    induction n with
    | zero => intro z3 E4 H locs ls h hW hl; cases h
    | succ n ih =>
      intro z3 E4 H locs ls h hW hl
      rw [tl_X7_hold_2.eq_2] at h
      refine lv_iload_n hx hb dX7_hold_2 rfl (lv_at hl 1 rfl) ?_
      refine lv_sipush (v := 8183) hx hb dX7_hold_3 (by decide) ?_
      refine lv_icmp_ge (tgt := 27) hx hb dX7_hold_6 (by decide) (fun hc => ?_) (fun hc => ?_)
      · replace h := bq_ifT hc h
        cases h
        exact bq_retv S hr hlocks hK hz dX7_hold_27 hW
      · replace h := bq_ifF hc h
        refine lv_aload_n hx hb dX7_hold_9 rfl (lv_at hl 0 rfl) ?_
        obtain ⟨v5, hv, h⟩ := bq_bind h
        refine bq_getr S hK fl_X7_16 dX7_hold_10 hv hW ?_
        refine lv_iload_n hx hb dX7_hold_13 rfl (lv_at hl 1 rfl) ?_
        refine lv_aload_n hx hb dX7_hold_14 rfl (lv_at hl 0 rfl) ?_
        obtain ⟨v6, hv, h⟩ := bq_bind h
        refine bq_getr S hK fl_X7_7 dX7_hold_15 hv hW ?_
        refine lv_iload_n hx hb dX7_hold_18 rfl (lv_at hl 1 rfl) ?_
        obtain ⟨v7, hv, h⟩ := bq_bind h
        refine bq_iald S hK dX7_hold_19 hv hW ?_
        obtain ⟨E8, hv, h⟩ := bq_bind h
        refine bq_iast S hK dX7_hold_20 hv hW (fun H locs hW => ?_)
        obtain ⟨v9, ev9⟩ : ∃ y : Int32, y = z3 + 1 := ⟨_, rfl⟩
        replace h := bq_letE ev9 h
        refine lv_iinc (v := v9) (lv' := [(1, .int v9), (0, .ref a0)]) hx hb dX7_hold_21 hl (k := 1) rfl (by rw [ev9]; rfl) (by decide) rfl (fun ls hl => ?_)
        refine lv_goto (tgt := 2) hx hb dX7_hold_24 (by decide) ?_
        exact ih v9 E8 _ _ _ h hW (lv_sub hl [1, 0] rfl)
  exact hL2 bq_fuel (0 : Int32) E _ _ _ h hW (lv_sub hl [1, 0] rfl)

theorem kc_X7_ends {E : bq_E} {a0 : Nat} {x1 : Int32} {R : (Int32 × bq_E)} (h : tw_X7_ends E a0 x1 = some R) : bq_cls E a0 = 7 := (bq_guard h).1
set_option maxHeartbeats 4000000 in
set_option maxRecDepth 100000 in
theorem c_X7_ends {l : Launch} {g : bq_G} {L : List Nat} {z : Nat} {E : bq_E} {a0 : Nat} {x1 : Int32} {R : (Int32 × bq_E)} (h : tw_X7_ends E a0 x1 = some R) : bq_M l yX7_ends cX7_ends 3 (some .int) 1 21 [.ref a0, .int x1] g L E z (some (.int R.1)) R.2 := by
  unfold tw_X7_ends at h
  obtain ⟨hcl, h⟩ := bq_guard h
  refine bq_enter (by decide) (Nat.le_of_ble_eq_true rfl) ?_
  intro p e s m args below meth c S hr hlocks hK hz hW ls hl
  have S : CallFix p m c cX7_ends 3 s args bq_WA RX7 := S
  have hx := S.1
  have hb := S.2.1
  have hl : lv_has ls 3 [(0, .ref a0), (1, .int x1)] := hl
  refine lv_aload_n hx hb dX7_ends_0 rfl (lv_at hl 0 rfl) ?_
  obtain ⟨v1, hv, h⟩ := bq_bind h
  refine bq_geti S hK fl_X7_35 dX7_ends_1 hv hW ?_
  refine lv_iconst (v := 4) hx hb dX7_ends_4 (by decide) ?_
  obtain ⟨k49, ek49, h⟩ := bq_letK h
  have hjk49 : ∀ (E2 : bq_E) (H1 : Heap) (locs1 : List Loc) (ls1 : Array Slot), k49 E2 = some R → bq_H g L E2 z s.heap H1 locs1 → lv_has ls1 3 [(0, .ref a0), (1, .int x1)] → W p l e { frames := 1, cells := 0, slots := 0, locals := 21 } s m args below meth c H1 locs1 0 0 (MQ below (bq_Q g L R.2 z (some (.int R.1))) args s 0 0 (bq_A z)) (F0 m 49 ls1 []) := by
    intro E2 H locs ls h hW hl
    replace h := bq_kap1 ek49 h
    refine lv_iconst (v := 0) hx hb dX7_ends_49 (by decide) ?_
    refine lv_istore_n (lv' := [(2, .int (0 : Int32)), (0, .ref a0), (1, .int x1)]) hx hb dX7_ends_50 rfl hl (by decide) rfl (fun ls hl => ?_)
    have hL51 : ∀ (n : Nat) (z5 : Int32) (E6 : bq_E) (H1 : Heap) (locs1 : List Loc) (ls1 : Array Slot), tl_X7_ends_51 a0 x1 n z5 E6 = some R → bq_H g L E6 z s.heap H1 locs1 → lv_has ls1 3 [(0, .ref a0), (1, .int x1), (2, .int z5)] → W p l e { frames := 1, cells := 0, slots := 0, locals := 21 } s m args below meth c H1 locs1 0 0 (MQ below (bq_Q g L R.2 z (some (.int R.1))) args s 0 0 (bq_A z)) (F0 m 51 ls1 []) := by
      intro n
      induction n with
      | zero => intro z5 E6 H locs ls h hW hl; cases h
      | succ n ih =>
        intro z5 E6 H locs ls h hW hl
        rw [tl_X7_ends_51.eq_2] at h
        refine lv_iload_n hx hb dX7_ends_51 rfl (lv_at hl 2 rfl) ?_
        refine lv_sipush (v := 8183) hx hb dX7_ends_52 (by decide) ?_
        refine lv_icmp_ge (tgt := 85) hx hb dX7_ends_55 (by decide) (fun hc => ?_) (fun hc => ?_)
        · replace h := bq_ifT hc h
          refine lv_aload_n hx hb dX7_ends_85 rfl (lv_at hl 0 rfl) ?_
          refine lv_dup hx hb dX7_ends_86 rfl ?_
          obtain ⟨v7, hv, h⟩ := bq_bind h
          refine bq_geti S hK fl_X7_35 dX7_ends_87 hv hW ?_
          refine lv_iconst (v := 1) hx hb dX7_ends_90 (by decide) ?_
          refine lv_iadd hx hb dX7_ends_91 ?_
          obtain ⟨E8, hv, h⟩ := bq_bind h
          refine bq_puti S hK fp_X7_35 dX7_ends_92 hv hW (fun H locs hW => ?_)
          refine lv_aload_n hx hb dX7_ends_95 rfl (lv_at hl 0 rfl) ?_
          refine lv_iload_n hx hb dX7_ends_96 rfl (lv_at hl 1 rfl) ?_
          obtain ⟨v9, hv, h⟩ := bq_bind h
          refine bq_callV S hK hz mv_X7_38 (c_X7_tells hv) (kc_X7_tells hv) dX7_ends_97 [.int v9.1] (rest := []) rfl rfl rfl hl.1 (Nat.le_of_ble_eq_true rfl) ⟨Nat.le_of_ble_eq_true rfl, Nat.le_of_ble_eq_true rfl⟩ ⟨Nat.zero_le _, Nat.zero_le _⟩ hW (fun H locs hW => ?_)
          cases h
          exact bq_reti S hr hlocks hK hz dX7_ends_100 hW
        · replace h := bq_ifF hc h
          refine lv_aload_n hx hb dX7_ends_58 rfl (lv_at hl 0 rfl) ?_
          obtain ⟨v10, hv, h⟩ := bq_bind h
          refine bq_getr S hK fl_X7_13 dX7_ends_59 hv hW ?_
          refine lv_sipush (v := 8183) hx hb dX7_ends_62 (by decide) ?_
          refine lv_aload_n hx hb dX7_ends_65 rfl (lv_at hl 0 rfl) ?_
          obtain ⟨v11, hv, h⟩ := bq_bind h
          refine bq_geti S hK fl_X7_35 dX7_ends_66 hv hW ?_
          refine lv_imul hx hb dX7_ends_69 ?_
          refine lv_iload_n hx hb dX7_ends_70 rfl (lv_at hl 2 rfl) ?_
          refine lv_iadd hx hb dX7_ends_71 ?_
          refine lv_aload_n hx hb dX7_ends_72 rfl (lv_at hl 0 rfl) ?_
          obtain ⟨v12, hv, h⟩ := bq_bind h
          refine bq_getr S hK fl_X7_16 dX7_ends_73 hv hW ?_
          refine lv_iload_n hx hb dX7_ends_76 rfl (lv_at hl 2 rfl) ?_
          obtain ⟨v13, hv, h⟩ := bq_bind h
          refine bq_iald S hK dX7_ends_77 hv hW ?_
          obtain ⟨E14, hv, h⟩ := bq_bind h
          refine bq_iast S hK dX7_ends_78 hv hW (fun H locs hW => ?_)
          obtain ⟨v15, ev15⟩ : ∃ y : Int32, y = z5 + 1 := ⟨_, rfl⟩
          replace h := bq_letE ev15 h
          refine lv_iinc (v := v15) (lv' := [(2, .int v15), (0, .ref a0), (1, .int x1)]) hx hb dX7_ends_79 hl (k := 2) rfl (by rw [ev15]; rfl) (by decide) rfl (fun ls hl => ?_)
          refine lv_goto (tgt := 51) hx hb dX7_ends_82 (by decide) ?_
          exact ih v15 E14 _ _ _ h hW (lv_sub hl [1, 2, 0] rfl)
    exact hL51 bq_fuel (0 : Int32) E2 _ _ _ h hW (lv_sub hl [1, 2, 0] rfl)
  clear ek49
  refine lv_icmp_ne (tgt := 49) hx hb dX7_ends_5 (by decide) (fun hc => ?_) (fun hc => ?_)
  · replace h := bq_ifF hc h
    exact hjk49 E _ _ _ h hW (lv_sub hl [0, 1] rfl)
  · replace h := bq_ifT hc h
    refine lv_iconst (v := 0) hx hb dX7_ends_8 (by decide) ?_
    refine lv_istore_n (lv' := [(2, .int (0 : Int32)), (0, .ref a0), (1, .int x1)]) hx hb dX7_ends_9 rfl hl (by decide) rfl (fun ls hl => ?_)
    have hL10 : ∀ (K : Int32 → bq_E → Option (Int32 × bq_E)) (hX : ∀ (u27 : Int32) (E28 : bq_E) (H1 : Heap) (locs1 : List Loc) (ls1 : Array Slot), K u27 E28 = some R → bq_H g L E28 z s.heap H1 locs1 → lv_has ls1 3 [(0, .ref a0), (1, .int x1)] → W p l e { frames := 1, cells := 0, slots := 0, locals := 21 } s m args below meth c H1 locs1 0 0 (MQ below (bq_Q g L R.2 z (some (.int R.1))) args s 0 0 (bq_A z)) (F0 m 39 ls1 [])), ∀ (n : Nat) (z20 : Int32) (E21 : bq_E) (H1 : Heap) (locs1 : List Loc) (ls1 : Array Slot), tl_X7_ends_10 a0 x1 K n z20 E21 = some R → bq_H g L E21 z s.heap H1 locs1 → lv_has ls1 3 [(0, .ref a0), (1, .int x1), (2, .int z20)] → W p l e { frames := 1, cells := 0, slots := 0, locals := 21 } s m args below meth c H1 locs1 0 0 (MQ below (bq_Q g L R.2 z (some (.int R.1))) args s 0 0 (bq_A z)) (F0 m 10 ls1 []) := by
      intro K hX n
      induction n with
      | zero => intro z20 E21 H locs ls h hW hl; cases h
      | succ n ih =>
        intro z20 E21 H locs ls h hW hl
        rw [tl_X7_ends_10.eq_2] at h
        refine lv_iload_n hx hb dX7_ends_10 rfl (lv_at hl 2 rfl) ?_
        refine lv_sipush (v := 24549) hx hb dX7_ends_11 (by decide) ?_
        refine lv_icmp_ge (tgt := 39) hx hb dX7_ends_14 (by decide) (fun hc => ?_) (fun hc => ?_)
        · replace h := bq_ifT hc h
          exact hX z20 E21 _ _ _ h hW (lv_sub hl [0, 1] rfl)
        · replace h := bq_ifF hc h
          refine lv_aload_n hx hb dX7_ends_17 rfl (lv_at hl 0 rfl) ?_
          obtain ⟨v22, hv, h⟩ := bq_bind h
          refine bq_getr S hK fl_X7_13 dX7_ends_18 hv hW ?_
          refine lv_iload_n hx hb dX7_ends_21 rfl (lv_at hl 2 rfl) ?_
          refine lv_aload_n hx hb dX7_ends_22 rfl (lv_at hl 0 rfl) ?_
          obtain ⟨v23, hv, h⟩ := bq_bind h
          refine bq_getr S hK fl_X7_13 dX7_ends_23 hv hW ?_
          refine lv_iload_n hx hb dX7_ends_26 rfl (lv_at hl 2 rfl) ?_
          refine lv_sipush (v := 8183) hx hb dX7_ends_27 (by decide) ?_
          refine lv_iadd hx hb dX7_ends_30 ?_
          obtain ⟨v24, hv, h⟩ := bq_bind h
          refine bq_iald S hK dX7_ends_31 hv hW ?_
          obtain ⟨E25, hv, h⟩ := bq_bind h
          refine bq_iast S hK dX7_ends_32 hv hW (fun H locs hW => ?_)
          obtain ⟨v26, ev26⟩ : ∃ y : Int32, y = z20 + 1 := ⟨_, rfl⟩
          replace h := bq_letE ev26 h
          refine lv_iinc (v := v26) (lv' := [(2, .int v26), (0, .ref a0), (1, .int x1)]) hx hb dX7_ends_33 hl (k := 2) rfl (by rw [ev26]; rfl) (by decide) rfl (fun ls hl => ?_)
          refine lv_goto (tgt := 10) hx hb dX7_ends_36 (by decide) ?_
          exact ih v26 E25 _ _ _ h hW (lv_sub hl [1, 2, 0] rfl)
    refine hL10 _ (fun y16 E17 H locs ls h hW hl => ?_) bq_fuel (0 : Int32) E _ _ _ h hW (lv_sub hl [1, 2, 0] rfl)
    refine lv_aload_n hx hb dX7_ends_39 rfl (lv_at hl 0 rfl) ?_
    refine lv_dup hx hb dX7_ends_40 rfl ?_
    obtain ⟨v18, hv, h⟩ := bq_bind h
    refine bq_geti S hK fl_X7_35 dX7_ends_41 hv hW ?_
    refine lv_iconst (v := 1) hx hb dX7_ends_44 (by decide) ?_
    refine lv_isub hx hb dX7_ends_45 ?_
    obtain ⟨E19, hv, h⟩ := bq_bind h
    refine bq_puti S hK fp_X7_35 dX7_ends_46 hv hW (fun H locs hW => ?_)
    exact hjk49 E19 _ _ _ h hW (lv_sub hl [0, 1] rfl)

theorem kc_X7_of {E : bq_E} {a0 : Nat} {x1 : Int32} {x2 : Int32} {R : Int32} (h : tw_X7_of E a0 x1 x2 = some R) : bq_cls E a0 = 7 := (bq_guard h).1
set_option maxHeartbeats 4000000 in
set_option maxRecDepth 100000 in
theorem c_X7_of {l : Launch} {g : bq_G} {L : List Nat} {z : Nat} {E : bq_E} {a0 : Nat} {x1 : Int32} {x2 : Int32} {R : Int32} (h : tw_X7_of E a0 x1 x2 = some R) : bq_M l yX7_of cX7_of 3 (some .int) 0 0 [.ref a0, .int x1, .int x2] g L E z (some (.int R)) E := by
  unfold tw_X7_of at h
  obtain ⟨hcl, h⟩ := bq_guard h
  refine bq_enter (by decide) (Nat.le_of_ble_eq_true rfl) ?_
  intro p e s m args below meth c S hr hlocks hK hz hW ls hl
  have S : CallFix p m c cX7_of 3 s args bq_WA RX7 := S
  have hx := S.1
  have hb := S.2.1
  have hl : lv_has ls 3 [(0, .ref a0), (1, .int x1), (2, .int x2)] := hl
  refine lv_aload_n hx hb dX7_of_0 rfl (lv_at hl 0 rfl) ?_
  obtain ⟨v1, hv, h⟩ := bq_bind h
  refine bq_getr S hK fl_X7_7 dX7_of_1 hv hW ?_
  refine lv_bipush (v := 8) hx hb dX7_of_4 (by decide) ?_
  refine lv_sipush (v := 545) hx hb dX7_of_6 (by decide) ?_
  refine lv_iload_n hx hb dX7_of_9 rfl (lv_at hl 1 rfl) ?_
  refine lv_imul hx hb dX7_of_10 ?_
  refine lv_iadd hx hb dX7_of_11 ?_
  refine lv_iload_n hx hb dX7_of_12 rfl (lv_at hl 2 rfl) ?_
  refine lv_iadd hx hb dX7_of_13 ?_
  obtain ⟨v2, hv, h⟩ := bq_bind h
  refine bq_iald S hK dX7_of_14 hv hW ?_
  cases h
  exact bq_reti S hr hlocks hK hz dX7_of_15 hW

theorem kc_X7_puts {E : bq_E} {a0 : Nat} {x1 : Int32} {x2 : Int32} {x3 : Int32} {R : bq_E} (h : tw_X7_puts E a0 x1 x2 x3 = some R) : bq_cls E a0 = 7 := (bq_guard h).1
set_option maxHeartbeats 4000000 in
set_option maxRecDepth 100000 in
theorem c_X7_puts {l : Launch} {g : bq_G} {L : List Nat} {z : Nat} {E : bq_E} {a0 : Nat} {x1 : Int32} {x2 : Int32} {x3 : Int32} {R : bq_E} (h : tw_X7_puts E a0 x1 x2 x3 = some R) : bq_M l yX7_puts cX7_puts 4 none 0 0 [.ref a0, .int x1, .int x2, .int x3] g L E z none R := by
  unfold tw_X7_puts at h
  obtain ⟨hcl, h⟩ := bq_guard h
  refine bq_enter (by decide) (Nat.le_of_ble_eq_true rfl) ?_
  intro p e s m args below meth c S hr hlocks hK hz hW ls hl
  have S : CallFix p m c cX7_puts 4 s args bq_WA RX7 := S
  have hx := S.1
  have hb := S.2.1
  have hl : lv_has ls 4 [(0, .ref a0), (1, .int x1), (2, .int x2), (3, .int x3)] := hl
  refine lv_aload_n hx hb dX7_puts_0 rfl (lv_at hl 0 rfl) ?_
  obtain ⟨v1, hv, h⟩ := bq_bind h
  refine bq_getr S hK fl_X7_7 dX7_puts_1 hv hW ?_
  refine lv_bipush (v := 8) hx hb dX7_puts_4 (by decide) ?_
  refine lv_sipush (v := 545) hx hb dX7_puts_6 (by decide) ?_
  refine lv_iload_n hx hb dX7_puts_9 rfl (lv_at hl 1 rfl) ?_
  refine lv_imul hx hb dX7_puts_10 ?_
  refine lv_iadd hx hb dX7_puts_11 ?_
  refine lv_iload_n hx hb dX7_puts_12 rfl (lv_at hl 2 rfl) ?_
  refine lv_iadd hx hb dX7_puts_13 ?_
  refine lv_iload_n hx hb dX7_puts_14 rfl (lv_at hl 3 rfl) ?_
  obtain ⟨E2, hv, h⟩ := bq_bind h
  refine bq_iast S hK dX7_puts_15 hv hW (fun H locs hW => ?_)
  cases h
  exact bq_retv S hr hlocks hK hz dX7_puts_16 hW

theorem kc_X7_isNode {E : bq_E} {a0 : Nat} {x1 : Int32} {R : Bool} (h : tw_X7_isNode E a0 x1 = some R) : bq_cls E a0 = 7 := (bq_guard h).1
set_option maxHeartbeats 4000000 in
set_option maxRecDepth 100000 in
theorem c_X7_isNode {l : Launch} {g : bq_G} {L : List Nat} {z : Nat} {E : bq_E} {a0 : Nat} {x1 : Int32} {R : Bool} (h : tw_X7_isNode E a0 x1 = some R) : bq_M l yX7_isNode cX7_isNode 2 (some .boolean) 1 22 [.ref a0, .int x1] g L E z (some (.int (bq_b R))) E := by
  unfold tw_X7_isNode at h
  obtain ⟨hcl, h⟩ := bq_guard h
  refine bq_enter (by decide) (Nat.le_of_ble_eq_true rfl) ?_
  intro p e s m args below meth c S hr hlocks hK hz hW ls hl
  have S : CallFix p m c cX7_isNode 2 s args bq_WA RX7 := S
  have hx := S.1
  have hb := S.2.1
  have hl : lv_has ls 2 [(0, .ref a0), (1, .int x1)] := hl
  refine lv_iload_n hx hb dX7_isNode_0 rfl (lv_at hl 1 rfl) ?_
  refine lv_iconst (v := 0) hx hb dX7_isNode_1 (by decide) ?_
  refine lv_aload_n hx hb dX7_isNode_2 rfl (lv_at hl 0 rfl) ?_
  obtain ⟨v1, hv, h⟩ := bq_bind h
  refine bq_getr S hK fl_X7_7 dX7_isNode_3 hv hW ?_
  refine lv_iconst (v := 0) hx hb dX7_isNode_6 (by decide) ?_
  obtain ⟨v2, hv, h⟩ := bq_bind h
  refine bq_iald S hK dX7_isNode_7 hv hW ?_
  refine lv_iconst (v := 1) hx hb dX7_isNode_8 (by decide) ?_
  refine lv_isub hx hb dX7_isNode_9 ?_
  obtain ⟨v3, hv, h⟩ := bq_bind h
  refine bq_callS S hK hz ms_X7_42 (c_X7_in hv) dX7_isNode_10 [.int (bq_b v3)] (rest := []) rfl rfl rfl hl.1 (Nat.le_of_ble_eq_true rfl) ⟨Nat.le_of_ble_eq_true rfl, Nat.le_of_ble_eq_true rfl⟩ ⟨Nat.zero_le _, Nat.zero_le _⟩ hW (fun H locs hW => ?_)
  cases h
  exact bq_retz S hr hlocks hK hz dX7_isNode_13 _ rfl hW

set_option maxHeartbeats 4000000 in
set_option maxRecDepth 100000 in
theorem c_X7_isKey {l : Launch} {g : bq_G} {L : List Nat} {z : Nat} {E : bq_E} {x0 : Int32} {R : Bool} (h : tw_X7_isKey E x0 = some R) : bq_M l yX7_isKey cX7_isKey 1 (some .boolean) 1 22 [.int x0] g L E z (some (.int (bq_b R))) E := by
  unfold tw_X7_isKey at h
  refine bq_enter (by decide) (Nat.le_of_ble_eq_true rfl) ?_
  intro p e s m args below meth c S hr hlocks hK hz hW ls hl
  have S : CallFix p m c cX7_isKey 1 s args bq_WA RX7 := S
  have hx := S.1
  have hb := S.2.1
  have hl : lv_has ls 1 [(0, .int x0)] := hl
  refine lv_iload_n hx hb dX7_isKey_0 rfl (lv_at hl 0 rfl) ?_
  refine lv_iconst (v := 0) hx hb dX7_isKey_1 (by decide) ?_
  refine lv_sipush (v := 9999) hx hb dX7_isKey_2 (by decide) ?_
  obtain ⟨v1, hv, h⟩ := bq_bind h
  refine bq_callS S hK hz ms_X7_42 (c_X7_in hv) dX7_isKey_5 [.int (bq_b v1)] (rest := []) rfl rfl rfl hl.1 (Nat.le_of_ble_eq_true rfl) ⟨Nat.le_of_ble_eq_true rfl, Nat.le_of_ble_eq_true rfl⟩ ⟨Nat.zero_le _, Nat.zero_le _⟩ hW (fun H locs hW => ?_)
  cases h
  exact bq_retz S hr hlocks hK hz dX7_isKey_8 _ rfl hW

set_option maxHeartbeats 4000000 in
set_option maxRecDepth 100000 in
theorem c_X7_isSought {l : Launch} {g : bq_G} {L : List Nat} {z : Nat} {E : bq_E} {x0 : Int32} {R : Bool} (h : tw_X7_isSought E x0 = some R) : bq_M l yX7_isSought cX7_isSought 1 (some .boolean) 1 22 [.int x0] g L E z (some (.int (bq_b R))) E := by
  unfold tw_X7_isSought at h
  refine bq_enter (by decide) (Nat.le_of_ble_eq_true rfl) ?_
  intro p e s m args below meth c S hr hlocks hK hz hW ls hl
  have S : CallFix p m c cX7_isSought 1 s args bq_WA RX7 := S
  have hx := S.1
  have hb := S.2.1
  have hl : lv_has ls 1 [(0, .int x0)] := hl
  refine lv_iload_n hx hb dX7_isSought_0 rfl (lv_at hl 0 rfl) ?_
  refine lv_iconst (v := 0) hx hb dX7_isSought_1 (by decide) ?_
  refine lv_sipush (v := 10000) hx hb dX7_isSought_2 (by decide) ?_
  obtain ⟨v1, hv, h⟩ := bq_bind h
  refine bq_callS S hK hz ms_X7_42 (c_X7_in hv) dX7_isSought_5 [.int (bq_b v1)] (rest := []) rfl rfl rfl hl.1 (Nat.le_of_ble_eq_true rfl) ⟨Nat.le_of_ble_eq_true rfl, Nat.le_of_ble_eq_true rfl⟩ ⟨Nat.zero_le _, Nat.zero_le _⟩ hW (fun H locs hW => ?_)
  cases h
  exact bq_retz S hr hlocks hK hz dX7_isSought_8 _ rfl hW

theorem kc_X7_marked {E : bq_E} {a0 : Nat} {x1 : Int32} {R : Int32} (h : tw_X7_marked E a0 x1 = some R) : bq_cls E a0 = 7 := (bq_guard h).1
set_option maxHeartbeats 4000000 in
set_option maxRecDepth 100000 in
theorem c_X7_marked {l : Launch} {g : bq_G} {L : List Nat} {z : Nat} {E : bq_E} {a0 : Nat} {x1 : Int32} {R : Int32} (h : tw_X7_marked E a0 x1 = some R) : bq_M l yX7_marked cX7_marked 4 (some .int) 1 22 [.ref a0, .int x1] g L E z (some (.int R)) E := by
  unfold tw_X7_marked at h
  obtain ⟨hcl, h⟩ := bq_guard h
  refine bq_enter (by decide) (Nat.le_of_ble_eq_true rfl) ?_
  intro p e s m args below meth c S hr hlocks hK hz hW ls hl
  have S : CallFix p m c cX7_marked 4 s args bq_WA RX7 := S
  have hx := S.1
  have hb := S.2.1
  have hl : lv_has ls 4 [(0, .ref a0), (1, .int x1)] := hl
  refine lv_iconst (v := 0) hx hb dX7_marked_0 (by decide) ?_
  refine lv_istore_n (lv' := [(2, .int (0 : Int32)), (0, .ref a0), (1, .int x1)]) hx hb dX7_marked_1 rfl hl (by decide) rfl (fun ls hl => ?_)
  refine lv_iconst (v := 0) hx hb dX7_marked_2 (by decide) ?_
  refine lv_istore_n (lv' := [(3, .int (0 : Int32)), (2, .int (0 : Int32)), (0, .ref a0), (1, .int x1)]) hx hb dX7_marked_3 rfl hl (by decide) rfl (fun ls hl => ?_)
  have hL4 : ∀ (n : Nat) (z3 : Int32) (z4 : Int32) (H1 : Heap) (locs1 : List Loc) (ls1 : Array Slot), tl_X7_marked_4 E a0 x1 n z3 z4 = some R → bq_H g L E z s.heap H1 locs1 → lv_has ls1 4 [(0, .ref a0), (1, .int x1), (2, .int z3), (3, .int z4)] → W p l e { frames := 1, cells := 0, slots := 0, locals := 22 } s m args below meth c H1 locs1 0 0 (MQ below (bq_Q g L E z (some (.int R))) args s 0 0 (bq_A z)) (F0 m 4 ls1 []) := by
    intro n
    induction n with
    | zero => intro z3 z4 H locs ls h hW hl; cases h
    | succ n ih =>
      intro z3 z4 H locs ls h hW hl
      rw [tl_X7_marked_4.eq_2] at h
      refine lv_iload_n hx hb dX7_marked_4 rfl (lv_at hl 3 rfl) ?_
      refine lv_aload_n hx hb dX7_marked_5 rfl (lv_at hl 0 rfl) ?_
      refine lv_iload_n hx hb dX7_marked_6 rfl (lv_at hl 1 rfl) ?_
      refine lv_iconst (v := 3) hx hb dX7_marked_7 (by decide) ?_
      obtain ⟨v5, hv, h⟩ := bq_bind h
      refine bq_callV S hK hz mv_X7_46 (c_X7_of hv) (kc_X7_of hv) dX7_marked_8 [.int v5, .int z4] (rest := [.int z4]) rfl rfl rfl hl.1 (Nat.le_of_ble_eq_true rfl) ⟨Nat.le_of_ble_eq_true rfl, Nat.le_of_ble_eq_true rfl⟩ ⟨Nat.zero_le _, Nat.zero_le _⟩ hW (fun H locs hW => ?_)
      refine lv_icmp_ge (tgt := 32) hx hb dX7_marked_11 (by decide) (fun hc => ?_) (fun hc => ?_)
      · replace h := bq_ifT hc h
        refine lv_iload_n hx hb dX7_marked_32 rfl (lv_at hl 2 rfl) ?_
        cases h
        exact bq_reti S hr hlocks hK hz dX7_marked_33 hW
      · replace h := bq_ifF hc h
        refine lv_iload_n hx hb dX7_marked_14 rfl (lv_at hl 2 rfl) ?_
        refine lv_aload_n hx hb dX7_marked_15 rfl (lv_at hl 0 rfl) ?_
        refine lv_iload_n hx hb dX7_marked_16 rfl (lv_at hl 1 rfl) ?_
        refine lv_bipush (v := 28) hx hb dX7_marked_17 (by decide) ?_
        refine lv_iload_n hx hb dX7_marked_19 rfl (lv_at hl 3 rfl) ?_
        refine lv_iadd hx hb dX7_marked_20 ?_
        obtain ⟨v6, hv, h⟩ := bq_bind h
        refine bq_callV S hK hz mv_X7_46 (c_X7_of hv) (kc_X7_of hv) dX7_marked_21 [.int v6, .int z3] (rest := [.int z3]) rfl rfl rfl hl.1 (Nat.le_of_ble_eq_true rfl) ⟨Nat.le_of_ble_eq_true rfl, Nat.le_of_ble_eq_true rfl⟩ ⟨Nat.zero_le _, Nat.zero_le _⟩ hW (fun H locs hW => ?_)
        refine lv_iadd hx hb dX7_marked_24 ?_
        refine lv_topi (fun v7 ev7 => ?_)
        replace h := bq_letE ev7 h
        refine lv_istore_n (lv' := [(2, .int v7), (0, .ref a0), (1, .int x1), (3, .int z4)]) hx hb dX7_marked_25 rfl hl (by decide) rfl (fun ls hl => ?_)
        obtain ⟨v8, ev8⟩ : ∃ y : Int32, y = z4 + 1 := ⟨_, rfl⟩
        replace h := bq_letE ev8 h
        refine lv_iinc (v := v8) (lv' := [(3, .int v8), (2, .int v7), (0, .ref a0), (1, .int x1)]) hx hb dX7_marked_26 hl (k := 3) rfl (by rw [ev8]; rfl) (by decide) rfl (fun ls hl => ?_)
        refine lv_goto (tgt := 4) hx hb dX7_marked_29 (by decide) ?_
        exact ih v7 v8 _ _ _ h hW (lv_sub hl [2, 3, 1, 0] rfl)
  exact hL4 bq_fuel (0 : Int32) (0 : Int32) _ _ _ h hW (lv_sub hl [2, 3, 1, 0] rfl)

theorem kc_X7_keys {E : bq_E} {a0 : Nat} {x1 : Int32} {R : Int32} (h : tw_X7_keys E a0 x1 = some R) : bq_cls E a0 = 7 := (bq_guard h).1
set_option maxHeartbeats 4000000 in
set_option maxRecDepth 100000 in
theorem c_X7_keys {l : Launch} {g : bq_G} {L : List Nat} {z : Nat} {E : bq_E} {a0 : Nat} {x1 : Int32} {R : Int32} (h : tw_X7_keys E a0 x1 = some R) : bq_M l yX7_keys cX7_keys 2 (some .int) 2 45 [.ref a0, .int x1] g L E z (some (.int R)) E := by
  unfold tw_X7_keys at h
  obtain ⟨hcl, h⟩ := bq_guard h
  refine bq_enter (by decide) (Nat.le_of_ble_eq_true rfl) ?_
  intro p e s m args below meth c S hr hlocks hK hz hW ls hl
  have S : CallFix p m c cX7_keys 2 s args bq_WA RX7 := S
  have hx := S.1
  have hb := S.2.1
  have hl : lv_has ls 2 [(0, .ref a0), (1, .int x1)] := hl
  refine lv_aload_n hx hb dX7_keys_0 rfl (lv_at hl 0 rfl) ?_
  refine lv_iload_n hx hb dX7_keys_1 rfl (lv_at hl 1 rfl) ?_
  refine lv_iconst (v := 3) hx hb dX7_keys_2 (by decide) ?_
  obtain ⟨v1, hv, h⟩ := bq_bind h
  refine bq_callV S hK hz mv_X7_46 (c_X7_of hv) (kc_X7_of hv) dX7_keys_3 [.int v1] (rest := []) rfl rfl rfl hl.1 (Nat.le_of_ble_eq_true rfl) ⟨Nat.le_of_ble_eq_true rfl, Nat.le_of_ble_eq_true rfl⟩ ⟨Nat.zero_le _, Nat.zero_le _⟩ hW (fun H locs hW => ?_)
  refine lv_aload_n hx hb dX7_keys_6 rfl (lv_at hl 0 rfl) ?_
  refine lv_iload_n hx hb dX7_keys_7 rfl (lv_at hl 1 rfl) ?_
  obtain ⟨v2, hv, h⟩ := bq_bind h
  refine bq_callV S hK hz mv_X7_50 (c_X7_marked hv) (kc_X7_marked hv) dX7_keys_8 [.int v2, .int v1] (rest := [.int v1]) rfl rfl rfl hl.1 (Nat.le_of_ble_eq_true rfl) ⟨Nat.le_of_ble_eq_true rfl, Nat.le_of_ble_eq_true rfl⟩ ⟨Nat.zero_le _, Nat.zero_le _⟩ hW (fun H locs hW => ?_)
  refine lv_isub hx hb dX7_keys_11 ?_
  refine lv_aload_n hx hb dX7_keys_12 rfl (lv_at hl 0 rfl) ?_
  refine lv_iload_n hx hb dX7_keys_13 rfl (lv_at hl 1 rfl) ?_
  refine lv_bipush (v := 52) hx hb dX7_keys_14 (by decide) ?_
  obtain ⟨v3, hv, h⟩ := bq_bind h
  refine bq_callV S hK hz mv_X7_46 (c_X7_of hv) (kc_X7_of hv) dX7_keys_16 [.int v3, .int (v1 - v2)] (rest := [.int (v1 - v2)]) rfl rfl rfl hl.1 (Nat.le_of_ble_eq_true rfl) ⟨Nat.le_of_ble_eq_true rfl, Nat.le_of_ble_eq_true rfl⟩ ⟨Nat.zero_le _, Nat.zero_le _⟩ hW (fun H locs hW => ?_)
  refine lv_iadd hx hb dX7_keys_19 ?_
  cases h
  exact bq_reti S hr hlocks hK hz dX7_keys_20 hW

theorem kc_X7_inBase {E : bq_E} {a0 : Nat} {x1 : Int32} {x2 : Int32} {R : Int32} (h : tw_X7_inBase E a0 x1 x2 = some R) : bq_cls E a0 = 7 := (bq_guard h).1
set_option maxHeartbeats 4000000 in
set_option maxRecDepth 100000 in
theorem c_X7_inBase {l : Launch} {g : bq_G} {L : List Nat} {z : Nat} {E : bq_E} {a0 : Nat} {x1 : Int32} {x2 : Int32} {R : Int32} (h : tw_X7_inBase E a0 x1 x2 = some R) : bq_M l yX7_inBase cX7_inBase 5 (some .int) 1 22 [.ref a0, .int x1, .int x2] g L E z (some (.int R)) E := by
  unfold tw_X7_inBase at h
  obtain ⟨hcl, h⟩ := bq_guard h
  refine bq_enter (by decide) (Nat.le_of_ble_eq_true rfl) ?_
  intro p e s m args below meth c S hr hlocks hK hz hW ls hl
  have S : CallFix p m c cX7_inBase 5 s args bq_WA RX7 := S
  have hx := S.1
  have hb := S.2.1
  have hl : lv_has ls 5 [(0, .ref a0), (1, .int x1), (2, .int x2)] := hl
  refine lv_iconst (v := (-1)) hx hb dX7_inBase_0 (by decide) ?_
  refine lv_istore_n (lv' := [(3, .int (-1 : Int32)), (0, .ref a0), (1, .int x1), (2, .int x2)]) hx hb dX7_inBase_1 rfl hl (by decide) rfl (fun ls hl => ?_)
  refine lv_iconst (v := 0) hx hb dX7_inBase_2 (by decide) ?_
  refine lv_istore (lv' := [(4, .int (0 : Int32)), (3, .int (-1 : Int32)), (0, .ref a0), (1, .int x1), (2, .int x2)]) hx hb dX7_inBase_3 hl (by decide) rfl (fun ls hl => ?_)
  have hL5 : ∀ (n : Nat) (z3 : Int32) (z4 : Int32) (H1 : Heap) (locs1 : List Loc) (ls1 : Array Slot), tl_X7_inBase_5 E a0 x1 x2 n z3 z4 = some R → bq_H g L E z s.heap H1 locs1 → lv_has ls1 5 [(0, .ref a0), (1, .int x1), (2, .int x2), (3, .int z3), (4, .int z4)] → W p l e { frames := 1, cells := 0, slots := 0, locals := 22 } s m args below meth c H1 locs1 0 0 (MQ below (bq_Q g L E z (some (.int R))) args s 0 0 (bq_A z)) (F0 m 5 ls1 []) := by
    intro n
    induction n with
    | zero => intro z3 z4 H locs ls h hW hl; cases h
    | succ n ih =>
      intro z3 z4 H locs ls h hW hl
      rw [tl_X7_inBase_5.eq_2] at h
      refine lv_iload hx hb dX7_inBase_5 (lv_at hl 4 rfl) ?_
      refine lv_aload_n hx hb dX7_inBase_7 rfl (lv_at hl 0 rfl) ?_
      refine lv_iload_n hx hb dX7_inBase_8 rfl (lv_at hl 1 rfl) ?_
      refine lv_iconst (v := 3) hx hb dX7_inBase_9 (by decide) ?_
      obtain ⟨v5, hv, h⟩ := bq_bind h
      refine bq_callV S hK hz mv_X7_46 (c_X7_of hv) (kc_X7_of hv) dX7_inBase_10 [.int v5, .int z4] (rest := [.int z4]) rfl rfl rfl hl.1 (Nat.le_of_ble_eq_true rfl) ⟨Nat.le_of_ble_eq_true rfl, Nat.le_of_ble_eq_true rfl⟩ ⟨Nat.zero_le _, Nat.zero_le _⟩ hW (fun H locs hW => ?_)
      refine lv_icmp_ge (tgt := 42) hx hb dX7_inBase_13 (by decide) (fun hc => ?_) (fun hc => ?_)
      · replace h := bq_ifT hc h
        refine lv_iload_n hx hb dX7_inBase_42 rfl (lv_at hl 3 rfl) ?_
        cases h
        exact bq_reti S hr hlocks hK hz dX7_inBase_43 hW
      · replace h := bq_ifF hc h
        refine lv_aload_n hx hb dX7_inBase_16 rfl (lv_at hl 0 rfl) ?_
        refine lv_iload_n hx hb dX7_inBase_17 rfl (lv_at hl 1 rfl) ?_
        refine lv_iconst (v := 4) hx hb dX7_inBase_18 (by decide) ?_
        refine lv_iload hx hb dX7_inBase_19 (lv_at hl 4 rfl) ?_
        refine lv_iadd hx hb dX7_inBase_21 ?_
        obtain ⟨v6, hv, h⟩ := bq_bind h
        refine bq_callV S hK hz mv_X7_46 (c_X7_of hv) (kc_X7_of hv) dX7_inBase_22 [.int v6] (rest := []) rfl rfl rfl hl.1 (Nat.le_of_ble_eq_true rfl) ⟨Nat.le_of_ble_eq_true rfl, Nat.le_of_ble_eq_true rfl⟩ ⟨Nat.zero_le _, Nat.zero_le _⟩ hW (fun H locs hW => ?_)
        refine lv_iload_n hx hb dX7_inBase_25 rfl (lv_at hl 2 rfl) ?_
        refine lv_icmp_ne (tgt := 34) hx hb dX7_inBase_26 (by decide) (fun hc => ?_) (fun hc => ?_)
        · replace h := bq_ifF hc h
          refine lv_iload_n hx hb dX7_inBase_34 rfl (lv_at hl 3 rfl) ?_
          refine lv_istore_n (lv' := [(3, .int z3), (0, .ref a0), (1, .int x1), (2, .int x2), (4, .int z4)]) hx hb dX7_inBase_35 rfl hl (by decide) rfl (fun ls hl => ?_)
          obtain ⟨v7, ev7⟩ : ∃ y : Int32, y = z4 + 1 := ⟨_, rfl⟩
          replace h := bq_letE ev7 h
          refine lv_iinc (v := v7) (lv' := [(4, .int v7), (3, .int z3), (0, .ref a0), (1, .int x1), (2, .int x2)]) hx hb dX7_inBase_36 hl (k := 4) rfl (by rw [ev7]; rfl) (by decide) rfl (fun ls hl => ?_)
          refine lv_goto (tgt := 5) hx hb dX7_inBase_39 (by decide) ?_
          exact ih z3 v7 _ _ _ h hW (lv_sub hl [2, 3, 4, 1, 0] rfl)
        · replace h := bq_ifT hc h
          refine lv_iload hx hb dX7_inBase_29 (lv_at hl 4 rfl) ?_
          refine lv_goto (tgt := 35) hx hb dX7_inBase_31 (by decide) ?_
          refine lv_istore_n (lv' := [(3, .int z4), (0, .ref a0), (1, .int x1), (2, .int x2), (4, .int z4)]) hx hb dX7_inBase_35 rfl hl (by decide) rfl (fun ls hl => ?_)
          obtain ⟨v8, ev8⟩ : ∃ y : Int32, y = z4 + 1 := ⟨_, rfl⟩
          replace h := bq_letE ev8 h
          refine lv_iinc (v := v8) (lv' := [(4, .int v8), (3, .int z4), (0, .ref a0), (1, .int x1), (2, .int x2)]) hx hb dX7_inBase_36 hl (k := 4) rfl (by rw [ev8]; rfl) (by decide) rfl (fun ls hl => ?_)
          refine lv_goto (tgt := 5) hx hb dX7_inBase_39 (by decide) ?_
          exact ih z4 v8 _ _ _ h hW (lv_sub hl [2, 3, 4, 1, 0] rfl)
  exact hL5 bq_fuel (-1 : Int32) (0 : Int32) _ _ _ h hW (lv_sub hl [2, 3, 4, 1, 0] rfl)

theorem kc_X7_inBuffer {E : bq_E} {a0 : Nat} {x1 : Int32} {x2 : Int32} {R : Int32} (h : tw_X7_inBuffer E a0 x1 x2 = some R) : bq_cls E a0 = 7 := (bq_guard h).1
set_option maxHeartbeats 4000000 in
set_option maxRecDepth 100000 in
theorem c_X7_inBuffer {l : Launch} {g : bq_G} {L : List Nat} {z : Nat} {E : bq_E} {a0 : Nat} {x1 : Int32} {x2 : Int32} {R : Int32} (h : tw_X7_inBuffer E a0 x1 x2 = some R) : bq_M l yX7_inBuffer cX7_inBuffer 5 (some .int) 1 22 [.ref a0, .int x1, .int x2] g L E z (some (.int R)) E := by
  unfold tw_X7_inBuffer at h
  obtain ⟨hcl, h⟩ := bq_guard h
  refine bq_enter (by decide) (Nat.le_of_ble_eq_true rfl) ?_
  intro p e s m args below meth c S hr hlocks hK hz hW ls hl
  have S : CallFix p m c cX7_inBuffer 5 s args bq_WA RX7 := S
  have hx := S.1
  have hb := S.2.1
  have hl : lv_has ls 5 [(0, .ref a0), (1, .int x1), (2, .int x2)] := hl
  refine lv_iconst (v := (-1)) hx hb dX7_inBuffer_0 (by decide) ?_
  refine lv_istore_n (lv' := [(3, .int (-1 : Int32)), (0, .ref a0), (1, .int x1), (2, .int x2)]) hx hb dX7_inBuffer_1 rfl hl (by decide) rfl (fun ls hl => ?_)
  refine lv_iconst (v := 0) hx hb dX7_inBuffer_2 (by decide) ?_
  refine lv_istore (lv' := [(4, .int (0 : Int32)), (3, .int (-1 : Int32)), (0, .ref a0), (1, .int x1), (2, .int x2)]) hx hb dX7_inBuffer_3 hl (by decide) rfl (fun ls hl => ?_)
  have hL5 : ∀ (n : Nat) (z3 : Int32) (z4 : Int32) (H1 : Heap) (locs1 : List Loc) (ls1 : Array Slot), tl_X7_inBuffer_5 E a0 x1 x2 n z3 z4 = some R → bq_H g L E z s.heap H1 locs1 → lv_has ls1 5 [(0, .ref a0), (1, .int x1), (2, .int x2), (3, .int z3), (4, .int z4)] → W p l e { frames := 1, cells := 0, slots := 0, locals := 22 } s m args below meth c H1 locs1 0 0 (MQ below (bq_Q g L E z (some (.int R))) args s 0 0 (bq_A z)) (F0 m 5 ls1 []) := by
    intro n
    induction n with
    | zero => intro z3 z4 H locs ls h hW hl; cases h
    | succ n ih =>
      intro z3 z4 H locs ls h hW hl
      rw [tl_X7_inBuffer_5.eq_2] at h
      refine lv_iload hx hb dX7_inBuffer_5 (lv_at hl 4 rfl) ?_
      refine lv_aload_n hx hb dX7_inBuffer_7 rfl (lv_at hl 0 rfl) ?_
      refine lv_iload_n hx hb dX7_inBuffer_8 rfl (lv_at hl 1 rfl) ?_
      refine lv_bipush (v := 52) hx hb dX7_inBuffer_9 (by decide) ?_
      obtain ⟨v5, hv, h⟩ := bq_bind h
      refine bq_callV S hK hz mv_X7_46 (c_X7_of hv) (kc_X7_of hv) dX7_inBuffer_11 [.int v5, .int z4] (rest := [.int z4]) rfl rfl rfl hl.1 (Nat.le_of_ble_eq_true rfl) ⟨Nat.le_of_ble_eq_true rfl, Nat.le_of_ble_eq_true rfl⟩ ⟨Nat.zero_le _, Nat.zero_le _⟩ hW (fun H locs hW => ?_)
      refine lv_icmp_ge (tgt := 44) hx hb dX7_inBuffer_14 (by decide) (fun hc => ?_) (fun hc => ?_)
      · replace h := bq_ifT hc h
        refine lv_iload_n hx hb dX7_inBuffer_44 rfl (lv_at hl 3 rfl) ?_
        cases h
        exact bq_reti S hr hlocks hK hz dX7_inBuffer_45 hW
      · replace h := bq_ifF hc h
        refine lv_aload_n hx hb dX7_inBuffer_17 rfl (lv_at hl 0 rfl) ?_
        refine lv_iload_n hx hb dX7_inBuffer_18 rfl (lv_at hl 1 rfl) ?_
        refine lv_bipush (v := 53) hx hb dX7_inBuffer_19 (by decide) ?_
        refine lv_iload hx hb dX7_inBuffer_21 (lv_at hl 4 rfl) ?_
        refine lv_iadd hx hb dX7_inBuffer_23 ?_
        obtain ⟨v6, hv, h⟩ := bq_bind h
        refine bq_callV S hK hz mv_X7_46 (c_X7_of hv) (kc_X7_of hv) dX7_inBuffer_24 [.int v6] (rest := []) rfl rfl rfl hl.1 (Nat.le_of_ble_eq_true rfl) ⟨Nat.le_of_ble_eq_true rfl, Nat.le_of_ble_eq_true rfl⟩ ⟨Nat.zero_le _, Nat.zero_le _⟩ hW (fun H locs hW => ?_)
        refine lv_iload_n hx hb dX7_inBuffer_27 rfl (lv_at hl 2 rfl) ?_
        refine lv_icmp_ne (tgt := 36) hx hb dX7_inBuffer_28 (by decide) (fun hc => ?_) (fun hc => ?_)
        · replace h := bq_ifF hc h
          refine lv_iload_n hx hb dX7_inBuffer_36 rfl (lv_at hl 3 rfl) ?_
          refine lv_istore_n (lv' := [(3, .int z3), (0, .ref a0), (1, .int x1), (2, .int x2), (4, .int z4)]) hx hb dX7_inBuffer_37 rfl hl (by decide) rfl (fun ls hl => ?_)
          obtain ⟨v7, ev7⟩ : ∃ y : Int32, y = z4 + 1 := ⟨_, rfl⟩
          replace h := bq_letE ev7 h
          refine lv_iinc (v := v7) (lv' := [(4, .int v7), (3, .int z3), (0, .ref a0), (1, .int x1), (2, .int x2)]) hx hb dX7_inBuffer_38 hl (k := 4) rfl (by rw [ev7]; rfl) (by decide) rfl (fun ls hl => ?_)
          refine lv_goto (tgt := 5) hx hb dX7_inBuffer_41 (by decide) ?_
          exact ih z3 v7 _ _ _ h hW (lv_sub hl [2, 3, 4, 1, 0] rfl)
        · replace h := bq_ifT hc h
          refine lv_iload hx hb dX7_inBuffer_31 (lv_at hl 4 rfl) ?_
          refine lv_goto (tgt := 37) hx hb dX7_inBuffer_33 (by decide) ?_
          refine lv_istore_n (lv' := [(3, .int z4), (0, .ref a0), (1, .int x1), (2, .int x2), (4, .int z4)]) hx hb dX7_inBuffer_37 rfl hl (by decide) rfl (fun ls hl => ?_)
          obtain ⟨v8, ev8⟩ : ∃ y : Int32, y = z4 + 1 := ⟨_, rfl⟩
          replace h := bq_letE ev8 h
          refine lv_iinc (v := v8) (lv' := [(4, .int v8), (3, .int z4), (0, .ref a0), (1, .int x1), (2, .int x2)]) hx hb dX7_inBuffer_38 hl (k := 4) rfl (by rw [ev8]; rfl) (by decide) rfl (fun ls hl => ?_)
          refine lv_goto (tgt := 5) hx hb dX7_inBuffer_41 (by decide) ?_
          exact ih z4 v8 _ _ _ h hW (lv_sub hl [2, 3, 4, 1, 0] rfl)
  exact hL5 bq_fuel (-1 : Int32) (0 : Int32) _ _ _ h hW (lv_sub hl [2, 3, 4, 1, 0] rfl)

theorem kc_X7_has {E : bq_E} {a0 : Nat} {x1 : Int32} {x2 : Int32} {R : Bool} (h : tw_X7_has E a0 x1 x2 = some R) : bq_cls E a0 = 7 := (bq_guard h).1
set_option maxHeartbeats 4000000 in
set_option maxRecDepth 100000 in
theorem c_X7_has {l : Launch} {g : bq_G} {L : List Nat} {z : Nat} {E : bq_E} {a0 : Nat} {x1 : Int32} {x2 : Int32} {R : Bool} (h : tw_X7_has E a0 x1 x2 = some R) : bq_M l yX7_has cX7_has 4 (some .boolean) 2 46 [.ref a0, .int x1, .int x2] g L E z (some (.int (bq_b R))) E := by
  unfold tw_X7_has at h
  obtain ⟨hcl, h⟩ := bq_guard h
  refine bq_enter (by decide) (Nat.le_of_ble_eq_true rfl) ?_
  intro p e s m args below meth c S hr hlocks hK hz hW ls hl
  have S : CallFix p m c cX7_has 4 s args bq_WA RX7 := S
  have hx := S.1
  have hb := S.2.1
  have hl : lv_has ls 4 [(0, .ref a0), (1, .int x1), (2, .int x2)] := hl
  refine lv_aload_n hx hb dX7_has_0 rfl (lv_at hl 0 rfl) ?_
  refine lv_iload_n hx hb dX7_has_1 rfl (lv_at hl 1 rfl) ?_
  refine lv_iload_n hx hb dX7_has_2 rfl (lv_at hl 2 rfl) ?_
  obtain ⟨v1, hv, h⟩ := bq_bind h
  refine bq_callV S hK hz mv_X7_53 (c_X7_inBase hv) (kc_X7_inBase hv) dX7_has_3 [.int v1] (rest := []) rfl rfl rfl hl.1 (Nat.le_of_ble_eq_true rfl) ⟨Nat.le_of_ble_eq_true rfl, Nat.le_of_ble_eq_true rfl⟩ ⟨Nat.zero_le _, Nat.zero_le _⟩ hW (fun H locs hW => ?_)
  refine lv_istore_n (lv' := [(3, .int v1), (0, .ref a0), (1, .int x1), (2, .int x2)]) hx hb dX7_has_6 rfl hl (by decide) rfl (fun ls hl => ?_)
  refine lv_iload_n hx hb dX7_has_7 rfl (lv_at hl 0 rfl) ?_
  refine lv_iconst (v := (-1)) hx hb dX7_has_8 (by decide) ?_
  obtain ⟨k24, ek24, h⟩ := bq_letK h
  have hjk24 : ∀ (u0 : Unit) (H1 : Heap) (locs1 : List Loc) (ls1 : Array Slot), k24 u0 = some R → bq_H g L E z s.heap H1 locs1 → lv_has ls1 4 [(0, .ref a0), (1, .int x1), (2, .int x2)] → W p l e { frames := 2, cells := 0, slots := 0, locals := 46 } s m args below meth c H1 locs1 0 0 (MQ below (bq_Q g L E z (some (.int (bq_b R)))) args s 0 0 (bq_A z)) (F0 m 24 ls1 []) := by
    intro u0 H locs ls h hW hl
    replace h := bq_kap1 ek24 h
    refine lv_aload_n hx hb dX7_has_24 rfl (lv_at hl 0 rfl) ?_
    refine lv_iload_n hx hb dX7_has_25 rfl (lv_at hl 1 rfl) ?_
    refine lv_iload_n hx hb dX7_has_26 rfl (lv_at hl 2 rfl) ?_
    obtain ⟨v2, hv, h⟩ := bq_bind h
    refine bq_callV S hK hz mv_X7_56 (c_X7_inBuffer hv) (kc_X7_inBuffer hv) dX7_has_27 [.int v2] (rest := []) rfl rfl rfl hl.1 (Nat.le_of_ble_eq_true rfl) ⟨Nat.le_of_ble_eq_true rfl, Nat.le_of_ble_eq_true rfl⟩ ⟨Nat.zero_le _, Nat.zero_le _⟩ hW (fun H locs hW => ?_)
    refine lv_iconst (v := (-1)) hx hb dX7_has_30 (by decide) ?_
    refine lv_icmp_eq (tgt := 38) hx hb dX7_has_31 (by decide) (fun hc => ?_) (fun hc => ?_)
    · replace h := bq_ifT hc h
      refine lv_iconst (v := 0) hx hb dX7_has_38 (by decide) ?_
      cases h
      exact bq_retz S hr hlocks hK hz dX7_has_39 _ rfl hW
    · replace h := bq_ifF hc h
      refine lv_iconst (v := 1) hx hb dX7_has_34 (by decide) ?_
      refine lv_goto (tgt := 39) hx hb dX7_has_35 (by decide) ?_
      cases h
      exact bq_retz S hr hlocks hK hz dX7_has_39 _ rfl hW
  clear ek24
  refine lv_icmp_eq (tgt := 24) hx hb dX7_has_9 (by decide) (fun hc => ?_) (fun hc => ?_)
  · replace h := bq_ifT hc h
    exact hjk24 () _ _ _ h hW (lv_sub hl [1, 2, 3] rfl)
  · replace h := bq_ifF hc h
    refine lv_aload_n hx hb dX7_has_12 rfl (lv_at hl 1 rfl) ?_
    refine lv_iload_n hx hb dX7_has_13 rfl (lv_at hl 2 rfl) ?_
    refine lv_bipush (v := 28) hx hb dX7_has_14 (by decide) ?_
    refine lv_iload_n hx hb dX7_has_16 rfl (lv_at hl 0 rfl) ?_
    refine lv_iadd hx hb dX7_has_17 ?_
    obtain ⟨v3, hv, h⟩ := bq_bind h
    refine bq_callV S hK hz mv_X7_46 (c_X7_of hv) (kc_X7_of hv) dX7_has_18 [.int v3] (rest := []) rfl rfl rfl hl.1 (Nat.le_of_ble_eq_true rfl) ⟨Nat.le_of_ble_eq_true rfl, Nat.le_of_ble_eq_true rfl⟩ ⟨Nat.zero_le _, Nat.zero_le _⟩ hW (fun H locs hW => ?_)
    refine lv_if_eq (tgt := 34) hx hb dX7_has_21 (by decide) (fun hc => ?_) (fun hc => ?_)
    · replace h := bq_ifT hc h
      refine lv_iconst (v := 1) hx hb dX7_has_34 (by decide) ?_
      refine lv_goto (tgt := 39) hx hb dX7_has_35 (by decide) ?_
      cases h
      exact bq_retz S hr hlocks hK hz dX7_has_39 _ rfl hW
    · replace h := bq_ifF hc h
      exact hjk24 () _ _ _ h hW (lv_sub hl [1, 2, 3] rfl)

theorem kc_X7_next {E : bq_E} {a0 : Nat} {x1 : Int32} {x2 : Int32} {R : Int32} (h : tw_X7_next E a0 x1 x2 = some R) : bq_cls E a0 = 7 := (bq_guard h).1
set_option maxHeartbeats 4000000 in
set_option maxRecDepth 100000 in
theorem c_X7_next {l : Launch} {g : bq_G} {L : List Nat} {z : Nat} {E : bq_E} {a0 : Nat} {x1 : Int32} {x2 : Int32} {R : Int32} (h : tw_X7_next E a0 x1 x2 = some R) : bq_M l yX7_next cX7_next 6 (some .int) 1 22 [.ref a0, .int x1, .int x2] g L E z (some (.int R)) E := by
  unfold tw_X7_next at h
  obtain ⟨hcl, h⟩ := bq_guard h
  refine bq_enter (by decide) (Nat.le_of_ble_eq_true rfl) ?_
  intro p e s m args below meth c S hr hlocks hK hz hW ls hl
  have S : CallFix p m c cX7_next 6 s args bq_WA RX7 := S
  have hx := S.1
  have hb := S.2.1
  have hl : lv_has ls 6 [(0, .ref a0), (1, .int x1), (2, .int x2)] := hl
  refine lv_iconst (v := (-1)) hx hb dX7_next_0 (by decide) ?_
  refine lv_istore_n (lv' := [(3, .int (-1 : Int32)), (0, .ref a0), (1, .int x1), (2, .int x2)]) hx hb dX7_next_1 rfl hl (by decide) rfl (fun ls hl => ?_)
  refine lv_iconst (v := 0) hx hb dX7_next_2 (by decide) ?_
  refine lv_istore (lv' := [(4, .int (0 : Int32)), (3, .int (-1 : Int32)), (0, .ref a0), (1, .int x1), (2, .int x2)]) hx hb dX7_next_3 hl (by decide) rfl (fun ls hl => ?_)
  have hL5 : ∀ (K : Int32 → Int32 → Option Int32) (hX : ∀ (u23 : Int32) (u24 : Int32) (H1 : Heap) (locs1 : List Loc) (ls1 : Array Slot), K u23 u24 = some R → bq_H g L E z s.heap H1 locs1 → lv_has ls1 6 [(0, .ref a0), (1, .int x1), (2, .int x2), (3, .int u23)] → W p l e { frames := 1, cells := 0, slots := 0, locals := 22 } s m args below meth c H1 locs1 0 0 (MQ below (bq_Q g L E z (some (.int R))) args s 0 0 (bq_A z)) (F0 m 70 ls1 [])), ∀ (n : Nat) (z13 : Int32) (z14 : Int32) (H1 : Heap) (locs1 : List Loc) (ls1 : Array Slot), tl_X7_next_5 E a0 x1 x2 K n z13 z14 = some R → bq_H g L E z s.heap H1 locs1 → lv_has ls1 6 [(0, .ref a0), (1, .int x1), (2, .int x2), (3, .int z13), (4, .int z14)] → W p l e { frames := 1, cells := 0, slots := 0, locals := 22 } s m args below meth c H1 locs1 0 0 (MQ below (bq_Q g L E z (some (.int R))) args s 0 0 (bq_A z)) (F0 m 5 ls1 []) := by
    intro K hX n
    induction n with
    | zero => intro z13 z14 H locs ls h hW hl; cases h
    | succ n ih =>
      intro z13 z14 H locs ls h hW hl
      rw [tl_X7_next_5.eq_2] at h
      refine lv_iload hx hb dX7_next_5 (lv_at hl 4 rfl) ?_
      refine lv_aload_n hx hb dX7_next_7 rfl (lv_at hl 0 rfl) ?_
      refine lv_iload_n hx hb dX7_next_8 rfl (lv_at hl 1 rfl) ?_
      refine lv_iconst (v := 3) hx hb dX7_next_9 (by decide) ?_
      obtain ⟨v15, hv, h⟩ := bq_bind h
      refine bq_callV S hK hz mv_X7_46 (c_X7_of hv) (kc_X7_of hv) dX7_next_10 [.int v15, .int z14] (rest := [.int z14]) rfl rfl rfl hl.1 (Nat.le_of_ble_eq_true rfl) ⟨Nat.le_of_ble_eq_true rfl, Nat.le_of_ble_eq_true rfl⟩ ⟨Nat.zero_le _, Nat.zero_le _⟩ hW (fun H locs hW => ?_)
      refine lv_icmp_ge (tgt := 70) hx hb dX7_next_13 (by decide) (fun hc => ?_) (fun hc => ?_)
      · replace h := bq_ifT hc h
        exact hX z13 z14 _ _ _ h hW (lv_sub hl [0, 1, 2, 3] rfl)
      · replace h := bq_ifF hc h
        refine lv_aload_n hx hb dX7_next_16 rfl (lv_at hl 0 rfl) ?_
        refine lv_iload_n hx hb dX7_next_17 rfl (lv_at hl 1 rfl) ?_
        refine lv_iconst (v := 4) hx hb dX7_next_18 (by decide) ?_
        refine lv_iload hx hb dX7_next_19 (lv_at hl 4 rfl) ?_
        refine lv_iadd hx hb dX7_next_21 ?_
        obtain ⟨v16, hv, h⟩ := bq_bind h
        refine bq_callV S hK hz mv_X7_46 (c_X7_of hv) (kc_X7_of hv) dX7_next_22 [.int v16] (rest := []) rfl rfl rfl hl.1 (Nat.le_of_ble_eq_true rfl) ⟨Nat.le_of_ble_eq_true rfl, Nat.le_of_ble_eq_true rfl⟩ ⟨Nat.zero_le _, Nat.zero_le _⟩ hW (fun H locs hW => ?_)
        refine lv_istore (lv' := [(5, .int v16), (0, .ref a0), (1, .int x1), (2, .int x2), (3, .int z13), (4, .int z14)]) hx hb dX7_next_25 hl (by decide) rfl (fun ls hl => ?_)
        refine lv_aload_n hx hb dX7_next_27 rfl (lv_at hl 1 rfl) ?_
        refine lv_iload_n hx hb dX7_next_28 rfl (lv_at hl 2 rfl) ?_
        refine lv_bipush (v := 28) hx hb dX7_next_29 (by decide) ?_
        refine lv_iload hx hb dX7_next_31 (lv_at hl 5 rfl) ?_
        refine lv_iadd hx hb dX7_next_33 ?_
        obtain ⟨v17, hv, h⟩ := bq_bind h
        refine bq_callV S hK hz mv_X7_46 (c_X7_of hv) (kc_X7_of hv) dX7_next_34 [.int v17] (rest := []) rfl rfl rfl hl.1 (Nat.le_of_ble_eq_true rfl) ⟨Nat.le_of_ble_eq_true rfl, Nat.le_of_ble_eq_true rfl⟩ ⟨Nat.zero_le _, Nat.zero_le _⟩ hW (fun H locs hW => ?_)
        refine lv_if_ne (tgt := 62) hx hb dX7_next_37 (by decide) (fun hc => ?_) (fun hc => ?_)
        · replace h := bq_ifF hc h
          refine lv_iload_n hx hb dX7_next_62 rfl (lv_at hl 4 rfl) ?_
          refine lv_istore_n (lv' := [(3, .int z13), (5, .int v16), (0, .ref a0), (1, .int x1), (2, .int x2), (4, .int z14)]) hx hb dX7_next_63 rfl hl (by decide) rfl (fun ls hl => ?_)
          obtain ⟨v18, ev18⟩ : ∃ y : Int32, y = z14 + 1 := ⟨_, rfl⟩
          replace h := bq_letE ev18 h
          refine lv_iinc (v := v18) (lv' := [(4, .int v18), (3, .int z13), (5, .int v16), (0, .ref a0), (1, .int x1), (2, .int x2)]) hx hb dX7_next_64 hl (k := 5) rfl (by rw [ev18]; rfl) (by decide) rfl (fun ls hl => ?_)
          refine lv_goto (tgt := 5) hx hb dX7_next_67 (by decide) ?_
          exact ih z13 v18 _ _ _ h hW (lv_sub hl [3, 4, 5, 1, 0] rfl)
        · replace h := bq_ifT hc h
          refine lv_iload hx hb dX7_next_40 (lv_at hl 0 rfl) ?_
          refine lv_iload_n hx hb dX7_next_42 rfl (lv_at hl 3 rfl) ?_
          refine lv_icmp_lt (tgt := 62) hx hb dX7_next_43 (by decide) (fun hc => ?_) (fun hc => ?_)
          · replace h := bq_ifT hc h
            refine lv_iload_n hx hb dX7_next_62 rfl (lv_at hl 4 rfl) ?_
            refine lv_istore_n (lv' := [(3, .int z13), (5, .int v16), (0, .ref a0), (1, .int x1), (2, .int x2), (4, .int z14)]) hx hb dX7_next_63 rfl hl (by decide) rfl (fun ls hl => ?_)
            obtain ⟨v19, ev19⟩ : ∃ y : Int32, y = z14 + 1 := ⟨_, rfl⟩
            replace h := bq_letE ev19 h
            refine lv_iinc (v := v19) (lv' := [(4, .int v19), (3, .int z13), (5, .int v16), (0, .ref a0), (1, .int x1), (2, .int x2)]) hx hb dX7_next_64 hl (k := 5) rfl (by rw [ev19]; rfl) (by decide) rfl (fun ls hl => ?_)
            refine lv_goto (tgt := 5) hx hb dX7_next_67 (by decide) ?_
            exact ih z13 v19 _ _ _ h hW (lv_sub hl [3, 4, 5, 1, 0] rfl)
          · replace h := bq_ifF hc h
            refine lv_iload_n hx hb dX7_next_46 rfl (lv_at hl 4 rfl) ?_
            refine lv_iconst (v := (-1)) hx hb dX7_next_47 (by decide) ?_
            refine lv_icmp_eq (tgt := 57) hx hb dX7_next_48 (by decide) (fun hc => ?_) (fun hc => ?_)
            · replace h := bq_ifT hc h
              refine lv_iload hx hb dX7_next_57 (lv_at hl 0 rfl) ?_
              refine lv_goto (tgt := 63) hx hb dX7_next_59 (by decide) ?_
              refine lv_istore_n (lv' := [(3, .int v16), (5, .int v16), (0, .ref a0), (1, .int x1), (2, .int x2), (4, .int z14)]) hx hb dX7_next_63 rfl hl (by decide) rfl (fun ls hl => ?_)
              obtain ⟨v20, ev20⟩ : ∃ y : Int32, y = z14 + 1 := ⟨_, rfl⟩
              replace h := bq_letE ev20 h
              refine lv_iinc (v := v20) (lv' := [(4, .int v20), (3, .int v16), (5, .int v16), (0, .ref a0), (1, .int x1), (2, .int x2)]) hx hb dX7_next_64 hl (k := 5) rfl (by rw [ev20]; rfl) (by decide) rfl (fun ls hl => ?_)
              refine lv_goto (tgt := 5) hx hb dX7_next_67 (by decide) ?_
              exact ih v16 v20 _ _ _ h hW (lv_sub hl [3, 4, 5, 1, 0] rfl)
            · replace h := bq_ifF hc h
              refine lv_iload hx hb dX7_next_51 (lv_at hl 0 rfl) ?_
              refine lv_iload_n hx hb dX7_next_53 rfl (lv_at hl 4 rfl) ?_
              refine lv_icmp_ge (tgt := 62) hx hb dX7_next_54 (by decide) (fun hc => ?_) (fun hc => ?_)
              · replace h := bq_ifT hc h
                refine lv_iload_n hx hb dX7_next_62 rfl (lv_at hl 4 rfl) ?_
                refine lv_istore_n (lv' := [(3, .int z13), (5, .int v16), (0, .ref a0), (1, .int x1), (2, .int x2), (4, .int z14)]) hx hb dX7_next_63 rfl hl (by decide) rfl (fun ls hl => ?_)
                obtain ⟨v21, ev21⟩ : ∃ y : Int32, y = z14 + 1 := ⟨_, rfl⟩
                replace h := bq_letE ev21 h
                refine lv_iinc (v := v21) (lv' := [(4, .int v21), (3, .int z13), (5, .int v16), (0, .ref a0), (1, .int x1), (2, .int x2)]) hx hb dX7_next_64 hl (k := 5) rfl (by rw [ev21]; rfl) (by decide) rfl (fun ls hl => ?_)
                refine lv_goto (tgt := 5) hx hb dX7_next_67 (by decide) ?_
                exact ih z13 v21 _ _ _ h hW (lv_sub hl [3, 4, 5, 1, 0] rfl)
              · replace h := bq_ifF hc h
                refine lv_iload hx hb dX7_next_57 (lv_at hl 0 rfl) ?_
                refine lv_goto (tgt := 63) hx hb dX7_next_59 (by decide) ?_
                refine lv_istore_n (lv' := [(3, .int v16), (5, .int v16), (0, .ref a0), (1, .int x1), (2, .int x2), (4, .int z14)]) hx hb dX7_next_63 rfl hl (by decide) rfl (fun ls hl => ?_)
                obtain ⟨v22, ev22⟩ : ∃ y : Int32, y = z14 + 1 := ⟨_, rfl⟩
                replace h := bq_letE ev22 h
                refine lv_iinc (v := v22) (lv' := [(4, .int v22), (3, .int v16), (5, .int v16), (0, .ref a0), (1, .int x1), (2, .int x2)]) hx hb dX7_next_64 hl (k := 5) rfl (by rw [ev22]; rfl) (by decide) rfl (fun ls hl => ?_)
                refine lv_goto (tgt := 5) hx hb dX7_next_67 (by decide) ?_
                exact ih v16 v22 _ _ _ h hW (lv_sub hl [3, 4, 5, 1, 0] rfl)
  refine hL5 _ (fun y1 y2 H locs ls h hW hl => ?_) bq_fuel (-1 : Int32) (0 : Int32) _ _ _ h hW (lv_sub hl [2, 3, 4, 1, 0] rfl)
  refine lv_iconst (v := 0) hx hb dX7_next_70 (by decide) ?_
  refine lv_istore (lv' := [(4, .int (0 : Int32)), (0, .ref a0), (1, .int x1), (2, .int x2), (3, .int y1)]) hx hb dX7_next_71 hl (by decide) rfl (fun ls hl => ?_)
  have hL73 : ∀ (n : Nat) (z5 : Int32) (z6 : Int32) (H1 : Heap) (locs1 : List Loc) (ls1 : Array Slot), tl_X7_next_73 E a0 x1 x2 n z5 z6 = some R → bq_H g L E z s.heap H1 locs1 → lv_has ls1 6 [(0, .ref a0), (1, .int x1), (2, .int x2), (3, .int z5), (4, .int z6)] → W p l e { frames := 1, cells := 0, slots := 0, locals := 22 } s m args below meth c H1 locs1 0 0 (MQ below (bq_Q g L E z (some (.int R))) args s 0 0 (bq_A z)) (F0 m 73 ls1 []) := by
    intro n
    induction n with
    | zero => intro z5 z6 H locs ls h hW hl; cases h
    | succ n ih =>
      intro z5 z6 H locs ls h hW hl
      rw [tl_X7_next_73.eq_2] at h
      refine lv_iload hx hb dX7_next_73 (lv_at hl 4 rfl) ?_
      refine lv_aload_n hx hb dX7_next_75 rfl (lv_at hl 0 rfl) ?_
      refine lv_iload_n hx hb dX7_next_76 rfl (lv_at hl 1 rfl) ?_
      refine lv_bipush (v := 52) hx hb dX7_next_77 (by decide) ?_
      obtain ⟨v7, hv, h⟩ := bq_bind h
      refine bq_callV S hK hz mv_X7_46 (c_X7_of hv) (kc_X7_of hv) dX7_next_79 [.int v7, .int z6] (rest := [.int z6]) rfl rfl rfl hl.1 (Nat.le_of_ble_eq_true rfl) ⟨Nat.le_of_ble_eq_true rfl, Nat.le_of_ble_eq_true rfl⟩ ⟨Nat.zero_le _, Nat.zero_le _⟩ hW (fun H locs hW => ?_)
      refine lv_icmp_ge (tgt := 127) hx hb dX7_next_82 (by decide) (fun hc => ?_) (fun hc => ?_)
      · replace h := bq_ifT hc h
        refine lv_iload_n hx hb dX7_next_127 rfl (lv_at hl 3 rfl) ?_
        cases h
        exact bq_reti S hr hlocks hK hz dX7_next_128 hW
      · replace h := bq_ifF hc h
        refine lv_aload_n hx hb dX7_next_85 rfl (lv_at hl 0 rfl) ?_
        refine lv_iload_n hx hb dX7_next_86 rfl (lv_at hl 1 rfl) ?_
        refine lv_bipush (v := 53) hx hb dX7_next_87 (by decide) ?_
        refine lv_iload hx hb dX7_next_89 (lv_at hl 4 rfl) ?_
        refine lv_iadd hx hb dX7_next_91 ?_
        obtain ⟨v8, hv, h⟩ := bq_bind h
        refine bq_callV S hK hz mv_X7_46 (c_X7_of hv) (kc_X7_of hv) dX7_next_92 [.int v8] (rest := []) rfl rfl rfl hl.1 (Nat.le_of_ble_eq_true rfl) ⟨Nat.le_of_ble_eq_true rfl, Nat.le_of_ble_eq_true rfl⟩ ⟨Nat.zero_le _, Nat.zero_le _⟩ hW (fun H locs hW => ?_)
        refine lv_istore (lv' := [(5, .int v8), (0, .ref a0), (1, .int x1), (2, .int x2), (3, .int z5), (4, .int z6)]) hx hb dX7_next_95 hl (by decide) rfl (fun ls hl => ?_)
        refine lv_iload hx hb dX7_next_97 (lv_at hl 0 rfl) ?_
        refine lv_iload_n hx hb dX7_next_99 rfl (lv_at hl 3 rfl) ?_
        refine lv_icmp_lt (tgt := 119) hx hb dX7_next_100 (by decide) (fun hc => ?_) (fun hc => ?_)
        · replace h := bq_ifT hc h
          refine lv_iload_n hx hb dX7_next_119 rfl (lv_at hl 4 rfl) ?_
          refine lv_istore_n (lv' := [(3, .int z5), (5, .int v8), (0, .ref a0), (1, .int x1), (2, .int x2), (4, .int z6)]) hx hb dX7_next_120 rfl hl (by decide) rfl (fun ls hl => ?_)
          obtain ⟨v9, ev9⟩ : ∃ y : Int32, y = z6 + 1 := ⟨_, rfl⟩
          replace h := bq_letE ev9 h
          refine lv_iinc (v := v9) (lv' := [(4, .int v9), (3, .int z5), (5, .int v8), (0, .ref a0), (1, .int x1), (2, .int x2)]) hx hb dX7_next_121 hl (k := 5) rfl (by rw [ev9]; rfl) (by decide) rfl (fun ls hl => ?_)
          refine lv_goto (tgt := 73) hx hb dX7_next_124 (by decide) ?_
          exact ih z5 v9 _ _ _ h hW (lv_sub hl [3, 4, 5, 1, 0] rfl)
        · replace h := bq_ifF hc h
          refine lv_iload_n hx hb dX7_next_103 rfl (lv_at hl 4 rfl) ?_
          refine lv_iconst (v := (-1)) hx hb dX7_next_104 (by decide) ?_
          refine lv_icmp_eq (tgt := 114) hx hb dX7_next_105 (by decide) (fun hc => ?_) (fun hc => ?_)
          · replace h := bq_ifT hc h
            refine lv_iload hx hb dX7_next_114 (lv_at hl 0 rfl) ?_
            refine lv_goto (tgt := 120) hx hb dX7_next_116 (by decide) ?_
            refine lv_istore_n (lv' := [(3, .int v8), (5, .int v8), (0, .ref a0), (1, .int x1), (2, .int x2), (4, .int z6)]) hx hb dX7_next_120 rfl hl (by decide) rfl (fun ls hl => ?_)
            obtain ⟨v10, ev10⟩ : ∃ y : Int32, y = z6 + 1 := ⟨_, rfl⟩
            replace h := bq_letE ev10 h
            refine lv_iinc (v := v10) (lv' := [(4, .int v10), (3, .int v8), (5, .int v8), (0, .ref a0), (1, .int x1), (2, .int x2)]) hx hb dX7_next_121 hl (k := 5) rfl (by rw [ev10]; rfl) (by decide) rfl (fun ls hl => ?_)
            refine lv_goto (tgt := 73) hx hb dX7_next_124 (by decide) ?_
            exact ih v8 v10 _ _ _ h hW (lv_sub hl [3, 4, 5, 1, 0] rfl)
          · replace h := bq_ifF hc h
            refine lv_iload hx hb dX7_next_108 (lv_at hl 0 rfl) ?_
            refine lv_iload_n hx hb dX7_next_110 rfl (lv_at hl 4 rfl) ?_
            refine lv_icmp_ge (tgt := 119) hx hb dX7_next_111 (by decide) (fun hc => ?_) (fun hc => ?_)
            · replace h := bq_ifT hc h
              refine lv_iload_n hx hb dX7_next_119 rfl (lv_at hl 4 rfl) ?_
              refine lv_istore_n (lv' := [(3, .int z5), (5, .int v8), (0, .ref a0), (1, .int x1), (2, .int x2), (4, .int z6)]) hx hb dX7_next_120 rfl hl (by decide) rfl (fun ls hl => ?_)
              obtain ⟨v11, ev11⟩ : ∃ y : Int32, y = z6 + 1 := ⟨_, rfl⟩
              replace h := bq_letE ev11 h
              refine lv_iinc (v := v11) (lv' := [(4, .int v11), (3, .int z5), (5, .int v8), (0, .ref a0), (1, .int x1), (2, .int x2)]) hx hb dX7_next_121 hl (k := 5) rfl (by rw [ev11]; rfl) (by decide) rfl (fun ls hl => ?_)
              refine lv_goto (tgt := 73) hx hb dX7_next_124 (by decide) ?_
              exact ih z5 v11 _ _ _ h hW (lv_sub hl [3, 4, 5, 1, 0] rfl)
            · replace h := bq_ifF hc h
              refine lv_iload hx hb dX7_next_114 (lv_at hl 0 rfl) ?_
              refine lv_goto (tgt := 120) hx hb dX7_next_116 (by decide) ?_
              refine lv_istore_n (lv' := [(3, .int v8), (5, .int v8), (0, .ref a0), (1, .int x1), (2, .int x2), (4, .int z6)]) hx hb dX7_next_120 rfl hl (by decide) rfl (fun ls hl => ?_)
              obtain ⟨v12, ev12⟩ : ∃ y : Int32, y = z6 + 1 := ⟨_, rfl⟩
              replace h := bq_letE ev12 h
              refine lv_iinc (v := v12) (lv' := [(4, .int v12), (3, .int v8), (5, .int v8), (0, .ref a0), (1, .int x1), (2, .int x2)]) hx hb dX7_next_121 hl (k := 5) rfl (by rw [ev12]; rfl) (by decide) rfl (fun ls hl => ?_)
              refine lv_goto (tgt := 73) hx hb dX7_next_124 (by decide) ?_
              exact ih v8 v12 _ _ _ h hW (lv_sub hl [3, 4, 5, 1, 0] rfl)
  exact hL73 bq_fuel y1 (0 : Int32) _ _ _ h hW (lv_sub hl [1, 2, 3, 4, 0] rfl)

theorem kc_X7_enters {E : bq_E} {a0 : Nat} {x1 : Int32} {x2 : Int32} {x3 : Int32} {R : bq_E} (h : tw_X7_enters E a0 x1 x2 x3 = some R) : bq_cls E a0 = 7 := (bq_guard h).1
set_option maxHeartbeats 4000000 in
set_option maxRecDepth 100000 in
theorem c_X7_enters {l : Launch} {g : bq_G} {L : List Nat} {z : Nat} {E : bq_E} {a0 : Nat} {x1 : Int32} {x2 : Int32} {x3 : Int32} {R : bq_E} (h : tw_X7_enters E a0 x1 x2 x3 = some R) : bq_M l yX7_enters cX7_enters 5 none 1 23 [.ref a0, .int x1, .int x2, .int x3] g L E z none R := by
  unfold tw_X7_enters at h
  obtain ⟨hcl, h⟩ := bq_guard h
  refine bq_enter (by decide) (Nat.le_of_ble_eq_true rfl) ?_
  intro p e s m args below meth c S hr hlocks hK hz hW ls hl
  have S : CallFix p m c cX7_enters 5 s args bq_WA RX7 := S
  have hx := S.1
  have hb := S.2.1
  have hl : lv_has ls 5 [(0, .ref a0), (1, .int x1), (2, .int x2), (3, .int x3)] := hl
  refine lv_aload_n hx hb dX7_enters_0 rfl (lv_at hl 0 rfl) ?_
  refine lv_iload_n hx hb dX7_enters_1 rfl (lv_at hl 1 rfl) ?_
  refine lv_bipush (v := 61) hx hb dX7_enters_2 (by decide) ?_
  obtain ⟨v1, hv, h⟩ := bq_bind h
  refine bq_callV S hK hz mv_X7_46 (c_X7_of hv) (kc_X7_of hv) dX7_enters_4 [.int v1] (rest := []) rfl rfl rfl hl.1 (Nat.le_of_ble_eq_true rfl) ⟨Nat.le_of_ble_eq_true rfl, Nat.le_of_ble_eq_true rfl⟩ ⟨Nat.zero_le _, Nat.zero_le _⟩ hW (fun H locs hW => ?_)
  refine lv_istore (lv' := [(4, .int v1), (0, .ref a0), (1, .int x1), (2, .int x2), (3, .int x3)]) hx hb dX7_enters_7 hl (by decide) rfl (fun ls hl => ?_)
  have hL9 : ∀ (n : Nat) (z4 : Int32) (E5 : bq_E) (H1 : Heap) (locs1 : List Loc) (ls1 : Array Slot), tl_X7_enters_9 a0 x1 x2 x3 n z4 E5 = some R → bq_H g L E5 z s.heap H1 locs1 → lv_has ls1 5 [(0, .ref a0), (1, .int x1), (2, .int x2), (3, .int x3), (4, .int z4)] → W p l e { frames := 1, cells := 0, slots := 0, locals := 23 } s m args below meth c H1 locs1 0 0 (MQ below (bq_Q g L R z none) args s 0 0 (bq_A z)) (F0 m 9 ls1 []) := by
    intro n
    induction n with
    | zero => intro z4 E5 H locs ls h hW hl; cases h
    | succ n ih =>
      intro z4 E5 H locs ls h hW hl
      rw [tl_X7_enters_9.eq_2] at h
      refine lv_iload hx hb dX7_enters_9 (lv_at hl 4 rfl) ?_
      refine lv_if_le (tgt := 115) hx hb dX7_enters_11 (by decide) (fun hc => ?_) (fun hc => ?_)
      · replace h := bq_ifT hc h
        refine lv_aload_n hx hb dX7_enters_115 rfl (lv_at hl 0 rfl) ?_
        refine lv_iload_n hx hb dX7_enters_116 rfl (lv_at hl 1 rfl) ?_
        refine lv_bipush (v := 62) hx hb dX7_enters_117 (by decide) ?_
        refine lv_iload hx hb dX7_enters_119 (lv_at hl 4 rfl) ?_
        refine lv_iadd hx hb dX7_enters_121 ?_
        refine lv_iload_n hx hb dX7_enters_122 rfl (lv_at hl 2 rfl) ?_
        obtain ⟨E6, hv, h⟩ := bq_bind h
        refine bq_callV S hK hz mv_X7_59 (c_X7_puts hv) (kc_X7_puts hv) dX7_enters_123 [] (rest := []) rfl rfl rfl hl.1 (Nat.le_of_ble_eq_true rfl) ⟨Nat.le_of_ble_eq_true rfl, Nat.le_of_ble_eq_true rfl⟩ ⟨Nat.zero_le _, Nat.zero_le _⟩ hW (fun H locs hW => ?_)
        refine lv_aload_n hx hb dX7_enters_126 rfl (lv_at hl 0 rfl) ?_
        refine lv_iload_n hx hb dX7_enters_127 rfl (lv_at hl 1 rfl) ?_
        refine lv_sipush (v := 158) hx hb dX7_enters_128 (by decide) ?_
        refine lv_iload hx hb dX7_enters_131 (lv_at hl 4 rfl) ?_
        refine lv_iadd hx hb dX7_enters_133 ?_
        refine lv_iload_n hx hb dX7_enters_134 rfl (lv_at hl 3 rfl) ?_
        obtain ⟨E7, hv, h⟩ := bq_bind h
        refine bq_callV S hK hz mv_X7_59 (c_X7_puts hv) (kc_X7_puts hv) dX7_enters_135 [] (rest := []) rfl rfl rfl hl.1 (Nat.le_of_ble_eq_true rfl) ⟨Nat.le_of_ble_eq_true rfl, Nat.le_of_ble_eq_true rfl⟩ ⟨Nat.zero_le _, Nat.zero_le _⟩ hW (fun H locs hW => ?_)
        refine lv_aload_n hx hb dX7_enters_138 rfl (lv_at hl 0 rfl) ?_
        refine lv_iload_n hx hb dX7_enters_139 rfl (lv_at hl 1 rfl) ?_
        refine lv_bipush (v := 61) hx hb dX7_enters_140 (by decide) ?_
        refine lv_aload_n hx hb dX7_enters_142 rfl (lv_at hl 0 rfl) ?_
        refine lv_iload_n hx hb dX7_enters_143 rfl (lv_at hl 1 rfl) ?_
        refine lv_bipush (v := 61) hx hb dX7_enters_144 (by decide) ?_
        obtain ⟨v8, hv, h⟩ := bq_bind h
        refine bq_callV S hK hz mv_X7_46 (c_X7_of hv) (kc_X7_of hv) dX7_enters_146 [.int v8, .int (61 : Int32), .int x1, .ref a0] (rest := [.int (61 : Int32), .int x1, .ref a0]) rfl rfl rfl hl.1 (Nat.le_of_ble_eq_true rfl) ⟨Nat.le_of_ble_eq_true rfl, Nat.le_of_ble_eq_true rfl⟩ ⟨Nat.zero_le _, Nat.zero_le _⟩ hW (fun H locs hW => ?_)
        refine lv_iconst (v := 1) hx hb dX7_enters_149 (by decide) ?_
        refine lv_iadd hx hb dX7_enters_150 ?_
        obtain ⟨E9, hv, h⟩ := bq_bind h
        refine bq_callV S hK hz mv_X7_59 (c_X7_puts hv) (kc_X7_puts hv) dX7_enters_151 [] (rest := []) rfl rfl rfl hl.1 (Nat.le_of_ble_eq_true rfl) ⟨Nat.le_of_ble_eq_true rfl, Nat.le_of_ble_eq_true rfl⟩ ⟨Nat.zero_le _, Nat.zero_le _⟩ hW (fun H locs hW => ?_)
        cases h
        exact bq_retv S hr hlocks hK hz dX7_enters_154 hW
      · replace h := bq_ifF hc h
        refine lv_aload_n hx hb dX7_enters_14 rfl (lv_at hl 0 rfl) ?_
        refine lv_iload_n hx hb dX7_enters_15 rfl (lv_at hl 1 rfl) ?_
        refine lv_bipush (v := 62) hx hb dX7_enters_16 (by decide) ?_
        refine lv_iload hx hb dX7_enters_18 (lv_at hl 4 rfl) ?_
        refine lv_iadd hx hb dX7_enters_20 ?_
        refine lv_iconst (v := 1) hx hb dX7_enters_21 (by decide) ?_
        refine lv_isub hx hb dX7_enters_22 ?_
        obtain ⟨v10, hv, h⟩ := bq_bind h
        refine bq_callV S hK hz mv_X7_46 (c_X7_of hv) (kc_X7_of hv) dX7_enters_23 [.int v10] (rest := []) rfl rfl rfl hl.1 (Nat.le_of_ble_eq_true rfl) ⟨Nat.le_of_ble_eq_true rfl, Nat.le_of_ble_eq_true rfl⟩ ⟨Nat.zero_le _, Nat.zero_le _⟩ hW (fun H locs hW => ?_)
        refine lv_iload_n hx hb dX7_enters_26 rfl (lv_at hl 2 rfl) ?_
        obtain ⟨k63, ek63, h⟩ := bq_letK h
        have hjk63 : ∀ (u0 : Unit) (H1 : Heap) (locs1 : List Loc) (ls1 : Array Slot), k63 u0 = some R → bq_H g L E5 z s.heap H1 locs1 → lv_has ls1 5 [(0, .ref a0), (1, .int x1), (2, .int x2), (3, .int x3), (4, .int z4)] → W p l e { frames := 1, cells := 0, slots := 0, locals := 23 } s m args below meth c H1 locs1 0 0 (MQ below (bq_Q g L R z none) args s 0 0 (bq_A z)) (F0 m 63 ls1 []) := by
          intro u0 H locs ls h hW hl
          replace h := bq_kap1 ek63 h
          refine lv_aload_n hx hb dX7_enters_63 rfl (lv_at hl 0 rfl) ?_
          refine lv_iload_n hx hb dX7_enters_64 rfl (lv_at hl 1 rfl) ?_
          refine lv_bipush (v := 62) hx hb dX7_enters_65 (by decide) ?_
          refine lv_iload hx hb dX7_enters_67 (lv_at hl 4 rfl) ?_
          refine lv_iadd hx hb dX7_enters_69 ?_
          refine lv_aload_n hx hb dX7_enters_70 rfl (lv_at hl 0 rfl) ?_
          refine lv_iload_n hx hb dX7_enters_71 rfl (lv_at hl 1 rfl) ?_
          refine lv_bipush (v := 62) hx hb dX7_enters_72 (by decide) ?_
          refine lv_iload hx hb dX7_enters_74 (lv_at hl 4 rfl) ?_
          refine lv_iadd hx hb dX7_enters_76 ?_
          refine lv_iconst (v := 1) hx hb dX7_enters_77 (by decide) ?_
          refine lv_isub hx hb dX7_enters_78 ?_
          obtain ⟨v11, hv, h⟩ := bq_bind h
          refine bq_callV S hK hz mv_X7_46 (c_X7_of hv) (kc_X7_of hv) dX7_enters_79 [.int v11, .int ((62 : Int32) + z4), .int x1, .ref a0] (rest := [.int ((62 : Int32) + z4), .int x1, .ref a0]) rfl rfl rfl hl.1 (Nat.le_of_ble_eq_true rfl) ⟨Nat.le_of_ble_eq_true rfl, Nat.le_of_ble_eq_true rfl⟩ ⟨Nat.zero_le _, Nat.zero_le _⟩ hW (fun H locs hW => ?_)
          obtain ⟨E12, hv, h⟩ := bq_bind h
          refine bq_callV S hK hz mv_X7_59 (c_X7_puts hv) (kc_X7_puts hv) dX7_enters_82 [] (rest := []) rfl rfl rfl hl.1 (Nat.le_of_ble_eq_true rfl) ⟨Nat.le_of_ble_eq_true rfl, Nat.le_of_ble_eq_true rfl⟩ ⟨Nat.zero_le _, Nat.zero_le _⟩ hW (fun H locs hW => ?_)
          refine lv_aload_n hx hb dX7_enters_85 rfl (lv_at hl 0 rfl) ?_
          refine lv_iload_n hx hb dX7_enters_86 rfl (lv_at hl 1 rfl) ?_
          refine lv_sipush (v := 158) hx hb dX7_enters_87 (by decide) ?_
          refine lv_iload hx hb dX7_enters_90 (lv_at hl 4 rfl) ?_
          refine lv_iadd hx hb dX7_enters_92 ?_
          refine lv_aload_n hx hb dX7_enters_93 rfl (lv_at hl 0 rfl) ?_
          refine lv_iload_n hx hb dX7_enters_94 rfl (lv_at hl 1 rfl) ?_
          refine lv_sipush (v := 158) hx hb dX7_enters_95 (by decide) ?_
          refine lv_iload hx hb dX7_enters_98 (lv_at hl 4 rfl) ?_
          refine lv_iadd hx hb dX7_enters_100 ?_
          refine lv_iconst (v := 1) hx hb dX7_enters_101 (by decide) ?_
          refine lv_isub hx hb dX7_enters_102 ?_
          obtain ⟨v13, hv, h⟩ := bq_bind h
          refine bq_callV S hK hz mv_X7_46 (c_X7_of hv) (kc_X7_of hv) dX7_enters_103 [.int v13, .int ((158 : Int32) + z4), .int x1, .ref a0] (rest := [.int ((158 : Int32) + z4), .int x1, .ref a0]) rfl rfl rfl hl.1 (Nat.le_of_ble_eq_true rfl) ⟨Nat.le_of_ble_eq_true rfl, Nat.le_of_ble_eq_true rfl⟩ ⟨Nat.zero_le _, Nat.zero_le _⟩ hW (fun H locs hW => ?_)
          obtain ⟨E14, hv, h⟩ := bq_bind h
          refine bq_callV S hK hz mv_X7_59 (c_X7_puts hv) (kc_X7_puts hv) dX7_enters_106 [] (rest := []) rfl rfl rfl hl.1 (Nat.le_of_ble_eq_true rfl) ⟨Nat.le_of_ble_eq_true rfl, Nat.le_of_ble_eq_true rfl⟩ ⟨Nat.zero_le _, Nat.zero_le _⟩ hW (fun H locs hW => ?_)
          obtain ⟨v15, ev15⟩ : ∃ y : Int32, y = z4 + (-1) := ⟨_, rfl⟩
          replace h := bq_letE ev15 h
          refine lv_iinc (v := v15) (lv' := [(4, .int v15), (0, .ref a0), (1, .int x1), (2, .int x2), (3, .int x3)]) hx hb dX7_enters_109 hl (k := 4) rfl (by rw [ev15]; rfl) (by decide) rfl (fun ls hl => ?_)
          refine lv_goto (tgt := 9) hx hb dX7_enters_112 (by decide) ?_
          exact ih v15 E14 _ _ _ h hW (lv_sub hl [1, 2, 3, 4, 0] rfl)
        clear ek63
        refine lv_icmp_gt (tgt := 63) hx hb dX7_enters_27 (by decide) (fun hc => ?_) (fun hc => ?_)
        · replace h := bq_ifT hc h
          exact hjk63 () _ _ _ h hW (lv_sub hl [0, 1, 2, 3, 4] rfl)
        · replace h := bq_ifF hc h
          refine lv_aload_n hx hb dX7_enters_30 rfl (lv_at hl 0 rfl) ?_
          refine lv_iload_n hx hb dX7_enters_31 rfl (lv_at hl 1 rfl) ?_
          refine lv_bipush (v := 62) hx hb dX7_enters_32 (by decide) ?_
          refine lv_iload hx hb dX7_enters_34 (lv_at hl 4 rfl) ?_
          refine lv_iadd hx hb dX7_enters_36 ?_
          refine lv_iconst (v := 1) hx hb dX7_enters_37 (by decide) ?_
          refine lv_isub hx hb dX7_enters_38 ?_
          obtain ⟨v16, hv, h⟩ := bq_bind h
          refine bq_callV S hK hz mv_X7_46 (c_X7_of hv) (kc_X7_of hv) dX7_enters_39 [.int v16] (rest := []) rfl rfl rfl hl.1 (Nat.le_of_ble_eq_true rfl) ⟨Nat.le_of_ble_eq_true rfl, Nat.le_of_ble_eq_true rfl⟩ ⟨Nat.zero_le _, Nat.zero_le _⟩ hW (fun H locs hW => ?_)
          refine lv_iload_n hx hb dX7_enters_42 rfl (lv_at hl 2 rfl) ?_
          refine lv_icmp_ne (tgt := 115) hx hb dX7_enters_43 (by decide) (fun hc => ?_) (fun hc => ?_)
          · replace h := bq_ifF hc h
            refine lv_aload_n hx hb dX7_enters_115 rfl (lv_at hl 0 rfl) ?_
            refine lv_iload_n hx hb dX7_enters_116 rfl (lv_at hl 1 rfl) ?_
            refine lv_bipush (v := 62) hx hb dX7_enters_117 (by decide) ?_
            refine lv_iload hx hb dX7_enters_119 (lv_at hl 4 rfl) ?_
            refine lv_iadd hx hb dX7_enters_121 ?_
            refine lv_iload_n hx hb dX7_enters_122 rfl (lv_at hl 2 rfl) ?_
            obtain ⟨E17, hv, h⟩ := bq_bind h
            refine bq_callV S hK hz mv_X7_59 (c_X7_puts hv) (kc_X7_puts hv) dX7_enters_123 [] (rest := []) rfl rfl rfl hl.1 (Nat.le_of_ble_eq_true rfl) ⟨Nat.le_of_ble_eq_true rfl, Nat.le_of_ble_eq_true rfl⟩ ⟨Nat.zero_le _, Nat.zero_le _⟩ hW (fun H locs hW => ?_)
            refine lv_aload_n hx hb dX7_enters_126 rfl (lv_at hl 0 rfl) ?_
            refine lv_iload_n hx hb dX7_enters_127 rfl (lv_at hl 1 rfl) ?_
            refine lv_sipush (v := 158) hx hb dX7_enters_128 (by decide) ?_
            refine lv_iload hx hb dX7_enters_131 (lv_at hl 4 rfl) ?_
            refine lv_iadd hx hb dX7_enters_133 ?_
            refine lv_iload_n hx hb dX7_enters_134 rfl (lv_at hl 3 rfl) ?_
            obtain ⟨E18, hv, h⟩ := bq_bind h
            refine bq_callV S hK hz mv_X7_59 (c_X7_puts hv) (kc_X7_puts hv) dX7_enters_135 [] (rest := []) rfl rfl rfl hl.1 (Nat.le_of_ble_eq_true rfl) ⟨Nat.le_of_ble_eq_true rfl, Nat.le_of_ble_eq_true rfl⟩ ⟨Nat.zero_le _, Nat.zero_le _⟩ hW (fun H locs hW => ?_)
            refine lv_aload_n hx hb dX7_enters_138 rfl (lv_at hl 0 rfl) ?_
            refine lv_iload_n hx hb dX7_enters_139 rfl (lv_at hl 1 rfl) ?_
            refine lv_bipush (v := 61) hx hb dX7_enters_140 (by decide) ?_
            refine lv_aload_n hx hb dX7_enters_142 rfl (lv_at hl 0 rfl) ?_
            refine lv_iload_n hx hb dX7_enters_143 rfl (lv_at hl 1 rfl) ?_
            refine lv_bipush (v := 61) hx hb dX7_enters_144 (by decide) ?_
            obtain ⟨v19, hv, h⟩ := bq_bind h
            refine bq_callV S hK hz mv_X7_46 (c_X7_of hv) (kc_X7_of hv) dX7_enters_146 [.int v19, .int (61 : Int32), .int x1, .ref a0] (rest := [.int (61 : Int32), .int x1, .ref a0]) rfl rfl rfl hl.1 (Nat.le_of_ble_eq_true rfl) ⟨Nat.le_of_ble_eq_true rfl, Nat.le_of_ble_eq_true rfl⟩ ⟨Nat.zero_le _, Nat.zero_le _⟩ hW (fun H locs hW => ?_)
            refine lv_iconst (v := 1) hx hb dX7_enters_149 (by decide) ?_
            refine lv_iadd hx hb dX7_enters_150 ?_
            obtain ⟨E20, hv, h⟩ := bq_bind h
            refine bq_callV S hK hz mv_X7_59 (c_X7_puts hv) (kc_X7_puts hv) dX7_enters_151 [] (rest := []) rfl rfl rfl hl.1 (Nat.le_of_ble_eq_true rfl) ⟨Nat.le_of_ble_eq_true rfl, Nat.le_of_ble_eq_true rfl⟩ ⟨Nat.zero_le _, Nat.zero_le _⟩ hW (fun H locs hW => ?_)
            cases h
            exact bq_retv S hr hlocks hK hz dX7_enters_154 hW
          · replace h := bq_ifT hc h
            refine lv_aload_n hx hb dX7_enters_46 rfl (lv_at hl 0 rfl) ?_
            refine lv_iload_n hx hb dX7_enters_47 rfl (lv_at hl 1 rfl) ?_
            refine lv_sipush (v := 158) hx hb dX7_enters_48 (by decide) ?_
            refine lv_iload hx hb dX7_enters_51 (lv_at hl 4 rfl) ?_
            refine lv_iadd hx hb dX7_enters_53 ?_
            refine lv_iconst (v := 1) hx hb dX7_enters_54 (by decide) ?_
            refine lv_isub hx hb dX7_enters_55 ?_
            obtain ⟨v21, hv, h⟩ := bq_bind h
            refine bq_callV S hK hz mv_X7_46 (c_X7_of hv) (kc_X7_of hv) dX7_enters_56 [.int v21] (rest := []) rfl rfl rfl hl.1 (Nat.le_of_ble_eq_true rfl) ⟨Nat.le_of_ble_eq_true rfl, Nat.le_of_ble_eq_true rfl⟩ ⟨Nat.zero_le _, Nat.zero_le _⟩ hW (fun H locs hW => ?_)
            refine lv_iload_n hx hb dX7_enters_59 rfl (lv_at hl 3 rfl) ?_
            refine lv_icmp_le (tgt := 115) hx hb dX7_enters_60 (by decide) (fun hc => ?_) (fun hc => ?_)
            · replace h := bq_ifT hc h
              refine lv_aload_n hx hb dX7_enters_115 rfl (lv_at hl 0 rfl) ?_
              refine lv_iload_n hx hb dX7_enters_116 rfl (lv_at hl 1 rfl) ?_
              refine lv_bipush (v := 62) hx hb dX7_enters_117 (by decide) ?_
              refine lv_iload hx hb dX7_enters_119 (lv_at hl 4 rfl) ?_
              refine lv_iadd hx hb dX7_enters_121 ?_
              refine lv_iload_n hx hb dX7_enters_122 rfl (lv_at hl 2 rfl) ?_
              obtain ⟨E22, hv, h⟩ := bq_bind h
              refine bq_callV S hK hz mv_X7_59 (c_X7_puts hv) (kc_X7_puts hv) dX7_enters_123 [] (rest := []) rfl rfl rfl hl.1 (Nat.le_of_ble_eq_true rfl) ⟨Nat.le_of_ble_eq_true rfl, Nat.le_of_ble_eq_true rfl⟩ ⟨Nat.zero_le _, Nat.zero_le _⟩ hW (fun H locs hW => ?_)
              refine lv_aload_n hx hb dX7_enters_126 rfl (lv_at hl 0 rfl) ?_
              refine lv_iload_n hx hb dX7_enters_127 rfl (lv_at hl 1 rfl) ?_
              refine lv_sipush (v := 158) hx hb dX7_enters_128 (by decide) ?_
              refine lv_iload hx hb dX7_enters_131 (lv_at hl 4 rfl) ?_
              refine lv_iadd hx hb dX7_enters_133 ?_
              refine lv_iload_n hx hb dX7_enters_134 rfl (lv_at hl 3 rfl) ?_
              obtain ⟨E23, hv, h⟩ := bq_bind h
              refine bq_callV S hK hz mv_X7_59 (c_X7_puts hv) (kc_X7_puts hv) dX7_enters_135 [] (rest := []) rfl rfl rfl hl.1 (Nat.le_of_ble_eq_true rfl) ⟨Nat.le_of_ble_eq_true rfl, Nat.le_of_ble_eq_true rfl⟩ ⟨Nat.zero_le _, Nat.zero_le _⟩ hW (fun H locs hW => ?_)
              refine lv_aload_n hx hb dX7_enters_138 rfl (lv_at hl 0 rfl) ?_
              refine lv_iload_n hx hb dX7_enters_139 rfl (lv_at hl 1 rfl) ?_
              refine lv_bipush (v := 61) hx hb dX7_enters_140 (by decide) ?_
              refine lv_aload_n hx hb dX7_enters_142 rfl (lv_at hl 0 rfl) ?_
              refine lv_iload_n hx hb dX7_enters_143 rfl (lv_at hl 1 rfl) ?_
              refine lv_bipush (v := 61) hx hb dX7_enters_144 (by decide) ?_
              obtain ⟨v24, hv, h⟩ := bq_bind h
              refine bq_callV S hK hz mv_X7_46 (c_X7_of hv) (kc_X7_of hv) dX7_enters_146 [.int v24, .int (61 : Int32), .int x1, .ref a0] (rest := [.int (61 : Int32), .int x1, .ref a0]) rfl rfl rfl hl.1 (Nat.le_of_ble_eq_true rfl) ⟨Nat.le_of_ble_eq_true rfl, Nat.le_of_ble_eq_true rfl⟩ ⟨Nat.zero_le _, Nat.zero_le _⟩ hW (fun H locs hW => ?_)
              refine lv_iconst (v := 1) hx hb dX7_enters_149 (by decide) ?_
              refine lv_iadd hx hb dX7_enters_150 ?_
              obtain ⟨E25, hv, h⟩ := bq_bind h
              refine bq_callV S hK hz mv_X7_59 (c_X7_puts hv) (kc_X7_puts hv) dX7_enters_151 [] (rest := []) rfl rfl rfl hl.1 (Nat.le_of_ble_eq_true rfl) ⟨Nat.le_of_ble_eq_true rfl, Nat.le_of_ble_eq_true rfl⟩ ⟨Nat.zero_le _, Nat.zero_le _⟩ hW (fun H locs hW => ?_)
              cases h
              exact bq_retv S hr hlocks hK hz dX7_enters_154 hW
            · replace h := bq_ifF hc h
              exact hjk63 () _ _ _ h hW (lv_sub hl [0, 1, 2, 3, 4] rfl)
  exact hL9 bq_fuel v1 E _ _ _ h hW (lv_sub hl [1, 2, 3, 4, 0] rfl)

theorem kc_X7_less {E : bq_E} {a0 : Nat} {x1 : Int32} {x2 : Int32} {x3 : Int32} {R : Int32} (h : tw_X7_less E a0 x1 x2 x3 = some R) : bq_cls E a0 = 7 := (bq_guard h).1
set_option maxHeartbeats 4000000 in
set_option maxRecDepth 100000 in
theorem c_X7_less {l : Launch} {g : bq_G} {L : List Nat} {z : Nat} {E : bq_E} {a0 : Nat} {x1 : Int32} {x2 : Int32} {x3 : Int32} {R : Int32} (h : tw_X7_less E a0 x1 x2 x3 = some R) : bq_M l yX7_less cX7_less 7 (some .int) 1 22 [.ref a0, .int x1, .int x2, .int x3] g L E z (some (.int R)) E := by
  unfold tw_X7_less at h
  obtain ⟨hcl, h⟩ := bq_guard h
  refine bq_enter (by decide) (Nat.le_of_ble_eq_true rfl) ?_
  intro p e s m args below meth c S hr hlocks hK hz hW ls hl
  have S : CallFix p m c cX7_less 7 s args bq_WA RX7 := S
  have hx := S.1
  have hb := S.2.1
  have hl : lv_has ls 7 [(0, .ref a0), (1, .int x1), (2, .int x2), (3, .int x3)] := hl
  refine lv_iconst (v := 0) hx hb dX7_less_0 (by decide) ?_
  refine lv_istore (lv' := [(4, .int (0 : Int32)), (0, .ref a0), (1, .int x1), (2, .int x2), (3, .int x3)]) hx hb dX7_less_1 hl (by decide) rfl (fun ls hl => ?_)
  refine lv_iload_n hx hb dX7_less_3 rfl (lv_at hl 3 rfl) ?_
  obtain ⟨k19, ek19, h⟩ := bq_letK h
  have hjk19 : ∀ (b1 : Int32) (H1 : Heap) (locs1 : List Loc) (ls1 : Array Slot), k19 b1 = some R → bq_H g L E z s.heap H1 locs1 → lv_has ls1 7 [(0, .ref a0), (2, .int x2), (3, .int x3), (4, .int (0 : Int32))] → W p l e { frames := 1, cells := 0, slots := 0, locals := 22 } s m args below meth c H1 locs1 0 0 (MQ below (bq_Q g L E z (some (.int R))) args s 0 0 (bq_A z)) (F0 m 19 ls1 [.int b1]) := by
    intro b1 H locs ls h hW hl
    replace h := bq_kap1 ek19 h
    refine lv_istore (lv' := [(5, .int b1), (0, .ref a0), (2, .int x2), (3, .int x3), (4, .int (0 : Int32))]) hx hb dX7_less_19 hl (by decide) rfl (fun ls hl => ?_)
    refine lv_iconst (v := 0) hx hb dX7_less_21 (by decide) ?_
    refine lv_istore (lv' := [(6, .int (0 : Int32)), (5, .int b1), (0, .ref a0), (2, .int x2), (3, .int x3), (4, .int (0 : Int32))]) hx hb dX7_less_22 hl (by decide) rfl (fun ls hl => ?_)
    have hL24 : ∀ (n : Nat) (z4 : Int32) (z5 : Int32) (H1 : Heap) (locs1 : List Loc) (ls1 : Array Slot), tl_X7_less_24 E a0 x2 x3 b1 n z4 z5 = some R → bq_H g L E z s.heap H1 locs1 → lv_has ls1 7 [(0, .ref a0), (2, .int x2), (3, .int x3), (4, .int z4), (5, .int b1), (6, .int z5)] → W p l e { frames := 1, cells := 0, slots := 0, locals := 22 } s m args below meth c H1 locs1 0 0 (MQ below (bq_Q g L E z (some (.int R))) args s 0 0 (bq_A z)) (F0 m 24 ls1 []) := by
      intro n
      induction n with
      | zero => intro z4 z5 H locs ls h hW hl; cases h
      | succ n ih =>
        intro z4 z5 H locs ls h hW hl
        rw [tl_X7_less_24.eq_2] at h
        refine lv_iload hx hb dX7_less_24 (lv_at hl 4 rfl) ?_
        refine lv_iconst (v := (-1)) hx hb dX7_less_26 (by decide) ?_
        refine lv_icmp_eq (tgt := 90) hx hb dX7_less_27 (by decide) (fun hc => ?_) (fun hc => ?_)
        · replace h := bq_ifT hc h
          refine lv_iload hx hb dX7_less_90 (lv_at hl 3 rfl) ?_
          cases h
          exact bq_reti S hr hlocks hK hz dX7_less_92 hW
        · replace h := bq_ifF hc h
          refine lv_iload hx hb dX7_less_30 (lv_at hl 5 rfl) ?_
          refine lv_aload_n hx hb dX7_less_32 rfl (lv_at hl 0 rfl) ?_
          refine lv_iload hx hb dX7_less_33 (lv_at hl 4 rfl) ?_
          refine lv_iload_n hx hb dX7_less_35 rfl (lv_at hl 1 rfl) ?_
          obtain ⟨k45, ek45, h⟩ := bq_letK h
          have hjk45 : ∀ (b6 : Int32) (H1 : Heap) (locs1 : List Loc) (ls1 : Array Slot), k45 b6 = some R → bq_H g L E z s.heap H1 locs1 → lv_has ls1 7 [(0, .ref a0), (2, .int x2), (3, .int x3), (4, .int z4), (5, .int b1), (6, .int z5)] → W p l e { frames := 1, cells := 0, slots := 0, locals := 22 } s m args below meth c H1 locs1 0 0 (MQ below (bq_Q g L E z (some (.int R))) args s 0 0 (bq_A z)) (F0 m 45 ls1 [.int b6, .int b1, .ref a0, .int z5]) := by
            intro b6 H locs ls h hW hl
            replace h := bq_kap1 ek45 h
            obtain ⟨v7, hv, h⟩ := bq_bind h
            refine bq_callV S hK hz mv_X7_46 (c_X7_of hv) (kc_X7_of hv) dX7_less_45 [.int v7, .int z5] (rest := [.int z5]) rfl rfl rfl hl.1 (Nat.le_of_ble_eq_true rfl) ⟨Nat.le_of_ble_eq_true rfl, Nat.le_of_ble_eq_true rfl⟩ ⟨Nat.zero_le _, Nat.zero_le _⟩ hW (fun H locs hW => ?_)
            refine lv_icmp_ge (tgt := 90) hx hb dX7_less_48 (by decide) (fun hc => ?_) (fun hc => ?_)
            · replace h := bq_ifT hc h
              refine lv_iload hx hb dX7_less_90 (lv_at hl 3 rfl) ?_
              cases h
              exact bq_reti S hr hlocks hK hz dX7_less_92 hW
            · replace h := bq_ifF hc h
              refine lv_iload hx hb dX7_less_51 (lv_at hl 3 rfl) ?_
              refine lv_aload_n hx hb dX7_less_53 rfl (lv_at hl 0 rfl) ?_
              refine lv_iload hx hb dX7_less_54 (lv_at hl 4 rfl) ?_
              refine lv_iload_n hx hb dX7_less_56 rfl (lv_at hl 1 rfl) ?_
              obtain ⟨k66, ek66, h⟩ := bq_letK h
              have hjk66 : ∀ (b8 : Int32) (H1 : Heap) (locs1 : List Loc) (ls1 : Array Slot), k66 b8 = some R → bq_H g L E z s.heap H1 locs1 → lv_has ls1 7 [(0, .ref a0), (2, .int x2), (3, .int x3), (5, .int b1), (6, .int z5)] → W p l e { frames := 1, cells := 0, slots := 0, locals := 22 } s m args below meth c H1 locs1 0 0 (MQ below (bq_Q g L E z (some (.int R))) args s 0 0 (bq_A z)) (F0 m 66 ls1 [.int b8, .int b1, .ref a0, .int z4]) := by
                intro b8 H locs ls h hW hl
                replace h := bq_kap1 ek66 h
                refine lv_iload hx hb dX7_less_66 (lv_at hl 4 rfl) ?_
                refine lv_iadd hx hb dX7_less_68 ?_
                obtain ⟨v9, hv, h⟩ := bq_bind h
                refine bq_callV S hK hz mv_X7_46 (c_X7_of hv) (kc_X7_of hv) dX7_less_69 [.int v9, .int z4] (rest := [.int z4]) rfl rfl rfl hl.1 (Nat.le_of_ble_eq_true rfl) ⟨Nat.le_of_ble_eq_true rfl, Nat.le_of_ble_eq_true rfl⟩ ⟨Nat.zero_le _, Nat.zero_le _⟩ hW (fun H locs hW => ?_)
                refine lv_iload_n hx hb dX7_less_72 rfl (lv_at hl 2 rfl) ?_
                refine lv_icmp_ge (tgt := 80) hx hb dX7_less_73 (by decide) (fun hc => ?_) (fun hc => ?_)
                · replace h := bq_ifT hc h
                  refine lv_iconst (v := 0) hx hb dX7_less_80 (by decide) ?_
                  refine lv_iadd hx hb dX7_less_81 ?_
                  refine lv_topi (fun v10 ev10 => ?_)
                  replace h := bq_letE ev10 h
                  refine lv_istore (lv' := [(4, .int v10), (0, .ref a0), (2, .int x2), (3, .int x3), (5, .int b1), (6, .int z5)]) hx hb dX7_less_82 hl (by decide) rfl (fun ls hl => ?_)
                  obtain ⟨v11, ev11⟩ : ∃ y : Int32, y = z5 + 1 := ⟨_, rfl⟩
                  replace h := bq_letE ev11 h
                  refine lv_iinc (v := v11) (lv' := [(6, .int v11), (4, .int v10), (0, .ref a0), (2, .int x2), (3, .int x3), (5, .int b1)]) hx hb dX7_less_84 hl (k := 5) rfl (by rw [ev11]; rfl) (by decide) rfl (fun ls hl => ?_)
                  refine lv_goto (tgt := 24) hx hb dX7_less_87 (by decide) ?_
                  exact ih v10 v11 _ _ _ h hW (lv_sub hl [2, 3, 4, 1, 5, 0] rfl)
                · replace h := bq_ifF hc h
                  refine lv_iconst (v := 1) hx hb dX7_less_76 (by decide) ?_
                  refine lv_goto (tgt := 81) hx hb dX7_less_77 (by decide) ?_
                  refine lv_iadd hx hb dX7_less_81 ?_
                  refine lv_topi (fun v12 ev12 => ?_)
                  replace h := bq_letE ev12 h
                  refine lv_istore (lv' := [(4, .int v12), (0, .ref a0), (2, .int x2), (3, .int x3), (5, .int b1), (6, .int z5)]) hx hb dX7_less_82 hl (by decide) rfl (fun ls hl => ?_)
                  obtain ⟨v13, ev13⟩ : ∃ y : Int32, y = z5 + 1 := ⟨_, rfl⟩
                  replace h := bq_letE ev13 h
                  refine lv_iinc (v := v13) (lv' := [(6, .int v13), (4, .int v12), (0, .ref a0), (2, .int x2), (3, .int x3), (5, .int b1)]) hx hb dX7_less_84 hl (k := 5) rfl (by rw [ev13]; rfl) (by decide) rfl (fun ls hl => ?_)
                  refine lv_goto (tgt := 24) hx hb dX7_less_87 (by decide) ?_
                  exact ih v12 v13 _ _ _ h hW (lv_sub hl [2, 3, 4, 1, 5, 0] rfl)
              clear ek66
              refine lv_if_ne (tgt := 64) hx hb dX7_less_57 (by decide) (fun hc => ?_) (fun hc => ?_)
              · replace h := bq_ifF hc h
                refine lv_bipush (v := 62) hx hb dX7_less_64 (by decide) ?_
                exact hjk66 (62 : Int32) _ _ _ h hW (lv_sub hl [0, 1, 2, 4, 5] rfl)
              · replace h := bq_ifT hc h
                refine lv_iconst (v := 4) hx hb dX7_less_60 (by decide) ?_
                refine lv_goto (tgt := 66) hx hb dX7_less_61 (by decide) ?_
                exact hjk66 (4 : Int32) _ _ _ h hW (lv_sub hl [0, 1, 2, 4, 5] rfl)
          clear ek45
          refine lv_if_ne (tgt := 43) hx hb dX7_less_36 (by decide) (fun hc => ?_) (fun hc => ?_)
          · replace h := bq_ifF hc h
            refine lv_bipush (v := 61) hx hb dX7_less_43 (by decide) ?_
            exact hjk45 (61 : Int32) _ _ _ h hW (lv_sub hl [0, 1, 2, 3, 4, 5] rfl)
          · replace h := bq_ifT hc h
            refine lv_iconst (v := 3) hx hb dX7_less_39 (by decide) ?_
            refine lv_goto (tgt := 45) hx hb dX7_less_40 (by decide) ?_
            exact hjk45 (3 : Int32) _ _ _ h hW (lv_sub hl [0, 1, 2, 3, 4, 5] rfl)
    exact hL24 bq_fuel (0 : Int32) (0 : Int32) _ _ _ h hW (lv_sub hl [2, 3, 4, 5, 1, 0] rfl)
  clear ek19
  refine lv_if_ne (tgt := 11) hx hb dX7_less_4 (by decide) (fun hc => ?_) (fun hc => ?_)
  · replace h := bq_ifF hc h
    refine lv_aload_n hx hb dX7_less_11 rfl (lv_at hl 1 rfl) ?_
    refine lv_iload_n hx hb dX7_less_12 rfl (lv_at hl 2 rfl) ?_
    refine lv_iconst (v := 0) hx hb dX7_less_13 (by decide) ?_
    refine lv_iload_n hx hb dX7_less_14 rfl (lv_at hl 3 rfl) ?_
    refine lv_iadd hx hb dX7_less_15 ?_
    obtain ⟨v14, hv, h⟩ := bq_bind h
    refine bq_callV S hK hz mv_X7_46 (c_X7_of hv) (kc_X7_of hv) dX7_less_16 [.int v14] (rest := []) rfl rfl rfl hl.1 (Nat.le_of_ble_eq_true rfl) ⟨Nat.le_of_ble_eq_true rfl, Nat.le_of_ble_eq_true rfl⟩ ⟨Nat.zero_le _, Nat.zero_le _⟩ hW (fun H locs hW => ?_)
    exact hjk19 v14 _ _ _ h hW (lv_sub hl [1, 3, 4, 0] rfl)
  · replace h := bq_ifT hc h
    refine lv_iload_n hx hb dX7_less_7 rfl (lv_at hl 2 rfl) ?_
    refine lv_goto (tgt := 19) hx hb dX7_less_8 (by decide) ?_
    exact hjk19 x1 _ _ _ h hW (lv_sub hl [1, 3, 4, 0] rfl)

theorem kc_X7_builds {E : bq_E} {a0 : Nat} {x1 : Int32} {R : bq_E} (h : tw_X7_builds E a0 x1 = some R) : bq_cls E a0 = 7 := (bq_guard h).1
set_option maxHeartbeats 4000000 in
set_option maxRecDepth 100000 in
theorem c_X7_builds {l : Launch} {g : bq_G} {L : List Nat} {z : Nat} {E : bq_E} {a0 : Nat} {x1 : Int32} {R : bq_E} (h : tw_X7_builds E a0 x1 = some R) : bq_M l yX7_builds cX7_builds 5 none 2 48 [.ref a0, .int x1] g L E z none R := by
  unfold tw_X7_builds at h
  obtain ⟨hcl, h⟩ := bq_guard h
  refine bq_enter (by decide) (Nat.le_of_ble_eq_true rfl) ?_
  intro p e s m args below meth c S hr hlocks hK hz hW ls hl
  have S : CallFix p m c cX7_builds 5 s args bq_WA RX7 := S
  have hx := S.1
  have hb := S.2.1
  have hl : lv_has ls 5 [(0, .ref a0), (1, .int x1)] := hl
  refine lv_aload_n hx hb dX7_builds_0 rfl (lv_at hl 0 rfl) ?_
  refine lv_iload_n hx hb dX7_builds_1 rfl (lv_at hl 1 rfl) ?_
  refine lv_bipush (v := 61) hx hb dX7_builds_2 (by decide) ?_
  refine lv_iconst (v := 0) hx hb dX7_builds_4 (by decide) ?_
  obtain ⟨E1, hv, h⟩ := bq_bind h
  refine bq_callV S hK hz mv_X7_59 (c_X7_puts hv) (kc_X7_puts hv) dX7_builds_5 [] (rest := []) rfl rfl rfl hl.1 (Nat.le_of_ble_eq_true rfl) ⟨Nat.le_of_ble_eq_true rfl, Nat.le_of_ble_eq_true rfl⟩ ⟨Nat.zero_le _, Nat.zero_le _⟩ hW (fun H locs hW => ?_)
  refine lv_iconst (v := 0) hx hb dX7_builds_8 (by decide) ?_
  refine lv_istore_n (lv' := [(2, .int (0 : Int32)), (0, .ref a0), (1, .int x1)]) hx hb dX7_builds_9 rfl hl (by decide) rfl (fun ls hl => ?_)
  have hL10 : ∀ (K : Int32 → bq_E → Option bq_E) (hX : ∀ (u56 : Int32) (E57 : bq_E) (H1 : Heap) (locs1 : List Loc) (ls1 : Array Slot), K u56 E57 = some R → bq_H g L E57 z s.heap H1 locs1 → lv_has ls1 5 [(0, .ref a0), (1, .int x1)] → W p l e { frames := 2, cells := 0, slots := 0, locals := 48 } s m args below meth c H1 locs1 0 0 (MQ below (bq_Q g L R z none) args s 0 0 (bq_A z)) (F0 m 40 ls1 [])), ∀ (n : Nat) (z50 : Int32) (E51 : bq_E) (H1 : Heap) (locs1 : List Loc) (ls1 : Array Slot), tl_X7_builds_10 a0 x1 K n z50 E51 = some R → bq_H g L E51 z s.heap H1 locs1 → lv_has ls1 5 [(0, .ref a0), (1, .int x1), (2, .int z50)] → W p l e { frames := 2, cells := 0, slots := 0, locals := 48 } s m args below meth c H1 locs1 0 0 (MQ below (bq_Q g L R z none) args s 0 0 (bq_A z)) (F0 m 10 ls1 []) := by
    intro K hX n
    induction n with
    | zero => intro z50 E51 H locs ls h hW hl; cases h
    | succ n ih =>
      intro z50 E51 H locs ls h hW hl
      rw [tl_X7_builds_10.eq_2] at h
      refine lv_iload_n hx hb dX7_builds_10 rfl (lv_at hl 2 rfl) ?_
      refine lv_aload_n hx hb dX7_builds_11 rfl (lv_at hl 0 rfl) ?_
      refine lv_iload_n hx hb dX7_builds_12 rfl (lv_at hl 1 rfl) ?_
      refine lv_iconst (v := 3) hx hb dX7_builds_13 (by decide) ?_
      obtain ⟨v52, hv, h⟩ := bq_bind h
      refine bq_callV S hK hz mv_X7_46 (c_X7_of hv) (kc_X7_of hv) dX7_builds_14 [.int v52, .int z50] (rest := [.int z50]) rfl rfl rfl hl.1 (Nat.le_of_ble_eq_true rfl) ⟨Nat.le_of_ble_eq_true rfl, Nat.le_of_ble_eq_true rfl⟩ ⟨Nat.zero_le _, Nat.zero_le _⟩ hW (fun H locs hW => ?_)
      refine lv_icmp_ge (tgt := 40) hx hb dX7_builds_17 (by decide) (fun hc => ?_) (fun hc => ?_)
      · replace h := bq_ifT hc h
        exact hX z50 E51 _ _ _ h hW (lv_sub hl [0, 1] rfl)
      · replace h := bq_ifF hc h
        refine lv_aload_n hx hb dX7_builds_20 rfl (lv_at hl 0 rfl) ?_
        refine lv_iload_n hx hb dX7_builds_21 rfl (lv_at hl 1 rfl) ?_
        refine lv_aload_n hx hb dX7_builds_22 rfl (lv_at hl 0 rfl) ?_
        refine lv_iload_n hx hb dX7_builds_23 rfl (lv_at hl 1 rfl) ?_
        refine lv_iconst (v := 4) hx hb dX7_builds_24 (by decide) ?_
        refine lv_iload_n hx hb dX7_builds_25 rfl (lv_at hl 2 rfl) ?_
        refine lv_iadd hx hb dX7_builds_26 ?_
        obtain ⟨v53, hv, h⟩ := bq_bind h
        refine bq_callV S hK hz mv_X7_46 (c_X7_of hv) (kc_X7_of hv) dX7_builds_27 [.int v53, .int x1, .ref a0] (rest := [.int x1, .ref a0]) rfl rfl rfl hl.1 (Nat.le_of_ble_eq_true rfl) ⟨Nat.le_of_ble_eq_true rfl, Nat.le_of_ble_eq_true rfl⟩ ⟨Nat.zero_le _, Nat.zero_le _⟩ hW (fun H locs hW => ?_)
        refine lv_iconst (v := 0) hx hb dX7_builds_30 (by decide) ?_
        obtain ⟨E54, hv, h⟩ := bq_bind h
        refine bq_callV S hK hz mv_X7_63 (c_X7_enters hv) (kc_X7_enters hv) dX7_builds_31 [] (rest := []) rfl rfl rfl hl.1 (Nat.le_of_ble_eq_true rfl) ⟨Nat.le_of_ble_eq_true rfl, Nat.le_of_ble_eq_true rfl⟩ ⟨Nat.zero_le _, Nat.zero_le _⟩ hW (fun H locs hW => ?_)
        obtain ⟨v55, ev55⟩ : ∃ y : Int32, y = z50 + 1 := ⟨_, rfl⟩
        replace h := bq_letE ev55 h
        refine lv_iinc (v := v55) (lv' := [(2, .int v55), (0, .ref a0), (1, .int x1)]) hx hb dX7_builds_34 hl (k := 2) rfl (by rw [ev55]; rfl) (by decide) rfl (fun ls hl => ?_)
        refine lv_goto (tgt := 10) hx hb dX7_builds_37 (by decide) ?_
        exact ih v55 E54 _ _ _ h hW (lv_sub hl [1, 2, 0] rfl)
  refine hL10 _ (fun y2 E3 H locs ls h hW hl => ?_) bq_fuel (0 : Int32) E1 _ _ _ h hW (lv_sub hl [1, 2, 0] rfl)
  refine lv_iconst (v := 1) hx hb dX7_builds_40 (by decide) ?_
  refine lv_istore_n (lv' := [(2, .int (1 : Int32)), (0, .ref a0), (1, .int x1)]) hx hb dX7_builds_41 rfl hl (by decide) rfl (fun ls hl => ?_)
  have hL42 : ∀ (K : Int32 → bq_E → Option bq_E) (hX : ∀ (u48 : Int32) (E49 : bq_E) (H1 : Heap) (locs1 : List Loc) (ls1 : Array Slot), K u48 E49 = some R → bq_H g L E49 z s.heap H1 locs1 → lv_has ls1 5 [(0, .ref a0), (1, .int x1)] → W p l e { frames := 2, cells := 0, slots := 0, locals := 48 } s m args below meth c H1 locs1 0 0 (MQ below (bq_Q g L R z none) args s 0 0 (bq_A z)) (F0 m 119 ls1 [])), ∀ (n : Nat) (z29 : Int32) (E30 : bq_E) (H1 : Heap) (locs1 : List Loc) (ls1 : Array Slot), tl_X7_builds_42 a0 x1 K n z29 E30 = some R → bq_H g L E30 z s.heap H1 locs1 → lv_has ls1 5 [(0, .ref a0), (1, .int x1), (2, .int z29)] → W p l e { frames := 2, cells := 0, slots := 0, locals := 48 } s m args below meth c H1 locs1 0 0 (MQ below (bq_Q g L R z none) args s 0 0 (bq_A z)) (F0 m 42 ls1 []) := by
    intro K hX n
    induction n with
    | zero => intro z29 E30 H locs ls h hW hl; cases h
    | succ n ih =>
      intro z29 E30 H locs ls h hW hl
      rw [tl_X7_builds_42.eq_2] at h
      refine lv_iload_n hx hb dX7_builds_42 rfl (lv_at hl 2 rfl) ?_
      refine lv_iconst (v := 2) hx hb dX7_builds_43 (by decide) ?_
      refine lv_icmp_gt (tgt := 119) hx hb dX7_builds_44 (by decide) (fun hc => ?_) (fun hc => ?_)
      · replace h := bq_ifT hc h
        exact hX z29 E30 _ _ _ h hW (lv_sub hl [0, 1] rfl)
      · replace h := bq_ifF hc h
        refine lv_aload_n hx hb dX7_builds_47 rfl (lv_at hl 0 rfl) ?_
        refine lv_iload_n hx hb dX7_builds_48 rfl (lv_at hl 1 rfl) ?_
        refine lv_iconst (v := 0) hx hb dX7_builds_49 (by decide) ?_
        refine lv_iload_n hx hb dX7_builds_50 rfl (lv_at hl 2 rfl) ?_
        refine lv_iadd hx hb dX7_builds_51 ?_
        obtain ⟨v31, hv, h⟩ := bq_bind h
        refine bq_callV S hK hz mv_X7_46 (c_X7_of hv) (kc_X7_of hv) dX7_builds_52 [.int v31] (rest := []) rfl rfl rfl hl.1 (Nat.le_of_ble_eq_true rfl) ⟨Nat.le_of_ble_eq_true rfl, Nat.le_of_ble_eq_true rfl⟩ ⟨Nat.zero_le _, Nat.zero_le _⟩ hW (fun H locs hW => ?_)
        refine lv_istore_n (lv' := [(3, .int v31), (0, .ref a0), (1, .int x1), (2, .int z29)]) hx hb dX7_builds_55 rfl hl (by decide) rfl (fun ls hl => ?_)
        refine lv_aload_n hx hb dX7_builds_56 rfl (lv_at hl 1 rfl) ?_
        obtain ⟨v32, hv, h⟩ := bq_bind h
        refine bq_getr S hK fl_X7_7 dX7_builds_57 hv hW ?_
        refine lv_iconst (v := 2) hx hb dX7_builds_60 (by decide) ?_
        obtain ⟨v33, hv, h⟩ := bq_bind h
        refine bq_iald S hK dX7_builds_61 hv hW ?_
        refine lv_iconst (v := 1) hx hb dX7_builds_62 (by decide) ?_
        refine lv_isub hx hb dX7_builds_63 ?_
        refine lv_topi (fun v34 ev34 => ?_)
        replace h := bq_letE ev34 h
        refine lv_istore (lv' := [(4, .int v34), (3, .int v31), (0, .ref a0), (1, .int x1), (2, .int z29)]) hx hb dX7_builds_64 hl (by decide) rfl (fun ls hl => ?_)
        have hL66 : ∀ (K : Int32 → bq_E → Option bq_E) (hX : ∀ (u46 : Int32) (E47 : bq_E) (H1 : Heap) (locs1 : List Loc) (ls1 : Array Slot), K u46 E47 = some R → bq_H g L E47 z s.heap H1 locs1 → lv_has ls1 5 [(0, .ref a0), (1, .int x1), (2, .int z29)] → W p l e { frames := 2, cells := 0, slots := 0, locals := 48 } s m args below meth c H1 locs1 0 0 (MQ below (bq_Q g L R z none) args s 0 0 (bq_A z)) (F0 m 113 ls1 [])), ∀ (n : Nat) (z38 : Int32) (E39 : bq_E) (H1 : Heap) (locs1 : List Loc) (ls1 : Array Slot), tl_X7_builds_66 a0 x1 z29 v31 K n z38 E39 = some R → bq_H g L E39 z s.heap H1 locs1 → lv_has ls1 5 [(0, .ref a0), (1, .int x1), (2, .int z29), (3, .int v31), (4, .int z38)] → W p l e { frames := 2, cells := 0, slots := 0, locals := 48 } s m args below meth c H1 locs1 0 0 (MQ below (bq_Q g L R z none) args s 0 0 (bq_A z)) (F0 m 66 ls1 []) := by
          intro K hX n
          induction n with
          | zero => intro z38 E39 H locs ls h hW hl; cases h
          | succ n ih =>
            intro z38 E39 H locs ls h hW hl
            rw [tl_X7_builds_66.eq_2] at h
            refine lv_iload_n hx hb dX7_builds_66 rfl (lv_at hl 3 rfl) ?_
            refine lv_iconst (v := (-1)) hx hb dX7_builds_67 (by decide) ?_
            refine lv_icmp_eq (tgt := 113) hx hb dX7_builds_68 (by decide) (fun hc => ?_) (fun hc => ?_)
            · replace h := bq_ifT hc h
              exact hX z38 E39 _ _ _ h hW (lv_sub hl [0, 1, 2] rfl)
            · replace h := bq_ifF hc h
              refine lv_iload hx hb dX7_builds_71 (lv_at hl 4 rfl) ?_
              refine lv_aload_n hx hb dX7_builds_73 rfl (lv_at hl 0 rfl) ?_
              refine lv_iload_n hx hb dX7_builds_74 rfl (lv_at hl 3 rfl) ?_
              refine lv_bipush (v := 61) hx hb dX7_builds_75 (by decide) ?_
              obtain ⟨v40, hv, h⟩ := bq_bind h
              refine bq_callV S hK hz mv_X7_46 (c_X7_of hv) (kc_X7_of hv) dX7_builds_77 [.int v40, .int z38] (rest := [.int z38]) rfl rfl rfl hl.1 (Nat.le_of_ble_eq_true rfl) ⟨Nat.le_of_ble_eq_true rfl, Nat.le_of_ble_eq_true rfl⟩ ⟨Nat.zero_le _, Nat.zero_le _⟩ hW (fun H locs hW => ?_)
              refine lv_icmp_ge (tgt := 113) hx hb dX7_builds_80 (by decide) (fun hc => ?_) (fun hc => ?_)
              · replace h := bq_ifT hc h
                exact hX z38 E39 _ _ _ h hW (lv_sub hl [0, 1, 2] rfl)
              · replace h := bq_ifF hc h
                refine lv_aload_n hx hb dX7_builds_83 rfl (lv_at hl 0 rfl) ?_
                refine lv_iload_n hx hb dX7_builds_84 rfl (lv_at hl 1 rfl) ?_
                refine lv_aload_n hx hb dX7_builds_85 rfl (lv_at hl 0 rfl) ?_
                refine lv_iload_n hx hb dX7_builds_86 rfl (lv_at hl 3 rfl) ?_
                refine lv_bipush (v := 62) hx hb dX7_builds_87 (by decide) ?_
                refine lv_iload hx hb dX7_builds_89 (lv_at hl 4 rfl) ?_
                refine lv_iadd hx hb dX7_builds_91 ?_
                obtain ⟨v41, hv, h⟩ := bq_bind h
                refine bq_callV S hK hz mv_X7_46 (c_X7_of hv) (kc_X7_of hv) dX7_builds_92 [.int v41, .int x1, .ref a0] (rest := [.int x1, .ref a0]) rfl rfl rfl hl.1 (Nat.le_of_ble_eq_true rfl) ⟨Nat.le_of_ble_eq_true rfl, Nat.le_of_ble_eq_true rfl⟩ ⟨Nat.zero_le _, Nat.zero_le _⟩ hW (fun H locs hW => ?_)
                refine lv_iload_n hx hb dX7_builds_95 rfl (lv_at hl 2 rfl) ?_
                obtain ⟨E42, hv, h⟩ := bq_bind h
                refine bq_callV S hK hz mv_X7_63 (c_X7_enters hv) (kc_X7_enters hv) dX7_builds_96 [] (rest := []) rfl rfl rfl hl.1 (Nat.le_of_ble_eq_true rfl) ⟨Nat.le_of_ble_eq_true rfl, Nat.le_of_ble_eq_true rfl⟩ ⟨Nat.zero_le _, Nat.zero_le _⟩ hW (fun H locs hW => ?_)
                refine lv_iload hx hb dX7_builds_99 (lv_at hl 4 rfl) ?_
                refine lv_aload_n hx hb dX7_builds_101 rfl (lv_at hl 0 rfl) ?_
                obtain ⟨v43, hv, h⟩ := bq_bind h
                refine bq_getr S hK fl_X7_7 dX7_builds_102 hv hW ?_
                refine lv_iconst (v := 2) hx hb dX7_builds_105 (by decide) ?_
                obtain ⟨v44, hv, h⟩ := bq_bind h
                refine bq_iald S hK dX7_builds_106 hv hW ?_
                refine lv_iadd hx hb dX7_builds_107 ?_
                refine lv_topi (fun v45 ev45 => ?_)
                replace h := bq_letE ev45 h
                refine lv_istore (lv' := [(4, .int v45), (0, .ref a0), (1, .int x1), (2, .int z29), (3, .int v31)]) hx hb dX7_builds_108 hl (by decide) rfl (fun ls hl => ?_)
                refine lv_goto (tgt := 66) hx hb dX7_builds_110 (by decide) ?_
                exact ih v45 E42 _ _ _ h hW (lv_sub hl [1, 2, 3, 4, 0] rfl)
        refine hL66 _ (fun y35 E36 H locs ls h hW hl => ?_) bq_fuel v34 E30 _ _ _ h hW (lv_sub hl [2, 3, 4, 1, 0] rfl)
        obtain ⟨v37, ev37⟩ : ∃ y : Int32, y = z29 + 1 := ⟨_, rfl⟩
        replace h := bq_letE ev37 h
        refine lv_iinc (v := v37) (lv' := [(2, .int v37), (0, .ref a0), (1, .int x1)]) hx hb dX7_builds_113 hl (k := 2) rfl (by rw [ev37]; rfl) (by decide) rfl (fun ls hl => ?_)
        refine lv_goto (tgt := 42) hx hb dX7_builds_116 (by decide) ?_
        exact ih v37 E36 _ _ _ h hW (lv_sub hl [1, 2, 0] rfl)
  refine hL42 _ (fun y4 E5 H locs ls h hW hl => ?_) bq_fuel (1 : Int32) E3 _ _ _ h hW (lv_sub hl [1, 2, 0] rfl)
  refine lv_aload_n hx hb dX7_builds_119 rfl (lv_at hl 0 rfl) ?_
  refine lv_iload_n hx hb dX7_builds_120 rfl (lv_at hl 1 rfl) ?_
  refine lv_bipush (v := 61) hx hb dX7_builds_121 (by decide) ?_
  obtain ⟨v6, hv, h⟩ := bq_bind h
  refine bq_callV S hK hz mv_X7_46 (c_X7_of hv) (kc_X7_of hv) dX7_builds_123 [.int v6] (rest := []) rfl rfl rfl hl.1 (Nat.le_of_ble_eq_true rfl) ⟨Nat.le_of_ble_eq_true rfl, Nat.le_of_ble_eq_true rfl⟩ ⟨Nat.zero_le _, Nat.zero_le _⟩ hW (fun H locs hW => ?_)
  refine lv_istore_n (lv' := [(2, .int v6), (0, .ref a0), (1, .int x1)]) hx hb dX7_builds_126 rfl hl (by decide) rfl (fun ls hl => ?_)
  refine lv_iconst (v := 0) hx hb dX7_builds_127 (by decide) ?_
  refine lv_istore_n (lv' := [(3, .int (0 : Int32)), (2, .int v6), (0, .ref a0), (1, .int x1)]) hx hb dX7_builds_128 rfl hl (by decide) rfl (fun ls hl => ?_)
  have hL129 : ∀ (n : Nat) (z9 : Int32) (E10 : bq_E) (H1 : Heap) (locs1 : List Loc) (ls1 : Array Slot), tl_X7_builds_129 a0 x1 v6 n z9 E10 = some R → bq_H g L E10 z s.heap H1 locs1 → lv_has ls1 5 [(0, .ref a0), (1, .int x1), (2, .int v6), (3, .int z9)] → W p l e { frames := 2, cells := 0, slots := 0, locals := 48 } s m args below meth c H1 locs1 0 0 (MQ below (bq_Q g L R z none) args s 0 0 (bq_A z)) (F0 m 129 ls1 []) := by
    intro n
    induction n with
    | zero => intro z9 E10 H locs ls h hW hl; cases h
    | succ n ih =>
      intro z9 E10 H locs ls h hW hl
      rw [tl_X7_builds_129.eq_2] at h
      refine lv_iload_n hx hb dX7_builds_129 rfl (lv_at hl 3 rfl) ?_
      refine lv_iload_n hx hb dX7_builds_130 rfl (lv_at hl 2 rfl) ?_
      refine lv_icmp_gt (tgt := 197) hx hb dX7_builds_131 (by decide) (fun hc => ?_) (fun hc => ?_)
      · replace h := bq_ifT hc h
        refine lv_aload_n hx hb dX7_builds_197 rfl (lv_at hl 0 rfl) ?_
        obtain ⟨v11, hv, h⟩ := bq_bind h
        refine bq_getr S hK fl_X7_7 dX7_builds_198 hv hW ?_
        refine lv_iconst (v := 5) hx hb dX7_builds_201 (by decide) ?_
        refine lv_dup2_11 hx hb dX7_builds_202 rfl rfl ?_
        obtain ⟨v12, hv, h⟩ := bq_bind h
        refine bq_iald S hK dX7_builds_203 hv hW ?_
        refine lv_iconst (v := 1) hx hb dX7_builds_204 (by decide) ?_
        refine lv_iadd hx hb dX7_builds_205 ?_
        obtain ⟨E13, hv, h⟩ := bq_bind h
        refine bq_iast S hK dX7_builds_206 hv hW (fun H locs hW => ?_)
        refine lv_aload_n hx hb dX7_builds_207 rfl (lv_at hl 0 rfl) ?_
        obtain ⟨v14, hv, h⟩ := bq_bind h
        refine bq_getr S hK fl_X7_7 dX7_builds_208 hv hW ?_
        refine lv_bipush (v := 6) hx hb dX7_builds_211 (by decide) ?_
        refine lv_dup2_11 hx hb dX7_builds_213 rfl rfl ?_
        obtain ⟨v15, hv, h⟩ := bq_bind h
        refine bq_iald S hK dX7_builds_214 hv hW ?_
        refine lv_iload_n hx hb dX7_builds_215 rfl (lv_at hl 2 rfl) ?_
        refine lv_iadd hx hb dX7_builds_216 ?_
        obtain ⟨E16, hv, h⟩ := bq_bind h
        refine bq_iast S hK dX7_builds_217 hv hW (fun H locs hW => ?_)
        cases h
        exact bq_retv S hr hlocks hK hz dX7_builds_218 hW
      · replace h := bq_ifF hc h
        refine lv_iconst (v := 0) hx hb dX7_builds_134 (by decide) ?_
        refine lv_istore (lv' := [(4, .int (0 : Int32)), (0, .ref a0), (1, .int x1), (2, .int v6), (3, .int z9)]) hx hb dX7_builds_135 hl (by decide) rfl (fun ls hl => ?_)
        have hL137 : ∀ (K : Int32 → bq_E → Option bq_E) (hX : ∀ (u27 : Int32) (E28 : bq_E) (H1 : Heap) (locs1 : List Loc) (ls1 : Array Slot), K u27 E28 = some R → bq_H g L E28 z s.heap H1 locs1 → lv_has ls1 5 [(0, .ref a0), (1, .int x1), (2, .int v6), (3, .int z9)] → W p l e { frames := 2, cells := 0, slots := 0, locals := 48 } s m args below meth c H1 locs1 0 0 (MQ below (bq_Q g L R z none) args s 0 0 (bq_A z)) (F0 m 191 ls1 [])), ∀ (n : Nat) (z20 : Int32) (E21 : bq_E) (H1 : Heap) (locs1 : List Loc) (ls1 : Array Slot), tl_X7_builds_137 a0 x1 v6 z9 K n z20 E21 = some R → bq_H g L E21 z s.heap H1 locs1 → lv_has ls1 5 [(0, .ref a0), (1, .int x1), (2, .int v6), (3, .int z9), (4, .int z20)] → W p l e { frames := 2, cells := 0, slots := 0, locals := 48 } s m args below meth c H1 locs1 0 0 (MQ below (bq_Q g L R z none) args s 0 0 (bq_A z)) (F0 m 137 ls1 []) := by
          intro K hX n
          induction n with
          | zero => intro z20 E21 H locs ls h hW hl; cases h
          | succ n ih =>
            intro z20 E21 H locs ls h hW hl
            rw [tl_X7_builds_137.eq_2] at h
            refine lv_iload hx hb dX7_builds_137 (lv_at hl 4 rfl) ?_
            refine lv_iconst (v := 2) hx hb dX7_builds_139 (by decide) ?_
            refine lv_icmp_gt (tgt := 191) hx hb dX7_builds_140 (by decide) (fun hc => ?_) (fun hc => ?_)
            · replace h := bq_ifT hc h
              exact hX z20 E21 _ _ _ h hW (lv_sub hl [0, 1, 2, 3] rfl)
            · replace h := bq_ifF hc h
              refine lv_aload_n hx hb dX7_builds_143 rfl (lv_at hl 0 rfl) ?_
              refine lv_iload_n hx hb dX7_builds_144 rfl (lv_at hl 1 rfl) ?_
              refine lv_sipush (v := 254) hx hb dX7_builds_145 (by decide) ?_
              refine lv_iconst (v := 3) hx hb dX7_builds_148 (by decide) ?_
              refine lv_iload_n hx hb dX7_builds_149 rfl (lv_at hl 3 rfl) ?_
              refine lv_imul hx hb dX7_builds_150 ?_
              refine lv_iadd hx hb dX7_builds_151 ?_
              refine lv_iload hx hb dX7_builds_152 (lv_at hl 4 rfl) ?_
              refine lv_iadd hx hb dX7_builds_154 ?_
              refine lv_aload_n hx hb dX7_builds_155 rfl (lv_at hl 0 rfl) ?_
              refine lv_iload_n hx hb dX7_builds_156 rfl (lv_at hl 1 rfl) ?_
              refine lv_iload hx hb dX7_builds_157 (lv_at hl 4 rfl) ?_
              refine lv_iload_n hx hb dX7_builds_159 rfl (lv_at hl 3 rfl) ?_
              refine lv_iload_n hx hb dX7_builds_160 rfl (lv_at hl 2 rfl) ?_
              obtain ⟨k179, ek179, h⟩ := bq_letK h
              have hjk179 : ∀ (b22 : Int32) (H1 : Heap) (locs1 : List Loc) (ls1 : Array Slot), k179 b22 = some R → bq_H g L E21 z s.heap H1 locs1 → lv_has ls1 5 [(0, .ref a0), (1, .int x1), (2, .int v6), (3, .int z9), (4, .int z20)] → W p l e { frames := 2, cells := 0, slots := 0, locals := 48 } s m args below meth c H1 locs1 0 0 (MQ below (bq_Q g L R z none) args s 0 0 (bq_A z)) (F0 m 179 ls1 [.int b22, .int z20, .int x1, .ref a0, .int (((254 : Int32) + ((3 : Int32) * z9)) + z20), .int x1, .ref a0]) := by
                intro b22 H locs ls h hW hl
                replace h := bq_kap1 ek179 h
                obtain ⟨v23, hv, h⟩ := bq_bind h
                refine bq_callV S hK hz mv_X7_66 (c_X7_less hv) (kc_X7_less hv) dX7_builds_179 [.int v23, .int (((254 : Int32) + ((3 : Int32) * z9)) + z20), .int x1, .ref a0] (rest := [.int (((254 : Int32) + ((3 : Int32) * z9)) + z20), .int x1, .ref a0]) rfl rfl rfl hl.1 (Nat.le_of_ble_eq_true rfl) ⟨Nat.le_of_ble_eq_true rfl, Nat.le_of_ble_eq_true rfl⟩ ⟨Nat.zero_le _, Nat.zero_le _⟩ hW (fun H locs hW => ?_)
                obtain ⟨E24, hv, h⟩ := bq_bind h
                refine bq_callV S hK hz mv_X7_59 (c_X7_puts hv) (kc_X7_puts hv) dX7_builds_182 [] (rest := []) rfl rfl rfl hl.1 (Nat.le_of_ble_eq_true rfl) ⟨Nat.le_of_ble_eq_true rfl, Nat.le_of_ble_eq_true rfl⟩ ⟨Nat.zero_le _, Nat.zero_le _⟩ hW (fun H locs hW => ?_)
                obtain ⟨v25, ev25⟩ : ∃ y : Int32, y = z20 + 1 := ⟨_, rfl⟩
                replace h := bq_letE ev25 h
                refine lv_iinc (v := v25) (lv' := [(4, .int v25), (0, .ref a0), (1, .int x1), (2, .int v6), (3, .int z9)]) hx hb dX7_builds_185 hl (k := 4) rfl (by rw [ev25]; rfl) (by decide) rfl (fun ls hl => ?_)
                refine lv_goto (tgt := 137) hx hb dX7_builds_188 (by decide) ?_
                exact ih v25 E24 _ _ _ h hW (lv_sub hl [1, 2, 3, 4, 0] rfl)
              clear ek179
              refine lv_icmp_ge (tgt := 176) hx hb dX7_builds_161 (by decide) (fun hc => ?_) (fun hc => ?_)
              · replace h := bq_ifT hc h
                refine lv_sipush (v := 10000) hx hb dX7_builds_176 (by decide) ?_
                exact hjk179 (10000 : Int32) _ _ _ h hW (lv_sub hl [0, 1, 2, 3, 4] rfl)
              · replace h := bq_ifF hc h
                refine lv_aload_n hx hb dX7_builds_164 rfl (lv_at hl 0 rfl) ?_
                refine lv_iload_n hx hb dX7_builds_165 rfl (lv_at hl 1 rfl) ?_
                refine lv_bipush (v := 62) hx hb dX7_builds_166 (by decide) ?_
                refine lv_iload_n hx hb dX7_builds_168 rfl (lv_at hl 3 rfl) ?_
                refine lv_iadd hx hb dX7_builds_169 ?_
                obtain ⟨v26, hv, h⟩ := bq_bind h
                refine bq_callV S hK hz mv_X7_46 (c_X7_of hv) (kc_X7_of hv) dX7_builds_170 [.int v26, .int z20, .int x1, .ref a0, .int (((254 : Int32) + ((3 : Int32) * z9)) + z20), .int x1, .ref a0] (rest := [.int z20, .int x1, .ref a0, .int (((254 : Int32) + ((3 : Int32) * z9)) + z20), .int x1, .ref a0]) rfl rfl rfl hl.1 (Nat.le_of_ble_eq_true rfl) ⟨Nat.le_of_ble_eq_true rfl, Nat.le_of_ble_eq_true rfl⟩ ⟨Nat.zero_le _, Nat.zero_le _⟩ hW (fun H locs hW => ?_)
                refine lv_goto (tgt := 179) hx hb dX7_builds_173 (by decide) ?_
                exact hjk179 v26 _ _ _ h hW (lv_sub hl [0, 1, 2, 3, 4] rfl)
        refine hL137 _ (fun y17 E18 H locs ls h hW hl => ?_) bq_fuel (0 : Int32) E10 _ _ _ h hW (lv_sub hl [1, 2, 3, 4, 0] rfl)
        obtain ⟨v19, ev19⟩ : ∃ y : Int32, y = z9 + 1 := ⟨_, rfl⟩
        replace h := bq_letE ev19 h
        refine lv_iinc (v := v19) (lv' := [(3, .int v19), (0, .ref a0), (1, .int x1), (2, .int v6)]) hx hb dX7_builds_191 hl (k := 3) rfl (by rw [ev19]; rfl) (by decide) rfl (fun ls hl => ?_)
        refine lv_goto (tgt := 129) hx hb dX7_builds_194 (by decide) ?_
        exact ih v19 E18 _ _ _ h hW (lv_sub hl [1, 2, 3, 0] rfl)
  exact hL129 bq_fuel (0 : Int32) E5 _ _ _ h hW (lv_sub hl [2, 3, 1, 0] rfl)

theorem kc_X7_buildsUp {E : bq_E} {a0 : Nat} {x1 : Int32} {R : (Int32 × bq_E)} (h : tw_X7_buildsUp E a0 x1 = some R) : bq_cls E a0 = 7 := (bq_guard h).1
set_option maxHeartbeats 4000000 in
set_option maxRecDepth 100000 in
theorem c_X7_buildsUp {l : Launch} {g : bq_G} {L : List Nat} {z : Nat} {E : bq_E} {a0 : Nat} {x1 : Int32} {R : (Int32 × bq_E)} (h : tw_X7_buildsUp E a0 x1 = some R) : bq_M l yX7_buildsUp cX7_buildsUp 4 (some .int) 3 72 [.ref a0, .int x1] g L E z (some (.int R.1)) R.2 := by
  unfold tw_X7_buildsUp at h
  obtain ⟨hcl, h⟩ := bq_guard h
  refine bq_enter (by decide) (Nat.le_of_ble_eq_true rfl) ?_
  intro p e s m args below meth c S hr hlocks hK hz hW ls hl
  have S : CallFix p m c cX7_buildsUp 4 s args bq_WA RX7 := S
  have hx := S.1
  have hb := S.2.1
  have hl : lv_has ls 4 [(0, .ref a0), (1, .int x1)] := hl
  refine lv_iconst (v := 0) hx hb dX7_buildsUp_0 (by decide) ?_
  refine lv_istore_n (lv' := [(2, .int (0 : Int32)), (0, .ref a0), (1, .int x1)]) hx hb dX7_buildsUp_1 rfl hl (by decide) rfl (fun ls hl => ?_)
  refine lv_iload_n hx hb dX7_buildsUp_2 rfl (lv_at hl 2 rfl) ?_
  refine lv_istore_n (lv' := [(3, .int x1), (2, .int (0 : Int32)), (0, .ref a0), (1, .int x1)]) hx hb dX7_buildsUp_3 rfl hl (by decide) rfl (fun ls hl => ?_)
  have hL4 : ∀ (n : Nat) (z4 : Int32) (z5 : Int32) (E6 : bq_E) (H1 : Heap) (locs1 : List Loc) (ls1 : Array Slot), tl_X7_buildsUp_4 a0 n z4 z5 E6 = some R → bq_H g L E6 z s.heap H1 locs1 → lv_has ls1 4 [(0, .ref a0), (2, .int z4), (3, .int z5)] → W p l e { frames := 3, cells := 0, slots := 0, locals := 72 } s m args below meth c H1 locs1 0 0 (MQ below (bq_Q g L R.2 z (some (.int R.1))) args s 0 0 (bq_A z)) (F0 m 4 ls1 []) := by
    intro n
    induction n with
    | zero => intro z4 z5 E6 H locs ls h hW hl; cases h
    | succ n ih =>
      intro z4 z5 E6 H locs ls h hW hl
      rw [tl_X7_buildsUp_4.eq_2] at h
      refine lv_iload_n hx hb dX7_buildsUp_4 rfl (lv_at hl 2 rfl) ?_
      refine lv_iconst (v := (-1)) hx hb dX7_buildsUp_5 (by decide) ?_
      refine lv_icmp_eq (tgt := 34) hx hb dX7_buildsUp_6 (by decide) (fun hc => ?_) (fun hc => ?_)
      · replace h := bq_ifT hc h
        refine lv_iload_n hx hb dX7_buildsUp_34 rfl (lv_at hl 1 rfl) ?_
        cases h
        exact bq_reti S hr hlocks hK hz dX7_buildsUp_35 hW
      · replace h := bq_ifF hc h
        refine lv_aload_n hx hb dX7_buildsUp_9 rfl (lv_at hl 0 rfl) ?_
        refine lv_iload_n hx hb dX7_buildsUp_10 rfl (lv_at hl 2 rfl) ?_
        obtain ⟨E7, hv, h⟩ := bq_bind h
        refine bq_callV S hK hz mv_X7_70 (c_X7_builds hv) (kc_X7_builds hv) dX7_buildsUp_11 [] (rest := []) rfl rfl rfl hl.1 (Nat.le_of_ble_eq_true rfl) ⟨Nat.le_of_ble_eq_true rfl, Nat.le_of_ble_eq_true rfl⟩ ⟨Nat.zero_le _, Nat.zero_le _⟩ hW (fun H locs hW => ?_)
        refine lv_iload_n hx hb dX7_buildsUp_14 rfl (lv_at hl 1 rfl) ?_
        refine lv_aload_n hx hb dX7_buildsUp_15 rfl (lv_at hl 0 rfl) ?_
        refine lv_iload_n hx hb dX7_buildsUp_16 rfl (lv_at hl 2 rfl) ?_
        refine lv_bipush (v := 61) hx hb dX7_buildsUp_17 (by decide) ?_
        obtain ⟨v8, hv, h⟩ := bq_bind h
        refine bq_callV S hK hz mv_X7_46 (c_X7_of hv) (kc_X7_of hv) dX7_buildsUp_19 [.int v8, .int z4] (rest := [.int z4]) rfl rfl rfl hl.1 (Nat.le_of_ble_eq_true rfl) ⟨Nat.le_of_ble_eq_true rfl, Nat.le_of_ble_eq_true rfl⟩ ⟨Nat.zero_le _, Nat.zero_le _⟩ hW (fun H locs hW => ?_)
        refine lv_iadd hx hb dX7_buildsUp_22 ?_
        refine lv_topi (fun v9 ev9 => ?_)
        replace h := bq_letE ev9 h
        refine lv_istore_n (lv' := [(2, .int v9), (0, .ref a0), (3, .int z5)]) hx hb dX7_buildsUp_23 rfl hl (by decide) rfl (fun ls hl => ?_)
        refine lv_aload_n hx hb dX7_buildsUp_24 rfl (lv_at hl 1 rfl) ?_
        refine lv_iload_n hx hb dX7_buildsUp_25 rfl (lv_at hl 2 rfl) ?_
        refine lv_iconst (v := 0) hx hb dX7_buildsUp_26 (by decide) ?_
        obtain ⟨v10, hv, h⟩ := bq_bind h
        refine bq_callV S hK hz mv_X7_46 (c_X7_of hv) (kc_X7_of hv) dX7_buildsUp_27 [.int v10] (rest := []) rfl rfl rfl hl.1 (Nat.le_of_ble_eq_true rfl) ⟨Nat.le_of_ble_eq_true rfl, Nat.le_of_ble_eq_true rfl⟩ ⟨Nat.zero_le _, Nat.zero_le _⟩ hW (fun H locs hW => ?_)
        refine lv_istore_n (lv' := [(3, .int v10), (2, .int v9), (0, .ref a0)]) hx hb dX7_buildsUp_30 rfl hl (by decide) rfl (fun ls hl => ?_)
        refine lv_goto (tgt := 4) hx hb dX7_buildsUp_31 (by decide) ?_
        exact ih v9 v10 E7 _ _ _ h hW (lv_sub hl [2, 1, 0] rfl)
  exact hL4 bq_fuel (0 : Int32) x1 E _ _ _ h hW (lv_sub hl [2, 1, 0] rfl)

theorem kc_X7_rebuilds {E : bq_E} {a0 : Nat} {x1 : Int32} {R : (Int32 × bq_E)} (h : tw_X7_rebuilds E a0 x1 = some R) : bq_cls E a0 = 7 := (bq_guard h).1
set_option maxHeartbeats 4000000 in
set_option maxRecDepth 100000 in
theorem c_X7_rebuilds {l : Launch} {g : bq_G} {L : List Nat} {z : Nat} {E : bq_E} {a0 : Nat} {x1 : Int32} {R : (Int32 × bq_E)} (h : tw_X7_rebuilds E a0 x1 = some R) : bq_M l yX7_rebuilds cX7_rebuilds 4 (some .int) 4 95 [.ref a0, .int x1] g L E z (some (.int R.1)) R.2 := by
  unfold tw_X7_rebuilds at h
  obtain ⟨hcl, h⟩ := bq_guard h
  refine bq_enter (by decide) (Nat.le_of_ble_eq_true rfl) ?_
  intro p e s m args below meth c S hr hlocks hK hz hW ls hl
  have S : CallFix p m c cX7_rebuilds 4 s args bq_WA RX7 := S
  have hx := S.1
  have hb := S.2.1
  have hl : lv_has ls 4 [(0, .ref a0), (1, .int x1)] := hl
  refine lv_iconst (v := 0) hx hb dX7_rebuilds_0 (by decide) ?_
  refine lv_istore_n (lv' := [(2, .int (0 : Int32)), (0, .ref a0), (1, .int x1)]) hx hb dX7_rebuilds_1 rfl hl (by decide) rfl (fun ls hl => ?_)
  refine lv_aload_n hx hb dX7_rebuilds_2 rfl (lv_at hl 1 rfl) ?_
  refine lv_iload_n hx hb dX7_rebuilds_3 rfl (lv_at hl 2 rfl) ?_
  refine lv_iconst (v := 0) hx hb dX7_rebuilds_4 (by decide) ?_
  obtain ⟨v1, hv, h⟩ := bq_bind h
  refine bq_callV S hK hz mv_X7_74 (c_X7_next hv) (kc_X7_next hv) dX7_rebuilds_5 [.int v1] (rest := []) rfl rfl rfl hl.1 (Nat.le_of_ble_eq_true rfl) ⟨Nat.le_of_ble_eq_true rfl, Nat.le_of_ble_eq_true rfl⟩ ⟨Nat.zero_le _, Nat.zero_le _⟩ hW (fun H locs hW => ?_)
  refine lv_istore_n (lv' := [(3, .int v1), (2, .int (0 : Int32)), (0, .ref a0), (1, .int x1)]) hx hb dX7_rebuilds_8 rfl hl (by decide) rfl (fun ls hl => ?_)
  have hL9 : ∀ (K : Int32 → Int32 → bq_E → Option (Int32 × bq_E)) (hX : ∀ (u28 : Int32) (u29 : Int32) (E30 : bq_E) (H1 : Heap) (locs1 : List Loc) (ls1 : Array Slot), K u28 u29 E30 = some R → bq_H g L E30 z s.heap H1 locs1 → lv_has ls1 4 [(0, .ref a0), (1, .int x1), (2, .int u28)] → W p l e { frames := 4, cells := 0, slots := 0, locals := 95 } s m args below meth c H1 locs1 0 0 (MQ below (bq_Q g L R.2 z (some (.int R.1))) args s 0 0 (bq_A z)) (F0 m 36 ls1 [])), ∀ (n : Nat) (z21 : Int32) (z22 : Int32) (E23 : bq_E) (H1 : Heap) (locs1 : List Loc) (ls1 : Array Slot), tl_X7_rebuilds_9 a0 x1 K n z21 z22 E23 = some R → bq_H g L E23 z s.heap H1 locs1 → lv_has ls1 4 [(0, .ref a0), (1, .int x1), (2, .int z21), (3, .int z22)] → W p l e { frames := 4, cells := 0, slots := 0, locals := 95 } s m args below meth c H1 locs1 0 0 (MQ below (bq_Q g L R.2 z (some (.int R.1))) args s 0 0 (bq_A z)) (F0 m 9 ls1 []) := by
    intro K hX n
    induction n with
    | zero => intro z21 z22 E23 H locs ls h hW hl; cases h
    | succ n ih =>
      intro z21 z22 E23 H locs ls h hW hl
      rw [tl_X7_rebuilds_9.eq_2] at h
      refine lv_iload_n hx hb dX7_rebuilds_9 rfl (lv_at hl 3 rfl) ?_
      refine lv_iconst (v := (-1)) hx hb dX7_rebuilds_10 (by decide) ?_
      refine lv_icmp_eq (tgt := 36) hx hb dX7_rebuilds_11 (by decide) (fun hc => ?_) (fun hc => ?_)
      · replace h := bq_ifT hc h
        exact hX z21 z22 E23 _ _ _ h hW (lv_sub hl [0, 1, 2] rfl)
      · replace h := bq_ifF hc h
        refine lv_aload_n hx hb dX7_rebuilds_14 rfl (lv_at hl 0 rfl) ?_
        obtain ⟨v24, hv, h⟩ := bq_bind h
        refine bq_getr S hK fl_X7_19 dX7_rebuilds_15 hv hW ?_
        refine lv_iload_n hx hb dX7_rebuilds_18 rfl (lv_at hl 2 rfl) ?_
        refine lv_iload_n hx hb dX7_rebuilds_19 rfl (lv_at hl 3 rfl) ?_
        obtain ⟨E25, hv, h⟩ := bq_bind h
        refine bq_iast S hK dX7_rebuilds_20 hv hW (fun H locs hW => ?_)
        obtain ⟨v26, ev26⟩ : ∃ y : Int32, y = z21 + 1 := ⟨_, rfl⟩
        replace h := bq_letE ev26 h
        refine lv_iinc (v := v26) (lv' := [(2, .int v26), (0, .ref a0), (1, .int x1), (3, .int z22)]) hx hb dX7_rebuilds_21 hl (k := 2) rfl (by rw [ev26]; rfl) (by decide) rfl (fun ls hl => ?_)
        refine lv_aload_n hx hb dX7_rebuilds_24 rfl (lv_at hl 1 rfl) ?_
        refine lv_iload_n hx hb dX7_rebuilds_25 rfl (lv_at hl 2 rfl) ?_
        refine lv_iload_n hx hb dX7_rebuilds_26 rfl (lv_at hl 3 rfl) ?_
        refine lv_iconst (v := 1) hx hb dX7_rebuilds_27 (by decide) ?_
        refine lv_iadd hx hb dX7_rebuilds_28 ?_
        obtain ⟨v27, hv, h⟩ := bq_bind h
        refine bq_callV S hK hz mv_X7_74 (c_X7_next hv) (kc_X7_next hv) dX7_rebuilds_29 [.int v27] (rest := []) rfl rfl rfl hl.1 (Nat.le_of_ble_eq_true rfl) ⟨Nat.le_of_ble_eq_true rfl, Nat.le_of_ble_eq_true rfl⟩ ⟨Nat.zero_le _, Nat.zero_le _⟩ hW (fun H locs hW => ?_)
        refine lv_istore_n (lv' := [(3, .int v27), (2, .int v26), (0, .ref a0), (1, .int x1)]) hx hb dX7_rebuilds_32 rfl hl (by decide) rfl (fun ls hl => ?_)
        refine lv_goto (tgt := 9) hx hb dX7_rebuilds_33 (by decide) ?_
        exact ih v26 v27 E25 _ _ _ h hW (lv_sub hl [2, 3, 1, 0] rfl)
  refine hL9 _ (fun y2 y3 E4 H locs ls h hW hl => ?_) bq_fuel (0 : Int32) v1 E _ _ _ h hW (lv_sub hl [2, 3, 1, 0] rfl)
  refine lv_aload_n hx hb dX7_rebuilds_36 rfl (lv_at hl 0 rfl) ?_
  refine lv_iload_n hx hb dX7_rebuilds_37 rfl (lv_at hl 1 rfl) ?_
  refine lv_iconst (v := 3) hx hb dX7_rebuilds_38 (by decide) ?_
  refine lv_iload_n hx hb dX7_rebuilds_39 rfl (lv_at hl 2 rfl) ?_
  obtain ⟨E5, hv, h⟩ := bq_bind h
  refine bq_callV S hK hz mv_X7_59 (c_X7_puts hv) (kc_X7_puts hv) dX7_rebuilds_40 [] (rest := []) rfl rfl rfl hl.1 (Nat.le_of_ble_eq_true rfl) ⟨Nat.le_of_ble_eq_true rfl, Nat.le_of_ble_eq_true rfl⟩ ⟨Nat.zero_le _, Nat.zero_le _⟩ hW (fun H locs hW => ?_)
  refine lv_aload_n hx hb dX7_rebuilds_43 rfl (lv_at hl 0 rfl) ?_
  refine lv_iload_n hx hb dX7_rebuilds_44 rfl (lv_at hl 1 rfl) ?_
  refine lv_bipush (v := 52) hx hb dX7_rebuilds_45 (by decide) ?_
  refine lv_iconst (v := 0) hx hb dX7_rebuilds_47 (by decide) ?_
  obtain ⟨E6, hv, h⟩ := bq_bind h
  refine bq_callV S hK hz mv_X7_59 (c_X7_puts hv) (kc_X7_puts hv) dX7_rebuilds_48 [] (rest := []) rfl rfl rfl hl.1 (Nat.le_of_ble_eq_true rfl) ⟨Nat.le_of_ble_eq_true rfl, Nat.le_of_ble_eq_true rfl⟩ ⟨Nat.zero_le _, Nat.zero_le _⟩ hW (fun H locs hW => ?_)
  refine lv_iconst (v := 0) hx hb dX7_rebuilds_51 (by decide) ?_
  refine lv_istore_n (lv' := [(3, .int (0 : Int32)), (0, .ref a0), (1, .int x1), (2, .int y2)]) hx hb dX7_rebuilds_52 rfl hl (by decide) rfl (fun ls hl => ?_)
  have hL53 : ∀ (n : Nat) (z9 : Int32) (E10 : bq_E) (H1 : Heap) (locs1 : List Loc) (ls1 : Array Slot), tl_X7_rebuilds_53 a0 x1 y2 n z9 E10 = some R → bq_H g L E10 z s.heap H1 locs1 → lv_has ls1 4 [(0, .ref a0), (1, .int x1), (2, .int y2), (3, .int z9)] → W p l e { frames := 4, cells := 0, slots := 0, locals := 95 } s m args below meth c H1 locs1 0 0 (MQ below (bq_Q g L R.2 z (some (.int R.1))) args s 0 0 (bq_A z)) (F0 m 53 ls1 []) := by
    intro n
    induction n with
    | zero => intro z9 E10 H locs ls h hW hl; cases h
    | succ n ih =>
      intro z9 E10 H locs ls h hW hl
      rw [tl_X7_rebuilds_53.eq_2] at h
      refine lv_iload_n hx hb dX7_rebuilds_53 rfl (lv_at hl 3 rfl) ?_
      refine lv_bipush (v := 24) hx hb dX7_rebuilds_54 (by decide) ?_
      refine lv_icmp_ge (tgt := 98) hx hb dX7_rebuilds_56 (by decide) (fun hc => ?_) (fun hc => ?_)
      · replace h := bq_ifT hc h
        refine lv_aload_n hx hb dX7_rebuilds_98 rfl (lv_at hl 0 rfl) ?_
        obtain ⟨v11, hv, h⟩ := bq_bind h
        refine bq_getr S hK fl_X7_7 dX7_rebuilds_99 hv hW ?_
        refine lv_bipush (v := 7) hx hb dX7_rebuilds_102 (by decide) ?_
        refine lv_dup2_11 hx hb dX7_rebuilds_104 rfl rfl ?_
        obtain ⟨v12, hv, h⟩ := bq_bind h
        refine bq_iald S hK dX7_rebuilds_105 hv hW ?_
        refine lv_iconst (v := 1) hx hb dX7_rebuilds_106 (by decide) ?_
        refine lv_iadd hx hb dX7_rebuilds_107 ?_
        obtain ⟨E13, hv, h⟩ := bq_bind h
        refine bq_iast S hK dX7_rebuilds_108 hv hW (fun H locs hW => ?_)
        refine lv_aload_n hx hb dX7_rebuilds_109 rfl (lv_at hl 0 rfl) ?_
        refine lv_iload_n hx hb dX7_rebuilds_110 rfl (lv_at hl 1 rfl) ?_
        obtain ⟨v14, hv, h⟩ := bq_bind h
        refine bq_callV S hK hz mv_X7_77 (c_X7_buildsUp hv) (kc_X7_buildsUp hv) dX7_rebuilds_111 [.int v14.1] (rest := []) rfl rfl rfl hl.1 (Nat.le_of_ble_eq_true rfl) ⟨Nat.le_of_ble_eq_true rfl, Nat.le_of_ble_eq_true rfl⟩ ⟨Nat.zero_le _, Nat.zero_le _⟩ hW (fun H locs hW => ?_)
        cases h
        exact bq_reti S hr hlocks hK hz dX7_rebuilds_114 hW
      · replace h := bq_ifF hc h
        refine lv_aload_n hx hb dX7_rebuilds_59 rfl (lv_at hl 0 rfl) ?_
        refine lv_iload_n hx hb dX7_rebuilds_60 rfl (lv_at hl 1 rfl) ?_
        refine lv_iconst (v := 4) hx hb dX7_rebuilds_61 (by decide) ?_
        refine lv_iload_n hx hb dX7_rebuilds_62 rfl (lv_at hl 3 rfl) ?_
        refine lv_iadd hx hb dX7_rebuilds_63 ?_
        refine lv_iload_n hx hb dX7_rebuilds_64 rfl (lv_at hl 3 rfl) ?_
        refine lv_iload_n hx hb dX7_rebuilds_65 rfl (lv_at hl 2 rfl) ?_
        obtain ⟨k79, ek79, h⟩ := bq_letK h
        have hjk79 : ∀ (b15 : Int32) (H1 : Heap) (locs1 : List Loc) (ls1 : Array Slot), k79 b15 = some R → bq_H g L E10 z s.heap H1 locs1 → lv_has ls1 4 [(0, .ref a0), (1, .int x1), (2, .int y2), (3, .int z9)] → W p l e { frames := 4, cells := 0, slots := 0, locals := 95 } s m args below meth c H1 locs1 0 0 (MQ below (bq_Q g L R.2 z (some (.int R.1))) args s 0 0 (bq_A z)) (F0 m 79 ls1 [.int b15, .int ((4 : Int32) + z9), .int x1, .ref a0]) := by
          intro b15 H locs ls h hW hl
          replace h := bq_kap1 ek79 h
          obtain ⟨E16, hv, h⟩ := bq_bind h
          refine bq_callV S hK hz mv_X7_59 (c_X7_puts hv) (kc_X7_puts hv) dX7_rebuilds_79 [] (rest := []) rfl rfl rfl hl.1 (Nat.le_of_ble_eq_true rfl) ⟨Nat.le_of_ble_eq_true rfl, Nat.le_of_ble_eq_true rfl⟩ ⟨Nat.zero_le _, Nat.zero_le _⟩ hW (fun H locs hW => ?_)
          refine lv_aload_n hx hb dX7_rebuilds_82 rfl (lv_at hl 0 rfl) ?_
          refine lv_iload_n hx hb dX7_rebuilds_83 rfl (lv_at hl 1 rfl) ?_
          refine lv_bipush (v := 28) hx hb dX7_rebuilds_84 (by decide) ?_
          refine lv_iload_n hx hb dX7_rebuilds_86 rfl (lv_at hl 3 rfl) ?_
          refine lv_iadd hx hb dX7_rebuilds_87 ?_
          refine lv_iconst (v := 0) hx hb dX7_rebuilds_88 (by decide) ?_
          obtain ⟨E17, hv, h⟩ := bq_bind h
          refine bq_callV S hK hz mv_X7_59 (c_X7_puts hv) (kc_X7_puts hv) dX7_rebuilds_89 [] (rest := []) rfl rfl rfl hl.1 (Nat.le_of_ble_eq_true rfl) ⟨Nat.le_of_ble_eq_true rfl, Nat.le_of_ble_eq_true rfl⟩ ⟨Nat.zero_le _, Nat.zero_le _⟩ hW (fun H locs hW => ?_)
          obtain ⟨v18, ev18⟩ : ∃ y : Int32, y = z9 + 1 := ⟨_, rfl⟩
          replace h := bq_letE ev18 h
          refine lv_iinc (v := v18) (lv' := [(3, .int v18), (0, .ref a0), (1, .int x1), (2, .int y2)]) hx hb dX7_rebuilds_92 hl (k := 3) rfl (by rw [ev18]; rfl) (by decide) rfl (fun ls hl => ?_)
          refine lv_goto (tgt := 53) hx hb dX7_rebuilds_95 (by decide) ?_
          exact ih v18 E17 _ _ _ h hW (lv_sub hl [1, 2, 3, 0] rfl)
        clear ek79
        refine lv_icmp_ge (tgt := 78) hx hb dX7_rebuilds_66 (by decide) (fun hc => ?_) (fun hc => ?_)
        · replace h := bq_ifT hc h
          refine lv_iconst (v := 0) hx hb dX7_rebuilds_78 (by decide) ?_
          exact hjk79 (0 : Int32) _ _ _ h hW (lv_sub hl [0, 1, 2, 3] rfl)
        · replace h := bq_ifF hc h
          refine lv_aload_n hx hb dX7_rebuilds_69 rfl (lv_at hl 0 rfl) ?_
          obtain ⟨v19, hv, h⟩ := bq_bind h
          refine bq_getr S hK fl_X7_19 dX7_rebuilds_70 hv hW ?_
          refine lv_iload_n hx hb dX7_rebuilds_73 rfl (lv_at hl 3 rfl) ?_
          obtain ⟨v20, hv, h⟩ := bq_bind h
          refine bq_iald S hK dX7_rebuilds_74 hv hW ?_
          refine lv_goto (tgt := 79) hx hb dX7_rebuilds_75 (by decide) ?_
          exact hjk79 v20 _ _ _ h hW (lv_sub hl [0, 1, 2, 3] rfl)
  exact hL53 bq_fuel (0 : Int32) E6 _ _ _ h hW (lv_sub hl [1, 2, 3, 0] rfl)

theorem kc_X7_addNode {E : bq_E} {a0 : Nat} {x1 : Int32} {x2 : Int32} {R : (Int32 × bq_E)} (h : tw_X7_addNode E a0 x1 x2 = some R) : bq_cls E a0 = 7 := (bq_guard h).1
set_option maxHeartbeats 4000000 in
set_option maxRecDepth 100000 in
theorem c_X7_addNode {l : Launch} {g : bq_G} {L : List Nat} {z : Nat} {E : bq_E} {a0 : Nat} {x1 : Int32} {x2 : Int32} {R : (Int32 × bq_E)} (h : tw_X7_addNode E a0 x1 x2 = some R) : bq_M l yX7_addNode cX7_addNode 5 (some .int) 4 95 [.ref a0, .int x1, .int x2] g L E z (some (.int R.1)) R.2 := by
  unfold tw_X7_addNode at h
  obtain ⟨hcl, h⟩ := bq_guard h
  refine bq_enter (by decide) (Nat.le_of_ble_eq_true rfl) ?_
  intro p e s m args below meth c S hr hlocks hK hz hW ls hl
  have S : CallFix p m c cX7_addNode 5 s args bq_WA RX7 := S
  have hx := S.1
  have hb := S.2.1
  have hl : lv_has ls 5 [(0, .ref a0), (1, .int x1), (2, .int x2)] := hl
  refine lv_aload_n hx hb dX7_addNode_0 rfl (lv_at hl 0 rfl) ?_
  refine lv_iload_n hx hb dX7_addNode_1 rfl (lv_at hl 1 rfl) ?_
  obtain ⟨v1, hv, h⟩ := bq_bind h
  refine bq_callV S hK hz mv_X7_80 (c_X7_isNode hv) (kc_X7_isNode hv) dX7_addNode_2 [.int (bq_b v1)] (rest := []) rfl rfl rfl hl.1 (Nat.le_of_ble_eq_true rfl) ⟨Nat.le_of_ble_eq_true rfl, Nat.le_of_ble_eq_true rfl⟩ ⟨Nat.zero_le _, Nat.zero_le _⟩ hW (fun H locs hW => ?_)
  refine lv_if_ne (tgt := 14) hx hb dX7_addNode_5 (by decide) (fun hc => ?_) (fun hc => ?_)
  · replace h := bq_ifF hc h
    refine lv_iload_n hx hb dX7_addNode_14 rfl (lv_at hl 2 rfl) ?_
    refine lv_iconst (v := 1) hx hb dX7_addNode_15 (by decide) ?_
    refine lv_iconst (v := 2) hx hb dX7_addNode_16 (by decide) ?_
    obtain ⟨v2, hv, h⟩ := bq_bind h
    refine bq_callS S hK hz ms_X7_42 (c_X7_in hv) dX7_addNode_17 [.int (bq_b v2)] (rest := []) rfl rfl rfl hl.1 (Nat.le_of_ble_eq_true rfl) ⟨Nat.le_of_ble_eq_true rfl, Nat.le_of_ble_eq_true rfl⟩ ⟨Nat.zero_le _, Nat.zero_le _⟩ hW (fun H locs hW => ?_)
    refine lv_if_ne (tgt := 29) hx hb dX7_addNode_20 (by decide) (fun hc => ?_) (fun hc => ?_)
    · replace h := bq_ifF hc h
      refine lv_aload_n hx hb dX7_addNode_29 rfl (lv_at hl 0 rfl) ?_
      obtain ⟨v3, hv, h⟩ := bq_bind h
      refine bq_getr S hK fl_X7_7 dX7_addNode_30 hv hW ?_
      refine lv_iconst (v := 0) hx hb dX7_addNode_33 (by decide) ?_
      obtain ⟨v4, hv, h⟩ := bq_bind h
      refine bq_iald S hK dX7_addNode_34 hv hW ?_
      refine lv_bipush (v := 15) hx hb dX7_addNode_35 (by decide) ?_
      obtain ⟨k52, ek52, h⟩ := bq_letK h
      have hjk52 : ∀ (u0 : Unit) (H1 : Heap) (locs1 : List Loc) (ls1 : Array Slot), k52 u0 = some R → bq_H g L E z s.heap H1 locs1 → lv_has ls1 5 [(0, .ref a0)] → W p l e { frames := 4, cells := 0, slots := 0, locals := 95 } s m args below meth c H1 locs1 0 0 (MQ below (bq_Q g L R.2 z (some (.int R.1))) args s 0 0 (bq_A z)) (F0 m 52 ls1 []) := by
        intro u0 H locs ls h hW hl
        replace h := bq_kap1 ek52 h
        refine lv_aload_n hx hb dX7_addNode_52 rfl (lv_at hl 0 rfl) ?_
        refine lv_iconst (v := 3) hx hb dX7_addNode_53 (by decide) ?_
        obtain ⟨v5, hv, h⟩ := bq_bind h
        refine bq_callV S hK hz mv_X7_84 (c_X7_fails hv) (kc_X7_fails hv) dX7_addNode_54 [.int v5.1] (rest := []) rfl rfl rfl hl.1 (Nat.le_of_ble_eq_true rfl) ⟨Nat.le_of_ble_eq_true rfl, Nat.le_of_ble_eq_true rfl⟩ ⟨Nat.zero_le _, Nat.zero_le _⟩ hW (fun H locs hW => ?_)
        cases h
        exact bq_reti S hr hlocks hK hz dX7_addNode_57 hW
      clear ek52
      refine lv_icmp_eq (tgt := 52) hx hb dX7_addNode_37 (by decide) (fun hc => ?_) (fun hc => ?_)
      · replace h := bq_ifT hc h
        exact hjk52 () _ _ _ h hW (lv_sub hl [0] rfl)
      · replace h := bq_ifF hc h
        refine lv_aload_n hx hb dX7_addNode_40 rfl (lv_at hl 0 rfl) ?_
        refine lv_iload_n hx hb dX7_addNode_41 rfl (lv_at hl 1 rfl) ?_
        refine lv_iconst (v := 0) hx hb dX7_addNode_42 (by decide) ?_
        refine lv_iload_n hx hb dX7_addNode_43 rfl (lv_at hl 2 rfl) ?_
        refine lv_iadd hx hb dX7_addNode_44 ?_
        obtain ⟨v6, hv, h⟩ := bq_bind h
        refine bq_callV S hK hz mv_X7_46 (c_X7_of hv) (kc_X7_of hv) dX7_addNode_45 [.int v6] (rest := []) rfl rfl rfl hl.1 (Nat.le_of_ble_eq_true rfl) ⟨Nat.le_of_ble_eq_true rfl, Nat.le_of_ble_eq_true rfl⟩ ⟨Nat.zero_le _, Nat.zero_le _⟩ hW (fun H locs hW => ?_)
        refine lv_iconst (v := (-1)) hx hb dX7_addNode_48 (by decide) ?_
        refine lv_icmp_eq (tgt := 58) hx hb dX7_addNode_49 (by decide) (fun hc => ?_) (fun hc => ?_)
        · replace h := bq_ifT hc h
          refine lv_aload_n hx hb dX7_addNode_58 rfl (lv_at hl 0 rfl) ?_
          obtain ⟨E7, hv, h⟩ := bq_bind h
          refine bq_callV S hK hz mv_X7_87 (c_X7_hold hv) (kc_X7_hold hv) dX7_addNode_59 [] (rest := []) rfl rfl rfl hl.1 (Nat.le_of_ble_eq_true rfl) ⟨Nat.le_of_ble_eq_true rfl, Nat.le_of_ble_eq_true rfl⟩ ⟨Nat.zero_le _, Nat.zero_le _⟩ hW (fun H locs hW => ?_)
          refine lv_aload_n hx hb dX7_addNode_62 rfl (lv_at hl 0 rfl) ?_
          obtain ⟨v8, hv, h⟩ := bq_bind h
          refine bq_getr S hK fl_X7_7 dX7_addNode_63 hv hW ?_
          refine lv_iconst (v := 0) hx hb dX7_addNode_66 (by decide) ?_
          obtain ⟨v9, hv, h⟩ := bq_bind h
          refine bq_iald S hK dX7_addNode_67 hv hW ?_
          refine lv_istore_n (lv' := [(3, .int v9), (0, .ref a0), (1, .int x1), (2, .int x2)]) hx hb dX7_addNode_68 rfl hl (by decide) rfl (fun ls hl => ?_)
          refine lv_aload_n hx hb dX7_addNode_69 rfl (lv_at hl 1 rfl) ?_
          obtain ⟨v10, hv, h⟩ := bq_bind h
          refine bq_getr S hK fl_X7_7 dX7_addNode_70 hv hW ?_
          refine lv_iconst (v := 0) hx hb dX7_addNode_73 (by decide) ?_
          refine lv_dup2_11 hx hb dX7_addNode_74 rfl rfl ?_
          obtain ⟨v11, hv, h⟩ := bq_bind h
          refine bq_iald S hK dX7_addNode_75 hv hW ?_
          refine lv_iconst (v := 1) hx hb dX7_addNode_76 (by decide) ?_
          refine lv_iadd hx hb dX7_addNode_77 ?_
          obtain ⟨E12, hv, h⟩ := bq_bind h
          refine bq_iast S hK dX7_addNode_78 hv hW (fun H locs hW => ?_)
          refine lv_iconst (v := 0) hx hb dX7_addNode_79 (by decide) ?_
          refine lv_istore (lv' := [(4, .int (0 : Int32)), (3, .int v9), (0, .ref a0), (1, .int x1), (2, .int x2)]) hx hb dX7_addNode_80 hl (by decide) rfl (fun ls hl => ?_)
          have hL82 : ∀ (K : Int32 → bq_E → Option (Int32 × bq_E)) (hX : ∀ (u26 : Int32) (E27 : bq_E) (H1 : Heap) (locs1 : List Loc) (ls1 : Array Slot), K u26 E27 = some R → bq_H g L E27 z s.heap H1 locs1 → lv_has ls1 5 [(0, .ref a0), (1, .int x1), (2, .int x2), (3, .int v9)] → W p l e { frames := 4, cells := 0, slots := 0, locals := 95 } s m args below meth c H1 locs1 0 0 (MQ below (bq_Q g L R.2 z (some (.int R.1))) args s 0 0 (bq_A z)) (F0 m 104 ls1 [])), ∀ (n : Nat) (z22 : Int32) (E23 : bq_E) (H1 : Heap) (locs1 : List Loc) (ls1 : Array Slot), tl_X7_addNode_82 a0 x1 x2 v9 K n z22 E23 = some R → bq_H g L E23 z s.heap H1 locs1 → lv_has ls1 5 [(0, .ref a0), (1, .int x1), (2, .int x2), (3, .int v9), (4, .int z22)] → W p l e { frames := 4, cells := 0, slots := 0, locals := 95 } s m args below meth c H1 locs1 0 0 (MQ below (bq_Q g L R.2 z (some (.int R.1))) args s 0 0 (bq_A z)) (F0 m 82 ls1 []) := by
            intro K hX n
            induction n with
            | zero => intro z22 E23 H locs ls h hW hl; cases h
            | succ n ih =>
              intro z22 E23 H locs ls h hW hl
              rw [tl_X7_addNode_82.eq_2] at h
              refine lv_iload hx hb dX7_addNode_82 (lv_at hl 4 rfl) ?_
              refine lv_sipush (v := 545) hx hb dX7_addNode_84 (by decide) ?_
              refine lv_icmp_ge (tgt := 104) hx hb dX7_addNode_87 (by decide) (fun hc => ?_) (fun hc => ?_)
              · replace h := bq_ifT hc h
                exact hX z22 E23 _ _ _ h hW (lv_sub hl [0, 1, 2, 3] rfl)
              · replace h := bq_ifF hc h
                refine lv_aload_n hx hb dX7_addNode_90 rfl (lv_at hl 0 rfl) ?_
                refine lv_iload_n hx hb dX7_addNode_91 rfl (lv_at hl 3 rfl) ?_
                refine lv_iload hx hb dX7_addNode_92 (lv_at hl 4 rfl) ?_
                refine lv_iconst (v := 0) hx hb dX7_addNode_94 (by decide) ?_
                obtain ⟨E24, hv, h⟩ := bq_bind h
                refine bq_callV S hK hz mv_X7_59 (c_X7_puts hv) (kc_X7_puts hv) dX7_addNode_95 [] (rest := []) rfl rfl rfl hl.1 (Nat.le_of_ble_eq_true rfl) ⟨Nat.le_of_ble_eq_true rfl, Nat.le_of_ble_eq_true rfl⟩ ⟨Nat.zero_le _, Nat.zero_le _⟩ hW (fun H locs hW => ?_)
                obtain ⟨v25, ev25⟩ : ∃ y : Int32, y = z22 + 1 := ⟨_, rfl⟩
                replace h := bq_letE ev25 h
                refine lv_iinc (v := v25) (lv' := [(4, .int v25), (0, .ref a0), (1, .int x1), (2, .int x2), (3, .int v9)]) hx hb dX7_addNode_98 hl (k := 4) rfl (by rw [ev25]; rfl) (by decide) rfl (fun ls hl => ?_)
                refine lv_goto (tgt := 82) hx hb dX7_addNode_101 (by decide) ?_
                exact ih v25 E24 _ _ _ h hW (lv_sub hl [1, 2, 3, 4, 0] rfl)
          refine hL82 _ (fun y13 E14 H locs ls h hW hl => ?_) bq_fuel (0 : Int32) E12 _ _ _ h hW (lv_sub hl [2, 3, 4, 1, 0] rfl)
          refine lv_aload_n hx hb dX7_addNode_104 rfl (lv_at hl 0 rfl) ?_
          refine lv_iload_n hx hb dX7_addNode_105 rfl (lv_at hl 3 rfl) ?_
          refine lv_iconst (v := 0) hx hb dX7_addNode_106 (by decide) ?_
          refine lv_iload_n hx hb dX7_addNode_107 rfl (lv_at hl 1 rfl) ?_
          obtain ⟨E15, hv, h⟩ := bq_bind h
          refine bq_callV S hK hz mv_X7_59 (c_X7_puts hv) (kc_X7_puts hv) dX7_addNode_108 [] (rest := []) rfl rfl rfl hl.1 (Nat.le_of_ble_eq_true rfl) ⟨Nat.le_of_ble_eq_true rfl, Nat.le_of_ble_eq_true rfl⟩ ⟨Nat.zero_le _, Nat.zero_le _⟩ hW (fun H locs hW => ?_)
          refine lv_aload_n hx hb dX7_addNode_111 rfl (lv_at hl 0 rfl) ?_
          refine lv_iload_n hx hb dX7_addNode_112 rfl (lv_at hl 3 rfl) ?_
          refine lv_iconst (v := 1) hx hb dX7_addNode_113 (by decide) ?_
          refine lv_iconst (v := (-1)) hx hb dX7_addNode_114 (by decide) ?_
          obtain ⟨E16, hv, h⟩ := bq_bind h
          refine bq_callV S hK hz mv_X7_59 (c_X7_puts hv) (kc_X7_puts hv) dX7_addNode_115 [] (rest := []) rfl rfl rfl hl.1 (Nat.le_of_ble_eq_true rfl) ⟨Nat.le_of_ble_eq_true rfl, Nat.le_of_ble_eq_true rfl⟩ ⟨Nat.zero_le _, Nat.zero_le _⟩ hW (fun H locs hW => ?_)
          refine lv_aload_n hx hb dX7_addNode_118 rfl (lv_at hl 0 rfl) ?_
          refine lv_iload_n hx hb dX7_addNode_119 rfl (lv_at hl 3 rfl) ?_
          refine lv_iconst (v := 2) hx hb dX7_addNode_120 (by decide) ?_
          refine lv_iconst (v := (-1)) hx hb dX7_addNode_121 (by decide) ?_
          obtain ⟨E17, hv, h⟩ := bq_bind h
          refine bq_callV S hK hz mv_X7_59 (c_X7_puts hv) (kc_X7_puts hv) dX7_addNode_122 [] (rest := []) rfl rfl rfl hl.1 (Nat.le_of_ble_eq_true rfl) ⟨Nat.le_of_ble_eq_true rfl, Nat.le_of_ble_eq_true rfl⟩ ⟨Nat.zero_le _, Nat.zero_le _⟩ hW (fun H locs hW => ?_)
          refine lv_aload_n hx hb dX7_addNode_125 rfl (lv_at hl 0 rfl) ?_
          refine lv_iload_n hx hb dX7_addNode_126 rfl (lv_at hl 1 rfl) ?_
          refine lv_iconst (v := 0) hx hb dX7_addNode_127 (by decide) ?_
          refine lv_iload_n hx hb dX7_addNode_128 rfl (lv_at hl 2 rfl) ?_
          refine lv_iadd hx hb dX7_addNode_129 ?_
          refine lv_iload_n hx hb dX7_addNode_130 rfl (lv_at hl 3 rfl) ?_
          obtain ⟨E18, hv, h⟩ := bq_bind h
          refine bq_callV S hK hz mv_X7_59 (c_X7_puts hv) (kc_X7_puts hv) dX7_addNode_131 [] (rest := []) rfl rfl rfl hl.1 (Nat.le_of_ble_eq_true rfl) ⟨Nat.le_of_ble_eq_true rfl, Nat.le_of_ble_eq_true rfl⟩ ⟨Nat.zero_le _, Nat.zero_le _⟩ hW (fun H locs hW => ?_)
          refine lv_aload_n hx hb dX7_addNode_134 rfl (lv_at hl 0 rfl) ?_
          refine lv_iload_n hx hb dX7_addNode_135 rfl (lv_at hl 3 rfl) ?_
          obtain ⟨v19, hv, h⟩ := bq_bind h
          refine bq_callV S hK hz mv_X7_77 (c_X7_buildsUp hv) (kc_X7_buildsUp hv) dX7_addNode_136 [.int v19.1] (rest := []) rfl rfl rfl hl.1 (Nat.le_of_ble_eq_true rfl) ⟨Nat.le_of_ble_eq_true rfl, Nat.le_of_ble_eq_true rfl⟩ ⟨Nat.zero_le _, Nat.zero_le _⟩ hW (fun H locs hW => ?_)
          refine lv_istore (lv' := [(4, .int v19.1), (0, .ref a0), (1, .int x1), (2, .int x2), (3, .int v9)]) hx hb dX7_addNode_139 hl (by decide) rfl (fun ls hl => ?_)
          refine lv_aload_n hx hb dX7_addNode_141 rfl (lv_at hl 1 rfl) ?_
          refine lv_iload hx hb dX7_addNode_142 (lv_at hl 0 rfl) ?_
          refine lv_if_ge (tgt := 152) hx hb dX7_addNode_144 (by decide) (fun hc => ?_) (fun hc => ?_)
          · replace h := bq_ifT hc h
            refine lv_iload_n hx hb dX7_addNode_152 rfl (lv_at hl 4 rfl) ?_
            obtain ⟨v20, hv, h⟩ := bq_bind h
            refine bq_callV S hK hz mv_X7_90 (c_X7_ends hv) (kc_X7_ends hv) dX7_addNode_153 [.int v20.1] (rest := []) rfl rfl rfl hl.1 (Nat.le_of_ble_eq_true rfl) ⟨Nat.le_of_ble_eq_true rfl, Nat.le_of_ble_eq_true rfl⟩ ⟨Nat.zero_le _, Nat.zero_le _⟩ hW (fun H locs hW => ?_)
            cases h
            exact bq_reti S hr hlocks hK hz dX7_addNode_156 hW
          · replace h := bq_ifF hc h
            refine lv_iload hx hb dX7_addNode_147 (lv_at hl 0 rfl) ?_
            refine lv_goto (tgt := 153) hx hb dX7_addNode_149 (by decide) ?_
            obtain ⟨v21, hv, h⟩ := bq_bind h
            refine bq_callV S hK hz mv_X7_90 (c_X7_ends hv) (kc_X7_ends hv) dX7_addNode_153 [.int v21.1] (rest := []) rfl rfl rfl hl.1 (Nat.le_of_ble_eq_true rfl) ⟨Nat.le_of_ble_eq_true rfl, Nat.le_of_ble_eq_true rfl⟩ ⟨Nat.zero_le _, Nat.zero_le _⟩ hW (fun H locs hW => ?_)
            cases h
            exact bq_reti S hr hlocks hK hz dX7_addNode_156 hW
        · replace h := bq_ifF hc h
          exact hjk52 () _ _ _ h hW (lv_sub hl [0] rfl)
    · replace h := bq_ifT hc h
      refine lv_aload_n hx hb dX7_addNode_23 rfl (lv_at hl 0 rfl) ?_
      refine lv_iconst (v := 2) hx hb dX7_addNode_24 (by decide) ?_
      obtain ⟨v28, hv, h⟩ := bq_bind h
      refine bq_callV S hK hz mv_X7_84 (c_X7_fails hv) (kc_X7_fails hv) dX7_addNode_25 [.int v28.1] (rest := []) rfl rfl rfl hl.1 (Nat.le_of_ble_eq_true rfl) ⟨Nat.le_of_ble_eq_true rfl, Nat.le_of_ble_eq_true rfl⟩ ⟨Nat.zero_le _, Nat.zero_le _⟩ hW (fun H locs hW => ?_)
      cases h
      exact bq_reti S hr hlocks hK hz dX7_addNode_28 hW
  · replace h := bq_ifT hc h
    refine lv_aload_n hx hb dX7_addNode_8 rfl (lv_at hl 0 rfl) ?_
    refine lv_iconst (v := 1) hx hb dX7_addNode_9 (by decide) ?_
    obtain ⟨v29, hv, h⟩ := bq_bind h
    refine bq_callV S hK hz mv_X7_84 (c_X7_fails hv) (kc_X7_fails hv) dX7_addNode_10 [.int v29.1] (rest := []) rfl rfl rfl hl.1 (Nat.le_of_ble_eq_true rfl) ⟨Nat.le_of_ble_eq_true rfl, Nat.le_of_ble_eq_true rfl⟩ ⟨Nat.zero_le _, Nat.zero_le _⟩ hW (fun H locs hW => ?_)
    cases h
    exact bq_reti S hr hlocks hK hz dX7_addNode_13 hW

theorem kc_X7_comes {E : bq_E} {a0 : Nat} {x1 : Int32} {x2 : Int32} {R : bq_E} (h : tw_X7_comes E a0 x1 x2 = some R) : bq_cls E a0 = 7 := (bq_guard h).1
set_option maxHeartbeats 4000000 in
set_option maxRecDepth 100000 in
theorem c_X7_comes {l : Launch} {g : bq_G} {L : List Nat} {z : Nat} {E : bq_E} {a0 : Nat} {x1 : Int32} {x2 : Int32} {R : bq_E} (h : tw_X7_comes E a0 x1 x2 = some R) : bq_M l yX7_comes cX7_comes 5 none 5 118 [.ref a0, .int x1, .int x2] g L E z none R := by
  unfold tw_X7_comes at h
  obtain ⟨hcl, h⟩ := bq_guard h
  refine bq_enter (by decide) (Nat.le_of_ble_eq_true rfl) ?_
  intro p e s m args below meth c S hr hlocks hK hz hW ls hl
  have S : CallFix p m c cX7_comes 5 s args bq_WA RX7 := S
  have hx := S.1
  have hb := S.2.1
  have hl : lv_has ls 5 [(0, .ref a0), (1, .int x1), (2, .int x2)] := hl
  refine lv_aload_n hx hb dX7_comes_0 rfl (lv_at hl 0 rfl) ?_
  refine lv_iload_n hx hb dX7_comes_1 rfl (lv_at hl 1 rfl) ?_
  refine lv_iload_n hx hb dX7_comes_2 rfl (lv_at hl 2 rfl) ?_
  obtain ⟨v1, hv, h⟩ := bq_bind h
  refine bq_callV S hK hz mv_X7_53 (c_X7_inBase hv) (kc_X7_inBase hv) dX7_comes_3 [.int v1] (rest := []) rfl rfl rfl hl.1 (Nat.le_of_ble_eq_true rfl) ⟨Nat.le_of_ble_eq_true rfl, Nat.le_of_ble_eq_true rfl⟩ ⟨Nat.zero_le _, Nat.zero_le _⟩ hW (fun H locs hW => ?_)
  refine lv_istore_n (lv' := [(3, .int v1), (0, .ref a0), (1, .int x1), (2, .int x2)]) hx hb dX7_comes_6 rfl hl (by decide) rfl (fun ls hl => ?_)
  refine lv_iload_n hx hb dX7_comes_7 rfl (lv_at hl 0 rfl) ?_
  refine lv_iconst (v := (-1)) hx hb dX7_comes_8 (by decide) ?_
  refine lv_icmp_eq (tgt := 23) hx hb dX7_comes_9 (by decide) (fun hc => ?_) (fun hc => ?_)
  · replace h := bq_ifT hc h
    refine lv_aload_n hx hb dX7_comes_23 rfl (lv_at hl 1 rfl) ?_
    refine lv_iload_n hx hb dX7_comes_24 rfl (lv_at hl 2 rfl) ?_
    refine lv_bipush (v := 53) hx hb dX7_comes_25 (by decide) ?_
    refine lv_aload_n hx hb dX7_comes_27 rfl (lv_at hl 1 rfl) ?_
    refine lv_iload_n hx hb dX7_comes_28 rfl (lv_at hl 2 rfl) ?_
    refine lv_bipush (v := 52) hx hb dX7_comes_29 (by decide) ?_
    obtain ⟨v2, hv, h⟩ := bq_bind h
    refine bq_callV S hK hz mv_X7_46 (c_X7_of hv) (kc_X7_of hv) dX7_comes_31 [.int v2, .int (53 : Int32), .int x1, .ref a0] (rest := [.int (53 : Int32), .int x1, .ref a0]) rfl rfl rfl hl.1 (Nat.le_of_ble_eq_true rfl) ⟨Nat.le_of_ble_eq_true rfl, Nat.le_of_ble_eq_true rfl⟩ ⟨Nat.zero_le _, Nat.zero_le _⟩ hW (fun H locs hW => ?_)
    refine lv_iadd hx hb dX7_comes_34 ?_
    refine lv_iload_n hx hb dX7_comes_35 rfl (lv_at hl 3 rfl) ?_
    obtain ⟨E3, hv, h⟩ := bq_bind h
    refine bq_callV S hK hz mv_X7_59 (c_X7_puts hv) (kc_X7_puts hv) dX7_comes_36 [] (rest := []) rfl rfl rfl hl.1 (Nat.le_of_ble_eq_true rfl) ⟨Nat.le_of_ble_eq_true rfl, Nat.le_of_ble_eq_true rfl⟩ ⟨Nat.zero_le _, Nat.zero_le _⟩ hW (fun H locs hW => ?_)
    refine lv_aload_n hx hb dX7_comes_39 rfl (lv_at hl 1 rfl) ?_
    refine lv_iload_n hx hb dX7_comes_40 rfl (lv_at hl 2 rfl) ?_
    refine lv_bipush (v := 52) hx hb dX7_comes_41 (by decide) ?_
    refine lv_aload_n hx hb dX7_comes_43 rfl (lv_at hl 1 rfl) ?_
    refine lv_iload_n hx hb dX7_comes_44 rfl (lv_at hl 2 rfl) ?_
    refine lv_bipush (v := 52) hx hb dX7_comes_45 (by decide) ?_
    obtain ⟨v4, hv, h⟩ := bq_bind h
    refine bq_callV S hK hz mv_X7_46 (c_X7_of hv) (kc_X7_of hv) dX7_comes_47 [.int v4, .int (52 : Int32), .int x1, .ref a0] (rest := [.int (52 : Int32), .int x1, .ref a0]) rfl rfl rfl hl.1 (Nat.le_of_ble_eq_true rfl) ⟨Nat.le_of_ble_eq_true rfl, Nat.le_of_ble_eq_true rfl⟩ ⟨Nat.zero_le _, Nat.zero_le _⟩ hW (fun H locs hW => ?_)
    refine lv_iconst (v := 1) hx hb dX7_comes_50 (by decide) ?_
    refine lv_iadd hx hb dX7_comes_51 ?_
    obtain ⟨E5, hv, h⟩ := bq_bind h
    refine bq_callV S hK hz mv_X7_59 (c_X7_puts hv) (kc_X7_puts hv) dX7_comes_52 [] (rest := []) rfl rfl rfl hl.1 (Nat.le_of_ble_eq_true rfl) ⟨Nat.le_of_ble_eq_true rfl, Nat.le_of_ble_eq_true rfl⟩ ⟨Nat.zero_le _, Nat.zero_le _⟩ hW (fun H locs hW => ?_)
    refine lv_aload_n hx hb dX7_comes_55 rfl (lv_at hl 1 rfl) ?_
    refine lv_iload_n hx hb dX7_comes_56 rfl (lv_at hl 2 rfl) ?_
    refine lv_bipush (v := 52) hx hb dX7_comes_57 (by decide) ?_
    obtain ⟨v6, hv, h⟩ := bq_bind h
    refine bq_callV S hK hz mv_X7_46 (c_X7_of hv) (kc_X7_of hv) dX7_comes_59 [.int v6] (rest := []) rfl rfl rfl hl.1 (Nat.le_of_ble_eq_true rfl) ⟨Nat.le_of_ble_eq_true rfl, Nat.le_of_ble_eq_true rfl⟩ ⟨Nat.zero_le _, Nat.zero_le _⟩ hW (fun H locs hW => ?_)
    refine lv_aload_n hx hb dX7_comes_62 rfl (lv_at hl 1 rfl) ?_
    obtain ⟨v7, hv, h⟩ := bq_bind h
    refine bq_getr S hK fl_X7_7 dX7_comes_63 hv hW ?_
    refine lv_iconst (v := 1) hx hb dX7_comes_66 (by decide) ?_
    obtain ⟨v8, hv, h⟩ := bq_bind h
    refine bq_iald S hK dX7_comes_67 hv hW ?_
    refine lv_icmp_lt (tgt := 78) hx hb dX7_comes_68 (by decide) (fun hc => ?_) (fun hc => ?_)
    · replace h := bq_ifT hc h
      cases h
      exact bq_retv S hr hlocks hK hz dX7_comes_78 hW
    · replace h := bq_ifF hc h
      refine lv_aload_n hx hb dX7_comes_71 rfl (lv_at hl 1 rfl) ?_
      refine lv_iload_n hx hb dX7_comes_72 rfl (lv_at hl 2 rfl) ?_
      obtain ⟨v9, hv, h⟩ := bq_bind h
      refine bq_callV S hK hz mv_X7_93 (c_X7_rebuilds hv) (kc_X7_rebuilds hv) dX7_comes_73 [.int v9.1] (rest := []) rfl rfl rfl hl.1 (Nat.le_of_ble_eq_true rfl) ⟨Nat.le_of_ble_eq_true rfl, Nat.le_of_ble_eq_true rfl⟩ ⟨Nat.zero_le _, Nat.zero_le _⟩ hW (fun H locs hW => ?_)
      refine lv_istore (lv' := [(4, .int v9.1), (3, .int v1), (0, .ref a0), (1, .int x1), (2, .int x2)]) hx hb dX7_comes_76 hl (by decide) rfl (fun ls hl => ?_)
      cases h
      exact bq_retv S hr hlocks hK hz dX7_comes_78 hW
  · replace h := bq_ifF hc h
    refine lv_aload_n hx hb dX7_comes_12 rfl (lv_at hl 1 rfl) ?_
    refine lv_iload_n hx hb dX7_comes_13 rfl (lv_at hl 2 rfl) ?_
    refine lv_bipush (v := 28) hx hb dX7_comes_14 (by decide) ?_
    refine lv_iload_n hx hb dX7_comes_16 rfl (lv_at hl 0 rfl) ?_
    refine lv_iadd hx hb dX7_comes_17 ?_
    refine lv_iconst (v := 0) hx hb dX7_comes_18 (by decide) ?_
    obtain ⟨E10, hv, h⟩ := bq_bind h
    refine bq_callV S hK hz mv_X7_59 (c_X7_puts hv) (kc_X7_puts hv) dX7_comes_19 [] (rest := []) rfl rfl rfl hl.1 (Nat.le_of_ble_eq_true rfl) ⟨Nat.le_of_ble_eq_true rfl, Nat.le_of_ble_eq_true rfl⟩ ⟨Nat.zero_le _, Nat.zero_le _⟩ hW (fun H locs hW => ?_)
    cases h
    exact bq_retv S hr hlocks hK hz dX7_comes_22 hW

theorem kc_X7_add {E : bq_E} {a0 : Nat} {x1 : Int32} {x2 : Int32} {R : (Bool × bq_E)} (h : tw_X7_add E a0 x1 x2 = some R) : bq_cls E a0 = 7 := (bq_guard h).1
set_option maxHeartbeats 4000000 in
set_option maxRecDepth 100000 in
theorem c_X7_add {l : Launch} {g : bq_G} {L : List Nat} {z : Nat} {E : bq_E} {a0 : Nat} {x1 : Int32} {x2 : Int32} {R : (Bool × bq_E)} (h : tw_X7_add E a0 x1 x2 = some R) : bq_M l yX7_add cX7_add 4 (some .boolean) 6 142 [.ref a0, .int x1, .int x2] g L E z (some (.int (bq_b R.1))) R.2 := by
  unfold tw_X7_add at h
  obtain ⟨hcl, h⟩ := bq_guard h
  refine bq_enter (by decide) (Nat.le_of_ble_eq_true rfl) ?_
  intro p e s m args below meth c S hr hlocks hK hz hW ls hl
  have S : CallFix p m c cX7_add 4 s args bq_WA RX7 := S
  have hx := S.1
  have hb := S.2.1
  have hl : lv_has ls 4 [(0, .ref a0), (1, .int x1), (2, .int x2)] := hl
  refine lv_aload_n hx hb dX7_add_0 rfl (lv_at hl 0 rfl) ?_
  refine lv_iload_n hx hb dX7_add_1 rfl (lv_at hl 1 rfl) ?_
  obtain ⟨v1, hv, h⟩ := bq_bind h
  refine bq_callV S hK hz mv_X7_80 (c_X7_isNode hv) (kc_X7_isNode hv) dX7_add_2 [.int (bq_b v1)] (rest := []) rfl rfl rfl hl.1 (Nat.le_of_ble_eq_true rfl) ⟨Nat.le_of_ble_eq_true rfl, Nat.le_of_ble_eq_true rfl⟩ ⟨Nat.zero_le _, Nat.zero_le _⟩ hW (fun H locs hW => ?_)
  refine lv_if_ne (tgt := 22) hx hb dX7_add_5 (by decide) (fun hc => ?_) (fun hc => ?_)
  · replace h := bq_ifF hc h
    refine lv_iload_n hx hb dX7_add_22 rfl (lv_at hl 2 rfl) ?_
    obtain ⟨v2, hv, h⟩ := bq_bind h
    refine bq_callS S hK hz ms_X7_96 (c_X7_isKey hv) dX7_add_23 [.int (bq_b v2)] (rest := []) rfl rfl rfl hl.1 (Nat.le_of_ble_eq_true rfl) ⟨Nat.le_of_ble_eq_true rfl, Nat.le_of_ble_eq_true rfl⟩ ⟨Nat.zero_le _, Nat.zero_le _⟩ hW (fun H locs hW => ?_)
    refine lv_if_ne (tgt := 43) hx hb dX7_add_26 (by decide) (fun hc => ?_) (fun hc => ?_)
    · replace h := bq_ifF hc h
      refine lv_aload_n hx hb dX7_add_43 rfl (lv_at hl 0 rfl) ?_
      refine lv_iload_n hx hb dX7_add_44 rfl (lv_at hl 1 rfl) ?_
      refine lv_iload_n hx hb dX7_add_45 rfl (lv_at hl 2 rfl) ?_
      obtain ⟨v3, hv, h⟩ := bq_bind h
      refine bq_callV S hK hz mv_X7_99 (c_X7_has hv) (kc_X7_has hv) dX7_add_46 [.int (bq_b v3)] (rest := []) rfl rfl rfl hl.1 (Nat.le_of_ble_eq_true rfl) ⟨Nat.le_of_ble_eq_true rfl, Nat.le_of_ble_eq_true rfl⟩ ⟨Nat.zero_le _, Nat.zero_le _⟩ hW (fun H locs hW => ?_)
      refine lv_topi (fun v4 ev4 => ?_)
      replace h := bq_letE ev4 h
      refine lv_istore_n (lv' := [(3, .int v4), (0, .ref a0), (1, .int x1), (2, .int x2)]) hx hb dX7_add_49 rfl hl (by decide) rfl (fun ls hl => ?_)
      refine lv_iload_n hx hb dX7_add_50 rfl (lv_at hl 0 rfl) ?_
      obtain ⟨k78, ek78, h⟩ := bq_letK h
      have hjk78 : ∀ (u0 : Unit) (H1 : Heap) (locs1 : List Loc) (ls1 : Array Slot), k78 u0 = some R → bq_H g L E z s.heap H1 locs1 → lv_has ls1 4 [(0, .ref a0), (1, .int x1), (2, .int x2), (3, .int v4)] → W p l e { frames := 6, cells := 0, slots := 0, locals := 142 } s m args below meth c H1 locs1 0 0 (MQ below (bq_Q g L R.2 z (some (.int (bq_b R.1)))) args s 0 0 (bq_A z)) (F0 m 78 ls1 []) := by
        intro u0 H locs ls h hW hl
        replace h := bq_kap1 ek78 h
        refine lv_aload_n hx hb dX7_add_78 rfl (lv_at hl 0 rfl) ?_
        obtain ⟨E5, hv, h⟩ := bq_bind h
        refine bq_callV S hK hz mv_X7_87 (c_X7_hold hv) (kc_X7_hold hv) dX7_add_79 [] (rest := []) rfl rfl rfl hl.1 (Nat.le_of_ble_eq_true rfl) ⟨Nat.le_of_ble_eq_true rfl, Nat.le_of_ble_eq_true rfl⟩ ⟨Nat.zero_le _, Nat.zero_le _⟩ hW (fun H locs hW => ?_)
        refine lv_iload_n hx hb dX7_add_82 rfl (lv_at hl 3 rfl) ?_
        obtain ⟨k92, ek92, h⟩ := bq_letK h
        have hjk92 : ∀ (E6 : bq_E) (H1 : Heap) (locs1 : List Loc) (ls1 : Array Slot), k92 E6 = some R → bq_H g L E6 z s.heap H1 locs1 → lv_has ls1 4 [(0, .ref a0), (3, .int v4)] → W p l e { frames := 6, cells := 0, slots := 0, locals := 142 } s m args below meth c H1 locs1 0 0 (MQ below (bq_Q g L R.2 z (some (.int (bq_b R.1)))) args s 0 0 (bq_A z)) (F0 m 92 ls1 []) := by
          intro E6 H locs ls h hW hl
          replace h := bq_kap1 ek92 h
          refine lv_aload_n hx hb dX7_add_92 rfl (lv_at hl 0 rfl) ?_
          refine lv_iload_n hx hb dX7_add_93 rfl (lv_at hl 1 rfl) ?_
          obtain ⟨k102, ek102, h⟩ := bq_letK h
          have hjk102 : ∀ (b7 : Int32) (H1 : Heap) (locs1 : List Loc) (ls1 : Array Slot), k102 b7 = some R → bq_H g L E6 z s.heap H1 locs1 → lv_has ls1 4 [] → W p l e { frames := 6, cells := 0, slots := 0, locals := 142 } s m args below meth c H1 locs1 0 0 (MQ below (bq_Q g L R.2 z (some (.int (bq_b R.1)))) args s 0 0 (bq_A z)) (F0 m 102 ls1 [.int b7, .ref a0]) := by
            intro b7 H locs ls h hW hl
            replace h := bq_kap1 ek102 h
            obtain ⟨v8, hv, h⟩ := bq_bind h
            refine bq_callV S hK hz mv_X7_90 (c_X7_ends hv) (kc_X7_ends hv) dX7_add_102 [.int v8.1] (rest := []) rfl rfl rfl hl.1 (Nat.le_of_ble_eq_true rfl) ⟨Nat.le_of_ble_eq_true rfl, Nat.le_of_ble_eq_true rfl⟩ ⟨Nat.zero_le _, Nat.zero_le _⟩ hW (fun H locs hW => ?_)
            refine lv_iconst (v := 1) hx hb dX7_add_105 (by decide) ?_
            refine lv_icmp_ne (tgt := 113) hx hb dX7_add_106 (by decide) (fun hc => ?_) (fun hc => ?_)
            · replace h := bq_ifF hc h
              refine lv_iconst (v := 0) hx hb dX7_add_113 (by decide) ?_
              cases h
              exact bq_retz S hr hlocks hK hz dX7_add_114 _ rfl hW
            · replace h := bq_ifT hc h
              refine lv_iconst (v := 1) hx hb dX7_add_109 (by decide) ?_
              refine lv_goto (tgt := 114) hx hb dX7_add_110 (by decide) ?_
              cases h
              exact bq_retz S hr hlocks hK hz dX7_add_114 _ rfl hW
          clear ek102
          refine lv_if_eq (tgt := 101) hx hb dX7_add_94 (by decide) (fun hc => ?_) (fun hc => ?_)
          · replace h := bq_ifT hc h
            refine lv_iconst (v := 1) hx hb dX7_add_101 (by decide) ?_
            exact hjk102 (1 : Int32) _ _ _ h hW (lv_sub hl [] rfl)
          · replace h := bq_ifF hc h
            refine lv_iconst (v := 0) hx hb dX7_add_97 (by decide) ?_
            refine lv_goto (tgt := 102) hx hb dX7_add_98 (by decide) ?_
            exact hjk102 (0 : Int32) _ _ _ h hW (lv_sub hl [] rfl)
        clear ek92
        refine lv_if_ne (tgt := 92) hx hb dX7_add_83 (by decide) (fun hc => ?_) (fun hc => ?_)
        · replace h := bq_ifF hc h
          exact hjk92 E5 _ _ _ h hW (lv_sub hl [0, 3] rfl)
        · replace h := bq_ifT hc h
          refine lv_aload_n hx hb dX7_add_86 rfl (lv_at hl 0 rfl) ?_
          refine lv_iload_n hx hb dX7_add_87 rfl (lv_at hl 1 rfl) ?_
          refine lv_iload_n hx hb dX7_add_88 rfl (lv_at hl 2 rfl) ?_
          obtain ⟨E9, hv, h⟩ := bq_bind h
          refine bq_callV S hK hz mv_X7_106 (c_X7_comes hv) (kc_X7_comes hv) dX7_add_89 [] (rest := []) rfl rfl rfl hl.1 (Nat.le_of_ble_eq_true rfl) ⟨Nat.le_of_ble_eq_true rfl, Nat.le_of_ble_eq_true rfl⟩ ⟨Nat.zero_le _, Nat.zero_le _⟩ hW (fun H locs hW => ?_)
          exact hjk92 E9 _ _ _ h hW (lv_sub hl [0, 3] rfl)
      clear ek78
      refine lv_if_ne (tgt := 78) hx hb dX7_add_51 (by decide) (fun hc => ?_) (fun hc => ?_)
      · replace h := bq_ifF hc h
        exact hjk78 () _ _ _ h hW (lv_sub hl [1, 2, 3, 0] rfl)
      · replace h := bq_ifT hc h
        refine lv_aload_n hx hb dX7_add_54 rfl (lv_at hl 1 rfl) ?_
        refine lv_iload_n hx hb dX7_add_55 rfl (lv_at hl 2 rfl) ?_
        obtain ⟨v10, hv, h⟩ := bq_bind h
        refine bq_callV S hK hz mv_X7_103 (c_X7_keys hv) (kc_X7_keys hv) dX7_add_56 [.int v10] (rest := []) rfl rfl rfl hl.1 (Nat.le_of_ble_eq_true rfl) ⟨Nat.le_of_ble_eq_true rfl, Nat.le_of_ble_eq_true rfl⟩ ⟨Nat.zero_le _, Nat.zero_le _⟩ hW (fun H locs hW => ?_)
        refine lv_bipush (v := 24) hx hb dX7_add_59 (by decide) ?_
        refine lv_icmp_ne (tgt := 78) hx hb dX7_add_61 (by decide) (fun hc => ?_) (fun hc => ?_)
        · replace h := bq_ifF hc h
          exact hjk78 () _ _ _ h hW (lv_sub hl [1, 2, 3, 0] rfl)
        · replace h := bq_ifT hc h
          refine lv_aload_n hx hb dX7_add_64 rfl (lv_at hl 1 rfl) ?_
          refine lv_iconst (v := 3) hx hb dX7_add_65 (by decide) ?_
          obtain ⟨v11, hv, h⟩ := bq_bind h
          refine bq_callV S hK hz mv_X7_84 (c_X7_fails hv) (kc_X7_fails hv) dX7_add_66 [.int v11.1] (rest := []) rfl rfl rfl hl.1 (Nat.le_of_ble_eq_true rfl) ⟨Nat.le_of_ble_eq_true rfl, Nat.le_of_ble_eq_true rfl⟩ ⟨Nat.zero_le _, Nat.zero_le _⟩ hW (fun H locs hW => ?_)
          refine lv_if_eq (tgt := 76) hx hb dX7_add_69 (by decide) (fun hc => ?_) (fun hc => ?_)
          · replace h := bq_ifT hc h
            refine lv_iconst (v := 0) hx hb dX7_add_76 (by decide) ?_
            cases h
            exact bq_retz S hr hlocks hK hz dX7_add_77 _ rfl hW
          · replace h := bq_ifF hc h
            refine lv_iconst (v := 1) hx hb dX7_add_72 (by decide) ?_
            refine lv_goto (tgt := 77) hx hb dX7_add_73 (by decide) ?_
            cases h
            exact bq_retz S hr hlocks hK hz dX7_add_77 _ rfl hW
    · replace h := bq_ifT hc h
      refine lv_aload_n hx hb dX7_add_29 rfl (lv_at hl 0 rfl) ?_
      refine lv_iconst (v := 2) hx hb dX7_add_30 (by decide) ?_
      obtain ⟨v12, hv, h⟩ := bq_bind h
      refine bq_callV S hK hz mv_X7_84 (c_X7_fails hv) (kc_X7_fails hv) dX7_add_31 [.int v12.1] (rest := []) rfl rfl rfl hl.1 (Nat.le_of_ble_eq_true rfl) ⟨Nat.le_of_ble_eq_true rfl, Nat.le_of_ble_eq_true rfl⟩ ⟨Nat.zero_le _, Nat.zero_le _⟩ hW (fun H locs hW => ?_)
      refine lv_if_eq (tgt := 41) hx hb dX7_add_34 (by decide) (fun hc => ?_) (fun hc => ?_)
      · replace h := bq_ifT hc h
        refine lv_iconst (v := 0) hx hb dX7_add_41 (by decide) ?_
        cases h
        exact bq_retz S hr hlocks hK hz dX7_add_42 _ rfl hW
      · replace h := bq_ifF hc h
        refine lv_iconst (v := 1) hx hb dX7_add_37 (by decide) ?_
        refine lv_goto (tgt := 42) hx hb dX7_add_38 (by decide) ?_
        cases h
        exact bq_retz S hr hlocks hK hz dX7_add_42 _ rfl hW
  · replace h := bq_ifT hc h
    refine lv_aload_n hx hb dX7_add_8 rfl (lv_at hl 0 rfl) ?_
    refine lv_iconst (v := 1) hx hb dX7_add_9 (by decide) ?_
    obtain ⟨v13, hv, h⟩ := bq_bind h
    refine bq_callV S hK hz mv_X7_84 (c_X7_fails hv) (kc_X7_fails hv) dX7_add_10 [.int v13.1] (rest := []) rfl rfl rfl hl.1 (Nat.le_of_ble_eq_true rfl) ⟨Nat.le_of_ble_eq_true rfl, Nat.le_of_ble_eq_true rfl⟩ ⟨Nat.zero_le _, Nat.zero_le _⟩ hW (fun H locs hW => ?_)
    refine lv_if_eq (tgt := 20) hx hb dX7_add_13 (by decide) (fun hc => ?_) (fun hc => ?_)
    · replace h := bq_ifT hc h
      refine lv_iconst (v := 0) hx hb dX7_add_20 (by decide) ?_
      cases h
      exact bq_retz S hr hlocks hK hz dX7_add_21 _ rfl hW
    · replace h := bq_ifF hc h
      refine lv_iconst (v := 1) hx hb dX7_add_16 (by decide) ?_
      refine lv_goto (tgt := 21) hx hb dX7_add_17 (by decide) ?_
      cases h
      exact bq_retz S hr hlocks hK hz dX7_add_21 _ rfl hW

theorem kc_X7_goes {E : bq_E} {a0 : Nat} {x1 : Int32} {x2 : Int32} {R : bq_E} (h : tw_X7_goes E a0 x1 x2 = some R) : bq_cls E a0 = 7 := (bq_guard h).1
set_option maxHeartbeats 4000000 in
set_option maxRecDepth 100000 in
theorem c_X7_goes {l : Launch} {g : bq_G} {L : List Nat} {z : Nat} {E : bq_E} {a0 : Nat} {x1 : Int32} {x2 : Int32} {R : bq_E} (h : tw_X7_goes E a0 x1 x2 = some R) : bq_M l yX7_goes cX7_goes 5 none 5 118 [.ref a0, .int x1, .int x2] g L E z none R := by
  unfold tw_X7_goes at h
  obtain ⟨hcl, h⟩ := bq_guard h
  refine bq_enter (by decide) (Nat.le_of_ble_eq_true rfl) ?_
  intro p e s m args below meth c S hr hlocks hK hz hW ls hl
  have S : CallFix p m c cX7_goes 5 s args bq_WA RX7 := S
  have hx := S.1
  have hb := S.2.1
  have hl : lv_has ls 5 [(0, .ref a0), (1, .int x1), (2, .int x2)] := hl
  refine lv_aload_n hx hb dX7_goes_0 rfl (lv_at hl 0 rfl) ?_
  refine lv_iload_n hx hb dX7_goes_1 rfl (lv_at hl 1 rfl) ?_
  refine lv_iload_n hx hb dX7_goes_2 rfl (lv_at hl 2 rfl) ?_
  obtain ⟨v1, hv, h⟩ := bq_bind h
  refine bq_callV S hK hz mv_X7_56 (c_X7_inBuffer hv) (kc_X7_inBuffer hv) dX7_goes_3 [.int v1] (rest := []) rfl rfl rfl hl.1 (Nat.le_of_ble_eq_true rfl) ⟨Nat.le_of_ble_eq_true rfl, Nat.le_of_ble_eq_true rfl⟩ ⟨Nat.zero_le _, Nat.zero_le _⟩ hW (fun H locs hW => ?_)
  refine lv_istore_n (lv' := [(3, .int v1), (0, .ref a0), (1, .int x1), (2, .int x2)]) hx hb dX7_goes_6 rfl hl (by decide) rfl (fun ls hl => ?_)
  refine lv_iload_n hx hb dX7_goes_7 rfl (lv_at hl 0 rfl) ?_
  refine lv_iconst (v := (-1)) hx hb dX7_goes_8 (by decide) ?_
  refine lv_icmp_ne (tgt := 51) hx hb dX7_goes_9 (by decide) (fun hc => ?_) (fun hc => ?_)
  · replace h := bq_ifF hc h
    refine lv_aload_n hx hb dX7_goes_51 rfl (lv_at hl 1 rfl) ?_
    refine lv_iload_n hx hb dX7_goes_52 rfl (lv_at hl 2 rfl) ?_
    refine lv_bipush (v := 52) hx hb dX7_goes_53 (by decide) ?_
    refine lv_aload_n hx hb dX7_goes_55 rfl (lv_at hl 1 rfl) ?_
    refine lv_iload_n hx hb dX7_goes_56 rfl (lv_at hl 2 rfl) ?_
    refine lv_bipush (v := 52) hx hb dX7_goes_57 (by decide) ?_
    obtain ⟨v2, hv, h⟩ := bq_bind h
    refine bq_callV S hK hz mv_X7_46 (c_X7_of hv) (kc_X7_of hv) dX7_goes_59 [.int v2, .int (52 : Int32), .int x1, .ref a0] (rest := [.int (52 : Int32), .int x1, .ref a0]) rfl rfl rfl hl.1 (Nat.le_of_ble_eq_true rfl) ⟨Nat.le_of_ble_eq_true rfl, Nat.le_of_ble_eq_true rfl⟩ ⟨Nat.zero_le _, Nat.zero_le _⟩ hW (fun H locs hW => ?_)
    refine lv_iconst (v := 1) hx hb dX7_goes_62 (by decide) ?_
    refine lv_isub hx hb dX7_goes_63 ?_
    obtain ⟨E3, hv, h⟩ := bq_bind h
    refine bq_callV S hK hz mv_X7_59 (c_X7_puts hv) (kc_X7_puts hv) dX7_goes_64 [] (rest := []) rfl rfl rfl hl.1 (Nat.le_of_ble_eq_true rfl) ⟨Nat.le_of_ble_eq_true rfl, Nat.le_of_ble_eq_true rfl⟩ ⟨Nat.zero_le _, Nat.zero_le _⟩ hW (fun H locs hW => ?_)
    refine lv_iload_n hx hb dX7_goes_67 rfl (lv_at hl 0 rfl) ?_
    refine lv_istore (lv' := [(4, .int v1), (3, .int v1), (0, .ref a0), (1, .int x1), (2, .int x2)]) hx hb dX7_goes_68 hl (by decide) rfl (fun ls hl => ?_)
    have hL70 : ∀ (n : Nat) (z6 : Int32) (E7 : bq_E) (H1 : Heap) (locs1 : List Loc) (ls1 : Array Slot), tl_X7_goes_70 a0 x1 n z6 E7 = some R → bq_H g L E7 z s.heap H1 locs1 → lv_has ls1 5 [(0, .ref a0), (1, .int x1), (4, .int z6)] → W p l e { frames := 5, cells := 0, slots := 0, locals := 118 } s m args below meth c H1 locs1 0 0 (MQ below (bq_Q g L R z none) args s 0 0 (bq_A z)) (F0 m 70 ls1 []) := by
      intro n
      induction n with
      | zero => intro z6 E7 H locs ls h hW hl; cases h
      | succ n ih =>
        intro z6 E7 H locs ls h hW hl
        rw [tl_X7_goes_70.eq_2] at h
        refine lv_iload hx hb dX7_goes_70 (lv_at hl 2 rfl) ?_
        refine lv_aload_n hx hb dX7_goes_72 rfl (lv_at hl 0 rfl) ?_
        refine lv_iload_n hx hb dX7_goes_73 rfl (lv_at hl 1 rfl) ?_
        refine lv_bipush (v := 52) hx hb dX7_goes_74 (by decide) ?_
        obtain ⟨v8, hv, h⟩ := bq_bind h
        refine bq_callV S hK hz mv_X7_46 (c_X7_of hv) (kc_X7_of hv) dX7_goes_76 [.int v8, .int z6] (rest := [.int z6]) rfl rfl rfl hl.1 (Nat.le_of_ble_eq_true rfl) ⟨Nat.le_of_ble_eq_true rfl, Nat.le_of_ble_eq_true rfl⟩ ⟨Nat.zero_le _, Nat.zero_le _⟩ hW (fun H locs hW => ?_)
        refine lv_icmp_ge (tgt := 110) hx hb dX7_goes_79 (by decide) (fun hc => ?_) (fun hc => ?_)
        · replace h := bq_ifT hc h
          cases h
          exact bq_retv S hr hlocks hK hz dX7_goes_110 hW
        · replace h := bq_ifF hc h
          refine lv_aload_n hx hb dX7_goes_82 rfl (lv_at hl 0 rfl) ?_
          refine lv_iload_n hx hb dX7_goes_83 rfl (lv_at hl 1 rfl) ?_
          refine lv_bipush (v := 53) hx hb dX7_goes_84 (by decide) ?_
          refine lv_iload hx hb dX7_goes_86 (lv_at hl 2 rfl) ?_
          refine lv_iadd hx hb dX7_goes_88 ?_
          refine lv_aload_n hx hb dX7_goes_89 rfl (lv_at hl 0 rfl) ?_
          refine lv_iload_n hx hb dX7_goes_90 rfl (lv_at hl 1 rfl) ?_
          refine lv_bipush (v := 53) hx hb dX7_goes_91 (by decide) ?_
          refine lv_iload hx hb dX7_goes_93 (lv_at hl 2 rfl) ?_
          refine lv_iadd hx hb dX7_goes_95 ?_
          refine lv_iconst (v := 1) hx hb dX7_goes_96 (by decide) ?_
          refine lv_iadd hx hb dX7_goes_97 ?_
          obtain ⟨v9, hv, h⟩ := bq_bind h
          refine bq_callV S hK hz mv_X7_46 (c_X7_of hv) (kc_X7_of hv) dX7_goes_98 [.int v9, .int ((53 : Int32) + z6), .int x1, .ref a0] (rest := [.int ((53 : Int32) + z6), .int x1, .ref a0]) rfl rfl rfl hl.1 (Nat.le_of_ble_eq_true rfl) ⟨Nat.le_of_ble_eq_true rfl, Nat.le_of_ble_eq_true rfl⟩ ⟨Nat.zero_le _, Nat.zero_le _⟩ hW (fun H locs hW => ?_)
          obtain ⟨E10, hv, h⟩ := bq_bind h
          refine bq_callV S hK hz mv_X7_59 (c_X7_puts hv) (kc_X7_puts hv) dX7_goes_101 [] (rest := []) rfl rfl rfl hl.1 (Nat.le_of_ble_eq_true rfl) ⟨Nat.le_of_ble_eq_true rfl, Nat.le_of_ble_eq_true rfl⟩ ⟨Nat.zero_le _, Nat.zero_le _⟩ hW (fun H locs hW => ?_)
          obtain ⟨v11, ev11⟩ : ∃ y : Int32, y = z6 + 1 := ⟨_, rfl⟩
          replace h := bq_letE ev11 h
          refine lv_iinc (v := v11) (lv' := [(4, .int v11), (0, .ref a0), (1, .int x1)]) hx hb dX7_goes_104 hl (k := 2) rfl (by rw [ev11]; rfl) (by decide) rfl (fun ls hl => ?_)
          refine lv_goto (tgt := 70) hx hb dX7_goes_107 (by decide) ?_
          exact ih v11 E10 _ _ _ h hW (lv_sub hl [1, 2, 0] rfl)
    exact hL70 bq_fuel v1 E3 _ _ _ h hW (lv_sub hl [2, 3, 0] rfl)
  · replace h := bq_ifT hc h
    refine lv_aload_n hx hb dX7_goes_12 rfl (lv_at hl 1 rfl) ?_
    refine lv_iload_n hx hb dX7_goes_13 rfl (lv_at hl 2 rfl) ?_
    refine lv_bipush (v := 28) hx hb dX7_goes_14 (by decide) ?_
    refine lv_aload_n hx hb dX7_goes_16 rfl (lv_at hl 1 rfl) ?_
    refine lv_iload_n hx hb dX7_goes_17 rfl (lv_at hl 2 rfl) ?_
    refine lv_iload_n hx hb dX7_goes_18 rfl (lv_at hl 3 rfl) ?_
    obtain ⟨v12, hv, h⟩ := bq_bind h
    refine bq_callV S hK hz mv_X7_53 (c_X7_inBase hv) (kc_X7_inBase hv) dX7_goes_19 [.int v12, .int (28 : Int32), .int x1, .ref a0] (rest := [.int (28 : Int32), .int x1, .ref a0]) rfl rfl rfl hl.1 (Nat.le_of_ble_eq_true rfl) ⟨Nat.le_of_ble_eq_true rfl, Nat.le_of_ble_eq_true rfl⟩ ⟨Nat.zero_le _, Nat.zero_le _⟩ hW (fun H locs hW => ?_)
    refine lv_iadd hx hb dX7_goes_22 ?_
    refine lv_iconst (v := 1) hx hb dX7_goes_23 (by decide) ?_
    obtain ⟨E13, hv, h⟩ := bq_bind h
    refine bq_callV S hK hz mv_X7_59 (c_X7_puts hv) (kc_X7_puts hv) dX7_goes_24 [] (rest := []) rfl rfl rfl hl.1 (Nat.le_of_ble_eq_true rfl) ⟨Nat.le_of_ble_eq_true rfl, Nat.le_of_ble_eq_true rfl⟩ ⟨Nat.zero_le _, Nat.zero_le _⟩ hW (fun H locs hW => ?_)
    refine lv_iconst (v := 2) hx hb dX7_goes_27 (by decide) ?_
    refine lv_aload_n hx hb dX7_goes_28 rfl (lv_at hl 1 rfl) ?_
    refine lv_iload_n hx hb dX7_goes_29 rfl (lv_at hl 2 rfl) ?_
    obtain ⟨v14, hv, h⟩ := bq_bind h
    refine bq_callV S hK hz mv_X7_50 (c_X7_marked hv) (kc_X7_marked hv) dX7_goes_30 [.int v14, .int (2 : Int32)] (rest := [.int (2 : Int32)]) rfl rfl rfl hl.1 (Nat.le_of_ble_eq_true rfl) ⟨Nat.le_of_ble_eq_true rfl, Nat.le_of_ble_eq_true rfl⟩ ⟨Nat.zero_le _, Nat.zero_le _⟩ hW (fun H locs hW => ?_)
    refine lv_imul hx hb dX7_goes_33 ?_
    refine lv_aload_n hx hb dX7_goes_34 rfl (lv_at hl 1 rfl) ?_
    refine lv_iload_n hx hb dX7_goes_35 rfl (lv_at hl 2 rfl) ?_
    refine lv_iconst (v := 3) hx hb dX7_goes_36 (by decide) ?_
    obtain ⟨v15, hv, h⟩ := bq_bind h
    refine bq_callV S hK hz mv_X7_46 (c_X7_of hv) (kc_X7_of hv) dX7_goes_37 [.int v15, .int ((2 : Int32) * v14)] (rest := [.int ((2 : Int32) * v14)]) rfl rfl rfl hl.1 (Nat.le_of_ble_eq_true rfl) ⟨Nat.le_of_ble_eq_true rfl, Nat.le_of_ble_eq_true rfl⟩ ⟨Nat.zero_le _, Nat.zero_le _⟩ hW (fun H locs hW => ?_)
    refine lv_icmp_le (tgt := 50) hx hb dX7_goes_40 (by decide) (fun hc => ?_) (fun hc => ?_)
    · replace h := bq_ifT hc h
      cases h
      exact bq_retv S hr hlocks hK hz dX7_goes_50 hW
    · replace h := bq_ifF hc h
      refine lv_aload_n hx hb dX7_goes_43 rfl (lv_at hl 1 rfl) ?_
      refine lv_iload_n hx hb dX7_goes_44 rfl (lv_at hl 2 rfl) ?_
      obtain ⟨v16, hv, h⟩ := bq_bind h
      refine bq_callV S hK hz mv_X7_93 (c_X7_rebuilds hv) (kc_X7_rebuilds hv) dX7_goes_45 [.int v16.1] (rest := []) rfl rfl rfl hl.1 (Nat.le_of_ble_eq_true rfl) ⟨Nat.le_of_ble_eq_true rfl, Nat.le_of_ble_eq_true rfl⟩ ⟨Nat.zero_le _, Nat.zero_le _⟩ hW (fun H locs hW => ?_)
      refine lv_istore (lv' := [(4, .int v16.1), (3, .int v1), (0, .ref a0), (1, .int x1), (2, .int x2)]) hx hb dX7_goes_48 hl (by decide) rfl (fun ls hl => ?_)
      cases h
      exact bq_retv S hr hlocks hK hz dX7_goes_50 hW

theorem kc_X7_remove {E : bq_E} {a0 : Nat} {x1 : Int32} {x2 : Int32} {R : (Bool × bq_E)} (h : tw_X7_remove E a0 x1 x2 = some R) : bq_cls E a0 = 7 := (bq_guard h).1
set_option maxHeartbeats 4000000 in
set_option maxRecDepth 100000 in
theorem c_X7_remove {l : Launch} {g : bq_G} {L : List Nat} {z : Nat} {E : bq_E} {a0 : Nat} {x1 : Int32} {x2 : Int32} {R : (Bool × bq_E)} (h : tw_X7_remove E a0 x1 x2 = some R) : bq_M l yX7_remove cX7_remove 4 (some .boolean) 6 142 [.ref a0, .int x1, .int x2] g L E z (some (.int (bq_b R.1))) R.2 := by
  unfold tw_X7_remove at h
  obtain ⟨hcl, h⟩ := bq_guard h
  refine bq_enter (by decide) (Nat.le_of_ble_eq_true rfl) ?_
  intro p e s m args below meth c S hr hlocks hK hz hW ls hl
  have S : CallFix p m c cX7_remove 4 s args bq_WA RX7 := S
  have hx := S.1
  have hb := S.2.1
  have hl : lv_has ls 4 [(0, .ref a0), (1, .int x1), (2, .int x2)] := hl
  refine lv_aload_n hx hb dX7_remove_0 rfl (lv_at hl 0 rfl) ?_
  refine lv_iload_n hx hb dX7_remove_1 rfl (lv_at hl 1 rfl) ?_
  obtain ⟨v1, hv, h⟩ := bq_bind h
  refine bq_callV S hK hz mv_X7_80 (c_X7_isNode hv) (kc_X7_isNode hv) dX7_remove_2 [.int (bq_b v1)] (rest := []) rfl rfl rfl hl.1 (Nat.le_of_ble_eq_true rfl) ⟨Nat.le_of_ble_eq_true rfl, Nat.le_of_ble_eq_true rfl⟩ ⟨Nat.zero_le _, Nat.zero_le _⟩ hW (fun H locs hW => ?_)
  refine lv_if_ne (tgt := 22) hx hb dX7_remove_5 (by decide) (fun hc => ?_) (fun hc => ?_)
  · replace h := bq_ifF hc h
    refine lv_iload_n hx hb dX7_remove_22 rfl (lv_at hl 2 rfl) ?_
    obtain ⟨v2, hv, h⟩ := bq_bind h
    refine bq_callS S hK hz ms_X7_96 (c_X7_isKey hv) dX7_remove_23 [.int (bq_b v2)] (rest := []) rfl rfl rfl hl.1 (Nat.le_of_ble_eq_true rfl) ⟨Nat.le_of_ble_eq_true rfl, Nat.le_of_ble_eq_true rfl⟩ ⟨Nat.zero_le _, Nat.zero_le _⟩ hW (fun H locs hW => ?_)
    refine lv_if_ne (tgt := 43) hx hb dX7_remove_26 (by decide) (fun hc => ?_) (fun hc => ?_)
    · replace h := bq_ifF hc h
      refine lv_aload_n hx hb dX7_remove_43 rfl (lv_at hl 0 rfl) ?_
      obtain ⟨E3, hv, h⟩ := bq_bind h
      refine bq_callV S hK hz mv_X7_87 (c_X7_hold hv) (kc_X7_hold hv) dX7_remove_44 [] (rest := []) rfl rfl rfl hl.1 (Nat.le_of_ble_eq_true rfl) ⟨Nat.le_of_ble_eq_true rfl, Nat.le_of_ble_eq_true rfl⟩ ⟨Nat.zero_le _, Nat.zero_le _⟩ hW (fun H locs hW => ?_)
      refine lv_aload_n hx hb dX7_remove_47 rfl (lv_at hl 0 rfl) ?_
      refine lv_iload_n hx hb dX7_remove_48 rfl (lv_at hl 1 rfl) ?_
      refine lv_iload_n hx hb dX7_remove_49 rfl (lv_at hl 2 rfl) ?_
      obtain ⟨v4, hv, h⟩ := bq_bind h
      refine bq_callV S hK hz mv_X7_99 (c_X7_has hv) (kc_X7_has hv) dX7_remove_50 [.int (bq_b v4)] (rest := []) rfl rfl rfl hl.1 (Nat.le_of_ble_eq_true rfl) ⟨Nat.le_of_ble_eq_true rfl, Nat.le_of_ble_eq_true rfl⟩ ⟨Nat.zero_le _, Nat.zero_le _⟩ hW (fun H locs hW => ?_)
      refine lv_topi (fun v5 ev5 => ?_)
      replace h := bq_letE ev5 h
      refine lv_istore_n (lv' := [(3, .int v5), (0, .ref a0), (1, .int x1), (2, .int x2)]) hx hb dX7_remove_53 rfl hl (by decide) rfl (fun ls hl => ?_)
      refine lv_iload_n hx hb dX7_remove_54 rfl (lv_at hl 0 rfl) ?_
      obtain ⟨k64, ek64, h⟩ := bq_letK h
      have hjk64 : ∀ (E6 : bq_E) (H1 : Heap) (locs1 : List Loc) (ls1 : Array Slot), k64 E6 = some R → bq_H g L E6 z s.heap H1 locs1 → lv_has ls1 4 [(0, .ref a0), (3, .int v5)] → W p l e { frames := 6, cells := 0, slots := 0, locals := 142 } s m args below meth c H1 locs1 0 0 (MQ below (bq_Q g L R.2 z (some (.int (bq_b R.1)))) args s 0 0 (bq_A z)) (F0 m 64 ls1 []) := by
        intro E6 H locs ls h hW hl
        replace h := bq_kap1 ek64 h
        refine lv_aload_n hx hb dX7_remove_64 rfl (lv_at hl 0 rfl) ?_
        refine lv_iload_n hx hb dX7_remove_65 rfl (lv_at hl 1 rfl) ?_
        obtain ⟨k74, ek74, h⟩ := bq_letK h
        have hjk74 : ∀ (b7 : Int32) (H1 : Heap) (locs1 : List Loc) (ls1 : Array Slot), k74 b7 = some R → bq_H g L E6 z s.heap H1 locs1 → lv_has ls1 4 [] → W p l e { frames := 6, cells := 0, slots := 0, locals := 142 } s m args below meth c H1 locs1 0 0 (MQ below (bq_Q g L R.2 z (some (.int (bq_b R.1)))) args s 0 0 (bq_A z)) (F0 m 74 ls1 [.int b7, .ref a0]) := by
          intro b7 H locs ls h hW hl
          replace h := bq_kap1 ek74 h
          obtain ⟨v8, hv, h⟩ := bq_bind h
          refine bq_callV S hK hz mv_X7_90 (c_X7_ends hv) (kc_X7_ends hv) dX7_remove_74 [.int v8.1] (rest := []) rfl rfl rfl hl.1 (Nat.le_of_ble_eq_true rfl) ⟨Nat.le_of_ble_eq_true rfl, Nat.le_of_ble_eq_true rfl⟩ ⟨Nat.zero_le _, Nat.zero_le _⟩ hW (fun H locs hW => ?_)
          refine lv_iconst (v := 1) hx hb dX7_remove_77 (by decide) ?_
          refine lv_icmp_ne (tgt := 85) hx hb dX7_remove_78 (by decide) (fun hc => ?_) (fun hc => ?_)
          · replace h := bq_ifF hc h
            refine lv_iconst (v := 0) hx hb dX7_remove_85 (by decide) ?_
            cases h
            exact bq_retz S hr hlocks hK hz dX7_remove_86 _ rfl hW
          · replace h := bq_ifT hc h
            refine lv_iconst (v := 1) hx hb dX7_remove_81 (by decide) ?_
            refine lv_goto (tgt := 86) hx hb dX7_remove_82 (by decide) ?_
            cases h
            exact bq_retz S hr hlocks hK hz dX7_remove_86 _ rfl hW
        clear ek74
        refine lv_if_eq (tgt := 73) hx hb dX7_remove_66 (by decide) (fun hc => ?_) (fun hc => ?_)
        · replace h := bq_ifT hc h
          refine lv_iconst (v := 0) hx hb dX7_remove_73 (by decide) ?_
          exact hjk74 (0 : Int32) _ _ _ h hW (lv_sub hl [] rfl)
        · replace h := bq_ifF hc h
          refine lv_iconst (v := 1) hx hb dX7_remove_69 (by decide) ?_
          refine lv_goto (tgt := 74) hx hb dX7_remove_70 (by decide) ?_
          exact hjk74 (1 : Int32) _ _ _ h hW (lv_sub hl [] rfl)
      clear ek64
      refine lv_if_eq (tgt := 64) hx hb dX7_remove_55 (by decide) (fun hc => ?_) (fun hc => ?_)
      · replace h := bq_ifT hc h
        exact hjk64 E3 _ _ _ h hW (lv_sub hl [1, 0] rfl)
      · replace h := bq_ifF hc h
        refine lv_aload_n hx hb dX7_remove_58 rfl (lv_at hl 1 rfl) ?_
        refine lv_iload_n hx hb dX7_remove_59 rfl (lv_at hl 2 rfl) ?_
        refine lv_iload_n hx hb dX7_remove_60 rfl (lv_at hl 3 rfl) ?_
        obtain ⟨E9, hv, h⟩ := bq_bind h
        refine bq_callV S hK hz mv_X7_110 (c_X7_goes hv) (kc_X7_goes hv) dX7_remove_61 [] (rest := []) rfl rfl rfl hl.1 (Nat.le_of_ble_eq_true rfl) ⟨Nat.le_of_ble_eq_true rfl, Nat.le_of_ble_eq_true rfl⟩ ⟨Nat.zero_le _, Nat.zero_le _⟩ hW (fun H locs hW => ?_)
        exact hjk64 E9 _ _ _ h hW (lv_sub hl [1, 0] rfl)
    · replace h := bq_ifT hc h
      refine lv_aload_n hx hb dX7_remove_29 rfl (lv_at hl 0 rfl) ?_
      refine lv_iconst (v := 2) hx hb dX7_remove_30 (by decide) ?_
      obtain ⟨v10, hv, h⟩ := bq_bind h
      refine bq_callV S hK hz mv_X7_84 (c_X7_fails hv) (kc_X7_fails hv) dX7_remove_31 [.int v10.1] (rest := []) rfl rfl rfl hl.1 (Nat.le_of_ble_eq_true rfl) ⟨Nat.le_of_ble_eq_true rfl, Nat.le_of_ble_eq_true rfl⟩ ⟨Nat.zero_le _, Nat.zero_le _⟩ hW (fun H locs hW => ?_)
      refine lv_if_eq (tgt := 41) hx hb dX7_remove_34 (by decide) (fun hc => ?_) (fun hc => ?_)
      · replace h := bq_ifT hc h
        refine lv_iconst (v := 0) hx hb dX7_remove_41 (by decide) ?_
        cases h
        exact bq_retz S hr hlocks hK hz dX7_remove_42 _ rfl hW
      · replace h := bq_ifF hc h
        refine lv_iconst (v := 1) hx hb dX7_remove_37 (by decide) ?_
        refine lv_goto (tgt := 42) hx hb dX7_remove_38 (by decide) ?_
        cases h
        exact bq_retz S hr hlocks hK hz dX7_remove_42 _ rfl hW
  · replace h := bq_ifT hc h
    refine lv_aload_n hx hb dX7_remove_8 rfl (lv_at hl 0 rfl) ?_
    refine lv_iconst (v := 1) hx hb dX7_remove_9 (by decide) ?_
    obtain ⟨v11, hv, h⟩ := bq_bind h
    refine bq_callV S hK hz mv_X7_84 (c_X7_fails hv) (kc_X7_fails hv) dX7_remove_10 [.int v11.1] (rest := []) rfl rfl rfl hl.1 (Nat.le_of_ble_eq_true rfl) ⟨Nat.le_of_ble_eq_true rfl, Nat.le_of_ble_eq_true rfl⟩ ⟨Nat.zero_le _, Nat.zero_le _⟩ hW (fun H locs hW => ?_)
    refine lv_if_eq (tgt := 20) hx hb dX7_remove_13 (by decide) (fun hc => ?_) (fun hc => ?_)
    · replace h := bq_ifT hc h
      refine lv_iconst (v := 0) hx hb dX7_remove_20 (by decide) ?_
      cases h
      exact bq_retz S hr hlocks hK hz dX7_remove_21 _ rfl hW
    · replace h := bq_ifF hc h
      refine lv_iconst (v := 1) hx hb dX7_remove_16 (by decide) ?_
      refine lv_goto (tgt := 21) hx hb dX7_remove_17 (by decide) ?_
      cases h
      exact bq_retz S hr hlocks hK hz dX7_remove_21 _ rfl hW

theorem kc_X7_addSeries {E : bq_E} {a0 : Nat} {x1 : Int32} {x2 : Int32} {x3 : Int32} {x4 : Int32} {R : (Int32 × bq_E)} (h : tw_X7_addSeries E a0 x1 x2 x3 x4 = some R) : bq_cls E a0 = 7 := (bq_guard h).1
set_option maxHeartbeats 4000000 in
set_option maxRecDepth 100000 in
theorem c_X7_addSeries {l : Launch} {g : bq_G} {L : List Nat} {z : Nat} {E : bq_E} {a0 : Nat} {x1 : Int32} {x2 : Int32} {x3 : Int32} {x4 : Int32} {R : (Int32 × bq_E)} (h : tw_X7_addSeries E a0 x1 x2 x3 x4 = some R) : bq_M l yX7_addSeries cX7_addSeries 7 (some .int) 6 142 [.ref a0, .int x1, .int x2, .int x3, .int x4] g L E z (some (.int R.1)) R.2 := by
  unfold tw_X7_addSeries at h
  obtain ⟨hcl, h⟩ := bq_guard h
  refine bq_enter (by decide) (Nat.le_of_ble_eq_true rfl) ?_
  intro p e s m args below meth c S hr hlocks hK hz hW ls hl
  have S : CallFix p m c cX7_addSeries 7 s args bq_WA RX7 := S
  have hx := S.1
  have hb := S.2.1
  have hl : lv_has ls 7 [(0, .ref a0), (1, .int x1), (2, .int x2), (3, .int x3), (4, .int x4)] := hl
  refine lv_aload_n hx hb dX7_addSeries_0 rfl (lv_at hl 0 rfl) ?_
  refine lv_iload_n hx hb dX7_addSeries_1 rfl (lv_at hl 1 rfl) ?_
  obtain ⟨v1, hv, h⟩ := bq_bind h
  refine bq_callV S hK hz mv_X7_80 (c_X7_isNode hv) (kc_X7_isNode hv) dX7_addSeries_2 [.int (bq_b v1)] (rest := []) rfl rfl rfl hl.1 (Nat.le_of_ble_eq_true rfl) ⟨Nat.le_of_ble_eq_true rfl, Nat.le_of_ble_eq_true rfl⟩ ⟨Nat.zero_le _, Nat.zero_le _⟩ hW (fun H locs hW => ?_)
  refine lv_if_ne (tgt := 14) hx hb dX7_addSeries_5 (by decide) (fun hc => ?_) (fun hc => ?_)
  · replace h := bq_ifF hc h
    refine lv_iload_n hx hb dX7_addSeries_14 rfl (lv_at hl 2 rfl) ?_
    obtain ⟨v2, hv, h⟩ := bq_bind h
    refine bq_callS S hK hz ms_X7_96 (c_X7_isKey hv) dX7_addSeries_15 [.int (bq_b v2)] (rest := []) rfl rfl rfl hl.1 (Nat.le_of_ble_eq_true rfl) ⟨Nat.le_of_ble_eq_true rfl, Nat.le_of_ble_eq_true rfl⟩ ⟨Nat.zero_le _, Nat.zero_le _⟩ hW (fun H locs hW => ?_)
    obtain ⟨k43, ek43, h⟩ := bq_letK h
    have hjk43 : ∀ (u0 : Unit) (H1 : Heap) (locs1 : List Loc) (ls1 : Array Slot), k43 u0 = some R → bq_H g L E z s.heap H1 locs1 → lv_has ls1 7 [(0, .ref a0)] → W p l e { frames := 6, cells := 0, slots := 0, locals := 142 } s m args below meth c H1 locs1 0 0 (MQ below (bq_Q g L R.2 z (some (.int R.1))) args s 0 0 (bq_A z)) (F0 m 43 ls1 []) := by
      intro u0 H locs ls h hW hl
      replace h := bq_kap1 ek43 h
      refine lv_aload_n hx hb dX7_addSeries_43 rfl (lv_at hl 0 rfl) ?_
      refine lv_iconst (v := 2) hx hb dX7_addSeries_44 (by decide) ?_
      obtain ⟨v3, hv, h⟩ := bq_bind h
      refine bq_callV S hK hz mv_X7_84 (c_X7_fails hv) (kc_X7_fails hv) dX7_addSeries_45 [.int v3.1] (rest := []) rfl rfl rfl hl.1 (Nat.le_of_ble_eq_true rfl) ⟨Nat.le_of_ble_eq_true rfl, Nat.le_of_ble_eq_true rfl⟩ ⟨Nat.zero_le _, Nat.zero_le _⟩ hW (fun H locs hW => ?_)
      cases h
      exact bq_reti S hr hlocks hK hz dX7_addSeries_48 hW
    clear ek43
    refine lv_if_eq (tgt := 43) hx hb dX7_addSeries_18 (by decide) (fun hc => ?_) (fun hc => ?_)
    · replace h := bq_ifT hc h
      exact hjk43 () _ _ _ h hW (lv_sub hl [0] rfl)
    · replace h := bq_ifF hc h
      refine lv_iload_n hx hb dX7_addSeries_21 rfl (lv_at hl 3 rfl) ?_
      refine lv_iconst (v := 1) hx hb dX7_addSeries_22 (by decide) ?_
      refine lv_sipush (v := 999) hx hb dX7_addSeries_23 (by decide) ?_
      obtain ⟨v4, hv, h⟩ := bq_bind h
      refine bq_callS S hK hz ms_X7_42 (c_X7_in hv) dX7_addSeries_26 [.int (bq_b v4)] (rest := []) rfl rfl rfl hl.1 (Nat.le_of_ble_eq_true rfl) ⟨Nat.le_of_ble_eq_true rfl, Nat.le_of_ble_eq_true rfl⟩ ⟨Nat.zero_le _, Nat.zero_le _⟩ hW (fun H locs hW => ?_)
      refine lv_if_eq (tgt := 43) hx hb dX7_addSeries_29 (by decide) (fun hc => ?_) (fun hc => ?_)
      · replace h := bq_ifT hc h
        exact hjk43 () _ _ _ h hW (lv_sub hl [0] rfl)
      · replace h := bq_ifF hc h
        refine lv_iload hx hb dX7_addSeries_32 (lv_at hl 4 rfl) ?_
        refine lv_iconst (v := 1) hx hb dX7_addSeries_34 (by decide) ?_
        refine lv_bipush (v := 24) hx hb dX7_addSeries_35 (by decide) ?_
        obtain ⟨v5, hv, h⟩ := bq_bind h
        refine bq_callS S hK hz ms_X7_42 (c_X7_in hv) dX7_addSeries_37 [.int (bq_b v5)] (rest := []) rfl rfl rfl hl.1 (Nat.le_of_ble_eq_true rfl) ⟨Nat.le_of_ble_eq_true rfl, Nat.le_of_ble_eq_true rfl⟩ ⟨Nat.zero_le _, Nat.zero_le _⟩ hW (fun H locs hW => ?_)
        refine lv_if_ne (tgt := 49) hx hb dX7_addSeries_40 (by decide) (fun hc => ?_) (fun hc => ?_)
        · replace h := bq_ifF hc h
          refine lv_aload_n hx hb dX7_addSeries_49 rfl (lv_at hl 0 rfl) ?_
          obtain ⟨E6, hv, h⟩ := bq_bind h
          refine bq_callV S hK hz mv_X7_87 (c_X7_hold hv) (kc_X7_hold hv) dX7_addSeries_50 [] (rest := []) rfl rfl rfl hl.1 (Nat.le_of_ble_eq_true rfl) ⟨Nat.le_of_ble_eq_true rfl, Nat.le_of_ble_eq_true rfl⟩ ⟨Nat.zero_le _, Nat.zero_le _⟩ hW (fun H locs hW => ?_)
          refine lv_iconst (v := 0) hx hb dX7_addSeries_53 (by decide) ?_
          refine lv_istore (lv' := [(5, .int (0 : Int32)), (0, .ref a0), (1, .int x1), (2, .int x2), (3, .int x3), (4, .int x4)]) hx hb dX7_addSeries_54 hl (by decide) rfl (fun ls hl => ?_)
          refine lv_iconst (v := 0) hx hb dX7_addSeries_56 (by decide) ?_
          refine lv_istore (lv' := [(6, .int (0 : Int32)), (5, .int (0 : Int32)), (0, .ref a0), (1, .int x1), (2, .int x2), (3, .int x3), (4, .int x4)]) hx hb dX7_addSeries_57 hl (by decide) rfl (fun ls hl => ?_)
          have hL59 : ∀ (n : Nat) (z10 : Int32) (z11 : Int32) (E12 : bq_E) (H1 : Heap) (locs1 : List Loc) (ls1 : Array Slot), tl_X7_addSeries_59 a0 x1 x2 x3 x4 n z10 z11 E12 = some R → bq_H g L E12 z s.heap H1 locs1 → lv_has ls1 7 [(0, .ref a0), (1, .int x1), (2, .int x2), (3, .int x3), (4, .int x4), (5, .int z10), (6, .int z11)] → W p l e { frames := 6, cells := 0, slots := 0, locals := 142 } s m args below meth c H1 locs1 0 0 (MQ below (bq_Q g L R.2 z (some (.int R.1))) args s 0 0 (bq_A z)) (F0 m 59 ls1 []) := by
            intro n
            induction n with
            | zero => intro z10 z11 E12 H locs ls h hW hl; cases h
            | succ n ih =>
              intro z10 z11 E12 H locs ls h hW hl
              rw [tl_X7_addSeries_59.eq_2] at h
              refine lv_iload hx hb dX7_addSeries_59 (lv_at hl 6 rfl) ?_
              refine lv_iload hx hb dX7_addSeries_61 (lv_at hl 4 rfl) ?_
              refine lv_icmp_ge (tgt := 122) hx hb dX7_addSeries_63 (by decide) (fun hc => ?_) (fun hc => ?_)
              · replace h := bq_ifT hc h
                refine lv_aload_n hx hb dX7_addSeries_122 rfl (lv_at hl 0 rfl) ?_
                refine lv_iload hx hb dX7_addSeries_123 (lv_at hl 5 rfl) ?_
                obtain ⟨v13, hv, h⟩ := bq_bind h
                refine bq_callV S hK hz mv_X7_90 (c_X7_ends hv) (kc_X7_ends hv) dX7_addSeries_125 [.int v13.1] (rest := []) rfl rfl rfl hl.1 (Nat.le_of_ble_eq_true rfl) ⟨Nat.le_of_ble_eq_true rfl, Nat.le_of_ble_eq_true rfl⟩ ⟨Nat.zero_le _, Nat.zero_le _⟩ hW (fun H locs hW => ?_)
                cases h
                exact bq_reti S hr hlocks hK hz dX7_addSeries_128 hW
              · replace h := bq_ifF hc h
                refine lv_iload_n hx hb dX7_addSeries_66 rfl (lv_at hl 2 rfl) ?_
                refine lv_iload hx hb dX7_addSeries_67 (lv_at hl 6 rfl) ?_
                refine lv_iload_n hx hb dX7_addSeries_69 rfl (lv_at hl 3 rfl) ?_
                refine lv_imul hx hb dX7_addSeries_70 ?_
                refine lv_iadd hx hb dX7_addSeries_71 ?_
                refine lv_sipush (v := 9999) hx hb dX7_addSeries_72 (by decide) ?_
                refine lv_icmp_gt (tgt := 122) hx hb dX7_addSeries_75 (by decide) (fun hc => ?_) (fun hc => ?_)
                · replace h := bq_ifT hc h
                  refine lv_aload_n hx hb dX7_addSeries_122 rfl (lv_at hl 0 rfl) ?_
                  refine lv_iload hx hb dX7_addSeries_123 (lv_at hl 5 rfl) ?_
                  obtain ⟨v14, hv, h⟩ := bq_bind h
                  refine bq_callV S hK hz mv_X7_90 (c_X7_ends hv) (kc_X7_ends hv) dX7_addSeries_125 [.int v14.1] (rest := []) rfl rfl rfl hl.1 (Nat.le_of_ble_eq_true rfl) ⟨Nat.le_of_ble_eq_true rfl, Nat.le_of_ble_eq_true rfl⟩ ⟨Nat.zero_le _, Nat.zero_le _⟩ hW (fun H locs hW => ?_)
                  cases h
                  exact bq_reti S hr hlocks hK hz dX7_addSeries_128 hW
                · replace h := bq_ifF hc h
                  refine lv_aload_n hx hb dX7_addSeries_78 rfl (lv_at hl 0 rfl) ?_
                  refine lv_iload_n hx hb dX7_addSeries_79 rfl (lv_at hl 1 rfl) ?_
                  obtain ⟨v15, hv, h⟩ := bq_bind h
                  refine bq_callV S hK hz mv_X7_103 (c_X7_keys hv) (kc_X7_keys hv) dX7_addSeries_80 [.int v15] (rest := []) rfl rfl rfl hl.1 (Nat.le_of_ble_eq_true rfl) ⟨Nat.le_of_ble_eq_true rfl, Nat.le_of_ble_eq_true rfl⟩ ⟨Nat.zero_le _, Nat.zero_le _⟩ hW (fun H locs hW => ?_)
                  refine lv_bipush (v := 24) hx hb dX7_addSeries_83 (by decide) ?_
                  refine lv_icmp_ge (tgt := 122) hx hb dX7_addSeries_85 (by decide) (fun hc => ?_) (fun hc => ?_)
                  · replace h := bq_ifT hc h
                    refine lv_aload_n hx hb dX7_addSeries_122 rfl (lv_at hl 0 rfl) ?_
                    refine lv_iload hx hb dX7_addSeries_123 (lv_at hl 5 rfl) ?_
                    obtain ⟨v16, hv, h⟩ := bq_bind h
                    refine bq_callV S hK hz mv_X7_90 (c_X7_ends hv) (kc_X7_ends hv) dX7_addSeries_125 [.int v16.1] (rest := []) rfl rfl rfl hl.1 (Nat.le_of_ble_eq_true rfl) ⟨Nat.le_of_ble_eq_true rfl, Nat.le_of_ble_eq_true rfl⟩ ⟨Nat.zero_le _, Nat.zero_le _⟩ hW (fun H locs hW => ?_)
                    cases h
                    exact bq_reti S hr hlocks hK hz dX7_addSeries_128 hW
                  · replace h := bq_ifF hc h
                    refine lv_aload_n hx hb dX7_addSeries_88 rfl (lv_at hl 0 rfl) ?_
                    refine lv_iload_n hx hb dX7_addSeries_89 rfl (lv_at hl 1 rfl) ?_
                    refine lv_iload_n hx hb dX7_addSeries_90 rfl (lv_at hl 2 rfl) ?_
                    refine lv_iload hx hb dX7_addSeries_91 (lv_at hl 6 rfl) ?_
                    refine lv_iload_n hx hb dX7_addSeries_93 rfl (lv_at hl 3 rfl) ?_
                    refine lv_imul hx hb dX7_addSeries_94 ?_
                    refine lv_iadd hx hb dX7_addSeries_95 ?_
                    obtain ⟨v17, hv, h⟩ := bq_bind h
                    refine bq_callV S hK hz mv_X7_99 (c_X7_has hv) (kc_X7_has hv) dX7_addSeries_96 [.int (bq_b v17)] (rest := []) rfl rfl rfl hl.1 (Nat.le_of_ble_eq_true rfl) ⟨Nat.le_of_ble_eq_true rfl, Nat.le_of_ble_eq_true rfl⟩ ⟨Nat.zero_le _, Nat.zero_le _⟩ hW (fun H locs hW => ?_)
                    refine lv_if_ne (tgt := 116) hx hb dX7_addSeries_99 (by decide) (fun hc => ?_) (fun hc => ?_)
                    · replace h := bq_ifF hc h
                      obtain ⟨v18, ev18⟩ : ∃ y : Int32, y = z11 + 1 := ⟨_, rfl⟩
                      replace h := bq_letE ev18 h
                      refine lv_iinc (v := v18) (lv' := [(6, .int v18), (0, .ref a0), (1, .int x1), (2, .int x2), (3, .int x3), (4, .int x4), (5, .int z10)]) hx hb dX7_addSeries_116 hl (k := 6) rfl (by rw [ev18]; rfl) (by decide) rfl (fun ls hl => ?_)
                      refine lv_goto (tgt := 59) hx hb dX7_addSeries_119 (by decide) ?_
                      exact ih z10 v18 E12 _ _ _ h hW (lv_sub hl [1, 2, 3, 4, 5, 6, 0] rfl)
                    · replace h := bq_ifT hc h
                      refine lv_aload_n hx hb dX7_addSeries_102 rfl (lv_at hl 0 rfl) ?_
                      refine lv_iload_n hx hb dX7_addSeries_103 rfl (lv_at hl 1 rfl) ?_
                      refine lv_iload_n hx hb dX7_addSeries_104 rfl (lv_at hl 2 rfl) ?_
                      refine lv_iload hx hb dX7_addSeries_105 (lv_at hl 6 rfl) ?_
                      refine lv_iload_n hx hb dX7_addSeries_107 rfl (lv_at hl 3 rfl) ?_
                      refine lv_imul hx hb dX7_addSeries_108 ?_
                      refine lv_iadd hx hb dX7_addSeries_109 ?_
                      obtain ⟨E19, hv, h⟩ := bq_bind h
                      refine bq_callV S hK hz mv_X7_106 (c_X7_comes hv) (kc_X7_comes hv) dX7_addSeries_110 [] (rest := []) rfl rfl rfl hl.1 (Nat.le_of_ble_eq_true rfl) ⟨Nat.le_of_ble_eq_true rfl, Nat.le_of_ble_eq_true rfl⟩ ⟨Nat.zero_le _, Nat.zero_le _⟩ hW (fun H locs hW => ?_)
                      obtain ⟨v20, ev20⟩ : ∃ y : Int32, y = z10 + 1 := ⟨_, rfl⟩
                      replace h := bq_letE ev20 h
                      refine lv_iinc (v := v20) (lv' := [(5, .int v20), (0, .ref a0), (1, .int x1), (2, .int x2), (3, .int x3), (4, .int x4), (6, .int z11)]) hx hb dX7_addSeries_113 hl (k := 5) rfl (by rw [ev20]; rfl) (by decide) rfl (fun ls hl => ?_)
                      obtain ⟨v21, ev21⟩ : ∃ y : Int32, y = z11 + 1 := ⟨_, rfl⟩
                      replace h := bq_letE ev21 h
                      refine lv_iinc (v := v21) (lv' := [(6, .int v21), (5, .int v20), (0, .ref a0), (1, .int x1), (2, .int x2), (3, .int x3), (4, .int x4)]) hx hb dX7_addSeries_116 hl (k := 6) rfl (by rw [ev21]; rfl) (by decide) rfl (fun ls hl => ?_)
                      refine lv_goto (tgt := 59) hx hb dX7_addSeries_119 (by decide) ?_
                      exact ih v20 v21 E19 _ _ _ h hW (lv_sub hl [2, 3, 4, 5, 6, 1, 0] rfl)
          exact hL59 bq_fuel (0 : Int32) (0 : Int32) E6 _ _ _ h hW (lv_sub hl [2, 3, 4, 5, 6, 1, 0] rfl)
        · replace h := bq_ifT hc h
          exact hjk43 () _ _ _ h hW (lv_sub hl [0] rfl)
  · replace h := bq_ifT hc h
    refine lv_aload_n hx hb dX7_addSeries_8 rfl (lv_at hl 0 rfl) ?_
    refine lv_iconst (v := 1) hx hb dX7_addSeries_9 (by decide) ?_
    obtain ⟨v22, hv, h⟩ := bq_bind h
    refine bq_callV S hK hz mv_X7_84 (c_X7_fails hv) (kc_X7_fails hv) dX7_addSeries_10 [.int v22.1] (rest := []) rfl rfl rfl hl.1 (Nat.le_of_ble_eq_true rfl) ⟨Nat.le_of_ble_eq_true rfl, Nat.le_of_ble_eq_true rfl⟩ ⟨Nat.zero_le _, Nat.zero_le _⟩ hW (fun H locs hW => ?_)
    cases h
    exact bq_reti S hr hlocks hK hz dX7_addSeries_13 hW

theorem kc_X7_setSizes {E : bq_E} {a0 : Nat} {x1 : Int32} {x2 : Int32} {R : (Int32 × bq_E)} (h : tw_X7_setSizes E a0 x1 x2 = some R) : bq_cls E a0 = 7 := (bq_guard h).1
set_option maxHeartbeats 4000000 in
set_option maxRecDepth 100000 in
theorem c_X7_setSizes {l : Launch} {g : bq_G} {L : List Nat} {z : Nat} {E : bq_E} {a0 : Nat} {x1 : Int32} {x2 : Int32} {R : (Int32 × bq_E)} (h : tw_X7_setSizes E a0 x1 x2 = some R) : bq_M l yX7_setSizes cX7_setSizes 4 (some .int) 2 43 [.ref a0, .int x1, .int x2] g L E z (some (.int R.1)) R.2 := by
  unfold tw_X7_setSizes at h
  obtain ⟨hcl, h⟩ := bq_guard h
  refine bq_enter (by decide) (Nat.le_of_ble_eq_true rfl) ?_
  intro p e s m args below meth c S hr hlocks hK hz hW ls hl
  have S : CallFix p m c cX7_setSizes 4 s args bq_WA RX7 := S
  have hx := S.1
  have hb := S.2.1
  have hl : lv_has ls 4 [(0, .ref a0), (1, .int x1), (2, .int x2)] := hl
  refine lv_iload_n hx hb dX7_setSizes_0 rfl (lv_at hl 1 rfl) ?_
  refine lv_iconst (v := 1) hx hb dX7_setSizes_1 (by decide) ?_
  refine lv_bipush (v := 8) hx hb dX7_setSizes_2 (by decide) ?_
  obtain ⟨v1, hv, h⟩ := bq_bind h
  refine bq_callS S hK hz ms_X7_42 (c_X7_in hv) dX7_setSizes_4 [.int (bq_b v1)] (rest := []) rfl rfl rfl hl.1 (Nat.le_of_ble_eq_true rfl) ⟨Nat.le_of_ble_eq_true rfl, Nat.le_of_ble_eq_true rfl⟩ ⟨Nat.zero_le _, Nat.zero_le _⟩ hW (fun H locs hW => ?_)
  obtain ⟨k19, ek19, h⟩ := bq_letK h
  have hjk19 : ∀ (u0 : Unit) (H1 : Heap) (locs1 : List Loc) (ls1 : Array Slot), k19 u0 = some R → bq_H g L E z s.heap H1 locs1 → lv_has ls1 4 [(0, .ref a0)] → W p l e { frames := 2, cells := 0, slots := 0, locals := 43 } s m args below meth c H1 locs1 0 0 (MQ below (bq_Q g L R.2 z (some (.int R.1))) args s 0 0 (bq_A z)) (F0 m 19 ls1 []) := by
    intro u0 H locs ls h hW hl
    replace h := bq_kap1 ek19 h
    refine lv_aload_n hx hb dX7_setSizes_19 rfl (lv_at hl 0 rfl) ?_
    refine lv_iconst (v := 1) hx hb dX7_setSizes_20 (by decide) ?_
    obtain ⟨v2, hv, h⟩ := bq_bind h
    refine bq_callV S hK hz mv_X7_84 (c_X7_fails hv) (kc_X7_fails hv) dX7_setSizes_21 [.int v2.1] (rest := []) rfl rfl rfl hl.1 (Nat.le_of_ble_eq_true rfl) ⟨Nat.le_of_ble_eq_true rfl, Nat.le_of_ble_eq_true rfl⟩ ⟨Nat.zero_le _, Nat.zero_le _⟩ hW (fun H locs hW => ?_)
    cases h
    exact bq_reti S hr hlocks hK hz dX7_setSizes_24 hW
  clear ek19
  refine lv_if_eq (tgt := 19) hx hb dX7_setSizes_7 (by decide) (fun hc => ?_) (fun hc => ?_)
  · replace h := bq_ifT hc h
    exact hjk19 () _ _ _ h hW (lv_sub hl [0] rfl)
  · replace h := bq_ifF hc h
    refine lv_iload_n hx hb dX7_setSizes_10 rfl (lv_at hl 2 rfl) ?_
    refine lv_iconst (v := 2) hx hb dX7_setSizes_11 (by decide) ?_
    refine lv_iconst (v := 5) hx hb dX7_setSizes_12 (by decide) ?_
    obtain ⟨v3, hv, h⟩ := bq_bind h
    refine bq_callS S hK hz ms_X7_42 (c_X7_in hv) dX7_setSizes_13 [.int (bq_b v3)] (rest := []) rfl rfl rfl hl.1 (Nat.le_of_ble_eq_true rfl) ⟨Nat.le_of_ble_eq_true rfl, Nat.le_of_ble_eq_true rfl⟩ ⟨Nat.zero_le _, Nat.zero_le _⟩ hW (fun H locs hW => ?_)
    refine lv_if_ne (tgt := 25) hx hb dX7_setSizes_16 (by decide) (fun hc => ?_) (fun hc => ?_)
    · replace h := bq_ifF hc h
      refine lv_aload_n hx hb dX7_setSizes_25 rfl (lv_at hl 0 rfl) ?_
      obtain ⟨E4, hv, h⟩ := bq_bind h
      refine bq_callV S hK hz mv_X7_87 (c_X7_hold hv) (kc_X7_hold hv) dX7_setSizes_26 [] (rest := []) rfl rfl rfl hl.1 (Nat.le_of_ble_eq_true rfl) ⟨Nat.le_of_ble_eq_true rfl, Nat.le_of_ble_eq_true rfl⟩ ⟨Nat.zero_le _, Nat.zero_le _⟩ hW (fun H locs hW => ?_)
      refine lv_bipush (v := 10) hx hb dX7_setSizes_29 (by decide) ?_
      refine lv_aload_n hx hb dX7_setSizes_31 rfl (lv_at hl 0 rfl) ?_
      obtain ⟨v5, hv, h⟩ := bq_bind h
      refine bq_getr S hK fl_X7_7 dX7_setSizes_32 hv hW ?_
      refine lv_iconst (v := 1) hx hb dX7_setSizes_35 (by decide) ?_
      obtain ⟨v6, hv, h⟩ := bq_bind h
      refine bq_iald S hK dX7_setSizes_36 hv hW ?_
      refine lv_imul hx hb dX7_setSizes_37 ?_
      refine lv_aload_n hx hb dX7_setSizes_38 rfl (lv_at hl 0 rfl) ?_
      obtain ⟨v7, hv, h⟩ := bq_bind h
      refine bq_getr S hK fl_X7_7 dX7_setSizes_39 hv hW ?_
      refine lv_iconst (v := 2) hx hb dX7_setSizes_42 (by decide) ?_
      obtain ⟨v8, hv, h⟩ := bq_bind h
      refine bq_iald S hK dX7_setSizes_43 hv hW ?_
      refine lv_iadd hx hb dX7_setSizes_44 ?_
      refine lv_topi (fun v9 ev9 => ?_)
      replace h := bq_letE ev9 h
      refine lv_istore_n (lv' := [(3, .int v9), (0, .ref a0), (1, .int x1), (2, .int x2)]) hx hb dX7_setSizes_45 rfl hl (by decide) rfl (fun ls hl => ?_)
      refine lv_aload_n hx hb dX7_setSizes_46 rfl (lv_at hl 1 rfl) ?_
      obtain ⟨v10, hv, h⟩ := bq_bind h
      refine bq_getr S hK fl_X7_7 dX7_setSizes_47 hv hW ?_
      refine lv_iconst (v := 1) hx hb dX7_setSizes_50 (by decide) ?_
      refine lv_iload_n hx hb dX7_setSizes_51 rfl (lv_at hl 2 rfl) ?_
      obtain ⟨E11, hv, h⟩ := bq_bind h
      refine bq_iast S hK dX7_setSizes_52 hv hW (fun H locs hW => ?_)
      refine lv_aload_n hx hb dX7_setSizes_53 rfl (lv_at hl 1 rfl) ?_
      obtain ⟨v12, hv, h⟩ := bq_bind h
      refine bq_getr S hK fl_X7_7 dX7_setSizes_54 hv hW ?_
      refine lv_iconst (v := 2) hx hb dX7_setSizes_57 (by decide) ?_
      refine lv_iload_n hx hb dX7_setSizes_58 rfl (lv_at hl 3 rfl) ?_
      obtain ⟨E13, hv, h⟩ := bq_bind h
      refine bq_iast S hK dX7_setSizes_59 hv hW (fun H locs hW => ?_)
      refine lv_aload_n hx hb dX7_setSizes_60 rfl (lv_at hl 1 rfl) ?_
      refine lv_iload_n hx hb dX7_setSizes_61 rfl (lv_at hl 0 rfl) ?_
      obtain ⟨v14, hv, h⟩ := bq_bind h
      refine bq_callV S hK hz mv_X7_90 (c_X7_ends hv) (kc_X7_ends hv) dX7_setSizes_62 [.int v14.1] (rest := []) rfl rfl rfl hl.1 (Nat.le_of_ble_eq_true rfl) ⟨Nat.le_of_ble_eq_true rfl, Nat.le_of_ble_eq_true rfl⟩ ⟨Nat.zero_le _, Nat.zero_le _⟩ hW (fun H locs hW => ?_)
      cases h
      exact bq_reti S hr hlocks hK hz dX7_setSizes_65 hW
    · replace h := bq_ifT hc h
      exact hjk19 () _ _ _ h hW (lv_sub hl [0] rfl)

theorem kc_X7_rebuild {E : bq_E} {a0 : Nat} {x1 : Int32} {R : (Int32 × bq_E)} (h : tw_X7_rebuild E a0 x1 = some R) : bq_cls E a0 = 7 := (bq_guard h).1
set_option maxHeartbeats 4000000 in
set_option maxRecDepth 100000 in
theorem c_X7_rebuild {l : Launch} {g : bq_G} {L : List Nat} {z : Nat} {E : bq_E} {a0 : Nat} {x1 : Int32} {R : (Int32 × bq_E)} (h : tw_X7_rebuild E a0 x1 = some R) : bq_M l yX7_rebuild cX7_rebuild 2 (some .int) 5 118 [.ref a0, .int x1] g L E z (some (.int R.1)) R.2 := by
  unfold tw_X7_rebuild at h
  obtain ⟨hcl, h⟩ := bq_guard h
  refine bq_enter (by decide) (Nat.le_of_ble_eq_true rfl) ?_
  intro p e s m args below meth c S hr hlocks hK hz hW ls hl
  have S : CallFix p m c cX7_rebuild 2 s args bq_WA RX7 := S
  have hx := S.1
  have hb := S.2.1
  have hl : lv_has ls 2 [(0, .ref a0), (1, .int x1)] := hl
  refine lv_aload_n hx hb dX7_rebuild_0 rfl (lv_at hl 0 rfl) ?_
  refine lv_iload_n hx hb dX7_rebuild_1 rfl (lv_at hl 1 rfl) ?_
  obtain ⟨v1, hv, h⟩ := bq_bind h
  refine bq_callV S hK hz mv_X7_80 (c_X7_isNode hv) (kc_X7_isNode hv) dX7_rebuild_2 [.int (bq_b v1)] (rest := []) rfl rfl rfl hl.1 (Nat.le_of_ble_eq_true rfl) ⟨Nat.le_of_ble_eq_true rfl, Nat.le_of_ble_eq_true rfl⟩ ⟨Nat.zero_le _, Nat.zero_le _⟩ hW (fun H locs hW => ?_)
  refine lv_if_ne (tgt := 14) hx hb dX7_rebuild_5 (by decide) (fun hc => ?_) (fun hc => ?_)
  · replace h := bq_ifF hc h
    refine lv_aload_n hx hb dX7_rebuild_14 rfl (lv_at hl 0 rfl) ?_
    obtain ⟨E2, hv, h⟩ := bq_bind h
    refine bq_callV S hK hz mv_X7_87 (c_X7_hold hv) (kc_X7_hold hv) dX7_rebuild_15 [] (rest := []) rfl rfl rfl hl.1 (Nat.le_of_ble_eq_true rfl) ⟨Nat.le_of_ble_eq_true rfl, Nat.le_of_ble_eq_true rfl⟩ ⟨Nat.zero_le _, Nat.zero_le _⟩ hW (fun H locs hW => ?_)
    refine lv_aload_n hx hb dX7_rebuild_18 rfl (lv_at hl 0 rfl) ?_
    refine lv_aload_n hx hb dX7_rebuild_19 rfl (lv_at hl 0 rfl) ?_
    refine lv_iload_n hx hb dX7_rebuild_20 rfl (lv_at hl 1 rfl) ?_
    obtain ⟨v3, hv, h⟩ := bq_bind h
    refine bq_callV S hK hz mv_X7_93 (c_X7_rebuilds hv) (kc_X7_rebuilds hv) dX7_rebuild_21 [.int v3.1, .ref a0] (rest := [.ref a0]) rfl rfl rfl hl.1 (Nat.le_of_ble_eq_true rfl) ⟨Nat.le_of_ble_eq_true rfl, Nat.le_of_ble_eq_true rfl⟩ ⟨Nat.zero_le _, Nat.zero_le _⟩ hW (fun H locs hW => ?_)
    obtain ⟨v4, hv, h⟩ := bq_bind h
    refine bq_callV S hK hz mv_X7_90 (c_X7_ends hv) (kc_X7_ends hv) dX7_rebuild_24 [.int v4.1] (rest := []) rfl rfl rfl hl.1 (Nat.le_of_ble_eq_true rfl) ⟨Nat.le_of_ble_eq_true rfl, Nat.le_of_ble_eq_true rfl⟩ ⟨Nat.zero_le _, Nat.zero_le _⟩ hW (fun H locs hW => ?_)
    cases h
    exact bq_reti S hr hlocks hK hz dX7_rebuild_27 hW
  · replace h := bq_ifT hc h
    refine lv_aload_n hx hb dX7_rebuild_8 rfl (lv_at hl 0 rfl) ?_
    refine lv_iconst (v := 1) hx hb dX7_rebuild_9 (by decide) ?_
    obtain ⟨v5, hv, h⟩ := bq_bind h
    refine bq_callV S hK hz mv_X7_84 (c_X7_fails hv) (kc_X7_fails hv) dX7_rebuild_10 [.int v5.1] (rest := []) rfl rfl rfl hl.1 (Nat.le_of_ble_eq_true rfl) ⟨Nat.le_of_ble_eq_true rfl, Nat.le_of_ble_eq_true rfl⟩ ⟨Nat.zero_le _, Nat.zero_le _⟩ hW (fun H locs hW => ?_)
    cases h
    exact bq_reti S hr hlocks hK hz dX7_rebuild_13 hW

theorem kc_X7_entriesOfAll {E : bq_E} {a0 : Nat} {R : Int32} (h : tw_X7_entriesOfAll E a0 = some R) : bq_cls E a0 = 7 := (bq_guard h).1
set_option maxHeartbeats 4000000 in
set_option maxRecDepth 100000 in
theorem c_X7_entriesOfAll {l : Launch} {g : bq_G} {L : List Nat} {z : Nat} {E : bq_E} {a0 : Nat} {R : Int32} (h : tw_X7_entriesOfAll E a0 = some R) : bq_M l yX7_entriesOfAll cX7_entriesOfAll 3 (some .int) 1 22 [.ref a0] g L E z (some (.int R)) E := by
  unfold tw_X7_entriesOfAll at h
  obtain ⟨hcl, h⟩ := bq_guard h
  refine bq_enter (by decide) (Nat.le_of_ble_eq_true rfl) ?_
  intro p e s m args below meth c S hr hlocks hK hz hW ls hl
  have S : CallFix p m c cX7_entriesOfAll 3 s args bq_WA RX7 := S
  have hx := S.1
  have hb := S.2.1
  have hl : lv_has ls 3 [(0, .ref a0)] := hl
  refine lv_iconst (v := 0) hx hb dX7_entriesOfAll_0 (by decide) ?_
  refine lv_istore_n (lv' := [(1, .int (0 : Int32)), (0, .ref a0)]) hx hb dX7_entriesOfAll_1 rfl hl (by decide) rfl (fun ls hl => ?_)
  refine lv_iconst (v := 0) hx hb dX7_entriesOfAll_2 (by decide) ?_
  refine lv_istore_n (lv' := [(2, .int (0 : Int32)), (1, .int (0 : Int32)), (0, .ref a0)]) hx hb dX7_entriesOfAll_3 rfl hl (by decide) rfl (fun ls hl => ?_)
  have hL4 : ∀ (n : Nat) (z3 : Int32) (z4 : Int32) (H1 : Heap) (locs1 : List Loc) (ls1 : Array Slot), tl_X7_entriesOfAll_4 E a0 n z3 z4 = some R → bq_H g L E z s.heap H1 locs1 → lv_has ls1 3 [(0, .ref a0), (1, .int z3), (2, .int z4)] → W p l e { frames := 1, cells := 0, slots := 0, locals := 22 } s m args below meth c H1 locs1 0 0 (MQ below (bq_Q g L E z (some (.int R))) args s 0 0 (bq_A z)) (F0 m 4 ls1 []) := by
    intro n
    induction n with
    | zero => intro z3 z4 H locs ls h hW hl; cases h
    | succ n ih =>
      intro z3 z4 H locs ls h hW hl
      rw [tl_X7_entriesOfAll_4.eq_2] at h
      refine lv_iload_n hx hb dX7_entriesOfAll_4 rfl (lv_at hl 2 rfl) ?_
      refine lv_aload_n hx hb dX7_entriesOfAll_5 rfl (lv_at hl 0 rfl) ?_
      obtain ⟨v5, hv, h⟩ := bq_bind h
      refine bq_getr S hK fl_X7_7 dX7_entriesOfAll_6 hv hW ?_
      refine lv_iconst (v := 0) hx hb dX7_entriesOfAll_9 (by decide) ?_
      obtain ⟨v6, hv, h⟩ := bq_bind h
      refine bq_iald S hK dX7_entriesOfAll_10 hv hW ?_
      refine lv_icmp_ge (tgt := 30) hx hb dX7_entriesOfAll_11 (by decide) (fun hc => ?_) (fun hc => ?_)
      · replace h := bq_ifT hc h
        refine lv_iload_n hx hb dX7_entriesOfAll_30 rfl (lv_at hl 1 rfl) ?_
        cases h
        exact bq_reti S hr hlocks hK hz dX7_entriesOfAll_31 hW
      · replace h := bq_ifF hc h
        refine lv_iload_n hx hb dX7_entriesOfAll_14 rfl (lv_at hl 1 rfl) ?_
        refine lv_aload_n hx hb dX7_entriesOfAll_15 rfl (lv_at hl 0 rfl) ?_
        refine lv_iload_n hx hb dX7_entriesOfAll_16 rfl (lv_at hl 2 rfl) ?_
        refine lv_bipush (v := 61) hx hb dX7_entriesOfAll_17 (by decide) ?_
        obtain ⟨v7, hv, h⟩ := bq_bind h
        refine bq_callV S hK hz mv_X7_46 (c_X7_of hv) (kc_X7_of hv) dX7_entriesOfAll_19 [.int v7, .int z3] (rest := [.int z3]) rfl rfl rfl hl.1 (Nat.le_of_ble_eq_true rfl) ⟨Nat.le_of_ble_eq_true rfl, Nat.le_of_ble_eq_true rfl⟩ ⟨Nat.zero_le _, Nat.zero_le _⟩ hW (fun H locs hW => ?_)
        refine lv_iadd hx hb dX7_entriesOfAll_22 ?_
        refine lv_topi (fun v8 ev8 => ?_)
        replace h := bq_letE ev8 h
        refine lv_istore_n (lv' := [(1, .int v8), (0, .ref a0), (2, .int z4)]) hx hb dX7_entriesOfAll_23 rfl hl (by decide) rfl (fun ls hl => ?_)
        obtain ⟨v9, ev9⟩ : ∃ y : Int32, y = z4 + 1 := ⟨_, rfl⟩
        replace h := bq_letE ev9 h
        refine lv_iinc (v := v9) (lv' := [(2, .int v9), (1, .int v8), (0, .ref a0)]) hx hb dX7_entriesOfAll_24 hl (k := 2) rfl (by rw [ev9]; rfl) (by decide) rfl (fun ls hl => ?_)
        refine lv_goto (tgt := 4) hx hb dX7_entriesOfAll_27 (by decide) ?_
        exact ih v8 v9 _ _ _ h hW (lv_sub hl [2, 1, 0] rfl)
  exact hL4 bq_fuel (0 : Int32) (0 : Int32) _ _ _ h hW (lv_sub hl [2, 1, 0] rfl)

theorem kc_X7_rebuildAll {E : bq_E} {a0 : Nat} {R : (Int32 × bq_E)} (h : tw_X7_rebuildAll E a0 = some R) : bq_cls E a0 = 7 := (bq_guard h).1
set_option maxHeartbeats 4000000 in
set_option maxRecDepth 100000 in
theorem c_X7_rebuildAll {l : Launch} {g : bq_G} {L : List Nat} {z : Nat} {E : bq_E} {a0 : Nat} {R : (Int32 × bq_E)} (h : tw_X7_rebuildAll E a0 = some R) : bq_M l yX7_rebuildAll cX7_rebuildAll 3 (some .int) 5 118 [.ref a0] g L E z (some (.int R.1)) R.2 := by
  unfold tw_X7_rebuildAll at h
  obtain ⟨hcl, h⟩ := bq_guard h
  refine bq_enter (by decide) (Nat.le_of_ble_eq_true rfl) ?_
  intro p e s m args below meth c S hr hlocks hK hz hW ls hl
  have S : CallFix p m c cX7_rebuildAll 3 s args bq_WA RX7 := S
  have hx := S.1
  have hb := S.2.1
  have hl : lv_has ls 3 [(0, .ref a0)] := hl
  refine lv_aload_n hx hb dX7_rebuildAll_0 rfl (lv_at hl 0 rfl) ?_
  obtain ⟨E1, hv, h⟩ := bq_bind h
  refine bq_callV S hK hz mv_X7_87 (c_X7_hold hv) (kc_X7_hold hv) dX7_rebuildAll_1 [] (rest := []) rfl rfl rfl hl.1 (Nat.le_of_ble_eq_true rfl) ⟨Nat.le_of_ble_eq_true rfl, Nat.le_of_ble_eq_true rfl⟩ ⟨Nat.zero_le _, Nat.zero_le _⟩ hW (fun H locs hW => ?_)
  refine lv_iconst (v := 0) hx hb dX7_rebuildAll_4 (by decide) ?_
  refine lv_istore_n (lv' := [(1, .int (0 : Int32)), (0, .ref a0)]) hx hb dX7_rebuildAll_5 rfl hl (by decide) rfl (fun ls hl => ?_)
  refine lv_aload_n hx hb dX7_rebuildAll_6 rfl (lv_at hl 1 rfl) ?_
  obtain ⟨v2, hv, h⟩ := bq_bind h
  refine bq_getr S hK fl_X7_7 dX7_rebuildAll_7 hv hW ?_
  refine lv_iconst (v := 0) hx hb dX7_rebuildAll_10 (by decide) ?_
  obtain ⟨v3, hv, h⟩ := bq_bind h
  refine bq_iald S hK dX7_rebuildAll_11 hv hW ?_
  refine lv_iconst (v := 1) hx hb dX7_rebuildAll_12 (by decide) ?_
  refine lv_isub hx hb dX7_rebuildAll_13 ?_
  refine lv_topi (fun v4 ev4 => ?_)
  replace h := bq_letE ev4 h
  refine lv_istore_n (lv' := [(2, .int v4), (1, .int (0 : Int32)), (0, .ref a0)]) hx hb dX7_rebuildAll_14 rfl hl (by decide) rfl (fun ls hl => ?_)
  have hL15 : ∀ (K : Int32 → Int32 → bq_E → Option (Int32 × bq_E)) (hX : ∀ (u17 : Int32) (u18 : Int32) (E19 : bq_E) (H1 : Heap) (locs1 : List Loc) (ls1 : Array Slot), K u17 u18 E19 = some R → bq_H g L E19 z s.heap H1 locs1 → lv_has ls1 3 [(0, .ref a0), (1, .int u17)] → W p l e { frames := 5, cells := 0, slots := 0, locals := 118 } s m args below meth c H1 locs1 0 0 (MQ below (bq_Q g L R.2 z (some (.int R.1))) args s 0 0 (bq_A z)) (F0 m 33 ls1 [])), ∀ (n : Nat) (z11 : Int32) (z12 : Int32) (E13 : bq_E) (H1 : Heap) (locs1 : List Loc) (ls1 : Array Slot), tl_X7_rebuildAll_15 a0 K n z11 z12 E13 = some R → bq_H g L E13 z s.heap H1 locs1 → lv_has ls1 3 [(0, .ref a0), (1, .int z11), (2, .int z12)] → W p l e { frames := 5, cells := 0, slots := 0, locals := 118 } s m args below meth c H1 locs1 0 0 (MQ below (bq_Q g L R.2 z (some (.int R.1))) args s 0 0 (bq_A z)) (F0 m 15 ls1 []) := by
    intro K hX n
    induction n with
    | zero => intro z11 z12 E13 H locs ls h hW hl; cases h
    | succ n ih =>
      intro z11 z12 E13 H locs ls h hW hl
      rw [tl_X7_rebuildAll_15.eq_2] at h
      refine lv_iload_n hx hb dX7_rebuildAll_15 rfl (lv_at hl 2 rfl) ?_
      refine lv_if_lt (tgt := 33) hx hb dX7_rebuildAll_16 (by decide) (fun hc => ?_) (fun hc => ?_)
      · replace h := bq_ifT hc h
        exact hX z11 z12 E13 _ _ _ h hW (lv_sub hl [0, 1] rfl)
      · replace h := bq_ifF hc h
        refine lv_iload_n hx hb dX7_rebuildAll_19 rfl (lv_at hl 1 rfl) ?_
        refine lv_aload_n hx hb dX7_rebuildAll_20 rfl (lv_at hl 0 rfl) ?_
        refine lv_iload_n hx hb dX7_rebuildAll_21 rfl (lv_at hl 2 rfl) ?_
        obtain ⟨v14, hv, h⟩ := bq_bind h
        refine bq_callV S hK hz mv_X7_93 (c_X7_rebuilds hv) (kc_X7_rebuilds hv) dX7_rebuildAll_22 [.int v14.1, .int z11] (rest := [.int z11]) rfl rfl rfl hl.1 (Nat.le_of_ble_eq_true rfl) ⟨Nat.le_of_ble_eq_true rfl, Nat.le_of_ble_eq_true rfl⟩ ⟨Nat.zero_le _, Nat.zero_le _⟩ hW (fun H locs hW => ?_)
        refine lv_iadd hx hb dX7_rebuildAll_25 ?_
        refine lv_topi (fun v15 ev15 => ?_)
        replace h := bq_letE ev15 h
        refine lv_istore_n (lv' := [(1, .int v15), (0, .ref a0), (2, .int z12)]) hx hb dX7_rebuildAll_26 rfl hl (by decide) rfl (fun ls hl => ?_)
        obtain ⟨v16, ev16⟩ : ∃ y : Int32, y = z12 + (-1) := ⟨_, rfl⟩
        replace h := bq_letE ev16 h
        refine lv_iinc (v := v16) (lv' := [(2, .int v16), (1, .int v15), (0, .ref a0)]) hx hb dX7_rebuildAll_27 hl (k := 2) rfl (by rw [ev16]; rfl) (by decide) rfl (fun ls hl => ?_)
        refine lv_goto (tgt := 15) hx hb dX7_rebuildAll_30 (by decide) ?_
        exact ih v15 v16 v14.2 _ _ _ h hW (lv_sub hl [2, 1, 0] rfl)
  refine hL15 _ (fun y5 y6 E7 H locs ls h hW hl => ?_) bq_fuel (0 : Int32) v4 E1 _ _ _ h hW (lv_sub hl [2, 1, 0] rfl)
  refine lv_aload_n hx hb dX7_rebuildAll_33 rfl (lv_at hl 0 rfl) ?_
  refine lv_iload_n hx hb dX7_rebuildAll_34 rfl (lv_at hl 1 rfl) ?_
  refine lv_if_ge (tgt := 42) hx hb dX7_rebuildAll_35 (by decide) (fun hc => ?_) (fun hc => ?_)
  · replace h := bq_ifT hc h
    refine lv_aload_n hx hb dX7_rebuildAll_42 rfl (lv_at hl 0 rfl) ?_
    obtain ⟨v8, hv, h⟩ := bq_bind h
    refine bq_callV S hK hz mv_X7_113 (c_X7_entriesOfAll hv) (kc_X7_entriesOfAll hv) dX7_rebuildAll_43 [.int v8, .ref a0] (rest := [.ref a0]) rfl rfl rfl hl.1 (Nat.le_of_ble_eq_true rfl) ⟨Nat.le_of_ble_eq_true rfl, Nat.le_of_ble_eq_true rfl⟩ ⟨Nat.zero_le _, Nat.zero_le _⟩ hW (fun H locs hW => ?_)
    obtain ⟨v9, hv, h⟩ := bq_bind h
    refine bq_callV S hK hz mv_X7_90 (c_X7_ends hv) (kc_X7_ends hv) dX7_rebuildAll_46 [.int v9.1] (rest := []) rfl rfl rfl hl.1 (Nat.le_of_ble_eq_true rfl) ⟨Nat.le_of_ble_eq_true rfl, Nat.le_of_ble_eq_true rfl⟩ ⟨Nat.zero_le _, Nat.zero_le _⟩ hW (fun H locs hW => ?_)
    cases h
    exact bq_reti S hr hlocks hK hz dX7_rebuildAll_49 hW
  · replace h := bq_ifF hc h
    refine lv_iload_n hx hb dX7_rebuildAll_38 rfl (lv_at hl 1 rfl) ?_
    refine lv_goto (tgt := 46) hx hb dX7_rebuildAll_39 (by decide) ?_
    obtain ⟨v10, hv, h⟩ := bq_bind h
    refine bq_callV S hK hz mv_X7_90 (c_X7_ends hv) (kc_X7_ends hv) dX7_rebuildAll_46 [.int v10.1] (rest := []) rfl rfl rfl hl.1 (Nat.le_of_ble_eq_true rfl) ⟨Nat.le_of_ble_eq_true rfl, Nat.le_of_ble_eq_true rfl⟩ ⟨Nat.zero_le _, Nat.zero_le _⟩ hW (fun H locs hW => ?_)
    cases h
    exact bq_reti S hr hlocks hK hz dX7_rebuildAll_49 hW

theorem kc_X7_lays {E : bq_E} {a0 : Nat} {x1 : Int32} {R : bq_E} (h : tw_X7_lays E a0 x1 = some R) : bq_cls E a0 = 7 := (bq_guard h).1
set_option maxHeartbeats 4000000 in
set_option maxRecDepth 100000 in
theorem c_X7_lays {l : Launch} {g : bq_G} {L : List Nat} {z : Nat} {E : bq_E} {a0 : Nat} {x1 : Int32} {R : bq_E} (h : tw_X7_lays E a0 x1 = some R) : bq_M l yX7_lays cX7_lays 4 none 1 22 [.ref a0, .int x1] g L E z none R := by
  unfold tw_X7_lays at h
  obtain ⟨hcl, h⟩ := bq_guard h
  refine bq_enter (by decide) (Nat.le_of_ble_eq_true rfl) ?_
  intro p e s m args below meth c S hr hlocks hK hz hW ls hl
  have S : CallFix p m c cX7_lays 4 s args bq_WA RX7 := S
  have hx := S.1
  have hb := S.2.1
  have hl : lv_has ls 4 [(0, .ref a0), (1, .int x1)] := hl
  refine lv_aload_n hx hb dX7_lays_0 rfl (lv_at hl 0 rfl) ?_
  refine lv_iconst (v := 0) hx hb dX7_lays_1 (by decide) ?_
  obtain ⟨E1, hv, h⟩ := bq_bind h
  refine bq_puti S hK fp_X7_117 dX7_lays_2 hv hW (fun H locs hW => ?_)
  refine lv_iload_n hx hb dX7_lays_5 rfl (lv_at hl 1 rfl) ?_
  refine lv_istore_n (lv' := [(2, .int x1), (0, .ref a0), (1, .int x1)]) hx hb dX7_lays_6 rfl hl (by decide) rfl (fun ls hl => ?_)
  have hL7 : ∀ (K : Int32 → bq_E → Option bq_E) (hX : ∀ (u21 : Int32) (E22 : bq_E) (H1 : Heap) (locs1 : List Loc) (ls1 : Array Slot), K u21 E22 = some R → bq_H g L E22 z s.heap H1 locs1 → lv_has ls1 4 [(0, .ref a0), (1, .int x1)] → W p l e { frames := 1, cells := 0, slots := 0, locals := 22 } s m args below meth c H1 locs1 0 0 (MQ below (bq_Q g L R z none) args s 0 0 (bq_A z)) (F0 m 32 ls1 [])), ∀ (n : Nat) (z16 : Int32) (E17 : bq_E) (H1 : Heap) (locs1 : List Loc) (ls1 : Array Slot), tl_X7_lays_7 a0 x1 K n z16 E17 = some R → bq_H g L E17 z s.heap H1 locs1 → lv_has ls1 4 [(0, .ref a0), (1, .int x1), (2, .int z16)] → W p l e { frames := 1, cells := 0, slots := 0, locals := 22 } s m args below meth c H1 locs1 0 0 (MQ below (bq_Q g L R z none) args s 0 0 (bq_A z)) (F0 m 7 ls1 []) := by
    intro K hX n
    induction n with
    | zero => intro z16 E17 H locs ls h hW hl; cases h
    | succ n ih =>
      intro z16 E17 H locs ls h hW hl
      rw [tl_X7_lays_7.eq_2] at h
      refine lv_iload_n hx hb dX7_lays_7 rfl (lv_at hl 2 rfl) ?_
      refine lv_iconst (v := (-1)) hx hb dX7_lays_8 (by decide) ?_
      refine lv_icmp_eq (tgt := 32) hx hb dX7_lays_9 (by decide) (fun hc => ?_) (fun hc => ?_)
      · replace h := bq_ifT hc h
        exact hX z16 E17 _ _ _ h hW (lv_sub hl [0, 1] rfl)
      · replace h := bq_ifF hc h
        refine lv_aload_n hx hb dX7_lays_12 rfl (lv_at hl 0 rfl) ?_
        refine lv_dup hx hb dX7_lays_13 rfl ?_
        obtain ⟨v18, hv, h⟩ := bq_bind h
        refine bq_geti S hK fl_X7_117 dX7_lays_14 hv hW ?_
        refine lv_iconst (v := 1) hx hb dX7_lays_17 (by decide) ?_
        refine lv_iadd hx hb dX7_lays_18 ?_
        obtain ⟨E19, hv, h⟩ := bq_bind h
        refine bq_puti S hK fp_X7_117 dX7_lays_19 hv hW (fun H locs hW => ?_)
        refine lv_aload_n hx hb dX7_lays_22 rfl (lv_at hl 0 rfl) ?_
        refine lv_iload_n hx hb dX7_lays_23 rfl (lv_at hl 2 rfl) ?_
        refine lv_iconst (v := 0) hx hb dX7_lays_24 (by decide) ?_
        obtain ⟨v20, hv, h⟩ := bq_bind h
        refine bq_callV S hK hz mv_X7_46 (c_X7_of hv) (kc_X7_of hv) dX7_lays_25 [.int v20] (rest := []) rfl rfl rfl hl.1 (Nat.le_of_ble_eq_true rfl) ⟨Nat.le_of_ble_eq_true rfl, Nat.le_of_ble_eq_true rfl⟩ ⟨Nat.zero_le _, Nat.zero_le _⟩ hW (fun H locs hW => ?_)
        refine lv_istore_n (lv' := [(2, .int v20), (0, .ref a0), (1, .int x1)]) hx hb dX7_lays_28 rfl hl (by decide) rfl (fun ls hl => ?_)
        refine lv_goto (tgt := 7) hx hb dX7_lays_29 (by decide) ?_
        exact ih v20 E19 _ _ _ h hW (lv_sub hl [1, 2, 0] rfl)
  refine hL7 _ (fun y2 E3 H locs ls h hW hl => ?_) bq_fuel x1 E1 _ _ _ h hW (lv_sub hl [1, 2, 0] rfl)
  refine lv_iload_n hx hb dX7_lays_32 rfl (lv_at hl 1 rfl) ?_
  refine lv_istore_n (lv' := [(2, .int x1), (0, .ref a0), (1, .int x1)]) hx hb dX7_lays_33 rfl hl (by decide) rfl (fun ls hl => ?_)
  refine lv_aload_n hx hb dX7_lays_34 rfl (lv_at hl 1 rfl) ?_
  obtain ⟨v4, hv, h⟩ := bq_bind h
  refine bq_geti S hK fl_X7_117 dX7_lays_35 hv hW ?_
  refine lv_iconst (v := 1) hx hb dX7_lays_38 (by decide) ?_
  refine lv_isub hx hb dX7_lays_39 ?_
  refine lv_topi (fun v5 ev5 => ?_)
  replace h := bq_letE ev5 h
  refine lv_istore_n (lv' := [(3, .int v5), (2, .int x1), (0, .ref a0), (1, .int x1)]) hx hb dX7_lays_40 rfl hl (by decide) rfl (fun ls hl => ?_)
  have hL41 : ∀ (n : Nat) (z9 : Int32) (z10 : Int32) (E11 : bq_E) (H1 : Heap) (locs1 : List Loc) (ls1 : Array Slot), tl_X7_lays_41 a0 n z9 z10 E11 = some R → bq_H g L E11 z s.heap H1 locs1 → lv_has ls1 4 [(0, .ref a0), (2, .int z9), (3, .int z10)] → W p l e { frames := 1, cells := 0, slots := 0, locals := 22 } s m args below meth c H1 locs1 0 0 (MQ below (bq_Q g L R z none) args s 0 0 (bq_A z)) (F0 m 41 ls1 []) := by
    intro n
    induction n with
    | zero => intro z9 z10 E11 H locs ls h hW hl; cases h
    | succ n ih =>
      intro z9 z10 E11 H locs ls h hW hl
      rw [tl_X7_lays_41.eq_2] at h
      refine lv_iload_n hx hb dX7_lays_41 rfl (lv_at hl 2 rfl) ?_
      refine lv_if_lt (tgt := 65) hx hb dX7_lays_42 (by decide) (fun hc => ?_) (fun hc => ?_)
      · replace h := bq_ifT hc h
        cases h
        exact bq_retv S hr hlocks hK hz dX7_lays_65 hW
      · replace h := bq_ifF hc h
        refine lv_aload_n hx hb dX7_lays_45 rfl (lv_at hl 0 rfl) ?_
        obtain ⟨v12, hv, h⟩ := bq_bind h
        refine bq_getr S hK fl_X7_22 dX7_lays_46 hv hW ?_
        refine lv_iload_n hx hb dX7_lays_49 rfl (lv_at hl 2 rfl) ?_
        refine lv_iload_n hx hb dX7_lays_50 rfl (lv_at hl 1 rfl) ?_
        obtain ⟨E13, hv, h⟩ := bq_bind h
        refine bq_iast S hK dX7_lays_51 hv hW (fun H locs hW => ?_)
        refine lv_aload_n hx hb dX7_lays_52 rfl (lv_at hl 0 rfl) ?_
        refine lv_iload_n hx hb dX7_lays_53 rfl (lv_at hl 1 rfl) ?_
        refine lv_iconst (v := 0) hx hb dX7_lays_54 (by decide) ?_
        obtain ⟨v14, hv, h⟩ := bq_bind h
        refine bq_callV S hK hz mv_X7_46 (c_X7_of hv) (kc_X7_of hv) dX7_lays_55 [.int v14] (rest := []) rfl rfl rfl hl.1 (Nat.le_of_ble_eq_true rfl) ⟨Nat.le_of_ble_eq_true rfl, Nat.le_of_ble_eq_true rfl⟩ ⟨Nat.zero_le _, Nat.zero_le _⟩ hW (fun H locs hW => ?_)
        refine lv_istore_n (lv' := [(2, .int v14), (0, .ref a0), (3, .int z10)]) hx hb dX7_lays_58 rfl hl (by decide) rfl (fun ls hl => ?_)
        obtain ⟨v15, ev15⟩ : ∃ y : Int32, y = z10 + (-1) := ⟨_, rfl⟩
        replace h := bq_letE ev15 h
        refine lv_iinc (v := v15) (lv' := [(3, .int v15), (2, .int v14), (0, .ref a0)]) hx hb dX7_lays_59 hl (k := 2) rfl (by rw [ev15]; rfl) (by decide) rfl (fun ls hl => ?_)
        refine lv_goto (tgt := 41) hx hb dX7_lays_62 (by decide) ?_
        exact ih v14 v15 E13 _ _ _ h hW (lv_sub hl [2, 1, 0] rfl)
  exact hL41 bq_fuel x1 v5 E3 _ _ _ h hW (lv_sub hl [2, 1, 0] rfl)

theorem kc_X7_halves {E : bq_E} {a0 : Nat} {x1 : Int32} {x2 : Int32} {x3 : Int32} {x4 : Int32} {R : (Int32 × bq_E)} (h : tw_X7_halves E a0 x1 x2 x3 x4 = some R) : bq_cls E a0 = 7 := (bq_guard h).1
set_option maxHeartbeats 4000000 in
set_option maxRecDepth 100000 in
theorem c_X7_halves {l : Launch} {g : bq_G} {L : List Nat} {z : Nat} {E : bq_E} {a0 : Nat} {x1 : Int32} {x2 : Int32} {x3 : Int32} {x4 : Int32} {R : (Int32 × bq_E)} (h : tw_X7_halves E a0 x1 x2 x3 x4 = some R) : bq_M l yX7_halves cX7_halves 8 (some .int) 1 22 [.ref a0, .int x1, .int x2, .int x3, .int x4] g L E z (some (.int R.1)) R.2 := by
  unfold tw_X7_halves at h
  obtain ⟨hcl, h⟩ := bq_guard h
  refine bq_enter (by decide) (Nat.le_of_ble_eq_true rfl) ?_
  intro p e s m args below meth c S hr hlocks hK hz hW ls hl
  have S : CallFix p m c cX7_halves 8 s args bq_WA RX7 := S
  have hx := S.1
  have hb := S.2.1
  have hl : lv_has ls 8 [(0, .ref a0), (1, .int x1), (2, .int x2), (3, .int x3), (4, .int x4)] := hl
  refine lv_iconst (v := 0) hx hb dX7_halves_0 (by decide) ?_
  refine lv_istore (lv' := [(5, .int (0 : Int32)), (0, .ref a0), (1, .int x1), (2, .int x2), (3, .int x3), (4, .int x4)]) hx hb dX7_halves_1 hl (by decide) rfl (fun ls hl => ?_)
  refine lv_iload_n hx hb dX7_halves_3 rfl (lv_at hl 4 rfl) ?_
  refine lv_istore (lv' := [(6, .int x3), (5, .int (0 : Int32)), (0, .ref a0), (1, .int x1), (2, .int x2), (3, .int x3), (4, .int x4)]) hx hb dX7_halves_4 hl (by decide) rfl (fun ls hl => ?_)
  have hL6 : ∀ (n : Nat) (z4 : Int32) (z5 : Int32) (E6 : bq_E) (H1 : Heap) (locs1 : List Loc) (ls1 : Array Slot), tl_X7_halves_6 a0 x1 x2 x4 n z4 z5 E6 = some R → bq_H g L E6 z s.heap H1 locs1 → lv_has ls1 8 [(0, .ref a0), (1, .int x1), (2, .int x2), (4, .int x4), (5, .int z4), (6, .int z5)] → W p l e { frames := 1, cells := 0, slots := 0, locals := 22 } s m args below meth c H1 locs1 0 0 (MQ below (bq_Q g L R.2 z (some (.int R.1))) args s 0 0 (bq_A z)) (F0 m 6 ls1 []) := by
    intro n
    induction n with
    | zero => intro z4 z5 E6 H locs ls h hW hl; cases h
    | succ n ih =>
      intro z4 z5 E6 H locs ls h hW hl
      rw [tl_X7_halves_6.eq_2] at h
      refine lv_iload hx hb dX7_halves_6 (lv_at hl 4 rfl) ?_
      refine lv_iload hx hb dX7_halves_8 (lv_at hl 5 rfl) ?_
      refine lv_icmp_ge (tgt := 62) hx hb dX7_halves_10 (by decide) (fun hc => ?_) (fun hc => ?_)
      · replace h := bq_ifT hc h
        refine lv_iload hx hb dX7_halves_62 (lv_at hl 4 rfl) ?_
        cases h
        exact bq_reti S hr hlocks hK hz dX7_halves_64 hW
      · replace h := bq_ifF hc h
        refine lv_iload hx hb dX7_halves_13 (lv_at hl 4 rfl) ?_
        refine lv_iload hx hb dX7_halves_15 (lv_at hl 5 rfl) ?_
        refine lv_iadd hx hb dX7_halves_17 ?_
        refine lv_iconst (v := 2) hx hb dX7_halves_18 (by decide) ?_
        refine lv_idiv hx hb dX7_halves_19 (by decide) ?_
        refine lv_topi (fun v7 ev7 => ?_)
        replace h := bq_letE ev7 h
        refine lv_istore (lv' := [(7, .int v7), (0, .ref a0), (1, .int x1), (2, .int x2), (4, .int x4), (5, .int z4), (6, .int z5)]) hx hb dX7_halves_20 hl (by decide) rfl (fun ls hl => ?_)
        refine lv_aload_n hx hb dX7_halves_22 rfl (lv_at hl 1 rfl) ?_
        refine lv_dup hx hb dX7_halves_23 rfl ?_
        obtain ⟨v8, hv, h⟩ := bq_bind h
        refine bq_geti S hK fl_X7_120 dX7_halves_24 hv hW ?_
        refine lv_iconst (v := 1) hx hb dX7_halves_27 (by decide) ?_
        refine lv_iadd hx hb dX7_halves_28 ?_
        obtain ⟨E9, hv, h⟩ := bq_bind h
        refine bq_puti S hK fp_X7_120 dX7_halves_29 hv hW (fun H locs hW => ?_)
        refine lv_aload_n hx hb dX7_halves_32 rfl (lv_at hl 1 rfl) ?_
        refine lv_iload_n hx hb dX7_halves_33 rfl (lv_at hl 2 rfl) ?_
        refine lv_iload_n hx hb dX7_halves_34 rfl (lv_at hl 3 rfl) ?_
        refine lv_iload hx hb dX7_halves_35 (lv_at hl 0 rfl) ?_
        refine lv_iadd hx hb dX7_halves_37 ?_
        obtain ⟨v10, hv, h⟩ := bq_bind h
        refine bq_callV S hK hz mv_X7_46 (c_X7_of hv) (kc_X7_of hv) dX7_halves_38 [.int v10] (rest := []) rfl rfl rfl hl.1 (Nat.le_of_ble_eq_true rfl) ⟨Nat.le_of_ble_eq_true rfl, Nat.le_of_ble_eq_true rfl⟩ ⟨Nat.zero_le _, Nat.zero_le _⟩ hW (fun H locs hW => ?_)
        refine lv_iload hx hb dX7_halves_41 (lv_at hl 4 rfl) ?_
        refine lv_icmp_lt (tgt := 53) hx hb dX7_halves_43 (by decide) (fun hc => ?_) (fun hc => ?_)
        · replace h := bq_ifT hc h
          refine lv_iload hx hb dX7_halves_53 (lv_at hl 0 rfl) ?_
          refine lv_iconst (v := 1) hx hb dX7_halves_55 (by decide) ?_
          refine lv_iadd hx hb dX7_halves_56 ?_
          refine lv_topi (fun v11 ev11 => ?_)
          replace h := bq_letE ev11 h
          refine lv_istore (lv' := [(5, .int v11), (7, .int v7), (0, .ref a0), (1, .int x1), (2, .int x2), (4, .int x4), (6, .int z5)]) hx hb dX7_halves_57 hl (by decide) rfl (fun ls hl => ?_)
          refine lv_goto (tgt := 6) hx hb dX7_halves_59 (by decide) ?_
          exact ih v11 z5 E9 _ _ _ h hW (lv_sub hl [2, 3, 4, 5, 0, 6] rfl)
        · replace h := bq_ifF hc h
          refine lv_iload hx hb dX7_halves_46 (lv_at hl 0 rfl) ?_
          refine lv_istore (lv' := [(6, .int v7), (7, .int v7), (0, .ref a0), (1, .int x1), (2, .int x2), (4, .int x4), (5, .int z4)]) hx hb dX7_halves_48 hl (by decide) rfl (fun ls hl => ?_)
          refine lv_goto (tgt := 59) hx hb dX7_halves_50 (by decide) ?_
          refine lv_goto (tgt := 6) hx hb dX7_halves_59 (by decide) ?_
          exact ih z4 v7 E9 _ _ _ h hW (lv_sub hl [2, 3, 4, 5, 6, 0] rfl)
  exact hL6 bq_fuel (0 : Int32) x3 E _ _ _ h hW (lv_sub hl [2, 3, 4, 6, 1, 0] rfl)

theorem kc_X7_answerFrom {E : bq_E} {a0 : Nat} {x1 : Int32} {x2 : Int32} {x3 : Int32} {R : (Int32 × bq_E)} (h : tw_X7_answerFrom E a0 x1 x2 x3 = some R) : bq_cls E a0 = 7 := (bq_guard h).1
set_option maxHeartbeats 4000000 in
set_option maxRecDepth 100000 in
theorem c_X7_answerFrom {l : Launch} {g : bq_G} {L : List Nat} {z : Nat} {E : bq_E} {a0 : Nat} {x1 : Int32} {x2 : Int32} {x3 : Int32} {R : (Int32 × bq_E)} (h : tw_X7_answerFrom E a0 x1 x2 x3 = some R) : bq_M l yX7_answerFrom cX7_answerFrom 8 (some .int) 1 22 [.ref a0, .int x1, .int x2, .int x3] g L E z (some (.int R.1)) R.2 := by
  unfold tw_X7_answerFrom at h
  obtain ⟨hcl, h⟩ := bq_guard h
  refine bq_enter (by decide) (Nat.le_of_ble_eq_true rfl) ?_
  intro p e s m args below meth c S hr hlocks hK hz hW ls hl
  have S : CallFix p m c cX7_answerFrom 8 s args bq_WA RX7 := S
  have hx := S.1
  have hb := S.2.1
  have hl : lv_has ls 8 [(0, .ref a0), (1, .int x1), (2, .int x2), (3, .int x3)] := hl
  refine lv_iload_n hx hb dX7_answerFrom_0 rfl (lv_at hl 2 rfl) ?_
  refine lv_istore (lv' := [(4, .int x2), (0, .ref a0), (1, .int x1), (2, .int x2), (3, .int x3)]) hx hb dX7_answerFrom_1 hl (by decide) rfl (fun ls hl => ?_)
  have hL3 : ∀ (K : Int32 → bq_E → Option (Int32 × bq_E)) (hX : ∀ (u27 : Int32) (E28 : bq_E) (H1 : Heap) (locs1 : List Loc) (ls1 : Array Slot), K u27 E28 = some R → bq_H g L E28 z s.heap H1 locs1 → lv_has ls1 8 [(0, .ref a0), (1, .int x1), (3, .int x3), (4, .int u27)] → W p l e { frames := 1, cells := 0, slots := 0, locals := 22 } s m args below meth c H1 locs1 0 0 (MQ below (bq_Q g L R.2 z (some (.int R.1))) args s 0 0 (bq_A z)) (F0 m 44 ls1 [])), ∀ (n : Nat) (z20 : Int32) (E21 : bq_E) (H1 : Heap) (locs1 : List Loc) (ls1 : Array Slot), tl_X7_answerFrom_3 a0 x1 x3 K n z20 E21 = some R → bq_H g L E21 z s.heap H1 locs1 → lv_has ls1 8 [(0, .ref a0), (1, .int x1), (3, .int x3), (4, .int z20)] → W p l e { frames := 1, cells := 0, slots := 0, locals := 22 } s m args below meth c H1 locs1 0 0 (MQ below (bq_Q g L R.2 z (some (.int R.1))) args s 0 0 (bq_A z)) (F0 m 3 ls1 []) := by
    intro K hX n
    induction n with
    | zero => intro z20 E21 H locs ls h hW hl; cases h
    | succ n ih =>
      intro z20 E21 H locs ls h hW hl
      rw [tl_X7_answerFrom_3.eq_2] at h
      refine lv_iload hx hb dX7_answerFrom_3 (lv_at hl 3 rfl) ?_
      refine lv_aload_n hx hb dX7_answerFrom_5 rfl (lv_at hl 0 rfl) ?_
      refine lv_iload_n hx hb dX7_answerFrom_6 rfl (lv_at hl 1 rfl) ?_
      refine lv_iconst (v := 3) hx hb dX7_answerFrom_7 (by decide) ?_
      obtain ⟨v22, hv, h⟩ := bq_bind h
      refine bq_callV S hK hz mv_X7_46 (c_X7_of hv) (kc_X7_of hv) dX7_answerFrom_8 [.int v22, .int z20] (rest := [.int z20]) rfl rfl rfl hl.1 (Nat.le_of_ble_eq_true rfl) ⟨Nat.le_of_ble_eq_true rfl, Nat.le_of_ble_eq_true rfl⟩ ⟨Nat.zero_le _, Nat.zero_le _⟩ hW (fun H locs hW => ?_)
      refine lv_icmp_ge (tgt := 44) hx hb dX7_answerFrom_11 (by decide) (fun hc => ?_) (fun hc => ?_)
      · replace h := bq_ifT hc h
        exact hX z20 E21 _ _ _ h hW (lv_sub hl [0, 1, 2, 3] rfl)
      · replace h := bq_ifF hc h
        refine lv_aload_n hx hb dX7_answerFrom_14 rfl (lv_at hl 0 rfl) ?_
        refine lv_iload_n hx hb dX7_answerFrom_15 rfl (lv_at hl 1 rfl) ?_
        refine lv_bipush (v := 28) hx hb dX7_answerFrom_16 (by decide) ?_
        refine lv_iload hx hb dX7_answerFrom_18 (lv_at hl 3 rfl) ?_
        refine lv_iadd hx hb dX7_answerFrom_20 ?_
        obtain ⟨v23, hv, h⟩ := bq_bind h
        refine bq_callV S hK hz mv_X7_46 (c_X7_of hv) (kc_X7_of hv) dX7_answerFrom_21 [.int v23] (rest := []) rfl rfl rfl hl.1 (Nat.le_of_ble_eq_true rfl) ⟨Nat.le_of_ble_eq_true rfl, Nat.le_of_ble_eq_true rfl⟩ ⟨Nat.zero_le _, Nat.zero_le _⟩ hW (fun H locs hW => ?_)
        refine lv_iconst (v := 1) hx hb dX7_answerFrom_24 (by decide) ?_
        refine lv_icmp_ne (tgt := 44) hx hb dX7_answerFrom_25 (by decide) (fun hc => ?_) (fun hc => ?_)
        · replace h := bq_ifF hc h
          exact hX z20 E21 _ _ _ h hW (lv_sub hl [0, 1, 2, 3] rfl)
        · replace h := bq_ifT hc h
          refine lv_aload_n hx hb dX7_answerFrom_28 rfl (lv_at hl 0 rfl) ?_
          refine lv_dup hx hb dX7_answerFrom_29 rfl ?_
          obtain ⟨v24, hv, h⟩ := bq_bind h
          refine bq_geti S hK fl_X7_120 dX7_answerFrom_30 hv hW ?_
          refine lv_iconst (v := 1) hx hb dX7_answerFrom_33 (by decide) ?_
          refine lv_iadd hx hb dX7_answerFrom_34 ?_
          obtain ⟨E25, hv, h⟩ := bq_bind h
          refine bq_puti S hK fp_X7_120 dX7_answerFrom_35 hv hW (fun H locs hW => ?_)
          obtain ⟨v26, ev26⟩ : ∃ y : Int32, y = z20 + 1 := ⟨_, rfl⟩
          replace h := bq_letE ev26 h
          refine lv_iinc (v := v26) (lv' := [(4, .int v26), (0, .ref a0), (1, .int x1), (3, .int x3)]) hx hb dX7_answerFrom_38 hl (k := 3) rfl (by rw [ev26]; rfl) (by decide) rfl (fun ls hl => ?_)
          refine lv_goto (tgt := 3) hx hb dX7_answerFrom_41 (by decide) ?_
          exact ih v26 E25 _ _ _ h hW (lv_sub hl [1, 2, 3, 0] rfl)
  refine hL3 _ (fun y1 E2 H locs ls h hW hl => ?_) bq_fuel x2 E _ _ _ h hW (lv_sub hl [1, 2, 4, 0] rfl)
  refine lv_iload hx hb dX7_answerFrom_44 (lv_at hl 3 rfl) ?_
  refine lv_aload_n hx hb dX7_answerFrom_46 rfl (lv_at hl 0 rfl) ?_
  refine lv_iload_n hx hb dX7_answerFrom_47 rfl (lv_at hl 1 rfl) ?_
  refine lv_iconst (v := 3) hx hb dX7_answerFrom_48 (by decide) ?_
  obtain ⟨v3, hv, h⟩ := bq_bind h
  refine bq_callV S hK hz mv_X7_46 (c_X7_of hv) (kc_X7_of hv) dX7_answerFrom_49 [.int v3, .int y1] (rest := [.int y1]) rfl rfl rfl hl.1 (Nat.le_of_ble_eq_true rfl) ⟨Nat.le_of_ble_eq_true rfl, Nat.le_of_ble_eq_true rfl⟩ ⟨Nat.zero_le _, Nat.zero_le _⟩ hW (fun H locs hW => ?_)
  obtain ⟨k68, ek68, h⟩ := bq_letK h
  have hjk68 : ∀ (b4 : Int32) (H1 : Heap) (locs1 : List Loc) (ls1 : Array Slot), k68 b4 = some R → bq_H g L E2 z s.heap H1 locs1 → lv_has ls1 8 [(0, .ref a0), (1, .int x1), (3, .int x3)] → W p l e { frames := 1, cells := 0, slots := 0, locals := 22 } s m args below meth c H1 locs1 0 0 (MQ below (bq_Q g L R.2 z (some (.int R.1))) args s 0 0 (bq_A z)) (F0 m 68 ls1 [.int b4]) := by
    intro b4 H locs ls h hW hl
    replace h := bq_kap1 ek68 h
    refine lv_istore (lv' := [(5, .int b4), (0, .ref a0), (1, .int x1), (3, .int x3)]) hx hb dX7_answerFrom_68 hl (by decide) rfl (fun ls hl => ?_)
    refine lv_iconst (v := 0) hx hb dX7_answerFrom_70 (by decide) ?_
    refine lv_istore (lv' := [(6, .int (0 : Int32)), (5, .int b4), (0, .ref a0), (1, .int x1), (3, .int x3)]) hx hb dX7_answerFrom_71 hl (by decide) rfl (fun ls hl => ?_)
    have hL73 : ∀ (n : Nat) (z8 : Int32) (z9 : Int32) (E10 : bq_E) (H1 : Heap) (locs1 : List Loc) (ls1 : Array Slot), tl_X7_answerFrom_73 a0 x1 x3 n z8 z9 E10 = some R → bq_H g L E10 z s.heap H1 locs1 → lv_has ls1 8 [(0, .ref a0), (1, .int x1), (3, .int x3), (5, .int z8), (6, .int z9)] → W p l e { frames := 1, cells := 0, slots := 0, locals := 22 } s m args below meth c H1 locs1 0 0 (MQ below (bq_Q g L R.2 z (some (.int R.1))) args s 0 0 (bq_A z)) (F0 m 73 ls1 []) := by
      intro n
      induction n with
      | zero => intro z8 z9 E10 H locs ls h hW hl; cases h
      | succ n ih =>
        intro z8 z9 E10 H locs ls h hW hl
        rw [tl_X7_answerFrom_73.eq_2] at h
        refine lv_iload hx hb dX7_answerFrom_73 (lv_at hl 4 rfl) ?_
        refine lv_aload_n hx hb dX7_answerFrom_75 rfl (lv_at hl 0 rfl) ?_
        refine lv_iload_n hx hb dX7_answerFrom_76 rfl (lv_at hl 1 rfl) ?_
        refine lv_bipush (v := 52) hx hb dX7_answerFrom_77 (by decide) ?_
        obtain ⟨v11, hv, h⟩ := bq_bind h
        refine bq_callV S hK hz mv_X7_46 (c_X7_of hv) (kc_X7_of hv) dX7_answerFrom_79 [.int v11, .int z9] (rest := [.int z9]) rfl rfl rfl hl.1 (Nat.le_of_ble_eq_true rfl) ⟨Nat.le_of_ble_eq_true rfl, Nat.le_of_ble_eq_true rfl⟩ ⟨Nat.zero_le _, Nat.zero_le _⟩ hW (fun H locs hW => ?_)
        refine lv_icmp_ge (tgt := 141) hx hb dX7_answerFrom_82 (by decide) (fun hc => ?_) (fun hc => ?_)
        · replace h := bq_ifT hc h
          refine lv_iload hx hb dX7_answerFrom_141 (lv_at hl 3 rfl) ?_
          cases h
          exact bq_reti S hr hlocks hK hz dX7_answerFrom_143 hW
        · replace h := bq_ifF hc h
          refine lv_aload_n hx hb dX7_answerFrom_85 rfl (lv_at hl 0 rfl) ?_
          refine lv_iload_n hx hb dX7_answerFrom_86 rfl (lv_at hl 1 rfl) ?_
          refine lv_bipush (v := 53) hx hb dX7_answerFrom_87 (by decide) ?_
          refine lv_iload hx hb dX7_answerFrom_89 (lv_at hl 4 rfl) ?_
          refine lv_iadd hx hb dX7_answerFrom_91 ?_
          obtain ⟨v12, hv, h⟩ := bq_bind h
          refine bq_callV S hK hz mv_X7_46 (c_X7_of hv) (kc_X7_of hv) dX7_answerFrom_92 [.int v12] (rest := []) rfl rfl rfl hl.1 (Nat.le_of_ble_eq_true rfl) ⟨Nat.le_of_ble_eq_true rfl, Nat.le_of_ble_eq_true rfl⟩ ⟨Nat.zero_le _, Nat.zero_le _⟩ hW (fun H locs hW => ?_)
          refine lv_istore (lv' := [(7, .int v12), (0, .ref a0), (1, .int x1), (3, .int x3), (5, .int z8), (6, .int z9)]) hx hb dX7_answerFrom_95 hl (by decide) rfl (fun ls hl => ?_)
          refine lv_aload_n hx hb dX7_answerFrom_97 rfl (lv_at hl 1 rfl) ?_
          refine lv_dup hx hb dX7_answerFrom_98 rfl ?_
          obtain ⟨v13, hv, h⟩ := bq_bind h
          refine bq_geti S hK fl_X7_120 dX7_answerFrom_99 hv hW ?_
          refine lv_iconst (v := 1) hx hb dX7_answerFrom_102 (by decide) ?_
          refine lv_iadd hx hb dX7_answerFrom_103 ?_
          obtain ⟨E14, hv, h⟩ := bq_bind h
          refine bq_puti S hK fp_X7_120 dX7_answerFrom_104 hv hW (fun H locs hW => ?_)
          refine lv_iload hx hb dX7_answerFrom_107 (lv_at hl 0 rfl) ?_
          refine lv_iload_n hx hb dX7_answerFrom_109 rfl (lv_at hl 3 rfl) ?_
          refine lv_icmp_lt (tgt := 131) hx hb dX7_answerFrom_110 (by decide) (fun hc => ?_) (fun hc => ?_)
          · replace h := bq_ifT hc h
            refine lv_iload hx hb dX7_answerFrom_131 (lv_at hl 4 rfl) ?_
            refine lv_istore (lv' := [(5, .int z8), (7, .int v12), (0, .ref a0), (1, .int x1), (3, .int x3), (6, .int z9)]) hx hb dX7_answerFrom_133 hl (by decide) rfl (fun ls hl => ?_)
            obtain ⟨v15, ev15⟩ : ∃ y : Int32, y = z9 + 1 := ⟨_, rfl⟩
            replace h := bq_letE ev15 h
            refine lv_iinc (v := v15) (lv' := [(6, .int v15), (5, .int z8), (7, .int v12), (0, .ref a0), (1, .int x1), (3, .int x3)]) hx hb dX7_answerFrom_135 hl (k := 5) rfl (by rw [ev15]; rfl) (by decide) rfl (fun ls hl => ?_)
            refine lv_goto (tgt := 73) hx hb dX7_answerFrom_138 (by decide) ?_
            exact ih z8 v15 E14 _ _ _ h hW (lv_sub hl [3, 4, 5, 1, 0] rfl)
          · replace h := bq_ifF hc h
            refine lv_iload hx hb dX7_answerFrom_113 (lv_at hl 4 rfl) ?_
            refine lv_iconst (v := (-1)) hx hb dX7_answerFrom_115 (by decide) ?_
            refine lv_icmp_eq (tgt := 126) hx hb dX7_answerFrom_116 (by decide) (fun hc => ?_) (fun hc => ?_)
            · replace h := bq_ifT hc h
              refine lv_iload hx hb dX7_answerFrom_126 (lv_at hl 0 rfl) ?_
              refine lv_goto (tgt := 133) hx hb dX7_answerFrom_128 (by decide) ?_
              refine lv_istore (lv' := [(5, .int v12), (7, .int v12), (0, .ref a0), (1, .int x1), (3, .int x3), (6, .int z9)]) hx hb dX7_answerFrom_133 hl (by decide) rfl (fun ls hl => ?_)
              obtain ⟨v16, ev16⟩ : ∃ y : Int32, y = z9 + 1 := ⟨_, rfl⟩
              replace h := bq_letE ev16 h
              refine lv_iinc (v := v16) (lv' := [(6, .int v16), (5, .int v12), (7, .int v12), (0, .ref a0), (1, .int x1), (3, .int x3)]) hx hb dX7_answerFrom_135 hl (k := 5) rfl (by rw [ev16]; rfl) (by decide) rfl (fun ls hl => ?_)
              refine lv_goto (tgt := 73) hx hb dX7_answerFrom_138 (by decide) ?_
              exact ih v12 v16 E14 _ _ _ h hW (lv_sub hl [3, 4, 5, 1, 0] rfl)
            · replace h := bq_ifF hc h
              refine lv_iload hx hb dX7_answerFrom_119 (lv_at hl 0 rfl) ?_
              refine lv_iload hx hb dX7_answerFrom_121 (lv_at hl 4 rfl) ?_
              refine lv_icmp_ge (tgt := 131) hx hb dX7_answerFrom_123 (by decide) (fun hc => ?_) (fun hc => ?_)
              · replace h := bq_ifT hc h
                refine lv_iload hx hb dX7_answerFrom_131 (lv_at hl 4 rfl) ?_
                refine lv_istore (lv' := [(5, .int z8), (7, .int v12), (0, .ref a0), (1, .int x1), (3, .int x3), (6, .int z9)]) hx hb dX7_answerFrom_133 hl (by decide) rfl (fun ls hl => ?_)
                obtain ⟨v17, ev17⟩ : ∃ y : Int32, y = z9 + 1 := ⟨_, rfl⟩
                replace h := bq_letE ev17 h
                refine lv_iinc (v := v17) (lv' := [(6, .int v17), (5, .int z8), (7, .int v12), (0, .ref a0), (1, .int x1), (3, .int x3)]) hx hb dX7_answerFrom_135 hl (k := 5) rfl (by rw [ev17]; rfl) (by decide) rfl (fun ls hl => ?_)
                refine lv_goto (tgt := 73) hx hb dX7_answerFrom_138 (by decide) ?_
                exact ih z8 v17 E14 _ _ _ h hW (lv_sub hl [3, 4, 5, 1, 0] rfl)
              · replace h := bq_ifF hc h
                refine lv_iload hx hb dX7_answerFrom_126 (lv_at hl 0 rfl) ?_
                refine lv_goto (tgt := 133) hx hb dX7_answerFrom_128 (by decide) ?_
                refine lv_istore (lv' := [(5, .int v12), (7, .int v12), (0, .ref a0), (1, .int x1), (3, .int x3), (6, .int z9)]) hx hb dX7_answerFrom_133 hl (by decide) rfl (fun ls hl => ?_)
                obtain ⟨v18, ev18⟩ : ∃ y : Int32, y = z9 + 1 := ⟨_, rfl⟩
                replace h := bq_letE ev18 h
                refine lv_iinc (v := v18) (lv' := [(6, .int v18), (5, .int v12), (7, .int v12), (0, .ref a0), (1, .int x1), (3, .int x3)]) hx hb dX7_answerFrom_135 hl (k := 5) rfl (by rw [ev18]; rfl) (by decide) rfl (fun ls hl => ?_)
                refine lv_goto (tgt := 73) hx hb dX7_answerFrom_138 (by decide) ?_
                exact ih v12 v18 E14 _ _ _ h hW (lv_sub hl [3, 4, 5, 1, 0] rfl)
    exact hL73 bq_fuel b4 (0 : Int32) E2 _ _ _ h hW (lv_sub hl [2, 3, 4, 1, 0] rfl)
  clear ek68
  refine lv_icmp_ge (tgt := 67) hx hb dX7_answerFrom_52 (by decide) (fun hc => ?_) (fun hc => ?_)
  · replace h := bq_ifT hc h
    refine lv_iconst (v := (-1)) hx hb dX7_answerFrom_67 (by decide) ?_
    exact hjk68 (-1 : Int32) _ _ _ h hW (lv_sub hl [0, 1, 2] rfl)
  · replace h := bq_ifF hc h
    refine lv_aload_n hx hb dX7_answerFrom_55 rfl (lv_at hl 0 rfl) ?_
    refine lv_iload_n hx hb dX7_answerFrom_56 rfl (lv_at hl 1 rfl) ?_
    refine lv_iconst (v := 4) hx hb dX7_answerFrom_57 (by decide) ?_
    refine lv_iload hx hb dX7_answerFrom_58 (lv_at hl 3 rfl) ?_
    refine lv_iadd hx hb dX7_answerFrom_60 ?_
    obtain ⟨v19, hv, h⟩ := bq_bind h
    refine bq_callV S hK hz mv_X7_46 (c_X7_of hv) (kc_X7_of hv) dX7_answerFrom_61 [.int v19] (rest := []) rfl rfl rfl hl.1 (Nat.le_of_ble_eq_true rfl) ⟨Nat.le_of_ble_eq_true rfl, Nat.le_of_ble_eq_true rfl⟩ ⟨Nat.zero_le _, Nat.zero_le _⟩ hW (fun H locs hW => ?_)
    refine lv_goto (tgt := 68) hx hb dX7_answerFrom_64 (by decide) ?_
    exact hjk68 v19 _ _ _ h hW (lv_sub hl [0, 1, 2] rfl)

theorem kc_X7_goesBack {E : bq_E} {a0 : Nat} {x1 : Int32} {x2 : Int32} {x3 : Int32} {R : (Int32 × bq_E)} (h : tw_X7_goesBack E a0 x1 x2 x3 = some R) : bq_cls E a0 = 7 := (bq_guard h).1
set_option maxHeartbeats 4000000 in
set_option maxRecDepth 100000 in
theorem c_X7_goesBack {l : Launch} {g : bq_G} {L : List Nat} {z : Nat} {E : bq_E} {a0 : Nat} {x1 : Int32} {x2 : Int32} {x3 : Int32} {R : (Int32 × bq_E)} (h : tw_X7_goesBack E a0 x1 x2 x3 = some R) : bq_M l yX7_goesBack cX7_goesBack 6 (some .int) 1 22 [.ref a0, .int x1, .int x2, .int x3] g L E z (some (.int R.1)) R.2 := by
  unfold tw_X7_goesBack at h
  obtain ⟨hcl, h⟩ := bq_guard h
  refine bq_enter (by decide) (Nat.le_of_ble_eq_true rfl) ?_
  intro p e s m args below meth c S hr hlocks hK hz hW ls hl
  have S : CallFix p m c cX7_goesBack 6 s args bq_WA RX7 := S
  have hx := S.1
  have hb := S.2.1
  have hl : lv_has ls 6 [(0, .ref a0), (1, .int x1), (2, .int x2), (3, .int x3)] := hl
  refine lv_iload_n hx hb dX7_goesBack_0 rfl (lv_at hl 2 rfl) ?_
  refine lv_istore (lv' := [(4, .int x2), (0, .ref a0), (1, .int x1), (2, .int x2), (3, .int x3)]) hx hb dX7_goesBack_1 hl (by decide) rfl (fun ls hl => ?_)
  refine lv_iload hx hb dX7_goesBack_3 (lv_at hl 0 rfl) ?_
  obtain ⟨k13, ek13, h⟩ := bq_letK h
  have hjk13 : ∀ (b1 : Int32) (H1 : Heap) (locs1 : List Loc) (ls1 : Array Slot), k13 b1 = some R → bq_H g L E z s.heap H1 locs1 → lv_has ls1 6 [(0, .ref a0), (1, .int x1), (3, .int x3), (4, .int x2)] → W p l e { frames := 1, cells := 0, slots := 0, locals := 22 } s m args below meth c H1 locs1 0 0 (MQ below (bq_Q g L R.2 z (some (.int R.1))) args s 0 0 (bq_A z)) (F0 m 13 ls1 [.int b1]) := by
    intro b1 H locs ls h hW hl
    replace h := bq_kap1 ek13 h
    refine lv_istore (lv' := [(5, .int b1), (0, .ref a0), (1, .int x1), (3, .int x3), (4, .int x2)]) hx hb dX7_goesBack_13 hl (by decide) rfl (fun ls hl => ?_)
    have hL15 : ∀ (n : Nat) (z5 : Int32) (z6 : Int32) (E7 : bq_E) (H1 : Heap) (locs1 : List Loc) (ls1 : Array Slot), tl_X7_goesBack_15 a0 x1 x3 n z5 z6 E7 = some R → bq_H g L E7 z s.heap H1 locs1 → lv_has ls1 6 [(0, .ref a0), (1, .int x1), (3, .int x3), (4, .int z5), (5, .int z6)] → W p l e { frames := 1, cells := 0, slots := 0, locals := 22 } s m args below meth c H1 locs1 0 0 (MQ below (bq_Q g L R.2 z (some (.int R.1))) args s 0 0 (bq_A z)) (F0 m 15 ls1 []) := by
      intro n
      induction n with
      | zero => intro z5 z6 E7 H locs ls h hW hl; cases h
      | succ n ih =>
        intro z5 z6 E7 H locs ls h hW hl
        rw [tl_X7_goesBack_15.eq_2] at h
        refine lv_iload hx hb dX7_goesBack_15 (lv_at hl 4 rfl) ?_
        refine lv_if_eq (tgt := 88) hx hb dX7_goesBack_17 (by decide) (fun hc => ?_) (fun hc => ?_)
        · replace h := bq_ifT hc h
          refine lv_iload hx hb dX7_goesBack_88 (lv_at hl 3 rfl) ?_
          cases h
          exact bq_reti S hr hlocks hK hz dX7_goesBack_90 hW
        · replace h := bq_ifF hc h
          refine lv_aload_n hx hb dX7_goesBack_20 rfl (lv_at hl 0 rfl) ?_
          refine lv_dup hx hb dX7_goesBack_21 rfl ?_
          obtain ⟨v8, hv, h⟩ := bq_bind h
          refine bq_geti S hK fl_X7_120 dX7_goesBack_22 hv hW ?_
          refine lv_iconst (v := 1) hx hb dX7_goesBack_25 (by decide) ?_
          refine lv_iadd hx hb dX7_goesBack_26 ?_
          obtain ⟨E9, hv, h⟩ := bq_bind h
          refine bq_puti S hK fp_X7_120 dX7_goesBack_27 hv hW (fun H locs hW => ?_)
          refine lv_aload_n hx hb dX7_goesBack_30 rfl (lv_at hl 0 rfl) ?_
          refine lv_iload_n hx hb dX7_goesBack_31 rfl (lv_at hl 1 rfl) ?_
          refine lv_bipush (v := 62) hx hb dX7_goesBack_32 (by decide) ?_
          refine lv_iload hx hb dX7_goesBack_34 (lv_at hl 3 rfl) ?_
          refine lv_iadd hx hb dX7_goesBack_36 ?_
          refine lv_iconst (v := 1) hx hb dX7_goesBack_37 (by decide) ?_
          refine lv_isub hx hb dX7_goesBack_38 ?_
          obtain ⟨v10, hv, h⟩ := bq_bind h
          refine bq_callV S hK hz mv_X7_46 (c_X7_of hv) (kc_X7_of hv) dX7_goesBack_39 [.int v10] (rest := []) rfl rfl rfl hl.1 (Nat.le_of_ble_eq_true rfl) ⟨Nat.le_of_ble_eq_true rfl, Nat.le_of_ble_eq_true rfl⟩ ⟨Nat.zero_le _, Nat.zero_le _⟩ hW (fun H locs hW => ?_)
          refine lv_iload_n hx hb dX7_goesBack_42 rfl (lv_at hl 2 rfl) ?_
          obtain ⟨k51, ek51, h⟩ := bq_letK h
          have hjk51 : ∀ (b11 : Int32) (H1 : Heap) (locs1 : List Loc) (ls1 : Array Slot), k51 b11 = some R → bq_H g L E9 z s.heap H1 locs1 → lv_has ls1 6 [(0, .ref a0), (1, .int x1), (3, .int x3), (4, .int z5)] → W p l e { frames := 1, cells := 0, slots := 0, locals := 22 } s m args below meth c H1 locs1 0 0 (MQ below (bq_Q g L R.2 z (some (.int R.1))) args s 0 0 (bq_A z)) (F0 m 51 ls1 [.int b11]) := by
            intro b11 H locs ls h hW hl
            replace h := bq_kap1 ek51 h
            refine lv_istore (lv' := [(5, .int b11), (0, .ref a0), (1, .int x1), (3, .int x3), (4, .int z5)]) hx hb dX7_goesBack_51 hl (by decide) rfl (fun ls hl => ?_)
            refine lv_iload hx hb dX7_goesBack_53 (lv_at hl 4 rfl) ?_
            refine lv_iload hx hb dX7_goesBack_55 (lv_at hl 0 rfl) ?_
            obtain ⟨k65, ek65, h⟩ := bq_letK h
            have hjk65 : ∀ (b12 : Int32) (H1 : Heap) (locs1 : List Loc) (ls1 : Array Slot), k65 b12 = some R → bq_H g L E9 z s.heap H1 locs1 → lv_has ls1 6 [(0, .ref a0), (1, .int x1), (3, .int x3), (5, .int b11)] → W p l e { frames := 1, cells := 0, slots := 0, locals := 22 } s m args below meth c H1 locs1 0 0 (MQ below (bq_Q g L R.2 z (some (.int R.1))) args s 0 0 (bq_A z)) (F0 m 65 ls1 [.int b12, .int z5]) := by
              intro b12 H locs ls h hW hl
              replace h := bq_kap1 ek65 h
              refine lv_isub hx hb dX7_goesBack_65 ?_
              refine lv_topi (fun v13 ev13 => ?_)
              replace h := bq_letE ev13 h
              refine lv_istore (lv' := [(4, .int v13), (0, .ref a0), (1, .int x1), (3, .int x3), (5, .int b11)]) hx hb dX7_goesBack_66 hl (by decide) rfl (fun ls hl => ?_)
              refine lv_iload hx hb dX7_goesBack_68 (lv_at hl 4 rfl) ?_
              refine lv_if_eq (tgt := 82) hx hb dX7_goesBack_70 (by decide) (fun hc => ?_) (fun hc => ?_)
              · replace h := bq_ifT hc h
                refine lv_iconst (v := 0) hx hb dX7_goesBack_82 (by decide) ?_
                refine lv_istore (lv' := [(5, .int (0 : Int32)), (4, .int v13), (0, .ref a0), (1, .int x1), (3, .int x3)]) hx hb dX7_goesBack_83 hl (by decide) rfl (fun ls hl => ?_)
                refine lv_goto (tgt := 15) hx hb dX7_goesBack_85 (by decide) ?_
                exact ih v13 (0 : Int32) E9 _ _ _ h hW (lv_sub hl [2, 3, 4, 1, 0] rfl)
              · replace h := bq_ifF hc h
                refine lv_iload hx hb dX7_goesBack_73 (lv_at hl 0 rfl) ?_
                refine lv_if_le (tgt := 82) hx hb dX7_goesBack_75 (by decide) (fun hc => ?_) (fun hc => ?_)
                · replace h := bq_ifT hc h
                  refine lv_iconst (v := 0) hx hb dX7_goesBack_82 (by decide) ?_
                  refine lv_istore (lv' := [(5, .int (0 : Int32)), (4, .int v13), (0, .ref a0), (1, .int x1), (3, .int x3)]) hx hb dX7_goesBack_83 hl (by decide) rfl (fun ls hl => ?_)
                  refine lv_goto (tgt := 15) hx hb dX7_goesBack_85 (by decide) ?_
                  exact ih v13 (0 : Int32) E9 _ _ _ h hW (lv_sub hl [2, 3, 4, 1, 0] rfl)
                · replace h := bq_ifF hc h
                  refine lv_iconst (v := 1) hx hb dX7_goesBack_78 (by decide) ?_
                  refine lv_goto (tgt := 83) hx hb dX7_goesBack_79 (by decide) ?_
                  refine lv_istore (lv' := [(5, .int (1 : Int32)), (4, .int v13), (0, .ref a0), (1, .int x1), (3, .int x3)]) hx hb dX7_goesBack_83 hl (by decide) rfl (fun ls hl => ?_)
                  refine lv_goto (tgt := 15) hx hb dX7_goesBack_85 (by decide) ?_
                  exact ih v13 (1 : Int32) E9 _ _ _ h hW (lv_sub hl [2, 3, 4, 1, 0] rfl)
            clear ek65
            refine lv_if_eq (tgt := 64) hx hb dX7_goesBack_57 (by decide) (fun hc => ?_) (fun hc => ?_)
            · replace h := bq_ifT hc h
              refine lv_iconst (v := 0) hx hb dX7_goesBack_64 (by decide) ?_
              exact hjk65 (0 : Int32) _ _ _ h hW (lv_sub hl [1, 2, 3, 0] rfl)
            · replace h := bq_ifF hc h
              refine lv_iconst (v := 1) hx hb dX7_goesBack_60 (by decide) ?_
              refine lv_goto (tgt := 65) hx hb dX7_goesBack_61 (by decide) ?_
              exact hjk65 (1 : Int32) _ _ _ h hW (lv_sub hl [1, 2, 3, 0] rfl)
          clear ek51
          refine lv_icmp_lt (tgt := 50) hx hb dX7_goesBack_43 (by decide) (fun hc => ?_) (fun hc => ?_)
          · replace h := bq_ifT hc h
            refine lv_iconst (v := 0) hx hb dX7_goesBack_50 (by decide) ?_
            exact hjk51 (0 : Int32) _ _ _ h hW (lv_sub hl [0, 1, 2, 3] rfl)
          · replace h := bq_ifF hc h
            refine lv_iconst (v := 1) hx hb dX7_goesBack_46 (by decide) ?_
            refine lv_goto (tgt := 51) hx hb dX7_goesBack_47 (by decide) ?_
            exact hjk51 (1 : Int32) _ _ _ h hW (lv_sub hl [0, 1, 2, 3] rfl)
    exact hL15 bq_fuel x2 b1 E _ _ _ h hW (lv_sub hl [1, 2, 3, 4, 0] rfl)
  clear ek13
  refine lv_if_le (tgt := 12) hx hb dX7_goesBack_5 (by decide) (fun hc => ?_) (fun hc => ?_)
  · replace h := bq_ifT hc h
    refine lv_iconst (v := 0) hx hb dX7_goesBack_12 (by decide) ?_
    exact hjk13 (0 : Int32) _ _ _ h hW (lv_sub hl [1, 2, 4, 0] rfl)
  · replace h := bq_ifF hc h
    refine lv_iconst (v := 1) hx hb dX7_goesBack_8 (by decide) ?_
    refine lv_goto (tgt := 13) hx hb dX7_goesBack_9 (by decide) ?_
    exact hjk13 (1 : Int32) _ _ _ h hW (lv_sub hl [1, 2, 4, 0] rfl)

theorem kc_X7_seeks {E : bq_E} {a0 : Nat} {x1 : Int32} {R : bq_E} (h : tw_X7_seeks E a0 x1 = some R) : bq_cls E a0 = 7 := (bq_guard h).1
set_option maxHeartbeats 4000000 in
set_option maxRecDepth 100000 in
theorem c_X7_seeks {l : Launch} {g : bq_G} {L : List Nat} {z : Nat} {E : bq_E} {a0 : Nat} {x1 : Int32} {R : bq_E} (h : tw_X7_seeks E a0 x1 = some R) : bq_M l yX7_seeks cX7_seeks 6 none 2 49 [.ref a0, .int x1] g L E z none R := by
  unfold tw_X7_seeks at h
  obtain ⟨hcl, h⟩ := bq_guard h
  refine bq_enter (by decide) (Nat.le_of_ble_eq_true rfl) ?_
  intro p e s m args below meth c S hr hlocks hK hz hW ls hl
  have S : CallFix p m c cX7_seeks 6 s args bq_WA RX7 := S
  have hx := S.1
  have hb := S.2.1
  have hl : lv_has ls 6 [(0, .ref a0), (1, .int x1)] := hl
  refine lv_aload_n hx hb dX7_seeks_0 rfl (lv_at hl 0 rfl) ?_
  refine lv_iconst (v := 0) hx hb dX7_seeks_1 (by decide) ?_
  obtain ⟨E1, hv, h⟩ := bq_bind h
  refine bq_puti S hK fp_X7_120 dX7_seeks_2 hv hW (fun H locs hW => ?_)
  refine lv_iconst (v := 0) hx hb dX7_seeks_5 (by decide) ?_
  refine lv_istore_n (lv' := [(2, .int (0 : Int32)), (0, .ref a0), (1, .int x1)]) hx hb dX7_seeks_6 rfl hl (by decide) rfl (fun ls hl => ?_)
  have hL7 : ∀ (n : Nat) (z4 : Int32) (E5 : bq_E) (H1 : Heap) (locs1 : List Loc) (ls1 : Array Slot), tl_X7_seeks_7 a0 x1 n z4 E5 = some R → bq_H g L E5 z s.heap H1 locs1 → lv_has ls1 6 [(0, .ref a0), (1, .int x1), (2, .int z4)] → W p l e { frames := 2, cells := 0, slots := 0, locals := 49 } s m args below meth c H1 locs1 0 0 (MQ below (bq_Q g L R z none) args s 0 0 (bq_A z)) (F0 m 7 ls1 []) := by
    intro n
    induction n with
    | zero => intro z4 E5 H locs ls h hW hl; cases h
    | succ n ih =>
      intro z4 E5 H locs ls h hW hl
      rw [tl_X7_seeks_7.eq_2] at h
      refine lv_iload_n hx hb dX7_seeks_7 rfl (lv_at hl 2 rfl) ?_
      refine lv_aload_n hx hb dX7_seeks_8 rfl (lv_at hl 0 rfl) ?_
      obtain ⟨v6, hv, h⟩ := bq_bind h
      refine bq_geti S hK fl_X7_117 dX7_seeks_9 hv hW ?_
      refine lv_icmp_ge (tgt := 146) hx hb dX7_seeks_12 (by decide) (fun hc => ?_) (fun hc => ?_)
      · replace h := bq_ifT hc h
        cases h
        exact bq_retv S hr hlocks hK hz dX7_seeks_146 hW
      · replace h := bq_ifF hc h
        refine lv_aload_n hx hb dX7_seeks_15 rfl (lv_at hl 0 rfl) ?_
        obtain ⟨v7, hv, h⟩ := bq_bind h
        refine bq_getr S hK fl_X7_22 dX7_seeks_16 hv hW ?_
        refine lv_iload_n hx hb dX7_seeks_19 rfl (lv_at hl 2 rfl) ?_
        obtain ⟨v8, hv, h⟩ := bq_bind h
        refine bq_iald S hK dX7_seeks_20 hv hW ?_
        refine lv_istore_n (lv' := [(3, .int v8), (0, .ref a0), (1, .int x1), (2, .int z4)]) hx hb dX7_seeks_21 rfl hl (by decide) rfl (fun ls hl => ?_)
        refine lv_iload_n hx hb dX7_seeks_22 rfl (lv_at hl 3 rfl) ?_
        obtain ⟨k107, ek107, h⟩ := bq_letK h
        have hjk107 : ∀ (b9 : Int32) (E10 : bq_E) (H1 : Heap) (locs1 : List Loc) (ls1 : Array Slot), k107 b9 E10 = some R → bq_H g L E10 z s.heap H1 locs1 → lv_has ls1 6 [(0, .ref a0), (1, .int x1), (2, .int z4), (3, .int v8), (4, .int b9)] → W p l e { frames := 2, cells := 0, slots := 0, locals := 49 } s m args below meth c H1 locs1 0 0 (MQ below (bq_Q g L R z none) args s 0 0 (bq_A z)) (F0 m 107 ls1 []) := by
          intro b9 E10 H locs ls h hW hl
          replace h := bq_kap2 ek107 h
          refine lv_aload_n hx hb dX7_seeks_107 rfl (lv_at hl 0 rfl) ?_
          obtain ⟨v11, hv, h⟩ := bq_bind h
          refine bq_getr S hK fl_X7_25 dX7_seeks_108 hv hW ?_
          refine lv_iload_n hx hb dX7_seeks_111 rfl (lv_at hl 2 rfl) ?_
          refine lv_iload hx hb dX7_seeks_112 (lv_at hl 4 rfl) ?_
          obtain ⟨E12, hv, h⟩ := bq_bind h
          refine bq_iast S hK dX7_seeks_114 hv hW (fun H locs hW => ?_)
          refine lv_aload_n hx hb dX7_seeks_115 rfl (lv_at hl 0 rfl) ?_
          obtain ⟨v13, hv, h⟩ := bq_bind h
          refine bq_getr S hK fl_X7_28 dX7_seeks_116 hv hW ?_
          refine lv_iload_n hx hb dX7_seeks_119 rfl (lv_at hl 2 rfl) ?_
          refine lv_aload_n hx hb dX7_seeks_120 rfl (lv_at hl 0 rfl) ?_
          refine lv_iload_n hx hb dX7_seeks_121 rfl (lv_at hl 3 rfl) ?_
          refine lv_aload_n hx hb dX7_seeks_122 rfl (lv_at hl 0 rfl) ?_
          refine lv_iload_n hx hb dX7_seeks_123 rfl (lv_at hl 3 rfl) ?_
          refine lv_sipush (v := 254) hx hb dX7_seeks_124 (by decide) ?_
          refine lv_iconst (v := 3) hx hb dX7_seeks_127 (by decide) ?_
          refine lv_iload hx hb dX7_seeks_128 (lv_at hl 4 rfl) ?_
          refine lv_imul hx hb dX7_seeks_130 ?_
          refine lv_iadd hx hb dX7_seeks_131 ?_
          obtain ⟨v14, hv, h⟩ := bq_bind h
          refine bq_callV S hK hz mv_X7_46 (c_X7_of hv) (kc_X7_of hv) dX7_seeks_132 [.int v14, .int v8, .ref a0, .int z4, .ref v13] (rest := [.int v8, .ref a0, .int z4, .ref v13]) rfl rfl rfl hl.1 (Nat.le_of_ble_eq_true rfl) ⟨Nat.le_of_ble_eq_true rfl, Nat.le_of_ble_eq_true rfl⟩ ⟨Nat.zero_le _, Nat.zero_le _⟩ hW (fun H locs hW => ?_)
          refine lv_iload_n hx hb dX7_seeks_135 rfl (lv_at hl 1 rfl) ?_
          obtain ⟨v15, hv, h⟩ := bq_bind h
          refine bq_callV S hK hz mv_X7_130 (c_X7_answerFrom hv) (kc_X7_answerFrom hv) dX7_seeks_136 [.int v15.1, .int z4, .ref v13] (rest := [.int z4, .ref v13]) rfl rfl rfl hl.1 (Nat.le_of_ble_eq_true rfl) ⟨Nat.le_of_ble_eq_true rfl, Nat.le_of_ble_eq_true rfl⟩ ⟨Nat.zero_le _, Nat.zero_le _⟩ hW (fun H locs hW => ?_)
          obtain ⟨E16, hv, h⟩ := bq_bind h
          refine bq_iast S hK dX7_seeks_139 hv hW (fun H locs hW => ?_)
          obtain ⟨v17, ev17⟩ : ∃ y : Int32, y = z4 + 1 := ⟨_, rfl⟩
          replace h := bq_letE ev17 h
          refine lv_iinc (v := v17) (lv' := [(2, .int v17), (0, .ref a0), (1, .int x1), (3, .int v8), (4, .int b9)]) hx hb dX7_seeks_140 hl (k := 2) rfl (by rw [ev17]; rfl) (by decide) rfl (fun ls hl => ?_)
          refine lv_goto (tgt := 7) hx hb dX7_seeks_143 (by decide) ?_
          exact ih v17 E16 _ _ _ h hW (lv_sub hl [1, 2, 0] rfl)
        clear ek107
        refine lv_if_ne (tgt := 46) hx hb dX7_seeks_23 (by decide) (fun hc => ?_) (fun hc => ?_)
        · replace h := bq_ifF hc h
          refine lv_aload_n hx hb dX7_seeks_46 rfl (lv_at hl 1 rfl) ?_
          refine lv_aload_n hx hb dX7_seeks_47 rfl (lv_at hl 1 rfl) ?_
          obtain ⟨v18, hv, h⟩ := bq_bind h
          refine bq_getr S hK fl_X7_22 dX7_seeks_48 hv hW ?_
          refine lv_iload_n hx hb dX7_seeks_51 rfl (lv_at hl 3 rfl) ?_
          refine lv_iconst (v := 1) hx hb dX7_seeks_52 (by decide) ?_
          refine lv_isub hx hb dX7_seeks_53 ?_
          obtain ⟨v19, hv, h⟩ := bq_bind h
          refine bq_iald S hK dX7_seeks_54 hv hW ?_
          refine lv_iconst (v := 1) hx hb dX7_seeks_55 (by decide) ?_
          obtain ⟨v20, hv, h⟩ := bq_bind h
          refine bq_callV S hK hz mv_X7_46 (c_X7_of hv) (kc_X7_of hv) dX7_seeks_56 [.int v20] (rest := []) rfl rfl rfl hl.1 (Nat.le_of_ble_eq_true rfl) ⟨Nat.le_of_ble_eq_true rfl, Nat.le_of_ble_eq_true rfl⟩ ⟨Nat.zero_le _, Nat.zero_le _⟩ hW (fun H locs hW => ?_)
          refine lv_iload_n hx hb dX7_seeks_59 rfl (lv_at hl 0 rfl) ?_
          obtain ⟨k68, ek68, h⟩ := bq_letK h
          have hjk68 : ∀ (b21 : Int32) (H1 : Heap) (locs1 : List Loc) (ls1 : Array Slot), k68 b21 = some R → bq_H g L E5 z s.heap H1 locs1 → lv_has ls1 6 [(0, .ref a0), (1, .int x1), (2, .int z4), (3, .int v8)] → W p l e { frames := 2, cells := 0, slots := 0, locals := 49 } s m args below meth c H1 locs1 0 0 (MQ below (bq_Q g L R z none) args s 0 0 (bq_A z)) (F0 m 68 ls1 [.int b21]) := by
            intro b21 H locs ls h hW hl
            replace h := bq_kap1 ek68 h
            refine lv_istore (lv' := [(5, .int b21), (0, .ref a0), (1, .int x1), (2, .int z4), (3, .int v8)]) hx hb dX7_seeks_68 hl (by decide) rfl (fun ls hl => ?_)
            refine lv_aload_n hx hb dX7_seeks_70 rfl (lv_at hl 1 rfl) ?_
            refine lv_iload_n hx hb dX7_seeks_71 rfl (lv_at hl 4 rfl) ?_
            refine lv_aload_n hx hb dX7_seeks_72 rfl (lv_at hl 1 rfl) ?_
            refine lv_aload_n hx hb dX7_seeks_73 rfl (lv_at hl 1 rfl) ?_
            obtain ⟨v22, hv, h⟩ := bq_bind h
            refine bq_getr S hK fl_X7_22 dX7_seeks_74 hv hW ?_
            refine lv_iload_n hx hb dX7_seeks_77 rfl (lv_at hl 3 rfl) ?_
            refine lv_iconst (v := 1) hx hb dX7_seeks_78 (by decide) ?_
            refine lv_isub hx hb dX7_seeks_79 ?_
            obtain ⟨v23, hv, h⟩ := bq_bind h
            refine bq_iald S hK dX7_seeks_80 hv hW ?_
            refine lv_sipush (v := 254) hx hb dX7_seeks_81 (by decide) ?_
            refine lv_iconst (v := 3) hx hb dX7_seeks_84 (by decide) ?_
            refine lv_aload_n hx hb dX7_seeks_85 rfl (lv_at hl 1 rfl) ?_
            obtain ⟨v24, hv, h⟩ := bq_bind h
            refine bq_getr S hK fl_X7_25 dX7_seeks_86 hv hW ?_
            refine lv_iload_n hx hb dX7_seeks_89 rfl (lv_at hl 3 rfl) ?_
            refine lv_iconst (v := 1) hx hb dX7_seeks_90 (by decide) ?_
            refine lv_isub hx hb dX7_seeks_91 ?_
            obtain ⟨v25, hv, h⟩ := bq_bind h
            refine bq_iald S hK dX7_seeks_92 hv hW ?_
            refine lv_imul hx hb dX7_seeks_93 ?_
            refine lv_iadd hx hb dX7_seeks_94 ?_
            refine lv_iload hx hb dX7_seeks_95 (lv_at hl 0 rfl) ?_
            refine lv_iadd hx hb dX7_seeks_97 ?_
            obtain ⟨v26, hv, h⟩ := bq_bind h
            refine bq_callV S hK hz mv_X7_46 (c_X7_of hv) (kc_X7_of hv) dX7_seeks_98 [.int v26, .int v8, .ref a0] (rest := [.int v8, .ref a0]) rfl rfl rfl hl.1 (Nat.le_of_ble_eq_true rfl) ⟨Nat.le_of_ble_eq_true rfl, Nat.le_of_ble_eq_true rfl⟩ ⟨Nat.zero_le _, Nat.zero_le _⟩ hW (fun H locs hW => ?_)
            refine lv_iload_n hx hb dX7_seeks_101 rfl (lv_at hl 2 rfl) ?_
            obtain ⟨v27, hv, h⟩ := bq_bind h
            refine bq_callV S hK hz mv_X7_127 (c_X7_goesBack hv) (kc_X7_goesBack hv) dX7_seeks_102 [.int v27.1] (rest := []) rfl rfl rfl hl.1 (Nat.le_of_ble_eq_true rfl) ⟨Nat.le_of_ble_eq_true rfl, Nat.le_of_ble_eq_true rfl⟩ ⟨Nat.zero_le _, Nat.zero_le _⟩ hW (fun H locs hW => ?_)
            refine lv_istore (lv' := [(4, .int v27.1), (5, .int b21), (0, .ref a0), (1, .int x1), (2, .int z4), (3, .int v8)]) hx hb dX7_seeks_105 hl (by decide) rfl (fun ls hl => ?_)
            exact hjk107 v27.1 v27.2 _ _ _ h hW (lv_sub hl [2, 3, 4, 5, 0] rfl)
          clear ek68
          refine lv_icmp_ne (tgt := 67) hx hb dX7_seeks_60 (by decide) (fun hc => ?_) (fun hc => ?_)
          · replace h := bq_ifF hc h
            refine lv_iconst (v := 2) hx hb dX7_seeks_67 (by decide) ?_
            exact hjk68 (2 : Int32) _ _ _ h hW (lv_sub hl [1, 2, 3, 0] rfl)
          · replace h := bq_ifT hc h
            refine lv_iconst (v := 1) hx hb dX7_seeks_63 (by decide) ?_
            refine lv_goto (tgt := 68) hx hb dX7_seeks_64 (by decide) ?_
            exact hjk68 (1 : Int32) _ _ _ h hW (lv_sub hl [1, 2, 3, 0] rfl)
        · replace h := bq_ifT hc h
          refine lv_aload_n hx hb dX7_seeks_26 rfl (lv_at hl 1 rfl) ?_
          refine lv_iload_n hx hb dX7_seeks_27 rfl (lv_at hl 0 rfl) ?_
          refine lv_bipush (v := 62) hx hb dX7_seeks_28 (by decide) ?_
          refine lv_aload_n hx hb dX7_seeks_30 rfl (lv_at hl 1 rfl) ?_
          refine lv_iload_n hx hb dX7_seeks_31 rfl (lv_at hl 0 rfl) ?_
          refine lv_bipush (v := 61) hx hb dX7_seeks_32 (by decide) ?_
          obtain ⟨v28, hv, h⟩ := bq_bind h
          refine bq_callV S hK hz mv_X7_46 (c_X7_of hv) (kc_X7_of hv) dX7_seeks_34 [.int v28, .int (62 : Int32), .int v8, .ref a0] (rest := [.int (62 : Int32), .int v8, .ref a0]) rfl rfl rfl hl.1 (Nat.le_of_ble_eq_true rfl) ⟨Nat.le_of_ble_eq_true rfl, Nat.le_of_ble_eq_true rfl⟩ ⟨Nat.zero_le _, Nat.zero_le _⟩ hW (fun H locs hW => ?_)
          refine lv_iload_n hx hb dX7_seeks_37 rfl (lv_at hl 2 rfl) ?_
          obtain ⟨v29, hv, h⟩ := bq_bind h
          refine bq_callV S hK hz mv_X7_123 (c_X7_halves hv) (kc_X7_halves hv) dX7_seeks_38 [.int v29.1] (rest := []) rfl rfl rfl hl.1 (Nat.le_of_ble_eq_true rfl) ⟨Nat.le_of_ble_eq_true rfl, Nat.le_of_ble_eq_true rfl⟩ ⟨Nat.zero_le _, Nat.zero_le _⟩ hW (fun H locs hW => ?_)
          refine lv_istore (lv' := [(4, .int v29.1), (3, .int v8), (0, .ref a0), (1, .int x1), (2, .int z4)]) hx hb dX7_seeks_41 hl (by decide) rfl (fun ls hl => ?_)
          refine lv_goto (tgt := 107) hx hb dX7_seeks_43 (by decide) ?_
          exact hjk107 v29.1 v29.2 _ _ _ h hW (lv_sub hl [2, 3, 4, 1, 0] rfl)
  exact hL7 bq_fuel (0 : Int32) E1 _ _ _ h hW (lv_sub hl [1, 2, 0] rfl)

theorem kc_X7_search {E : bq_E} {a0 : Nat} {x1 : Int32} {x2 : Int32} {R : (Int32 × bq_E)} (h : tw_X7_search E a0 x1 x2 = some R) : bq_cls E a0 = 7 := (bq_guard h).1
set_option maxHeartbeats 4000000 in
set_option maxRecDepth 100000 in
theorem c_X7_search {l : Launch} {g : bq_G} {L : List Nat} {z : Nat} {E : bq_E} {a0 : Nat} {x1 : Int32} {x2 : Int32} {R : (Int32 × bq_E)} (h : tw_X7_search E a0 x1 x2 = some R) : bq_M l yX7_search cX7_search 3 (some .int) 3 74 [.ref a0, .int x1, .int x2] g L E z (some (.int R.1)) R.2 := by
  unfold tw_X7_search at h
  obtain ⟨hcl, h⟩ := bq_guard h
  refine bq_enter (by decide) (Nat.le_of_ble_eq_true rfl) ?_
  intro p e s m args below meth c S hr hlocks hK hz hW ls hl
  have S : CallFix p m c cX7_search 3 s args bq_WA RX7 := S
  have hx := S.1
  have hb := S.2.1
  have hl : lv_has ls 3 [(0, .ref a0), (1, .int x1), (2, .int x2)] := hl
  refine lv_aload_n hx hb dX7_search_0 rfl (lv_at hl 0 rfl) ?_
  refine lv_iload_n hx hb dX7_search_1 rfl (lv_at hl 1 rfl) ?_
  obtain ⟨v1, hv, h⟩ := bq_bind h
  refine bq_callV S hK hz mv_X7_80 (c_X7_isNode hv) (kc_X7_isNode hv) dX7_search_2 [.int (bq_b v1)] (rest := []) rfl rfl rfl hl.1 (Nat.le_of_ble_eq_true rfl) ⟨Nat.le_of_ble_eq_true rfl, Nat.le_of_ble_eq_true rfl⟩ ⟨Nat.zero_le _, Nat.zero_le _⟩ hW (fun H locs hW => ?_)
  refine lv_if_ne (tgt := 14) hx hb dX7_search_5 (by decide) (fun hc => ?_) (fun hc => ?_)
  · replace h := bq_ifF hc h
    refine lv_iload_n hx hb dX7_search_14 rfl (lv_at hl 2 rfl) ?_
    obtain ⟨v2, hv, h⟩ := bq_bind h
    refine bq_callS S hK hz ms_X7_133 (c_X7_isSought hv) dX7_search_15 [.int (bq_b v2)] (rest := []) rfl rfl rfl hl.1 (Nat.le_of_ble_eq_true rfl) ⟨Nat.le_of_ble_eq_true rfl, Nat.le_of_ble_eq_true rfl⟩ ⟨Nat.zero_le _, Nat.zero_le _⟩ hW (fun H locs hW => ?_)
    refine lv_if_ne (tgt := 27) hx hb dX7_search_18 (by decide) (fun hc => ?_) (fun hc => ?_)
    · replace h := bq_ifF hc h
      refine lv_aload_n hx hb dX7_search_27 rfl (lv_at hl 0 rfl) ?_
      obtain ⟨E3, hv, h⟩ := bq_bind h
      refine bq_callV S hK hz mv_X7_87 (c_X7_hold hv) (kc_X7_hold hv) dX7_search_28 [] (rest := []) rfl rfl rfl hl.1 (Nat.le_of_ble_eq_true rfl) ⟨Nat.le_of_ble_eq_true rfl, Nat.le_of_ble_eq_true rfl⟩ ⟨Nat.zero_le _, Nat.zero_le _⟩ hW (fun H locs hW => ?_)
      refine lv_aload_n hx hb dX7_search_31 rfl (lv_at hl 0 rfl) ?_
      refine lv_iload_n hx hb dX7_search_32 rfl (lv_at hl 1 rfl) ?_
      obtain ⟨E4, hv, h⟩ := bq_bind h
      refine bq_callV S hK hz mv_X7_136 (c_X7_lays hv) (kc_X7_lays hv) dX7_search_33 [] (rest := []) rfl rfl rfl hl.1 (Nat.le_of_ble_eq_true rfl) ⟨Nat.le_of_ble_eq_true rfl, Nat.le_of_ble_eq_true rfl⟩ ⟨Nat.zero_le _, Nat.zero_le _⟩ hW (fun H locs hW => ?_)
      refine lv_aload_n hx hb dX7_search_36 rfl (lv_at hl 0 rfl) ?_
      refine lv_iload_n hx hb dX7_search_37 rfl (lv_at hl 2 rfl) ?_
      obtain ⟨E5, hv, h⟩ := bq_bind h
      refine bq_callV S hK hz mv_X7_139 (c_X7_seeks hv) (kc_X7_seeks hv) dX7_search_38 [] (rest := []) rfl rfl rfl hl.1 (Nat.le_of_ble_eq_true rfl) ⟨Nat.le_of_ble_eq_true rfl, Nat.le_of_ble_eq_true rfl⟩ ⟨Nat.zero_le _, Nat.zero_le _⟩ hW (fun H locs hW => ?_)
      refine lv_aload_n hx hb dX7_search_41 rfl (lv_at hl 0 rfl) ?_
      obtain ⟨v6, hv, h⟩ := bq_bind h
      refine bq_getr S hK fl_X7_7 dX7_search_42 hv hW ?_
      refine lv_iconst (v := 3) hx hb dX7_search_45 (by decide) ?_
      refine lv_dup2_11 hx hb dX7_search_46 rfl rfl ?_
      obtain ⟨v7, hv, h⟩ := bq_bind h
      refine bq_iald S hK dX7_search_47 hv hW ?_
      refine lv_iconst (v := 1) hx hb dX7_search_48 (by decide) ?_
      refine lv_iadd hx hb dX7_search_49 ?_
      obtain ⟨E8, hv, h⟩ := bq_bind h
      refine bq_iast S hK dX7_search_50 hv hW (fun H locs hW => ?_)
      refine lv_aload_n hx hb dX7_search_51 rfl (lv_at hl 0 rfl) ?_
      obtain ⟨v9, hv, h⟩ := bq_bind h
      refine bq_getr S hK fl_X7_7 dX7_search_52 hv hW ?_
      refine lv_iconst (v := 4) hx hb dX7_search_55 (by decide) ?_
      refine lv_dup2_11 hx hb dX7_search_56 rfl rfl ?_
      obtain ⟨v10, hv, h⟩ := bq_bind h
      refine bq_iald S hK dX7_search_57 hv hW ?_
      refine lv_aload_n hx hb dX7_search_58 rfl (lv_at hl 0 rfl) ?_
      obtain ⟨v11, hv, h⟩ := bq_bind h
      refine bq_geti S hK fl_X7_120 dX7_search_59 hv hW ?_
      refine lv_iadd hx hb dX7_search_62 ?_
      obtain ⟨E12, hv, h⟩ := bq_bind h
      refine bq_iast S hK dX7_search_63 hv hW (fun H locs hW => ?_)
      refine lv_aload_n hx hb dX7_search_64 rfl (lv_at hl 0 rfl) ?_
      refine lv_aload_n hx hb dX7_search_65 rfl (lv_at hl 0 rfl) ?_
      obtain ⟨v13, hv, h⟩ := bq_bind h
      refine bq_getr S hK fl_X7_28 dX7_search_66 hv hW ?_
      refine lv_aload_n hx hb dX7_search_69 rfl (lv_at hl 0 rfl) ?_
      obtain ⟨v14, hv, h⟩ := bq_bind h
      refine bq_geti S hK fl_X7_117 dX7_search_70 hv hW ?_
      refine lv_iconst (v := 1) hx hb dX7_search_73 (by decide) ?_
      refine lv_isub hx hb dX7_search_74 ?_
      obtain ⟨v15, hv, h⟩ := bq_bind h
      refine bq_iald S hK dX7_search_75 hv hW ?_
      obtain ⟨v16, hv, h⟩ := bq_bind h
      refine bq_callV S hK hz mv_X7_90 (c_X7_ends hv) (kc_X7_ends hv) dX7_search_76 [.int v16.1] (rest := []) rfl rfl rfl hl.1 (Nat.le_of_ble_eq_true rfl) ⟨Nat.le_of_ble_eq_true rfl, Nat.le_of_ble_eq_true rfl⟩ ⟨Nat.zero_le _, Nat.zero_le _⟩ hW (fun H locs hW => ?_)
      cases h
      exact bq_reti S hr hlocks hK hz dX7_search_79 hW
    · replace h := bq_ifT hc h
      refine lv_aload_n hx hb dX7_search_21 rfl (lv_at hl 0 rfl) ?_
      refine lv_iconst (v := 2) hx hb dX7_search_22 (by decide) ?_
      obtain ⟨v17, hv, h⟩ := bq_bind h
      refine bq_callV S hK hz mv_X7_84 (c_X7_fails hv) (kc_X7_fails hv) dX7_search_23 [.int v17.1] (rest := []) rfl rfl rfl hl.1 (Nat.le_of_ble_eq_true rfl) ⟨Nat.le_of_ble_eq_true rfl, Nat.le_of_ble_eq_true rfl⟩ ⟨Nat.zero_le _, Nat.zero_le _⟩ hW (fun H locs hW => ?_)
      cases h
      exact bq_reti S hr hlocks hK hz dX7_search_26 hW
  · replace h := bq_ifT hc h
    refine lv_aload_n hx hb dX7_search_8 rfl (lv_at hl 0 rfl) ?_
    refine lv_iconst (v := 1) hx hb dX7_search_9 (by decide) ?_
    obtain ⟨v18, hv, h⟩ := bq_bind h
    refine bq_callV S hK hz mv_X7_84 (c_X7_fails hv) (kc_X7_fails hv) dX7_search_10 [.int v18.1] (rest := []) rfl rfl rfl hl.1 (Nat.le_of_ble_eq_true rfl) ⟨Nat.le_of_ble_eq_true rfl, Nat.le_of_ble_eq_true rfl⟩ ⟨Nat.zero_le _, Nat.zero_le _⟩ hW (fun H locs hW => ?_)
    cases h
    exact bq_reti S hr hlocks hK hz dX7_search_13 hW

theorem kc_X7_asks {E : bq_E} {a0 : Nat} {x1 : Int32} {x2 : Int32} {R : (Int32 × bq_E)} (h : tw_X7_asks E a0 x1 x2 = some R) : bq_cls E a0 = 7 := (bq_guard h).1
set_option maxHeartbeats 4000000 in
set_option maxRecDepth 100000 in
theorem c_X7_asks {l : Launch} {g : bq_G} {L : List Nat} {z : Nat} {E : bq_E} {a0 : Nat} {x1 : Int32} {x2 : Int32} {R : (Int32 × bq_E)} (h : tw_X7_asks E a0 x1 x2 = some R) : bq_M l yX7_asks cX7_asks 3 (some .int) 3 74 [.ref a0, .int x1, .int x2] g L E z (some (.int R.1)) R.2 := by
  unfold tw_X7_asks at h
  obtain ⟨hcl, h⟩ := bq_guard h
  refine bq_enter (by decide) (Nat.le_of_ble_eq_true rfl) ?_
  intro p e s m args below meth c S hr hlocks hK hz hW ls hl
  have S : CallFix p m c cX7_asks 3 s args bq_WA RX7 := S
  have hx := S.1
  have hb := S.2.1
  have hl : lv_has ls 3 [(0, .ref a0), (1, .int x1), (2, .int x2)] := hl
  refine lv_aload_n hx hb dX7_asks_0 rfl (lv_at hl 0 rfl) ?_
  refine lv_iload_n hx hb dX7_asks_1 rfl (lv_at hl 1 rfl) ?_
  obtain ⟨v1, hv, h⟩ := bq_bind h
  refine bq_callV S hK hz mv_X7_80 (c_X7_isNode hv) (kc_X7_isNode hv) dX7_asks_2 [.int (bq_b v1)] (rest := []) rfl rfl rfl hl.1 (Nat.le_of_ble_eq_true rfl) ⟨Nat.le_of_ble_eq_true rfl, Nat.le_of_ble_eq_true rfl⟩ ⟨Nat.zero_le _, Nat.zero_le _⟩ hW (fun H locs hW => ?_)
  refine lv_if_ne (tgt := 10) hx hb dX7_asks_5 (by decide) (fun hc => ?_) (fun hc => ?_)
  · replace h := bq_ifF hc h
    refine lv_iload_n hx hb dX7_asks_10 rfl (lv_at hl 2 rfl) ?_
    obtain ⟨v2, hv, h⟩ := bq_bind h
    refine bq_callS S hK hz ms_X7_133 (c_X7_isSought hv) dX7_asks_11 [.int (bq_b v2)] (rest := []) rfl rfl rfl hl.1 (Nat.le_of_ble_eq_true rfl) ⟨Nat.le_of_ble_eq_true rfl, Nat.le_of_ble_eq_true rfl⟩ ⟨Nat.zero_le _, Nat.zero_le _⟩ hW (fun H locs hW => ?_)
    refine lv_if_ne (tgt := 19) hx hb dX7_asks_14 (by decide) (fun hc => ?_) (fun hc => ?_)
    · replace h := bq_ifF hc h
      refine lv_aload_n hx hb dX7_asks_19 rfl (lv_at hl 0 rfl) ?_
      refine lv_iload_n hx hb dX7_asks_20 rfl (lv_at hl 1 rfl) ?_
      obtain ⟨E3, hv, h⟩ := bq_bind h
      refine bq_callV S hK hz mv_X7_136 (c_X7_lays hv) (kc_X7_lays hv) dX7_asks_21 [] (rest := []) rfl rfl rfl hl.1 (Nat.le_of_ble_eq_true rfl) ⟨Nat.le_of_ble_eq_true rfl, Nat.le_of_ble_eq_true rfl⟩ ⟨Nat.zero_le _, Nat.zero_le _⟩ hW (fun H locs hW => ?_)
      refine lv_aload_n hx hb dX7_asks_24 rfl (lv_at hl 0 rfl) ?_
      refine lv_iload_n hx hb dX7_asks_25 rfl (lv_at hl 2 rfl) ?_
      obtain ⟨E4, hv, h⟩ := bq_bind h
      refine bq_callV S hK hz mv_X7_139 (c_X7_seeks hv) (kc_X7_seeks hv) dX7_asks_26 [] (rest := []) rfl rfl rfl hl.1 (Nat.le_of_ble_eq_true rfl) ⟨Nat.le_of_ble_eq_true rfl, Nat.le_of_ble_eq_true rfl⟩ ⟨Nat.zero_le _, Nat.zero_le _⟩ hW (fun H locs hW => ?_)
      refine lv_iconst (v := 0) hx hb dX7_asks_29 (by decide) ?_
      cases h
      exact bq_reti S hr hlocks hK hz dX7_asks_30 hW
    · replace h := bq_ifT hc h
      refine lv_iconst (v := 2) hx hb dX7_asks_17 (by decide) ?_
      cases h
      exact bq_reti S hr hlocks hK hz dX7_asks_18 hW
  · replace h := bq_ifT hc h
    refine lv_iconst (v := 1) hx hb dX7_asks_8 (by decide) ?_
    cases h
    exact bq_reti S hr hlocks hK hz dX7_asks_9 hW

theorem kc_X7_probes {E : bq_E} {a0 : Nat} {x1 : Int32} {x2 : Int32} {R : (Int32 × bq_E)} (h : tw_X7_probes E a0 x1 x2 = some R) : bq_cls E a0 = 7 := (bq_guard h).1
set_option maxHeartbeats 4000000 in
set_option maxRecDepth 100000 in
theorem c_X7_probes {l : Launch} {g : bq_G} {L : List Nat} {z : Nat} {E : bq_E} {a0 : Nat} {x1 : Int32} {x2 : Int32} {R : (Int32 × bq_E)} (h : tw_X7_probes E a0 x1 x2 = some R) : bq_M l yX7_probes cX7_probes 4 (some .int) 4 96 [.ref a0, .int x1, .int x2] g L E z (some (.int R.1)) R.2 := by
  unfold tw_X7_probes at h
  obtain ⟨hcl, h⟩ := bq_guard h
  refine bq_enter (by decide) (Nat.le_of_ble_eq_true rfl) ?_
  intro p e s m args below meth c S hr hlocks hK hz hW ls hl
  have S : CallFix p m c cX7_probes 4 s args bq_WA RX7 := S
  have hx := S.1
  have hb := S.2.1
  have hl : lv_has ls 4 [(0, .ref a0), (1, .int x1), (2, .int x2)] := hl
  refine lv_aload_n hx hb dX7_probes_0 rfl (lv_at hl 0 rfl) ?_
  refine lv_iload_n hx hb dX7_probes_1 rfl (lv_at hl 1 rfl) ?_
  refine lv_iload_n hx hb dX7_probes_2 rfl (lv_at hl 2 rfl) ?_
  obtain ⟨v1, hv, h⟩ := bq_bind h
  refine bq_callV S hK hz mv_X7_142 (c_X7_asks hv) (kc_X7_asks hv) dX7_probes_3 [.int v1.1] (rest := []) rfl rfl rfl hl.1 (Nat.le_of_ble_eq_true rfl) ⟨Nat.le_of_ble_eq_true rfl, Nat.le_of_ble_eq_true rfl⟩ ⟨Nat.zero_le _, Nat.zero_le _⟩ hW (fun H locs hW => ?_)
  refine lv_istore_n (lv' := [(3, .int v1.1), (0, .ref a0), (1, .int x1), (2, .int x2)]) hx hb dX7_probes_6 rfl hl (by decide) rfl (fun ls hl => ?_)
  refine lv_iload_n hx hb dX7_probes_7 rfl (lv_at hl 0 rfl) ?_
  refine lv_if_le (tgt := 19) hx hb dX7_probes_8 (by decide) (fun hc => ?_) (fun hc => ?_)
  · replace h := bq_ifT hc h
    refine lv_aload_n hx hb dX7_probes_19 rfl (lv_at hl 1 rfl) ?_
    refine lv_aload_n hx hb dX7_probes_20 rfl (lv_at hl 1 rfl) ?_
    obtain ⟨v2, hv, h⟩ := bq_bind h
    refine bq_geti S hK fl_X7_120 dX7_probes_21 hv hW ?_
    obtain ⟨v3, hv, h⟩ := bq_bind h
    refine bq_callV S hK hz mv_X7_38 (c_X7_tells hv) (kc_X7_tells hv) dX7_probes_24 [.int v3.1] (rest := []) rfl rfl rfl hl.1 (Nat.le_of_ble_eq_true rfl) ⟨Nat.le_of_ble_eq_true rfl, Nat.le_of_ble_eq_true rfl⟩ ⟨Nat.zero_le _, Nat.zero_le _⟩ hW (fun H locs hW => ?_)
    cases h
    exact bq_reti S hr hlocks hK hz dX7_probes_27 hW
  · replace h := bq_ifF hc h
    refine lv_aload_n hx hb dX7_probes_11 rfl (lv_at hl 1 rfl) ?_
    refine lv_iload_n hx hb dX7_probes_12 rfl (lv_at hl 0 rfl) ?_
    obtain ⟨v4, hv, h⟩ := bq_bind h
    refine bq_callV S hK hz mv_X7_84 (c_X7_fails hv) (kc_X7_fails hv) dX7_probes_13 [.int v4.1] (rest := []) rfl rfl rfl hl.1 (Nat.le_of_ble_eq_true rfl) ⟨Nat.le_of_ble_eq_true rfl, Nat.le_of_ble_eq_true rfl⟩ ⟨Nat.zero_le _, Nat.zero_le _⟩ hW (fun H locs hW => ?_)
    refine lv_goto (tgt := 27) hx hb dX7_probes_16 (by decide) ?_
    cases h
    exact bq_reti S hr hlocks hK hz dX7_probes_27 hW

theorem kc_X7_plainProbes {E : bq_E} {a0 : Nat} {x1 : Int32} {x2 : Int32} {R : (Int32 × bq_E)} (h : tw_X7_plainProbes E a0 x1 x2 = some R) : bq_cls E a0 = 7 := (bq_guard h).1
set_option maxHeartbeats 4000000 in
set_option maxRecDepth 100000 in
theorem c_X7_plainProbes {l : Launch} {g : bq_G} {L : List Nat} {z : Nat} {E : bq_E} {a0 : Nat} {x1 : Int32} {x2 : Int32} {R : (Int32 × bq_E)} (h : tw_X7_plainProbes E a0 x1 x2 = some R) : bq_M l yX7_plainProbes cX7_plainProbes 7 (some .int) 4 96 [.ref a0, .int x1, .int x2] g L E z (some (.int R.1)) R.2 := by
  unfold tw_X7_plainProbes at h
  obtain ⟨hcl, h⟩ := bq_guard h
  refine bq_enter (by decide) (Nat.le_of_ble_eq_true rfl) ?_
  intro p e s m args below meth c S hr hlocks hK hz hW ls hl
  have S : CallFix p m c cX7_plainProbes 7 s args bq_WA RX7 := S
  have hx := S.1
  have hb := S.2.1
  have hl : lv_has ls 7 [(0, .ref a0), (1, .int x1), (2, .int x2)] := hl
  refine lv_aload_n hx hb dX7_plainProbes_0 rfl (lv_at hl 0 rfl) ?_
  refine lv_iload_n hx hb dX7_plainProbes_1 rfl (lv_at hl 1 rfl) ?_
  refine lv_iload_n hx hb dX7_plainProbes_2 rfl (lv_at hl 2 rfl) ?_
  obtain ⟨v1, hv, h⟩ := bq_bind h
  refine bq_callV S hK hz mv_X7_142 (c_X7_asks hv) (kc_X7_asks hv) dX7_plainProbes_3 [.int v1.1] (rest := []) rfl rfl rfl hl.1 (Nat.le_of_ble_eq_true rfl) ⟨Nat.le_of_ble_eq_true rfl, Nat.le_of_ble_eq_true rfl⟩ ⟨Nat.zero_le _, Nat.zero_le _⟩ hW (fun H locs hW => ?_)
  refine lv_istore_n (lv' := [(3, .int v1.1), (0, .ref a0), (1, .int x1), (2, .int x2)]) hx hb dX7_plainProbes_6 rfl hl (by decide) rfl (fun ls hl => ?_)
  refine lv_iload_n hx hb dX7_plainProbes_7 rfl (lv_at hl 0 rfl) ?_
  refine lv_if_le (tgt := 17) hx hb dX7_plainProbes_8 (by decide) (fun hc => ?_) (fun hc => ?_)
  · replace h := bq_ifT hc h
    refine lv_aload_n hx hb dX7_plainProbes_17 rfl (lv_at hl 1 rfl) ?_
    refine lv_iconst (v := 0) hx hb dX7_plainProbes_18 (by decide) ?_
    obtain ⟨E2, hv, h⟩ := bq_bind h
    refine bq_puti S hK fp_X7_120 dX7_plainProbes_19 hv hW (fun H locs hW => ?_)
    refine lv_iconst (v := 0) hx hb dX7_plainProbes_22 (by decide) ?_
    refine lv_istore (lv' := [(4, .int (0 : Int32)), (3, .int v1.1), (0, .ref a0), (1, .int x1), (2, .int x2)]) hx hb dX7_plainProbes_23 hl (by decide) rfl (fun ls hl => ?_)
    refine lv_iconst (v := 0) hx hb dX7_plainProbes_25 (by decide) ?_
    refine lv_istore (lv' := [(5, .int (0 : Int32)), (4, .int (0 : Int32)), (3, .int v1.1), (0, .ref a0), (1, .int x1), (2, .int x2)]) hx hb dX7_plainProbes_26 hl (by decide) rfl (fun ls hl => ?_)
    have hL28 : ∀ (K : Int32 → Int32 → bq_E → Option (Int32 × bq_E)) (hX : ∀ (u26 : Int32) (u27 : Int32) (E28 : bq_E) (H1 : Heap) (locs1 : List Loc) (ls1 : Array Slot), K u26 u27 E28 = some R → bq_H g L E28 z s.heap H1 locs1 → lv_has ls1 7 [(0, .ref a0), (4, .int u26)] → W p l e { frames := 4, cells := 0, slots := 0, locals := 96 } s m args below meth c H1 locs1 0 0 (MQ below (bq_Q g L R.2 z (some (.int R.1))) args s 0 0 (bq_A z)) (F0 m 98 ls1 [])), ∀ (n : Nat) (z9 : Int32) (z10 : Int32) (E11 : bq_E) (H1 : Heap) (locs1 : List Loc) (ls1 : Array Slot), tl_X7_plainProbes_28 a0 x2 K n z9 z10 E11 = some R → bq_H g L E11 z s.heap H1 locs1 → lv_has ls1 7 [(0, .ref a0), (2, .int x2), (4, .int z9), (5, .int z10)] → W p l e { frames := 4, cells := 0, slots := 0, locals := 96 } s m args below meth c H1 locs1 0 0 (MQ below (bq_Q g L R.2 z (some (.int R.1))) args s 0 0 (bq_A z)) (F0 m 28 ls1 []) := by
      intro K hX n
      induction n with
      | zero => intro z9 z10 E11 H locs ls h hW hl; cases h
      | succ n ih =>
        intro z9 z10 E11 H locs ls h hW hl
        rw [tl_X7_plainProbes_28.eq_2] at h
        refine lv_iload hx hb dX7_plainProbes_28 (lv_at hl 3 rfl) ?_
        refine lv_aload_n hx hb dX7_plainProbes_30 rfl (lv_at hl 0 rfl) ?_
        obtain ⟨v12, hv, h⟩ := bq_bind h
        refine bq_geti S hK fl_X7_117 dX7_plainProbes_31 hv hW ?_
        refine lv_icmp_ge (tgt := 98) hx hb dX7_plainProbes_34 (by decide) (fun hc => ?_) (fun hc => ?_)
        · replace h := bq_ifT hc h
          exact hX z9 z10 E11 _ _ _ h hW (lv_sub hl [0, 2] rfl)
        · replace h := bq_ifF hc h
          refine lv_aload_n hx hb dX7_plainProbes_37 rfl (lv_at hl 0 rfl) ?_
          refine lv_aload_n hx hb dX7_plainProbes_38 rfl (lv_at hl 0 rfl) ?_
          obtain ⟨v13, hv, h⟩ := bq_bind h
          refine bq_getr S hK fl_X7_22 dX7_plainProbes_39 hv hW ?_
          refine lv_iload hx hb dX7_plainProbes_42 (lv_at hl 3 rfl) ?_
          obtain ⟨v14, hv, h⟩ := bq_bind h
          refine bq_iald S hK dX7_plainProbes_44 hv hW ?_
          refine lv_aload_n hx hb dX7_plainProbes_45 rfl (lv_at hl 0 rfl) ?_
          refine lv_aload_n hx hb dX7_plainProbes_46 rfl (lv_at hl 0 rfl) ?_
          obtain ⟨v15, hv, h⟩ := bq_bind h
          refine bq_getr S hK fl_X7_22 dX7_plainProbes_47 hv hW ?_
          refine lv_iload hx hb dX7_plainProbes_50 (lv_at hl 3 rfl) ?_
          obtain ⟨v16, hv, h⟩ := bq_bind h
          refine bq_iald S hK dX7_plainProbes_52 hv hW ?_
          refine lv_iconst (v := 4) hx hb dX7_plainProbes_53 (by decide) ?_
          refine lv_aload_n hx hb dX7_plainProbes_54 rfl (lv_at hl 0 rfl) ?_
          refine lv_aload_n hx hb dX7_plainProbes_55 rfl (lv_at hl 0 rfl) ?_
          obtain ⟨v17, hv, h⟩ := bq_bind h
          refine bq_getr S hK fl_X7_22 dX7_plainProbes_56 hv hW ?_
          refine lv_iload hx hb dX7_plainProbes_59 (lv_at hl 3 rfl) ?_
          obtain ⟨v18, hv, h⟩ := bq_bind h
          refine bq_iald S hK dX7_plainProbes_61 hv hW ?_
          refine lv_iconst (v := 3) hx hb dX7_plainProbes_62 (by decide) ?_
          obtain ⟨v19, hv, h⟩ := bq_bind h
          refine bq_callV S hK hz mv_X7_46 (c_X7_of hv) (kc_X7_of hv) dX7_plainProbes_63 [.int v19, .int (4 : Int32), .int v16, .ref a0, .int v14, .ref a0] (rest := [.int (4 : Int32), .int v16, .ref a0, .int v14, .ref a0]) rfl rfl rfl hl.1 (Nat.le_of_ble_eq_true rfl) ⟨Nat.le_of_ble_eq_true rfl, Nat.le_of_ble_eq_true rfl⟩ ⟨Nat.zero_le _, Nat.zero_le _⟩ hW (fun H locs hW => ?_)
          refine lv_iload_n hx hb dX7_plainProbes_66 rfl (lv_at hl 1 rfl) ?_
          obtain ⟨v20, hv, h⟩ := bq_bind h
          refine bq_callV S hK hz mv_X7_123 (c_X7_halves hv) (kc_X7_halves hv) dX7_plainProbes_67 [.int v20.1, .int v14, .ref a0] (rest := [.int v14, .ref a0]) rfl rfl rfl hl.1 (Nat.le_of_ble_eq_true rfl) ⟨Nat.le_of_ble_eq_true rfl, Nat.le_of_ble_eq_true rfl⟩ ⟨Nat.zero_le _, Nat.zero_le _⟩ hW (fun H locs hW => ?_)
          refine lv_iload_n hx hb dX7_plainProbes_70 rfl (lv_at hl 1 rfl) ?_
          obtain ⟨v21, hv, h⟩ := bq_bind h
          refine bq_callV S hK hz mv_X7_130 (c_X7_answerFrom hv) (kc_X7_answerFrom hv) dX7_plainProbes_71 [.int v21.1] (rest := []) rfl rfl rfl hl.1 (Nat.le_of_ble_eq_true rfl) ⟨Nat.le_of_ble_eq_true rfl, Nat.le_of_ble_eq_true rfl⟩ ⟨Nat.zero_le _, Nat.zero_le _⟩ hW (fun H locs hW => ?_)
          refine lv_istore (lv' := [(6, .int v21.1), (0, .ref a0), (2, .int x2), (4, .int z9), (5, .int z10)]) hx hb dX7_plainProbes_74 hl (by decide) rfl (fun ls hl => ?_)
          refine lv_iload hx hb dX7_plainProbes_76 (lv_at hl 3 rfl) ?_
          refine lv_iload hx hb dX7_plainProbes_78 (lv_at hl 0 rfl) ?_
          refine lv_iconst (v := (-1)) hx hb dX7_plainProbes_80 (by decide) ?_
          refine lv_icmp_ne (tgt := 88) hx hb dX7_plainProbes_81 (by decide) (fun hc => ?_) (fun hc => ?_)
          · replace h := bq_ifF hc h
            refine lv_iconst (v := 1) hx hb dX7_plainProbes_88 (by decide) ?_
            refine lv_iadd hx hb dX7_plainProbes_89 ?_
            refine lv_topi (fun v22 ev22 => ?_)
            replace h := bq_letE ev22 h
            refine lv_istore (lv' := [(4, .int v22), (6, .int v21.1), (0, .ref a0), (2, .int x2), (5, .int z10)]) hx hb dX7_plainProbes_90 hl (by decide) rfl (fun ls hl => ?_)
            obtain ⟨v23, ev23⟩ : ∃ y : Int32, y = z10 + 1 := ⟨_, rfl⟩
            replace h := bq_letE ev23 h
            refine lv_iinc (v := v23) (lv' := [(5, .int v23), (4, .int v22), (6, .int v21.1), (0, .ref a0), (2, .int x2)]) hx hb dX7_plainProbes_92 hl (k := 4) rfl (by rw [ev23]; rfl) (by decide) rfl (fun ls hl => ?_)
            refine lv_goto (tgt := 28) hx hb dX7_plainProbes_95 (by decide) ?_
            exact ih v22 v23 v21.2 _ _ _ h hW (lv_sub hl [3, 4, 1, 0] rfl)
          · replace h := bq_ifT hc h
            refine lv_iconst (v := 0) hx hb dX7_plainProbes_84 (by decide) ?_
            refine lv_goto (tgt := 89) hx hb dX7_plainProbes_85 (by decide) ?_
            refine lv_iadd hx hb dX7_plainProbes_89 ?_
            refine lv_topi (fun v24 ev24 => ?_)
            replace h := bq_letE ev24 h
            refine lv_istore (lv' := [(4, .int v24), (6, .int v21.1), (0, .ref a0), (2, .int x2), (5, .int z10)]) hx hb dX7_plainProbes_90 hl (by decide) rfl (fun ls hl => ?_)
            obtain ⟨v25, ev25⟩ : ∃ y : Int32, y = z10 + 1 := ⟨_, rfl⟩
            replace h := bq_letE ev25 h
            refine lv_iinc (v := v25) (lv' := [(5, .int v25), (4, .int v24), (6, .int v21.1), (0, .ref a0), (2, .int x2)]) hx hb dX7_plainProbes_92 hl (k := 4) rfl (by rw [ev25]; rfl) (by decide) rfl (fun ls hl => ?_)
            refine lv_goto (tgt := 28) hx hb dX7_plainProbes_95 (by decide) ?_
            exact ih v24 v25 v21.2 _ _ _ h hW (lv_sub hl [3, 4, 1, 0] rfl)
    refine hL28 _ (fun y3 y4 E5 H locs ls h hW hl => ?_) bq_fuel (0 : Int32) (0 : Int32) E2 _ _ _ h hW (lv_sub hl [3, 5, 1, 0] rfl)
    refine lv_aload_n hx hb dX7_plainProbes_98 rfl (lv_at hl 0 rfl) ?_
    refine lv_iload hx hb dX7_plainProbes_99 (lv_at hl 1 rfl) ?_
    refine lv_if_ge (tgt := 109) hx hb dX7_plainProbes_101 (by decide) (fun hc => ?_) (fun hc => ?_)
    · replace h := bq_ifT hc h
      refine lv_aload_n hx hb dX7_plainProbes_109 rfl (lv_at hl 0 rfl) ?_
      obtain ⟨v6, hv, h⟩ := bq_bind h
      refine bq_geti S hK fl_X7_120 dX7_plainProbes_110 hv hW ?_
      obtain ⟨v7, hv, h⟩ := bq_bind h
      refine bq_callV S hK hz mv_X7_38 (c_X7_tells hv) (kc_X7_tells hv) dX7_plainProbes_113 [.int v7.1] (rest := []) rfl rfl rfl hl.1 (Nat.le_of_ble_eq_true rfl) ⟨Nat.le_of_ble_eq_true rfl, Nat.le_of_ble_eq_true rfl⟩ ⟨Nat.zero_le _, Nat.zero_le _⟩ hW (fun H locs hW => ?_)
      cases h
      exact bq_reti S hr hlocks hK hz dX7_plainProbes_116 hW
    · replace h := bq_ifF hc h
      refine lv_iload hx hb dX7_plainProbes_104 (lv_at hl 1 rfl) ?_
      refine lv_goto (tgt := 113) hx hb dX7_plainProbes_106 (by decide) ?_
      obtain ⟨v8, hv, h⟩ := bq_bind h
      refine bq_callV S hK hz mv_X7_38 (c_X7_tells hv) (kc_X7_tells hv) dX7_plainProbes_113 [.int v8.1] (rest := []) rfl rfl rfl hl.1 (Nat.le_of_ble_eq_true rfl) ⟨Nat.le_of_ble_eq_true rfl, Nat.le_of_ble_eq_true rfl⟩ ⟨Nat.zero_le _, Nat.zero_le _⟩ hW (fun H locs hW => ?_)
      cases h
      exact bq_reti S hr hlocks hK hz dX7_plainProbes_116 hW
  · replace h := bq_ifF hc h
    refine lv_aload_n hx hb dX7_plainProbes_11 rfl (lv_at hl 1 rfl) ?_
    refine lv_iload_n hx hb dX7_plainProbes_12 rfl (lv_at hl 0 rfl) ?_
    obtain ⟨v29, hv, h⟩ := bq_bind h
    refine bq_callV S hK hz mv_X7_84 (c_X7_fails hv) (kc_X7_fails hv) dX7_plainProbes_13 [.int v29.1] (rest := []) rfl rfl rfl hl.1 (Nat.le_of_ble_eq_true rfl) ⟨Nat.le_of_ble_eq_true rfl, Nat.le_of_ble_eq_true rfl⟩ ⟨Nat.zero_le _, Nat.zero_le _⟩ hW (fun H locs hW => ?_)
    cases h
    exact bq_reti S hr hlocks hK hz dX7_plainProbes_16 hW

theorem kc_X7_place {E : bq_E} {a0 : Nat} {x1 : Int32} {x2 : Int32} {R : (Int32 × bq_E)} (h : tw_X7_place E a0 x1 x2 = some R) : bq_cls E a0 = 7 := (bq_guard h).1
set_option maxHeartbeats 4000000 in
set_option maxRecDepth 100000 in
theorem c_X7_place {l : Launch} {g : bq_G} {L : List Nat} {z : Nat} {E : bq_E} {a0 : Nat} {x1 : Int32} {x2 : Int32} {R : (Int32 × bq_E)} (h : tw_X7_place E a0 x1 x2 = some R) : bq_M l yX7_place cX7_place 4 (some .int) 4 96 [.ref a0, .int x1, .int x2] g L E z (some (.int R.1)) R.2 := by
  unfold tw_X7_place at h
  obtain ⟨hcl, h⟩ := bq_guard h
  refine bq_enter (by decide) (Nat.le_of_ble_eq_true rfl) ?_
  intro p e s m args below meth c S hr hlocks hK hz hW ls hl
  have S : CallFix p m c cX7_place 4 s args bq_WA RX7 := S
  have hx := S.1
  have hb := S.2.1
  have hl : lv_has ls 4 [(0, .ref a0), (1, .int x1), (2, .int x2)] := hl
  refine lv_aload_n hx hb dX7_place_0 rfl (lv_at hl 0 rfl) ?_
  refine lv_iload_n hx hb dX7_place_1 rfl (lv_at hl 1 rfl) ?_
  refine lv_iload_n hx hb dX7_place_2 rfl (lv_at hl 2 rfl) ?_
  obtain ⟨v1, hv, h⟩ := bq_bind h
  refine bq_callV S hK hz mv_X7_142 (c_X7_asks hv) (kc_X7_asks hv) dX7_place_3 [.int v1.1] (rest := []) rfl rfl rfl hl.1 (Nat.le_of_ble_eq_true rfl) ⟨Nat.le_of_ble_eq_true rfl, Nat.le_of_ble_eq_true rfl⟩ ⟨Nat.zero_le _, Nat.zero_le _⟩ hW (fun H locs hW => ?_)
  refine lv_istore_n (lv' := [(3, .int v1.1), (0, .ref a0), (1, .int x1), (2, .int x2)]) hx hb dX7_place_6 rfl hl (by decide) rfl (fun ls hl => ?_)
  refine lv_iload_n hx hb dX7_place_7 rfl (lv_at hl 0 rfl) ?_
  refine lv_if_le (tgt := 19) hx hb dX7_place_8 (by decide) (fun hc => ?_) (fun hc => ?_)
  · replace h := bq_ifT hc h
    refine lv_aload_n hx hb dX7_place_19 rfl (lv_at hl 1 rfl) ?_
    refine lv_aload_n hx hb dX7_place_20 rfl (lv_at hl 1 rfl) ?_
    obtain ⟨v2, hv, h⟩ := bq_bind h
    refine bq_getr S hK fl_X7_25 dX7_place_21 hv hW ?_
    refine lv_aload_n hx hb dX7_place_24 rfl (lv_at hl 1 rfl) ?_
    obtain ⟨v3, hv, h⟩ := bq_bind h
    refine bq_geti S hK fl_X7_117 dX7_place_25 hv hW ?_
    refine lv_iconst (v := 1) hx hb dX7_place_28 (by decide) ?_
    refine lv_isub hx hb dX7_place_29 ?_
    obtain ⟨v4, hv, h⟩ := bq_bind h
    refine bq_iald S hK dX7_place_30 hv hW ?_
    obtain ⟨v5, hv, h⟩ := bq_bind h
    refine bq_callV S hK hz mv_X7_38 (c_X7_tells hv) (kc_X7_tells hv) dX7_place_31 [.int v5.1] (rest := []) rfl rfl rfl hl.1 (Nat.le_of_ble_eq_true rfl) ⟨Nat.le_of_ble_eq_true rfl, Nat.le_of_ble_eq_true rfl⟩ ⟨Nat.zero_le _, Nat.zero_le _⟩ hW (fun H locs hW => ?_)
    cases h
    exact bq_reti S hr hlocks hK hz dX7_place_34 hW
  · replace h := bq_ifF hc h
    refine lv_aload_n hx hb dX7_place_11 rfl (lv_at hl 1 rfl) ?_
    refine lv_iload_n hx hb dX7_place_12 rfl (lv_at hl 0 rfl) ?_
    obtain ⟨v6, hv, h⟩ := bq_bind h
    refine bq_callV S hK hz mv_X7_84 (c_X7_fails hv) (kc_X7_fails hv) dX7_place_13 [.int v6.1] (rest := []) rfl rfl rfl hl.1 (Nat.le_of_ble_eq_true rfl) ⟨Nat.le_of_ble_eq_true rfl, Nat.le_of_ble_eq_true rfl⟩ ⟨Nat.zero_le _, Nat.zero_le _⟩ hW (fun H locs hW => ?_)
    refine lv_goto (tgt := 34) hx hb dX7_place_16 (by decide) ?_
    cases h
    exact bq_reti S hr hlocks hK hz dX7_place_34 hW

theorem kc_X7_leastStep {E : bq_E} {a0 : Nat} {R : Int32} (h : tw_X7_leastStep E a0 = some R) : bq_cls E a0 = 7 := (bq_guard h).1
set_option maxHeartbeats 4000000 in
set_option maxRecDepth 100000 in
theorem c_X7_leastStep {l : Launch} {g : bq_G} {L : List Nat} {z : Nat} {E : bq_E} {a0 : Nat} {R : Int32} (h : tw_X7_leastStep E a0 = some R) : bq_M l yX7_leastStep cX7_leastStep 3 (some .int) 0 0 [.ref a0] g L E z (some (.int R)) E := by
  unfold tw_X7_leastStep at h
  obtain ⟨hcl, h⟩ := bq_guard h
  refine bq_enter (by decide) (Nat.le_of_ble_eq_true rfl) ?_
  intro p e s m args below meth c S hr hlocks hK hz hW ls hl
  have S : CallFix p m c cX7_leastStep 3 s args bq_WA RX7 := S
  have hx := S.1
  have hb := S.2.1
  have hl : lv_has ls 3 [(0, .ref a0)] := hl
  refine lv_iconst (v := (-1)) hx hb dX7_leastStep_0 (by decide) ?_
  refine lv_istore_n (lv' := [(1, .int (-1 : Int32)), (0, .ref a0)]) hx hb dX7_leastStep_1 rfl hl (by decide) rfl (fun ls hl => ?_)
  refine lv_iconst (v := 0) hx hb dX7_leastStep_2 (by decide) ?_
  refine lv_istore_n (lv' := [(2, .int (0 : Int32)), (1, .int (-1 : Int32)), (0, .ref a0)]) hx hb dX7_leastStep_3 rfl hl (by decide) rfl (fun ls hl => ?_)
  have hL4 : ∀ (n : Nat) (z3 : Int32) (z4 : Int32) (H1 : Heap) (locs1 : List Loc) (ls1 : Array Slot), tl_X7_leastStep_4 E a0 n z3 z4 = some R → bq_H g L E z s.heap H1 locs1 → lv_has ls1 3 [(0, .ref a0), (1, .int z3), (2, .int z4)] → W p l e { frames := 0, cells := 0, slots := 0, locals := 0 } s m args below meth c H1 locs1 0 0 (MQ below (bq_Q g L E z (some (.int R))) args s 0 0 (bq_A z)) (F0 m 4 ls1 []) := by
    intro n
    induction n with
    | zero => intro z3 z4 H locs ls h hW hl; cases h
    | succ n ih =>
      intro z3 z4 H locs ls h hW hl
      rw [tl_X7_leastStep_4.eq_2] at h
      refine lv_iload_n hx hb dX7_leastStep_4 rfl (lv_at hl 2 rfl) ?_
      refine lv_aload_n hx hb dX7_leastStep_5 rfl (lv_at hl 0 rfl) ?_
      obtain ⟨v5, hv, h⟩ := bq_bind h
      refine bq_geti S hK fl_X7_117 dX7_leastStep_6 hv hW ?_
      refine lv_icmp_ge (tgt := 54) hx hb dX7_leastStep_9 (by decide) (fun hc => ?_) (fun hc => ?_)
      · replace h := bq_ifT hc h
        refine lv_iload_n hx hb dX7_leastStep_54 rfl (lv_at hl 1 rfl) ?_
        cases h
        exact bq_reti S hr hlocks hK hz dX7_leastStep_55 hW
      · replace h := bq_ifF hc h
        refine lv_aload_n hx hb dX7_leastStep_12 rfl (lv_at hl 0 rfl) ?_
        obtain ⟨v6, hv, h⟩ := bq_bind h
        refine bq_getr S hK fl_X7_28 dX7_leastStep_13 hv hW ?_
        refine lv_iload_n hx hb dX7_leastStep_16 rfl (lv_at hl 2 rfl) ?_
        obtain ⟨v7, hv, h⟩ := bq_bind h
        refine bq_iald S hK dX7_leastStep_17 hv hW ?_
        refine lv_iconst (v := (-1)) hx hb dX7_leastStep_18 (by decide) ?_
        refine lv_icmp_eq (tgt := 46) hx hb dX7_leastStep_19 (by decide) (fun hc => ?_) (fun hc => ?_)
        · replace h := bq_ifT hc h
          refine lv_iload_n hx hb dX7_leastStep_46 rfl (lv_at hl 1 rfl) ?_
          refine lv_istore_n (lv' := [(1, .int z3), (0, .ref a0), (2, .int z4)]) hx hb dX7_leastStep_47 rfl hl (by decide) rfl (fun ls hl => ?_)
          obtain ⟨v8, ev8⟩ : ∃ y : Int32, y = z4 + 1 := ⟨_, rfl⟩
          replace h := bq_letE ev8 h
          refine lv_iinc (v := v8) (lv' := [(2, .int v8), (1, .int z3), (0, .ref a0)]) hx hb dX7_leastStep_48 hl (k := 2) rfl (by rw [ev8]; rfl) (by decide) rfl (fun ls hl => ?_)
          refine lv_goto (tgt := 4) hx hb dX7_leastStep_51 (by decide) ?_
          exact ih z3 v8 _ _ _ h hW (lv_sub hl [2, 1, 0] rfl)
        · replace h := bq_ifF hc h
          refine lv_iload_n hx hb dX7_leastStep_22 rfl (lv_at hl 1 rfl) ?_
          refine lv_iconst (v := (-1)) hx hb dX7_leastStep_23 (by decide) ?_
          refine lv_icmp_eq (tgt := 42) hx hb dX7_leastStep_24 (by decide) (fun hc => ?_) (fun hc => ?_)
          · replace h := bq_ifT hc h
            refine lv_iload_n hx hb dX7_leastStep_42 rfl (lv_at hl 2 rfl) ?_
            refine lv_goto (tgt := 47) hx hb dX7_leastStep_43 (by decide) ?_
            refine lv_istore_n (lv' := [(1, .int z4), (0, .ref a0), (2, .int z4)]) hx hb dX7_leastStep_47 rfl hl (by decide) rfl (fun ls hl => ?_)
            obtain ⟨v9, ev9⟩ : ∃ y : Int32, y = z4 + 1 := ⟨_, rfl⟩
            replace h := bq_letE ev9 h
            refine lv_iinc (v := v9) (lv' := [(2, .int v9), (1, .int z4), (0, .ref a0)]) hx hb dX7_leastStep_48 hl (k := 2) rfl (by rw [ev9]; rfl) (by decide) rfl (fun ls hl => ?_)
            refine lv_goto (tgt := 4) hx hb dX7_leastStep_51 (by decide) ?_
            exact ih z4 v9 _ _ _ h hW (lv_sub hl [2, 1, 0] rfl)
          · replace h := bq_ifF hc h
            refine lv_aload_n hx hb dX7_leastStep_27 rfl (lv_at hl 0 rfl) ?_
            obtain ⟨v10, hv, h⟩ := bq_bind h
            refine bq_getr S hK fl_X7_28 dX7_leastStep_28 hv hW ?_
            refine lv_iload_n hx hb dX7_leastStep_31 rfl (lv_at hl 2 rfl) ?_
            obtain ⟨v11, hv, h⟩ := bq_bind h
            refine bq_iald S hK dX7_leastStep_32 hv hW ?_
            refine lv_aload_n hx hb dX7_leastStep_33 rfl (lv_at hl 0 rfl) ?_
            obtain ⟨v12, hv, h⟩ := bq_bind h
            refine bq_getr S hK fl_X7_28 dX7_leastStep_34 hv hW ?_
            refine lv_iload_n hx hb dX7_leastStep_37 rfl (lv_at hl 1 rfl) ?_
            obtain ⟨v13, hv, h⟩ := bq_bind h
            refine bq_iald S hK dX7_leastStep_38 hv hW ?_
            refine lv_icmp_ge (tgt := 46) hx hb dX7_leastStep_39 (by decide) (fun hc => ?_) (fun hc => ?_)
            · replace h := bq_ifT hc h
              refine lv_iload_n hx hb dX7_leastStep_46 rfl (lv_at hl 1 rfl) ?_
              refine lv_istore_n (lv' := [(1, .int z3), (0, .ref a0), (2, .int z4)]) hx hb dX7_leastStep_47 rfl hl (by decide) rfl (fun ls hl => ?_)
              obtain ⟨v14, ev14⟩ : ∃ y : Int32, y = z4 + 1 := ⟨_, rfl⟩
              replace h := bq_letE ev14 h
              refine lv_iinc (v := v14) (lv' := [(2, .int v14), (1, .int z3), (0, .ref a0)]) hx hb dX7_leastStep_48 hl (k := 2) rfl (by rw [ev14]; rfl) (by decide) rfl (fun ls hl => ?_)
              refine lv_goto (tgt := 4) hx hb dX7_leastStep_51 (by decide) ?_
              exact ih z3 v14 _ _ _ h hW (lv_sub hl [2, 1, 0] rfl)
            · replace h := bq_ifF hc h
              refine lv_iload_n hx hb dX7_leastStep_42 rfl (lv_at hl 2 rfl) ?_
              refine lv_goto (tgt := 47) hx hb dX7_leastStep_43 (by decide) ?_
              refine lv_istore_n (lv' := [(1, .int z4), (0, .ref a0), (2, .int z4)]) hx hb dX7_leastStep_47 rfl hl (by decide) rfl (fun ls hl => ?_)
              obtain ⟨v15, ev15⟩ : ∃ y : Int32, y = z4 + 1 := ⟨_, rfl⟩
              replace h := bq_letE ev15 h
              refine lv_iinc (v := v15) (lv' := [(2, .int v15), (1, .int z4), (0, .ref a0)]) hx hb dX7_leastStep_48 hl (k := 2) rfl (by rw [ev15]; rfl) (by decide) rfl (fun ls hl => ?_)
              refine lv_goto (tgt := 4) hx hb dX7_leastStep_51 (by decide) ?_
              exact ih z4 v15 _ _ _ h hW (lv_sub hl [2, 1, 0] rfl)
  exact hL4 bq_fuel (-1 : Int32) (0 : Int32) _ _ _ h hW (lv_sub hl [2, 1, 0] rfl)

theorem kc_X7_leastOnPath {E : bq_E} {a0 : Nat} {x1 : Int32} {x2 : Int32} {R : (Int32 × bq_E)} (h : tw_X7_leastOnPath E a0 x1 x2 = some R) : bq_cls E a0 = 7 := (bq_guard h).1
set_option maxHeartbeats 4000000 in
set_option maxRecDepth 100000 in
theorem c_X7_leastOnPath {l : Launch} {g : bq_G} {L : List Nat} {z : Nat} {E : bq_E} {a0 : Nat} {x1 : Int32} {x2 : Int32} {R : (Int32 × bq_E)} (h : tw_X7_leastOnPath E a0 x1 x2 = some R) : bq_M l yX7_leastOnPath cX7_leastOnPath 5 (some .int) 4 96 [.ref a0, .int x1, .int x2] g L E z (some (.int R.1)) R.2 := by
  unfold tw_X7_leastOnPath at h
  obtain ⟨hcl, h⟩ := bq_guard h
  refine bq_enter (by decide) (Nat.le_of_ble_eq_true rfl) ?_
  intro p e s m args below meth c S hr hlocks hK hz hW ls hl
  have S : CallFix p m c cX7_leastOnPath 5 s args bq_WA RX7 := S
  have hx := S.1
  have hb := S.2.1
  have hl : lv_has ls 5 [(0, .ref a0), (1, .int x1), (2, .int x2)] := hl
  refine lv_aload_n hx hb dX7_leastOnPath_0 rfl (lv_at hl 0 rfl) ?_
  refine lv_iload_n hx hb dX7_leastOnPath_1 rfl (lv_at hl 1 rfl) ?_
  refine lv_iload_n hx hb dX7_leastOnPath_2 rfl (lv_at hl 2 rfl) ?_
  obtain ⟨v1, hv, h⟩ := bq_bind h
  refine bq_callV S hK hz mv_X7_142 (c_X7_asks hv) (kc_X7_asks hv) dX7_leastOnPath_3 [.int v1.1] (rest := []) rfl rfl rfl hl.1 (Nat.le_of_ble_eq_true rfl) ⟨Nat.le_of_ble_eq_true rfl, Nat.le_of_ble_eq_true rfl⟩ ⟨Nat.zero_le _, Nat.zero_le _⟩ hW (fun H locs hW => ?_)
  refine lv_istore_n (lv' := [(3, .int v1.1), (0, .ref a0), (1, .int x1), (2, .int x2)]) hx hb dX7_leastOnPath_6 rfl hl (by decide) rfl (fun ls hl => ?_)
  refine lv_iload_n hx hb dX7_leastOnPath_7 rfl (lv_at hl 0 rfl) ?_
  refine lv_if_le (tgt := 17) hx hb dX7_leastOnPath_8 (by decide) (fun hc => ?_) (fun hc => ?_)
  · replace h := bq_ifT hc h
    refine lv_aload_n hx hb dX7_leastOnPath_17 rfl (lv_at hl 1 rfl) ?_
    obtain ⟨v2, hv, h⟩ := bq_bind h
    refine bq_callV S hK hz mv_X7_145 (c_X7_leastStep hv) (kc_X7_leastStep hv) dX7_leastOnPath_18 [.int v2] (rest := []) rfl rfl rfl hl.1 (Nat.le_of_ble_eq_true rfl) ⟨Nat.le_of_ble_eq_true rfl, Nat.le_of_ble_eq_true rfl⟩ ⟨Nat.zero_le _, Nat.zero_le _⟩ hW (fun H locs hW => ?_)
    refine lv_istore (lv' := [(4, .int v2), (3, .int v1.1), (0, .ref a0), (1, .int x1), (2, .int x2)]) hx hb dX7_leastOnPath_21 hl (by decide) rfl (fun ls hl => ?_)
    refine lv_aload_n hx hb dX7_leastOnPath_23 rfl (lv_at hl 2 rfl) ?_
    refine lv_iload hx hb dX7_leastOnPath_24 (lv_at hl 0 rfl) ?_
    refine lv_iconst (v := (-1)) hx hb dX7_leastOnPath_26 (by decide) ?_
    refine lv_icmp_ne (tgt := 34) hx hb dX7_leastOnPath_27 (by decide) (fun hc => ?_) (fun hc => ?_)
    · replace h := bq_ifF hc h
      refine lv_aload_n hx hb dX7_leastOnPath_34 rfl (lv_at hl 2 rfl) ?_
      obtain ⟨v3, hv, h⟩ := bq_bind h
      refine bq_getr S hK fl_X7_28 dX7_leastOnPath_35 hv hW ?_
      refine lv_iload hx hb dX7_leastOnPath_38 (lv_at hl 0 rfl) ?_
      obtain ⟨v4, hv, h⟩ := bq_bind h
      refine bq_iald S hK dX7_leastOnPath_40 hv hW ?_
      obtain ⟨v5, hv, h⟩ := bq_bind h
      refine bq_callV S hK hz mv_X7_38 (c_X7_tells hv) (kc_X7_tells hv) dX7_leastOnPath_41 [.int v5.1] (rest := []) rfl rfl rfl hl.1 (Nat.le_of_ble_eq_true rfl) ⟨Nat.le_of_ble_eq_true rfl, Nat.le_of_ble_eq_true rfl⟩ ⟨Nat.zero_le _, Nat.zero_le _⟩ hW (fun H locs hW => ?_)
      cases h
      exact bq_reti S hr hlocks hK hz dX7_leastOnPath_44 hW
    · replace h := bq_ifT hc h
      refine lv_iconst (v := (-1)) hx hb dX7_leastOnPath_30 (by decide) ?_
      refine lv_goto (tgt := 41) hx hb dX7_leastOnPath_31 (by decide) ?_
      obtain ⟨v6, hv, h⟩ := bq_bind h
      refine bq_callV S hK hz mv_X7_38 (c_X7_tells hv) (kc_X7_tells hv) dX7_leastOnPath_41 [.int v6.1] (rest := []) rfl rfl rfl hl.1 (Nat.le_of_ble_eq_true rfl) ⟨Nat.le_of_ble_eq_true rfl, Nat.le_of_ble_eq_true rfl⟩ ⟨Nat.zero_le _, Nat.zero_le _⟩ hW (fun H locs hW => ?_)
      cases h
      exact bq_reti S hr hlocks hK hz dX7_leastOnPath_44 hW
  · replace h := bq_ifF hc h
    refine lv_aload_n hx hb dX7_leastOnPath_11 rfl (lv_at hl 1 rfl) ?_
    refine lv_iload_n hx hb dX7_leastOnPath_12 rfl (lv_at hl 0 rfl) ?_
    obtain ⟨v7, hv, h⟩ := bq_bind h
    refine bq_callV S hK hz mv_X7_84 (c_X7_fails hv) (kc_X7_fails hv) dX7_leastOnPath_13 [.int v7.1] (rest := []) rfl rfl rfl hl.1 (Nat.le_of_ble_eq_true rfl) ⟨Nat.le_of_ble_eq_true rfl, Nat.le_of_ble_eq_true rfl⟩ ⟨Nat.zero_le _, Nat.zero_le _⟩ hW (fun H locs hW => ?_)
    cases h
    exact bq_reti S hr hlocks hK hz dX7_leastOnPath_16 hW

theorem kc_X7_nearestOnPath {E : bq_E} {a0 : Nat} {x1 : Int32} {x2 : Int32} {R : (Int32 × bq_E)} (h : tw_X7_nearestOnPath E a0 x1 x2 = some R) : bq_cls E a0 = 7 := (bq_guard h).1
set_option maxHeartbeats 4000000 in
set_option maxRecDepth 100000 in
theorem c_X7_nearestOnPath {l : Launch} {g : bq_G} {L : List Nat} {z : Nat} {E : bq_E} {a0 : Nat} {x1 : Int32} {x2 : Int32} {R : (Int32 × bq_E)} (h : tw_X7_nearestOnPath E a0 x1 x2 = some R) : bq_M l yX7_nearestOnPath cX7_nearestOnPath 5 (some .int) 4 96 [.ref a0, .int x1, .int x2] g L E z (some (.int R.1)) R.2 := by
  unfold tw_X7_nearestOnPath at h
  obtain ⟨hcl, h⟩ := bq_guard h
  refine bq_enter (by decide) (Nat.le_of_ble_eq_true rfl) ?_
  intro p e s m args below meth c S hr hlocks hK hz hW ls hl
  have S : CallFix p m c cX7_nearestOnPath 5 s args bq_WA RX7 := S
  have hx := S.1
  have hb := S.2.1
  have hl : lv_has ls 5 [(0, .ref a0), (1, .int x1), (2, .int x2)] := hl
  refine lv_aload_n hx hb dX7_nearestOnPath_0 rfl (lv_at hl 0 rfl) ?_
  refine lv_iload_n hx hb dX7_nearestOnPath_1 rfl (lv_at hl 1 rfl) ?_
  refine lv_iload_n hx hb dX7_nearestOnPath_2 rfl (lv_at hl 2 rfl) ?_
  obtain ⟨v1, hv, h⟩ := bq_bind h
  refine bq_callV S hK hz mv_X7_142 (c_X7_asks hv) (kc_X7_asks hv) dX7_nearestOnPath_3 [.int v1.1] (rest := []) rfl rfl rfl hl.1 (Nat.le_of_ble_eq_true rfl) ⟨Nat.le_of_ble_eq_true rfl, Nat.le_of_ble_eq_true rfl⟩ ⟨Nat.zero_le _, Nat.zero_le _⟩ hW (fun H locs hW => ?_)
  refine lv_istore_n (lv' := [(3, .int v1.1), (0, .ref a0), (1, .int x1), (2, .int x2)]) hx hb dX7_nearestOnPath_6 rfl hl (by decide) rfl (fun ls hl => ?_)
  refine lv_iload_n hx hb dX7_nearestOnPath_7 rfl (lv_at hl 0 rfl) ?_
  refine lv_if_le (tgt := 17) hx hb dX7_nearestOnPath_8 (by decide) (fun hc => ?_) (fun hc => ?_)
  · replace h := bq_ifT hc h
    refine lv_aload_n hx hb dX7_nearestOnPath_17 rfl (lv_at hl 1 rfl) ?_
    obtain ⟨v2, hv, h⟩ := bq_bind h
    refine bq_callV S hK hz mv_X7_145 (c_X7_leastStep hv) (kc_X7_leastStep hv) dX7_nearestOnPath_18 [.int v2] (rest := []) rfl rfl rfl hl.1 (Nat.le_of_ble_eq_true rfl) ⟨Nat.le_of_ble_eq_true rfl, Nat.le_of_ble_eq_true rfl⟩ ⟨Nat.zero_le _, Nat.zero_le _⟩ hW (fun H locs hW => ?_)
    refine lv_istore (lv' := [(4, .int v2), (3, .int v1.1), (0, .ref a0), (1, .int x1), (2, .int x2)]) hx hb dX7_nearestOnPath_21 hl (by decide) rfl (fun ls hl => ?_)
    refine lv_aload_n hx hb dX7_nearestOnPath_23 rfl (lv_at hl 2 rfl) ?_
    refine lv_iload hx hb dX7_nearestOnPath_24 (lv_at hl 0 rfl) ?_
    refine lv_iconst (v := (-1)) hx hb dX7_nearestOnPath_26 (by decide) ?_
    refine lv_icmp_ne (tgt := 34) hx hb dX7_nearestOnPath_27 (by decide) (fun hc => ?_) (fun hc => ?_)
    · replace h := bq_ifF hc h
      refine lv_aload_n hx hb dX7_nearestOnPath_34 rfl (lv_at hl 2 rfl) ?_
      obtain ⟨v3, hv, h⟩ := bq_bind h
      refine bq_getr S hK fl_X7_22 dX7_nearestOnPath_35 hv hW ?_
      refine lv_iload hx hb dX7_nearestOnPath_38 (lv_at hl 0 rfl) ?_
      obtain ⟨v4, hv, h⟩ := bq_bind h
      refine bq_iald S hK dX7_nearestOnPath_40 hv hW ?_
      obtain ⟨v5, hv, h⟩ := bq_bind h
      refine bq_callV S hK hz mv_X7_38 (c_X7_tells hv) (kc_X7_tells hv) dX7_nearestOnPath_41 [.int v5.1] (rest := []) rfl rfl rfl hl.1 (Nat.le_of_ble_eq_true rfl) ⟨Nat.le_of_ble_eq_true rfl, Nat.le_of_ble_eq_true rfl⟩ ⟨Nat.zero_le _, Nat.zero_le _⟩ hW (fun H locs hW => ?_)
      cases h
      exact bq_reti S hr hlocks hK hz dX7_nearestOnPath_44 hW
    · replace h := bq_ifT hc h
      refine lv_iconst (v := (-1)) hx hb dX7_nearestOnPath_30 (by decide) ?_
      refine lv_goto (tgt := 41) hx hb dX7_nearestOnPath_31 (by decide) ?_
      obtain ⟨v6, hv, h⟩ := bq_bind h
      refine bq_callV S hK hz mv_X7_38 (c_X7_tells hv) (kc_X7_tells hv) dX7_nearestOnPath_41 [.int v6.1] (rest := []) rfl rfl rfl hl.1 (Nat.le_of_ble_eq_true rfl) ⟨Nat.le_of_ble_eq_true rfl, Nat.le_of_ble_eq_true rfl⟩ ⟨Nat.zero_le _, Nat.zero_le _⟩ hW (fun H locs hW => ?_)
      cases h
      exact bq_reti S hr hlocks hK hz dX7_nearestOnPath_44 hW
  · replace h := bq_ifF hc h
    refine lv_aload_n hx hb dX7_nearestOnPath_11 rfl (lv_at hl 1 rfl) ?_
    refine lv_iload_n hx hb dX7_nearestOnPath_12 rfl (lv_at hl 0 rfl) ?_
    obtain ⟨v7, hv, h⟩ := bq_bind h
    refine bq_callV S hK hz mv_X7_84 (c_X7_fails hv) (kc_X7_fails hv) dX7_nearestOnPath_13 [.int v7.1] (rest := []) rfl rfl rfl hl.1 (Nat.le_of_ble_eq_true rfl) ⟨Nat.le_of_ble_eq_true rfl, Nat.le_of_ble_eq_true rfl⟩ ⟨Nat.zero_le _, Nat.zero_le _⟩ hW (fun H locs hW => ?_)
    cases h
    exact bq_reti S hr hlocks hK hz dX7_nearestOnPath_16 hW

theorem kc_X7_worstOf {E : bq_E} {a0 : Nat} {x1 : Int32} {R : (Int32 × bq_E)} (h : tw_X7_worstOf E a0 x1 = some R) : bq_cls E a0 = 7 := (bq_guard h).1
set_option maxHeartbeats 4000000 in
set_option maxRecDepth 100000 in
theorem c_X7_worstOf {l : Launch} {g : bq_G} {L : List Nat} {z : Nat} {E : bq_E} {a0 : Nat} {x1 : Int32} {R : (Int32 × bq_E)} (h : tw_X7_worstOf E a0 x1 = some R) : bq_M l yX7_worstOf cX7_worstOf 5 (some .int) 3 74 [.ref a0, .int x1] g L E z (some (.int R.1)) R.2 := by
  unfold tw_X7_worstOf at h
  obtain ⟨hcl, h⟩ := bq_guard h
  refine bq_enter (by decide) (Nat.le_of_ble_eq_true rfl) ?_
  intro p e s m args below meth c S hr hlocks hK hz hW ls hl
  have S : CallFix p m c cX7_worstOf 5 s args bq_WA RX7 := S
  have hx := S.1
  have hb := S.2.1
  have hl : lv_has ls 5 [(0, .ref a0), (1, .int x1)] := hl
  refine lv_aload_n hx hb dX7_worstOf_0 rfl (lv_at hl 0 rfl) ?_
  refine lv_iload_n hx hb dX7_worstOf_1 rfl (lv_at hl 1 rfl) ?_
  obtain ⟨E1, hv, h⟩ := bq_bind h
  refine bq_callV S hK hz mv_X7_136 (c_X7_lays hv) (kc_X7_lays hv) dX7_worstOf_2 [] (rest := []) rfl rfl rfl hl.1 (Nat.le_of_ble_eq_true rfl) ⟨Nat.le_of_ble_eq_true rfl, Nat.le_of_ble_eq_true rfl⟩ ⟨Nat.zero_le _, Nat.zero_le _⟩ hW (fun H locs hW => ?_)
  refine lv_aload_n hx hb dX7_worstOf_5 rfl (lv_at hl 0 rfl) ?_
  refine lv_iconst (v := 0) hx hb dX7_worstOf_6 (by decide) ?_
  obtain ⟨E2, hv, h⟩ := bq_bind h
  refine bq_callV S hK hz mv_X7_139 (c_X7_seeks hv) (kc_X7_seeks hv) dX7_worstOf_7 [] (rest := []) rfl rfl rfl hl.1 (Nat.le_of_ble_eq_true rfl) ⟨Nat.le_of_ble_eq_true rfl, Nat.le_of_ble_eq_true rfl⟩ ⟨Nat.zero_le _, Nat.zero_le _⟩ hW (fun H locs hW => ?_)
  refine lv_aload_n hx hb dX7_worstOf_10 rfl (lv_at hl 0 rfl) ?_
  obtain ⟨v3, hv, h⟩ := bq_bind h
  refine bq_geti S hK fl_X7_120 dX7_worstOf_11 hv hW ?_
  refine lv_istore_n (lv' := [(2, .int v3), (0, .ref a0), (1, .int x1)]) hx hb dX7_worstOf_14 rfl hl (by decide) rfl (fun ls hl => ?_)
  refine lv_iconst (v := 0) hx hb dX7_worstOf_15 (by decide) ?_
  refine lv_istore_n (lv' := [(3, .int (0 : Int32)), (2, .int v3), (0, .ref a0), (1, .int x1)]) hx hb dX7_worstOf_16 rfl hl (by decide) rfl (fun ls hl => ?_)
  have hL17 : ∀ (n : Nat) (z7 : Int32) (z8 : Int32) (E9 : bq_E) (H1 : Heap) (locs1 : List Loc) (ls1 : Array Slot), tl_X7_worstOf_17 a0 n z7 z8 E9 = some R → bq_H g L E9 z s.heap H1 locs1 → lv_has ls1 5 [(0, .ref a0), (2, .int z7), (3, .int z8)] → W p l e { frames := 3, cells := 0, slots := 0, locals := 74 } s m args below meth c H1 locs1 0 0 (MQ below (bq_Q g L R.2 z (some (.int R.1))) args s 0 0 (bq_A z)) (F0 m 17 ls1 []) := by
    intro n
    induction n with
    | zero => intro z7 z8 E9 H locs ls h hW hl; cases h
    | succ n ih =>
      intro z7 z8 E9 H locs ls h hW hl
      rw [tl_X7_worstOf_17.eq_2] at h
      refine lv_iload_n hx hb dX7_worstOf_17 rfl (lv_at hl 2 rfl) ?_
      refine lv_aload_n hx hb dX7_worstOf_18 rfl (lv_at hl 0 rfl) ?_
      obtain ⟨v10, hv, h⟩ := bq_bind h
      refine bq_geti S hK fl_X7_117 dX7_worstOf_19 hv hW ?_
      refine lv_icmp_ge (tgt := 95) hx hb dX7_worstOf_22 (by decide) (fun hc => ?_) (fun hc => ?_)
      · replace h := bq_ifT hc h
        refine lv_iload_n hx hb dX7_worstOf_95 rfl (lv_at hl 1 rfl) ?_
        cases h
        exact bq_reti S hr hlocks hK hz dX7_worstOf_96 hW
      · replace h := bq_ifF hc h
        refine lv_iconst (v := 0) hx hb dX7_worstOf_25 (by decide) ?_
        refine lv_istore (lv' := [(4, .int (0 : Int32)), (0, .ref a0), (2, .int z7), (3, .int z8)]) hx hb dX7_worstOf_26 hl (by decide) rfl (fun ls hl => ?_)
        have hL28 : ∀ (K : Int32 → Int32 → bq_E → Option (Int32 × bq_E)) (hX : ∀ (u29 : Int32) (u30 : Int32) (E31 : bq_E) (H1 : Heap) (locs1 : List Loc) (ls1 : Array Slot), K u29 u30 E31 = some R → bq_H g L E31 z s.heap H1 locs1 → lv_has ls1 5 [(0, .ref a0), (2, .int u29), (3, .int z8)] → W p l e { frames := 3, cells := 0, slots := 0, locals := 74 } s m args below meth c H1 locs1 0 0 (MQ below (bq_Q g L R.2 z (some (.int R.1))) args s 0 0 (bq_A z)) (F0 m 89 ls1 [])), ∀ (n : Nat) (z15 : Int32) (z16 : Int32) (E17 : bq_E) (H1 : Heap) (locs1 : List Loc) (ls1 : Array Slot), tl_X7_worstOf_28 a0 z8 K n z15 z16 E17 = some R → bq_H g L E17 z s.heap H1 locs1 → lv_has ls1 5 [(0, .ref a0), (2, .int z15), (3, .int z8), (4, .int z16)] → W p l e { frames := 3, cells := 0, slots := 0, locals := 74 } s m args below meth c H1 locs1 0 0 (MQ below (bq_Q g L R.2 z (some (.int R.1))) args s 0 0 (bq_A z)) (F0 m 28 ls1 []) := by
          intro K hX n
          induction n with
          | zero => intro z15 z16 E17 H locs ls h hW hl; cases h
          | succ n ih =>
            intro z15 z16 E17 H locs ls h hW hl
            rw [tl_X7_worstOf_28.eq_2] at h
            refine lv_iload hx hb dX7_worstOf_28 (lv_at hl 3 rfl) ?_
            refine lv_aload_n hx hb dX7_worstOf_30 rfl (lv_at hl 0 rfl) ?_
            refine lv_aload_n hx hb dX7_worstOf_31 rfl (lv_at hl 0 rfl) ?_
            obtain ⟨v18, hv, h⟩ := bq_bind h
            refine bq_getr S hK fl_X7_22 dX7_worstOf_32 hv hW ?_
            refine lv_iload_n hx hb dX7_worstOf_35 rfl (lv_at hl 2 rfl) ?_
            obtain ⟨v19, hv, h⟩ := bq_bind h
            refine bq_iald S hK dX7_worstOf_36 hv hW ?_
            refine lv_bipush (v := 61) hx hb dX7_worstOf_37 (by decide) ?_
            obtain ⟨v20, hv, h⟩ := bq_bind h
            refine bq_callV S hK hz mv_X7_46 (c_X7_of hv) (kc_X7_of hv) dX7_worstOf_39 [.int v20, .int z16] (rest := [.int z16]) rfl rfl rfl hl.1 (Nat.le_of_ble_eq_true rfl) ⟨Nat.le_of_ble_eq_true rfl, Nat.le_of_ble_eq_true rfl⟩ ⟨Nat.zero_le _, Nat.zero_le _⟩ hW (fun H locs hW => ?_)
            refine lv_icmp_ge (tgt := 89) hx hb dX7_worstOf_42 (by decide) (fun hc => ?_) (fun hc => ?_)
            · replace h := bq_ifT hc h
              exact hX z15 z16 E17 _ _ _ h hW (lv_sub hl [0, 1, 2] rfl)
            · replace h := bq_ifF hc h
              refine lv_aload_n hx hb dX7_worstOf_45 rfl (lv_at hl 0 rfl) ?_
              refine lv_aload_n hx hb dX7_worstOf_46 rfl (lv_at hl 0 rfl) ?_
              refine lv_aload_n hx hb dX7_worstOf_47 rfl (lv_at hl 0 rfl) ?_
              obtain ⟨v21, hv, h⟩ := bq_bind h
              refine bq_getr S hK fl_X7_22 dX7_worstOf_48 hv hW ?_
              refine lv_iload_n hx hb dX7_worstOf_51 rfl (lv_at hl 2 rfl) ?_
              obtain ⟨v22, hv, h⟩ := bq_bind h
              refine bq_iald S hK dX7_worstOf_52 hv hW ?_
              refine lv_bipush (v := 62) hx hb dX7_worstOf_53 (by decide) ?_
              refine lv_iload hx hb dX7_worstOf_55 (lv_at hl 3 rfl) ?_
              refine lv_iadd hx hb dX7_worstOf_57 ?_
              obtain ⟨v23, hv, h⟩ := bq_bind h
              refine bq_callV S hK hz mv_X7_46 (c_X7_of hv) (kc_X7_of hv) dX7_worstOf_58 [.int v23, .ref a0] (rest := [.ref a0]) rfl rfl rfl hl.1 (Nat.le_of_ble_eq_true rfl) ⟨Nat.le_of_ble_eq_true rfl, Nat.le_of_ble_eq_true rfl⟩ ⟨Nat.zero_le _, Nat.zero_le _⟩ hW (fun H locs hW => ?_)
              refine lv_iconst (v := 1) hx hb dX7_worstOf_61 (by decide) ?_
              refine lv_iadd hx hb dX7_worstOf_62 ?_
              obtain ⟨E24, hv, h⟩ := bq_bind h
              refine bq_callV S hK hz mv_X7_139 (c_X7_seeks hv) (kc_X7_seeks hv) dX7_worstOf_63 [] (rest := []) rfl rfl rfl hl.1 (Nat.le_of_ble_eq_true rfl) ⟨Nat.le_of_ble_eq_true rfl, Nat.le_of_ble_eq_true rfl⟩ ⟨Nat.zero_le _, Nat.zero_le _⟩ hW (fun H locs hW => ?_)
              refine lv_aload_n hx hb dX7_worstOf_66 rfl (lv_at hl 0 rfl) ?_
              obtain ⟨v25, hv, h⟩ := bq_bind h
              refine bq_geti S hK fl_X7_120 dX7_worstOf_67 hv hW ?_
              refine lv_iload_n hx hb dX7_worstOf_70 rfl (lv_at hl 1 rfl) ?_
              refine lv_icmp_le (tgt := 81) hx hb dX7_worstOf_71 (by decide) (fun hc => ?_) (fun hc => ?_)
              · replace h := bq_ifT hc h
                refine lv_iload_n hx hb dX7_worstOf_81 rfl (lv_at hl 1 rfl) ?_
                refine lv_istore_n (lv' := [(2, .int z15), (0, .ref a0), (3, .int z8), (4, .int z16)]) hx hb dX7_worstOf_82 rfl hl (by decide) rfl (fun ls hl => ?_)
                obtain ⟨v26, ev26⟩ : ∃ y : Int32, y = z16 + 1 := ⟨_, rfl⟩
                replace h := bq_letE ev26 h
                refine lv_iinc (v := v26) (lv' := [(4, .int v26), (2, .int z15), (0, .ref a0), (3, .int z8)]) hx hb dX7_worstOf_83 hl (k := 3) rfl (by rw [ev26]; rfl) (by decide) rfl (fun ls hl => ?_)
                refine lv_goto (tgt := 28) hx hb dX7_worstOf_86 (by decide) ?_
                exact ih z15 v26 E24 _ _ _ h hW (lv_sub hl [2, 1, 3, 0] rfl)
              · replace h := bq_ifF hc h
                refine lv_aload_n hx hb dX7_worstOf_74 rfl (lv_at hl 0 rfl) ?_
                obtain ⟨v27, hv, h⟩ := bq_bind h
                refine bq_geti S hK fl_X7_120 dX7_worstOf_75 hv hW ?_
                refine lv_goto (tgt := 82) hx hb dX7_worstOf_78 (by decide) ?_
                refine lv_istore_n (lv' := [(2, .int v27), (0, .ref a0), (3, .int z8), (4, .int z16)]) hx hb dX7_worstOf_82 rfl hl (by decide) rfl (fun ls hl => ?_)
                obtain ⟨v28, ev28⟩ : ∃ y : Int32, y = z16 + 1 := ⟨_, rfl⟩
                replace h := bq_letE ev28 h
                refine lv_iinc (v := v28) (lv' := [(4, .int v28), (2, .int v27), (0, .ref a0), (3, .int z8)]) hx hb dX7_worstOf_83 hl (k := 3) rfl (by rw [ev28]; rfl) (by decide) rfl (fun ls hl => ?_)
                refine lv_goto (tgt := 28) hx hb dX7_worstOf_86 (by decide) ?_
                exact ih v27 v28 E24 _ _ _ h hW (lv_sub hl [2, 1, 3, 0] rfl)
        refine hL28 _ (fun y11 y12 E13 H locs ls h hW hl => ?_) bq_fuel z7 (0 : Int32) E9 _ _ _ h hW (lv_sub hl [1, 2, 3, 0] rfl)
        obtain ⟨v14, ev14⟩ : ∃ y : Int32, y = z8 + 1 := ⟨_, rfl⟩
        replace h := bq_letE ev14 h
        refine lv_iinc (v := v14) (lv' := [(3, .int v14), (0, .ref a0), (2, .int y11)]) hx hb dX7_worstOf_89 hl (k := 2) rfl (by rw [ev14]; rfl) (by decide) rfl (fun ls hl => ?_)
        refine lv_goto (tgt := 17) hx hb dX7_worstOf_92 (by decide) ?_
        exact ih y11 v14 E13 _ _ _ h hW (lv_sub hl [1, 2, 0] rfl)
  exact hL17 bq_fuel v3 (0 : Int32) E2 _ _ _ h hW (lv_sub hl [2, 1, 0] rfl)

theorem kc_X7_worst {E : bq_E} {a0 : Nat} {x1 : Int32} {R : (Int32 × bq_E)} (h : tw_X7_worst E a0 x1 = some R) : bq_cls E a0 = 7 := (bq_guard h).1
set_option maxHeartbeats 4000000 in
set_option maxRecDepth 100000 in
theorem c_X7_worst {l : Launch} {g : bq_G} {L : List Nat} {z : Nat} {E : bq_E} {a0 : Nat} {x1 : Int32} {R : (Int32 × bq_E)} (h : tw_X7_worst E a0 x1 = some R) : bq_M l yX7_worst cX7_worst 2 (some .int) 4 98 [.ref a0, .int x1] g L E z (some (.int R.1)) R.2 := by
  unfold tw_X7_worst at h
  obtain ⟨hcl, h⟩ := bq_guard h
  refine bq_enter (by decide) (Nat.le_of_ble_eq_true rfl) ?_
  intro p e s m args below meth c S hr hlocks hK hz hW ls hl
  have S : CallFix p m c cX7_worst 2 s args bq_WA RX7 := S
  have hx := S.1
  have hb := S.2.1
  have hl : lv_has ls 2 [(0, .ref a0), (1, .int x1)] := hl
  refine lv_aload_n hx hb dX7_worst_0 rfl (lv_at hl 0 rfl) ?_
  refine lv_iload_n hx hb dX7_worst_1 rfl (lv_at hl 1 rfl) ?_
  obtain ⟨v1, hv, h⟩ := bq_bind h
  refine bq_callV S hK hz mv_X7_80 (c_X7_isNode hv) (kc_X7_isNode hv) dX7_worst_2 [.int (bq_b v1)] (rest := []) rfl rfl rfl hl.1 (Nat.le_of_ble_eq_true rfl) ⟨Nat.le_of_ble_eq_true rfl, Nat.le_of_ble_eq_true rfl⟩ ⟨Nat.zero_le _, Nat.zero_le _⟩ hW (fun H locs hW => ?_)
  refine lv_if_eq (tgt := 20) hx hb dX7_worst_5 (by decide) (fun hc => ?_) (fun hc => ?_)
  · replace h := bq_ifT hc h
    refine lv_aload_n hx hb dX7_worst_20 rfl (lv_at hl 0 rfl) ?_
    refine lv_iconst (v := 1) hx hb dX7_worst_21 (by decide) ?_
    obtain ⟨v2, hv, h⟩ := bq_bind h
    refine bq_callV S hK hz mv_X7_84 (c_X7_fails hv) (kc_X7_fails hv) dX7_worst_22 [.int v2.1] (rest := []) rfl rfl rfl hl.1 (Nat.le_of_ble_eq_true rfl) ⟨Nat.le_of_ble_eq_true rfl, Nat.le_of_ble_eq_true rfl⟩ ⟨Nat.zero_le _, Nat.zero_le _⟩ hW (fun H locs hW => ?_)
    cases h
    exact bq_reti S hr hlocks hK hz dX7_worst_25 hW
  · replace h := bq_ifF hc h
    refine lv_aload_n hx hb dX7_worst_8 rfl (lv_at hl 0 rfl) ?_
    refine lv_aload_n hx hb dX7_worst_9 rfl (lv_at hl 0 rfl) ?_
    refine lv_iload_n hx hb dX7_worst_10 rfl (lv_at hl 1 rfl) ?_
    obtain ⟨v3, hv, h⟩ := bq_bind h
    refine bq_callV S hK hz mv_X7_148 (c_X7_worstOf hv) (kc_X7_worstOf hv) dX7_worst_11 [.int v3.1, .ref a0] (rest := [.ref a0]) rfl rfl rfl hl.1 (Nat.le_of_ble_eq_true rfl) ⟨Nat.le_of_ble_eq_true rfl, Nat.le_of_ble_eq_true rfl⟩ ⟨Nat.zero_le _, Nat.zero_le _⟩ hW (fun H locs hW => ?_)
    obtain ⟨v4, hv, h⟩ := bq_bind h
    refine bq_callV S hK hz mv_X7_38 (c_X7_tells hv) (kc_X7_tells hv) dX7_worst_14 [.int v4.1] (rest := []) rfl rfl rfl hl.1 (Nat.le_of_ble_eq_true rfl) ⟨Nat.le_of_ble_eq_true rfl, Nat.le_of_ble_eq_true rfl⟩ ⟨Nat.zero_le _, Nat.zero_le _⟩ hW (fun H locs hW => ?_)
    refine lv_goto (tgt := 25) hx hb dX7_worst_17 (by decide) ?_
    cases h
    exact bq_reti S hr hlocks hK hz dX7_worst_25 hW

theorem kc_X7_nodes {E : bq_E} {a0 : Nat} {R : (Int32 × bq_E)} (h : tw_X7_nodes E a0 = some R) : bq_cls E a0 = 7 := (bq_guard h).1
set_option maxHeartbeats 4000000 in
set_option maxRecDepth 100000 in
theorem c_X7_nodes {l : Launch} {g : bq_G} {L : List Nat} {z : Nat} {E : bq_E} {a0 : Nat} {R : (Int32 × bq_E)} (h : tw_X7_nodes E a0 = some R) : bq_M l yX7_nodes cX7_nodes 1 (some .int) 1 21 [.ref a0] g L E z (some (.int R.1)) R.2 := by
  unfold tw_X7_nodes at h
  obtain ⟨hcl, h⟩ := bq_guard h
  refine bq_enter (by decide) (Nat.le_of_ble_eq_true rfl) ?_
  intro p e s m args below meth c S hr hlocks hK hz hW ls hl
  have S : CallFix p m c cX7_nodes 1 s args bq_WA RX7 := S
  have hx := S.1
  have hb := S.2.1
  have hl : lv_has ls 1 [(0, .ref a0)] := hl
  refine lv_aload_n hx hb dX7_nodes_0 rfl (lv_at hl 0 rfl) ?_
  refine lv_aload_n hx hb dX7_nodes_1 rfl (lv_at hl 0 rfl) ?_
  obtain ⟨v1, hv, h⟩ := bq_bind h
  refine bq_getr S hK fl_X7_7 dX7_nodes_2 hv hW ?_
  refine lv_iconst (v := 0) hx hb dX7_nodes_5 (by decide) ?_
  obtain ⟨v2, hv, h⟩ := bq_bind h
  refine bq_iald S hK dX7_nodes_6 hv hW ?_
  obtain ⟨v3, hv, h⟩ := bq_bind h
  refine bq_callV S hK hz mv_X7_38 (c_X7_tells hv) (kc_X7_tells hv) dX7_nodes_7 [.int v3.1] (rest := []) rfl rfl rfl hl.1 (Nat.le_of_ble_eq_true rfl) ⟨Nat.le_of_ble_eq_true rfl, Nat.le_of_ble_eq_true rfl⟩ ⟨Nat.zero_le _, Nat.zero_le _⟩ hW (fun H locs hW => ?_)
  cases h
  exact bq_reti S hr hlocks hK hz dX7_nodes_10 hW

theorem kc_X7_depth {E : bq_E} {a0 : Nat} {x1 : Int32} {R : (Int32 × bq_E)} (h : tw_X7_depth E a0 x1 = some R) : bq_cls E a0 = 7 := (bq_guard h).1
set_option maxHeartbeats 4000000 in
set_option maxRecDepth 100000 in
theorem c_X7_depth {l : Launch} {g : bq_G} {L : List Nat} {z : Nat} {E : bq_E} {a0 : Nat} {x1 : Int32} {R : (Int32 × bq_E)} (h : tw_X7_depth E a0 x1 = some R) : bq_M l yX7_depth cX7_depth 2 (some .int) 2 45 [.ref a0, .int x1] g L E z (some (.int R.1)) R.2 := by
  unfold tw_X7_depth at h
  obtain ⟨hcl, h⟩ := bq_guard h
  refine bq_enter (by decide) (Nat.le_of_ble_eq_true rfl) ?_
  intro p e s m args below meth c S hr hlocks hK hz hW ls hl
  have S : CallFix p m c cX7_depth 2 s args bq_WA RX7 := S
  have hx := S.1
  have hb := S.2.1
  have hl : lv_has ls 2 [(0, .ref a0), (1, .int x1)] := hl
  refine lv_aload_n hx hb dX7_depth_0 rfl (lv_at hl 0 rfl) ?_
  refine lv_iload_n hx hb dX7_depth_1 rfl (lv_at hl 1 rfl) ?_
  obtain ⟨E1, hv, h⟩ := bq_bind h
  refine bq_callV S hK hz mv_X7_136 (c_X7_lays hv) (kc_X7_lays hv) dX7_depth_2 [] (rest := []) rfl rfl rfl hl.1 (Nat.le_of_ble_eq_true rfl) ⟨Nat.le_of_ble_eq_true rfl, Nat.le_of_ble_eq_true rfl⟩ ⟨Nat.zero_le _, Nat.zero_le _⟩ hW (fun H locs hW => ?_)
  refine lv_aload_n hx hb dX7_depth_5 rfl (lv_at hl 0 rfl) ?_
  obtain ⟨v2, hv, h⟩ := bq_bind h
  refine bq_geti S hK fl_X7_117 dX7_depth_6 hv hW ?_
  refine lv_iconst (v := 1) hx hb dX7_depth_9 (by decide) ?_
  refine lv_isub hx hb dX7_depth_10 ?_
  cases h
  exact bq_reti S hr hlocks hK hz dX7_depth_11 hW

theorem kc_X7_value {E : bq_E} {a0 : Nat} {x1 : Int32} {x2 : Int32} {R : (Int32 × bq_E)} (h : tw_X7_value E a0 x1 x2 = some R) : bq_cls E a0 = 7 := (bq_guard h).1
set_option maxHeartbeats 4000000 in
set_option maxRecDepth 100000 in
theorem c_X7_value {l : Launch} {g : bq_G} {L : List Nat} {z : Nat} {E : bq_E} {a0 : Nat} {x1 : Int32} {x2 : Int32} {R : (Int32 × bq_E)} (h : tw_X7_value E a0 x1 x2 = some R) : bq_M l yX7_value cX7_value 3 (some .int) 3 66 [.ref a0, .int x1, .int x2] g L E z (some (.int R.1)) R.2 := by
  unfold tw_X7_value at h
  obtain ⟨hcl, h⟩ := bq_guard h
  refine bq_enter (by decide) (Nat.le_of_ble_eq_true rfl) ?_
  intro p e s m args below meth c S hr hlocks hK hz hW ls hl
  have S : CallFix p m c cX7_value 3 s args bq_WA RX7 := S
  have hx := S.1
  have hb := S.2.1
  have hl : lv_has ls 3 [(0, .ref a0), (1, .int x1), (2, .int x2)] := hl
  refine lv_iload_n hx hb dX7_value_0 rfl (lv_at hl 2 rfl) ?_
  by_cases hc0 : x2 = 0
  · replace h := bq_ifT hc0 h
    refine lv_tableIn (tgt := 48) (off := 47) hx hb dX7_value_1 (by rw [hc0]; decide) (by rw [hc0]; decide) (by rw [hc0]; rfl) (by decide) ?_
    refine lv_aload_n hx hb dX7_value_48 rfl (lv_at hl 0 rfl) ?_
    refine lv_iload_n hx hb dX7_value_49 rfl (lv_at hl 1 rfl) ?_
    refine lv_iload_n hx hb dX7_value_50 rfl (lv_at hl 2 rfl) ?_
    obtain ⟨v1, hv, h⟩ := bq_bind h
    refine bq_callV S hK hz mv_X7_46 (c_X7_of hv) (kc_X7_of hv) dX7_value_51 [.int v1] (rest := []) rfl rfl rfl hl.1 (Nat.le_of_ble_eq_true rfl) ⟨Nat.le_of_ble_eq_true rfl, Nat.le_of_ble_eq_true rfl⟩ ⟨Nat.zero_le _, Nat.zero_le _⟩ hW (fun H locs hW => ?_)
    cases h
    exact bq_reti S hr hlocks hK hz dX7_value_54 hW
  replace h := bq_ifF hc0 h
  by_cases hc1 : x2 = 1
  · replace h := bq_ifT hc1 h
    refine lv_tableIn (tgt := 48) (off := 47) hx hb dX7_value_1 (by rw [hc1]; decide) (by rw [hc1]; decide) (by rw [hc1]; rfl) (by decide) ?_
    refine lv_aload_n hx hb dX7_value_48 rfl (lv_at hl 0 rfl) ?_
    refine lv_iload_n hx hb dX7_value_49 rfl (lv_at hl 1 rfl) ?_
    refine lv_iload_n hx hb dX7_value_50 rfl (lv_at hl 2 rfl) ?_
    obtain ⟨v2, hv, h⟩ := bq_bind h
    refine bq_callV S hK hz mv_X7_46 (c_X7_of hv) (kc_X7_of hv) dX7_value_51 [.int v2] (rest := []) rfl rfl rfl hl.1 (Nat.le_of_ble_eq_true rfl) ⟨Nat.le_of_ble_eq_true rfl, Nat.le_of_ble_eq_true rfl⟩ ⟨Nat.zero_le _, Nat.zero_le _⟩ hW (fun H locs hW => ?_)
    cases h
    exact bq_reti S hr hlocks hK hz dX7_value_54 hW
  replace h := bq_ifF hc1 h
  by_cases hc2 : x2 = 2
  · replace h := bq_ifT hc2 h
    refine lv_tableIn (tgt := 48) (off := 47) hx hb dX7_value_1 (by rw [hc2]; decide) (by rw [hc2]; decide) (by rw [hc2]; rfl) (by decide) ?_
    refine lv_aload_n hx hb dX7_value_48 rfl (lv_at hl 0 rfl) ?_
    refine lv_iload_n hx hb dX7_value_49 rfl (lv_at hl 1 rfl) ?_
    refine lv_iload_n hx hb dX7_value_50 rfl (lv_at hl 2 rfl) ?_
    obtain ⟨v3, hv, h⟩ := bq_bind h
    refine bq_callV S hK hz mv_X7_46 (c_X7_of hv) (kc_X7_of hv) dX7_value_51 [.int v3] (rest := []) rfl rfl rfl hl.1 (Nat.le_of_ble_eq_true rfl) ⟨Nat.le_of_ble_eq_true rfl, Nat.le_of_ble_eq_true rfl⟩ ⟨Nat.zero_le _, Nat.zero_le _⟩ hW (fun H locs hW => ?_)
    cases h
    exact bq_reti S hr hlocks hK hz dX7_value_54 hW
  replace h := bq_ifF hc2 h
  by_cases hc3 : x2 = 3
  · replace h := bq_ifT hc3 h
    refine lv_tableIn (tgt := 55) (off := 54) hx hb dX7_value_1 (by rw [hc3]; decide) (by rw [hc3]; decide) (by rw [hc3]; rfl) (by decide) ?_
    refine lv_aload_n hx hb dX7_value_55 rfl (lv_at hl 0 rfl) ?_
    refine lv_iload_n hx hb dX7_value_56 rfl (lv_at hl 1 rfl) ?_
    obtain ⟨v4, hv, h⟩ := bq_bind h
    refine bq_callV S hK hz mv_X7_151 (c_X7_depth hv) (kc_X7_depth hv) dX7_value_57 [.int v4.1] (rest := []) rfl rfl rfl hl.1 (Nat.le_of_ble_eq_true rfl) ⟨Nat.le_of_ble_eq_true rfl, Nat.le_of_ble_eq_true rfl⟩ ⟨Nat.zero_le _, Nat.zero_le _⟩ hW (fun H locs hW => ?_)
    cases h
    exact bq_reti S hr hlocks hK hz dX7_value_60 hW
  replace h := bq_ifF hc3 h
  by_cases hc4 : x2 = 4
  · replace h := bq_ifT hc4 h
    refine lv_tableIn (tgt := 61) (off := 60) hx hb dX7_value_1 (by rw [hc4]; decide) (by rw [hc4]; decide) (by rw [hc4]; rfl) (by decide) ?_
    refine lv_aload_n hx hb dX7_value_61 rfl (lv_at hl 0 rfl) ?_
    refine lv_iload_n hx hb dX7_value_62 rfl (lv_at hl 1 rfl) ?_
    obtain ⟨v5, hv, h⟩ := bq_bind h
    refine bq_callV S hK hz mv_X7_103 (c_X7_keys hv) (kc_X7_keys hv) dX7_value_63 [.int v5] (rest := []) rfl rfl rfl hl.1 (Nat.le_of_ble_eq_true rfl) ⟨Nat.le_of_ble_eq_true rfl, Nat.le_of_ble_eq_true rfl⟩ ⟨Nat.zero_le _, Nat.zero_le _⟩ hW (fun H locs hW => ?_)
    cases h
    exact bq_reti S hr hlocks hK hz dX7_value_66 hW
  replace h := bq_ifF hc4 h
  by_cases hc5 : x2 = 5
  · replace h := bq_ifT hc5 h
    refine lv_tableIn (tgt := 67) (off := 66) hx hb dX7_value_1 (by rw [hc5]; decide) (by rw [hc5]; decide) (by rw [hc5]; rfl) (by decide) ?_
    refine lv_aload_n hx hb dX7_value_67 rfl (lv_at hl 0 rfl) ?_
    refine lv_iload_n hx hb dX7_value_68 rfl (lv_at hl 1 rfl) ?_
    refine lv_iconst (v := 3) hx hb dX7_value_69 (by decide) ?_
    obtain ⟨v6, hv, h⟩ := bq_bind h
    refine bq_callV S hK hz mv_X7_46 (c_X7_of hv) (kc_X7_of hv) dX7_value_70 [.int v6] (rest := []) rfl rfl rfl hl.1 (Nat.le_of_ble_eq_true rfl) ⟨Nat.le_of_ble_eq_true rfl, Nat.le_of_ble_eq_true rfl⟩ ⟨Nat.zero_le _, Nat.zero_le _⟩ hW (fun H locs hW => ?_)
    cases h
    exact bq_reti S hr hlocks hK hz dX7_value_73 hW
  replace h := bq_ifF hc5 h
  by_cases hc6 : x2 = 6
  · replace h := bq_ifT hc6 h
    refine lv_tableIn (tgt := 74) (off := 73) hx hb dX7_value_1 (by rw [hc6]; decide) (by rw [hc6]; decide) (by rw [hc6]; rfl) (by decide) ?_
    refine lv_aload_n hx hb dX7_value_74 rfl (lv_at hl 0 rfl) ?_
    refine lv_iload_n hx hb dX7_value_75 rfl (lv_at hl 1 rfl) ?_
    obtain ⟨v7, hv, h⟩ := bq_bind h
    refine bq_callV S hK hz mv_X7_50 (c_X7_marked hv) (kc_X7_marked hv) dX7_value_76 [.int v7] (rest := []) rfl rfl rfl hl.1 (Nat.le_of_ble_eq_true rfl) ⟨Nat.le_of_ble_eq_true rfl, Nat.le_of_ble_eq_true rfl⟩ ⟨Nat.zero_le _, Nat.zero_le _⟩ hW (fun H locs hW => ?_)
    cases h
    exact bq_reti S hr hlocks hK hz dX7_value_79 hW
  replace h := bq_ifF hc6 h
  by_cases hc7 : x2 = 7
  · replace h := bq_ifT hc7 h
    refine lv_tableIn (tgt := 80) (off := 79) hx hb dX7_value_1 (by rw [hc7]; decide) (by rw [hc7]; decide) (by rw [hc7]; rfl) (by decide) ?_
    refine lv_aload_n hx hb dX7_value_80 rfl (lv_at hl 0 rfl) ?_
    refine lv_iload_n hx hb dX7_value_81 rfl (lv_at hl 1 rfl) ?_
    refine lv_bipush (v := 52) hx hb dX7_value_82 (by decide) ?_
    obtain ⟨v8, hv, h⟩ := bq_bind h
    refine bq_callV S hK hz mv_X7_46 (c_X7_of hv) (kc_X7_of hv) dX7_value_84 [.int v8] (rest := []) rfl rfl rfl hl.1 (Nat.le_of_ble_eq_true rfl) ⟨Nat.le_of_ble_eq_true rfl, Nat.le_of_ble_eq_true rfl⟩ ⟨Nat.zero_le _, Nat.zero_le _⟩ hW (fun H locs hW => ?_)
    cases h
    exact bq_reti S hr hlocks hK hz dX7_value_87 hW
  replace h := bq_ifF hc7 h
  have q0 : Int32.toInt x2 ≠ 0 := fun q => hc0 (Int32.toInt_inj.mp (q.trans (by decide)))
  have q1 : Int32.toInt x2 ≠ 1 := fun q => hc1 (Int32.toInt_inj.mp (q.trans (by decide)))
  have q2 : Int32.toInt x2 ≠ 2 := fun q => hc2 (Int32.toInt_inj.mp (q.trans (by decide)))
  have q3 : Int32.toInt x2 ≠ 3 := fun q => hc3 (Int32.toInt_inj.mp (q.trans (by decide)))
  have q4 : Int32.toInt x2 ≠ 4 := fun q => hc4 (Int32.toInt_inj.mp (q.trans (by decide)))
  have q5 : Int32.toInt x2 ≠ 5 := fun q => hc5 (Int32.toInt_inj.mp (q.trans (by decide)))
  have q6 : Int32.toInt x2 ≠ 6 := fun q => hc6 (Int32.toInt_inj.mp (q.trans (by decide)))
  have q7 : Int32.toInt x2 ≠ 7 := fun q => hc7 (Int32.toInt_inj.mp (q.trans (by decide)))
  refine lv_tableOut (tgt := 88) hx hb dX7_value_1 (by omega) (by decide) ?_
  refine lv_aload_n hx hb dX7_value_88 rfl (lv_at hl 0 rfl) ?_
  refine lv_iload_n hx hb dX7_value_89 rfl (lv_at hl 1 rfl) ?_
  refine lv_bipush (v := 61) hx hb dX7_value_90 (by decide) ?_
  obtain ⟨v9, hv, h⟩ := bq_bind h
  refine bq_callV S hK hz mv_X7_46 (c_X7_of hv) (kc_X7_of hv) dX7_value_92 [.int v9] (rest := []) rfl rfl rfl hl.1 (Nat.le_of_ble_eq_true rfl) ⟨Nat.le_of_ble_eq_true rfl, Nat.le_of_ble_eq_true rfl⟩ ⟨Nat.zero_le _, Nat.zero_le _⟩ hW (fun H locs hW => ?_)
  cases h
  exact bq_reti S hr hlocks hK hz dX7_value_95 hW

theorem kc_X7_node {E : bq_E} {a0 : Nat} {x1 : Int32} {x2 : Int32} {R : (Int32 × bq_E)} (h : tw_X7_node E a0 x1 x2 = some R) : bq_cls E a0 = 7 := (bq_guard h).1
set_option maxHeartbeats 4000000 in
set_option maxRecDepth 100000 in
theorem c_X7_node {l : Launch} {g : bq_G} {L : List Nat} {z : Nat} {E : bq_E} {a0 : Nat} {x1 : Int32} {x2 : Int32} {R : (Int32 × bq_E)} (h : tw_X7_node E a0 x1 x2 = some R) : bq_M l yX7_node cX7_node 3 (some .int) 4 88 [.ref a0, .int x1, .int x2] g L E z (some (.int R.1)) R.2 := by
  unfold tw_X7_node at h
  obtain ⟨hcl, h⟩ := bq_guard h
  refine bq_enter (by decide) (Nat.le_of_ble_eq_true rfl) ?_
  intro p e s m args below meth c S hr hlocks hK hz hW ls hl
  have S : CallFix p m c cX7_node 3 s args bq_WA RX7 := S
  have hx := S.1
  have hb := S.2.1
  have hl : lv_has ls 3 [(0, .ref a0), (1, .int x1), (2, .int x2)] := hl
  refine lv_aload_n hx hb dX7_node_0 rfl (lv_at hl 0 rfl) ?_
  refine lv_iload_n hx hb dX7_node_1 rfl (lv_at hl 1 rfl) ?_
  obtain ⟨v1, hv, h⟩ := bq_bind h
  refine bq_callV S hK hz mv_X7_80 (c_X7_isNode hv) (kc_X7_isNode hv) dX7_node_2 [.int (bq_b v1)] (rest := []) rfl rfl rfl hl.1 (Nat.le_of_ble_eq_true rfl) ⟨Nat.le_of_ble_eq_true rfl, Nat.le_of_ble_eq_true rfl⟩ ⟨Nat.zero_le _, Nat.zero_le _⟩ hW (fun H locs hW => ?_)
  refine lv_if_ne (tgt := 14) hx hb dX7_node_5 (by decide) (fun hc => ?_) (fun hc => ?_)
  · replace h := bq_ifF hc h
    refine lv_iload_n hx hb dX7_node_14 rfl (lv_at hl 2 rfl) ?_
    refine lv_iconst (v := 0) hx hb dX7_node_15 (by decide) ?_
    refine lv_bipush (v := 8) hx hb dX7_node_16 (by decide) ?_
    obtain ⟨v2, hv, h⟩ := bq_bind h
    refine bq_callS S hK hz ms_X7_42 (c_X7_in hv) dX7_node_18 [.int (bq_b v2)] (rest := []) rfl rfl rfl hl.1 (Nat.le_of_ble_eq_true rfl) ⟨Nat.le_of_ble_eq_true rfl, Nat.le_of_ble_eq_true rfl⟩ ⟨Nat.zero_le _, Nat.zero_le _⟩ hW (fun H locs hW => ?_)
    refine lv_if_eq (tgt := 37) hx hb dX7_node_21 (by decide) (fun hc => ?_) (fun hc => ?_)
    · replace h := bq_ifT hc h
      refine lv_aload_n hx hb dX7_node_37 rfl (lv_at hl 0 rfl) ?_
      refine lv_iconst (v := 2) hx hb dX7_node_38 (by decide) ?_
      obtain ⟨v3, hv, h⟩ := bq_bind h
      refine bq_callV S hK hz mv_X7_84 (c_X7_fails hv) (kc_X7_fails hv) dX7_node_39 [.int v3.1] (rest := []) rfl rfl rfl hl.1 (Nat.le_of_ble_eq_true rfl) ⟨Nat.le_of_ble_eq_true rfl, Nat.le_of_ble_eq_true rfl⟩ ⟨Nat.zero_le _, Nat.zero_le _⟩ hW (fun H locs hW => ?_)
      cases h
      exact bq_reti S hr hlocks hK hz dX7_node_42 hW
    · replace h := bq_ifF hc h
      refine lv_aload_n hx hb dX7_node_24 rfl (lv_at hl 0 rfl) ?_
      refine lv_aload_n hx hb dX7_node_25 rfl (lv_at hl 0 rfl) ?_
      refine lv_iload_n hx hb dX7_node_26 rfl (lv_at hl 1 rfl) ?_
      refine lv_iload_n hx hb dX7_node_27 rfl (lv_at hl 2 rfl) ?_
      obtain ⟨v4, hv, h⟩ := bq_bind h
      refine bq_callV S hK hz mv_X7_154 (c_X7_value hv) (kc_X7_value hv) dX7_node_28 [.int v4.1, .ref a0] (rest := [.ref a0]) rfl rfl rfl hl.1 (Nat.le_of_ble_eq_true rfl) ⟨Nat.le_of_ble_eq_true rfl, Nat.le_of_ble_eq_true rfl⟩ ⟨Nat.zero_le _, Nat.zero_le _⟩ hW (fun H locs hW => ?_)
      obtain ⟨v5, hv, h⟩ := bq_bind h
      refine bq_callV S hK hz mv_X7_38 (c_X7_tells hv) (kc_X7_tells hv) dX7_node_31 [.int v5.1] (rest := []) rfl rfl rfl hl.1 (Nat.le_of_ble_eq_true rfl) ⟨Nat.le_of_ble_eq_true rfl, Nat.le_of_ble_eq_true rfl⟩ ⟨Nat.zero_le _, Nat.zero_le _⟩ hW (fun H locs hW => ?_)
      refine lv_goto (tgt := 42) hx hb dX7_node_34 (by decide) ?_
      cases h
      exact bq_reti S hr hlocks hK hz dX7_node_42 hW
  · replace h := bq_ifT hc h
    refine lv_aload_n hx hb dX7_node_8 rfl (lv_at hl 0 rfl) ?_
    refine lv_iconst (v := 1) hx hb dX7_node_9 (by decide) ?_
    obtain ⟨v6, hv, h⟩ := bq_bind h
    refine bq_callV S hK hz mv_X7_84 (c_X7_fails hv) (kc_X7_fails hv) dX7_node_10 [.int v6.1] (rest := []) rfl rfl rfl hl.1 (Nat.le_of_ble_eq_true rfl) ⟨Nat.le_of_ble_eq_true rfl, Nat.le_of_ble_eq_true rfl⟩ ⟨Nat.zero_le _, Nat.zero_le _⟩ hW (fun H locs hW => ?_)
    cases h
    exact bq_reti S hr hlocks hK hz dX7_node_13 hW

theorem kc_X7_key {E : bq_E} {a0 : Nat} {x1 : Int32} {x2 : Int32} {R : (Int32 × bq_E)} (h : tw_X7_key E a0 x1 x2 = some R) : bq_cls E a0 = 7 := (bq_guard h).1
set_option maxHeartbeats 4000000 in
set_option maxRecDepth 100000 in
theorem c_X7_key {l : Launch} {g : bq_G} {L : List Nat} {z : Nat} {E : bq_E} {a0 : Nat} {x1 : Int32} {x2 : Int32} {R : (Int32 × bq_E)} (h : tw_X7_key E a0 x1 x2 = some R) : bq_M l yX7_key cX7_key 5 (some .int) 2 47 [.ref a0, .int x1, .int x2] g L E z (some (.int R.1)) R.2 := by
  unfold tw_X7_key at h
  obtain ⟨hcl, h⟩ := bq_guard h
  refine bq_enter (by decide) (Nat.le_of_ble_eq_true rfl) ?_
  intro p e s m args below meth c S hr hlocks hK hz hW ls hl
  have S : CallFix p m c cX7_key 5 s args bq_WA RX7 := S
  have hx := S.1
  have hb := S.2.1
  have hl : lv_has ls 5 [(0, .ref a0), (1, .int x1), (2, .int x2)] := hl
  refine lv_aload_n hx hb dX7_key_0 rfl (lv_at hl 0 rfl) ?_
  refine lv_iload_n hx hb dX7_key_1 rfl (lv_at hl 1 rfl) ?_
  obtain ⟨v1, hv, h⟩ := bq_bind h
  refine bq_callV S hK hz mv_X7_80 (c_X7_isNode hv) (kc_X7_isNode hv) dX7_key_2 [.int (bq_b v1)] (rest := []) rfl rfl rfl hl.1 (Nat.le_of_ble_eq_true rfl) ⟨Nat.le_of_ble_eq_true rfl, Nat.le_of_ble_eq_true rfl⟩ ⟨Nat.zero_le _, Nat.zero_le _⟩ hW (fun H locs hW => ?_)
  refine lv_if_ne (tgt := 14) hx hb dX7_key_5 (by decide) (fun hc => ?_) (fun hc => ?_)
  · replace h := bq_ifF hc h
    refine lv_iload_n hx hb dX7_key_14 rfl (lv_at hl 2 rfl) ?_
    refine lv_if_ge (tgt := 24) hx hb dX7_key_15 (by decide) (fun hc => ?_) (fun hc => ?_)
    · replace h := bq_ifT hc h
      refine lv_aload_n hx hb dX7_key_24 rfl (lv_at hl 0 rfl) ?_
      refine lv_iload_n hx hb dX7_key_25 rfl (lv_at hl 1 rfl) ?_
      refine lv_iconst (v := 0) hx hb dX7_key_26 (by decide) ?_
      obtain ⟨v2, hv, h⟩ := bq_bind h
      refine bq_callV S hK hz mv_X7_74 (c_X7_next hv) (kc_X7_next hv) dX7_key_27 [.int v2] (rest := []) rfl rfl rfl hl.1 (Nat.le_of_ble_eq_true rfl) ⟨Nat.le_of_ble_eq_true rfl, Nat.le_of_ble_eq_true rfl⟩ ⟨Nat.zero_le _, Nat.zero_le _⟩ hW (fun H locs hW => ?_)
      refine lv_istore_n (lv' := [(3, .int v2), (0, .ref a0), (1, .int x1), (2, .int x2)]) hx hb dX7_key_30 rfl hl (by decide) rfl (fun ls hl => ?_)
      refine lv_iconst (v := 0) hx hb dX7_key_31 (by decide) ?_
      refine lv_istore (lv' := [(4, .int (0 : Int32)), (3, .int v2), (0, .ref a0), (1, .int x1), (2, .int x2)]) hx hb dX7_key_32 hl (by decide) rfl (fun ls hl => ?_)
      have hL34 : ∀ (n : Nat) (z5 : Int32) (z6 : Int32) (H1 : Heap) (locs1 : List Loc) (ls1 : Array Slot), tl_X7_key_34 E a0 x1 x2 n z5 z6 = some R → bq_H g L E z s.heap H1 locs1 → lv_has ls1 5 [(0, .ref a0), (1, .int x1), (2, .int x2), (3, .int z5), (4, .int z6)] → W p l e { frames := 2, cells := 0, slots := 0, locals := 47 } s m args below meth c H1 locs1 0 0 (MQ below (bq_Q g L R.2 z (some (.int R.1))) args s 0 0 (bq_A z)) (F0 m 34 ls1 []) := by
        intro n
        induction n with
        | zero => intro z5 z6 H locs ls h hW hl; cases h
        | succ n ih =>
          intro z5 z6 H locs ls h hW hl
          rw [tl_X7_key_34.eq_2] at h
          refine lv_iload hx hb dX7_key_34 (lv_at hl 4 rfl) ?_
          refine lv_iload_n hx hb dX7_key_36 rfl (lv_at hl 2 rfl) ?_
          refine lv_icmp_ge (tgt := 60) hx hb dX7_key_37 (by decide) (fun hc => ?_) (fun hc => ?_)
          · replace h := bq_ifT hc h
            refine lv_aload_n hx hb dX7_key_60 rfl (lv_at hl 0 rfl) ?_
            refine lv_iload_n hx hb dX7_key_61 rfl (lv_at hl 3 rfl) ?_
            obtain ⟨v7, hv, h⟩ := bq_bind h
            refine bq_callV S hK hz mv_X7_38 (c_X7_tells hv) (kc_X7_tells hv) dX7_key_62 [.int v7.1] (rest := []) rfl rfl rfl hl.1 (Nat.le_of_ble_eq_true rfl) ⟨Nat.le_of_ble_eq_true rfl, Nat.le_of_ble_eq_true rfl⟩ ⟨Nat.zero_le _, Nat.zero_le _⟩ hW (fun H locs hW => ?_)
            cases h
            exact bq_reti S hr hlocks hK hz dX7_key_65 hW
          · replace h := bq_ifF hc h
            refine lv_iload_n hx hb dX7_key_40 rfl (lv_at hl 3 rfl) ?_
            refine lv_iconst (v := (-1)) hx hb dX7_key_41 (by decide) ?_
            refine lv_icmp_eq (tgt := 60) hx hb dX7_key_42 (by decide) (fun hc => ?_) (fun hc => ?_)
            · replace h := bq_ifT hc h
              refine lv_aload_n hx hb dX7_key_60 rfl (lv_at hl 0 rfl) ?_
              refine lv_iload_n hx hb dX7_key_61 rfl (lv_at hl 3 rfl) ?_
              obtain ⟨v8, hv, h⟩ := bq_bind h
              refine bq_callV S hK hz mv_X7_38 (c_X7_tells hv) (kc_X7_tells hv) dX7_key_62 [.int v8.1] (rest := []) rfl rfl rfl hl.1 (Nat.le_of_ble_eq_true rfl) ⟨Nat.le_of_ble_eq_true rfl, Nat.le_of_ble_eq_true rfl⟩ ⟨Nat.zero_le _, Nat.zero_le _⟩ hW (fun H locs hW => ?_)
              cases h
              exact bq_reti S hr hlocks hK hz dX7_key_65 hW
            · replace h := bq_ifF hc h
              refine lv_aload_n hx hb dX7_key_45 rfl (lv_at hl 0 rfl) ?_
              refine lv_iload_n hx hb dX7_key_46 rfl (lv_at hl 1 rfl) ?_
              refine lv_iload_n hx hb dX7_key_47 rfl (lv_at hl 3 rfl) ?_
              refine lv_iconst (v := 1) hx hb dX7_key_48 (by decide) ?_
              refine lv_iadd hx hb dX7_key_49 ?_
              obtain ⟨v9, hv, h⟩ := bq_bind h
              refine bq_callV S hK hz mv_X7_74 (c_X7_next hv) (kc_X7_next hv) dX7_key_50 [.int v9] (rest := []) rfl rfl rfl hl.1 (Nat.le_of_ble_eq_true rfl) ⟨Nat.le_of_ble_eq_true rfl, Nat.le_of_ble_eq_true rfl⟩ ⟨Nat.zero_le _, Nat.zero_le _⟩ hW (fun H locs hW => ?_)
              refine lv_istore_n (lv' := [(3, .int v9), (0, .ref a0), (1, .int x1), (2, .int x2), (4, .int z6)]) hx hb dX7_key_53 rfl hl (by decide) rfl (fun ls hl => ?_)
              obtain ⟨v10, ev10⟩ : ∃ y : Int32, y = z6 + 1 := ⟨_, rfl⟩
              replace h := bq_letE ev10 h
              refine lv_iinc (v := v10) (lv' := [(4, .int v10), (3, .int v9), (0, .ref a0), (1, .int x1), (2, .int x2)]) hx hb dX7_key_54 hl (k := 4) rfl (by rw [ev10]; rfl) (by decide) rfl (fun ls hl => ?_)
              refine lv_goto (tgt := 34) hx hb dX7_key_57 (by decide) ?_
              exact ih v9 v10 _ _ _ h hW (lv_sub hl [2, 3, 4, 1, 0] rfl)
      exact hL34 bq_fuel v2 (0 : Int32) _ _ _ h hW (lv_sub hl [2, 3, 4, 1, 0] rfl)
    · replace h := bq_ifF hc h
      refine lv_aload_n hx hb dX7_key_18 rfl (lv_at hl 0 rfl) ?_
      refine lv_iconst (v := 2) hx hb dX7_key_19 (by decide) ?_
      obtain ⟨v11, hv, h⟩ := bq_bind h
      refine bq_callV S hK hz mv_X7_84 (c_X7_fails hv) (kc_X7_fails hv) dX7_key_20 [.int v11.1] (rest := []) rfl rfl rfl hl.1 (Nat.le_of_ble_eq_true rfl) ⟨Nat.le_of_ble_eq_true rfl, Nat.le_of_ble_eq_true rfl⟩ ⟨Nat.zero_le _, Nat.zero_le _⟩ hW (fun H locs hW => ?_)
      cases h
      exact bq_reti S hr hlocks hK hz dX7_key_23 hW
  · replace h := bq_ifT hc h
    refine lv_aload_n hx hb dX7_key_8 rfl (lv_at hl 0 rfl) ?_
    refine lv_iconst (v := 1) hx hb dX7_key_9 (by decide) ?_
    obtain ⟨v12, hv, h⟩ := bq_bind h
    refine bq_callV S hK hz mv_X7_84 (c_X7_fails hv) (kc_X7_fails hv) dX7_key_10 [.int v12.1] (rest := []) rfl rfl rfl hl.1 (Nat.le_of_ble_eq_true rfl) ⟨Nat.le_of_ble_eq_true rfl, Nat.le_of_ble_eq_true rfl⟩ ⟨Nat.zero_le _, Nat.zero_le _⟩ hW (fun H locs hW => ?_)
    cases h
    exact bq_reti S hr hlocks hK hz dX7_key_13 hW

theorem kc_X7_baseOf {E : bq_E} {a0 : Nat} {x1 : Int32} {x2 : Int32} {R : Int32} (h : tw_X7_baseOf E a0 x1 x2 = some R) : bq_cls E a0 = 7 := (bq_guard h).1
set_option maxHeartbeats 4000000 in
set_option maxRecDepth 100000 in
theorem c_X7_baseOf {l : Launch} {g : bq_G} {L : List Nat} {z : Nat} {E : bq_E} {a0 : Nat} {x1 : Int32} {x2 : Int32} {R : Int32} (h : tw_X7_baseOf E a0 x1 x2 = some R) : bq_M l yX7_baseOf cX7_baseOf 3 (some .int) 1 22 [.ref a0, .int x1, .int x2] g L E z (some (.int R)) E := by
  unfold tw_X7_baseOf at h
  obtain ⟨hcl, h⟩ := bq_guard h
  refine bq_enter (by decide) (Nat.le_of_ble_eq_true rfl) ?_
  intro p e s m args below meth c S hr hlocks hK hz hW ls hl
  have S : CallFix p m c cX7_baseOf 3 s args bq_WA RX7 := S
  have hx := S.1
  have hb := S.2.1
  have hl : lv_has ls 3 [(0, .ref a0), (1, .int x1), (2, .int x2)] := hl
  refine lv_aload_n hx hb dX7_baseOf_0 rfl (lv_at hl 0 rfl) ?_
  refine lv_iload_n hx hb dX7_baseOf_1 rfl (lv_at hl 1 rfl) ?_
  refine lv_iconst (v := 4) hx hb dX7_baseOf_2 (by decide) ?_
  refine lv_iload_n hx hb dX7_baseOf_3 rfl (lv_at hl 2 rfl) ?_
  refine lv_iadd hx hb dX7_baseOf_4 ?_
  obtain ⟨v1, hv, h⟩ := bq_bind h
  refine bq_callV S hK hz mv_X7_46 (c_X7_of hv) (kc_X7_of hv) dX7_baseOf_5 [.int v1] (rest := []) rfl rfl rfl hl.1 (Nat.le_of_ble_eq_true rfl) ⟨Nat.le_of_ble_eq_true rfl, Nat.le_of_ble_eq_true rfl⟩ ⟨Nat.zero_le _, Nat.zero_le _⟩ hW (fun H locs hW => ?_)
  refine lv_aload_n hx hb dX7_baseOf_8 rfl (lv_at hl 0 rfl) ?_
  refine lv_iload_n hx hb dX7_baseOf_9 rfl (lv_at hl 1 rfl) ?_
  refine lv_bipush (v := 28) hx hb dX7_baseOf_10 (by decide) ?_
  refine lv_iload_n hx hb dX7_baseOf_12 rfl (lv_at hl 2 rfl) ?_
  refine lv_iadd hx hb dX7_baseOf_13 ?_
  obtain ⟨v2, hv, h⟩ := bq_bind h
  refine bq_callV S hK hz mv_X7_46 (c_X7_of hv) (kc_X7_of hv) dX7_baseOf_14 [.int v2, .int v1] (rest := [.int v1]) rfl rfl rfl hl.1 (Nat.le_of_ble_eq_true rfl) ⟨Nat.le_of_ble_eq_true rfl, Nat.le_of_ble_eq_true rfl⟩ ⟨Nat.zero_le _, Nat.zero_le _⟩ hW (fun H locs hW => ?_)
  refine lv_iconst (v := 1) hx hb dX7_baseOf_17 (by decide) ?_
  refine lv_icmp_ne (tgt := 27) hx hb dX7_baseOf_18 (by decide) (fun hc => ?_) (fun hc => ?_)
  · replace h := bq_ifF hc h
    refine lv_iconst (v := 0) hx hb dX7_baseOf_27 (by decide) ?_
    refine lv_iadd hx hb dX7_baseOf_28 ?_
    cases h
    exact bq_reti S hr hlocks hK hz dX7_baseOf_29 hW
  · replace h := bq_ifT hc h
    refine lv_sipush (v := 10000) hx hb dX7_baseOf_21 (by decide) ?_
    refine lv_goto (tgt := 28) hx hb dX7_baseOf_24 (by decide) ?_
    refine lv_iadd hx hb dX7_baseOf_28 ?_
    cases h
    exact bq_reti S hr hlocks hK hz dX7_baseOf_29 hW

theorem kc_X7_baseKey {E : bq_E} {a0 : Nat} {x1 : Int32} {x2 : Int32} {R : (Int32 × bq_E)} (h : tw_X7_baseKey E a0 x1 x2 = some R) : bq_cls E a0 = 7 := (bq_guard h).1
set_option maxHeartbeats 4000000 in
set_option maxRecDepth 100000 in
theorem c_X7_baseKey {l : Launch} {g : bq_G} {L : List Nat} {z : Nat} {E : bq_E} {a0 : Nat} {x1 : Int32} {x2 : Int32} {R : (Int32 × bq_E)} (h : tw_X7_baseKey E a0 x1 x2 = some R) : bq_M l yX7_baseKey cX7_baseKey 3 (some .int) 2 44 [.ref a0, .int x1, .int x2] g L E z (some (.int R.1)) R.2 := by
  unfold tw_X7_baseKey at h
  obtain ⟨hcl, h⟩ := bq_guard h
  refine bq_enter (by decide) (Nat.le_of_ble_eq_true rfl) ?_
  intro p e s m args below meth c S hr hlocks hK hz hW ls hl
  have S : CallFix p m c cX7_baseKey 3 s args bq_WA RX7 := S
  have hx := S.1
  have hb := S.2.1
  have hl : lv_has ls 3 [(0, .ref a0), (1, .int x1), (2, .int x2)] := hl
  refine lv_aload_n hx hb dX7_baseKey_0 rfl (lv_at hl 0 rfl) ?_
  refine lv_iload_n hx hb dX7_baseKey_1 rfl (lv_at hl 1 rfl) ?_
  obtain ⟨v1, hv, h⟩ := bq_bind h
  refine bq_callV S hK hz mv_X7_80 (c_X7_isNode hv) (kc_X7_isNode hv) dX7_baseKey_2 [.int (bq_b v1)] (rest := []) rfl rfl rfl hl.1 (Nat.le_of_ble_eq_true rfl) ⟨Nat.le_of_ble_eq_true rfl, Nat.le_of_ble_eq_true rfl⟩ ⟨Nat.zero_le _, Nat.zero_le _⟩ hW (fun H locs hW => ?_)
  refine lv_if_ne (tgt := 14) hx hb dX7_baseKey_5 (by decide) (fun hc => ?_) (fun hc => ?_)
  · replace h := bq_ifF hc h
    refine lv_iload_n hx hb dX7_baseKey_14 rfl (lv_at hl 2 rfl) ?_
    refine lv_if_ge (tgt := 24) hx hb dX7_baseKey_15 (by decide) (fun hc => ?_) (fun hc => ?_)
    · replace h := bq_ifT hc h
      refine lv_aload_n hx hb dX7_baseKey_24 rfl (lv_at hl 0 rfl) ?_
      refine lv_iload_n hx hb dX7_baseKey_25 rfl (lv_at hl 2 rfl) ?_
      refine lv_aload_n hx hb dX7_baseKey_26 rfl (lv_at hl 0 rfl) ?_
      refine lv_iload_n hx hb dX7_baseKey_27 rfl (lv_at hl 1 rfl) ?_
      refine lv_iconst (v := 3) hx hb dX7_baseKey_28 (by decide) ?_
      obtain ⟨v2, hv, h⟩ := bq_bind h
      refine bq_callV S hK hz mv_X7_46 (c_X7_of hv) (kc_X7_of hv) dX7_baseKey_29 [.int v2, .int x2, .ref a0] (rest := [.int x2, .ref a0]) rfl rfl rfl hl.1 (Nat.le_of_ble_eq_true rfl) ⟨Nat.le_of_ble_eq_true rfl, Nat.le_of_ble_eq_true rfl⟩ ⟨Nat.zero_le _, Nat.zero_le _⟩ hW (fun H locs hW => ?_)
      refine lv_icmp_ge (tgt := 44) hx hb dX7_baseKey_32 (by decide) (fun hc => ?_) (fun hc => ?_)
      · replace h := bq_ifT hc h
        refine lv_iconst (v := (-1)) hx hb dX7_baseKey_44 (by decide) ?_
        obtain ⟨v3, hv, h⟩ := bq_bind h
        refine bq_callV S hK hz mv_X7_38 (c_X7_tells hv) (kc_X7_tells hv) dX7_baseKey_45 [.int v3.1] (rest := []) rfl rfl rfl hl.1 (Nat.le_of_ble_eq_true rfl) ⟨Nat.le_of_ble_eq_true rfl, Nat.le_of_ble_eq_true rfl⟩ ⟨Nat.zero_le _, Nat.zero_le _⟩ hW (fun H locs hW => ?_)
        cases h
        exact bq_reti S hr hlocks hK hz dX7_baseKey_48 hW
      · replace h := bq_ifF hc h
        refine lv_aload_n hx hb dX7_baseKey_35 rfl (lv_at hl 0 rfl) ?_
        refine lv_iload_n hx hb dX7_baseKey_36 rfl (lv_at hl 1 rfl) ?_
        refine lv_iload_n hx hb dX7_baseKey_37 rfl (lv_at hl 2 rfl) ?_
        obtain ⟨v4, hv, h⟩ := bq_bind h
        refine bq_callV S hK hz mv_X7_157 (c_X7_baseOf hv) (kc_X7_baseOf hv) dX7_baseKey_38 [.int v4, .ref a0] (rest := [.ref a0]) rfl rfl rfl hl.1 (Nat.le_of_ble_eq_true rfl) ⟨Nat.le_of_ble_eq_true rfl, Nat.le_of_ble_eq_true rfl⟩ ⟨Nat.zero_le _, Nat.zero_le _⟩ hW (fun H locs hW => ?_)
        refine lv_goto (tgt := 45) hx hb dX7_baseKey_41 (by decide) ?_
        obtain ⟨v5, hv, h⟩ := bq_bind h
        refine bq_callV S hK hz mv_X7_38 (c_X7_tells hv) (kc_X7_tells hv) dX7_baseKey_45 [.int v5.1] (rest := []) rfl rfl rfl hl.1 (Nat.le_of_ble_eq_true rfl) ⟨Nat.le_of_ble_eq_true rfl, Nat.le_of_ble_eq_true rfl⟩ ⟨Nat.zero_le _, Nat.zero_le _⟩ hW (fun H locs hW => ?_)
        cases h
        exact bq_reti S hr hlocks hK hz dX7_baseKey_48 hW
    · replace h := bq_ifF hc h
      refine lv_aload_n hx hb dX7_baseKey_18 rfl (lv_at hl 0 rfl) ?_
      refine lv_iconst (v := 2) hx hb dX7_baseKey_19 (by decide) ?_
      obtain ⟨v6, hv, h⟩ := bq_bind h
      refine bq_callV S hK hz mv_X7_84 (c_X7_fails hv) (kc_X7_fails hv) dX7_baseKey_20 [.int v6.1] (rest := []) rfl rfl rfl hl.1 (Nat.le_of_ble_eq_true rfl) ⟨Nat.le_of_ble_eq_true rfl, Nat.le_of_ble_eq_true rfl⟩ ⟨Nat.zero_le _, Nat.zero_le _⟩ hW (fun H locs hW => ?_)
      cases h
      exact bq_reti S hr hlocks hK hz dX7_baseKey_23 hW
  · replace h := bq_ifT hc h
    refine lv_aload_n hx hb dX7_baseKey_8 rfl (lv_at hl 0 rfl) ?_
    refine lv_iconst (v := 1) hx hb dX7_baseKey_9 (by decide) ?_
    obtain ⟨v7, hv, h⟩ := bq_bind h
    refine bq_callV S hK hz mv_X7_84 (c_X7_fails hv) (kc_X7_fails hv) dX7_baseKey_10 [.int v7.1] (rest := []) rfl rfl rfl hl.1 (Nat.le_of_ble_eq_true rfl) ⟨Nat.le_of_ble_eq_true rfl, Nat.le_of_ble_eq_true rfl⟩ ⟨Nat.zero_le _, Nat.zero_le _⟩ hW (fun H locs hW => ?_)
    cases h
    exact bq_reti S hr hlocks hK hz dX7_baseKey_13 hW

theorem kc_X7_bufferKey {E : bq_E} {a0 : Nat} {x1 : Int32} {x2 : Int32} {R : (Int32 × bq_E)} (h : tw_X7_bufferKey E a0 x1 x2 = some R) : bq_cls E a0 = 7 := (bq_guard h).1
set_option maxHeartbeats 4000000 in
set_option maxRecDepth 100000 in
theorem c_X7_bufferKey {l : Launch} {g : bq_G} {L : List Nat} {z : Nat} {E : bq_E} {a0 : Nat} {x1 : Int32} {x2 : Int32} {R : (Int32 × bq_E)} (h : tw_X7_bufferKey E a0 x1 x2 = some R) : bq_M l yX7_bufferKey cX7_bufferKey 3 (some .int) 2 43 [.ref a0, .int x1, .int x2] g L E z (some (.int R.1)) R.2 := by
  unfold tw_X7_bufferKey at h
  obtain ⟨hcl, h⟩ := bq_guard h
  refine bq_enter (by decide) (Nat.le_of_ble_eq_true rfl) ?_
  intro p e s m args below meth c S hr hlocks hK hz hW ls hl
  have S : CallFix p m c cX7_bufferKey 3 s args bq_WA RX7 := S
  have hx := S.1
  have hb := S.2.1
  have hl : lv_has ls 3 [(0, .ref a0), (1, .int x1), (2, .int x2)] := hl
  refine lv_aload_n hx hb dX7_bufferKey_0 rfl (lv_at hl 0 rfl) ?_
  refine lv_iload_n hx hb dX7_bufferKey_1 rfl (lv_at hl 1 rfl) ?_
  obtain ⟨v1, hv, h⟩ := bq_bind h
  refine bq_callV S hK hz mv_X7_80 (c_X7_isNode hv) (kc_X7_isNode hv) dX7_bufferKey_2 [.int (bq_b v1)] (rest := []) rfl rfl rfl hl.1 (Nat.le_of_ble_eq_true rfl) ⟨Nat.le_of_ble_eq_true rfl, Nat.le_of_ble_eq_true rfl⟩ ⟨Nat.zero_le _, Nat.zero_le _⟩ hW (fun H locs hW => ?_)
  refine lv_if_ne (tgt := 14) hx hb dX7_bufferKey_5 (by decide) (fun hc => ?_) (fun hc => ?_)
  · replace h := bq_ifF hc h
    refine lv_iload_n hx hb dX7_bufferKey_14 rfl (lv_at hl 2 rfl) ?_
    refine lv_if_ge (tgt := 24) hx hb dX7_bufferKey_15 (by decide) (fun hc => ?_) (fun hc => ?_)
    · replace h := bq_ifT hc h
      refine lv_aload_n hx hb dX7_bufferKey_24 rfl (lv_at hl 0 rfl) ?_
      refine lv_iload_n hx hb dX7_bufferKey_25 rfl (lv_at hl 2 rfl) ?_
      refine lv_aload_n hx hb dX7_bufferKey_26 rfl (lv_at hl 0 rfl) ?_
      refine lv_iload_n hx hb dX7_bufferKey_27 rfl (lv_at hl 1 rfl) ?_
      refine lv_bipush (v := 52) hx hb dX7_bufferKey_28 (by decide) ?_
      obtain ⟨v2, hv, h⟩ := bq_bind h
      refine bq_callV S hK hz mv_X7_46 (c_X7_of hv) (kc_X7_of hv) dX7_bufferKey_30 [.int v2, .int x2, .ref a0] (rest := [.int x2, .ref a0]) rfl rfl rfl hl.1 (Nat.le_of_ble_eq_true rfl) ⟨Nat.le_of_ble_eq_true rfl, Nat.le_of_ble_eq_true rfl⟩ ⟨Nat.zero_le _, Nat.zero_le _⟩ hW (fun H locs hW => ?_)
      refine lv_icmp_ge (tgt := 48) hx hb dX7_bufferKey_33 (by decide) (fun hc => ?_) (fun hc => ?_)
      · replace h := bq_ifT hc h
        refine lv_iconst (v := (-1)) hx hb dX7_bufferKey_48 (by decide) ?_
        obtain ⟨v3, hv, h⟩ := bq_bind h
        refine bq_callV S hK hz mv_X7_38 (c_X7_tells hv) (kc_X7_tells hv) dX7_bufferKey_49 [.int v3.1] (rest := []) rfl rfl rfl hl.1 (Nat.le_of_ble_eq_true rfl) ⟨Nat.le_of_ble_eq_true rfl, Nat.le_of_ble_eq_true rfl⟩ ⟨Nat.zero_le _, Nat.zero_le _⟩ hW (fun H locs hW => ?_)
        cases h
        exact bq_reti S hr hlocks hK hz dX7_bufferKey_52 hW
      · replace h := bq_ifF hc h
        refine lv_aload_n hx hb dX7_bufferKey_36 rfl (lv_at hl 0 rfl) ?_
        refine lv_iload_n hx hb dX7_bufferKey_37 rfl (lv_at hl 1 rfl) ?_
        refine lv_bipush (v := 53) hx hb dX7_bufferKey_38 (by decide) ?_
        refine lv_iload_n hx hb dX7_bufferKey_40 rfl (lv_at hl 2 rfl) ?_
        refine lv_iadd hx hb dX7_bufferKey_41 ?_
        obtain ⟨v4, hv, h⟩ := bq_bind h
        refine bq_callV S hK hz mv_X7_46 (c_X7_of hv) (kc_X7_of hv) dX7_bufferKey_42 [.int v4, .ref a0] (rest := [.ref a0]) rfl rfl rfl hl.1 (Nat.le_of_ble_eq_true rfl) ⟨Nat.le_of_ble_eq_true rfl, Nat.le_of_ble_eq_true rfl⟩ ⟨Nat.zero_le _, Nat.zero_le _⟩ hW (fun H locs hW => ?_)
        refine lv_goto (tgt := 49) hx hb dX7_bufferKey_45 (by decide) ?_
        obtain ⟨v5, hv, h⟩ := bq_bind h
        refine bq_callV S hK hz mv_X7_38 (c_X7_tells hv) (kc_X7_tells hv) dX7_bufferKey_49 [.int v5.1] (rest := []) rfl rfl rfl hl.1 (Nat.le_of_ble_eq_true rfl) ⟨Nat.le_of_ble_eq_true rfl, Nat.le_of_ble_eq_true rfl⟩ ⟨Nat.zero_le _, Nat.zero_le _⟩ hW (fun H locs hW => ?_)
        cases h
        exact bq_reti S hr hlocks hK hz dX7_bufferKey_52 hW
    · replace h := bq_ifF hc h
      refine lv_aload_n hx hb dX7_bufferKey_18 rfl (lv_at hl 0 rfl) ?_
      refine lv_iconst (v := 2) hx hb dX7_bufferKey_19 (by decide) ?_
      obtain ⟨v6, hv, h⟩ := bq_bind h
      refine bq_callV S hK hz mv_X7_84 (c_X7_fails hv) (kc_X7_fails hv) dX7_bufferKey_20 [.int v6.1] (rest := []) rfl rfl rfl hl.1 (Nat.le_of_ble_eq_true rfl) ⟨Nat.le_of_ble_eq_true rfl, Nat.le_of_ble_eq_true rfl⟩ ⟨Nat.zero_le _, Nat.zero_le _⟩ hW (fun H locs hW => ?_)
      cases h
      exact bq_reti S hr hlocks hK hz dX7_bufferKey_23 hW
  · replace h := bq_ifT hc h
    refine lv_aload_n hx hb dX7_bufferKey_8 rfl (lv_at hl 0 rfl) ?_
    refine lv_iconst (v := 1) hx hb dX7_bufferKey_9 (by decide) ?_
    obtain ⟨v7, hv, h⟩ := bq_bind h
    refine bq_callV S hK hz mv_X7_84 (c_X7_fails hv) (kc_X7_fails hv) dX7_bufferKey_10 [.int v7.1] (rest := []) rfl rfl rfl hl.1 (Nat.le_of_ble_eq_true rfl) ⟨Nat.le_of_ble_eq_true rfl, Nat.le_of_ble_eq_true rfl⟩ ⟨Nat.zero_le _, Nat.zero_le _⟩ hW (fun H locs hW => ?_)
    cases h
    exact bq_reti S hr hlocks hK hz dX7_bufferKey_13 hW

theorem kc_X7_entry {E : bq_E} {a0 : Nat} {x1 : Int32} {x2 : Int32} {x3 : Int32} {R : (Int32 × bq_E)} (h : tw_X7_entry E a0 x1 x2 x3 = some R) : bq_cls E a0 = 7 := (bq_guard h).1
set_option maxHeartbeats 4000000 in
set_option maxRecDepth 100000 in
theorem c_X7_entry {l : Launch} {g : bq_G} {L : List Nat} {z : Nat} {E : bq_E} {a0 : Nat} {x1 : Int32} {x2 : Int32} {x3 : Int32} {R : (Int32 × bq_E)} (h : tw_X7_entry E a0 x1 x2 x3 = some R) : bq_M l yX7_entry cX7_entry 4 (some .int) 2 43 [.ref a0, .int x1, .int x2, .int x3] g L E z (some (.int R.1)) R.2 := by
  unfold tw_X7_entry at h
  obtain ⟨hcl, h⟩ := bq_guard h
  refine bq_enter (by decide) (Nat.le_of_ble_eq_true rfl) ?_
  intro p e s m args below meth c S hr hlocks hK hz hW ls hl
  have S : CallFix p m c cX7_entry 4 s args bq_WA RX7 := S
  have hx := S.1
  have hb := S.2.1
  have hl : lv_has ls 4 [(0, .ref a0), (1, .int x1), (2, .int x2), (3, .int x3)] := hl
  refine lv_aload_n hx hb dX7_entry_0 rfl (lv_at hl 0 rfl) ?_
  refine lv_iload_n hx hb dX7_entry_1 rfl (lv_at hl 1 rfl) ?_
  obtain ⟨v1, hv, h⟩ := bq_bind h
  refine bq_callV S hK hz mv_X7_80 (c_X7_isNode hv) (kc_X7_isNode hv) dX7_entry_2 [.int (bq_b v1)] (rest := []) rfl rfl rfl hl.1 (Nat.le_of_ble_eq_true rfl) ⟨Nat.le_of_ble_eq_true rfl, Nat.le_of_ble_eq_true rfl⟩ ⟨Nat.zero_le _, Nat.zero_le _⟩ hW (fun H locs hW => ?_)
  refine lv_if_ne (tgt := 14) hx hb dX7_entry_5 (by decide) (fun hc => ?_) (fun hc => ?_)
  · replace h := bq_ifF hc h
    refine lv_iload_n hx hb dX7_entry_14 rfl (lv_at hl 2 rfl) ?_
    obtain ⟨k27, ek27, h⟩ := bq_letK h
    have hjk27 : ∀ (u0 : Unit) (H1 : Heap) (locs1 : List Loc) (ls1 : Array Slot), k27 u0 = some R → bq_H g L E z s.heap H1 locs1 → lv_has ls1 4 [(0, .ref a0)] → W p l e { frames := 2, cells := 0, slots := 0, locals := 43 } s m args below meth c H1 locs1 0 0 (MQ below (bq_Q g L R.2 z (some (.int R.1))) args s 0 0 (bq_A z)) (F0 m 27 ls1 []) := by
      intro u0 H locs ls h hW hl
      replace h := bq_kap1 ek27 h
      refine lv_aload_n hx hb dX7_entry_27 rfl (lv_at hl 0 rfl) ?_
      refine lv_iconst (v := 2) hx hb dX7_entry_28 (by decide) ?_
      obtain ⟨v2, hv, h⟩ := bq_bind h
      refine bq_callV S hK hz mv_X7_84 (c_X7_fails hv) (kc_X7_fails hv) dX7_entry_29 [.int v2.1] (rest := []) rfl rfl rfl hl.1 (Nat.le_of_ble_eq_true rfl) ⟨Nat.le_of_ble_eq_true rfl, Nat.le_of_ble_eq_true rfl⟩ ⟨Nat.zero_le _, Nat.zero_le _⟩ hW (fun H locs hW => ?_)
      cases h
      exact bq_reti S hr hlocks hK hz dX7_entry_32 hW
    clear ek27
    refine lv_if_lt (tgt := 27) hx hb dX7_entry_15 (by decide) (fun hc => ?_) (fun hc => ?_)
    · replace h := bq_ifT hc h
      exact hjk27 () _ _ _ h hW (lv_sub hl [0] rfl)
    · replace h := bq_ifF hc h
      refine lv_iload_n hx hb dX7_entry_18 rfl (lv_at hl 3 rfl) ?_
      refine lv_iconst (v := 0) hx hb dX7_entry_19 (by decide) ?_
      refine lv_iconst (v := 1) hx hb dX7_entry_20 (by decide) ?_
      obtain ⟨v3, hv, h⟩ := bq_bind h
      refine bq_callS S hK hz ms_X7_42 (c_X7_in hv) dX7_entry_21 [.int (bq_b v3)] (rest := []) rfl rfl rfl hl.1 (Nat.le_of_ble_eq_true rfl) ⟨Nat.le_of_ble_eq_true rfl, Nat.le_of_ble_eq_true rfl⟩ ⟨Nat.zero_le _, Nat.zero_le _⟩ hW (fun H locs hW => ?_)
      refine lv_if_ne (tgt := 33) hx hb dX7_entry_24 (by decide) (fun hc => ?_) (fun hc => ?_)
      · replace h := bq_ifF hc h
        refine lv_aload_n hx hb dX7_entry_33 rfl (lv_at hl 0 rfl) ?_
        refine lv_iload_n hx hb dX7_entry_34 rfl (lv_at hl 2 rfl) ?_
        refine lv_aload_n hx hb dX7_entry_35 rfl (lv_at hl 0 rfl) ?_
        refine lv_iload_n hx hb dX7_entry_36 rfl (lv_at hl 1 rfl) ?_
        refine lv_bipush (v := 61) hx hb dX7_entry_37 (by decide) ?_
        obtain ⟨v4, hv, h⟩ := bq_bind h
        refine bq_callV S hK hz mv_X7_46 (c_X7_of hv) (kc_X7_of hv) dX7_entry_39 [.int v4, .int x2, .ref a0] (rest := [.int x2, .ref a0]) rfl rfl rfl hl.1 (Nat.le_of_ble_eq_true rfl) ⟨Nat.le_of_ble_eq_true rfl, Nat.le_of_ble_eq_true rfl⟩ ⟨Nat.zero_le _, Nat.zero_le _⟩ hW (fun H locs hW => ?_)
        refine lv_icmp_lt (tgt := 49) hx hb dX7_entry_42 (by decide) (fun hc => ?_) (fun hc => ?_)
        · replace h := bq_ifT hc h
          refine lv_aload_n hx hb dX7_entry_49 rfl (lv_at hl 0 rfl) ?_
          refine lv_iload_n hx hb dX7_entry_50 rfl (lv_at hl 1 rfl) ?_
          refine lv_iload_n hx hb dX7_entry_51 rfl (lv_at hl 3 rfl) ?_
          obtain ⟨k63, ek63, h⟩ := bq_letK h
          have hjk63 : ∀ (b5 : Int32) (H1 : Heap) (locs1 : List Loc) (ls1 : Array Slot), k63 b5 = some R → bq_H g L E z s.heap H1 locs1 → lv_has ls1 4 [(2, .int x2)] → W p l e { frames := 2, cells := 0, slots := 0, locals := 43 } s m args below meth c H1 locs1 0 0 (MQ below (bq_Q g L R.2 z (some (.int R.1))) args s 0 0 (bq_A z)) (F0 m 63 ls1 [.int b5, .int x1, .ref a0, .ref a0]) := by
            intro b5 H locs ls h hW hl
            replace h := bq_kap1 ek63 h
            refine lv_iload_n hx hb dX7_entry_63 rfl (lv_at hl 0 rfl) ?_
            refine lv_iadd hx hb dX7_entry_64 ?_
            obtain ⟨v6, hv, h⟩ := bq_bind h
            refine bq_callV S hK hz mv_X7_46 (c_X7_of hv) (kc_X7_of hv) dX7_entry_65 [.int v6, .ref a0] (rest := [.ref a0]) rfl rfl rfl hl.1 (Nat.le_of_ble_eq_true rfl) ⟨Nat.le_of_ble_eq_true rfl, Nat.le_of_ble_eq_true rfl⟩ ⟨Nat.zero_le _, Nat.zero_le _⟩ hW (fun H locs hW => ?_)
            obtain ⟨v7, hv, h⟩ := bq_bind h
            refine bq_callV S hK hz mv_X7_38 (c_X7_tells hv) (kc_X7_tells hv) dX7_entry_68 [.int v7.1] (rest := []) rfl rfl rfl hl.1 (Nat.le_of_ble_eq_true rfl) ⟨Nat.le_of_ble_eq_true rfl, Nat.le_of_ble_eq_true rfl⟩ ⟨Nat.zero_le _, Nat.zero_le _⟩ hW (fun H locs hW => ?_)
            cases h
            exact bq_reti S hr hlocks hK hz dX7_entry_71 hW
          clear ek63
          refine lv_if_ne (tgt := 60) hx hb dX7_entry_52 (by decide) (fun hc => ?_) (fun hc => ?_)
          · replace h := bq_ifF hc h
            refine lv_sipush (v := 158) hx hb dX7_entry_60 (by decide) ?_
            exact hjk63 (158 : Int32) _ _ _ h hW (lv_sub hl [2] rfl)
          · replace h := bq_ifT hc h
            refine lv_bipush (v := 62) hx hb dX7_entry_55 (by decide) ?_
            refine lv_goto (tgt := 63) hx hb dX7_entry_57 (by decide) ?_
            exact hjk63 (62 : Int32) _ _ _ h hW (lv_sub hl [2] rfl)
        · replace h := bq_ifF hc h
          refine lv_iconst (v := (-1)) hx hb dX7_entry_45 (by decide) ?_
          refine lv_goto (tgt := 68) hx hb dX7_entry_46 (by decide) ?_
          obtain ⟨v8, hv, h⟩ := bq_bind h
          refine bq_callV S hK hz mv_X7_38 (c_X7_tells hv) (kc_X7_tells hv) dX7_entry_68 [.int v8.1] (rest := []) rfl rfl rfl hl.1 (Nat.le_of_ble_eq_true rfl) ⟨Nat.le_of_ble_eq_true rfl, Nat.le_of_ble_eq_true rfl⟩ ⟨Nat.zero_le _, Nat.zero_le _⟩ hW (fun H locs hW => ?_)
          cases h
          exact bq_reti S hr hlocks hK hz dX7_entry_71 hW
      · replace h := bq_ifT hc h
        exact hjk27 () _ _ _ h hW (lv_sub hl [0] rfl)
  · replace h := bq_ifT hc h
    refine lv_aload_n hx hb dX7_entry_8 rfl (lv_at hl 0 rfl) ?_
    refine lv_iconst (v := 1) hx hb dX7_entry_9 (by decide) ?_
    obtain ⟨v9, hv, h⟩ := bq_bind h
    refine bq_callV S hK hz mv_X7_84 (c_X7_fails hv) (kc_X7_fails hv) dX7_entry_10 [.int v9.1] (rest := []) rfl rfl rfl hl.1 (Nat.le_of_ble_eq_true rfl) ⟨Nat.le_of_ble_eq_true rfl, Nat.le_of_ble_eq_true rfl⟩ ⟨Nat.zero_le _, Nat.zero_le _⟩ hW (fun H locs hW => ?_)
    cases h
    exact bq_reti S hr hlocks hK hz dX7_entry_13 hW

theorem kc_X7_bridge {E : bq_E} {a0 : Nat} {x1 : Int32} {x2 : Int32} {x3 : Int32} {R : (Int32 × bq_E)} (h : tw_X7_bridge E a0 x1 x2 x3 = some R) : bq_cls E a0 = 7 := (bq_guard h).1
set_option maxHeartbeats 4000000 in
set_option maxRecDepth 100000 in
theorem c_X7_bridge {l : Launch} {g : bq_G} {L : List Nat} {z : Nat} {E : bq_E} {a0 : Nat} {x1 : Int32} {x2 : Int32} {x3 : Int32} {R : (Int32 × bq_E)} (h : tw_X7_bridge E a0 x1 x2 x3 = some R) : bq_M l yX7_bridge cX7_bridge 4 (some .int) 2 43 [.ref a0, .int x1, .int x2, .int x3] g L E z (some (.int R.1)) R.2 := by
  unfold tw_X7_bridge at h
  obtain ⟨hcl, h⟩ := bq_guard h
  refine bq_enter (by decide) (Nat.le_of_ble_eq_true rfl) ?_
  intro p e s m args below meth c S hr hlocks hK hz hW ls hl
  have S : CallFix p m c cX7_bridge 4 s args bq_WA RX7 := S
  have hx := S.1
  have hb := S.2.1
  have hl : lv_has ls 4 [(0, .ref a0), (1, .int x1), (2, .int x2), (3, .int x3)] := hl
  refine lv_aload_n hx hb dX7_bridge_0 rfl (lv_at hl 0 rfl) ?_
  refine lv_iload_n hx hb dX7_bridge_1 rfl (lv_at hl 1 rfl) ?_
  obtain ⟨v1, hv, h⟩ := bq_bind h
  refine bq_callV S hK hz mv_X7_80 (c_X7_isNode hv) (kc_X7_isNode hv) dX7_bridge_2 [.int (bq_b v1)] (rest := []) rfl rfl rfl hl.1 (Nat.le_of_ble_eq_true rfl) ⟨Nat.le_of_ble_eq_true rfl, Nat.le_of_ble_eq_true rfl⟩ ⟨Nat.zero_le _, Nat.zero_le _⟩ hW (fun H locs hW => ?_)
  refine lv_if_ne (tgt := 14) hx hb dX7_bridge_5 (by decide) (fun hc => ?_) (fun hc => ?_)
  · replace h := bq_ifF hc h
    refine lv_iload_n hx hb dX7_bridge_14 rfl (lv_at hl 2 rfl) ?_
    refine lv_iconst (v := 0) hx hb dX7_bridge_15 (by decide) ?_
    refine lv_aload_n hx hb dX7_bridge_16 rfl (lv_at hl 0 rfl) ?_
    refine lv_iload_n hx hb dX7_bridge_17 rfl (lv_at hl 1 rfl) ?_
    refine lv_bipush (v := 61) hx hb dX7_bridge_18 (by decide) ?_
    obtain ⟨v2, hv, h⟩ := bq_bind h
    refine bq_callV S hK hz mv_X7_46 (c_X7_of hv) (kc_X7_of hv) dX7_bridge_20 [.int v2, .int (0 : Int32), .int x2] (rest := [.int (0 : Int32), .int x2]) rfl rfl rfl hl.1 (Nat.le_of_ble_eq_true rfl) ⟨Nat.le_of_ble_eq_true rfl, Nat.le_of_ble_eq_true rfl⟩ ⟨Nat.zero_le _, Nat.zero_le _⟩ hW (fun H locs hW => ?_)
    obtain ⟨v3, hv, h⟩ := bq_bind h
    refine bq_callS S hK hz ms_X7_42 (c_X7_in hv) dX7_bridge_23 [.int (bq_b v3)] (rest := []) rfl rfl rfl hl.1 (Nat.le_of_ble_eq_true rfl) ⟨Nat.le_of_ble_eq_true rfl, Nat.le_of_ble_eq_true rfl⟩ ⟨Nat.zero_le _, Nat.zero_le _⟩ hW (fun H locs hW => ?_)
    obtain ⟨k59, ek59, h⟩ := bq_letK h
    have hjk59 : ∀ (u0 : Unit) (H1 : Heap) (locs1 : List Loc) (ls1 : Array Slot), k59 u0 = some R → bq_H g L E z s.heap H1 locs1 → lv_has ls1 4 [(0, .ref a0)] → W p l e { frames := 2, cells := 0, slots := 0, locals := 43 } s m args below meth c H1 locs1 0 0 (MQ below (bq_Q g L R.2 z (some (.int R.1))) args s 0 0 (bq_A z)) (F0 m 59 ls1 []) := by
      intro u0 H locs ls h hW hl
      replace h := bq_kap1 ek59 h
      refine lv_aload_n hx hb dX7_bridge_59 rfl (lv_at hl 0 rfl) ?_
      refine lv_iconst (v := 2) hx hb dX7_bridge_60 (by decide) ?_
      obtain ⟨v4, hv, h⟩ := bq_bind h
      refine bq_callV S hK hz mv_X7_84 (c_X7_fails hv) (kc_X7_fails hv) dX7_bridge_61 [.int v4.1] (rest := []) rfl rfl rfl hl.1 (Nat.le_of_ble_eq_true rfl) ⟨Nat.le_of_ble_eq_true rfl, Nat.le_of_ble_eq_true rfl⟩ ⟨Nat.zero_le _, Nat.zero_le _⟩ hW (fun H locs hW => ?_)
      cases h
      exact bq_reti S hr hlocks hK hz dX7_bridge_64 hW
    clear ek59
    refine lv_if_eq (tgt := 59) hx hb dX7_bridge_26 (by decide) (fun hc => ?_) (fun hc => ?_)
    · replace h := bq_ifT hc h
      exact hjk59 () _ _ _ h hW (lv_sub hl [0] rfl)
    · replace h := bq_ifF hc h
      refine lv_iload_n hx hb dX7_bridge_29 rfl (lv_at hl 3 rfl) ?_
      refine lv_iconst (v := 0) hx hb dX7_bridge_30 (by decide) ?_
      refine lv_iconst (v := 2) hx hb dX7_bridge_31 (by decide) ?_
      obtain ⟨v5, hv, h⟩ := bq_bind h
      refine bq_callS S hK hz ms_X7_42 (c_X7_in hv) dX7_bridge_32 [.int (bq_b v5)] (rest := []) rfl rfl rfl hl.1 (Nat.le_of_ble_eq_true rfl) ⟨Nat.le_of_ble_eq_true rfl, Nat.le_of_ble_eq_true rfl⟩ ⟨Nat.zero_le _, Nat.zero_le _⟩ hW (fun H locs hW => ?_)
      refine lv_if_eq (tgt := 59) hx hb dX7_bridge_35 (by decide) (fun hc => ?_) (fun hc => ?_)
      · replace h := bq_ifT hc h
        exact hjk59 () _ _ _ h hW (lv_sub hl [0] rfl)
      · replace h := bq_ifF hc h
        refine lv_aload_n hx hb dX7_bridge_38 rfl (lv_at hl 0 rfl) ?_
        refine lv_aload_n hx hb dX7_bridge_39 rfl (lv_at hl 0 rfl) ?_
        refine lv_iload_n hx hb dX7_bridge_40 rfl (lv_at hl 1 rfl) ?_
        refine lv_sipush (v := 254) hx hb dX7_bridge_41 (by decide) ?_
        refine lv_iconst (v := 3) hx hb dX7_bridge_44 (by decide) ?_
        refine lv_iload_n hx hb dX7_bridge_45 rfl (lv_at hl 2 rfl) ?_
        refine lv_imul hx hb dX7_bridge_46 ?_
        refine lv_iadd hx hb dX7_bridge_47 ?_
        refine lv_iload_n hx hb dX7_bridge_48 rfl (lv_at hl 3 rfl) ?_
        refine lv_iadd hx hb dX7_bridge_49 ?_
        obtain ⟨v6, hv, h⟩ := bq_bind h
        refine bq_callV S hK hz mv_X7_46 (c_X7_of hv) (kc_X7_of hv) dX7_bridge_50 [.int v6, .ref a0] (rest := [.ref a0]) rfl rfl rfl hl.1 (Nat.le_of_ble_eq_true rfl) ⟨Nat.le_of_ble_eq_true rfl, Nat.le_of_ble_eq_true rfl⟩ ⟨Nat.zero_le _, Nat.zero_le _⟩ hW (fun H locs hW => ?_)
        obtain ⟨v7, hv, h⟩ := bq_bind h
        refine bq_callV S hK hz mv_X7_38 (c_X7_tells hv) (kc_X7_tells hv) dX7_bridge_53 [.int v7.1] (rest := []) rfl rfl rfl hl.1 (Nat.le_of_ble_eq_true rfl) ⟨Nat.le_of_ble_eq_true rfl, Nat.le_of_ble_eq_true rfl⟩ ⟨Nat.zero_le _, Nat.zero_le _⟩ hW (fun H locs hW => ?_)
        refine lv_goto (tgt := 64) hx hb dX7_bridge_56 (by decide) ?_
        cases h
        exact bq_reti S hr hlocks hK hz dX7_bridge_64 hW
  · replace h := bq_ifT hc h
    refine lv_aload_n hx hb dX7_bridge_8 rfl (lv_at hl 0 rfl) ?_
    refine lv_iconst (v := 1) hx hb dX7_bridge_9 (by decide) ?_
    obtain ⟨v8, hv, h⟩ := bq_bind h
    refine bq_callV S hK hz mv_X7_84 (c_X7_fails hv) (kc_X7_fails hv) dX7_bridge_10 [.int v8.1] (rest := []) rfl rfl rfl hl.1 (Nat.le_of_ble_eq_true rfl) ⟨Nat.le_of_ble_eq_true rfl, Nat.le_of_ble_eq_true rfl⟩ ⟨Nat.zero_le _, Nat.zero_le _⟩ hW (fun H locs hW => ?_)
    cases h
    exact bq_reti S hr hlocks hK hz dX7_bridge_13 hW

theorem kc_X7_counted {E : bq_E} {a0 : Nat} {x1 : Int32} {R : Int32} (h : tw_X7_counted E a0 x1 = some R) : bq_cls E a0 = 7 := (bq_guard h).1
set_option maxHeartbeats 4000000 in
set_option maxRecDepth 100000 in
theorem c_X7_counted {l : Launch} {g : bq_G} {L : List Nat} {z : Nat} {E : bq_E} {a0 : Nat} {x1 : Int32} {R : Int32} (h : tw_X7_counted E a0 x1 = some R) : bq_M l yX7_counted cX7_counted 4 (some .int) 3 66 [.ref a0, .int x1] g L E z (some (.int R)) E := by
  unfold tw_X7_counted at h
  obtain ⟨hcl, h⟩ := bq_guard h
  refine bq_enter (by decide) (Nat.le_of_ble_eq_true rfl) ?_
  intro p e s m args below meth c S hr hlocks hK hz hW ls hl
  have S : CallFix p m c cX7_counted 4 s args bq_WA RX7 := S
  have hx := S.1
  have hb := S.2.1
  have hl : lv_has ls 4 [(0, .ref a0), (1, .int x1)] := hl
  refine lv_iload_n hx hb dX7_counted_0 rfl (lv_at hl 1 rfl) ?_
  refine lv_iconst (v := 5) hx hb dX7_counted_1 (by decide) ?_
  refine lv_icmp_ge (tgt := 14) hx hb dX7_counted_2 (by decide) (fun hc => ?_) (fun hc => ?_)
  · replace h := bq_ifT hc h
    refine lv_iconst (v := 0) hx hb dX7_counted_14 (by decide) ?_
    refine lv_istore_n (lv' := [(2, .int (0 : Int32)), (0, .ref a0), (1, .int x1)]) hx hb dX7_counted_15 rfl hl (by decide) rfl (fun ls hl => ?_)
    refine lv_iconst (v := 0) hx hb dX7_counted_16 (by decide) ?_
    refine lv_istore_n (lv' := [(3, .int (0 : Int32)), (2, .int (0 : Int32)), (0, .ref a0), (1, .int x1)]) hx hb dX7_counted_17 rfl hl (by decide) rfl (fun ls hl => ?_)
    have hL18 : ∀ (n : Nat) (z3 : Int32) (z4 : Int32) (H1 : Heap) (locs1 : List Loc) (ls1 : Array Slot), tl_X7_counted_18 E a0 x1 n z3 z4 = some R → bq_H g L E z s.heap H1 locs1 → lv_has ls1 4 [(0, .ref a0), (1, .int x1), (2, .int z3), (3, .int z4)] → W p l e { frames := 3, cells := 0, slots := 0, locals := 66 } s m args below meth c H1 locs1 0 0 (MQ below (bq_Q g L E z (some (.int R))) args s 0 0 (bq_A z)) (F0 m 18 ls1 []) := by
      intro n
      induction n with
      | zero => intro z3 z4 H locs ls h hW hl; cases h
      | succ n ih =>
        intro z3 z4 H locs ls h hW hl
        rw [tl_X7_counted_18.eq_2] at h
        refine lv_iload_n hx hb dX7_counted_18 rfl (lv_at hl 3 rfl) ?_
        refine lv_aload_n hx hb dX7_counted_19 rfl (lv_at hl 0 rfl) ?_
        obtain ⟨v5, hv, h⟩ := bq_bind h
        refine bq_getr S hK fl_X7_7 dX7_counted_20 hv hW ?_
        refine lv_iconst (v := 0) hx hb dX7_counted_23 (by decide) ?_
        obtain ⟨v6, hv, h⟩ := bq_bind h
        refine bq_iald S hK dX7_counted_24 hv hW ?_
        refine lv_icmp_ge (tgt := 57) hx hb dX7_counted_25 (by decide) (fun hc => ?_) (fun hc => ?_)
        · replace h := bq_ifT hc h
          refine lv_iload_n hx hb dX7_counted_57 rfl (lv_at hl 2 rfl) ?_
          cases h
          exact bq_reti S hr hlocks hK hz dX7_counted_58 hW
        · replace h := bq_ifF hc h
          refine lv_iload_n hx hb dX7_counted_28 rfl (lv_at hl 2 rfl) ?_
          refine lv_iload_n hx hb dX7_counted_29 rfl (lv_at hl 1 rfl) ?_
          refine lv_iconst (v := 5) hx hb dX7_counted_30 (by decide) ?_
          refine lv_icmp_ne (tgt := 42) hx hb dX7_counted_31 (by decide) (fun hc => ?_) (fun hc => ?_)
          · replace h := bq_ifF hc h
            refine lv_aload_n hx hb dX7_counted_42 rfl (lv_at hl 0 rfl) ?_
            refine lv_iload_n hx hb dX7_counted_43 rfl (lv_at hl 3 rfl) ?_
            refine lv_bipush (v := 61) hx hb dX7_counted_44 (by decide) ?_
            obtain ⟨v7, hv, h⟩ := bq_bind h
            refine bq_callV S hK hz mv_X7_46 (c_X7_of hv) (kc_X7_of hv) dX7_counted_46 [.int v7, .int z3] (rest := [.int z3]) rfl rfl rfl hl.1 (Nat.le_of_ble_eq_true rfl) ⟨Nat.le_of_ble_eq_true rfl, Nat.le_of_ble_eq_true rfl⟩ ⟨Nat.zero_le _, Nat.zero_le _⟩ hW (fun H locs hW => ?_)
            refine lv_iadd hx hb dX7_counted_49 ?_
            refine lv_topi (fun v8 ev8 => ?_)
            replace h := bq_letE ev8 h
            refine lv_istore_n (lv' := [(2, .int v8), (0, .ref a0), (1, .int x1), (3, .int z4)]) hx hb dX7_counted_50 rfl hl (by decide) rfl (fun ls hl => ?_)
            obtain ⟨v9, ev9⟩ : ∃ y : Int32, y = z4 + 1 := ⟨_, rfl⟩
            replace h := bq_letE ev9 h
            refine lv_iinc (v := v9) (lv' := [(3, .int v9), (2, .int v8), (0, .ref a0), (1, .int x1)]) hx hb dX7_counted_51 hl (k := 3) rfl (by rw [ev9]; rfl) (by decide) rfl (fun ls hl => ?_)
            refine lv_goto (tgt := 18) hx hb dX7_counted_54 (by decide) ?_
            exact ih v8 v9 _ _ _ h hW (lv_sub hl [2, 3, 1, 0] rfl)
          · replace h := bq_ifT hc h
            refine lv_aload_n hx hb dX7_counted_34 rfl (lv_at hl 0 rfl) ?_
            refine lv_iload_n hx hb dX7_counted_35 rfl (lv_at hl 3 rfl) ?_
            obtain ⟨v10, hv, h⟩ := bq_bind h
            refine bq_callV S hK hz mv_X7_103 (c_X7_keys hv) (kc_X7_keys hv) dX7_counted_36 [.int v10, .int z3] (rest := [.int z3]) rfl rfl rfl hl.1 (Nat.le_of_ble_eq_true rfl) ⟨Nat.le_of_ble_eq_true rfl, Nat.le_of_ble_eq_true rfl⟩ ⟨Nat.zero_le _, Nat.zero_le _⟩ hW (fun H locs hW => ?_)
            refine lv_goto (tgt := 49) hx hb dX7_counted_39 (by decide) ?_
            refine lv_iadd hx hb dX7_counted_49 ?_
            refine lv_topi (fun v11 ev11 => ?_)
            replace h := bq_letE ev11 h
            refine lv_istore_n (lv' := [(2, .int v11), (0, .ref a0), (1, .int x1), (3, .int z4)]) hx hb dX7_counted_50 rfl hl (by decide) rfl (fun ls hl => ?_)
            obtain ⟨v12, ev12⟩ : ∃ y : Int32, y = z4 + 1 := ⟨_, rfl⟩
            replace h := bq_letE ev12 h
            refine lv_iinc (v := v12) (lv' := [(3, .int v12), (2, .int v11), (0, .ref a0), (1, .int x1)]) hx hb dX7_counted_51 hl (k := 3) rfl (by rw [ev12]; rfl) (by decide) rfl (fun ls hl => ?_)
            refine lv_goto (tgt := 18) hx hb dX7_counted_54 (by decide) ?_
            exact ih v11 v12 _ _ _ h hW (lv_sub hl [2, 3, 1, 0] rfl)
    exact hL18 bq_fuel (0 : Int32) (0 : Int32) _ _ _ h hW (lv_sub hl [2, 3, 1, 0] rfl)
  · replace h := bq_ifF hc h
    refine lv_aload_n hx hb dX7_counted_5 rfl (lv_at hl 0 rfl) ?_
    obtain ⟨v13, hv, h⟩ := bq_bind h
    refine bq_getr S hK fl_X7_7 dX7_counted_6 hv hW ?_
    refine lv_iconst (v := 3) hx hb dX7_counted_9 (by decide) ?_
    refine lv_iload_n hx hb dX7_counted_10 rfl (lv_at hl 1 rfl) ?_
    refine lv_iadd hx hb dX7_counted_11 ?_
    obtain ⟨v14, hv, h⟩ := bq_bind h
    refine bq_iald S hK dX7_counted_12 hv hW ?_
    cases h
    exact bq_reti S hr hlocks hK hz dX7_counted_13 hW

theorem kc_X7_count {E : bq_E} {a0 : Nat} {x1 : Int32} {R : (Int32 × bq_E)} (h : tw_X7_count E a0 x1 = some R) : bq_cls E a0 = 7 := (bq_guard h).1
set_option maxHeartbeats 4000000 in
set_option maxRecDepth 100000 in
theorem c_X7_count {l : Launch} {g : bq_G} {L : List Nat} {z : Nat} {E : bq_E} {a0 : Nat} {x1 : Int32} {R : (Int32 × bq_E)} (h : tw_X7_count E a0 x1 = some R) : bq_M l yX7_count cX7_count 2 (some .int) 4 89 [.ref a0, .int x1] g L E z (some (.int R.1)) R.2 := by
  unfold tw_X7_count at h
  obtain ⟨hcl, h⟩ := bq_guard h
  refine bq_enter (by decide) (Nat.le_of_ble_eq_true rfl) ?_
  intro p e s m args below meth c S hr hlocks hK hz hW ls hl
  have S : CallFix p m c cX7_count 2 s args bq_WA RX7 := S
  have hx := S.1
  have hb := S.2.1
  have hl : lv_has ls 2 [(0, .ref a0), (1, .int x1)] := hl
  refine lv_iload_n hx hb dX7_count_0 rfl (lv_at hl 1 rfl) ?_
  refine lv_iconst (v := 0) hx hb dX7_count_1 (by decide) ?_
  refine lv_bipush (v := 6) hx hb dX7_count_2 (by decide) ?_
  obtain ⟨v1, hv, h⟩ := bq_bind h
  refine bq_callS S hK hz ms_X7_42 (c_X7_in hv) dX7_count_4 [.int (bq_b v1)] (rest := []) rfl rfl rfl hl.1 (Nat.le_of_ble_eq_true rfl) ⟨Nat.le_of_ble_eq_true rfl, Nat.le_of_ble_eq_true rfl⟩ ⟨Nat.zero_le _, Nat.zero_le _⟩ hW (fun H locs hW => ?_)
  refine lv_if_eq (tgt := 22) hx hb dX7_count_7 (by decide) (fun hc => ?_) (fun hc => ?_)
  · replace h := bq_ifT hc h
    refine lv_aload_n hx hb dX7_count_22 rfl (lv_at hl 0 rfl) ?_
    refine lv_iconst (v := 1) hx hb dX7_count_23 (by decide) ?_
    obtain ⟨v2, hv, h⟩ := bq_bind h
    refine bq_callV S hK hz mv_X7_84 (c_X7_fails hv) (kc_X7_fails hv) dX7_count_24 [.int v2.1] (rest := []) rfl rfl rfl hl.1 (Nat.le_of_ble_eq_true rfl) ⟨Nat.le_of_ble_eq_true rfl, Nat.le_of_ble_eq_true rfl⟩ ⟨Nat.zero_le _, Nat.zero_le _⟩ hW (fun H locs hW => ?_)
    cases h
    exact bq_reti S hr hlocks hK hz dX7_count_27 hW
  · replace h := bq_ifF hc h
    refine lv_aload_n hx hb dX7_count_10 rfl (lv_at hl 0 rfl) ?_
    refine lv_aload_n hx hb dX7_count_11 rfl (lv_at hl 0 rfl) ?_
    refine lv_iload_n hx hb dX7_count_12 rfl (lv_at hl 1 rfl) ?_
    obtain ⟨v3, hv, h⟩ := bq_bind h
    refine bq_callV S hK hz mv_X7_160 (c_X7_counted hv) (kc_X7_counted hv) dX7_count_13 [.int v3, .ref a0] (rest := [.ref a0]) rfl rfl rfl hl.1 (Nat.le_of_ble_eq_true rfl) ⟨Nat.le_of_ble_eq_true rfl, Nat.le_of_ble_eq_true rfl⟩ ⟨Nat.zero_le _, Nat.zero_le _⟩ hW (fun H locs hW => ?_)
    obtain ⟨v4, hv, h⟩ := bq_bind h
    refine bq_callV S hK hz mv_X7_38 (c_X7_tells hv) (kc_X7_tells hv) dX7_count_16 [.int v4.1] (rest := []) rfl rfl rfl hl.1 (Nat.le_of_ble_eq_true rfl) ⟨Nat.le_of_ble_eq_true rfl, Nat.le_of_ble_eq_true rfl⟩ ⟨Nat.zero_le _, Nat.zero_le _⟩ hW (fun H locs hW => ?_)
    refine lv_goto (tgt := 27) hx hb dX7_count_19 (by decide) ?_
    cases h
    exact bq_reti S hr hlocks hK hz dX7_count_27 hW

theorem kc_X7_undo {E : bq_E} {a0 : Nat} {R : (Int32 × bq_E)} (h : tw_X7_undo E a0 = some R) : bq_cls E a0 = 7 := (bq_guard h).1
set_option maxHeartbeats 4000000 in
set_option maxRecDepth 100000 in
theorem c_X7_undo {l : Launch} {g : bq_G} {L : List Nat} {z : Nat} {E : bq_E} {a0 : Nat} {R : (Int32 × bq_E)} (h : tw_X7_undo E a0 = some R) : bq_M l yX7_undo cX7_undo 2 (some .int) 1 21 [.ref a0] g L E z (some (.int R.1)) R.2 := by
  unfold tw_X7_undo at h
  obtain ⟨hcl, h⟩ := bq_guard h
  refine bq_enter (by decide) (Nat.le_of_ble_eq_true rfl) ?_
  intro p e s m args below meth c S hr hlocks hK hz hW ls hl
  have S : CallFix p m c cX7_undo 2 s args bq_WA RX7 := S
  have hx := S.1
  have hb := S.2.1
  have hl : lv_has ls 2 [(0, .ref a0)] := hl
  refine lv_aload_n hx hb dX7_undo_0 rfl (lv_at hl 0 rfl) ?_
  obtain ⟨v1, hv, h⟩ := bq_bind h
  refine bq_geti S hK fl_X7_35 dX7_undo_1 hv hW ?_
  refine lv_if_ne (tgt := 13) hx hb dX7_undo_4 (by decide) (fun hc => ?_) (fun hc => ?_)
  · replace h := bq_ifF hc h
    refine lv_aload_n hx hb dX7_undo_13 rfl (lv_at hl 0 rfl) ?_
    refine lv_dup hx hb dX7_undo_14 rfl ?_
    obtain ⟨v2, hv, h⟩ := bq_bind h
    refine bq_geti S hK fl_X7_35 dX7_undo_15 hv hW ?_
    refine lv_iconst (v := 1) hx hb dX7_undo_18 (by decide) ?_
    refine lv_isub hx hb dX7_undo_19 ?_
    obtain ⟨E3, hv, h⟩ := bq_bind h
    refine bq_puti S hK fp_X7_35 dX7_undo_20 hv hW (fun H locs hW => ?_)
    refine lv_iconst (v := 0) hx hb dX7_undo_23 (by decide) ?_
    refine lv_istore_n (lv' := [(1, .int (0 : Int32)), (0, .ref a0)]) hx hb dX7_undo_24 rfl hl (by decide) rfl (fun ls hl => ?_)
    have hL25 : ∀ (n : Nat) (z6 : Int32) (E7 : bq_E) (H1 : Heap) (locs1 : List Loc) (ls1 : Array Slot), tl_X7_undo_25 a0 n z6 E7 = some R → bq_H g L E7 z s.heap H1 locs1 → lv_has ls1 2 [(0, .ref a0), (1, .int z6)] → W p l e { frames := 1, cells := 0, slots := 0, locals := 21 } s m args below meth c H1 locs1 0 0 (MQ below (bq_Q g L R.2 z (some (.int R.1))) args s 0 0 (bq_A z)) (F0 m 25 ls1 []) := by
      intro n
      induction n with
      | zero => intro z6 E7 H locs ls h hW hl; cases h
      | succ n ih =>
        intro z6 E7 H locs ls h hW hl
        rw [tl_X7_undo_25.eq_2] at h
        refine lv_iload_n hx hb dX7_undo_25 rfl (lv_at hl 1 rfl) ?_
        refine lv_sipush (v := 8183) hx hb dX7_undo_26 (by decide) ?_
        refine lv_icmp_ge (tgt := 59) hx hb dX7_undo_29 (by decide) (fun hc => ?_) (fun hc => ?_)
        · replace h := bq_ifT hc h
          refine lv_aload_n hx hb dX7_undo_59 rfl (lv_at hl 0 rfl) ?_
          refine lv_aload_n hx hb dX7_undo_60 rfl (lv_at hl 0 rfl) ?_
          obtain ⟨v8, hv, h⟩ := bq_bind h
          refine bq_geti S hK fl_X7_35 dX7_undo_61 hv hW ?_
          obtain ⟨v9, hv, h⟩ := bq_bind h
          refine bq_callV S hK hz mv_X7_38 (c_X7_tells hv) (kc_X7_tells hv) dX7_undo_64 [.int v9.1] (rest := []) rfl rfl rfl hl.1 (Nat.le_of_ble_eq_true rfl) ⟨Nat.le_of_ble_eq_true rfl, Nat.le_of_ble_eq_true rfl⟩ ⟨Nat.zero_le _, Nat.zero_le _⟩ hW (fun H locs hW => ?_)
          cases h
          exact bq_reti S hr hlocks hK hz dX7_undo_67 hW
        · replace h := bq_ifF hc h
          refine lv_aload_n hx hb dX7_undo_32 rfl (lv_at hl 0 rfl) ?_
          obtain ⟨v10, hv, h⟩ := bq_bind h
          refine bq_getr S hK fl_X7_7 dX7_undo_33 hv hW ?_
          refine lv_iload_n hx hb dX7_undo_36 rfl (lv_at hl 1 rfl) ?_
          refine lv_aload_n hx hb dX7_undo_37 rfl (lv_at hl 0 rfl) ?_
          obtain ⟨v11, hv, h⟩ := bq_bind h
          refine bq_getr S hK fl_X7_13 dX7_undo_38 hv hW ?_
          refine lv_sipush (v := 8183) hx hb dX7_undo_41 (by decide) ?_
          refine lv_aload_n hx hb dX7_undo_44 rfl (lv_at hl 0 rfl) ?_
          obtain ⟨v12, hv, h⟩ := bq_bind h
          refine bq_geti S hK fl_X7_35 dX7_undo_45 hv hW ?_
          refine lv_imul hx hb dX7_undo_48 ?_
          refine lv_iload_n hx hb dX7_undo_49 rfl (lv_at hl 1 rfl) ?_
          refine lv_iadd hx hb dX7_undo_50 ?_
          obtain ⟨v13, hv, h⟩ := bq_bind h
          refine bq_iald S hK dX7_undo_51 hv hW ?_
          obtain ⟨E14, hv, h⟩ := bq_bind h
          refine bq_iast S hK dX7_undo_52 hv hW (fun H locs hW => ?_)
          obtain ⟨v15, ev15⟩ : ∃ y : Int32, y = z6 + 1 := ⟨_, rfl⟩
          replace h := bq_letE ev15 h
          refine lv_iinc (v := v15) (lv' := [(1, .int v15), (0, .ref a0)]) hx hb dX7_undo_53 hl (k := 1) rfl (by rw [ev15]; rfl) (by decide) rfl (fun ls hl => ?_)
          refine lv_goto (tgt := 25) hx hb dX7_undo_56 (by decide) ?_
          exact ih v15 E14 _ _ _ h hW (lv_sub hl [1, 0] rfl)
    exact hL25 bq_fuel (0 : Int32) E3 _ _ _ h hW (lv_sub hl [1, 0] rfl)
  · replace h := bq_ifT hc h
    refine lv_aload_n hx hb dX7_undo_7 rfl (lv_at hl 0 rfl) ?_
    refine lv_iconst (v := 1) hx hb dX7_undo_8 (by decide) ?_
    obtain ⟨v16, hv, h⟩ := bq_bind h
    refine bq_callV S hK hz mv_X7_84 (c_X7_fails hv) (kc_X7_fails hv) dX7_undo_9 [.int v16.1] (rest := []) rfl rfl rfl hl.1 (Nat.le_of_ble_eq_true rfl) ⟨Nat.le_of_ble_eq_true rfl, Nat.le_of_ble_eq_true rfl⟩ ⟨Nat.zero_le _, Nat.zero_le _⟩ hW (fun H locs hW => ?_)
    cases h
    exact bq_reti S hr hlocks hK hz dX7_undo_12 hW

theorem kc_X7_mix {E : bq_E} {a0 : Nat} {x1 : Int32} {R : bq_E} (h : tw_X7_mix E a0 x1 = some R) : bq_cls E a0 = 7 := (bq_guard h).1
set_option maxHeartbeats 4000000 in
set_option maxRecDepth 100000 in
theorem c_X7_mix {l : Launch} {g : bq_G} {L : List Nat} {z : Nat} {E : bq_E} {a0 : Nat} {x1 : Int32} {R : bq_E} (h : tw_X7_mix E a0 x1 = some R) : bq_M l yX7_mix cX7_mix 2 none 0 0 [.ref a0, .int x1] g L E z none R := by
  unfold tw_X7_mix at h
  obtain ⟨hcl, h⟩ := bq_guard h
  refine bq_enter (by decide) (Nat.le_of_ble_eq_true rfl) ?_
  intro p e s m args below meth c S hr hlocks hK hz hW ls hl
  have S : CallFix p m c cX7_mix 2 s args bq_WA RX7 := S
  have hx := S.1
  have hb := S.2.1
  have hl : lv_has ls 2 [(0, .ref a0), (1, .int x1)] := hl
  refine lv_aload_n hx hb dX7_mix_0 rfl (lv_at hl 0 rfl) ?_
  refine lv_ldc2 (own := RX7) (v := 31) hx hb S.2.2.2.1 (S.2.2.2.2 _ (bq_wi 1125 (by decide +kernel) rfl)) dX7_mix_1 ?_
  refine lv_aload_n hx hb dX7_mix_4 rfl (lv_at hl 0 rfl) ?_
  obtain ⟨v1, hv, h⟩ := bq_bind h
  refine bq_getl S hK fl_X7_165 dX7_mix_5 hv hW ?_
  refine lv_lmul hx hb dX7_mix_8 ?_
  refine lv_iload_n hx hb dX7_mix_9 rfl (lv_at hl 1 rfl) ?_
  refine lv_i2l (v := Int32.toInt64 x1) hx hb dX7_mix_10 rfl ?_
  refine lv_ladd hx hb dX7_mix_11 ?_
  obtain ⟨E2, hv, h⟩ := bq_bind h
  refine bq_putl S hK fp_X7_165 dX7_mix_12 hv hW (fun H locs hW => ?_)
  cases h
  exact bq_retv S hr hlocks hK hz dX7_mix_15 hW

theorem kc_X7_mixNode {E : bq_E} {a0 : Nat} {x1 : Int32} {R : bq_E} (h : tw_X7_mixNode E a0 x1 = some R) : bq_cls E a0 = 7 := (bq_guard h).1
set_option maxHeartbeats 4000000 in
set_option maxRecDepth 100000 in
theorem c_X7_mixNode {l : Launch} {g : bq_G} {L : List Nat} {z : Nat} {E : bq_E} {a0 : Nat} {x1 : Int32} {R : bq_E} (h : tw_X7_mixNode E a0 x1 = some R) : bq_M l yX7_mixNode cX7_mixNode 4 none 4 98 [.ref a0, .int x1] g L E z none R := by
  unfold tw_X7_mixNode at h
  obtain ⟨hcl, h⟩ := bq_guard h
  refine bq_enter (by decide) (Nat.le_of_ble_eq_true rfl) ?_
  intro p e s m args below meth c S hr hlocks hK hz hW ls hl
  have S : CallFix p m c cX7_mixNode 4 s args bq_WA RX7 := S
  have hx := S.1
  have hb := S.2.1
  have hl : lv_has ls 4 [(0, .ref a0), (1, .int x1)] := hl
  refine lv_iconst (v := 0) hx hb dX7_mixNode_0 (by decide) ?_
  refine lv_istore_n (lv' := [(2, .int (0 : Int32)), (0, .ref a0), (1, .int x1)]) hx hb dX7_mixNode_1 rfl hl (by decide) rfl (fun ls hl => ?_)
  have hL2 : ∀ (K : Int32 → bq_E → Option bq_E) (hX : ∀ (u49 : Int32) (E50 : bq_E) (H1 : Heap) (locs1 : List Loc) (ls1 : Array Slot), K u49 E50 = some R → bq_H g L E50 z s.heap H1 locs1 → lv_has ls1 4 [(0, .ref a0), (1, .int x1)] → W p l e { frames := 4, cells := 0, slots := 0, locals := 98 } s m args below meth c H1 locs1 0 0 (MQ below (bq_Q g L R z none) args s 0 0 (bq_A z)) (F0 m 24 ls1 [])), ∀ (n : Nat) (z44 : Int32) (E45 : bq_E) (H1 : Heap) (locs1 : List Loc) (ls1 : Array Slot), tl_X7_mixNode_2 a0 x1 K n z44 E45 = some R → bq_H g L E45 z s.heap H1 locs1 → lv_has ls1 4 [(0, .ref a0), (1, .int x1), (2, .int z44)] → W p l e { frames := 4, cells := 0, slots := 0, locals := 98 } s m args below meth c H1 locs1 0 0 (MQ below (bq_Q g L R z none) args s 0 0 (bq_A z)) (F0 m 2 ls1 []) := by
    intro K hX n
    induction n with
    | zero => intro z44 E45 H locs ls h hW hl; cases h
    | succ n ih =>
      intro z44 E45 H locs ls h hW hl
      rw [tl_X7_mixNode_2.eq_2] at h
      refine lv_iload_n hx hb dX7_mixNode_2 rfl (lv_at hl 2 rfl) ?_
      refine lv_bipush (v := 9) hx hb dX7_mixNode_3 (by decide) ?_
      refine lv_icmp_ge (tgt := 24) hx hb dX7_mixNode_5 (by decide) (fun hc => ?_) (fun hc => ?_)
      · replace h := bq_ifT hc h
        exact hX z44 E45 _ _ _ h hW (lv_sub hl [0, 1] rfl)
      · replace h := bq_ifF hc h
        refine lv_aload_n hx hb dX7_mixNode_8 rfl (lv_at hl 0 rfl) ?_
        refine lv_aload_n hx hb dX7_mixNode_9 rfl (lv_at hl 0 rfl) ?_
        refine lv_iload_n hx hb dX7_mixNode_10 rfl (lv_at hl 1 rfl) ?_
        refine lv_iload_n hx hb dX7_mixNode_11 rfl (lv_at hl 2 rfl) ?_
        obtain ⟨v46, hv, h⟩ := bq_bind h
        refine bq_callV S hK hz mv_X7_154 (c_X7_value hv) (kc_X7_value hv) dX7_mixNode_12 [.int v46.1, .ref a0] (rest := [.ref a0]) rfl rfl rfl hl.1 (Nat.le_of_ble_eq_true rfl) ⟨Nat.le_of_ble_eq_true rfl, Nat.le_of_ble_eq_true rfl⟩ ⟨Nat.zero_le _, Nat.zero_le _⟩ hW (fun H locs hW => ?_)
        obtain ⟨E47, hv, h⟩ := bq_bind h
        refine bq_callV S hK hz mv_X7_169 (c_X7_mix hv) (kc_X7_mix hv) dX7_mixNode_15 [] (rest := []) rfl rfl rfl hl.1 (Nat.le_of_ble_eq_true rfl) ⟨Nat.le_of_ble_eq_true rfl, Nat.le_of_ble_eq_true rfl⟩ ⟨Nat.zero_le _, Nat.zero_le _⟩ hW (fun H locs hW => ?_)
        obtain ⟨v48, ev48⟩ : ∃ y : Int32, y = z44 + 1 := ⟨_, rfl⟩
        replace h := bq_letE ev48 h
        refine lv_iinc (v := v48) (lv' := [(2, .int v48), (0, .ref a0), (1, .int x1)]) hx hb dX7_mixNode_18 hl (k := 2) rfl (by rw [ev48]; rfl) (by decide) rfl (fun ls hl => ?_)
        refine lv_goto (tgt := 2) hx hb dX7_mixNode_21 (by decide) ?_
        exact ih v48 E47 _ _ _ h hW (lv_sub hl [1, 2, 0] rfl)
  refine hL2 _ (fun y1 E2 H locs ls h hW hl => ?_) bq_fuel (0 : Int32) E _ _ _ h hW (lv_sub hl [1, 2, 0] rfl)
  refine lv_iconst (v := 0) hx hb dX7_mixNode_24 (by decide) ?_
  refine lv_istore_n (lv' := [(2, .int (0 : Int32)), (0, .ref a0), (1, .int x1)]) hx hb dX7_mixNode_25 rfl hl (by decide) rfl (fun ls hl => ?_)
  have hL26 : ∀ (K : Int32 → bq_E → Option bq_E) (hX : ∀ (u42 : Int32) (E43 : bq_E) (H1 : Heap) (locs1 : List Loc) (ls1 : Array Slot), K u42 E43 = some R → bq_H g L E43 z s.heap H1 locs1 → lv_has ls1 4 [(0, .ref a0), (1, .int x1)] → W p l e { frames := 4, cells := 0, slots := 0, locals := 98 } s m args below meth c H1 locs1 0 0 (MQ below (bq_Q g L R z none) args s 0 0 (bq_A z)) (F0 m 52 ls1 [])), ∀ (n : Nat) (z36 : Int32) (E37 : bq_E) (H1 : Heap) (locs1 : List Loc) (ls1 : Array Slot), tl_X7_mixNode_26 a0 x1 K n z36 E37 = some R → bq_H g L E37 z s.heap H1 locs1 → lv_has ls1 4 [(0, .ref a0), (1, .int x1), (2, .int z36)] → W p l e { frames := 4, cells := 0, slots := 0, locals := 98 } s m args below meth c H1 locs1 0 0 (MQ below (bq_Q g L R z none) args s 0 0 (bq_A z)) (F0 m 26 ls1 []) := by
    intro K hX n
    induction n with
    | zero => intro z36 E37 H locs ls h hW hl; cases h
    | succ n ih =>
      intro z36 E37 H locs ls h hW hl
      rw [tl_X7_mixNode_26.eq_2] at h
      refine lv_iload_n hx hb dX7_mixNode_26 rfl (lv_at hl 2 rfl) ?_
      refine lv_aload_n hx hb dX7_mixNode_27 rfl (lv_at hl 0 rfl) ?_
      refine lv_iload_n hx hb dX7_mixNode_28 rfl (lv_at hl 1 rfl) ?_
      refine lv_iconst (v := 3) hx hb dX7_mixNode_29 (by decide) ?_
      obtain ⟨v38, hv, h⟩ := bq_bind h
      refine bq_callV S hK hz mv_X7_46 (c_X7_of hv) (kc_X7_of hv) dX7_mixNode_30 [.int v38, .int z36] (rest := [.int z36]) rfl rfl rfl hl.1 (Nat.le_of_ble_eq_true rfl) ⟨Nat.le_of_ble_eq_true rfl, Nat.le_of_ble_eq_true rfl⟩ ⟨Nat.zero_le _, Nat.zero_le _⟩ hW (fun H locs hW => ?_)
      refine lv_icmp_ge (tgt := 52) hx hb dX7_mixNode_33 (by decide) (fun hc => ?_) (fun hc => ?_)
      · replace h := bq_ifT hc h
        exact hX z36 E37 _ _ _ h hW (lv_sub hl [0, 1] rfl)
      · replace h := bq_ifF hc h
        refine lv_aload_n hx hb dX7_mixNode_36 rfl (lv_at hl 0 rfl) ?_
        refine lv_aload_n hx hb dX7_mixNode_37 rfl (lv_at hl 0 rfl) ?_
        refine lv_iload_n hx hb dX7_mixNode_38 rfl (lv_at hl 1 rfl) ?_
        refine lv_iload_n hx hb dX7_mixNode_39 rfl (lv_at hl 2 rfl) ?_
        obtain ⟨v39, hv, h⟩ := bq_bind h
        refine bq_callV S hK hz mv_X7_157 (c_X7_baseOf hv) (kc_X7_baseOf hv) dX7_mixNode_40 [.int v39, .ref a0] (rest := [.ref a0]) rfl rfl rfl hl.1 (Nat.le_of_ble_eq_true rfl) ⟨Nat.le_of_ble_eq_true rfl, Nat.le_of_ble_eq_true rfl⟩ ⟨Nat.zero_le _, Nat.zero_le _⟩ hW (fun H locs hW => ?_)
        obtain ⟨E40, hv, h⟩ := bq_bind h
        refine bq_callV S hK hz mv_X7_169 (c_X7_mix hv) (kc_X7_mix hv) dX7_mixNode_43 [] (rest := []) rfl rfl rfl hl.1 (Nat.le_of_ble_eq_true rfl) ⟨Nat.le_of_ble_eq_true rfl, Nat.le_of_ble_eq_true rfl⟩ ⟨Nat.zero_le _, Nat.zero_le _⟩ hW (fun H locs hW => ?_)
        obtain ⟨v41, ev41⟩ : ∃ y : Int32, y = z36 + 1 := ⟨_, rfl⟩
        replace h := bq_letE ev41 h
        refine lv_iinc (v := v41) (lv' := [(2, .int v41), (0, .ref a0), (1, .int x1)]) hx hb dX7_mixNode_46 hl (k := 2) rfl (by rw [ev41]; rfl) (by decide) rfl (fun ls hl => ?_)
        refine lv_goto (tgt := 26) hx hb dX7_mixNode_49 (by decide) ?_
        exact ih v41 E40 _ _ _ h hW (lv_sub hl [1, 2, 0] rfl)
  refine hL26 _ (fun y3 E4 H locs ls h hW hl => ?_) bq_fuel (0 : Int32) E2 _ _ _ h hW (lv_sub hl [1, 2, 0] rfl)
  refine lv_iconst (v := 0) hx hb dX7_mixNode_52 (by decide) ?_
  refine lv_istore_n (lv' := [(2, .int (0 : Int32)), (0, .ref a0), (1, .int x1)]) hx hb dX7_mixNode_53 rfl hl (by decide) rfl (fun ls hl => ?_)
  have hL54 : ∀ (K : Int32 → bq_E → Option bq_E) (hX : ∀ (u34 : Int32) (E35 : bq_E) (H1 : Heap) (locs1 : List Loc) (ls1 : Array Slot), K u34 E35 = some R → bq_H g L E35 z s.heap H1 locs1 → lv_has ls1 4 [(0, .ref a0), (1, .int x1)] → W p l e { frames := 4, cells := 0, slots := 0, locals := 98 } s m args below meth c H1 locs1 0 0 (MQ below (bq_Q g L R z none) args s 0 0 (bq_A z)) (F0 m 84 ls1 [])), ∀ (n : Nat) (z28 : Int32) (E29 : bq_E) (H1 : Heap) (locs1 : List Loc) (ls1 : Array Slot), tl_X7_mixNode_54 a0 x1 K n z28 E29 = some R → bq_H g L E29 z s.heap H1 locs1 → lv_has ls1 4 [(0, .ref a0), (1, .int x1), (2, .int z28)] → W p l e { frames := 4, cells := 0, slots := 0, locals := 98 } s m args below meth c H1 locs1 0 0 (MQ below (bq_Q g L R z none) args s 0 0 (bq_A z)) (F0 m 54 ls1 []) := by
    intro K hX n
    induction n with
    | zero => intro z28 E29 H locs ls h hW hl; cases h
    | succ n ih =>
      intro z28 E29 H locs ls h hW hl
      rw [tl_X7_mixNode_54.eq_2] at h
      refine lv_iload_n hx hb dX7_mixNode_54 rfl (lv_at hl 2 rfl) ?_
      refine lv_aload_n hx hb dX7_mixNode_55 rfl (lv_at hl 0 rfl) ?_
      refine lv_iload_n hx hb dX7_mixNode_56 rfl (lv_at hl 1 rfl) ?_
      refine lv_bipush (v := 52) hx hb dX7_mixNode_57 (by decide) ?_
      obtain ⟨v30, hv, h⟩ := bq_bind h
      refine bq_callV S hK hz mv_X7_46 (c_X7_of hv) (kc_X7_of hv) dX7_mixNode_59 [.int v30, .int z28] (rest := [.int z28]) rfl rfl rfl hl.1 (Nat.le_of_ble_eq_true rfl) ⟨Nat.le_of_ble_eq_true rfl, Nat.le_of_ble_eq_true rfl⟩ ⟨Nat.zero_le _, Nat.zero_le _⟩ hW (fun H locs hW => ?_)
      refine lv_icmp_ge (tgt := 84) hx hb dX7_mixNode_62 (by decide) (fun hc => ?_) (fun hc => ?_)
      · replace h := bq_ifT hc h
        exact hX z28 E29 _ _ _ h hW (lv_sub hl [0, 1] rfl)
      · replace h := bq_ifF hc h
        refine lv_aload_n hx hb dX7_mixNode_65 rfl (lv_at hl 0 rfl) ?_
        refine lv_aload_n hx hb dX7_mixNode_66 rfl (lv_at hl 0 rfl) ?_
        refine lv_iload_n hx hb dX7_mixNode_67 rfl (lv_at hl 1 rfl) ?_
        refine lv_bipush (v := 53) hx hb dX7_mixNode_68 (by decide) ?_
        refine lv_iload_n hx hb dX7_mixNode_70 rfl (lv_at hl 2 rfl) ?_
        refine lv_iadd hx hb dX7_mixNode_71 ?_
        obtain ⟨v31, hv, h⟩ := bq_bind h
        refine bq_callV S hK hz mv_X7_46 (c_X7_of hv) (kc_X7_of hv) dX7_mixNode_72 [.int v31, .ref a0] (rest := [.ref a0]) rfl rfl rfl hl.1 (Nat.le_of_ble_eq_true rfl) ⟨Nat.le_of_ble_eq_true rfl, Nat.le_of_ble_eq_true rfl⟩ ⟨Nat.zero_le _, Nat.zero_le _⟩ hW (fun H locs hW => ?_)
        obtain ⟨E32, hv, h⟩ := bq_bind h
        refine bq_callV S hK hz mv_X7_169 (c_X7_mix hv) (kc_X7_mix hv) dX7_mixNode_75 [] (rest := []) rfl rfl rfl hl.1 (Nat.le_of_ble_eq_true rfl) ⟨Nat.le_of_ble_eq_true rfl, Nat.le_of_ble_eq_true rfl⟩ ⟨Nat.zero_le _, Nat.zero_le _⟩ hW (fun H locs hW => ?_)
        obtain ⟨v33, ev33⟩ : ∃ y : Int32, y = z28 + 1 := ⟨_, rfl⟩
        replace h := bq_letE ev33 h
        refine lv_iinc (v := v33) (lv' := [(2, .int v33), (0, .ref a0), (1, .int x1)]) hx hb dX7_mixNode_78 hl (k := 2) rfl (by rw [ev33]; rfl) (by decide) rfl (fun ls hl => ?_)
        refine lv_goto (tgt := 54) hx hb dX7_mixNode_81 (by decide) ?_
        exact ih v33 E32 _ _ _ h hW (lv_sub hl [1, 2, 0] rfl)
  refine hL54 _ (fun y5 E6 H locs ls h hW hl => ?_) bq_fuel (0 : Int32) E4 _ _ _ h hW (lv_sub hl [1, 2, 0] rfl)
  refine lv_iconst (v := 0) hx hb dX7_mixNode_84 (by decide) ?_
  refine lv_istore_n (lv' := [(2, .int (0 : Int32)), (0, .ref a0), (1, .int x1)]) hx hb dX7_mixNode_85 rfl hl (by decide) rfl (fun ls hl => ?_)
  have hL86 : ∀ (n : Nat) (z9 : Int32) (E10 : bq_E) (H1 : Heap) (locs1 : List Loc) (ls1 : Array Slot), tl_X7_mixNode_86 a0 x1 n z9 E10 = some R → bq_H g L E10 z s.heap H1 locs1 → lv_has ls1 4 [(0, .ref a0), (1, .int x1), (2, .int z9)] → W p l e { frames := 4, cells := 0, slots := 0, locals := 98 } s m args below meth c H1 locs1 0 0 (MQ below (bq_Q g L R z none) args s 0 0 (bq_A z)) (F0 m 86 ls1 []) := by
    intro n
    induction n with
    | zero => intro z9 E10 H locs ls h hW hl; cases h
    | succ n ih =>
      intro z9 E10 H locs ls h hW hl
      rw [tl_X7_mixNode_86.eq_2] at h
      refine lv_iload_n hx hb dX7_mixNode_86 rfl (lv_at hl 2 rfl) ?_
      refine lv_aload_n hx hb dX7_mixNode_87 rfl (lv_at hl 0 rfl) ?_
      refine lv_iload_n hx hb dX7_mixNode_88 rfl (lv_at hl 1 rfl) ?_
      refine lv_bipush (v := 61) hx hb dX7_mixNode_89 (by decide) ?_
      obtain ⟨v11, hv, h⟩ := bq_bind h
      refine bq_callV S hK hz mv_X7_46 (c_X7_of hv) (kc_X7_of hv) dX7_mixNode_91 [.int v11, .int z9] (rest := [.int z9]) rfl rfl rfl hl.1 (Nat.le_of_ble_eq_true rfl) ⟨Nat.le_of_ble_eq_true rfl, Nat.le_of_ble_eq_true rfl⟩ ⟨Nat.zero_le _, Nat.zero_le _⟩ hW (fun H locs hW => ?_)
      refine lv_icmp_ge (tgt := 161) hx hb dX7_mixNode_94 (by decide) (fun hc => ?_) (fun hc => ?_)
      · replace h := bq_ifT hc h
        refine lv_aload_n hx hb dX7_mixNode_161 rfl (lv_at hl 0 rfl) ?_
        refine lv_aload_n hx hb dX7_mixNode_162 rfl (lv_at hl 0 rfl) ?_
        refine lv_iload_n hx hb dX7_mixNode_163 rfl (lv_at hl 1 rfl) ?_
        obtain ⟨v12, hv, h⟩ := bq_bind h
        refine bq_callV S hK hz mv_X7_148 (c_X7_worstOf hv) (kc_X7_worstOf hv) dX7_mixNode_164 [.int v12.1, .ref a0] (rest := [.ref a0]) rfl rfl rfl hl.1 (Nat.le_of_ble_eq_true rfl) ⟨Nat.le_of_ble_eq_true rfl, Nat.le_of_ble_eq_true rfl⟩ ⟨Nat.zero_le _, Nat.zero_le _⟩ hW (fun H locs hW => ?_)
        obtain ⟨E13, hv, h⟩ := bq_bind h
        refine bq_callV S hK hz mv_X7_169 (c_X7_mix hv) (kc_X7_mix hv) dX7_mixNode_167 [] (rest := []) rfl rfl rfl hl.1 (Nat.le_of_ble_eq_true rfl) ⟨Nat.le_of_ble_eq_true rfl, Nat.le_of_ble_eq_true rfl⟩ ⟨Nat.zero_le _, Nat.zero_le _⟩ hW (fun H locs hW => ?_)
        cases h
        exact bq_retv S hr hlocks hK hz dX7_mixNode_170 hW
      · replace h := bq_ifF hc h
        refine lv_aload_n hx hb dX7_mixNode_97 rfl (lv_at hl 0 rfl) ?_
        refine lv_aload_n hx hb dX7_mixNode_98 rfl (lv_at hl 0 rfl) ?_
        refine lv_iload_n hx hb dX7_mixNode_99 rfl (lv_at hl 1 rfl) ?_
        refine lv_bipush (v := 62) hx hb dX7_mixNode_100 (by decide) ?_
        refine lv_iload_n hx hb dX7_mixNode_102 rfl (lv_at hl 2 rfl) ?_
        refine lv_iadd hx hb dX7_mixNode_103 ?_
        obtain ⟨v14, hv, h⟩ := bq_bind h
        refine bq_callV S hK hz mv_X7_46 (c_X7_of hv) (kc_X7_of hv) dX7_mixNode_104 [.int v14, .ref a0] (rest := [.ref a0]) rfl rfl rfl hl.1 (Nat.le_of_ble_eq_true rfl) ⟨Nat.le_of_ble_eq_true rfl, Nat.le_of_ble_eq_true rfl⟩ ⟨Nat.zero_le _, Nat.zero_le _⟩ hW (fun H locs hW => ?_)
        obtain ⟨E15, hv, h⟩ := bq_bind h
        refine bq_callV S hK hz mv_X7_169 (c_X7_mix hv) (kc_X7_mix hv) dX7_mixNode_107 [] (rest := []) rfl rfl rfl hl.1 (Nat.le_of_ble_eq_true rfl) ⟨Nat.le_of_ble_eq_true rfl, Nat.le_of_ble_eq_true rfl⟩ ⟨Nat.zero_le _, Nat.zero_le _⟩ hW (fun H locs hW => ?_)
        refine lv_aload_n hx hb dX7_mixNode_110 rfl (lv_at hl 0 rfl) ?_
        refine lv_aload_n hx hb dX7_mixNode_111 rfl (lv_at hl 0 rfl) ?_
        refine lv_iload_n hx hb dX7_mixNode_112 rfl (lv_at hl 1 rfl) ?_
        refine lv_sipush (v := 158) hx hb dX7_mixNode_113 (by decide) ?_
        refine lv_iload_n hx hb dX7_mixNode_116 rfl (lv_at hl 2 rfl) ?_
        refine lv_iadd hx hb dX7_mixNode_117 ?_
        obtain ⟨v16, hv, h⟩ := bq_bind h
        refine bq_callV S hK hz mv_X7_46 (c_X7_of hv) (kc_X7_of hv) dX7_mixNode_118 [.int v16, .ref a0] (rest := [.ref a0]) rfl rfl rfl hl.1 (Nat.le_of_ble_eq_true rfl) ⟨Nat.le_of_ble_eq_true rfl, Nat.le_of_ble_eq_true rfl⟩ ⟨Nat.zero_le _, Nat.zero_le _⟩ hW (fun H locs hW => ?_)
        obtain ⟨E17, hv, h⟩ := bq_bind h
        refine bq_callV S hK hz mv_X7_169 (c_X7_mix hv) (kc_X7_mix hv) dX7_mixNode_121 [] (rest := []) rfl rfl rfl hl.1 (Nat.le_of_ble_eq_true rfl) ⟨Nat.le_of_ble_eq_true rfl, Nat.le_of_ble_eq_true rfl⟩ ⟨Nat.zero_le _, Nat.zero_le _⟩ hW (fun H locs hW => ?_)
        refine lv_iconst (v := 0) hx hb dX7_mixNode_124 (by decide) ?_
        refine lv_istore_n (lv' := [(3, .int (0 : Int32)), (0, .ref a0), (1, .int x1), (2, .int z9)]) hx hb dX7_mixNode_125 rfl hl (by decide) rfl (fun ls hl => ?_)
        have hL126 : ∀ (K : Int32 → bq_E → Option bq_E) (hX : ∀ (u26 : Int32) (E27 : bq_E) (H1 : Heap) (locs1 : List Loc) (ls1 : Array Slot), K u26 E27 = some R → bq_H g L E27 z s.heap H1 locs1 → lv_has ls1 4 [(0, .ref a0), (1, .int x1), (2, .int z9)] → W p l e { frames := 4, cells := 0, slots := 0, locals := 98 } s m args below meth c H1 locs1 0 0 (MQ below (bq_Q g L R z none) args s 0 0 (bq_A z)) (F0 m 155 ls1 [])), ∀ (n : Nat) (z21 : Int32) (E22 : bq_E) (H1 : Heap) (locs1 : List Loc) (ls1 : Array Slot), tl_X7_mixNode_126 a0 x1 z9 K n z21 E22 = some R → bq_H g L E22 z s.heap H1 locs1 → lv_has ls1 4 [(0, .ref a0), (1, .int x1), (2, .int z9), (3, .int z21)] → W p l e { frames := 4, cells := 0, slots := 0, locals := 98 } s m args below meth c H1 locs1 0 0 (MQ below (bq_Q g L R z none) args s 0 0 (bq_A z)) (F0 m 126 ls1 []) := by
          intro K hX n
          induction n with
          | zero => intro z21 E22 H locs ls h hW hl; cases h
          | succ n ih =>
            intro z21 E22 H locs ls h hW hl
            rw [tl_X7_mixNode_126.eq_2] at h
            refine lv_iload_n hx hb dX7_mixNode_126 rfl (lv_at hl 3 rfl) ?_
            refine lv_iconst (v := 2) hx hb dX7_mixNode_127 (by decide) ?_
            refine lv_icmp_gt (tgt := 155) hx hb dX7_mixNode_128 (by decide) (fun hc => ?_) (fun hc => ?_)
            · replace h := bq_ifT hc h
              exact hX z21 E22 _ _ _ h hW (lv_sub hl [0, 1, 2] rfl)
            · replace h := bq_ifF hc h
              refine lv_aload_n hx hb dX7_mixNode_131 rfl (lv_at hl 0 rfl) ?_
              refine lv_aload_n hx hb dX7_mixNode_132 rfl (lv_at hl 0 rfl) ?_
              refine lv_iload_n hx hb dX7_mixNode_133 rfl (lv_at hl 1 rfl) ?_
              refine lv_sipush (v := 254) hx hb dX7_mixNode_134 (by decide) ?_
              refine lv_iconst (v := 3) hx hb dX7_mixNode_137 (by decide) ?_
              refine lv_iload_n hx hb dX7_mixNode_138 rfl (lv_at hl 2 rfl) ?_
              refine lv_imul hx hb dX7_mixNode_139 ?_
              refine lv_iadd hx hb dX7_mixNode_140 ?_
              refine lv_iload_n hx hb dX7_mixNode_141 rfl (lv_at hl 3 rfl) ?_
              refine lv_iadd hx hb dX7_mixNode_142 ?_
              obtain ⟨v23, hv, h⟩ := bq_bind h
              refine bq_callV S hK hz mv_X7_46 (c_X7_of hv) (kc_X7_of hv) dX7_mixNode_143 [.int v23, .ref a0] (rest := [.ref a0]) rfl rfl rfl hl.1 (Nat.le_of_ble_eq_true rfl) ⟨Nat.le_of_ble_eq_true rfl, Nat.le_of_ble_eq_true rfl⟩ ⟨Nat.zero_le _, Nat.zero_le _⟩ hW (fun H locs hW => ?_)
              obtain ⟨E24, hv, h⟩ := bq_bind h
              refine bq_callV S hK hz mv_X7_169 (c_X7_mix hv) (kc_X7_mix hv) dX7_mixNode_146 [] (rest := []) rfl rfl rfl hl.1 (Nat.le_of_ble_eq_true rfl) ⟨Nat.le_of_ble_eq_true rfl, Nat.le_of_ble_eq_true rfl⟩ ⟨Nat.zero_le _, Nat.zero_le _⟩ hW (fun H locs hW => ?_)
              obtain ⟨v25, ev25⟩ : ∃ y : Int32, y = z21 + 1 := ⟨_, rfl⟩
              replace h := bq_letE ev25 h
              refine lv_iinc (v := v25) (lv' := [(3, .int v25), (0, .ref a0), (1, .int x1), (2, .int z9)]) hx hb dX7_mixNode_149 hl (k := 3) rfl (by rw [ev25]; rfl) (by decide) rfl (fun ls hl => ?_)
              refine lv_goto (tgt := 126) hx hb dX7_mixNode_152 (by decide) ?_
              exact ih v25 E24 _ _ _ h hW (lv_sub hl [1, 2, 3, 0] rfl)
        refine hL126 _ (fun y18 E19 H locs ls h hW hl => ?_) bq_fuel (0 : Int32) E17 _ _ _ h hW (lv_sub hl [1, 2, 3, 0] rfl)
        obtain ⟨v20, ev20⟩ : ∃ y : Int32, y = z9 + 1 := ⟨_, rfl⟩
        replace h := bq_letE ev20 h
        refine lv_iinc (v := v20) (lv' := [(2, .int v20), (0, .ref a0), (1, .int x1)]) hx hb dX7_mixNode_155 hl (k := 2) rfl (by rw [ev20]; rfl) (by decide) rfl (fun ls hl => ?_)
        refine lv_goto (tgt := 86) hx hb dX7_mixNode_158 (by decide) ?_
        exact ih v20 E19 _ _ _ h hW (lv_sub hl [1, 2, 0] rfl)
  exact hL86 bq_fuel (0 : Int32) E6 _ _ _ h hW (lv_sub hl [1, 2, 0] rfl)

theorem kc_X7_digest {E : bq_E} {a0 : Nat} {R : (Int64 × bq_E)} (h : tw_X7_digest E a0 = some R) : bq_cls E a0 = 7 := (bq_guard h).1
set_option maxHeartbeats 4000000 in
set_option maxRecDepth 100000 in
theorem c_X7_digest {l : Launch} {g : bq_G} {L : List Nat} {z : Nat} {E : bq_E} {a0 : Nat} {R : (Int64 × bq_E)} (h : tw_X7_digest E a0 = some R) : bq_M l yX7_digest cX7_digest 2 (some .long) 5 121 [.ref a0] g L E z (some (.long R.1)) R.2 := by
  unfold tw_X7_digest at h
  obtain ⟨hcl, h⟩ := bq_guard h
  refine bq_enter (by decide) (Nat.le_of_ble_eq_true rfl) ?_
  intro p e s m args below meth c S hr hlocks hK hz hW ls hl
  have S : CallFix p m c cX7_digest 2 s args bq_WA RX7 := S
  have hx := S.1
  have hb := S.2.1
  have hl : lv_has ls 2 [(0, .ref a0)] := hl
  refine lv_aload_n hx hb dX7_digest_0 rfl (lv_at hl 0 rfl) ?_
  refine lv_iconst (v := 0) hx hb dX7_digest_1 (by decide) ?_
  obtain ⟨E1, hv, h⟩ := bq_bind h
  refine bq_puti S hK fp_X7_31 dX7_digest_2 hv hW (fun H locs hW => ?_)
  refine lv_aload_n hx hb dX7_digest_5 rfl (lv_at hl 0 rfl) ?_
  refine lv_ldc2 (own := RX7) (v := 18592) hx hb S.2.2.2.1 (S.2.2.2.2 _ (bq_wi 1120 (by decide +kernel) rfl)) dX7_digest_6 ?_
  obtain ⟨E2, hv, h⟩ := bq_bind h
  refine bq_putl S hK fp_X7_165 dX7_digest_9 hv hW (fun H locs hW => ?_)
  refine lv_aload_n hx hb dX7_digest_12 rfl (lv_at hl 0 rfl) ?_
  refine lv_aload_n hx hb dX7_digest_13 rfl (lv_at hl 0 rfl) ?_
  obtain ⟨v3, hv, h⟩ := bq_bind h
  refine bq_geti S hK fl_X7_35 dX7_digest_14 hv hW ?_
  obtain ⟨E4, hv, h⟩ := bq_bind h
  refine bq_callV S hK hz mv_X7_169 (c_X7_mix hv) (kc_X7_mix hv) dX7_digest_17 [] (rest := []) rfl rfl rfl hl.1 (Nat.le_of_ble_eq_true rfl) ⟨Nat.le_of_ble_eq_true rfl, Nat.le_of_ble_eq_true rfl⟩ ⟨Nat.zero_le _, Nat.zero_le _⟩ hW (fun H locs hW => ?_)
  refine lv_aload_n hx hb dX7_digest_20 rfl (lv_at hl 0 rfl) ?_
  refine lv_aload_n hx hb dX7_digest_21 rfl (lv_at hl 0 rfl) ?_
  obtain ⟨v5, hv, h⟩ := bq_bind h
  refine bq_getr S hK fl_X7_7 dX7_digest_22 hv hW ?_
  refine lv_iconst (v := 1) hx hb dX7_digest_25 (by decide) ?_
  obtain ⟨v6, hv, h⟩ := bq_bind h
  refine bq_iald S hK dX7_digest_26 hv hW ?_
  obtain ⟨E7, hv, h⟩ := bq_bind h
  refine bq_callV S hK hz mv_X7_169 (c_X7_mix hv) (kc_X7_mix hv) dX7_digest_27 [] (rest := []) rfl rfl rfl hl.1 (Nat.le_of_ble_eq_true rfl) ⟨Nat.le_of_ble_eq_true rfl, Nat.le_of_ble_eq_true rfl⟩ ⟨Nat.zero_le _, Nat.zero_le _⟩ hW (fun H locs hW => ?_)
  refine lv_aload_n hx hb dX7_digest_30 rfl (lv_at hl 0 rfl) ?_
  refine lv_aload_n hx hb dX7_digest_31 rfl (lv_at hl 0 rfl) ?_
  obtain ⟨v8, hv, h⟩ := bq_bind h
  refine bq_getr S hK fl_X7_7 dX7_digest_32 hv hW ?_
  refine lv_iconst (v := 2) hx hb dX7_digest_35 (by decide) ?_
  obtain ⟨v9, hv, h⟩ := bq_bind h
  refine bq_iald S hK dX7_digest_36 hv hW ?_
  obtain ⟨E10, hv, h⟩ := bq_bind h
  refine bq_callV S hK hz mv_X7_169 (c_X7_mix hv) (kc_X7_mix hv) dX7_digest_37 [] (rest := []) rfl rfl rfl hl.1 (Nat.le_of_ble_eq_true rfl) ⟨Nat.le_of_ble_eq_true rfl, Nat.le_of_ble_eq_true rfl⟩ ⟨Nat.zero_le _, Nat.zero_le _⟩ hW (fun H locs hW => ?_)
  refine lv_aload_n hx hb dX7_digest_40 rfl (lv_at hl 0 rfl) ?_
  refine lv_aload_n hx hb dX7_digest_41 rfl (lv_at hl 0 rfl) ?_
  obtain ⟨v11, hv, h⟩ := bq_bind h
  refine bq_getr S hK fl_X7_7 dX7_digest_42 hv hW ?_
  refine lv_iconst (v := 0) hx hb dX7_digest_45 (by decide) ?_
  obtain ⟨v12, hv, h⟩ := bq_bind h
  refine bq_iald S hK dX7_digest_46 hv hW ?_
  obtain ⟨E13, hv, h⟩ := bq_bind h
  refine bq_callV S hK hz mv_X7_169 (c_X7_mix hv) (kc_X7_mix hv) dX7_digest_47 [] (rest := []) rfl rfl rfl hl.1 (Nat.le_of_ble_eq_true rfl) ⟨Nat.le_of_ble_eq_true rfl, Nat.le_of_ble_eq_true rfl⟩ ⟨Nat.zero_le _, Nat.zero_le _⟩ hW (fun H locs hW => ?_)
  refine lv_iconst (v := 0) hx hb dX7_digest_50 (by decide) ?_
  refine lv_istore_n (lv' := [(1, .int (0 : Int32)), (0, .ref a0)]) hx hb dX7_digest_51 rfl hl (by decide) rfl (fun ls hl => ?_)
  have hL52 : ∀ (K : Int32 → bq_E → Option (Int64 × bq_E)) (hX : ∀ (u30 : Int32) (E31 : bq_E) (H1 : Heap) (locs1 : List Loc) (ls1 : Array Slot), K u30 E31 = some R → bq_H g L E31 z s.heap H1 locs1 → lv_has ls1 2 [(0, .ref a0)] → W p l e { frames := 5, cells := 0, slots := 0, locals := 121 } s m args below meth c H1 locs1 0 0 (MQ below (bq_Q g L R.2 z (some (.long R.1))) args s 0 0 (bq_A z)) (F0 m 73 ls1 [])), ∀ (n : Nat) (z24 : Int32) (E25 : bq_E) (H1 : Heap) (locs1 : List Loc) (ls1 : Array Slot), tl_X7_digest_52 a0 K n z24 E25 = some R → bq_H g L E25 z s.heap H1 locs1 → lv_has ls1 2 [(0, .ref a0), (1, .int z24)] → W p l e { frames := 5, cells := 0, slots := 0, locals := 121 } s m args below meth c H1 locs1 0 0 (MQ below (bq_Q g L R.2 z (some (.long R.1))) args s 0 0 (bq_A z)) (F0 m 52 ls1 []) := by
    intro K hX n
    induction n with
    | zero => intro z24 E25 H locs ls h hW hl; cases h
    | succ n ih =>
      intro z24 E25 H locs ls h hW hl
      rw [tl_X7_digest_52.eq_2] at h
      refine lv_iload_n hx hb dX7_digest_52 rfl (lv_at hl 1 rfl) ?_
      refine lv_aload_n hx hb dX7_digest_53 rfl (lv_at hl 0 rfl) ?_
      obtain ⟨v26, hv, h⟩ := bq_bind h
      refine bq_getr S hK fl_X7_7 dX7_digest_54 hv hW ?_
      refine lv_iconst (v := 0) hx hb dX7_digest_57 (by decide) ?_
      obtain ⟨v27, hv, h⟩ := bq_bind h
      refine bq_iald S hK dX7_digest_58 hv hW ?_
      refine lv_icmp_ge (tgt := 73) hx hb dX7_digest_59 (by decide) (fun hc => ?_) (fun hc => ?_)
      · replace h := bq_ifT hc h
        exact hX z24 E25 _ _ _ h hW (lv_sub hl [0] rfl)
      · replace h := bq_ifF hc h
        refine lv_aload_n hx hb dX7_digest_62 rfl (lv_at hl 0 rfl) ?_
        refine lv_iload_n hx hb dX7_digest_63 rfl (lv_at hl 1 rfl) ?_
        obtain ⟨E28, hv, h⟩ := bq_bind h
        refine bq_callV S hK hz mv_X7_174 (c_X7_mixNode hv) (kc_X7_mixNode hv) dX7_digest_64 [] (rest := []) rfl rfl rfl hl.1 (Nat.le_of_ble_eq_true rfl) ⟨Nat.le_of_ble_eq_true rfl, Nat.le_of_ble_eq_true rfl⟩ ⟨Nat.zero_le _, Nat.zero_le _⟩ hW (fun H locs hW => ?_)
        obtain ⟨v29, ev29⟩ : ∃ y : Int32, y = z24 + 1 := ⟨_, rfl⟩
        replace h := bq_letE ev29 h
        refine lv_iinc (v := v29) (lv' := [(1, .int v29), (0, .ref a0)]) hx hb dX7_digest_67 hl (k := 1) rfl (by rw [ev29]; rfl) (by decide) rfl (fun ls hl => ?_)
        refine lv_goto (tgt := 52) hx hb dX7_digest_70 (by decide) ?_
        exact ih v29 E28 _ _ _ h hW (lv_sub hl [1, 0] rfl)
  refine hL52 _ (fun y14 E15 H locs ls h hW hl => ?_) bq_fuel (0 : Int32) E13 _ _ _ h hW (lv_sub hl [1, 0] rfl)
  refine lv_iconst (v := 0) hx hb dX7_digest_73 (by decide) ?_
  refine lv_istore_n (lv' := [(1, .int (0 : Int32)), (0, .ref a0)]) hx hb dX7_digest_74 rfl hl (by decide) rfl (fun ls hl => ?_)
  have hL75 : ∀ (n : Nat) (z18 : Int32) (E19 : bq_E) (H1 : Heap) (locs1 : List Loc) (ls1 : Array Slot), tl_X7_digest_75 a0 n z18 E19 = some R → bq_H g L E19 z s.heap H1 locs1 → lv_has ls1 2 [(0, .ref a0), (1, .int z18)] → W p l e { frames := 5, cells := 0, slots := 0, locals := 121 } s m args below meth c H1 locs1 0 0 (MQ below (bq_Q g L R.2 z (some (.long R.1))) args s 0 0 (bq_A z)) (F0 m 75 ls1 []) := by
    intro n
    induction n with
    | zero => intro z18 E19 H locs ls h hW hl; cases h
    | succ n ih =>
      intro z18 E19 H locs ls h hW hl
      rw [tl_X7_digest_75.eq_2] at h
      refine lv_iload_n hx hb dX7_digest_75 rfl (lv_at hl 1 rfl) ?_
      refine lv_bipush (v := 7) hx hb dX7_digest_76 (by decide) ?_
      refine lv_icmp_ge (tgt := 96) hx hb dX7_digest_78 (by decide) (fun hc => ?_) (fun hc => ?_)
      · replace h := bq_ifT hc h
        refine lv_aload_n hx hb dX7_digest_96 rfl (lv_at hl 0 rfl) ?_
        obtain ⟨v20, hv, h⟩ := bq_bind h
        refine bq_getl S hK fl_X7_165 dX7_digest_97 hv hW ?_
        cases h
        exact bq_retl S hr hlocks hK hz dX7_digest_100 hW
      · replace h := bq_ifF hc h
        refine lv_aload_n hx hb dX7_digest_81 rfl (lv_at hl 0 rfl) ?_
        refine lv_aload_n hx hb dX7_digest_82 rfl (lv_at hl 0 rfl) ?_
        refine lv_iload_n hx hb dX7_digest_83 rfl (lv_at hl 1 rfl) ?_
        obtain ⟨v21, hv, h⟩ := bq_bind h
        refine bq_callV S hK hz mv_X7_160 (c_X7_counted hv) (kc_X7_counted hv) dX7_digest_84 [.int v21, .ref a0] (rest := [.ref a0]) rfl rfl rfl hl.1 (Nat.le_of_ble_eq_true rfl) ⟨Nat.le_of_ble_eq_true rfl, Nat.le_of_ble_eq_true rfl⟩ ⟨Nat.zero_le _, Nat.zero_le _⟩ hW (fun H locs hW => ?_)
        obtain ⟨E22, hv, h⟩ := bq_bind h
        refine bq_callV S hK hz mv_X7_169 (c_X7_mix hv) (kc_X7_mix hv) dX7_digest_87 [] (rest := []) rfl rfl rfl hl.1 (Nat.le_of_ble_eq_true rfl) ⟨Nat.le_of_ble_eq_true rfl, Nat.le_of_ble_eq_true rfl⟩ ⟨Nat.zero_le _, Nat.zero_le _⟩ hW (fun H locs hW => ?_)
        obtain ⟨v23, ev23⟩ : ∃ y : Int32, y = z18 + 1 := ⟨_, rfl⟩
        replace h := bq_letE ev23 h
        refine lv_iinc (v := v23) (lv' := [(1, .int v23), (0, .ref a0)]) hx hb dX7_digest_90 hl (k := 1) rfl (by rw [ev23]; rfl) (by decide) rfl (fun ls hl => ?_)
        refine lv_goto (tgt := 75) hx hb dX7_digest_93 (by decide) ?_
        exact ih v23 E22 _ _ _ h hW (lv_sub hl [1, 0] rfl)
  exact hL75 bq_fuel (0 : Int32) E15 _ _ _ h hW (lv_sub hl [1, 0] rfl)
