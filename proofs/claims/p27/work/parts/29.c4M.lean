set_option maxHeartbeats 8000000 in
set_option maxRecDepth 100000 in
theorem ca_L_put {l : Launch} (hfl : l.stackTraces = false) {g : bq_G} {L : List Nat} {z : Nat} {E : bq_E} {a0 : Nat} {a1 : Nat} {a2 : Nat} {x3 : Int32} {x4 : Int32} {R : bq_E} (h : tw_L_put E a0 a1 a2 x3 x4 = some R) : bq_MA l yL_put cL_put 6 none 1 28 1 40 [.ref a0, .ref a1, .ref a2, .int x3, .int x4] g L E z none R := by
  unfold tw_L_put at h
  refine bq_enterA (by decide) (Nat.le_of_ble_eq_true rfl) ?_
  intro p e s m args below meth c S hr hlocks hK hz hT hN hW ls hl
  have S : CallFix p m c cL_put 6 s args bq_WA RL := S
  have hx := S.1
  have hb := S.2.1
  have hl : lv_has ls 6 [(0, .ref a0), (1, .ref a1), (2, .ref a2), (3, .int x3), (4, .int x4)] := hl
  refine lv_aload_n hx hb dL_put_0 rfl (lv_at hl 0 rfl) ?_
  refine lv_aload_n hx hb dL_put_1 rfl (lv_at hl 2 rfl) ?_
  refine lv_iload_n hx hb dL_put_2 rfl (lv_at hl 3 rfl) ?_
  refine lv_iload hx hb dL_put_3 (lv_at hl 4 rfl) ?_
  obtain ⟨v1, hv, h⟩ := bq_bind h
  refine bq_callS S hK hz ms_L_60 (c_L_inBase hv) dL_put_5 [.int v1] (rest := []) rfl rfl rfl hl.1 (Nat.le_of_ble_eq_true rfl) ⟨Nat.le_of_ble_eq_true rfl, Nat.le_of_ble_eq_true rfl⟩ ⟨by show _ ≤ 1; omega, by show _ ≤ 40; omega⟩ hW (fun H locs hW => ?_)
  refine lv_istore (lv' := [(5, .int v1), (0, .ref a0), (1, .ref a1), (2, .ref a2), (3, .int x3), (4, .int x4)]) hx hb dL_put_8 hl (by decide) rfl (fun ls hl => ?_)
  refine lv_iload hx hb dL_put_10 (lv_at hl 0 rfl) ?_
  refine lv_if_lt (tgt := 22) hx hb dL_put_12 (by decide) (fun hc => ?_) (fun hc => ?_)
  · replace h := bq_ifT hc h
    refine lv_aload_n hx hb dL_put_22 rfl (lv_at hl 2 rfl) ?_
    refine lv_bipush (v := 8) hx hb dL_put_23 (by decide) ?_
    refine lv_iload_n hx hb dL_put_25 rfl (lv_at hl 4 rfl) ?_
    refine lv_imul hx hb dL_put_26 ?_
    refine lv_aload_n hx hb dL_put_27 rfl (lv_at hl 3 rfl) ?_
    refine lv_bipush (v := 8) hx hb dL_put_28 (by decide) ?_
    refine lv_iload_n hx hb dL_put_30 rfl (lv_at hl 4 rfl) ?_
    refine lv_iadd hx hb dL_put_31 ?_
    obtain ⟨v2, hv, h⟩ := bq_bind h
    refine bq_iald S hK dL_put_32 hv hW ?_
    refine lv_iadd hx hb dL_put_33 ?_
    refine lv_iload hx hb dL_put_34 (lv_at hl 5 rfl) ?_
    obtain ⟨E3, hv, h⟩ := bq_bind h
    refine bq_iast S hK dL_put_36 hv hW (fun H locs hW => ?_)
    refine lv_aload_n hx hb dL_put_37 rfl (lv_at hl 3 rfl) ?_
    refine lv_bipush (v := 8) hx hb dL_put_38 (by decide) ?_
    refine lv_iload_n hx hb dL_put_40 rfl (lv_at hl 4 rfl) ?_
    refine lv_iadd hx hb dL_put_41 ?_
    refine lv_dup2_11 hx hb dL_put_42 rfl rfl ?_
    obtain ⟨v4, hv, h⟩ := bq_bind h
    refine bq_iald S hK dL_put_43 hv hW ?_
    refine lv_iconst (v := 1) hx hb dL_put_44 (by decide) ?_
    refine lv_iadd hx hb dL_put_45 ?_
    obtain ⟨E5, hv, h⟩ := bq_bind h
    refine bq_iast S hK dL_put_46 hv hW (fun H locs hW => ?_)
    refine lv_aload_n hx hb dL_put_47 rfl (lv_at hl 3 rfl) ?_
    refine lv_bipush (v := 8) hx hb dL_put_48 (by decide) ?_
    refine lv_iload_n hx hb dL_put_50 rfl (lv_at hl 4 rfl) ?_
    refine lv_iadd hx hb dL_put_51 ?_
    obtain ⟨v6, hv, h⟩ := bq_bind h
    refine bq_iald S hK dL_put_52 hv hW ?_
    refine lv_aload_n hx hb dL_put_53 rfl (lv_at hl 3 rfl) ?_
    refine lv_bipush (v := 17) hx hb dL_put_54 (by decide) ?_
    obtain ⟨v7, hv, h⟩ := bq_bind h
    refine bq_iald S hK dL_put_56 hv hW ?_
    refine lv_icmp_lt (tgt := 67) hx hb dL_put_57 (by decide) (fun hc => ?_) (fun hc => ?_)
    · replace h := bq_ifT hc h
      cases h
      refine W.widen (k := 1) (n := 40) (by omega) (by omega) ?_
      exact bq_retv S hr hlocks hK hz dL_put_67 hW
    · replace h := bq_ifF hc h
      refine lv_aload_n hx hb dL_put_60 rfl (lv_at hl 1 rfl) ?_
      refine lv_aload_n hx hb dL_put_61 rfl (lv_at hl 2 rfl) ?_
      refine lv_aload_n hx hb dL_put_62 rfl (lv_at hl 3 rfl) ?_
      refine lv_iload_n hx hb dL_put_63 rfl (lv_at hl 4 rfl) ?_
      obtain ⟨E8, hv, h⟩ := bq_bind h
      refine bq_callSA S hK hz hT hN ms_L_73 (ca_L_settle hfl hv) dL_put_64 [] (rest := []) rfl rfl rfl hl.1 (Nat.le_of_ble_eq_true rfl) ⟨Nat.le_of_ble_eq_true rfl, Nat.le_of_ble_eq_true rfl⟩ ⟨by show _ ≤ 1; omega, by show _ ≤ 40; omega⟩ hW (fun H locs hW => ?_)
      cases h
      refine W.widen (k := 1) (n := 40) (by omega) (by omega) ?_
      exact bq_retv S hr hlocks hK hz dL_put_67 hW
  · replace h := bq_ifF hc h
    refine lv_aload_n hx hb dL_put_15 rfl (lv_at hl 1 rfl) ?_
    refine lv_iload hx hb dL_put_16 (lv_at hl 0 rfl) ?_
    refine lv_iload hx hb dL_put_18 (lv_at hl 5 rfl) ?_
    obtain ⟨E9, hv, h⟩ := bq_bind h
    refine bq_iast S hK dL_put_20 hv hW (fun H locs hW => ?_)
    cases h
    refine W.widen (k := 1) (n := 40) (by omega) (by omega) ?_
    exact bq_retv S hr hlocks hK hz dL_put_21 hW

set_option maxHeartbeats 8000000 in
set_option maxRecDepth 100000 in
theorem ca_L_isSo {l : Launch} (hfl : l.stackTraces = false) {g : bq_G} {L : List Nat} {z : Nat} {E : bq_E} {a0 : Nat} {a1 : Nat} {a2 : Nat} {a3 : Nat} {x4 : Int32} {x5 : Int32} {R : (Bool × bq_E)} (h : tw_L_isSo E a0 a1 a2 a3 x4 x5 = some R) : bq_MA l yL_isSo cL_isSo 13 (some .boolean) 11 200 129 774 [.ref a0, .ref a1, .ref a2, .ref a3, .int x4, .int x5] g L E z (some (.int (bq_b R.1))) R.2 := by
  unfold tw_L_isSo at h
  refine bq_enterA (by decide) (Nat.le_of_ble_eq_true rfl) ?_
  intro p e s m args below meth c S hr hlocks hK hz hT hN hW ls hl
  have S : CallFix p m c cL_isSo 13 s args bq_WA RL := S
  have hx := S.1
  have hb := S.2.1
  have hl : lv_has ls 13 [(0, .ref a0), (1, .ref a1), (2, .ref a2), (3, .ref a3), (4, .int x4), (5, .int x5)] := hl
  refine lv_aload_n hx hb dL_isSo_0 rfl (lv_at hl 0 rfl) ?_
  refine lv_iload hx hb dL_isSo_1 (lv_at hl 4 rfl) ?_
  refine lv_iconst (v := 4) hx hb dL_isSo_3 (by decide) ?_
  obtain ⟨v1, hv, h⟩ := bq_bind h
  refine bq_callSL (n := 3) S hK hz hT hN (bq_inSW (bq_wi 475 (by decide +kernel) rfl) (bq_wi 476 (by decide +kernel) rfl) (bq_wi 16 (by decide +kernel) rfl) (bq_wi 477 (by decide +kernel) rfl)) (by decide +kernel) (cl_L_nodeOf hfl hv) dL_isSo_4 [.int v1.1] (rest := []) rfl rfl rfl hl.1 (Nat.le_of_ble_eq_true rfl) ⟨Nat.le_of_ble_eq_true rfl, Nat.le_of_ble_eq_true rfl⟩ ⟨by show _ ≤ 129; omega, by show _ ≤ 774; omega⟩ hW (fun H locs hW => ?_)
  refine lv_aload_n hx hb dL_isSo_7 rfl (lv_at hl 1 rfl) ?_
  refine lv_aload_n hx hb dL_isSo_8 rfl (lv_at hl 3 rfl) ?_
  refine lv_iload hx hb dL_isSo_9 (lv_at hl 4 rfl) ?_
  obtain ⟨v2, hv, h⟩ := bq_bind h
  refine bq_callS S hK hz ms_L_81 (c_L_size hv) dL_isSo_11 [.int v2, .int v1.1] (rest := [.int v1.1]) rfl rfl rfl hl.1 (Nat.le_of_ble_eq_true rfl) ⟨Nat.le_of_ble_eq_true rfl, Nat.le_of_ble_eq_true rfl⟩ ⟨by show _ ≤ 129; omega, by show _ ≤ 774; omega⟩ hW (fun H locs hW => ?_)
  obtain ⟨k84, ek84, h⟩ := bq_letK h
  have hjk84 : ∀ (b3 : Int32) (E4 : bq_E) (H1 : Heap) (locs1 : List Loc) (ls1 : Array Slot), k84 b3 E4 = some R → bq_H g L E4 z s.heap H1 locs1 → lv_has ls1 13 [(0, .ref a0), (1, .ref a1), (2, .ref a2), (3, .ref a3), (4, .int x4), (5, .int x5)] → W p l e { frames := 11, cells := 129, slots := 774, locals := 200 } s m args below meth c H1 locs1 5 30 (MQ below (bq_Q g L R.2 z (some (.int (bq_b R.1)))) args s 129 774 (bq_A z)) (F0 m 84 ls1 [.int b3]) := by
    intro b3 E4 H locs ls h hW hl
    replace h := bq_kap2 ek84 h
    refine lv_istore (lv' := [(6, .int b3), (0, .ref a0), (1, .ref a1), (2, .ref a2), (3, .ref a3), (4, .int x4), (5, .int x5)]) hx hb dL_isSo_84 hl (by decide) rfl (fun ls hl => ?_)
    refine lv_iconst (v := 0) hx hb dL_isSo_86 (by decide) ?_
    refine lv_istore (lv' := [(7, .int (0 : Int32)), (6, .int b3), (0, .ref a0), (1, .ref a1), (2, .ref a2), (3, .ref a3), (4, .int x4), (5, .int x5)]) hx hb dL_isSo_87 hl (by decide) rfl (fun ls hl => ?_)
    have hL89 : ∀ (K : Int32 → Int32 → bq_E → Option (Bool × bq_E)) (hX : ∀ (u97 : Int32) (u98 : Int32) (E99 : bq_E) (H1 : Heap) (locs1 : List Loc) (ls1 : Array Slot), K u97 u98 E99 = some R → bq_H g L E99 z s.heap H1 locs1 → lv_has ls1 13 [(0, .ref a0), (1, .ref a1), (2, .ref a2), (3, .ref a3), (4, .int x4), (5, .int x5), (6, .int u97)] → W p l e { frames := 11, cells := 129, slots := 774, locals := 200 } s m args below meth c H1 locs1 35 210 (MQ below (bq_Q g L R.2 z (some (.int (bq_b R.1)))) args s 129 774 (bq_A z)) (F0 m 144 ls1 [])), ∀ (n : Nat) (z87 : Int32) (z88 : Int32) (E89 : bq_E) (cl sl : Nat) (H1 : Heap) (locs1 : List Loc) (ls1 : Array Slot), cl + 1 * n ≤ 35 → sl + 6 * n ≤ 210 → tl_L_isSo_89 a0 a1 a2 a3 x4 x5 K n z87 z88 E89 = some R → bq_H g L E89 z s.heap H1 locs1 → lv_has ls1 13 [(0, .ref a0), (1, .ref a1), (2, .ref a2), (3, .ref a3), (4, .int x4), (5, .int x5), (6, .int z87), (7, .int z88)] → W p l e { frames := 11, cells := 129, slots := 774, locals := 200 } s m args below meth c H1 locs1 cl sl (MQ below (bq_Q g L R.2 z (some (.int (bq_b R.1)))) args s 129 774 (bq_A z)) (F0 m 89 ls1 []) := by
      intro K hX n
      induction n with
      | zero => intro z87 z88 E89 cl sl H locs ls _ _ h hW hl; cases h
      | succ n ih =>
        intro z87 z88 E89 cl sl H locs ls hcl hsl h hW hl
        rw [tl_L_isSo_89.eq_2] at h
        refine lv_iload hx hb dL_isSo_89 (lv_at hl 7 rfl) ?_
        refine lv_aload_n hx hb dL_isSo_91 rfl (lv_at hl 3 rfl) ?_
        refine lv_iload hx hb dL_isSo_92 (lv_at hl 4 rfl) ?_
        obtain ⟨v90, hv, h⟩ := bq_bind h
        refine bq_iald S hK dL_isSo_94 hv hW ?_
        refine lv_icmp_gt (tgt := 144) hx hb dL_isSo_95 (by decide) (fun hc => ?_) (fun hc => ?_)
        · replace h := bq_ifT hc h
          refine W.widen (k := 35) (n := 210) (by omega) (by omega) ?_
          exact hX z87 z88 E89 _ _ _ h hW (lv_sub hl [0, 1, 2, 3, 4, 5, 6] rfl)
        · replace h := bq_ifF hc h
          refine lv_iload hx hb dL_isSo_98 (lv_at hl 6 rfl) ?_
          refine lv_if_eq (tgt := 144) hx hb dL_isSo_100 (by decide) (fun hc => ?_) (fun hc => ?_)
          · replace h := bq_ifT hc h
            refine W.widen (k := 35) (n := 210) (by omega) (by omega) ?_
            exact hX z87 z88 E89 _ _ _ h hW (lv_sub hl [0, 1, 2, 3, 4, 5, 6] rfl)
          · replace h := bq_ifF hc h
            refine lv_aload_n hx hb dL_isSo_103 rfl (lv_at hl 0 rfl) ?_
            refine lv_iload hx hb dL_isSo_104 (lv_at hl 4 rfl) ?_
            refine lv_iload hx hb dL_isSo_106 (lv_at hl 7 rfl) ?_
            obtain ⟨v91, hv, h⟩ := bq_bind h
            refine bq_callSL (n := 3) S hK hz hT hN (bq_inSW (bq_wi 513 (by decide +kernel) rfl) (bq_wi 514 (by decide +kernel) rfl) (bq_wi 16 (by decide +kernel) rfl) (bq_wi 515 (by decide +kernel) rfl)) (by decide +kernel) (cl_L_baseOf hfl hv) dL_isSo_108 [.int v91.1] (rest := []) rfl rfl rfl hl.1 (Nat.le_of_ble_eq_true rfl) ⟨Nat.le_of_ble_eq_true rfl, Nat.le_of_ble_eq_true rfl⟩ ⟨by show _ ≤ 129; omega, by show _ ≤ 774; omega⟩ hW (fun H locs hW => ?_)
            refine lv_iload hx hb dL_isSo_111 (lv_at hl 7 rfl) ?_
            refine lv_aload_n hx hb dL_isSo_113 rfl (lv_at hl 3 rfl) ?_
            refine lv_iload hx hb dL_isSo_114 (lv_at hl 4 rfl) ?_
            obtain ⟨v92, hv, h⟩ := bq_bind h
            refine bq_iald S hK dL_isSo_116 hv hW ?_
            obtain ⟨k128, ek128, h⟩ := bq_letK h
            have hjk128 : ∀ (b93 : Int32) (H1 : Heap) (locs1 : List Loc) (ls1 : Array Slot), k128 b93 = some R → bq_H g L v91.2 z s.heap H1 locs1 → lv_has ls1 13 [(0, .ref a0), (1, .ref a1), (2, .ref a2), (3, .ref a3), (4, .int x4), (5, .int x5), (7, .int z88)] → W p l e { frames := 11, cells := 129, slots := 774, locals := 200 } s m args below meth c H1 locs1 (cl + 1) (sl + 6) (MQ below (bq_Q g L R.2 z (some (.int (bq_b R.1)))) args s 129 774 (bq_A z)) (F0 m 128 ls1 [.int b93, .int v91.1]) := by
              intro b93 H locs ls h hW hl
              replace h := bq_kap1 ek128 h
              refine lv_icmp_ne (tgt := 135) hx hb dL_isSo_128 (by decide) (fun hc => ?_) (fun hc => ?_)
              · replace h := bq_ifF hc h
                refine lv_iconst (v := 0) hx hb dL_isSo_135 (by decide) ?_
                refine lv_istore (lv' := [(6, .int (0 : Int32)), (0, .ref a0), (1, .ref a1), (2, .ref a2), (3, .ref a3), (4, .int x4), (5, .int x5), (7, .int z88)]) hx hb dL_isSo_136 hl (by decide) rfl (fun ls hl => ?_)
                obtain ⟨v94, ev94⟩ : ∃ y : Int32, y = z88 + 1 := ⟨_, rfl⟩
                replace h := bq_letE ev94 h
                refine lv_iinc (v := v94) (lv' := [(7, .int v94), (6, .int (0 : Int32)), (0, .ref a0), (1, .ref a1), (2, .ref a2), (3, .ref a3), (4, .int x4), (5, .int x5)]) hx hb dL_isSo_138 hl (k := 7) rfl (by rw [ev94]; rfl) (by decide) rfl (fun ls hl => ?_)
                refine lv_goto (tgt := 89) hx hb dL_isSo_141 (by decide) ?_
                exact ih (0 : Int32) v94 v91.2 (cl + 1) (sl + 6) _ _ _ (by omega) (by omega) h hW (lv_sub hl [2, 3, 4, 5, 6, 7, 1, 0] rfl)
              · replace h := bq_ifT hc h
                refine lv_iconst (v := 1) hx hb dL_isSo_131 (by decide) ?_
                refine lv_goto (tgt := 136) hx hb dL_isSo_132 (by decide) ?_
                refine lv_istore (lv' := [(6, .int (1 : Int32)), (0, .ref a0), (1, .ref a1), (2, .ref a2), (3, .ref a3), (4, .int x4), (5, .int x5), (7, .int z88)]) hx hb dL_isSo_136 hl (by decide) rfl (fun ls hl => ?_)
                obtain ⟨v95, ev95⟩ : ∃ y : Int32, y = z88 + 1 := ⟨_, rfl⟩
                replace h := bq_letE ev95 h
                refine lv_iinc (v := v95) (lv' := [(7, .int v95), (6, .int (1 : Int32)), (0, .ref a0), (1, .ref a1), (2, .ref a2), (3, .ref a3), (4, .int x4), (5, .int x5)]) hx hb dL_isSo_138 hl (k := 7) rfl (by rw [ev95]; rfl) (by decide) rfl (fun ls hl => ?_)
                refine lv_goto (tgt := 89) hx hb dL_isSo_141 (by decide) ?_
                exact ih (1 : Int32) v95 v91.2 (cl + 1) (sl + 6) _ _ _ (by omega) (by omega) h hW (lv_sub hl [2, 3, 4, 5, 6, 7, 1, 0] rfl)
            clear ek128
            refine lv_icmp_ne (tgt := 124) hx hb dL_isSo_117 (by decide) (fun hc => ?_) (fun hc => ?_)
            · replace h := bq_ifF hc h
              refine lv_aload_n hx hb dL_isSo_124 rfl (lv_at hl 1 rfl) ?_
              refine lv_iload hx hb dL_isSo_125 (lv_at hl 7 rfl) ?_
              obtain ⟨v96, hv, h⟩ := bq_bind h
              refine bq_iald S hK dL_isSo_127 hv hW ?_
              refine W.widen (k := (cl + 1)) (n := (sl + 6)) (by omega) (by omega) ?_
              exact hjk128 v96 _ _ _ h hW (lv_sub hl [0, 1, 2, 3, 4, 5, 7] rfl)
            · replace h := bq_ifT hc h
              refine lv_iconst (v := (-1)) hx hb dL_isSo_120 (by decide) ?_
              refine lv_goto (tgt := 128) hx hb dL_isSo_121 (by decide) ?_
              refine W.widen (k := (cl + 1)) (n := (sl + 6)) (by omega) (by omega) ?_
              exact hjk128 (-1 : Int32) _ _ _ h hW (lv_sub hl [0, 1, 2, 3, 4, 5, 7] rfl)
    refine W.widen (k := 5) (n := 30) (by omega) (by omega) ?_
    refine hL89 _ (fun y5 y6 E7 H locs ls h hW hl => ?_) 30 b3 (0 : Int32) E4 5 30 _ _ _ (by omega) (by omega) h hW (lv_sub hl [2, 3, 4, 5, 6, 7, 1, 0] rfl)
    refine lv_iconst (v := 0) hx hb dL_isSo_144 (by decide) ?_
    refine lv_istore (lv' := [(7, .int (0 : Int32)), (0, .ref a0), (1, .ref a1), (2, .ref a2), (3, .ref a3), (4, .int x4), (5, .int x5), (6, .int y5)]) hx hb dL_isSo_145 hl (by decide) rfl (fun ls hl => ?_)
    have hL147 : ∀ (K : Int32 → Int32 → bq_E → Option (Bool × bq_E)) (hX : ∀ (u84 : Int32) (u85 : Int32) (E86 : bq_E) (H1 : Heap) (locs1 : List Loc) (ls1 : Array Slot), K u84 u85 E86 = some R → bq_H g L E86 z s.heap H1 locs1 → lv_has ls1 13 [(0, .ref a0), (1, .ref a1), (2, .ref a2), (3, .ref a3), (4, .int x4), (5, .int x5), (6, .int u84)] → W p l e { frames := 11, cells := 129, slots := 774, locals := 200 } s m args below meth c H1 locs1 65 390 (MQ below (bq_Q g L R.2 z (some (.int (bq_b R.1)))) args s 129 774 (bq_A z)) (F0 m 214 ls1 [])), ∀ (n : Nat) (z74 : Int32) (z75 : Int32) (E76 : bq_E) (cl sl : Nat) (H1 : Heap) (locs1 : List Loc) (ls1 : Array Slot), cl + 1 * n ≤ 65 → sl + 6 * n ≤ 390 → tl_L_isSo_147 a0 a1 a2 a3 x4 x5 K n z74 z75 E76 = some R → bq_H g L E76 z s.heap H1 locs1 → lv_has ls1 13 [(0, .ref a0), (1, .ref a1), (2, .ref a2), (3, .ref a3), (4, .int x4), (5, .int x5), (6, .int z74), (7, .int z75)] → W p l e { frames := 11, cells := 129, slots := 774, locals := 200 } s m args below meth c H1 locs1 cl sl (MQ below (bq_Q g L R.2 z (some (.int (bq_b R.1)))) args s 129 774 (bq_A z)) (F0 m 147 ls1 []) := by
      intro K hX n
      induction n with
      | zero => intro z74 z75 E76 cl sl H locs ls _ _ h hW hl; cases h
      | succ n ih =>
        intro z74 z75 E76 cl sl H locs ls hcl hsl h hW hl
        rw [tl_L_isSo_147.eq_2] at h
        refine lv_iload hx hb dL_isSo_147 (lv_at hl 7 rfl) ?_
        refine lv_aload_n hx hb dL_isSo_149 rfl (lv_at hl 3 rfl) ?_
        refine lv_bipush (v := 8) hx hb dL_isSo_150 (by decide) ?_
        refine lv_iload hx hb dL_isSo_152 (lv_at hl 4 rfl) ?_
        refine lv_iadd hx hb dL_isSo_154 ?_
        obtain ⟨v77, hv, h⟩ := bq_bind h
        refine bq_iald S hK dL_isSo_155 hv hW ?_
        refine lv_icmp_gt (tgt := 214) hx hb dL_isSo_156 (by decide) (fun hc => ?_) (fun hc => ?_)
        · replace h := bq_ifT hc h
          refine W.widen (k := 65) (n := 390) (by omega) (by omega) ?_
          exact hX z74 z75 E76 _ _ _ h hW (lv_sub hl [0, 1, 2, 3, 4, 5, 6] rfl)
        · replace h := bq_ifF hc h
          refine lv_iload hx hb dL_isSo_159 (lv_at hl 6 rfl) ?_
          refine lv_if_eq (tgt := 214) hx hb dL_isSo_161 (by decide) (fun hc => ?_) (fun hc => ?_)
          · replace h := bq_ifT hc h
            refine W.widen (k := 65) (n := 390) (by omega) (by omega) ?_
            exact hX z74 z75 E76 _ _ _ h hW (lv_sub hl [0, 1, 2, 3, 4, 5, 6] rfl)
          · replace h := bq_ifF hc h
            refine lv_aload_n hx hb dL_isSo_164 rfl (lv_at hl 0 rfl) ?_
            refine lv_iload hx hb dL_isSo_165 (lv_at hl 4 rfl) ?_
            refine lv_iload hx hb dL_isSo_167 (lv_at hl 7 rfl) ?_
            obtain ⟨v78, hv, h⟩ := bq_bind h
            refine bq_callSL (n := 3) S hK hz hT hN (bq_inSW (bq_wi 526 (by decide +kernel) rfl) (bq_wi 527 (by decide +kernel) rfl) (bq_wi 16 (by decide +kernel) rfl) (bq_wi 528 (by decide +kernel) rfl)) (by decide +kernel) (cl_L_bufferOf hfl hv) dL_isSo_169 [.int v78.1] (rest := []) rfl rfl rfl hl.1 (Nat.le_of_ble_eq_true rfl) ⟨Nat.le_of_ble_eq_true rfl, Nat.le_of_ble_eq_true rfl⟩ ⟨by show _ ≤ 129; omega, by show _ ≤ 774; omega⟩ hW (fun H locs hW => ?_)
            refine lv_iload hx hb dL_isSo_172 (lv_at hl 7 rfl) ?_
            refine lv_aload_n hx hb dL_isSo_174 rfl (lv_at hl 3 rfl) ?_
            refine lv_bipush (v := 8) hx hb dL_isSo_175 (by decide) ?_
            refine lv_iload hx hb dL_isSo_177 (lv_at hl 4 rfl) ?_
            refine lv_iadd hx hb dL_isSo_179 ?_
            obtain ⟨v79, hv, h⟩ := bq_bind h
            refine bq_iald S hK dL_isSo_180 hv hW ?_
            obtain ⟨k198, ek198, h⟩ := bq_letK h
            have hjk198 : ∀ (b80 : Int32) (H1 : Heap) (locs1 : List Loc) (ls1 : Array Slot), k198 b80 = some R → bq_H g L v78.2 z s.heap H1 locs1 → lv_has ls1 13 [(0, .ref a0), (1, .ref a1), (2, .ref a2), (3, .ref a3), (4, .int x4), (5, .int x5), (7, .int z75)] → W p l e { frames := 11, cells := 129, slots := 774, locals := 200 } s m args below meth c H1 locs1 (cl + 1) (sl + 6) (MQ below (bq_Q g L R.2 z (some (.int (bq_b R.1)))) args s 129 774 (bq_A z)) (F0 m 198 ls1 [.int b80, .int v78.1]) := by
              intro b80 H locs ls h hW hl
              replace h := bq_kap1 ek198 h
              refine lv_icmp_ne (tgt := 205) hx hb dL_isSo_198 (by decide) (fun hc => ?_) (fun hc => ?_)
              · replace h := bq_ifF hc h
                refine lv_iconst (v := 0) hx hb dL_isSo_205 (by decide) ?_
                refine lv_istore (lv' := [(6, .int (0 : Int32)), (0, .ref a0), (1, .ref a1), (2, .ref a2), (3, .ref a3), (4, .int x4), (5, .int x5), (7, .int z75)]) hx hb dL_isSo_206 hl (by decide) rfl (fun ls hl => ?_)
                obtain ⟨v81, ev81⟩ : ∃ y : Int32, y = z75 + 1 := ⟨_, rfl⟩
                replace h := bq_letE ev81 h
                refine lv_iinc (v := v81) (lv' := [(7, .int v81), (6, .int (0 : Int32)), (0, .ref a0), (1, .ref a1), (2, .ref a2), (3, .ref a3), (4, .int x4), (5, .int x5)]) hx hb dL_isSo_208 hl (k := 7) rfl (by rw [ev81]; rfl) (by decide) rfl (fun ls hl => ?_)
                refine lv_goto (tgt := 147) hx hb dL_isSo_211 (by decide) ?_
                exact ih (0 : Int32) v81 v78.2 (cl + 1) (sl + 6) _ _ _ (by omega) (by omega) h hW (lv_sub hl [2, 3, 4, 5, 6, 7, 1, 0] rfl)
              · replace h := bq_ifT hc h
                refine lv_iconst (v := 1) hx hb dL_isSo_201 (by decide) ?_
                refine lv_goto (tgt := 206) hx hb dL_isSo_202 (by decide) ?_
                refine lv_istore (lv' := [(6, .int (1 : Int32)), (0, .ref a0), (1, .ref a1), (2, .ref a2), (3, .ref a3), (4, .int x4), (5, .int x5), (7, .int z75)]) hx hb dL_isSo_206 hl (by decide) rfl (fun ls hl => ?_)
                obtain ⟨v82, ev82⟩ : ∃ y : Int32, y = z75 + 1 := ⟨_, rfl⟩
                replace h := bq_letE ev82 h
                refine lv_iinc (v := v82) (lv' := [(7, .int v82), (6, .int (1 : Int32)), (0, .ref a0), (1, .ref a1), (2, .ref a2), (3, .ref a3), (4, .int x4), (5, .int x5)]) hx hb dL_isSo_208 hl (k := 7) rfl (by rw [ev82]; rfl) (by decide) rfl (fun ls hl => ?_)
                refine lv_goto (tgt := 147) hx hb dL_isSo_211 (by decide) ?_
                exact ih (1 : Int32) v82 v78.2 (cl + 1) (sl + 6) _ _ _ (by omega) (by omega) h hW (lv_sub hl [2, 3, 4, 5, 6, 7, 1, 0] rfl)
            clear ek198
            refine lv_icmp_ne (tgt := 188) hx hb dL_isSo_181 (by decide) (fun hc => ?_) (fun hc => ?_)
            · replace h := bq_ifF hc h
              refine lv_aload_n hx hb dL_isSo_188 rfl (lv_at hl 2 rfl) ?_
              refine lv_bipush (v := 8) hx hb dL_isSo_189 (by decide) ?_
              refine lv_iload hx hb dL_isSo_191 (lv_at hl 4 rfl) ?_
              refine lv_imul hx hb dL_isSo_193 ?_
              refine lv_iload hx hb dL_isSo_194 (lv_at hl 7 rfl) ?_
              refine lv_iadd hx hb dL_isSo_196 ?_
              obtain ⟨v83, hv, h⟩ := bq_bind h
              refine bq_iald S hK dL_isSo_197 hv hW ?_
              refine W.widen (k := (cl + 1)) (n := (sl + 6)) (by omega) (by omega) ?_
              exact hjk198 v83 _ _ _ h hW (lv_sub hl [0, 1, 2, 3, 4, 5, 7] rfl)
            · replace h := bq_ifT hc h
              refine lv_iconst (v := (-1)) hx hb dL_isSo_184 (by decide) ?_
              refine lv_goto (tgt := 198) hx hb dL_isSo_185 (by decide) ?_
              refine W.widen (k := (cl + 1)) (n := (sl + 6)) (by omega) (by omega) ?_
              exact hjk198 (-1 : Int32) _ _ _ h hW (lv_sub hl [0, 1, 2, 3, 4, 5, 7] rfl)
    refine W.widen (k := 35) (n := 210) (by omega) (by omega) ?_
    refine hL147 _ (fun y8 y9 E10 H locs ls h hW hl => ?_) 30 y5 (0 : Int32) E7 35 210 _ _ _ (by omega) (by omega) h hW (lv_sub hl [1, 2, 3, 4, 5, 6, 7, 0] rfl)
    refine lv_iconst (v := (-1)) hx hb dL_isSo_214 (by decide) ?_
    refine lv_istore (lv' := [(7, .int (-1 : Int32)), (0, .ref a0), (1, .ref a1), (2, .ref a2), (3, .ref a3), (4, .int x4), (5, .int x5), (6, .int y8)]) hx hb dL_isSo_215 hl (by decide) rfl (fun ls hl => ?_)
    refine lv_aload_n hx hb dL_isSo_217 rfl (lv_at hl 2 rfl) ?_
    refine lv_aload_n hx hb dL_isSo_218 rfl (lv_at hl 4 rfl) ?_
    refine lv_iload hx hb dL_isSo_219 (lv_at hl 5 rfl) ?_
    obtain ⟨v11, hv, h⟩ := bq_bind h
    refine bq_callS S hK hz ms_L_81 (c_L_size hv) dL_isSo_221 [.int v11] (rest := []) rfl rfl rfl hl.1 (Nat.le_of_ble_eq_true rfl) ⟨Nat.le_of_ble_eq_true rfl, Nat.le_of_ble_eq_true rfl⟩ ⟨by show _ ≤ 129; omega, by show _ ≤ 774; omega⟩ hW (fun H locs hW => ?_)
    refine lv_istore (lv' := [(8, .int v11), (7, .int (-1 : Int32)), (0, .ref a0), (1, .ref a1), (2, .ref a2), (3, .ref a3), (4, .int x4), (5, .int x5), (6, .int y8)]) hx hb dL_isSo_224 hl (by decide) rfl (fun ls hl => ?_)
    refine lv_iconst (v := 0) hx hb dL_isSo_226 (by decide) ?_
    refine lv_istore (lv' := [(9, .int (0 : Int32)), (8, .int v11), (7, .int (-1 : Int32)), (0, .ref a0), (1, .ref a1), (2, .ref a2), (3, .ref a3), (4, .int x4), (5, .int x5), (6, .int y8)]) hx hb dL_isSo_227 hl (by decide) rfl (fun ls hl => ?_)
    have hL229 : ∀ (K : Int32 → Int32 → Int32 → bq_E → Option (Bool × bq_E)) (hX : ∀ (u70 : Int32) (u71 : Int32) (u72 : Int32) (E73 : bq_E) (H1 : Heap) (locs1 : List Loc) (ls1 : Array Slot), K u70 u71 u72 E73 = some R → bq_H g L E73 z s.heap H1 locs1 → lv_has ls1 13 [(0, .ref a0), (1, .ref a1), (2, .ref a2), (3, .ref a3), (4, .int x4), (5, .int x5), (6, .int u70)] → W p l e { frames := 11, cells := 129, slots := 774, locals := 200 } s m args below meth c H1 locs1 125 750 (MQ below (bq_Q g L R.2 z (some (.int (bq_b R.1)))) args s 129 774 (bq_A z)) (F0 m 411 ls1 [])), ∀ (n : Nat) (z39 : Int32) (z40 : Int32) (z41 : Int32) (E42 : bq_E) (cl sl : Nat) (H1 : Heap) (locs1 : List Loc) (ls1 : Array Slot), cl + 2 * n ≤ 125 → sl + 12 * n ≤ 750 → tl_L_isSo_229 a0 a1 a2 a3 x4 x5 v11 K n z39 z40 z41 E42 = some R → bq_H g L E42 z s.heap H1 locs1 → lv_has ls1 13 [(0, .ref a0), (1, .ref a1), (2, .ref a2), (3, .ref a3), (4, .int x4), (5, .int x5), (6, .int z39), (7, .int z40), (8, .int v11), (9, .int z41)] → W p l e { frames := 11, cells := 129, slots := 774, locals := 200 } s m args below meth c H1 locs1 cl sl (MQ below (bq_Q g L R.2 z (some (.int (bq_b R.1)))) args s 129 774 (bq_A z)) (F0 m 229 ls1 []) := by
      intro K hX n
      induction n with
      | zero => intro z39 z40 z41 E42 cl sl H locs ls _ _ h hW hl; cases h
      | succ n ih =>
        intro z39 z40 z41 E42 cl sl H locs ls hcl hsl h hW hl
        rw [tl_L_isSo_229.eq_2] at h
        refine lv_iload hx hb dL_isSo_229 (lv_at hl 9 rfl) ?_
        refine lv_iload hx hb dL_isSo_231 (lv_at hl 8 rfl) ?_
        refine lv_icmp_gt (tgt := 411) hx hb dL_isSo_233 (by decide) (fun hc => ?_) (fun hc => ?_)
        · replace h := bq_ifT hc h
          refine W.widen (k := 125) (n := 750) (by omega) (by omega) ?_
          exact hX z39 z40 z41 E42 _ _ _ h hW (lv_sub hl [0, 1, 2, 3, 4, 5, 6] rfl)
        · replace h := bq_ifF hc h
          refine lv_iload hx hb dL_isSo_236 (lv_at hl 6 rfl) ?_
          refine lv_if_eq (tgt := 411) hx hb dL_isSo_238 (by decide) (fun hc => ?_) (fun hc => ?_)
          · replace h := bq_ifT hc h
            refine W.widen (k := 125) (n := 750) (by omega) (by omega) ?_
            exact hX z39 z40 z41 E42 _ _ _ h hW (lv_sub hl [0, 1, 2, 3, 4, 5, 6] rfl)
          · replace h := bq_ifF hc h
            refine lv_iconst (v := (-1)) hx hb dL_isSo_241 (by decide) ?_
            refine lv_istore (lv' := [(10, .int (-1 : Int32)), (0, .ref a0), (1, .ref a1), (2, .ref a2), (3, .ref a3), (4, .int x4), (5, .int x5), (6, .int z39), (7, .int z40), (8, .int v11), (9, .int z41)]) hx hb dL_isSo_242 hl (by decide) rfl (fun ls hl => ?_)
            refine lv_iconst (v := 0) hx hb dL_isSo_244 (by decide) ?_
            refine lv_istore (lv' := [(11, .int (0 : Int32)), (10, .int (-1 : Int32)), (0, .ref a0), (1, .ref a1), (2, .ref a2), (3, .ref a3), (4, .int x4), (5, .int x5), (6, .int z39), (7, .int z40), (8, .int v11), (9, .int z41)]) hx hb dL_isSo_245 hl (by decide) rfl (fun ls hl => ?_)
            have hL247 : ∀ (K : Int32 → Int32 → Option (Bool × bq_E)) (hX : ∀ (u68 : Int32) (u69 : Int32) (H1 : Heap) (locs1 : List Loc) (ls1 : Array Slot), K u68 u69 = some R → bq_H g L E42 z s.heap H1 locs1 → lv_has ls1 13 [(0, .ref a0), (1, .ref a1), (2, .ref a2), (3, .ref a3), (4, .int x4), (5, .int x5), (7, .int z40), (8, .int v11), (9, .int z41), (10, .int u68)] → W p l e { frames := 11, cells := 129, slots := 774, locals := 200 } s m args below meth c H1 locs1 cl sl (MQ below (bq_Q g L R.2 z (some (.int (bq_b R.1)))) args s 129 774 (bq_A z)) (F0 m 339 ls1 [])), ∀ (n : Nat) (z54 : Int32) (z55 : Int32) (H1 : Heap) (locs1 : List Loc) (ls1 : Array Slot), tl_L_isSo_247 E42 a0 a1 a2 a3 x4 x5 z40 v11 z41 K n z54 z55 = some R → bq_H g L E42 z s.heap H1 locs1 → lv_has ls1 13 [(0, .ref a0), (1, .ref a1), (2, .ref a2), (3, .ref a3), (4, .int x4), (5, .int x5), (7, .int z40), (8, .int v11), (9, .int z41), (10, .int z54), (11, .int z55)] → W p l e { frames := 11, cells := 129, slots := 774, locals := 200 } s m args below meth c H1 locs1 cl sl (MQ below (bq_Q g L R.2 z (some (.int (bq_b R.1)))) args s 129 774 (bq_A z)) (F0 m 247 ls1 []) := by
              intro K hX n
              induction n with
              | zero => intro z54 z55 H locs ls h hW hl; cases h
              | succ n ih =>
                intro z54 z55 H locs ls h hW hl
                rw [tl_L_isSo_247.eq_2] at h
                refine lv_iload hx hb dL_isSo_247 (lv_at hl 10 rfl) ?_
                refine lv_aload_n hx hb dL_isSo_249 rfl (lv_at hl 3 rfl) ?_
                refine lv_iload hx hb dL_isSo_250 (lv_at hl 4 rfl) ?_
                obtain ⟨v56, hv, h⟩ := bq_bind h
                refine bq_iald S hK dL_isSo_252 hv hW ?_
                refine lv_aload_n hx hb dL_isSo_253 rfl (lv_at hl 3 rfl) ?_
                refine lv_bipush (v := 8) hx hb dL_isSo_254 (by decide) ?_
                refine lv_iload hx hb dL_isSo_256 (lv_at hl 4 rfl) ?_
                refine lv_iadd hx hb dL_isSo_258 ?_
                obtain ⟨v57, hv, h⟩ := bq_bind h
                refine bq_iald S hK dL_isSo_259 hv hW ?_
                refine lv_iadd hx hb dL_isSo_260 ?_
                refine lv_icmp_ge (tgt := 339) hx hb dL_isSo_261 (by decide) (fun hc => ?_) (fun hc => ?_)
                · replace h := bq_ifT hc h
                  exact hX z54 z55 _ _ _ h hW (lv_sub hl [0, 1, 2, 3, 4, 5, 6, 7, 8, 9] rfl)
                · replace h := bq_ifF hc h
                  refine lv_iload hx hb dL_isSo_264 (lv_at hl 10 rfl) ?_
                  refine lv_aload_n hx hb dL_isSo_266 rfl (lv_at hl 3 rfl) ?_
                  refine lv_iload hx hb dL_isSo_267 (lv_at hl 4 rfl) ?_
                  obtain ⟨v58, hv, h⟩ := bq_bind h
                  refine bq_iald S hK dL_isSo_269 hv hW ?_
                  obtain ⟨k295, ek295, h⟩ := bq_letK h
                  have hjk295 : ∀ (b59 : Int32) (H1 : Heap) (locs1 : List Loc) (ls1 : Array Slot), k295 b59 = some R → bq_H g L E42 z s.heap H1 locs1 → lv_has ls1 13 [(0, .ref a0), (1, .ref a1), (2, .ref a2), (3, .ref a3), (4, .int x4), (5, .int x5), (7, .int z40), (8, .int v11), (9, .int z41), (10, .int z54), (11, .int z55)] → W p l e { frames := 11, cells := 129, slots := 774, locals := 200 } s m args below meth c H1 locs1 cl sl (MQ below (bq_Q g L R.2 z (some (.int (bq_b R.1)))) args s 129 774 (bq_A z)) (F0 m 295 ls1 [.int b59]) := by
                    intro b59 H locs ls h hW hl
                    replace h := bq_kap1 ek295 h
                    refine lv_istore (lv' := [(12, .int b59), (0, .ref a0), (1, .ref a1), (2, .ref a2), (3, .ref a3), (4, .int x4), (5, .int x5), (7, .int z40), (8, .int v11), (9, .int z41), (10, .int z54), (11, .int z55)]) hx hb dL_isSo_295 hl (by decide) rfl (fun ls hl => ?_)
                    refine lv_iload hx hb dL_isSo_297 (lv_at hl 0 rfl) ?_
                    refine lv_sipush (v := 10000) hx hb dL_isSo_299 (by decide) ?_
                    refine lv_icmp_ge (tgt := 329) hx hb dL_isSo_302 (by decide) (fun hc => ?_) (fun hc => ?_)
                    · replace h := bq_ifT hc h
                      refine lv_iload hx hb dL_isSo_329 (lv_at hl 10 rfl) ?_
                      refine lv_istore (lv' := [(10, .int z54), (12, .int b59), (0, .ref a0), (1, .ref a1), (2, .ref a2), (3, .ref a3), (4, .int x4), (5, .int x5), (7, .int z40), (8, .int v11), (9, .int z41), (11, .int z55)]) hx hb dL_isSo_331 hl (by decide) rfl (fun ls hl => ?_)
                      obtain ⟨v60, ev60⟩ : ∃ y : Int32, y = z55 + 1 := ⟨_, rfl⟩
                      replace h := bq_letE ev60 h
                      refine lv_iinc (v := v60) (lv' := [(11, .int v60), (10, .int z54), (12, .int b59), (0, .ref a0), (1, .ref a1), (2, .ref a2), (3, .ref a3), (4, .int x4), (5, .int x5), (7, .int z40), (8, .int v11), (9, .int z41)]) hx hb dL_isSo_333 hl (k := 11) rfl (by rw [ev60]; rfl) (by decide) rfl (fun ls hl => ?_)
                      refine lv_goto (tgt := 247) hx hb dL_isSo_336 (by decide) ?_
                      exact ih z54 v60 _ _ _ h hW (lv_sub hl [3, 4, 5, 6, 7, 8, 9, 10, 11, 1, 0] rfl)
                    · replace h := bq_ifF hc h
                      refine lv_iload hx hb dL_isSo_305 (lv_at hl 0 rfl) ?_
                      refine lv_iload hx hb dL_isSo_307 (lv_at hl 7 rfl) ?_
                      refine lv_icmp_le (tgt := 329) hx hb dL_isSo_309 (by decide) (fun hc => ?_) (fun hc => ?_)
                      · replace h := bq_ifT hc h
                        refine lv_iload hx hb dL_isSo_329 (lv_at hl 10 rfl) ?_
                        refine lv_istore (lv' := [(10, .int z54), (12, .int b59), (0, .ref a0), (1, .ref a1), (2, .ref a2), (3, .ref a3), (4, .int x4), (5, .int x5), (7, .int z40), (8, .int v11), (9, .int z41), (11, .int z55)]) hx hb dL_isSo_331 hl (by decide) rfl (fun ls hl => ?_)
                        obtain ⟨v61, ev61⟩ : ∃ y : Int32, y = z55 + 1 := ⟨_, rfl⟩
                        replace h := bq_letE ev61 h
                        refine lv_iinc (v := v61) (lv' := [(11, .int v61), (10, .int z54), (12, .int b59), (0, .ref a0), (1, .ref a1), (2, .ref a2), (3, .ref a3), (4, .int x4), (5, .int x5), (7, .int z40), (8, .int v11), (9, .int z41)]) hx hb dL_isSo_333 hl (k := 11) rfl (by rw [ev61]; rfl) (by decide) rfl (fun ls hl => ?_)
                        refine lv_goto (tgt := 247) hx hb dL_isSo_336 (by decide) ?_
                        exact ih z54 v61 _ _ _ h hW (lv_sub hl [3, 4, 5, 6, 7, 8, 9, 10, 11, 1, 0] rfl)
                      · replace h := bq_ifF hc h
                        refine lv_iload hx hb dL_isSo_312 (lv_at hl 10 rfl) ?_
                        refine lv_if_lt (tgt := 324) hx hb dL_isSo_314 (by decide) (fun hc => ?_) (fun hc => ?_)
                        · replace h := bq_ifT hc h
                          refine lv_iload hx hb dL_isSo_324 (lv_at hl 0 rfl) ?_
                          refine lv_goto (tgt := 331) hx hb dL_isSo_326 (by decide) ?_
                          refine lv_istore (lv' := [(10, .int b59), (12, .int b59), (0, .ref a0), (1, .ref a1), (2, .ref a2), (3, .ref a3), (4, .int x4), (5, .int x5), (7, .int z40), (8, .int v11), (9, .int z41), (11, .int z55)]) hx hb dL_isSo_331 hl (by decide) rfl (fun ls hl => ?_)
                          obtain ⟨v62, ev62⟩ : ∃ y : Int32, y = z55 + 1 := ⟨_, rfl⟩
                          replace h := bq_letE ev62 h
                          refine lv_iinc (v := v62) (lv' := [(11, .int v62), (10, .int b59), (12, .int b59), (0, .ref a0), (1, .ref a1), (2, .ref a2), (3, .ref a3), (4, .int x4), (5, .int x5), (7, .int z40), (8, .int v11), (9, .int z41)]) hx hb dL_isSo_333 hl (k := 11) rfl (by rw [ev62]; rfl) (by decide) rfl (fun ls hl => ?_)
                          refine lv_goto (tgt := 247) hx hb dL_isSo_336 (by decide) ?_
                          exact ih b59 v62 _ _ _ h hW (lv_sub hl [3, 4, 5, 6, 7, 8, 9, 10, 11, 1, 0] rfl)
                        · replace h := bq_ifF hc h
                          refine lv_iload hx hb dL_isSo_317 (lv_at hl 0 rfl) ?_
                          refine lv_iload hx hb dL_isSo_319 (lv_at hl 10 rfl) ?_
                          refine lv_icmp_ge (tgt := 329) hx hb dL_isSo_321 (by decide) (fun hc => ?_) (fun hc => ?_)
                          · replace h := bq_ifT hc h
                            refine lv_iload hx hb dL_isSo_329 (lv_at hl 10 rfl) ?_
                            refine lv_istore (lv' := [(10, .int z54), (12, .int b59), (0, .ref a0), (1, .ref a1), (2, .ref a2), (3, .ref a3), (4, .int x4), (5, .int x5), (7, .int z40), (8, .int v11), (9, .int z41), (11, .int z55)]) hx hb dL_isSo_331 hl (by decide) rfl (fun ls hl => ?_)
                            obtain ⟨v63, ev63⟩ : ∃ y : Int32, y = z55 + 1 := ⟨_, rfl⟩
                            replace h := bq_letE ev63 h
                            refine lv_iinc (v := v63) (lv' := [(11, .int v63), (10, .int z54), (12, .int b59), (0, .ref a0), (1, .ref a1), (2, .ref a2), (3, .ref a3), (4, .int x4), (5, .int x5), (7, .int z40), (8, .int v11), (9, .int z41)]) hx hb dL_isSo_333 hl (k := 11) rfl (by rw [ev63]; rfl) (by decide) rfl (fun ls hl => ?_)
                            refine lv_goto (tgt := 247) hx hb dL_isSo_336 (by decide) ?_
                            exact ih z54 v63 _ _ _ h hW (lv_sub hl [3, 4, 5, 6, 7, 8, 9, 10, 11, 1, 0] rfl)
                          · replace h := bq_ifF hc h
                            refine lv_iload hx hb dL_isSo_324 (lv_at hl 0 rfl) ?_
                            refine lv_goto (tgt := 331) hx hb dL_isSo_326 (by decide) ?_
                            refine lv_istore (lv' := [(10, .int b59), (12, .int b59), (0, .ref a0), (1, .ref a1), (2, .ref a2), (3, .ref a3), (4, .int x4), (5, .int x5), (7, .int z40), (8, .int v11), (9, .int z41), (11, .int z55)]) hx hb dL_isSo_331 hl (by decide) rfl (fun ls hl => ?_)
                            obtain ⟨v64, ev64⟩ : ∃ y : Int32, y = z55 + 1 := ⟨_, rfl⟩
                            replace h := bq_letE ev64 h
                            refine lv_iinc (v := v64) (lv' := [(11, .int v64), (10, .int b59), (12, .int b59), (0, .ref a0), (1, .ref a1), (2, .ref a2), (3, .ref a3), (4, .int x4), (5, .int x5), (7, .int z40), (8, .int v11), (9, .int z41)]) hx hb dL_isSo_333 hl (k := 11) rfl (by rw [ev64]; rfl) (by decide) rfl (fun ls hl => ?_)
                            refine lv_goto (tgt := 247) hx hb dL_isSo_336 (by decide) ?_
                            exact ih b59 v64 _ _ _ h hW (lv_sub hl [3, 4, 5, 6, 7, 8, 9, 10, 11, 1, 0] rfl)
                  clear ek295
                  refine lv_icmp_ge (tgt := 280) hx hb dL_isSo_270 (by decide) (fun hc => ?_) (fun hc => ?_)
                  · replace h := bq_ifT hc h
                    refine lv_aload_n hx hb dL_isSo_280 rfl (lv_at hl 2 rfl) ?_
                    refine lv_bipush (v := 8) hx hb dL_isSo_281 (by decide) ?_
                    refine lv_iload hx hb dL_isSo_283 (lv_at hl 4 rfl) ?_
                    refine lv_imul hx hb dL_isSo_285 ?_
                    refine lv_iload hx hb dL_isSo_286 (lv_at hl 10 rfl) ?_
                    refine lv_iadd hx hb dL_isSo_288 ?_
                    refine lv_aload_n hx hb dL_isSo_289 rfl (lv_at hl 3 rfl) ?_
                    refine lv_iload hx hb dL_isSo_290 (lv_at hl 4 rfl) ?_
                    obtain ⟨v65, hv, h⟩ := bq_bind h
                    refine bq_iald S hK dL_isSo_292 hv hW ?_
                    refine lv_isub hx hb dL_isSo_293 ?_
                    obtain ⟨v66, hv, h⟩ := bq_bind h
                    refine bq_iald S hK dL_isSo_294 hv hW ?_
                    refine W.widen (k := cl) (n := sl) (by omega) (by omega) ?_
                    exact hjk295 v66 _ _ _ h hW (lv_sub hl [0, 1, 2, 3, 4, 5, 6, 7, 8, 9, 10] rfl)
                  · replace h := bq_ifF hc h
                    refine lv_aload_n hx hb dL_isSo_273 rfl (lv_at hl 1 rfl) ?_
                    refine lv_iload hx hb dL_isSo_274 (lv_at hl 10 rfl) ?_
                    obtain ⟨v67, hv, h⟩ := bq_bind h
                    refine bq_iald S hK dL_isSo_276 hv hW ?_
                    refine lv_goto (tgt := 295) hx hb dL_isSo_277 (by decide) ?_
                    refine W.widen (k := cl) (n := sl) (by omega) (by omega) ?_
                    exact hjk295 v67 _ _ _ h hW (lv_sub hl [0, 1, 2, 3, 4, 5, 6, 7, 8, 9, 10] rfl)
            refine W.widen (k := cl) (n := sl) (by omega) (by omega) ?_
            refine hL247 _ (fun y43 y44 H locs ls h hW hl => ?_) bq_fuel (-1 : Int32) (0 : Int32) _ _ _ h hW (lv_sub hl [2, 3, 4, 5, 6, 7, 9, 10, 11, 1, 0] rfl)
            refine lv_aload_n hx hb dL_isSo_339 rfl (lv_at hl 0 rfl) ?_
            refine lv_iload hx hb dL_isSo_340 (lv_at hl 4 rfl) ?_
            refine lv_iload hx hb dL_isSo_342 (lv_at hl 8 rfl) ?_
            obtain ⟨v45, hv, h⟩ := bq_bind h
            refine bq_callSL (n := 3) S hK hz hT hN (bq_inSW (bq_wi 533 (by decide +kernel) rfl) (bq_wi 534 (by decide +kernel) rfl) (bq_wi 16 (by decide +kernel) rfl) (bq_wi 535 (by decide +kernel) rfl)) (by decide +kernel) (cl_L_keyOf hfl hv) dL_isSo_344 [.int v45.1] (rest := []) rfl rfl rfl hl.1 (Nat.le_of_ble_eq_true rfl) ⟨Nat.le_of_ble_eq_true rfl, Nat.le_of_ble_eq_true rfl⟩ ⟨by show _ ≤ 129; omega, by show _ ≤ 774; omega⟩ hW (fun H locs hW => ?_)
            refine lv_iload hx hb dL_isSo_347 (lv_at hl 9 rfl) ?_
            obtain ⟨k357, ek357, h⟩ := bq_letK h
            have hjk357 : ∀ (b46 : Int32) (H1 : Heap) (locs1 : List Loc) (ls1 : Array Slot), k357 b46 = some R → bq_H g L v45.2 z s.heap H1 locs1 → lv_has ls1 13 [(0, .ref a0), (1, .ref a1), (2, .ref a2), (3, .ref a3), (4, .int x4), (5, .int x5), (7, .int z40), (8, .int v11), (9, .int z41), (10, .int y43)] → W p l e { frames := 11, cells := 129, slots := 774, locals := 200 } s m args below meth c H1 locs1 (cl + 1) (sl + 6) (MQ below (bq_Q g L R.2 z (some (.int (bq_b R.1)))) args s 129 774 (bq_A z)) (F0 m 357 ls1 [.int b46]) := by
              intro b46 H locs ls h hW hl
              replace h := bq_kap1 ek357 h
              refine lv_istore (lv' := [(6, .int b46), (0, .ref a0), (1, .ref a1), (2, .ref a2), (3, .ref a3), (4, .int x4), (5, .int x5), (7, .int z40), (8, .int v11), (9, .int z41), (10, .int y43)]) hx hb dL_isSo_357 hl (by decide) rfl (fun ls hl => ?_)
              refine lv_iload hx hb dL_isSo_359 (lv_at hl 0 rfl) ?_
              refine lv_if_eq (tgt := 398) hx hb dL_isSo_361 (by decide) (fun hc => ?_) (fun hc => ?_)
              · replace h := bq_ifT hc h
                refine lv_iconst (v := 0) hx hb dL_isSo_398 (by decide) ?_
                refine lv_istore (lv' := [(6, .int (0 : Int32)), (0, .ref a0), (1, .ref a1), (2, .ref a2), (3, .ref a3), (4, .int x4), (5, .int x5), (7, .int z40), (8, .int v11), (9, .int z41), (10, .int y43)]) hx hb dL_isSo_399 hl (by decide) rfl (fun ls hl => ?_)
                refine lv_iload hx hb dL_isSo_401 (lv_at hl 10 rfl) ?_
                refine lv_istore (lv' := [(7, .int y43), (6, .int (0 : Int32)), (0, .ref a0), (1, .ref a1), (2, .ref a2), (3, .ref a3), (4, .int x4), (5, .int x5), (8, .int v11), (9, .int z41), (10, .int y43)]) hx hb dL_isSo_403 hl (by decide) rfl (fun ls hl => ?_)
                obtain ⟨v47, ev47⟩ : ∃ y : Int32, y = z41 + 1 := ⟨_, rfl⟩
                replace h := bq_letE ev47 h
                refine lv_iinc (v := v47) (lv' := [(9, .int v47), (7, .int y43), (6, .int (0 : Int32)), (0, .ref a0), (1, .ref a1), (2, .ref a2), (3, .ref a3), (4, .int x4), (5, .int x5), (8, .int v11), (10, .int y43)]) hx hb dL_isSo_405 hl (k := 9) rfl (by rw [ev47]; rfl) (by decide) rfl (fun ls hl => ?_)
                refine lv_goto (tgt := 229) hx hb dL_isSo_408 (by decide) ?_
                exact ih (0 : Int32) y43 v47 v45.2 (cl + 1) (sl + 6) _ _ _ (by omega) (by omega) h hW (lv_sub hl [3, 4, 5, 6, 7, 8, 2, 1, 9, 0] rfl)
              · replace h := bq_ifF hc h
                refine lv_iload hx hb dL_isSo_364 (lv_at hl 9 rfl) ?_
                refine lv_iconst (v := 3) hx hb dL_isSo_366 (by decide) ?_
                refine lv_irem hx hb dL_isSo_367 (by decide) ?_
                refine lv_topi (fun v48 ev48 => ?_)
                replace h := bq_letE ev48 h
                refine lv_if_gt (tgt := 394) hx hb dL_isSo_368 (by decide) (fun hc => ?_) (fun hc => ?_)
                · replace h := bq_ifT hc h
                  refine lv_iconst (v := 1) hx hb dL_isSo_394 (by decide) ?_
                  refine lv_goto (tgt := 399) hx hb dL_isSo_395 (by decide) ?_
                  refine lv_istore (lv' := [(6, .int (1 : Int32)), (0, .ref a0), (1, .ref a1), (2, .ref a2), (3, .ref a3), (4, .int x4), (5, .int x5), (7, .int z40), (8, .int v11), (9, .int z41), (10, .int y43)]) hx hb dL_isSo_399 hl (by decide) rfl (fun ls hl => ?_)
                  refine lv_iload hx hb dL_isSo_401 (lv_at hl 10 rfl) ?_
                  refine lv_istore (lv' := [(7, .int y43), (6, .int (1 : Int32)), (0, .ref a0), (1, .ref a1), (2, .ref a2), (3, .ref a3), (4, .int x4), (5, .int x5), (8, .int v11), (9, .int z41), (10, .int y43)]) hx hb dL_isSo_403 hl (by decide) rfl (fun ls hl => ?_)
                  obtain ⟨v49, ev49⟩ : ∃ y : Int32, y = z41 + 1 := ⟨_, rfl⟩
                  replace h := bq_letE ev49 h
                  refine lv_iinc (v := v49) (lv' := [(9, .int v49), (7, .int y43), (6, .int (1 : Int32)), (0, .ref a0), (1, .ref a1), (2, .ref a2), (3, .ref a3), (4, .int x4), (5, .int x5), (8, .int v11), (10, .int y43)]) hx hb dL_isSo_405 hl (k := 9) rfl (by rw [ev49]; rfl) (by decide) rfl (fun ls hl => ?_)
                  refine lv_goto (tgt := 229) hx hb dL_isSo_408 (by decide) ?_
                  exact ih (1 : Int32) y43 v49 v45.2 (cl + 1) (sl + 6) _ _ _ (by omega) (by omega) h hW (lv_sub hl [3, 4, 5, 6, 7, 8, 2, 1, 9, 0] rfl)
                · replace h := bq_ifF hc h
                  refine lv_iload hx hb dL_isSo_371 (lv_at hl 7 rfl) ?_
                  refine lv_sipush (v := 9998) hx hb dL_isSo_373 (by decide) ?_
                  refine lv_icmp_gt (tgt := 394) hx hb dL_isSo_376 (by decide) (fun hc => ?_) (fun hc => ?_)
                  · replace h := bq_ifT hc h
                    refine lv_iconst (v := 1) hx hb dL_isSo_394 (by decide) ?_
                    refine lv_goto (tgt := 399) hx hb dL_isSo_395 (by decide) ?_
                    refine lv_istore (lv' := [(6, .int (1 : Int32)), (0, .ref a0), (1, .ref a1), (2, .ref a2), (3, .ref a3), (4, .int x4), (5, .int x5), (7, .int z40), (8, .int v11), (9, .int z41), (10, .int y43)]) hx hb dL_isSo_399 hl (by decide) rfl (fun ls hl => ?_)
                    refine lv_iload hx hb dL_isSo_401 (lv_at hl 10 rfl) ?_
                    refine lv_istore (lv' := [(7, .int y43), (6, .int (1 : Int32)), (0, .ref a0), (1, .ref a1), (2, .ref a2), (3, .ref a3), (4, .int x4), (5, .int x5), (8, .int v11), (9, .int z41), (10, .int y43)]) hx hb dL_isSo_403 hl (by decide) rfl (fun ls hl => ?_)
                    obtain ⟨v50, ev50⟩ : ∃ y : Int32, y = z41 + 1 := ⟨_, rfl⟩
                    replace h := bq_letE ev50 h
                    refine lv_iinc (v := v50) (lv' := [(9, .int v50), (7, .int y43), (6, .int (1 : Int32)), (0, .ref a0), (1, .ref a1), (2, .ref a2), (3, .ref a3), (4, .int x4), (5, .int x5), (8, .int v11), (10, .int y43)]) hx hb dL_isSo_405 hl (k := 9) rfl (by rw [ev50]; rfl) (by decide) rfl (fun ls hl => ?_)
                    refine lv_goto (tgt := 229) hx hb dL_isSo_408 (by decide) ?_
                    exact ih (1 : Int32) y43 v50 v45.2 (cl + 1) (sl + 6) _ _ _ (by omega) (by omega) h hW (lv_sub hl [3, 4, 5, 6, 7, 8, 2, 1, 9, 0] rfl)
                  · replace h := bq_ifF hc h
                    refine lv_aload_n hx hb dL_isSo_379 rfl (lv_at hl 1 rfl) ?_
                    refine lv_iload hx hb dL_isSo_380 (lv_at hl 5 rfl) ?_
                    refine lv_iload hx hb dL_isSo_382 (lv_at hl 7 rfl) ?_
                    refine lv_iconst (v := 1) hx hb dL_isSo_384 (by decide) ?_
                    refine lv_iadd hx hb dL_isSo_385 ?_
                    obtain ⟨v51, hv, h⟩ := bq_bind h
                    refine bq_callSL (n := 3) S hK hz hT hN (bq_inSW (bq_wi 554 (by decide +kernel) rfl) (bq_wi 555 (by decide +kernel) rfl) (bq_wi 16 (by decide +kernel) rfl) (bq_wi 556 (by decide +kernel) rfl)) (by decide +kernel) (cl_L_finds hfl hv) dL_isSo_386 [.int v51.1] (rest := []) rfl rfl rfl hl.1 (Nat.le_of_ble_eq_true rfl) ⟨Nat.le_of_ble_eq_true rfl, Nat.le_of_ble_eq_true rfl⟩ ⟨by show _ ≤ 129; omega, by show _ ≤ 774; omega⟩ hW (fun H locs hW => ?_)
                    refine lv_iload hx hb dL_isSo_389 (lv_at hl 10 rfl) ?_
                    refine lv_icmp_ne (tgt := 398) hx hb dL_isSo_391 (by decide) (fun hc => ?_) (fun hc => ?_)
                    · replace h := bq_ifF hc h
                      refine lv_iconst (v := 0) hx hb dL_isSo_398 (by decide) ?_
                      refine lv_istore (lv' := [(6, .int (0 : Int32)), (0, .ref a0), (1, .ref a1), (2, .ref a2), (3, .ref a3), (4, .int x4), (5, .int x5), (7, .int z40), (8, .int v11), (9, .int z41), (10, .int y43)]) hx hb dL_isSo_399 hl (by decide) rfl (fun ls hl => ?_)
                      refine lv_iload hx hb dL_isSo_401 (lv_at hl 10 rfl) ?_
                      refine lv_istore (lv' := [(7, .int y43), (6, .int (0 : Int32)), (0, .ref a0), (1, .ref a1), (2, .ref a2), (3, .ref a3), (4, .int x4), (5, .int x5), (8, .int v11), (9, .int z41), (10, .int y43)]) hx hb dL_isSo_403 hl (by decide) rfl (fun ls hl => ?_)
                      obtain ⟨v52, ev52⟩ : ∃ y : Int32, y = z41 + 1 := ⟨_, rfl⟩
                      replace h := bq_letE ev52 h
                      refine lv_iinc (v := v52) (lv' := [(9, .int v52), (7, .int y43), (6, .int (0 : Int32)), (0, .ref a0), (1, .ref a1), (2, .ref a2), (3, .ref a3), (4, .int x4), (5, .int x5), (8, .int v11), (10, .int y43)]) hx hb dL_isSo_405 hl (k := 9) rfl (by rw [ev52]; rfl) (by decide) rfl (fun ls hl => ?_)
                      refine lv_goto (tgt := 229) hx hb dL_isSo_408 (by decide) ?_
                      exact ih (0 : Int32) y43 v52 v51.2 (cl + 2) (sl + 12) _ _ _ (by omega) (by omega) h hW (lv_sub hl [3, 4, 5, 6, 7, 8, 2, 1, 9, 0] rfl)
                    · replace h := bq_ifT hc h
                      refine lv_iconst (v := 1) hx hb dL_isSo_394 (by decide) ?_
                      refine lv_goto (tgt := 399) hx hb dL_isSo_395 (by decide) ?_
                      refine lv_istore (lv' := [(6, .int (1 : Int32)), (0, .ref a0), (1, .ref a1), (2, .ref a2), (3, .ref a3), (4, .int x4), (5, .int x5), (7, .int z40), (8, .int v11), (9, .int z41), (10, .int y43)]) hx hb dL_isSo_399 hl (by decide) rfl (fun ls hl => ?_)
                      refine lv_iload hx hb dL_isSo_401 (lv_at hl 10 rfl) ?_
                      refine lv_istore (lv' := [(7, .int y43), (6, .int (1 : Int32)), (0, .ref a0), (1, .ref a1), (2, .ref a2), (3, .ref a3), (4, .int x4), (5, .int x5), (8, .int v11), (9, .int z41), (10, .int y43)]) hx hb dL_isSo_403 hl (by decide) rfl (fun ls hl => ?_)
                      obtain ⟨v53, ev53⟩ : ∃ y : Int32, y = z41 + 1 := ⟨_, rfl⟩
                      replace h := bq_letE ev53 h
                      refine lv_iinc (v := v53) (lv' := [(9, .int v53), (7, .int y43), (6, .int (1 : Int32)), (0, .ref a0), (1, .ref a1), (2, .ref a2), (3, .ref a3), (4, .int x4), (5, .int x5), (8, .int v11), (10, .int y43)]) hx hb dL_isSo_405 hl (k := 9) rfl (by rw [ev53]; rfl) (by decide) rfl (fun ls hl => ?_)
                      refine lv_goto (tgt := 229) hx hb dL_isSo_408 (by decide) ?_
                      exact ih (1 : Int32) y43 v53 v51.2 (cl + 2) (sl + 12) _ _ _ (by omega) (by omega) h hW (lv_sub hl [3, 4, 5, 6, 7, 8, 2, 1, 9, 0] rfl)
            clear ek357
            refine lv_icmp_ne (tgt := 356) hx hb dL_isSo_349 (by decide) (fun hc => ?_) (fun hc => ?_)
            · replace h := bq_ifF hc h
              refine lv_iconst (v := 0) hx hb dL_isSo_356 (by decide) ?_
              refine W.widen (k := (cl + 1)) (n := (sl + 6)) (by omega) (by omega) ?_
              exact hjk357 (0 : Int32) _ _ _ h hW (lv_sub hl [0, 1, 2, 3, 4, 5, 6, 7, 8, 9] rfl)
            · replace h := bq_ifT hc h
              refine lv_iconst (v := 1) hx hb dL_isSo_352 (by decide) ?_
              refine lv_goto (tgt := 357) hx hb dL_isSo_353 (by decide) ?_
              refine W.widen (k := (cl + 1)) (n := (sl + 6)) (by omega) (by omega) ?_
              exact hjk357 (1 : Int32) _ _ _ h hW (lv_sub hl [0, 1, 2, 3, 4, 5, 6, 7, 8, 9] rfl)
    refine W.widen (k := 65) (n := 390) (by omega) (by omega) ?_
    refine hL229 _ (fun y12 y13 y14 E15 H locs ls h hW hl => ?_) 30 y8 (-1 : Int32) (0 : Int32) E10 65 390 _ _ _ (by omega) (by omega) h hW (lv_sub hl [3, 4, 5, 6, 7, 8, 9, 2, 1, 0] rfl)
    refine lv_iload hx hb dL_isSo_411 (lv_at hl 5 rfl) ?_
    refine lv_sipush (v := 10001) hx hb dL_isSo_413 (by decide) ?_
    obtain ⟨v16, hv, h⟩ := bq_bind h
    refine bq_callS S hK hz ms_L_100 (c_L_low hv) dL_isSo_416 [.int v16] (rest := []) rfl rfl rfl hl.1 (Nat.le_of_ble_eq_true rfl) ⟨Nat.le_of_ble_eq_true rfl, Nat.le_of_ble_eq_true rfl⟩ ⟨by show _ ≤ 129; omega, by show _ ≤ 774; omega⟩ hW (fun H locs hW => ?_)
    refine lv_istore (lv' := [(9, .int v16), (0, .ref a0), (1, .ref a1), (2, .ref a2), (3, .ref a3), (4, .int x4), (5, .int x5), (6, .int y12)]) hx hb dL_isSo_419 hl (by decide) rfl (fun ls hl => ?_)
    refine lv_iconst (v := (-1)) hx hb dL_isSo_421 (by decide) ?_
    refine lv_istore (lv' := [(10, .int (-1 : Int32)), (9, .int v16), (0, .ref a0), (1, .ref a1), (2, .ref a2), (3, .ref a3), (4, .int x4), (5, .int x5), (6, .int y12)]) hx hb dL_isSo_422 hl (by decide) rfl (fun ls hl => ?_)
    refine lv_iconst (v := 0) hx hb dL_isSo_424 (by decide) ?_
    refine lv_istore (lv' := [(11, .int (0 : Int32)), (10, .int (-1 : Int32)), (9, .int v16), (0, .ref a0), (1, .ref a1), (2, .ref a2), (3, .ref a3), (4, .int x4), (5, .int x5), (6, .int y12)]) hx hb dL_isSo_425 hl (by decide) rfl (fun ls hl => ?_)
    have hL427 : ∀ (K : Int32 → Int32 → Option (Bool × bq_E)) (hX : ∀ (u37 : Int32) (u38 : Int32) (H1 : Heap) (locs1 : List Loc) (ls1 : Array Slot), K u37 u38 = some R → bq_H g L E15 z s.heap H1 locs1 → lv_has ls1 13 [(0, .ref a0), (4, .int x4), (6, .int y12), (9, .int v16), (10, .int u37)] → W p l e { frames := 11, cells := 129, slots := 774, locals := 200 } s m args below meth c H1 locs1 125 750 (MQ below (bq_Q g L R.2 z (some (.int (bq_b R.1)))) args s 129 774 (bq_A z)) (F0 m 519 ls1 [])), ∀ (n : Nat) (z23 : Int32) (z24 : Int32) (H1 : Heap) (locs1 : List Loc) (ls1 : Array Slot), tl_L_isSo_427 E15 a0 a1 a2 a3 x4 y12 v16 K n z23 z24 = some R → bq_H g L E15 z s.heap H1 locs1 → lv_has ls1 13 [(0, .ref a0), (1, .ref a1), (2, .ref a2), (3, .ref a3), (4, .int x4), (6, .int y12), (9, .int v16), (10, .int z23), (11, .int z24)] → W p l e { frames := 11, cells := 129, slots := 774, locals := 200 } s m args below meth c H1 locs1 125 750 (MQ below (bq_Q g L R.2 z (some (.int (bq_b R.1)))) args s 129 774 (bq_A z)) (F0 m 427 ls1 []) := by
      intro K hX n
      induction n with
      | zero => intro z23 z24 H locs ls h hW hl; cases h
      | succ n ih =>
        intro z23 z24 H locs ls h hW hl
        rw [tl_L_isSo_427.eq_2] at h
        refine lv_iload hx hb dL_isSo_427 (lv_at hl 8 rfl) ?_
        refine lv_aload_n hx hb dL_isSo_429 rfl (lv_at hl 3 rfl) ?_
        refine lv_iload hx hb dL_isSo_430 (lv_at hl 4 rfl) ?_
        obtain ⟨v25, hv, h⟩ := bq_bind h
        refine bq_iald S hK dL_isSo_432 hv hW ?_
        refine lv_aload_n hx hb dL_isSo_433 rfl (lv_at hl 3 rfl) ?_
        refine lv_bipush (v := 8) hx hb dL_isSo_434 (by decide) ?_
        refine lv_iload hx hb dL_isSo_436 (lv_at hl 4 rfl) ?_
        refine lv_iadd hx hb dL_isSo_438 ?_
        obtain ⟨v26, hv, h⟩ := bq_bind h
        refine bq_iald S hK dL_isSo_439 hv hW ?_
        refine lv_iadd hx hb dL_isSo_440 ?_
        refine lv_icmp_ge (tgt := 519) hx hb dL_isSo_441 (by decide) (fun hc => ?_) (fun hc => ?_)
        · replace h := bq_ifT hc h
          exact hX z23 z24 _ _ _ h hW (lv_sub hl [0, 4, 5, 6, 7] rfl)
        · replace h := bq_ifF hc h
          refine lv_iload hx hb dL_isSo_444 (lv_at hl 8 rfl) ?_
          refine lv_aload_n hx hb dL_isSo_446 rfl (lv_at hl 3 rfl) ?_
          refine lv_iload hx hb dL_isSo_447 (lv_at hl 4 rfl) ?_
          obtain ⟨v27, hv, h⟩ := bq_bind h
          refine bq_iald S hK dL_isSo_449 hv hW ?_
          obtain ⟨k475, ek475, h⟩ := bq_letK h
          have hjk475 : ∀ (b28 : Int32) (H1 : Heap) (locs1 : List Loc) (ls1 : Array Slot), k475 b28 = some R → bq_H g L E15 z s.heap H1 locs1 → lv_has ls1 13 [(0, .ref a0), (1, .ref a1), (2, .ref a2), (3, .ref a3), (4, .int x4), (6, .int y12), (9, .int v16), (10, .int z23), (11, .int z24)] → W p l e { frames := 11, cells := 129, slots := 774, locals := 200 } s m args below meth c H1 locs1 125 750 (MQ below (bq_Q g L R.2 z (some (.int (bq_b R.1)))) args s 129 774 (bq_A z)) (F0 m 475 ls1 [.int b28]) := by
            intro b28 H locs ls h hW hl
            replace h := bq_kap1 ek475 h
            refine lv_istore (lv' := [(12, .int b28), (0, .ref a0), (1, .ref a1), (2, .ref a2), (3, .ref a3), (4, .int x4), (6, .int y12), (9, .int v16), (10, .int z23), (11, .int z24)]) hx hb dL_isSo_475 hl (by decide) rfl (fun ls hl => ?_)
            refine lv_iload hx hb dL_isSo_477 (lv_at hl 0 rfl) ?_
            refine lv_sipush (v := 10000) hx hb dL_isSo_479 (by decide) ?_
            refine lv_icmp_ge (tgt := 509) hx hb dL_isSo_482 (by decide) (fun hc => ?_) (fun hc => ?_)
            · replace h := bq_ifT hc h
              refine lv_iload hx hb dL_isSo_509 (lv_at hl 8 rfl) ?_
              refine lv_istore (lv' := [(10, .int z23), (12, .int b28), (0, .ref a0), (1, .ref a1), (2, .ref a2), (3, .ref a3), (4, .int x4), (6, .int y12), (9, .int v16), (11, .int z24)]) hx hb dL_isSo_511 hl (by decide) rfl (fun ls hl => ?_)
              obtain ⟨v29, ev29⟩ : ∃ y : Int32, y = z24 + 1 := ⟨_, rfl⟩
              replace h := bq_letE ev29 h
              refine lv_iinc (v := v29) (lv' := [(11, .int v29), (10, .int z23), (12, .int b28), (0, .ref a0), (1, .ref a1), (2, .ref a2), (3, .ref a3), (4, .int x4), (6, .int y12), (9, .int v16)]) hx hb dL_isSo_513 hl (k := 9) rfl (by rw [ev29]; rfl) (by decide) rfl (fun ls hl => ?_)
              refine lv_goto (tgt := 427) hx hb dL_isSo_516 (by decide) ?_
              exact ih z23 v29 _ _ _ h hW (lv_sub hl [3, 4, 5, 6, 7, 8, 9, 1, 0] rfl)
            · replace h := bq_ifF hc h
              refine lv_iload hx hb dL_isSo_485 (lv_at hl 0 rfl) ?_
              refine lv_iload hx hb dL_isSo_487 (lv_at hl 7 rfl) ?_
              refine lv_icmp_lt (tgt := 509) hx hb dL_isSo_489 (by decide) (fun hc => ?_) (fun hc => ?_)
              · replace h := bq_ifT hc h
                refine lv_iload hx hb dL_isSo_509 (lv_at hl 8 rfl) ?_
                refine lv_istore (lv' := [(10, .int z23), (12, .int b28), (0, .ref a0), (1, .ref a1), (2, .ref a2), (3, .ref a3), (4, .int x4), (6, .int y12), (9, .int v16), (11, .int z24)]) hx hb dL_isSo_511 hl (by decide) rfl (fun ls hl => ?_)
                obtain ⟨v30, ev30⟩ : ∃ y : Int32, y = z24 + 1 := ⟨_, rfl⟩
                replace h := bq_letE ev30 h
                refine lv_iinc (v := v30) (lv' := [(11, .int v30), (10, .int z23), (12, .int b28), (0, .ref a0), (1, .ref a1), (2, .ref a2), (3, .ref a3), (4, .int x4), (6, .int y12), (9, .int v16)]) hx hb dL_isSo_513 hl (k := 9) rfl (by rw [ev30]; rfl) (by decide) rfl (fun ls hl => ?_)
                refine lv_goto (tgt := 427) hx hb dL_isSo_516 (by decide) ?_
                exact ih z23 v30 _ _ _ h hW (lv_sub hl [3, 4, 5, 6, 7, 8, 9, 1, 0] rfl)
              · replace h := bq_ifF hc h
                refine lv_iload hx hb dL_isSo_492 (lv_at hl 8 rfl) ?_
                refine lv_if_lt (tgt := 504) hx hb dL_isSo_494 (by decide) (fun hc => ?_) (fun hc => ?_)
                · replace h := bq_ifT hc h
                  refine lv_iload hx hb dL_isSo_504 (lv_at hl 0 rfl) ?_
                  refine lv_goto (tgt := 511) hx hb dL_isSo_506 (by decide) ?_
                  refine lv_istore (lv' := [(10, .int b28), (12, .int b28), (0, .ref a0), (1, .ref a1), (2, .ref a2), (3, .ref a3), (4, .int x4), (6, .int y12), (9, .int v16), (11, .int z24)]) hx hb dL_isSo_511 hl (by decide) rfl (fun ls hl => ?_)
                  obtain ⟨v31, ev31⟩ : ∃ y : Int32, y = z24 + 1 := ⟨_, rfl⟩
                  replace h := bq_letE ev31 h
                  refine lv_iinc (v := v31) (lv' := [(11, .int v31), (10, .int b28), (12, .int b28), (0, .ref a0), (1, .ref a1), (2, .ref a2), (3, .ref a3), (4, .int x4), (6, .int y12), (9, .int v16)]) hx hb dL_isSo_513 hl (k := 9) rfl (by rw [ev31]; rfl) (by decide) rfl (fun ls hl => ?_)
                  refine lv_goto (tgt := 427) hx hb dL_isSo_516 (by decide) ?_
                  exact ih b28 v31 _ _ _ h hW (lv_sub hl [3, 4, 5, 6, 7, 8, 9, 1, 0] rfl)
                · replace h := bq_ifF hc h
                  refine lv_iload hx hb dL_isSo_497 (lv_at hl 0 rfl) ?_
                  refine lv_iload hx hb dL_isSo_499 (lv_at hl 8 rfl) ?_
                  refine lv_icmp_ge (tgt := 509) hx hb dL_isSo_501 (by decide) (fun hc => ?_) (fun hc => ?_)
                  · replace h := bq_ifT hc h
                    refine lv_iload hx hb dL_isSo_509 (lv_at hl 8 rfl) ?_
                    refine lv_istore (lv' := [(10, .int z23), (12, .int b28), (0, .ref a0), (1, .ref a1), (2, .ref a2), (3, .ref a3), (4, .int x4), (6, .int y12), (9, .int v16), (11, .int z24)]) hx hb dL_isSo_511 hl (by decide) rfl (fun ls hl => ?_)
                    obtain ⟨v32, ev32⟩ : ∃ y : Int32, y = z24 + 1 := ⟨_, rfl⟩
                    replace h := bq_letE ev32 h
                    refine lv_iinc (v := v32) (lv' := [(11, .int v32), (10, .int z23), (12, .int b28), (0, .ref a0), (1, .ref a1), (2, .ref a2), (3, .ref a3), (4, .int x4), (6, .int y12), (9, .int v16)]) hx hb dL_isSo_513 hl (k := 9) rfl (by rw [ev32]; rfl) (by decide) rfl (fun ls hl => ?_)
                    refine lv_goto (tgt := 427) hx hb dL_isSo_516 (by decide) ?_
                    exact ih z23 v32 _ _ _ h hW (lv_sub hl [3, 4, 5, 6, 7, 8, 9, 1, 0] rfl)
                  · replace h := bq_ifF hc h
                    refine lv_iload hx hb dL_isSo_504 (lv_at hl 0 rfl) ?_
                    refine lv_goto (tgt := 511) hx hb dL_isSo_506 (by decide) ?_
                    refine lv_istore (lv' := [(10, .int b28), (12, .int b28), (0, .ref a0), (1, .ref a1), (2, .ref a2), (3, .ref a3), (4, .int x4), (6, .int y12), (9, .int v16), (11, .int z24)]) hx hb dL_isSo_511 hl (by decide) rfl (fun ls hl => ?_)
                    obtain ⟨v33, ev33⟩ : ∃ y : Int32, y = z24 + 1 := ⟨_, rfl⟩
                    replace h := bq_letE ev33 h
                    refine lv_iinc (v := v33) (lv' := [(11, .int v33), (10, .int b28), (12, .int b28), (0, .ref a0), (1, .ref a1), (2, .ref a2), (3, .ref a3), (4, .int x4), (6, .int y12), (9, .int v16)]) hx hb dL_isSo_513 hl (k := 9) rfl (by rw [ev33]; rfl) (by decide) rfl (fun ls hl => ?_)
                    refine lv_goto (tgt := 427) hx hb dL_isSo_516 (by decide) ?_
                    exact ih b28 v33 _ _ _ h hW (lv_sub hl [3, 4, 5, 6, 7, 8, 9, 1, 0] rfl)
          clear ek475
          refine lv_icmp_ge (tgt := 460) hx hb dL_isSo_450 (by decide) (fun hc => ?_) (fun hc => ?_)
          · replace h := bq_ifT hc h
            refine lv_aload_n hx hb dL_isSo_460 rfl (lv_at hl 2 rfl) ?_
            refine lv_bipush (v := 8) hx hb dL_isSo_461 (by decide) ?_
            refine lv_iload hx hb dL_isSo_463 (lv_at hl 4 rfl) ?_
            refine lv_imul hx hb dL_isSo_465 ?_
            refine lv_iload hx hb dL_isSo_466 (lv_at hl 8 rfl) ?_
            refine lv_iadd hx hb dL_isSo_468 ?_
            refine lv_aload_n hx hb dL_isSo_469 rfl (lv_at hl 3 rfl) ?_
            refine lv_iload hx hb dL_isSo_470 (lv_at hl 4 rfl) ?_
            obtain ⟨v34, hv, h⟩ := bq_bind h
            refine bq_iald S hK dL_isSo_472 hv hW ?_
            refine lv_isub hx hb dL_isSo_473 ?_
            obtain ⟨v35, hv, h⟩ := bq_bind h
            refine bq_iald S hK dL_isSo_474 hv hW ?_
            refine W.widen (k := 125) (n := 750) (by omega) (by omega) ?_
            exact hjk475 v35 _ _ _ h hW (lv_sub hl [0, 1, 2, 3, 4, 5, 6, 7, 8] rfl)
          · replace h := bq_ifF hc h
            refine lv_aload_n hx hb dL_isSo_453 rfl (lv_at hl 1 rfl) ?_
            refine lv_iload hx hb dL_isSo_454 (lv_at hl 8 rfl) ?_
            obtain ⟨v36, hv, h⟩ := bq_bind h
            refine bq_iald S hK dL_isSo_456 hv hW ?_
            refine lv_goto (tgt := 475) hx hb dL_isSo_457 (by decide) ?_
            refine W.widen (k := 125) (n := 750) (by omega) (by omega) ?_
            exact hjk475 v36 _ _ _ h hW (lv_sub hl [0, 1, 2, 3, 4, 5, 6, 7, 8] rfl)
    refine W.widen (k := 125) (n := 750) (by omega) (by omega) ?_
    refine hL427 _ (fun y17 y18 H locs ls h hW hl => ?_) bq_fuel (-1 : Int32) (0 : Int32) _ _ _ h hW (lv_sub hl [3, 4, 5, 6, 7, 9, 2, 1, 0] rfl)
    refine lv_iload hx hb dL_isSo_519 (lv_at hl 2 rfl) ?_
    refine lv_if_eq (tgt := 577) hx hb dL_isSo_521 (by decide) (fun hc => ?_) (fun hc => ?_)
    · replace h := bq_ifT hc h
      refine lv_iconst (v := 0) hx hb dL_isSo_577 (by decide) ?_
      cases h
      refine W.widen (k := 129) (n := 774) (by omega) (by omega) ?_
      exact bq_retz S hr hlocks hK hz dL_isSo_578 _ rfl hW
    · replace h := bq_ifF hc h
      refine lv_aload_n hx hb dL_isSo_524 rfl (lv_at hl 0 rfl) ?_
      refine lv_iload hx hb dL_isSo_525 (lv_at hl 1 rfl) ?_
      refine lv_iload hx hb dL_isSo_527 (lv_at hl 3 rfl) ?_
      obtain ⟨v19, hv, h⟩ := bq_bind h
      refine bq_callSL (n := 3) S hK hz hT hN (bq_inSW (bq_wi 554 (by decide +kernel) rfl) (bq_wi 555 (by decide +kernel) rfl) (bq_wi 16 (by decide +kernel) rfl) (bq_wi 556 (by decide +kernel) rfl)) (by decide +kernel) (cl_L_finds hfl hv) dL_isSo_529 [.int v19.1] (rest := []) rfl rfl rfl hl.1 (Nat.le_of_ble_eq_true rfl) ⟨Nat.le_of_ble_eq_true rfl, Nat.le_of_ble_eq_true rfl⟩ ⟨by show _ ≤ 129; omega, by show _ ≤ 774; omega⟩ hW (fun H locs hW => ?_)
      refine lv_iload hx hb dL_isSo_532 (lv_at hl 4 rfl) ?_
      refine lv_icmp_ne (tgt := 577) hx hb dL_isSo_534 (by decide) (fun hc => ?_) (fun hc => ?_)
      · replace h := bq_ifF hc h
        refine lv_iconst (v := 0) hx hb dL_isSo_577 (by decide) ?_
        cases h
        refine W.widen (k := 129) (n := 774) (by omega) (by omega) ?_
        exact bq_retz S hr hlocks hK hz dL_isSo_578 _ rfl hW
      · replace h := bq_ifT hc h
        refine lv_aload_n hx hb dL_isSo_537 rfl (lv_at hl 0 rfl) ?_
        refine lv_iload hx hb dL_isSo_538 (lv_at hl 1 rfl) ?_
        refine lv_iconst (v := (-1)) hx hb dL_isSo_540 (by decide) ?_
        obtain ⟨v20, hv, h⟩ := bq_bind h
        refine bq_callSL (n := 3) S hK hz hT hN (bq_inSW (bq_wi 533 (by decide +kernel) rfl) (bq_wi 534 (by decide +kernel) rfl) (bq_wi 16 (by decide +kernel) rfl) (bq_wi 535 (by decide +kernel) rfl)) (by decide +kernel) (cl_L_keyOf hfl hv) dL_isSo_541 [.int v20.1] (rest := []) rfl rfl rfl hl.1 (Nat.le_of_ble_eq_true rfl) ⟨Nat.le_of_ble_eq_true rfl, Nat.le_of_ble_eq_true rfl⟩ ⟨by show _ ≤ 129; omega, by show _ ≤ 774; omega⟩ hW (fun H locs hW => ?_)
        refine lv_ldc (own := RL) (v := (-100002)) hx hb S.2.2.2.1 (S.2.2.2.2 _ (bq_wi 470 (by decide +kernel) rfl)) dL_isSo_544 ?_
        refine lv_icmp_ne (tgt := 577) hx hb dL_isSo_546 (by decide) (fun hc => ?_) (fun hc => ?_)
        · replace h := bq_ifF hc h
          refine lv_iconst (v := 0) hx hb dL_isSo_577 (by decide) ?_
          cases h
          refine W.widen (k := 129) (n := 774) (by omega) (by omega) ?_
          exact bq_retz S hr hlocks hK hz dL_isSo_578 _ rfl hW
        · replace h := bq_ifT hc h
          refine lv_aload_n hx hb dL_isSo_549 rfl (lv_at hl 0 rfl) ?_
          refine lv_iload hx hb dL_isSo_550 (lv_at hl 1 rfl) ?_
          refine lv_iconst (v := (-1)) hx hb dL_isSo_552 (by decide) ?_
          obtain ⟨v21, hv, h⟩ := bq_bind h
          refine bq_callSL (n := 3) S hK hz hT hN (bq_inSW (bq_wi 513 (by decide +kernel) rfl) (bq_wi 514 (by decide +kernel) rfl) (bq_wi 16 (by decide +kernel) rfl) (bq_wi 515 (by decide +kernel) rfl)) (by decide +kernel) (cl_L_baseOf hfl hv) dL_isSo_553 [.int v21.1] (rest := []) rfl rfl rfl hl.1 (Nat.le_of_ble_eq_true rfl) ⟨Nat.le_of_ble_eq_true rfl, Nat.le_of_ble_eq_true rfl⟩ ⟨by show _ ≤ 129; omega, by show _ ≤ 774; omega⟩ hW (fun H locs hW => ?_)
          refine lv_ldc (own := RL) (v := (-100002)) hx hb S.2.2.2.1 (S.2.2.2.2 _ (bq_wi 470 (by decide +kernel) rfl)) dL_isSo_556 ?_
          refine lv_icmp_ne (tgt := 577) hx hb dL_isSo_558 (by decide) (fun hc => ?_) (fun hc => ?_)
          · replace h := bq_ifF hc h
            refine lv_iconst (v := 0) hx hb dL_isSo_577 (by decide) ?_
            cases h
            refine W.widen (k := 129) (n := 774) (by omega) (by omega) ?_
            exact bq_retz S hr hlocks hK hz dL_isSo_578 _ rfl hW
          · replace h := bq_ifT hc h
            refine lv_aload_n hx hb dL_isSo_561 rfl (lv_at hl 0 rfl) ?_
            refine lv_iload hx hb dL_isSo_562 (lv_at hl 1 rfl) ?_
            refine lv_iconst (v := (-1)) hx hb dL_isSo_564 (by decide) ?_
            obtain ⟨v22, hv, h⟩ := bq_bind h
            refine bq_callSL (n := 3) S hK hz hT hN (bq_inSW (bq_wi 526 (by decide +kernel) rfl) (bq_wi 527 (by decide +kernel) rfl) (bq_wi 16 (by decide +kernel) rfl) (bq_wi 528 (by decide +kernel) rfl)) (by decide +kernel) (cl_L_bufferOf hfl hv) dL_isSo_565 [.int v22.1] (rest := []) rfl rfl rfl hl.1 (Nat.le_of_ble_eq_true rfl) ⟨Nat.le_of_ble_eq_true rfl, Nat.le_of_ble_eq_true rfl⟩ ⟨by show _ ≤ 129; omega, by show _ ≤ 774; omega⟩ hW (fun H locs hW => ?_)
            refine lv_ldc (own := RL) (v := (-100002)) hx hb S.2.2.2.1 (S.2.2.2.2 _ (bq_wi 470 (by decide +kernel) rfl)) dL_isSo_568 ?_
            refine lv_icmp_ne (tgt := 577) hx hb dL_isSo_570 (by decide) (fun hc => ?_) (fun hc => ?_)
            · replace h := bq_ifF hc h
              refine lv_iconst (v := 0) hx hb dL_isSo_577 (by decide) ?_
              cases h
              refine W.widen (k := 129) (n := 774) (by omega) (by omega) ?_
              exact bq_retz S hr hlocks hK hz dL_isSo_578 _ rfl hW
            · replace h := bq_ifT hc h
              refine lv_iconst (v := 1) hx hb dL_isSo_573 (by decide) ?_
              refine lv_goto (tgt := 578) hx hb dL_isSo_574 (by decide) ?_
              cases h
              refine W.widen (k := 129) (n := 774) (by omega) (by omega) ?_
              exact bq_retz S hr hlocks hK hz dL_isSo_578 _ rfl hW
  clear ek84
  obtain ⟨k83, ek83, h⟩ := bq_letK h
  have hjk83 : ∀ (E100 : bq_E) (H1 : Heap) (locs1 : List Loc) (ls1 : Array Slot), k83 E100 = some R → bq_H g L E100 z s.heap H1 locs1 → lv_has ls1 13 [(0, .ref a0), (1, .ref a1), (2, .ref a2), (3, .ref a3), (4, .int x4), (5, .int x5)] → W p l e { frames := 11, cells := 129, slots := 774, locals := 200 } s m args below meth c H1 locs1 5 30 (MQ below (bq_Q g L R.2 z (some (.int (bq_b R.1)))) args s 129 774 (bq_A z)) (F0 m 83 ls1 []) := by
    intro E100 H locs ls h hW hl
    replace h := bq_kap1 ek83 h
    refine lv_iconst (v := 0) hx hb dL_isSo_83 (by decide) ?_
    refine W.widen (k := 5) (n := 30) (by omega) (by omega) ?_
    exact hjk84 (0 : Int32) E100 _ _ _ h hW (lv_sub hl [0, 1, 2, 3, 4, 5] rfl)
  clear ek83
  refine lv_icmp_ne (tgt := 83) hx hb dL_isSo_14 (by decide) (fun hc => ?_) (fun hc => ?_)
  · replace h := bq_ifF hc h
    refine W.widen (k := 5) (n := 30) (by omega) (by omega) ?_
    exact hjk83 v1.2 _ _ _ h hW (lv_sub hl [0, 1, 2, 3, 4, 5] rfl)
  · replace h := bq_ifT hc h
    refine lv_aload_n hx hb dL_isSo_17 rfl (lv_at hl 0 rfl) ?_
    refine lv_iload hx hb dL_isSo_18 (lv_at hl 4 rfl) ?_
    refine lv_iconst (v := 5) hx hb dL_isSo_20 (by decide) ?_
    obtain ⟨v101, hv, h⟩ := bq_bind h
    refine bq_callSL (n := 3) S hK hz hT hN (bq_inSW (bq_wi 475 (by decide +kernel) rfl) (bq_wi 476 (by decide +kernel) rfl) (bq_wi 16 (by decide +kernel) rfl) (bq_wi 477 (by decide +kernel) rfl)) (by decide +kernel) (cl_L_nodeOf hfl hv) dL_isSo_21 [.int v101.1] (rest := []) rfl rfl rfl hl.1 (Nat.le_of_ble_eq_true rfl) ⟨Nat.le_of_ble_eq_true rfl, Nat.le_of_ble_eq_true rfl⟩ ⟨by show _ ≤ 129; omega, by show _ ≤ 774; omega⟩ hW (fun H locs hW => ?_)
    refine lv_aload_n hx hb dL_isSo_24 rfl (lv_at hl 3 rfl) ?_
    refine lv_iload hx hb dL_isSo_25 (lv_at hl 4 rfl) ?_
    obtain ⟨v102, hv, h⟩ := bq_bind h
    refine bq_iald S hK dL_isSo_27 hv hW ?_
    refine lv_icmp_ne (tgt := 83) hx hb dL_isSo_28 (by decide) (fun hc => ?_) (fun hc => ?_)
    · replace h := bq_ifF hc h
      refine W.widen (k := 5) (n := 30) (by omega) (by omega) ?_
      exact hjk83 v101.2 _ _ _ h hW (lv_sub hl [0, 1, 2, 3, 4, 5] rfl)
    · replace h := bq_ifT hc h
      refine lv_aload_n hx hb dL_isSo_31 rfl (lv_at hl 0 rfl) ?_
      refine lv_iload hx hb dL_isSo_32 (lv_at hl 4 rfl) ?_
      refine lv_bipush (v := 6) hx hb dL_isSo_34 (by decide) ?_
      obtain ⟨v103, hv, h⟩ := bq_bind h
      refine bq_callSL (n := 3) S hK hz hT hN (bq_inSW (bq_wi 475 (by decide +kernel) rfl) (bq_wi 476 (by decide +kernel) rfl) (bq_wi 16 (by decide +kernel) rfl) (bq_wi 477 (by decide +kernel) rfl)) (by decide +kernel) (cl_L_nodeOf hfl hv) dL_isSo_36 [.int v103.1] (rest := []) rfl rfl rfl hl.1 (Nat.le_of_ble_eq_true rfl) ⟨Nat.le_of_ble_eq_true rfl, Nat.le_of_ble_eq_true rfl⟩ ⟨by show _ ≤ 129; omega, by show _ ≤ 774; omega⟩ hW (fun H locs hW => ?_)
      refine lv_aload_n hx hb dL_isSo_39 rfl (lv_at hl 1 rfl) ?_
      refine lv_aload_n hx hb dL_isSo_40 rfl (lv_at hl 3 rfl) ?_
      refine lv_iload hx hb dL_isSo_41 (lv_at hl 4 rfl) ?_
      obtain ⟨v104, hv, h⟩ := bq_bind h
      refine bq_callS S hK hz ms_L_69 (c_L_marked hv) dL_isSo_43 [.int v104, .int v103.1] (rest := [.int v103.1]) rfl rfl rfl hl.1 (Nat.le_of_ble_eq_true rfl) ⟨Nat.le_of_ble_eq_true rfl, Nat.le_of_ble_eq_true rfl⟩ ⟨by show _ ≤ 129; omega, by show _ ≤ 774; omega⟩ hW (fun H locs hW => ?_)
      refine lv_icmp_ne (tgt := 83) hx hb dL_isSo_46 (by decide) (fun hc => ?_) (fun hc => ?_)
      · replace h := bq_ifF hc h
        refine W.widen (k := 5) (n := 30) (by omega) (by omega) ?_
        exact hjk83 v103.2 _ _ _ h hW (lv_sub hl [0, 1, 2, 3, 4, 5] rfl)
      · replace h := bq_ifT hc h
        refine lv_aload_n hx hb dL_isSo_49 rfl (lv_at hl 0 rfl) ?_
        refine lv_iload hx hb dL_isSo_50 (lv_at hl 4 rfl) ?_
        refine lv_bipush (v := 7) hx hb dL_isSo_52 (by decide) ?_
        obtain ⟨v105, hv, h⟩ := bq_bind h
        refine bq_callSL (n := 3) S hK hz hT hN (bq_inSW (bq_wi 475 (by decide +kernel) rfl) (bq_wi 476 (by decide +kernel) rfl) (bq_wi 16 (by decide +kernel) rfl) (bq_wi 477 (by decide +kernel) rfl)) (by decide +kernel) (cl_L_nodeOf hfl hv) dL_isSo_54 [.int v105.1] (rest := []) rfl rfl rfl hl.1 (Nat.le_of_ble_eq_true rfl) ⟨Nat.le_of_ble_eq_true rfl, Nat.le_of_ble_eq_true rfl⟩ ⟨by show _ ≤ 129; omega, by show _ ≤ 774; omega⟩ hW (fun H locs hW => ?_)
        refine lv_aload_n hx hb dL_isSo_57 rfl (lv_at hl 3 rfl) ?_
        refine lv_bipush (v := 8) hx hb dL_isSo_58 (by decide) ?_
        refine lv_iload hx hb dL_isSo_60 (lv_at hl 4 rfl) ?_
        refine lv_iadd hx hb dL_isSo_62 ?_
        obtain ⟨v106, hv, h⟩ := bq_bind h
        refine bq_iald S hK dL_isSo_63 hv hW ?_
        refine lv_icmp_ne (tgt := 83) hx hb dL_isSo_64 (by decide) (fun hc => ?_) (fun hc => ?_)
        · replace h := bq_ifF hc h
          refine W.widen (k := 5) (n := 30) (by omega) (by omega) ?_
          exact hjk83 v105.2 _ _ _ h hW (lv_sub hl [0, 1, 2, 3, 4, 5] rfl)
        · replace h := bq_ifT hc h
          refine lv_aload_n hx hb dL_isSo_67 rfl (lv_at hl 0 rfl) ?_
          refine lv_iconst (v := 4) hx hb dL_isSo_68 (by decide) ?_
          obtain ⟨v107, hv, h⟩ := bq_bind h
          refine bq_callSL (n := 2) S hK hz hT hN (bq_inSW (bq_wi 496 (by decide +kernel) rfl) (bq_wi 497 (by decide +kernel) rfl) (bq_wi 16 (by decide +kernel) rfl) (bq_wi 498 (by decide +kernel) rfl)) (by decide +kernel) (cl_L_countOf hfl hv) dL_isSo_69 [.int v107.1] (rest := []) rfl rfl rfl hl.1 (Nat.le_of_ble_eq_true rfl) ⟨Nat.le_of_ble_eq_true rfl, Nat.le_of_ble_eq_true rfl⟩ ⟨by show _ ≤ 129; omega, by show _ ≤ 774; omega⟩ hW (fun H locs hW => ?_)
          refine lv_aload_n hx hb dL_isSo_72 rfl (lv_at hl 3 rfl) ?_
          refine lv_bipush (v := 19) hx hb dL_isSo_73 (by decide) ?_
          obtain ⟨v108, hv, h⟩ := bq_bind h
          refine bq_iald S hK dL_isSo_75 hv hW ?_
          refine lv_icmp_ne (tgt := 83) hx hb dL_isSo_76 (by decide) (fun hc => ?_) (fun hc => ?_)
          · replace h := bq_ifF hc h
            refine W.widen (k := 5) (n := 30) (by omega) (by omega) ?_
            exact hjk83 v107.2 _ _ _ h hW (lv_sub hl [0, 1, 2, 3, 4, 5] rfl)
          · replace h := bq_ifT hc h
            refine lv_iconst (v := 1) hx hb dL_isSo_79 (by decide) ?_
            refine lv_goto (tgt := 84) hx hb dL_isSo_80 (by decide) ?_
            refine W.widen (k := 5) (n := 30) (by omega) (by omega) ?_
            exact hjk84 (1 : Int32) v107.2 _ _ _ h hW (lv_sub hl [0, 1, 2, 3, 4, 5] rfl)

set_option maxHeartbeats 8000000 in
set_option maxRecDepth 100000 in
theorem ca_L_acts {l : Launch} (hfl : l.stackTraces = false) {g : bq_G} {L : List Nat} {z : Nat} {E : bq_E} {a0 : Nat} {a1 : Nat} {a2 : Nat} {a3 : Nat} {x4 : Int32} {x5 : Int32} {R : (Bool × bq_E)} (h : tw_L_acts E a0 a1 a2 a3 x4 x5 = some R) : bq_MA l yL_acts cL_acts 17 (some .boolean) 10 201 31 1206 [.ref a0, .ref a1, .ref a2, .ref a3, .int x4, .int x5] g L E z (some (.int (bq_b R.1))) R.2 := by
  unfold tw_L_acts at h
  refine bq_enterA (by decide) (Nat.le_of_ble_eq_true rfl) ?_
  intro p e s m args below meth c S hr hlocks hK hz hT hN hW ls hl
  have S : CallFix p m c cL_acts 17 s args bq_WA RL := S
  have hx := S.1
  have hb := S.2.1
  have hl : lv_has ls 17 [(0, .ref a0), (1, .ref a1), (2, .ref a2), (3, .ref a3), (4, .int x4), (5, .int x5)] := hl
  refine lv_iload hx hb dL_acts_0 (lv_at hl 5 rfl) ?_
  refine lv_iconst (v := 3) hx hb dL_acts_2 (by decide) ?_
  refine lv_ishr hx hb dL_acts_3 ?_
  refine lv_iconst (v := 3) hx hb dL_acts_4 (by decide) ?_
  obtain ⟨v1, hv, h⟩ := bq_bind h
  refine bq_callS S hK hz ms_L_100 (c_L_low hv) dL_acts_5 [.int v1] (rest := []) rfl rfl rfl hl.1 (Nat.le_of_ble_eq_true rfl) ⟨Nat.le_of_ble_eq_true rfl, Nat.le_of_ble_eq_true rfl⟩ ⟨by show _ ≤ 31; omega, by show _ ≤ 1206; omega⟩ hW (fun H locs hW => ?_)
  obtain ⟨k19, ek19, h⟩ := bq_letK h
  have hjk19 : ∀ (b2 : Int32) (H1 : Heap) (locs1 : List Loc) (ls1 : Array Slot), k19 b2 = some R → bq_H g L E z s.heap H1 locs1 → lv_has ls1 17 [(0, .ref a0), (1, .ref a1), (2, .ref a2), (3, .ref a3), (4, .int x4), (5, .int x5)] → W p l e { frames := 10, cells := 31, slots := 1206, locals := 201 } s m args below meth c H1 locs1 0 0 (MQ below (bq_Q g L R.2 z (some (.int (bq_b R.1)))) args s 31 1206 (bq_A z)) (F0 m 19 ls1 [.int b2]) := by
    intro b2 H locs ls h hW hl
    replace h := bq_kap1 ek19 h
    refine lv_istore (lv' := [(6, .int b2), (0, .ref a0), (1, .ref a1), (2, .ref a2), (3, .ref a3), (4, .int x4), (5, .int x5)]) hx hb dL_acts_19 hl (by decide) rfl (fun ls hl => ?_)
    refine lv_iload hx hb dL_acts_21 (lv_at hl 6 rfl) ?_
    refine lv_iconst (v := 5) hx hb dL_acts_23 (by decide) ?_
    refine lv_ishr hx hb dL_acts_24 ?_
    refine lv_iload hx hb dL_acts_25 (lv_at hl 0 rfl) ?_
    obtain ⟨v3, hv, h⟩ := bq_bind h
    refine bq_callS S hK hz ms_L_100 (c_L_low hv) dL_acts_27 [.int v3] (rest := []) rfl rfl rfl hl.1 (Nat.le_of_ble_eq_true rfl) ⟨Nat.le_of_ble_eq_true rfl, Nat.le_of_ble_eq_true rfl⟩ ⟨by show _ ≤ 31; omega, by show _ ≤ 1206; omega⟩ hW (fun H locs hW => ?_)
    refine lv_istore (lv' := [(7, .int v3), (6, .int b2), (0, .ref a0), (1, .ref a1), (2, .ref a2), (3, .ref a3), (4, .int x4), (5, .int x5)]) hx hb dL_acts_30 hl (by decide) rfl (fun ls hl => ?_)
    refine lv_aload_n hx hb dL_acts_32 rfl (lv_at hl 3 rfl) ?_
    refine lv_aload_n hx hb dL_acts_33 rfl (lv_at hl 4 rfl) ?_
    refine lv_aload_n hx hb dL_acts_34 rfl (lv_at hl 5 rfl) ?_
    refine lv_iload hx hb dL_acts_35 (lv_at hl 6 rfl) ?_
    refine lv_iload hx hb dL_acts_37 (lv_at hl 0 rfl) ?_
    obtain ⟨v4, hv, h⟩ := bq_bind h
    refine bq_callS S hK hz ms_L_103 (c_L_has hv) dL_acts_39 [.int (bq_b v4)] (rest := []) rfl rfl rfl hl.1 (Nat.le_of_ble_eq_true rfl) ⟨Nat.le_of_ble_eq_true rfl, Nat.le_of_ble_eq_true rfl⟩ ⟨by show _ ≤ 31; omega, by show _ ≤ 1206; omega⟩ hW (fun H locs hW => ?_)
    refine lv_topi (fun v5 ev5 => ?_)
    replace h := bq_letE ev5 h
    refine lv_istore (lv' := [(8, .int v5), (7, .int v3), (6, .int b2), (0, .ref a0), (1, .ref a1), (2, .ref a2), (3, .ref a3), (4, .int x4), (5, .int x5)]) hx hb dL_acts_42 hl (by decide) rfl (fun ls hl => ?_)
    refine lv_iload hx hb dL_acts_44 (lv_at hl 8 rfl) ?_
    refine lv_bipush (v := 10) hx hb dL_acts_46 (by decide) ?_
    obtain ⟨v6, hv, h⟩ := bq_bind h
    refine bq_callS S hK hz ms_L_100 (c_L_low hv) dL_acts_48 [.int v6] (rest := []) rfl rfl rfl hl.1 (Nat.le_of_ble_eq_true rfl) ⟨Nat.le_of_ble_eq_true rfl, Nat.le_of_ble_eq_true rfl⟩ ⟨by show _ ≤ 31; omega, by show _ ≤ 1206; omega⟩ hW (fun H locs hW => ?_)
    obtain ⟨k178, ek178, h⟩ := bq_letK h
    have hjk178 : ∀ (u0 : Unit) (H1 : Heap) (locs1 : List Loc) (ls1 : Array Slot), k178 u0 = some R → bq_H g L E z s.heap H1 locs1 → lv_has ls1 17 [(0, .ref a0), (1, .ref a1), (2, .ref a2), (3, .ref a3), (4, .int x4), (5, .int x5), (7, .int v3)] → W p l e { frames := 10, cells := 31, slots := 1206, locals := 201 } s m args below meth c H1 locs1 0 0 (MQ below (bq_Q g L R.2 z (some (.int (bq_b R.1)))) args s 31 1206 (bq_A z)) (F0 m 178 ls1 []) := by
      intro u0 H locs ls h hW hl
      replace h := bq_kap1 ek178 h
      refine lv_aload_n hx hb dL_acts_178 rfl (lv_at hl 3 rfl) ?_
      refine lv_iload hx hb dL_acts_179 (lv_at hl 4 rfl) ?_
      obtain ⟨v7, hv, h⟩ := bq_bind h
      refine bq_iald S hK dL_acts_181 hv hW ?_
      obtain ⟨k266, ek266, h⟩ := bq_letK h
      have hjk266 : ∀ (b8 : Int32) (H1 : Heap) (locs1 : List Loc) (ls1 : Array Slot), k266 b8 = some R → bq_H g L E z s.heap H1 locs1 → lv_has ls1 17 [(0, .ref a0), (1, .ref a1), (2, .ref a2), (3, .ref a3), (4, .int x4)] → W p l e { frames := 10, cells := 31, slots := 1206, locals := 201 } s m args below meth c H1 locs1 0 0 (MQ below (bq_Q g L R.2 z (some (.int (bq_b R.1)))) args s 31 1206 (bq_A z)) (F0 m 266 ls1 [.int b8]) := by
        intro b8 H locs ls h hW hl
        replace h := bq_kap1 ek266 h
        refine lv_istore (lv' := [(9, .int b8), (0, .ref a0), (1, .ref a1), (2, .ref a2), (3, .ref a3), (4, .int x4)]) hx hb dL_acts_266 hl (by decide) rfl (fun ls hl => ?_)
        refine lv_aload_n hx hb dL_acts_268 rfl (lv_at hl 2 rfl) ?_
        refine lv_aload_n hx hb dL_acts_269 rfl (lv_at hl 3 rfl) ?_
        refine lv_aload_n hx hb dL_acts_270 rfl (lv_at hl 4 rfl) ?_
        refine lv_iload hx hb dL_acts_271 (lv_at hl 5 rfl) ?_
        refine lv_iload hx hb dL_acts_273 (lv_at hl 0 rfl) ?_
        obtain ⟨v9, hv, h⟩ := bq_bind h
        refine bq_callS S hK hz ms_L_103 (c_L_has hv) dL_acts_275 [.int (bq_b v9)] (rest := []) rfl rfl rfl hl.1 (Nat.le_of_ble_eq_true rfl) ⟨Nat.le_of_ble_eq_true rfl, Nat.le_of_ble_eq_true rfl⟩ ⟨by show _ ≤ 31; omega, by show _ ≤ 1206; omega⟩ hW (fun H locs hW => ?_)
        refine lv_topi (fun v10 ev10 => ?_)
        replace h := bq_letE ev10 h
        refine lv_istore (lv' := [(10, .int v10), (9, .int b8), (0, .ref a0), (1, .ref a1), (2, .ref a2), (3, .ref a3), (4, .int x4)]) hx hb dL_acts_278 hl (by decide) rfl (fun ls hl => ?_)
        refine lv_aload_n hx hb dL_acts_280 rfl (lv_at hl 4 rfl) ?_
        refine lv_aload_n hx hb dL_acts_281 rfl (lv_at hl 5 rfl) ?_
        refine lv_iload hx hb dL_acts_282 (lv_at hl 6 rfl) ?_
        refine lv_iload hx hb dL_acts_284 (lv_at hl 1 rfl) ?_
        obtain ⟨v11, hv, h⟩ := bq_bind h
        refine bq_callS S hK hz ms_L_66 (c_L_inBuffer hv) dL_acts_286 [.int v11] (rest := []) rfl rfl rfl hl.1 (Nat.le_of_ble_eq_true rfl) ⟨Nat.le_of_ble_eq_true rfl, Nat.le_of_ble_eq_true rfl⟩ ⟨by show _ ≤ 31; omega, by show _ ≤ 1206; omega⟩ hW (fun H locs hW => ?_)
        refine lv_istore (lv' := [(11, .int v11), (10, .int v10), (9, .int b8), (0, .ref a0), (1, .ref a1), (2, .ref a2), (3, .ref a3), (4, .int x4)]) hx hb dL_acts_289 hl (by decide) rfl (fun ls hl => ?_)
        refine lv_iload hx hb dL_acts_291 (lv_at hl 0 rfl) ?_
        obtain ⟨k404, ek404, h⟩ := bq_letK h
        have hjk404 : ∀ (E12 : bq_E) (H1 : Heap) (locs1 : List Loc) (ls1 : Array Slot), k404 E12 = some R → bq_H g L E12 z s.heap H1 locs1 → lv_has ls1 17 [(0, .ref a0), (4, .int x4), (9, .int b8), (10, .int v10)] → W p l e { frames := 10, cells := 31, slots := 1206, locals := 201 } s m args below meth c H1 locs1 1 40 (MQ below (bq_Q g L R.2 z (some (.int (bq_b R.1)))) args s 31 1206 (bq_A z)) (F0 m 404 ls1 []) := by
          intro E12 H locs ls h hW hl
          replace h := bq_kap1 ek404 h
          refine lv_aload_n hx hb dL_acts_404 rfl (lv_at hl 0 rfl) ?_
          refine lv_iload hx hb dL_acts_405 (lv_at hl 1 rfl) ?_
          refine lv_iload hx hb dL_acts_407 (lv_at hl 2 rfl) ?_
          obtain ⟨v13, hv, h⟩ := bq_bind h
          refine bq_callSL (n := 3) S hK hz hT hN (bq_inSW (bq_wi 680 (by decide +kernel) rfl) (bq_wi 681 (by decide +kernel) rfl) (bq_wi 16 (by decide +kernel) rfl) (bq_wi 682 (by decide +kernel) rfl)) (by decide +kernel) (cl_L_drops hfl hv) dL_acts_409 [.int v13.1] (rest := []) rfl rfl rfl hl.1 (Nat.le_of_ble_eq_true rfl) ⟨Nat.le_of_ble_eq_true rfl, Nat.le_of_ble_eq_true rfl⟩ ⟨by show _ ≤ 31; omega, by show _ ≤ 1206; omega⟩ hW (fun H locs hW => ?_)
          refine lv_iload hx hb dL_acts_412 (lv_at hl 3 rfl) ?_
          refine lv_if_eq (tgt := 421) hx hb dL_acts_414 (by decide) (fun hc => ?_) (fun hc => ?_)
          · replace h := bq_ifT hc h
            refine lv_iconst (v := 0) hx hb dL_acts_421 (by decide) ?_
            refine lv_icmp_ne (tgt := 429) hx hb dL_acts_422 (by decide) (fun hc => ?_) (fun hc => ?_)
            · replace h := bq_ifF hc h
              refine lv_iconst (v := 0) hx hb dL_acts_429 (by decide) ?_
              cases h
              refine W.widen (k := 31) (n := 1206) (by omega) (by omega) ?_
              exact bq_retz S hr hlocks hK hz dL_acts_430 _ rfl hW
            · replace h := bq_ifT hc h
              refine lv_iconst (v := 1) hx hb dL_acts_425 (by decide) ?_
              refine lv_goto (tgt := 430) hx hb dL_acts_426 (by decide) ?_
              cases h
              refine W.widen (k := 31) (n := 1206) (by omega) (by omega) ?_
              exact bq_retz S hr hlocks hK hz dL_acts_430 _ rfl hW
          · replace h := bq_ifF hc h
            refine lv_iconst (v := 1) hx hb dL_acts_417 (by decide) ?_
            refine lv_goto (tgt := 422) hx hb dL_acts_418 (by decide) ?_
            refine lv_icmp_ne (tgt := 429) hx hb dL_acts_422 (by decide) (fun hc => ?_) (fun hc => ?_)
            · replace h := bq_ifF hc h
              refine lv_iconst (v := 0) hx hb dL_acts_429 (by decide) ?_
              cases h
              refine W.widen (k := 31) (n := 1206) (by omega) (by omega) ?_
              exact bq_retz S hr hlocks hK hz dL_acts_430 _ rfl hW
            · replace h := bq_ifT hc h
              refine lv_iconst (v := 1) hx hb dL_acts_425 (by decide) ?_
              refine lv_goto (tgt := 430) hx hb dL_acts_426 (by decide) ?_
              cases h
              refine W.widen (k := 31) (n := 1206) (by omega) (by omega) ?_
              exact bq_retz S hr hlocks hK hz dL_acts_430 _ rfl hW
        clear ek404
        refine lv_if_lt (tgt := 354) hx hb dL_acts_293 (by decide) (fun hc => ?_) (fun hc => ?_)
        · replace h := bq_ifT hc h
          refine lv_iload hx hb dL_acts_354 (lv_at hl 1 rfl) ?_
          refine lv_if_eq (tgt := 404) hx hb dL_acts_356 (by decide) (fun hc => ?_) (fun hc => ?_)
          · replace h := bq_ifT hc h
            refine W.widen (k := 1) (n := 40) (by omega) (by omega) ?_
            exact hjk404 E _ _ _ h hW (lv_sub hl [3, 7, 2, 1] rfl)
          · replace h := bq_ifF hc h
            refine lv_aload_n hx hb dL_acts_359 rfl (lv_at hl 4 rfl) ?_
            refine lv_aload_n hx hb dL_acts_360 rfl (lv_at hl 6 rfl) ?_
            refine lv_iload hx hb dL_acts_361 (lv_at hl 7 rfl) ?_
            refine lv_iload hx hb dL_acts_363 (lv_at hl 2 rfl) ?_
            obtain ⟨v14, hv, h⟩ := bq_bind h
            refine bq_callS S hK hz ms_L_60 (c_L_inBase hv) dL_acts_365 [.int v14] (rest := []) rfl rfl rfl hl.1 (Nat.le_of_ble_eq_true rfl) ⟨Nat.le_of_ble_eq_true rfl, Nat.le_of_ble_eq_true rfl⟩ ⟨by show _ ≤ 31; omega, by show _ ≤ 1206; omega⟩ hW (fun H locs hW => ?_)
            refine lv_istore (lv' := [(12, .int v14), (11, .int v11), (10, .int v10), (9, .int b8), (0, .ref a0), (1, .ref a1), (2, .ref a2), (3, .ref a3), (4, .int x4)]) hx hb dL_acts_368 hl (by decide) rfl (fun ls hl => ?_)
            refine lv_aload_n hx hb dL_acts_370 rfl (lv_at hl 5 rfl) ?_
            refine lv_iload hx hb dL_acts_371 (lv_at hl 0 rfl) ?_
            refine lv_dup2_11 hx hb dL_acts_373 rfl rfl ?_
            obtain ⟨v15, hv, h⟩ := bq_bind h
            refine bq_iald S hK dL_acts_374 hv hW ?_
            refine lv_sipush (v := 10000) hx hb dL_acts_375 (by decide) ?_
            refine lv_iadd hx hb dL_acts_378 ?_
            obtain ⟨E16, hv, h⟩ := bq_bind h
            refine bq_iast S hK dL_acts_379 hv hW (fun H locs hW => ?_)
            refine lv_iconst (v := 2) hx hb dL_acts_380 (by decide) ?_
            refine lv_aload_n hx hb dL_acts_381 rfl (lv_at hl 5 rfl) ?_
            refine lv_aload_n hx hb dL_acts_382 rfl (lv_at hl 7 rfl) ?_
            refine lv_iload hx hb dL_acts_383 (lv_at hl 8 rfl) ?_
            obtain ⟨v17, hv, h⟩ := bq_bind h
            refine bq_callS S hK hz ms_L_69 (c_L_marked hv) dL_acts_385 [.int v17, .int (2 : Int32)] (rest := [.int (2 : Int32)]) rfl rfl rfl hl.1 (Nat.le_of_ble_eq_true rfl) ⟨Nat.le_of_ble_eq_true rfl, Nat.le_of_ble_eq_true rfl⟩ ⟨by show _ ≤ 31; omega, by show _ ≤ 1206; omega⟩ hW (fun H locs hW => ?_)
            refine lv_imul hx hb dL_acts_388 ?_
            refine lv_aload_n hx hb dL_acts_389 rfl (lv_at hl 7 rfl) ?_
            refine lv_iload hx hb dL_acts_390 (lv_at hl 8 rfl) ?_
            obtain ⟨v18, hv, h⟩ := bq_bind h
            refine bq_iald S hK dL_acts_392 hv hW ?_
            refine lv_icmp_le (tgt := 404) hx hb dL_acts_393 (by decide) (fun hc => ?_) (fun hc => ?_)
            · replace h := bq_ifT hc h
              refine W.widen (k := 1) (n := 40) (by omega) (by omega) ?_
              exact hjk404 E16 _ _ _ h hW (lv_sub hl [4, 8, 3, 2] rfl)
            · replace h := bq_ifF hc h
              refine lv_aload_n hx hb dL_acts_396 rfl (lv_at hl 5 rfl) ?_
              refine lv_aload_n hx hb dL_acts_397 rfl (lv_at hl 6 rfl) ?_
              refine lv_aload_n hx hb dL_acts_398 rfl (lv_at hl 7 rfl) ?_
              refine lv_iload hx hb dL_acts_399 (lv_at hl 8 rfl) ?_
              obtain ⟨E19, hv, h⟩ := bq_bind h
              refine bq_callSA S hK hz hT hN ms_L_73 (ca_L_settle hfl hv) dL_acts_401 [] (rest := []) rfl rfl rfl hl.1 (Nat.le_of_ble_eq_true rfl) ⟨Nat.le_of_ble_eq_true rfl, Nat.le_of_ble_eq_true rfl⟩ ⟨by show _ ≤ 31; omega, by show _ ≤ 1206; omega⟩ hW (fun H locs hW => ?_)
              refine W.widen (k := 1) (n := 40) (by omega) (by omega) ?_
              exact hjk404 E19 _ _ _ h hW (lv_sub hl [4, 8, 3, 2] rfl)
        · replace h := bq_ifF hc h
          refine lv_aload_n hx hb dL_acts_296 rfl (lv_at hl 6 rfl) ?_
          refine lv_bipush (v := 8) hx hb dL_acts_297 (by decide) ?_
          refine lv_iload hx hb dL_acts_299 (lv_at hl 7 rfl) ?_
          refine lv_iadd hx hb dL_acts_301 ?_
          refine lv_dup2_11 hx hb dL_acts_302 rfl rfl ?_
          obtain ⟨v20, hv, h⟩ := bq_bind h
          refine bq_iald S hK dL_acts_303 hv hW ?_
          refine lv_iconst (v := 1) hx hb dL_acts_304 (by decide) ?_
          refine lv_isub hx hb dL_acts_305 ?_
          obtain ⟨E21, hv, h⟩ := bq_bind h
          refine bq_iast S hK dL_acts_306 hv hW (fun H locs hW => ?_)
          refine lv_iload hx hb dL_acts_307 (lv_at hl 0 rfl) ?_
          refine lv_istore (lv' := [(12, .int v11), (11, .int v11), (10, .int v10), (9, .int b8), (0, .ref a0), (1, .ref a1), (2, .ref a2), (3, .ref a3), (4, .int x4)]) hx hb dL_acts_309 hl (by decide) rfl (fun ls hl => ?_)
          have hL311 : ∀ (K : Int32 → bq_E → Option (Bool × bq_E)) (hX : ∀ (u30 : Int32) (E31 : bq_E) (H1 : Heap) (locs1 : List Loc) (ls1 : Array Slot), K u30 E31 = some R → bq_H g L E31 z s.heap H1 locs1 → lv_has ls1 17 [(0, .ref a0), (4, .int x4), (9, .int b8), (10, .int v10)] → W p l e { frames := 10, cells := 31, slots := 1206, locals := 201 } s m args below meth c H1 locs1 0 0 (MQ below (bq_Q g L R.2 z (some (.int (bq_b R.1)))) args s 31 1206 (bq_A z)) (F0 m 351 ls1 [])), ∀ (n : Nat) (z24 : Int32) (E25 : bq_E) (H1 : Heap) (locs1 : List Loc) (ls1 : Array Slot), tl_L_acts_311 a0 a2 a3 x4 b8 v10 K n z24 E25 = some R → bq_H g L E25 z s.heap H1 locs1 → lv_has ls1 17 [(0, .ref a0), (2, .ref a2), (3, .ref a3), (4, .int x4), (9, .int b8), (10, .int v10), (12, .int z24)] → W p l e { frames := 10, cells := 31, slots := 1206, locals := 201 } s m args below meth c H1 locs1 0 0 (MQ below (bq_Q g L R.2 z (some (.int (bq_b R.1)))) args s 31 1206 (bq_A z)) (F0 m 311 ls1 []) := by
            intro K hX n
            induction n with
            | zero => intro z24 E25 H locs ls h hW hl; cases h
            | succ n ih =>
              intro z24 E25 H locs ls h hW hl
              rw [tl_L_acts_311.eq_2] at h
              refine lv_iload hx hb dL_acts_311 (lv_at hl 6 rfl) ?_
              refine lv_aload_n hx hb dL_acts_313 rfl (lv_at hl 2 rfl) ?_
              refine lv_bipush (v := 8) hx hb dL_acts_314 (by decide) ?_
              refine lv_iload hx hb dL_acts_316 (lv_at hl 3 rfl) ?_
              refine lv_iadd hx hb dL_acts_318 ?_
              obtain ⟨v26, hv, h⟩ := bq_bind h
              refine bq_iald S hK dL_acts_319 hv hW ?_
              refine lv_icmp_ge (tgt := 351) hx hb dL_acts_320 (by decide) (fun hc => ?_) (fun hc => ?_)
              · replace h := bq_ifT hc h
                exact hX z24 E25 _ _ _ h hW (lv_sub hl [0, 3, 4, 5] rfl)
              · replace h := bq_ifF hc h
                refine lv_aload_n hx hb dL_acts_323 rfl (lv_at hl 1 rfl) ?_
                refine lv_bipush (v := 8) hx hb dL_acts_324 (by decide) ?_
                refine lv_iload hx hb dL_acts_326 (lv_at hl 3 rfl) ?_
                refine lv_imul hx hb dL_acts_328 ?_
                refine lv_iload hx hb dL_acts_329 (lv_at hl 6 rfl) ?_
                refine lv_iadd hx hb dL_acts_331 ?_
                refine lv_aload_n hx hb dL_acts_332 rfl (lv_at hl 1 rfl) ?_
                refine lv_bipush (v := 8) hx hb dL_acts_333 (by decide) ?_
                refine lv_iload hx hb dL_acts_335 (lv_at hl 3 rfl) ?_
                refine lv_imul hx hb dL_acts_337 ?_
                refine lv_iload hx hb dL_acts_338 (lv_at hl 6 rfl) ?_
                refine lv_iadd hx hb dL_acts_340 ?_
                refine lv_iconst (v := 1) hx hb dL_acts_341 (by decide) ?_
                refine lv_iadd hx hb dL_acts_342 ?_
                obtain ⟨v27, hv, h⟩ := bq_bind h
                refine bq_iald S hK dL_acts_343 hv hW ?_
                obtain ⟨E28, hv, h⟩ := bq_bind h
                refine bq_iast S hK dL_acts_344 hv hW (fun H locs hW => ?_)
                obtain ⟨v29, ev29⟩ : ∃ y : Int32, y = z24 + 1 := ⟨_, rfl⟩
                replace h := bq_letE ev29 h
                refine lv_iinc (v := v29) (lv' := [(12, .int v29), (0, .ref a0), (2, .ref a2), (3, .ref a3), (4, .int x4), (9, .int b8), (10, .int v10)]) hx hb dL_acts_345 hl (k := 6) rfl (by rw [ev29]; rfl) (by decide) rfl (fun ls hl => ?_)
                refine lv_goto (tgt := 311) hx hb dL_acts_348 (by decide) ?_
                exact ih v29 E28 _ _ _ h hW (lv_sub hl [1, 2, 3, 4, 5, 6, 0] rfl)
          refine W.widen (k := 0) (n := 0) (by omega) (by omega) ?_
          refine hL311 _ (fun y22 E23 H locs ls h hW hl => ?_) bq_fuel v11 E21 _ _ _ h hW (lv_sub hl [4, 6, 7, 8, 3, 2, 0] rfl)
          refine lv_goto (tgt := 404) hx hb dL_acts_351 (by decide) ?_
          refine W.widen (k := 1) (n := 40) (by omega) (by omega) ?_
          exact hjk404 E23 _ _ _ h hW (lv_sub hl [0, 1, 2, 3] rfl)
      clear ek266
      obtain ⟨k217, ek217, h⟩ := bq_letK h
      have hjk217 : ∀ (u0 : Unit) (H1 : Heap) (locs1 : List Loc) (ls1 : Array Slot), k217 u0 = some R → bq_H g L E z s.heap H1 locs1 → lv_has ls1 17 [(0, .ref a0), (1, .ref a1), (2, .ref a2), (3, .ref a3), (4, .int x4), (5, .int x5), (7, .int v3)] → W p l e { frames := 10, cells := 31, slots := 1206, locals := 201 } s m args below meth c H1 locs1 0 0 (MQ below (bq_Q g L R.2 z (some (.int (bq_b R.1)))) args s 31 1206 (bq_A z)) (F0 m 217 ls1 []) := by
        intro u0 H locs ls h hW hl
        replace h := bq_kap1 ek217 h
        refine lv_aload_n hx hb dL_acts_217 rfl (lv_at hl 3 rfl) ?_
        refine lv_bipush (v := 8) hx hb dL_acts_218 (by decide) ?_
        refine lv_iload hx hb dL_acts_220 (lv_at hl 4 rfl) ?_
        refine lv_iadd hx hb dL_acts_222 ?_
        obtain ⟨v32, hv, h⟩ := bq_bind h
        refine bq_iald S hK dL_acts_223 hv hW ?_
        obtain ⟨k264, ek264, h⟩ := bq_letK h
        have hjk264 : ∀ (u0 : Unit) (H1 : Heap) (locs1 : List Loc) (ls1 : Array Slot), k264 u0 = some R → bq_H g L E z s.heap H1 locs1 → lv_has ls1 17 [(0, .ref a0), (1, .ref a1), (2, .ref a2), (3, .ref a3), (4, .int x4), (7, .int v3)] → W p l e { frames := 10, cells := 31, slots := 1206, locals := 201 } s m args below meth c H1 locs1 0 0 (MQ below (bq_Q g L R.2 z (some (.int (bq_b R.1)))) args s 31 1206 (bq_A z)) (F0 m 264 ls1 []) := by
          intro u0 H locs ls h hW hl
          replace h := bq_kap1 ek264 h
          refine lv_iload hx hb dL_acts_264 (lv_at hl 5 rfl) ?_
          refine W.widen (k := 0) (n := 0) (by omega) (by omega) ?_
          exact hjk266 v3 _ _ _ h hW (lv_sub hl [0, 1, 2, 3, 4] rfl)
        clear ek264
        refine lv_if_le (tgt := 264) hx hb dL_acts_224 (by decide) (fun hc => ?_) (fun hc => ?_)
        · replace h := bq_ifT hc h
          refine W.widen (k := 0) (n := 0) (by omega) (by omega) ?_
          exact hjk264 () _ _ _ h hW (lv_sub hl [0, 1, 2, 3, 4, 6] rfl)
        · replace h := bq_ifF hc h
          refine lv_iload hx hb dL_acts_227 (lv_at hl 5 rfl) ?_
          refine lv_bipush (v := 15) hx hb dL_acts_229 (by decide) ?_
          refine lv_ishr hx hb dL_acts_231 ?_
          refine lv_iconst (v := 2) hx hb dL_acts_232 (by decide) ?_
          obtain ⟨v33, hv, h⟩ := bq_bind h
          refine bq_callS S hK hz ms_L_100 (c_L_low hv) dL_acts_233 [.int v33] (rest := []) rfl rfl rfl hl.1 (Nat.le_of_ble_eq_true rfl) ⟨Nat.le_of_ble_eq_true rfl, Nat.le_of_ble_eq_true rfl⟩ ⟨by show _ ≤ 31; omega, by show _ ≤ 1206; omega⟩ hW (fun H locs hW => ?_)
          refine lv_if_ne (tgt := 264) hx hb dL_acts_236 (by decide) (fun hc => ?_) (fun hc => ?_)
          · replace h := bq_ifF hc h
            refine W.widen (k := 0) (n := 0) (by omega) (by omega) ?_
            exact hjk264 () _ _ _ h hW (lv_sub hl [0, 1, 2, 3, 4, 6] rfl)
          · replace h := bq_ifT hc h
            refine lv_aload_n hx hb dL_acts_239 rfl (lv_at hl 2 rfl) ?_
            refine lv_bipush (v := 8) hx hb dL_acts_240 (by decide) ?_
            refine lv_iload hx hb dL_acts_242 (lv_at hl 4 rfl) ?_
            refine lv_imul hx hb dL_acts_244 ?_
            refine lv_iload hx hb dL_acts_245 (lv_at hl 5 rfl) ?_
            refine lv_iconst (v := 5) hx hb dL_acts_247 (by decide) ?_
            refine lv_ishr hx hb dL_acts_248 ?_
            refine lv_aload_n hx hb dL_acts_249 rfl (lv_at hl 3 rfl) ?_
            refine lv_bipush (v := 8) hx hb dL_acts_250 (by decide) ?_
            refine lv_iload hx hb dL_acts_252 (lv_at hl 4 rfl) ?_
            refine lv_iadd hx hb dL_acts_254 ?_
            obtain ⟨v34, hv, h⟩ := bq_bind h
            refine bq_iald S hK dL_acts_255 hv hW ?_
            obtain ⟨v35, hv, h⟩ := bq_bind h
            refine bq_callS S hK hz ms_L_100 (c_L_low hv) dL_acts_256 [.int v35, .int ((8 : Int32) * x4), .ref a2] (rest := [.int ((8 : Int32) * x4), .ref a2]) rfl rfl rfl hl.1 (Nat.le_of_ble_eq_true rfl) ⟨Nat.le_of_ble_eq_true rfl, Nat.le_of_ble_eq_true rfl⟩ ⟨by show _ ≤ 31; omega, by show _ ≤ 1206; omega⟩ hW (fun H locs hW => ?_)
            refine lv_iadd hx hb dL_acts_259 ?_
            obtain ⟨v36, hv, h⟩ := bq_bind h
            refine bq_iald S hK dL_acts_260 hv hW ?_
            refine lv_goto (tgt := 266) hx hb dL_acts_261 (by decide) ?_
            refine W.widen (k := 0) (n := 0) (by omega) (by omega) ?_
            exact hjk266 v36 _ _ _ h hW (lv_sub hl [0, 1, 2, 3, 4] rfl)
      clear ek217
      refine lv_if_le (tgt := 217) hx hb dL_acts_182 (by decide) (fun hc => ?_) (fun hc => ?_)
      · replace h := bq_ifT hc h
        refine W.widen (k := 0) (n := 0) (by omega) (by omega) ?_
        exact hjk217 () _ _ _ h hW (lv_sub hl [0, 1, 2, 3, 4, 5, 6] rfl)
      · replace h := bq_ifF hc h
        refine lv_iload hx hb dL_acts_185 (lv_at hl 5 rfl) ?_
        refine lv_bipush (v := 14) hx hb dL_acts_187 (by decide) ?_
        refine lv_ishr hx hb dL_acts_189 ?_
        refine lv_iconst (v := 2) hx hb dL_acts_190 (by decide) ?_
        obtain ⟨v37, hv, h⟩ := bq_bind h
        refine bq_callS S hK hz ms_L_100 (c_L_low hv) dL_acts_191 [.int v37] (rest := []) rfl rfl rfl hl.1 (Nat.le_of_ble_eq_true rfl) ⟨Nat.le_of_ble_eq_true rfl, Nat.le_of_ble_eq_true rfl⟩ ⟨by show _ ≤ 31; omega, by show _ ≤ 1206; omega⟩ hW (fun H locs hW => ?_)
        refine lv_if_ne (tgt := 217) hx hb dL_acts_194 (by decide) (fun hc => ?_) (fun hc => ?_)
        · replace h := bq_ifF hc h
          refine W.widen (k := 0) (n := 0) (by omega) (by omega) ?_
          exact hjk217 () _ _ _ h hW (lv_sub hl [0, 1, 2, 3, 4, 5, 6] rfl)
        · replace h := bq_ifT hc h
          refine lv_aload_n hx hb dL_acts_197 rfl (lv_at hl 1 rfl) ?_
          refine lv_iload hx hb dL_acts_198 (lv_at hl 5 rfl) ?_
          refine lv_iconst (v := 5) hx hb dL_acts_200 (by decide) ?_
          refine lv_ishr hx hb dL_acts_201 ?_
          refine lv_aload_n hx hb dL_acts_202 rfl (lv_at hl 3 rfl) ?_
          refine lv_iload hx hb dL_acts_203 (lv_at hl 4 rfl) ?_
          obtain ⟨v38, hv, h⟩ := bq_bind h
          refine bq_iald S hK dL_acts_205 hv hW ?_
          obtain ⟨v39, hv, h⟩ := bq_bind h
          refine bq_callS S hK hz ms_L_100 (c_L_low hv) dL_acts_206 [.int v39, .ref a1] (rest := [.ref a1]) rfl rfl rfl hl.1 (Nat.le_of_ble_eq_true rfl) ⟨Nat.le_of_ble_eq_true rfl, Nat.le_of_ble_eq_true rfl⟩ ⟨by show _ ≤ 31; omega, by show _ ≤ 1206; omega⟩ hW (fun H locs hW => ?_)
          obtain ⟨v40, hv, h⟩ := bq_bind h
          refine bq_iald S hK dL_acts_209 hv hW ?_
          refine lv_sipush (v := 10000) hx hb dL_acts_210 (by decide) ?_
          refine lv_irem hx hb dL_acts_213 (by decide) ?_
          refine lv_topi (fun v41 ev41 => ?_)
          replace h := bq_letE ev41 h
          refine lv_goto (tgt := 266) hx hb dL_acts_214 (by decide) ?_
          refine W.widen (k := 0) (n := 0) (by omega) (by omega) ?_
          exact hjk266 v41 _ _ _ h hW (lv_sub hl [0, 1, 2, 3, 4] rfl)
    clear ek178
    obtain ⟨k100, ek100, h⟩ := bq_letK h
    have hjk100 : ∀ (u0 : Unit) (H1 : Heap) (locs1 : List Loc) (ls1 : Array Slot), k100 u0 = some R → bq_H g L E z s.heap H1 locs1 → lv_has ls1 17 [(0, .ref a0), (1, .ref a1), (2, .ref a2), (3, .ref a3), (4, .int x4), (7, .int v3), (8, .int v5)] → W p l e { frames := 10, cells := 31, slots := 1206, locals := 201 } s m args below meth c H1 locs1 0 0 (MQ below (bq_Q g L R.2 z (some (.int (bq_b R.1)))) args s 31 1206 (bq_A z)) (F0 m 100 ls1 []) := by
      intro u0 H locs ls h hW hl
      replace h := bq_kap1 ek100 h
      refine lv_iload hx hb dL_acts_100 (lv_at hl 6 rfl) ?_
      obtain ⟨k136, ek136, h⟩ := bq_letK h
      have hjk136 : ∀ (u0 : Unit) (H1 : Heap) (locs1 : List Loc) (ls1 : Array Slot), k136 u0 = some R → bq_H g L E z s.heap H1 locs1 → lv_has ls1 17 [(0, .ref a0), (1, .ref a1), (2, .ref a2), (3, .ref a3), (4, .int x4), (7, .int v3), (8, .int v5)] → W p l e { frames := 10, cells := 31, slots := 1206, locals := 201 } s m args below meth c H1 locs1 0 0 (MQ below (bq_Q g L R.2 z (some (.int (bq_b R.1)))) args s 31 1206 (bq_A z)) (F0 m 136 ls1 []) := by
        intro u0 H locs ls h hW hl
        replace h := bq_kap1 ek136 h
        refine lv_iload hx hb dL_acts_136 (lv_at hl 6 rfl) ?_
        obtain ⟨k151, ek151, h⟩ := bq_letK h
        have hjk151 : ∀ (E42 : bq_E) (H1 : Heap) (locs1 : List Loc) (ls1 : Array Slot), k151 E42 = some R → bq_H g L E42 z s.heap H1 locs1 → lv_has ls1 17 [(0, .ref a0), (4, .int x4), (7, .int v3), (8, .int v5)] → W p l e { frames := 10, cells := 31, slots := 1206, locals := 201 } s m args below meth c H1 locs1 1 40 (MQ below (bq_Q g L R.2 z (some (.int (bq_b R.1)))) args s 31 1206 (bq_A z)) (F0 m 151 ls1 []) := by
          intro E42 H locs ls h hW hl
          replace h := bq_kap1 ek151 h
          refine lv_aload_n hx hb dL_acts_151 rfl (lv_at hl 0 rfl) ?_
          refine lv_iload hx hb dL_acts_152 (lv_at hl 1 rfl) ?_
          refine lv_iload hx hb dL_acts_154 (lv_at hl 2 rfl) ?_
          obtain ⟨v43, hv, h⟩ := bq_bind h
          refine bq_callSL (n := 3) S hK hz hT hN (bq_inSW (bq_wi 628 (by decide +kernel) rfl) (bq_wi 629 (by decide +kernel) rfl) (bq_wi 16 (by decide +kernel) rfl) (bq_wi 630 (by decide +kernel) rfl)) (by decide +kernel) (cl_L_puts hfl hv) dL_acts_156 [.int v43.1] (rest := []) rfl rfl rfl hl.1 (Nat.le_of_ble_eq_true rfl) ⟨Nat.le_of_ble_eq_true rfl, Nat.le_of_ble_eq_true rfl⟩ ⟨by show _ ≤ 31; omega, by show _ ≤ 1206; omega⟩ hW (fun H locs hW => ?_)
          refine lv_iload hx hb dL_acts_159 (lv_at hl 3 rfl) ?_
          refine lv_if_eq (tgt := 168) hx hb dL_acts_161 (by decide) (fun hc => ?_) (fun hc => ?_)
          · replace h := bq_ifT hc h
            refine lv_iconst (v := 1) hx hb dL_acts_168 (by decide) ?_
            refine lv_icmp_ne (tgt := 176) hx hb dL_acts_169 (by decide) (fun hc => ?_) (fun hc => ?_)
            · replace h := bq_ifF hc h
              refine lv_iconst (v := 0) hx hb dL_acts_176 (by decide) ?_
              cases h
              refine W.widen (k := 31) (n := 1206) (by omega) (by omega) ?_
              exact bq_retz S hr hlocks hK hz dL_acts_177 _ rfl hW
            · replace h := bq_ifT hc h
              refine lv_iconst (v := 1) hx hb dL_acts_172 (by decide) ?_
              refine lv_goto (tgt := 177) hx hb dL_acts_173 (by decide) ?_
              cases h
              refine W.widen (k := 31) (n := 1206) (by omega) (by omega) ?_
              exact bq_retz S hr hlocks hK hz dL_acts_177 _ rfl hW
          · replace h := bq_ifF hc h
            refine lv_iconst (v := 0) hx hb dL_acts_164 (by decide) ?_
            refine lv_goto (tgt := 169) hx hb dL_acts_165 (by decide) ?_
            refine lv_icmp_ne (tgt := 176) hx hb dL_acts_169 (by decide) (fun hc => ?_) (fun hc => ?_)
            · replace h := bq_ifF hc h
              refine lv_iconst (v := 0) hx hb dL_acts_176 (by decide) ?_
              cases h
              refine W.widen (k := 31) (n := 1206) (by omega) (by omega) ?_
              exact bq_retz S hr hlocks hK hz dL_acts_177 _ rfl hW
            · replace h := bq_ifT hc h
              refine lv_iconst (v := 1) hx hb dL_acts_172 (by decide) ?_
              refine lv_goto (tgt := 177) hx hb dL_acts_173 (by decide) ?_
              cases h
              refine W.widen (k := 31) (n := 1206) (by omega) (by omega) ?_
              exact bq_retz S hr hlocks hK hz dL_acts_177 _ rfl hW
        clear ek151
        refine lv_if_ne (tgt := 151) hx hb dL_acts_138 (by decide) (fun hc => ?_) (fun hc => ?_)
        · replace h := bq_ifF hc h
          refine W.widen (k := 1) (n := 40) (by omega) (by omega) ?_
          exact hjk151 E _ _ _ h hW (lv_sub hl [0, 4, 5, 6] rfl)
        · replace h := bq_ifT hc h
          refine lv_aload_n hx hb dL_acts_141 rfl (lv_at hl 1 rfl) ?_
          refine lv_aload_n hx hb dL_acts_142 rfl (lv_at hl 2 rfl) ?_
          refine lv_aload_n hx hb dL_acts_143 rfl (lv_at hl 3 rfl) ?_
          refine lv_iload hx hb dL_acts_144 (lv_at hl 4 rfl) ?_
          refine lv_iload hx hb dL_acts_146 (lv_at hl 5 rfl) ?_
          obtain ⟨E44, hv, h⟩ := bq_bind h
          refine bq_callSA S hK hz hT hN ms_L_110 (ca_L_put hfl hv) dL_acts_148 [] (rest := []) rfl rfl rfl hl.1 (Nat.le_of_ble_eq_true rfl) ⟨Nat.le_of_ble_eq_true rfl, Nat.le_of_ble_eq_true rfl⟩ ⟨by show _ ≤ 31; omega, by show _ ≤ 1206; omega⟩ hW (fun H locs hW => ?_)
          refine W.widen (k := 1) (n := 40) (by omega) (by omega) ?_
          exact hjk151 E44 _ _ _ h hW (lv_sub hl [0, 4, 5, 6] rfl)
      clear ek136
      refine lv_if_ne (tgt := 136) hx hb dL_acts_102 (by decide) (fun hc => ?_) (fun hc => ?_)
      · replace h := bq_ifF hc h
        refine W.widen (k := 0) (n := 0) (by omega) (by omega) ?_
        exact hjk136 () _ _ _ h hW (lv_sub hl [0, 1, 2, 3, 4, 5, 6] rfl)
      · replace h := bq_ifT hc h
        refine lv_aload_n hx hb dL_acts_105 rfl (lv_at hl 1 rfl) ?_
        refine lv_aload_n hx hb dL_acts_106 rfl (lv_at hl 3 rfl) ?_
        refine lv_iload hx hb dL_acts_107 (lv_at hl 4 rfl) ?_
        obtain ⟨v45, hv, h⟩ := bq_bind h
        refine bq_callS S hK hz ms_L_81 (c_L_size hv) dL_acts_109 [.int v45] (rest := []) rfl rfl rfl hl.1 (Nat.le_of_ble_eq_true rfl) ⟨Nat.le_of_ble_eq_true rfl, Nat.le_of_ble_eq_true rfl⟩ ⟨by show _ ≤ 31; omega, by show _ ≤ 1206; omega⟩ hW (fun H locs hW => ?_)
        refine lv_bipush (v := 24) hx hb dL_acts_112 (by decide) ?_
        refine lv_icmp_ne (tgt := 136) hx hb dL_acts_114 (by decide) (fun hc => ?_) (fun hc => ?_)
        · replace h := bq_ifF hc h
          refine W.widen (k := 0) (n := 0) (by omega) (by omega) ?_
          exact hjk136 () _ _ _ h hW (lv_sub hl [0, 1, 2, 3, 4, 5, 6] rfl)
        · replace h := bq_ifT hc h
          refine lv_aload_n hx hb dL_acts_117 rfl (lv_at hl 0 rfl) ?_
          refine lv_iload hx hb dL_acts_118 (lv_at hl 4 rfl) ?_
          refine lv_iload hx hb dL_acts_120 (lv_at hl 5 rfl) ?_
          obtain ⟨v46, hv, h⟩ := bq_bind h
          refine bq_callSL (n := 3) S hK hz hT hN (bq_inSW (bq_wi 628 (by decide +kernel) rfl) (bq_wi 629 (by decide +kernel) rfl) (bq_wi 16 (by decide +kernel) rfl) (bq_wi 630 (by decide +kernel) rfl)) (by decide +kernel) (cl_L_puts hfl hv) dL_acts_122 [.int v46.1] (rest := []) rfl rfl rfl hl.1 (Nat.le_of_ble_eq_true rfl) ⟨Nat.le_of_ble_eq_true rfl, Nat.le_of_ble_eq_true rfl⟩ ⟨by show _ ≤ 31; omega, by show _ ≤ 1206; omega⟩ hW (fun H locs hW => ?_)
          refine lv_ldc (own := RL) (v := (-100003)) hx hb S.2.2.2.1 (S.2.2.2.2 _ (bq_wi 471 (by decide +kernel) rfl)) dL_acts_125 ?_
          refine lv_icmp_ne (tgt := 134) hx hb dL_acts_127 (by decide) (fun hc => ?_) (fun hc => ?_)
          · replace h := bq_ifF hc h
            refine lv_iconst (v := 0) hx hb dL_acts_134 (by decide) ?_
            cases h
            refine W.widen (k := 31) (n := 1206) (by omega) (by omega) ?_
            exact bq_retz S hr hlocks hK hz dL_acts_135 _ rfl hW
          · replace h := bq_ifT hc h
            refine lv_iconst (v := 1) hx hb dL_acts_130 (by decide) ?_
            refine lv_goto (tgt := 135) hx hb dL_acts_131 (by decide) ?_
            cases h
            refine W.widen (k := 31) (n := 1206) (by omega) (by omega) ?_
            exact bq_retz S hr hlocks hK hz dL_acts_135 _ rfl hW
    clear ek100
    by_cases hc0 : v6 = 0
    · replace h := bq_ifT hc0 h
      refine lv_tableIn (tgt := 100) (off := 49) hx hb dL_acts_51 (by rw [hc0]; decide) (by rw [hc0]; decide) (by rw [hc0]; rfl) (by decide) ?_
      refine W.widen (k := 0) (n := 0) (by omega) (by omega) ?_
      exact hjk100 () _ _ _ h hW (lv_sub hl [3, 4, 5, 6, 7, 1, 0] rfl)
    replace h := bq_ifF hc0 h
    by_cases hc1 : v6 = 1
    · replace h := bq_ifT hc1 h
      refine lv_tableIn (tgt := 100) (off := 49) hx hb dL_acts_51 (by rw [hc1]; decide) (by rw [hc1]; decide) (by rw [hc1]; rfl) (by decide) ?_
      refine W.widen (k := 0) (n := 0) (by omega) (by omega) ?_
      exact hjk100 () _ _ _ h hW (lv_sub hl [3, 4, 5, 6, 7, 1, 0] rfl)
    replace h := bq_ifF hc1 h
    by_cases hc2 : v6 = 2
    · replace h := bq_ifT hc2 h
      refine lv_tableIn (tgt := 100) (off := 49) hx hb dL_acts_51 (by rw [hc2]; decide) (by rw [hc2]; decide) (by rw [hc2]; rfl) (by decide) ?_
      refine W.widen (k := 0) (n := 0) (by omega) (by omega) ?_
      exact hjk100 () _ _ _ h hW (lv_sub hl [3, 4, 5, 6, 7, 1, 0] rfl)
    replace h := bq_ifF hc2 h
    by_cases hc3 : v6 = 3
    · replace h := bq_ifT hc3 h
      refine lv_tableIn (tgt := 100) (off := 49) hx hb dL_acts_51 (by rw [hc3]; decide) (by rw [hc3]; decide) (by rw [hc3]; rfl) (by decide) ?_
      refine W.widen (k := 0) (n := 0) (by omega) (by omega) ?_
      exact hjk100 () _ _ _ h hW (lv_sub hl [3, 4, 5, 6, 7, 1, 0] rfl)
    replace h := bq_ifF hc3 h
    by_cases hc4 : v6 = 4
    · replace h := bq_ifT hc4 h
      refine lv_tableIn (tgt := 178) (off := 127) hx hb dL_acts_51 (by rw [hc4]; decide) (by rw [hc4]; decide) (by rw [hc4]; rfl) (by decide) ?_
      refine W.widen (k := 0) (n := 0) (by omega) (by omega) ?_
      exact hjk178 () _ _ _ h hW (lv_sub hl [3, 4, 5, 6, 7, 8, 1] rfl)
    replace h := bq_ifF hc4 h
    by_cases hc5 : v6 = 5
    · replace h := bq_ifT hc5 h
      refine lv_tableIn (tgt := 178) (off := 127) hx hb dL_acts_51 (by rw [hc5]; decide) (by rw [hc5]; decide) (by rw [hc5]; rfl) (by decide) ?_
      refine W.widen (k := 0) (n := 0) (by omega) (by omega) ?_
      exact hjk178 () _ _ _ h hW (lv_sub hl [3, 4, 5, 6, 7, 8, 1] rfl)
    replace h := bq_ifF hc5 h
    by_cases hc6 : v6 = 6
    · replace h := bq_ifT hc6 h
      refine lv_tableIn (tgt := 178) (off := 127) hx hb dL_acts_51 (by rw [hc6]; decide) (by rw [hc6]; decide) (by rw [hc6]; rfl) (by decide) ?_
      refine W.widen (k := 0) (n := 0) (by omega) (by omega) ?_
      exact hjk178 () _ _ _ h hW (lv_sub hl [3, 4, 5, 6, 7, 8, 1] rfl)
    replace h := bq_ifF hc6 h
    by_cases hc7 : v6 = 7
    · replace h := bq_ifT hc7 h
      refine lv_tableIn (tgt := 431) (off := 380) hx hb dL_acts_51 (by rw [hc7]; decide) (by rw [hc7]; decide) (by rw [hc7]; rfl) (by decide) ?_
      refine lv_iconst (v := 1) hx hb dL_acts_431 (by decide) ?_
      refine lv_iload hx hb dL_acts_432 (lv_at hl 8 rfl) ?_
      refine lv_bipush (v := 9) hx hb dL_acts_434 (by decide) ?_
      refine lv_ishr hx hb dL_acts_436 ?_
      refine lv_sipush (v := 999) hx hb dL_acts_437 (by decide) ?_
      obtain ⟨v47, hv, h⟩ := bq_bind h
      refine bq_callS S hK hz ms_L_100 (c_L_low hv) dL_acts_440 [.int v47, .int (1 : Int32)] (rest := [.int (1 : Int32)]) rfl rfl rfl hl.1 (Nat.le_of_ble_eq_true rfl) ⟨Nat.le_of_ble_eq_true rfl, Nat.le_of_ble_eq_true rfl⟩ ⟨by show _ ≤ 31; omega, by show _ ≤ 1206; omega⟩ hW (fun H locs hW => ?_)
      refine lv_iadd hx hb dL_acts_443 ?_
      refine lv_topi (fun v48 ev48 => ?_)
      replace h := bq_letE ev48 h
      refine lv_istore (lv' := [(12, .int v48), (8, .int v5), (7, .int v3), (6, .int b2), (0, .ref a0), (1, .ref a1), (2, .ref a2), (3, .ref a3), (4, .int x4), (5, .int x5)]) hx hb dL_acts_444 hl (by decide) rfl (fun ls hl => ?_)
      refine lv_iconst (v := 1) hx hb dL_acts_446 (by decide) ?_
      refine lv_iload hx hb dL_acts_447 (lv_at hl 9 rfl) ?_
      refine lv_bipush (v := 12) hx hb dL_acts_449 (by decide) ?_
      refine lv_ishr hx hb dL_acts_451 ?_
      refine lv_bipush (v := 24) hx hb dL_acts_452 (by decide) ?_
      obtain ⟨v49, hv, h⟩ := bq_bind h
      refine bq_callS S hK hz ms_L_100 (c_L_low hv) dL_acts_454 [.int v49, .int (1 : Int32)] (rest := [.int (1 : Int32)]) rfl rfl rfl hl.1 (Nat.le_of_ble_eq_true rfl) ⟨Nat.le_of_ble_eq_true rfl, Nat.le_of_ble_eq_true rfl⟩ ⟨by show _ ≤ 31; omega, by show _ ≤ 1206; omega⟩ hW (fun H locs hW => ?_)
      refine lv_iadd hx hb dL_acts_457 ?_
      refine lv_topi (fun v50 ev50 => ?_)
      replace h := bq_letE ev50 h
      refine lv_istore (lv' := [(13, .int v50), (12, .int v48), (8, .int v5), (7, .int v3), (6, .int b2), (0, .ref a0), (1, .ref a1), (2, .ref a2), (3, .ref a3), (4, .int x4), (5, .int x5)]) hx hb dL_acts_458 hl (by decide) rfl (fun ls hl => ?_)
      refine lv_iconst (v := 0) hx hb dL_acts_460 (by decide) ?_
      refine lv_istore (lv' := [(14, .int (0 : Int32)), (13, .int v50), (12, .int v48), (8, .int v5), (7, .int v3), (6, .int b2), (0, .ref a0), (1, .ref a1), (2, .ref a2), (3, .ref a3), (4, .int x4), (5, .int x5)]) hx hb dL_acts_461 hl (by decide) rfl (fun ls hl => ?_)
      refine lv_iload hx hb dL_acts_463 (lv_at hl 4 rfl) ?_
      refine lv_istore (lv' := [(15, .int v3), (14, .int (0 : Int32)), (13, .int v50), (12, .int v48), (8, .int v5), (7, .int v3), (6, .int b2), (0, .ref a0), (1, .ref a1), (2, .ref a2), (3, .ref a3), (4, .int x4), (5, .int x5)]) hx hb dL_acts_465 hl (by decide) rfl (fun ls hl => ?_)
      refine lv_iconst (v := 0) hx hb dL_acts_467 (by decide) ?_
      refine lv_istore (lv' := [(16, .int (0 : Int32)), (15, .int v3), (14, .int (0 : Int32)), (13, .int v50), (12, .int v48), (8, .int v5), (7, .int v3), (6, .int b2), (0, .ref a0), (1, .ref a1), (2, .ref a2), (3, .ref a3), (4, .int x4), (5, .int x5)]) hx hb dL_acts_468 hl (by decide) rfl (fun ls hl => ?_)
      have hL470 : ∀ (K : Int32 → Int32 → Int32 → bq_E → Option (Bool × bq_E)) (hX : ∀ (u68 : Int32) (u69 : Int32) (u70 : Int32) (E71 : bq_E) (H1 : Heap) (locs1 : List Loc) (ls1 : Array Slot), K u68 u69 u70 E71 = some R → bq_H g L E71 z s.heap H1 locs1 → lv_has ls1 17 [(0, .ref a0), (4, .int x4), (7, .int v3), (12, .int v48), (13, .int v50), (14, .int u68)] → W p l e { frames := 10, cells := 31, slots := 1206, locals := 201 } s m args below meth c H1 locs1 30 1200 (MQ below (bq_Q g L R.2 z (some (.int (bq_b R.1)))) args s 31 1206 (bq_A z)) (F0 m 536 ls1 [])), ∀ (n : Nat) (z56 : Int32) (z57 : Int32) (z58 : Int32) (E59 : bq_E) (cl sl : Nat) (H1 : Heap) (locs1 : List Loc) (ls1 : Array Slot), cl + 1 * n ≤ 30 → sl + 40 * n ≤ 1200 → tl_L_acts_470 a0 a1 a2 a3 x4 v3 v48 v50 K n z56 z57 z58 E59 = some R → bq_H g L E59 z s.heap H1 locs1 → lv_has ls1 17 [(0, .ref a0), (1, .ref a1), (2, .ref a2), (3, .ref a3), (4, .int x4), (7, .int v3), (12, .int v48), (13, .int v50), (14, .int z56), (15, .int z57), (16, .int z58)] → W p l e { frames := 10, cells := 31, slots := 1206, locals := 201 } s m args below meth c H1 locs1 cl sl (MQ below (bq_Q g L R.2 z (some (.int (bq_b R.1)))) args s 31 1206 (bq_A z)) (F0 m 470 ls1 []) := by
        intro K hX n
        induction n with
        | zero => intro z56 z57 z58 E59 cl sl H locs ls _ _ h hW hl; cases h
        | succ n ih =>
          intro z56 z57 z58 E59 cl sl H locs ls hcl hsl h hW hl
          rw [tl_L_acts_470.eq_2] at h
          refine lv_iload hx hb dL_acts_470 (lv_at hl 10 rfl) ?_
          refine lv_iload hx hb dL_acts_472 (lv_at hl 7 rfl) ?_
          refine lv_icmp_ge (tgt := 536) hx hb dL_acts_474 (by decide) (fun hc => ?_) (fun hc => ?_)
          · replace h := bq_ifT hc h
            refine W.widen (k := 30) (n := 1200) (by omega) (by omega) ?_
            exact hX z56 z57 z58 E59 _ _ _ h hW (lv_sub hl [0, 4, 5, 6, 7, 8] rfl)
          · replace h := bq_ifF hc h
            refine lv_iload hx hb dL_acts_477 (lv_at hl 9 rfl) ?_
            refine lv_sipush (v := 10000) hx hb dL_acts_479 (by decide) ?_
            refine lv_icmp_ge (tgt := 536) hx hb dL_acts_482 (by decide) (fun hc => ?_) (fun hc => ?_)
            · replace h := bq_ifT hc h
              refine W.widen (k := 30) (n := 1200) (by omega) (by omega) ?_
              exact hX z56 z57 z58 E59 _ _ _ h hW (lv_sub hl [0, 4, 5, 6, 7, 8] rfl)
            · replace h := bq_ifF hc h
              refine lv_aload_n hx hb dL_acts_485 rfl (lv_at hl 1 rfl) ?_
              refine lv_aload_n hx hb dL_acts_486 rfl (lv_at hl 3 rfl) ?_
              refine lv_iload hx hb dL_acts_487 (lv_at hl 4 rfl) ?_
              obtain ⟨v60, hv, h⟩ := bq_bind h
              refine bq_callS S hK hz ms_L_81 (c_L_size hv) dL_acts_489 [.int v60] (rest := []) rfl rfl rfl hl.1 (Nat.le_of_ble_eq_true rfl) ⟨Nat.le_of_ble_eq_true rfl, Nat.le_of_ble_eq_true rfl⟩ ⟨by show _ ≤ 31; omega, by show _ ≤ 1206; omega⟩ hW (fun H locs hW => ?_)
              refine lv_bipush (v := 24) hx hb dL_acts_492 (by decide) ?_
              refine lv_icmp_ge (tgt := 536) hx hb dL_acts_494 (by decide) (fun hc => ?_) (fun hc => ?_)
              · replace h := bq_ifT hc h
                refine W.widen (k := 30) (n := 1200) (by omega) (by omega) ?_
                exact hX z56 z57 z58 E59 _ _ _ h hW (lv_sub hl [0, 4, 5, 6, 7, 8] rfl)
              · replace h := bq_ifF hc h
                refine lv_aload_n hx hb dL_acts_497 rfl (lv_at hl 1 rfl) ?_
                refine lv_aload_n hx hb dL_acts_498 rfl (lv_at hl 2 rfl) ?_
                refine lv_aload_n hx hb dL_acts_499 rfl (lv_at hl 3 rfl) ?_
                refine lv_iload hx hb dL_acts_500 (lv_at hl 4 rfl) ?_
                refine lv_iload hx hb dL_acts_502 (lv_at hl 9 rfl) ?_
                obtain ⟨v61, hv, h⟩ := bq_bind h
                refine bq_callS S hK hz ms_L_103 (c_L_has hv) dL_acts_504 [.int (bq_b v61)] (rest := []) rfl rfl rfl hl.1 (Nat.le_of_ble_eq_true rfl) ⟨Nat.le_of_ble_eq_true rfl, Nat.le_of_ble_eq_true rfl⟩ ⟨by show _ ≤ 31; omega, by show _ ≤ 1206; omega⟩ hW (fun H locs hW => ?_)
                refine lv_if_ne (tgt := 523) hx hb dL_acts_507 (by decide) (fun hc => ?_) (fun hc => ?_)
                · replace h := bq_ifF hc h
                  refine lv_iload hx hb dL_acts_523 (lv_at hl 9 rfl) ?_
                  refine lv_iload hx hb dL_acts_525 (lv_at hl 6 rfl) ?_
                  refine lv_iadd hx hb dL_acts_527 ?_
                  refine lv_topi (fun v62 ev62 => ?_)
                  replace h := bq_letE ev62 h
                  refine lv_istore (lv' := [(15, .int v62), (0, .ref a0), (1, .ref a1), (2, .ref a2), (3, .ref a3), (4, .int x4), (7, .int v3), (12, .int v48), (13, .int v50), (14, .int z56), (16, .int z58)]) hx hb dL_acts_528 hl (by decide) rfl (fun ls hl => ?_)
                  obtain ⟨v63, ev63⟩ : ∃ y : Int32, y = z58 + 1 := ⟨_, rfl⟩
                  replace h := bq_letE ev63 h
                  refine lv_iinc (v := v63) (lv' := [(16, .int v63), (15, .int v62), (0, .ref a0), (1, .ref a1), (2, .ref a2), (3, .ref a3), (4, .int x4), (7, .int v3), (12, .int v48), (13, .int v50), (14, .int z56)]) hx hb dL_acts_530 hl (k := 10) rfl (by rw [ev63]; rfl) (by decide) rfl (fun ls hl => ?_)
                  refine lv_goto (tgt := 470) hx hb dL_acts_533 (by decide) ?_
                  exact ih z56 v62 v63 E59 cl sl _ _ _ (by omega) (by omega) h hW (lv_sub hl [2, 3, 4, 5, 6, 7, 8, 9, 10, 1, 0] rfl)
                · replace h := bq_ifT hc h
                  refine lv_aload_n hx hb dL_acts_510 rfl (lv_at hl 1 rfl) ?_
                  refine lv_aload_n hx hb dL_acts_511 rfl (lv_at hl 2 rfl) ?_
                  refine lv_aload_n hx hb dL_acts_512 rfl (lv_at hl 3 rfl) ?_
                  refine lv_iload hx hb dL_acts_513 (lv_at hl 4 rfl) ?_
                  refine lv_iload hx hb dL_acts_515 (lv_at hl 9 rfl) ?_
                  obtain ⟨E64, hv, h⟩ := bq_bind h
                  refine bq_callSA S hK hz hT hN ms_L_110 (ca_L_put hfl hv) dL_acts_517 [] (rest := []) rfl rfl rfl hl.1 (Nat.le_of_ble_eq_true rfl) ⟨Nat.le_of_ble_eq_true rfl, Nat.le_of_ble_eq_true rfl⟩ ⟨by show _ ≤ 31; omega, by show _ ≤ 1206; omega⟩ hW (fun H locs hW => ?_)
                  obtain ⟨v65, ev65⟩ : ∃ y : Int32, y = z56 + 1 := ⟨_, rfl⟩
                  replace h := bq_letE ev65 h
                  refine lv_iinc (v := v65) (lv' := [(14, .int v65), (0, .ref a0), (1, .ref a1), (2, .ref a2), (3, .ref a3), (4, .int x4), (7, .int v3), (12, .int v48), (13, .int v50), (15, .int z57), (16, .int z58)]) hx hb dL_acts_520 hl (k := 8) rfl (by rw [ev65]; rfl) (by decide) rfl (fun ls hl => ?_)
                  refine lv_iload hx hb dL_acts_523 (lv_at hl 9 rfl) ?_
                  refine lv_iload hx hb dL_acts_525 (lv_at hl 7 rfl) ?_
                  refine lv_iadd hx hb dL_acts_527 ?_
                  refine lv_topi (fun v66 ev66 => ?_)
                  replace h := bq_letE ev66 h
                  refine lv_istore (lv' := [(15, .int v66), (14, .int v65), (0, .ref a0), (1, .ref a1), (2, .ref a2), (3, .ref a3), (4, .int x4), (7, .int v3), (12, .int v48), (13, .int v50), (16, .int z58)]) hx hb dL_acts_528 hl (by decide) rfl (fun ls hl => ?_)
                  obtain ⟨v67, ev67⟩ : ∃ y : Int32, y = z58 + 1 := ⟨_, rfl⟩
                  replace h := bq_letE ev67 h
                  refine lv_iinc (v := v67) (lv' := [(16, .int v67), (15, .int v66), (14, .int v65), (0, .ref a0), (1, .ref a1), (2, .ref a2), (3, .ref a3), (4, .int x4), (7, .int v3), (12, .int v48), (13, .int v50)]) hx hb dL_acts_530 hl (k := 10) rfl (by rw [ev67]; rfl) (by decide) rfl (fun ls hl => ?_)
                  refine lv_goto (tgt := 470) hx hb dL_acts_533 (by decide) ?_
                  exact ih v65 v66 v67 E64 (cl + 1) (sl + 40) _ _ _ (by omega) (by omega) h hW (lv_sub hl [3, 4, 5, 6, 7, 8, 9, 10, 2, 1, 0] rfl)
      refine W.widen (k := 0) (n := 0) (by omega) (by omega) ?_
      refine hL470 _ (fun y51 y52 y53 E54 H locs ls h hW hl => ?_) 30 (0 : Int32) v3 (0 : Int32) E 0 0 _ _ _ (by omega) (by omega) h hW (lv_sub hl [8, 9, 10, 11, 12, 6, 4, 3, 2, 1, 0] rfl)
      refine lv_aload_n hx hb dL_acts_536 rfl (lv_at hl 0 rfl) ?_
      refine lv_iload hx hb dL_acts_537 (lv_at hl 1 rfl) ?_
      refine lv_iload hx hb dL_acts_539 (lv_at hl 2 rfl) ?_
      refine lv_iload hx hb dL_acts_541 (lv_at hl 3 rfl) ?_
      refine lv_iload hx hb dL_acts_543 (lv_at hl 4 rfl) ?_
      obtain ⟨v55, hv, h⟩ := bq_bind h
      refine bq_callSL (n := 5) S hK hz hT hN (bq_inSW (bq_wi 699 (by decide +kernel) rfl) (bq_wi 700 (by decide +kernel) rfl) (bq_wi 16 (by decide +kernel) rfl) (bq_wi 701 (by decide +kernel) rfl)) (by decide +kernel) (cl_L_series hfl hv) dL_acts_545 [.int v55.1] (rest := []) rfl rfl rfl hl.1 (Nat.le_of_ble_eq_true rfl) ⟨Nat.le_of_ble_eq_true rfl, Nat.le_of_ble_eq_true rfl⟩ ⟨by show _ ≤ 31; omega, by show _ ≤ 1206; omega⟩ hW (fun H locs hW => ?_)
      refine lv_iload hx hb dL_acts_548 (lv_at hl 5 rfl) ?_
      refine lv_icmp_ne (tgt := 557) hx hb dL_acts_550 (by decide) (fun hc => ?_) (fun hc => ?_)
      · replace h := bq_ifF hc h
        refine lv_iconst (v := 0) hx hb dL_acts_557 (by decide) ?_
        cases h
        refine W.widen (k := 31) (n := 1206) (by omega) (by omega) ?_
        exact bq_retz S hr hlocks hK hz dL_acts_558 _ rfl hW
      · replace h := bq_ifT hc h
        refine lv_iconst (v := 1) hx hb dL_acts_553 (by decide) ?_
        refine lv_goto (tgt := 558) hx hb dL_acts_554 (by decide) ?_
        cases h
        refine W.widen (k := 31) (n := 1206) (by omega) (by omega) ?_
        exact bq_retz S hr hlocks hK hz dL_acts_558 _ rfl hW
    replace h := bq_ifF hc7 h
    by_cases hc8 : v6 = 8
    · replace h := bq_ifT hc8 h
      refine lv_tableIn (tgt := 559) (off := 508) hx hb dL_acts_51 (by rw [hc8]; decide) (by rw [hc8]; decide) (by rw [hc8]; rfl) (by decide) ?_
      refine lv_bipush (v := 10) hx hb dL_acts_559 (by decide) ?_
      refine lv_aload_n hx hb dL_acts_561 rfl (lv_at hl 6 rfl) ?_
      refine lv_bipush (v := 17) hx hb dL_acts_562 (by decide) ?_
      obtain ⟨v72, hv, h⟩ := bq_bind h
      refine bq_iald S hK dL_acts_564 hv hW ?_
      refine lv_imul hx hb dL_acts_565 ?_
      refine lv_aload_n hx hb dL_acts_566 rfl (lv_at hl 6 rfl) ?_
      refine lv_bipush (v := 18) hx hb dL_acts_567 (by decide) ?_
      obtain ⟨v73, hv, h⟩ := bq_bind h
      refine bq_iald S hK dL_acts_569 hv hW ?_
      refine lv_iadd hx hb dL_acts_570 ?_
      refine lv_topi (fun v74 ev74 => ?_)
      replace h := bq_letE ev74 h
      refine lv_istore (lv' := [(16, .int v74), (8, .int v5), (7, .int v3), (6, .int b2), (0, .ref a0), (1, .ref a1), (2, .ref a2), (3, .ref a3), (4, .int x4), (5, .int x5)]) hx hb dL_acts_571 hl (by decide) rfl (fun ls hl => ?_)
      refine lv_aload_n hx hb dL_acts_573 rfl (lv_at hl 7 rfl) ?_
      refine lv_bipush (v := 17) hx hb dL_acts_574 (by decide) ?_
      refine lv_iconst (v := 1) hx hb dL_acts_576 (by decide) ?_
      refine lv_iload hx hb dL_acts_577 (lv_at hl 9 rfl) ?_
      refine lv_iconst (v := 5) hx hb dL_acts_579 (by decide) ?_
      refine lv_ishr hx hb dL_acts_580 ?_
      refine lv_bipush (v := 8) hx hb dL_acts_581 (by decide) ?_
      obtain ⟨v75, hv, h⟩ := bq_bind h
      refine bq_callS S hK hz ms_L_100 (c_L_low hv) dL_acts_583 [.int v75, .int (1 : Int32), .int (17 : Int32), .ref a3] (rest := [.int (1 : Int32), .int (17 : Int32), .ref a3]) rfl rfl rfl hl.1 (Nat.le_of_ble_eq_true rfl) ⟨Nat.le_of_ble_eq_true rfl, Nat.le_of_ble_eq_true rfl⟩ ⟨by show _ ≤ 31; omega, by show _ ≤ 1206; omega⟩ hW (fun H locs hW => ?_)
      refine lv_iadd hx hb dL_acts_586 ?_
      obtain ⟨E76, hv, h⟩ := bq_bind h
      refine bq_iast S hK dL_acts_587 hv hW (fun H locs hW => ?_)
      refine lv_aload_n hx hb dL_acts_588 rfl (lv_at hl 7 rfl) ?_
      refine lv_bipush (v := 18) hx hb dL_acts_589 (by decide) ?_
      refine lv_iconst (v := 2) hx hb dL_acts_591 (by decide) ?_
      refine lv_iload hx hb dL_acts_592 (lv_at hl 9 rfl) ?_
      refine lv_bipush (v := 9) hx hb dL_acts_594 (by decide) ?_
      refine lv_ishr hx hb dL_acts_596 ?_
      refine lv_iconst (v := 4) hx hb dL_acts_597 (by decide) ?_
      obtain ⟨v77, hv, h⟩ := bq_bind h
      refine bq_callS S hK hz ms_L_100 (c_L_low hv) dL_acts_598 [.int v77, .int (2 : Int32), .int (18 : Int32), .ref a3] (rest := [.int (2 : Int32), .int (18 : Int32), .ref a3]) rfl rfl rfl hl.1 (Nat.le_of_ble_eq_true rfl) ⟨Nat.le_of_ble_eq_true rfl, Nat.le_of_ble_eq_true rfl⟩ ⟨by show _ ≤ 31; omega, by show _ ≤ 1206; omega⟩ hW (fun H locs hW => ?_)
      refine lv_iadd hx hb dL_acts_601 ?_
      obtain ⟨E78, hv, h⟩ := bq_bind h
      refine bq_iast S hK dL_acts_602 hv hW (fun H locs hW => ?_)
      refine lv_aload_n hx hb dL_acts_603 rfl (lv_at hl 4 rfl) ?_
      refine lv_aload_n hx hb dL_acts_604 rfl (lv_at hl 7 rfl) ?_
      refine lv_bipush (v := 17) hx hb dL_acts_605 (by decide) ?_
      obtain ⟨v79, hv, h⟩ := bq_bind h
      refine bq_iald S hK dL_acts_607 hv hW ?_
      refine lv_aload_n hx hb dL_acts_608 rfl (lv_at hl 7 rfl) ?_
      refine lv_bipush (v := 18) hx hb dL_acts_609 (by decide) ?_
      obtain ⟨v80, hv, h⟩ := bq_bind h
      refine bq_iald S hK dL_acts_611 hv hW ?_
      obtain ⟨v81, hv, h⟩ := bq_bind h
      refine bq_callSL (n := 3) S hK hz hT hN (bq_inSW (bq_wi 706 (by decide +kernel) rfl) (bq_wi 707 (by decide +kernel) rfl) (bq_wi 16 (by decide +kernel) rfl) (bq_wi 708 (by decide +kernel) rfl)) (by decide +kernel) (cl_L_sizes hfl hv) dL_acts_612 [.int v81.1] (rest := []) rfl rfl rfl hl.1 (Nat.le_of_ble_eq_true rfl) ⟨Nat.le_of_ble_eq_true rfl, Nat.le_of_ble_eq_true rfl⟩ ⟨by show _ ≤ 31; omega, by show _ ≤ 1206; omega⟩ hW (fun H locs hW => ?_)
      refine lv_iload hx hb dL_acts_615 (lv_at hl 0 rfl) ?_
      refine lv_icmp_ne (tgt := 624) hx hb dL_acts_617 (by decide) (fun hc => ?_) (fun hc => ?_)
      · replace h := bq_ifF hc h
        refine lv_iconst (v := 0) hx hb dL_acts_624 (by decide) ?_
        cases h
        refine W.widen (k := 31) (n := 1206) (by omega) (by omega) ?_
        exact bq_retz S hr hlocks hK hz dL_acts_625 _ rfl hW
      · replace h := bq_ifT hc h
        refine lv_iconst (v := 1) hx hb dL_acts_620 (by decide) ?_
        refine lv_goto (tgt := 625) hx hb dL_acts_621 (by decide) ?_
        cases h
        refine W.widen (k := 31) (n := 1206) (by omega) (by omega) ?_
        exact bq_retz S hr hlocks hK hz dL_acts_625 _ rfl hW
    replace h := bq_ifF hc8 h
    have q0 : Int32.toInt v6 ≠ 0 := fun q => hc0 (Int32.toInt_inj.mp (q.trans (by decide)))
    have q1 : Int32.toInt v6 ≠ 1 := fun q => hc1 (Int32.toInt_inj.mp (q.trans (by decide)))
    have q2 : Int32.toInt v6 ≠ 2 := fun q => hc2 (Int32.toInt_inj.mp (q.trans (by decide)))
    have q3 : Int32.toInt v6 ≠ 3 := fun q => hc3 (Int32.toInt_inj.mp (q.trans (by decide)))
    have q4 : Int32.toInt v6 ≠ 4 := fun q => hc4 (Int32.toInt_inj.mp (q.trans (by decide)))
    have q5 : Int32.toInt v6 ≠ 5 := fun q => hc5 (Int32.toInt_inj.mp (q.trans (by decide)))
    have q6 : Int32.toInt v6 ≠ 6 := fun q => hc6 (Int32.toInt_inj.mp (q.trans (by decide)))
    have q7 : Int32.toInt v6 ≠ 7 := fun q => hc7 (Int32.toInt_inj.mp (q.trans (by decide)))
    have q8 : Int32.toInt v6 ≠ 8 := fun q => hc8 (Int32.toInt_inj.mp (q.trans (by decide)))
    refine lv_tableOut (tgt := 626) hx hb dL_acts_51 (by omega) (by decide) ?_
    refine lv_aload_n hx hb dL_acts_626 rfl (lv_at hl 4 rfl) ?_
    refine lv_aload_n hx hb dL_acts_627 rfl (lv_at hl 5 rfl) ?_
    refine lv_aload_n hx hb dL_acts_628 rfl (lv_at hl 6 rfl) ?_
    refine lv_iload hx hb dL_acts_629 (lv_at hl 7 rfl) ?_
    obtain ⟨E82, hv, h⟩ := bq_bind h
    refine bq_callSA S hK hz hT hN ms_L_73 (ca_L_settle hfl hv) dL_acts_631 [] (rest := []) rfl rfl rfl hl.1 (Nat.le_of_ble_eq_true rfl) ⟨Nat.le_of_ble_eq_true rfl, Nat.le_of_ble_eq_true rfl⟩ ⟨by show _ ≤ 31; omega, by show _ ≤ 1206; omega⟩ hW (fun H locs hW => ?_)
    refine lv_aload_n hx hb dL_acts_634 rfl (lv_at hl 3 rfl) ?_
    refine lv_iload hx hb dL_acts_635 (lv_at hl 7 rfl) ?_
    obtain ⟨v83, hv, h⟩ := bq_bind h
    refine bq_callSL (n := 2) S hK hz hT hN (bq_inSW (bq_wi 713 (by decide +kernel) rfl) (bq_wi 714 (by decide +kernel) rfl) (bq_wi 16 (by decide +kernel) rfl) (bq_wi 715 (by decide +kernel) rfl)) (by decide +kernel) (cl_L_builds hfl hv) dL_acts_637 [.int v83.1] (rest := []) rfl rfl rfl hl.1 (Nat.le_of_ble_eq_true rfl) ⟨Nat.le_of_ble_eq_true rfl, Nat.le_of_ble_eq_true rfl⟩ ⟨by show _ ≤ 31; omega, by show _ ≤ 1206; omega⟩ hW (fun H locs hW => ?_)
    refine lv_aload_n hx hb dL_acts_640 rfl (lv_at hl 6 rfl) ?_
    refine lv_iload hx hb dL_acts_641 (lv_at hl 7 rfl) ?_
    obtain ⟨v84, hv, h⟩ := bq_bind h
    refine bq_iald S hK dL_acts_643 hv hW ?_
    refine lv_icmp_lt (tgt := 651) hx hb dL_acts_644 (by decide) (fun hc => ?_) (fun hc => ?_)
    · replace h := bq_ifT hc h
      refine lv_iconst (v := 0) hx hb dL_acts_651 (by decide) ?_
      cases h
      refine W.widen (k := 31) (n := 1206) (by omega) (by omega) ?_
      exact bq_retz S hr hlocks hK hz dL_acts_652 _ rfl hW
    · replace h := bq_ifF hc h
      refine lv_iconst (v := 1) hx hb dL_acts_647 (by decide) ?_
      refine lv_goto (tgt := 652) hx hb dL_acts_648 (by decide) ?_
      cases h
      refine W.widen (k := 31) (n := 1206) (by omega) (by omega) ?_
      exact bq_retz S hr hlocks hK hz dL_acts_652 _ rfl hW
  clear ek19
  refine lv_if_ne (tgt := 17) hx hb dL_acts_8 (by decide) (fun hc => ?_) (fun hc => ?_)
  · replace h := bq_ifF hc h
    refine lv_bipush (v := 30) hx hb dL_acts_17 (by decide) ?_
    refine W.widen (k := 0) (n := 0) (by omega) (by omega) ?_
    exact hjk19 (30 : Int32) _ _ _ h hW (lv_sub hl [0, 1, 2, 3, 4, 5] rfl)
  · replace h := bq_ifT hc h
    refine lv_sipush (v := 10000) hx hb dL_acts_11 (by decide) ?_
    refine lv_goto (tgt := 19) hx hb dL_acts_14 (by decide) ?_
    refine W.widen (k := 0) (n := 0) (by omega) (by omega) ?_
    exact hjk19 (10000 : Int32) _ _ _ h hW (lv_sub hl [0, 1, 2, 3, 4, 5] rfl)
