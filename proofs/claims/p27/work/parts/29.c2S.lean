set_option maxHeartbeats 8000000 in
set_option maxRecDepth 100000 in
theorem cs_L_settle {p : Program} {l : Launch} {e : Env} {s : State} {m : MethodId} {args : Array Value} {below : List Frame} {meth : Method} {c : Code} {g : bq_G} {L L0 : List Nat} {z q0 : Nat} {E R R0 : bq_E} {a0 : Nat} {a1 : Nat} {a2 : Nat} {x3 : Int32} (hE : ∀ (H : Heap) (locs : List Loc), bq_H g L R z s.heap H locs → bq_H g L0 R0 z s.heap H locs) (S : CallFix p m c cL_settle 9 s args bq_WA RL) (hr : meth.sig.returnType = none) (hlocks : meth.locks = false) (hK : va_K g.1 vwCl (bq_tys g) s) (hz : z ≤ s.heap.size) (h : ts_L_settle E q0 a0 a1 a2 x3 = some R) {H : Heap} {locs : List Loc} {ls : Array Slot} (hW : bq_H g L E z s.heap H locs) (hl : lv_has ls 9 [(0, .ref a0), (1, .ref a1), (2, .ref a2), (3, .int x3)]) :
    W p l e { frames := 0, cells := 1, slots := 40, locals := 0 } s m args below meth c H locs 1 40 (MQ below (bq_Q g L0 R0 z none) args s 1 40 (bq_A z)) (F0 m 4 ls [.ref q0]) := by
  unfold ts_L_settle at h
  have hx := S.1
  have hb := S.2.1
  refine lv_astore (lv' := [(4, .ref q0), (0, .ref a0), (1, .ref a1), (2, .ref a2), (3, .int x3)]) hx hb dL_settle_4 hl (by decide) rfl (fun ls hl => ?_)
  refine lv_iconst (v := 0) hx hb dL_settle_6 (by decide) ?_
  refine lv_istore (lv' := [(5, .int (0 : Int32)), (4, .ref q0), (0, .ref a0), (1, .ref a1), (2, .ref a2), (3, .int x3)]) hx hb dL_settle_7 hl (by decide) rfl (fun ls hl => ?_)
  refine lv_iconst (v := 0) hx hb dL_settle_9 (by decide) ?_
  refine lv_istore (lv' := [(6, .int (0 : Int32)), (5, .int (0 : Int32)), (4, .ref q0), (0, .ref a0), (1, .ref a1), (2, .ref a2), (3, .int x3)]) hx hb dL_settle_10 hl (by decide) rfl (fun ls hl => ?_)
  have hL12 : ∀ (K : Int32 → Int32 → bq_E → Option bq_E) (hX : ∀ (u39 : Int32) (u40 : Int32) (E41 : bq_E) (H1 : Heap) (locs1 : List Loc) (ls1 : Array Slot), K u39 u40 E41 = some R → bq_H g L E41 z s.heap H1 locs1 → lv_has ls1 9 [(0, .ref a0), (2, .ref a2), (3, .int x3), (4, .ref q0), (5, .int u39)] → W p l e { frames := 0, cells := 1, slots := 40, locals := 0 } s m args below meth c H1 locs1 1 40 (MQ below (bq_Q g L0 R0 z none) args s 1 40 (bq_A z)) (F0 m 120 ls1 [])), ∀ (n : Nat) (z15 : Int32) (z16 : Int32) (E17 : bq_E) (H1 : Heap) (locs1 : List Loc) (ls1 : Array Slot), tl_L_settle_12 a0 a1 a2 x3 q0 K n z15 z16 E17 = some R → bq_H g L E17 z s.heap H1 locs1 → lv_has ls1 9 [(0, .ref a0), (1, .ref a1), (2, .ref a2), (3, .int x3), (4, .ref q0), (5, .int z15), (6, .int z16)] → W p l e { frames := 0, cells := 1, slots := 40, locals := 0 } s m args below meth c H1 locs1 1 40 (MQ below (bq_Q g L0 R0 z none) args s 1 40 (bq_A z)) (F0 m 12 ls1 []) := by
    intro K hX n
    induction n with
    | zero => intro z15 z16 E17 H locs ls h hW hl; cases h
    | succ n ih =>
      intro z15 z16 E17 H locs ls h hW hl
      rw [tl_L_settle_12.eq_2] at h
      refine lv_iload hx hb dL_settle_12 (lv_at hl 6 rfl) ?_
      refine lv_aload_n hx hb dL_settle_14 rfl (lv_at hl 2 rfl) ?_
      refine lv_iload_n hx hb dL_settle_15 rfl (lv_at hl 3 rfl) ?_
      obtain ⟨v18, hv, h⟩ := bq_bind h
      refine bq_iald S hK dL_settle_16 hv hW ?_
      refine lv_aload_n hx hb dL_settle_17 rfl (lv_at hl 2 rfl) ?_
      refine lv_bipush (v := 8) hx hb dL_settle_18 (by decide) ?_
      refine lv_iload_n hx hb dL_settle_20 rfl (lv_at hl 3 rfl) ?_
      refine lv_iadd hx hb dL_settle_21 ?_
      obtain ⟨v19, hv, h⟩ := bq_bind h
      refine bq_iald S hK dL_settle_22 hv hW ?_
      refine lv_iadd hx hb dL_settle_23 ?_
      refine lv_icmp_ge (tgt := 120) hx hb dL_settle_24 (by decide) (fun hc => ?_) (fun hc => ?_)
      · replace h := bq_ifT hc h
        exact hX z15 z16 E17 _ _ _ h hW (lv_sub hl [0, 2, 3, 4, 5] rfl)
      · replace h := bq_ifF hc h
        refine lv_iload hx hb dL_settle_27 (lv_at hl 6 rfl) ?_
        refine lv_aload_n hx hb dL_settle_29 rfl (lv_at hl 2 rfl) ?_
        refine lv_iload_n hx hb dL_settle_30 rfl (lv_at hl 3 rfl) ?_
        obtain ⟨v20, hv, h⟩ := bq_bind h
        refine bq_iald S hK dL_settle_31 hv hW ?_
        obtain ⟨k55, ek55, h⟩ := bq_letK h
        have hjk55 : ∀ (b21 : Int32) (H1 : Heap) (locs1 : List Loc) (ls1 : Array Slot), k55 b21 = some R → bq_H g L E17 z s.heap H1 locs1 → lv_has ls1 9 [(0, .ref a0), (1, .ref a1), (2, .ref a2), (3, .int x3), (4, .ref q0), (5, .int z15), (6, .int z16)] → W p l e { frames := 0, cells := 1, slots := 40, locals := 0 } s m args below meth c H1 locs1 1 40 (MQ below (bq_Q g L0 R0 z none) args s 1 40 (bq_A z)) (F0 m 55 ls1 [.int b21]) := by
          intro b21 H locs ls h hW hl
          replace h := bq_kap1 ek55 h
          refine lv_istore (lv' := [(7, .int b21), (0, .ref a0), (1, .ref a1), (2, .ref a2), (3, .int x3), (4, .ref q0), (5, .int z15), (6, .int z16)]) hx hb dL_settle_55 hl (by decide) rfl (fun ls hl => ?_)
          refine lv_iload hx hb dL_settle_57 (lv_at hl 0 rfl) ?_
          refine lv_sipush (v := 10000) hx hb dL_settle_59 (by decide) ?_
          refine lv_icmp_ge (tgt := 114) hx hb dL_settle_62 (by decide) (fun hc => ?_) (fun hc => ?_)
          · replace h := bq_ifT hc h
            obtain ⟨v22, ev22⟩ : ∃ y : Int32, y = z16 + 1 := ⟨_, rfl⟩
            replace h := bq_letE ev22 h
            refine lv_iinc (v := v22) (lv' := [(6, .int v22), (7, .int b21), (0, .ref a0), (1, .ref a1), (2, .ref a2), (3, .int x3), (4, .ref q0), (5, .int z15)]) hx hb dL_settle_114 hl (k := 7) rfl (by rw [ev22]; rfl) (by decide) rfl (fun ls hl => ?_)
            refine lv_goto (tgt := 12) hx hb dL_settle_117 (by decide) ?_
            exact ih z15 v22 E17 _ _ _ h hW (lv_sub hl [2, 3, 4, 5, 6, 7, 0] rfl)
          · replace h := bq_ifF hc h
            refine lv_iload hx hb dL_settle_65 (lv_at hl 6 rfl) ?_
            refine lv_istore (lv' := [(8, .int z15), (7, .int b21), (0, .ref a0), (1, .ref a1), (2, .ref a2), (3, .int x3), (4, .ref q0), (5, .int z15), (6, .int z16)]) hx hb dL_settle_67 hl (by decide) rfl (fun ls hl => ?_)
            have hL69 : ∀ (K : Int32 → bq_E → Option bq_E) (hX : ∀ (u34 : Int32) (E35 : bq_E) (H1 : Heap) (locs1 : List Loc) (ls1 : Array Slot), K u34 E35 = some R → bq_H g L E35 z s.heap H1 locs1 → lv_has ls1 9 [(0, .ref a0), (1, .ref a1), (2, .ref a2), (3, .int x3), (4, .ref q0), (5, .int z15), (6, .int z16), (7, .int b21), (8, .int u34)] → W p l e { frames := 0, cells := 1, slots := 40, locals := 0 } s m args below meth c H1 locs1 1 40 (MQ below (bq_Q g L0 R0 z none) args s 1 40 (bq_A z)) (F0 m 104 ls1 [])), ∀ (n : Nat) (z28 : Int32) (E29 : bq_E) (H1 : Heap) (locs1 : List Loc) (ls1 : Array Slot), tl_L_settle_69 a0 a1 a2 x3 q0 z15 z16 b21 K n z28 E29 = some R → bq_H g L E29 z s.heap H1 locs1 → lv_has ls1 9 [(0, .ref a0), (1, .ref a1), (2, .ref a2), (3, .int x3), (4, .ref q0), (5, .int z15), (6, .int z16), (7, .int b21), (8, .int z28)] → W p l e { frames := 0, cells := 1, slots := 40, locals := 0 } s m args below meth c H1 locs1 1 40 (MQ below (bq_Q g L0 R0 z none) args s 1 40 (bq_A z)) (F0 m 69 ls1 []) := by
              intro K hX n
              induction n with
              | zero => intro z28 E29 H locs ls h hW hl; cases h
              | succ n ih =>
                intro z28 E29 H locs ls h hW hl
                rw [tl_L_settle_69.eq_2] at h
                refine lv_iload hx hb dL_settle_69 (lv_at hl 8 rfl) ?_
                refine lv_if_le (tgt := 104) hx hb dL_settle_71 (by decide) (fun hc => ?_) (fun hc => ?_)
                · replace h := bq_ifT hc h
                  exact hX z28 E29 _ _ _ h hW (lv_sub hl [0, 1, 2, 3, 4, 5, 6, 7, 8] rfl)
                · replace h := bq_ifF hc h
                  refine lv_aload hx hb dL_settle_74 (lv_at hl 4 rfl) ?_
                  refine lv_iload hx hb dL_settle_76 (lv_at hl 8 rfl) ?_
                  refine lv_iconst (v := 1) hx hb dL_settle_78 (by decide) ?_
                  refine lv_isub hx hb dL_settle_79 ?_
                  obtain ⟨v30, hv, h⟩ := bq_bind h
                  refine bq_iald S hK dL_settle_80 hv hW ?_
                  refine lv_iload hx hb dL_settle_81 (lv_at hl 7 rfl) ?_
                  refine lv_icmp_le (tgt := 104) hx hb dL_settle_83 (by decide) (fun hc => ?_) (fun hc => ?_)
                  · replace h := bq_ifT hc h
                    exact hX z28 E29 _ _ _ h hW (lv_sub hl [0, 1, 2, 3, 4, 5, 6, 7, 8] rfl)
                  · replace h := bq_ifF hc h
                    refine lv_aload hx hb dL_settle_86 (lv_at hl 4 rfl) ?_
                    refine lv_iload hx hb dL_settle_88 (lv_at hl 8 rfl) ?_
                    refine lv_aload hx hb dL_settle_90 (lv_at hl 4 rfl) ?_
                    refine lv_iload hx hb dL_settle_92 (lv_at hl 8 rfl) ?_
                    refine lv_iconst (v := 1) hx hb dL_settle_94 (by decide) ?_
                    refine lv_isub hx hb dL_settle_95 ?_
                    obtain ⟨v31, hv, h⟩ := bq_bind h
                    refine bq_iald S hK dL_settle_96 hv hW ?_
                    obtain ⟨E32, hv, h⟩ := bq_bind h
                    refine bq_iast S hK dL_settle_97 hv hW (fun H locs hW => ?_)
                    obtain ⟨v33, ev33⟩ : ∃ y : Int32, y = z28 + (-1) := ⟨_, rfl⟩
                    replace h := bq_letE ev33 h
                    refine lv_iinc (v := v33) (lv' := [(8, .int v33), (0, .ref a0), (1, .ref a1), (2, .ref a2), (3, .int x3), (4, .ref q0), (5, .int z15), (6, .int z16), (7, .int b21)]) hx hb dL_settle_98 hl (k := 8) rfl (by rw [ev33]; rfl) (by decide) rfl (fun ls hl => ?_)
                    refine lv_goto (tgt := 69) hx hb dL_settle_101 (by decide) ?_
                    exact ih v33 E32 _ _ _ h hW (lv_sub hl [1, 2, 3, 4, 5, 6, 7, 8, 0] rfl)
            refine W.widen (k := 1) (n := 40) (by omega) (by omega) ?_
            refine hL69 _ (fun y23 E24 H locs ls h hW hl => ?_) bq_fuel z15 E17 _ _ _ h hW (lv_sub hl [2, 3, 4, 5, 6, 7, 8, 1, 0] rfl)
            refine lv_aload hx hb dL_settle_104 (lv_at hl 4 rfl) ?_
            refine lv_iload hx hb dL_settle_106 (lv_at hl 8 rfl) ?_
            refine lv_iload hx hb dL_settle_108 (lv_at hl 7 rfl) ?_
            obtain ⟨E25, hv, h⟩ := bq_bind h
            refine bq_iast S hK dL_settle_110 hv hW (fun H locs hW => ?_)
            obtain ⟨v26, ev26⟩ : ∃ y : Int32, y = z15 + 1 := ⟨_, rfl⟩
            replace h := bq_letE ev26 h
            refine lv_iinc (v := v26) (lv' := [(5, .int v26), (0, .ref a0), (1, .ref a1), (2, .ref a2), (3, .int x3), (4, .ref q0), (6, .int z16), (7, .int b21), (8, .int y23)]) hx hb dL_settle_111 hl (k := 5) rfl (by rw [ev26]; rfl) (by decide) rfl (fun ls hl => ?_)
            obtain ⟨v27, ev27⟩ : ∃ y : Int32, y = z16 + 1 := ⟨_, rfl⟩
            replace h := bq_letE ev27 h
            refine lv_iinc (v := v27) (lv' := [(6, .int v27), (5, .int v26), (0, .ref a0), (1, .ref a1), (2, .ref a2), (3, .int x3), (4, .ref q0), (7, .int b21), (8, .int y23)]) hx hb dL_settle_114 hl (k := 6) rfl (by rw [ev27]; rfl) (by decide) rfl (fun ls hl => ?_)
            refine lv_goto (tgt := 12) hx hb dL_settle_117 (by decide) ?_
            exact ih v26 v27 E25 _ _ _ h hW (lv_sub hl [2, 3, 4, 5, 6, 1, 0] rfl)
        clear ek55
        refine lv_icmp_ge (tgt := 42) hx hb dL_settle_32 (by decide) (fun hc => ?_) (fun hc => ?_)
        · replace h := bq_ifT hc h
          refine lv_aload_n hx hb dL_settle_42 rfl (lv_at hl 1 rfl) ?_
          refine lv_bipush (v := 8) hx hb dL_settle_43 (by decide) ?_
          refine lv_iload_n hx hb dL_settle_45 rfl (lv_at hl 3 rfl) ?_
          refine lv_imul hx hb dL_settle_46 ?_
          refine lv_iload hx hb dL_settle_47 (lv_at hl 6 rfl) ?_
          refine lv_iadd hx hb dL_settle_49 ?_
          refine lv_aload_n hx hb dL_settle_50 rfl (lv_at hl 2 rfl) ?_
          refine lv_iload_n hx hb dL_settle_51 rfl (lv_at hl 3 rfl) ?_
          obtain ⟨v36, hv, h⟩ := bq_bind h
          refine bq_iald S hK dL_settle_52 hv hW ?_
          refine lv_isub hx hb dL_settle_53 ?_
          obtain ⟨v37, hv, h⟩ := bq_bind h
          refine bq_iald S hK dL_settle_54 hv hW ?_
          refine W.widen (k := 1) (n := 40) (by omega) (by omega) ?_
          exact hjk55 v37 _ _ _ h hW (lv_sub hl [0, 1, 2, 3, 4, 5, 6] rfl)
        · replace h := bq_ifF hc h
          refine lv_aload_n hx hb dL_settle_35 rfl (lv_at hl 0 rfl) ?_
          refine lv_iload hx hb dL_settle_36 (lv_at hl 6 rfl) ?_
          obtain ⟨v38, hv, h⟩ := bq_bind h
          refine bq_iald S hK dL_settle_38 hv hW ?_
          refine lv_goto (tgt := 55) hx hb dL_settle_39 (by decide) ?_
          refine W.widen (k := 1) (n := 40) (by omega) (by omega) ?_
          exact hjk55 v38 _ _ _ h hW (lv_sub hl [0, 1, 2, 3, 4, 5, 6] rfl)
  refine W.widen (k := 1) (n := 40) (by omega) (by omega) ?_
  refine hL12 _ (fun y1 y2 E3 H locs ls h hW hl => ?_) bq_fuel (0 : Int32) (0 : Int32) E _ _ _ h hW (lv_sub hl [3, 4, 5, 6, 2, 1, 0] rfl)
  refine lv_iconst (v := 0) hx hb dL_settle_120 (by decide) ?_
  refine lv_istore (lv' := [(6, .int (0 : Int32)), (0, .ref a0), (2, .ref a2), (3, .int x3), (4, .ref q0), (5, .int y1)]) hx hb dL_settle_121 hl (by decide) rfl (fun ls hl => ?_)
  have hL123 : ∀ (n : Nat) (z6 : Int32) (E7 : bq_E) (H1 : Heap) (locs1 : List Loc) (ls1 : Array Slot), tl_L_settle_123 a0 a2 x3 q0 y1 n z6 E7 = some R → bq_H g L E7 z s.heap H1 locs1 → lv_has ls1 9 [(0, .ref a0), (2, .ref a2), (3, .int x3), (4, .ref q0), (5, .int y1), (6, .int z6)] → W p l e { frames := 0, cells := 1, slots := 40, locals := 0 } s m args below meth c H1 locs1 1 40 (MQ below (bq_Q g L0 R0 z none) args s 1 40 (bq_A z)) (F0 m 123 ls1 []) := by
    intro n
    induction n with
    | zero => intro z6 E7 H locs ls h hW hl; cases h
    | succ n ih =>
      intro z6 E7 H locs ls h hW hl
      rw [tl_L_settle_123.eq_2] at h
      refine lv_iload hx hb dL_settle_123 (lv_at hl 5 rfl) ?_
      refine lv_iload hx hb dL_settle_125 (lv_at hl 4 rfl) ?_
      refine lv_icmp_ge (tgt := 145) hx hb dL_settle_127 (by decide) (fun hc => ?_) (fun hc => ?_)
      · replace h := bq_ifT hc h
        refine lv_aload_n hx hb dL_settle_145 rfl (lv_at hl 1 rfl) ?_
        refine lv_iload_n hx hb dL_settle_146 rfl (lv_at hl 2 rfl) ?_
        refine lv_iload hx hb dL_settle_147 (lv_at hl 4 rfl) ?_
        obtain ⟨E8, hv, h⟩ := bq_bind h
        refine bq_iast S hK dL_settle_149 hv hW (fun H locs hW => ?_)
        refine lv_aload_n hx hb dL_settle_150 rfl (lv_at hl 1 rfl) ?_
        refine lv_bipush (v := 8) hx hb dL_settle_151 (by decide) ?_
        refine lv_iload_n hx hb dL_settle_153 rfl (lv_at hl 2 rfl) ?_
        refine lv_iadd hx hb dL_settle_154 ?_
        refine lv_iconst (v := 0) hx hb dL_settle_155 (by decide) ?_
        obtain ⟨E9, hv, h⟩ := bq_bind h
        refine bq_iast S hK dL_settle_156 hv hW (fun H locs hW => ?_)
        refine lv_aload_n hx hb dL_settle_157 rfl (lv_at hl 1 rfl) ?_
        refine lv_bipush (v := 19) hx hb dL_settle_158 (by decide) ?_
        refine lv_dup2_11 hx hb dL_settle_160 rfl rfl ?_
        obtain ⟨v10, hv, h⟩ := bq_bind h
        refine bq_iald S hK dL_settle_161 hv hW ?_
        refine lv_iconst (v := 1) hx hb dL_settle_162 (by decide) ?_
        refine lv_iadd hx hb dL_settle_163 ?_
        obtain ⟨E11, hv, h⟩ := bq_bind h
        refine bq_iast S hK dL_settle_164 hv hW (fun H locs hW => ?_)
        cases h
        refine W.widen (k := 1) (n := 40) (by omega) (by omega) ?_
        exact bq_retv S hr hlocks hK hz dL_settle_165 (hE _ _ hW)
      · replace h := bq_ifF hc h
        refine lv_aload_n hx hb dL_settle_130 rfl (lv_at hl 0 rfl) ?_
        refine lv_iload hx hb dL_settle_131 (lv_at hl 5 rfl) ?_
        refine lv_aload hx hb dL_settle_133 (lv_at hl 3 rfl) ?_
        refine lv_iload hx hb dL_settle_135 (lv_at hl 5 rfl) ?_
        obtain ⟨v12, hv, h⟩ := bq_bind h
        refine bq_iald S hK dL_settle_137 hv hW ?_
        obtain ⟨E13, hv, h⟩ := bq_bind h
        refine bq_iast S hK dL_settle_138 hv hW (fun H locs hW => ?_)
        obtain ⟨v14, ev14⟩ : ∃ y : Int32, y = z6 + 1 := ⟨_, rfl⟩
        replace h := bq_letE ev14 h
        refine lv_iinc (v := v14) (lv' := [(6, .int v14), (0, .ref a0), (2, .ref a2), (3, .int x3), (4, .ref q0), (5, .int y1)]) hx hb dL_settle_139 hl (k := 5) rfl (by rw [ev14]; rfl) (by decide) rfl (fun ls hl => ?_)
        refine lv_goto (tgt := 123) hx hb dL_settle_142 (by decide) ?_
        exact ih v14 E13 _ _ _ h hW (lv_sub hl [1, 2, 3, 4, 5, 0] rfl)
  refine W.widen (k := 1) (n := 40) (by omega) (by omega) ?_
  exact hL123 bq_fuel (0 : Int32) E3 _ _ _ h hW (lv_sub hl [1, 2, 3, 4, 5, 0] rfl)
