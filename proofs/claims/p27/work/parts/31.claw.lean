set_option maxHeartbeats 16000000 in
set_option maxRecDepth 100000 in
/-- the law's body, from its first store -/
theorem cl_law {p : Program} {e : Env} {s : State} {m : MethodId} {below : List Frame} {meth : Method} {c : Code} {l : Launch} (hfl : l.stackTraces = false) {b Ln : Nat} {xs : Nat → Int32} {g : bq_G} {a1 a2 a3 a4 a5 a6 z : Nat} {L : List Nat}
    (S : CallFix p m c cL_law 14 s #[Value.ref b] bq_WA RL) (hr : meth.sig.returnType = ret) (hlocks : meth.locks = false) (hXs : va_X b Ln xs s s.heap) (hbl : b < s.heap.size) (hzz : z = s.heap.size) (hK : va_K g.1 vwCl (bq_tys g) s) (hT : bq_T z s s.heap) (hN : bq_NC s) {E : bq_E} {R : Unit} (h : tw_law xs Ln b a1 a2 a3 a4 a5 a6 E = some R) {H : Heap} {locs : List Loc} {ls : Array Slot} (hW : bq_H g L E z s.heap H locs) (hl : lv_has ls 14 [(0, .ref b), (1, .ref a1), (2, .ref a2), (3, .ref a3), (4, .ref a4), (5, .ref a5), (6, .ref a6)]) :
      W p l e room_1 s m #[Value.ref b] below meth c H locs 1383 42982 (lw_Z below #[Value.ref b] s) (F0 m 36 ls []) := by
  unfold tw_law at h
  have hx := S.1
  have hb : c.code = code := S.2.1
  have hz : z ≤ s.heap.size := by omega
  have hbz : b < z := by omega
  refine lv_aload hx hb dL_law_36 (lv_at hl 6 rfl) ?_
  refine lv_bipush (v := 16) hx hb dL_law_38 (by decide) ?_
  refine lv_iconst (v := 3) hx hb dL_law_40 (by decide) ?_
  obtain ⟨E1, hv, h⟩ := bq_bind h
  refine bq_iast S hK dL_law_41 hv hW (fun H locs hW => ?_)
  refine lv_aload hx hb dL_law_42 (lv_at hl 6 rfl) ?_
  refine lv_bipush (v := 17) hx hb dL_law_44 (by decide) ?_
  refine lv_iconst (v := 4) hx hb dL_law_46 (by decide) ?_
  obtain ⟨E2, hv, h⟩ := bq_bind h
  refine bq_iast S hK dL_law_47 hv hW (fun H locs hW => ?_)
  refine lv_aload hx hb dL_law_48 (lv_at hl 6 rfl) ?_
  refine lv_bipush (v := 18) hx hb dL_law_50 (by decide) ?_
  refine lv_iconst (v := 2) hx hb dL_law_52 (by decide) ?_
  obtain ⟨E3, hv, h⟩ := bq_bind h
  refine bq_iast S hK dL_law_53 hv hW (fun H locs hW => ?_)
  refine lv_aload_n hx hb dL_law_54 rfl (lv_at hl 0 rfl) ?_
  refine lv_iconst (v := 0) hx hb dL_law_55 (by decide) ?_
  obtain ⟨v4, hv, h⟩ := bq_bind h
  refine bq_callSC S hK hz hXs hbz ms_L_128 hv dL_law_56 [.int v4] (rest := []) rfl rfl hl.1 (Nat.le_of_ble_eq_true rfl) ⟨Nat.le_of_ble_eq_true rfl, Nat.le_of_ble_eq_true rfl⟩ ⟨by show _ ≤ 691212; omega, by show _ ≤ 7027989; omega⟩ hW (fun H locs hW => ?_)
  refine lv_iconst (v := 2) hx hb dL_law_59 (by decide) ?_
  obtain ⟨v5, hv, h⟩ := bq_bind h
  refine bq_callS S hK hz ms_L_100 (c_L_low hv) dL_law_60 [.int v5] (rest := []) rfl rfl rfl hl.1 (Nat.le_of_ble_eq_true rfl) ⟨Nat.le_of_ble_eq_true rfl, Nat.le_of_ble_eq_true rfl⟩ ⟨by show _ ≤ 691212; omega, by show _ ≤ 7027989; omega⟩ hW (fun H locs hW => ?_)
  obtain ⟨k71, ek71, h⟩ := bq_letK h
  have hjk71 : ∀ (b6 : Int32) (H1 : Heap) (locs1 : List Loc) (ls1 : Array Slot), k71 b6 = some R → bq_H g L E3 z s.heap H1 locs1 → lv_has ls1 14 [(0, .ref b), (1, .ref a1), (2, .ref a2), (3, .ref a3), (4, .ref a4), (5, .ref a5), (6, .ref a6)] → W p l e room_1 s m #[Value.ref b] below meth c H1 locs1 1383 42982 (lw_Z below #[Value.ref b] s) (F0 m 71 ls1 [.int b6]) := by
    intro b6 H locs ls h hW hl
    replace h := bq_kap1 ek71 h
    refine lv_istore (lv' := [(7, .int b6), (0, .ref b), (1, .ref a1), (2, .ref a2), (3, .ref a3), (4, .ref a4), (5, .ref a5), (6, .ref a6)]) hx hb dL_law_71 hl (by decide) rfl (fun ls hl => ?_)
    refine lv_aload_n hx hb dL_law_73 rfl (lv_at hl 2 rfl) ?_
    refine lv_iconst (v := 0) hx hb dL_law_74 (by decide) ?_
    refine lv_iload hx hb dL_law_75 (lv_at hl 0 rfl) ?_
    obtain ⟨k85, ek85, h⟩ := bq_letK h
    have hjk85 : ∀ (b7 : Int32) (H1 : Heap) (locs1 : List Loc) (ls1 : Array Slot), k85 b7 = some R → bq_H g L E3 z s.heap H1 locs1 → lv_has ls1 14 [(0, .ref b), (1, .ref a1), (2, .ref a2), (3, .ref a3), (4, .ref a4), (5, .ref a5), (6, .ref a6), (7, .int b6)] → W p l e room_1 s m #[Value.ref b] below meth c H1 locs1 1383 42982 (lw_Z below #[Value.ref b] s) (F0 m 85 ls1 [.int b7, .int (0 : Int32), .ref a1]) := by
      intro b7 H locs ls h hW hl
      replace h := bq_kap1 ek85 h
      obtain ⟨v8, hv, h⟩ := bq_bind h
      refine bq_callSL (n := 3) S hK hz hT hN (bq_inSW (bq_wi 264 (by decide +kernel) rfl) (bq_wi 265 (by decide +kernel) rfl) (bq_wi 16 (by decide +kernel) rfl) (bq_wi 266 (by decide +kernel) rfl)) (by decide +kernel) (cl_L_adds hfl hv) dL_law_85 [.int v8.1] (rest := []) rfl rfl rfl hl.1 (Nat.le_of_ble_eq_true rfl) ⟨Nat.le_of_ble_eq_true rfl, Nat.le_of_ble_eq_true rfl⟩ ⟨by show _ ≤ 691212; omega, by show _ ≤ 7027989; omega⟩ hW (fun H locs hW => ?_)
      refine lv_iconst (v := 1) hx hb dL_law_88 (by decide) ?_
      obtain ⟨k134, ek134, h⟩ := bq_letK h
      have hjk134 : ∀ (b9 : Int32) (E10 : bq_E) (H1 : Heap) (locs1 : List Loc) (ls1 : Array Slot), k134 b9 E10 = some R → bq_H g L E10 z s.heap H1 locs1 → lv_has ls1 14 [(0, .ref b), (1, .ref a1), (2, .ref a2), (3, .ref a3), (4, .ref a4), (5, .ref a5), (6, .ref a6)] → W p l e room_1 s m #[Value.ref b] below meth c H1 locs1 1385 42994 (lw_Z below #[Value.ref b] s) (F0 m 134 ls1 [.int b9]) := by
        intro b9 E10 H locs ls h hW hl
        replace h := bq_kap2 ek134 h
        refine lv_istore (lv' := [(8, .int b9), (0, .ref b), (1, .ref a1), (2, .ref a2), (3, .ref a3), (4, .ref a4), (5, .ref a5), (6, .ref a6)]) hx hb dL_law_134 hl (by decide) rfl (fun ls hl => ?_)
        refine lv_bipush (v := 8) hx hb dL_law_136 (by decide) ?_
        refine lv_aload_n hx hb dL_law_138 rfl (lv_at hl 1 rfl) ?_
        refine lv_iconst (v := 0) hx hb dL_law_139 (by decide) ?_
        obtain ⟨v11, hv, h⟩ := bq_bind h
        refine bq_callSC S hK hz hXs hbz ms_L_128 hv dL_law_140 [.int v11, .int (8 : Int32)] (rest := [.int (8 : Int32)]) rfl rfl hl.1 (Nat.le_of_ble_eq_true rfl) ⟨Nat.le_of_ble_eq_true rfl, Nat.le_of_ble_eq_true rfl⟩ ⟨by show _ ≤ 691212; omega, by show _ ≤ 7027989; omega⟩ hW (fun H locs hW => ?_)
        refine lv_iconst (v := 3) hx hb dL_law_143 (by decide) ?_
        refine lv_ishr hx hb dL_law_144 ?_
        refine lv_bipush (v := 60) hx hb dL_law_145 (by decide) ?_
        obtain ⟨v12, hv, h⟩ := bq_bind h
        refine bq_callS S hK hz ms_L_100 (c_L_low hv) dL_law_147 [.int v12, .int (8 : Int32)] (rest := [.int (8 : Int32)]) rfl rfl rfl hl.1 (Nat.le_of_ble_eq_true rfl) ⟨Nat.le_of_ble_eq_true rfl, Nat.le_of_ble_eq_true rfl⟩ ⟨by show _ ≤ 691212; omega, by show _ ≤ 7027989; omega⟩ hW (fun H locs hW => ?_)
        refine lv_iadd hx hb dL_law_150 ?_
        refine lv_topi (fun v13 ev13 => ?_)
        replace h := bq_letE ev13 h
        refine lv_istore (lv' := [(9, .int v13), (8, .int b9), (0, .ref b), (1, .ref a1), (2, .ref a2), (3, .ref a3), (4, .ref a4), (5, .ref a5), (6, .ref a6)]) hx hb dL_law_151 hl (by decide) rfl (fun ls hl => ?_)
        refine lv_iconst (v := 0) hx hb dL_law_153 (by decide) ?_
        refine lv_istore (lv' := [(10, .int (0 : Int32)), (9, .int v13), (8, .int b9), (0, .ref b), (1, .ref a1), (2, .ref a2), (3, .ref a3), (4, .ref a4), (5, .ref a5), (6, .ref a6)]) hx hb dL_law_154 hl (by decide) rfl (fun ls hl => ?_)
        have hL156 : ∀ (K : Int32 → Int32 → bq_E → Option Unit) (hX : ∀ (u32 : Int32) (u33 : Int32) (E34 : bq_E) (H1 : Heap) (locs1 : List Loc) (ls1 : Array Slot), K u32 u33 E34 = some R → bq_H g L E34 z s.heap H1 locs1 → lv_has ls1 14 [(1, .ref a1), (2, .ref a2), (3, .ref a3), (4, .ref a4), (5, .ref a5), (6, .ref a6), (8, .int u32)] → W p l e room_1 s m #[Value.ref b] below meth c H1 locs1 12585 181594 (lw_Z below #[Value.ref b] s) (F0 m 268 ls1 [])), ∀ (n : Nat) (z20 : Int32) (z21 : Int32) (E22 : bq_E) (cl sl : Nat) (H1 : Heap) (locs1 : List Loc) (ls1 : Array Slot), cl + 160 * n ≤ 12585 → sl + 1980 * n ≤ 181594 → tl_L_law_156 xs Ln b a1 a2 a3 a4 a5 a6 v13 K n z20 z21 E22 = some R → bq_H g L E22 z s.heap H1 locs1 → lv_has ls1 14 [(0, .ref b), (1, .ref a1), (2, .ref a2), (3, .ref a3), (4, .ref a4), (5, .ref a5), (6, .ref a6), (8, .int z20), (9, .int v13), (10, .int z21)] → W p l e room_1 s m #[Value.ref b] below meth c H1 locs1 cl sl (lw_Z below #[Value.ref b] s) (F0 m 156 ls1 []) := by
          intro K hX n
          induction n with
          | zero => intro z20 z21 E22 cl sl H locs ls _ _ h hW hl; cases h
          | succ n ih =>
            intro z20 z21 E22 cl sl H locs ls hcl hsl h hW hl
            rw [tl_L_law_156.eq_2] at h
            refine lv_iload hx hb dL_law_156 (lv_at hl 9 rfl) ?_
            refine lv_iload hx hb dL_law_158 (lv_at hl 8 rfl) ?_
            refine lv_icmp_ge (tgt := 268) hx hb dL_law_160 (by decide) (fun hc => ?_) (fun hc => ?_)
            · replace h := bq_ifT hc h
              refine W.widen (k := 12585) (n := 181594) (by omega) (by omega) ?_
              exact hX z20 z21 E22 _ _ _ h hW (lv_sub hl [1, 2, 3, 4, 5, 6, 7] rfl)
            · replace h := bq_ifF hc h
              refine lv_iload hx hb dL_law_163 (lv_at hl 7 rfl) ?_
              refine lv_if_eq (tgt := 268) hx hb dL_law_165 (by decide) (fun hc => ?_) (fun hc => ?_)
              · replace h := bq_ifT hc h
                refine W.widen (k := 12585) (n := 181594) (by omega) (by omega) ?_
                exact hX z20 z21 E22 _ _ _ h hW (lv_sub hl [1, 2, 3, 4, 5, 6, 7] rfl)
              · replace h := bq_ifF hc h
                refine lv_aload_n hx hb dL_law_168 rfl (lv_at hl 0 rfl) ?_
                refine lv_iconst (v := 1) hx hb dL_law_169 (by decide) ?_
                refine lv_iload hx hb dL_law_170 (lv_at hl 9 rfl) ?_
                refine lv_iadd hx hb dL_law_172 ?_
                obtain ⟨v23, hv, h⟩ := bq_bind h
                refine bq_callSC S hK hz hXs hbz ms_L_128 hv dL_law_173 [.int v23] (rest := []) rfl rfl hl.1 (Nat.le_of_ble_eq_true rfl) ⟨Nat.le_of_ble_eq_true rfl, Nat.le_of_ble_eq_true rfl⟩ ⟨by show _ ≤ 691212; omega, by show _ ≤ 7027989; omega⟩ hW (fun H locs hW => ?_)
                refine lv_sipush (v := 7919) hx hb dL_law_176 (by decide) ?_
                refine lv_iload hx hb dL_law_179 (lv_at hl 9 rfl) ?_
                refine lv_imul hx hb dL_law_181 ?_
                refine lv_ixor hx hb dL_law_182 ?_
                refine lv_topi (fun v24 ev24 => ?_)
                replace h := bq_letE ev24 h
                refine lv_istore (lv' := [(11, .int v24), (0, .ref b), (1, .ref a1), (2, .ref a2), (3, .ref a3), (4, .ref a4), (5, .ref a5), (6, .ref a6), (8, .int z20), (9, .int v13), (10, .int z21)]) hx hb dL_law_183 hl (by decide) rfl (fun ls hl => ?_)
                refine lv_iload hx hb dL_law_185 (lv_at hl 0 rfl) ?_
                refine lv_bipush (v := 20) hx hb dL_law_187 (by decide) ?_
                refine lv_ishr hx hb dL_law_189 ?_
                refine lv_iconst (v := 3) hx hb dL_law_190 (by decide) ?_
                obtain ⟨v25, hv, h⟩ := bq_bind h
                refine bq_callS S hK hz ms_L_100 (c_L_low hv) dL_law_191 [.int v25] (rest := []) rfl rfl rfl hl.1 (Nat.le_of_ble_eq_true rfl) ⟨Nat.le_of_ble_eq_true rfl, Nat.le_of_ble_eq_true rfl⟩ ⟨by show _ ≤ 691212; omega, by show _ ≤ 7027989; omega⟩ hW (fun H locs hW => ?_)
                refine lv_istore (lv' := [(12, .int v25), (11, .int v24), (0, .ref b), (1, .ref a1), (2, .ref a2), (3, .ref a3), (4, .ref a4), (5, .ref a5), (6, .ref a6), (8, .int z20), (9, .int v13), (10, .int z21)]) hx hb dL_law_194 hl (by decide) rfl (fun ls hl => ?_)
                refine lv_iload hx hb dL_law_196 (lv_at hl 0 rfl) ?_
                obtain ⟨k217, ek217, h⟩ := bq_letK h
                have hjk217 : ∀ (b26 : Nat) (H1 : Heap) (locs1 : List Loc) (ls1 : Array Slot), k217 b26 = some R → bq_H g L E22 z s.heap H1 locs1 → lv_has ls1 14 [(0, .ref b), (1, .ref a1), (2, .ref a2), (3, .ref a3), (4, .ref a4), (5, .ref a5), (6, .ref a6), (9, .int v13), (10, .int z21), (11, .int v24), (12, .int v25)] → W p l e room_1 s m #[Value.ref b] below meth c H1 locs1 cl sl (lw_Z below #[Value.ref b] s) (F0 m 217 ls1 [.ref b26]) := by
                  intro b26 H locs ls h hW hl
                  replace h := bq_kap1 ek217 h
                  refine lv_astore (lv' := [(13, .ref b26), (0, .ref b), (1, .ref a1), (2, .ref a2), (3, .ref a3), (4, .ref a4), (5, .ref a5), (6, .ref a6), (9, .int v13), (10, .int z21), (11, .int v24), (12, .int v25)]) hx hb dL_law_217 hl (by decide) rfl (fun ls hl => ?_)
                  refine lv_aload_n hx hb dL_law_219 rfl (lv_at hl 2 rfl) ?_
                  refine lv_aload hx hb dL_law_220 (lv_at hl 0 rfl) ?_
                  refine lv_aload hx hb dL_law_222 (lv_at hl 6 rfl) ?_
                  refine lv_aload hx hb dL_law_224 (lv_at hl 7 rfl) ?_
                  refine lv_iload hx hb dL_law_226 (lv_at hl 11 rfl) ?_
                  refine lv_iload hx hb dL_law_228 (lv_at hl 10 rfl) ?_
                  obtain ⟨v27, hv, h⟩ := bq_bind h
                  refine bq_callSA S hK hz hT hN ms_L_139 (ca_L_acts hfl hv) dL_law_230 [.int (bq_b v27.1)] (rest := []) rfl rfl rfl hl.1 (Nat.le_of_ble_eq_true rfl) ⟨Nat.le_of_ble_eq_true rfl, Nat.le_of_ble_eq_true rfl⟩ ⟨by show _ ≤ 691212; omega, by show _ ≤ 7027989; omega⟩ hW (fun H locs hW => ?_)
                  refine lv_if_eq (tgt := 259) hx hb dL_law_233 (by decide) (fun hc => ?_) (fun hc => ?_)
                  · replace h := bq_ifT hc h
                    refine lv_iconst (v := 0) hx hb dL_law_259 (by decide) ?_
                    refine lv_istore (lv' := [(8, .int (0 : Int32)), (13, .ref b26), (0, .ref b), (1, .ref a1), (2, .ref a2), (3, .ref a3), (4, .ref a4), (5, .ref a5), (6, .ref a6), (9, .int v13), (10, .int z21), (11, .int v24), (12, .int v25)]) hx hb dL_law_260 hl (by decide) rfl (fun ls hl => ?_)
                    obtain ⟨v28, ev28⟩ : ∃ y : Int32, y = z21 + 1 := ⟨_, rfl⟩
                    replace h := bq_letE ev28 h
                    refine lv_iinc (v := v28) (lv' := [(10, .int v28), (8, .int (0 : Int32)), (13, .ref b26), (0, .ref b), (1, .ref a1), (2, .ref a2), (3, .ref a3), (4, .ref a4), (5, .ref a5), (6, .ref a6), (9, .int v13), (11, .int v24), (12, .int v25)]) hx hb dL_law_262 hl (k := 10) rfl (by rw [ev28]; rfl) (by decide) rfl (fun ls hl => ?_)
                    refine lv_goto (tgt := 156) hx hb dL_law_265 (by decide) ?_
                    exact ih (0 : Int32) v28 v27.2 (cl + 31) (sl + 1206) _ _ _ (by omega) (by omega) h hW (lv_sub hl [3, 4, 5, 6, 7, 8, 9, 1, 10, 0] rfl)
                  · replace h := bq_ifF hc h
                    refine lv_aload_n hx hb dL_law_236 rfl (lv_at hl 2 rfl) ?_
                    refine lv_aload hx hb dL_law_237 (lv_at hl 0 rfl) ?_
                    refine lv_aload hx hb dL_law_239 (lv_at hl 6 rfl) ?_
                    refine lv_aload hx hb dL_law_241 (lv_at hl 7 rfl) ?_
                    refine lv_iload hx hb dL_law_243 (lv_at hl 11 rfl) ?_
                    refine lv_iload hx hb dL_law_245 (lv_at hl 10 rfl) ?_
                    refine lv_iconst (v := 4) hx hb dL_law_247 (by decide) ?_
                    refine lv_ishr hx hb dL_law_248 ?_
                    obtain ⟨v29, hv, h⟩ := bq_bind h
                    refine bq_callSA S hK hz hT hN ms_L_143 (ca_L_isSo hfl hv) dL_law_249 [.int (bq_b v29.1)] (rest := []) rfl rfl rfl hl.1 (Nat.le_of_ble_eq_true rfl) ⟨Nat.le_of_ble_eq_true rfl, Nat.le_of_ble_eq_true rfl⟩ ⟨by show _ ≤ 691212; omega, by show _ ≤ 7027989; omega⟩ hW (fun H locs hW => ?_)
                    refine lv_if_eq (tgt := 259) hx hb dL_law_252 (by decide) (fun hc => ?_) (fun hc => ?_)
                    · replace h := bq_ifT hc h
                      refine lv_iconst (v := 0) hx hb dL_law_259 (by decide) ?_
                      refine lv_istore (lv' := [(8, .int (0 : Int32)), (13, .ref b26), (0, .ref b), (1, .ref a1), (2, .ref a2), (3, .ref a3), (4, .ref a4), (5, .ref a5), (6, .ref a6), (9, .int v13), (10, .int z21), (11, .int v24), (12, .int v25)]) hx hb dL_law_260 hl (by decide) rfl (fun ls hl => ?_)
                      obtain ⟨v30, ev30⟩ : ∃ y : Int32, y = z21 + 1 := ⟨_, rfl⟩
                      replace h := bq_letE ev30 h
                      refine lv_iinc (v := v30) (lv' := [(10, .int v30), (8, .int (0 : Int32)), (13, .ref b26), (0, .ref b), (1, .ref a1), (2, .ref a2), (3, .ref a3), (4, .ref a4), (5, .ref a5), (6, .ref a6), (9, .int v13), (11, .int v24), (12, .int v25)]) hx hb dL_law_262 hl (k := 10) rfl (by rw [ev30]; rfl) (by decide) rfl (fun ls hl => ?_)
                      refine lv_goto (tgt := 156) hx hb dL_law_265 (by decide) ?_
                      exact ih (0 : Int32) v30 v29.2 (cl + 160) (sl + 1980) _ _ _ (by omega) (by omega) h hW (lv_sub hl [3, 4, 5, 6, 7, 8, 9, 1, 10, 0] rfl)
                    · replace h := bq_ifF hc h
                      refine lv_iconst (v := 1) hx hb dL_law_255 (by decide) ?_
                      refine lv_goto (tgt := 260) hx hb dL_law_256 (by decide) ?_
                      refine lv_istore (lv' := [(8, .int (1 : Int32)), (13, .ref b26), (0, .ref b), (1, .ref a1), (2, .ref a2), (3, .ref a3), (4, .ref a4), (5, .ref a5), (6, .ref a6), (9, .int v13), (10, .int z21), (11, .int v24), (12, .int v25)]) hx hb dL_law_260 hl (by decide) rfl (fun ls hl => ?_)
                      obtain ⟨v31, ev31⟩ : ∃ y : Int32, y = z21 + 1 := ⟨_, rfl⟩
                      replace h := bq_letE ev31 h
                      refine lv_iinc (v := v31) (lv' := [(10, .int v31), (8, .int (1 : Int32)), (13, .ref b26), (0, .ref b), (1, .ref a1), (2, .ref a2), (3, .ref a3), (4, .ref a4), (5, .ref a5), (6, .ref a6), (9, .int v13), (11, .int v24), (12, .int v25)]) hx hb dL_law_262 hl (k := 10) rfl (by rw [ev31]; rfl) (by decide) rfl (fun ls hl => ?_)
                      refine lv_goto (tgt := 156) hx hb dL_law_265 (by decide) ?_
                      exact ih (1 : Int32) v31 v29.2 (cl + 160) (sl + 1980) _ _ _ (by omega) (by omega) h hW (lv_sub hl [3, 4, 5, 6, 7, 8, 9, 1, 10, 0] rfl)
                clear ek217
                refine lv_if_ne (tgt := 205) hx hb dL_law_198 (by decide) (fun hc => ?_) (fun hc => ?_)
                · replace h := bq_ifF hc h
                  refine lv_iload hx hb dL_law_205 (lv_at hl 0 rfl) ?_
                  refine lv_iconst (v := 1) hx hb dL_law_207 (by decide) ?_
                  refine lv_icmp_ne (tgt := 215) hx hb dL_law_208 (by decide) (fun hc => ?_) (fun hc => ?_)
                  · replace h := bq_ifF hc h
                    refine lv_aload hx hb dL_law_215 (lv_at hl 6 rfl) ?_
                    refine W.widen (k := cl) (n := sl) (by omega) (by omega) ?_
                    exact hjk217 a4 _ _ _ h hW (lv_sub hl [2, 3, 4, 5, 6, 7, 8, 10, 11, 1, 0] rfl)
                  · replace h := bq_ifT hc h
                    refine lv_aload_n hx hb dL_law_211 rfl (lv_at hl 5 rfl) ?_
                    refine lv_goto (tgt := 217) hx hb dL_law_212 (by decide) ?_
                    refine W.widen (k := cl) (n := sl) (by omega) (by omega) ?_
                    exact hjk217 a3 _ _ _ h hW (lv_sub hl [2, 3, 4, 5, 6, 7, 8, 10, 11, 1, 0] rfl)
                · replace h := bq_ifT hc h
                  refine lv_aload_n hx hb dL_law_201 rfl (lv_at hl 4 rfl) ?_
                  refine lv_goto (tgt := 217) hx hb dL_law_202 (by decide) ?_
                  refine W.widen (k := cl) (n := sl) (by omega) (by omega) ?_
                  exact hjk217 a2 _ _ _ h hW (lv_sub hl [2, 3, 4, 5, 6, 7, 8, 10, 11, 1, 0] rfl)
        refine W.widen (k := 1385) (n := 42994) (by omega) (by omega) ?_
        refine hL156 _ (fun y14 y15 E16 H locs ls h hW hl => ?_) 70 b9 (0 : Int32) E10 1385 42994 _ _ _ (by omega) (by omega) h hW (lv_sub hl [3, 4, 5, 6, 7, 8, 9, 2, 1, 0] rfl)
        refine lv_iload hx hb dL_law_268 (lv_at hl 6 rfl) ?_
        refine lv_if_eq (tgt := 325) hx hb dL_law_270 (by decide) (fun hc => ?_) (fun hc => ?_)
        · replace h := bq_ifT hc h
          refine lv_iconst (v := 0) hx hb dL_law_325 (by decide) ?_
          cases h
        · replace h := bq_ifF hc h
          refine lv_aload_n hx hb dL_law_273 rfl (lv_at hl 0 rfl) ?_
          refine lv_aload_n hx hb dL_law_274 rfl (lv_at hl 1 rfl) ?_
          refine lv_aload hx hb dL_law_275 (lv_at hl 4 rfl) ?_
          refine lv_aload hx hb dL_law_277 (lv_at hl 5 rfl) ?_
          refine lv_iconst (v := 0) hx hb dL_law_279 (by decide) ?_
          refine lv_bipush (v := 77) hx hb dL_law_280 (by decide) ?_
          obtain ⟨v17, hv, h⟩ := bq_bind h
          refine bq_callSA S hK hz hT hN ms_L_143 (ca_L_isSo hfl hv) dL_law_282 [.int (bq_b v17.1)] (rest := []) rfl rfl rfl hl.1 (Nat.le_of_ble_eq_true rfl) ⟨Nat.le_of_ble_eq_true rfl, Nat.le_of_ble_eq_true rfl⟩ ⟨by show _ ≤ 691212; omega, by show _ ≤ 7027989; omega⟩ hW (fun H locs hW => ?_)
          refine lv_if_eq (tgt := 325) hx hb dL_law_285 (by decide) (fun hc => ?_) (fun hc => ?_)
          · replace h := bq_ifT hc h
            refine lv_iconst (v := 0) hx hb dL_law_325 (by decide) ?_
            cases h
          · replace h := bq_ifF hc h
            refine lv_aload_n hx hb dL_law_288 rfl (lv_at hl 0 rfl) ?_
            refine lv_aload_n hx hb dL_law_289 rfl (lv_at hl 2 rfl) ?_
            refine lv_aload hx hb dL_law_290 (lv_at hl 4 rfl) ?_
            refine lv_aload hx hb dL_law_292 (lv_at hl 5 rfl) ?_
            refine lv_iconst (v := 1) hx hb dL_law_294 (by decide) ?_
            refine lv_sipush (v := 5000) hx hb dL_law_295 (by decide) ?_
            obtain ⟨v18, hv, h⟩ := bq_bind h
            refine bq_callSA S hK hz hT hN ms_L_143 (ca_L_isSo hfl hv) dL_law_298 [.int (bq_b v18.1)] (rest := []) rfl rfl rfl hl.1 (Nat.le_of_ble_eq_true rfl) ⟨Nat.le_of_ble_eq_true rfl, Nat.le_of_ble_eq_true rfl⟩ ⟨by show _ ≤ 691212; omega, by show _ ≤ 7027989; omega⟩ hW (fun H locs hW => ?_)
            refine lv_if_eq (tgt := 325) hx hb dL_law_301 (by decide) (fun hc => ?_) (fun hc => ?_)
            · replace h := bq_ifT hc h
              refine lv_iconst (v := 0) hx hb dL_law_325 (by decide) ?_
              cases h
            · replace h := bq_ifF hc h
              refine lv_aload_n hx hb dL_law_304 rfl (lv_at hl 0 rfl) ?_
              refine lv_aload hx hb dL_law_305 (lv_at hl 3 rfl) ?_
              refine lv_aload hx hb dL_law_307 (lv_at hl 4 rfl) ?_
              refine lv_aload hx hb dL_law_309 (lv_at hl 5 rfl) ?_
              refine lv_iconst (v := 2) hx hb dL_law_311 (by decide) ?_
              refine lv_sipush (v := 9999) hx hb dL_law_312 (by decide) ?_
              obtain ⟨v19, hv, h⟩ := bq_bind h
              refine bq_callSA S hK hz hT hN ms_L_143 (ca_L_isSo hfl hv) dL_law_315 [.int (bq_b v19.1)] (rest := []) rfl rfl rfl hl.1 (Nat.le_of_ble_eq_true rfl) ⟨Nat.le_of_ble_eq_true rfl, Nat.le_of_ble_eq_true rfl⟩ ⟨by show _ ≤ 691212; omega, by show _ ≤ 7027989; omega⟩ hW (fun H locs hW => ?_)
              refine lv_if_eq (tgt := 325) hx hb dL_law_318 (by decide) (fun hc => ?_) (fun hc => ?_)
              · replace h := bq_ifT hc h
                refine lv_iconst (v := 0) hx hb dL_law_325 (by decide) ?_
                cases h
              · replace h := bq_ifF hc h
                refine lv_iconst (v := 1) hx hb dL_law_321 (by decide) ?_
                refine lv_goto (tgt := 326) hx hb dL_law_322 (by decide) ?_
                refine va_forget (fun q hq => by rw [← hzz]; exact hW.2.2.2.2.2 q hq) ?_
                refine W.widen (k := 691212) (n := 7027989) (by omega) (by omega) ?_
                exact lw_ret hx hb hr hlocks dL_law_326
      clear ek134
      obtain ⟨k133, ek133, h⟩ := bq_letK h
      have hjk133 : ∀ (E35 : bq_E) (H1 : Heap) (locs1 : List Loc) (ls1 : Array Slot), k133 E35 = some R → bq_H g L E35 z s.heap H1 locs1 → lv_has ls1 14 [(0, .ref b), (1, .ref a1), (2, .ref a2), (3, .ref a3), (4, .ref a4), (5, .ref a5), (6, .ref a6)] → W p l e room_1 s m #[Value.ref b] below meth c H1 locs1 1385 42994 (lw_Z below #[Value.ref b] s) (F0 m 133 ls1 []) := by
        intro E35 H locs ls h hW hl
        replace h := bq_kap1 ek133 h
        refine lv_iconst (v := 0) hx hb dL_law_133 (by decide) ?_
        refine W.widen (k := 1385) (n := 42994) (by omega) (by omega) ?_
        exact hjk134 (0 : Int32) E35 _ _ _ h hW (lv_sub hl [0, 1, 2, 3, 4, 5, 6] rfl)
      clear ek133
      refine lv_icmp_ne (tgt := 133) hx hb dL_law_89 (by decide) (fun hc => ?_) (fun hc => ?_)
      · replace h := bq_ifF hc h
        refine W.widen (k := 1385) (n := 42994) (by omega) (by omega) ?_
        exact hjk133 v8.2 _ _ _ h hW (lv_sub hl [0, 1, 2, 3, 4, 5, 6] rfl)
      · replace h := bq_ifT hc h
        refine lv_aload_n hx hb dL_law_92 rfl (lv_at hl 1 rfl) ?_
        refine lv_aload_n hx hb dL_law_93 rfl (lv_at hl 0 rfl) ?_
        refine lv_iconst (v := 0) hx hb dL_law_94 (by decide) ?_
        obtain ⟨v36, hv, h⟩ := bq_bind h
        refine bq_callSC S hK hz hXs hbz ms_L_128 hv dL_law_95 [.int v36, .ref a1] (rest := [.ref a1]) rfl rfl hl.1 (Nat.le_of_ble_eq_true rfl) ⟨Nat.le_of_ble_eq_true rfl, Nat.le_of_ble_eq_true rfl⟩ ⟨by show _ ≤ 691212; omega, by show _ ≤ 7027989; omega⟩ hW (fun H locs hW => ?_)
        refine lv_iconst (v := 1) hx hb dL_law_98 (by decide) ?_
        refine lv_ishr hx hb dL_law_99 ?_
        refine lv_iconst (v := 2) hx hb dL_law_100 (by decide) ?_
        obtain ⟨v37, hv, h⟩ := bq_bind h
        refine bq_callS S hK hz ms_L_100 (c_L_low hv) dL_law_101 [.int v37, .ref a1] (rest := [.ref a1]) rfl rfl rfl hl.1 (Nat.le_of_ble_eq_true rfl) ⟨Nat.le_of_ble_eq_true rfl, Nat.le_of_ble_eq_true rfl⟩ ⟨by show _ ≤ 691212; omega, by show _ ≤ 7027989; omega⟩ hW (fun H locs hW => ?_)
        refine lv_iload hx hb dL_law_104 (lv_at hl 7 rfl) ?_
        obtain ⟨k114, ek114, h⟩ := bq_letK h
        have hjk114 : ∀ (b38 : Int32) (H1 : Heap) (locs1 : List Loc) (ls1 : Array Slot), k114 b38 = some R → bq_H g L v8.2 z s.heap H1 locs1 → lv_has ls1 14 [(0, .ref b), (1, .ref a1), (2, .ref a2), (3, .ref a3), (4, .ref a4), (5, .ref a5), (6, .ref a6)] → W p l e room_1 s m #[Value.ref b] below meth c H1 locs1 1384 42988 (lw_Z below #[Value.ref b] s) (F0 m 114 ls1 [.int b38, .int v37, .ref a1]) := by
          intro b38 H locs ls h hW hl
          replace h := bq_kap1 ek114 h
          obtain ⟨v39, hv, h⟩ := bq_bind h
          refine bq_callSL (n := 3) S hK hz hT hN (bq_inSW (bq_wi 264 (by decide +kernel) rfl) (bq_wi 265 (by decide +kernel) rfl) (bq_wi 16 (by decide +kernel) rfl) (bq_wi 266 (by decide +kernel) rfl)) (by decide +kernel) (cl_L_adds hfl hv) dL_law_114 [.int v39.1] (rest := []) rfl rfl rfl hl.1 (Nat.le_of_ble_eq_true rfl) ⟨Nat.le_of_ble_eq_true rfl, Nat.le_of_ble_eq_true rfl⟩ ⟨by show _ ≤ 691212; omega, by show _ ≤ 7027989; omega⟩ hW (fun H locs hW => ?_)
          refine lv_iconst (v := 2) hx hb dL_law_117 (by decide) ?_
          refine lv_icmp_ne (tgt := 133) hx hb dL_law_118 (by decide) (fun hc => ?_) (fun hc => ?_)
          · replace h := bq_ifF hc h
            refine W.widen (k := 1385) (n := 42994) (by omega) (by omega) ?_
            exact hjk133 v39.2 _ _ _ h hW (lv_sub hl [0, 1, 2, 3, 4, 5, 6] rfl)
          · replace h := bq_ifT hc h
            refine lv_aload_n hx hb dL_law_121 rfl (lv_at hl 1 rfl) ?_
            obtain ⟨v40, hv, h⟩ := bq_bind h
            refine bq_callV S hK hz mv_L_135 (c_X6_nodes hv) (kc_X6_nodes hv) dL_law_122 [.int v40] (rest := []) rfl rfl rfl hl.1 (Nat.le_of_ble_eq_true rfl) ⟨Nat.le_of_ble_eq_true rfl, Nat.le_of_ble_eq_true rfl⟩ ⟨by show _ ≤ 691212; omega, by show _ ≤ 7027989; omega⟩ hW (fun H locs hW => ?_)
            refine lv_iconst (v := 3) hx hb dL_law_125 (by decide) ?_
            refine lv_icmp_ne (tgt := 133) hx hb dL_law_126 (by decide) (fun hc => ?_) (fun hc => ?_)
            · replace h := bq_ifF hc h
              refine W.widen (k := 1385) (n := 42994) (by omega) (by omega) ?_
              exact hjk133 v39.2 _ _ _ h hW (lv_sub hl [0, 1, 2, 3, 4, 5, 6] rfl)
            · replace h := bq_ifT hc h
              refine lv_iconst (v := 1) hx hb dL_law_129 (by decide) ?_
              refine lv_goto (tgt := 134) hx hb dL_law_130 (by decide) ?_
              refine W.widen (k := 1385) (n := 42994) (by omega) (by omega) ?_
              exact hjk134 (1 : Int32) v39.2 _ _ _ h hW (lv_sub hl [0, 1, 2, 3, 4, 5, 6] rfl)
        clear ek114
        refine lv_if_eq (tgt := 113) hx hb dL_law_106 (by decide) (fun hc => ?_) (fun hc => ?_)
        · replace h := bq_ifT hc h
          refine lv_iconst (v := 1) hx hb dL_law_113 (by decide) ?_
          refine W.widen (k := 1384) (n := 42988) (by omega) (by omega) ?_
          exact hjk114 (1 : Int32) _ _ _ h hW (lv_sub hl [0, 1, 2, 3, 4, 5, 6] rfl)
        · replace h := bq_ifF hc h
          refine lv_iconst (v := 2) hx hb dL_law_109 (by decide) ?_
          refine lv_goto (tgt := 114) hx hb dL_law_110 (by decide) ?_
          refine W.widen (k := 1384) (n := 42988) (by omega) (by omega) ?_
          exact hjk114 (2 : Int32) _ _ _ h hW (lv_sub hl [0, 1, 2, 3, 4, 5, 6] rfl)
    clear ek85
    refine lv_if_eq (tgt := 84) hx hb dL_law_77 (by decide) (fun hc => ?_) (fun hc => ?_)
    · replace h := bq_ifT hc h
      refine lv_iconst (v := 2) hx hb dL_law_84 (by decide) ?_
      refine W.widen (k := 1383) (n := 42982) (by omega) (by omega) ?_
      exact hjk85 (2 : Int32) _ _ _ h hW (lv_sub hl [1, 2, 3, 4, 5, 6, 7, 0] rfl)
    · replace h := bq_ifF hc h
      refine lv_iconst (v := 1) hx hb dL_law_80 (by decide) ?_
      refine lv_goto (tgt := 85) hx hb dL_law_81 (by decide) ?_
      refine W.widen (k := 1383) (n := 42982) (by omega) (by omega) ?_
      exact hjk85 (1 : Int32) _ _ _ h hW (lv_sub hl [1, 2, 3, 4, 5, 6, 7, 0] rfl)
  clear ek71
  refine lv_if_ne (tgt := 70) hx hb dL_law_63 (by decide) (fun hc => ?_) (fun hc => ?_)
  · replace h := bq_ifF hc h
    refine lv_iconst (v := 0) hx hb dL_law_70 (by decide) ?_
    refine W.widen (k := 1383) (n := 42982) (by omega) (by omega) ?_
    exact hjk71 (0 : Int32) _ _ _ h hW (lv_sub hl [0, 1, 2, 3, 4, 5, 6] rfl)
  · replace h := bq_ifT hc h
    refine lv_iconst (v := 1) hx hb dL_law_66 (by decide) ?_
    refine lv_goto (tgt := 71) hx hb dL_law_67 (by decide) ?_
    refine W.widen (k := 1383) (n := 42982) (by omega) (by omega) ?_
    exact hjk71 (1 : Int32) _ _ _ h hW (lv_sub hl [0, 1, 2, 3, 4, 5, 6] rfl)
