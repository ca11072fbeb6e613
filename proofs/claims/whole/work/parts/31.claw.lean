theorem bq_sld {p : Program} {l : Launch} {e : Env} {R : Room} {s : State} {m : MethodId} {args : Array Value} {below : List Frame} {meth : Method} {c : Code} {H : Heap} {locs : List Loc} {cells slots : Nat} {Q : State → Prop} {cc : ByteArray} {pc : Nat} {ls : Array Slot} {rest : List Value} {A : Nat → Prop} {H0 : Heap} (hexec : p.tables.exec = Jvm.exec) (hb : c.code = cc) {b L : Nat} {xs : Nat → Int32} (hX : va_X b L xs s H0) (hbl : b < H0.size) (hbA : ¬ A b) (hS : va_S A H0 H locs) {i v : Int32} (hv : bq_sc xs L i = some v) (hdg : decode cc pc = .ok (.iaload, 1))
    (kk : W p l e R s m args below meth c H locs cells slots Q (F0 m (pc + 1) ls (.int v :: rest))) : W p l e R s m args below meth c H locs cells slots Q (F0 m pc ls (.int i :: .ref b :: rest)) := by
  obtain ⟨hin, rfl⟩ := bq_scE hv
  exact va_sld hexec hb hX hbl hbA hS hin hdg kk
set_option maxHeartbeats 8000000 in
set_option maxRecDepth 100000 in
/-- the law's loop, from its head -/
theorem cl_law {p : Program} {e : Env} {s : State} {m : MethodId} {below : List Frame} {meth : Method} {c : Code} {l : Launch} (hfl : l.stackTraces = false) {b Ln : Nat} {xs : Nat → Int32} {g : bq_G} {a1 a2 a3 z : Nat} {L : List Nat}
    (S : CallFix p m c cL_law 7 s #[Value.ref b] bq_WA RL) (hr : meth.sig.returnType = ret) (hlocks : meth.locks = false) (hX : va_X b Ln xs s s.heap) (hbl : b < s.heap.size) (hzz : z = s.heap.size) (hK : va_K g.1 vwCl (bq_tys g) s) (hT : bq_T z s s.heap) (hN : bq_NC s) :
    ∀ (t : Nat) (y4 : Int32) (E : bq_E) (cl sl : Nat) (H : Heap) (locs : List Loc) (ls : Array Slot), tl_law xs Ln a1 a2 a3 t y4 E = some () → cl + t ≤ 601024 → sl + 6 * t ≤ 7293034 → bq_H g L E z s.heap H locs → lv_has ls 7 [(0, .ref b), (1, .ref a1), (2, .ref a2), (3, .ref a3), (4, .int y4)] →
      W p l e room_1 s m #[Value.ref b] below meth c H locs cl sl (lw_Z below #[Value.ref b] s) (F0 m 23 ls []) := by
  have hx := S.1
  have hb : c.code = code := S.2.1
  have hz : z ≤ s.heap.size := by omega
  have hbA : ¬ bq_A z b := by
    show ¬ z ≤ b
    omega
  subst hzz
  intro t
  induction t with
  | zero => intro y4 E cl sl H locs ls h _ _ hW hl; cases h
  | succ t ih =>
      intro y4 E cl sl H locs ls h hcl hsl hW hl
      rw [tl_law.eq_2] at h
      refine lv_iload hx hb dL_law_23 (lv_at hl 4 rfl) ?_
      refine lv_aload_n hx hb dL_law_25 rfl (lv_at hl 0 rfl) ?_
      refine va_slen hx hb hX hbl hbA hW.2.2.2 dL_law_26 ?_
      refine lv_iconst (v := 5) hx hb dL_law_27 (by decide) ?_
      refine lv_isub hx hb dL_law_28 ?_
      refine lv_icmp_gt (tgt := 1624) hx hb dL_law_29 (by decide) (fun hc => ?_) (fun hc => ?_)
      · replace h := bq_ifT hc h
        refine lv_iconst (v := 1) hx hb dL_law_1624 (by decide) ?_
        refine va_forget (fun q hq => hW.2.2.2.2.2 q hq) ?_
        refine W.widen (k := 601024) (n := 7293034) (by omega) (by omega) ?_
        exact lw_ret hx hb hr hlocks dL_law_1625
      · replace h := bq_ifF hc h
        refine lv_aload_n hx hb dL_law_32 rfl (lv_at hl 0 rfl) ?_
        refine lv_iload hx hb dL_law_33 (lv_at hl 4 rfl) ?_
        obtain ⟨v1, hv, h⟩ := bq_bind h
        refine bq_sld hx hb hX hbl hbA hW.2.2.2 hv dL_law_35 ?_
        refine lv_bipush (v := 31) hx hb dL_law_36 (by decide) ?_
        refine lv_iand hx hb dL_law_38 ?_
        by_cases hc0 : (v1 &&& (31 : Int32)) = 0
        · replace h := bq_ifT hc0 h
          refine lv_tableIn (tgt := 148) (off := 109) hx hb dL_law_39 (by rw [hc0]; decide) (by rw [hc0]; decide) (by rw [hc0]; rfl) (by decide) ?_
          refine lv_aload_n hx hb dL_law_148 rfl (lv_at hl 1 rfl) ?_
          refine lv_aload_n hx hb dL_law_149 rfl (lv_at hl 0 rfl) ?_
          refine lv_iload hx hb dL_law_150 (lv_at hl 4 rfl) ?_
          refine lv_iconst (v := 1) hx hb dL_law_152 (by decide) ?_
          refine lv_iadd hx hb dL_law_153 ?_
          obtain ⟨v2, hv, h⟩ := bq_bind h
          refine bq_sld hx hb hX hbl hbA hW.2.2.2 hv dL_law_154 ?_
          refine lv_aload_n hx hb dL_law_155 rfl (lv_at hl 0 rfl) ?_
          refine lv_iload hx hb dL_law_156 (lv_at hl 4 rfl) ?_
          refine lv_iconst (v := 2) hx hb dL_law_158 (by decide) ?_
          refine lv_iadd hx hb dL_law_159 ?_
          obtain ⟨v3, hv, h⟩ := bq_bind h
          refine bq_sld hx hb hX hbl hbA hW.2.2.2 hv dL_law_160 ?_
          refine lv_aload_n hx hb dL_law_161 rfl (lv_at hl 3 rfl) ?_
          obtain ⟨v4, hv, h⟩ := bq_bind h
          refine bq_callSL (n := 4) S hK hz hT hN (bq_inSW (bq_wi 602 (by decide +kernel) rfl) (bq_wi 603 (by decide +kernel) rfl) (bq_wi 53 (by decide +kernel) rfl) (bq_wi 604 (by decide +kernel) rfl)) (by decide +kernel) (cl_L_addNode hfl hv) dL_law_162 [.int v4.1] (rest := []) rfl rfl rfl hl.1 (Nat.le_of_ble_eq_true rfl) ⟨Nat.le_of_ble_eq_true rfl, Nat.le_of_ble_eq_true rfl⟩ ⟨by show _ ≤ 601024; omega, by show _ ≤ 7293034; omega⟩ hW (fun H locs hW => ?_)
          refine lv_istore (lv' := [(5, .int v4.1), (0, .ref b), (1, .ref a1), (2, .ref a2), (3, .ref a3), (4, .int y4)]) hx hb dL_law_165 hl (by decide) rfl (fun ls hl => ?_)
          refine lv_aload_n hx hb dL_law_167 rfl (lv_at hl 3 rfl) ?_
          refine lv_aload_n hx hb dL_law_168 rfl (lv_at hl 1 rfl) ?_
          refine lv_iload hx hb dL_law_169 (lv_at hl 5 rfl) ?_
          refine lv_iconst (v := 1) hx hb dL_law_171 (by decide) ?_
          refine lv_iadd hx hb dL_law_172 ?_
          obtain ⟨v5, hv, h⟩ := bq_bind h
          refine bq_sld hx hb hX hbl hbA hW.2.2.2 hv dL_law_173 ?_
          refine lv_aload_n hx hb dL_law_174 rfl (lv_at hl 1 rfl) ?_
          refine lv_iload hx hb dL_law_175 (lv_at hl 5 rfl) ?_
          refine lv_iconst (v := 2) hx hb dL_law_177 (by decide) ?_
          refine lv_iadd hx hb dL_law_178 ?_
          obtain ⟨v6, hv, h⟩ := bq_bind h
          refine bq_sld hx hb hX hbl hbA hW.2.2.2 hv dL_law_179 ?_
          obtain ⟨v7, hv, h⟩ := bq_bind h
          refine bq_callV S hK hz mv_L_93 (c_X7_addNode hv) (kc_X7_addNode hv) dL_law_180 [.int v7.1] (rest := []) rfl rfl rfl hl.1 (Nat.le_of_ble_eq_true rfl) ⟨Nat.le_of_ble_eq_true rfl, Nat.le_of_ble_eq_true rfl⟩ ⟨by show _ ≤ 601024; omega, by show _ ≤ 7293034; omega⟩ hW (fun H locs hW => ?_)
          refine lv_istore (lv' := [(6, .int v7.1), (5, .int v4.1), (0, .ref b), (1, .ref a1), (2, .ref a2), (3, .ref a3), (4, .int y4)]) hx hb dL_law_183 hl (by decide) rfl (fun ls hl => ?_)
          refine lv_aload_n hx hb dL_law_185 rfl (lv_at hl 4 rfl) ?_
          obtain ⟨v8, hv, h⟩ := bq_bind h
          refine bq_callV S hK hz mv_L_94 (c_X7_thrown hv) (kc_X7_thrown hv) dL_law_186 [.int v8] (rest := []) rfl rfl rfl hl.1 (Nat.le_of_ble_eq_true rfl) ⟨Nat.le_of_ble_eq_true rfl, Nat.le_of_ble_eq_true rfl⟩ ⟨by show _ ≤ 601024; omega, by show _ ≤ 7293034; omega⟩ hW (fun H locs hW => ?_)
          refine lv_iload hx hb dL_law_189 (lv_at hl 1 rfl) ?_
          refine lv_icmp_eq (tgt := 196) hx hb dL_law_191 (by decide) (fun hc => ?_) (fun hc => ?_)
          · replace h := bq_ifT hc h
            refine lv_iload hx hb dL_law_196 (lv_at hl 1 rfl) ?_
            refine lv_if_ne (tgt := 213) hx hb dL_law_198 (by decide) (fun hc => ?_) (fun hc => ?_)
            · replace h := bq_ifF hc h
              refine lv_goto (tgt := 1618) hx hb dL_law_213 (by decide) ?_
              obtain ⟨v9, ev9⟩ : ∃ y : Int32, y = y4 + 5 := ⟨_, rfl⟩
              replace h := bq_letE ev9 h
              refine lv_iinc (v := v9) (lv' := [(4, .int v9), (6, .int v7.1), (5, .int v4.1), (0, .ref b), (1, .ref a1), (2, .ref a2), (3, .ref a3)]) hx hb dL_law_1618 hl (k := 6) rfl (by rw [ev9]; rfl) (by decide) rfl (fun ls hl => ?_)
              refine lv_goto (tgt := 23) hx hb dL_law_1621 (by decide) ?_
              exact ih _ _ _ _ _ _ _ h (by omega) (by omega) hW (lv_sub hl [3, 4, 5, 6, 0] rfl)
            · replace h := bq_ifT hc h
              refine lv_aload_n hx hb dL_law_201 rfl (lv_at hl 5 rfl) ?_
              refine lv_iconst (v := 0) hx hb dL_law_202 (by decide) ?_
              obtain ⟨v10, hv, h⟩ := bq_bind h
              refine bq_lald S hK dL_law_203 hv hW ?_
              refine lv_iload hx hb dL_law_204 (lv_at hl 0 rfl) ?_
              refine lv_i2l (v := Int32.toInt64 v7.1) hx hb dL_law_206 rfl ?_
              refine W.lcmp hx hb dL_law_207 ?_
              refine lv_if_eq (tgt := 213) hx hb dL_law_208 (by decide) (fun hc => ?_) (fun hc => ?_)
              · replace h := bq_ifT hc h
                refine lv_goto (tgt := 1618) hx hb dL_law_213 (by decide) ?_
                obtain ⟨v11, ev11⟩ : ∃ y : Int32, y = y4 + 5 := ⟨_, rfl⟩
                replace h := bq_letE ev11 h
                refine lv_iinc (v := v11) (lv' := [(4, .int v11), (6, .int v7.1), (5, .int v4.1), (0, .ref b), (1, .ref a1), (2, .ref a2), (3, .ref a3)]) hx hb dL_law_1618 hl (k := 6) rfl (by rw [ev11]; rfl) (by decide) rfl (fun ls hl => ?_)
                refine lv_goto (tgt := 23) hx hb dL_law_1621 (by decide) ?_
                exact ih _ _ _ _ _ _ _ h (by omega) (by omega) hW (lv_sub hl [3, 4, 5, 6, 0] rfl)
              · replace h := bq_ifF hc h
                refine lv_iconst (v := 0) hx hb dL_law_211 (by decide) ?_
                cases h
          · replace h := bq_ifF hc h
            refine lv_iconst (v := 0) hx hb dL_law_194 (by decide) ?_
            cases h
        replace h := bq_ifF hc0 h
        by_cases hc1 : (v1 &&& (31 : Int32)) = 1
        · replace h := bq_ifT hc1 h
          refine lv_tableIn (tgt := 216) (off := 177) hx hb dL_law_39 (by rw [hc1]; decide) (by rw [hc1]; decide) (by rw [hc1]; rfl) (by decide) ?_
          refine lv_aload_n hx hb dL_law_216 rfl (lv_at hl 1 rfl) ?_
          refine lv_aload_n hx hb dL_law_217 rfl (lv_at hl 0 rfl) ?_
          refine lv_iload hx hb dL_law_218 (lv_at hl 4 rfl) ?_
          refine lv_iconst (v := 1) hx hb dL_law_220 (by decide) ?_
          refine lv_iadd hx hb dL_law_221 ?_
          obtain ⟨v12, hv, h⟩ := bq_bind h
          refine bq_sld hx hb hX hbl hbA hW.2.2.2 hv dL_law_222 ?_
          refine lv_aload_n hx hb dL_law_223 rfl (lv_at hl 0 rfl) ?_
          refine lv_iload hx hb dL_law_224 (lv_at hl 4 rfl) ?_
          refine lv_iconst (v := 2) hx hb dL_law_226 (by decide) ?_
          refine lv_iadd hx hb dL_law_227 ?_
          obtain ⟨v13, hv, h⟩ := bq_bind h
          refine bq_sld hx hb hX hbl hbA hW.2.2.2 hv dL_law_228 ?_
          refine lv_aload_n hx hb dL_law_229 rfl (lv_at hl 3 rfl) ?_
          obtain ⟨v14, hv, h⟩ := bq_bind h
          refine bq_callSL (n := 4) S hK hz hT hN (bq_inSW (bq_wi 640 (by decide +kernel) rfl) (bq_wi 641 (by decide +kernel) rfl) (bq_wi 53 (by decide +kernel) rfl) (bq_wi 642 (by decide +kernel) rfl)) (by decide +kernel) (cl_L_add hfl hv) dL_law_230 [.int v14.1] (rest := []) rfl rfl rfl hl.1 (Nat.le_of_ble_eq_true rfl) ⟨Nat.le_of_ble_eq_true rfl, Nat.le_of_ble_eq_true rfl⟩ ⟨by show _ ≤ 601024; omega, by show _ ≤ 7293034; omega⟩ hW (fun H locs hW => ?_)
          refine lv_istore (lv' := [(5, .int v14.1), (0, .ref b), (1, .ref a1), (2, .ref a2), (3, .ref a3), (4, .int y4)]) hx hb dL_law_233 hl (by decide) rfl (fun ls hl => ?_)
          refine lv_aload_n hx hb dL_law_235 rfl (lv_at hl 3 rfl) ?_
          refine lv_aload_n hx hb dL_law_236 rfl (lv_at hl 1 rfl) ?_
          refine lv_iload hx hb dL_law_237 (lv_at hl 5 rfl) ?_
          refine lv_iconst (v := 1) hx hb dL_law_239 (by decide) ?_
          refine lv_iadd hx hb dL_law_240 ?_
          obtain ⟨v15, hv, h⟩ := bq_bind h
          refine bq_sld hx hb hX hbl hbA hW.2.2.2 hv dL_law_241 ?_
          refine lv_aload_n hx hb dL_law_242 rfl (lv_at hl 1 rfl) ?_
          refine lv_iload hx hb dL_law_243 (lv_at hl 5 rfl) ?_
          refine lv_iconst (v := 2) hx hb dL_law_245 (by decide) ?_
          refine lv_iadd hx hb dL_law_246 ?_
          obtain ⟨v16, hv, h⟩ := bq_bind h
          refine bq_sld hx hb hX hbl hbA hW.2.2.2 hv dL_law_247 ?_
          obtain ⟨v17, hv, h⟩ := bq_bind h
          refine bq_callV S hK hz mv_L_99 (c_X7_add hv) (kc_X7_add hv) dL_law_248 [.int (bq_b v17.1)] (rest := []) rfl rfl rfl hl.1 (Nat.le_of_ble_eq_true rfl) ⟨Nat.le_of_ble_eq_true rfl, Nat.le_of_ble_eq_true rfl⟩ ⟨by show _ ≤ 601024; omega, by show _ ≤ 7293034; omega⟩ hW (fun H locs hW => ?_)
          refine lv_topi (fun v18 ev18 => ?_)
          replace h := bq_letE ev18 h
          refine lv_istore (lv' := [(6, .int v18), (5, .int v14.1), (0, .ref b), (1, .ref a1), (2, .ref a2), (3, .ref a3), (4, .int y4)]) hx hb dL_law_251 hl (by decide) rfl (fun ls hl => ?_)
          refine lv_aload_n hx hb dL_law_253 rfl (lv_at hl 4 rfl) ?_
          obtain ⟨v19, hv, h⟩ := bq_bind h
          refine bq_callV S hK hz mv_L_94 (c_X7_thrown hv) (kc_X7_thrown hv) dL_law_254 [.int v19] (rest := []) rfl rfl rfl hl.1 (Nat.le_of_ble_eq_true rfl) ⟨Nat.le_of_ble_eq_true rfl, Nat.le_of_ble_eq_true rfl⟩ ⟨by show _ ≤ 601024; omega, by show _ ≤ 7293034; omega⟩ hW (fun H locs hW => ?_)
          refine lv_iload hx hb dL_law_257 (lv_at hl 1 rfl) ?_
          refine lv_icmp_eq (tgt := 264) hx hb dL_law_259 (by decide) (fun hc => ?_) (fun hc => ?_)
          · replace h := bq_ifT hc h
            refine lv_iload hx hb dL_law_264 (lv_at hl 1 rfl) ?_
            refine lv_if_ne (tgt := 288) hx hb dL_law_266 (by decide) (fun hc => ?_) (fun hc => ?_)
            · replace h := bq_ifF hc h
              refine lv_goto (tgt := 1618) hx hb dL_law_288 (by decide) ?_
              obtain ⟨v20, ev20⟩ : ∃ y : Int32, y = y4 + 5 := ⟨_, rfl⟩
              replace h := bq_letE ev20 h
              refine lv_iinc (v := v20) (lv' := [(4, .int v20), (6, .int v18), (5, .int v14.1), (0, .ref b), (1, .ref a1), (2, .ref a2), (3, .ref a3)]) hx hb dL_law_1618 hl (k := 6) rfl (by rw [ev20]; rfl) (by decide) rfl (fun ls hl => ?_)
              refine lv_goto (tgt := 23) hx hb dL_law_1621 (by decide) ?_
              exact ih _ _ _ _ _ _ _ h (by omega) (by omega) hW (lv_sub hl [3, 4, 5, 6, 0] rfl)
            · replace h := bq_ifT hc h
              refine lv_aload_n hx hb dL_law_269 rfl (lv_at hl 5 rfl) ?_
              refine lv_iconst (v := 0) hx hb dL_law_270 (by decide) ?_
              obtain ⟨v21, hv, h⟩ := bq_bind h
              refine bq_lald S hK dL_law_271 hv hW ?_
              refine lv_iload hx hb dL_law_272 (lv_at hl 0 rfl) ?_
              refine lv_if_eq (tgt := 281) hx hb dL_law_274 (by decide) (fun hc => ?_) (fun hc => ?_)
              · replace h := bq_ifT hc h
                refine lv_lconst (v := 0) hx hb dL_law_281 (by decide) ?_
                refine W.lcmp hx hb dL_law_282 ?_
                refine lv_if_eq (tgt := 288) hx hb dL_law_283 (by decide) (fun hc => ?_) (fun hc => ?_)
                · replace h := bq_ifT hc h
                  refine lv_goto (tgt := 1618) hx hb dL_law_288 (by decide) ?_
                  obtain ⟨v22, ev22⟩ : ∃ y : Int32, y = y4 + 5 := ⟨_, rfl⟩
                  replace h := bq_letE ev22 h
                  refine lv_iinc (v := v22) (lv' := [(4, .int v22), (6, .int v18), (5, .int v14.1), (0, .ref b), (1, .ref a1), (2, .ref a2), (3, .ref a3)]) hx hb dL_law_1618 hl (k := 6) rfl (by rw [ev22]; rfl) (by decide) rfl (fun ls hl => ?_)
                  refine lv_goto (tgt := 23) hx hb dL_law_1621 (by decide) ?_
                  exact ih _ _ _ _ _ _ _ h (by omega) (by omega) hW (lv_sub hl [3, 4, 5, 6, 0] rfl)
                · replace h := bq_ifF hc h
                  refine lv_iconst (v := 0) hx hb dL_law_286 (by decide) ?_
                  cases h
              · replace h := bq_ifF hc h
                refine lv_lconst (v := 1) hx hb dL_law_277 (by decide) ?_
                refine lv_goto (tgt := 282) hx hb dL_law_278 (by decide) ?_
                refine W.lcmp hx hb dL_law_282 ?_
                refine lv_if_eq (tgt := 288) hx hb dL_law_283 (by decide) (fun hc => ?_) (fun hc => ?_)
                · replace h := bq_ifT hc h
                  refine lv_goto (tgt := 1618) hx hb dL_law_288 (by decide) ?_
                  obtain ⟨v23, ev23⟩ : ∃ y : Int32, y = y4 + 5 := ⟨_, rfl⟩
                  replace h := bq_letE ev23 h
                  refine lv_iinc (v := v23) (lv' := [(4, .int v23), (6, .int v18), (5, .int v14.1), (0, .ref b), (1, .ref a1), (2, .ref a2), (3, .ref a3)]) hx hb dL_law_1618 hl (k := 6) rfl (by rw [ev23]; rfl) (by decide) rfl (fun ls hl => ?_)
                  refine lv_goto (tgt := 23) hx hb dL_law_1621 (by decide) ?_
                  exact ih _ _ _ _ _ _ _ h (by omega) (by omega) hW (lv_sub hl [3, 4, 5, 6, 0] rfl)
                · replace h := bq_ifF hc h
                  refine lv_iconst (v := 0) hx hb dL_law_286 (by decide) ?_
                  cases h
          · replace h := bq_ifF hc h
            refine lv_iconst (v := 0) hx hb dL_law_262 (by decide) ?_
            cases h
        replace h := bq_ifF hc1 h
        by_cases hc2 : (v1 &&& (31 : Int32)) = 2
        · replace h := bq_ifT hc2 h
          refine lv_tableIn (tgt := 291) (off := 252) hx hb dL_law_39 (by rw [hc2]; decide) (by rw [hc2]; decide) (by rw [hc2]; rfl) (by decide) ?_
          refine lv_aload_n hx hb dL_law_291 rfl (lv_at hl 1 rfl) ?_
          refine lv_aload_n hx hb dL_law_292 rfl (lv_at hl 0 rfl) ?_
          refine lv_iload hx hb dL_law_293 (lv_at hl 4 rfl) ?_
          refine lv_iconst (v := 1) hx hb dL_law_295 (by decide) ?_
          refine lv_iadd hx hb dL_law_296 ?_
          obtain ⟨v24, hv, h⟩ := bq_bind h
          refine bq_sld hx hb hX hbl hbA hW.2.2.2 hv dL_law_297 ?_
          refine lv_aload_n hx hb dL_law_298 rfl (lv_at hl 0 rfl) ?_
          refine lv_iload hx hb dL_law_299 (lv_at hl 4 rfl) ?_
          refine lv_iconst (v := 2) hx hb dL_law_301 (by decide) ?_
          refine lv_iadd hx hb dL_law_302 ?_
          obtain ⟨v25, hv, h⟩ := bq_bind h
          refine bq_sld hx hb hX hbl hbA hW.2.2.2 hv dL_law_303 ?_
          refine lv_aload_n hx hb dL_law_304 rfl (lv_at hl 3 rfl) ?_
          obtain ⟨v26, hv, h⟩ := bq_bind h
          refine bq_callSL (n := 4) S hK hz hT hN (bq_inSW (bq_wi 675 (by decide +kernel) rfl) (bq_wi 676 (by decide +kernel) rfl) (bq_wi 53 (by decide +kernel) rfl) (bq_wi 677 (by decide +kernel) rfl)) (by decide +kernel) (cl_L_remove hfl hv) dL_law_305 [.int v26.1] (rest := []) rfl rfl rfl hl.1 (Nat.le_of_ble_eq_true rfl) ⟨Nat.le_of_ble_eq_true rfl, Nat.le_of_ble_eq_true rfl⟩ ⟨by show _ ≤ 601024; omega, by show _ ≤ 7293034; omega⟩ hW (fun H locs hW => ?_)
          refine lv_istore (lv' := [(5, .int v26.1), (0, .ref b), (1, .ref a1), (2, .ref a2), (3, .ref a3), (4, .int y4)]) hx hb dL_law_308 hl (by decide) rfl (fun ls hl => ?_)
          refine lv_aload_n hx hb dL_law_310 rfl (lv_at hl 3 rfl) ?_
          refine lv_aload_n hx hb dL_law_311 rfl (lv_at hl 1 rfl) ?_
          refine lv_iload hx hb dL_law_312 (lv_at hl 5 rfl) ?_
          refine lv_iconst (v := 1) hx hb dL_law_314 (by decide) ?_
          refine lv_iadd hx hb dL_law_315 ?_
          obtain ⟨v27, hv, h⟩ := bq_bind h
          refine bq_sld hx hb hX hbl hbA hW.2.2.2 hv dL_law_316 ?_
          refine lv_aload_n hx hb dL_law_317 rfl (lv_at hl 1 rfl) ?_
          refine lv_iload hx hb dL_law_318 (lv_at hl 5 rfl) ?_
          refine lv_iconst (v := 2) hx hb dL_law_320 (by decide) ?_
          refine lv_iadd hx hb dL_law_321 ?_
          obtain ⟨v28, hv, h⟩ := bq_bind h
          refine bq_sld hx hb hX hbl hbA hW.2.2.2 hv dL_law_322 ?_
          obtain ⟨v29, hv, h⟩ := bq_bind h
          refine bq_callV S hK hz mv_L_102 (c_X7_remove hv) (kc_X7_remove hv) dL_law_323 [.int (bq_b v29.1)] (rest := []) rfl rfl rfl hl.1 (Nat.le_of_ble_eq_true rfl) ⟨Nat.le_of_ble_eq_true rfl, Nat.le_of_ble_eq_true rfl⟩ ⟨by show _ ≤ 601024; omega, by show _ ≤ 7293034; omega⟩ hW (fun H locs hW => ?_)
          refine lv_topi (fun v30 ev30 => ?_)
          replace h := bq_letE ev30 h
          refine lv_istore (lv' := [(6, .int v30), (5, .int v26.1), (0, .ref b), (1, .ref a1), (2, .ref a2), (3, .ref a3), (4, .int y4)]) hx hb dL_law_326 hl (by decide) rfl (fun ls hl => ?_)
          refine lv_aload_n hx hb dL_law_328 rfl (lv_at hl 4 rfl) ?_
          obtain ⟨v31, hv, h⟩ := bq_bind h
          refine bq_callV S hK hz mv_L_94 (c_X7_thrown hv) (kc_X7_thrown hv) dL_law_329 [.int v31] (rest := []) rfl rfl rfl hl.1 (Nat.le_of_ble_eq_true rfl) ⟨Nat.le_of_ble_eq_true rfl, Nat.le_of_ble_eq_true rfl⟩ ⟨by show _ ≤ 601024; omega, by show _ ≤ 7293034; omega⟩ hW (fun H locs hW => ?_)
          refine lv_iload hx hb dL_law_332 (lv_at hl 1 rfl) ?_
          refine lv_icmp_eq (tgt := 339) hx hb dL_law_334 (by decide) (fun hc => ?_) (fun hc => ?_)
          · replace h := bq_ifT hc h
            refine lv_iload hx hb dL_law_339 (lv_at hl 1 rfl) ?_
            refine lv_if_ne (tgt := 363) hx hb dL_law_341 (by decide) (fun hc => ?_) (fun hc => ?_)
            · replace h := bq_ifF hc h
              refine lv_goto (tgt := 1618) hx hb dL_law_363 (by decide) ?_
              obtain ⟨v32, ev32⟩ : ∃ y : Int32, y = y4 + 5 := ⟨_, rfl⟩
              replace h := bq_letE ev32 h
              refine lv_iinc (v := v32) (lv' := [(4, .int v32), (6, .int v30), (5, .int v26.1), (0, .ref b), (1, .ref a1), (2, .ref a2), (3, .ref a3)]) hx hb dL_law_1618 hl (k := 6) rfl (by rw [ev32]; rfl) (by decide) rfl (fun ls hl => ?_)
              refine lv_goto (tgt := 23) hx hb dL_law_1621 (by decide) ?_
              exact ih _ _ _ _ _ _ _ h (by omega) (by omega) hW (lv_sub hl [3, 4, 5, 6, 0] rfl)
            · replace h := bq_ifT hc h
              refine lv_aload_n hx hb dL_law_344 rfl (lv_at hl 5 rfl) ?_
              refine lv_iconst (v := 0) hx hb dL_law_345 (by decide) ?_
              obtain ⟨v33, hv, h⟩ := bq_bind h
              refine bq_lald S hK dL_law_346 hv hW ?_
              refine lv_iload hx hb dL_law_347 (lv_at hl 0 rfl) ?_
              refine lv_if_eq (tgt := 356) hx hb dL_law_349 (by decide) (fun hc => ?_) (fun hc => ?_)
              · replace h := bq_ifT hc h
                refine lv_lconst (v := 0) hx hb dL_law_356 (by decide) ?_
                refine W.lcmp hx hb dL_law_357 ?_
                refine lv_if_eq (tgt := 363) hx hb dL_law_358 (by decide) (fun hc => ?_) (fun hc => ?_)
                · replace h := bq_ifT hc h
                  refine lv_goto (tgt := 1618) hx hb dL_law_363 (by decide) ?_
                  obtain ⟨v34, ev34⟩ : ∃ y : Int32, y = y4 + 5 := ⟨_, rfl⟩
                  replace h := bq_letE ev34 h
                  refine lv_iinc (v := v34) (lv' := [(4, .int v34), (6, .int v30), (5, .int v26.1), (0, .ref b), (1, .ref a1), (2, .ref a2), (3, .ref a3)]) hx hb dL_law_1618 hl (k := 6) rfl (by rw [ev34]; rfl) (by decide) rfl (fun ls hl => ?_)
                  refine lv_goto (tgt := 23) hx hb dL_law_1621 (by decide) ?_
                  exact ih _ _ _ _ _ _ _ h (by omega) (by omega) hW (lv_sub hl [3, 4, 5, 6, 0] rfl)
                · replace h := bq_ifF hc h
                  refine lv_iconst (v := 0) hx hb dL_law_361 (by decide) ?_
                  cases h
              · replace h := bq_ifF hc h
                refine lv_lconst (v := 1) hx hb dL_law_352 (by decide) ?_
                refine lv_goto (tgt := 357) hx hb dL_law_353 (by decide) ?_
                refine W.lcmp hx hb dL_law_357 ?_
                refine lv_if_eq (tgt := 363) hx hb dL_law_358 (by decide) (fun hc => ?_) (fun hc => ?_)
                · replace h := bq_ifT hc h
                  refine lv_goto (tgt := 1618) hx hb dL_law_363 (by decide) ?_
                  obtain ⟨v35, ev35⟩ : ∃ y : Int32, y = y4 + 5 := ⟨_, rfl⟩
                  replace h := bq_letE ev35 h
                  refine lv_iinc (v := v35) (lv' := [(4, .int v35), (6, .int v30), (5, .int v26.1), (0, .ref b), (1, .ref a1), (2, .ref a2), (3, .ref a3)]) hx hb dL_law_1618 hl (k := 6) rfl (by rw [ev35]; rfl) (by decide) rfl (fun ls hl => ?_)
                  refine lv_goto (tgt := 23) hx hb dL_law_1621 (by decide) ?_
                  exact ih _ _ _ _ _ _ _ h (by omega) (by omega) hW (lv_sub hl [3, 4, 5, 6, 0] rfl)
                · replace h := bq_ifF hc h
                  refine lv_iconst (v := 0) hx hb dL_law_361 (by decide) ?_
                  cases h
          · replace h := bq_ifF hc h
            refine lv_iconst (v := 0) hx hb dL_law_337 (by decide) ?_
            cases h
        replace h := bq_ifF hc2 h
        by_cases hc3 : (v1 &&& (31 : Int32)) = 3
        · replace h := bq_ifT hc3 h
          refine lv_tableIn (tgt := 366) (off := 327) hx hb dL_law_39 (by rw [hc3]; decide) (by rw [hc3]; decide) (by rw [hc3]; rfl) (by decide) ?_
          refine lv_aload_n hx hb dL_law_366 rfl (lv_at hl 1 rfl) ?_
          refine lv_aload_n hx hb dL_law_367 rfl (lv_at hl 0 rfl) ?_
          refine lv_iload hx hb dL_law_368 (lv_at hl 4 rfl) ?_
          refine lv_iconst (v := 1) hx hb dL_law_370 (by decide) ?_
          refine lv_iadd hx hb dL_law_371 ?_
          obtain ⟨v36, hv, h⟩ := bq_bind h
          refine bq_sld hx hb hX hbl hbA hW.2.2.2 hv dL_law_372 ?_
          refine lv_aload_n hx hb dL_law_373 rfl (lv_at hl 0 rfl) ?_
          refine lv_iload hx hb dL_law_374 (lv_at hl 4 rfl) ?_
          refine lv_iconst (v := 2) hx hb dL_law_376 (by decide) ?_
          refine lv_iadd hx hb dL_law_377 ?_
          obtain ⟨v37, hv, h⟩ := bq_bind h
          refine bq_sld hx hb hX hbl hbA hW.2.2.2 hv dL_law_378 ?_
          refine lv_aload_n hx hb dL_law_379 rfl (lv_at hl 0 rfl) ?_
          refine lv_iload hx hb dL_law_380 (lv_at hl 4 rfl) ?_
          refine lv_iconst (v := 3) hx hb dL_law_382 (by decide) ?_
          refine lv_iadd hx hb dL_law_383 ?_
          obtain ⟨v38, hv, h⟩ := bq_bind h
          refine bq_sld hx hb hX hbl hbA hW.2.2.2 hv dL_law_384 ?_
          refine lv_aload_n hx hb dL_law_385 rfl (lv_at hl 0 rfl) ?_
          refine lv_iload hx hb dL_law_386 (lv_at hl 4 rfl) ?_
          refine lv_iconst (v := 4) hx hb dL_law_388 (by decide) ?_
          refine lv_iadd hx hb dL_law_389 ?_
          obtain ⟨v39, hv, h⟩ := bq_bind h
          refine bq_sld hx hb hX hbl hbA hW.2.2.2 hv dL_law_390 ?_
          refine lv_aload_n hx hb dL_law_391 rfl (lv_at hl 3 rfl) ?_
          obtain ⟨v40, hv, h⟩ := bq_bind h
          refine bq_callSL (n := 6) S hK hz hT hN (bq_inSW (bq_wi 694 (by decide +kernel) rfl) (bq_wi 695 (by decide +kernel) rfl) (bq_wi 53 (by decide +kernel) rfl) (bq_wi 696 (by decide +kernel) rfl)) (by decide +kernel) (cl_L_addSeries hfl hv) dL_law_392 [.int v40.1] (rest := []) rfl rfl rfl hl.1 (Nat.le_of_ble_eq_true rfl) ⟨Nat.le_of_ble_eq_true rfl, Nat.le_of_ble_eq_true rfl⟩ ⟨by show _ ≤ 601024; omega, by show _ ≤ 7293034; omega⟩ hW (fun H locs hW => ?_)
          refine lv_istore (lv' := [(5, .int v40.1), (0, .ref b), (1, .ref a1), (2, .ref a2), (3, .ref a3), (4, .int y4)]) hx hb dL_law_395 hl (by decide) rfl (fun ls hl => ?_)
          refine lv_aload_n hx hb dL_law_397 rfl (lv_at hl 3 rfl) ?_
          refine lv_aload_n hx hb dL_law_398 rfl (lv_at hl 1 rfl) ?_
          refine lv_iload hx hb dL_law_399 (lv_at hl 5 rfl) ?_
          refine lv_iconst (v := 1) hx hb dL_law_401 (by decide) ?_
          refine lv_iadd hx hb dL_law_402 ?_
          obtain ⟨v41, hv, h⟩ := bq_bind h
          refine bq_sld hx hb hX hbl hbA hW.2.2.2 hv dL_law_403 ?_
          refine lv_aload_n hx hb dL_law_404 rfl (lv_at hl 1 rfl) ?_
          refine lv_iload hx hb dL_law_405 (lv_at hl 5 rfl) ?_
          refine lv_iconst (v := 2) hx hb dL_law_407 (by decide) ?_
          refine lv_iadd hx hb dL_law_408 ?_
          obtain ⟨v42, hv, h⟩ := bq_bind h
          refine bq_sld hx hb hX hbl hbA hW.2.2.2 hv dL_law_409 ?_
          refine lv_aload_n hx hb dL_law_410 rfl (lv_at hl 1 rfl) ?_
          refine lv_iload hx hb dL_law_411 (lv_at hl 5 rfl) ?_
          refine lv_iconst (v := 3) hx hb dL_law_413 (by decide) ?_
          refine lv_iadd hx hb dL_law_414 ?_
          obtain ⟨v43, hv, h⟩ := bq_bind h
          refine bq_sld hx hb hX hbl hbA hW.2.2.2 hv dL_law_415 ?_
          refine lv_aload_n hx hb dL_law_416 rfl (lv_at hl 1 rfl) ?_
          refine lv_iload hx hb dL_law_417 (lv_at hl 5 rfl) ?_
          refine lv_iconst (v := 4) hx hb dL_law_419 (by decide) ?_
          refine lv_iadd hx hb dL_law_420 ?_
          obtain ⟨v44, hv, h⟩ := bq_bind h
          refine bq_sld hx hb hX hbl hbA hW.2.2.2 hv dL_law_421 ?_
          obtain ⟨v45, hv, h⟩ := bq_bind h
          refine bq_callV S hK hz mv_L_106 (c_X7_addSeries hv) (kc_X7_addSeries hv) dL_law_422 [.int v45.1] (rest := []) rfl rfl rfl hl.1 (Nat.le_of_ble_eq_true rfl) ⟨Nat.le_of_ble_eq_true rfl, Nat.le_of_ble_eq_true rfl⟩ ⟨by show _ ≤ 601024; omega, by show _ ≤ 7293034; omega⟩ hW (fun H locs hW => ?_)
          refine lv_istore (lv' := [(6, .int v45.1), (5, .int v40.1), (0, .ref b), (1, .ref a1), (2, .ref a2), (3, .ref a3), (4, .int y4)]) hx hb dL_law_425 hl (by decide) rfl (fun ls hl => ?_)
          refine lv_aload_n hx hb dL_law_427 rfl (lv_at hl 4 rfl) ?_
          obtain ⟨v46, hv, h⟩ := bq_bind h
          refine bq_callV S hK hz mv_L_94 (c_X7_thrown hv) (kc_X7_thrown hv) dL_law_428 [.int v46] (rest := []) rfl rfl rfl hl.1 (Nat.le_of_ble_eq_true rfl) ⟨Nat.le_of_ble_eq_true rfl, Nat.le_of_ble_eq_true rfl⟩ ⟨by show _ ≤ 601024; omega, by show _ ≤ 7293034; omega⟩ hW (fun H locs hW => ?_)
          refine lv_iload hx hb dL_law_431 (lv_at hl 1 rfl) ?_
          refine lv_icmp_eq (tgt := 438) hx hb dL_law_433 (by decide) (fun hc => ?_) (fun hc => ?_)
          · replace h := bq_ifT hc h
            refine lv_iload hx hb dL_law_438 (lv_at hl 1 rfl) ?_
            refine lv_if_ne (tgt := 455) hx hb dL_law_440 (by decide) (fun hc => ?_) (fun hc => ?_)
            · replace h := bq_ifF hc h
              refine lv_goto (tgt := 1618) hx hb dL_law_455 (by decide) ?_
              obtain ⟨v47, ev47⟩ : ∃ y : Int32, y = y4 + 5 := ⟨_, rfl⟩
              replace h := bq_letE ev47 h
              refine lv_iinc (v := v47) (lv' := [(4, .int v47), (6, .int v45.1), (5, .int v40.1), (0, .ref b), (1, .ref a1), (2, .ref a2), (3, .ref a3)]) hx hb dL_law_1618 hl (k := 6) rfl (by rw [ev47]; rfl) (by decide) rfl (fun ls hl => ?_)
              refine lv_goto (tgt := 23) hx hb dL_law_1621 (by decide) ?_
              exact ih _ _ _ _ _ _ _ h (by omega) (by omega) hW (lv_sub hl [3, 4, 5, 6, 0] rfl)
            · replace h := bq_ifT hc h
              refine lv_aload_n hx hb dL_law_443 rfl (lv_at hl 5 rfl) ?_
              refine lv_iconst (v := 0) hx hb dL_law_444 (by decide) ?_
              obtain ⟨v48, hv, h⟩ := bq_bind h
              refine bq_lald S hK dL_law_445 hv hW ?_
              refine lv_iload hx hb dL_law_446 (lv_at hl 0 rfl) ?_
              refine lv_i2l (v := Int32.toInt64 v45.1) hx hb dL_law_448 rfl ?_
              refine W.lcmp hx hb dL_law_449 ?_
              refine lv_if_eq (tgt := 455) hx hb dL_law_450 (by decide) (fun hc => ?_) (fun hc => ?_)
              · replace h := bq_ifT hc h
                refine lv_goto (tgt := 1618) hx hb dL_law_455 (by decide) ?_
                obtain ⟨v49, ev49⟩ : ∃ y : Int32, y = y4 + 5 := ⟨_, rfl⟩
                replace h := bq_letE ev49 h
                refine lv_iinc (v := v49) (lv' := [(4, .int v49), (6, .int v45.1), (5, .int v40.1), (0, .ref b), (1, .ref a1), (2, .ref a2), (3, .ref a3)]) hx hb dL_law_1618 hl (k := 6) rfl (by rw [ev49]; rfl) (by decide) rfl (fun ls hl => ?_)
                refine lv_goto (tgt := 23) hx hb dL_law_1621 (by decide) ?_
                exact ih _ _ _ _ _ _ _ h (by omega) (by omega) hW (lv_sub hl [3, 4, 5, 6, 0] rfl)
              · replace h := bq_ifF hc h
                refine lv_iconst (v := 0) hx hb dL_law_453 (by decide) ?_
                cases h
          · replace h := bq_ifF hc h
            refine lv_iconst (v := 0) hx hb dL_law_436 (by decide) ?_
            cases h
        replace h := bq_ifF hc3 h
        by_cases hc4 : (v1 &&& (31 : Int32)) = 4
        · replace h := bq_ifT hc4 h
          refine lv_tableIn (tgt := 458) (off := 419) hx hb dL_law_39 (by rw [hc4]; decide) (by rw [hc4]; decide) (by rw [hc4]; rfl) (by decide) ?_
          refine lv_aload_n hx hb dL_law_458 rfl (lv_at hl 1 rfl) ?_
          refine lv_aload_n hx hb dL_law_459 rfl (lv_at hl 0 rfl) ?_
          refine lv_iload hx hb dL_law_460 (lv_at hl 4 rfl) ?_
          refine lv_iconst (v := 1) hx hb dL_law_462 (by decide) ?_
          refine lv_iadd hx hb dL_law_463 ?_
          obtain ⟨v50, hv, h⟩ := bq_bind h
          refine bq_sld hx hb hX hbl hbA hW.2.2.2 hv dL_law_464 ?_
          refine lv_aload_n hx hb dL_law_465 rfl (lv_at hl 0 rfl) ?_
          refine lv_iload hx hb dL_law_466 (lv_at hl 4 rfl) ?_
          refine lv_iconst (v := 2) hx hb dL_law_468 (by decide) ?_
          refine lv_iadd hx hb dL_law_469 ?_
          obtain ⟨v51, hv, h⟩ := bq_bind h
          refine bq_sld hx hb hX hbl hbA hW.2.2.2 hv dL_law_470 ?_
          refine lv_aload_n hx hb dL_law_471 rfl (lv_at hl 3 rfl) ?_
          obtain ⟨v52, hv, h⟩ := bq_bind h
          refine bq_callSL (n := 4) S hK hz hT hN (bq_inSW (bq_wi 701 (by decide +kernel) rfl) (bq_wi 702 (by decide +kernel) rfl) (bq_wi 53 (by decide +kernel) rfl) (bq_wi 703 (by decide +kernel) rfl)) (by decide +kernel) (cl_L_setSizes hfl hv) dL_law_472 [.int v52.1] (rest := []) rfl rfl rfl hl.1 (Nat.le_of_ble_eq_true rfl) ⟨Nat.le_of_ble_eq_true rfl, Nat.le_of_ble_eq_true rfl⟩ ⟨by show _ ≤ 601024; omega, by show _ ≤ 7293034; omega⟩ hW (fun H locs hW => ?_)
          refine lv_istore (lv' := [(5, .int v52.1), (0, .ref b), (1, .ref a1), (2, .ref a2), (3, .ref a3), (4, .int y4)]) hx hb dL_law_475 hl (by decide) rfl (fun ls hl => ?_)
          refine lv_aload_n hx hb dL_law_477 rfl (lv_at hl 3 rfl) ?_
          refine lv_aload_n hx hb dL_law_478 rfl (lv_at hl 1 rfl) ?_
          refine lv_iload hx hb dL_law_479 (lv_at hl 5 rfl) ?_
          refine lv_iconst (v := 1) hx hb dL_law_481 (by decide) ?_
          refine lv_iadd hx hb dL_law_482 ?_
          obtain ⟨v53, hv, h⟩ := bq_bind h
          refine bq_sld hx hb hX hbl hbA hW.2.2.2 hv dL_law_483 ?_
          refine lv_aload_n hx hb dL_law_484 rfl (lv_at hl 1 rfl) ?_
          refine lv_iload hx hb dL_law_485 (lv_at hl 5 rfl) ?_
          refine lv_iconst (v := 2) hx hb dL_law_487 (by decide) ?_
          refine lv_iadd hx hb dL_law_488 ?_
          obtain ⟨v54, hv, h⟩ := bq_bind h
          refine bq_sld hx hb hX hbl hbA hW.2.2.2 hv dL_law_489 ?_
          obtain ⟨v55, hv, h⟩ := bq_bind h
          refine bq_callV S hK hz mv_L_109 (c_X7_setSizes hv) (kc_X7_setSizes hv) dL_law_490 [.int v55.1] (rest := []) rfl rfl rfl hl.1 (Nat.le_of_ble_eq_true rfl) ⟨Nat.le_of_ble_eq_true rfl, Nat.le_of_ble_eq_true rfl⟩ ⟨by show _ ≤ 601024; omega, by show _ ≤ 7293034; omega⟩ hW (fun H locs hW => ?_)
          refine lv_istore (lv' := [(6, .int v55.1), (5, .int v52.1), (0, .ref b), (1, .ref a1), (2, .ref a2), (3, .ref a3), (4, .int y4)]) hx hb dL_law_493 hl (by decide) rfl (fun ls hl => ?_)
          refine lv_aload_n hx hb dL_law_495 rfl (lv_at hl 4 rfl) ?_
          obtain ⟨v56, hv, h⟩ := bq_bind h
          refine bq_callV S hK hz mv_L_94 (c_X7_thrown hv) (kc_X7_thrown hv) dL_law_496 [.int v56] (rest := []) rfl rfl rfl hl.1 (Nat.le_of_ble_eq_true rfl) ⟨Nat.le_of_ble_eq_true rfl, Nat.le_of_ble_eq_true rfl⟩ ⟨by show _ ≤ 601024; omega, by show _ ≤ 7293034; omega⟩ hW (fun H locs hW => ?_)
          refine lv_iload hx hb dL_law_499 (lv_at hl 1 rfl) ?_
          refine lv_icmp_eq (tgt := 506) hx hb dL_law_501 (by decide) (fun hc => ?_) (fun hc => ?_)
          · replace h := bq_ifT hc h
            refine lv_iload hx hb dL_law_506 (lv_at hl 1 rfl) ?_
            refine lv_if_ne (tgt := 523) hx hb dL_law_508 (by decide) (fun hc => ?_) (fun hc => ?_)
            · replace h := bq_ifF hc h
              refine lv_goto (tgt := 1618) hx hb dL_law_523 (by decide) ?_
              obtain ⟨v57, ev57⟩ : ∃ y : Int32, y = y4 + 5 := ⟨_, rfl⟩
              replace h := bq_letE ev57 h
              refine lv_iinc (v := v57) (lv' := [(4, .int v57), (6, .int v55.1), (5, .int v52.1), (0, .ref b), (1, .ref a1), (2, .ref a2), (3, .ref a3)]) hx hb dL_law_1618 hl (k := 6) rfl (by rw [ev57]; rfl) (by decide) rfl (fun ls hl => ?_)
              refine lv_goto (tgt := 23) hx hb dL_law_1621 (by decide) ?_
              exact ih _ _ _ _ _ _ _ h (by omega) (by omega) hW (lv_sub hl [3, 4, 5, 6, 0] rfl)
            · replace h := bq_ifT hc h
              refine lv_aload_n hx hb dL_law_511 rfl (lv_at hl 5 rfl) ?_
              refine lv_iconst (v := 0) hx hb dL_law_512 (by decide) ?_
              obtain ⟨v58, hv, h⟩ := bq_bind h
              refine bq_lald S hK dL_law_513 hv hW ?_
              refine lv_iload hx hb dL_law_514 (lv_at hl 0 rfl) ?_
              refine lv_i2l (v := Int32.toInt64 v55.1) hx hb dL_law_516 rfl ?_
              refine W.lcmp hx hb dL_law_517 ?_
              refine lv_if_eq (tgt := 523) hx hb dL_law_518 (by decide) (fun hc => ?_) (fun hc => ?_)
              · replace h := bq_ifT hc h
                refine lv_goto (tgt := 1618) hx hb dL_law_523 (by decide) ?_
                obtain ⟨v59, ev59⟩ : ∃ y : Int32, y = y4 + 5 := ⟨_, rfl⟩
                replace h := bq_letE ev59 h
                refine lv_iinc (v := v59) (lv' := [(4, .int v59), (6, .int v55.1), (5, .int v52.1), (0, .ref b), (1, .ref a1), (2, .ref a2), (3, .ref a3)]) hx hb dL_law_1618 hl (k := 6) rfl (by rw [ev59]; rfl) (by decide) rfl (fun ls hl => ?_)
                refine lv_goto (tgt := 23) hx hb dL_law_1621 (by decide) ?_
                exact ih _ _ _ _ _ _ _ h (by omega) (by omega) hW (lv_sub hl [3, 4, 5, 6, 0] rfl)
              · replace h := bq_ifF hc h
                refine lv_iconst (v := 0) hx hb dL_law_521 (by decide) ?_
                cases h
          · replace h := bq_ifF hc h
            refine lv_iconst (v := 0) hx hb dL_law_504 (by decide) ?_
            cases h
        replace h := bq_ifF hc4 h
        by_cases hc5 : (v1 &&& (31 : Int32)) = 5
        · replace h := bq_ifT hc5 h
          refine lv_tableIn (tgt := 526) (off := 487) hx hb dL_law_39 (by rw [hc5]; decide) (by rw [hc5]; decide) (by rw [hc5]; rfl) (by decide) ?_
          refine lv_aload_n hx hb dL_law_526 rfl (lv_at hl 1 rfl) ?_
          refine lv_aload_n hx hb dL_law_527 rfl (lv_at hl 0 rfl) ?_
          refine lv_iload hx hb dL_law_528 (lv_at hl 4 rfl) ?_
          refine lv_iconst (v := 1) hx hb dL_law_530 (by decide) ?_
          refine lv_iadd hx hb dL_law_531 ?_
          obtain ⟨v60, hv, h⟩ := bq_bind h
          refine bq_sld hx hb hX hbl hbA hW.2.2.2 hv dL_law_532 ?_
          refine lv_aload_n hx hb dL_law_533 rfl (lv_at hl 3 rfl) ?_
          obtain ⟨v61, hv, h⟩ := bq_bind h
          refine bq_callSL (n := 3) S hK hz hT hN (bq_inSW (bq_wi 708 (by decide +kernel) rfl) (bq_wi 709 (by decide +kernel) rfl) (bq_wi 53 (by decide +kernel) rfl) (bq_wi 710 (by decide +kernel) rfl)) (by decide +kernel) (cl_L_rebuild hfl hv) dL_law_534 [.int v61.1] (rest := []) rfl rfl rfl hl.1 (Nat.le_of_ble_eq_true rfl) ⟨Nat.le_of_ble_eq_true rfl, Nat.le_of_ble_eq_true rfl⟩ ⟨by show _ ≤ 601024; omega, by show _ ≤ 7293034; omega⟩ hW (fun H locs hW => ?_)
          refine lv_istore (lv' := [(5, .int v61.1), (0, .ref b), (1, .ref a1), (2, .ref a2), (3, .ref a3), (4, .int y4)]) hx hb dL_law_537 hl (by decide) rfl (fun ls hl => ?_)
          refine lv_aload_n hx hb dL_law_539 rfl (lv_at hl 3 rfl) ?_
          refine lv_aload_n hx hb dL_law_540 rfl (lv_at hl 1 rfl) ?_
          refine lv_iload hx hb dL_law_541 (lv_at hl 5 rfl) ?_
          refine lv_iconst (v := 1) hx hb dL_law_543 (by decide) ?_
          refine lv_iadd hx hb dL_law_544 ?_
          obtain ⟨v62, hv, h⟩ := bq_bind h
          refine bq_sld hx hb hX hbl hbA hW.2.2.2 hv dL_law_545 ?_
          obtain ⟨v63, hv, h⟩ := bq_bind h
          refine bq_callV S hK hz mv_L_113 (c_X7_rebuild hv) (kc_X7_rebuild hv) dL_law_546 [.int v63.1] (rest := []) rfl rfl rfl hl.1 (Nat.le_of_ble_eq_true rfl) ⟨Nat.le_of_ble_eq_true rfl, Nat.le_of_ble_eq_true rfl⟩ ⟨by show _ ≤ 601024; omega, by show _ ≤ 7293034; omega⟩ hW (fun H locs hW => ?_)
          refine lv_istore (lv' := [(6, .int v63.1), (5, .int v61.1), (0, .ref b), (1, .ref a1), (2, .ref a2), (3, .ref a3), (4, .int y4)]) hx hb dL_law_549 hl (by decide) rfl (fun ls hl => ?_)
          refine lv_aload_n hx hb dL_law_551 rfl (lv_at hl 4 rfl) ?_
          obtain ⟨v64, hv, h⟩ := bq_bind h
          refine bq_callV S hK hz mv_L_94 (c_X7_thrown hv) (kc_X7_thrown hv) dL_law_552 [.int v64] (rest := []) rfl rfl rfl hl.1 (Nat.le_of_ble_eq_true rfl) ⟨Nat.le_of_ble_eq_true rfl, Nat.le_of_ble_eq_true rfl⟩ ⟨by show _ ≤ 601024; omega, by show _ ≤ 7293034; omega⟩ hW (fun H locs hW => ?_)
          refine lv_iload hx hb dL_law_555 (lv_at hl 1 rfl) ?_
          refine lv_icmp_eq (tgt := 562) hx hb dL_law_557 (by decide) (fun hc => ?_) (fun hc => ?_)
          · replace h := bq_ifT hc h
            refine lv_iload hx hb dL_law_562 (lv_at hl 1 rfl) ?_
            refine lv_if_ne (tgt := 579) hx hb dL_law_564 (by decide) (fun hc => ?_) (fun hc => ?_)
            · replace h := bq_ifF hc h
              refine lv_goto (tgt := 1618) hx hb dL_law_579 (by decide) ?_
              obtain ⟨v65, ev65⟩ : ∃ y : Int32, y = y4 + 5 := ⟨_, rfl⟩
              replace h := bq_letE ev65 h
              refine lv_iinc (v := v65) (lv' := [(4, .int v65), (6, .int v63.1), (5, .int v61.1), (0, .ref b), (1, .ref a1), (2, .ref a2), (3, .ref a3)]) hx hb dL_law_1618 hl (k := 6) rfl (by rw [ev65]; rfl) (by decide) rfl (fun ls hl => ?_)
              refine lv_goto (tgt := 23) hx hb dL_law_1621 (by decide) ?_
              exact ih _ _ _ _ _ _ _ h (by omega) (by omega) hW (lv_sub hl [3, 4, 5, 6, 0] rfl)
            · replace h := bq_ifT hc h
              refine lv_aload_n hx hb dL_law_567 rfl (lv_at hl 5 rfl) ?_
              refine lv_iconst (v := 0) hx hb dL_law_568 (by decide) ?_
              obtain ⟨v66, hv, h⟩ := bq_bind h
              refine bq_lald S hK dL_law_569 hv hW ?_
              refine lv_iload hx hb dL_law_570 (lv_at hl 0 rfl) ?_
              refine lv_i2l (v := Int32.toInt64 v63.1) hx hb dL_law_572 rfl ?_
              refine W.lcmp hx hb dL_law_573 ?_
              refine lv_if_eq (tgt := 579) hx hb dL_law_574 (by decide) (fun hc => ?_) (fun hc => ?_)
              · replace h := bq_ifT hc h
                refine lv_goto (tgt := 1618) hx hb dL_law_579 (by decide) ?_
                obtain ⟨v67, ev67⟩ : ∃ y : Int32, y = y4 + 5 := ⟨_, rfl⟩
                replace h := bq_letE ev67 h
                refine lv_iinc (v := v67) (lv' := [(4, .int v67), (6, .int v63.1), (5, .int v61.1), (0, .ref b), (1, .ref a1), (2, .ref a2), (3, .ref a3)]) hx hb dL_law_1618 hl (k := 6) rfl (by rw [ev67]; rfl) (by decide) rfl (fun ls hl => ?_)
                refine lv_goto (tgt := 23) hx hb dL_law_1621 (by decide) ?_
                exact ih _ _ _ _ _ _ _ h (by omega) (by omega) hW (lv_sub hl [3, 4, 5, 6, 0] rfl)
              · replace h := bq_ifF hc h
                refine lv_iconst (v := 0) hx hb dL_law_577 (by decide) ?_
                cases h
          · replace h := bq_ifF hc h
            refine lv_iconst (v := 0) hx hb dL_law_560 (by decide) ?_
            cases h
        replace h := bq_ifF hc5 h
        by_cases hc6 : (v1 &&& (31 : Int32)) = 6
        · replace h := bq_ifT hc6 h
          refine lv_tableIn (tgt := 582) (off := 543) hx hb dL_law_39 (by rw [hc6]; decide) (by rw [hc6]; decide) (by rw [hc6]; rfl) (by decide) ?_
          refine lv_aload_n hx hb dL_law_582 rfl (lv_at hl 1 rfl) ?_
          obtain ⟨v68, hv, h⟩ := bq_bind h
          refine bq_callV S hK hz mv_L_114 (c_X6_rebuildAll hv) (kc_X6_rebuildAll hv) dL_law_583 [.int v68.1] (rest := []) rfl rfl rfl hl.1 (Nat.le_of_ble_eq_true rfl) ⟨Nat.le_of_ble_eq_true rfl, Nat.le_of_ble_eq_true rfl⟩ ⟨by show _ ≤ 601024; omega, by show _ ≤ 7293034; omega⟩ hW (fun H locs hW => ?_)
          refine lv_aload_n hx hb dL_law_586 rfl (lv_at hl 2 rfl) ?_
          obtain ⟨v69, hv, h⟩ := bq_bind h
          refine bq_callV S hK hz mv_L_117 (c_X7_rebuildAll hv) (kc_X7_rebuildAll hv) dL_law_587 [.int v69.1, .int v68.1] (rest := [.int v68.1]) rfl rfl rfl hl.1 (Nat.le_of_ble_eq_true rfl) ⟨Nat.le_of_ble_eq_true rfl, Nat.le_of_ble_eq_true rfl⟩ ⟨by show _ ≤ 601024; omega, by show _ ≤ 7293034; omega⟩ hW (fun H locs hW => ?_)
          refine lv_icmp_eq (tgt := 1618) hx hb dL_law_590 (by decide) (fun hc => ?_) (fun hc => ?_)
          · replace h := bq_ifT hc h
            obtain ⟨v70, ev70⟩ : ∃ y : Int32, y = y4 + 5 := ⟨_, rfl⟩
            replace h := bq_letE ev70 h
            refine lv_iinc (v := v70) (lv' := [(4, .int v70), (0, .ref b), (1, .ref a1), (2, .ref a2), (3, .ref a3)]) hx hb dL_law_1618 hl (k := 4) rfl (by rw [ev70]; rfl) (by decide) rfl (fun ls hl => ?_)
            refine lv_goto (tgt := 23) hx hb dL_law_1621 (by decide) ?_
            exact ih _ _ _ _ _ _ _ h (by omega) (by omega) hW (lv_sub hl [1, 2, 3, 4, 0] rfl)
          · replace h := bq_ifF hc h
            refine lv_iconst (v := 0) hx hb dL_law_593 (by decide) ?_
            cases h
        replace h := bq_ifF hc6 h
        by_cases hc7 : (v1 &&& (31 : Int32)) = 7
        · replace h := bq_ifT hc7 h
          refine lv_tableIn (tgt := 595) (off := 556) hx hb dL_law_39 (by rw [hc7]; decide) (by rw [hc7]; decide) (by rw [hc7]; rfl) (by decide) ?_
          refine lv_aload_n hx hb dL_law_595 rfl (lv_at hl 1 rfl) ?_
          refine lv_aload_n hx hb dL_law_596 rfl (lv_at hl 0 rfl) ?_
          refine lv_iload hx hb dL_law_597 (lv_at hl 4 rfl) ?_
          refine lv_iconst (v := 1) hx hb dL_law_599 (by decide) ?_
          refine lv_iadd hx hb dL_law_600 ?_
          obtain ⟨v71, hv, h⟩ := bq_bind h
          refine bq_sld hx hb hX hbl hbA hW.2.2.2 hv dL_law_601 ?_
          refine lv_aload_n hx hb dL_law_602 rfl (lv_at hl 0 rfl) ?_
          refine lv_iload hx hb dL_law_603 (lv_at hl 4 rfl) ?_
          refine lv_iconst (v := 2) hx hb dL_law_605 (by decide) ?_
          refine lv_iadd hx hb dL_law_606 ?_
          obtain ⟨v72, hv, h⟩ := bq_bind h
          refine bq_sld hx hb hX hbl hbA hW.2.2.2 hv dL_law_607 ?_
          refine lv_aload_n hx hb dL_law_608 rfl (lv_at hl 3 rfl) ?_
          obtain ⟨v73, hv, h⟩ := bq_bind h
          refine bq_callSL (n := 4) S hK hz hT hN (bq_inSW (bq_wi 716 (by decide +kernel) rfl) (bq_wi 717 (by decide +kernel) rfl) (bq_wi 53 (by decide +kernel) rfl) (bq_wi 718 (by decide +kernel) rfl)) (by decide +kernel) (cl_L_search hfl hv) dL_law_609 [.int v73.1] (rest := []) rfl rfl rfl hl.1 (Nat.le_of_ble_eq_true rfl) ⟨Nat.le_of_ble_eq_true rfl, Nat.le_of_ble_eq_true rfl⟩ ⟨by show _ ≤ 601024; omega, by show _ ≤ 7293034; omega⟩ hW (fun H locs hW => ?_)
          refine lv_istore (lv' := [(5, .int v73.1), (0, .ref b), (1, .ref a1), (2, .ref a2), (3, .ref a3), (4, .int y4)]) hx hb dL_law_612 hl (by decide) rfl (fun ls hl => ?_)
          refine lv_aload_n hx hb dL_law_614 rfl (lv_at hl 3 rfl) ?_
          refine lv_aload_n hx hb dL_law_615 rfl (lv_at hl 1 rfl) ?_
          refine lv_iload hx hb dL_law_616 (lv_at hl 5 rfl) ?_
          refine lv_iconst (v := 1) hx hb dL_law_618 (by decide) ?_
          refine lv_iadd hx hb dL_law_619 ?_
          obtain ⟨v74, hv, h⟩ := bq_bind h
          refine bq_sld hx hb hX hbl hbA hW.2.2.2 hv dL_law_620 ?_
          refine lv_aload_n hx hb dL_law_621 rfl (lv_at hl 1 rfl) ?_
          refine lv_iload hx hb dL_law_622 (lv_at hl 5 rfl) ?_
          refine lv_iconst (v := 2) hx hb dL_law_624 (by decide) ?_
          refine lv_iadd hx hb dL_law_625 ?_
          obtain ⟨v75, hv, h⟩ := bq_bind h
          refine bq_sld hx hb hX hbl hbA hW.2.2.2 hv dL_law_626 ?_
          obtain ⟨v76, hv, h⟩ := bq_bind h
          refine bq_callV S hK hz mv_L_120 (c_X7_search hv) (kc_X7_search hv) dL_law_627 [.int v76.1] (rest := []) rfl rfl rfl hl.1 (Nat.le_of_ble_eq_true rfl) ⟨Nat.le_of_ble_eq_true rfl, Nat.le_of_ble_eq_true rfl⟩ ⟨by show _ ≤ 601024; omega, by show _ ≤ 7293034; omega⟩ hW (fun H locs hW => ?_)
          refine lv_istore (lv' := [(6, .int v76.1), (5, .int v73.1), (0, .ref b), (1, .ref a1), (2, .ref a2), (3, .ref a3), (4, .int y4)]) hx hb dL_law_630 hl (by decide) rfl (fun ls hl => ?_)
          refine lv_aload_n hx hb dL_law_632 rfl (lv_at hl 4 rfl) ?_
          obtain ⟨v77, hv, h⟩ := bq_bind h
          refine bq_callV S hK hz mv_L_94 (c_X7_thrown hv) (kc_X7_thrown hv) dL_law_633 [.int v77] (rest := []) rfl rfl rfl hl.1 (Nat.le_of_ble_eq_true rfl) ⟨Nat.le_of_ble_eq_true rfl, Nat.le_of_ble_eq_true rfl⟩ ⟨by show _ ≤ 601024; omega, by show _ ≤ 7293034; omega⟩ hW (fun H locs hW => ?_)
          refine lv_iload hx hb dL_law_636 (lv_at hl 1 rfl) ?_
          refine lv_icmp_eq (tgt := 643) hx hb dL_law_638 (by decide) (fun hc => ?_) (fun hc => ?_)
          · replace h := bq_ifT hc h
            refine lv_iload hx hb dL_law_643 (lv_at hl 1 rfl) ?_
            refine lv_if_ne (tgt := 660) hx hb dL_law_645 (by decide) (fun hc => ?_) (fun hc => ?_)
            · replace h := bq_ifF hc h
              refine lv_goto (tgt := 1618) hx hb dL_law_660 (by decide) ?_
              obtain ⟨v78, ev78⟩ : ∃ y : Int32, y = y4 + 5 := ⟨_, rfl⟩
              replace h := bq_letE ev78 h
              refine lv_iinc (v := v78) (lv' := [(4, .int v78), (6, .int v76.1), (5, .int v73.1), (0, .ref b), (1, .ref a1), (2, .ref a2), (3, .ref a3)]) hx hb dL_law_1618 hl (k := 6) rfl (by rw [ev78]; rfl) (by decide) rfl (fun ls hl => ?_)
              refine lv_goto (tgt := 23) hx hb dL_law_1621 (by decide) ?_
              exact ih _ _ _ _ _ _ _ h (by omega) (by omega) hW (lv_sub hl [3, 4, 5, 6, 0] rfl)
            · replace h := bq_ifT hc h
              refine lv_aload_n hx hb dL_law_648 rfl (lv_at hl 5 rfl) ?_
              refine lv_iconst (v := 0) hx hb dL_law_649 (by decide) ?_
              obtain ⟨v79, hv, h⟩ := bq_bind h
              refine bq_lald S hK dL_law_650 hv hW ?_
              refine lv_iload hx hb dL_law_651 (lv_at hl 0 rfl) ?_
              refine lv_i2l (v := Int32.toInt64 v76.1) hx hb dL_law_653 rfl ?_
              refine W.lcmp hx hb dL_law_654 ?_
              refine lv_if_eq (tgt := 660) hx hb dL_law_655 (by decide) (fun hc => ?_) (fun hc => ?_)
              · replace h := bq_ifT hc h
                refine lv_goto (tgt := 1618) hx hb dL_law_660 (by decide) ?_
                obtain ⟨v80, ev80⟩ : ∃ y : Int32, y = y4 + 5 := ⟨_, rfl⟩
                replace h := bq_letE ev80 h
                refine lv_iinc (v := v80) (lv' := [(4, .int v80), (6, .int v76.1), (5, .int v73.1), (0, .ref b), (1, .ref a1), (2, .ref a2), (3, .ref a3)]) hx hb dL_law_1618 hl (k := 6) rfl (by rw [ev80]; rfl) (by decide) rfl (fun ls hl => ?_)
                refine lv_goto (tgt := 23) hx hb dL_law_1621 (by decide) ?_
                exact ih _ _ _ _ _ _ _ h (by omega) (by omega) hW (lv_sub hl [3, 4, 5, 6, 0] rfl)
              · replace h := bq_ifF hc h
                refine lv_iconst (v := 0) hx hb dL_law_658 (by decide) ?_
                cases h
          · replace h := bq_ifF hc h
            refine lv_iconst (v := 0) hx hb dL_law_641 (by decide) ?_
            cases h
        replace h := bq_ifF hc7 h
        by_cases hc8 : (v1 &&& (31 : Int32)) = 8
        · replace h := bq_ifT hc8 h
          refine lv_tableIn (tgt := 663) (off := 624) hx hb dL_law_39 (by rw [hc8]; decide) (by rw [hc8]; decide) (by rw [hc8]; rfl) (by decide) ?_
          refine lv_aload_n hx hb dL_law_663 rfl (lv_at hl 1 rfl) ?_
          refine lv_aload_n hx hb dL_law_664 rfl (lv_at hl 0 rfl) ?_
          refine lv_iload hx hb dL_law_665 (lv_at hl 4 rfl) ?_
          refine lv_iconst (v := 1) hx hb dL_law_667 (by decide) ?_
          refine lv_iadd hx hb dL_law_668 ?_
          obtain ⟨v81, hv, h⟩ := bq_bind h
          refine bq_sld hx hb hX hbl hbA hW.2.2.2 hv dL_law_669 ?_
          refine lv_aload_n hx hb dL_law_670 rfl (lv_at hl 0 rfl) ?_
          refine lv_iload hx hb dL_law_671 (lv_at hl 4 rfl) ?_
          refine lv_iconst (v := 2) hx hb dL_law_673 (by decide) ?_
          refine lv_iadd hx hb dL_law_674 ?_
          obtain ⟨v82, hv, h⟩ := bq_bind h
          refine bq_sld hx hb hX hbl hbA hW.2.2.2 hv dL_law_675 ?_
          refine lv_aload_n hx hb dL_law_676 rfl (lv_at hl 3 rfl) ?_
          obtain ⟨v83, hv, h⟩ := bq_bind h
          refine bq_callSL (n := 4) S hK hz hT hN (bq_inSW (bq_wi 735 (by decide +kernel) rfl) (bq_wi 736 (by decide +kernel) rfl) (bq_wi 53 (by decide +kernel) rfl) (bq_wi 737 (by decide +kernel) rfl)) (by decide +kernel) (cl_L_probes hfl hv) dL_law_677 [.int v83.1] (rest := []) rfl rfl rfl hl.1 (Nat.le_of_ble_eq_true rfl) ⟨Nat.le_of_ble_eq_true rfl, Nat.le_of_ble_eq_true rfl⟩ ⟨by show _ ≤ 601024; omega, by show _ ≤ 7293034; omega⟩ hW (fun H locs hW => ?_)
          refine lv_istore (lv' := [(5, .int v83.1), (0, .ref b), (1, .ref a1), (2, .ref a2), (3, .ref a3), (4, .int y4)]) hx hb dL_law_680 hl (by decide) rfl (fun ls hl => ?_)
          refine lv_aload_n hx hb dL_law_682 rfl (lv_at hl 3 rfl) ?_
          refine lv_aload_n hx hb dL_law_683 rfl (lv_at hl 1 rfl) ?_
          refine lv_iload hx hb dL_law_684 (lv_at hl 5 rfl) ?_
          refine lv_iconst (v := 1) hx hb dL_law_686 (by decide) ?_
          refine lv_iadd hx hb dL_law_687 ?_
          obtain ⟨v84, hv, h⟩ := bq_bind h
          refine bq_sld hx hb hX hbl hbA hW.2.2.2 hv dL_law_688 ?_
          refine lv_aload_n hx hb dL_law_689 rfl (lv_at hl 1 rfl) ?_
          refine lv_iload hx hb dL_law_690 (lv_at hl 5 rfl) ?_
          refine lv_iconst (v := 2) hx hb dL_law_692 (by decide) ?_
          refine lv_iadd hx hb dL_law_693 ?_
          obtain ⟨v85, hv, h⟩ := bq_bind h
          refine bq_sld hx hb hX hbl hbA hW.2.2.2 hv dL_law_694 ?_
          obtain ⟨v86, hv, h⟩ := bq_bind h
          refine bq_callV S hK hz mv_L_123 (c_X7_probes hv) (kc_X7_probes hv) dL_law_695 [.int v86.1] (rest := []) rfl rfl rfl hl.1 (Nat.le_of_ble_eq_true rfl) ⟨Nat.le_of_ble_eq_true rfl, Nat.le_of_ble_eq_true rfl⟩ ⟨by show _ ≤ 601024; omega, by show _ ≤ 7293034; omega⟩ hW (fun H locs hW => ?_)
          refine lv_istore (lv' := [(6, .int v86.1), (5, .int v83.1), (0, .ref b), (1, .ref a1), (2, .ref a2), (3, .ref a3), (4, .int y4)]) hx hb dL_law_698 hl (by decide) rfl (fun ls hl => ?_)
          refine lv_aload_n hx hb dL_law_700 rfl (lv_at hl 4 rfl) ?_
          obtain ⟨v87, hv, h⟩ := bq_bind h
          refine bq_callV S hK hz mv_L_94 (c_X7_thrown hv) (kc_X7_thrown hv) dL_law_701 [.int v87] (rest := []) rfl rfl rfl hl.1 (Nat.le_of_ble_eq_true rfl) ⟨Nat.le_of_ble_eq_true rfl, Nat.le_of_ble_eq_true rfl⟩ ⟨by show _ ≤ 601024; omega, by show _ ≤ 7293034; omega⟩ hW (fun H locs hW => ?_)
          refine lv_iload hx hb dL_law_704 (lv_at hl 1 rfl) ?_
          refine lv_icmp_eq (tgt := 711) hx hb dL_law_706 (by decide) (fun hc => ?_) (fun hc => ?_)
          · replace h := bq_ifT hc h
            refine lv_iload hx hb dL_law_711 (lv_at hl 1 rfl) ?_
            refine lv_if_ne (tgt := 728) hx hb dL_law_713 (by decide) (fun hc => ?_) (fun hc => ?_)
            · replace h := bq_ifF hc h
              refine lv_goto (tgt := 1618) hx hb dL_law_728 (by decide) ?_
              obtain ⟨v88, ev88⟩ : ∃ y : Int32, y = y4 + 5 := ⟨_, rfl⟩
              replace h := bq_letE ev88 h
              refine lv_iinc (v := v88) (lv' := [(4, .int v88), (6, .int v86.1), (5, .int v83.1), (0, .ref b), (1, .ref a1), (2, .ref a2), (3, .ref a3)]) hx hb dL_law_1618 hl (k := 6) rfl (by rw [ev88]; rfl) (by decide) rfl (fun ls hl => ?_)
              refine lv_goto (tgt := 23) hx hb dL_law_1621 (by decide) ?_
              exact ih _ _ _ _ _ _ _ h (by omega) (by omega) hW (lv_sub hl [3, 4, 5, 6, 0] rfl)
            · replace h := bq_ifT hc h
              refine lv_aload_n hx hb dL_law_716 rfl (lv_at hl 5 rfl) ?_
              refine lv_iconst (v := 0) hx hb dL_law_717 (by decide) ?_
              obtain ⟨v89, hv, h⟩ := bq_bind h
              refine bq_lald S hK dL_law_718 hv hW ?_
              refine lv_iload hx hb dL_law_719 (lv_at hl 0 rfl) ?_
              refine lv_i2l (v := Int32.toInt64 v86.1) hx hb dL_law_721 rfl ?_
              refine W.lcmp hx hb dL_law_722 ?_
              refine lv_if_eq (tgt := 728) hx hb dL_law_723 (by decide) (fun hc => ?_) (fun hc => ?_)
              · replace h := bq_ifT hc h
                refine lv_goto (tgt := 1618) hx hb dL_law_728 (by decide) ?_
                obtain ⟨v90, ev90⟩ : ∃ y : Int32, y = y4 + 5 := ⟨_, rfl⟩
                replace h := bq_letE ev90 h
                refine lv_iinc (v := v90) (lv' := [(4, .int v90), (6, .int v86.1), (5, .int v83.1), (0, .ref b), (1, .ref a1), (2, .ref a2), (3, .ref a3)]) hx hb dL_law_1618 hl (k := 6) rfl (by rw [ev90]; rfl) (by decide) rfl (fun ls hl => ?_)
                refine lv_goto (tgt := 23) hx hb dL_law_1621 (by decide) ?_
                exact ih _ _ _ _ _ _ _ h (by omega) (by omega) hW (lv_sub hl [3, 4, 5, 6, 0] rfl)
              · replace h := bq_ifF hc h
                refine lv_iconst (v := 0) hx hb dL_law_726 (by decide) ?_
                cases h
          · replace h := bq_ifF hc h
            refine lv_iconst (v := 0) hx hb dL_law_709 (by decide) ?_
            cases h
        replace h := bq_ifF hc8 h
        by_cases hc9 : (v1 &&& (31 : Int32)) = 9
        · replace h := bq_ifT hc9 h
          refine lv_tableIn (tgt := 731) (off := 692) hx hb dL_law_39 (by rw [hc9]; decide) (by rw [hc9]; decide) (by rw [hc9]; rfl) (by decide) ?_
          refine lv_aload_n hx hb dL_law_731 rfl (lv_at hl 1 rfl) ?_
          refine lv_aload_n hx hb dL_law_732 rfl (lv_at hl 0 rfl) ?_
          refine lv_iload hx hb dL_law_733 (lv_at hl 4 rfl) ?_
          refine lv_iconst (v := 1) hx hb dL_law_735 (by decide) ?_
          refine lv_iadd hx hb dL_law_736 ?_
          obtain ⟨v91, hv, h⟩ := bq_bind h
          refine bq_sld hx hb hX hbl hbA hW.2.2.2 hv dL_law_737 ?_
          refine lv_aload_n hx hb dL_law_738 rfl (lv_at hl 0 rfl) ?_
          refine lv_iload hx hb dL_law_739 (lv_at hl 4 rfl) ?_
          refine lv_iconst (v := 2) hx hb dL_law_741 (by decide) ?_
          refine lv_iadd hx hb dL_law_742 ?_
          obtain ⟨v92, hv, h⟩ := bq_bind h
          refine bq_sld hx hb hX hbl hbA hW.2.2.2 hv dL_law_743 ?_
          refine lv_aload_n hx hb dL_law_744 rfl (lv_at hl 3 rfl) ?_
          obtain ⟨v93, hv, h⟩ := bq_bind h
          refine bq_callSL (n := 4) S hK hz hT hN (bq_inSW (bq_wi 742 (by decide +kernel) rfl) (bq_wi 743 (by decide +kernel) rfl) (bq_wi 53 (by decide +kernel) rfl) (bq_wi 744 (by decide +kernel) rfl)) (by decide +kernel) (cl_L_plainProbes hfl hv) dL_law_745 [.int v93.1] (rest := []) rfl rfl rfl hl.1 (Nat.le_of_ble_eq_true rfl) ⟨Nat.le_of_ble_eq_true rfl, Nat.le_of_ble_eq_true rfl⟩ ⟨by show _ ≤ 601024; omega, by show _ ≤ 7293034; omega⟩ hW (fun H locs hW => ?_)
          refine lv_istore (lv' := [(5, .int v93.1), (0, .ref b), (1, .ref a1), (2, .ref a2), (3, .ref a3), (4, .int y4)]) hx hb dL_law_748 hl (by decide) rfl (fun ls hl => ?_)
          refine lv_aload_n hx hb dL_law_750 rfl (lv_at hl 3 rfl) ?_
          refine lv_aload_n hx hb dL_law_751 rfl (lv_at hl 1 rfl) ?_
          refine lv_iload hx hb dL_law_752 (lv_at hl 5 rfl) ?_
          refine lv_iconst (v := 1) hx hb dL_law_754 (by decide) ?_
          refine lv_iadd hx hb dL_law_755 ?_
          obtain ⟨v94, hv, h⟩ := bq_bind h
          refine bq_sld hx hb hX hbl hbA hW.2.2.2 hv dL_law_756 ?_
          refine lv_aload_n hx hb dL_law_757 rfl (lv_at hl 1 rfl) ?_
          refine lv_iload hx hb dL_law_758 (lv_at hl 5 rfl) ?_
          refine lv_iconst (v := 2) hx hb dL_law_760 (by decide) ?_
          refine lv_iadd hx hb dL_law_761 ?_
          obtain ⟨v95, hv, h⟩ := bq_bind h
          refine bq_sld hx hb hX hbl hbA hW.2.2.2 hv dL_law_762 ?_
          obtain ⟨v96, hv, h⟩ := bq_bind h
          refine bq_callV S hK hz mv_L_126 (c_X7_plainProbes hv) (kc_X7_plainProbes hv) dL_law_763 [.int v96.1] (rest := []) rfl rfl rfl hl.1 (Nat.le_of_ble_eq_true rfl) ⟨Nat.le_of_ble_eq_true rfl, Nat.le_of_ble_eq_true rfl⟩ ⟨by show _ ≤ 601024; omega, by show _ ≤ 7293034; omega⟩ hW (fun H locs hW => ?_)
          refine lv_istore (lv' := [(6, .int v96.1), (5, .int v93.1), (0, .ref b), (1, .ref a1), (2, .ref a2), (3, .ref a3), (4, .int y4)]) hx hb dL_law_766 hl (by decide) rfl (fun ls hl => ?_)
          refine lv_aload_n hx hb dL_law_768 rfl (lv_at hl 4 rfl) ?_
          obtain ⟨v97, hv, h⟩ := bq_bind h
          refine bq_callV S hK hz mv_L_94 (c_X7_thrown hv) (kc_X7_thrown hv) dL_law_769 [.int v97] (rest := []) rfl rfl rfl hl.1 (Nat.le_of_ble_eq_true rfl) ⟨Nat.le_of_ble_eq_true rfl, Nat.le_of_ble_eq_true rfl⟩ ⟨by show _ ≤ 601024; omega, by show _ ≤ 7293034; omega⟩ hW (fun H locs hW => ?_)
          refine lv_iload hx hb dL_law_772 (lv_at hl 1 rfl) ?_
          refine lv_icmp_eq (tgt := 779) hx hb dL_law_774 (by decide) (fun hc => ?_) (fun hc => ?_)
          · replace h := bq_ifT hc h
            refine lv_iload hx hb dL_law_779 (lv_at hl 1 rfl) ?_
            refine lv_if_ne (tgt := 796) hx hb dL_law_781 (by decide) (fun hc => ?_) (fun hc => ?_)
            · replace h := bq_ifF hc h
              refine lv_goto (tgt := 1618) hx hb dL_law_796 (by decide) ?_
              obtain ⟨v98, ev98⟩ : ∃ y : Int32, y = y4 + 5 := ⟨_, rfl⟩
              replace h := bq_letE ev98 h
              refine lv_iinc (v := v98) (lv' := [(4, .int v98), (6, .int v96.1), (5, .int v93.1), (0, .ref b), (1, .ref a1), (2, .ref a2), (3, .ref a3)]) hx hb dL_law_1618 hl (k := 6) rfl (by rw [ev98]; rfl) (by decide) rfl (fun ls hl => ?_)
              refine lv_goto (tgt := 23) hx hb dL_law_1621 (by decide) ?_
              exact ih _ _ _ _ _ _ _ h (by omega) (by omega) hW (lv_sub hl [3, 4, 5, 6, 0] rfl)
            · replace h := bq_ifT hc h
              refine lv_aload_n hx hb dL_law_784 rfl (lv_at hl 5 rfl) ?_
              refine lv_iconst (v := 0) hx hb dL_law_785 (by decide) ?_
              obtain ⟨v99, hv, h⟩ := bq_bind h
              refine bq_lald S hK dL_law_786 hv hW ?_
              refine lv_iload hx hb dL_law_787 (lv_at hl 0 rfl) ?_
              refine lv_i2l (v := Int32.toInt64 v96.1) hx hb dL_law_789 rfl ?_
              refine W.lcmp hx hb dL_law_790 ?_
              refine lv_if_eq (tgt := 796) hx hb dL_law_791 (by decide) (fun hc => ?_) (fun hc => ?_)
              · replace h := bq_ifT hc h
                refine lv_goto (tgt := 1618) hx hb dL_law_796 (by decide) ?_
                obtain ⟨v100, ev100⟩ : ∃ y : Int32, y = y4 + 5 := ⟨_, rfl⟩
                replace h := bq_letE ev100 h
                refine lv_iinc (v := v100) (lv' := [(4, .int v100), (6, .int v96.1), (5, .int v93.1), (0, .ref b), (1, .ref a1), (2, .ref a2), (3, .ref a3)]) hx hb dL_law_1618 hl (k := 6) rfl (by rw [ev100]; rfl) (by decide) rfl (fun ls hl => ?_)
                refine lv_goto (tgt := 23) hx hb dL_law_1621 (by decide) ?_
                exact ih _ _ _ _ _ _ _ h (by omega) (by omega) hW (lv_sub hl [3, 4, 5, 6, 0] rfl)
              · replace h := bq_ifF hc h
                refine lv_iconst (v := 0) hx hb dL_law_794 (by decide) ?_
                cases h
          · replace h := bq_ifF hc h
            refine lv_iconst (v := 0) hx hb dL_law_777 (by decide) ?_
            cases h
        replace h := bq_ifF hc9 h
        by_cases hc10 : (v1 &&& (31 : Int32)) = 10
        · replace h := bq_ifT hc10 h
          refine lv_tableIn (tgt := 799) (off := 760) hx hb dL_law_39 (by rw [hc10]; decide) (by rw [hc10]; decide) (by rw [hc10]; rfl) (by decide) ?_
          refine lv_aload_n hx hb dL_law_799 rfl (lv_at hl 1 rfl) ?_
          refine lv_aload_n hx hb dL_law_800 rfl (lv_at hl 0 rfl) ?_
          refine lv_iload hx hb dL_law_801 (lv_at hl 4 rfl) ?_
          refine lv_iconst (v := 1) hx hb dL_law_803 (by decide) ?_
          refine lv_iadd hx hb dL_law_804 ?_
          obtain ⟨v101, hv, h⟩ := bq_bind h
          refine bq_sld hx hb hX hbl hbA hW.2.2.2 hv dL_law_805 ?_
          refine lv_aload_n hx hb dL_law_806 rfl (lv_at hl 0 rfl) ?_
          refine lv_iload hx hb dL_law_807 (lv_at hl 4 rfl) ?_
          refine lv_iconst (v := 2) hx hb dL_law_809 (by decide) ?_
          refine lv_iadd hx hb dL_law_810 ?_
          obtain ⟨v102, hv, h⟩ := bq_bind h
          refine bq_sld hx hb hX hbl hbA hW.2.2.2 hv dL_law_811 ?_
          refine lv_aload_n hx hb dL_law_812 rfl (lv_at hl 3 rfl) ?_
          obtain ⟨v103, hv, h⟩ := bq_bind h
          refine bq_callSL (n := 4) S hK hz hT hN (bq_inSW (bq_wi 753 (by decide +kernel) rfl) (bq_wi 754 (by decide +kernel) rfl) (bq_wi 53 (by decide +kernel) rfl) (bq_wi 755 (by decide +kernel) rfl)) (by decide +kernel) (cl_L_place hfl hv) dL_law_813 [.int v103.1] (rest := []) rfl rfl rfl hl.1 (Nat.le_of_ble_eq_true rfl) ⟨Nat.le_of_ble_eq_true rfl, Nat.le_of_ble_eq_true rfl⟩ ⟨by show _ ≤ 601024; omega, by show _ ≤ 7293034; omega⟩ hW (fun H locs hW => ?_)
          refine lv_istore (lv' := [(5, .int v103.1), (0, .ref b), (1, .ref a1), (2, .ref a2), (3, .ref a3), (4, .int y4)]) hx hb dL_law_816 hl (by decide) rfl (fun ls hl => ?_)
          refine lv_aload_n hx hb dL_law_818 rfl (lv_at hl 3 rfl) ?_
          refine lv_aload_n hx hb dL_law_819 rfl (lv_at hl 1 rfl) ?_
          refine lv_iload hx hb dL_law_820 (lv_at hl 5 rfl) ?_
          refine lv_iconst (v := 1) hx hb dL_law_822 (by decide) ?_
          refine lv_iadd hx hb dL_law_823 ?_
          obtain ⟨v104, hv, h⟩ := bq_bind h
          refine bq_sld hx hb hX hbl hbA hW.2.2.2 hv dL_law_824 ?_
          refine lv_aload_n hx hb dL_law_825 rfl (lv_at hl 1 rfl) ?_
          refine lv_iload hx hb dL_law_826 (lv_at hl 5 rfl) ?_
          refine lv_iconst (v := 2) hx hb dL_law_828 (by decide) ?_
          refine lv_iadd hx hb dL_law_829 ?_
          obtain ⟨v105, hv, h⟩ := bq_bind h
          refine bq_sld hx hb hX hbl hbA hW.2.2.2 hv dL_law_830 ?_
          obtain ⟨v106, hv, h⟩ := bq_bind h
          refine bq_callV S hK hz mv_L_129 (c_X7_place hv) (kc_X7_place hv) dL_law_831 [.int v106.1] (rest := []) rfl rfl rfl hl.1 (Nat.le_of_ble_eq_true rfl) ⟨Nat.le_of_ble_eq_true rfl, Nat.le_of_ble_eq_true rfl⟩ ⟨by show _ ≤ 601024; omega, by show _ ≤ 7293034; omega⟩ hW (fun H locs hW => ?_)
          refine lv_istore (lv' := [(6, .int v106.1), (5, .int v103.1), (0, .ref b), (1, .ref a1), (2, .ref a2), (3, .ref a3), (4, .int y4)]) hx hb dL_law_834 hl (by decide) rfl (fun ls hl => ?_)
          refine lv_aload_n hx hb dL_law_836 rfl (lv_at hl 4 rfl) ?_
          obtain ⟨v107, hv, h⟩ := bq_bind h
          refine bq_callV S hK hz mv_L_94 (c_X7_thrown hv) (kc_X7_thrown hv) dL_law_837 [.int v107] (rest := []) rfl rfl rfl hl.1 (Nat.le_of_ble_eq_true rfl) ⟨Nat.le_of_ble_eq_true rfl, Nat.le_of_ble_eq_true rfl⟩ ⟨by show _ ≤ 601024; omega, by show _ ≤ 7293034; omega⟩ hW (fun H locs hW => ?_)
          refine lv_iload hx hb dL_law_840 (lv_at hl 1 rfl) ?_
          refine lv_icmp_eq (tgt := 847) hx hb dL_law_842 (by decide) (fun hc => ?_) (fun hc => ?_)
          · replace h := bq_ifT hc h
            refine lv_iload hx hb dL_law_847 (lv_at hl 1 rfl) ?_
            refine lv_if_ne (tgt := 864) hx hb dL_law_849 (by decide) (fun hc => ?_) (fun hc => ?_)
            · replace h := bq_ifF hc h
              refine lv_goto (tgt := 1618) hx hb dL_law_864 (by decide) ?_
              obtain ⟨v108, ev108⟩ : ∃ y : Int32, y = y4 + 5 := ⟨_, rfl⟩
              replace h := bq_letE ev108 h
              refine lv_iinc (v := v108) (lv' := [(4, .int v108), (6, .int v106.1), (5, .int v103.1), (0, .ref b), (1, .ref a1), (2, .ref a2), (3, .ref a3)]) hx hb dL_law_1618 hl (k := 6) rfl (by rw [ev108]; rfl) (by decide) rfl (fun ls hl => ?_)
              refine lv_goto (tgt := 23) hx hb dL_law_1621 (by decide) ?_
              exact ih _ _ _ _ _ _ _ h (by omega) (by omega) hW (lv_sub hl [3, 4, 5, 6, 0] rfl)
            · replace h := bq_ifT hc h
              refine lv_aload_n hx hb dL_law_852 rfl (lv_at hl 5 rfl) ?_
              refine lv_iconst (v := 0) hx hb dL_law_853 (by decide) ?_
              obtain ⟨v109, hv, h⟩ := bq_bind h
              refine bq_lald S hK dL_law_854 hv hW ?_
              refine lv_iload hx hb dL_law_855 (lv_at hl 0 rfl) ?_
              refine lv_i2l (v := Int32.toInt64 v106.1) hx hb dL_law_857 rfl ?_
              refine W.lcmp hx hb dL_law_858 ?_
              refine lv_if_eq (tgt := 864) hx hb dL_law_859 (by decide) (fun hc => ?_) (fun hc => ?_)
              · replace h := bq_ifT hc h
                refine lv_goto (tgt := 1618) hx hb dL_law_864 (by decide) ?_
                obtain ⟨v110, ev110⟩ : ∃ y : Int32, y = y4 + 5 := ⟨_, rfl⟩
                replace h := bq_letE ev110 h
                refine lv_iinc (v := v110) (lv' := [(4, .int v110), (6, .int v106.1), (5, .int v103.1), (0, .ref b), (1, .ref a1), (2, .ref a2), (3, .ref a3)]) hx hb dL_law_1618 hl (k := 6) rfl (by rw [ev110]; rfl) (by decide) rfl (fun ls hl => ?_)
                refine lv_goto (tgt := 23) hx hb dL_law_1621 (by decide) ?_
                exact ih _ _ _ _ _ _ _ h (by omega) (by omega) hW (lv_sub hl [3, 4, 5, 6, 0] rfl)
              · replace h := bq_ifF hc h
                refine lv_iconst (v := 0) hx hb dL_law_862 (by decide) ?_
                cases h
          · replace h := bq_ifF hc h
            refine lv_iconst (v := 0) hx hb dL_law_845 (by decide) ?_
            cases h
        replace h := bq_ifF hc10 h
        by_cases hc11 : (v1 &&& (31 : Int32)) = 11
        · replace h := bq_ifT hc11 h
          refine lv_tableIn (tgt := 867) (off := 828) hx hb dL_law_39 (by rw [hc11]; decide) (by rw [hc11]; decide) (by rw [hc11]; rfl) (by decide) ?_
          refine lv_aload_n hx hb dL_law_867 rfl (lv_at hl 1 rfl) ?_
          refine lv_aload_n hx hb dL_law_868 rfl (lv_at hl 0 rfl) ?_
          refine lv_iload hx hb dL_law_869 (lv_at hl 4 rfl) ?_
          refine lv_iconst (v := 1) hx hb dL_law_871 (by decide) ?_
          refine lv_iadd hx hb dL_law_872 ?_
          obtain ⟨v111, hv, h⟩ := bq_bind h
          refine bq_sld hx hb hX hbl hbA hW.2.2.2 hv dL_law_873 ?_
          refine lv_aload_n hx hb dL_law_874 rfl (lv_at hl 0 rfl) ?_
          refine lv_iload hx hb dL_law_875 (lv_at hl 4 rfl) ?_
          refine lv_iconst (v := 2) hx hb dL_law_877 (by decide) ?_
          refine lv_iadd hx hb dL_law_878 ?_
          obtain ⟨v112, hv, h⟩ := bq_bind h
          refine bq_sld hx hb hX hbl hbA hW.2.2.2 hv dL_law_879 ?_
          refine lv_aload_n hx hb dL_law_880 rfl (lv_at hl 3 rfl) ?_
          obtain ⟨v113, hv, h⟩ := bq_bind h
          refine bq_callSL (n := 4) S hK hz hT hN (bq_inSW (bq_wi 760 (by decide +kernel) rfl) (bq_wi 761 (by decide +kernel) rfl) (bq_wi 53 (by decide +kernel) rfl) (bq_wi 762 (by decide +kernel) rfl)) (by decide +kernel) (cl_L_leastOnPath hfl hv) dL_law_881 [.int v113.1] (rest := []) rfl rfl rfl hl.1 (Nat.le_of_ble_eq_true rfl) ⟨Nat.le_of_ble_eq_true rfl, Nat.le_of_ble_eq_true rfl⟩ ⟨by show _ ≤ 601024; omega, by show _ ≤ 7293034; omega⟩ hW (fun H locs hW => ?_)
          refine lv_istore (lv' := [(5, .int v113.1), (0, .ref b), (1, .ref a1), (2, .ref a2), (3, .ref a3), (4, .int y4)]) hx hb dL_law_884 hl (by decide) rfl (fun ls hl => ?_)
          refine lv_aload_n hx hb dL_law_886 rfl (lv_at hl 3 rfl) ?_
          refine lv_aload_n hx hb dL_law_887 rfl (lv_at hl 1 rfl) ?_
          refine lv_iload hx hb dL_law_888 (lv_at hl 5 rfl) ?_
          refine lv_iconst (v := 1) hx hb dL_law_890 (by decide) ?_
          refine lv_iadd hx hb dL_law_891 ?_
          obtain ⟨v114, hv, h⟩ := bq_bind h
          refine bq_sld hx hb hX hbl hbA hW.2.2.2 hv dL_law_892 ?_
          refine lv_aload_n hx hb dL_law_893 rfl (lv_at hl 1 rfl) ?_
          refine lv_iload hx hb dL_law_894 (lv_at hl 5 rfl) ?_
          refine lv_iconst (v := 2) hx hb dL_law_896 (by decide) ?_
          refine lv_iadd hx hb dL_law_897 ?_
          obtain ⟨v115, hv, h⟩ := bq_bind h
          refine bq_sld hx hb hX hbl hbA hW.2.2.2 hv dL_law_898 ?_
          obtain ⟨v116, hv, h⟩ := bq_bind h
          refine bq_callV S hK hz mv_L_132 (c_X7_leastOnPath hv) (kc_X7_leastOnPath hv) dL_law_899 [.int v116.1] (rest := []) rfl rfl rfl hl.1 (Nat.le_of_ble_eq_true rfl) ⟨Nat.le_of_ble_eq_true rfl, Nat.le_of_ble_eq_true rfl⟩ ⟨by show _ ≤ 601024; omega, by show _ ≤ 7293034; omega⟩ hW (fun H locs hW => ?_)
          refine lv_istore (lv' := [(6, .int v116.1), (5, .int v113.1), (0, .ref b), (1, .ref a1), (2, .ref a2), (3, .ref a3), (4, .int y4)]) hx hb dL_law_902 hl (by decide) rfl (fun ls hl => ?_)
          refine lv_aload_n hx hb dL_law_904 rfl (lv_at hl 4 rfl) ?_
          obtain ⟨v117, hv, h⟩ := bq_bind h
          refine bq_callV S hK hz mv_L_94 (c_X7_thrown hv) (kc_X7_thrown hv) dL_law_905 [.int v117] (rest := []) rfl rfl rfl hl.1 (Nat.le_of_ble_eq_true rfl) ⟨Nat.le_of_ble_eq_true rfl, Nat.le_of_ble_eq_true rfl⟩ ⟨by show _ ≤ 601024; omega, by show _ ≤ 7293034; omega⟩ hW (fun H locs hW => ?_)
          refine lv_iload hx hb dL_law_908 (lv_at hl 1 rfl) ?_
          refine lv_icmp_eq (tgt := 915) hx hb dL_law_910 (by decide) (fun hc => ?_) (fun hc => ?_)
          · replace h := bq_ifT hc h
            refine lv_iload hx hb dL_law_915 (lv_at hl 1 rfl) ?_
            refine lv_if_ne (tgt := 932) hx hb dL_law_917 (by decide) (fun hc => ?_) (fun hc => ?_)
            · replace h := bq_ifF hc h
              refine lv_goto (tgt := 1618) hx hb dL_law_932 (by decide) ?_
              obtain ⟨v118, ev118⟩ : ∃ y : Int32, y = y4 + 5 := ⟨_, rfl⟩
              replace h := bq_letE ev118 h
              refine lv_iinc (v := v118) (lv' := [(4, .int v118), (6, .int v116.1), (5, .int v113.1), (0, .ref b), (1, .ref a1), (2, .ref a2), (3, .ref a3)]) hx hb dL_law_1618 hl (k := 6) rfl (by rw [ev118]; rfl) (by decide) rfl (fun ls hl => ?_)
              refine lv_goto (tgt := 23) hx hb dL_law_1621 (by decide) ?_
              exact ih _ _ _ _ _ _ _ h (by omega) (by omega) hW (lv_sub hl [3, 4, 5, 6, 0] rfl)
            · replace h := bq_ifT hc h
              refine lv_aload_n hx hb dL_law_920 rfl (lv_at hl 5 rfl) ?_
              refine lv_iconst (v := 0) hx hb dL_law_921 (by decide) ?_
              obtain ⟨v119, hv, h⟩ := bq_bind h
              refine bq_lald S hK dL_law_922 hv hW ?_
              refine lv_iload hx hb dL_law_923 (lv_at hl 0 rfl) ?_
              refine lv_i2l (v := Int32.toInt64 v116.1) hx hb dL_law_925 rfl ?_
              refine W.lcmp hx hb dL_law_926 ?_
              refine lv_if_eq (tgt := 932) hx hb dL_law_927 (by decide) (fun hc => ?_) (fun hc => ?_)
              · replace h := bq_ifT hc h
                refine lv_goto (tgt := 1618) hx hb dL_law_932 (by decide) ?_
                obtain ⟨v120, ev120⟩ : ∃ y : Int32, y = y4 + 5 := ⟨_, rfl⟩
                replace h := bq_letE ev120 h
                refine lv_iinc (v := v120) (lv' := [(4, .int v120), (6, .int v116.1), (5, .int v113.1), (0, .ref b), (1, .ref a1), (2, .ref a2), (3, .ref a3)]) hx hb dL_law_1618 hl (k := 6) rfl (by rw [ev120]; rfl) (by decide) rfl (fun ls hl => ?_)
                refine lv_goto (tgt := 23) hx hb dL_law_1621 (by decide) ?_
                exact ih _ _ _ _ _ _ _ h (by omega) (by omega) hW (lv_sub hl [3, 4, 5, 6, 0] rfl)
              · replace h := bq_ifF hc h
                refine lv_iconst (v := 0) hx hb dL_law_930 (by decide) ?_
                cases h
          · replace h := bq_ifF hc h
            refine lv_iconst (v := 0) hx hb dL_law_913 (by decide) ?_
            cases h
        replace h := bq_ifF hc11 h
        by_cases hc12 : (v1 &&& (31 : Int32)) = 12
        · replace h := bq_ifT hc12 h
          refine lv_tableIn (tgt := 935) (off := 896) hx hb dL_law_39 (by rw [hc12]; decide) (by rw [hc12]; decide) (by rw [hc12]; rfl) (by decide) ?_
          refine lv_aload_n hx hb dL_law_935 rfl (lv_at hl 1 rfl) ?_
          refine lv_aload_n hx hb dL_law_936 rfl (lv_at hl 0 rfl) ?_
          refine lv_iload hx hb dL_law_937 (lv_at hl 4 rfl) ?_
          refine lv_iconst (v := 1) hx hb dL_law_939 (by decide) ?_
          refine lv_iadd hx hb dL_law_940 ?_
          obtain ⟨v121, hv, h⟩ := bq_bind h
          refine bq_sld hx hb hX hbl hbA hW.2.2.2 hv dL_law_941 ?_
          refine lv_aload_n hx hb dL_law_942 rfl (lv_at hl 0 rfl) ?_
          refine lv_iload hx hb dL_law_943 (lv_at hl 4 rfl) ?_
          refine lv_iconst (v := 2) hx hb dL_law_945 (by decide) ?_
          refine lv_iadd hx hb dL_law_946 ?_
          obtain ⟨v122, hv, h⟩ := bq_bind h
          refine bq_sld hx hb hX hbl hbA hW.2.2.2 hv dL_law_947 ?_
          refine lv_aload_n hx hb dL_law_948 rfl (lv_at hl 3 rfl) ?_
          obtain ⟨v123, hv, h⟩ := bq_bind h
          refine bq_callSL (n := 4) S hK hz hT hN (bq_inSW (bq_wi 767 (by decide +kernel) rfl) (bq_wi 768 (by decide +kernel) rfl) (bq_wi 53 (by decide +kernel) rfl) (bq_wi 769 (by decide +kernel) rfl)) (by decide +kernel) (cl_L_nearestOnPath hfl hv) dL_law_949 [.int v123.1] (rest := []) rfl rfl rfl hl.1 (Nat.le_of_ble_eq_true rfl) ⟨Nat.le_of_ble_eq_true rfl, Nat.le_of_ble_eq_true rfl⟩ ⟨by show _ ≤ 601024; omega, by show _ ≤ 7293034; omega⟩ hW (fun H locs hW => ?_)
          refine lv_istore (lv' := [(5, .int v123.1), (0, .ref b), (1, .ref a1), (2, .ref a2), (3, .ref a3), (4, .int y4)]) hx hb dL_law_952 hl (by decide) rfl (fun ls hl => ?_)
          refine lv_aload_n hx hb dL_law_954 rfl (lv_at hl 3 rfl) ?_
          refine lv_aload_n hx hb dL_law_955 rfl (lv_at hl 1 rfl) ?_
          refine lv_iload hx hb dL_law_956 (lv_at hl 5 rfl) ?_
          refine lv_iconst (v := 1) hx hb dL_law_958 (by decide) ?_
          refine lv_iadd hx hb dL_law_959 ?_
          obtain ⟨v124, hv, h⟩ := bq_bind h
          refine bq_sld hx hb hX hbl hbA hW.2.2.2 hv dL_law_960 ?_
          refine lv_aload_n hx hb dL_law_961 rfl (lv_at hl 1 rfl) ?_
          refine lv_iload hx hb dL_law_962 (lv_at hl 5 rfl) ?_
          refine lv_iconst (v := 2) hx hb dL_law_964 (by decide) ?_
          refine lv_iadd hx hb dL_law_965 ?_
          obtain ⟨v125, hv, h⟩ := bq_bind h
          refine bq_sld hx hb hX hbl hbA hW.2.2.2 hv dL_law_966 ?_
          obtain ⟨v126, hv, h⟩ := bq_bind h
          refine bq_callV S hK hz mv_L_135 (c_X7_nearestOnPath hv) (kc_X7_nearestOnPath hv) dL_law_967 [.int v126.1] (rest := []) rfl rfl rfl hl.1 (Nat.le_of_ble_eq_true rfl) ⟨Nat.le_of_ble_eq_true rfl, Nat.le_of_ble_eq_true rfl⟩ ⟨by show _ ≤ 601024; omega, by show _ ≤ 7293034; omega⟩ hW (fun H locs hW => ?_)
          refine lv_istore (lv' := [(6, .int v126.1), (5, .int v123.1), (0, .ref b), (1, .ref a1), (2, .ref a2), (3, .ref a3), (4, .int y4)]) hx hb dL_law_970 hl (by decide) rfl (fun ls hl => ?_)
          refine lv_aload_n hx hb dL_law_972 rfl (lv_at hl 4 rfl) ?_
          obtain ⟨v127, hv, h⟩ := bq_bind h
          refine bq_callV S hK hz mv_L_94 (c_X7_thrown hv) (kc_X7_thrown hv) dL_law_973 [.int v127] (rest := []) rfl rfl rfl hl.1 (Nat.le_of_ble_eq_true rfl) ⟨Nat.le_of_ble_eq_true rfl, Nat.le_of_ble_eq_true rfl⟩ ⟨by show _ ≤ 601024; omega, by show _ ≤ 7293034; omega⟩ hW (fun H locs hW => ?_)
          refine lv_iload hx hb dL_law_976 (lv_at hl 1 rfl) ?_
          refine lv_icmp_eq (tgt := 983) hx hb dL_law_978 (by decide) (fun hc => ?_) (fun hc => ?_)
          · replace h := bq_ifT hc h
            refine lv_iload hx hb dL_law_983 (lv_at hl 1 rfl) ?_
            refine lv_if_ne (tgt := 1000) hx hb dL_law_985 (by decide) (fun hc => ?_) (fun hc => ?_)
            · replace h := bq_ifF hc h
              refine lv_goto (tgt := 1618) hx hb dL_law_1000 (by decide) ?_
              obtain ⟨v128, ev128⟩ : ∃ y : Int32, y = y4 + 5 := ⟨_, rfl⟩
              replace h := bq_letE ev128 h
              refine lv_iinc (v := v128) (lv' := [(4, .int v128), (6, .int v126.1), (5, .int v123.1), (0, .ref b), (1, .ref a1), (2, .ref a2), (3, .ref a3)]) hx hb dL_law_1618 hl (k := 6) rfl (by rw [ev128]; rfl) (by decide) rfl (fun ls hl => ?_)
              refine lv_goto (tgt := 23) hx hb dL_law_1621 (by decide) ?_
              exact ih _ _ _ _ _ _ _ h (by omega) (by omega) hW (lv_sub hl [3, 4, 5, 6, 0] rfl)
            · replace h := bq_ifT hc h
              refine lv_aload_n hx hb dL_law_988 rfl (lv_at hl 5 rfl) ?_
              refine lv_iconst (v := 0) hx hb dL_law_989 (by decide) ?_
              obtain ⟨v129, hv, h⟩ := bq_bind h
              refine bq_lald S hK dL_law_990 hv hW ?_
              refine lv_iload hx hb dL_law_991 (lv_at hl 0 rfl) ?_
              refine lv_i2l (v := Int32.toInt64 v126.1) hx hb dL_law_993 rfl ?_
              refine W.lcmp hx hb dL_law_994 ?_
              refine lv_if_eq (tgt := 1000) hx hb dL_law_995 (by decide) (fun hc => ?_) (fun hc => ?_)
              · replace h := bq_ifT hc h
                refine lv_goto (tgt := 1618) hx hb dL_law_1000 (by decide) ?_
                obtain ⟨v130, ev130⟩ : ∃ y : Int32, y = y4 + 5 := ⟨_, rfl⟩
                replace h := bq_letE ev130 h
                refine lv_iinc (v := v130) (lv' := [(4, .int v130), (6, .int v126.1), (5, .int v123.1), (0, .ref b), (1, .ref a1), (2, .ref a2), (3, .ref a3)]) hx hb dL_law_1618 hl (k := 6) rfl (by rw [ev130]; rfl) (by decide) rfl (fun ls hl => ?_)
                refine lv_goto (tgt := 23) hx hb dL_law_1621 (by decide) ?_
                exact ih _ _ _ _ _ _ _ h (by omega) (by omega) hW (lv_sub hl [3, 4, 5, 6, 0] rfl)
              · replace h := bq_ifF hc h
                refine lv_iconst (v := 0) hx hb dL_law_998 (by decide) ?_
                cases h
          · replace h := bq_ifF hc h
            refine lv_iconst (v := 0) hx hb dL_law_981 (by decide) ?_
            cases h
        replace h := bq_ifF hc12 h
        by_cases hc13 : (v1 &&& (31 : Int32)) = 13
        · replace h := bq_ifT hc13 h
          refine lv_tableIn (tgt := 1003) (off := 964) hx hb dL_law_39 (by rw [hc13]; decide) (by rw [hc13]; decide) (by rw [hc13]; rfl) (by decide) ?_
          refine lv_aload_n hx hb dL_law_1003 rfl (lv_at hl 1 rfl) ?_
          refine lv_aload_n hx hb dL_law_1004 rfl (lv_at hl 0 rfl) ?_
          refine lv_iload hx hb dL_law_1005 (lv_at hl 4 rfl) ?_
          refine lv_iconst (v := 1) hx hb dL_law_1007 (by decide) ?_
          refine lv_iadd hx hb dL_law_1008 ?_
          obtain ⟨v131, hv, h⟩ := bq_bind h
          refine bq_sld hx hb hX hbl hbA hW.2.2.2 hv dL_law_1009 ?_
          refine lv_aload_n hx hb dL_law_1010 rfl (lv_at hl 3 rfl) ?_
          obtain ⟨v132, hv, h⟩ := bq_bind h
          refine bq_callSL (n := 3) S hK hz hT hN (bq_inSW (bq_wi 774 (by decide +kernel) rfl) (bq_wi 775 (by decide +kernel) rfl) (bq_wi 53 (by decide +kernel) rfl) (bq_wi 776 (by decide +kernel) rfl)) (by decide +kernel) (cl_L_worst hfl hv) dL_law_1011 [.int v132.1] (rest := []) rfl rfl rfl hl.1 (Nat.le_of_ble_eq_true rfl) ⟨Nat.le_of_ble_eq_true rfl, Nat.le_of_ble_eq_true rfl⟩ ⟨by show _ ≤ 601024; omega, by show _ ≤ 7293034; omega⟩ hW (fun H locs hW => ?_)
          refine lv_istore (lv' := [(5, .int v132.1), (0, .ref b), (1, .ref a1), (2, .ref a2), (3, .ref a3), (4, .int y4)]) hx hb dL_law_1014 hl (by decide) rfl (fun ls hl => ?_)
          refine lv_aload_n hx hb dL_law_1016 rfl (lv_at hl 3 rfl) ?_
          refine lv_aload_n hx hb dL_law_1017 rfl (lv_at hl 1 rfl) ?_
          refine lv_iload hx hb dL_law_1018 (lv_at hl 5 rfl) ?_
          refine lv_iconst (v := 1) hx hb dL_law_1020 (by decide) ?_
          refine lv_iadd hx hb dL_law_1021 ?_
          obtain ⟨v133, hv, h⟩ := bq_bind h
          refine bq_sld hx hb hX hbl hbA hW.2.2.2 hv dL_law_1022 ?_
          obtain ⟨v134, hv, h⟩ := bq_bind h
          refine bq_callV S hK hz mv_L_138 (c_X7_worst hv) (kc_X7_worst hv) dL_law_1023 [.int v134.1] (rest := []) rfl rfl rfl hl.1 (Nat.le_of_ble_eq_true rfl) ⟨Nat.le_of_ble_eq_true rfl, Nat.le_of_ble_eq_true rfl⟩ ⟨by show _ ≤ 601024; omega, by show _ ≤ 7293034; omega⟩ hW (fun H locs hW => ?_)
          refine lv_istore (lv' := [(6, .int v134.1), (5, .int v132.1), (0, .ref b), (1, .ref a1), (2, .ref a2), (3, .ref a3), (4, .int y4)]) hx hb dL_law_1026 hl (by decide) rfl (fun ls hl => ?_)
          refine lv_aload_n hx hb dL_law_1028 rfl (lv_at hl 4 rfl) ?_
          obtain ⟨v135, hv, h⟩ := bq_bind h
          refine bq_callV S hK hz mv_L_94 (c_X7_thrown hv) (kc_X7_thrown hv) dL_law_1029 [.int v135] (rest := []) rfl rfl rfl hl.1 (Nat.le_of_ble_eq_true rfl) ⟨Nat.le_of_ble_eq_true rfl, Nat.le_of_ble_eq_true rfl⟩ ⟨by show _ ≤ 601024; omega, by show _ ≤ 7293034; omega⟩ hW (fun H locs hW => ?_)
          refine lv_iload hx hb dL_law_1032 (lv_at hl 1 rfl) ?_
          refine lv_icmp_eq (tgt := 1039) hx hb dL_law_1034 (by decide) (fun hc => ?_) (fun hc => ?_)
          · replace h := bq_ifT hc h
            refine lv_iload hx hb dL_law_1039 (lv_at hl 1 rfl) ?_
            refine lv_if_ne (tgt := 1056) hx hb dL_law_1041 (by decide) (fun hc => ?_) (fun hc => ?_)
            · replace h := bq_ifF hc h
              refine lv_goto (tgt := 1618) hx hb dL_law_1056 (by decide) ?_
              obtain ⟨v136, ev136⟩ : ∃ y : Int32, y = y4 + 5 := ⟨_, rfl⟩
              replace h := bq_letE ev136 h
              refine lv_iinc (v := v136) (lv' := [(4, .int v136), (6, .int v134.1), (5, .int v132.1), (0, .ref b), (1, .ref a1), (2, .ref a2), (3, .ref a3)]) hx hb dL_law_1618 hl (k := 6) rfl (by rw [ev136]; rfl) (by decide) rfl (fun ls hl => ?_)
              refine lv_goto (tgt := 23) hx hb dL_law_1621 (by decide) ?_
              exact ih _ _ _ _ _ _ _ h (by omega) (by omega) hW (lv_sub hl [3, 4, 5, 6, 0] rfl)
            · replace h := bq_ifT hc h
              refine lv_aload_n hx hb dL_law_1044 rfl (lv_at hl 5 rfl) ?_
              refine lv_iconst (v := 0) hx hb dL_law_1045 (by decide) ?_
              obtain ⟨v137, hv, h⟩ := bq_bind h
              refine bq_lald S hK dL_law_1046 hv hW ?_
              refine lv_iload hx hb dL_law_1047 (lv_at hl 0 rfl) ?_
              refine lv_i2l (v := Int32.toInt64 v134.1) hx hb dL_law_1049 rfl ?_
              refine W.lcmp hx hb dL_law_1050 ?_
              refine lv_if_eq (tgt := 1056) hx hb dL_law_1051 (by decide) (fun hc => ?_) (fun hc => ?_)
              · replace h := bq_ifT hc h
                refine lv_goto (tgt := 1618) hx hb dL_law_1056 (by decide) ?_
                obtain ⟨v138, ev138⟩ : ∃ y : Int32, y = y4 + 5 := ⟨_, rfl⟩
                replace h := bq_letE ev138 h
                refine lv_iinc (v := v138) (lv' := [(4, .int v138), (6, .int v134.1), (5, .int v132.1), (0, .ref b), (1, .ref a1), (2, .ref a2), (3, .ref a3)]) hx hb dL_law_1618 hl (k := 6) rfl (by rw [ev138]; rfl) (by decide) rfl (fun ls hl => ?_)
                refine lv_goto (tgt := 23) hx hb dL_law_1621 (by decide) ?_
                exact ih _ _ _ _ _ _ _ h (by omega) (by omega) hW (lv_sub hl [3, 4, 5, 6, 0] rfl)
              · replace h := bq_ifF hc h
                refine lv_iconst (v := 0) hx hb dL_law_1054 (by decide) ?_
                cases h
          · replace h := bq_ifF hc h
            refine lv_iconst (v := 0) hx hb dL_law_1037 (by decide) ?_
            cases h
        replace h := bq_ifF hc13 h
        by_cases hc14 : (v1 &&& (31 : Int32)) = 14
        · replace h := bq_ifT hc14 h
          refine lv_tableIn (tgt := 1059) (off := 1020) hx hb dL_law_39 (by rw [hc14]; decide) (by rw [hc14]; decide) (by rw [hc14]; rfl) (by decide) ?_
          refine lv_aload_n hx hb dL_law_1059 rfl (lv_at hl 1 rfl) ?_
          obtain ⟨v139, hv, h⟩ := bq_bind h
          refine bq_callV S hK hz mv_L_139 (c_X6_nodes hv) (kc_X6_nodes hv) dL_law_1060 [.int v139] (rest := []) rfl rfl rfl hl.1 (Nat.le_of_ble_eq_true rfl) ⟨Nat.le_of_ble_eq_true rfl, Nat.le_of_ble_eq_true rfl⟩ ⟨by show _ ≤ 601024; omega, by show _ ≤ 7293034; omega⟩ hW (fun H locs hW => ?_)
          refine lv_aload_n hx hb dL_law_1063 rfl (lv_at hl 2 rfl) ?_
          obtain ⟨v140, hv, h⟩ := bq_bind h
          refine bq_callV S hK hz mv_L_142 (c_X7_nodes hv) (kc_X7_nodes hv) dL_law_1064 [.int v140.1, .int v139] (rest := [.int v139]) rfl rfl rfl hl.1 (Nat.le_of_ble_eq_true rfl) ⟨Nat.le_of_ble_eq_true rfl, Nat.le_of_ble_eq_true rfl⟩ ⟨by show _ ≤ 601024; omega, by show _ ≤ 7293034; omega⟩ hW (fun H locs hW => ?_)
          refine lv_icmp_eq (tgt := 1618) hx hb dL_law_1067 (by decide) (fun hc => ?_) (fun hc => ?_)
          · replace h := bq_ifT hc h
            obtain ⟨v141, ev141⟩ : ∃ y : Int32, y = y4 + 5 := ⟨_, rfl⟩
            replace h := bq_letE ev141 h
            refine lv_iinc (v := v141) (lv' := [(4, .int v141), (0, .ref b), (1, .ref a1), (2, .ref a2), (3, .ref a3)]) hx hb dL_law_1618 hl (k := 4) rfl (by rw [ev141]; rfl) (by decide) rfl (fun ls hl => ?_)
            refine lv_goto (tgt := 23) hx hb dL_law_1621 (by decide) ?_
            exact ih _ _ _ _ _ _ _ h (by omega) (by omega) hW (lv_sub hl [1, 2, 3, 4, 0] rfl)
          · replace h := bq_ifF hc h
            refine lv_iconst (v := 0) hx hb dL_law_1070 (by decide) ?_
            cases h
        replace h := bq_ifF hc14 h
        by_cases hc15 : (v1 &&& (31 : Int32)) = 15
        · replace h := bq_ifT hc15 h
          refine lv_tableIn (tgt := 1072) (off := 1033) hx hb dL_law_39 (by rw [hc15]; decide) (by rw [hc15]; decide) (by rw [hc15]; rfl) (by decide) ?_
          refine lv_aload_n hx hb dL_law_1072 rfl (lv_at hl 1 rfl) ?_
          refine lv_aload_n hx hb dL_law_1073 rfl (lv_at hl 0 rfl) ?_
          refine lv_iload hx hb dL_law_1074 (lv_at hl 4 rfl) ?_
          refine lv_iconst (v := 1) hx hb dL_law_1076 (by decide) ?_
          refine lv_iadd hx hb dL_law_1077 ?_
          obtain ⟨v142, hv, h⟩ := bq_bind h
          refine bq_sld hx hb hX hbl hbA hW.2.2.2 hv dL_law_1078 ?_
          refine lv_aload_n hx hb dL_law_1079 rfl (lv_at hl 0 rfl) ?_
          refine lv_iload hx hb dL_law_1080 (lv_at hl 4 rfl) ?_
          refine lv_iconst (v := 2) hx hb dL_law_1082 (by decide) ?_
          refine lv_iadd hx hb dL_law_1083 ?_
          obtain ⟨v143, hv, h⟩ := bq_bind h
          refine bq_sld hx hb hX hbl hbA hW.2.2.2 hv dL_law_1084 ?_
          refine lv_aload_n hx hb dL_law_1085 rfl (lv_at hl 3 rfl) ?_
          obtain ⟨v144, hv, h⟩ := bq_bind h
          refine bq_callSL (n := 4) S hK hz hT hN (bq_inSW (bq_wi 781 (by decide +kernel) rfl) (bq_wi 782 (by decide +kernel) rfl) (bq_wi 53 (by decide +kernel) rfl) (bq_wi 783 (by decide +kernel) rfl)) (by decide +kernel) (cl_L_node hfl hv) dL_law_1086 [.int v144.1] (rest := []) rfl rfl rfl hl.1 (Nat.le_of_ble_eq_true rfl) ⟨Nat.le_of_ble_eq_true rfl, Nat.le_of_ble_eq_true rfl⟩ ⟨by show _ ≤ 601024; omega, by show _ ≤ 7293034; omega⟩ hW (fun H locs hW => ?_)
          refine lv_istore (lv' := [(5, .int v144.1), (0, .ref b), (1, .ref a1), (2, .ref a2), (3, .ref a3), (4, .int y4)]) hx hb dL_law_1089 hl (by decide) rfl (fun ls hl => ?_)
          refine lv_aload_n hx hb dL_law_1091 rfl (lv_at hl 3 rfl) ?_
          refine lv_aload_n hx hb dL_law_1092 rfl (lv_at hl 1 rfl) ?_
          refine lv_iload hx hb dL_law_1093 (lv_at hl 5 rfl) ?_
          refine lv_iconst (v := 1) hx hb dL_law_1095 (by decide) ?_
          refine lv_iadd hx hb dL_law_1096 ?_
          obtain ⟨v145, hv, h⟩ := bq_bind h
          refine bq_sld hx hb hX hbl hbA hW.2.2.2 hv dL_law_1097 ?_
          refine lv_aload_n hx hb dL_law_1098 rfl (lv_at hl 1 rfl) ?_
          refine lv_iload hx hb dL_law_1099 (lv_at hl 5 rfl) ?_
          refine lv_iconst (v := 2) hx hb dL_law_1101 (by decide) ?_
          refine lv_iadd hx hb dL_law_1102 ?_
          obtain ⟨v146, hv, h⟩ := bq_bind h
          refine bq_sld hx hb hX hbl hbA hW.2.2.2 hv dL_law_1103 ?_
          obtain ⟨v147, hv, h⟩ := bq_bind h
          refine bq_callV S hK hz mv_L_145 (c_X7_node hv) (kc_X7_node hv) dL_law_1104 [.int v147.1] (rest := []) rfl rfl rfl hl.1 (Nat.le_of_ble_eq_true rfl) ⟨Nat.le_of_ble_eq_true rfl, Nat.le_of_ble_eq_true rfl⟩ ⟨by show _ ≤ 601024; omega, by show _ ≤ 7293034; omega⟩ hW (fun H locs hW => ?_)
          refine lv_istore (lv' := [(6, .int v147.1), (5, .int v144.1), (0, .ref b), (1, .ref a1), (2, .ref a2), (3, .ref a3), (4, .int y4)]) hx hb dL_law_1107 hl (by decide) rfl (fun ls hl => ?_)
          refine lv_aload_n hx hb dL_law_1109 rfl (lv_at hl 4 rfl) ?_
          obtain ⟨v148, hv, h⟩ := bq_bind h
          refine bq_callV S hK hz mv_L_94 (c_X7_thrown hv) (kc_X7_thrown hv) dL_law_1110 [.int v148] (rest := []) rfl rfl rfl hl.1 (Nat.le_of_ble_eq_true rfl) ⟨Nat.le_of_ble_eq_true rfl, Nat.le_of_ble_eq_true rfl⟩ ⟨by show _ ≤ 601024; omega, by show _ ≤ 7293034; omega⟩ hW (fun H locs hW => ?_)
          refine lv_iload hx hb dL_law_1113 (lv_at hl 1 rfl) ?_
          refine lv_icmp_eq (tgt := 1120) hx hb dL_law_1115 (by decide) (fun hc => ?_) (fun hc => ?_)
          · replace h := bq_ifT hc h
            refine lv_iload hx hb dL_law_1120 (lv_at hl 1 rfl) ?_
            refine lv_if_ne (tgt := 1137) hx hb dL_law_1122 (by decide) (fun hc => ?_) (fun hc => ?_)
            · replace h := bq_ifF hc h
              refine lv_goto (tgt := 1618) hx hb dL_law_1137 (by decide) ?_
              obtain ⟨v149, ev149⟩ : ∃ y : Int32, y = y4 + 5 := ⟨_, rfl⟩
              replace h := bq_letE ev149 h
              refine lv_iinc (v := v149) (lv' := [(4, .int v149), (6, .int v147.1), (5, .int v144.1), (0, .ref b), (1, .ref a1), (2, .ref a2), (3, .ref a3)]) hx hb dL_law_1618 hl (k := 6) rfl (by rw [ev149]; rfl) (by decide) rfl (fun ls hl => ?_)
              refine lv_goto (tgt := 23) hx hb dL_law_1621 (by decide) ?_
              exact ih _ _ _ _ _ _ _ h (by omega) (by omega) hW (lv_sub hl [3, 4, 5, 6, 0] rfl)
            · replace h := bq_ifT hc h
              refine lv_aload_n hx hb dL_law_1125 rfl (lv_at hl 5 rfl) ?_
              refine lv_iconst (v := 0) hx hb dL_law_1126 (by decide) ?_
              obtain ⟨v150, hv, h⟩ := bq_bind h
              refine bq_lald S hK dL_law_1127 hv hW ?_
              refine lv_iload hx hb dL_law_1128 (lv_at hl 0 rfl) ?_
              refine lv_i2l (v := Int32.toInt64 v147.1) hx hb dL_law_1130 rfl ?_
              refine W.lcmp hx hb dL_law_1131 ?_
              refine lv_if_eq (tgt := 1137) hx hb dL_law_1132 (by decide) (fun hc => ?_) (fun hc => ?_)
              · replace h := bq_ifT hc h
                refine lv_goto (tgt := 1618) hx hb dL_law_1137 (by decide) ?_
                obtain ⟨v151, ev151⟩ : ∃ y : Int32, y = y4 + 5 := ⟨_, rfl⟩
                replace h := bq_letE ev151 h
                refine lv_iinc (v := v151) (lv' := [(4, .int v151), (6, .int v147.1), (5, .int v144.1), (0, .ref b), (1, .ref a1), (2, .ref a2), (3, .ref a3)]) hx hb dL_law_1618 hl (k := 6) rfl (by rw [ev151]; rfl) (by decide) rfl (fun ls hl => ?_)
                refine lv_goto (tgt := 23) hx hb dL_law_1621 (by decide) ?_
                exact ih _ _ _ _ _ _ _ h (by omega) (by omega) hW (lv_sub hl [3, 4, 5, 6, 0] rfl)
              · replace h := bq_ifF hc h
                refine lv_iconst (v := 0) hx hb dL_law_1135 (by decide) ?_
                cases h
          · replace h := bq_ifF hc h
            refine lv_iconst (v := 0) hx hb dL_law_1118 (by decide) ?_
            cases h
        replace h := bq_ifF hc15 h
        by_cases hc16 : (v1 &&& (31 : Int32)) = 16
        · replace h := bq_ifT hc16 h
          refine lv_tableIn (tgt := 1140) (off := 1101) hx hb dL_law_39 (by rw [hc16]; decide) (by rw [hc16]; decide) (by rw [hc16]; rfl) (by decide) ?_
          refine lv_aload_n hx hb dL_law_1140 rfl (lv_at hl 1 rfl) ?_
          refine lv_aload_n hx hb dL_law_1141 rfl (lv_at hl 0 rfl) ?_
          refine lv_iload hx hb dL_law_1142 (lv_at hl 4 rfl) ?_
          refine lv_iconst (v := 1) hx hb dL_law_1144 (by decide) ?_
          refine lv_iadd hx hb dL_law_1145 ?_
          obtain ⟨v152, hv, h⟩ := bq_bind h
          refine bq_sld hx hb hX hbl hbA hW.2.2.2 hv dL_law_1146 ?_
          refine lv_aload_n hx hb dL_law_1147 rfl (lv_at hl 0 rfl) ?_
          refine lv_iload hx hb dL_law_1148 (lv_at hl 4 rfl) ?_
          refine lv_iconst (v := 2) hx hb dL_law_1150 (by decide) ?_
          refine lv_iadd hx hb dL_law_1151 ?_
          obtain ⟨v153, hv, h⟩ := bq_bind h
          refine bq_sld hx hb hX hbl hbA hW.2.2.2 hv dL_law_1152 ?_
          refine lv_aload_n hx hb dL_law_1153 rfl (lv_at hl 3 rfl) ?_
          obtain ⟨v154, hv, h⟩ := bq_bind h
          refine bq_callSL (n := 4) S hK hz hT hN (bq_inSW (bq_wi 785 (by decide +kernel) rfl) (bq_wi 786 (by decide +kernel) rfl) (bq_wi 53 (by decide +kernel) rfl) (bq_wi 787 (by decide +kernel) rfl)) (by decide +kernel) (cl_L_key hfl hv) dL_law_1154 [.int v154.1] (rest := []) rfl rfl rfl hl.1 (Nat.le_of_ble_eq_true rfl) ⟨Nat.le_of_ble_eq_true rfl, Nat.le_of_ble_eq_true rfl⟩ ⟨by show _ ≤ 601024; omega, by show _ ≤ 7293034; omega⟩ hW (fun H locs hW => ?_)
          refine lv_istore (lv' := [(5, .int v154.1), (0, .ref b), (1, .ref a1), (2, .ref a2), (3, .ref a3), (4, .int y4)]) hx hb dL_law_1157 hl (by decide) rfl (fun ls hl => ?_)
          refine lv_aload_n hx hb dL_law_1159 rfl (lv_at hl 3 rfl) ?_
          refine lv_aload_n hx hb dL_law_1160 rfl (lv_at hl 1 rfl) ?_
          refine lv_iload hx hb dL_law_1161 (lv_at hl 5 rfl) ?_
          refine lv_iconst (v := 1) hx hb dL_law_1163 (by decide) ?_
          refine lv_iadd hx hb dL_law_1164 ?_
          obtain ⟨v155, hv, h⟩ := bq_bind h
          refine bq_sld hx hb hX hbl hbA hW.2.2.2 hv dL_law_1165 ?_
          refine lv_aload_n hx hb dL_law_1166 rfl (lv_at hl 1 rfl) ?_
          refine lv_iload hx hb dL_law_1167 (lv_at hl 5 rfl) ?_
          refine lv_iconst (v := 2) hx hb dL_law_1169 (by decide) ?_
          refine lv_iadd hx hb dL_law_1170 ?_
          obtain ⟨v156, hv, h⟩ := bq_bind h
          refine bq_sld hx hb hX hbl hbA hW.2.2.2 hv dL_law_1171 ?_
          obtain ⟨v157, hv, h⟩ := bq_bind h
          refine bq_callV S hK hz mv_L_148 (c_X7_key hv) (kc_X7_key hv) dL_law_1172 [.int v157.1] (rest := []) rfl rfl rfl hl.1 (Nat.le_of_ble_eq_true rfl) ⟨Nat.le_of_ble_eq_true rfl, Nat.le_of_ble_eq_true rfl⟩ ⟨by show _ ≤ 601024; omega, by show _ ≤ 7293034; omega⟩ hW (fun H locs hW => ?_)
          refine lv_istore (lv' := [(6, .int v157.1), (5, .int v154.1), (0, .ref b), (1, .ref a1), (2, .ref a2), (3, .ref a3), (4, .int y4)]) hx hb dL_law_1175 hl (by decide) rfl (fun ls hl => ?_)
          refine lv_aload_n hx hb dL_law_1177 rfl (lv_at hl 4 rfl) ?_
          obtain ⟨v158, hv, h⟩ := bq_bind h
          refine bq_callV S hK hz mv_L_94 (c_X7_thrown hv) (kc_X7_thrown hv) dL_law_1178 [.int v158] (rest := []) rfl rfl rfl hl.1 (Nat.le_of_ble_eq_true rfl) ⟨Nat.le_of_ble_eq_true rfl, Nat.le_of_ble_eq_true rfl⟩ ⟨by show _ ≤ 601024; omega, by show _ ≤ 7293034; omega⟩ hW (fun H locs hW => ?_)
          refine lv_iload hx hb dL_law_1181 (lv_at hl 1 rfl) ?_
          refine lv_icmp_eq (tgt := 1188) hx hb dL_law_1183 (by decide) (fun hc => ?_) (fun hc => ?_)
          · replace h := bq_ifT hc h
            refine lv_iload hx hb dL_law_1188 (lv_at hl 1 rfl) ?_
            refine lv_if_ne (tgt := 1205) hx hb dL_law_1190 (by decide) (fun hc => ?_) (fun hc => ?_)
            · replace h := bq_ifF hc h
              refine lv_goto (tgt := 1618) hx hb dL_law_1205 (by decide) ?_
              obtain ⟨v159, ev159⟩ : ∃ y : Int32, y = y4 + 5 := ⟨_, rfl⟩
              replace h := bq_letE ev159 h
              refine lv_iinc (v := v159) (lv' := [(4, .int v159), (6, .int v157.1), (5, .int v154.1), (0, .ref b), (1, .ref a1), (2, .ref a2), (3, .ref a3)]) hx hb dL_law_1618 hl (k := 6) rfl (by rw [ev159]; rfl) (by decide) rfl (fun ls hl => ?_)
              refine lv_goto (tgt := 23) hx hb dL_law_1621 (by decide) ?_
              exact ih _ _ _ _ _ _ _ h (by omega) (by omega) hW (lv_sub hl [3, 4, 5, 6, 0] rfl)
            · replace h := bq_ifT hc h
              refine lv_aload_n hx hb dL_law_1193 rfl (lv_at hl 5 rfl) ?_
              refine lv_iconst (v := 0) hx hb dL_law_1194 (by decide) ?_
              obtain ⟨v160, hv, h⟩ := bq_bind h
              refine bq_lald S hK dL_law_1195 hv hW ?_
              refine lv_iload hx hb dL_law_1196 (lv_at hl 0 rfl) ?_
              refine lv_i2l (v := Int32.toInt64 v157.1) hx hb dL_law_1198 rfl ?_
              refine W.lcmp hx hb dL_law_1199 ?_
              refine lv_if_eq (tgt := 1205) hx hb dL_law_1200 (by decide) (fun hc => ?_) (fun hc => ?_)
              · replace h := bq_ifT hc h
                refine lv_goto (tgt := 1618) hx hb dL_law_1205 (by decide) ?_
                obtain ⟨v161, ev161⟩ : ∃ y : Int32, y = y4 + 5 := ⟨_, rfl⟩
                replace h := bq_letE ev161 h
                refine lv_iinc (v := v161) (lv' := [(4, .int v161), (6, .int v157.1), (5, .int v154.1), (0, .ref b), (1, .ref a1), (2, .ref a2), (3, .ref a3)]) hx hb dL_law_1618 hl (k := 6) rfl (by rw [ev161]; rfl) (by decide) rfl (fun ls hl => ?_)
                refine lv_goto (tgt := 23) hx hb dL_law_1621 (by decide) ?_
                exact ih _ _ _ _ _ _ _ h (by omega) (by omega) hW (lv_sub hl [3, 4, 5, 6, 0] rfl)
              · replace h := bq_ifF hc h
                refine lv_iconst (v := 0) hx hb dL_law_1203 (by decide) ?_
                cases h
          · replace h := bq_ifF hc h
            refine lv_iconst (v := 0) hx hb dL_law_1186 (by decide) ?_
            cases h
        replace h := bq_ifF hc16 h
        by_cases hc17 : (v1 &&& (31 : Int32)) = 17
        · replace h := bq_ifT hc17 h
          refine lv_tableIn (tgt := 1208) (off := 1169) hx hb dL_law_39 (by rw [hc17]; decide) (by rw [hc17]; decide) (by rw [hc17]; rfl) (by decide) ?_
          refine lv_aload_n hx hb dL_law_1208 rfl (lv_at hl 1 rfl) ?_
          refine lv_aload_n hx hb dL_law_1209 rfl (lv_at hl 0 rfl) ?_
          refine lv_iload hx hb dL_law_1210 (lv_at hl 4 rfl) ?_
          refine lv_iconst (v := 1) hx hb dL_law_1212 (by decide) ?_
          refine lv_iadd hx hb dL_law_1213 ?_
          obtain ⟨v162, hv, h⟩ := bq_bind h
          refine bq_sld hx hb hX hbl hbA hW.2.2.2 hv dL_law_1214 ?_
          refine lv_aload_n hx hb dL_law_1215 rfl (lv_at hl 0 rfl) ?_
          refine lv_iload hx hb dL_law_1216 (lv_at hl 4 rfl) ?_
          refine lv_iconst (v := 2) hx hb dL_law_1218 (by decide) ?_
          refine lv_iadd hx hb dL_law_1219 ?_
          obtain ⟨v163, hv, h⟩ := bq_bind h
          refine bq_sld hx hb hX hbl hbA hW.2.2.2 hv dL_law_1220 ?_
          refine lv_aload_n hx hb dL_law_1221 rfl (lv_at hl 3 rfl) ?_
          obtain ⟨v164, hv, h⟩ := bq_bind h
          refine bq_callSL (n := 4) S hK hz hT hN (bq_inSW (bq_wi 798 (by decide +kernel) rfl) (bq_wi 799 (by decide +kernel) rfl) (bq_wi 53 (by decide +kernel) rfl) (bq_wi 800 (by decide +kernel) rfl)) (by decide +kernel) (cl_L_baseKey hfl hv) dL_law_1222 [.int v164.1] (rest := []) rfl rfl rfl hl.1 (Nat.le_of_ble_eq_true rfl) ⟨Nat.le_of_ble_eq_true rfl, Nat.le_of_ble_eq_true rfl⟩ ⟨by show _ ≤ 601024; omega, by show _ ≤ 7293034; omega⟩ hW (fun H locs hW => ?_)
          refine lv_istore (lv' := [(5, .int v164.1), (0, .ref b), (1, .ref a1), (2, .ref a2), (3, .ref a3), (4, .int y4)]) hx hb dL_law_1225 hl (by decide) rfl (fun ls hl => ?_)
          refine lv_aload_n hx hb dL_law_1227 rfl (lv_at hl 3 rfl) ?_
          refine lv_aload_n hx hb dL_law_1228 rfl (lv_at hl 1 rfl) ?_
          refine lv_iload hx hb dL_law_1229 (lv_at hl 5 rfl) ?_
          refine lv_iconst (v := 1) hx hb dL_law_1231 (by decide) ?_
          refine lv_iadd hx hb dL_law_1232 ?_
          obtain ⟨v165, hv, h⟩ := bq_bind h
          refine bq_sld hx hb hX hbl hbA hW.2.2.2 hv dL_law_1233 ?_
          refine lv_aload_n hx hb dL_law_1234 rfl (lv_at hl 1 rfl) ?_
          refine lv_iload hx hb dL_law_1235 (lv_at hl 5 rfl) ?_
          refine lv_iconst (v := 2) hx hb dL_law_1237 (by decide) ?_
          refine lv_iadd hx hb dL_law_1238 ?_
          obtain ⟨v166, hv, h⟩ := bq_bind h
          refine bq_sld hx hb hX hbl hbA hW.2.2.2 hv dL_law_1239 ?_
          obtain ⟨v167, hv, h⟩ := bq_bind h
          refine bq_callV S hK hz mv_L_151 (c_X7_baseKey hv) (kc_X7_baseKey hv) dL_law_1240 [.int v167.1] (rest := []) rfl rfl rfl hl.1 (Nat.le_of_ble_eq_true rfl) ⟨Nat.le_of_ble_eq_true rfl, Nat.le_of_ble_eq_true rfl⟩ ⟨by show _ ≤ 601024; omega, by show _ ≤ 7293034; omega⟩ hW (fun H locs hW => ?_)
          refine lv_istore (lv' := [(6, .int v167.1), (5, .int v164.1), (0, .ref b), (1, .ref a1), (2, .ref a2), (3, .ref a3), (4, .int y4)]) hx hb dL_law_1243 hl (by decide) rfl (fun ls hl => ?_)
          refine lv_aload_n hx hb dL_law_1245 rfl (lv_at hl 4 rfl) ?_
          obtain ⟨v168, hv, h⟩ := bq_bind h
          refine bq_callV S hK hz mv_L_94 (c_X7_thrown hv) (kc_X7_thrown hv) dL_law_1246 [.int v168] (rest := []) rfl rfl rfl hl.1 (Nat.le_of_ble_eq_true rfl) ⟨Nat.le_of_ble_eq_true rfl, Nat.le_of_ble_eq_true rfl⟩ ⟨by show _ ≤ 601024; omega, by show _ ≤ 7293034; omega⟩ hW (fun H locs hW => ?_)
          refine lv_iload hx hb dL_law_1249 (lv_at hl 1 rfl) ?_
          refine lv_icmp_eq (tgt := 1256) hx hb dL_law_1251 (by decide) (fun hc => ?_) (fun hc => ?_)
          · replace h := bq_ifT hc h
            refine lv_iload hx hb dL_law_1256 (lv_at hl 1 rfl) ?_
            refine lv_if_ne (tgt := 1273) hx hb dL_law_1258 (by decide) (fun hc => ?_) (fun hc => ?_)
            · replace h := bq_ifF hc h
              refine lv_goto (tgt := 1618) hx hb dL_law_1273 (by decide) ?_
              obtain ⟨v169, ev169⟩ : ∃ y : Int32, y = y4 + 5 := ⟨_, rfl⟩
              replace h := bq_letE ev169 h
              refine lv_iinc (v := v169) (lv' := [(4, .int v169), (6, .int v167.1), (5, .int v164.1), (0, .ref b), (1, .ref a1), (2, .ref a2), (3, .ref a3)]) hx hb dL_law_1618 hl (k := 6) rfl (by rw [ev169]; rfl) (by decide) rfl (fun ls hl => ?_)
              refine lv_goto (tgt := 23) hx hb dL_law_1621 (by decide) ?_
              exact ih _ _ _ _ _ _ _ h (by omega) (by omega) hW (lv_sub hl [3, 4, 5, 6, 0] rfl)
            · replace h := bq_ifT hc h
              refine lv_aload_n hx hb dL_law_1261 rfl (lv_at hl 5 rfl) ?_
              refine lv_iconst (v := 0) hx hb dL_law_1262 (by decide) ?_
              obtain ⟨v170, hv, h⟩ := bq_bind h
              refine bq_lald S hK dL_law_1263 hv hW ?_
              refine lv_iload hx hb dL_law_1264 (lv_at hl 0 rfl) ?_
              refine lv_i2l (v := Int32.toInt64 v167.1) hx hb dL_law_1266 rfl ?_
              refine W.lcmp hx hb dL_law_1267 ?_
              refine lv_if_eq (tgt := 1273) hx hb dL_law_1268 (by decide) (fun hc => ?_) (fun hc => ?_)
              · replace h := bq_ifT hc h
                refine lv_goto (tgt := 1618) hx hb dL_law_1273 (by decide) ?_
                obtain ⟨v171, ev171⟩ : ∃ y : Int32, y = y4 + 5 := ⟨_, rfl⟩
                replace h := bq_letE ev171 h
                refine lv_iinc (v := v171) (lv' := [(4, .int v171), (6, .int v167.1), (5, .int v164.1), (0, .ref b), (1, .ref a1), (2, .ref a2), (3, .ref a3)]) hx hb dL_law_1618 hl (k := 6) rfl (by rw [ev171]; rfl) (by decide) rfl (fun ls hl => ?_)
                refine lv_goto (tgt := 23) hx hb dL_law_1621 (by decide) ?_
                exact ih _ _ _ _ _ _ _ h (by omega) (by omega) hW (lv_sub hl [3, 4, 5, 6, 0] rfl)
              · replace h := bq_ifF hc h
                refine lv_iconst (v := 0) hx hb dL_law_1271 (by decide) ?_
                cases h
          · replace h := bq_ifF hc h
            refine lv_iconst (v := 0) hx hb dL_law_1254 (by decide) ?_
            cases h
        replace h := bq_ifF hc17 h
        by_cases hc18 : (v1 &&& (31 : Int32)) = 18
        · replace h := bq_ifT hc18 h
          refine lv_tableIn (tgt := 1276) (off := 1237) hx hb dL_law_39 (by rw [hc18]; decide) (by rw [hc18]; decide) (by rw [hc18]; rfl) (by decide) ?_
          refine lv_aload_n hx hb dL_law_1276 rfl (lv_at hl 1 rfl) ?_
          refine lv_aload_n hx hb dL_law_1277 rfl (lv_at hl 0 rfl) ?_
          refine lv_iload hx hb dL_law_1278 (lv_at hl 4 rfl) ?_
          refine lv_iconst (v := 1) hx hb dL_law_1280 (by decide) ?_
          refine lv_iadd hx hb dL_law_1281 ?_
          obtain ⟨v172, hv, h⟩ := bq_bind h
          refine bq_sld hx hb hX hbl hbA hW.2.2.2 hv dL_law_1282 ?_
          refine lv_aload_n hx hb dL_law_1283 rfl (lv_at hl 0 rfl) ?_
          refine lv_iload hx hb dL_law_1284 (lv_at hl 4 rfl) ?_
          refine lv_iconst (v := 2) hx hb dL_law_1286 (by decide) ?_
          refine lv_iadd hx hb dL_law_1287 ?_
          obtain ⟨v173, hv, h⟩ := bq_bind h
          refine bq_sld hx hb hX hbl hbA hW.2.2.2 hv dL_law_1288 ?_
          refine lv_aload_n hx hb dL_law_1289 rfl (lv_at hl 3 rfl) ?_
          obtain ⟨v174, hv, h⟩ := bq_bind h
          refine bq_callSL (n := 4) S hK hz hT hN (bq_inSW (bq_wi 802 (by decide +kernel) rfl) (bq_wi 803 (by decide +kernel) rfl) (bq_wi 53 (by decide +kernel) rfl) (bq_wi 804 (by decide +kernel) rfl)) (by decide +kernel) (cl_L_bufferKey hfl hv) dL_law_1290 [.int v174.1] (rest := []) rfl rfl rfl hl.1 (Nat.le_of_ble_eq_true rfl) ⟨Nat.le_of_ble_eq_true rfl, Nat.le_of_ble_eq_true rfl⟩ ⟨by show _ ≤ 601024; omega, by show _ ≤ 7293034; omega⟩ hW (fun H locs hW => ?_)
          refine lv_istore (lv' := [(5, .int v174.1), (0, .ref b), (1, .ref a1), (2, .ref a2), (3, .ref a3), (4, .int y4)]) hx hb dL_law_1293 hl (by decide) rfl (fun ls hl => ?_)
          refine lv_aload_n hx hb dL_law_1295 rfl (lv_at hl 3 rfl) ?_
          refine lv_aload_n hx hb dL_law_1296 rfl (lv_at hl 1 rfl) ?_
          refine lv_iload hx hb dL_law_1297 (lv_at hl 5 rfl) ?_
          refine lv_iconst (v := 1) hx hb dL_law_1299 (by decide) ?_
          refine lv_iadd hx hb dL_law_1300 ?_
          obtain ⟨v175, hv, h⟩ := bq_bind h
          refine bq_sld hx hb hX hbl hbA hW.2.2.2 hv dL_law_1301 ?_
          refine lv_aload_n hx hb dL_law_1302 rfl (lv_at hl 1 rfl) ?_
          refine lv_iload hx hb dL_law_1303 (lv_at hl 5 rfl) ?_
          refine lv_iconst (v := 2) hx hb dL_law_1305 (by decide) ?_
          refine lv_iadd hx hb dL_law_1306 ?_
          obtain ⟨v176, hv, h⟩ := bq_bind h
          refine bq_sld hx hb hX hbl hbA hW.2.2.2 hv dL_law_1307 ?_
          obtain ⟨v177, hv, h⟩ := bq_bind h
          refine bq_callV S hK hz mv_L_154 (c_X7_bufferKey hv) (kc_X7_bufferKey hv) dL_law_1308 [.int v177.1] (rest := []) rfl rfl rfl hl.1 (Nat.le_of_ble_eq_true rfl) ⟨Nat.le_of_ble_eq_true rfl, Nat.le_of_ble_eq_true rfl⟩ ⟨by show _ ≤ 601024; omega, by show _ ≤ 7293034; omega⟩ hW (fun H locs hW => ?_)
          refine lv_istore (lv' := [(6, .int v177.1), (5, .int v174.1), (0, .ref b), (1, .ref a1), (2, .ref a2), (3, .ref a3), (4, .int y4)]) hx hb dL_law_1311 hl (by decide) rfl (fun ls hl => ?_)
          refine lv_aload_n hx hb dL_law_1313 rfl (lv_at hl 4 rfl) ?_
          obtain ⟨v178, hv, h⟩ := bq_bind h
          refine bq_callV S hK hz mv_L_94 (c_X7_thrown hv) (kc_X7_thrown hv) dL_law_1314 [.int v178] (rest := []) rfl rfl rfl hl.1 (Nat.le_of_ble_eq_true rfl) ⟨Nat.le_of_ble_eq_true rfl, Nat.le_of_ble_eq_true rfl⟩ ⟨by show _ ≤ 601024; omega, by show _ ≤ 7293034; omega⟩ hW (fun H locs hW => ?_)
          refine lv_iload hx hb dL_law_1317 (lv_at hl 1 rfl) ?_
          refine lv_icmp_eq (tgt := 1324) hx hb dL_law_1319 (by decide) (fun hc => ?_) (fun hc => ?_)
          · replace h := bq_ifT hc h
            refine lv_iload hx hb dL_law_1324 (lv_at hl 1 rfl) ?_
            refine lv_if_ne (tgt := 1341) hx hb dL_law_1326 (by decide) (fun hc => ?_) (fun hc => ?_)
            · replace h := bq_ifF hc h
              refine lv_goto (tgt := 1618) hx hb dL_law_1341 (by decide) ?_
              obtain ⟨v179, ev179⟩ : ∃ y : Int32, y = y4 + 5 := ⟨_, rfl⟩
              replace h := bq_letE ev179 h
              refine lv_iinc (v := v179) (lv' := [(4, .int v179), (6, .int v177.1), (5, .int v174.1), (0, .ref b), (1, .ref a1), (2, .ref a2), (3, .ref a3)]) hx hb dL_law_1618 hl (k := 6) rfl (by rw [ev179]; rfl) (by decide) rfl (fun ls hl => ?_)
              refine lv_goto (tgt := 23) hx hb dL_law_1621 (by decide) ?_
              exact ih _ _ _ _ _ _ _ h (by omega) (by omega) hW (lv_sub hl [3, 4, 5, 6, 0] rfl)
            · replace h := bq_ifT hc h
              refine lv_aload_n hx hb dL_law_1329 rfl (lv_at hl 5 rfl) ?_
              refine lv_iconst (v := 0) hx hb dL_law_1330 (by decide) ?_
              obtain ⟨v180, hv, h⟩ := bq_bind h
              refine bq_lald S hK dL_law_1331 hv hW ?_
              refine lv_iload hx hb dL_law_1332 (lv_at hl 0 rfl) ?_
              refine lv_i2l (v := Int32.toInt64 v177.1) hx hb dL_law_1334 rfl ?_
              refine W.lcmp hx hb dL_law_1335 ?_
              refine lv_if_eq (tgt := 1341) hx hb dL_law_1336 (by decide) (fun hc => ?_) (fun hc => ?_)
              · replace h := bq_ifT hc h
                refine lv_goto (tgt := 1618) hx hb dL_law_1341 (by decide) ?_
                obtain ⟨v181, ev181⟩ : ∃ y : Int32, y = y4 + 5 := ⟨_, rfl⟩
                replace h := bq_letE ev181 h
                refine lv_iinc (v := v181) (lv' := [(4, .int v181), (6, .int v177.1), (5, .int v174.1), (0, .ref b), (1, .ref a1), (2, .ref a2), (3, .ref a3)]) hx hb dL_law_1618 hl (k := 6) rfl (by rw [ev181]; rfl) (by decide) rfl (fun ls hl => ?_)
                refine lv_goto (tgt := 23) hx hb dL_law_1621 (by decide) ?_
                exact ih _ _ _ _ _ _ _ h (by omega) (by omega) hW (lv_sub hl [3, 4, 5, 6, 0] rfl)
              · replace h := bq_ifF hc h
                refine lv_iconst (v := 0) hx hb dL_law_1339 (by decide) ?_
                cases h
          · replace h := bq_ifF hc h
            refine lv_iconst (v := 0) hx hb dL_law_1322 (by decide) ?_
            cases h
        replace h := bq_ifF hc18 h
        by_cases hc19 : (v1 &&& (31 : Int32)) = 19
        · replace h := bq_ifT hc19 h
          refine lv_tableIn (tgt := 1344) (off := 1305) hx hb dL_law_39 (by rw [hc19]; decide) (by rw [hc19]; decide) (by rw [hc19]; rfl) (by decide) ?_
          refine lv_aload_n hx hb dL_law_1344 rfl (lv_at hl 1 rfl) ?_
          refine lv_aload_n hx hb dL_law_1345 rfl (lv_at hl 0 rfl) ?_
          refine lv_iload hx hb dL_law_1346 (lv_at hl 4 rfl) ?_
          refine lv_iconst (v := 1) hx hb dL_law_1348 (by decide) ?_
          refine lv_iadd hx hb dL_law_1349 ?_
          obtain ⟨v182, hv, h⟩ := bq_bind h
          refine bq_sld hx hb hX hbl hbA hW.2.2.2 hv dL_law_1350 ?_
          refine lv_aload_n hx hb dL_law_1351 rfl (lv_at hl 0 rfl) ?_
          refine lv_iload hx hb dL_law_1352 (lv_at hl 4 rfl) ?_
          refine lv_iconst (v := 2) hx hb dL_law_1354 (by decide) ?_
          refine lv_iadd hx hb dL_law_1355 ?_
          obtain ⟨v183, hv, h⟩ := bq_bind h
          refine bq_sld hx hb hX hbl hbA hW.2.2.2 hv dL_law_1356 ?_
          refine lv_aload_n hx hb dL_law_1357 rfl (lv_at hl 0 rfl) ?_
          refine lv_iload hx hb dL_law_1358 (lv_at hl 4 rfl) ?_
          refine lv_iconst (v := 3) hx hb dL_law_1360 (by decide) ?_
          refine lv_iadd hx hb dL_law_1361 ?_
          obtain ⟨v184, hv, h⟩ := bq_bind h
          refine bq_sld hx hb hX hbl hbA hW.2.2.2 hv dL_law_1362 ?_
          refine lv_aload_n hx hb dL_law_1363 rfl (lv_at hl 3 rfl) ?_
          obtain ⟨v185, hv, h⟩ := bq_bind h
          refine bq_callSL (n := 5) S hK hz hT hN (bq_inSW (bq_wi 806 (by decide +kernel) rfl) (bq_wi 807 (by decide +kernel) rfl) (bq_wi 53 (by decide +kernel) rfl) (bq_wi 808 (by decide +kernel) rfl)) (by decide +kernel) (cl_L_entry hfl hv) dL_law_1364 [.int v185.1] (rest := []) rfl rfl rfl hl.1 (Nat.le_of_ble_eq_true rfl) ⟨Nat.le_of_ble_eq_true rfl, Nat.le_of_ble_eq_true rfl⟩ ⟨by show _ ≤ 601024; omega, by show _ ≤ 7293034; omega⟩ hW (fun H locs hW => ?_)
          refine lv_istore (lv' := [(5, .int v185.1), (0, .ref b), (1, .ref a1), (2, .ref a2), (3, .ref a3), (4, .int y4)]) hx hb dL_law_1367 hl (by decide) rfl (fun ls hl => ?_)
          refine lv_aload_n hx hb dL_law_1369 rfl (lv_at hl 3 rfl) ?_
          refine lv_aload_n hx hb dL_law_1370 rfl (lv_at hl 1 rfl) ?_
          refine lv_iload hx hb dL_law_1371 (lv_at hl 5 rfl) ?_
          refine lv_iconst (v := 1) hx hb dL_law_1373 (by decide) ?_
          refine lv_iadd hx hb dL_law_1374 ?_
          obtain ⟨v186, hv, h⟩ := bq_bind h
          refine bq_sld hx hb hX hbl hbA hW.2.2.2 hv dL_law_1375 ?_
          refine lv_aload_n hx hb dL_law_1376 rfl (lv_at hl 1 rfl) ?_
          refine lv_iload hx hb dL_law_1377 (lv_at hl 5 rfl) ?_
          refine lv_iconst (v := 2) hx hb dL_law_1379 (by decide) ?_
          refine lv_iadd hx hb dL_law_1380 ?_
          obtain ⟨v187, hv, h⟩ := bq_bind h
          refine bq_sld hx hb hX hbl hbA hW.2.2.2 hv dL_law_1381 ?_
          refine lv_aload_n hx hb dL_law_1382 rfl (lv_at hl 1 rfl) ?_
          refine lv_iload hx hb dL_law_1383 (lv_at hl 5 rfl) ?_
          refine lv_iconst (v := 3) hx hb dL_law_1385 (by decide) ?_
          refine lv_iadd hx hb dL_law_1386 ?_
          obtain ⟨v188, hv, h⟩ := bq_bind h
          refine bq_sld hx hb hX hbl hbA hW.2.2.2 hv dL_law_1387 ?_
          obtain ⟨v189, hv, h⟩ := bq_bind h
          refine bq_callV S hK hz mv_L_158 (c_X7_entry hv) (kc_X7_entry hv) dL_law_1388 [.int v189.1] (rest := []) rfl rfl rfl hl.1 (Nat.le_of_ble_eq_true rfl) ⟨Nat.le_of_ble_eq_true rfl, Nat.le_of_ble_eq_true rfl⟩ ⟨by show _ ≤ 601024; omega, by show _ ≤ 7293034; omega⟩ hW (fun H locs hW => ?_)
          refine lv_istore (lv' := [(6, .int v189.1), (5, .int v185.1), (0, .ref b), (1, .ref a1), (2, .ref a2), (3, .ref a3), (4, .int y4)]) hx hb dL_law_1391 hl (by decide) rfl (fun ls hl => ?_)
          refine lv_aload_n hx hb dL_law_1393 rfl (lv_at hl 4 rfl) ?_
          obtain ⟨v190, hv, h⟩ := bq_bind h
          refine bq_callV S hK hz mv_L_94 (c_X7_thrown hv) (kc_X7_thrown hv) dL_law_1394 [.int v190] (rest := []) rfl rfl rfl hl.1 (Nat.le_of_ble_eq_true rfl) ⟨Nat.le_of_ble_eq_true rfl, Nat.le_of_ble_eq_true rfl⟩ ⟨by show _ ≤ 601024; omega, by show _ ≤ 7293034; omega⟩ hW (fun H locs hW => ?_)
          refine lv_iload hx hb dL_law_1397 (lv_at hl 1 rfl) ?_
          refine lv_icmp_eq (tgt := 1404) hx hb dL_law_1399 (by decide) (fun hc => ?_) (fun hc => ?_)
          · replace h := bq_ifT hc h
            refine lv_iload hx hb dL_law_1404 (lv_at hl 1 rfl) ?_
            refine lv_if_ne (tgt := 1421) hx hb dL_law_1406 (by decide) (fun hc => ?_) (fun hc => ?_)
            · replace h := bq_ifF hc h
              refine lv_goto (tgt := 1618) hx hb dL_law_1421 (by decide) ?_
              obtain ⟨v191, ev191⟩ : ∃ y : Int32, y = y4 + 5 := ⟨_, rfl⟩
              replace h := bq_letE ev191 h
              refine lv_iinc (v := v191) (lv' := [(4, .int v191), (6, .int v189.1), (5, .int v185.1), (0, .ref b), (1, .ref a1), (2, .ref a2), (3, .ref a3)]) hx hb dL_law_1618 hl (k := 6) rfl (by rw [ev191]; rfl) (by decide) rfl (fun ls hl => ?_)
              refine lv_goto (tgt := 23) hx hb dL_law_1621 (by decide) ?_
              exact ih _ _ _ _ _ _ _ h (by omega) (by omega) hW (lv_sub hl [3, 4, 5, 6, 0] rfl)
            · replace h := bq_ifT hc h
              refine lv_aload_n hx hb dL_law_1409 rfl (lv_at hl 5 rfl) ?_
              refine lv_iconst (v := 0) hx hb dL_law_1410 (by decide) ?_
              obtain ⟨v192, hv, h⟩ := bq_bind h
              refine bq_lald S hK dL_law_1411 hv hW ?_
              refine lv_iload hx hb dL_law_1412 (lv_at hl 0 rfl) ?_
              refine lv_i2l (v := Int32.toInt64 v189.1) hx hb dL_law_1414 rfl ?_
              refine W.lcmp hx hb dL_law_1415 ?_
              refine lv_if_eq (tgt := 1421) hx hb dL_law_1416 (by decide) (fun hc => ?_) (fun hc => ?_)
              · replace h := bq_ifT hc h
                refine lv_goto (tgt := 1618) hx hb dL_law_1421 (by decide) ?_
                obtain ⟨v193, ev193⟩ : ∃ y : Int32, y = y4 + 5 := ⟨_, rfl⟩
                replace h := bq_letE ev193 h
                refine lv_iinc (v := v193) (lv' := [(4, .int v193), (6, .int v189.1), (5, .int v185.1), (0, .ref b), (1, .ref a1), (2, .ref a2), (3, .ref a3)]) hx hb dL_law_1618 hl (k := 6) rfl (by rw [ev193]; rfl) (by decide) rfl (fun ls hl => ?_)
                refine lv_goto (tgt := 23) hx hb dL_law_1621 (by decide) ?_
                exact ih _ _ _ _ _ _ _ h (by omega) (by omega) hW (lv_sub hl [3, 4, 5, 6, 0] rfl)
              · replace h := bq_ifF hc h
                refine lv_iconst (v := 0) hx hb dL_law_1419 (by decide) ?_
                cases h
          · replace h := bq_ifF hc h
            refine lv_iconst (v := 0) hx hb dL_law_1402 (by decide) ?_
            cases h
        replace h := bq_ifF hc19 h
        by_cases hc20 : (v1 &&& (31 : Int32)) = 20
        · replace h := bq_ifT hc20 h
          refine lv_tableIn (tgt := 1424) (off := 1385) hx hb dL_law_39 (by rw [hc20]; decide) (by rw [hc20]; decide) (by rw [hc20]; rfl) (by decide) ?_
          refine lv_aload_n hx hb dL_law_1424 rfl (lv_at hl 1 rfl) ?_
          refine lv_aload_n hx hb dL_law_1425 rfl (lv_at hl 0 rfl) ?_
          refine lv_iload hx hb dL_law_1426 (lv_at hl 4 rfl) ?_
          refine lv_iconst (v := 1) hx hb dL_law_1428 (by decide) ?_
          refine lv_iadd hx hb dL_law_1429 ?_
          obtain ⟨v194, hv, h⟩ := bq_bind h
          refine bq_sld hx hb hX hbl hbA hW.2.2.2 hv dL_law_1430 ?_
          refine lv_aload_n hx hb dL_law_1431 rfl (lv_at hl 0 rfl) ?_
          refine lv_iload hx hb dL_law_1432 (lv_at hl 4 rfl) ?_
          refine lv_iconst (v := 2) hx hb dL_law_1434 (by decide) ?_
          refine lv_iadd hx hb dL_law_1435 ?_
          obtain ⟨v195, hv, h⟩ := bq_bind h
          refine bq_sld hx hb hX hbl hbA hW.2.2.2 hv dL_law_1436 ?_
          refine lv_aload_n hx hb dL_law_1437 rfl (lv_at hl 0 rfl) ?_
          refine lv_iload hx hb dL_law_1438 (lv_at hl 4 rfl) ?_
          refine lv_iconst (v := 3) hx hb dL_law_1440 (by decide) ?_
          refine lv_iadd hx hb dL_law_1441 ?_
          obtain ⟨v196, hv, h⟩ := bq_bind h
          refine bq_sld hx hb hX hbl hbA hW.2.2.2 hv dL_law_1442 ?_
          refine lv_aload_n hx hb dL_law_1443 rfl (lv_at hl 3 rfl) ?_
          obtain ⟨v197, hv, h⟩ := bq_bind h
          refine bq_callSL (n := 5) S hK hz hT hN (bq_inSW (bq_wi 813 (by decide +kernel) rfl) (bq_wi 814 (by decide +kernel) rfl) (bq_wi 53 (by decide +kernel) rfl) (bq_wi 815 (by decide +kernel) rfl)) (by decide +kernel) (cl_L_bridge hfl hv) dL_law_1444 [.int v197.1] (rest := []) rfl rfl rfl hl.1 (Nat.le_of_ble_eq_true rfl) ⟨Nat.le_of_ble_eq_true rfl, Nat.le_of_ble_eq_true rfl⟩ ⟨by show _ ≤ 601024; omega, by show _ ≤ 7293034; omega⟩ hW (fun H locs hW => ?_)
          refine lv_istore (lv' := [(5, .int v197.1), (0, .ref b), (1, .ref a1), (2, .ref a2), (3, .ref a3), (4, .int y4)]) hx hb dL_law_1447 hl (by decide) rfl (fun ls hl => ?_)
          refine lv_aload_n hx hb dL_law_1449 rfl (lv_at hl 3 rfl) ?_
          refine lv_aload_n hx hb dL_law_1450 rfl (lv_at hl 1 rfl) ?_
          refine lv_iload hx hb dL_law_1451 (lv_at hl 5 rfl) ?_
          refine lv_iconst (v := 1) hx hb dL_law_1453 (by decide) ?_
          refine lv_iadd hx hb dL_law_1454 ?_
          obtain ⟨v198, hv, h⟩ := bq_bind h
          refine bq_sld hx hb hX hbl hbA hW.2.2.2 hv dL_law_1455 ?_
          refine lv_aload_n hx hb dL_law_1456 rfl (lv_at hl 1 rfl) ?_
          refine lv_iload hx hb dL_law_1457 (lv_at hl 5 rfl) ?_
          refine lv_iconst (v := 2) hx hb dL_law_1459 (by decide) ?_
          refine lv_iadd hx hb dL_law_1460 ?_
          obtain ⟨v199, hv, h⟩ := bq_bind h
          refine bq_sld hx hb hX hbl hbA hW.2.2.2 hv dL_law_1461 ?_
          refine lv_aload_n hx hb dL_law_1462 rfl (lv_at hl 1 rfl) ?_
          refine lv_iload hx hb dL_law_1463 (lv_at hl 5 rfl) ?_
          refine lv_iconst (v := 3) hx hb dL_law_1465 (by decide) ?_
          refine lv_iadd hx hb dL_law_1466 ?_
          obtain ⟨v200, hv, h⟩ := bq_bind h
          refine bq_sld hx hb hX hbl hbA hW.2.2.2 hv dL_law_1467 ?_
          obtain ⟨v201, hv, h⟩ := bq_bind h
          refine bq_callV S hK hz mv_L_161 (c_X7_bridge hv) (kc_X7_bridge hv) dL_law_1468 [.int v201.1] (rest := []) rfl rfl rfl hl.1 (Nat.le_of_ble_eq_true rfl) ⟨Nat.le_of_ble_eq_true rfl, Nat.le_of_ble_eq_true rfl⟩ ⟨by show _ ≤ 601024; omega, by show _ ≤ 7293034; omega⟩ hW (fun H locs hW => ?_)
          refine lv_istore (lv' := [(6, .int v201.1), (5, .int v197.1), (0, .ref b), (1, .ref a1), (2, .ref a2), (3, .ref a3), (4, .int y4)]) hx hb dL_law_1471 hl (by decide) rfl (fun ls hl => ?_)
          refine lv_aload_n hx hb dL_law_1473 rfl (lv_at hl 4 rfl) ?_
          obtain ⟨v202, hv, h⟩ := bq_bind h
          refine bq_callV S hK hz mv_L_94 (c_X7_thrown hv) (kc_X7_thrown hv) dL_law_1474 [.int v202] (rest := []) rfl rfl rfl hl.1 (Nat.le_of_ble_eq_true rfl) ⟨Nat.le_of_ble_eq_true rfl, Nat.le_of_ble_eq_true rfl⟩ ⟨by show _ ≤ 601024; omega, by show _ ≤ 7293034; omega⟩ hW (fun H locs hW => ?_)
          refine lv_iload hx hb dL_law_1477 (lv_at hl 1 rfl) ?_
          refine lv_icmp_eq (tgt := 1484) hx hb dL_law_1479 (by decide) (fun hc => ?_) (fun hc => ?_)
          · replace h := bq_ifT hc h
            refine lv_iload hx hb dL_law_1484 (lv_at hl 1 rfl) ?_
            refine lv_if_ne (tgt := 1501) hx hb dL_law_1486 (by decide) (fun hc => ?_) (fun hc => ?_)
            · replace h := bq_ifF hc h
              refine lv_goto (tgt := 1618) hx hb dL_law_1501 (by decide) ?_
              obtain ⟨v203, ev203⟩ : ∃ y : Int32, y = y4 + 5 := ⟨_, rfl⟩
              replace h := bq_letE ev203 h
              refine lv_iinc (v := v203) (lv' := [(4, .int v203), (6, .int v201.1), (5, .int v197.1), (0, .ref b), (1, .ref a1), (2, .ref a2), (3, .ref a3)]) hx hb dL_law_1618 hl (k := 6) rfl (by rw [ev203]; rfl) (by decide) rfl (fun ls hl => ?_)
              refine lv_goto (tgt := 23) hx hb dL_law_1621 (by decide) ?_
              exact ih _ _ _ _ _ _ _ h (by omega) (by omega) hW (lv_sub hl [3, 4, 5, 6, 0] rfl)
            · replace h := bq_ifT hc h
              refine lv_aload_n hx hb dL_law_1489 rfl (lv_at hl 5 rfl) ?_
              refine lv_iconst (v := 0) hx hb dL_law_1490 (by decide) ?_
              obtain ⟨v204, hv, h⟩ := bq_bind h
              refine bq_lald S hK dL_law_1491 hv hW ?_
              refine lv_iload hx hb dL_law_1492 (lv_at hl 0 rfl) ?_
              refine lv_i2l (v := Int32.toInt64 v201.1) hx hb dL_law_1494 rfl ?_
              refine W.lcmp hx hb dL_law_1495 ?_
              refine lv_if_eq (tgt := 1501) hx hb dL_law_1496 (by decide) (fun hc => ?_) (fun hc => ?_)
              · replace h := bq_ifT hc h
                refine lv_goto (tgt := 1618) hx hb dL_law_1501 (by decide) ?_
                obtain ⟨v205, ev205⟩ : ∃ y : Int32, y = y4 + 5 := ⟨_, rfl⟩
                replace h := bq_letE ev205 h
                refine lv_iinc (v := v205) (lv' := [(4, .int v205), (6, .int v201.1), (5, .int v197.1), (0, .ref b), (1, .ref a1), (2, .ref a2), (3, .ref a3)]) hx hb dL_law_1618 hl (k := 6) rfl (by rw [ev205]; rfl) (by decide) rfl (fun ls hl => ?_)
                refine lv_goto (tgt := 23) hx hb dL_law_1621 (by decide) ?_
                exact ih _ _ _ _ _ _ _ h (by omega) (by omega) hW (lv_sub hl [3, 4, 5, 6, 0] rfl)
              · replace h := bq_ifF hc h
                refine lv_iconst (v := 0) hx hb dL_law_1499 (by decide) ?_
                cases h
          · replace h := bq_ifF hc h
            refine lv_iconst (v := 0) hx hb dL_law_1482 (by decide) ?_
            cases h
        replace h := bq_ifF hc20 h
        by_cases hc21 : (v1 &&& (31 : Int32)) = 21
        · replace h := bq_ifT hc21 h
          refine lv_tableIn (tgt := 1504) (off := 1465) hx hb dL_law_39 (by rw [hc21]; decide) (by rw [hc21]; decide) (by rw [hc21]; rfl) (by decide) ?_
          refine lv_aload_n hx hb dL_law_1504 rfl (lv_at hl 1 rfl) ?_
          refine lv_aload_n hx hb dL_law_1505 rfl (lv_at hl 0 rfl) ?_
          refine lv_iload hx hb dL_law_1506 (lv_at hl 4 rfl) ?_
          refine lv_iconst (v := 1) hx hb dL_law_1508 (by decide) ?_
          refine lv_iadd hx hb dL_law_1509 ?_
          obtain ⟨v206, hv, h⟩ := bq_bind h
          refine bq_sld hx hb hX hbl hbA hW.2.2.2 hv dL_law_1510 ?_
          refine lv_aload_n hx hb dL_law_1511 rfl (lv_at hl 3 rfl) ?_
          obtain ⟨v207, hv, h⟩ := bq_bind h
          refine bq_callSL (n := 3) S hK hz hT hN (bq_inSW (bq_wi 820 (by decide +kernel) rfl) (bq_wi 821 (by decide +kernel) rfl) (bq_wi 53 (by decide +kernel) rfl) (bq_wi 822 (by decide +kernel) rfl)) (by decide +kernel) (cl_L_count hfl hv) dL_law_1512 [.int v207.1] (rest := []) rfl rfl rfl hl.1 (Nat.le_of_ble_eq_true rfl) ⟨Nat.le_of_ble_eq_true rfl, Nat.le_of_ble_eq_true rfl⟩ ⟨by show _ ≤ 601024; omega, by show _ ≤ 7293034; omega⟩ hW (fun H locs hW => ?_)
          refine lv_istore (lv' := [(5, .int v207.1), (0, .ref b), (1, .ref a1), (2, .ref a2), (3, .ref a3), (4, .int y4)]) hx hb dL_law_1515 hl (by decide) rfl (fun ls hl => ?_)
          refine lv_aload_n hx hb dL_law_1517 rfl (lv_at hl 3 rfl) ?_
          refine lv_aload_n hx hb dL_law_1518 rfl (lv_at hl 1 rfl) ?_
          refine lv_iload hx hb dL_law_1519 (lv_at hl 5 rfl) ?_
          refine lv_iconst (v := 1) hx hb dL_law_1521 (by decide) ?_
          refine lv_iadd hx hb dL_law_1522 ?_
          obtain ⟨v208, hv, h⟩ := bq_bind h
          refine bq_sld hx hb hX hbl hbA hW.2.2.2 hv dL_law_1523 ?_
          obtain ⟨v209, hv, h⟩ := bq_bind h
          refine bq_callV S hK hz mv_L_164 (c_X7_count hv) (kc_X7_count hv) dL_law_1524 [.int v209.1] (rest := []) rfl rfl rfl hl.1 (Nat.le_of_ble_eq_true rfl) ⟨Nat.le_of_ble_eq_true rfl, Nat.le_of_ble_eq_true rfl⟩ ⟨by show _ ≤ 601024; omega, by show _ ≤ 7293034; omega⟩ hW (fun H locs hW => ?_)
          refine lv_istore (lv' := [(6, .int v209.1), (5, .int v207.1), (0, .ref b), (1, .ref a1), (2, .ref a2), (3, .ref a3), (4, .int y4)]) hx hb dL_law_1527 hl (by decide) rfl (fun ls hl => ?_)
          refine lv_aload_n hx hb dL_law_1529 rfl (lv_at hl 4 rfl) ?_
          obtain ⟨v210, hv, h⟩ := bq_bind h
          refine bq_callV S hK hz mv_L_94 (c_X7_thrown hv) (kc_X7_thrown hv) dL_law_1530 [.int v210] (rest := []) rfl rfl rfl hl.1 (Nat.le_of_ble_eq_true rfl) ⟨Nat.le_of_ble_eq_true rfl, Nat.le_of_ble_eq_true rfl⟩ ⟨by show _ ≤ 601024; omega, by show _ ≤ 7293034; omega⟩ hW (fun H locs hW => ?_)
          refine lv_iload hx hb dL_law_1533 (lv_at hl 1 rfl) ?_
          refine lv_icmp_eq (tgt := 1540) hx hb dL_law_1535 (by decide) (fun hc => ?_) (fun hc => ?_)
          · replace h := bq_ifT hc h
            refine lv_iload hx hb dL_law_1540 (lv_at hl 1 rfl) ?_
            refine lv_if_ne (tgt := 1557) hx hb dL_law_1542 (by decide) (fun hc => ?_) (fun hc => ?_)
            · replace h := bq_ifF hc h
              refine lv_goto (tgt := 1618) hx hb dL_law_1557 (by decide) ?_
              obtain ⟨v211, ev211⟩ : ∃ y : Int32, y = y4 + 5 := ⟨_, rfl⟩
              replace h := bq_letE ev211 h
              refine lv_iinc (v := v211) (lv' := [(4, .int v211), (6, .int v209.1), (5, .int v207.1), (0, .ref b), (1, .ref a1), (2, .ref a2), (3, .ref a3)]) hx hb dL_law_1618 hl (k := 6) rfl (by rw [ev211]; rfl) (by decide) rfl (fun ls hl => ?_)
              refine lv_goto (tgt := 23) hx hb dL_law_1621 (by decide) ?_
              exact ih _ _ _ _ _ _ _ h (by omega) (by omega) hW (lv_sub hl [3, 4, 5, 6, 0] rfl)
            · replace h := bq_ifT hc h
              refine lv_aload_n hx hb dL_law_1545 rfl (lv_at hl 5 rfl) ?_
              refine lv_iconst (v := 0) hx hb dL_law_1546 (by decide) ?_
              obtain ⟨v212, hv, h⟩ := bq_bind h
              refine bq_lald S hK dL_law_1547 hv hW ?_
              refine lv_iload hx hb dL_law_1548 (lv_at hl 0 rfl) ?_
              refine lv_i2l (v := Int32.toInt64 v209.1) hx hb dL_law_1550 rfl ?_
              refine W.lcmp hx hb dL_law_1551 ?_
              refine lv_if_eq (tgt := 1557) hx hb dL_law_1552 (by decide) (fun hc => ?_) (fun hc => ?_)
              · replace h := bq_ifT hc h
                refine lv_goto (tgt := 1618) hx hb dL_law_1557 (by decide) ?_
                obtain ⟨v213, ev213⟩ : ∃ y : Int32, y = y4 + 5 := ⟨_, rfl⟩
                replace h := bq_letE ev213 h
                refine lv_iinc (v := v213) (lv' := [(4, .int v213), (6, .int v209.1), (5, .int v207.1), (0, .ref b), (1, .ref a1), (2, .ref a2), (3, .ref a3)]) hx hb dL_law_1618 hl (k := 6) rfl (by rw [ev213]; rfl) (by decide) rfl (fun ls hl => ?_)
                refine lv_goto (tgt := 23) hx hb dL_law_1621 (by decide) ?_
                exact ih _ _ _ _ _ _ _ h (by omega) (by omega) hW (lv_sub hl [3, 4, 5, 6, 0] rfl)
              · replace h := bq_ifF hc h
                refine lv_iconst (v := 0) hx hb dL_law_1555 (by decide) ?_
                cases h
          · replace h := bq_ifF hc h
            refine lv_iconst (v := 0) hx hb dL_law_1538 (by decide) ?_
            cases h
        replace h := bq_ifF hc21 h
        by_cases hc22 : (v1 &&& (31 : Int32)) = 22
        · replace h := bq_ifT hc22 h
          refine lv_tableIn (tgt := 1560) (off := 1521) hx hb dL_law_39 (by rw [hc22]; decide) (by rw [hc22]; decide) (by rw [hc22]; rfl) (by decide) ?_
          refine lv_aload_n hx hb dL_law_1560 rfl (lv_at hl 1 rfl) ?_
          refine lv_aload_n hx hb dL_law_1561 rfl (lv_at hl 3 rfl) ?_
          obtain ⟨v214, hv, h⟩ := bq_bind h
          refine bq_callSL (n := 2) S hK hz hT hN (bq_inSW (bq_wi 824 (by decide +kernel) rfl) (bq_wi 825 (by decide +kernel) rfl) (bq_wi 53 (by decide +kernel) rfl) (bq_wi 826 (by decide +kernel) rfl)) (by decide +kernel) (cl_L_undo hfl hv) dL_law_1562 [.int v214.1] (rest := []) rfl rfl rfl hl.1 (Nat.le_of_ble_eq_true rfl) ⟨Nat.le_of_ble_eq_true rfl, Nat.le_of_ble_eq_true rfl⟩ ⟨by show _ ≤ 601024; omega, by show _ ≤ 7293034; omega⟩ hW (fun H locs hW => ?_)
          refine lv_istore (lv' := [(5, .int v214.1), (0, .ref b), (1, .ref a1), (2, .ref a2), (3, .ref a3), (4, .int y4)]) hx hb dL_law_1565 hl (by decide) rfl (fun ls hl => ?_)
          refine lv_aload_n hx hb dL_law_1567 rfl (lv_at hl 3 rfl) ?_
          obtain ⟨v215, hv, h⟩ := bq_bind h
          refine bq_callV S hK hz mv_L_168 (c_X7_undo hv) (kc_X7_undo hv) dL_law_1568 [.int v215.1] (rest := []) rfl rfl rfl hl.1 (Nat.le_of_ble_eq_true rfl) ⟨Nat.le_of_ble_eq_true rfl, Nat.le_of_ble_eq_true rfl⟩ ⟨by show _ ≤ 601024; omega, by show _ ≤ 7293034; omega⟩ hW (fun H locs hW => ?_)
          refine lv_istore (lv' := [(6, .int v215.1), (5, .int v214.1), (0, .ref b), (1, .ref a1), (2, .ref a2), (3, .ref a3), (4, .int y4)]) hx hb dL_law_1571 hl (by decide) rfl (fun ls hl => ?_)
          refine lv_aload_n hx hb dL_law_1573 rfl (lv_at hl 4 rfl) ?_
          obtain ⟨v216, hv, h⟩ := bq_bind h
          refine bq_callV S hK hz mv_L_94 (c_X7_thrown hv) (kc_X7_thrown hv) dL_law_1574 [.int v216] (rest := []) rfl rfl rfl hl.1 (Nat.le_of_ble_eq_true rfl) ⟨Nat.le_of_ble_eq_true rfl, Nat.le_of_ble_eq_true rfl⟩ ⟨by show _ ≤ 601024; omega, by show _ ≤ 7293034; omega⟩ hW (fun H locs hW => ?_)
          refine lv_iload hx hb dL_law_1577 (lv_at hl 1 rfl) ?_
          refine lv_icmp_eq (tgt := 1584) hx hb dL_law_1579 (by decide) (fun hc => ?_) (fun hc => ?_)
          · replace h := bq_ifT hc h
            refine lv_iload hx hb dL_law_1584 (lv_at hl 1 rfl) ?_
            refine lv_if_ne (tgt := 1601) hx hb dL_law_1586 (by decide) (fun hc => ?_) (fun hc => ?_)
            · replace h := bq_ifF hc h
              refine lv_goto (tgt := 1618) hx hb dL_law_1601 (by decide) ?_
              obtain ⟨v217, ev217⟩ : ∃ y : Int32, y = y4 + 5 := ⟨_, rfl⟩
              replace h := bq_letE ev217 h
              refine lv_iinc (v := v217) (lv' := [(4, .int v217), (6, .int v215.1), (5, .int v214.1), (0, .ref b), (1, .ref a1), (2, .ref a2), (3, .ref a3)]) hx hb dL_law_1618 hl (k := 6) rfl (by rw [ev217]; rfl) (by decide) rfl (fun ls hl => ?_)
              refine lv_goto (tgt := 23) hx hb dL_law_1621 (by decide) ?_
              exact ih _ _ _ _ _ _ _ h (by omega) (by omega) hW (lv_sub hl [3, 4, 5, 6, 0] rfl)
            · replace h := bq_ifT hc h
              refine lv_aload_n hx hb dL_law_1589 rfl (lv_at hl 5 rfl) ?_
              refine lv_iconst (v := 0) hx hb dL_law_1590 (by decide) ?_
              obtain ⟨v218, hv, h⟩ := bq_bind h
              refine bq_lald S hK dL_law_1591 hv hW ?_
              refine lv_iload hx hb dL_law_1592 (lv_at hl 0 rfl) ?_
              refine lv_i2l (v := Int32.toInt64 v215.1) hx hb dL_law_1594 rfl ?_
              refine W.lcmp hx hb dL_law_1595 ?_
              refine lv_if_eq (tgt := 1601) hx hb dL_law_1596 (by decide) (fun hc => ?_) (fun hc => ?_)
              · replace h := bq_ifT hc h
                refine lv_goto (tgt := 1618) hx hb dL_law_1601 (by decide) ?_
                obtain ⟨v219, ev219⟩ : ∃ y : Int32, y = y4 + 5 := ⟨_, rfl⟩
                replace h := bq_letE ev219 h
                refine lv_iinc (v := v219) (lv' := [(4, .int v219), (6, .int v215.1), (5, .int v214.1), (0, .ref b), (1, .ref a1), (2, .ref a2), (3, .ref a3)]) hx hb dL_law_1618 hl (k := 6) rfl (by rw [ev219]; rfl) (by decide) rfl (fun ls hl => ?_)
                refine lv_goto (tgt := 23) hx hb dL_law_1621 (by decide) ?_
                exact ih _ _ _ _ _ _ _ h (by omega) (by omega) hW (lv_sub hl [3, 4, 5, 6, 0] rfl)
              · replace h := bq_ifF hc h
                refine lv_iconst (v := 0) hx hb dL_law_1599 (by decide) ?_
                cases h
          · replace h := bq_ifF hc h
            refine lv_iconst (v := 0) hx hb dL_law_1582 (by decide) ?_
            cases h
        replace h := bq_ifF hc22 h
        by_cases hc23 : (v1 &&& (31 : Int32)) = 23
        · replace h := bq_ifT hc23 h
          refine lv_tableIn (tgt := 1604) (off := 1565) hx hb dL_law_39 (by rw [hc23]; decide) (by rw [hc23]; decide) (by rw [hc23]; rfl) (by decide) ?_
          refine lv_aload_n hx hb dL_law_1604 rfl (lv_at hl 1 rfl) ?_
          obtain ⟨v220, hv, h⟩ := bq_bind h
          rcases hq : v220.1 with v221 | X222
          all_goals rw [hq] at h
          all_goals replace hv := bq_pairE hq hv
          rotate_left
          · replace h := bq_elimR h
            cases h
          replace h := bq_elimL h
          refine bq_callV S hK hz mv_L_169 (cr_X6_digest hv) (kc_X6_digest hv) dL_law_1605 [.long v221] (rest := []) rfl rfl rfl hl.1 (Nat.le_of_ble_eq_true rfl) ⟨Nat.le_of_ble_eq_true rfl, Nat.le_of_ble_eq_true rfl⟩ ⟨by show _ ≤ 601024; omega, by show _ ≤ 7293034; omega⟩ hW (fun H locs hW => ?_)
          refine lv_aload_n hx hb dL_law_1608 rfl (lv_at hl 2 rfl) ?_
          obtain ⟨v223, hv, h⟩ := bq_bind h
          refine bq_callV S hK hz mv_L_173 (c_X7_digest hv) (kc_X7_digest hv) dL_law_1609 [.long v223.1, .long v221] (rest := [.long v221]) rfl rfl rfl hl.1 (Nat.le_of_ble_eq_true rfl) ⟨Nat.le_of_ble_eq_true rfl, Nat.le_of_ble_eq_true rfl⟩ ⟨by show _ ≤ 601024; omega, by show _ ≤ 7293034; omega⟩ hW (fun H locs hW => ?_)
          refine W.lcmp hx hb dL_law_1612 ?_
          refine lv_if_eq (tgt := 1618) hx hb dL_law_1613 (by decide) (fun hc => ?_) (fun hc => ?_)
          · replace h := bq_ifT hc h
            obtain ⟨v224, ev224⟩ : ∃ y : Int32, y = y4 + 5 := ⟨_, rfl⟩
            replace h := bq_letE ev224 h
            refine lv_iinc (v := v224) (lv' := [(4, .int v224), (0, .ref b), (1, .ref a1), (2, .ref a2), (3, .ref a3)]) hx hb dL_law_1618 hl (k := 4) rfl (by rw [ev224]; rfl) (by decide) rfl (fun ls hl => ?_)
            refine lv_goto (tgt := 23) hx hb dL_law_1621 (by decide) ?_
            exact ih _ _ _ _ _ _ _ h (by omega) (by omega) hW (lv_sub hl [1, 2, 3, 4, 0] rfl)
          · replace h := bq_ifF hc h
            refine lv_iconst (v := 0) hx hb dL_law_1616 (by decide) ?_
            cases h
        replace h := bq_ifF hc23 h
        have q0 : Int32.toInt (v1 &&& (31 : Int32)) ≠ 0 := fun q => hc0 (Int32.toInt_inj.mp (q.trans (by decide)))
        have q1 : Int32.toInt (v1 &&& (31 : Int32)) ≠ 1 := fun q => hc1 (Int32.toInt_inj.mp (q.trans (by decide)))
        have q2 : Int32.toInt (v1 &&& (31 : Int32)) ≠ 2 := fun q => hc2 (Int32.toInt_inj.mp (q.trans (by decide)))
        have q3 : Int32.toInt (v1 &&& (31 : Int32)) ≠ 3 := fun q => hc3 (Int32.toInt_inj.mp (q.trans (by decide)))
        have q4 : Int32.toInt (v1 &&& (31 : Int32)) ≠ 4 := fun q => hc4 (Int32.toInt_inj.mp (q.trans (by decide)))
        have q5 : Int32.toInt (v1 &&& (31 : Int32)) ≠ 5 := fun q => hc5 (Int32.toInt_inj.mp (q.trans (by decide)))
        have q6 : Int32.toInt (v1 &&& (31 : Int32)) ≠ 6 := fun q => hc6 (Int32.toInt_inj.mp (q.trans (by decide)))
        have q7 : Int32.toInt (v1 &&& (31 : Int32)) ≠ 7 := fun q => hc7 (Int32.toInt_inj.mp (q.trans (by decide)))
        have q8 : Int32.toInt (v1 &&& (31 : Int32)) ≠ 8 := fun q => hc8 (Int32.toInt_inj.mp (q.trans (by decide)))
        have q9 : Int32.toInt (v1 &&& (31 : Int32)) ≠ 9 := fun q => hc9 (Int32.toInt_inj.mp (q.trans (by decide)))
        have q10 : Int32.toInt (v1 &&& (31 : Int32)) ≠ 10 := fun q => hc10 (Int32.toInt_inj.mp (q.trans (by decide)))
        have q11 : Int32.toInt (v1 &&& (31 : Int32)) ≠ 11 := fun q => hc11 (Int32.toInt_inj.mp (q.trans (by decide)))
        have q12 : Int32.toInt (v1 &&& (31 : Int32)) ≠ 12 := fun q => hc12 (Int32.toInt_inj.mp (q.trans (by decide)))
        have q13 : Int32.toInt (v1 &&& (31 : Int32)) ≠ 13 := fun q => hc13 (Int32.toInt_inj.mp (q.trans (by decide)))
        have q14 : Int32.toInt (v1 &&& (31 : Int32)) ≠ 14 := fun q => hc14 (Int32.toInt_inj.mp (q.trans (by decide)))
        have q15 : Int32.toInt (v1 &&& (31 : Int32)) ≠ 15 := fun q => hc15 (Int32.toInt_inj.mp (q.trans (by decide)))
        have q16 : Int32.toInt (v1 &&& (31 : Int32)) ≠ 16 := fun q => hc16 (Int32.toInt_inj.mp (q.trans (by decide)))
        have q17 : Int32.toInt (v1 &&& (31 : Int32)) ≠ 17 := fun q => hc17 (Int32.toInt_inj.mp (q.trans (by decide)))
        have q18 : Int32.toInt (v1 &&& (31 : Int32)) ≠ 18 := fun q => hc18 (Int32.toInt_inj.mp (q.trans (by decide)))
        have q19 : Int32.toInt (v1 &&& (31 : Int32)) ≠ 19 := fun q => hc19 (Int32.toInt_inj.mp (q.trans (by decide)))
        have q20 : Int32.toInt (v1 &&& (31 : Int32)) ≠ 20 := fun q => hc20 (Int32.toInt_inj.mp (q.trans (by decide)))
        have q21 : Int32.toInt (v1 &&& (31 : Int32)) ≠ 21 := fun q => hc21 (Int32.toInt_inj.mp (q.trans (by decide)))
        have q22 : Int32.toInt (v1 &&& (31 : Int32)) ≠ 22 := fun q => hc22 (Int32.toInt_inj.mp (q.trans (by decide)))
        have q23 : Int32.toInt (v1 &&& (31 : Int32)) ≠ 23 := fun q => hc23 (Int32.toInt_inj.mp (q.trans (by decide)))
        refine lv_tableOut (tgt := 1618) hx hb dL_law_39 (by omega) (by decide) ?_
        obtain ⟨v225, ev225⟩ : ∃ y : Int32, y = y4 + 5 := ⟨_, rfl⟩
        replace h := bq_letE ev225 h
        refine lv_iinc (v := v225) (lv' := [(4, .int v225), (0, .ref b), (1, .ref a1), (2, .ref a2), (3, .ref a3)]) hx hb dL_law_1618 hl (k := 4) rfl (by rw [ev225]; rfl) (by decide) rfl (fun ls hl => ?_)
        refine lv_goto (tgt := 23) hx hb dL_law_1621 (by decide) ?_
        exact ih _ _ _ _ _ _ _ h (by omega) (by omega) hW (lv_sub hl [1, 2, 3, 4, 0] rfl)
