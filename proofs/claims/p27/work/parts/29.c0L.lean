set_option maxHeartbeats 4000000 in
set_option maxRecDepth 100000 in
theorem c_L_low {l : Launch} {g : bq_G} {L : List Nat} {z : Nat} {E : bq_E} {x0 : Int32} {x1 : Int32} {R : Int32} (h : tw_L_low E x0 x1 = some R) : bq_M l yL_low cL_low 2 (some .int) 0 0 [.int x0, .int x1] g L E z (some (.int R)) E := by
  unfold tw_L_low at h
  refine bq_enter (by decide) (Nat.le_of_ble_eq_true rfl) ?_
  intro p e s m args below meth c S hr hlocks hK hz hW ls hl
  have S : CallFix p m c cL_low 2 s args bq_WA RL := S
  have hx := S.1
  have hb := S.2.1
  have hl : lv_has ls 2 [(0, .int x0), (1, .int x1)] := hl
  refine lv_iload_n hx hb dL_low_0 rfl (lv_at hl 0 rfl) ?_
  refine lv_ldc (own := RL) (v := 2147483647) hx hb S.2.2.2.1 (S.2.2.2.2 _ (bq_wi 263 (by decide +kernel) rfl)) dL_low_1 ?_
  refine lv_iand hx hb dL_low_3 ?_
  refine lv_iload_n hx hb dL_low_4 rfl (lv_at hl 1 rfl) ?_
  by_cases hz0 : x1 = 0
  · replace h := bq_ifT hz0 h; cases h
  replace h := bq_ifF hz0 h
  refine lv_irem hx hb dL_low_5 hz0 ?_
  refine lv_topi (fun v1 ev1 => ?_)
  replace h := bq_letE ev1 h
  cases h
  exact bq_reti S hr hlocks hK hz dL_low_6 hW

set_option maxHeartbeats 4000000 in
set_option maxRecDepth 100000 in
theorem cl_L_adds {l : Launch} (hfl : l.stackTraces = false) {g : bq_G} {L : List Nat} {z : Nat} {E : bq_E} {a0 : Nat} {x1 : Int32} {x2 : Int32} {R : (Int32 × bq_E)} (h : tw_L_adds E a0 x1 x2 = some R) : bq_ML l yL_adds cL_adds 4 (some .int) [(0, 6, 7, 15), (0, 6, 11, 18), (0, 6, 15, 21)] 8 170 [.ref a0, .int x1, .int x2] g L E z (some (.int R.1)) R.2 := by
  unfold tw_L_adds at h
  refine bq_enterL (by decide) (Nat.le_of_ble_eq_true rfl) ?_
  intro p e s m args below meth c S htab hr hlocks hK hz hT hN hW ls hl
  have S : CallFix p m c cL_adds 4 s args bq_WA RL := S
  have hx := S.1
  have hb := S.2.1
  have hl : lv_has ls 4 [(0, .ref a0), (1, .int x1), (2, .int x2)] := hl
  refine lv_aload_n hx hb dL_adds_0 rfl (lv_at hl 0 rfl) ?_
  refine lv_iload_n hx hb dL_adds_1 rfl (lv_at hl 1 rfl) ?_
  refine lv_iload_n hx hb dL_adds_2 rfl (lv_at hl 2 rfl) ?_
  obtain ⟨v1, hv, h⟩ := bq_bind h
  rcases hq : v1.1 with v2 | X3
  all_goals rw [hq] at h
  all_goals replace hv := bq_pairE hq hv
  rotate_left
  · replace h := bq_elimR h
    by_cases hX0 : X3 = "java/lang/IndexOutOfBoundsException"
    · replace h := bq_ifT hX0 h
      subst hX0
      refine bq_callVXk S hK hz hT mv_L_9 (ct_X6_addNode hfl hv) (kc_X6_addNode hv) dL_adds_3 (rest := []) rfl rfl hl.1 (Nat.le_of_ble_eq_true rfl) ⟨Nat.le_of_ble_eq_true rfl, Nat.le_of_ble_eq_true rfl⟩ ⟨Nat.le_of_ble_eq_true rfl, Nat.le_of_ble_eq_true rfl⟩ hW (fun H locs q9 ce hW h1 h2 h3 => ?_)
      have hp : ∀ z ∈ ([] : List ExceptionTableEntry), covers z 3 = false ∨ (z.catchType ≠ 0 ∧ ∃ nm : String, (Cond.classLink RL z.catchType nm).before args s = true ∧ va_Nc "java/lang/IndexOutOfBoundsException" nm s) := fun z hz9 => absurd hz9 List.not_mem_nil
      refine vx_catch (own := RL) (name := "java/lang/IndexOutOfBoundsException") S.2.2.2.1 [] { startPc := 0, endPc := 6, handlerPc := 7, catchType := 15 } [{ startPc := 0, endPc := 6, handlerPc := 11, catchType := 18 }, { startPc := 0, endPc := 6, handlerPc := 15, catchType := 21 }] (by rw [htab]; rfl) hp (by decide) (by decide) (S.2.2.2.2 _ (bq_wi 267 (by decide +kernel) rfl)) (bq_castX hT 280 (by decide +kernel)) h1 h2 h3 ?_
      refine lv_astore_n (lv' := [(3, .ref q9), (0, .ref a0), (1, .int x1), (2, .int x2)]) hx hb dL_adds_7 rfl hl (by decide) rfl (fun ls hl => ?_)
      refine lv_ldc (own := RL) (v := (-100001)) hx hb S.2.2.2.1 (S.2.2.2.2 _ (bq_wi 469 (by decide +kernel) rfl)) dL_adds_8 ?_
      cases h
      refine vx_ret (W.widen (k := 1) (n := 6) (Nat.le_of_ble_eq_true rfl) (Nat.le_of_ble_eq_true rfl) ?_)
      exact bq_reti S hr hlocks hK hz dL_adds_10 hW
    replace h := bq_ifF hX0 h
    by_cases hX1 : X3 = "java/lang/IllegalArgumentException"
    · replace h := bq_ifT hX1 h
      subst hX1
      refine bq_callVXk S hK hz hT mv_L_9 (ct_X6_addNode hfl hv) (kc_X6_addNode hv) dL_adds_3 (rest := []) rfl rfl hl.1 (Nat.le_of_ble_eq_true rfl) ⟨Nat.le_of_ble_eq_true rfl, Nat.le_of_ble_eq_true rfl⟩ ⟨Nat.le_of_ble_eq_true rfl, Nat.le_of_ble_eq_true rfl⟩ hW (fun H locs q9 ce hW h1 h2 h3 => ?_)
      have hp : ∀ z ∈ ([{ startPc := 0, endPc := 6, handlerPc := 7, catchType := 15 }] : List ExceptionTableEntry), covers z 3 = false ∨ (z.catchType ≠ 0 ∧ ∃ nm : String, (Cond.classLink RL z.catchType nm).before args s = true ∧ va_Nc "java/lang/IllegalArgumentException" nm s) := fun z hz9 => by
        simp only [List.mem_cons, List.not_mem_nil, or_false] at hz9
        rcases hz9 with rfl
        · exact Or.inr ⟨by decide, "java/lang/IndexOutOfBoundsException", S.2.2.2.2 _ (bq_wi 267 (by decide +kernel) rfl), hN.1⟩
      refine vx_catch (own := RL) (name := "java/lang/IllegalArgumentException") S.2.2.2.1 [{ startPc := 0, endPc := 6, handlerPc := 7, catchType := 15 }] { startPc := 0, endPc := 6, handlerPc := 11, catchType := 18 } [{ startPc := 0, endPc := 6, handlerPc := 15, catchType := 21 }] (by rw [htab]; rfl) hp (by decide) (by decide) (S.2.2.2.2 _ (bq_wi 268 (by decide +kernel) rfl)) (bq_castX hT 352 (by decide +kernel)) h1 h2 h3 ?_
      refine lv_astore_n (lv' := [(3, .ref q9), (0, .ref a0), (1, .int x1), (2, .int x2)]) hx hb dL_adds_11 rfl hl (by decide) rfl (fun ls hl => ?_)
      refine lv_ldc (own := RL) (v := (-100002)) hx hb S.2.2.2.1 (S.2.2.2.2 _ (bq_wi 470 (by decide +kernel) rfl)) dL_adds_12 ?_
      cases h
      refine vx_ret (W.widen (k := 1) (n := 6) (Nat.le_of_ble_eq_true rfl) (Nat.le_of_ble_eq_true rfl) ?_)
      exact bq_reti S hr hlocks hK hz dL_adds_14 hW
    replace h := bq_ifF hX1 h
    by_cases hX2 : X3 = "java/lang/IllegalStateException"
    · replace h := bq_ifT hX2 h
      subst hX2
      refine bq_callVXk S hK hz hT mv_L_9 (ct_X6_addNode hfl hv) (kc_X6_addNode hv) dL_adds_3 (rest := []) rfl rfl hl.1 (Nat.le_of_ble_eq_true rfl) ⟨Nat.le_of_ble_eq_true rfl, Nat.le_of_ble_eq_true rfl⟩ ⟨Nat.le_of_ble_eq_true rfl, Nat.le_of_ble_eq_true rfl⟩ hW (fun H locs q9 ce hW h1 h2 h3 => ?_)
      have hp : ∀ z ∈ ([{ startPc := 0, endPc := 6, handlerPc := 7, catchType := 15 }, { startPc := 0, endPc := 6, handlerPc := 11, catchType := 18 }] : List ExceptionTableEntry), covers z 3 = false ∨ (z.catchType ≠ 0 ∧ ∃ nm : String, (Cond.classLink RL z.catchType nm).before args s = true ∧ va_Nc "java/lang/IllegalStateException" nm s) := fun z hz9 => by
        simp only [List.mem_cons, List.not_mem_nil, or_false] at hz9
        rcases hz9 with rfl | rfl
        · exact Or.inr ⟨by decide, "java/lang/IndexOutOfBoundsException", S.2.2.2.2 _ (bq_wi 267 (by decide +kernel) rfl), hN.2.1⟩
        · exact Or.inr ⟨by decide, "java/lang/IllegalArgumentException", S.2.2.2.2 _ (bq_wi 268 (by decide +kernel) rfl), hN.2.2⟩
      refine vx_catch (own := RL) (name := "java/lang/IllegalStateException") S.2.2.2.1 [{ startPc := 0, endPc := 6, handlerPc := 7, catchType := 15 }, { startPc := 0, endPc := 6, handlerPc := 11, catchType := 18 }] { startPc := 0, endPc := 6, handlerPc := 15, catchType := 21 } [] (by rw [htab]; rfl) hp (by decide) (by decide) (S.2.2.2.2 _ (bq_wi 269 (by decide +kernel) rfl)) (bq_castX hT 376 (by decide +kernel)) h1 h2 h3 ?_
      refine lv_astore_n (lv' := [(3, .ref q9), (0, .ref a0), (1, .int x1), (2, .int x2)]) hx hb dL_adds_15 rfl hl (by decide) rfl (fun ls hl => ?_)
      refine lv_ldc (own := RL) (v := (-100003)) hx hb S.2.2.2.1 (S.2.2.2.2 _ (bq_wi 471 (by decide +kernel) rfl)) dL_adds_16 ?_
      cases h
      refine vx_ret (W.widen (k := 1) (n := 6) (Nat.le_of_ble_eq_true rfl) (Nat.le_of_ble_eq_true rfl) ?_)
      exact bq_reti S hr hlocks hK hz dL_adds_18 hW
    replace h := bq_ifF hX2 h
    cases h
  replace h := bq_elimL h
  refine bq_callV S hK hz mv_L_9 (cr_X6_addNode hv) (kc_X6_addNode hv) dL_adds_3 [.int v2] (rest := []) rfl rfl rfl hl.1 (Nat.le_of_ble_eq_true rfl) ⟨Nat.le_of_ble_eq_true rfl, Nat.le_of_ble_eq_true rfl⟩ ⟨Nat.zero_le _, Nat.zero_le _⟩ hW (fun H locs hW => ?_)
  cases h
  refine vx_ret (W.widen (k := 1) (n := 6) (Nat.le_of_ble_eq_true rfl) (Nat.le_of_ble_eq_true rfl) ?_)
  exact bq_reti S hr hlocks hK hz dL_adds_6 hW

set_option maxHeartbeats 4000000 in
set_option maxRecDepth 100000 in
theorem cl_L_puts {l : Launch} (hfl : l.stackTraces = false) {g : bq_G} {L : List Nat} {z : Nat} {E : bq_E} {a0 : Nat} {x1 : Int32} {x2 : Int32} {R : (Int32 × bq_E)} (h : tw_L_puts E a0 x1 x2 = some R) : bq_ML l yL_puts cL_puts 4 (some .int) [(0, 14, 15, 15), (0, 14, 19, 18), (0, 14, 23, 21)] 9 172 [.ref a0, .int x1, .int x2] g L E z (some (.int R.1)) R.2 := by
  unfold tw_L_puts at h
  refine bq_enterL (by decide) (Nat.le_of_ble_eq_true rfl) ?_
  intro p e s m args below meth c S htab hr hlocks hK hz hT hN hW ls hl
  have S : CallFix p m c cL_puts 4 s args bq_WA RL := S
  have hx := S.1
  have hb := S.2.1
  have hl : lv_has ls 4 [(0, .ref a0), (1, .int x1), (2, .int x2)] := hl
  refine lv_aload_n hx hb dL_puts_0 rfl (lv_at hl 0 rfl) ?_
  refine lv_iload_n hx hb dL_puts_1 rfl (lv_at hl 1 rfl) ?_
  refine lv_iload_n hx hb dL_puts_2 rfl (lv_at hl 2 rfl) ?_
  obtain ⟨v1, hv, h⟩ := bq_bind h
  rcases hq : v1.1 with v2 | X3
  all_goals rw [hq] at h
  all_goals replace hv := bq_pairE hq hv
  rotate_left
  · replace h := bq_elimR h
    by_cases hX0 : X3 = "java/lang/IndexOutOfBoundsException"
    · replace h := bq_ifT hX0 h
      subst hX0
      refine bq_callVXk S hK hz hT mv_L_24 (ct_X6_add hfl hv) (kc_X6_add hv) dL_puts_3 (rest := []) rfl rfl hl.1 (Nat.le_of_ble_eq_true rfl) ⟨Nat.le_of_ble_eq_true rfl, Nat.le_of_ble_eq_true rfl⟩ ⟨Nat.le_of_ble_eq_true rfl, Nat.le_of_ble_eq_true rfl⟩ hW (fun H locs q9 ce hW h1 h2 h3 => ?_)
      have hp : ∀ z ∈ ([] : List ExceptionTableEntry), covers z 3 = false ∨ (z.catchType ≠ 0 ∧ ∃ nm : String, (Cond.classLink RL z.catchType nm).before args s = true ∧ va_Nc "java/lang/IndexOutOfBoundsException" nm s) := fun z hz9 => absurd hz9 List.not_mem_nil
      refine vx_catch (own := RL) (name := "java/lang/IndexOutOfBoundsException") S.2.2.2.1 [] { startPc := 0, endPc := 14, handlerPc := 15, catchType := 15 } [{ startPc := 0, endPc := 14, handlerPc := 19, catchType := 18 }, { startPc := 0, endPc := 14, handlerPc := 23, catchType := 21 }] (by rw [htab]; rfl) hp (by decide) (by decide) (S.2.2.2.2 _ (bq_wi 267 (by decide +kernel) rfl)) (bq_castX hT 280 (by decide +kernel)) h1 h2 h3 ?_
      refine lv_astore_n (lv' := [(3, .ref q9), (0, .ref a0), (1, .int x1), (2, .int x2)]) hx hb dL_puts_15 rfl hl (by decide) rfl (fun ls hl => ?_)
      refine lv_ldc (own := RL) (v := (-100001)) hx hb S.2.2.2.1 (S.2.2.2.2 _ (bq_wi 469 (by decide +kernel) rfl)) dL_puts_16 ?_
      cases h
      refine vx_ret (W.widen (k := 1) (n := 6) (Nat.le_of_ble_eq_true rfl) (Nat.le_of_ble_eq_true rfl) ?_)
      exact bq_reti S hr hlocks hK hz dL_puts_18 hW
    replace h := bq_ifF hX0 h
    by_cases hX1 : X3 = "java/lang/IllegalArgumentException"
    · replace h := bq_ifT hX1 h
      subst hX1
      refine bq_callVXk S hK hz hT mv_L_24 (ct_X6_add hfl hv) (kc_X6_add hv) dL_puts_3 (rest := []) rfl rfl hl.1 (Nat.le_of_ble_eq_true rfl) ⟨Nat.le_of_ble_eq_true rfl, Nat.le_of_ble_eq_true rfl⟩ ⟨Nat.le_of_ble_eq_true rfl, Nat.le_of_ble_eq_true rfl⟩ hW (fun H locs q9 ce hW h1 h2 h3 => ?_)
      have hp : ∀ z ∈ ([{ startPc := 0, endPc := 14, handlerPc := 15, catchType := 15 }] : List ExceptionTableEntry), covers z 3 = false ∨ (z.catchType ≠ 0 ∧ ∃ nm : String, (Cond.classLink RL z.catchType nm).before args s = true ∧ va_Nc "java/lang/IllegalArgumentException" nm s) := fun z hz9 => by
        simp only [List.mem_cons, List.not_mem_nil, or_false] at hz9
        rcases hz9 with rfl
        · exact Or.inr ⟨by decide, "java/lang/IndexOutOfBoundsException", S.2.2.2.2 _ (bq_wi 267 (by decide +kernel) rfl), hN.1⟩
      refine vx_catch (own := RL) (name := "java/lang/IllegalArgumentException") S.2.2.2.1 [{ startPc := 0, endPc := 14, handlerPc := 15, catchType := 15 }] { startPc := 0, endPc := 14, handlerPc := 19, catchType := 18 } [{ startPc := 0, endPc := 14, handlerPc := 23, catchType := 21 }] (by rw [htab]; rfl) hp (by decide) (by decide) (S.2.2.2.2 _ (bq_wi 268 (by decide +kernel) rfl)) (bq_castX hT 352 (by decide +kernel)) h1 h2 h3 ?_
      refine lv_astore_n (lv' := [(3, .ref q9), (0, .ref a0), (1, .int x1), (2, .int x2)]) hx hb dL_puts_19 rfl hl (by decide) rfl (fun ls hl => ?_)
      refine lv_ldc (own := RL) (v := (-100002)) hx hb S.2.2.2.1 (S.2.2.2.2 _ (bq_wi 470 (by decide +kernel) rfl)) dL_puts_20 ?_
      cases h
      refine vx_ret (W.widen (k := 1) (n := 6) (Nat.le_of_ble_eq_true rfl) (Nat.le_of_ble_eq_true rfl) ?_)
      exact bq_reti S hr hlocks hK hz dL_puts_22 hW
    replace h := bq_ifF hX1 h
    by_cases hX2 : X3 = "java/lang/IllegalStateException"
    · replace h := bq_ifT hX2 h
      subst hX2
      refine bq_callVXk S hK hz hT mv_L_24 (ct_X6_add hfl hv) (kc_X6_add hv) dL_puts_3 (rest := []) rfl rfl hl.1 (Nat.le_of_ble_eq_true rfl) ⟨Nat.le_of_ble_eq_true rfl, Nat.le_of_ble_eq_true rfl⟩ ⟨Nat.le_of_ble_eq_true rfl, Nat.le_of_ble_eq_true rfl⟩ hW (fun H locs q9 ce hW h1 h2 h3 => ?_)
      have hp : ∀ z ∈ ([{ startPc := 0, endPc := 14, handlerPc := 15, catchType := 15 }, { startPc := 0, endPc := 14, handlerPc := 19, catchType := 18 }] : List ExceptionTableEntry), covers z 3 = false ∨ (z.catchType ≠ 0 ∧ ∃ nm : String, (Cond.classLink RL z.catchType nm).before args s = true ∧ va_Nc "java/lang/IllegalStateException" nm s) := fun z hz9 => by
        simp only [List.mem_cons, List.not_mem_nil, or_false] at hz9
        rcases hz9 with rfl | rfl
        · exact Or.inr ⟨by decide, "java/lang/IndexOutOfBoundsException", S.2.2.2.2 _ (bq_wi 267 (by decide +kernel) rfl), hN.2.1⟩
        · exact Or.inr ⟨by decide, "java/lang/IllegalArgumentException", S.2.2.2.2 _ (bq_wi 268 (by decide +kernel) rfl), hN.2.2⟩
      refine vx_catch (own := RL) (name := "java/lang/IllegalStateException") S.2.2.2.1 [{ startPc := 0, endPc := 14, handlerPc := 15, catchType := 15 }, { startPc := 0, endPc := 14, handlerPc := 19, catchType := 18 }] { startPc := 0, endPc := 14, handlerPc := 23, catchType := 21 } [] (by rw [htab]; rfl) hp (by decide) (by decide) (S.2.2.2.2 _ (bq_wi 269 (by decide +kernel) rfl)) (bq_castX hT 376 (by decide +kernel)) h1 h2 h3 ?_
      refine lv_astore_n (lv' := [(3, .ref q9), (0, .ref a0), (1, .int x1), (2, .int x2)]) hx hb dL_puts_23 rfl hl (by decide) rfl (fun ls hl => ?_)
      refine lv_ldc (own := RL) (v := (-100003)) hx hb S.2.2.2.1 (S.2.2.2.2 _ (bq_wi 471 (by decide +kernel) rfl)) dL_puts_24 ?_
      cases h
      refine vx_ret (W.widen (k := 1) (n := 6) (Nat.le_of_ble_eq_true rfl) (Nat.le_of_ble_eq_true rfl) ?_)
      exact bq_reti S hr hlocks hK hz dL_puts_26 hW
    replace h := bq_ifF hX2 h
    cases h
  replace h := bq_elimL h
  refine bq_callV S hK hz mv_L_24 (cr_X6_add hv) (kc_X6_add hv) dL_puts_3 [.int (bq_b v2)] (rest := []) rfl rfl rfl hl.1 (Nat.le_of_ble_eq_true rfl) ⟨Nat.le_of_ble_eq_true rfl, Nat.le_of_ble_eq_true rfl⟩ ⟨Nat.zero_le _, Nat.zero_le _⟩ hW (fun H locs hW => ?_)
  refine lv_if_eq (tgt := 13) hx hb dL_puts_6 (by decide) (fun hc => ?_) (fun hc => ?_)
  · replace h := bq_ifT hc h
    refine lv_iconst (v := 0) hx hb dL_puts_13 (by decide) ?_
    cases h
    refine vx_ret (W.widen (k := 1) (n := 6) (Nat.le_of_ble_eq_true rfl) (Nat.le_of_ble_eq_true rfl) ?_)
    exact bq_reti S hr hlocks hK hz dL_puts_14 hW
  · replace h := bq_ifF hc h
    refine lv_iconst (v := 1) hx hb dL_puts_9 (by decide) ?_
    refine lv_goto (tgt := 14) hx hb dL_puts_10 (by decide) ?_
    cases h
    refine vx_ret (W.widen (k := 1) (n := 6) (Nat.le_of_ble_eq_true rfl) (Nat.le_of_ble_eq_true rfl) ?_)
    exact bq_reti S hr hlocks hK hz dL_puts_14 hW

set_option maxHeartbeats 4000000 in
set_option maxRecDepth 100000 in
theorem cl_L_drops {l : Launch} (hfl : l.stackTraces = false) {g : bq_G} {L : List Nat} {z : Nat} {E : bq_E} {a0 : Nat} {x1 : Int32} {x2 : Int32} {R : (Int32 × bq_E)} (h : tw_L_drops E a0 x1 x2 = some R) : bq_ML l yL_drops cL_drops 4 (some .int) [(0, 14, 15, 15), (0, 14, 19, 18)] 9 171 [.ref a0, .int x1, .int x2] g L E z (some (.int R.1)) R.2 := by
  unfold tw_L_drops at h
  refine bq_enterL (by decide) (Nat.le_of_ble_eq_true rfl) ?_
  intro p e s m args below meth c S htab hr hlocks hK hz hT hN hW ls hl
  have S : CallFix p m c cL_drops 4 s args bq_WA RL := S
  have hx := S.1
  have hb := S.2.1
  have hl : lv_has ls 4 [(0, .ref a0), (1, .int x1), (2, .int x2)] := hl
  refine lv_aload_n hx hb dL_drops_0 rfl (lv_at hl 0 rfl) ?_
  refine lv_iload_n hx hb dL_drops_1 rfl (lv_at hl 1 rfl) ?_
  refine lv_iload_n hx hb dL_drops_2 rfl (lv_at hl 2 rfl) ?_
  obtain ⟨v1, hv, h⟩ := bq_bind h
  rcases hq : v1.1 with v2 | X3
  all_goals rw [hq] at h
  all_goals replace hv := bq_pairE hq hv
  rotate_left
  · replace h := bq_elimR h
    by_cases hX0 : X3 = "java/lang/IndexOutOfBoundsException"
    · replace h := bq_ifT hX0 h
      subst hX0
      refine bq_callVXk S hK hz hT mv_L_28 (ct_X6_remove hfl hv) (kc_X6_remove hv) dL_drops_3 (rest := []) rfl rfl hl.1 (Nat.le_of_ble_eq_true rfl) ⟨Nat.le_of_ble_eq_true rfl, Nat.le_of_ble_eq_true rfl⟩ ⟨Nat.le_of_ble_eq_true rfl, Nat.le_of_ble_eq_true rfl⟩ hW (fun H locs q9 ce hW h1 h2 h3 => ?_)
      have hp : ∀ z ∈ ([] : List ExceptionTableEntry), covers z 3 = false ∨ (z.catchType ≠ 0 ∧ ∃ nm : String, (Cond.classLink RL z.catchType nm).before args s = true ∧ va_Nc "java/lang/IndexOutOfBoundsException" nm s) := fun z hz9 => absurd hz9 List.not_mem_nil
      refine vx_catch (own := RL) (name := "java/lang/IndexOutOfBoundsException") S.2.2.2.1 [] { startPc := 0, endPc := 14, handlerPc := 15, catchType := 15 } [{ startPc := 0, endPc := 14, handlerPc := 19, catchType := 18 }] (by rw [htab]; rfl) hp (by decide) (by decide) (S.2.2.2.2 _ (bq_wi 267 (by decide +kernel) rfl)) (bq_castX hT 280 (by decide +kernel)) h1 h2 h3 ?_
      refine lv_astore_n (lv' := [(3, .ref q9), (0, .ref a0), (1, .int x1), (2, .int x2)]) hx hb dL_drops_15 rfl hl (by decide) rfl (fun ls hl => ?_)
      refine lv_ldc (own := RL) (v := (-100001)) hx hb S.2.2.2.1 (S.2.2.2.2 _ (bq_wi 469 (by decide +kernel) rfl)) dL_drops_16 ?_
      cases h
      refine vx_ret (W.widen (k := 1) (n := 6) (Nat.le_of_ble_eq_true rfl) (Nat.le_of_ble_eq_true rfl) ?_)
      exact bq_reti S hr hlocks hK hz dL_drops_18 hW
    replace h := bq_ifF hX0 h
    by_cases hX1 : X3 = "java/lang/IllegalArgumentException"
    · replace h := bq_ifT hX1 h
      subst hX1
      refine bq_callVXk S hK hz hT mv_L_28 (ct_X6_remove hfl hv) (kc_X6_remove hv) dL_drops_3 (rest := []) rfl rfl hl.1 (Nat.le_of_ble_eq_true rfl) ⟨Nat.le_of_ble_eq_true rfl, Nat.le_of_ble_eq_true rfl⟩ ⟨Nat.le_of_ble_eq_true rfl, Nat.le_of_ble_eq_true rfl⟩ hW (fun H locs q9 ce hW h1 h2 h3 => ?_)
      have hp : ∀ z ∈ ([{ startPc := 0, endPc := 14, handlerPc := 15, catchType := 15 }] : List ExceptionTableEntry), covers z 3 = false ∨ (z.catchType ≠ 0 ∧ ∃ nm : String, (Cond.classLink RL z.catchType nm).before args s = true ∧ va_Nc "java/lang/IllegalArgumentException" nm s) := fun z hz9 => by
        simp only [List.mem_cons, List.not_mem_nil, or_false] at hz9
        rcases hz9 with rfl
        · exact Or.inr ⟨by decide, "java/lang/IndexOutOfBoundsException", S.2.2.2.2 _ (bq_wi 267 (by decide +kernel) rfl), hN.1⟩
      refine vx_catch (own := RL) (name := "java/lang/IllegalArgumentException") S.2.2.2.1 [{ startPc := 0, endPc := 14, handlerPc := 15, catchType := 15 }] { startPc := 0, endPc := 14, handlerPc := 19, catchType := 18 } [] (by rw [htab]; rfl) hp (by decide) (by decide) (S.2.2.2.2 _ (bq_wi 268 (by decide +kernel) rfl)) (bq_castX hT 352 (by decide +kernel)) h1 h2 h3 ?_
      refine lv_astore_n (lv' := [(3, .ref q9), (0, .ref a0), (1, .int x1), (2, .int x2)]) hx hb dL_drops_19 rfl hl (by decide) rfl (fun ls hl => ?_)
      refine lv_ldc (own := RL) (v := (-100002)) hx hb S.2.2.2.1 (S.2.2.2.2 _ (bq_wi 470 (by decide +kernel) rfl)) dL_drops_20 ?_
      cases h
      refine vx_ret (W.widen (k := 1) (n := 6) (Nat.le_of_ble_eq_true rfl) (Nat.le_of_ble_eq_true rfl) ?_)
      exact bq_reti S hr hlocks hK hz dL_drops_22 hW
    replace h := bq_ifF hX1 h
    cases h
  replace h := bq_elimL h
  refine bq_callV S hK hz mv_L_28 (cr_X6_remove hv) (kc_X6_remove hv) dL_drops_3 [.int (bq_b v2)] (rest := []) rfl rfl rfl hl.1 (Nat.le_of_ble_eq_true rfl) ⟨Nat.le_of_ble_eq_true rfl, Nat.le_of_ble_eq_true rfl⟩ ⟨Nat.zero_le _, Nat.zero_le _⟩ hW (fun H locs hW => ?_)
  refine lv_if_eq (tgt := 13) hx hb dL_drops_6 (by decide) (fun hc => ?_) (fun hc => ?_)
  · replace h := bq_ifT hc h
    refine lv_iconst (v := 0) hx hb dL_drops_13 (by decide) ?_
    cases h
    refine vx_ret (W.widen (k := 1) (n := 6) (Nat.le_of_ble_eq_true rfl) (Nat.le_of_ble_eq_true rfl) ?_)
    exact bq_reti S hr hlocks hK hz dL_drops_14 hW
  · replace h := bq_ifF hc h
    refine lv_iconst (v := 1) hx hb dL_drops_9 (by decide) ?_
    refine lv_goto (tgt := 14) hx hb dL_drops_10 (by decide) ?_
    cases h
    refine vx_ret (W.widen (k := 1) (n := 6) (Nat.le_of_ble_eq_true rfl) (Nat.le_of_ble_eq_true rfl) ?_)
    exact bq_reti S hr hlocks hK hz dL_drops_14 hW

set_option maxHeartbeats 4000000 in
set_option maxRecDepth 100000 in
theorem cl_L_series {l : Launch} (hfl : l.stackTraces = false) {g : bq_G} {L : List Nat} {z : Nat} {E : bq_E} {a0 : Nat} {x1 : Int32} {x2 : Int32} {x3 : Int32} {x4 : Int32} {R : (Int32 × bq_E)} (h : tw_L_series E a0 x1 x2 x3 x4 = some R) : bq_ML l yL_series cL_series 6 (some .int) [(0, 9, 10, 15), (0, 9, 15, 18)] 9 176 [.ref a0, .int x1, .int x2, .int x3, .int x4] g L E z (some (.int R.1)) R.2 := by
  unfold tw_L_series at h
  refine bq_enterL (by decide) (Nat.le_of_ble_eq_true rfl) ?_
  intro p e s m args below meth c S htab hr hlocks hK hz hT hN hW ls hl
  have S : CallFix p m c cL_series 6 s args bq_WA RL := S
  have hx := S.1
  have hb := S.2.1
  have hl : lv_has ls 6 [(0, .ref a0), (1, .int x1), (2, .int x2), (3, .int x3), (4, .int x4)] := hl
  refine lv_aload_n hx hb dL_series_0 rfl (lv_at hl 0 rfl) ?_
  refine lv_iload_n hx hb dL_series_1 rfl (lv_at hl 1 rfl) ?_
  refine lv_iload_n hx hb dL_series_2 rfl (lv_at hl 2 rfl) ?_
  refine lv_iload_n hx hb dL_series_3 rfl (lv_at hl 3 rfl) ?_
  refine lv_iload hx hb dL_series_4 (lv_at hl 4 rfl) ?_
  obtain ⟨v1, hv, h⟩ := bq_bind h
  rcases hq : v1.1 with v2 | X3
  all_goals rw [hq] at h
  all_goals replace hv := bq_pairE hq hv
  rotate_left
  · replace h := bq_elimR h
    by_cases hX0 : X3 = "java/lang/IndexOutOfBoundsException"
    · replace h := bq_ifT hX0 h
      subst hX0
      refine bq_callVXk S hK hz hT mv_L_31 (ct_X6_addSeries hfl hv) (kc_X6_addSeries hv) dL_series_6 (rest := []) rfl rfl hl.1 (Nat.le_of_ble_eq_true rfl) ⟨Nat.le_of_ble_eq_true rfl, Nat.le_of_ble_eq_true rfl⟩ ⟨Nat.le_of_ble_eq_true rfl, Nat.le_of_ble_eq_true rfl⟩ hW (fun H locs q9 ce hW h1 h2 h3 => ?_)
      have hp : ∀ z ∈ ([] : List ExceptionTableEntry), covers z 6 = false ∨ (z.catchType ≠ 0 ∧ ∃ nm : String, (Cond.classLink RL z.catchType nm).before args s = true ∧ va_Nc "java/lang/IndexOutOfBoundsException" nm s) := fun z hz9 => absurd hz9 List.not_mem_nil
      refine vx_catch (own := RL) (name := "java/lang/IndexOutOfBoundsException") S.2.2.2.1 [] { startPc := 0, endPc := 9, handlerPc := 10, catchType := 15 } [{ startPc := 0, endPc := 9, handlerPc := 15, catchType := 18 }] (by rw [htab]; rfl) hp (by decide) (by decide) (S.2.2.2.2 _ (bq_wi 267 (by decide +kernel) rfl)) (bq_castX hT 280 (by decide +kernel)) h1 h2 h3 ?_
      refine lv_astore (lv' := [(5, .ref q9), (0, .ref a0), (1, .int x1), (2, .int x2), (3, .int x3), (4, .int x4)]) hx hb dL_series_10 hl (by decide) rfl (fun ls hl => ?_)
      refine lv_ldc (own := RL) (v := (-100001)) hx hb S.2.2.2.1 (S.2.2.2.2 _ (bq_wi 469 (by decide +kernel) rfl)) dL_series_12 ?_
      cases h
      refine vx_ret (W.widen (k := 1) (n := 6) (Nat.le_of_ble_eq_true rfl) (Nat.le_of_ble_eq_true rfl) ?_)
      exact bq_reti S hr hlocks hK hz dL_series_14 hW
    replace h := bq_ifF hX0 h
    by_cases hX1 : X3 = "java/lang/IllegalArgumentException"
    · replace h := bq_ifT hX1 h
      subst hX1
      refine bq_callVXk S hK hz hT mv_L_31 (ct_X6_addSeries hfl hv) (kc_X6_addSeries hv) dL_series_6 (rest := []) rfl rfl hl.1 (Nat.le_of_ble_eq_true rfl) ⟨Nat.le_of_ble_eq_true rfl, Nat.le_of_ble_eq_true rfl⟩ ⟨Nat.le_of_ble_eq_true rfl, Nat.le_of_ble_eq_true rfl⟩ hW (fun H locs q9 ce hW h1 h2 h3 => ?_)
      have hp : ∀ z ∈ ([{ startPc := 0, endPc := 9, handlerPc := 10, catchType := 15 }] : List ExceptionTableEntry), covers z 6 = false ∨ (z.catchType ≠ 0 ∧ ∃ nm : String, (Cond.classLink RL z.catchType nm).before args s = true ∧ va_Nc "java/lang/IllegalArgumentException" nm s) := fun z hz9 => by
        simp only [List.mem_cons, List.not_mem_nil, or_false] at hz9
        rcases hz9 with rfl
        · exact Or.inr ⟨by decide, "java/lang/IndexOutOfBoundsException", S.2.2.2.2 _ (bq_wi 267 (by decide +kernel) rfl), hN.1⟩
      refine vx_catch (own := RL) (name := "java/lang/IllegalArgumentException") S.2.2.2.1 [{ startPc := 0, endPc := 9, handlerPc := 10, catchType := 15 }] { startPc := 0, endPc := 9, handlerPc := 15, catchType := 18 } [] (by rw [htab]; rfl) hp (by decide) (by decide) (S.2.2.2.2 _ (bq_wi 268 (by decide +kernel) rfl)) (bq_castX hT 352 (by decide +kernel)) h1 h2 h3 ?_
      refine lv_astore (lv' := [(5, .ref q9), (0, .ref a0), (1, .int x1), (2, .int x2), (3, .int x3), (4, .int x4)]) hx hb dL_series_15 hl (by decide) rfl (fun ls hl => ?_)
      refine lv_ldc (own := RL) (v := (-100002)) hx hb S.2.2.2.1 (S.2.2.2.2 _ (bq_wi 470 (by decide +kernel) rfl)) dL_series_17 ?_
      cases h
      refine vx_ret (W.widen (k := 1) (n := 6) (Nat.le_of_ble_eq_true rfl) (Nat.le_of_ble_eq_true rfl) ?_)
      exact bq_reti S hr hlocks hK hz dL_series_19 hW
    replace h := bq_ifF hX1 h
    cases h
  replace h := bq_elimL h
  refine bq_callV S hK hz mv_L_31 (cr_X6_addSeries hv) (kc_X6_addSeries hv) dL_series_6 [.int v2] (rest := []) rfl rfl rfl hl.1 (Nat.le_of_ble_eq_true rfl) ⟨Nat.le_of_ble_eq_true rfl, Nat.le_of_ble_eq_true rfl⟩ ⟨Nat.zero_le _, Nat.zero_le _⟩ hW (fun H locs hW => ?_)
  cases h
  refine vx_ret (W.widen (k := 1) (n := 6) (Nat.le_of_ble_eq_true rfl) (Nat.le_of_ble_eq_true rfl) ?_)
  exact bq_reti S hr hlocks hK hz dL_series_9 hW

set_option maxHeartbeats 4000000 in
set_option maxRecDepth 100000 in
theorem cl_L_sizes {l : Launch} (hfl : l.stackTraces = false) {g : bq_G} {L : List Nat} {z : Nat} {E : bq_E} {a0 : Nat} {x1 : Int32} {x2 : Int32} {R : (Int32 × bq_E)} (h : tw_L_sizes E a0 x1 x2 = some R) : bq_ML l yL_sizes cL_sizes 4 (some .int) [(0, 6, 7, 18)] 8 171 [.ref a0, .int x1, .int x2] g L E z (some (.int R.1)) R.2 := by
  unfold tw_L_sizes at h
  refine bq_enterL (by decide) (Nat.le_of_ble_eq_true rfl) ?_
  intro p e s m args below meth c S htab hr hlocks hK hz hT hN hW ls hl
  have S : CallFix p m c cL_sizes 4 s args bq_WA RL := S
  have hx := S.1
  have hb := S.2.1
  have hl : lv_has ls 4 [(0, .ref a0), (1, .int x1), (2, .int x2)] := hl
  refine lv_aload_n hx hb dL_sizes_0 rfl (lv_at hl 0 rfl) ?_
  refine lv_iload_n hx hb dL_sizes_1 rfl (lv_at hl 1 rfl) ?_
  refine lv_iload_n hx hb dL_sizes_2 rfl (lv_at hl 2 rfl) ?_
  obtain ⟨v1, hv, h⟩ := bq_bind h
  rcases hq : v1.1 with v2 | X3
  all_goals rw [hq] at h
  all_goals replace hv := bq_pairE hq hv
  rotate_left
  · replace h := bq_elimR h
    by_cases hX0 : X3 = "java/lang/IllegalArgumentException"
    · replace h := bq_ifT hX0 h
      subst hX0
      refine bq_callVXk S hK hz hT mv_L_35 (ct_X6_setSizes hfl hv) (kc_X6_setSizes hv) dL_sizes_3 (rest := []) rfl rfl hl.1 (Nat.le_of_ble_eq_true rfl) ⟨Nat.le_of_ble_eq_true rfl, Nat.le_of_ble_eq_true rfl⟩ ⟨Nat.le_of_ble_eq_true rfl, Nat.le_of_ble_eq_true rfl⟩ hW (fun H locs q9 ce hW h1 h2 h3 => ?_)
      have hp : ∀ z ∈ ([] : List ExceptionTableEntry), covers z 3 = false ∨ (z.catchType ≠ 0 ∧ ∃ nm : String, (Cond.classLink RL z.catchType nm).before args s = true ∧ va_Nc "java/lang/IllegalArgumentException" nm s) := fun z hz9 => absurd hz9 List.not_mem_nil
      refine vx_catch (own := RL) (name := "java/lang/IllegalArgumentException") S.2.2.2.1 [] { startPc := 0, endPc := 6, handlerPc := 7, catchType := 18 } [] (by rw [htab]; rfl) hp (by decide) (by decide) (S.2.2.2.2 _ (bq_wi 268 (by decide +kernel) rfl)) (bq_castX hT 352 (by decide +kernel)) h1 h2 h3 ?_
      refine lv_astore_n (lv' := [(3, .ref q9), (0, .ref a0), (1, .int x1), (2, .int x2)]) hx hb dL_sizes_7 rfl hl (by decide) rfl (fun ls hl => ?_)
      refine lv_ldc (own := RL) (v := (-100002)) hx hb S.2.2.2.1 (S.2.2.2.2 _ (bq_wi 470 (by decide +kernel) rfl)) dL_sizes_8 ?_
      cases h
      refine vx_ret (W.widen (k := 1) (n := 6) (Nat.le_of_ble_eq_true rfl) (Nat.le_of_ble_eq_true rfl) ?_)
      exact bq_reti S hr hlocks hK hz dL_sizes_10 hW
    replace h := bq_ifF hX0 h
    cases h
  replace h := bq_elimL h
  refine bq_callV S hK hz mv_L_35 (cr_X6_setSizes hv) (kc_X6_setSizes hv) dL_sizes_3 [.int v2] (rest := []) rfl rfl rfl hl.1 (Nat.le_of_ble_eq_true rfl) ⟨Nat.le_of_ble_eq_true rfl, Nat.le_of_ble_eq_true rfl⟩ ⟨Nat.zero_le _, Nat.zero_le _⟩ hW (fun H locs hW => ?_)
  cases h
  refine vx_ret (W.widen (k := 1) (n := 6) (Nat.le_of_ble_eq_true rfl) (Nat.le_of_ble_eq_true rfl) ?_)
  exact bq_reti S hr hlocks hK hz dL_sizes_6 hW

set_option maxHeartbeats 4000000 in
set_option maxRecDepth 100000 in
theorem cl_L_builds {l : Launch} (hfl : l.stackTraces = false) {g : bq_G} {L : List Nat} {z : Nat} {E : bq_E} {a0 : Nat} {x1 : Int32} {R : (Int32 × bq_E)} (h : tw_L_builds E a0 x1 = some R) : bq_ML l yL_builds cL_builds 3 (some .int) [(0, 5, 6, 15)] 8 169 [.ref a0, .int x1] g L E z (some (.int R.1)) R.2 := by
  unfold tw_L_builds at h
  refine bq_enterL (by decide) (Nat.le_of_ble_eq_true rfl) ?_
  intro p e s m args below meth c S htab hr hlocks hK hz hT hN hW ls hl
  have S : CallFix p m c cL_builds 3 s args bq_WA RL := S
  have hx := S.1
  have hb := S.2.1
  have hl : lv_has ls 3 [(0, .ref a0), (1, .int x1)] := hl
  refine lv_aload_n hx hb dL_builds_0 rfl (lv_at hl 0 rfl) ?_
  refine lv_iload_n hx hb dL_builds_1 rfl (lv_at hl 1 rfl) ?_
  obtain ⟨v1, hv, h⟩ := bq_bind h
  rcases hq : v1.1 with v2 | X3
  all_goals rw [hq] at h
  all_goals replace hv := bq_pairE hq hv
  rotate_left
  · replace h := bq_elimR h
    by_cases hX0 : X3 = "java/lang/IndexOutOfBoundsException"
    · replace h := bq_ifT hX0 h
      subst hX0
      refine bq_callVXk S hK hz hT mv_L_38 (ct_X6_rebuild hfl hv) (kc_X6_rebuild hv) dL_builds_2 (rest := []) rfl rfl hl.1 (Nat.le_of_ble_eq_true rfl) ⟨Nat.le_of_ble_eq_true rfl, Nat.le_of_ble_eq_true rfl⟩ ⟨Nat.le_of_ble_eq_true rfl, Nat.le_of_ble_eq_true rfl⟩ hW (fun H locs q9 ce hW h1 h2 h3 => ?_)
      have hp : ∀ z ∈ ([] : List ExceptionTableEntry), covers z 2 = false ∨ (z.catchType ≠ 0 ∧ ∃ nm : String, (Cond.classLink RL z.catchType nm).before args s = true ∧ va_Nc "java/lang/IndexOutOfBoundsException" nm s) := fun z hz9 => absurd hz9 List.not_mem_nil
      refine vx_catch (own := RL) (name := "java/lang/IndexOutOfBoundsException") S.2.2.2.1 [] { startPc := 0, endPc := 5, handlerPc := 6, catchType := 15 } [] (by rw [htab]; rfl) hp (by decide) (by decide) (S.2.2.2.2 _ (bq_wi 267 (by decide +kernel) rfl)) (bq_castX hT 280 (by decide +kernel)) h1 h2 h3 ?_
      refine lv_astore_n (lv' := [(2, .ref q9), (0, .ref a0), (1, .int x1)]) hx hb dL_builds_6 rfl hl (by decide) rfl (fun ls hl => ?_)
      refine lv_ldc (own := RL) (v := (-100001)) hx hb S.2.2.2.1 (S.2.2.2.2 _ (bq_wi 469 (by decide +kernel) rfl)) dL_builds_7 ?_
      cases h
      refine vx_ret (W.widen (k := 1) (n := 6) (Nat.le_of_ble_eq_true rfl) (Nat.le_of_ble_eq_true rfl) ?_)
      exact bq_reti S hr hlocks hK hz dL_builds_9 hW
    replace h := bq_ifF hX0 h
    cases h
  replace h := bq_elimL h
  refine bq_callV S hK hz mv_L_38 (cr_X6_rebuild hv) (kc_X6_rebuild hv) dL_builds_2 [.int v2] (rest := []) rfl rfl rfl hl.1 (Nat.le_of_ble_eq_true rfl) ⟨Nat.le_of_ble_eq_true rfl, Nat.le_of_ble_eq_true rfl⟩ ⟨Nat.zero_le _, Nat.zero_le _⟩ hW (fun H locs hW => ?_)
  cases h
  refine vx_ret (W.widen (k := 1) (n := 6) (Nat.le_of_ble_eq_true rfl) (Nat.le_of_ble_eq_true rfl) ?_)
  exact bq_reti S hr hlocks hK hz dL_builds_5 hW

set_option maxHeartbeats 4000000 in
set_option maxRecDepth 100000 in
theorem cl_L_finds {l : Launch} (hfl : l.stackTraces = false) {g : bq_G} {L : List Nat} {z : Nat} {E : bq_E} {a0 : Nat} {x1 : Int32} {x2 : Int32} {R : (Int32 × bq_E)} (h : tw_L_finds E a0 x1 x2 = some R) : bq_ML l yL_finds cL_finds 4 (some .int) [(0, 6, 7, 15), (0, 6, 11, 18)] 10 177 [.ref a0, .int x1, .int x2] g L E z (some (.int R.1)) R.2 := by
  unfold tw_L_finds at h
  refine bq_enterL (by decide) (Nat.le_of_ble_eq_true rfl) ?_
  intro p e s m args below meth c S htab hr hlocks hK hz hT hN hW ls hl
  have S : CallFix p m c cL_finds 4 s args bq_WA RL := S
  have hx := S.1
  have hb := S.2.1
  have hl : lv_has ls 4 [(0, .ref a0), (1, .int x1), (2, .int x2)] := hl
  refine lv_aload_n hx hb dL_finds_0 rfl (lv_at hl 0 rfl) ?_
  refine lv_iload_n hx hb dL_finds_1 rfl (lv_at hl 1 rfl) ?_
  refine lv_iload_n hx hb dL_finds_2 rfl (lv_at hl 2 rfl) ?_
  obtain ⟨v1, hv, h⟩ := bq_bind h
  rcases hq : v1.1 with v2 | X3
  all_goals rw [hq] at h
  all_goals replace hv := bq_pairE hq hv
  rotate_left
  · replace h := bq_elimR h
    by_cases hX0 : X3 = "java/lang/IndexOutOfBoundsException"
    · replace h := bq_ifT hX0 h
      subst hX0
      refine bq_callVXk S hK hz hT mv_L_42 (ct_X6_search hfl hv) (kc_X6_search hv) dL_finds_3 (rest := []) rfl rfl hl.1 (Nat.le_of_ble_eq_true rfl) ⟨Nat.le_of_ble_eq_true rfl, Nat.le_of_ble_eq_true rfl⟩ ⟨Nat.le_of_ble_eq_true rfl, Nat.le_of_ble_eq_true rfl⟩ hW (fun H locs q9 ce hW h1 h2 h3 => ?_)
      have hp : ∀ z ∈ ([] : List ExceptionTableEntry), covers z 3 = false ∨ (z.catchType ≠ 0 ∧ ∃ nm : String, (Cond.classLink RL z.catchType nm).before args s = true ∧ va_Nc "java/lang/IndexOutOfBoundsException" nm s) := fun z hz9 => absurd hz9 List.not_mem_nil
      refine vx_catch (own := RL) (name := "java/lang/IndexOutOfBoundsException") S.2.2.2.1 [] { startPc := 0, endPc := 6, handlerPc := 7, catchType := 15 } [{ startPc := 0, endPc := 6, handlerPc := 11, catchType := 18 }] (by rw [htab]; rfl) hp (by decide) (by decide) (S.2.2.2.2 _ (bq_wi 267 (by decide +kernel) rfl)) (bq_castX hT 280 (by decide +kernel)) h1 h2 h3 ?_
      refine lv_astore_n (lv' := [(3, .ref q9), (0, .ref a0), (1, .int x1), (2, .int x2)]) hx hb dL_finds_7 rfl hl (by decide) rfl (fun ls hl => ?_)
      refine lv_ldc (own := RL) (v := (-100001)) hx hb S.2.2.2.1 (S.2.2.2.2 _ (bq_wi 469 (by decide +kernel) rfl)) dL_finds_8 ?_
      cases h
      refine vx_ret (W.widen (k := 1) (n := 6) (Nat.le_of_ble_eq_true rfl) (Nat.le_of_ble_eq_true rfl) ?_)
      exact bq_reti S hr hlocks hK hz dL_finds_10 hW
    replace h := bq_ifF hX0 h
    by_cases hX1 : X3 = "java/lang/IllegalArgumentException"
    · replace h := bq_ifT hX1 h
      subst hX1
      refine bq_callVXk S hK hz hT mv_L_42 (ct_X6_search hfl hv) (kc_X6_search hv) dL_finds_3 (rest := []) rfl rfl hl.1 (Nat.le_of_ble_eq_true rfl) ⟨Nat.le_of_ble_eq_true rfl, Nat.le_of_ble_eq_true rfl⟩ ⟨Nat.le_of_ble_eq_true rfl, Nat.le_of_ble_eq_true rfl⟩ hW (fun H locs q9 ce hW h1 h2 h3 => ?_)
      have hp : ∀ z ∈ ([{ startPc := 0, endPc := 6, handlerPc := 7, catchType := 15 }] : List ExceptionTableEntry), covers z 3 = false ∨ (z.catchType ≠ 0 ∧ ∃ nm : String, (Cond.classLink RL z.catchType nm).before args s = true ∧ va_Nc "java/lang/IllegalArgumentException" nm s) := fun z hz9 => by
        simp only [List.mem_cons, List.not_mem_nil, or_false] at hz9
        rcases hz9 with rfl
        · exact Or.inr ⟨by decide, "java/lang/IndexOutOfBoundsException", S.2.2.2.2 _ (bq_wi 267 (by decide +kernel) rfl), hN.1⟩
      refine vx_catch (own := RL) (name := "java/lang/IllegalArgumentException") S.2.2.2.1 [{ startPc := 0, endPc := 6, handlerPc := 7, catchType := 15 }] { startPc := 0, endPc := 6, handlerPc := 11, catchType := 18 } [] (by rw [htab]; rfl) hp (by decide) (by decide) (S.2.2.2.2 _ (bq_wi 268 (by decide +kernel) rfl)) (bq_castX hT 352 (by decide +kernel)) h1 h2 h3 ?_
      refine lv_astore_n (lv' := [(3, .ref q9), (0, .ref a0), (1, .int x1), (2, .int x2)]) hx hb dL_finds_11 rfl hl (by decide) rfl (fun ls hl => ?_)
      refine lv_ldc (own := RL) (v := (-100002)) hx hb S.2.2.2.1 (S.2.2.2.2 _ (bq_wi 470 (by decide +kernel) rfl)) dL_finds_12 ?_
      cases h
      refine vx_ret (W.widen (k := 1) (n := 6) (Nat.le_of_ble_eq_true rfl) (Nat.le_of_ble_eq_true rfl) ?_)
      exact bq_reti S hr hlocks hK hz dL_finds_14 hW
    replace h := bq_ifF hX1 h
    cases h
  replace h := bq_elimL h
  refine bq_callV S hK hz mv_L_42 (cr_X6_search hv) (kc_X6_search hv) dL_finds_3 [.int v2] (rest := []) rfl rfl rfl hl.1 (Nat.le_of_ble_eq_true rfl) ⟨Nat.le_of_ble_eq_true rfl, Nat.le_of_ble_eq_true rfl⟩ ⟨Nat.zero_le _, Nat.zero_le _⟩ hW (fun H locs hW => ?_)
  cases h
  refine vx_ret (W.widen (k := 1) (n := 6) (Nat.le_of_ble_eq_true rfl) (Nat.le_of_ble_eq_true rfl) ?_)
  exact bq_reti S hr hlocks hK hz dL_finds_6 hW

set_option maxHeartbeats 4000000 in
set_option maxRecDepth 100000 in
theorem cl_L_nodeOf {l : Launch} (hfl : l.stackTraces = false) {g : bq_G} {L : List Nat} {z : Nat} {E : bq_E} {a0 : Nat} {x1 : Int32} {x2 : Int32} {R : (Int32 × bq_E)} (h : tw_L_nodeOf E a0 x1 x2 = some R) : bq_ML l yL_nodeOf cL_nodeOf 4 (some .int) [(0, 6, 7, 15), (0, 6, 11, 18)] 8 134 [.ref a0, .int x1, .int x2] g L E z (some (.int R.1)) R.2 := by
  unfold tw_L_nodeOf at h
  refine bq_enterL (by decide) (Nat.le_of_ble_eq_true rfl) ?_
  intro p e s m args below meth c S htab hr hlocks hK hz hT hN hW ls hl
  have S : CallFix p m c cL_nodeOf 4 s args bq_WA RL := S
  have hx := S.1
  have hb := S.2.1
  have hl : lv_has ls 4 [(0, .ref a0), (1, .int x1), (2, .int x2)] := hl
  refine lv_aload_n hx hb dL_nodeOf_0 rfl (lv_at hl 0 rfl) ?_
  refine lv_iload_n hx hb dL_nodeOf_1 rfl (lv_at hl 1 rfl) ?_
  refine lv_iload_n hx hb dL_nodeOf_2 rfl (lv_at hl 2 rfl) ?_
  obtain ⟨v1, hv, h⟩ := bq_bind h
  obtain v2 | X3 := v1
  rotate_left
  · replace h := bq_elimR h
    by_cases hX0 : X3 = "java/lang/IndexOutOfBoundsException"
    · replace h := bq_ifT hX0 h
      subst hX0
      refine bq_callVXk S hK hz hT mv_L_45 (ct_X6_node hfl hv) (kc_X6_node hv) dL_nodeOf_3 (rest := []) rfl rfl hl.1 (Nat.le_of_ble_eq_true rfl) ⟨Nat.le_of_ble_eq_true rfl, Nat.le_of_ble_eq_true rfl⟩ ⟨Nat.le_of_ble_eq_true rfl, Nat.le_of_ble_eq_true rfl⟩ hW (fun H locs q9 ce hW h1 h2 h3 => ?_)
      have hp : ∀ z ∈ ([] : List ExceptionTableEntry), covers z 3 = false ∨ (z.catchType ≠ 0 ∧ ∃ nm : String, (Cond.classLink RL z.catchType nm).before args s = true ∧ va_Nc "java/lang/IndexOutOfBoundsException" nm s) := fun z hz9 => absurd hz9 List.not_mem_nil
      refine vx_catch (own := RL) (name := "java/lang/IndexOutOfBoundsException") S.2.2.2.1 [] { startPc := 0, endPc := 6, handlerPc := 7, catchType := 15 } [{ startPc := 0, endPc := 6, handlerPc := 11, catchType := 18 }] (by rw [htab]; rfl) hp (by decide) (by decide) (S.2.2.2.2 _ (bq_wi 267 (by decide +kernel) rfl)) (bq_castX hT 280 (by decide +kernel)) h1 h2 h3 ?_
      refine lv_astore_n (lv' := [(3, .ref q9), (0, .ref a0), (1, .int x1), (2, .int x2)]) hx hb dL_nodeOf_7 rfl hl (by decide) rfl (fun ls hl => ?_)
      refine lv_ldc (own := RL) (v := (-100001)) hx hb S.2.2.2.1 (S.2.2.2.2 _ (bq_wi 469 (by decide +kernel) rfl)) dL_nodeOf_8 ?_
      cases h
      refine vx_ret (W.widen (k := 1) (n := 6) (Nat.le_of_ble_eq_true rfl) (Nat.le_of_ble_eq_true rfl) ?_)
      exact bq_reti S hr hlocks hK hz dL_nodeOf_10 hW
    replace h := bq_ifF hX0 h
    by_cases hX1 : X3 = "java/lang/IllegalArgumentException"
    · replace h := bq_ifT hX1 h
      subst hX1
      refine bq_callVXk S hK hz hT mv_L_45 (ct_X6_node hfl hv) (kc_X6_node hv) dL_nodeOf_3 (rest := []) rfl rfl hl.1 (Nat.le_of_ble_eq_true rfl) ⟨Nat.le_of_ble_eq_true rfl, Nat.le_of_ble_eq_true rfl⟩ ⟨Nat.le_of_ble_eq_true rfl, Nat.le_of_ble_eq_true rfl⟩ hW (fun H locs q9 ce hW h1 h2 h3 => ?_)
      have hp : ∀ z ∈ ([{ startPc := 0, endPc := 6, handlerPc := 7, catchType := 15 }] : List ExceptionTableEntry), covers z 3 = false ∨ (z.catchType ≠ 0 ∧ ∃ nm : String, (Cond.classLink RL z.catchType nm).before args s = true ∧ va_Nc "java/lang/IllegalArgumentException" nm s) := fun z hz9 => by
        simp only [List.mem_cons, List.not_mem_nil, or_false] at hz9
        rcases hz9 with rfl
        · exact Or.inr ⟨by decide, "java/lang/IndexOutOfBoundsException", S.2.2.2.2 _ (bq_wi 267 (by decide +kernel) rfl), hN.1⟩
      refine vx_catch (own := RL) (name := "java/lang/IllegalArgumentException") S.2.2.2.1 [{ startPc := 0, endPc := 6, handlerPc := 7, catchType := 15 }] { startPc := 0, endPc := 6, handlerPc := 11, catchType := 18 } [] (by rw [htab]; rfl) hp (by decide) (by decide) (S.2.2.2.2 _ (bq_wi 268 (by decide +kernel) rfl)) (bq_castX hT 352 (by decide +kernel)) h1 h2 h3 ?_
      refine lv_astore_n (lv' := [(3, .ref q9), (0, .ref a0), (1, .int x1), (2, .int x2)]) hx hb dL_nodeOf_11 rfl hl (by decide) rfl (fun ls hl => ?_)
      refine lv_ldc (own := RL) (v := (-100002)) hx hb S.2.2.2.1 (S.2.2.2.2 _ (bq_wi 470 (by decide +kernel) rfl)) dL_nodeOf_12 ?_
      cases h
      refine vx_ret (W.widen (k := 1) (n := 6) (Nat.le_of_ble_eq_true rfl) (Nat.le_of_ble_eq_true rfl) ?_)
      exact bq_reti S hr hlocks hK hz dL_nodeOf_14 hW
    replace h := bq_ifF hX1 h
    cases h
  replace h := bq_elimL h
  refine bq_callV S hK hz mv_L_45 (cr_X6_node hv) (kc_X6_node hv) dL_nodeOf_3 [.int v2] (rest := []) rfl rfl rfl hl.1 (Nat.le_of_ble_eq_true rfl) ⟨Nat.le_of_ble_eq_true rfl, Nat.le_of_ble_eq_true rfl⟩ ⟨Nat.zero_le _, Nat.zero_le _⟩ hW (fun H locs hW => ?_)
  cases h
  refine vx_ret (W.widen (k := 1) (n := 6) (Nat.le_of_ble_eq_true rfl) (Nat.le_of_ble_eq_true rfl) ?_)
  exact bq_reti S hr hlocks hK hz dL_nodeOf_6 hW

set_option maxHeartbeats 4000000 in
set_option maxRecDepth 100000 in
theorem cl_L_keyOf {l : Launch} (hfl : l.stackTraces = false) {g : bq_G} {L : List Nat} {z : Nat} {E : bq_E} {a0 : Nat} {x1 : Int32} {x2 : Int32} {R : (Int32 × bq_E)} (h : tw_L_keyOf E a0 x1 x2 = some R) : bq_ML l yL_keyOf cL_keyOf 4 (some .int) [(0, 6, 7, 15), (0, 6, 11, 18)] 8 133 [.ref a0, .int x1, .int x2] g L E z (some (.int R.1)) R.2 := by
  unfold tw_L_keyOf at h
  refine bq_enterL (by decide) (Nat.le_of_ble_eq_true rfl) ?_
  intro p e s m args below meth c S htab hr hlocks hK hz hT hN hW ls hl
  have S : CallFix p m c cL_keyOf 4 s args bq_WA RL := S
  have hx := S.1
  have hb := S.2.1
  have hl : lv_has ls 4 [(0, .ref a0), (1, .int x1), (2, .int x2)] := hl
  refine lv_aload_n hx hb dL_keyOf_0 rfl (lv_at hl 0 rfl) ?_
  refine lv_iload_n hx hb dL_keyOf_1 rfl (lv_at hl 1 rfl) ?_
  refine lv_iload_n hx hb dL_keyOf_2 rfl (lv_at hl 2 rfl) ?_
  obtain ⟨v1, hv, h⟩ := bq_bind h
  obtain v2 | X3 := v1
  rotate_left
  · replace h := bq_elimR h
    by_cases hX0 : X3 = "java/lang/IndexOutOfBoundsException"
    · replace h := bq_ifT hX0 h
      subst hX0
      refine bq_callVXk S hK hz hT mv_L_48 (ct_X6_key hfl hv) (kc_X6_key hv) dL_keyOf_3 (rest := []) rfl rfl hl.1 (Nat.le_of_ble_eq_true rfl) ⟨Nat.le_of_ble_eq_true rfl, Nat.le_of_ble_eq_true rfl⟩ ⟨Nat.le_of_ble_eq_true rfl, Nat.le_of_ble_eq_true rfl⟩ hW (fun H locs q9 ce hW h1 h2 h3 => ?_)
      have hp : ∀ z ∈ ([] : List ExceptionTableEntry), covers z 3 = false ∨ (z.catchType ≠ 0 ∧ ∃ nm : String, (Cond.classLink RL z.catchType nm).before args s = true ∧ va_Nc "java/lang/IndexOutOfBoundsException" nm s) := fun z hz9 => absurd hz9 List.not_mem_nil
      refine vx_catch (own := RL) (name := "java/lang/IndexOutOfBoundsException") S.2.2.2.1 [] { startPc := 0, endPc := 6, handlerPc := 7, catchType := 15 } [{ startPc := 0, endPc := 6, handlerPc := 11, catchType := 18 }] (by rw [htab]; rfl) hp (by decide) (by decide) (S.2.2.2.2 _ (bq_wi 267 (by decide +kernel) rfl)) (bq_castX hT 280 (by decide +kernel)) h1 h2 h3 ?_
      refine lv_astore_n (lv' := [(3, .ref q9), (0, .ref a0), (1, .int x1), (2, .int x2)]) hx hb dL_keyOf_7 rfl hl (by decide) rfl (fun ls hl => ?_)
      refine lv_ldc (own := RL) (v := (-100001)) hx hb S.2.2.2.1 (S.2.2.2.2 _ (bq_wi 469 (by decide +kernel) rfl)) dL_keyOf_8 ?_
      cases h
      refine vx_ret (W.widen (k := 1) (n := 6) (Nat.le_of_ble_eq_true rfl) (Nat.le_of_ble_eq_true rfl) ?_)
      exact bq_reti S hr hlocks hK hz dL_keyOf_10 hW
    replace h := bq_ifF hX0 h
    by_cases hX1 : X3 = "java/lang/IllegalArgumentException"
    · replace h := bq_ifT hX1 h
      subst hX1
      refine bq_callVXk S hK hz hT mv_L_48 (ct_X6_key hfl hv) (kc_X6_key hv) dL_keyOf_3 (rest := []) rfl rfl hl.1 (Nat.le_of_ble_eq_true rfl) ⟨Nat.le_of_ble_eq_true rfl, Nat.le_of_ble_eq_true rfl⟩ ⟨Nat.le_of_ble_eq_true rfl, Nat.le_of_ble_eq_true rfl⟩ hW (fun H locs q9 ce hW h1 h2 h3 => ?_)
      have hp : ∀ z ∈ ([{ startPc := 0, endPc := 6, handlerPc := 7, catchType := 15 }] : List ExceptionTableEntry), covers z 3 = false ∨ (z.catchType ≠ 0 ∧ ∃ nm : String, (Cond.classLink RL z.catchType nm).before args s = true ∧ va_Nc "java/lang/IllegalArgumentException" nm s) := fun z hz9 => by
        simp only [List.mem_cons, List.not_mem_nil, or_false] at hz9
        rcases hz9 with rfl
        · exact Or.inr ⟨by decide, "java/lang/IndexOutOfBoundsException", S.2.2.2.2 _ (bq_wi 267 (by decide +kernel) rfl), hN.1⟩
      refine vx_catch (own := RL) (name := "java/lang/IllegalArgumentException") S.2.2.2.1 [{ startPc := 0, endPc := 6, handlerPc := 7, catchType := 15 }] { startPc := 0, endPc := 6, handlerPc := 11, catchType := 18 } [] (by rw [htab]; rfl) hp (by decide) (by decide) (S.2.2.2.2 _ (bq_wi 268 (by decide +kernel) rfl)) (bq_castX hT 352 (by decide +kernel)) h1 h2 h3 ?_
      refine lv_astore_n (lv' := [(3, .ref q9), (0, .ref a0), (1, .int x1), (2, .int x2)]) hx hb dL_keyOf_11 rfl hl (by decide) rfl (fun ls hl => ?_)
      refine lv_ldc (own := RL) (v := (-100002)) hx hb S.2.2.2.1 (S.2.2.2.2 _ (bq_wi 470 (by decide +kernel) rfl)) dL_keyOf_12 ?_
      cases h
      refine vx_ret (W.widen (k := 1) (n := 6) (Nat.le_of_ble_eq_true rfl) (Nat.le_of_ble_eq_true rfl) ?_)
      exact bq_reti S hr hlocks hK hz dL_keyOf_14 hW
    replace h := bq_ifF hX1 h
    cases h
  replace h := bq_elimL h
  refine bq_callV S hK hz mv_L_48 (cr_X6_key hv) (kc_X6_key hv) dL_keyOf_3 [.int v2] (rest := []) rfl rfl rfl hl.1 (Nat.le_of_ble_eq_true rfl) ⟨Nat.le_of_ble_eq_true rfl, Nat.le_of_ble_eq_true rfl⟩ ⟨Nat.zero_le _, Nat.zero_le _⟩ hW (fun H locs hW => ?_)
  cases h
  refine vx_ret (W.widen (k := 1) (n := 6) (Nat.le_of_ble_eq_true rfl) (Nat.le_of_ble_eq_true rfl) ?_)
  exact bq_reti S hr hlocks hK hz dL_keyOf_6 hW

set_option maxHeartbeats 4000000 in
set_option maxRecDepth 100000 in
theorem cl_L_baseOf {l : Launch} (hfl : l.stackTraces = false) {g : bq_G} {L : List Nat} {z : Nat} {E : bq_E} {a0 : Nat} {x1 : Int32} {x2 : Int32} {R : (Int32 × bq_E)} (h : tw_L_baseOf E a0 x1 x2 = some R) : bq_ML l yL_baseOf cL_baseOf 4 (some .int) [(0, 6, 7, 15), (0, 6, 11, 18)] 8 135 [.ref a0, .int x1, .int x2] g L E z (some (.int R.1)) R.2 := by
  unfold tw_L_baseOf at h
  refine bq_enterL (by decide) (Nat.le_of_ble_eq_true rfl) ?_
  intro p e s m args below meth c S htab hr hlocks hK hz hT hN hW ls hl
  have S : CallFix p m c cL_baseOf 4 s args bq_WA RL := S
  have hx := S.1
  have hb := S.2.1
  have hl : lv_has ls 4 [(0, .ref a0), (1, .int x1), (2, .int x2)] := hl
  refine lv_aload_n hx hb dL_baseOf_0 rfl (lv_at hl 0 rfl) ?_
  refine lv_iload_n hx hb dL_baseOf_1 rfl (lv_at hl 1 rfl) ?_
  refine lv_iload_n hx hb dL_baseOf_2 rfl (lv_at hl 2 rfl) ?_
  obtain ⟨v1, hv, h⟩ := bq_bind h
  obtain v2 | X3 := v1
  rotate_left
  · replace h := bq_elimR h
    by_cases hX0 : X3 = "java/lang/IndexOutOfBoundsException"
    · replace h := bq_ifT hX0 h
      subst hX0
      refine bq_callVXk S hK hz hT mv_L_51 (ct_X6_baseKey hfl hv) (kc_X6_baseKey hv) dL_baseOf_3 (rest := []) rfl rfl hl.1 (Nat.le_of_ble_eq_true rfl) ⟨Nat.le_of_ble_eq_true rfl, Nat.le_of_ble_eq_true rfl⟩ ⟨Nat.le_of_ble_eq_true rfl, Nat.le_of_ble_eq_true rfl⟩ hW (fun H locs q9 ce hW h1 h2 h3 => ?_)
      have hp : ∀ z ∈ ([] : List ExceptionTableEntry), covers z 3 = false ∨ (z.catchType ≠ 0 ∧ ∃ nm : String, (Cond.classLink RL z.catchType nm).before args s = true ∧ va_Nc "java/lang/IndexOutOfBoundsException" nm s) := fun z hz9 => absurd hz9 List.not_mem_nil
      refine vx_catch (own := RL) (name := "java/lang/IndexOutOfBoundsException") S.2.2.2.1 [] { startPc := 0, endPc := 6, handlerPc := 7, catchType := 15 } [{ startPc := 0, endPc := 6, handlerPc := 11, catchType := 18 }] (by rw [htab]; rfl) hp (by decide) (by decide) (S.2.2.2.2 _ (bq_wi 267 (by decide +kernel) rfl)) (bq_castX hT 280 (by decide +kernel)) h1 h2 h3 ?_
      refine lv_astore_n (lv' := [(3, .ref q9), (0, .ref a0), (1, .int x1), (2, .int x2)]) hx hb dL_baseOf_7 rfl hl (by decide) rfl (fun ls hl => ?_)
      refine lv_ldc (own := RL) (v := (-100001)) hx hb S.2.2.2.1 (S.2.2.2.2 _ (bq_wi 469 (by decide +kernel) rfl)) dL_baseOf_8 ?_
      cases h
      refine vx_ret (W.widen (k := 1) (n := 6) (Nat.le_of_ble_eq_true rfl) (Nat.le_of_ble_eq_true rfl) ?_)
      exact bq_reti S hr hlocks hK hz dL_baseOf_10 hW
    replace h := bq_ifF hX0 h
    by_cases hX1 : X3 = "java/lang/IllegalArgumentException"
    · replace h := bq_ifT hX1 h
      subst hX1
      refine bq_callVXk S hK hz hT mv_L_51 (ct_X6_baseKey hfl hv) (kc_X6_baseKey hv) dL_baseOf_3 (rest := []) rfl rfl hl.1 (Nat.le_of_ble_eq_true rfl) ⟨Nat.le_of_ble_eq_true rfl, Nat.le_of_ble_eq_true rfl⟩ ⟨Nat.le_of_ble_eq_true rfl, Nat.le_of_ble_eq_true rfl⟩ hW (fun H locs q9 ce hW h1 h2 h3 => ?_)
      have hp : ∀ z ∈ ([{ startPc := 0, endPc := 6, handlerPc := 7, catchType := 15 }] : List ExceptionTableEntry), covers z 3 = false ∨ (z.catchType ≠ 0 ∧ ∃ nm : String, (Cond.classLink RL z.catchType nm).before args s = true ∧ va_Nc "java/lang/IllegalArgumentException" nm s) := fun z hz9 => by
        simp only [List.mem_cons, List.not_mem_nil, or_false] at hz9
        rcases hz9 with rfl
        · exact Or.inr ⟨by decide, "java/lang/IndexOutOfBoundsException", S.2.2.2.2 _ (bq_wi 267 (by decide +kernel) rfl), hN.1⟩
      refine vx_catch (own := RL) (name := "java/lang/IllegalArgumentException") S.2.2.2.1 [{ startPc := 0, endPc := 6, handlerPc := 7, catchType := 15 }] { startPc := 0, endPc := 6, handlerPc := 11, catchType := 18 } [] (by rw [htab]; rfl) hp (by decide) (by decide) (S.2.2.2.2 _ (bq_wi 268 (by decide +kernel) rfl)) (bq_castX hT 352 (by decide +kernel)) h1 h2 h3 ?_
      refine lv_astore_n (lv' := [(3, .ref q9), (0, .ref a0), (1, .int x1), (2, .int x2)]) hx hb dL_baseOf_11 rfl hl (by decide) rfl (fun ls hl => ?_)
      refine lv_ldc (own := RL) (v := (-100002)) hx hb S.2.2.2.1 (S.2.2.2.2 _ (bq_wi 470 (by decide +kernel) rfl)) dL_baseOf_12 ?_
      cases h
      refine vx_ret (W.widen (k := 1) (n := 6) (Nat.le_of_ble_eq_true rfl) (Nat.le_of_ble_eq_true rfl) ?_)
      exact bq_reti S hr hlocks hK hz dL_baseOf_14 hW
    replace h := bq_ifF hX1 h
    cases h
  replace h := bq_elimL h
  refine bq_callV S hK hz mv_L_51 (cr_X6_baseKey hv) (kc_X6_baseKey hv) dL_baseOf_3 [.int v2] (rest := []) rfl rfl rfl hl.1 (Nat.le_of_ble_eq_true rfl) ⟨Nat.le_of_ble_eq_true rfl, Nat.le_of_ble_eq_true rfl⟩ ⟨Nat.zero_le _, Nat.zero_le _⟩ hW (fun H locs hW => ?_)
  cases h
  refine vx_ret (W.widen (k := 1) (n := 6) (Nat.le_of_ble_eq_true rfl) (Nat.le_of_ble_eq_true rfl) ?_)
  exact bq_reti S hr hlocks hK hz dL_baseOf_6 hW

set_option maxHeartbeats 4000000 in
set_option maxRecDepth 100000 in
theorem cl_L_bufferOf {l : Launch} (hfl : l.stackTraces = false) {g : bq_G} {L : List Nat} {z : Nat} {E : bq_E} {a0 : Nat} {x1 : Int32} {x2 : Int32} {R : (Int32 × bq_E)} (h : tw_L_bufferOf E a0 x1 x2 = some R) : bq_ML l yL_bufferOf cL_bufferOf 4 (some .int) [(0, 6, 7, 15), (0, 6, 11, 18)] 8 133 [.ref a0, .int x1, .int x2] g L E z (some (.int R.1)) R.2 := by
  unfold tw_L_bufferOf at h
  refine bq_enterL (by decide) (Nat.le_of_ble_eq_true rfl) ?_
  intro p e s m args below meth c S htab hr hlocks hK hz hT hN hW ls hl
  have S : CallFix p m c cL_bufferOf 4 s args bq_WA RL := S
  have hx := S.1
  have hb := S.2.1
  have hl : lv_has ls 4 [(0, .ref a0), (1, .int x1), (2, .int x2)] := hl
  refine lv_aload_n hx hb dL_bufferOf_0 rfl (lv_at hl 0 rfl) ?_
  refine lv_iload_n hx hb dL_bufferOf_1 rfl (lv_at hl 1 rfl) ?_
  refine lv_iload_n hx hb dL_bufferOf_2 rfl (lv_at hl 2 rfl) ?_
  obtain ⟨v1, hv, h⟩ := bq_bind h
  obtain v2 | X3 := v1
  rotate_left
  · replace h := bq_elimR h
    by_cases hX0 : X3 = "java/lang/IndexOutOfBoundsException"
    · replace h := bq_ifT hX0 h
      subst hX0
      refine bq_callVXk S hK hz hT mv_L_54 (ct_X6_bufferKey hfl hv) (kc_X6_bufferKey hv) dL_bufferOf_3 (rest := []) rfl rfl hl.1 (Nat.le_of_ble_eq_true rfl) ⟨Nat.le_of_ble_eq_true rfl, Nat.le_of_ble_eq_true rfl⟩ ⟨Nat.le_of_ble_eq_true rfl, Nat.le_of_ble_eq_true rfl⟩ hW (fun H locs q9 ce hW h1 h2 h3 => ?_)
      have hp : ∀ z ∈ ([] : List ExceptionTableEntry), covers z 3 = false ∨ (z.catchType ≠ 0 ∧ ∃ nm : String, (Cond.classLink RL z.catchType nm).before args s = true ∧ va_Nc "java/lang/IndexOutOfBoundsException" nm s) := fun z hz9 => absurd hz9 List.not_mem_nil
      refine vx_catch (own := RL) (name := "java/lang/IndexOutOfBoundsException") S.2.2.2.1 [] { startPc := 0, endPc := 6, handlerPc := 7, catchType := 15 } [{ startPc := 0, endPc := 6, handlerPc := 11, catchType := 18 }] (by rw [htab]; rfl) hp (by decide) (by decide) (S.2.2.2.2 _ (bq_wi 267 (by decide +kernel) rfl)) (bq_castX hT 280 (by decide +kernel)) h1 h2 h3 ?_
      refine lv_astore_n (lv' := [(3, .ref q9), (0, .ref a0), (1, .int x1), (2, .int x2)]) hx hb dL_bufferOf_7 rfl hl (by decide) rfl (fun ls hl => ?_)
      refine lv_ldc (own := RL) (v := (-100001)) hx hb S.2.2.2.1 (S.2.2.2.2 _ (bq_wi 469 (by decide +kernel) rfl)) dL_bufferOf_8 ?_
      cases h
      refine vx_ret (W.widen (k := 1) (n := 6) (Nat.le_of_ble_eq_true rfl) (Nat.le_of_ble_eq_true rfl) ?_)
      exact bq_reti S hr hlocks hK hz dL_bufferOf_10 hW
    replace h := bq_ifF hX0 h
    by_cases hX1 : X3 = "java/lang/IllegalArgumentException"
    · replace h := bq_ifT hX1 h
      subst hX1
      refine bq_callVXk S hK hz hT mv_L_54 (ct_X6_bufferKey hfl hv) (kc_X6_bufferKey hv) dL_bufferOf_3 (rest := []) rfl rfl hl.1 (Nat.le_of_ble_eq_true rfl) ⟨Nat.le_of_ble_eq_true rfl, Nat.le_of_ble_eq_true rfl⟩ ⟨Nat.le_of_ble_eq_true rfl, Nat.le_of_ble_eq_true rfl⟩ hW (fun H locs q9 ce hW h1 h2 h3 => ?_)
      have hp : ∀ z ∈ ([{ startPc := 0, endPc := 6, handlerPc := 7, catchType := 15 }] : List ExceptionTableEntry), covers z 3 = false ∨ (z.catchType ≠ 0 ∧ ∃ nm : String, (Cond.classLink RL z.catchType nm).before args s = true ∧ va_Nc "java/lang/IllegalArgumentException" nm s) := fun z hz9 => by
        simp only [List.mem_cons, List.not_mem_nil, or_false] at hz9
        rcases hz9 with rfl
        · exact Or.inr ⟨by decide, "java/lang/IndexOutOfBoundsException", S.2.2.2.2 _ (bq_wi 267 (by decide +kernel) rfl), hN.1⟩
      refine vx_catch (own := RL) (name := "java/lang/IllegalArgumentException") S.2.2.2.1 [{ startPc := 0, endPc := 6, handlerPc := 7, catchType := 15 }] { startPc := 0, endPc := 6, handlerPc := 11, catchType := 18 } [] (by rw [htab]; rfl) hp (by decide) (by decide) (S.2.2.2.2 _ (bq_wi 268 (by decide +kernel) rfl)) (bq_castX hT 352 (by decide +kernel)) h1 h2 h3 ?_
      refine lv_astore_n (lv' := [(3, .ref q9), (0, .ref a0), (1, .int x1), (2, .int x2)]) hx hb dL_bufferOf_11 rfl hl (by decide) rfl (fun ls hl => ?_)
      refine lv_ldc (own := RL) (v := (-100002)) hx hb S.2.2.2.1 (S.2.2.2.2 _ (bq_wi 470 (by decide +kernel) rfl)) dL_bufferOf_12 ?_
      cases h
      refine vx_ret (W.widen (k := 1) (n := 6) (Nat.le_of_ble_eq_true rfl) (Nat.le_of_ble_eq_true rfl) ?_)
      exact bq_reti S hr hlocks hK hz dL_bufferOf_14 hW
    replace h := bq_ifF hX1 h
    cases h
  replace h := bq_elimL h
  refine bq_callV S hK hz mv_L_54 (cr_X6_bufferKey hv) (kc_X6_bufferKey hv) dL_bufferOf_3 [.int v2] (rest := []) rfl rfl rfl hl.1 (Nat.le_of_ble_eq_true rfl) ⟨Nat.le_of_ble_eq_true rfl, Nat.le_of_ble_eq_true rfl⟩ ⟨Nat.zero_le _, Nat.zero_le _⟩ hW (fun H locs hW => ?_)
  cases h
  refine vx_ret (W.widen (k := 1) (n := 6) (Nat.le_of_ble_eq_true rfl) (Nat.le_of_ble_eq_true rfl) ?_)
  exact bq_reti S hr hlocks hK hz dL_bufferOf_6 hW

set_option maxHeartbeats 4000000 in
set_option maxRecDepth 100000 in
theorem cl_L_countOf {l : Launch} (hfl : l.stackTraces = false) {g : bq_G} {L : List Nat} {z : Nat} {E : bq_E} {a0 : Nat} {x1 : Int32} {R : (Int32 × bq_E)} (h : tw_L_countOf E a0 x1 = some R) : bq_ML l yL_countOf cL_countOf 3 (some .int) [(0, 5, 6, 18)] 7 111 [.ref a0, .int x1] g L E z (some (.int R.1)) R.2 := by
  unfold tw_L_countOf at h
  refine bq_enterL (by decide) (Nat.le_of_ble_eq_true rfl) ?_
  intro p e s m args below meth c S htab hr hlocks hK hz hT hN hW ls hl
  have S : CallFix p m c cL_countOf 3 s args bq_WA RL := S
  have hx := S.1
  have hb := S.2.1
  have hl : lv_has ls 3 [(0, .ref a0), (1, .int x1)] := hl
  refine lv_aload_n hx hb dL_countOf_0 rfl (lv_at hl 0 rfl) ?_
  refine lv_iload_n hx hb dL_countOf_1 rfl (lv_at hl 1 rfl) ?_
  obtain ⟨v1, hv, h⟩ := bq_bind h
  obtain v2 | X3 := v1
  rotate_left
  · replace h := bq_elimR h
    by_cases hX0 : X3 = "java/lang/IllegalArgumentException"
    · replace h := bq_ifT hX0 h
      subst hX0
      refine bq_callVXk S hK hz hT mv_L_57 (ct_X6_count hfl hv) (kc_X6_count hv) dL_countOf_2 (rest := []) rfl rfl hl.1 (Nat.le_of_ble_eq_true rfl) ⟨Nat.le_of_ble_eq_true rfl, Nat.le_of_ble_eq_true rfl⟩ ⟨Nat.le_of_ble_eq_true rfl, Nat.le_of_ble_eq_true rfl⟩ hW (fun H locs q9 ce hW h1 h2 h3 => ?_)
      have hp : ∀ z ∈ ([] : List ExceptionTableEntry), covers z 2 = false ∨ (z.catchType ≠ 0 ∧ ∃ nm : String, (Cond.classLink RL z.catchType nm).before args s = true ∧ va_Nc "java/lang/IllegalArgumentException" nm s) := fun z hz9 => absurd hz9 List.not_mem_nil
      refine vx_catch (own := RL) (name := "java/lang/IllegalArgumentException") S.2.2.2.1 [] { startPc := 0, endPc := 5, handlerPc := 6, catchType := 18 } [] (by rw [htab]; rfl) hp (by decide) (by decide) (S.2.2.2.2 _ (bq_wi 268 (by decide +kernel) rfl)) (bq_castX hT 352 (by decide +kernel)) h1 h2 h3 ?_
      refine lv_astore_n (lv' := [(2, .ref q9), (0, .ref a0), (1, .int x1)]) hx hb dL_countOf_6 rfl hl (by decide) rfl (fun ls hl => ?_)
      refine lv_ldc (own := RL) (v := (-100002)) hx hb S.2.2.2.1 (S.2.2.2.2 _ (bq_wi 470 (by decide +kernel) rfl)) dL_countOf_7 ?_
      cases h
      refine vx_ret (W.widen (k := 1) (n := 6) (Nat.le_of_ble_eq_true rfl) (Nat.le_of_ble_eq_true rfl) ?_)
      exact bq_reti S hr hlocks hK hz dL_countOf_9 hW
    replace h := bq_ifF hX0 h
    cases h
  replace h := bq_elimL h
  refine bq_callV S hK hz mv_L_57 (cr_X6_count hv) (kc_X6_count hv) dL_countOf_2 [.int v2] (rest := []) rfl rfl rfl hl.1 (Nat.le_of_ble_eq_true rfl) ⟨Nat.le_of_ble_eq_true rfl, Nat.le_of_ble_eq_true rfl⟩ ⟨Nat.zero_le _, Nat.zero_le _⟩ hW (fun H locs hW => ?_)
  cases h
  refine vx_ret (W.widen (k := 1) (n := 6) (Nat.le_of_ble_eq_true rfl) (Nat.le_of_ble_eq_true rfl) ?_)
  exact bq_reti S hr hlocks hK hz dL_countOf_5 hW

set_option maxHeartbeats 4000000 in
set_option maxRecDepth 100000 in
theorem c_L_inBase {l : Launch} {g : bq_G} {L : List Nat} {z : Nat} {E : bq_E} {a0 : Nat} {a1 : Nat} {x2 : Int32} {x3 : Int32} {R : Int32} (h : tw_L_inBase E a0 a1 x2 x3 = some R) : bq_M l yL_inBase cL_inBase 6 (some .int) 0 0 [.ref a0, .ref a1, .int x2, .int x3] g L E z (some (.int R)) E := by
  unfold tw_L_inBase at h
  refine bq_enter (by decide) (Nat.le_of_ble_eq_true rfl) ?_
  intro p e s m args below meth c S hr hlocks hK hz hW ls hl
  have S : CallFix p m c cL_inBase 6 s args bq_WA RL := S
  have hx := S.1
  have hb := S.2.1
  have hl : lv_has ls 6 [(0, .ref a0), (1, .ref a1), (2, .int x2), (3, .int x3)] := hl
  refine lv_iconst (v := (-1)) hx hb dL_inBase_0 (by decide) ?_
  refine lv_istore (lv' := [(4, .int (-1 : Int32)), (0, .ref a0), (1, .ref a1), (2, .int x2), (3, .int x3)]) hx hb dL_inBase_1 hl (by decide) rfl (fun ls hl => ?_)
  refine lv_iconst (v := 0) hx hb dL_inBase_3 (by decide) ?_
  refine lv_istore (lv' := [(5, .int (0 : Int32)), (4, .int (-1 : Int32)), (0, .ref a0), (1, .ref a1), (2, .int x2), (3, .int x3)]) hx hb dL_inBase_4 hl (by decide) rfl (fun ls hl => ?_)
  have hL6 : ∀ (n : Nat) (z3 : Int32) (z4 : Int32) (H1 : Heap) (locs1 : List Loc) (ls1 : Array Slot), tl_L_inBase_6 E a0 a1 x2 x3 n z3 z4 = some R → bq_H g L E z s.heap H1 locs1 → lv_has ls1 6 [(0, .ref a0), (1, .ref a1), (2, .int x2), (3, .int x3), (4, .int z3), (5, .int z4)] → W p l e { frames := 0, cells := 0, slots := 0, locals := 0 } s m args below meth c H1 locs1 0 0 (MQ below (bq_Q g L E z (some (.int R))) args s 0 0 (bq_A z)) (F0 m 6 ls1 []) := by
    intro n
    induction n with
    | zero => intro z3 z4 H locs ls h hW hl; cases h
    | succ n ih =>
      intro z3 z4 H locs ls h hW hl
      rw [tl_L_inBase_6.eq_2] at h
      refine lv_iload hx hb dL_inBase_6 (lv_at hl 5 rfl) ?_
      refine lv_aload_n hx hb dL_inBase_8 rfl (lv_at hl 1 rfl) ?_
      refine lv_iload_n hx hb dL_inBase_9 rfl (lv_at hl 2 rfl) ?_
      obtain ⟨v5, hv, h⟩ := bq_bind h
      refine bq_iald S hK dL_inBase_10 hv hW ?_
      refine lv_icmp_ge (tgt := 41) hx hb dL_inBase_11 (by decide) (fun hc => ?_) (fun hc => ?_)
      · replace h := bq_ifT hc h
        refine lv_iload hx hb dL_inBase_41 (lv_at hl 4 rfl) ?_
        cases h
        exact bq_reti S hr hlocks hK hz dL_inBase_43 hW
      · replace h := bq_ifF hc h
        refine lv_aload_n hx hb dL_inBase_14 rfl (lv_at hl 0 rfl) ?_
        refine lv_iload hx hb dL_inBase_15 (lv_at hl 5 rfl) ?_
        obtain ⟨v6, hv, h⟩ := bq_bind h
        refine bq_iald S hK dL_inBase_17 hv hW ?_
        refine lv_sipush (v := 10000) hx hb dL_inBase_18 (by decide) ?_
        refine lv_irem hx hb dL_inBase_21 (by decide) ?_
        refine lv_topi (fun v7 ev7 => ?_)
        replace h := bq_letE ev7 h
        refine lv_iload_n hx hb dL_inBase_22 rfl (lv_at hl 3 rfl) ?_
        refine lv_icmp_ne (tgt := 31) hx hb dL_inBase_23 (by decide) (fun hc => ?_) (fun hc => ?_)
        · replace h := bq_ifF hc h
          refine lv_iload hx hb dL_inBase_31 (lv_at hl 4 rfl) ?_
          refine lv_istore (lv' := [(4, .int z3), (0, .ref a0), (1, .ref a1), (2, .int x2), (3, .int x3), (5, .int z4)]) hx hb dL_inBase_33 hl (by decide) rfl (fun ls hl => ?_)
          obtain ⟨v8, ev8⟩ : ∃ y : Int32, y = z4 + 1 := ⟨_, rfl⟩
          replace h := bq_letE ev8 h
          refine lv_iinc (v := v8) (lv' := [(5, .int v8), (4, .int z3), (0, .ref a0), (1, .ref a1), (2, .int x2), (3, .int x3)]) hx hb dL_inBase_35 hl (k := 5) rfl (by rw [ev8]; rfl) (by decide) rfl (fun ls hl => ?_)
          refine lv_goto (tgt := 6) hx hb dL_inBase_38 (by decide) ?_
          exact ih z3 v8 _ _ _ h hW (lv_sub hl [2, 3, 4, 5, 1, 0] rfl)
        · replace h := bq_ifT hc h
          refine lv_iload hx hb dL_inBase_26 (lv_at hl 5 rfl) ?_
          refine lv_goto (tgt := 33) hx hb dL_inBase_28 (by decide) ?_
          refine lv_istore (lv' := [(4, .int z4), (0, .ref a0), (1, .ref a1), (2, .int x2), (3, .int x3), (5, .int z4)]) hx hb dL_inBase_33 hl (by decide) rfl (fun ls hl => ?_)
          obtain ⟨v9, ev9⟩ : ∃ y : Int32, y = z4 + 1 := ⟨_, rfl⟩
          replace h := bq_letE ev9 h
          refine lv_iinc (v := v9) (lv' := [(5, .int v9), (4, .int z4), (0, .ref a0), (1, .ref a1), (2, .int x2), (3, .int x3)]) hx hb dL_inBase_35 hl (k := 5) rfl (by rw [ev9]; rfl) (by decide) rfl (fun ls hl => ?_)
          refine lv_goto (tgt := 6) hx hb dL_inBase_38 (by decide) ?_
          exact ih z4 v9 _ _ _ h hW (lv_sub hl [2, 3, 4, 5, 1, 0] rfl)
  exact hL6 bq_fuel (-1 : Int32) (0 : Int32) _ _ _ h hW (lv_sub hl [2, 3, 4, 5, 1, 0] rfl)

set_option maxHeartbeats 4000000 in
set_option maxRecDepth 100000 in
theorem c_L_inBuffer {l : Launch} {g : bq_G} {L : List Nat} {z : Nat} {E : bq_E} {a0 : Nat} {a1 : Nat} {x2 : Int32} {x3 : Int32} {R : Int32} (h : tw_L_inBuffer E a0 a1 x2 x3 = some R) : bq_M l yL_inBuffer cL_inBuffer 6 (some .int) 0 0 [.ref a0, .ref a1, .int x2, .int x3] g L E z (some (.int R)) E := by
  unfold tw_L_inBuffer at h
  refine bq_enter (by decide) (Nat.le_of_ble_eq_true rfl) ?_
  intro p e s m args below meth c S hr hlocks hK hz hW ls hl
  have S : CallFix p m c cL_inBuffer 6 s args bq_WA RL := S
  have hx := S.1
  have hb := S.2.1
  have hl : lv_has ls 6 [(0, .ref a0), (1, .ref a1), (2, .int x2), (3, .int x3)] := hl
  refine lv_iconst (v := (-1)) hx hb dL_inBuffer_0 (by decide) ?_
  refine lv_istore (lv' := [(4, .int (-1 : Int32)), (0, .ref a0), (1, .ref a1), (2, .int x2), (3, .int x3)]) hx hb dL_inBuffer_1 hl (by decide) rfl (fun ls hl => ?_)
  refine lv_iconst (v := 0) hx hb dL_inBuffer_3 (by decide) ?_
  refine lv_istore (lv' := [(5, .int (0 : Int32)), (4, .int (-1 : Int32)), (0, .ref a0), (1, .ref a1), (2, .int x2), (3, .int x3)]) hx hb dL_inBuffer_4 hl (by decide) rfl (fun ls hl => ?_)
  have hL6 : ∀ (n : Nat) (z3 : Int32) (z4 : Int32) (H1 : Heap) (locs1 : List Loc) (ls1 : Array Slot), tl_L_inBuffer_6 E a0 a1 x2 x3 n z3 z4 = some R → bq_H g L E z s.heap H1 locs1 → lv_has ls1 6 [(0, .ref a0), (1, .ref a1), (2, .int x2), (3, .int x3), (4, .int z3), (5, .int z4)] → W p l e { frames := 0, cells := 0, slots := 0, locals := 0 } s m args below meth c H1 locs1 0 0 (MQ below (bq_Q g L E z (some (.int R))) args s 0 0 (bq_A z)) (F0 m 6 ls1 []) := by
    intro n
    induction n with
    | zero => intro z3 z4 H locs ls h hW hl; cases h
    | succ n ih =>
      intro z3 z4 H locs ls h hW hl
      rw [tl_L_inBuffer_6.eq_2] at h
      refine lv_iload hx hb dL_inBuffer_6 (lv_at hl 5 rfl) ?_
      refine lv_aload_n hx hb dL_inBuffer_8 rfl (lv_at hl 1 rfl) ?_
      refine lv_bipush (v := 8) hx hb dL_inBuffer_9 (by decide) ?_
      refine lv_iload_n hx hb dL_inBuffer_11 rfl (lv_at hl 2 rfl) ?_
      refine lv_iadd hx hb dL_inBuffer_12 ?_
      obtain ⟨v5, hv, h⟩ := bq_bind h
      refine bq_iald S hK dL_inBuffer_13 hv hW ?_
      refine lv_icmp_ge (tgt := 45) hx hb dL_inBuffer_14 (by decide) (fun hc => ?_) (fun hc => ?_)
      · replace h := bq_ifT hc h
        refine lv_iload hx hb dL_inBuffer_45 (lv_at hl 4 rfl) ?_
        cases h
        exact bq_reti S hr hlocks hK hz dL_inBuffer_47 hW
      · replace h := bq_ifF hc h
        refine lv_aload_n hx hb dL_inBuffer_17 rfl (lv_at hl 0 rfl) ?_
        refine lv_bipush (v := 8) hx hb dL_inBuffer_18 (by decide) ?_
        refine lv_iload_n hx hb dL_inBuffer_20 rfl (lv_at hl 2 rfl) ?_
        refine lv_imul hx hb dL_inBuffer_21 ?_
        refine lv_iload hx hb dL_inBuffer_22 (lv_at hl 5 rfl) ?_
        refine lv_iadd hx hb dL_inBuffer_24 ?_
        obtain ⟨v6, hv, h⟩ := bq_bind h
        refine bq_iald S hK dL_inBuffer_25 hv hW ?_
        refine lv_iload_n hx hb dL_inBuffer_26 rfl (lv_at hl 3 rfl) ?_
        refine lv_icmp_ne (tgt := 35) hx hb dL_inBuffer_27 (by decide) (fun hc => ?_) (fun hc => ?_)
        · replace h := bq_ifF hc h
          refine lv_iload hx hb dL_inBuffer_35 (lv_at hl 4 rfl) ?_
          refine lv_istore (lv' := [(4, .int z3), (0, .ref a0), (1, .ref a1), (2, .int x2), (3, .int x3), (5, .int z4)]) hx hb dL_inBuffer_37 hl (by decide) rfl (fun ls hl => ?_)
          obtain ⟨v7, ev7⟩ : ∃ y : Int32, y = z4 + 1 := ⟨_, rfl⟩
          replace h := bq_letE ev7 h
          refine lv_iinc (v := v7) (lv' := [(5, .int v7), (4, .int z3), (0, .ref a0), (1, .ref a1), (2, .int x2), (3, .int x3)]) hx hb dL_inBuffer_39 hl (k := 5) rfl (by rw [ev7]; rfl) (by decide) rfl (fun ls hl => ?_)
          refine lv_goto (tgt := 6) hx hb dL_inBuffer_42 (by decide) ?_
          exact ih z3 v7 _ _ _ h hW (lv_sub hl [2, 3, 4, 5, 1, 0] rfl)
        · replace h := bq_ifT hc h
          refine lv_iload hx hb dL_inBuffer_30 (lv_at hl 5 rfl) ?_
          refine lv_goto (tgt := 37) hx hb dL_inBuffer_32 (by decide) ?_
          refine lv_istore (lv' := [(4, .int z4), (0, .ref a0), (1, .ref a1), (2, .int x2), (3, .int x3), (5, .int z4)]) hx hb dL_inBuffer_37 hl (by decide) rfl (fun ls hl => ?_)
          obtain ⟨v8, ev8⟩ : ∃ y : Int32, y = z4 + 1 := ⟨_, rfl⟩
          replace h := bq_letE ev8 h
          refine lv_iinc (v := v8) (lv' := [(5, .int v8), (4, .int z4), (0, .ref a0), (1, .ref a1), (2, .int x2), (3, .int x3)]) hx hb dL_inBuffer_39 hl (k := 5) rfl (by rw [ev8]; rfl) (by decide) rfl (fun ls hl => ?_)
          refine lv_goto (tgt := 6) hx hb dL_inBuffer_42 (by decide) ?_
          exact ih z4 v8 _ _ _ h hW (lv_sub hl [2, 3, 4, 5, 1, 0] rfl)
  exact hL6 bq_fuel (-1 : Int32) (0 : Int32) _ _ _ h hW (lv_sub hl [2, 3, 4, 5, 1, 0] rfl)

set_option maxHeartbeats 4000000 in
set_option maxRecDepth 100000 in
theorem c_L_has {l : Launch} {g : bq_G} {L : List Nat} {z : Nat} {E : bq_E} {a0 : Nat} {a1 : Nat} {a2 : Nat} {x3 : Int32} {x4 : Int32} {R : Bool} (h : tw_L_has E a0 a1 a2 x3 x4 = some R) : bq_M l yL_has cL_has 6 (some .boolean) 1 25 [.ref a0, .ref a1, .ref a2, .int x3, .int x4] g L E z (some (.int (bq_b R))) E := by
  unfold tw_L_has at h
  refine bq_enter (by decide) (Nat.le_of_ble_eq_true rfl) ?_
  intro p e s m args below meth c S hr hlocks hK hz hW ls hl
  have S : CallFix p m c cL_has 6 s args bq_WA RL := S
  have hx := S.1
  have hb := S.2.1
  have hl : lv_has ls 6 [(0, .ref a0), (1, .ref a1), (2, .ref a2), (3, .int x3), (4, .int x4)] := hl
  refine lv_aload_n hx hb dL_has_0 rfl (lv_at hl 0 rfl) ?_
  refine lv_aload_n hx hb dL_has_1 rfl (lv_at hl 2 rfl) ?_
  refine lv_iload_n hx hb dL_has_2 rfl (lv_at hl 3 rfl) ?_
  refine lv_iload hx hb dL_has_3 (lv_at hl 4 rfl) ?_
  obtain ⟨v1, hv, h⟩ := bq_bind h
  refine bq_callS S hK hz ms_L_60 (c_L_inBase hv) dL_has_5 [.int v1] (rest := []) rfl rfl rfl hl.1 (Nat.le_of_ble_eq_true rfl) ⟨Nat.le_of_ble_eq_true rfl, Nat.le_of_ble_eq_true rfl⟩ ⟨Nat.zero_le _, Nat.zero_le _⟩ hW (fun H locs hW => ?_)
  refine lv_istore (lv' := [(5, .int v1), (0, .ref a0), (1, .ref a1), (2, .ref a2), (3, .int x3), (4, .int x4)]) hx hb dL_has_8 hl (by decide) rfl (fun ls hl => ?_)
  refine lv_iload hx hb dL_has_10 (lv_at hl 0 rfl) ?_
  obtain ⟨k25, ek25, h⟩ := bq_letK h
  have hjk25 : ∀ (u0 : Unit) (H1 : Heap) (locs1 : List Loc) (ls1 : Array Slot), k25 u0 = some R → bq_H g L E z s.heap H1 locs1 → lv_has ls1 6 [(1, .ref a1), (2, .ref a2), (3, .int x3), (4, .int x4)] → W p l e { frames := 1, cells := 0, slots := 0, locals := 25 } s m args below meth c H1 locs1 0 0 (MQ below (bq_Q g L E z (some (.int (bq_b R)))) args s 0 0 (bq_A z)) (F0 m 25 ls1 []) := by
    intro u0 H locs ls h hW hl
    replace h := bq_kap1 ek25 h
    refine lv_aload_n hx hb dL_has_25 rfl (lv_at hl 0 rfl) ?_
    refine lv_aload_n hx hb dL_has_26 rfl (lv_at hl 1 rfl) ?_
    refine lv_iload_n hx hb dL_has_27 rfl (lv_at hl 2 rfl) ?_
    refine lv_iload hx hb dL_has_28 (lv_at hl 3 rfl) ?_
    obtain ⟨v2, hv, h⟩ := bq_bind h
    refine bq_callS S hK hz ms_L_66 (c_L_inBuffer hv) dL_has_30 [.int v2] (rest := []) rfl rfl rfl hl.1 (Nat.le_of_ble_eq_true rfl) ⟨Nat.le_of_ble_eq_true rfl, Nat.le_of_ble_eq_true rfl⟩ ⟨Nat.zero_le _, Nat.zero_le _⟩ hW (fun H locs hW => ?_)
    refine lv_if_lt (tgt := 40) hx hb dL_has_33 (by decide) (fun hc => ?_) (fun hc => ?_)
    · replace h := bq_ifT hc h
      refine lv_iconst (v := 0) hx hb dL_has_40 (by decide) ?_
      cases h
      exact bq_retz S hr hlocks hK hz dL_has_41 _ rfl hW
    · replace h := bq_ifF hc h
      refine lv_iconst (v := 1) hx hb dL_has_36 (by decide) ?_
      refine lv_goto (tgt := 41) hx hb dL_has_37 (by decide) ?_
      cases h
      exact bq_retz S hr hlocks hK hz dL_has_41 _ rfl hW
  clear ek25
  refine lv_if_lt (tgt := 25) hx hb dL_has_12 (by decide) (fun hc => ?_) (fun hc => ?_)
  · replace h := bq_ifT hc h
    exact hjk25 () _ _ _ h hW (lv_sub hl [2, 3, 4, 5] rfl)
  · replace h := bq_ifF hc h
    refine lv_aload_n hx hb dL_has_15 rfl (lv_at hl 1 rfl) ?_
    refine lv_iload hx hb dL_has_16 (lv_at hl 0 rfl) ?_
    obtain ⟨v3, hv, h⟩ := bq_bind h
    refine bq_iald S hK dL_has_18 hv hW ?_
    refine lv_sipush (v := 10000) hx hb dL_has_19 (by decide) ?_
    refine lv_icmp_lt (tgt := 36) hx hb dL_has_22 (by decide) (fun hc => ?_) (fun hc => ?_)
    · replace h := bq_ifT hc h
      refine lv_iconst (v := 1) hx hb dL_has_36 (by decide) ?_
      refine lv_goto (tgt := 41) hx hb dL_has_37 (by decide) ?_
      cases h
      exact bq_retz S hr hlocks hK hz dL_has_41 _ rfl hW
    · replace h := bq_ifF hc h
      exact hjk25 () _ _ _ h hW (lv_sub hl [2, 3, 4, 5] rfl)

set_option maxHeartbeats 4000000 in
set_option maxRecDepth 100000 in
theorem c_L_marked {l : Launch} {g : bq_G} {L : List Nat} {z : Nat} {E : bq_E} {a0 : Nat} {a1 : Nat} {x2 : Int32} {R : Int32} (h : tw_L_marked E a0 a1 x2 = some R) : bq_M l yL_marked cL_marked 5 (some .int) 0 0 [.ref a0, .ref a1, .int x2] g L E z (some (.int R)) E := by
  unfold tw_L_marked at h
  refine bq_enter (by decide) (Nat.le_of_ble_eq_true rfl) ?_
  intro p e s m args below meth c S hr hlocks hK hz hW ls hl
  have S : CallFix p m c cL_marked 5 s args bq_WA RL := S
  have hx := S.1
  have hb := S.2.1
  have hl : lv_has ls 5 [(0, .ref a0), (1, .ref a1), (2, .int x2)] := hl
  refine lv_iconst (v := 0) hx hb dL_marked_0 (by decide) ?_
  refine lv_istore_n (lv' := [(3, .int (0 : Int32)), (0, .ref a0), (1, .ref a1), (2, .int x2)]) hx hb dL_marked_1 rfl hl (by decide) rfl (fun ls hl => ?_)
  refine lv_iconst (v := 0) hx hb dL_marked_2 (by decide) ?_
  refine lv_istore (lv' := [(4, .int (0 : Int32)), (3, .int (0 : Int32)), (0, .ref a0), (1, .ref a1), (2, .int x2)]) hx hb dL_marked_3 hl (by decide) rfl (fun ls hl => ?_)
  have hL5 : ∀ (n : Nat) (z3 : Int32) (z4 : Int32) (H1 : Heap) (locs1 : List Loc) (ls1 : Array Slot), tl_L_marked_5 E a0 a1 x2 n z3 z4 = some R → bq_H g L E z s.heap H1 locs1 → lv_has ls1 5 [(0, .ref a0), (1, .ref a1), (2, .int x2), (3, .int z3), (4, .int z4)] → W p l e { frames := 0, cells := 0, slots := 0, locals := 0 } s m args below meth c H1 locs1 0 0 (MQ below (bq_Q g L E z (some (.int R))) args s 0 0 (bq_A z)) (F0 m 5 ls1 []) := by
    intro n
    induction n with
    | zero => intro z3 z4 H locs ls h hW hl; cases h
    | succ n ih =>
      intro z3 z4 H locs ls h hW hl
      rw [tl_L_marked_5.eq_2] at h
      refine lv_iload hx hb dL_marked_5 (lv_at hl 4 rfl) ?_
      refine lv_aload_n hx hb dL_marked_7 rfl (lv_at hl 1 rfl) ?_
      refine lv_iload_n hx hb dL_marked_8 rfl (lv_at hl 2 rfl) ?_
      obtain ⟨v5, hv, h⟩ := bq_bind h
      refine bq_iald S hK dL_marked_9 hv hW ?_
      refine lv_icmp_ge (tgt := 30) hx hb dL_marked_10 (by decide) (fun hc => ?_) (fun hc => ?_)
      · replace h := bq_ifT hc h
        refine lv_iload_n hx hb dL_marked_30 rfl (lv_at hl 3 rfl) ?_
        cases h
        exact bq_reti S hr hlocks hK hz dL_marked_31 hW
      · replace h := bq_ifF hc h
        refine lv_iload_n hx hb dL_marked_13 rfl (lv_at hl 3 rfl) ?_
        refine lv_aload_n hx hb dL_marked_14 rfl (lv_at hl 0 rfl) ?_
        refine lv_iload hx hb dL_marked_15 (lv_at hl 4 rfl) ?_
        obtain ⟨v6, hv, h⟩ := bq_bind h
        refine bq_iald S hK dL_marked_17 hv hW ?_
        refine lv_sipush (v := 10000) hx hb dL_marked_18 (by decide) ?_
        refine lv_idiv hx hb dL_marked_21 (by decide) ?_
        refine lv_iadd hx hb dL_marked_22 ?_
        refine lv_topi (fun v7 ev7 => ?_)
        replace h := bq_letE ev7 h
        refine lv_istore_n (lv' := [(3, .int v7), (0, .ref a0), (1, .ref a1), (2, .int x2), (4, .int z4)]) hx hb dL_marked_23 rfl hl (by decide) rfl (fun ls hl => ?_)
        obtain ⟨v8, ev8⟩ : ∃ y : Int32, y = z4 + 1 := ⟨_, rfl⟩
        replace h := bq_letE ev8 h
        refine lv_iinc (v := v8) (lv' := [(4, .int v8), (3, .int v7), (0, .ref a0), (1, .ref a1), (2, .int x2)]) hx hb dL_marked_24 hl (k := 4) rfl (by rw [ev8]; rfl) (by decide) rfl (fun ls hl => ?_)
        refine lv_goto (tgt := 5) hx hb dL_marked_27 (by decide) ?_
        exact ih v7 v8 _ _ _ h hW (lv_sub hl [2, 3, 4, 1, 0] rfl)
  exact hL5 bq_fuel (0 : Int32) (0 : Int32) _ _ _ h hW (lv_sub hl [2, 3, 4, 1, 0] rfl)

set_option maxHeartbeats 4000000 in
set_option maxRecDepth 100000 in
theorem c_L_size {l : Launch} {g : bq_G} {L : List Nat} {z : Nat} {E : bq_E} {a0 : Nat} {a1 : Nat} {x2 : Int32} {R : Int32} (h : tw_L_size E a0 a1 x2 = some R) : bq_M l yL_size cL_size 3 (some .int) 1 24 [.ref a0, .ref a1, .int x2] g L E z (some (.int R)) E := by
  unfold tw_L_size at h
  refine bq_enter (by decide) (Nat.le_of_ble_eq_true rfl) ?_
  intro p e s m args below meth c S hr hlocks hK hz hW ls hl
  have S : CallFix p m c cL_size 3 s args bq_WA RL := S
  have hx := S.1
  have hb := S.2.1
  have hl : lv_has ls 3 [(0, .ref a0), (1, .ref a1), (2, .int x2)] := hl
  refine lv_aload_n hx hb dL_size_0 rfl (lv_at hl 1 rfl) ?_
  refine lv_iload_n hx hb dL_size_1 rfl (lv_at hl 2 rfl) ?_
  obtain ⟨v1, hv, h⟩ := bq_bind h
  refine bq_iald S hK dL_size_2 hv hW ?_
  refine lv_aload_n hx hb dL_size_3 rfl (lv_at hl 1 rfl) ?_
  refine lv_bipush (v := 8) hx hb dL_size_4 (by decide) ?_
  refine lv_iload_n hx hb dL_size_6 rfl (lv_at hl 2 rfl) ?_
  refine lv_iadd hx hb dL_size_7 ?_
  obtain ⟨v2, hv, h⟩ := bq_bind h
  refine bq_iald S hK dL_size_8 hv hW ?_
  refine lv_iadd hx hb dL_size_9 ?_
  refine lv_aload_n hx hb dL_size_10 rfl (lv_at hl 0 rfl) ?_
  refine lv_aload_n hx hb dL_size_11 rfl (lv_at hl 1 rfl) ?_
  refine lv_iload_n hx hb dL_size_12 rfl (lv_at hl 2 rfl) ?_
  obtain ⟨v3, hv, h⟩ := bq_bind h
  refine bq_callS S hK hz ms_L_69 (c_L_marked hv) dL_size_13 [.int v3, .int (v1 + v2)] (rest := [.int (v1 + v2)]) rfl rfl rfl hl.1 (Nat.le_of_ble_eq_true rfl) ⟨Nat.le_of_ble_eq_true rfl, Nat.le_of_ble_eq_true rfl⟩ ⟨Nat.zero_le _, Nat.zero_le _⟩ hW (fun H locs hW => ?_)
  refine lv_isub hx hb dL_size_16 ?_
  cases h
  exact bq_reti S hr hlocks hK hz dL_size_17 hW
