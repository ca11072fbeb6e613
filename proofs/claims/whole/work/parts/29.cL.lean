set_option maxHeartbeats 4000000 in
set_option maxRecDepth 100000 in
theorem cl_L_addNode {l : Launch} (hfl : l.stackTraces = false) {g : bq_G} {L : List Nat} {z : Nat} {E : bq_E} {a0 : Nat} {x1 : Int32} {x2 : Int32} {a3 : Nat} {R : (Int32 × bq_E)} (h : tw_L_addNode E a0 x1 x2 a3 = some R) : bq_ML l yL_addNode cL_addNode 5 (some .int) [(0, 10, 13, 13), (0, 10, 17, 15), (0, 10, 21, 17)] 8 170 [.ref a0, .int x1, .int x2, .ref a3] g L E z (some (.int R.1)) R.2 := by
  unfold tw_L_addNode at h
  refine bq_enterL (by decide) (Nat.le_of_ble_eq_true rfl) ?_
  intro p e s m args below meth c S htab hr hlocks hK hz hT hN hW ls hl
  have S : CallFix p m c cL_addNode 5 s args bq_WA RL := S
  have hx := S.1
  have hb := S.2.1
  have hl : lv_has ls 5 [(0, .ref a0), (1, .int x1), (2, .int x2), (3, .ref a3)] := hl
  refine lv_aload_n hx hb dL_addNode_0 rfl (lv_at hl 3 rfl) ?_
  refine lv_iconst (v := 0) hx hb dL_addNode_1 (by decide) ?_
  refine lv_aload_n hx hb dL_addNode_2 rfl (lv_at hl 0 rfl) ?_
  refine lv_iload_n hx hb dL_addNode_3 rfl (lv_at hl 1 rfl) ?_
  refine lv_iload_n hx hb dL_addNode_4 rfl (lv_at hl 2 rfl) ?_
  obtain ⟨v1, hv, h⟩ := bq_bind h
  rcases hq : v1.1 with v2 | X3
  all_goals rw [hq] at h
  all_goals replace hv := bq_pairE hq hv
  rotate_left
  · replace h := bq_elimR h
    by_cases hX0 : X3 = "java/lang/IndexOutOfBoundsException"
    · replace h := bq_ifT hX0 h
      subst hX0
      refine bq_callVXk S hK hz hT mv_L_7 (ct_X6_addNode hfl hv) (kc_X6_addNode hv) dL_addNode_5 (rest := [.int (0 : Int32), .ref a3]) rfl rfl hl.1 (Nat.le_of_ble_eq_true rfl) ⟨Nat.le_of_ble_eq_true rfl, Nat.le_of_ble_eq_true rfl⟩ ⟨Nat.le_of_ble_eq_true rfl, Nat.le_of_ble_eq_true rfl⟩ hW (fun H locs q9 ce hW h1 h2 h3 => ?_)
      have hp : ∀ z ∈ ([] : List ExceptionTableEntry), covers z 5 = false ∨ (z.catchType ≠ 0 ∧ ∃ nm : String, (Cond.classLink RL z.catchType nm).before args s = true ∧ va_Nc "java/lang/IndexOutOfBoundsException" nm s) := fun z hz9 => absurd hz9 List.not_mem_nil
      refine vx_catch (own := RL) (name := "java/lang/IndexOutOfBoundsException") S.2.2.2.1 [] { startPc := 0, endPc := 10, handlerPc := 13, catchType := 13 } [{ startPc := 0, endPc := 10, handlerPc := 17, catchType := 15 }, { startPc := 0, endPc := 10, handlerPc := 21, catchType := 17 }] (by rw [htab]; rfl) hp (by decide) (by decide) (S.2.2.2.2 _ (bq_wi 605 (by decide +kernel) rfl)) (bq_castX hT 435 (by decide +kernel)) h1 h2 h3 ?_
      refine lv_astore (lv' := [(4, .ref q9), (0, .ref a0), (1, .int x1), (2, .int x2), (3, .ref a3)]) hx hb dL_addNode_13 hl (by decide) rfl (fun ls hl => ?_)
      refine lv_iconst (v := 1) hx hb dL_addNode_15 (by decide) ?_
      cases h
      refine vx_ret (W.widen (k := 1) (n := 6) (Nat.le_of_ble_eq_true rfl) (Nat.le_of_ble_eq_true rfl) ?_)
      exact bq_reti S hr hlocks hK hz dL_addNode_16 hW
    replace h := bq_ifF hX0 h
    by_cases hX1 : X3 = "java/lang/IllegalArgumentException"
    · replace h := bq_ifT hX1 h
      subst hX1
      refine bq_callVXk S hK hz hT mv_L_7 (ct_X6_addNode hfl hv) (kc_X6_addNode hv) dL_addNode_5 (rest := [.int (0 : Int32), .ref a3]) rfl rfl hl.1 (Nat.le_of_ble_eq_true rfl) ⟨Nat.le_of_ble_eq_true rfl, Nat.le_of_ble_eq_true rfl⟩ ⟨Nat.le_of_ble_eq_true rfl, Nat.le_of_ble_eq_true rfl⟩ hW (fun H locs q9 ce hW h1 h2 h3 => ?_)
      have hp : ∀ z ∈ ([{ startPc := 0, endPc := 10, handlerPc := 13, catchType := 13 }] : List ExceptionTableEntry), covers z 5 = false ∨ (z.catchType ≠ 0 ∧ ∃ nm : String, (Cond.classLink RL z.catchType nm).before args s = true ∧ va_Nc "java/lang/IllegalArgumentException" nm s) := fun z hz9 => by
        simp only [List.mem_cons, List.not_mem_nil, or_false] at hz9
        rcases hz9 with rfl
        · exact Or.inr ⟨by decide, "java/lang/IndexOutOfBoundsException", S.2.2.2.2 _ (bq_wi 605 (by decide +kernel) rfl), hN.1⟩
      refine vx_catch (own := RL) (name := "java/lang/IllegalArgumentException") S.2.2.2.1 [{ startPc := 0, endPc := 10, handlerPc := 13, catchType := 13 }] { startPc := 0, endPc := 10, handlerPc := 17, catchType := 15 } [{ startPc := 0, endPc := 10, handlerPc := 21, catchType := 17 }] (by rw [htab]; rfl) hp (by decide) (by decide) (S.2.2.2.2 _ (bq_wi 606 (by decide +kernel) rfl)) (bq_castX hT 509 (by decide +kernel)) h1 h2 h3 ?_
      refine lv_astore (lv' := [(4, .ref q9), (0, .ref a0), (1, .int x1), (2, .int x2), (3, .ref a3)]) hx hb dL_addNode_17 hl (by decide) rfl (fun ls hl => ?_)
      refine lv_iconst (v := 2) hx hb dL_addNode_19 (by decide) ?_
      cases h
      refine vx_ret (W.widen (k := 1) (n := 6) (Nat.le_of_ble_eq_true rfl) (Nat.le_of_ble_eq_true rfl) ?_)
      exact bq_reti S hr hlocks hK hz dL_addNode_20 hW
    replace h := bq_ifF hX1 h
    by_cases hX2 : X3 = "java/lang/IllegalStateException"
    · replace h := bq_ifT hX2 h
      subst hX2
      refine bq_callVXk S hK hz hT mv_L_7 (ct_X6_addNode hfl hv) (kc_X6_addNode hv) dL_addNode_5 (rest := [.int (0 : Int32), .ref a3]) rfl rfl hl.1 (Nat.le_of_ble_eq_true rfl) ⟨Nat.le_of_ble_eq_true rfl, Nat.le_of_ble_eq_true rfl⟩ ⟨Nat.le_of_ble_eq_true rfl, Nat.le_of_ble_eq_true rfl⟩ hW (fun H locs q9 ce hW h1 h2 h3 => ?_)
      have hp : ∀ z ∈ ([{ startPc := 0, endPc := 10, handlerPc := 13, catchType := 13 }, { startPc := 0, endPc := 10, handlerPc := 17, catchType := 15 }] : List ExceptionTableEntry), covers z 5 = false ∨ (z.catchType ≠ 0 ∧ ∃ nm : String, (Cond.classLink RL z.catchType nm).before args s = true ∧ va_Nc "java/lang/IllegalStateException" nm s) := fun z hz9 => by
        simp only [List.mem_cons, List.not_mem_nil, or_false] at hz9
        rcases hz9 with rfl | rfl
        · exact Or.inr ⟨by decide, "java/lang/IndexOutOfBoundsException", S.2.2.2.2 _ (bq_wi 605 (by decide +kernel) rfl), hN.2.1⟩
        · exact Or.inr ⟨by decide, "java/lang/IllegalArgumentException", S.2.2.2.2 _ (bq_wi 606 (by decide +kernel) rfl), hN.2.2⟩
      refine vx_catch (own := RL) (name := "java/lang/IllegalStateException") S.2.2.2.1 [{ startPc := 0, endPc := 10, handlerPc := 13, catchType := 13 }, { startPc := 0, endPc := 10, handlerPc := 17, catchType := 15 }] { startPc := 0, endPc := 10, handlerPc := 21, catchType := 17 } [] (by rw [htab]; rfl) hp (by decide) (by decide) (S.2.2.2.2 _ (bq_wi 607 (by decide +kernel) rfl)) (bq_castX hT 618 (by decide +kernel)) h1 h2 h3 ?_
      refine lv_astore (lv' := [(4, .ref q9), (0, .ref a0), (1, .int x1), (2, .int x2), (3, .ref a3)]) hx hb dL_addNode_21 hl (by decide) rfl (fun ls hl => ?_)
      refine lv_iconst (v := 3) hx hb dL_addNode_23 (by decide) ?_
      cases h
      refine vx_ret (W.widen (k := 1) (n := 6) (Nat.le_of_ble_eq_true rfl) (Nat.le_of_ble_eq_true rfl) ?_)
      exact bq_reti S hr hlocks hK hz dL_addNode_24 hW
    replace h := bq_ifF hX2 h
    cases h
  replace h := bq_elimL h
  refine bq_callV S hK hz mv_L_7 (cr_X6_addNode hv) (kc_X6_addNode hv) dL_addNode_5 [.int v2, .int (0 : Int32), .ref a3] (rest := [.int (0 : Int32), .ref a3]) rfl rfl rfl hl.1 (Nat.le_of_ble_eq_true rfl) ⟨Nat.le_of_ble_eq_true rfl, Nat.le_of_ble_eq_true rfl⟩ ⟨Nat.zero_le _, Nat.zero_le _⟩ hW (fun H locs hW => ?_)
  refine lv_i2l (v := Int32.toInt64 v2) hx hb dL_addNode_8 rfl ?_
  obtain ⟨E4, hv, h⟩ := bq_bind h
  refine bq_last S hK dL_addNode_9 hv hW (fun H locs hW => ?_)
  refine lv_goto (tgt := 25) hx hb dL_addNode_10 (by decide) ?_
  refine lv_iconst (v := 0) hx hb dL_addNode_25 (by decide) ?_
  cases h
  refine vx_ret (W.widen (k := 1) (n := 6) (Nat.le_of_ble_eq_true rfl) (Nat.le_of_ble_eq_true rfl) ?_)
  exact bq_reti S hr hlocks hK hz dL_addNode_26 hW

set_option maxHeartbeats 4000000 in
set_option maxRecDepth 100000 in
theorem cl_L_add {l : Launch} (hfl : l.stackTraces = false) {g : bq_G} {L : List Nat} {z : Nat} {E : bq_E} {a0 : Nat} {x1 : Int32} {x2 : Int32} {a3 : Nat} {R : (Int32 × bq_E)} (h : tw_L_add E a0 x1 x2 a3 = some R) : bq_ML l yL_add cL_add 5 (some .int) [(0, 17, 20, 13), (0, 17, 24, 15), (0, 17, 28, 17)] 9 172 [.ref a0, .int x1, .int x2, .ref a3] g L E z (some (.int R.1)) R.2 := by
  unfold tw_L_add at h
  refine bq_enterL (by decide) (Nat.le_of_ble_eq_true rfl) ?_
  intro p e s m args below meth c S htab hr hlocks hK hz hT hN hW ls hl
  have S : CallFix p m c cL_add 5 s args bq_WA RL := S
  have hx := S.1
  have hb := S.2.1
  have hl : lv_has ls 5 [(0, .ref a0), (1, .int x1), (2, .int x2), (3, .ref a3)] := hl
  refine lv_aload_n hx hb dL_add_0 rfl (lv_at hl 3 rfl) ?_
  refine lv_iconst (v := 0) hx hb dL_add_1 (by decide) ?_
  refine lv_aload_n hx hb dL_add_2 rfl (lv_at hl 0 rfl) ?_
  refine lv_iload_n hx hb dL_add_3 rfl (lv_at hl 1 rfl) ?_
  refine lv_iload_n hx hb dL_add_4 rfl (lv_at hl 2 rfl) ?_
  obtain ⟨v1, hv, h⟩ := bq_bind h
  rcases hq : v1.1 with v2 | X3
  all_goals rw [hq] at h
  all_goals replace hv := bq_pairE hq hv
  rotate_left
  · replace h := bq_elimR h
    by_cases hX0 : X3 = "java/lang/IndexOutOfBoundsException"
    · replace h := bq_ifT hX0 h
      subst hX0
      refine bq_callVXk S hK hz hT mv_L_19 (ct_X6_add hfl hv) (kc_X6_add hv) dL_add_5 (rest := [.int (0 : Int32), .ref a3]) rfl rfl hl.1 (Nat.le_of_ble_eq_true rfl) ⟨Nat.le_of_ble_eq_true rfl, Nat.le_of_ble_eq_true rfl⟩ ⟨Nat.le_of_ble_eq_true rfl, Nat.le_of_ble_eq_true rfl⟩ hW (fun H locs q9 ce hW h1 h2 h3 => ?_)
      have hp : ∀ z ∈ ([] : List ExceptionTableEntry), covers z 5 = false ∨ (z.catchType ≠ 0 ∧ ∃ nm : String, (Cond.classLink RL z.catchType nm).before args s = true ∧ va_Nc "java/lang/IndexOutOfBoundsException" nm s) := fun z hz9 => absurd hz9 List.not_mem_nil
      refine vx_catch (own := RL) (name := "java/lang/IndexOutOfBoundsException") S.2.2.2.1 [] { startPc := 0, endPc := 17, handlerPc := 20, catchType := 13 } [{ startPc := 0, endPc := 17, handlerPc := 24, catchType := 15 }, { startPc := 0, endPc := 17, handlerPc := 28, catchType := 17 }] (by rw [htab]; rfl) hp (by decide) (by decide) (S.2.2.2.2 _ (bq_wi 605 (by decide +kernel) rfl)) (bq_castX hT 435 (by decide +kernel)) h1 h2 h3 ?_
      refine lv_astore (lv' := [(4, .ref q9), (0, .ref a0), (1, .int x1), (2, .int x2), (3, .ref a3)]) hx hb dL_add_20 hl (by decide) rfl (fun ls hl => ?_)
      refine lv_iconst (v := 1) hx hb dL_add_22 (by decide) ?_
      cases h
      refine vx_ret (W.widen (k := 1) (n := 6) (Nat.le_of_ble_eq_true rfl) (Nat.le_of_ble_eq_true rfl) ?_)
      exact bq_reti S hr hlocks hK hz dL_add_23 hW
    replace h := bq_ifF hX0 h
    by_cases hX1 : X3 = "java/lang/IllegalArgumentException"
    · replace h := bq_ifT hX1 h
      subst hX1
      refine bq_callVXk S hK hz hT mv_L_19 (ct_X6_add hfl hv) (kc_X6_add hv) dL_add_5 (rest := [.int (0 : Int32), .ref a3]) rfl rfl hl.1 (Nat.le_of_ble_eq_true rfl) ⟨Nat.le_of_ble_eq_true rfl, Nat.le_of_ble_eq_true rfl⟩ ⟨Nat.le_of_ble_eq_true rfl, Nat.le_of_ble_eq_true rfl⟩ hW (fun H locs q9 ce hW h1 h2 h3 => ?_)
      have hp : ∀ z ∈ ([{ startPc := 0, endPc := 17, handlerPc := 20, catchType := 13 }] : List ExceptionTableEntry), covers z 5 = false ∨ (z.catchType ≠ 0 ∧ ∃ nm : String, (Cond.classLink RL z.catchType nm).before args s = true ∧ va_Nc "java/lang/IllegalArgumentException" nm s) := fun z hz9 => by
        simp only [List.mem_cons, List.not_mem_nil, or_false] at hz9
        rcases hz9 with rfl
        · exact Or.inr ⟨by decide, "java/lang/IndexOutOfBoundsException", S.2.2.2.2 _ (bq_wi 605 (by decide +kernel) rfl), hN.1⟩
      refine vx_catch (own := RL) (name := "java/lang/IllegalArgumentException") S.2.2.2.1 [{ startPc := 0, endPc := 17, handlerPc := 20, catchType := 13 }] { startPc := 0, endPc := 17, handlerPc := 24, catchType := 15 } [{ startPc := 0, endPc := 17, handlerPc := 28, catchType := 17 }] (by rw [htab]; rfl) hp (by decide) (by decide) (S.2.2.2.2 _ (bq_wi 606 (by decide +kernel) rfl)) (bq_castX hT 509 (by decide +kernel)) h1 h2 h3 ?_
      refine lv_astore (lv' := [(4, .ref q9), (0, .ref a0), (1, .int x1), (2, .int x2), (3, .ref a3)]) hx hb dL_add_24 hl (by decide) rfl (fun ls hl => ?_)
      refine lv_iconst (v := 2) hx hb dL_add_26 (by decide) ?_
      cases h
      refine vx_ret (W.widen (k := 1) (n := 6) (Nat.le_of_ble_eq_true rfl) (Nat.le_of_ble_eq_true rfl) ?_)
      exact bq_reti S hr hlocks hK hz dL_add_27 hW
    replace h := bq_ifF hX1 h
    by_cases hX2 : X3 = "java/lang/IllegalStateException"
    · replace h := bq_ifT hX2 h
      subst hX2
      refine bq_callVXk S hK hz hT mv_L_19 (ct_X6_add hfl hv) (kc_X6_add hv) dL_add_5 (rest := [.int (0 : Int32), .ref a3]) rfl rfl hl.1 (Nat.le_of_ble_eq_true rfl) ⟨Nat.le_of_ble_eq_true rfl, Nat.le_of_ble_eq_true rfl⟩ ⟨Nat.le_of_ble_eq_true rfl, Nat.le_of_ble_eq_true rfl⟩ hW (fun H locs q9 ce hW h1 h2 h3 => ?_)
      have hp : ∀ z ∈ ([{ startPc := 0, endPc := 17, handlerPc := 20, catchType := 13 }, { startPc := 0, endPc := 17, handlerPc := 24, catchType := 15 }] : List ExceptionTableEntry), covers z 5 = false ∨ (z.catchType ≠ 0 ∧ ∃ nm : String, (Cond.classLink RL z.catchType nm).before args s = true ∧ va_Nc "java/lang/IllegalStateException" nm s) := fun z hz9 => by
        simp only [List.mem_cons, List.not_mem_nil, or_false] at hz9
        rcases hz9 with rfl | rfl
        · exact Or.inr ⟨by decide, "java/lang/IndexOutOfBoundsException", S.2.2.2.2 _ (bq_wi 605 (by decide +kernel) rfl), hN.2.1⟩
        · exact Or.inr ⟨by decide, "java/lang/IllegalArgumentException", S.2.2.2.2 _ (bq_wi 606 (by decide +kernel) rfl), hN.2.2⟩
      refine vx_catch (own := RL) (name := "java/lang/IllegalStateException") S.2.2.2.1 [{ startPc := 0, endPc := 17, handlerPc := 20, catchType := 13 }, { startPc := 0, endPc := 17, handlerPc := 24, catchType := 15 }] { startPc := 0, endPc := 17, handlerPc := 28, catchType := 17 } [] (by rw [htab]; rfl) hp (by decide) (by decide) (S.2.2.2.2 _ (bq_wi 607 (by decide +kernel) rfl)) (bq_castX hT 618 (by decide +kernel)) h1 h2 h3 ?_
      refine lv_astore (lv' := [(4, .ref q9), (0, .ref a0), (1, .int x1), (2, .int x2), (3, .ref a3)]) hx hb dL_add_28 hl (by decide) rfl (fun ls hl => ?_)
      refine lv_iconst (v := 3) hx hb dL_add_30 (by decide) ?_
      cases h
      refine vx_ret (W.widen (k := 1) (n := 6) (Nat.le_of_ble_eq_true rfl) (Nat.le_of_ble_eq_true rfl) ?_)
      exact bq_reti S hr hlocks hK hz dL_add_31 hW
    replace h := bq_ifF hX2 h
    cases h
  replace h := bq_elimL h
  refine bq_callV S hK hz mv_L_19 (cr_X6_add hv) (kc_X6_add hv) dL_add_5 [.int (bq_b v2), .int (0 : Int32), .ref a3] (rest := [.int (0 : Int32), .ref a3]) rfl rfl rfl hl.1 (Nat.le_of_ble_eq_true rfl) ⟨Nat.le_of_ble_eq_true rfl, Nat.le_of_ble_eq_true rfl⟩ ⟨Nat.zero_le _, Nat.zero_le _⟩ hW (fun H locs hW => ?_)
  refine lv_if_eq (tgt := 15) hx hb dL_add_8 (by decide) (fun hc => ?_) (fun hc => ?_)
  · replace h := bq_ifT hc h
    refine lv_lconst (v := 0) hx hb dL_add_15 (by decide) ?_
    obtain ⟨E4, hv, h⟩ := bq_bind h
    refine bq_last S hK dL_add_16 hv hW (fun H locs hW => ?_)
    refine lv_goto (tgt := 32) hx hb dL_add_17 (by decide) ?_
    refine lv_iconst (v := 0) hx hb dL_add_32 (by decide) ?_
    cases h
    refine vx_ret (W.widen (k := 1) (n := 6) (Nat.le_of_ble_eq_true rfl) (Nat.le_of_ble_eq_true rfl) ?_)
    exact bq_reti S hr hlocks hK hz dL_add_33 hW
  · replace h := bq_ifF hc h
    refine lv_lconst (v := 1) hx hb dL_add_11 (by decide) ?_
    refine lv_goto (tgt := 16) hx hb dL_add_12 (by decide) ?_
    obtain ⟨E5, hv, h⟩ := bq_bind h
    refine bq_last S hK dL_add_16 hv hW (fun H locs hW => ?_)
    refine lv_goto (tgt := 32) hx hb dL_add_17 (by decide) ?_
    refine lv_iconst (v := 0) hx hb dL_add_32 (by decide) ?_
    cases h
    refine vx_ret (W.widen (k := 1) (n := 6) (Nat.le_of_ble_eq_true rfl) (Nat.le_of_ble_eq_true rfl) ?_)
    exact bq_reti S hr hlocks hK hz dL_add_33 hW

set_option maxHeartbeats 4000000 in
set_option maxRecDepth 100000 in
theorem cl_L_remove {l : Launch} (hfl : l.stackTraces = false) {g : bq_G} {L : List Nat} {z : Nat} {E : bq_E} {a0 : Nat} {x1 : Int32} {x2 : Int32} {a3 : Nat} {R : (Int32 × bq_E)} (h : tw_L_remove E a0 x1 x2 a3 = some R) : bq_ML l yL_remove cL_remove 5 (some .int) [(0, 17, 20, 13), (0, 17, 24, 15)] 9 171 [.ref a0, .int x1, .int x2, .ref a3] g L E z (some (.int R.1)) R.2 := by
  unfold tw_L_remove at h
  refine bq_enterL (by decide) (Nat.le_of_ble_eq_true rfl) ?_
  intro p e s m args below meth c S htab hr hlocks hK hz hT hN hW ls hl
  have S : CallFix p m c cL_remove 5 s args bq_WA RL := S
  have hx := S.1
  have hb := S.2.1
  have hl : lv_has ls 5 [(0, .ref a0), (1, .int x1), (2, .int x2), (3, .ref a3)] := hl
  refine lv_aload_n hx hb dL_remove_0 rfl (lv_at hl 3 rfl) ?_
  refine lv_iconst (v := 0) hx hb dL_remove_1 (by decide) ?_
  refine lv_aload_n hx hb dL_remove_2 rfl (lv_at hl 0 rfl) ?_
  refine lv_iload_n hx hb dL_remove_3 rfl (lv_at hl 1 rfl) ?_
  refine lv_iload_n hx hb dL_remove_4 rfl (lv_at hl 2 rfl) ?_
  obtain ⟨v1, hv, h⟩ := bq_bind h
  rcases hq : v1.1 with v2 | X3
  all_goals rw [hq] at h
  all_goals replace hv := bq_pairE hq hv
  rotate_left
  · replace h := bq_elimR h
    by_cases hX0 : X3 = "java/lang/IndexOutOfBoundsException"
    · replace h := bq_ifT hX0 h
      subst hX0
      refine bq_callVXk S hK hz hT mv_L_23 (ct_X6_remove hfl hv) (kc_X6_remove hv) dL_remove_5 (rest := [.int (0 : Int32), .ref a3]) rfl rfl hl.1 (Nat.le_of_ble_eq_true rfl) ⟨Nat.le_of_ble_eq_true rfl, Nat.le_of_ble_eq_true rfl⟩ ⟨Nat.le_of_ble_eq_true rfl, Nat.le_of_ble_eq_true rfl⟩ hW (fun H locs q9 ce hW h1 h2 h3 => ?_)
      have hp : ∀ z ∈ ([] : List ExceptionTableEntry), covers z 5 = false ∨ (z.catchType ≠ 0 ∧ ∃ nm : String, (Cond.classLink RL z.catchType nm).before args s = true ∧ va_Nc "java/lang/IndexOutOfBoundsException" nm s) := fun z hz9 => absurd hz9 List.not_mem_nil
      refine vx_catch (own := RL) (name := "java/lang/IndexOutOfBoundsException") S.2.2.2.1 [] { startPc := 0, endPc := 17, handlerPc := 20, catchType := 13 } [{ startPc := 0, endPc := 17, handlerPc := 24, catchType := 15 }] (by rw [htab]; rfl) hp (by decide) (by decide) (S.2.2.2.2 _ (bq_wi 605 (by decide +kernel) rfl)) (bq_castX hT 435 (by decide +kernel)) h1 h2 h3 ?_
      refine lv_astore (lv' := [(4, .ref q9), (0, .ref a0), (1, .int x1), (2, .int x2), (3, .ref a3)]) hx hb dL_remove_20 hl (by decide) rfl (fun ls hl => ?_)
      refine lv_iconst (v := 1) hx hb dL_remove_22 (by decide) ?_
      cases h
      refine vx_ret (W.widen (k := 1) (n := 6) (Nat.le_of_ble_eq_true rfl) (Nat.le_of_ble_eq_true rfl) ?_)
      exact bq_reti S hr hlocks hK hz dL_remove_23 hW
    replace h := bq_ifF hX0 h
    by_cases hX1 : X3 = "java/lang/IllegalArgumentException"
    · replace h := bq_ifT hX1 h
      subst hX1
      refine bq_callVXk S hK hz hT mv_L_23 (ct_X6_remove hfl hv) (kc_X6_remove hv) dL_remove_5 (rest := [.int (0 : Int32), .ref a3]) rfl rfl hl.1 (Nat.le_of_ble_eq_true rfl) ⟨Nat.le_of_ble_eq_true rfl, Nat.le_of_ble_eq_true rfl⟩ ⟨Nat.le_of_ble_eq_true rfl, Nat.le_of_ble_eq_true rfl⟩ hW (fun H locs q9 ce hW h1 h2 h3 => ?_)
      have hp : ∀ z ∈ ([{ startPc := 0, endPc := 17, handlerPc := 20, catchType := 13 }] : List ExceptionTableEntry), covers z 5 = false ∨ (z.catchType ≠ 0 ∧ ∃ nm : String, (Cond.classLink RL z.catchType nm).before args s = true ∧ va_Nc "java/lang/IllegalArgumentException" nm s) := fun z hz9 => by
        simp only [List.mem_cons, List.not_mem_nil, or_false] at hz9
        rcases hz9 with rfl
        · exact Or.inr ⟨by decide, "java/lang/IndexOutOfBoundsException", S.2.2.2.2 _ (bq_wi 605 (by decide +kernel) rfl), hN.1⟩
      refine vx_catch (own := RL) (name := "java/lang/IllegalArgumentException") S.2.2.2.1 [{ startPc := 0, endPc := 17, handlerPc := 20, catchType := 13 }] { startPc := 0, endPc := 17, handlerPc := 24, catchType := 15 } [] (by rw [htab]; rfl) hp (by decide) (by decide) (S.2.2.2.2 _ (bq_wi 606 (by decide +kernel) rfl)) (bq_castX hT 509 (by decide +kernel)) h1 h2 h3 ?_
      refine lv_astore (lv' := [(4, .ref q9), (0, .ref a0), (1, .int x1), (2, .int x2), (3, .ref a3)]) hx hb dL_remove_24 hl (by decide) rfl (fun ls hl => ?_)
      refine lv_iconst (v := 2) hx hb dL_remove_26 (by decide) ?_
      cases h
      refine vx_ret (W.widen (k := 1) (n := 6) (Nat.le_of_ble_eq_true rfl) (Nat.le_of_ble_eq_true rfl) ?_)
      exact bq_reti S hr hlocks hK hz dL_remove_27 hW
    replace h := bq_ifF hX1 h
    cases h
  replace h := bq_elimL h
  refine bq_callV S hK hz mv_L_23 (cr_X6_remove hv) (kc_X6_remove hv) dL_remove_5 [.int (bq_b v2), .int (0 : Int32), .ref a3] (rest := [.int (0 : Int32), .ref a3]) rfl rfl rfl hl.1 (Nat.le_of_ble_eq_true rfl) ⟨Nat.le_of_ble_eq_true rfl, Nat.le_of_ble_eq_true rfl⟩ ⟨Nat.zero_le _, Nat.zero_le _⟩ hW (fun H locs hW => ?_)
  refine lv_if_eq (tgt := 15) hx hb dL_remove_8 (by decide) (fun hc => ?_) (fun hc => ?_)
  · replace h := bq_ifT hc h
    refine lv_lconst (v := 0) hx hb dL_remove_15 (by decide) ?_
    obtain ⟨E4, hv, h⟩ := bq_bind h
    refine bq_last S hK dL_remove_16 hv hW (fun H locs hW => ?_)
    refine lv_goto (tgt := 28) hx hb dL_remove_17 (by decide) ?_
    refine lv_iconst (v := 0) hx hb dL_remove_28 (by decide) ?_
    cases h
    refine vx_ret (W.widen (k := 1) (n := 6) (Nat.le_of_ble_eq_true rfl) (Nat.le_of_ble_eq_true rfl) ?_)
    exact bq_reti S hr hlocks hK hz dL_remove_29 hW
  · replace h := bq_ifF hc h
    refine lv_lconst (v := 1) hx hb dL_remove_11 (by decide) ?_
    refine lv_goto (tgt := 16) hx hb dL_remove_12 (by decide) ?_
    obtain ⟨E5, hv, h⟩ := bq_bind h
    refine bq_last S hK dL_remove_16 hv hW (fun H locs hW => ?_)
    refine lv_goto (tgt := 28) hx hb dL_remove_17 (by decide) ?_
    refine lv_iconst (v := 0) hx hb dL_remove_28 (by decide) ?_
    cases h
    refine vx_ret (W.widen (k := 1) (n := 6) (Nat.le_of_ble_eq_true rfl) (Nat.le_of_ble_eq_true rfl) ?_)
    exact bq_reti S hr hlocks hK hz dL_remove_29 hW

set_option maxHeartbeats 4000000 in
set_option maxRecDepth 100000 in
theorem cl_L_addSeries {l : Launch} (hfl : l.stackTraces = false) {g : bq_G} {L : List Nat} {z : Nat} {E : bq_E} {a0 : Nat} {x1 : Int32} {x2 : Int32} {x3 : Int32} {x4 : Int32} {a5 : Nat} {R : (Int32 × bq_E)} (h : tw_L_addSeries E a0 x1 x2 x3 x4 a5 = some R) : bq_ML l yL_addSeries cL_addSeries 7 (some .int) [(0, 14, 17, 13), (0, 14, 21, 15)] 9 176 [.ref a0, .int x1, .int x2, .int x3, .int x4, .ref a5] g L E z (some (.int R.1)) R.2 := by
  unfold tw_L_addSeries at h
  refine bq_enterL (by decide) (Nat.le_of_ble_eq_true rfl) ?_
  intro p e s m args below meth c S htab hr hlocks hK hz hT hN hW ls hl
  have S : CallFix p m c cL_addSeries 7 s args bq_WA RL := S
  have hx := S.1
  have hb := S.2.1
  have hl : lv_has ls 7 [(0, .ref a0), (1, .int x1), (2, .int x2), (3, .int x3), (4, .int x4), (5, .ref a5)] := hl
  refine lv_aload hx hb dL_addSeries_0 (lv_at hl 5 rfl) ?_
  refine lv_iconst (v := 0) hx hb dL_addSeries_2 (by decide) ?_
  refine lv_aload_n hx hb dL_addSeries_3 rfl (lv_at hl 0 rfl) ?_
  refine lv_iload_n hx hb dL_addSeries_4 rfl (lv_at hl 1 rfl) ?_
  refine lv_iload_n hx hb dL_addSeries_5 rfl (lv_at hl 2 rfl) ?_
  refine lv_iload_n hx hb dL_addSeries_6 rfl (lv_at hl 3 rfl) ?_
  refine lv_iload hx hb dL_addSeries_7 (lv_at hl 4 rfl) ?_
  obtain ⟨v1, hv, h⟩ := bq_bind h
  rcases hq : v1.1 with v2 | X3
  all_goals rw [hq] at h
  all_goals replace hv := bq_pairE hq hv
  rotate_left
  · replace h := bq_elimR h
    by_cases hX0 : X3 = "java/lang/IndexOutOfBoundsException"
    · replace h := bq_ifT hX0 h
      subst hX0
      refine bq_callVXk S hK hz hT mv_L_26 (ct_X6_addSeries hfl hv) (kc_X6_addSeries hv) dL_addSeries_9 (rest := [.int (0 : Int32), .ref a5]) rfl rfl hl.1 (Nat.le_of_ble_eq_true rfl) ⟨Nat.le_of_ble_eq_true rfl, Nat.le_of_ble_eq_true rfl⟩ ⟨Nat.le_of_ble_eq_true rfl, Nat.le_of_ble_eq_true rfl⟩ hW (fun H locs q9 ce hW h1 h2 h3 => ?_)
      have hp : ∀ z ∈ ([] : List ExceptionTableEntry), covers z 9 = false ∨ (z.catchType ≠ 0 ∧ ∃ nm : String, (Cond.classLink RL z.catchType nm).before args s = true ∧ va_Nc "java/lang/IndexOutOfBoundsException" nm s) := fun z hz9 => absurd hz9 List.not_mem_nil
      refine vx_catch (own := RL) (name := "java/lang/IndexOutOfBoundsException") S.2.2.2.1 [] { startPc := 0, endPc := 14, handlerPc := 17, catchType := 13 } [{ startPc := 0, endPc := 14, handlerPc := 21, catchType := 15 }] (by rw [htab]; rfl) hp (by decide) (by decide) (S.2.2.2.2 _ (bq_wi 605 (by decide +kernel) rfl)) (bq_castX hT 435 (by decide +kernel)) h1 h2 h3 ?_
      refine lv_astore (lv' := [(6, .ref q9), (0, .ref a0), (1, .int x1), (2, .int x2), (3, .int x3), (4, .int x4), (5, .ref a5)]) hx hb dL_addSeries_17 hl (by decide) rfl (fun ls hl => ?_)
      refine lv_iconst (v := 1) hx hb dL_addSeries_19 (by decide) ?_
      cases h
      refine vx_ret (W.widen (k := 1) (n := 6) (Nat.le_of_ble_eq_true rfl) (Nat.le_of_ble_eq_true rfl) ?_)
      exact bq_reti S hr hlocks hK hz dL_addSeries_20 hW
    replace h := bq_ifF hX0 h
    by_cases hX1 : X3 = "java/lang/IllegalArgumentException"
    · replace h := bq_ifT hX1 h
      subst hX1
      refine bq_callVXk S hK hz hT mv_L_26 (ct_X6_addSeries hfl hv) (kc_X6_addSeries hv) dL_addSeries_9 (rest := [.int (0 : Int32), .ref a5]) rfl rfl hl.1 (Nat.le_of_ble_eq_true rfl) ⟨Nat.le_of_ble_eq_true rfl, Nat.le_of_ble_eq_true rfl⟩ ⟨Nat.le_of_ble_eq_true rfl, Nat.le_of_ble_eq_true rfl⟩ hW (fun H locs q9 ce hW h1 h2 h3 => ?_)
      have hp : ∀ z ∈ ([{ startPc := 0, endPc := 14, handlerPc := 17, catchType := 13 }] : List ExceptionTableEntry), covers z 9 = false ∨ (z.catchType ≠ 0 ∧ ∃ nm : String, (Cond.classLink RL z.catchType nm).before args s = true ∧ va_Nc "java/lang/IllegalArgumentException" nm s) := fun z hz9 => by
        simp only [List.mem_cons, List.not_mem_nil, or_false] at hz9
        rcases hz9 with rfl
        · exact Or.inr ⟨by decide, "java/lang/IndexOutOfBoundsException", S.2.2.2.2 _ (bq_wi 605 (by decide +kernel) rfl), hN.1⟩
      refine vx_catch (own := RL) (name := "java/lang/IllegalArgumentException") S.2.2.2.1 [{ startPc := 0, endPc := 14, handlerPc := 17, catchType := 13 }] { startPc := 0, endPc := 14, handlerPc := 21, catchType := 15 } [] (by rw [htab]; rfl) hp (by decide) (by decide) (S.2.2.2.2 _ (bq_wi 606 (by decide +kernel) rfl)) (bq_castX hT 509 (by decide +kernel)) h1 h2 h3 ?_
      refine lv_astore (lv' := [(6, .ref q9), (0, .ref a0), (1, .int x1), (2, .int x2), (3, .int x3), (4, .int x4), (5, .ref a5)]) hx hb dL_addSeries_21 hl (by decide) rfl (fun ls hl => ?_)
      refine lv_iconst (v := 2) hx hb dL_addSeries_23 (by decide) ?_
      cases h
      refine vx_ret (W.widen (k := 1) (n := 6) (Nat.le_of_ble_eq_true rfl) (Nat.le_of_ble_eq_true rfl) ?_)
      exact bq_reti S hr hlocks hK hz dL_addSeries_24 hW
    replace h := bq_ifF hX1 h
    cases h
  replace h := bq_elimL h
  refine bq_callV S hK hz mv_L_26 (cr_X6_addSeries hv) (kc_X6_addSeries hv) dL_addSeries_9 [.int v2, .int (0 : Int32), .ref a5] (rest := [.int (0 : Int32), .ref a5]) rfl rfl rfl hl.1 (Nat.le_of_ble_eq_true rfl) ⟨Nat.le_of_ble_eq_true rfl, Nat.le_of_ble_eq_true rfl⟩ ⟨Nat.zero_le _, Nat.zero_le _⟩ hW (fun H locs hW => ?_)
  refine lv_i2l (v := Int32.toInt64 v2) hx hb dL_addSeries_12 rfl ?_
  obtain ⟨E4, hv, h⟩ := bq_bind h
  refine bq_last S hK dL_addSeries_13 hv hW (fun H locs hW => ?_)
  refine lv_goto (tgt := 25) hx hb dL_addSeries_14 (by decide) ?_
  refine lv_iconst (v := 0) hx hb dL_addSeries_25 (by decide) ?_
  cases h
  refine vx_ret (W.widen (k := 1) (n := 6) (Nat.le_of_ble_eq_true rfl) (Nat.le_of_ble_eq_true rfl) ?_)
  exact bq_reti S hr hlocks hK hz dL_addSeries_26 hW

set_option maxHeartbeats 4000000 in
set_option maxRecDepth 100000 in
theorem cl_L_setSizes {l : Launch} (hfl : l.stackTraces = false) {g : bq_G} {L : List Nat} {z : Nat} {E : bq_E} {a0 : Nat} {x1 : Int32} {x2 : Int32} {a3 : Nat} {R : (Int32 × bq_E)} (h : tw_L_setSizes E a0 x1 x2 a3 = some R) : bq_ML l yL_setSizes cL_setSizes 5 (some .int) [(0, 10, 13, 15)] 8 171 [.ref a0, .int x1, .int x2, .ref a3] g L E z (some (.int R.1)) R.2 := by
  unfold tw_L_setSizes at h
  refine bq_enterL (by decide) (Nat.le_of_ble_eq_true rfl) ?_
  intro p e s m args below meth c S htab hr hlocks hK hz hT hN hW ls hl
  have S : CallFix p m c cL_setSizes 5 s args bq_WA RL := S
  have hx := S.1
  have hb := S.2.1
  have hl : lv_has ls 5 [(0, .ref a0), (1, .int x1), (2, .int x2), (3, .ref a3)] := hl
  refine lv_aload_n hx hb dL_setSizes_0 rfl (lv_at hl 3 rfl) ?_
  refine lv_iconst (v := 0) hx hb dL_setSizes_1 (by decide) ?_
  refine lv_aload_n hx hb dL_setSizes_2 rfl (lv_at hl 0 rfl) ?_
  refine lv_iload_n hx hb dL_setSizes_3 rfl (lv_at hl 1 rfl) ?_
  refine lv_iload_n hx hb dL_setSizes_4 rfl (lv_at hl 2 rfl) ?_
  obtain ⟨v1, hv, h⟩ := bq_bind h
  rcases hq : v1.1 with v2 | X3
  all_goals rw [hq] at h
  all_goals replace hv := bq_pairE hq hv
  rotate_left
  · replace h := bq_elimR h
    by_cases hX0 : X3 = "java/lang/IllegalArgumentException"
    · replace h := bq_ifT hX0 h
      subst hX0
      refine bq_callVXk S hK hz hT mv_L_30 (ct_X6_setSizes hfl hv) (kc_X6_setSizes hv) dL_setSizes_5 (rest := [.int (0 : Int32), .ref a3]) rfl rfl hl.1 (Nat.le_of_ble_eq_true rfl) ⟨Nat.le_of_ble_eq_true rfl, Nat.le_of_ble_eq_true rfl⟩ ⟨Nat.le_of_ble_eq_true rfl, Nat.le_of_ble_eq_true rfl⟩ hW (fun H locs q9 ce hW h1 h2 h3 => ?_)
      have hp : ∀ z ∈ ([] : List ExceptionTableEntry), covers z 5 = false ∨ (z.catchType ≠ 0 ∧ ∃ nm : String, (Cond.classLink RL z.catchType nm).before args s = true ∧ va_Nc "java/lang/IllegalArgumentException" nm s) := fun z hz9 => absurd hz9 List.not_mem_nil
      refine vx_catch (own := RL) (name := "java/lang/IllegalArgumentException") S.2.2.2.1 [] { startPc := 0, endPc := 10, handlerPc := 13, catchType := 15 } [] (by rw [htab]; rfl) hp (by decide) (by decide) (S.2.2.2.2 _ (bq_wi 606 (by decide +kernel) rfl)) (bq_castX hT 509 (by decide +kernel)) h1 h2 h3 ?_
      refine lv_astore (lv' := [(4, .ref q9), (0, .ref a0), (1, .int x1), (2, .int x2), (3, .ref a3)]) hx hb dL_setSizes_13 hl (by decide) rfl (fun ls hl => ?_)
      refine lv_iconst (v := 1) hx hb dL_setSizes_15 (by decide) ?_
      cases h
      refine vx_ret (W.widen (k := 1) (n := 6) (Nat.le_of_ble_eq_true rfl) (Nat.le_of_ble_eq_true rfl) ?_)
      exact bq_reti S hr hlocks hK hz dL_setSizes_16 hW
    replace h := bq_ifF hX0 h
    cases h
  replace h := bq_elimL h
  refine bq_callV S hK hz mv_L_30 (cr_X6_setSizes hv) (kc_X6_setSizes hv) dL_setSizes_5 [.int v2, .int (0 : Int32), .ref a3] (rest := [.int (0 : Int32), .ref a3]) rfl rfl rfl hl.1 (Nat.le_of_ble_eq_true rfl) ⟨Nat.le_of_ble_eq_true rfl, Nat.le_of_ble_eq_true rfl⟩ ⟨Nat.zero_le _, Nat.zero_le _⟩ hW (fun H locs hW => ?_)
  refine lv_i2l (v := Int32.toInt64 v2) hx hb dL_setSizes_8 rfl ?_
  obtain ⟨E4, hv, h⟩ := bq_bind h
  refine bq_last S hK dL_setSizes_9 hv hW (fun H locs hW => ?_)
  refine lv_goto (tgt := 17) hx hb dL_setSizes_10 (by decide) ?_
  refine lv_iconst (v := 0) hx hb dL_setSizes_17 (by decide) ?_
  cases h
  refine vx_ret (W.widen (k := 1) (n := 6) (Nat.le_of_ble_eq_true rfl) (Nat.le_of_ble_eq_true rfl) ?_)
  exact bq_reti S hr hlocks hK hz dL_setSizes_18 hW

set_option maxHeartbeats 4000000 in
set_option maxRecDepth 100000 in
theorem cl_L_rebuild {l : Launch} (hfl : l.stackTraces = false) {g : bq_G} {L : List Nat} {z : Nat} {E : bq_E} {a0 : Nat} {x1 : Int32} {a2 : Nat} {R : (Int32 × bq_E)} (h : tw_L_rebuild E a0 x1 a2 = some R) : bq_ML l yL_rebuild cL_rebuild 4 (some .int) [(0, 9, 12, 13)] 8 169 [.ref a0, .int x1, .ref a2] g L E z (some (.int R.1)) R.2 := by
  unfold tw_L_rebuild at h
  refine bq_enterL (by decide) (Nat.le_of_ble_eq_true rfl) ?_
  intro p e s m args below meth c S htab hr hlocks hK hz hT hN hW ls hl
  have S : CallFix p m c cL_rebuild 4 s args bq_WA RL := S
  have hx := S.1
  have hb := S.2.1
  have hl : lv_has ls 4 [(0, .ref a0), (1, .int x1), (2, .ref a2)] := hl
  refine lv_aload_n hx hb dL_rebuild_0 rfl (lv_at hl 2 rfl) ?_
  refine lv_iconst (v := 0) hx hb dL_rebuild_1 (by decide) ?_
  refine lv_aload_n hx hb dL_rebuild_2 rfl (lv_at hl 0 rfl) ?_
  refine lv_iload_n hx hb dL_rebuild_3 rfl (lv_at hl 1 rfl) ?_
  obtain ⟨v1, hv, h⟩ := bq_bind h
  rcases hq : v1.1 with v2 | X3
  all_goals rw [hq] at h
  all_goals replace hv := bq_pairE hq hv
  rotate_left
  · replace h := bq_elimR h
    by_cases hX0 : X3 = "java/lang/IndexOutOfBoundsException"
    · replace h := bq_ifT hX0 h
      subst hX0
      refine bq_callVXk S hK hz hT mv_L_33 (ct_X6_rebuild hfl hv) (kc_X6_rebuild hv) dL_rebuild_4 (rest := [.int (0 : Int32), .ref a2]) rfl rfl hl.1 (Nat.le_of_ble_eq_true rfl) ⟨Nat.le_of_ble_eq_true rfl, Nat.le_of_ble_eq_true rfl⟩ ⟨Nat.le_of_ble_eq_true rfl, Nat.le_of_ble_eq_true rfl⟩ hW (fun H locs q9 ce hW h1 h2 h3 => ?_)
      have hp : ∀ z ∈ ([] : List ExceptionTableEntry), covers z 4 = false ∨ (z.catchType ≠ 0 ∧ ∃ nm : String, (Cond.classLink RL z.catchType nm).before args s = true ∧ va_Nc "java/lang/IndexOutOfBoundsException" nm s) := fun z hz9 => absurd hz9 List.not_mem_nil
      refine vx_catch (own := RL) (name := "java/lang/IndexOutOfBoundsException") S.2.2.2.1 [] { startPc := 0, endPc := 9, handlerPc := 12, catchType := 13 } [] (by rw [htab]; rfl) hp (by decide) (by decide) (S.2.2.2.2 _ (bq_wi 605 (by decide +kernel) rfl)) (bq_castX hT 435 (by decide +kernel)) h1 h2 h3 ?_
      refine lv_astore_n (lv' := [(3, .ref q9), (0, .ref a0), (1, .int x1), (2, .ref a2)]) hx hb dL_rebuild_12 rfl hl (by decide) rfl (fun ls hl => ?_)
      refine lv_iconst (v := 1) hx hb dL_rebuild_13 (by decide) ?_
      cases h
      refine vx_ret (W.widen (k := 1) (n := 6) (Nat.le_of_ble_eq_true rfl) (Nat.le_of_ble_eq_true rfl) ?_)
      exact bq_reti S hr hlocks hK hz dL_rebuild_14 hW
    replace h := bq_ifF hX0 h
    cases h
  replace h := bq_elimL h
  refine bq_callV S hK hz mv_L_33 (cr_X6_rebuild hv) (kc_X6_rebuild hv) dL_rebuild_4 [.int v2, .int (0 : Int32), .ref a2] (rest := [.int (0 : Int32), .ref a2]) rfl rfl rfl hl.1 (Nat.le_of_ble_eq_true rfl) ⟨Nat.le_of_ble_eq_true rfl, Nat.le_of_ble_eq_true rfl⟩ ⟨Nat.zero_le _, Nat.zero_le _⟩ hW (fun H locs hW => ?_)
  refine lv_i2l (v := Int32.toInt64 v2) hx hb dL_rebuild_7 rfl ?_
  obtain ⟨E4, hv, h⟩ := bq_bind h
  refine bq_last S hK dL_rebuild_8 hv hW (fun H locs hW => ?_)
  refine lv_goto (tgt := 15) hx hb dL_rebuild_9 (by decide) ?_
  refine lv_iconst (v := 0) hx hb dL_rebuild_15 (by decide) ?_
  cases h
  refine vx_ret (W.widen (k := 1) (n := 6) (Nat.le_of_ble_eq_true rfl) (Nat.le_of_ble_eq_true rfl) ?_)
  exact bq_reti S hr hlocks hK hz dL_rebuild_16 hW

set_option maxHeartbeats 4000000 in
set_option maxRecDepth 100000 in
theorem cl_L_search {l : Launch} (hfl : l.stackTraces = false) {g : bq_G} {L : List Nat} {z : Nat} {E : bq_E} {a0 : Nat} {x1 : Int32} {x2 : Int32} {a3 : Nat} {R : (Int32 × bq_E)} (h : tw_L_search E a0 x1 x2 a3 = some R) : bq_ML l yL_search cL_search 5 (some .int) [(0, 10, 13, 13), (0, 10, 17, 15)] 10 177 [.ref a0, .int x1, .int x2, .ref a3] g L E z (some (.int R.1)) R.2 := by
  unfold tw_L_search at h
  refine bq_enterL (by decide) (Nat.le_of_ble_eq_true rfl) ?_
  intro p e s m args below meth c S htab hr hlocks hK hz hT hN hW ls hl
  have S : CallFix p m c cL_search 5 s args bq_WA RL := S
  have hx := S.1
  have hb := S.2.1
  have hl : lv_has ls 5 [(0, .ref a0), (1, .int x1), (2, .int x2), (3, .ref a3)] := hl
  refine lv_aload_n hx hb dL_search_0 rfl (lv_at hl 3 rfl) ?_
  refine lv_iconst (v := 0) hx hb dL_search_1 (by decide) ?_
  refine lv_aload_n hx hb dL_search_2 rfl (lv_at hl 0 rfl) ?_
  refine lv_iload_n hx hb dL_search_3 rfl (lv_at hl 1 rfl) ?_
  refine lv_iload_n hx hb dL_search_4 rfl (lv_at hl 2 rfl) ?_
  obtain ⟨v1, hv, h⟩ := bq_bind h
  rcases hq : v1.1 with v2 | X3
  all_goals rw [hq] at h
  all_goals replace hv := bq_pairE hq hv
  rotate_left
  · replace h := bq_elimR h
    by_cases hX0 : X3 = "java/lang/IndexOutOfBoundsException"
    · replace h := bq_ifT hX0 h
      subst hX0
      refine bq_callVXk S hK hz hT mv_L_37 (ct_X6_search hfl hv) (kc_X6_search hv) dL_search_5 (rest := [.int (0 : Int32), .ref a3]) rfl rfl hl.1 (Nat.le_of_ble_eq_true rfl) ⟨Nat.le_of_ble_eq_true rfl, Nat.le_of_ble_eq_true rfl⟩ ⟨Nat.le_of_ble_eq_true rfl, Nat.le_of_ble_eq_true rfl⟩ hW (fun H locs q9 ce hW h1 h2 h3 => ?_)
      have hp : ∀ z ∈ ([] : List ExceptionTableEntry), covers z 5 = false ∨ (z.catchType ≠ 0 ∧ ∃ nm : String, (Cond.classLink RL z.catchType nm).before args s = true ∧ va_Nc "java/lang/IndexOutOfBoundsException" nm s) := fun z hz9 => absurd hz9 List.not_mem_nil
      refine vx_catch (own := RL) (name := "java/lang/IndexOutOfBoundsException") S.2.2.2.1 [] { startPc := 0, endPc := 10, handlerPc := 13, catchType := 13 } [{ startPc := 0, endPc := 10, handlerPc := 17, catchType := 15 }] (by rw [htab]; rfl) hp (by decide) (by decide) (S.2.2.2.2 _ (bq_wi 605 (by decide +kernel) rfl)) (bq_castX hT 435 (by decide +kernel)) h1 h2 h3 ?_
      refine lv_astore (lv' := [(4, .ref q9), (0, .ref a0), (1, .int x1), (2, .int x2), (3, .ref a3)]) hx hb dL_search_13 hl (by decide) rfl (fun ls hl => ?_)
      refine lv_iconst (v := 1) hx hb dL_search_15 (by decide) ?_
      cases h
      refine vx_ret (W.widen (k := 1) (n := 6) (Nat.le_of_ble_eq_true rfl) (Nat.le_of_ble_eq_true rfl) ?_)
      exact bq_reti S hr hlocks hK hz dL_search_16 hW
    replace h := bq_ifF hX0 h
    by_cases hX1 : X3 = "java/lang/IllegalArgumentException"
    · replace h := bq_ifT hX1 h
      subst hX1
      refine bq_callVXk S hK hz hT mv_L_37 (ct_X6_search hfl hv) (kc_X6_search hv) dL_search_5 (rest := [.int (0 : Int32), .ref a3]) rfl rfl hl.1 (Nat.le_of_ble_eq_true rfl) ⟨Nat.le_of_ble_eq_true rfl, Nat.le_of_ble_eq_true rfl⟩ ⟨Nat.le_of_ble_eq_true rfl, Nat.le_of_ble_eq_true rfl⟩ hW (fun H locs q9 ce hW h1 h2 h3 => ?_)
      have hp : ∀ z ∈ ([{ startPc := 0, endPc := 10, handlerPc := 13, catchType := 13 }] : List ExceptionTableEntry), covers z 5 = false ∨ (z.catchType ≠ 0 ∧ ∃ nm : String, (Cond.classLink RL z.catchType nm).before args s = true ∧ va_Nc "java/lang/IllegalArgumentException" nm s) := fun z hz9 => by
        simp only [List.mem_cons, List.not_mem_nil, or_false] at hz9
        rcases hz9 with rfl
        · exact Or.inr ⟨by decide, "java/lang/IndexOutOfBoundsException", S.2.2.2.2 _ (bq_wi 605 (by decide +kernel) rfl), hN.1⟩
      refine vx_catch (own := RL) (name := "java/lang/IllegalArgumentException") S.2.2.2.1 [{ startPc := 0, endPc := 10, handlerPc := 13, catchType := 13 }] { startPc := 0, endPc := 10, handlerPc := 17, catchType := 15 } [] (by rw [htab]; rfl) hp (by decide) (by decide) (S.2.2.2.2 _ (bq_wi 606 (by decide +kernel) rfl)) (bq_castX hT 509 (by decide +kernel)) h1 h2 h3 ?_
      refine lv_astore (lv' := [(4, .ref q9), (0, .ref a0), (1, .int x1), (2, .int x2), (3, .ref a3)]) hx hb dL_search_17 hl (by decide) rfl (fun ls hl => ?_)
      refine lv_iconst (v := 2) hx hb dL_search_19 (by decide) ?_
      cases h
      refine vx_ret (W.widen (k := 1) (n := 6) (Nat.le_of_ble_eq_true rfl) (Nat.le_of_ble_eq_true rfl) ?_)
      exact bq_reti S hr hlocks hK hz dL_search_20 hW
    replace h := bq_ifF hX1 h
    cases h
  replace h := bq_elimL h
  refine bq_callV S hK hz mv_L_37 (cr_X6_search hv) (kc_X6_search hv) dL_search_5 [.int v2, .int (0 : Int32), .ref a3] (rest := [.int (0 : Int32), .ref a3]) rfl rfl rfl hl.1 (Nat.le_of_ble_eq_true rfl) ⟨Nat.le_of_ble_eq_true rfl, Nat.le_of_ble_eq_true rfl⟩ ⟨Nat.zero_le _, Nat.zero_le _⟩ hW (fun H locs hW => ?_)
  refine lv_i2l (v := Int32.toInt64 v2) hx hb dL_search_8 rfl ?_
  obtain ⟨E4, hv, h⟩ := bq_bind h
  refine bq_last S hK dL_search_9 hv hW (fun H locs hW => ?_)
  refine lv_goto (tgt := 21) hx hb dL_search_10 (by decide) ?_
  refine lv_iconst (v := 0) hx hb dL_search_21 (by decide) ?_
  cases h
  refine vx_ret (W.widen (k := 1) (n := 6) (Nat.le_of_ble_eq_true rfl) (Nat.le_of_ble_eq_true rfl) ?_)
  exact bq_reti S hr hlocks hK hz dL_search_22 hW

set_option maxHeartbeats 4000000 in
set_option maxRecDepth 100000 in
theorem cl_L_probes {l : Launch} (hfl : l.stackTraces = false) {g : bq_G} {L : List Nat} {z : Nat} {E : bq_E} {a0 : Nat} {x1 : Int32} {x2 : Int32} {a3 : Nat} {R : (Int32 × bq_E)} (h : tw_L_probes E a0 x1 x2 a3 = some R) : bq_ML l yL_probes cL_probes 5 (some .int) [(0, 10, 13, 13), (0, 10, 17, 15)] 10 176 [.ref a0, .int x1, .int x2, .ref a3] g L E z (some (.int R.1)) R.2 := by
  unfold tw_L_probes at h
  refine bq_enterL (by decide) (Nat.le_of_ble_eq_true rfl) ?_
  intro p e s m args below meth c S htab hr hlocks hK hz hT hN hW ls hl
  have S : CallFix p m c cL_probes 5 s args bq_WA RL := S
  have hx := S.1
  have hb := S.2.1
  have hl : lv_has ls 5 [(0, .ref a0), (1, .int x1), (2, .int x2), (3, .ref a3)] := hl
  refine lv_aload_n hx hb dL_probes_0 rfl (lv_at hl 3 rfl) ?_
  refine lv_iconst (v := 0) hx hb dL_probes_1 (by decide) ?_
  refine lv_aload_n hx hb dL_probes_2 rfl (lv_at hl 0 rfl) ?_
  refine lv_iload_n hx hb dL_probes_3 rfl (lv_at hl 1 rfl) ?_
  refine lv_iload_n hx hb dL_probes_4 rfl (lv_at hl 2 rfl) ?_
  obtain ⟨v1, hv, h⟩ := bq_bind h
  rcases hq : v1.1 with v2 | X3
  all_goals rw [hq] at h
  all_goals replace hv := bq_pairE hq hv
  rotate_left
  · replace h := bq_elimR h
    by_cases hX0 : X3 = "java/lang/IndexOutOfBoundsException"
    · replace h := bq_ifT hX0 h
      subst hX0
      refine bq_callVXk S hK hz hT mv_L_40 (ct_X6_probes hfl hv) (kc_X6_probes hv) dL_probes_5 (rest := [.int (0 : Int32), .ref a3]) rfl rfl hl.1 (Nat.le_of_ble_eq_true rfl) ⟨Nat.le_of_ble_eq_true rfl, Nat.le_of_ble_eq_true rfl⟩ ⟨Nat.le_of_ble_eq_true rfl, Nat.le_of_ble_eq_true rfl⟩ hW (fun H locs q9 ce hW h1 h2 h3 => ?_)
      have hp : ∀ z ∈ ([] : List ExceptionTableEntry), covers z 5 = false ∨ (z.catchType ≠ 0 ∧ ∃ nm : String, (Cond.classLink RL z.catchType nm).before args s = true ∧ va_Nc "java/lang/IndexOutOfBoundsException" nm s) := fun z hz9 => absurd hz9 List.not_mem_nil
      refine vx_catch (own := RL) (name := "java/lang/IndexOutOfBoundsException") S.2.2.2.1 [] { startPc := 0, endPc := 10, handlerPc := 13, catchType := 13 } [{ startPc := 0, endPc := 10, handlerPc := 17, catchType := 15 }] (by rw [htab]; rfl) hp (by decide) (by decide) (S.2.2.2.2 _ (bq_wi 605 (by decide +kernel) rfl)) (bq_castX hT 435 (by decide +kernel)) h1 h2 h3 ?_
      refine lv_astore (lv' := [(4, .ref q9), (0, .ref a0), (1, .int x1), (2, .int x2), (3, .ref a3)]) hx hb dL_probes_13 hl (by decide) rfl (fun ls hl => ?_)
      refine lv_iconst (v := 1) hx hb dL_probes_15 (by decide) ?_
      cases h
      refine vx_ret (W.widen (k := 1) (n := 6) (Nat.le_of_ble_eq_true rfl) (Nat.le_of_ble_eq_true rfl) ?_)
      exact bq_reti S hr hlocks hK hz dL_probes_16 hW
    replace h := bq_ifF hX0 h
    by_cases hX1 : X3 = "java/lang/IllegalArgumentException"
    · replace h := bq_ifT hX1 h
      subst hX1
      refine bq_callVXk S hK hz hT mv_L_40 (ct_X6_probes hfl hv) (kc_X6_probes hv) dL_probes_5 (rest := [.int (0 : Int32), .ref a3]) rfl rfl hl.1 (Nat.le_of_ble_eq_true rfl) ⟨Nat.le_of_ble_eq_true rfl, Nat.le_of_ble_eq_true rfl⟩ ⟨Nat.le_of_ble_eq_true rfl, Nat.le_of_ble_eq_true rfl⟩ hW (fun H locs q9 ce hW h1 h2 h3 => ?_)
      have hp : ∀ z ∈ ([{ startPc := 0, endPc := 10, handlerPc := 13, catchType := 13 }] : List ExceptionTableEntry), covers z 5 = false ∨ (z.catchType ≠ 0 ∧ ∃ nm : String, (Cond.classLink RL z.catchType nm).before args s = true ∧ va_Nc "java/lang/IllegalArgumentException" nm s) := fun z hz9 => by
        simp only [List.mem_cons, List.not_mem_nil, or_false] at hz9
        rcases hz9 with rfl
        · exact Or.inr ⟨by decide, "java/lang/IndexOutOfBoundsException", S.2.2.2.2 _ (bq_wi 605 (by decide +kernel) rfl), hN.1⟩
      refine vx_catch (own := RL) (name := "java/lang/IllegalArgumentException") S.2.2.2.1 [{ startPc := 0, endPc := 10, handlerPc := 13, catchType := 13 }] { startPc := 0, endPc := 10, handlerPc := 17, catchType := 15 } [] (by rw [htab]; rfl) hp (by decide) (by decide) (S.2.2.2.2 _ (bq_wi 606 (by decide +kernel) rfl)) (bq_castX hT 509 (by decide +kernel)) h1 h2 h3 ?_
      refine lv_astore (lv' := [(4, .ref q9), (0, .ref a0), (1, .int x1), (2, .int x2), (3, .ref a3)]) hx hb dL_probes_17 hl (by decide) rfl (fun ls hl => ?_)
      refine lv_iconst (v := 2) hx hb dL_probes_19 (by decide) ?_
      cases h
      refine vx_ret (W.widen (k := 1) (n := 6) (Nat.le_of_ble_eq_true rfl) (Nat.le_of_ble_eq_true rfl) ?_)
      exact bq_reti S hr hlocks hK hz dL_probes_20 hW
    replace h := bq_ifF hX1 h
    cases h
  replace h := bq_elimL h
  refine bq_callV S hK hz mv_L_40 (cr_X6_probes hv) (kc_X6_probes hv) dL_probes_5 [.int v2, .int (0 : Int32), .ref a3] (rest := [.int (0 : Int32), .ref a3]) rfl rfl rfl hl.1 (Nat.le_of_ble_eq_true rfl) ⟨Nat.le_of_ble_eq_true rfl, Nat.le_of_ble_eq_true rfl⟩ ⟨Nat.zero_le _, Nat.zero_le _⟩ hW (fun H locs hW => ?_)
  refine lv_i2l (v := Int32.toInt64 v2) hx hb dL_probes_8 rfl ?_
  obtain ⟨E4, hv, h⟩ := bq_bind h
  refine bq_last S hK dL_probes_9 hv hW (fun H locs hW => ?_)
  refine lv_goto (tgt := 21) hx hb dL_probes_10 (by decide) ?_
  refine lv_iconst (v := 0) hx hb dL_probes_21 (by decide) ?_
  cases h
  refine vx_ret (W.widen (k := 1) (n := 6) (Nat.le_of_ble_eq_true rfl) (Nat.le_of_ble_eq_true rfl) ?_)
  exact bq_reti S hr hlocks hK hz dL_probes_22 hW

set_option maxHeartbeats 4000000 in
set_option maxRecDepth 100000 in
theorem cl_L_plainProbes {l : Launch} (hfl : l.stackTraces = false) {g : bq_G} {L : List Nat} {z : Nat} {E : bq_E} {a0 : Nat} {x1 : Int32} {x2 : Int32} {a3 : Nat} {R : (Int32 × bq_E)} (h : tw_L_plainProbes E a0 x1 x2 a3 = some R) : bq_ML l yL_plainProbes cL_plainProbes 5 (some .int) [(0, 10, 13, 13), (0, 10, 17, 15)] 9 154 [.ref a0, .int x1, .int x2, .ref a3] g L E z (some (.int R.1)) R.2 := by
  unfold tw_L_plainProbes at h
  refine bq_enterL (by decide) (Nat.le_of_ble_eq_true rfl) ?_
  intro p e s m args below meth c S htab hr hlocks hK hz hT hN hW ls hl
  have S : CallFix p m c cL_plainProbes 5 s args bq_WA RL := S
  have hx := S.1
  have hb := S.2.1
  have hl : lv_has ls 5 [(0, .ref a0), (1, .int x1), (2, .int x2), (3, .ref a3)] := hl
  refine lv_aload_n hx hb dL_plainProbes_0 rfl (lv_at hl 3 rfl) ?_
  refine lv_iconst (v := 0) hx hb dL_plainProbes_1 (by decide) ?_
  refine lv_aload_n hx hb dL_plainProbes_2 rfl (lv_at hl 0 rfl) ?_
  refine lv_iload_n hx hb dL_plainProbes_3 rfl (lv_at hl 1 rfl) ?_
  refine lv_iload_n hx hb dL_plainProbes_4 rfl (lv_at hl 2 rfl) ?_
  obtain ⟨v1, hv, h⟩ := bq_bind h
  rcases hq : v1.1 with v2 | X3
  all_goals rw [hq] at h
  all_goals replace hv := bq_pairE hq hv
  rotate_left
  · replace h := bq_elimR h
    by_cases hX0 : X3 = "java/lang/IndexOutOfBoundsException"
    · replace h := bq_ifT hX0 h
      subst hX0
      refine bq_callVXk S hK hz hT mv_L_43 (ct_X6_plainProbes hfl hv) (kc_X6_plainProbes hv) dL_plainProbes_5 (rest := [.int (0 : Int32), .ref a3]) rfl rfl hl.1 (Nat.le_of_ble_eq_true rfl) ⟨Nat.le_of_ble_eq_true rfl, Nat.le_of_ble_eq_true rfl⟩ ⟨Nat.le_of_ble_eq_true rfl, Nat.le_of_ble_eq_true rfl⟩ hW (fun H locs q9 ce hW h1 h2 h3 => ?_)
      have hp : ∀ z ∈ ([] : List ExceptionTableEntry), covers z 5 = false ∨ (z.catchType ≠ 0 ∧ ∃ nm : String, (Cond.classLink RL z.catchType nm).before args s = true ∧ va_Nc "java/lang/IndexOutOfBoundsException" nm s) := fun z hz9 => absurd hz9 List.not_mem_nil
      refine vx_catch (own := RL) (name := "java/lang/IndexOutOfBoundsException") S.2.2.2.1 [] { startPc := 0, endPc := 10, handlerPc := 13, catchType := 13 } [{ startPc := 0, endPc := 10, handlerPc := 17, catchType := 15 }] (by rw [htab]; rfl) hp (by decide) (by decide) (S.2.2.2.2 _ (bq_wi 605 (by decide +kernel) rfl)) (bq_castX hT 435 (by decide +kernel)) h1 h2 h3 ?_
      refine lv_astore (lv' := [(4, .ref q9), (0, .ref a0), (1, .int x1), (2, .int x2), (3, .ref a3)]) hx hb dL_plainProbes_13 hl (by decide) rfl (fun ls hl => ?_)
      refine lv_iconst (v := 1) hx hb dL_plainProbes_15 (by decide) ?_
      cases h
      refine vx_ret (W.widen (k := 1) (n := 6) (Nat.le_of_ble_eq_true rfl) (Nat.le_of_ble_eq_true rfl) ?_)
      exact bq_reti S hr hlocks hK hz dL_plainProbes_16 hW
    replace h := bq_ifF hX0 h
    by_cases hX1 : X3 = "java/lang/IllegalArgumentException"
    · replace h := bq_ifT hX1 h
      subst hX1
      refine bq_callVXk S hK hz hT mv_L_43 (ct_X6_plainProbes hfl hv) (kc_X6_plainProbes hv) dL_plainProbes_5 (rest := [.int (0 : Int32), .ref a3]) rfl rfl hl.1 (Nat.le_of_ble_eq_true rfl) ⟨Nat.le_of_ble_eq_true rfl, Nat.le_of_ble_eq_true rfl⟩ ⟨Nat.le_of_ble_eq_true rfl, Nat.le_of_ble_eq_true rfl⟩ hW (fun H locs q9 ce hW h1 h2 h3 => ?_)
      have hp : ∀ z ∈ ([{ startPc := 0, endPc := 10, handlerPc := 13, catchType := 13 }] : List ExceptionTableEntry), covers z 5 = false ∨ (z.catchType ≠ 0 ∧ ∃ nm : String, (Cond.classLink RL z.catchType nm).before args s = true ∧ va_Nc "java/lang/IllegalArgumentException" nm s) := fun z hz9 => by
        simp only [List.mem_cons, List.not_mem_nil, or_false] at hz9
        rcases hz9 with rfl
        · exact Or.inr ⟨by decide, "java/lang/IndexOutOfBoundsException", S.2.2.2.2 _ (bq_wi 605 (by decide +kernel) rfl), hN.1⟩
      refine vx_catch (own := RL) (name := "java/lang/IllegalArgumentException") S.2.2.2.1 [{ startPc := 0, endPc := 10, handlerPc := 13, catchType := 13 }] { startPc := 0, endPc := 10, handlerPc := 17, catchType := 15 } [] (by rw [htab]; rfl) hp (by decide) (by decide) (S.2.2.2.2 _ (bq_wi 606 (by decide +kernel) rfl)) (bq_castX hT 509 (by decide +kernel)) h1 h2 h3 ?_
      refine lv_astore (lv' := [(4, .ref q9), (0, .ref a0), (1, .int x1), (2, .int x2), (3, .ref a3)]) hx hb dL_plainProbes_17 hl (by decide) rfl (fun ls hl => ?_)
      refine lv_iconst (v := 2) hx hb dL_plainProbes_19 (by decide) ?_
      cases h
      refine vx_ret (W.widen (k := 1) (n := 6) (Nat.le_of_ble_eq_true rfl) (Nat.le_of_ble_eq_true rfl) ?_)
      exact bq_reti S hr hlocks hK hz dL_plainProbes_20 hW
    replace h := bq_ifF hX1 h
    cases h
  replace h := bq_elimL h
  refine bq_callV S hK hz mv_L_43 (cr_X6_plainProbes hv) (kc_X6_plainProbes hv) dL_plainProbes_5 [.int v2, .int (0 : Int32), .ref a3] (rest := [.int (0 : Int32), .ref a3]) rfl rfl rfl hl.1 (Nat.le_of_ble_eq_true rfl) ⟨Nat.le_of_ble_eq_true rfl, Nat.le_of_ble_eq_true rfl⟩ ⟨Nat.zero_le _, Nat.zero_le _⟩ hW (fun H locs hW => ?_)
  refine lv_i2l (v := Int32.toInt64 v2) hx hb dL_plainProbes_8 rfl ?_
  obtain ⟨E4, hv, h⟩ := bq_bind h
  refine bq_last S hK dL_plainProbes_9 hv hW (fun H locs hW => ?_)
  refine lv_goto (tgt := 21) hx hb dL_plainProbes_10 (by decide) ?_
  refine lv_iconst (v := 0) hx hb dL_plainProbes_21 (by decide) ?_
  cases h
  refine vx_ret (W.widen (k := 1) (n := 6) (Nat.le_of_ble_eq_true rfl) (Nat.le_of_ble_eq_true rfl) ?_)
  exact bq_reti S hr hlocks hK hz dL_plainProbes_22 hW

set_option maxHeartbeats 4000000 in
set_option maxRecDepth 100000 in
theorem cl_L_place {l : Launch} (hfl : l.stackTraces = false) {g : bq_G} {L : List Nat} {z : Nat} {E : bq_E} {a0 : Nat} {x1 : Int32} {x2 : Int32} {a3 : Nat} {R : (Int32 × bq_E)} (h : tw_L_place E a0 x1 x2 a3 = some R) : bq_ML l yL_place cL_place 5 (some .int) [(0, 10, 13, 13), (0, 10, 17, 15)] 10 176 [.ref a0, .int x1, .int x2, .ref a3] g L E z (some (.int R.1)) R.2 := by
  unfold tw_L_place at h
  refine bq_enterL (by decide) (Nat.le_of_ble_eq_true rfl) ?_
  intro p e s m args below meth c S htab hr hlocks hK hz hT hN hW ls hl
  have S : CallFix p m c cL_place 5 s args bq_WA RL := S
  have hx := S.1
  have hb := S.2.1
  have hl : lv_has ls 5 [(0, .ref a0), (1, .int x1), (2, .int x2), (3, .ref a3)] := hl
  refine lv_aload_n hx hb dL_place_0 rfl (lv_at hl 3 rfl) ?_
  refine lv_iconst (v := 0) hx hb dL_place_1 (by decide) ?_
  refine lv_aload_n hx hb dL_place_2 rfl (lv_at hl 0 rfl) ?_
  refine lv_iload_n hx hb dL_place_3 rfl (lv_at hl 1 rfl) ?_
  refine lv_iload_n hx hb dL_place_4 rfl (lv_at hl 2 rfl) ?_
  obtain ⟨v1, hv, h⟩ := bq_bind h
  rcases hq : v1.1 with v2 | X3
  all_goals rw [hq] at h
  all_goals replace hv := bq_pairE hq hv
  rotate_left
  · replace h := bq_elimR h
    by_cases hX0 : X3 = "java/lang/IndexOutOfBoundsException"
    · replace h := bq_ifT hX0 h
      subst hX0
      refine bq_callVXk S hK hz hT mv_L_46 (ct_X6_place hfl hv) (kc_X6_place hv) dL_place_5 (rest := [.int (0 : Int32), .ref a3]) rfl rfl hl.1 (Nat.le_of_ble_eq_true rfl) ⟨Nat.le_of_ble_eq_true rfl, Nat.le_of_ble_eq_true rfl⟩ ⟨Nat.le_of_ble_eq_true rfl, Nat.le_of_ble_eq_true rfl⟩ hW (fun H locs q9 ce hW h1 h2 h3 => ?_)
      have hp : ∀ z ∈ ([] : List ExceptionTableEntry), covers z 5 = false ∨ (z.catchType ≠ 0 ∧ ∃ nm : String, (Cond.classLink RL z.catchType nm).before args s = true ∧ va_Nc "java/lang/IndexOutOfBoundsException" nm s) := fun z hz9 => absurd hz9 List.not_mem_nil
      refine vx_catch (own := RL) (name := "java/lang/IndexOutOfBoundsException") S.2.2.2.1 [] { startPc := 0, endPc := 10, handlerPc := 13, catchType := 13 } [{ startPc := 0, endPc := 10, handlerPc := 17, catchType := 15 }] (by rw [htab]; rfl) hp (by decide) (by decide) (S.2.2.2.2 _ (bq_wi 605 (by decide +kernel) rfl)) (bq_castX hT 435 (by decide +kernel)) h1 h2 h3 ?_
      refine lv_astore (lv' := [(4, .ref q9), (0, .ref a0), (1, .int x1), (2, .int x2), (3, .ref a3)]) hx hb dL_place_13 hl (by decide) rfl (fun ls hl => ?_)
      refine lv_iconst (v := 1) hx hb dL_place_15 (by decide) ?_
      cases h
      refine vx_ret (W.widen (k := 1) (n := 6) (Nat.le_of_ble_eq_true rfl) (Nat.le_of_ble_eq_true rfl) ?_)
      exact bq_reti S hr hlocks hK hz dL_place_16 hW
    replace h := bq_ifF hX0 h
    by_cases hX1 : X3 = "java/lang/IllegalArgumentException"
    · replace h := bq_ifT hX1 h
      subst hX1
      refine bq_callVXk S hK hz hT mv_L_46 (ct_X6_place hfl hv) (kc_X6_place hv) dL_place_5 (rest := [.int (0 : Int32), .ref a3]) rfl rfl hl.1 (Nat.le_of_ble_eq_true rfl) ⟨Nat.le_of_ble_eq_true rfl, Nat.le_of_ble_eq_true rfl⟩ ⟨Nat.le_of_ble_eq_true rfl, Nat.le_of_ble_eq_true rfl⟩ hW (fun H locs q9 ce hW h1 h2 h3 => ?_)
      have hp : ∀ z ∈ ([{ startPc := 0, endPc := 10, handlerPc := 13, catchType := 13 }] : List ExceptionTableEntry), covers z 5 = false ∨ (z.catchType ≠ 0 ∧ ∃ nm : String, (Cond.classLink RL z.catchType nm).before args s = true ∧ va_Nc "java/lang/IllegalArgumentException" nm s) := fun z hz9 => by
        simp only [List.mem_cons, List.not_mem_nil, or_false] at hz9
        rcases hz9 with rfl
        · exact Or.inr ⟨by decide, "java/lang/IndexOutOfBoundsException", S.2.2.2.2 _ (bq_wi 605 (by decide +kernel) rfl), hN.1⟩
      refine vx_catch (own := RL) (name := "java/lang/IllegalArgumentException") S.2.2.2.1 [{ startPc := 0, endPc := 10, handlerPc := 13, catchType := 13 }] { startPc := 0, endPc := 10, handlerPc := 17, catchType := 15 } [] (by rw [htab]; rfl) hp (by decide) (by decide) (S.2.2.2.2 _ (bq_wi 606 (by decide +kernel) rfl)) (bq_castX hT 509 (by decide +kernel)) h1 h2 h3 ?_
      refine lv_astore (lv' := [(4, .ref q9), (0, .ref a0), (1, .int x1), (2, .int x2), (3, .ref a3)]) hx hb dL_place_17 hl (by decide) rfl (fun ls hl => ?_)
      refine lv_iconst (v := 2) hx hb dL_place_19 (by decide) ?_
      cases h
      refine vx_ret (W.widen (k := 1) (n := 6) (Nat.le_of_ble_eq_true rfl) (Nat.le_of_ble_eq_true rfl) ?_)
      exact bq_reti S hr hlocks hK hz dL_place_20 hW
    replace h := bq_ifF hX1 h
    cases h
  replace h := bq_elimL h
  refine bq_callV S hK hz mv_L_46 (cr_X6_place hv) (kc_X6_place hv) dL_place_5 [.int v2, .int (0 : Int32), .ref a3] (rest := [.int (0 : Int32), .ref a3]) rfl rfl rfl hl.1 (Nat.le_of_ble_eq_true rfl) ⟨Nat.le_of_ble_eq_true rfl, Nat.le_of_ble_eq_true rfl⟩ ⟨Nat.zero_le _, Nat.zero_le _⟩ hW (fun H locs hW => ?_)
  refine lv_i2l (v := Int32.toInt64 v2) hx hb dL_place_8 rfl ?_
  obtain ⟨E4, hv, h⟩ := bq_bind h
  refine bq_last S hK dL_place_9 hv hW (fun H locs hW => ?_)
  refine lv_goto (tgt := 21) hx hb dL_place_10 (by decide) ?_
  refine lv_iconst (v := 0) hx hb dL_place_21 (by decide) ?_
  cases h
  refine vx_ret (W.widen (k := 1) (n := 6) (Nat.le_of_ble_eq_true rfl) (Nat.le_of_ble_eq_true rfl) ?_)
  exact bq_reti S hr hlocks hK hz dL_place_22 hW

set_option maxHeartbeats 4000000 in
set_option maxRecDepth 100000 in
theorem cl_L_leastOnPath {l : Launch} (hfl : l.stackTraces = false) {g : bq_G} {L : List Nat} {z : Nat} {E : bq_E} {a0 : Nat} {x1 : Int32} {x2 : Int32} {a3 : Nat} {R : (Int32 × bq_E)} (h : tw_L_leastOnPath E a0 x1 x2 a3 = some R) : bq_ML l yL_leastOnPath cL_leastOnPath 5 (some .int) [(0, 10, 13, 13), (0, 10, 17, 15)] 10 176 [.ref a0, .int x1, .int x2, .ref a3] g L E z (some (.int R.1)) R.2 := by
  unfold tw_L_leastOnPath at h
  refine bq_enterL (by decide) (Nat.le_of_ble_eq_true rfl) ?_
  intro p e s m args below meth c S htab hr hlocks hK hz hT hN hW ls hl
  have S : CallFix p m c cL_leastOnPath 5 s args bq_WA RL := S
  have hx := S.1
  have hb := S.2.1
  have hl : lv_has ls 5 [(0, .ref a0), (1, .int x1), (2, .int x2), (3, .ref a3)] := hl
  refine lv_aload_n hx hb dL_leastOnPath_0 rfl (lv_at hl 3 rfl) ?_
  refine lv_iconst (v := 0) hx hb dL_leastOnPath_1 (by decide) ?_
  refine lv_aload_n hx hb dL_leastOnPath_2 rfl (lv_at hl 0 rfl) ?_
  refine lv_iload_n hx hb dL_leastOnPath_3 rfl (lv_at hl 1 rfl) ?_
  refine lv_iload_n hx hb dL_leastOnPath_4 rfl (lv_at hl 2 rfl) ?_
  obtain ⟨v1, hv, h⟩ := bq_bind h
  rcases hq : v1.1 with v2 | X3
  all_goals rw [hq] at h
  all_goals replace hv := bq_pairE hq hv
  rotate_left
  · replace h := bq_elimR h
    by_cases hX0 : X3 = "java/lang/IndexOutOfBoundsException"
    · replace h := bq_ifT hX0 h
      subst hX0
      refine bq_callVXk S hK hz hT mv_L_49 (ct_X6_leastOnPath hfl hv) (kc_X6_leastOnPath hv) dL_leastOnPath_5 (rest := [.int (0 : Int32), .ref a3]) rfl rfl hl.1 (Nat.le_of_ble_eq_true rfl) ⟨Nat.le_of_ble_eq_true rfl, Nat.le_of_ble_eq_true rfl⟩ ⟨Nat.le_of_ble_eq_true rfl, Nat.le_of_ble_eq_true rfl⟩ hW (fun H locs q9 ce hW h1 h2 h3 => ?_)
      have hp : ∀ z ∈ ([] : List ExceptionTableEntry), covers z 5 = false ∨ (z.catchType ≠ 0 ∧ ∃ nm : String, (Cond.classLink RL z.catchType nm).before args s = true ∧ va_Nc "java/lang/IndexOutOfBoundsException" nm s) := fun z hz9 => absurd hz9 List.not_mem_nil
      refine vx_catch (own := RL) (name := "java/lang/IndexOutOfBoundsException") S.2.2.2.1 [] { startPc := 0, endPc := 10, handlerPc := 13, catchType := 13 } [{ startPc := 0, endPc := 10, handlerPc := 17, catchType := 15 }] (by rw [htab]; rfl) hp (by decide) (by decide) (S.2.2.2.2 _ (bq_wi 605 (by decide +kernel) rfl)) (bq_castX hT 435 (by decide +kernel)) h1 h2 h3 ?_
      refine lv_astore (lv' := [(4, .ref q9), (0, .ref a0), (1, .int x1), (2, .int x2), (3, .ref a3)]) hx hb dL_leastOnPath_13 hl (by decide) rfl (fun ls hl => ?_)
      refine lv_iconst (v := 1) hx hb dL_leastOnPath_15 (by decide) ?_
      cases h
      refine vx_ret (W.widen (k := 1) (n := 6) (Nat.le_of_ble_eq_true rfl) (Nat.le_of_ble_eq_true rfl) ?_)
      exact bq_reti S hr hlocks hK hz dL_leastOnPath_16 hW
    replace h := bq_ifF hX0 h
    by_cases hX1 : X3 = "java/lang/IllegalArgumentException"
    · replace h := bq_ifT hX1 h
      subst hX1
      refine bq_callVXk S hK hz hT mv_L_49 (ct_X6_leastOnPath hfl hv) (kc_X6_leastOnPath hv) dL_leastOnPath_5 (rest := [.int (0 : Int32), .ref a3]) rfl rfl hl.1 (Nat.le_of_ble_eq_true rfl) ⟨Nat.le_of_ble_eq_true rfl, Nat.le_of_ble_eq_true rfl⟩ ⟨Nat.le_of_ble_eq_true rfl, Nat.le_of_ble_eq_true rfl⟩ hW (fun H locs q9 ce hW h1 h2 h3 => ?_)
      have hp : ∀ z ∈ ([{ startPc := 0, endPc := 10, handlerPc := 13, catchType := 13 }] : List ExceptionTableEntry), covers z 5 = false ∨ (z.catchType ≠ 0 ∧ ∃ nm : String, (Cond.classLink RL z.catchType nm).before args s = true ∧ va_Nc "java/lang/IllegalArgumentException" nm s) := fun z hz9 => by
        simp only [List.mem_cons, List.not_mem_nil, or_false] at hz9
        rcases hz9 with rfl
        · exact Or.inr ⟨by decide, "java/lang/IndexOutOfBoundsException", S.2.2.2.2 _ (bq_wi 605 (by decide +kernel) rfl), hN.1⟩
      refine vx_catch (own := RL) (name := "java/lang/IllegalArgumentException") S.2.2.2.1 [{ startPc := 0, endPc := 10, handlerPc := 13, catchType := 13 }] { startPc := 0, endPc := 10, handlerPc := 17, catchType := 15 } [] (by rw [htab]; rfl) hp (by decide) (by decide) (S.2.2.2.2 _ (bq_wi 606 (by decide +kernel) rfl)) (bq_castX hT 509 (by decide +kernel)) h1 h2 h3 ?_
      refine lv_astore (lv' := [(4, .ref q9), (0, .ref a0), (1, .int x1), (2, .int x2), (3, .ref a3)]) hx hb dL_leastOnPath_17 hl (by decide) rfl (fun ls hl => ?_)
      refine lv_iconst (v := 2) hx hb dL_leastOnPath_19 (by decide) ?_
      cases h
      refine vx_ret (W.widen (k := 1) (n := 6) (Nat.le_of_ble_eq_true rfl) (Nat.le_of_ble_eq_true rfl) ?_)
      exact bq_reti S hr hlocks hK hz dL_leastOnPath_20 hW
    replace h := bq_ifF hX1 h
    cases h
  replace h := bq_elimL h
  refine bq_callV S hK hz mv_L_49 (cr_X6_leastOnPath hv) (kc_X6_leastOnPath hv) dL_leastOnPath_5 [.int v2, .int (0 : Int32), .ref a3] (rest := [.int (0 : Int32), .ref a3]) rfl rfl rfl hl.1 (Nat.le_of_ble_eq_true rfl) ⟨Nat.le_of_ble_eq_true rfl, Nat.le_of_ble_eq_true rfl⟩ ⟨Nat.zero_le _, Nat.zero_le _⟩ hW (fun H locs hW => ?_)
  refine lv_i2l (v := Int32.toInt64 v2) hx hb dL_leastOnPath_8 rfl ?_
  obtain ⟨E4, hv, h⟩ := bq_bind h
  refine bq_last S hK dL_leastOnPath_9 hv hW (fun H locs hW => ?_)
  refine lv_goto (tgt := 21) hx hb dL_leastOnPath_10 (by decide) ?_
  refine lv_iconst (v := 0) hx hb dL_leastOnPath_21 (by decide) ?_
  cases h
  refine vx_ret (W.widen (k := 1) (n := 6) (Nat.le_of_ble_eq_true rfl) (Nat.le_of_ble_eq_true rfl) ?_)
  exact bq_reti S hr hlocks hK hz dL_leastOnPath_22 hW

set_option maxHeartbeats 4000000 in
set_option maxRecDepth 100000 in
theorem cl_L_nearestOnPath {l : Launch} (hfl : l.stackTraces = false) {g : bq_G} {L : List Nat} {z : Nat} {E : bq_E} {a0 : Nat} {x1 : Int32} {x2 : Int32} {a3 : Nat} {R : (Int32 × bq_E)} (h : tw_L_nearestOnPath E a0 x1 x2 a3 = some R) : bq_ML l yL_nearestOnPath cL_nearestOnPath 5 (some .int) [(0, 10, 13, 13), (0, 10, 17, 15)] 10 176 [.ref a0, .int x1, .int x2, .ref a3] g L E z (some (.int R.1)) R.2 := by
  unfold tw_L_nearestOnPath at h
  refine bq_enterL (by decide) (Nat.le_of_ble_eq_true rfl) ?_
  intro p e s m args below meth c S htab hr hlocks hK hz hT hN hW ls hl
  have S : CallFix p m c cL_nearestOnPath 5 s args bq_WA RL := S
  have hx := S.1
  have hb := S.2.1
  have hl : lv_has ls 5 [(0, .ref a0), (1, .int x1), (2, .int x2), (3, .ref a3)] := hl
  refine lv_aload_n hx hb dL_nearestOnPath_0 rfl (lv_at hl 3 rfl) ?_
  refine lv_iconst (v := 0) hx hb dL_nearestOnPath_1 (by decide) ?_
  refine lv_aload_n hx hb dL_nearestOnPath_2 rfl (lv_at hl 0 rfl) ?_
  refine lv_iload_n hx hb dL_nearestOnPath_3 rfl (lv_at hl 1 rfl) ?_
  refine lv_iload_n hx hb dL_nearestOnPath_4 rfl (lv_at hl 2 rfl) ?_
  obtain ⟨v1, hv, h⟩ := bq_bind h
  rcases hq : v1.1 with v2 | X3
  all_goals rw [hq] at h
  all_goals replace hv := bq_pairE hq hv
  rotate_left
  · replace h := bq_elimR h
    by_cases hX0 : X3 = "java/lang/IndexOutOfBoundsException"
    · replace h := bq_ifT hX0 h
      subst hX0
      refine bq_callVXk S hK hz hT mv_L_52 (ct_X6_nearestOnPath hfl hv) (kc_X6_nearestOnPath hv) dL_nearestOnPath_5 (rest := [.int (0 : Int32), .ref a3]) rfl rfl hl.1 (Nat.le_of_ble_eq_true rfl) ⟨Nat.le_of_ble_eq_true rfl, Nat.le_of_ble_eq_true rfl⟩ ⟨Nat.le_of_ble_eq_true rfl, Nat.le_of_ble_eq_true rfl⟩ hW (fun H locs q9 ce hW h1 h2 h3 => ?_)
      have hp : ∀ z ∈ ([] : List ExceptionTableEntry), covers z 5 = false ∨ (z.catchType ≠ 0 ∧ ∃ nm : String, (Cond.classLink RL z.catchType nm).before args s = true ∧ va_Nc "java/lang/IndexOutOfBoundsException" nm s) := fun z hz9 => absurd hz9 List.not_mem_nil
      refine vx_catch (own := RL) (name := "java/lang/IndexOutOfBoundsException") S.2.2.2.1 [] { startPc := 0, endPc := 10, handlerPc := 13, catchType := 13 } [{ startPc := 0, endPc := 10, handlerPc := 17, catchType := 15 }] (by rw [htab]; rfl) hp (by decide) (by decide) (S.2.2.2.2 _ (bq_wi 605 (by decide +kernel) rfl)) (bq_castX hT 435 (by decide +kernel)) h1 h2 h3 ?_
      refine lv_astore (lv' := [(4, .ref q9), (0, .ref a0), (1, .int x1), (2, .int x2), (3, .ref a3)]) hx hb dL_nearestOnPath_13 hl (by decide) rfl (fun ls hl => ?_)
      refine lv_iconst (v := 1) hx hb dL_nearestOnPath_15 (by decide) ?_
      cases h
      refine vx_ret (W.widen (k := 1) (n := 6) (Nat.le_of_ble_eq_true rfl) (Nat.le_of_ble_eq_true rfl) ?_)
      exact bq_reti S hr hlocks hK hz dL_nearestOnPath_16 hW
    replace h := bq_ifF hX0 h
    by_cases hX1 : X3 = "java/lang/IllegalArgumentException"
    · replace h := bq_ifT hX1 h
      subst hX1
      refine bq_callVXk S hK hz hT mv_L_52 (ct_X6_nearestOnPath hfl hv) (kc_X6_nearestOnPath hv) dL_nearestOnPath_5 (rest := [.int (0 : Int32), .ref a3]) rfl rfl hl.1 (Nat.le_of_ble_eq_true rfl) ⟨Nat.le_of_ble_eq_true rfl, Nat.le_of_ble_eq_true rfl⟩ ⟨Nat.le_of_ble_eq_true rfl, Nat.le_of_ble_eq_true rfl⟩ hW (fun H locs q9 ce hW h1 h2 h3 => ?_)
      have hp : ∀ z ∈ ([{ startPc := 0, endPc := 10, handlerPc := 13, catchType := 13 }] : List ExceptionTableEntry), covers z 5 = false ∨ (z.catchType ≠ 0 ∧ ∃ nm : String, (Cond.classLink RL z.catchType nm).before args s = true ∧ va_Nc "java/lang/IllegalArgumentException" nm s) := fun z hz9 => by
        simp only [List.mem_cons, List.not_mem_nil, or_false] at hz9
        rcases hz9 with rfl
        · exact Or.inr ⟨by decide, "java/lang/IndexOutOfBoundsException", S.2.2.2.2 _ (bq_wi 605 (by decide +kernel) rfl), hN.1⟩
      refine vx_catch (own := RL) (name := "java/lang/IllegalArgumentException") S.2.2.2.1 [{ startPc := 0, endPc := 10, handlerPc := 13, catchType := 13 }] { startPc := 0, endPc := 10, handlerPc := 17, catchType := 15 } [] (by rw [htab]; rfl) hp (by decide) (by decide) (S.2.2.2.2 _ (bq_wi 606 (by decide +kernel) rfl)) (bq_castX hT 509 (by decide +kernel)) h1 h2 h3 ?_
      refine lv_astore (lv' := [(4, .ref q9), (0, .ref a0), (1, .int x1), (2, .int x2), (3, .ref a3)]) hx hb dL_nearestOnPath_17 hl (by decide) rfl (fun ls hl => ?_)
      refine lv_iconst (v := 2) hx hb dL_nearestOnPath_19 (by decide) ?_
      cases h
      refine vx_ret (W.widen (k := 1) (n := 6) (Nat.le_of_ble_eq_true rfl) (Nat.le_of_ble_eq_true rfl) ?_)
      exact bq_reti S hr hlocks hK hz dL_nearestOnPath_20 hW
    replace h := bq_ifF hX1 h
    cases h
  replace h := bq_elimL h
  refine bq_callV S hK hz mv_L_52 (cr_X6_nearestOnPath hv) (kc_X6_nearestOnPath hv) dL_nearestOnPath_5 [.int v2, .int (0 : Int32), .ref a3] (rest := [.int (0 : Int32), .ref a3]) rfl rfl rfl hl.1 (Nat.le_of_ble_eq_true rfl) ⟨Nat.le_of_ble_eq_true rfl, Nat.le_of_ble_eq_true rfl⟩ ⟨Nat.zero_le _, Nat.zero_le _⟩ hW (fun H locs hW => ?_)
  refine lv_i2l (v := Int32.toInt64 v2) hx hb dL_nearestOnPath_8 rfl ?_
  obtain ⟨E4, hv, h⟩ := bq_bind h
  refine bq_last S hK dL_nearestOnPath_9 hv hW (fun H locs hW => ?_)
  refine lv_goto (tgt := 21) hx hb dL_nearestOnPath_10 (by decide) ?_
  refine lv_iconst (v := 0) hx hb dL_nearestOnPath_21 (by decide) ?_
  cases h
  refine vx_ret (W.widen (k := 1) (n := 6) (Nat.le_of_ble_eq_true rfl) (Nat.le_of_ble_eq_true rfl) ?_)
  exact bq_reti S hr hlocks hK hz dL_nearestOnPath_22 hW

set_option maxHeartbeats 4000000 in
set_option maxRecDepth 100000 in
theorem cl_L_worst {l : Launch} (hfl : l.stackTraces = false) {g : bq_G} {L : List Nat} {z : Nat} {E : bq_E} {a0 : Nat} {x1 : Int32} {a2 : Nat} {R : (Int32 × bq_E)} (h : tw_L_worst E a0 x1 a2 = some R) : bq_ML l yL_worst cL_worst 4 (some .int) [(0, 9, 12, 13)] 8 150 [.ref a0, .int x1, .ref a2] g L E z (some (.int R.1)) R.2 := by
  unfold tw_L_worst at h
  refine bq_enterL (by decide) (Nat.le_of_ble_eq_true rfl) ?_
  intro p e s m args below meth c S htab hr hlocks hK hz hT hN hW ls hl
  have S : CallFix p m c cL_worst 4 s args bq_WA RL := S
  have hx := S.1
  have hb := S.2.1
  have hl : lv_has ls 4 [(0, .ref a0), (1, .int x1), (2, .ref a2)] := hl
  refine lv_aload_n hx hb dL_worst_0 rfl (lv_at hl 2 rfl) ?_
  refine lv_iconst (v := 0) hx hb dL_worst_1 (by decide) ?_
  refine lv_aload_n hx hb dL_worst_2 rfl (lv_at hl 0 rfl) ?_
  refine lv_iload_n hx hb dL_worst_3 rfl (lv_at hl 1 rfl) ?_
  obtain ⟨v1, hv, h⟩ := bq_bind h
  rcases hq : v1.1 with v2 | X3
  all_goals rw [hq] at h
  all_goals replace hv := bq_pairE hq hv
  rotate_left
  · replace h := bq_elimR h
    by_cases hX0 : X3 = "java/lang/IndexOutOfBoundsException"
    · replace h := bq_ifT hX0 h
      subst hX0
      refine bq_callVXk S hK hz hT mv_L_55 (ct_X6_worst hfl hv) (kc_X6_worst hv) dL_worst_4 (rest := [.int (0 : Int32), .ref a2]) rfl rfl hl.1 (Nat.le_of_ble_eq_true rfl) ⟨Nat.le_of_ble_eq_true rfl, Nat.le_of_ble_eq_true rfl⟩ ⟨Nat.le_of_ble_eq_true rfl, Nat.le_of_ble_eq_true rfl⟩ hW (fun H locs q9 ce hW h1 h2 h3 => ?_)
      have hp : ∀ z ∈ ([] : List ExceptionTableEntry), covers z 4 = false ∨ (z.catchType ≠ 0 ∧ ∃ nm : String, (Cond.classLink RL z.catchType nm).before args s = true ∧ va_Nc "java/lang/IndexOutOfBoundsException" nm s) := fun z hz9 => absurd hz9 List.not_mem_nil
      refine vx_catch (own := RL) (name := "java/lang/IndexOutOfBoundsException") S.2.2.2.1 [] { startPc := 0, endPc := 9, handlerPc := 12, catchType := 13 } [] (by rw [htab]; rfl) hp (by decide) (by decide) (S.2.2.2.2 _ (bq_wi 605 (by decide +kernel) rfl)) (bq_castX hT 435 (by decide +kernel)) h1 h2 h3 ?_
      refine lv_astore_n (lv' := [(3, .ref q9), (0, .ref a0), (1, .int x1), (2, .ref a2)]) hx hb dL_worst_12 rfl hl (by decide) rfl (fun ls hl => ?_)
      refine lv_iconst (v := 1) hx hb dL_worst_13 (by decide) ?_
      cases h
      refine vx_ret (W.widen (k := 1) (n := 6) (Nat.le_of_ble_eq_true rfl) (Nat.le_of_ble_eq_true rfl) ?_)
      exact bq_reti S hr hlocks hK hz dL_worst_14 hW
    replace h := bq_ifF hX0 h
    cases h
  replace h := bq_elimL h
  refine bq_callV S hK hz mv_L_55 (cr_X6_worst hv) (kc_X6_worst hv) dL_worst_4 [.int v2, .int (0 : Int32), .ref a2] (rest := [.int (0 : Int32), .ref a2]) rfl rfl rfl hl.1 (Nat.le_of_ble_eq_true rfl) ⟨Nat.le_of_ble_eq_true rfl, Nat.le_of_ble_eq_true rfl⟩ ⟨Nat.zero_le _, Nat.zero_le _⟩ hW (fun H locs hW => ?_)
  refine lv_i2l (v := Int32.toInt64 v2) hx hb dL_worst_7 rfl ?_
  obtain ⟨E4, hv, h⟩ := bq_bind h
  refine bq_last S hK dL_worst_8 hv hW (fun H locs hW => ?_)
  refine lv_goto (tgt := 15) hx hb dL_worst_9 (by decide) ?_
  refine lv_iconst (v := 0) hx hb dL_worst_15 (by decide) ?_
  cases h
  refine vx_ret (W.widen (k := 1) (n := 6) (Nat.le_of_ble_eq_true rfl) (Nat.le_of_ble_eq_true rfl) ?_)
  exact bq_reti S hr hlocks hK hz dL_worst_16 hW

set_option maxHeartbeats 4000000 in
set_option maxRecDepth 100000 in
theorem cl_L_node {l : Launch} (hfl : l.stackTraces = false) {g : bq_G} {L : List Nat} {z : Nat} {E : bq_E} {a0 : Nat} {x1 : Int32} {x2 : Int32} {a3 : Nat} {R : (Int32 × bq_E)} (h : tw_L_node E a0 x1 x2 a3 = some R) : bq_ML l yL_node cL_node 5 (some .int) [(0, 10, 13, 13), (0, 10, 17, 15)] 8 134 [.ref a0, .int x1, .int x2, .ref a3] g L E z (some (.int R.1)) R.2 := by
  unfold tw_L_node at h
  refine bq_enterL (by decide) (Nat.le_of_ble_eq_true rfl) ?_
  intro p e s m args below meth c S htab hr hlocks hK hz hT hN hW ls hl
  have S : CallFix p m c cL_node 5 s args bq_WA RL := S
  have hx := S.1
  have hb := S.2.1
  have hl : lv_has ls 5 [(0, .ref a0), (1, .int x1), (2, .int x2), (3, .ref a3)] := hl
  refine lv_aload_n hx hb dL_node_0 rfl (lv_at hl 3 rfl) ?_
  refine lv_iconst (v := 0) hx hb dL_node_1 (by decide) ?_
  refine lv_aload_n hx hb dL_node_2 rfl (lv_at hl 0 rfl) ?_
  refine lv_iload_n hx hb dL_node_3 rfl (lv_at hl 1 rfl) ?_
  refine lv_iload_n hx hb dL_node_4 rfl (lv_at hl 2 rfl) ?_
  obtain ⟨v1, hv, h⟩ := bq_bind h
  obtain v2 | X3 := v1
  rotate_left
  · replace h := bq_elimR h
    by_cases hX0 : X3 = "java/lang/IndexOutOfBoundsException"
    · replace h := bq_ifT hX0 h
      subst hX0
      refine bq_callVXk S hK hz hT mv_L_58 (ct_X6_node hfl hv) (kc_X6_node hv) dL_node_5 (rest := [.int (0 : Int32), .ref a3]) rfl rfl hl.1 (Nat.le_of_ble_eq_true rfl) ⟨Nat.le_of_ble_eq_true rfl, Nat.le_of_ble_eq_true rfl⟩ ⟨Nat.le_of_ble_eq_true rfl, Nat.le_of_ble_eq_true rfl⟩ hW (fun H locs q9 ce hW h1 h2 h3 => ?_)
      have hp : ∀ z ∈ ([] : List ExceptionTableEntry), covers z 5 = false ∨ (z.catchType ≠ 0 ∧ ∃ nm : String, (Cond.classLink RL z.catchType nm).before args s = true ∧ va_Nc "java/lang/IndexOutOfBoundsException" nm s) := fun z hz9 => absurd hz9 List.not_mem_nil
      refine vx_catch (own := RL) (name := "java/lang/IndexOutOfBoundsException") S.2.2.2.1 [] { startPc := 0, endPc := 10, handlerPc := 13, catchType := 13 } [{ startPc := 0, endPc := 10, handlerPc := 17, catchType := 15 }] (by rw [htab]; rfl) hp (by decide) (by decide) (S.2.2.2.2 _ (bq_wi 605 (by decide +kernel) rfl)) (bq_castX hT 435 (by decide +kernel)) h1 h2 h3 ?_
      refine lv_astore (lv' := [(4, .ref q9), (0, .ref a0), (1, .int x1), (2, .int x2), (3, .ref a3)]) hx hb dL_node_13 hl (by decide) rfl (fun ls hl => ?_)
      refine lv_iconst (v := 1) hx hb dL_node_15 (by decide) ?_
      cases h
      refine vx_ret (W.widen (k := 1) (n := 6) (Nat.le_of_ble_eq_true rfl) (Nat.le_of_ble_eq_true rfl) ?_)
      exact bq_reti S hr hlocks hK hz dL_node_16 hW
    replace h := bq_ifF hX0 h
    by_cases hX1 : X3 = "java/lang/IllegalArgumentException"
    · replace h := bq_ifT hX1 h
      subst hX1
      refine bq_callVXk S hK hz hT mv_L_58 (ct_X6_node hfl hv) (kc_X6_node hv) dL_node_5 (rest := [.int (0 : Int32), .ref a3]) rfl rfl hl.1 (Nat.le_of_ble_eq_true rfl) ⟨Nat.le_of_ble_eq_true rfl, Nat.le_of_ble_eq_true rfl⟩ ⟨Nat.le_of_ble_eq_true rfl, Nat.le_of_ble_eq_true rfl⟩ hW (fun H locs q9 ce hW h1 h2 h3 => ?_)
      have hp : ∀ z ∈ ([{ startPc := 0, endPc := 10, handlerPc := 13, catchType := 13 }] : List ExceptionTableEntry), covers z 5 = false ∨ (z.catchType ≠ 0 ∧ ∃ nm : String, (Cond.classLink RL z.catchType nm).before args s = true ∧ va_Nc "java/lang/IllegalArgumentException" nm s) := fun z hz9 => by
        simp only [List.mem_cons, List.not_mem_nil, or_false] at hz9
        rcases hz9 with rfl
        · exact Or.inr ⟨by decide, "java/lang/IndexOutOfBoundsException", S.2.2.2.2 _ (bq_wi 605 (by decide +kernel) rfl), hN.1⟩
      refine vx_catch (own := RL) (name := "java/lang/IllegalArgumentException") S.2.2.2.1 [{ startPc := 0, endPc := 10, handlerPc := 13, catchType := 13 }] { startPc := 0, endPc := 10, handlerPc := 17, catchType := 15 } [] (by rw [htab]; rfl) hp (by decide) (by decide) (S.2.2.2.2 _ (bq_wi 606 (by decide +kernel) rfl)) (bq_castX hT 509 (by decide +kernel)) h1 h2 h3 ?_
      refine lv_astore (lv' := [(4, .ref q9), (0, .ref a0), (1, .int x1), (2, .int x2), (3, .ref a3)]) hx hb dL_node_17 hl (by decide) rfl (fun ls hl => ?_)
      refine lv_iconst (v := 2) hx hb dL_node_19 (by decide) ?_
      cases h
      refine vx_ret (W.widen (k := 1) (n := 6) (Nat.le_of_ble_eq_true rfl) (Nat.le_of_ble_eq_true rfl) ?_)
      exact bq_reti S hr hlocks hK hz dL_node_20 hW
    replace h := bq_ifF hX1 h
    cases h
  replace h := bq_elimL h
  refine bq_callV S hK hz mv_L_58 (cr_X6_node hv) (kc_X6_node hv) dL_node_5 [.int v2, .int (0 : Int32), .ref a3] (rest := [.int (0 : Int32), .ref a3]) rfl rfl rfl hl.1 (Nat.le_of_ble_eq_true rfl) ⟨Nat.le_of_ble_eq_true rfl, Nat.le_of_ble_eq_true rfl⟩ ⟨Nat.zero_le _, Nat.zero_le _⟩ hW (fun H locs hW => ?_)
  refine lv_i2l (v := Int32.toInt64 v2) hx hb dL_node_8 rfl ?_
  obtain ⟨E4, hv, h⟩ := bq_bind h
  refine bq_last S hK dL_node_9 hv hW (fun H locs hW => ?_)
  refine lv_goto (tgt := 21) hx hb dL_node_10 (by decide) ?_
  refine lv_iconst (v := 0) hx hb dL_node_21 (by decide) ?_
  cases h
  refine vx_ret (W.widen (k := 1) (n := 6) (Nat.le_of_ble_eq_true rfl) (Nat.le_of_ble_eq_true rfl) ?_)
  exact bq_reti S hr hlocks hK hz dL_node_22 hW

set_option maxHeartbeats 4000000 in
set_option maxRecDepth 100000 in
theorem cl_L_key {l : Launch} (hfl : l.stackTraces = false) {g : bq_G} {L : List Nat} {z : Nat} {E : bq_E} {a0 : Nat} {x1 : Int32} {x2 : Int32} {a3 : Nat} {R : (Int32 × bq_E)} (h : tw_L_key E a0 x1 x2 a3 = some R) : bq_ML l yL_key cL_key 5 (some .int) [(0, 10, 13, 13), (0, 10, 17, 15)] 8 133 [.ref a0, .int x1, .int x2, .ref a3] g L E z (some (.int R.1)) R.2 := by
  unfold tw_L_key at h
  refine bq_enterL (by decide) (Nat.le_of_ble_eq_true rfl) ?_
  intro p e s m args below meth c S htab hr hlocks hK hz hT hN hW ls hl
  have S : CallFix p m c cL_key 5 s args bq_WA RL := S
  have hx := S.1
  have hb := S.2.1
  have hl : lv_has ls 5 [(0, .ref a0), (1, .int x1), (2, .int x2), (3, .ref a3)] := hl
  refine lv_aload_n hx hb dL_key_0 rfl (lv_at hl 3 rfl) ?_
  refine lv_iconst (v := 0) hx hb dL_key_1 (by decide) ?_
  refine lv_aload_n hx hb dL_key_2 rfl (lv_at hl 0 rfl) ?_
  refine lv_iload_n hx hb dL_key_3 rfl (lv_at hl 1 rfl) ?_
  refine lv_iload_n hx hb dL_key_4 rfl (lv_at hl 2 rfl) ?_
  obtain ⟨v1, hv, h⟩ := bq_bind h
  obtain v2 | X3 := v1
  rotate_left
  · replace h := bq_elimR h
    by_cases hX0 : X3 = "java/lang/IndexOutOfBoundsException"
    · replace h := bq_ifT hX0 h
      subst hX0
      refine bq_callVXk S hK hz hT mv_L_61 (ct_X6_key hfl hv) (kc_X6_key hv) dL_key_5 (rest := [.int (0 : Int32), .ref a3]) rfl rfl hl.1 (Nat.le_of_ble_eq_true rfl) ⟨Nat.le_of_ble_eq_true rfl, Nat.le_of_ble_eq_true rfl⟩ ⟨Nat.le_of_ble_eq_true rfl, Nat.le_of_ble_eq_true rfl⟩ hW (fun H locs q9 ce hW h1 h2 h3 => ?_)
      have hp : ∀ z ∈ ([] : List ExceptionTableEntry), covers z 5 = false ∨ (z.catchType ≠ 0 ∧ ∃ nm : String, (Cond.classLink RL z.catchType nm).before args s = true ∧ va_Nc "java/lang/IndexOutOfBoundsException" nm s) := fun z hz9 => absurd hz9 List.not_mem_nil
      refine vx_catch (own := RL) (name := "java/lang/IndexOutOfBoundsException") S.2.2.2.1 [] { startPc := 0, endPc := 10, handlerPc := 13, catchType := 13 } [{ startPc := 0, endPc := 10, handlerPc := 17, catchType := 15 }] (by rw [htab]; rfl) hp (by decide) (by decide) (S.2.2.2.2 _ (bq_wi 605 (by decide +kernel) rfl)) (bq_castX hT 435 (by decide +kernel)) h1 h2 h3 ?_
      refine lv_astore (lv' := [(4, .ref q9), (0, .ref a0), (1, .int x1), (2, .int x2), (3, .ref a3)]) hx hb dL_key_13 hl (by decide) rfl (fun ls hl => ?_)
      refine lv_iconst (v := 1) hx hb dL_key_15 (by decide) ?_
      cases h
      refine vx_ret (W.widen (k := 1) (n := 6) (Nat.le_of_ble_eq_true rfl) (Nat.le_of_ble_eq_true rfl) ?_)
      exact bq_reti S hr hlocks hK hz dL_key_16 hW
    replace h := bq_ifF hX0 h
    by_cases hX1 : X3 = "java/lang/IllegalArgumentException"
    · replace h := bq_ifT hX1 h
      subst hX1
      refine bq_callVXk S hK hz hT mv_L_61 (ct_X6_key hfl hv) (kc_X6_key hv) dL_key_5 (rest := [.int (0 : Int32), .ref a3]) rfl rfl hl.1 (Nat.le_of_ble_eq_true rfl) ⟨Nat.le_of_ble_eq_true rfl, Nat.le_of_ble_eq_true rfl⟩ ⟨Nat.le_of_ble_eq_true rfl, Nat.le_of_ble_eq_true rfl⟩ hW (fun H locs q9 ce hW h1 h2 h3 => ?_)
      have hp : ∀ z ∈ ([{ startPc := 0, endPc := 10, handlerPc := 13, catchType := 13 }] : List ExceptionTableEntry), covers z 5 = false ∨ (z.catchType ≠ 0 ∧ ∃ nm : String, (Cond.classLink RL z.catchType nm).before args s = true ∧ va_Nc "java/lang/IllegalArgumentException" nm s) := fun z hz9 => by
        simp only [List.mem_cons, List.not_mem_nil, or_false] at hz9
        rcases hz9 with rfl
        · exact Or.inr ⟨by decide, "java/lang/IndexOutOfBoundsException", S.2.2.2.2 _ (bq_wi 605 (by decide +kernel) rfl), hN.1⟩
      refine vx_catch (own := RL) (name := "java/lang/IllegalArgumentException") S.2.2.2.1 [{ startPc := 0, endPc := 10, handlerPc := 13, catchType := 13 }] { startPc := 0, endPc := 10, handlerPc := 17, catchType := 15 } [] (by rw [htab]; rfl) hp (by decide) (by decide) (S.2.2.2.2 _ (bq_wi 606 (by decide +kernel) rfl)) (bq_castX hT 509 (by decide +kernel)) h1 h2 h3 ?_
      refine lv_astore (lv' := [(4, .ref q9), (0, .ref a0), (1, .int x1), (2, .int x2), (3, .ref a3)]) hx hb dL_key_17 hl (by decide) rfl (fun ls hl => ?_)
      refine lv_iconst (v := 2) hx hb dL_key_19 (by decide) ?_
      cases h
      refine vx_ret (W.widen (k := 1) (n := 6) (Nat.le_of_ble_eq_true rfl) (Nat.le_of_ble_eq_true rfl) ?_)
      exact bq_reti S hr hlocks hK hz dL_key_20 hW
    replace h := bq_ifF hX1 h
    cases h
  replace h := bq_elimL h
  refine bq_callV S hK hz mv_L_61 (cr_X6_key hv) (kc_X6_key hv) dL_key_5 [.int v2, .int (0 : Int32), .ref a3] (rest := [.int (0 : Int32), .ref a3]) rfl rfl rfl hl.1 (Nat.le_of_ble_eq_true rfl) ⟨Nat.le_of_ble_eq_true rfl, Nat.le_of_ble_eq_true rfl⟩ ⟨Nat.zero_le _, Nat.zero_le _⟩ hW (fun H locs hW => ?_)
  refine lv_i2l (v := Int32.toInt64 v2) hx hb dL_key_8 rfl ?_
  obtain ⟨E4, hv, h⟩ := bq_bind h
  refine bq_last S hK dL_key_9 hv hW (fun H locs hW => ?_)
  refine lv_goto (tgt := 21) hx hb dL_key_10 (by decide) ?_
  refine lv_iconst (v := 0) hx hb dL_key_21 (by decide) ?_
  cases h
  refine vx_ret (W.widen (k := 1) (n := 6) (Nat.le_of_ble_eq_true rfl) (Nat.le_of_ble_eq_true rfl) ?_)
  exact bq_reti S hr hlocks hK hz dL_key_22 hW

set_option maxHeartbeats 4000000 in
set_option maxRecDepth 100000 in
theorem cl_L_baseKey {l : Launch} (hfl : l.stackTraces = false) {g : bq_G} {L : List Nat} {z : Nat} {E : bq_E} {a0 : Nat} {x1 : Int32} {x2 : Int32} {a3 : Nat} {R : (Int32 × bq_E)} (h : tw_L_baseKey E a0 x1 x2 a3 = some R) : bq_ML l yL_baseKey cL_baseKey 5 (some .int) [(0, 10, 13, 13), (0, 10, 17, 15)] 8 135 [.ref a0, .int x1, .int x2, .ref a3] g L E z (some (.int R.1)) R.2 := by
  unfold tw_L_baseKey at h
  refine bq_enterL (by decide) (Nat.le_of_ble_eq_true rfl) ?_
  intro p e s m args below meth c S htab hr hlocks hK hz hT hN hW ls hl
  have S : CallFix p m c cL_baseKey 5 s args bq_WA RL := S
  have hx := S.1
  have hb := S.2.1
  have hl : lv_has ls 5 [(0, .ref a0), (1, .int x1), (2, .int x2), (3, .ref a3)] := hl
  refine lv_aload_n hx hb dL_baseKey_0 rfl (lv_at hl 3 rfl) ?_
  refine lv_iconst (v := 0) hx hb dL_baseKey_1 (by decide) ?_
  refine lv_aload_n hx hb dL_baseKey_2 rfl (lv_at hl 0 rfl) ?_
  refine lv_iload_n hx hb dL_baseKey_3 rfl (lv_at hl 1 rfl) ?_
  refine lv_iload_n hx hb dL_baseKey_4 rfl (lv_at hl 2 rfl) ?_
  obtain ⟨v1, hv, h⟩ := bq_bind h
  obtain v2 | X3 := v1
  rotate_left
  · replace h := bq_elimR h
    by_cases hX0 : X3 = "java/lang/IndexOutOfBoundsException"
    · replace h := bq_ifT hX0 h
      subst hX0
      refine bq_callVXk S hK hz hT mv_L_64 (ct_X6_baseKey hfl hv) (kc_X6_baseKey hv) dL_baseKey_5 (rest := [.int (0 : Int32), .ref a3]) rfl rfl hl.1 (Nat.le_of_ble_eq_true rfl) ⟨Nat.le_of_ble_eq_true rfl, Nat.le_of_ble_eq_true rfl⟩ ⟨Nat.le_of_ble_eq_true rfl, Nat.le_of_ble_eq_true rfl⟩ hW (fun H locs q9 ce hW h1 h2 h3 => ?_)
      have hp : ∀ z ∈ ([] : List ExceptionTableEntry), covers z 5 = false ∨ (z.catchType ≠ 0 ∧ ∃ nm : String, (Cond.classLink RL z.catchType nm).before args s = true ∧ va_Nc "java/lang/IndexOutOfBoundsException" nm s) := fun z hz9 => absurd hz9 List.not_mem_nil
      refine vx_catch (own := RL) (name := "java/lang/IndexOutOfBoundsException") S.2.2.2.1 [] { startPc := 0, endPc := 10, handlerPc := 13, catchType := 13 } [{ startPc := 0, endPc := 10, handlerPc := 17, catchType := 15 }] (by rw [htab]; rfl) hp (by decide) (by decide) (S.2.2.2.2 _ (bq_wi 605 (by decide +kernel) rfl)) (bq_castX hT 435 (by decide +kernel)) h1 h2 h3 ?_
      refine lv_astore (lv' := [(4, .ref q9), (0, .ref a0), (1, .int x1), (2, .int x2), (3, .ref a3)]) hx hb dL_baseKey_13 hl (by decide) rfl (fun ls hl => ?_)
      refine lv_iconst (v := 1) hx hb dL_baseKey_15 (by decide) ?_
      cases h
      refine vx_ret (W.widen (k := 1) (n := 6) (Nat.le_of_ble_eq_true rfl) (Nat.le_of_ble_eq_true rfl) ?_)
      exact bq_reti S hr hlocks hK hz dL_baseKey_16 hW
    replace h := bq_ifF hX0 h
    by_cases hX1 : X3 = "java/lang/IllegalArgumentException"
    · replace h := bq_ifT hX1 h
      subst hX1
      refine bq_callVXk S hK hz hT mv_L_64 (ct_X6_baseKey hfl hv) (kc_X6_baseKey hv) dL_baseKey_5 (rest := [.int (0 : Int32), .ref a3]) rfl rfl hl.1 (Nat.le_of_ble_eq_true rfl) ⟨Nat.le_of_ble_eq_true rfl, Nat.le_of_ble_eq_true rfl⟩ ⟨Nat.le_of_ble_eq_true rfl, Nat.le_of_ble_eq_true rfl⟩ hW (fun H locs q9 ce hW h1 h2 h3 => ?_)
      have hp : ∀ z ∈ ([{ startPc := 0, endPc := 10, handlerPc := 13, catchType := 13 }] : List ExceptionTableEntry), covers z 5 = false ∨ (z.catchType ≠ 0 ∧ ∃ nm : String, (Cond.classLink RL z.catchType nm).before args s = true ∧ va_Nc "java/lang/IllegalArgumentException" nm s) := fun z hz9 => by
        simp only [List.mem_cons, List.not_mem_nil, or_false] at hz9
        rcases hz9 with rfl
        · exact Or.inr ⟨by decide, "java/lang/IndexOutOfBoundsException", S.2.2.2.2 _ (bq_wi 605 (by decide +kernel) rfl), hN.1⟩
      refine vx_catch (own := RL) (name := "java/lang/IllegalArgumentException") S.2.2.2.1 [{ startPc := 0, endPc := 10, handlerPc := 13, catchType := 13 }] { startPc := 0, endPc := 10, handlerPc := 17, catchType := 15 } [] (by rw [htab]; rfl) hp (by decide) (by decide) (S.2.2.2.2 _ (bq_wi 606 (by decide +kernel) rfl)) (bq_castX hT 509 (by decide +kernel)) h1 h2 h3 ?_
      refine lv_astore (lv' := [(4, .ref q9), (0, .ref a0), (1, .int x1), (2, .int x2), (3, .ref a3)]) hx hb dL_baseKey_17 hl (by decide) rfl (fun ls hl => ?_)
      refine lv_iconst (v := 2) hx hb dL_baseKey_19 (by decide) ?_
      cases h
      refine vx_ret (W.widen (k := 1) (n := 6) (Nat.le_of_ble_eq_true rfl) (Nat.le_of_ble_eq_true rfl) ?_)
      exact bq_reti S hr hlocks hK hz dL_baseKey_20 hW
    replace h := bq_ifF hX1 h
    cases h
  replace h := bq_elimL h
  refine bq_callV S hK hz mv_L_64 (cr_X6_baseKey hv) (kc_X6_baseKey hv) dL_baseKey_5 [.int v2, .int (0 : Int32), .ref a3] (rest := [.int (0 : Int32), .ref a3]) rfl rfl rfl hl.1 (Nat.le_of_ble_eq_true rfl) ⟨Nat.le_of_ble_eq_true rfl, Nat.le_of_ble_eq_true rfl⟩ ⟨Nat.zero_le _, Nat.zero_le _⟩ hW (fun H locs hW => ?_)
  refine lv_i2l (v := Int32.toInt64 v2) hx hb dL_baseKey_8 rfl ?_
  obtain ⟨E4, hv, h⟩ := bq_bind h
  refine bq_last S hK dL_baseKey_9 hv hW (fun H locs hW => ?_)
  refine lv_goto (tgt := 21) hx hb dL_baseKey_10 (by decide) ?_
  refine lv_iconst (v := 0) hx hb dL_baseKey_21 (by decide) ?_
  cases h
  refine vx_ret (W.widen (k := 1) (n := 6) (Nat.le_of_ble_eq_true rfl) (Nat.le_of_ble_eq_true rfl) ?_)
  exact bq_reti S hr hlocks hK hz dL_baseKey_22 hW

set_option maxHeartbeats 4000000 in
set_option maxRecDepth 100000 in
theorem cl_L_bufferKey {l : Launch} (hfl : l.stackTraces = false) {g : bq_G} {L : List Nat} {z : Nat} {E : bq_E} {a0 : Nat} {x1 : Int32} {x2 : Int32} {a3 : Nat} {R : (Int32 × bq_E)} (h : tw_L_bufferKey E a0 x1 x2 a3 = some R) : bq_ML l yL_bufferKey cL_bufferKey 5 (some .int) [(0, 10, 13, 13), (0, 10, 17, 15)] 8 133 [.ref a0, .int x1, .int x2, .ref a3] g L E z (some (.int R.1)) R.2 := by
  unfold tw_L_bufferKey at h
  refine bq_enterL (by decide) (Nat.le_of_ble_eq_true rfl) ?_
  intro p e s m args below meth c S htab hr hlocks hK hz hT hN hW ls hl
  have S : CallFix p m c cL_bufferKey 5 s args bq_WA RL := S
  have hx := S.1
  have hb := S.2.1
  have hl : lv_has ls 5 [(0, .ref a0), (1, .int x1), (2, .int x2), (3, .ref a3)] := hl
  refine lv_aload_n hx hb dL_bufferKey_0 rfl (lv_at hl 3 rfl) ?_
  refine lv_iconst (v := 0) hx hb dL_bufferKey_1 (by decide) ?_
  refine lv_aload_n hx hb dL_bufferKey_2 rfl (lv_at hl 0 rfl) ?_
  refine lv_iload_n hx hb dL_bufferKey_3 rfl (lv_at hl 1 rfl) ?_
  refine lv_iload_n hx hb dL_bufferKey_4 rfl (lv_at hl 2 rfl) ?_
  obtain ⟨v1, hv, h⟩ := bq_bind h
  obtain v2 | X3 := v1
  rotate_left
  · replace h := bq_elimR h
    by_cases hX0 : X3 = "java/lang/IndexOutOfBoundsException"
    · replace h := bq_ifT hX0 h
      subst hX0
      refine bq_callVXk S hK hz hT mv_L_67 (ct_X6_bufferKey hfl hv) (kc_X6_bufferKey hv) dL_bufferKey_5 (rest := [.int (0 : Int32), .ref a3]) rfl rfl hl.1 (Nat.le_of_ble_eq_true rfl) ⟨Nat.le_of_ble_eq_true rfl, Nat.le_of_ble_eq_true rfl⟩ ⟨Nat.le_of_ble_eq_true rfl, Nat.le_of_ble_eq_true rfl⟩ hW (fun H locs q9 ce hW h1 h2 h3 => ?_)
      have hp : ∀ z ∈ ([] : List ExceptionTableEntry), covers z 5 = false ∨ (z.catchType ≠ 0 ∧ ∃ nm : String, (Cond.classLink RL z.catchType nm).before args s = true ∧ va_Nc "java/lang/IndexOutOfBoundsException" nm s) := fun z hz9 => absurd hz9 List.not_mem_nil
      refine vx_catch (own := RL) (name := "java/lang/IndexOutOfBoundsException") S.2.2.2.1 [] { startPc := 0, endPc := 10, handlerPc := 13, catchType := 13 } [{ startPc := 0, endPc := 10, handlerPc := 17, catchType := 15 }] (by rw [htab]; rfl) hp (by decide) (by decide) (S.2.2.2.2 _ (bq_wi 605 (by decide +kernel) rfl)) (bq_castX hT 435 (by decide +kernel)) h1 h2 h3 ?_
      refine lv_astore (lv' := [(4, .ref q9), (0, .ref a0), (1, .int x1), (2, .int x2), (3, .ref a3)]) hx hb dL_bufferKey_13 hl (by decide) rfl (fun ls hl => ?_)
      refine lv_iconst (v := 1) hx hb dL_bufferKey_15 (by decide) ?_
      cases h
      refine vx_ret (W.widen (k := 1) (n := 6) (Nat.le_of_ble_eq_true rfl) (Nat.le_of_ble_eq_true rfl) ?_)
      exact bq_reti S hr hlocks hK hz dL_bufferKey_16 hW
    replace h := bq_ifF hX0 h
    by_cases hX1 : X3 = "java/lang/IllegalArgumentException"
    · replace h := bq_ifT hX1 h
      subst hX1
      refine bq_callVXk S hK hz hT mv_L_67 (ct_X6_bufferKey hfl hv) (kc_X6_bufferKey hv) dL_bufferKey_5 (rest := [.int (0 : Int32), .ref a3]) rfl rfl hl.1 (Nat.le_of_ble_eq_true rfl) ⟨Nat.le_of_ble_eq_true rfl, Nat.le_of_ble_eq_true rfl⟩ ⟨Nat.le_of_ble_eq_true rfl, Nat.le_of_ble_eq_true rfl⟩ hW (fun H locs q9 ce hW h1 h2 h3 => ?_)
      have hp : ∀ z ∈ ([{ startPc := 0, endPc := 10, handlerPc := 13, catchType := 13 }] : List ExceptionTableEntry), covers z 5 = false ∨ (z.catchType ≠ 0 ∧ ∃ nm : String, (Cond.classLink RL z.catchType nm).before args s = true ∧ va_Nc "java/lang/IllegalArgumentException" nm s) := fun z hz9 => by
        simp only [List.mem_cons, List.not_mem_nil, or_false] at hz9
        rcases hz9 with rfl
        · exact Or.inr ⟨by decide, "java/lang/IndexOutOfBoundsException", S.2.2.2.2 _ (bq_wi 605 (by decide +kernel) rfl), hN.1⟩
      refine vx_catch (own := RL) (name := "java/lang/IllegalArgumentException") S.2.2.2.1 [{ startPc := 0, endPc := 10, handlerPc := 13, catchType := 13 }] { startPc := 0, endPc := 10, handlerPc := 17, catchType := 15 } [] (by rw [htab]; rfl) hp (by decide) (by decide) (S.2.2.2.2 _ (bq_wi 606 (by decide +kernel) rfl)) (bq_castX hT 509 (by decide +kernel)) h1 h2 h3 ?_
      refine lv_astore (lv' := [(4, .ref q9), (0, .ref a0), (1, .int x1), (2, .int x2), (3, .ref a3)]) hx hb dL_bufferKey_17 hl (by decide) rfl (fun ls hl => ?_)
      refine lv_iconst (v := 2) hx hb dL_bufferKey_19 (by decide) ?_
      cases h
      refine vx_ret (W.widen (k := 1) (n := 6) (Nat.le_of_ble_eq_true rfl) (Nat.le_of_ble_eq_true rfl) ?_)
      exact bq_reti S hr hlocks hK hz dL_bufferKey_20 hW
    replace h := bq_ifF hX1 h
    cases h
  replace h := bq_elimL h
  refine bq_callV S hK hz mv_L_67 (cr_X6_bufferKey hv) (kc_X6_bufferKey hv) dL_bufferKey_5 [.int v2, .int (0 : Int32), .ref a3] (rest := [.int (0 : Int32), .ref a3]) rfl rfl rfl hl.1 (Nat.le_of_ble_eq_true rfl) ⟨Nat.le_of_ble_eq_true rfl, Nat.le_of_ble_eq_true rfl⟩ ⟨Nat.zero_le _, Nat.zero_le _⟩ hW (fun H locs hW => ?_)
  refine lv_i2l (v := Int32.toInt64 v2) hx hb dL_bufferKey_8 rfl ?_
  obtain ⟨E4, hv, h⟩ := bq_bind h
  refine bq_last S hK dL_bufferKey_9 hv hW (fun H locs hW => ?_)
  refine lv_goto (tgt := 21) hx hb dL_bufferKey_10 (by decide) ?_
  refine lv_iconst (v := 0) hx hb dL_bufferKey_21 (by decide) ?_
  cases h
  refine vx_ret (W.widen (k := 1) (n := 6) (Nat.le_of_ble_eq_true rfl) (Nat.le_of_ble_eq_true rfl) ?_)
  exact bq_reti S hr hlocks hK hz dL_bufferKey_22 hW

set_option maxHeartbeats 4000000 in
set_option maxRecDepth 100000 in
theorem cl_L_entry {l : Launch} (hfl : l.stackTraces = false) {g : bq_G} {L : List Nat} {z : Nat} {E : bq_E} {a0 : Nat} {x1 : Int32} {x2 : Int32} {x3 : Int32} {a4 : Nat} {R : (Int32 × bq_E)} (h : tw_L_entry E a0 x1 x2 x3 a4 = some R) : bq_ML l yL_entry cL_entry 6 (some .int) [(0, 12, 15, 13), (0, 12, 19, 15)] 8 135 [.ref a0, .int x1, .int x2, .int x3, .ref a4] g L E z (some (.int R.1)) R.2 := by
  unfold tw_L_entry at h
  refine bq_enterL (by decide) (Nat.le_of_ble_eq_true rfl) ?_
  intro p e s m args below meth c S htab hr hlocks hK hz hT hN hW ls hl
  have S : CallFix p m c cL_entry 6 s args bq_WA RL := S
  have hx := S.1
  have hb := S.2.1
  have hl : lv_has ls 6 [(0, .ref a0), (1, .int x1), (2, .int x2), (3, .int x3), (4, .ref a4)] := hl
  refine lv_aload hx hb dL_entry_0 (lv_at hl 4 rfl) ?_
  refine lv_iconst (v := 0) hx hb dL_entry_2 (by decide) ?_
  refine lv_aload_n hx hb dL_entry_3 rfl (lv_at hl 0 rfl) ?_
  refine lv_iload_n hx hb dL_entry_4 rfl (lv_at hl 1 rfl) ?_
  refine lv_iload_n hx hb dL_entry_5 rfl (lv_at hl 2 rfl) ?_
  refine lv_iload_n hx hb dL_entry_6 rfl (lv_at hl 3 rfl) ?_
  obtain ⟨v1, hv, h⟩ := bq_bind h
  obtain v2 | X3 := v1
  rotate_left
  · replace h := bq_elimR h
    by_cases hX0 : X3 = "java/lang/IndexOutOfBoundsException"
    · replace h := bq_ifT hX0 h
      subst hX0
      refine bq_callVXk S hK hz hT mv_L_70 (ct_X6_entry hfl hv) (kc_X6_entry hv) dL_entry_7 (rest := [.int (0 : Int32), .ref a4]) rfl rfl hl.1 (Nat.le_of_ble_eq_true rfl) ⟨Nat.le_of_ble_eq_true rfl, Nat.le_of_ble_eq_true rfl⟩ ⟨Nat.le_of_ble_eq_true rfl, Nat.le_of_ble_eq_true rfl⟩ hW (fun H locs q9 ce hW h1 h2 h3 => ?_)
      have hp : ∀ z ∈ ([] : List ExceptionTableEntry), covers z 7 = false ∨ (z.catchType ≠ 0 ∧ ∃ nm : String, (Cond.classLink RL z.catchType nm).before args s = true ∧ va_Nc "java/lang/IndexOutOfBoundsException" nm s) := fun z hz9 => absurd hz9 List.not_mem_nil
      refine vx_catch (own := RL) (name := "java/lang/IndexOutOfBoundsException") S.2.2.2.1 [] { startPc := 0, endPc := 12, handlerPc := 15, catchType := 13 } [{ startPc := 0, endPc := 12, handlerPc := 19, catchType := 15 }] (by rw [htab]; rfl) hp (by decide) (by decide) (S.2.2.2.2 _ (bq_wi 605 (by decide +kernel) rfl)) (bq_castX hT 435 (by decide +kernel)) h1 h2 h3 ?_
      refine lv_astore (lv' := [(5, .ref q9), (0, .ref a0), (1, .int x1), (2, .int x2), (3, .int x3), (4, .ref a4)]) hx hb dL_entry_15 hl (by decide) rfl (fun ls hl => ?_)
      refine lv_iconst (v := 1) hx hb dL_entry_17 (by decide) ?_
      cases h
      refine vx_ret (W.widen (k := 1) (n := 6) (Nat.le_of_ble_eq_true rfl) (Nat.le_of_ble_eq_true rfl) ?_)
      exact bq_reti S hr hlocks hK hz dL_entry_18 hW
    replace h := bq_ifF hX0 h
    by_cases hX1 : X3 = "java/lang/IllegalArgumentException"
    · replace h := bq_ifT hX1 h
      subst hX1
      refine bq_callVXk S hK hz hT mv_L_70 (ct_X6_entry hfl hv) (kc_X6_entry hv) dL_entry_7 (rest := [.int (0 : Int32), .ref a4]) rfl rfl hl.1 (Nat.le_of_ble_eq_true rfl) ⟨Nat.le_of_ble_eq_true rfl, Nat.le_of_ble_eq_true rfl⟩ ⟨Nat.le_of_ble_eq_true rfl, Nat.le_of_ble_eq_true rfl⟩ hW (fun H locs q9 ce hW h1 h2 h3 => ?_)
      have hp : ∀ z ∈ ([{ startPc := 0, endPc := 12, handlerPc := 15, catchType := 13 }] : List ExceptionTableEntry), covers z 7 = false ∨ (z.catchType ≠ 0 ∧ ∃ nm : String, (Cond.classLink RL z.catchType nm).before args s = true ∧ va_Nc "java/lang/IllegalArgumentException" nm s) := fun z hz9 => by
        simp only [List.mem_cons, List.not_mem_nil, or_false] at hz9
        rcases hz9 with rfl
        · exact Or.inr ⟨by decide, "java/lang/IndexOutOfBoundsException", S.2.2.2.2 _ (bq_wi 605 (by decide +kernel) rfl), hN.1⟩
      refine vx_catch (own := RL) (name := "java/lang/IllegalArgumentException") S.2.2.2.1 [{ startPc := 0, endPc := 12, handlerPc := 15, catchType := 13 }] { startPc := 0, endPc := 12, handlerPc := 19, catchType := 15 } [] (by rw [htab]; rfl) hp (by decide) (by decide) (S.2.2.2.2 _ (bq_wi 606 (by decide +kernel) rfl)) (bq_castX hT 509 (by decide +kernel)) h1 h2 h3 ?_
      refine lv_astore (lv' := [(5, .ref q9), (0, .ref a0), (1, .int x1), (2, .int x2), (3, .int x3), (4, .ref a4)]) hx hb dL_entry_19 hl (by decide) rfl (fun ls hl => ?_)
      refine lv_iconst (v := 2) hx hb dL_entry_21 (by decide) ?_
      cases h
      refine vx_ret (W.widen (k := 1) (n := 6) (Nat.le_of_ble_eq_true rfl) (Nat.le_of_ble_eq_true rfl) ?_)
      exact bq_reti S hr hlocks hK hz dL_entry_22 hW
    replace h := bq_ifF hX1 h
    cases h
  replace h := bq_elimL h
  refine bq_callV S hK hz mv_L_70 (cr_X6_entry hv) (kc_X6_entry hv) dL_entry_7 [.int v2, .int (0 : Int32), .ref a4] (rest := [.int (0 : Int32), .ref a4]) rfl rfl rfl hl.1 (Nat.le_of_ble_eq_true rfl) ⟨Nat.le_of_ble_eq_true rfl, Nat.le_of_ble_eq_true rfl⟩ ⟨Nat.zero_le _, Nat.zero_le _⟩ hW (fun H locs hW => ?_)
  refine lv_i2l (v := Int32.toInt64 v2) hx hb dL_entry_10 rfl ?_
  obtain ⟨E4, hv, h⟩ := bq_bind h
  refine bq_last S hK dL_entry_11 hv hW (fun H locs hW => ?_)
  refine lv_goto (tgt := 23) hx hb dL_entry_12 (by decide) ?_
  refine lv_iconst (v := 0) hx hb dL_entry_23 (by decide) ?_
  cases h
  refine vx_ret (W.widen (k := 1) (n := 6) (Nat.le_of_ble_eq_true rfl) (Nat.le_of_ble_eq_true rfl) ?_)
  exact bq_reti S hr hlocks hK hz dL_entry_24 hW

set_option maxHeartbeats 4000000 in
set_option maxRecDepth 100000 in
theorem cl_L_bridge {l : Launch} (hfl : l.stackTraces = false) {g : bq_G} {L : List Nat} {z : Nat} {E : bq_E} {a0 : Nat} {x1 : Int32} {x2 : Int32} {x3 : Int32} {a4 : Nat} {R : (Int32 × bq_E)} (h : tw_L_bridge E a0 x1 x2 x3 a4 = some R) : bq_ML l yL_bridge cL_bridge 6 (some .int) [(0, 12, 15, 13), (0, 12, 19, 15)] 8 135 [.ref a0, .int x1, .int x2, .int x3, .ref a4] g L E z (some (.int R.1)) R.2 := by
  unfold tw_L_bridge at h
  refine bq_enterL (by decide) (Nat.le_of_ble_eq_true rfl) ?_
  intro p e s m args below meth c S htab hr hlocks hK hz hT hN hW ls hl
  have S : CallFix p m c cL_bridge 6 s args bq_WA RL := S
  have hx := S.1
  have hb := S.2.1
  have hl : lv_has ls 6 [(0, .ref a0), (1, .int x1), (2, .int x2), (3, .int x3), (4, .ref a4)] := hl
  refine lv_aload hx hb dL_bridge_0 (lv_at hl 4 rfl) ?_
  refine lv_iconst (v := 0) hx hb dL_bridge_2 (by decide) ?_
  refine lv_aload_n hx hb dL_bridge_3 rfl (lv_at hl 0 rfl) ?_
  refine lv_iload_n hx hb dL_bridge_4 rfl (lv_at hl 1 rfl) ?_
  refine lv_iload_n hx hb dL_bridge_5 rfl (lv_at hl 2 rfl) ?_
  refine lv_iload_n hx hb dL_bridge_6 rfl (lv_at hl 3 rfl) ?_
  obtain ⟨v1, hv, h⟩ := bq_bind h
  obtain v2 | X3 := v1
  rotate_left
  · replace h := bq_elimR h
    by_cases hX0 : X3 = "java/lang/IndexOutOfBoundsException"
    · replace h := bq_ifT hX0 h
      subst hX0
      refine bq_callVXk S hK hz hT mv_L_74 (ct_X6_bridge hfl hv) (kc_X6_bridge hv) dL_bridge_7 (rest := [.int (0 : Int32), .ref a4]) rfl rfl hl.1 (Nat.le_of_ble_eq_true rfl) ⟨Nat.le_of_ble_eq_true rfl, Nat.le_of_ble_eq_true rfl⟩ ⟨Nat.le_of_ble_eq_true rfl, Nat.le_of_ble_eq_true rfl⟩ hW (fun H locs q9 ce hW h1 h2 h3 => ?_)
      have hp : ∀ z ∈ ([] : List ExceptionTableEntry), covers z 7 = false ∨ (z.catchType ≠ 0 ∧ ∃ nm : String, (Cond.classLink RL z.catchType nm).before args s = true ∧ va_Nc "java/lang/IndexOutOfBoundsException" nm s) := fun z hz9 => absurd hz9 List.not_mem_nil
      refine vx_catch (own := RL) (name := "java/lang/IndexOutOfBoundsException") S.2.2.2.1 [] { startPc := 0, endPc := 12, handlerPc := 15, catchType := 13 } [{ startPc := 0, endPc := 12, handlerPc := 19, catchType := 15 }] (by rw [htab]; rfl) hp (by decide) (by decide) (S.2.2.2.2 _ (bq_wi 605 (by decide +kernel) rfl)) (bq_castX hT 435 (by decide +kernel)) h1 h2 h3 ?_
      refine lv_astore (lv' := [(5, .ref q9), (0, .ref a0), (1, .int x1), (2, .int x2), (3, .int x3), (4, .ref a4)]) hx hb dL_bridge_15 hl (by decide) rfl (fun ls hl => ?_)
      refine lv_iconst (v := 1) hx hb dL_bridge_17 (by decide) ?_
      cases h
      refine vx_ret (W.widen (k := 1) (n := 6) (Nat.le_of_ble_eq_true rfl) (Nat.le_of_ble_eq_true rfl) ?_)
      exact bq_reti S hr hlocks hK hz dL_bridge_18 hW
    replace h := bq_ifF hX0 h
    by_cases hX1 : X3 = "java/lang/IllegalArgumentException"
    · replace h := bq_ifT hX1 h
      subst hX1
      refine bq_callVXk S hK hz hT mv_L_74 (ct_X6_bridge hfl hv) (kc_X6_bridge hv) dL_bridge_7 (rest := [.int (0 : Int32), .ref a4]) rfl rfl hl.1 (Nat.le_of_ble_eq_true rfl) ⟨Nat.le_of_ble_eq_true rfl, Nat.le_of_ble_eq_true rfl⟩ ⟨Nat.le_of_ble_eq_true rfl, Nat.le_of_ble_eq_true rfl⟩ hW (fun H locs q9 ce hW h1 h2 h3 => ?_)
      have hp : ∀ z ∈ ([{ startPc := 0, endPc := 12, handlerPc := 15, catchType := 13 }] : List ExceptionTableEntry), covers z 7 = false ∨ (z.catchType ≠ 0 ∧ ∃ nm : String, (Cond.classLink RL z.catchType nm).before args s = true ∧ va_Nc "java/lang/IllegalArgumentException" nm s) := fun z hz9 => by
        simp only [List.mem_cons, List.not_mem_nil, or_false] at hz9
        rcases hz9 with rfl
        · exact Or.inr ⟨by decide, "java/lang/IndexOutOfBoundsException", S.2.2.2.2 _ (bq_wi 605 (by decide +kernel) rfl), hN.1⟩
      refine vx_catch (own := RL) (name := "java/lang/IllegalArgumentException") S.2.2.2.1 [{ startPc := 0, endPc := 12, handlerPc := 15, catchType := 13 }] { startPc := 0, endPc := 12, handlerPc := 19, catchType := 15 } [] (by rw [htab]; rfl) hp (by decide) (by decide) (S.2.2.2.2 _ (bq_wi 606 (by decide +kernel) rfl)) (bq_castX hT 509 (by decide +kernel)) h1 h2 h3 ?_
      refine lv_astore (lv' := [(5, .ref q9), (0, .ref a0), (1, .int x1), (2, .int x2), (3, .int x3), (4, .ref a4)]) hx hb dL_bridge_19 hl (by decide) rfl (fun ls hl => ?_)
      refine lv_iconst (v := 2) hx hb dL_bridge_21 (by decide) ?_
      cases h
      refine vx_ret (W.widen (k := 1) (n := 6) (Nat.le_of_ble_eq_true rfl) (Nat.le_of_ble_eq_true rfl) ?_)
      exact bq_reti S hr hlocks hK hz dL_bridge_22 hW
    replace h := bq_ifF hX1 h
    cases h
  replace h := bq_elimL h
  refine bq_callV S hK hz mv_L_74 (cr_X6_bridge hv) (kc_X6_bridge hv) dL_bridge_7 [.int v2, .int (0 : Int32), .ref a4] (rest := [.int (0 : Int32), .ref a4]) rfl rfl rfl hl.1 (Nat.le_of_ble_eq_true rfl) ⟨Nat.le_of_ble_eq_true rfl, Nat.le_of_ble_eq_true rfl⟩ ⟨Nat.zero_le _, Nat.zero_le _⟩ hW (fun H locs hW => ?_)
  refine lv_i2l (v := Int32.toInt64 v2) hx hb dL_bridge_10 rfl ?_
  obtain ⟨E4, hv, h⟩ := bq_bind h
  refine bq_last S hK dL_bridge_11 hv hW (fun H locs hW => ?_)
  refine lv_goto (tgt := 23) hx hb dL_bridge_12 (by decide) ?_
  refine lv_iconst (v := 0) hx hb dL_bridge_23 (by decide) ?_
  cases h
  refine vx_ret (W.widen (k := 1) (n := 6) (Nat.le_of_ble_eq_true rfl) (Nat.le_of_ble_eq_true rfl) ?_)
  exact bq_reti S hr hlocks hK hz dL_bridge_24 hW

set_option maxHeartbeats 4000000 in
set_option maxRecDepth 100000 in
theorem cl_L_count {l : Launch} (hfl : l.stackTraces = false) {g : bq_G} {L : List Nat} {z : Nat} {E : bq_E} {a0 : Nat} {x1 : Int32} {a2 : Nat} {R : (Int32 × bq_E)} (h : tw_L_count E a0 x1 a2 = some R) : bq_ML l yL_count cL_count 4 (some .int) [(0, 9, 12, 15)] 7 111 [.ref a0, .int x1, .ref a2] g L E z (some (.int R.1)) R.2 := by
  unfold tw_L_count at h
  refine bq_enterL (by decide) (Nat.le_of_ble_eq_true rfl) ?_
  intro p e s m args below meth c S htab hr hlocks hK hz hT hN hW ls hl
  have S : CallFix p m c cL_count 4 s args bq_WA RL := S
  have hx := S.1
  have hb := S.2.1
  have hl : lv_has ls 4 [(0, .ref a0), (1, .int x1), (2, .ref a2)] := hl
  refine lv_aload_n hx hb dL_count_0 rfl (lv_at hl 2 rfl) ?_
  refine lv_iconst (v := 0) hx hb dL_count_1 (by decide) ?_
  refine lv_aload_n hx hb dL_count_2 rfl (lv_at hl 0 rfl) ?_
  refine lv_iload_n hx hb dL_count_3 rfl (lv_at hl 1 rfl) ?_
  obtain ⟨v1, hv, h⟩ := bq_bind h
  obtain v2 | X3 := v1
  rotate_left
  · replace h := bq_elimR h
    by_cases hX0 : X3 = "java/lang/IllegalArgumentException"
    · replace h := bq_ifT hX0 h
      subst hX0
      refine bq_callVXk S hK hz hT mv_L_77 (ct_X6_count hfl hv) (kc_X6_count hv) dL_count_4 (rest := [.int (0 : Int32), .ref a2]) rfl rfl hl.1 (Nat.le_of_ble_eq_true rfl) ⟨Nat.le_of_ble_eq_true rfl, Nat.le_of_ble_eq_true rfl⟩ ⟨Nat.le_of_ble_eq_true rfl, Nat.le_of_ble_eq_true rfl⟩ hW (fun H locs q9 ce hW h1 h2 h3 => ?_)
      have hp : ∀ z ∈ ([] : List ExceptionTableEntry), covers z 4 = false ∨ (z.catchType ≠ 0 ∧ ∃ nm : String, (Cond.classLink RL z.catchType nm).before args s = true ∧ va_Nc "java/lang/IllegalArgumentException" nm s) := fun z hz9 => absurd hz9 List.not_mem_nil
      refine vx_catch (own := RL) (name := "java/lang/IllegalArgumentException") S.2.2.2.1 [] { startPc := 0, endPc := 9, handlerPc := 12, catchType := 15 } [] (by rw [htab]; rfl) hp (by decide) (by decide) (S.2.2.2.2 _ (bq_wi 606 (by decide +kernel) rfl)) (bq_castX hT 509 (by decide +kernel)) h1 h2 h3 ?_
      refine lv_astore_n (lv' := [(3, .ref q9), (0, .ref a0), (1, .int x1), (2, .ref a2)]) hx hb dL_count_12 rfl hl (by decide) rfl (fun ls hl => ?_)
      refine lv_iconst (v := 1) hx hb dL_count_13 (by decide) ?_
      cases h
      refine vx_ret (W.widen (k := 1) (n := 6) (Nat.le_of_ble_eq_true rfl) (Nat.le_of_ble_eq_true rfl) ?_)
      exact bq_reti S hr hlocks hK hz dL_count_14 hW
    replace h := bq_ifF hX0 h
    cases h
  replace h := bq_elimL h
  refine bq_callV S hK hz mv_L_77 (cr_X6_count hv) (kc_X6_count hv) dL_count_4 [.int v2, .int (0 : Int32), .ref a2] (rest := [.int (0 : Int32), .ref a2]) rfl rfl rfl hl.1 (Nat.le_of_ble_eq_true rfl) ⟨Nat.le_of_ble_eq_true rfl, Nat.le_of_ble_eq_true rfl⟩ ⟨Nat.zero_le _, Nat.zero_le _⟩ hW (fun H locs hW => ?_)
  refine lv_i2l (v := Int32.toInt64 v2) hx hb dL_count_7 rfl ?_
  obtain ⟨E4, hv, h⟩ := bq_bind h
  refine bq_last S hK dL_count_8 hv hW (fun H locs hW => ?_)
  refine lv_goto (tgt := 15) hx hb dL_count_9 (by decide) ?_
  refine lv_iconst (v := 0) hx hb dL_count_15 (by decide) ?_
  cases h
  refine vx_ret (W.widen (k := 1) (n := 6) (Nat.le_of_ble_eq_true rfl) (Nat.le_of_ble_eq_true rfl) ?_)
  exact bq_reti S hr hlocks hK hz dL_count_16 hW

set_option maxHeartbeats 4000000 in
set_option maxRecDepth 100000 in
theorem cl_L_undo {l : Launch} (hfl : l.stackTraces = false) {g : bq_G} {L : List Nat} {z : Nat} {E : bq_E} {a0 : Nat} {a1 : Nat} {R : (Int32 × bq_E)} (h : tw_L_undo E a0 a1 = some R) : bq_ML l yL_undo cL_undo 3 (some .int) [(0, 8, 11, 17)] 7 169 [.ref a0, .ref a1] g L E z (some (.int R.1)) R.2 := by
  unfold tw_L_undo at h
  refine bq_enterL (by decide) (Nat.le_of_ble_eq_true rfl) ?_
  intro p e s m args below meth c S htab hr hlocks hK hz hT hN hW ls hl
  have S : CallFix p m c cL_undo 3 s args bq_WA RL := S
  have hx := S.1
  have hb := S.2.1
  have hl : lv_has ls 3 [(0, .ref a0), (1, .ref a1)] := hl
  refine lv_aload_n hx hb dL_undo_0 rfl (lv_at hl 1 rfl) ?_
  refine lv_iconst (v := 0) hx hb dL_undo_1 (by decide) ?_
  refine lv_aload_n hx hb dL_undo_2 rfl (lv_at hl 0 rfl) ?_
  obtain ⟨v1, hv, h⟩ := bq_bind h
  rcases hq : v1.1 with v2 | X3
  all_goals rw [hq] at h
  all_goals replace hv := bq_pairE hq hv
  rotate_left
  · replace h := bq_elimR h
    by_cases hX0 : X3 = "java/lang/IllegalStateException"
    · replace h := bq_ifT hX0 h
      subst hX0
      refine bq_callVXk S hK hz hT mv_L_80 (ct_X6_undo hfl hv) (kc_X6_undo hv) dL_undo_3 (rest := [.int (0 : Int32), .ref a1]) rfl rfl hl.1 (Nat.le_of_ble_eq_true rfl) ⟨Nat.le_of_ble_eq_true rfl, Nat.le_of_ble_eq_true rfl⟩ ⟨Nat.le_of_ble_eq_true rfl, Nat.le_of_ble_eq_true rfl⟩ hW (fun H locs q9 ce hW h1 h2 h3 => ?_)
      have hp : ∀ z ∈ ([] : List ExceptionTableEntry), covers z 3 = false ∨ (z.catchType ≠ 0 ∧ ∃ nm : String, (Cond.classLink RL z.catchType nm).before args s = true ∧ va_Nc "java/lang/IllegalStateException" nm s) := fun z hz9 => absurd hz9 List.not_mem_nil
      refine vx_catch (own := RL) (name := "java/lang/IllegalStateException") S.2.2.2.1 [] { startPc := 0, endPc := 8, handlerPc := 11, catchType := 17 } [] (by rw [htab]; rfl) hp (by decide) (by decide) (S.2.2.2.2 _ (bq_wi 607 (by decide +kernel) rfl)) (bq_castX hT 618 (by decide +kernel)) h1 h2 h3 ?_
      refine lv_astore_n (lv' := [(2, .ref q9), (0, .ref a0), (1, .ref a1)]) hx hb dL_undo_11 rfl hl (by decide) rfl (fun ls hl => ?_)
      refine lv_iconst (v := 1) hx hb dL_undo_12 (by decide) ?_
      cases h
      refine vx_ret (W.widen (k := 1) (n := 6) (Nat.le_of_ble_eq_true rfl) (Nat.le_of_ble_eq_true rfl) ?_)
      exact bq_reti S hr hlocks hK hz dL_undo_13 hW
    replace h := bq_ifF hX0 h
    cases h
  replace h := bq_elimL h
  refine bq_callV S hK hz mv_L_80 (cr_X6_undo hv) (kc_X6_undo hv) dL_undo_3 [.int v2, .int (0 : Int32), .ref a1] (rest := [.int (0 : Int32), .ref a1]) rfl rfl rfl hl.1 (Nat.le_of_ble_eq_true rfl) ⟨Nat.le_of_ble_eq_true rfl, Nat.le_of_ble_eq_true rfl⟩ ⟨Nat.zero_le _, Nat.zero_le _⟩ hW (fun H locs hW => ?_)
  refine lv_i2l (v := Int32.toInt64 v2) hx hb dL_undo_6 rfl ?_
  obtain ⟨E4, hv, h⟩ := bq_bind h
  refine bq_last S hK dL_undo_7 hv hW (fun H locs hW => ?_)
  refine lv_goto (tgt := 14) hx hb dL_undo_8 (by decide) ?_
  refine lv_iconst (v := 0) hx hb dL_undo_14 (by decide) ?_
  cases h
  refine vx_ret (W.widen (k := 1) (n := 6) (Nat.le_of_ble_eq_true rfl) (Nat.le_of_ble_eq_true rfl) ?_)
  exact bq_reti S hr hlocks hK hz dL_undo_15 hW
