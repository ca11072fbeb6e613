/-! The law's loop. -/
theorem zl_turn {g : bq_G} {z : Nat} {L : Option (Int32 × bq_E)} {R : bq_E → Option (Int32 × bq_E)} (h : zz_turn g z L R) {K : bq_E → Option Unit} (hK : ∀ E, zz_E g E z → K E = some ()) : (L.bind fun v4 => (R v4.2).bind fun v7 => (tw_X7_thrown v7.2 (z + 1378)).bind fun v8 => if v8 = v4.1 then (if v4.1 = 0 then ((bq_al v7.2 (z + 1386) (0 : Int32)).bind fun v10 => if (lg_cmp v10 (Int32.toInt64 v7.1)) = 0 then K v7.2 else none) else K v7.2) else none) = some () := by
  obtain ⟨r1, r2, a, b, c, d, e⟩ := h
  rw [a]
  simp only [zq_bindE]
  rw [b]
  simp only [zq_bindE]
  rw [c]
  simp only [zq_bindE]
  rw [if_pos True.intro]
  by_cases q : r1.1 = 0
  · rw [if_pos q, d q]
    simp only [zq_bindE]
    rw [if_pos ((lg_cmp_eq _ _).mpr rfl)]
    exact hK _ e
  · rw [if_neg q]
    exact hK _ e
theorem zl_turnB {g : bq_G} {z : Nat} {L : Option (Int32 × bq_E)} {R : bq_E → Option (Bool × bq_E)} (h : zz_turnB g z L R) {K : bq_E → Option Unit} (hK : ∀ E, zz_E g E z → K E = some ()) : (L.bind fun v4 => (R v4.2).bind fun v7 => (tw_X7_thrown v7.2 (z + 1378)).bind fun v8 => if v8 = v4.1 then (if v4.1 = 0 then ((bq_al v7.2 (z + 1386) (0 : Int32)).bind fun v10 => if (bq_b v7.1) = 0 then (if (lg_cmp v10 (0 : Int64)) = 0 then K v7.2 else none) else (if (lg_cmp v10 (1 : Int64)) = 0 then K v7.2 else none)) else K v7.2) else none) = some () := by
  obtain ⟨r1, r2, a, b, c, d, e⟩ := h
  rw [a]
  simp only [zq_bindE]
  rw [b]
  simp only [zq_bindE]
  rw [c]
  simp only [zq_bindE]
  rw [if_pos True.intro]
  by_cases q : r1.1 = 0
  · rw [if_pos q, d q]
    simp only [zq_bindE]
    cases hb : r2.1 with
    | false =>
      rw [if_pos bq_bF, if_neg (show ¬ false = true by decide), if_pos ((lg_cmp_eq _ _).mpr rfl)]
      exact hK _ e
    | true =>
      rw [if_neg bq_bT, if_pos rfl, if_pos ((lg_cmp_eq _ _).mpr rfl)]
      exact hK _ e
  · rw [if_neg q]
    exact hK _ e
theorem zl_sc {xs : Nat → Int32} {Ln i : Nat} (hL : Ln ≤ 2560) (hi : i < Ln) : bq_sc xs Ln (nI i) = some (xs i) := by
  unfold bq_sc
  have h1 := nI_in hi (by omega)
  rw [if_neg h1, nI_clamp (by omega)]
set_option maxRecDepth 100000 in
set_option maxHeartbeats 4000000 in
theorem zl_law {g : bq_G} {z Ln : Nat} {xs : Nat → Int32} (hL : Ln ≤ 2560) : ∀ (N y : Nat) (E : bq_E), y ≤ Ln → Ln < y + 5 * N → zz_E g E z → tl_law xs Ln z (z + 1378) (z + 1386) N (nI y) E = some () := by
  intro N
  induction N with
  | zero => intro y E h1 h2; omega
  | succ N ih =>
    intro y E h1 h2 hE
    rw [tl_law.eq_2]
    by_cases hend : Ln < y + 5
    · have hlt : Int32.ofNat Ln - 5 < nI y := by
        by_cases w : Ln < 5
        · exact Int32.lt_of_lt_of_le (pk_sneg (a := Ln) (b := 5) (by omega) w) (nI_pos' (by omega))
        · have e : Int32.ofNat Ln - 5 = nI (Ln - 5) := by
            show nI Ln - nI 5 = _
            exact pk_sub (by omega)
          rw [e]
          exact nI_lt (by omega) (by omega)
      rw [if_pos hlt]
    · have hge : ¬ Int32.ofNat Ln - 5 < nI y := by
        have e : Int32.ofNat Ln - 5 = nI (Ln - 5) := by
          show nI Ln - nI 5 = _
          exact pk_sub (by omega)
        rw [e]
        exact nI_nlt (by omega) (by omega)
      have hK : ∀ E, zz_E g E z → tl_law xs Ln z (z + 1378) (z + 1386) N (nI (y + 5)) E = some () := fun E hE => ih (y + 5) E (by omega) (by omega) hE
      have e1 : nI y + (1 : Int32) = nI (y + 1) := nI_add y 1
      have e2 : nI y + (2 : Int32) = nI (y + 2) := nI_add y 2
      have e3 : nI y + (3 : Int32) = nI (y + 3) := nI_add y 3
      have e4 : nI y + (4 : Int32) = nI (y + 4) := nI_add y 4
      have e5 : nI y + (5 : Int32) = nI (y + 5) := nI_add y 5
      rw [if_neg hge, e1, e2, e3, e4, e5, zl_sc hL (i := y) (by omega), zl_sc hL (i := y + 1) (by omega), zl_sc hL (i := y + 2) (by omega), zl_sc hL (i := y + 3) (by omega), zl_sc hL (i := y + 4) (by omega)]
      simp only [zq_bindE, zq_letE]
      by_cases q0 : xs y &&& (31 : Int32) = 0
      · rw [if_pos q0]
        exact zl_turn (zo_addNode hE _ _) hK
      rw [if_neg q0]
      by_cases q1 : xs y &&& (31 : Int32) = 1
      · rw [if_pos q1]
        exact zl_turnB (zo_add hE _ _) hK
      rw [if_neg q1]
      by_cases q2 : xs y &&& (31 : Int32) = 2
      · rw [if_pos q2]
        exact zl_turnB (zo_remove hE _ _) hK
      rw [if_neg q2]
      by_cases q3 : xs y &&& (31 : Int32) = 3
      · rw [if_pos q3]
        exact zl_turn (zo_addSeries hE _ _ _ _) hK
      rw [if_neg q3]
      by_cases q4 : xs y &&& (31 : Int32) = 4
      · rw [if_pos q4]
        exact zl_turn (zo_setSizes hE _ _) hK
      rw [if_neg q4]
      by_cases q5 : xs y &&& (31 : Int32) = 5
      · rw [if_pos q5]
        exact zl_turn (zo_rebuild hE _) hK
      rw [if_neg q5]
      by_cases q6 : xs y &&& (31 : Int32) = 6
      · rw [if_pos q6]
        obtain ⟨v, E1, E2, a, b, d⟩ := zo_rebuildAll hE
        rw [a]
        simp only [zq_bindE]
        rw [b]
        simp only [zq_bindE]
        rw [if_pos True.intro]
        exact hK _ d
      rw [if_neg q6]
      by_cases q7 : xs y &&& (31 : Int32) = 7
      · rw [if_pos q7]
        exact zl_turn (zo_search hE _ _) hK
      rw [if_neg q7]
      by_cases q8 : xs y &&& (31 : Int32) = 8
      · rw [if_pos q8]
        exact zl_turn (zo_probes hE _ _) hK
      rw [if_neg q8]
      by_cases q9 : xs y &&& (31 : Int32) = 9
      · rw [if_pos q9]
        exact zl_turn (zo_plainProbes hE _ _) hK
      rw [if_neg q9]
      by_cases q10 : xs y &&& (31 : Int32) = 10
      · rw [if_pos q10]
        exact zl_turn (zo_place hE _ _) hK
      rw [if_neg q10]
      by_cases q11 : xs y &&& (31 : Int32) = 11
      · rw [if_pos q11]
        exact zl_turn (zo_leastOnPath hE _ _) hK
      rw [if_neg q11]
      by_cases q12 : xs y &&& (31 : Int32) = 12
      · rw [if_pos q12]
        exact zl_turn (zo_nearestOnPath hE _ _) hK
      rw [if_neg q12]
      by_cases q13 : xs y &&& (31 : Int32) = 13
      · rw [if_pos q13]
        exact zl_turn (zo_worst hE _) hK
      rw [if_neg q13]
      by_cases q14 : xs y &&& (31 : Int32) = 14
      · rw [if_pos q14]
        obtain ⟨v, E2, a, b, d⟩ := zo_nodes hE
        rw [a, b]
        simp only [zq_bindE]
        rw [if_pos True.intro]
        exact hK _ d
      rw [if_neg q14]
      by_cases q15 : xs y &&& (31 : Int32) = 15
      · rw [if_pos q15]
        exact zl_turn (zo_node hE _ _) hK
      rw [if_neg q15]
      by_cases q16 : xs y &&& (31 : Int32) = 16
      · rw [if_pos q16]
        exact zl_turn (zo_key hE _ _) hK
      rw [if_neg q16]
      by_cases q17 : xs y &&& (31 : Int32) = 17
      · rw [if_pos q17]
        exact zl_turn (zo_baseKey hE _ _) hK
      rw [if_neg q17]
      by_cases q18 : xs y &&& (31 : Int32) = 18
      · rw [if_pos q18]
        exact zl_turn (zo_bufferKey hE _ _) hK
      rw [if_neg q18]
      by_cases q19 : xs y &&& (31 : Int32) = 19
      · rw [if_pos q19]
        exact zl_turn (zo_entry hE _ _ _) hK
      rw [if_neg q19]
      by_cases q20 : xs y &&& (31 : Int32) = 20
      · rw [if_pos q20]
        exact zl_turn (zo_bridge hE _ _ _) hK
      rw [if_neg q20]
      by_cases q21 : xs y &&& (31 : Int32) = 21
      · rw [if_pos q21]
        exact zl_turn (zo_count hE _) hK
      rw [if_neg q21]
      by_cases q22 : xs y &&& (31 : Int32) = 22
      · rw [if_pos q22]
        exact zl_turn (zo_undo hE) hK
      rw [if_neg q22]
      by_cases q23 : xs y &&& (31 : Int32) = 23
      · rw [if_pos q23]
        obtain ⟨v, E1, E2, a, b, d⟩ := zo_digest hE
        rw [a]
        simp only [zq_bindE, bq_elim]
        rw [b]
        simp only [zq_bindE]
        rw [if_pos ((lg_cmp_eq _ _).mpr rfl)]
        exact hK _ d
      rw [if_neg q23]
      exact hK _ hE
