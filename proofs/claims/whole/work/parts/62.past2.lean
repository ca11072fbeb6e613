/-! The reckoner's past, whole steps. -/
section ZqZ
variable {g : bq_G} {E : bq_E} {m : Nat} {M : zq_M}
theorem zm_ends (H : zq_mod g E m M) {cnt : Nat} (hc : cnt ≤ 4) (hcnt : M.2.1 3 = nI cnt) (x : Int32) : ∃ E' q, tw_X7_ends E m x = some (x, E') ∧ zq_mod g E' m (zm_I (zm_I (zm_W M 2 q) 3 (nI (zh_more cnt))) 4 0) ∧ (∀ a, a < 8183 → q (8183 * (zh_more cnt - 1) + a) = M.1 3 a) ∧ (∀ i a, i < zh_more cnt - 1 → a < 8183 → q (8183 * i + a) = M.1 2 (8183 * (if cnt = 4 then i + 1 else i) + a)) ∧ zq_same E E' m (m + 8) := by
  unfold tw_X7_ends
  rw [if_pos (zq_cls H.1), zm_i3 H, hcnt]
  simp only [zq_bindE, zq_letE]
  by_cases q4 : cnt = 4
  · subst q4
    rw [if_pos (show nI 4 = 4 from rfl)]
    obtain ⟨E1, h1, y, a1, H1, d1, s1⟩ := zm_ends10 H (fun y16 E17 =>
      (bq_fi E17 m 7 3).bind fun v18 =>
    (bq_p E17 m 7 3 (.int (v18 - (1 : Int32)))).bind fun E19 =>
    tl_X7_ends_51 m x bq_fuel (0 : Int32) E19) x
    rw [a1, zm_i3 H1]
    simp only [zq_bindE]
    have h3 : (zm_W M 2 h1).2.1 3 = nI 4 := hcnt
    rw [h3]
    obtain ⟨E2, a2, H2, s2⟩ := zm_put3 H1 (nI 3)
    rw [show nI 4 - (1 : Int32) = nI 3 from by decide, a2]
    simp only [zq_bindE]
    obtain ⟨E3, h2, a3, H3, d3, e3, s3⟩ := zm_ends51 H2 (c := 3) (by omega) zm_Is x
    rw [a3]
    refine ⟨E3, h2, rfl, ?_, fun a ha => ?_, fun i a hi ha => ?_, (s1.trans s2).trans s3⟩
    · have : zm_I (zm_I (zm_W (zm_I (zm_W M 2 h1) 3 (nI 3)) 2 h2) 3 (nI (3 + 1))) 4 0 = zm_I (zm_I (zm_W M 2 h2) 3 (nI (zh_more 4))) 4 0 := by
        unfold zm_I zm_W
        have e1 : va_up (va_up M.1 2 h1) 2 h2 = va_up M.1 2 h2 := by
          funext k
          by_cases q : k = 2 <;> simp [va_up, q]
        have e2 : va_up (va_up M.2.1 3 (nI 3)) 3 (nI (3 + 1)) = va_up M.2.1 3 (nI (zh_more 4)) := by
          funext k
          by_cases q : k = 3 <;> simp [va_up, q, zh_more]
        simp only [e1, e2]
      rw [← this]
      exact H3
    · have := d3 a ha
      rw [show (zm_I (zm_W M 2 h1) 3 (nI 3)).1 3 = M.1 3 from zm_Wn (M := M) (j := 2) (k := 3) (h := h1) (by omega)] at this
      exact this
    · have hz : zh_more 4 - 1 = 3 := rfl
      rw [hz] at hi
      rw [e3 _ (by omega), if_pos True.intro]
      show (zm_W M 2 h1).1 2 _ = _
      rw [zm_Ws, d1 _ (by omega)]
      exact congrArg (M.1 2) (by omega)
  · rw [if_neg (show ¬ nI cnt = 4 from fun q => q4 ((nI_inj (b := 4) (by omega) (by omega)).mp q))]
    have hz : zh_more cnt = cnt + 1 := by unfold zh_more; rw [if_neg (by omega)]
    obtain ⟨E3, h2, a3, H3, d3, e3, s3⟩ := zm_ends51 H (c := cnt) (by omega) hcnt x
    rw [hz]
    refine ⟨E3, h2, a3, H3, fun a ha => d3 a ha, fun i a hi ha => ?_, s3⟩
    rw [if_neg q4]
    exact e3 _ (by omega)
theorem zm_undo (H : zq_mod g E m M) {cnt : Nat} (hc : 0 < cnt ∧ cnt ≤ 4) (hcnt : M.2.1 3 = nI cnt) : ∃ E' q, tw_X7_undo E m = some (nI (cnt - 1), E') ∧ zq_mod g E' m (zm_I (zm_W (zm_I M 3 (nI (cnt - 1))) 1 q) 4 0) ∧ (∀ a, a < 8183 → q a = M.1 2 (8183 * (cnt - 1) + a)) ∧ zq_same E E' m (m + 8) := by
  unfold tw_X7_undo
  rw [if_pos (zq_cls H.1), zm_i3 H, hcnt]
  simp only [zq_bindE]
  rw [if_neg (nI_ne0 hc.1 (by omega))]
  have e1 : nI cnt - (1 : Int32) = nI (cnt - 1) := pk_sub hc.1
  rw [e1]
  obtain ⟨E1, a1, H1, s1⟩ := zm_put3 H (nI (cnt - 1))
  rw [a1]
  simp only [zq_bindE]
  obtain ⟨E2, q, a2, H2, d2, s2⟩ := zm_undo25 H1 (c := cnt - 1) (by omega) zm_Is
  exact ⟨E2, q, a2, H2, d2, s1.trans s2⟩
theorem zm_undo0 (H : zq_mod g E m M) (hcnt : M.2.1 3 = nI 0) : ∃ E', tw_X7_undo E m = some (0, E') ∧ zq_mod g E' m (zm_I M 4 1) ∧ zq_same E E' m (m + 8) := by
  unfold tw_X7_undo
  rw [if_pos (zq_cls H.1), zm_i3 H, hcnt]
  simp only [zq_bindE]
  rw [if_pos (show nI 0 = 0 from rfl)]
  obtain ⟨E1, a1, H1, s1⟩ := zm_fails H 1
  rw [a1]
  exact ⟨E1, rfl, H1, s1⟩
end ZqZ
