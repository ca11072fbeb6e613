/-! The law's settling, its own row forgotten. -/
def zs_settles (E : bq_E) (a0 a1 a2 : Nat) (x3 : Int32) (R : bq_E) : Prop := ∀ (g : bq_G) (n : Nat), E n = .inr (99, []) → ∃ E9, ts_L_settle (va_up E n (.inl (g.2.1, 40, .inl (fun _ => 0)))) n a0 a1 a2 x3 = some E9 ∧ va_up E9 n (.inr (99, [])) = R
noncomputable def tw_L_settle (E : bq_E) (a0 a1 a2 : Nat) (x3 : Int32) : Option bq_E := @dite _ (∃ R, zs_settles E a0 a1 a2 x3 R) (Classical.propDecidable _) (fun h => some h.choose) (fun _ => none)
theorem tw_L_settleE {E R : bq_E} {a0 a1 a2 : Nat} {x3 : Int32} (h : tw_L_settle E a0 a1 a2 x3 = some R) : zs_settles E a0 a1 a2 x3 R := by
  unfold tw_L_settle at h
  by_cases q : ∃ R, zs_settles E a0 a1 a2 x3 R
  · rw [dif_pos q] at h
    cases h
    exact q.choose_spec
  · rw [dif_neg q] at h
    cases h
theorem tw_L_settleI {E R : bq_E} {a0 a1 a2 n : Nat} {x3 : Int32} (g : bq_G) (hn : E n = .inr (99, [])) (h : zs_settles E a0 a1 a2 x3 R) : tw_L_settle E a0 a1 a2 x3 = some R := by
  have q : ∃ R, zs_settles E a0 a1 a2 x3 R := ⟨R, h⟩
  have e : tw_L_settle E a0 a1 a2 x3 = some q.choose := by
    unfold tw_L_settle
    rw [dif_pos q]
  rw [e]
  obtain ⟨E1, h1, h2⟩ := q.choose_spec g n hn
  obtain ⟨E2, h3, h4⟩ := h g n hn
  rw [h1] at h3
  cases h3
  rw [← h2, h4]
