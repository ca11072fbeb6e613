/-! The reckoner's worst; its answers to questions. -/
section ZxB
variable {g : bq_G} {E : bq_E} {m n : Nat} {M : zq_M} {t : zq_T} {P L : List Nat}
def zw_P (t : zq_T) (k : Nat) : List Nat := zw_path t (zt_d t k + 1) k []
def zw_L (t : zq_T) (k : Nat) : List Nat := zw_sides t (zt_d t k + 1) k []
/-- an x that may be sought -/
def zf_goal (x : Int32) : Prop := ¬ x < 0 ∧ ¬ (10000 : Int32) < x
theorem zf_goal_nat {x : Int32} (h : zf_goal x) : ∃ k, k ≤ 10000 ∧ x = nI k := by
  obtain ⟨j, hj, rfl⟩ := nI_of h.1
  refine ⟨j, ?_, rfl⟩
  by_cases z : j ≤ 10000
  · exact z
  · exact absurd (nI_lt (a := 10000) (b := j) (by omega) hj) h.2
def zf_key (x : Int32) : Prop := ¬ x < 0 ∧ ¬ (10000 : Int32) ≤ x
theorem zf_key_nat {x : Int32} (h : zf_key x) : ∃ k, k < 10000 ∧ x = nI k := by
  obtain ⟨j, hj, rfl⟩ := nI_of h.1
  refine ⟨j, ?_, rfl⟩
  by_cases z : j < 10000
  · exact z
  · exact absurd (nI_le (a := 10000) (b := j) (by omega) hj) h.2
end ZxB
