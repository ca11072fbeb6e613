/-! What the pure part owed. -/
theorem bq_owed : bq_Owed := by
  intro g z Ln xs hL
  obtain ⟨E1, a1, f1, s1⟩ := zk_face (g := g) (E := bq_dead) z
  obtain ⟨E2, a2, m2, s2⟩ := zk_mod (g := g) (E := E1) (z + 1378)
  refine ⟨E1, E2, a1, a2, ?_⟩
  have s3 : zq_same E2 (va_up E2 (z + 1386) (.inl (g.2.2.1, 1, .inr (.inl (fun _ => 0))))) (z + 1386) (z + 1387) := zq_same.up (by omega)
  exact zl_law (g := g) hL 1000 0 _ (Nat.zero_le _) (by omega) ⟨1, zk_t, fun _ => zk_t, 0, 0, zk_M, (f1.same s2 (Or.inl (by omega))).same s3 (Or.inl (by omega)), m2.same s3 (Or.inl (by omega)), zk_rel, fun _ => 0, va_up_self _ _ _⟩
