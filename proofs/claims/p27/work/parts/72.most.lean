/-! Plain searches; the most probes. -/
/-- only scratch words differ -/
def zm_scr (M M' : zq_M) : Prop := (∀ j, j < 5 → M'.1 j = M.1 j) ∧ (∀ j, j ≠ 7 → j ≠ 8 → M'.2.1 j = M.2.1 j) ∧ M'.2.2 = M.2.2
theorem zm_scr.refl {M : zq_M} : zm_scr M M := ⟨fun _ _ => rfl, fun _ _ _ => rfl, rfl⟩
theorem zm_scr.trans {M M' M'' : zq_M} (h : zm_scr M M') (h2 : zm_scr M' M'') : zm_scr M M'' := ⟨fun j a => (h2.1 j a).trans (h.1 j a), fun j a b => (h2.2.1 j a b).trans (h.2.1 j a b), h2.2.2.trans h.2.2⟩
section ZxA
variable {g : bq_G} {E : bq_E} {m n : Nat} {M : zq_M} {t : zq_T} {P L : List Nat}
/-- r is the greatest of b and of what f says of those that Q names -/
def zx_top (f : Nat → Nat) (Q : Nat → Prop) (b r : Nat) : Prop := b ≤ r ∧ r ≤ 4500 ∧ (∀ K, Q K → f K ≤ r) ∧ (r = b ∨ ∃ K, Q K ∧ r = f K)
theorem zx_top.trans {f : Nat → Nat} {Q R : Nat → Prop} {a b c : Nat} (h : zx_top f Q a b) (h2 : zx_top f R b c) : zx_top f (fun K => Q K ∨ R K) a c := by
  obtain ⟨h1, _, h3, h4⟩ := h
  obtain ⟨g1, g2, g3, g4⟩ := h2
  refine ⟨by omega, g2, fun K hK => ?_, ?_⟩
  · rcases hK with q | q
    · have := h3 K q; omega
    · exact g3 K q
  · rcases g4 with q | ⟨K, q1, q2⟩
    · rcases h4 with w | ⟨K, w1, w2⟩
      · exact Or.inl (by omega)
      · exact Or.inr ⟨K, Or.inl w1, by omega⟩
    · exact Or.inr ⟨K, Or.inr q1, q2⟩
end ZxA
