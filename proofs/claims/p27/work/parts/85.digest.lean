/-! digest. -/
section ZdA
variable {g : bq_G} {E : bq_E} {z n k p cnt : Nat} {t : zq_T} {u : Nat → zq_T}
end ZdA
/-- only scratch words and the mix differ -/
def zm_scx (M M' : zq_M) : Prop := (∀ j, j < 5 → M'.1 j = M.1 j) ∧ ∀ j, j ≠ 7 → j ≠ 8 → M'.2.1 j = M.2.1 j
theorem zm_scx.refl {M : zq_M} : zm_scx M M := ⟨fun _ _ => rfl, fun _ _ _ => rfl⟩
theorem zm_scx.trans {M M' M'' : zq_M} (h : zm_scx M M') (h2 : zm_scx M' M'') : zm_scx M M'' := ⟨fun j a => (h2.1 j a).trans (h.1 j a), fun j a b => (h2.2 j a b).trans (h.2 j a b)⟩
section ZdB
variable {g : bq_G} {E : bq_E} {m n k cnt : Nat} {M : zq_M} {t : zq_T}
variable {M0 : zq_M} {h : Int64}
end ZdB
