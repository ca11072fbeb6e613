/-! The reckoner's lists: entering an entry, counting the less. -/
/-- only words of the first array that Q names may differ -/
def zm_only (M M' : zq_M) (Q : Nat → Prop) : Prop := M'.2 = M.2 ∧ (∀ j, j ≠ 1 → M'.1 j = M.1 j) ∧ ∀ a, ¬ Q a → M'.1 1 a = M.1 1 a
theorem zm_only.refl {M : zq_M} {Q : Nat → Prop} : zm_only M M Q := ⟨rfl, fun _ _ => rfl, fun _ _ => rfl⟩
theorem zm_only.trans {M M' M'' : zq_M} {Q : Nat → Prop} (h : zm_only M M' Q) (h2 : zm_only M' M'' Q) : zm_only M M'' Q := ⟨h2.1.trans h.1, fun j hj => (h2.2.1 j hj).trans (h.2.1 j hj), fun a ha => (h2.2.2 a ha).trans (h.2.2 a ha)⟩
theorem zm_only.wide {M M' : zq_M} {Q R : Nat → Prop} (h : zm_only M M' Q) (hq : ∀ a, Q a → R a) : zm_only M M' R := ⟨h.1, h.2.1, fun a ha => h.2.2 a (fun q => ha (hq a q))⟩
theorem zm_only.put {M : zq_M} {a : Nat} {v : Int32} {Q : Nat → Prop} (h : Q a) : zm_only M (zm_A M 1 a v) Q := ⟨rfl, fun j hj => zm_An hj, fun b hb => by
  rw [zm_As]
  exact pk_un (fun q => hb (q ▸ h))⟩
section ZqE
variable {g : bq_G} {E : bq_E} {m k : Nat} {M : zq_M}
end ZqE
