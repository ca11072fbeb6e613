/-! The reckoner's state and the tree; building up on both sides. -/
def zs_ints (f : Nat → Int32) (n : Nat) (t : zq_T) (a : Int32) : Prop := f 0 = nI n ∧ f 1 = t.1 4 ∧ f 2 = t.1 5 ∧ f 3 = t.1 6 ∧ f 4 = t.1 7 ∧ f 5 = t.1 8 ∧ f 6 = t.1 9 + a ∧ f 7 = t.1 10
def zs_rel (f : Nat → Int32) (n : Nat) (t : zq_T) : Prop := zs_ints f n t 0 ∧ ∀ j, j < n → zm_node f j (t.2 j)
/-- only the first array has changed -/
def zm_one (M M' : zq_M) : Prop := M'.2 = M.2 ∧ ∀ j, j ≠ 1 → M'.1 j = M.1 j
theorem zm_one.refl {M : zq_M} : zm_one M M := ⟨rfl, fun _ _ => rfl⟩
theorem zm_one.trans {M M' M'' : zq_M} (h : zm_one M M') (h2 : zm_one M' M'') : zm_one M M'' := ⟨h2.1.trans h.1, fun j hj => (h2.2 j hj).trans (h.2 j hj)⟩
section ZsB
variable {g : bq_G} {E : bq_E} {m n st k : Nat} {M : zq_M} {t : zq_T} {a : Int32}
end ZsB
