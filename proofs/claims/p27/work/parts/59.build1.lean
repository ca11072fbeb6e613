/-! The reckoner's build as one step. -/
theorem zq_letE {α β : Type} (e : α) (f : α → β) : bq_let e f = f e := Eq.trans rfl rfl
theorem zq_bindE {α β : Type} (a : α) (f : α → Option β) : (some a).bind f = f a := Eq.trans rfl rfl
section ZqJ
variable {g : bq_G} {E : bq_E} {m k st : Nat} {M : zq_M} {b l r : List Nat}
end ZqJ
