/-! The reckoner builds a whole list. -/
def zm_kid (f : Nat → Int32) (k : Nat) (x : Int32) (l : List Nat) : Prop := (x = -1 ∧ l = []) ∨ ∃ c, x = nI c ∧ c < 15 ∧ c ≠ k ∧ zm_rdK f c l
def zm_src (f : Nat → Int32) (k st : Nat) (b l r : List Nat) : Prop := zm_rdB f k b ∧ zm_kid f k (f (zm_at k + 1)) l ∧ zm_kid f k (f (zm_at k + 2)) r ∧ f 2 = nI st
def zi_src (st : Nat) (b l r : List Nat) : Prop := (1 ≤ st ∧ st ≤ 1000) ∧ b.length ≤ 24 ∧ l.length ≤ 96 ∧ r.length ≤ 96 ∧ (∀ x ∈ b, x < 10000) ∧ (∀ x ∈ l, x < 10000) ∧ (∀ x ∈ r, x < 10000)
def zm_sel (j : Nat) (b l r : List Nat) : List Nat := if j = 0 then b else if j = 1 then l else r
theorem zm_kid.keep {M M' : zq_M} {Q : Nat → Prop} {k : Nat} {x : Int32} {l : List Nat} (h : zm_kid (M.1 1) k x l) (ho : zm_only M M' Q) (hl : l.length ≤ 96) (hq : ∀ a, Q a → zm_at k + 61 ≤ a ∧ a < zm_at k + 545) : zm_kid (M'.1 1) k x l := by
  rcases h with h | ⟨c, h1, h2, h3, h4⟩
  · exact Or.inl h
  · refine Or.inr ⟨c, h1, h2, h3, h4.keep ho hl (fun a q => ?_)⟩
    have := hq a q
    have e1 : zm_at k = 8 + 545 * k := rfl
    have e2 : zm_at c = 8 + 545 * c := rfl
    omega
theorem zm_src.keep {M M' : zq_M} {Q : Nat → Prop} {k st : Nat} {b l r : List Nat} (h : zm_src (M.1 1) k st b l r) (ho : zm_only M M' Q) (hi : zi_src st b l r) (hq : ∀ a, Q a → zm_at k + 61 ≤ a ∧ a < zm_at k + 545) : zm_src (M'.1 1) k st b l r := by
  obtain ⟨h1, h2, h3, h4⟩ := h
  obtain ⟨i1, i2, i3, i4, _⟩ := hi
  have e1 : zm_at k = 8 + 545 * k := rfl
  refine ⟨h1.keep ho i2 (fun a q => by have := hq a q; omega), ?_, ?_, (ho.2.2 2 (fun q => by have := hq _ q; omega)).trans h4⟩
  · rw [ho.2.2 (zm_at k + 1) (fun q => by have := hq _ q; omega)]
    exact h2.keep ho i3 hq
  · rw [ho.2.2 (zm_at k + 2) (fun q => by have := hq _ q; omega)]
    exact h3.keep ho i4 hq
section ZqG
variable {g : bq_G} {E : bq_E} {m k st : Nat} {M : zq_M} {b l r : List Nat}
end ZqG
