/-! The reckoner builds a list: entries, then bridges. -/
def zn_cnt (K : Nat) : List Nat → Nat
  | [] => 0
  | x :: t => (if x < K then 1 else 0) + zn_cnt K t
theorem zn_cnt_le (K : Nat) (xs : List Nat) : zn_cnt K xs ≤ xs.length := by
  induction xs with
  | nil => exact Nat.le_refl _
  | cons x t ih =>
    unfold zn_cnt
    rw [List.length_cons]
    split <;> omega
def zm_rdB (f : Nat → Int32) (k : Nat) (xs : List Nat) : Prop := f (zm_at k + 3) = nI xs.length ∧ zm_seg f (zm_at k + 4) xs
def zm_rdK (f : Nat → Int32) (k : Nat) (xs : List Nat) : Prop := f (zm_at k + 61) = nI xs.length ∧ zm_seg f (zm_at k + 62) xs
section ZqD
variable {g : bq_G} {E : bq_E} {m k c : Nat} {M : zq_M} {xs : List Nat}
theorem zm_rdB.keep {M' : zq_M} {Q : Nat → Prop} (h : zm_rdB (M.1 1) k xs) (ho : zm_only M M' Q) (hl : xs.length ≤ 24) (hq : ∀ a, Q a → a < zm_at k + 3 ∨ zm_at k + 28 ≤ a) : zm_rdB (M'.1 1) k xs :=
  ⟨(ho.2.2 _ (fun q => by have := hq _ q; omega)).trans h.1, h.2.keep fun a h1 h2 => ho.2.2 _ (fun q => by have := hq _ q; omega)⟩
theorem zm_rdK.keep {M' : zq_M} {Q : Nat → Prop} (h : zm_rdK (M.1 1) k xs) (ho : zm_only M M' Q) (hl : xs.length ≤ 96) (hq : ∀ a, Q a → a < zm_at k + 61 ∨ zm_at k + 158 ≤ a) : zm_rdK (M'.1 1) k xs :=
  ⟨(ho.2.2 _ (fun q => by have := hq _ q; omega)).trans h.1, h.2.keep fun a h1 h2 => ho.2.2 _ (fun q => by have := hq _ q; omega)⟩
end ZqD
