/-! The reckoner at m: seven arrays behind it. -/
abbrev zq_M : Type := (Nat → Nat → Int32) × (Nat → Int32) × Int64
def zm_cap (j : Nat) : Nat := if j = 1 then 8183 else if j = 2 then 32732 else if j = 3 then 8183 else if j = 4 then 32 else 15
def zq_mod (g : bq_G) (E : bq_E) (m : Nat) (M : zq_M) : Prop :=
  E m = .inr (7, [.ref (m + 1), .ref (m + 2), .ref (m + 3), .int (M.2.1 3), .int (M.2.1 4), .ref (m + 4), .ref (m + 5), .int (M.2.1 7), .int (M.2.1 8), .ref (m + 6), .ref (m + 7), .long M.2.2]) ∧
  ∀ j, 1 ≤ j ∧ j < 8 → E (m + j) = .inl (g.2.1, zm_cap j, .inl (M.1 j))
def zm_A (M : zq_M) (j i : Nat) (v : Int32) : zq_M := (va_up M.1 j (upd (M.1 j) i v), M.2)
def zm_I (M : zq_M) (k : Nat) (v : Int32) : zq_M := (M.1, va_up M.2.1 k v, M.2.2)
theorem zm_As {M : zq_M} {j i : Nat} {v : Int32} : (zm_A M j i v).1 j = upd (M.1 j) i v := va_up_self M.1 j _
theorem zm_An {M : zq_M} {j k i : Nat} {v : Int32} (h : k ≠ j) : (zm_A M j i v).1 k = M.1 k := va_up_ne M.1 _ h
theorem zm_In {M : zq_M} {k j : Nat} {v : Int32} (h : j ≠ k) : (zm_I M k v).2.1 j = M.2.1 j := va_up_ne M.2.1 _ h
section ZqM
variable {g : bq_G} {E E' : bq_E} {m : Nat} {M : zq_M}
theorem zq_mod.same (H : zq_mod g E m M) {lo hi : Nat} (s : zq_same E E' lo hi) (ho : m + 8 ≤ lo ∨ hi ≤ m) : zq_mod g E' m M := ⟨(s m (by omega)).trans H.1, fun j hj => (s (m + j) (by omega)).trans (H.2 j hj)⟩
end ZqM
/-- a row of numbers that lies at o -/
def zm_seg (f : Nat → Int32) (o : Nat) (xs : List Nat) : Prop := ∀ i, i < xs.length → f (o + i) = nI (xs.getD i 0)
theorem zm_seg.keep {f f' : Nat → Int32} {o : Nat} {xs : List Nat} (h : zm_seg f o xs) (he : ∀ a, o ≤ a → a < o + xs.length → f' a = f a) : zm_seg f' o xs := fun i hi => (he (o + i) (by omega) (by omega)).trans (h i hi)
def zm_seg3 (f : Nat → Int32) (o : Nat) (xs : List Nat) : Prop := ∀ i, i < xs.length → f (o + 3 * i) = nI (xs.getD i 0)
theorem zm_seg3.keep {f f' : Nat → Int32} {o : Nat} {xs : List Nat} (h : zm_seg3 f o xs) (he : ∀ a, o ≤ a → a + 2 < o + 3 * xs.length → f' a = f a) : zm_seg3 f' o xs := fun i hi => (he (o + 3 * i) (by omega) (by omega)).trans (h i hi)
def zm_at (k : Nat) : Nat := 8 + 545 * k
/-- the node at k of the array f is the catalog v -/
def zm_node (f : Nat → Int32) (k : Nat) (v : zq_N) : Prop :=
  (f (zm_at k + 0) = v.1 0 ∧ f (zm_at k + 1) = v.1 1 ∧ f (zm_at k + 2) = v.1 2) ∧
  (f (zm_at k + 3) = nI (v.2 0).length ∧ zm_seg f (zm_at k + 4) (v.2 0) ∧ zm_seg f (zm_at k + 28) (v.2 1)) ∧
  (f (zm_at k + 52) = nI (v.2 2).length ∧ zm_seg f (zm_at k + 53) (v.2 2)) ∧
  (f (zm_at k + 61) = nI (v.2 3).length ∧ zm_seg f (zm_at k + 62) (v.2 3) ∧ zm_seg f (zm_at k + 158) (v.2 4)) ∧
  ∀ j, j < 3 → zm_seg3 f (zm_at k + 254 + j) (v.2 (5 + j))
/-- sizes of a catalog's rows -/
def zi_cat (v : zq_N) : Prop :=
  ((v.2 1).length = (v.2 0).length ∧ (v.2 0).length ≤ 24) ∧ (v.2 2).length ≤ 8 ∧ ((v.2 4).length = (v.2 3).length ∧ (v.2 3).length ≤ 96) ∧ (∀ j, j < 3 → (v.2 (5 + j)).length = (v.2 3).length + 1) ∧
  (∀ x ∈ v.2 0, x < 10000) ∧ (∀ x ∈ v.2 1, x = 0 ∨ x = 1) ∧ (∀ x ∈ v.2 2, x < 10000) ∧ (∀ x ∈ v.2 3, x < 10000) ∧ (∀ x ∈ v.2 4, x < 3)
theorem zm_node.keep {f f' : Nat → Int32} {k : Nat} {v : zq_N} (h : zm_node f k v) (hv : zi_cat v) (he : ∀ a, zm_at k ≤ a → a < zm_at k + 545 → f' a = f a) : zm_node f' k v := by
  obtain ⟨⟨a0, a1, a2⟩, ⟨a3, a4, a5⟩, ⟨a6, a7⟩, ⟨a8, a9, a10⟩, a11⟩ := h
  obtain ⟨⟨i1, i2⟩, i3, ⟨i4, i5⟩, i6, _⟩ := hv
  refine ⟨⟨(he _ (by omega) (by omega)).trans a0, (he _ (by omega) (by omega)).trans a1, (he _ (by omega) (by omega)).trans a2⟩, ⟨(he _ (by omega) (by omega)).trans a3, a4.keep (fun a q1 q2 => he a (by omega) (by omega)), a5.keep (fun a q1 q2 => he a (by omega) (by omega))⟩, ⟨(he _ (by omega) (by omega)).trans a6, a7.keep (fun a q1 q2 => he a (by omega) (by omega))⟩, ⟨(he _ (by omega) (by omega)).trans a8, a9.keep (fun a q1 q2 => he a (by omega) (by omega)), a10.keep (fun a q1 q2 => he a (by omega) (by omega))⟩, fun j hj => (a11 j hj).keep (fun a q1 q2 => he a (by omega) (by have := i6 j hj; omega))⟩
