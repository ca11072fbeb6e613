/-! The reckoner at m: seven arrays behind it. -/
abbrev zq_M : Type := (Nat → Nat → Int32) × (Nat → Int32) × Int64
def zm_cap (j : Nat) : Nat := if j = 1 then 8183 else if j = 2 then 32732 else if j = 3 then 8183 else if j = 4 then 32 else 15
def zq_mod (g : bq_G) (E : bq_E) (m : Nat) (M : zq_M) : Prop :=
  E m = .inr (7, [.ref (m + 1), .ref (m + 2), .ref (m + 3), .int (M.2.1 3), .int (M.2.1 4), .ref (m + 4), .ref (m + 5), .int (M.2.1 7), .int (M.2.1 8), .ref (m + 6), .ref (m + 7), .long M.2.2]) ∧
  ∀ j, 1 ≤ j ∧ j < 8 → E (m + j) = .inl (g.2.1, zm_cap j, .inl (M.1 j))
def zm_A (M : zq_M) (j i : Nat) (v : Int32) : zq_M := (va_up M.1 j (upd (M.1 j) i v), M.2)
def zm_I (M : zq_M) (k : Nat) (v : Int32) : zq_M := (M.1, va_up M.2.1 k v, M.2.2)
def zm_X (M : zq_M) (v : Int64) : zq_M := (M.1, M.2.1, v)
theorem zm_As {M : zq_M} {j i : Nat} {v : Int32} : (zm_A M j i v).1 j = upd (M.1 j) i v := va_up_self M.1 j _
theorem zm_An {M : zq_M} {j k i : Nat} {v : Int32} (h : k ≠ j) : (zm_A M j i v).1 k = M.1 k := va_up_ne M.1 _ h
theorem zm_Is {M : zq_M} {k : Nat} {v : Int32} : (zm_I M k v).2.1 k = v := va_up_self M.2.1 k _
theorem zm_In {M : zq_M} {k j : Nat} {v : Int32} (h : j ≠ k) : (zm_I M k v).2.1 j = M.2.1 j := va_up_ne M.2.1 _ h
theorem zm_cap_lt (j : Nat) : zm_cap j < 2 ^ 31 := by
  unfold zm_cap
  split
  · omega
  · split
    · omega
    · split
      · omega
      · split <;> omega
section ZqM
variable {g : bq_G} {E E' : bq_E} {m : Nat} {M : zq_M}
theorem zq_mod.same (H : zq_mod g E m M) {lo hi : Nat} (s : zq_same E E' lo hi) (ho : m + 8 ≤ lo ∨ hi ≤ m) : zq_mod g E' m M := ⟨(s m (by omega)).trans H.1, fun j hj => (s (m + j) (by omega)).trans (H.2 j hj)⟩
theorem zm_r1 (H : zq_mod g E m M) : bq_fr E m 7 0 = some (m + 1) := zq_fr H.1 rfl
theorem zm_r2 (H : zq_mod g E m M) : bq_fr E m 7 1 = some (m + 2) := zq_fr H.1 rfl
theorem zm_r3 (H : zq_mod g E m M) : bq_fr E m 7 2 = some (m + 3) := zq_fr H.1 rfl
theorem zm_r4 (H : zq_mod g E m M) : bq_fr E m 7 5 = some (m + 4) := zq_fr H.1 rfl
theorem zm_r5 (H : zq_mod g E m M) : bq_fr E m 7 6 = some (m + 5) := zq_fr H.1 rfl
theorem zm_r6 (H : zq_mod g E m M) : bq_fr E m 7 9 = some (m + 6) := zq_fr H.1 rfl
theorem zm_r7 (H : zq_mod g E m M) : bq_fr E m 7 10 = some (m + 7) := zq_fr H.1 rfl
theorem zm_i3 (H : zq_mod g E m M) : bq_fi E m 7 3 = some (M.2.1 3) := zq_fi H.1 rfl
theorem zm_i4 (H : zq_mod g E m M) : bq_fi E m 7 4 = some (M.2.1 4) := zq_fi H.1 rfl
theorem zm_i7 (H : zq_mod g E m M) : bq_fi E m 7 7 = some (M.2.1 7) := zq_fi H.1 rfl
theorem zm_i8 (H : zq_mod g E m M) : bq_fi E m 7 8 = some (M.2.1 8) := zq_fi H.1 rfl
theorem zm_x (H : zq_mod g E m M) : bq_fl E m 7 11 = some M.2.2 := zq_fl H.1 rfl
theorem zm_ai (H : zq_mod g E m M) {j i : Nat} (hj : 1 ≤ j ∧ j < 8) (hi : i < zm_cap j) : bq_ai E (m + j) (nI i) = some (M.1 j i) := zq_ai (H.2 j hj) hi (zm_cap_lt j)
theorem zm_si (H : zq_mod g E m M) {j i : Nat} (hj : 1 ≤ j ∧ j < 8) (hi : i < zm_cap j) (v : Int32) : ∃ E', bq_si E (m + j) (nI i) v = some E' ∧ zq_mod g E' m (zm_A M j i v) ∧ zq_same E E' m (m + 8) := by
  refine ⟨_, zq_si v (H.2 j hj) hi (zm_cap_lt j), ⟨?_, fun k hk => ?_⟩, zq_same.up (by omega)⟩
  · rw [va_up_ne _ _ (by omega)]
    exact H.1
  · by_cases e : k = j
    · subst e
      rw [va_up_self, zm_As]
    · rw [va_up_ne _ _ (by omega), zm_An e]
      exact H.2 k hk
theorem zm_put (H : zq_mod g E m M) {k : Nat} (hk : k = 3 ∨ k = 4 ∨ k = 7 ∨ k = 8) (x : Int32) : ∃ E', bq_p E m 7 k (.int x) = some E' ∧ zq_mod g E' m (zm_I M k x) ∧ zq_same E E' m (m + 8) := by
  refine ⟨_, zq_p _ H.1 (by simp; omega), ⟨?_, fun j hj => ?_⟩, zq_same.up (by omega)⟩
  · rw [va_up_self]
    rcases hk with rfl | rfl | rfl | rfl <;> simp [zm_I, va_up]
  · rw [va_up_ne _ _ (by omega)]
    exact H.2 j hj
theorem zm_putX (H : zq_mod g E m M) (x : Int64) : ∃ E', bq_p E m 7 11 (.long x) = some E' ∧ zq_mod g E' m (zm_X M x) ∧ zq_same E E' m (m + 8) := by
  refine ⟨_, zq_p _ H.1 (by simp), ⟨?_, fun j hj => ?_⟩, zq_same.up (by omega)⟩
  · rw [va_up_self]
    simp [zm_X]
  · rw [va_up_ne _ _ (by omega)]
    exact H.2 j hj
theorem zm_of (H : zq_mod g E m M) {k o : Nat} (hk : k < 15) (ho : o < 545) : tw_X7_of E m (nI k) (nI o) = some (M.1 1 (8 + 545 * k + o)) := by
  unfold tw_X7_of
  rw [if_pos (zq_cls H.1), zm_r1 H]
  simp only [Option.bind_some]
  rw [show (8 : Int32) = nI 8 from rfl, show (545 : Int32) = nI 545 from rfl, pk_mul, nI_add, nI_add, zm_ai H (j := 1) (by omega) (by show _ < 8183; omega)]
  rfl
theorem zm_puts (H : zq_mod g E m M) {k o : Nat} (hk : k < 15) (ho : o < 545) (v : Int32) : ∃ E', tw_X7_puts E m (nI k) (nI o) v = some E' ∧ zq_mod g E' m (zm_A M 1 (8 + 545 * k + o) v) ∧ zq_same E E' m (m + 8) := by
  unfold tw_X7_puts
  rw [if_pos (zq_cls H.1), zm_r1 H]
  simp only [Option.bind_some]
  rw [show (8 : Int32) = nI 8 from rfl, show (545 : Int32) = nI 545 from rfl, pk_mul, nI_add, nI_add]
  obtain ⟨E1, a, b, c⟩ := zm_si H (j := 1) (i := 8 + 545 * k + o) (by omega) (by show _ < 8183; omega) v
  rw [a]
  exact ⟨E1, rfl, b, c⟩
theorem zm_thrown (H : zq_mod g E m M) : tw_X7_thrown E m = some (M.2.1 4) := by
  unfold tw_X7_thrown
  rw [if_pos (zq_cls H.1), zm_i4 H]
  rfl
theorem zm_fails (H : zq_mod g E m M) (x : Int32) : ∃ E', tw_X7_fails E m x = some (0, E') ∧ zq_mod g E' m (zm_I M 4 x) ∧ zq_same E E' m (m + 8) := by
  unfold tw_X7_fails
  rw [if_pos (zq_cls H.1)]
  obtain ⟨E1, a, b, c⟩ := zm_put H (k := 4) (by omega) x
  rw [a]
  exact ⟨E1, rfl, b, c⟩
theorem zm_tells (H : zq_mod g E m M) (x : Int32) : ∃ E', tw_X7_tells E m x = some (x, E') ∧ zq_mod g E' m (zm_I M 4 0) ∧ zq_same E E' m (m + 8) := by
  unfold tw_X7_tells
  rw [if_pos (zq_cls H.1)]
  obtain ⟨E1, a, b, c⟩ := zm_put H (k := 4) (by omega) 0
  rw [a]
  exact ⟨E1, rfl, b, c⟩
def zm_in (x lo hi : Int32) : Bool := if x < lo then false else if hi < x then false else true
theorem zm_in_eq (x lo hi : Int32) : tw_X7_in E x lo hi = some (zm_in x lo hi) := by
  unfold tw_X7_in zm_in
  split
  · rfl
  · split <;> rfl
theorem zm_in_iff {x lo hi : Int32} : zm_in x lo hi = true ↔ ¬ x < lo ∧ ¬ hi < x := by
  unfold zm_in
  split
  · simp [*]
  · split <;> simp [*]
end ZqM
/-- a row of numbers that lies at o -/
def zm_seg (f : Nat → Int32) (o : Nat) (xs : List Nat) : Prop := ∀ i, i < xs.length → f (o + i) = nI (xs.getD i 0)
theorem zm_seg.keep {f f' : Nat → Int32} {o : Nat} {xs : List Nat} (h : zm_seg f o xs) (he : ∀ a, o ≤ a → a < o + xs.length → f' a = f a) : zm_seg f' o xs := fun i hi => (he (o + i) (by omega) (by omega)).trans (h i hi)
def zm_seg3 (f : Nat → Int32) (o : Nat) (xs : List Nat) : Prop := ∀ i, i < xs.length → f (o + 3 * i) = nI (xs.getD i 0)
theorem zm_seg3.keep {f f' : Nat → Int32} {o : Nat} {xs : List Nat} (h : zm_seg3 f o xs) (he : ∀ a, o ≤ a → a + 2 < o + 3 * xs.length → f' a = f a) : zm_seg3 f' o xs := fun i hi => (he (o + 3 * i) (by omega) (by omega)).trans (h i hi)
def zm_at (k : Nat) : Nat := 8 + 545 * k
/-- the node at k of the array f is the catalog v -/
def zm_node (f : Nat → Int32) (k : Nat) (v : zq_N) : Prop :=
  (f (zm_at k + 0) = v.1 0 ∧ f (zm_at k + 1) = v.1 1 ∧ f (zm_at k + 2) = v.1 2) ∧
  (f (zm_at k + 3) = nI (v.2 0).length ∧ zm_seg f (zm_at k + 4) (v.2 0) ∧ zm_seg f (zm_at k + 28) (v.2 1)) ∧
  (f (zm_at k + 52) = nI (v.2 2).length ∧ zm_seg f (zm_at k + 53) (v.2 2)) ∧
  (f (zm_at k + 61) = nI (v.2 3).length ∧ zm_seg f (zm_at k + 62) (v.2 3) ∧ zm_seg f (zm_at k + 158) (v.2 4)) ∧
  ∀ j, j < 3 → zm_seg3 f (zm_at k + 254 + j) (v.2 (5 + j))
/-- sizes of a catalog's rows -/
def zi_cat (v : zq_N) : Prop :=
  ((v.2 1).length = (v.2 0).length ∧ (v.2 0).length ≤ 24) ∧ (v.2 2).length ≤ 8 ∧ ((v.2 4).length = (v.2 3).length ∧ (v.2 3).length ≤ 96) ∧ (∀ j, j < 3 → (v.2 (5 + j)).length = (v.2 3).length + 1) ∧
  (∀ x ∈ v.2 0, x < 10000) ∧ (∀ x ∈ v.2 1, x = 0 ∨ x = 1) ∧ (∀ x ∈ v.2 2, x < 10000) ∧ (∀ x ∈ v.2 3, x < 10000) ∧ (∀ x ∈ v.2 4, x < 3)
theorem zm_node.keep {f f' : Nat → Int32} {k : Nat} {v : zq_N} (h : zm_node f k v) (hv : zi_cat v) (he : ∀ a, zm_at k ≤ a → a < zm_at k + 545 → f' a = f a) : zm_node f' k v := by
  obtain ⟨⟨a0, a1, a2⟩, ⟨a3, a4, a5⟩, ⟨a6, a7⟩, ⟨a8, a9, a10⟩, a11⟩ := h
  obtain ⟨⟨i1, i2⟩, i3, ⟨i4, i5⟩, i6, _⟩ := hv
  refine ⟨⟨(he _ (by omega) (by omega)).trans a0, (he _ (by omega) (by omega)).trans a1, (he _ (by omega) (by omega)).trans a2⟩, ⟨(he _ (by omega) (by omega)).trans a3, a4.keep (fun a q1 q2 => he a (by omega) (by omega)), a5.keep (fun a q1 q2 => he a (by omega) (by omega))⟩, ⟨(he _ (by omega) (by omega)).trans a6, a7.keep (fun a q1 q2 => he a (by omega) (by omega))⟩, ⟨(he _ (by omega) (by omega)).trans a8, a9.keep (fun a q1 q2 => he a (by omega) (by omega)), a10.keep (fun a q1 q2 => he a (by omega) (by omega))⟩, fun j hj => (a11 j hj).keep (fun a q1 q2 => he a (by omega) (by have := i6 j hj; omega))⟩
