/-! THE PURE PART. Rows: an object at h, its array at h + 1. -/
def zq_same (E E' : bq_E) (lo hi : Nat) : Prop := ∀ a, (a < lo ∨ hi ≤ a) → E' a = E a
theorem zq_same.refl {E : bq_E} {lo hi : Nat} : zq_same E E lo hi := fun _ _ => rfl
theorem zq_same.trans {E E' E'' : bq_E} {lo hi : Nat} (h : zq_same E E' lo hi) (h' : zq_same E' E'' lo hi) : zq_same E E'' lo hi := fun a ha => (h' a ha).trans (h a ha)
theorem zq_same.wide {E E' : bq_E} {lo hi lo' hi' : Nat} (h : zq_same E E' lo hi) (h1 : lo' ≤ lo) (h2 : hi ≤ hi') : zq_same E E' lo' hi' := fun a ha => h a (by omega)
theorem zq_same.up {E : bq_E} {lo hi a : Nat} {x : va_E} (h : lo ≤ a ∧ a < hi) : zq_same E (va_up E a x) lo hi := fun b hb => va_up_ne _ _ (by omega)
def zq_row (g : bq_G) (E : bq_E) (h cap : Nat) (xs : List Int32) : Prop :=
  E h = .inr (3, [.ref (h + 1), .int (nI xs.length)]) ∧ (xs.length ≤ cap ∧ cap ≤ 1000) ∧ ∃ f : Nat → Int32, E (h + 1) = .inl (g.2.1, cap, .inl f) ∧ ∀ i, i < xs.length → xs[i]? = some (f i)
theorem zq_row.keep {g : bq_G} {E E' : bq_E} {h cap : Nat} {xs : List Int32} (H : zq_row g E h cap xs) (h1 : E' h = E h) (h2 : E' (h + 1) = E (h + 1)) : zq_row g E' h cap xs := by
  obtain ⟨a, b, f, c, d⟩ := H
  exact ⟨h1.trans a, b, f, h2.trans c, d⟩
theorem zq_row.same {g : bq_G} {E E' : bq_E} {h cap lo hi : Nat} {xs : List Int32} (H : zq_row g E h cap xs) (s : zq_same E E' lo hi) (ho : h + 2 ≤ lo ∨ hi ≤ h) : zq_row g E' h cap xs := H.keep (s h (by omega)) (s (h + 1) (by omega))
theorem zq_row.len {g : bq_G} {E : bq_E} {h cap : Nat} {xs : List Int32} (H : zq_row g E h cap xs) : xs.length ≤ cap := H.2.1.1
theorem zq_row.lt {g : bq_G} {E : bq_E} {h cap : Nat} {xs : List Int32} (H : zq_row g E h cap xs) : xs.length < 2 ^ 31 := by
  have := H.2.1
  omega
-- single words
section ZqW
variable {E : bq_E} {a c k : Nat} {fs : List Value}
theorem zq_cls (h : E a = .inr (c, fs)) : bq_cls E a = c := by simp [bq_cls, h]
theorem zq_fv {v : Value} (h : E a = .inr (c, fs)) (hk : fs[k]? = some v) : bq_fv E a c k = some v := by simp [bq_fv, h, hk]
theorem zq_fi {v : Int32} (h : E a = .inr (c, fs)) (hk : fs[k]? = some (.int v)) : bq_fi E a c k = some v := by simp [bq_fi, zq_fv h hk]
theorem zq_fr {v : Nat} (h : E a = .inr (c, fs)) (hk : fs[k]? = some (.ref v)) : bq_fr E a c k = some v := by simp [bq_fr, zq_fv h hk]
theorem zq_p (v : Value) (h : E a = .inr (c, fs)) (hk : k < fs.length) : bq_p E a c k v = some (va_up E a (.inr (c, fs.set k v))) := by simp [bq_p, h, hk]
variable {n : Nat} {f : Nat → Int32} {cA : ClassId}
theorem zq_len {x : vp_A} (h : E a = .inl (cA, x)) : bq_len E a = some (nI x.1) := by simp [bq_len, h, nI]
theorem zq_ai {i : Nat} (h : E a = .inl (cA, n, .inl f)) (hi : i < n) (hn : n < 2 ^ 31) : bq_ai E a (nI i) = some (f i) := by
  have h1 := nI_in hi hn
  have h2 := nI_clamp (n := i) (by omega)
  simp only [bq_ai, h]
  rw [if_neg h1, h2]
theorem zq_si {i : Nat} (v : Int32) (h : E a = .inl (cA, n, .inl f)) (hi : i < n) (hn : n < 2 ^ 31) : bq_si E a (nI i) v = some (va_up E a (.inl (cA, n, .inl (upd f i v)))) := by
  have h1 := nI_in hi hn
  have h2 := nI_clamp (n := i) (by omega)
  simp only [bq_si, h]
  rw [if_neg h1, h2]
end ZqW
section ZqR
variable {g : bq_G} {E : bq_E} {h cap : Nat} {xs : List Int32}
theorem zq_size (H : zq_row g E h cap xs) : tw_X3_size E h = some (nI xs.length) := by
  obtain ⟨a, b, f, c, d⟩ := H
  simp [tw_X3_size, zq_cls a, zq_fi (k := 1) a rfl]
def zq_rat (xs : List Int32) (i d : Int32) : Int32 := if i < 0 then d else xs.getD i.toNatClampNeg d
theorem zq_rat_nI (xs : List Int32) {k : Nat} (hk : k < 2 ^ 31) (d : Int32) : zq_rat xs (nI k) d = xs.getD k d := by
  unfold zq_rat
  rw [if_neg (nI_pos hk), nI_clamp hk]
theorem zq_at (H : zq_row g E h cap xs) (i d : Int32) : tw_X3_at E h i d = some (zq_rat xs i d) := by
  have hlt := H.lt
  obtain ⟨a, b, f, c, e⟩ := H
  have hcap : cap < 2 ^ 31 := by omega
  unfold tw_X3_at zq_rat
  rw [if_pos (zq_cls a), zq_fi (k := 1) a rfl, zq_fr (k := 0) a rfl]
  simp only [Option.bind_some, zq_len c]
  by_cases h0 : i < 0
  · rw [if_pos h0, if_pos h0]
  · rw [if_neg h0, if_neg h0]
    obtain ⟨j, hj, rfl⟩ := nI_of h0
    rw [nI_clamp hj]
    by_cases h1 : j < xs.length
    · rw [if_neg (nI_ge h1 hlt)]
      have h2 : ¬ nI cap ≤ nI j := nI_ge (by omega) hcap
      rw [if_neg h2, zq_ai c (by omega) hcap]
      simp [List.getD, e j h1]
    · rw [if_pos (nI_le (by omega) hj)]
      simp [List.getD, List.getElem?_eq_none (Nat.not_lt.mp h1)]
theorem zq_atn (H : zq_row g E h cap xs) {k : Nat} (hk : k < 2 ^ 31) (d : Int32) : tw_X3_at E h (nI k) d = some (xs.getD k d) := by rw [zq_at H, zq_rat_nI xs hk]
theorem zq_cutTo (H : zq_row g E h cap xs) {k : Nat} (hk : k ≤ xs.length) : ∃ E', tw_X3_cutTo E h (nI k) = some E' ∧ zq_row g E' h cap (xs.take k) ∧ zq_same E E' h (h + 2) := by
  have hlt := H.lt
  obtain ⟨a, b, f, c, e⟩ := id H
  unfold tw_X3_cutTo
  rw [if_pos (zq_cls a), if_neg (nI_pos (by omega)), zq_fi (k := 1) a rfl]
  simp only [Option.bind_some]
  by_cases h1 : k < xs.length
  · rw [if_neg (nI_ge h1 hlt), zq_p _ a (by simp)]
    refine ⟨_, rfl, ⟨?_, ⟨by simp; omega, b.2⟩, f, ?_, fun i hi => ?_⟩, zq_same.up (by omega)⟩
    · rw [va_up_self]
      simp [Nat.min_eq_left hk]
    · rw [va_up_ne _ _ (by omega)]; exact c
    · simp at hi
      rw [List.getElem?_take_of_lt (by omega)]
      exact e i (by omega)
  · rw [if_pos (nI_le (by omega) (by omega))]
    have : xs.take k = xs := List.take_of_length_le (by omega)
    rw [this]
    exact ⟨E, rfl, H, zq_same.refl⟩
theorem zq_put (H : zq_row g E h cap xs) {k : Nat} (hk : k < xs.length) (v : Int32) : ∃ E', tw_X3_put E h (nI k) v = some E' ∧ zq_row g E' h cap (xs.set k v) ∧ zq_same E E' h (h + 2) := by
  have hlt := H.lt
  obtain ⟨a, b, f, c, e⟩ := id H
  have hcap : cap < 2 ^ 31 := by omega
  unfold tw_X3_put
  rw [if_pos (zq_cls a), if_neg (nI_pos (by omega)), zq_fi (k := 1) a rfl, zq_fr (k := 0) a rfl]
  simp only [Option.bind_some, zq_len c]
  have h2 : ¬ nI cap ≤ nI k := nI_ge (by omega) hcap
  rw [if_neg (nI_ge hk hlt), if_neg h2, zq_si v c (by omega) hcap]
  refine ⟨_, rfl, ⟨?_, ⟨by simp; omega, b.2⟩, upd f k v, ?_, fun i hi => ?_⟩, zq_same.up (by omega)⟩
  · rw [va_up_ne _ _ (by omega)]; simpa using a
  · rw [va_up_self]
  · simp at hi
    by_cases hik : i = k
    · subst hik
      rw [pk_us, List.getElem?_set_self hi]
    · rw [pk_un hik, List.getElem?_set_ne (fun h => hik h.symm)]
      exact e i hi
theorem zq_append (H : zq_row g E h cap xs) (hl : xs.length < cap) (v : Int32) : ∃ E', tw_X3_append E h v = some E' ∧ zq_row g E' h cap (xs ++ [v]) ∧ zq_same E E' h (h + 2) := by
  have hlt := H.lt
  obtain ⟨a, b, f, c, e⟩ := id H
  have hcap : cap < 2 ^ 31 := by omega
  unfold tw_X3_append
  rw [if_pos (zq_cls a), zq_fi (k := 1) a rfl, zq_fr (k := 0) a rfl]
  simp only [Option.bind_some, zq_len c]
  have h2 : ¬ nI cap ≤ nI xs.length := nI_ge hl hcap
  rw [if_neg (nI_pos hlt), if_neg h2, zq_si v c hl hcap]
  simp only [Option.bind_some]
  have a2 : va_up E (h + 1) (.inl (g.2.1, cap, .inl (upd f xs.length v))) h = .inr (3, [.ref (h + 1), .int (nI xs.length)]) := by
    rw [va_up_ne _ _ (by omega)]; exact a
  rw [zq_fi (k := 1) a2 rfl]
  simp only [Option.bind_some]
  rw [zq_p _ a2 (by simp)]
  refine ⟨_, rfl, ⟨?_, ⟨by simp; omega, b.2⟩, upd f xs.length v, ?_, fun i hi => ?_⟩, ?_⟩
  · rw [va_up_self]
    simp [nI_1]
  · rw [va_up_ne _ _ (by omega), va_up_self]
  · simp at hi
    by_cases hik : i = xs.length
    · subst hik
      rw [pk_us]
      simp
    · rw [pk_un hik, List.getElem?_append_left (by omega)]
      exact e i (by omega)
  · exact (zq_same.up (by omega)).trans (zq_same.up (by omega))
end ZqR
