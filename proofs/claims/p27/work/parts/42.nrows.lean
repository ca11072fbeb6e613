/-! Rows of small numbers. -/
def zn_pos (v : Nat) : List Nat → Nat
  | [] => 0
  | x :: t => if x = v then 0 else zn_pos v t + 1
/-- how many at the front are less than lim -/
def zn_fal (lim : Nat) : List Nat → Nat
  | [] => 0
  | x :: t => if lim ≤ x then 0 else zn_fal lim t + 1
def zn_row (g : bq_G) (E : bq_E) (h cap : Nat) (xs : List Nat) : Prop := zq_row g E h cap (xs.map nI) ∧ ∀ x ∈ xs, x ≤ 10000
theorem zn_fal_le (lim : Nat) (xs : List Nat) : zn_fal lim xs ≤ xs.length := by
  induction xs with
  | nil => exact Nat.le_refl _
  | cons x t ih =>
    unfold zn_fal
    split
    · omega
    · simp; exact ih
theorem zn_pos_lt {v : Nat} {xs : List Nat} (h : v ∈ xs) : zn_pos v xs < xs.length := by
  induction xs with
  | nil => cases h
  | cons x t ih =>
    unfold zn_pos
    split
    · simp
    · rename_i hx
      rcases List.mem_cons.mp h with rfl | h
      · exact absurd rfl hx
      · have := ih h
        simp
        exact this
theorem nI_inj {a b : Nat} (ha : a ≤ 10000) (hb : b ≤ 10000) : nI a = nI b ↔ a = b := nI_eq (by omega) (by omega)
theorem zn_mem {v : Nat} (hv : v ≤ 10000) {xs : List Nat} (hb : ∀ x ∈ xs, x ≤ 10000) : nI v ∈ xs.map nI ↔ v ∈ xs := by
  rw [List.mem_map]
  constructor
  · rintro ⟨a, ha, e⟩
    rw [nI_inj (hb a ha) hv] at e
    exact e ▸ ha
  · exact fun h => ⟨v, h, rfl⟩
theorem zn_pos_map {v : Nat} (hv : v ≤ 10000) {xs : List Nat} (hb : ∀ x ∈ xs, x ≤ 10000) : zq_pos (nI v) (xs.map nI) = zn_pos v xs := by
  induction xs with
  | nil => rfl
  | cons x t ih =>
    rw [List.map_cons]
    unfold zq_pos zn_pos
    have h1 := nI_inj (hb x List.mem_cons_self) hv
    by_cases h : x = v
    · rw [if_pos h, if_pos (h1.mpr h)]
    · rw [if_neg h, if_neg (fun q => h (h1.mp q)), ih (fun y hy => hb y (List.mem_cons_of_mem _ hy))]
theorem zn_fal_map {v : Nat} (hv : v ≤ 10001) {xs : List Nat} (hb : ∀ x ∈ xs, x ≤ 10000) : zq_fal (nI v) (xs.map nI) = zn_fal v xs := by
  induction xs with
  | nil => rfl
  | cons x t ih =>
    rw [List.map_cons]
    unfold zq_fal zn_fal
    have h1 := nI_leI (a := v) (b := x) (by omega) (by have := hb x List.mem_cons_self; omega)
    by_cases h : v ≤ x
    · rw [if_pos h, if_pos (h1.mpr h)]
    · rw [if_neg h, if_neg (fun q => h (h1.mp q)), ih (fun y hy => hb y (List.mem_cons_of_mem _ hy))]
theorem zn_getD (xs : List Nat) (k d : Nat) : (xs.map nI).getD k (nI d) = nI (xs.getD k d) := by
  simp only [List.getD, List.getElem?_map]
  cases xs[k]? <;> rfl
section ZnR
variable {g : bq_G} {E : bq_E} {h cap : Nat} {xs : List Nat}
theorem zn_row.keep {E' : bq_E} (H : zn_row g E h cap xs) (h1 : E' h = E h) (h2 : E' (h + 1) = E (h + 1)) : zn_row g E' h cap xs := ⟨H.1.keep h1 h2, H.2⟩
theorem zn_row.same {E' : bq_E} {lo hi : Nat} (H : zn_row g E h cap xs) (s : zq_same E E' lo hi) (ho : h + 2 ≤ lo ∨ hi ≤ h) : zn_row g E' h cap xs := ⟨H.1.same s ho, H.2⟩
theorem zn_row.len (H : zn_row g E h cap xs) : xs.length ≤ cap := by have := H.1.len; simpa using this
theorem zn_row.thou (H : zn_row g E h cap xs) : cap ≤ 1000 := H.1.2.1.2
theorem zn_size (H : zn_row g E h cap xs) : tw_X3_size E h = some (nI xs.length) := by rw [zq_size H.1, List.length_map]
theorem zn_at (H : zn_row g E h cap xs) {k : Nat} (hk : k < 2 ^ 31) (d : Nat) : tw_X3_at E h (nI k) (nI d) = some (nI (xs.getD k d)) := by rw [zq_atn H.1 hk, zn_getD]
theorem zn_at0 (H : zn_row g E h cap xs) {k : Nat} (hk : k < 2 ^ 31) : tw_X3_at E h (nI k) 0 = some (nI (xs.getD k 0)) := zn_at H hk 0
theorem zn_atM (H : zn_row g E h cap xs) (i : Int32) : tw_X3_at E h i (-1) = some (if i < 0 then -1 else match xs[i.toNatClampNeg]? with | some v => nI v | none => -1) := by
  rw [zq_at H.1]
  unfold zq_rat
  simp only [List.getD, List.getElem?_map]
  by_cases h0 : i < 0
  · rw [if_pos h0, if_pos h0]
  · rw [if_neg h0, if_neg h0]
    cases xs[i.toNatClampNeg]? <;> rfl
theorem zn_cutTo (H : zn_row g E h cap xs) {k : Nat} (hk : k ≤ xs.length) : ∃ E', tw_X3_cutTo E h (nI k) = some E' ∧ zn_row g E' h cap (xs.take k) ∧ zq_same E E' h (h + 2) := by
  obtain ⟨E', q1, q2, q3⟩ := zq_cutTo H.1 (k := k) (by simpa using hk)
  exact ⟨E', q1, ⟨by rw [List.map_take]; exact q2, fun x hx => H.2 x (List.mem_of_mem_take hx)⟩, q3⟩
theorem zn_cut0 (H : zn_row g E h cap xs) : ∃ E', tw_X3_cutTo E h 0 = some E' ∧ zn_row g E' h cap [] ∧ zq_same E E' h (h + 2) := by
  obtain ⟨E', q1, q2, q3⟩ := zn_cutTo H (k := 0) (Nat.zero_le _)
  exact ⟨E', q1, q2, q3⟩
theorem zn_put (H : zn_row g E h cap xs) {k : Nat} (hk : k < xs.length) {v : Nat} (hv : v ≤ 10000) : ∃ E', tw_X3_put E h (nI k) (nI v) = some E' ∧ zn_row g E' h cap (xs.set k v) ∧ zq_same E E' h (h + 2) := by
  obtain ⟨E', q1, q2, q3⟩ := zq_put H.1 (k := k) (by simpa using hk) (nI v)
  refine ⟨E', q1, ⟨by rw [List.map_set]; exact q2, fun x hx => ?_⟩, q3⟩
  rcases List.mem_or_eq_of_mem_set hx with h | h
  · exact H.2 x h
  · omega
theorem zn_append (H : zn_row g E h cap xs) (hl : xs.length < cap) {v : Nat} (hv : v ≤ 10000) : ∃ E', tw_X3_append E h (nI v) = some E' ∧ zn_row g E' h cap (xs ++ [v]) ∧ zq_same E E' h (h + 2) := by
  obtain ⟨E', q1, q2, q3⟩ := zq_append H.1 (by simpa using hl) (nI v)
  refine ⟨E', q1, ⟨by rw [List.map_append]; exact q2, fun x hx => ?_⟩, q3⟩
  rcases List.mem_append.mp hx with h | h
  · exact H.2 x h
  · have := List.mem_singleton.mp h; omega
theorem zn_indexOf (H : zn_row g E h cap xs) {v : Nat} (hv : v ≤ 10000) : tw_X3_indexOf E h (nI v) = some (if v ∈ xs then nI (zn_pos v xs) else -1) := by
  rw [zq_indexOf H.1]
  unfold zq_ix
  rw [zn_pos_map hv H.2]
  by_cases h : v ∈ xs
  · rw [if_pos h, if_pos ((zn_mem hv H.2).mpr h)]
  · rw [if_neg h, if_neg (fun q => h ((zn_mem hv H.2).mp q))]
theorem zn_firstAtLeast (H : zn_row g E h cap xs) {lim : Nat} (hv : lim ≤ 10001) {k : Nat} (hk : k ≤ xs.length) : tw_X3_firstAtLeast E h (nI lim) (nI k) = some (nI (k + zn_fal lim (xs.drop k))) := by
  rw [zq_firstAtLeast H.1 (nI lim) (k := k) (by simpa using hk), ← List.map_drop, zn_fal_map hv (fun x hx => H.2 x (List.mem_of_mem_drop hx))]
theorem zn_insert (H : zn_row g E h cap xs) (hl : xs.length < cap) {k : Nat} (hk : k ≤ xs.length) {v : Nat} (hv : v ≤ 10000) : ∃ E', tw_X3_insert E h (nI k) (nI v) = some E' ∧ zn_row g E' h cap (xs.take k ++ v :: xs.drop k) ∧ zq_same E E' h (h + 2) := by
  obtain ⟨E', q1, q2, q3⟩ := zq_insert H.1 (by simpa using hl) (k := k) (by simpa using hk) (nI v)
  refine ⟨E', q1, ⟨by rw [List.map_append, List.map_cons, List.map_take, List.map_drop]; exact q2, fun x hx => ?_⟩, q3⟩
  rcases List.mem_append.mp hx with h | h
  · exact H.2 x (List.mem_of_mem_take h)
  · rcases List.mem_cons.mp h with h | h
    · omega
    · exact H.2 x (List.mem_of_mem_drop h)
theorem zn_cutOut (H : zn_row g E h cap xs) {k : Nat} (hk : k < xs.length) : ∃ E', tw_X3_cutOut E h (nI k) = some E' ∧ zn_row g E' h cap (xs.take k ++ xs.drop (k + 1)) ∧ zq_same E E' h (h + 2) := by
  obtain ⟨E', q1, q2, q3⟩ := zq_cutOut H.1 (k := k) (by simpa using hk)
  refine ⟨E', q1, ⟨by rw [List.map_append, List.map_take, List.map_drop]; exact q2, fun x hx => ?_⟩, q3⟩
  rcases List.mem_append.mp hx with h | h
  · exact H.2 x (List.mem_of_mem_take h)
  · exact H.2 x (List.mem_of_mem_drop h)
theorem zn_copy {h2 cap2 : Nat} {ys : List Nat} (H : zn_row g E h cap xs) (H2 : zn_row g E h2 cap2 ys) (hc : ys.length ≤ cap) : ∃ E', tw_X3_copyFrom E h h2 = some E' ∧ zn_row g E' h cap ys ∧ zq_same E E' h (h + 2) := by
  obtain ⟨E', q1, q2, q3⟩ := zq_copy H.1 H2.1 (by simpa using hc)
  exact ⟨E', q1, ⟨q2, H2.2⟩, q3⟩
end ZnR
