/-! Entries in order: pairs of a key and an origin. -/
abbrev zp_le (a b : Nat × Nat) : Prop := a.1 < b.1 ∨ (a.1 = b.1 ∧ a.2 ≤ b.2)
theorem zp_le_trans {a b c : Nat × Nat} (h : zp_le a b) (h2 : zp_le b c) : zp_le a c := by unfold zp_le at *; omega
theorem zp_le_anti {a b : Nat × Nat} (h : zp_le a b) (h2 : zp_le b a) : a = b := by
  unfold zp_le at *
  exact Prod.ext (by omega) (by omega)
theorem zp_le_tot (a b : Nat × Nat) : zp_le a b ∨ zp_le b a := by unfold zp_le; omega
theorem zp_nle {a b : Nat × Nat} (h : ¬ zp_le a b) : zp_le b a := (zp_le_tot a b).resolve_left h
/-- put p behind all that are not greater -/
def zp_ins (p : Nat × Nat) : List (Nat × Nat) → List (Nat × Nat)
  | [] => [p]
  | q :: t => if zp_le q p then q :: zp_ins p t else p :: q :: t
theorem zp_ins_perm (p : Nat × Nat) (xs : List (Nat × Nat)) : (zp_ins p xs).Perm (p :: xs) := by
  induction xs with
  | nil => exact List.Perm.refl _
  | cons q t ih =>
    unfold zp_ins
    split
    · exact (List.Perm.cons q ih).trans (List.Perm.swap p q t)
    · exact List.Perm.refl _
theorem zp_ins_sorted {p : Nat × Nat} {xs : List (Nat × Nat)} (h : xs.Pairwise zp_le) : (zp_ins p xs).Pairwise zp_le := by
  induction xs with
  | nil => exact List.pairwise_singleton _ _
  | cons q t ih =>
    have hq := List.pairwise_cons.mp h
    unfold zp_ins
    split
    · rename_i hqp
      refine List.pairwise_cons.mpr ⟨fun r hr => ?_, ih hq.2⟩
      rcases List.mem_cons.mp ((zp_ins_perm p t).mem_iff.mp hr) with rfl | hr
      · exact hqp
      · exact hq.1 r hr
    · rename_i hqp
      refine List.pairwise_cons.mpr ⟨fun r hr => ?_, h⟩
      rcases List.mem_cons.mp hr with rfl | hr
      · exact zp_nle hqp
      · exact zp_le_trans (zp_nle hqp) (hq.1 r hr)
def zp_inss : List (Nat × Nat) → List (Nat × Nat) → List (Nat × Nat)
  | xs, [] => xs
  | xs, p :: t => zp_inss (zp_ins p xs) t
theorem zp_inss_perm (xs ys : List (Nat × Nat)) : (zp_inss xs ys).Perm (xs ++ ys) := by
  induction ys generalizing xs with
  | nil => rw [List.append_nil]; exact List.Perm.refl _
  | cons p t ih =>
    refine (ih (zp_ins p xs)).trans ?_
    refine ((zp_ins_perm p xs).append_right t).trans ?_
    exact List.perm_middle.symm
theorem zp_inss_sorted {xs ys : List (Nat × Nat)} (h : xs.Pairwise zp_le) : (zp_inss xs ys).Pairwise zp_le := by
  induction ys generalizing xs with
  | nil => exact h
  | cons p t ih => exact ih (zp_ins_sorted h)
theorem zp_unique {xs ys : List (Nat × Nat)} (hp : xs.Perm ys) (hx : xs.Pairwise zp_le) (hy : ys.Pairwise zp_le) : xs = ys := List.Perm.eq_of_pairwise (fun _ _ _ _ h h2 => zp_le_anti h h2) hx hy hp
/-- each st-th of a list, from the j-th -/
def zp_sam (st : Nat) (l : List Nat) : Nat → Nat → List Nat
  | 0, _ => []
  | n + 1, j => if j < l.length then l.getD j 0 :: zp_sam st l n (j + st) else []
theorem zp_sam_mem {st : Nat} {l : List Nat} : ∀ {n j x : Nat}, x ∈ zp_sam st l n j → x ∈ l
  | 0, _, _, h => by simp [zp_sam] at h
  | n + 1, j, x, h => by
    unfold zp_sam at h
    split at h
    · rename_i hj
      rcases List.mem_cons.mp h with rfl | h
      · rw [zn_gD hj]; exact List.getElem_mem hj
      · exact zp_sam_mem h
    · simp at h
theorem zp_sam_fuel {st : Nat} {l : List Nat} (hs : 1 ≤ st) : ∀ {n n' j : Nat}, l.length - j ≤ n → l.length - j ≤ n' → zp_sam st l n j = zp_sam st l n' j
  | 0, 0, _, _, _ => rfl
  | 0, n' + 1, j, h, _ => by
    unfold zp_sam
    rw [if_neg (by omega)]
  | n + 1, 0, j, _, h => by
    unfold zp_sam
    rw [if_neg (by omega)]
  | n + 1, n' + 1, j, h, h' => by
    unfold zp_sam
    by_cases q : j < l.length
    · rw [if_pos q, if_pos q, zp_sam_fuel hs (n := n) (n' := n') (by omega) (by omega)]
    · rw [if_neg q, if_neg q]
theorem zp_sam_len {st : Nat} {l : List Nat} (hs : 1 ≤ st) : ∀ (n j : Nat), (zp_sam st l n j).length * st ≤ (l.length - j) + (st - 1)
  | 0, j => by simp [zp_sam]
  | n + 1, j => by
    unfold zp_sam
    by_cases q : j < l.length
    · rw [if_pos q]
      have := zp_sam_len (l := l) hs n (j + st)
      rw [List.length_cons, Nat.succ_mul]
      by_cases q2 : j + st ≤ l.length
      · omega
      · have e : zp_sam st l n (j + st) = [] := by
          cases n with
          | zero => rfl
          | succ n => unfold zp_sam; rw [if_neg (by omega)]
        rw [e]
        simp
        omega
    · rw [if_neg q]; simp
/-- all the entries that a node's list is made of -/
def zp_all (st : Nat) (b l r : List Nat) : List (Nat × Nat) := b.map (·, 0) ++ (zp_sam st l l.length (st - 1)).map (·, 1) ++ (zp_sam st r r.length (st - 1)).map (·, 2)
theorem zn_nondec {l : List Nat} (h : l.Pairwise (· ≤ ·)) {i j : Nat} (hij : i ≤ j) (hj : j < l.length) : l.getD i 0 ≤ l.getD j 0 := by
  rw [zn_gD (by omega), zn_gD hj]
  by_cases e : i = j
  · subst e; exact Nat.le_refl _
  · exact List.pairwise_iff_getElem.mp h i j (by omega) hj (by omega)
theorem zp_sam_ge {st : Nat} {l : List Nat} (h : l.Pairwise (· ≤ ·)) : ∀ {n j x : Nat}, x ∈ zp_sam st l n j → ∀ i, i ≤ j → l.getD i 10000 ≤ x
  | 0, _, _, hx => by simp [zp_sam] at hx
  | n + 1, j, x, hx => by
    intro i hi
    unfold zp_sam at hx
    split at hx
    · rename_i hj
      rcases List.mem_cons.mp hx with rfl | hx
      · have := zn_nondec h hi hj
        rw [zn_gD (by omega)] at this ⊢
        exact this
      · exact zp_sam_ge h hx i (by omega)
    · simp at hx
