/-! The merge is the entries in order. -/
theorem zp_sam_step {st : Nat} {l : List Nat} (hs : 1 ≤ st) {j : Nat} (h : j < l.length) : zp_sam st l l.length j = l.getD j 0 :: zp_sam st l l.length (j + st) := by
  rw [zp_sam_fuel hs (n := l.length) (n' := l.length + 1) (by omega) (by omega)]
  show (if j < l.length then _ else _) = _
  rw [if_pos h]
theorem zp_sam_end {st : Nat} {l : List Nat} {j : Nat} (h : l.length ≤ j) : zp_sam st l l.length j = [] := by
  cases hl : l.length with
  | zero => rfl
  | succ n =>
    unfold zp_sam
    rw [if_neg (by omega)]
theorem zn_drop_ge {b : List Nat} (h : b.Pairwise (· ≤ ·)) {i x : Nat} (hx : x ∈ b.drop i) : b.getD i 10000 ≤ x := by
  have hi : i < b.length := by
    by_cases q : i < b.length
    · exact q
    · rw [List.drop_of_length_le (by omega)] at hx
      simp at hx
  rw [zn_gD hi]
  have h2 : (b.drop i).Pairwise (· ≤ ·) := h.sublist (List.drop_sublist _ _)
  rw [List.drop_eq_getElem_cons hi] at h2 hx
  rcases List.mem_cons.mp hx with rfl | hx
  · exact Nat.le_refl _
  · exact (List.pairwise_cons.mp h2).1 x hx
theorem zn_gD_top {b : List Nat} {i : Nat} (h : b.length ≤ i) : b.getD i 10000 = 10000 := by simp [List.getD, List.getElem?_eq_none h]
def zp_rest (st : Nat) (b l r : List Nat) (i j k : Nat) : List (Nat × Nat) := (b.drop i).map (·, 0) ++ (zp_sam st l l.length j).map (·, 1) ++ (zp_sam st r r.length k).map (·, 2)
theorem zp_rest_ge {st : Nat} {b l r : List Nat} (hb : b.Pairwise (· ≤ ·)) (hl : l.Pairwise (· ≤ ·)) (hr : r.Pairwise (· ≤ ·)) {i j k : Nat} {q : Nat × Nat} (hq : q ∈ zp_rest st b l r i j k) : (q.2 = 0 ∧ b.getD i 10000 ≤ q.1) ∨ (q.2 = 1 ∧ ∀ a, a ≤ j → l.getD a 10000 ≤ q.1) ∨ (q.2 = 2 ∧ ∀ a, a ≤ k → r.getD a 10000 ≤ q.1) := by
  unfold zp_rest at hq
  rcases List.mem_append.mp hq with hq | hq
  · rcases List.mem_append.mp hq with hq | hq
    · obtain ⟨x, hx, rfl⟩ := List.mem_map.mp hq
      exact Or.inl ⟨rfl, zn_drop_ge hb hx⟩
    · obtain ⟨x, hx, rfl⟩ := List.mem_map.mp hq
      exact Or.inr (Or.inl ⟨rfl, fun a ha => zp_sam_ge hl hx a ha⟩)
  · obtain ⟨x, hx, rfl⟩ := List.mem_map.mp hq
    exact Or.inr (Or.inr ⟨rfl, fun a ha => zp_sam_ge hr hx a ha⟩)
theorem zl_mn_cases (a b c : Nat) : zl_mn a b c ≤ a ∧ zl_mn a b c ≤ b ∧ zl_mn a b c ≤ c ∧ (zl_mn a b c = a ∨ zl_mn a b c = b ∨ zl_mn a b c = c) := by
  unfold zl_mn
  by_cases q : c < b
  · rw [if_pos q]
    by_cases q2 : c < a
    · rw [if_pos q2]; omega
    · rw [if_neg q2]; omega
  · rw [if_neg q]
    by_cases q2 : b < a
    · rw [if_pos q2]; omega
    · rw [if_neg q2]; omega
theorem zl_merge_rest {st : Nat} {b l r : List Nat} (hs : 1 ≤ st) (hb : b.Pairwise (· ≤ ·)) (hl : l.Pairwise (· ≤ ·)) (hr : r.Pairwise (· ≤ ·)) (bb : ∀ x ∈ b, x < 10000) (bl : ∀ x ∈ l, x < 10000) (br : ∀ x ∈ r, x < 10000) : ∀ (n i j k : Nat), (b.length - i) + (l.length - j) + (r.length - k) ≤ n → (zl_merge st b l r n i j k).Perm (zp_rest st b l r i j k) ∧ (zl_merge st b l r n i j k).Pairwise zp_le := by
  intro n
  induction n with
  | zero =>
    intro i j k h
    have e : zp_rest st b l r i j k = [] := by
      unfold zp_rest
      rw [List.drop_of_length_le (by omega), zp_sam_end (by omega), zp_sam_end (by omega)]
      rfl
    rw [e]
    exact ⟨List.Perm.refl _, List.Pairwise.nil⟩
  | succ n ih =>
    intro i j k h
    have hin : ∀ {xs : List Nat} {a : Nat}, (∀ x ∈ xs, x < 10000) → xs.getD a 10000 ≠ 10000 → a < xs.length := by
      intro xs a _ hne
      by_cases q : a < xs.length
      · exact q
      · exact absurd (zn_gD_top (by omega)) hne
    have hout : ∀ {xs : List Nat} {a : Nat}, (∀ x ∈ xs, x < 10000) → 10000 ≤ xs.getD a 10000 → xs.length ≤ a := by
      intro xs a hx hge
      by_cases q : a < xs.length
      · rw [zn_gD q] at hge
        have := hx _ (List.getElem_mem q)
        omega
      · omega
    obtain ⟨m1, m2, m3, m4⟩ := zl_mn_cases (b.getD i 10000) (l.getD j 10000) (r.getD k 10000)
    unfold zl_merge
    generalize zl_mn (b.getD i 10000) (l.getD j 10000) (r.getD k 10000) = mn at *
    by_cases hend : mn = 10000
    · rw [if_pos hend]
      have e : zp_rest st b l r i j k = [] := by
        unfold zp_rest
        rw [List.drop_of_length_le (hout bb (by omega)), zp_sam_end (hout bl (by omega)), zp_sam_end (hout br (by omega))]
        rfl
      rw [e]
      exact ⟨List.Perm.refl _, List.Pairwise.nil⟩
    · rw [if_neg hend]
      by_cases c1 : b.getD i 10000 = mn
      · rw [if_pos c1]
        have hi : i < b.length := hin bb (by omega)
        obtain ⟨p1, p2⟩ := ih (i + 1) j k (by omega)
        refine ⟨?_, List.pairwise_cons.mpr ⟨fun q hq => ?_, p2⟩⟩
        · have e : zp_rest st b l r i j k = (mn, 0) :: zp_rest st b l r (i + 1) j k := by
            unfold zp_rest
            rw [List.drop_eq_getElem_cons hi, ← zn_gD (d := 10000) hi, c1]
            rfl
          rw [e]
          exact List.Perm.cons _ p1
        · have hq2 := p1.mem_iff.mp hq
          rcases zp_rest_ge hb hl hr hq2 with ⟨q1, q2⟩ | ⟨q1, q2⟩ | ⟨q1, q2⟩
          · have : b.getD i 10000 ≤ q.1 := by
              by_cases hi2 : i + 1 < b.length
              · have h3 := zn_nondec hb (i := i) (j := i + 1) (by omega) hi2
                rw [zn_gD hi, zn_gD hi2] at h3
                rw [zn_gD hi2] at q2
                rw [zn_gD hi]
                omega
              · rw [zn_gD_top (by omega)] at q2
                rw [zn_gD hi]
                have := bb _ (List.getElem_mem hi)
                omega
            show mn < q.1 ∨ (mn = q.1 ∧ 0 ≤ q.2)
            omega
          · have := q2 j (Nat.le_refl _)
            show mn < q.1 ∨ (mn = q.1 ∧ 0 ≤ q.2)
            omega
          · have := q2 k (Nat.le_refl _)
            show mn < q.1 ∨ (mn = q.1 ∧ 0 ≤ q.2)
            omega
      · rw [if_neg c1]
        by_cases c2 : l.getD j 10000 = mn
        · rw [if_pos c2]
          have hj : j < l.length := hin bl (by omega)
          obtain ⟨p1, p2⟩ := ih i (j + st) k (by omega)
          refine ⟨?_, List.pairwise_cons.mpr ⟨fun q hq => ?_, p2⟩⟩
          · have e : (zp_rest st b l r i j k).Perm ((mn, 1) :: zp_rest st b l r i (j + st) k) := by
              unfold zp_rest
              have hg : l.getD j 0 = mn := by rw [← c2, zn_gD hj, zn_gD hj]
              rw [zp_sam_step hs hj, List.map_cons, hg]
              exact List.Perm.append_right _ List.perm_middle
            exact (List.Perm.cons _ p1).trans e.symm
          · have hq2 := p1.mem_iff.mp hq
            rcases zp_rest_ge hb hl hr hq2 with ⟨q1, q2⟩ | ⟨q1, q2⟩ | ⟨q1, q2⟩
            · show mn < q.1 ∨ (mn = q.1 ∧ 1 ≤ q.2)
              omega
            · have := q2 j (by omega)
              show mn < q.1 ∨ (mn = q.1 ∧ 1 ≤ q.2)
              omega
            · have := q2 k (Nat.le_refl _)
              show mn < q.1 ∨ (mn = q.1 ∧ 1 ≤ q.2)
              omega
        · rw [if_neg c2]
          have c3 : r.getD k 10000 = mn := by omega
          have hk : k < r.length := hin br (by omega)
          obtain ⟨p1, p2⟩ := ih i j (k + st) (by omega)
          refine ⟨?_, List.pairwise_cons.mpr ⟨fun q hq => ?_, p2⟩⟩
          · have e : (zp_rest st b l r i j k).Perm ((mn, 2) :: zp_rest st b l r i j (k + st)) := by
              unfold zp_rest
              have hg : r.getD k 0 = mn := by rw [← c3, zn_gD hk, zn_gD hk]
              rw [zp_sam_step hs hk, List.map_cons, hg]
              exact List.perm_middle
            exact (List.Perm.cons _ p1).trans e.symm
          · have hq2 := p1.mem_iff.mp hq
            rcases zp_rest_ge hb hl hr hq2 with ⟨q1, q2⟩ | ⟨q1, q2⟩ | ⟨q1, q2⟩
            · show mn < q.1 ∨ (mn = q.1 ∧ 2 ≤ q.2)
              omega
            · have := q2 j (by omega)
              show mn < q.1 ∨ (mn = q.1 ∧ 2 ≤ q.2)
              omega
            · have := q2 k (by omega)
              show mn < q.1 ∨ (mn = q.1 ∧ 2 ≤ q.2)
              omega
def zl_list (st : Nat) (b l r : List Nat) : List (Nat × Nat) := zl_merge st b l r (b.length + l.length + r.length) 0 (st - 1) (st - 1)
theorem zl_list_eq {st : Nat} {b l r : List Nat} (hs : 1 ≤ st) (hb : b.Pairwise (· ≤ ·)) (hl : l.Pairwise (· ≤ ·)) (hr : r.Pairwise (· ≤ ·)) (bb : ∀ x ∈ b, x < 10000) (bl : ∀ x ∈ l, x < 10000) (br : ∀ x ∈ r, x < 10000) : (zl_list st b l r).Perm (zp_all st b l r) ∧ (zl_list st b l r).Pairwise zp_le ∧ zl_list st b l r = zp_inss [] (zp_all st b l r) := by
  obtain ⟨p1, p2⟩ := zl_merge_rest hs hb hl hr bb bl br (b.length + l.length + r.length) 0 (st - 1) (st - 1) (by omega)
  have e : zp_rest st b l r 0 (st - 1) (st - 1) = zp_all st b l r := by
    unfold zp_rest zp_all
    rw [List.drop_zero]
  rw [e] at p1
  refine ⟨p1, p2, zp_unique (p1.trans ?_) p2 (zp_inss_sorted List.Pairwise.nil)⟩
  have := zp_inss_perm [] (zp_all st b l r)
  rw [List.nil_append] at this
  exact this.symm
theorem zl_list_len {st : Nat} {b l r : List Nat} (hs : 2 ≤ st) (hb : b.Pairwise (· ≤ ·)) (hl : l.Pairwise (· ≤ ·)) (hr : r.Pairwise (· ≤ ·)) (bb : ∀ x ∈ b, x < 10000) (bl : ∀ x ∈ l, x < 10000) (br : ∀ x ∈ r, x < 10000) : (zl_list st b l r).length ≤ b.length + l.length / 2 + r.length / 2 := by
  obtain ⟨p1, _, _⟩ := zl_list_eq (st := st) (by omega) hb hl hr bb bl br
  rw [p1.length_eq]
  unfold zp_all
  rw [List.length_append, List.length_append, List.length_map, List.length_map, List.length_map]
  have half : ∀ l : List Nat, (zp_sam st l l.length (st - 1)).length ≤ l.length / 2 := by
    intro l
    by_cases q : st - 1 < l.length
    · have h1 := zp_sam_len (st := st) (l := l) (by omega) l.length (st - 1)
      have h2 : (zp_sam st l l.length (st - 1)).length * 2 ≤ (zp_sam st l l.length (st - 1)).length * st := Nat.mul_le_mul_left _ hs
      omega
    · rw [zp_sam_end (by omega)]
      simp
  have := half l
  have := half r
  omega
