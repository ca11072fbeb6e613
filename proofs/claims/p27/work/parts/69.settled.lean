/-! Settling: the new base is the catalog in order; the next key is its first from x on. -/
theorem zn_keep_sub : ∀ (a m : List Nat), (zn_keep a m).Sublist a
  | [], [] => List.Sublist.refl _
  | [], _ :: _ => List.Sublist.refl _
  | _ :: _, [] => List.nil_sublist _
  | x :: t, y :: s => by
    rw [zn_keep_cons]
    by_cases q : y = 1
    · rw [if_pos q]; exact (zn_keep_sub t s).cons x
    · rw [if_neg q]; exact (zn_keep_sub t s).cons₂ x
theorem zn_ins_cons (key x : Nat) (t : List Nat) : zn_ins key (x :: t) = if key ≤ x then key :: x :: t else x :: zn_ins key t := by
  unfold zn_ins
  have e : zn_fal key (x :: t) = if key ≤ x then 0 else zn_fal key t + 1 := rfl
  rw [e]
  by_cases q : key ≤ x
  · rw [if_pos q, if_pos q]; rfl
  · rw [if_neg q, if_neg q]; rfl
theorem zn_ins_perm (key : Nat) : ∀ xs : List Nat, (zn_ins key xs).Perm (key :: xs)
  | [] => List.Perm.refl _
  | x :: t => by
    rw [zn_ins_cons]
    by_cases q : key ≤ x
    · rw [if_pos q]
    · rw [if_neg q]
      exact (List.Perm.cons x (zn_ins_perm key t)).trans (List.Perm.swap key x t)
theorem zn_ins_sorted {key : Nat} : ∀ {xs : List Nat}, xs.Pairwise (· < ·) → key ∉ xs → (zn_ins key xs).Pairwise (· < ·)
  | [], _, _ => List.pairwise_singleton _ _
  | x :: t, h, hn => by
    have hc := List.pairwise_cons.mp h
    have hx : key ≠ x := fun q => hn (q ▸ List.mem_cons_self)
    rw [zn_ins_cons]
    by_cases q : key ≤ x
    · rw [if_pos q]
      refine List.pairwise_cons.mpr ⟨fun y hy => ?_, h⟩
      rcases List.mem_cons.mp hy with rfl | hy
      · omega
      · have := hc.1 y hy; omega
    · rw [if_neg q]
      refine List.pairwise_cons.mpr ⟨fun y hy => ?_, zn_ins_sorted hc.2 (fun w => hn (List.mem_cons_of_mem _ w))⟩
      rcases List.mem_cons.mp ((zn_ins_perm key t).mem_iff.mp hy) with rfl | hy
      · omega
      · exact hc.1 y hy
theorem zn_inss_perm : ∀ (ys xs : List Nat), (zn_inss xs ys).Perm (xs ++ ys)
  | [], xs => by rw [List.append_nil]; exact List.Perm.refl _
  | y :: t, xs => by
    refine (zn_inss_perm t (zn_ins y xs)).trans ?_
    refine ((zn_ins_perm y xs).append_right t).trans ?_
    exact List.perm_middle.symm
theorem zn_inss_sorted : ∀ {ys xs : List Nat}, xs.Pairwise (· < ·) → ys.Nodup → (∀ y ∈ ys, y ∉ xs) → (zn_inss xs ys).Pairwise (· < ·)
  | [], _, h, _, _ => h
  | y :: t, xs, h, hn, hd => by
    have hc := List.nodup_cons.mp hn
    show (zn_inss (zn_ins y xs) t).Pairwise (· < ·)
    refine zn_inss_sorted (zn_ins_sorted h (hd y List.mem_cons_self)) hc.2 (fun z hz w => ?_)
    rcases List.mem_cons.mp ((zn_ins_perm y xs).mem_iff.mp w) with rfl | w
    · exact hc.1 hz
    · exact hd z (List.mem_cons_of_mem _ hz) w
theorem zn_lb_spec (x : Nat) : ∀ (ys : List Nat) (b : Nat), (zn_lb x b ys = b ∨ (zn_lb x b ys ∈ ys ∧ x ≤ zn_lb x b ys)) ∧ zn_lb x b ys ≤ b ∧ ∀ y ∈ ys, x ≤ y → zn_lb x b ys ≤ y
  | [], b => ⟨Or.inl rfl, Nat.le_refl _, fun y hy => by simp at hy⟩
  | y :: t, b => by
    have e : zn_lb x b (y :: t) = zn_lb x (if x ≤ y ∧ y < b then y else b) t := rfl
    rw [e]
    obtain ⟨i1, i2, i3⟩ := zn_lb_spec x t (if x ≤ y ∧ y < b then y else b)
    by_cases q : x ≤ y ∧ y < b
    · rw [if_pos q] at i1 i2 i3 ⊢
      refine ⟨Or.inr ?_, by omega, fun z hz hxz => ?_⟩
      · rcases i1 with i1 | i1
        · rw [i1]; exact ⟨List.mem_cons_self, q.1⟩
        · exact ⟨List.mem_cons_of_mem _ i1.1, i1.2⟩
      · rcases List.mem_cons.mp hz with rfl | hz
        · exact i2
        · exact i3 z hz hxz
    · rw [if_neg q] at i1 i2 i3 ⊢
      refine ⟨?_, i2, fun z hz hxz => ?_⟩
      · rcases i1 with i1 | i1
        · exact Or.inl i1
        · exact Or.inr ⟨List.mem_cons_of_mem _ i1.1, i1.2⟩
      · rcases List.mem_cons.mp hz with rfl | hz
        · omega
        · exact i3 z hz hxz
theorem zn_lb_mem {x b : Nat} {ys zs : List Nat} (h : ∀ y, y ∈ ys ↔ y ∈ zs) : zn_lb x b ys = zn_lb x b zs := by
  obtain ⟨a1, a2, a3⟩ := zn_lb_spec x ys b
  obtain ⟨b1, b2, b3⟩ := zn_lb_spec x zs b
  have le1 : zn_lb x b ys ≤ zn_lb x b zs := by
    rcases b1 with b1 | b1
    · omega
    · exact a3 _ ((h _).mpr b1.1) b1.2
  have le2 : zn_lb x b zs ≤ zn_lb x b ys := by
    rcases a1 with a1 | a1
    · omega
    · exact b3 _ ((h _).mp a1.1) a1.2
  omega
theorem zn_lb_app (x : Nat) : ∀ (ys zs : List Nat) (b : Nat), zn_lb x b (ys ++ zs) = zn_lb x (zn_lb x b ys) zs
  | [], _, _ => rfl
  | y :: t, zs, b => zn_lb_app x t zs (if x ≤ y ∧ y < b then y else b)
theorem zn_keep_zero : ∀ (a : List Nat), zn_keep a (List.replicate a.length 0) = a
  | [] => rfl
  | x :: t => by
    rw [List.length_cons, List.replicate_succ, zn_keep_cons, if_neg (by omega), zn_keep_zero t]
theorem zn_run_zero : ∀ (n : Nat), zn_run (List.replicate n 0) = 0
  | 0 => rfl
  | n + 1 => by
    rw [List.replicate_succ]
    show (if 0 = 1 then _ else 0) = 0
    rw [if_neg (by omega)]
theorem zn_tot_zero : ∀ (n : Nat), zn_tot (List.replicate n 0) = 0
  | 0 => rfl
  | n + 1 => by
    rw [List.replicate_succ]
    show 0 + zn_tot (List.replicate n 0) = 0
    rw [zn_tot_zero n]
section ZiN
variable {v : zq_N} {b : Nat}
theorem zc_nb_perm (v : zq_N) : (zc_newbase v).Perm (zn_keep (v.2 0) (v.2 1) ++ v.2 2) := zn_inss_perm _ _
theorem zc_nb_sorted (h : zi_hx b v) : (zc_newbase v).Pairwise (· < ·) := by
  obtain ⟨⟨h1, h2, h3, h4, h5⟩, ⟨o1, o2, o3, o4⟩, h6, h7⟩ := h
  exact zn_inss_sorted (o1.sublist (zn_keep_sub _ _)) o2 (fun y hy w => o3 y hy (zn_keep_mem w))
theorem zc_nb_lt (h : zi_hx b v) : ∀ x ∈ zc_newbase v, x < 10000 := by
  intro x hx
  rcases List.mem_append.mp ((zc_nb_perm v).mem_iff.mp hx) with q | q
  · exact h.1.2.2.1 x (zn_keep_mem q)
  · exact h.1.2.2.2.2 x q
theorem zc_nb_len (v : zq_N) : (zc_newbase v).length = (zn_keep (v.2 0) (v.2 1)).length + (v.2 2).length := by
  rw [(zc_nb_perm v).length_eq, List.length_append]
theorem zc_nb_24 (h : zi_hx b v) : (zc_newbase v).length ≤ 24 := by rw [zc_nb_len]; exact h.2.2.1
theorem zc_next_eq (h : zi_hx b v) (x : Nat) : zc_next v x = (zc_newbase v).getD (zn_fal x (zc_newbase v)) 10000 := by
  have hh := id h
  obtain ⟨⟨h1, h2, h3, h4, h5⟩, ⟨o1, o2, o3, o4⟩, h6, h7⟩ := h
  have e1 : zc_next v x = zn_lb x (zn_lb x 10000 (zn_keep (v.2 0) (v.2 1))) (v.2 2) := by
    rw [zn_lb_base x _ _ o1 h3 h1.1]
    rfl
  rw [e1, ← zn_lb_app, ← zn_lb_mem (ys := zc_newbase v) (fun y => (zc_nb_perm v).mem_iff)]
  have := zn_lb_base x (zc_newbase v) (List.replicate (zc_newbase v).length 0) (zc_nb_sorted hh) (zc_nb_lt hh) (by simp)
  rw [zn_keep_zero] at this
  rw [this, List.drop_replicate, zn_run_zero, Nat.add_zero]
theorem zn_fal_0 : ∀ (ys : List Nat), zn_fal 0 ys = 0
  | [] => rfl
  | y :: t => by
    show (if 0 ≤ y then 0 else _) = 0
    rw [if_pos (Nat.zero_le _)]
theorem zn_fal_next : ∀ {ys : List Nat}, ys.Pairwise (· < ·) → ∀ {i : Nat} (hi : i < ys.length), zn_fal (ys[i] + 1) ys = i + 1
  | [], _, i, hi => by simp at hi
  | y :: t, h, i, hi => by
    have hc := List.pairwise_cons.mp h
    have e : ∀ K, zn_fal K (y :: t) = if K ≤ y then 0 else zn_fal K t + 1 := fun K => rfl
    cases i with
    | zero =>
      rw [e]
      rw [List.getElem_cons_zero, if_neg (by omega)]
      have : zn_fal (y + 1) t = 0 := by
        cases t with
        | nil => rfl
        | cons z s =>
          have := hc.1 z List.mem_cons_self
          show (if y + 1 ≤ z then 0 else _) = 0
          rw [if_pos (by omega)]
      rw [this]
    | succ i =>
      have hi' : i < t.length := by simpa using hi
      rw [e]
      rw [List.getElem_cons_succ]
      have := hc.1 _ (List.getElem_mem hi')
      rw [if_neg (by omega), zn_fal_next hc.2 hi']
theorem zc_next_0 (h : zi_hx b v) : zc_next v 0 = (zc_newbase v).getD 0 10000 := by rw [zc_next_eq h, zn_fal_0]
theorem zc_next_s (h : zi_hx b v) {i : Nat} (hi : i < (zc_newbase v).length) : zc_next v ((zc_newbase v).getD i 10000 + 1) = (zc_newbase v).getD (i + 1) 10000 := by
  rw [zc_next_eq h, zn_gD hi, zn_fal_next (zc_nb_sorted h) hi]
/-- the i-th key in order -/
theorem zc_iter_eq (h : zi_hx b v) : ∀ (j i : Nat), i + j < (zc_newbase v).length + 1 → ∀ x, zc_next v x = (zc_newbase v).getD i 10000 → zc_iter v j x = (zc_newbase v).getD (i + j) 10000
  | 0, i, hj, x, hx => hx
  | j + 1, i, hj, x, hx => by
    show zc_iter v j (zc_next v x + 1) = _
    rw [hx, zc_iter_eq h j (i + 1) (by omega) _ (zc_next_s h (by omega)), show i + 1 + j = i + (j + 1) by omega]
theorem zc_settled_r0 (v : zq_N) : (zc_settled v).2 0 = zc_newbase v := rfl
theorem zc_settled_r1 (v : zq_N) : (zc_settled v).2 1 = List.replicate (zc_newbase v).length 0 := rfl
theorem zc_settled_r2 (v : zq_N) : (zc_settled v).2 2 = [] := rfl
theorem zc_settled_rj (v : zq_N) {j : Nat} (h : 3 ≤ j) : (zc_settled v).2 j = v.2 j := by
  show va_up (va_up (va_up v.2 0 _) 2 _) 1 _ j = v.2 j
  rw [va_up_ne _ _ (by omega), va_up_ne _ _ (by omega), va_up_ne _ _ (by omega)]
theorem zc_settled_i4 (v : zq_N) : (zc_settled v).1 4 = 0 := rfl
theorem zc_settled_in (v : zq_N) {i : Nat} (h : i ≠ 4) : (zc_settled v).1 i = v.1 i := va_up_ne v.1 _ h
theorem zi_hc_settled (h : zi_hx b v) : zi_hc (zc_settled v) := by
  refine ⟨⟨⟨?_, ?_⟩, ?_, ?_, ?_, ?_⟩, ⟨?_, ?_, ?_, ?_⟩, ?_, ?_⟩
  · rw [zc_settled_r0, zc_settled_r1]; simp
  · rw [zc_settled_r0]; exact zc_nb_24 h
  · rw [zc_settled_r2]; simp
  · rw [zc_settled_r0]; exact zc_nb_lt h
  · rw [zc_settled_r1]; exact fun x hx => Or.inl (List.eq_of_mem_replicate hx)
  · rw [zc_settled_r2]; exact fun x hx => by simp at hx
  · rw [zc_settled_r0]; exact zc_nb_sorted h
  · rw [zc_settled_r2]; exact List.nodup_nil
  · rw [zc_settled_r2]; exact fun x hx => by simp at hx
  · rw [zc_settled_r1, zn_tot_zero, zc_settled_i4]; rfl
  · rw [zc_settled_r0, zc_settled_r1, zc_settled_r2, zn_keep_zero]
    have := zc_nb_24 h
    simpa using this
  · rw [zc_settled_r2]; simp
end ZiN
