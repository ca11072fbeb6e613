/-! A search finds: its place in each list on the way is the first entry at least x; its answer is the least key at least x. -/
theorem zn_fal_cons (x y : Nat) (t : List Nat) : zn_fal x (y :: t) = if x ≤ y then 0 else zn_fal x t + 1 := rfl
theorem zn_fal_lo {x : Nat} : ∀ {xs : List Nat} {j : Nat}, j < zn_fal x xs → xs.getD j 10000 < x
  | [], j, h => by simp [zn_fal] at h
  | y :: t, j, h => by
    rw [zn_fal_cons] at h
    by_cases q : x ≤ y
    · rw [if_pos q] at h; omega
    · rw [if_neg q] at h
      cases j with
      | zero => show y < x; omega
      | succ j =>
        show t.getD j 10000 < x
        exact zn_fal_lo (xs := t) (by omega)
theorem zn_fal_hi {x : Nat} (hx : x ≤ 10000) : ∀ {xs : List Nat}, xs.Pairwise (· ≤ ·) → ∀ {j : Nat}, zn_fal x xs ≤ j → x ≤ xs.getD j 10000
  | [], _, j, _ => by simpa using hx
  | y :: t, hs, j, h => by
    have hc := List.pairwise_cons.mp hs
    rw [zn_fal_cons] at h
    by_cases q : x ≤ y
    · cases j with
      | zero => exact q
      | succ j =>
        show x ≤ t.getD j 10000
        by_cases w : j < t.length
        · rw [zn_gD w]; exact Nat.le_trans q (hc.1 _ (List.getElem_mem w))
        · rw [zn_gD_top (by omega)]; exact hx
    · rw [if_neg q] at h
      cases j with
      | zero => omega
      | succ j =>
        show x ≤ t.getD j 10000
        exact zn_fal_hi hx hc.2 (by omega)
theorem zw_hv_fal {xs : List Nat} {x : Nat} (hx : x ≤ 10000) (hs : xs.Pairwise (· ≤ ·)) : ∀ (n lo hi : Nat), hi - lo < n → lo ≤ zn_fal x xs → zn_fal x xs ≤ hi → (zw_hv xs x n lo hi).1 = zn_fal x xs
  | 0, lo, hi, h, _, _ => by omega
  | n + 1, lo, hi, h, h1, h2 => by
    unfold zw_hv
    by_cases q : hi ≤ lo
    · rw [if_pos q]; show lo = _; omega
    · rw [if_neg q]
      by_cases q2 : xs.getD ((lo + hi) / 2) 10000 < x
      · rw [if_pos q2]
        refine zw_hv_fal hx hs n _ hi (by omega) ?_ h2
        refine Nat.lt_of_not_le (fun w => ?_)
        have := zn_fal_hi hx hs w
        omega
      · rw [if_neg q2]
        refine zw_hv_fal hx hs n lo _ (by omega) h1 ?_
        exact Nat.le_of_not_lt (fun w => q2 (zn_fal_lo w))
theorem zw_sb_fal {xs : List Nat} {x : Nat} (hx : x ≤ 10000) (hs : xs.Pairwise (· ≤ ·)) (hb : ∀ y ∈ xs, y ≤ 10000) : ∀ (p : Nat), zn_fal x xs ≤ p → p ≤ xs.length → (zw_sb xs x p).1 = zn_fal x xs
  | 0, h, _ => by show 0 = _; omega
  | p + 1, h, hl => by
    unfold zw_sb
    have hv : zn_gM xs p = nI (xs.getD p 0) := zn_gM_in (by omega)
    have hle : xs.getD p 0 ≤ 10000 := zn_getD_le hb (Nat.zero_le _) p
    have e0 : xs.getD p 0 = xs.getD p 10000 := by rw [zn_gD (by omega), zn_gD (by omega)]
    by_cases q : x ≤ xs.getD p 0
    · rw [hv, if_pos (nI_le q (by omega))]
      refine zw_sb_fal hx hs hb p ?_ (by omega)
      refine Nat.le_of_not_lt (fun w => ?_)
      have := zn_fal_lo w
      omega
    · rw [hv, if_neg (nI_ge (by omega) (by omega))]
      show p + 1 = _
      have : p < zn_fal x xs := Nat.lt_of_not_le (fun w => by
        have := zn_fal_hi hx hs w
        omega)
      omega
section PzF
variable {n k x : Nat} {t : zq_T}
theorem pz_list (h : zi_inv n t) (hk : k < n) : ((t.2 k).2 3).Pairwise (· ≤ ·) ∧ (∀ y ∈ (t.2 k).2 3, y < 10000) ∧ ((t.2 k).2 3).length ≤ 96 := by
  obtain ⟨p1, p2⟩ := (h.2.2.2.2.1 k hk).cat h.1.1.2 (h.2.2.2.1 k hk).1
  exact ⟨p2, p1.2.2.2.2.2.2.2.1, p1.2.2.1.2⟩
theorem pz_baseS (h : zi_inv n t) (hk : k < n) : ((t.2 k).2 0).Pairwise (· ≤ ·) ∧ ∀ y ∈ (t.2 k).2 0, y < 10000 := ⟨(h.2.2.2.1 k hk).2.1.1.imp (fun {a b} q => Nat.le_of_lt q), (h.2.2.2.1 k hk).1.2.2.1⟩
/-- the bridge to its own base -/
theorem pz_own (h : zi_inv n t) (hk : k < n) (hx : x ≤ 10000) : ((t.2 k).2 5).getD (zn_fal x ((t.2 k).2 3)) 0 = zn_fal x ((t.2 k).2 0) := by
  obtain ⟨l1, l2, l3⟩ := pz_list h hk
  obtain ⟨b1, b2⟩ := pz_baseS h hk
  obtain ⟨st, a, b, c, d⟩ := h.2.2.2.2.1 k hk
  have e3 : (t.2 k).2 3 = (zl_list st ((t.2 k).2 0) (zt_ent t ((t.2 k).1 1)) (zt_ent t ((t.2 k).1 2))).map Prod.fst := c 3 (by omega) (by omega)
  have e5 : (t.2 k).2 (5 + 0) = _ := c (5 + 0) (by omega) (by omega)
  rw [zc_built_br _ _ _ _ (by omega), ← e3] at e5
  have es : zm_sel 0 ((t.2 k).2 0) (zt_ent t ((t.2 k).1 1)) (zt_ent t ((t.2 k).1 2)) = (t.2 k).2 0 := rfl
  rw [es] at e5
  have hfl := zn_fal_le x ((t.2 k).2 3)
  have e : ((t.2 k).2 5).getD (zn_fal x ((t.2 k).2 3)) 0 = zn_fal (((t.2 k).2 3).getD (zn_fal x ((t.2 k).2 3)) 10000) ((t.2 k).2 0) := by
    rw [show (t.2 k).2 5 = _ from e5, zl_br_get b1 l1 (fun y hy => Nat.le_of_lt (l2 y hy)) (by omega), zn_fal_cnt b1]
  rw [e]
  have hK := zn_fal_hi hx l1 (Nat.le_refl (zn_fal x ((t.2 k).2 3)))
  refine Nat.le_antisymm (Nat.le_of_not_lt (fun w => ?_)) (zn_fal_mono hK _)
  have w1 := zn_fal_lo w
  have w2 := zn_fal_hi hx b1 (Nat.le_refl (zn_fal x ((t.2 k).2 0)))
  have wl : zn_fal x ((t.2 k).2 0) < ((t.2 k).2 0).length := Nat.lt_of_lt_of_le w (zn_fal_le _ _)
  rw [zn_gD wl] at w1 w2
  have hm : ((t.2 k).2 0)[zn_fal x ((t.2 k).2 0)] ∈ (t.2 k).2 3 := by
    rw [e3]
    refine List.mem_map.mpr ⟨(((t.2 k).2 0)[zn_fal x ((t.2 k).2 0)], 0), (b.list.1.mem_iff).mpr ?_, rfl⟩
    unfold zp_all
    exact List.mem_append_left _ (List.mem_append_left _ (List.mem_map.mpr ⟨_, List.getElem_mem wl, rfl⟩))
  obtain ⟨i, hi, he⟩ := List.mem_iff_getElem.mp hm
  rw [← he] at w1 w2
  have hpi : zn_fal x ((t.2 k).2 3) ≤ i := Nat.le_of_not_lt (fun w3 => by
    have := zn_fal_lo w3
    rw [zn_gD hi] at this
    omega)
  rw [zn_gD (by omega)] at w1
  by_cases q : zn_fal x ((t.2 k).2 3) = i
  · subst q
    omega
  · have := List.pairwise_iff_getElem.mp l1 (zn_fal x ((t.2 k).2 3)) i (by omega) hi (by omega)
    omega
/-- the bridge to a child's list -/
theorem pz_kid (h : zi_inv n t) (h0 : 0 < k) (hk : k < n) {i : Nat} (hi : i ≤ ((t.2 (zi_par t k)).2 3).length) : ((t.2 (zi_par t k)).2 (5 + zw_side t k)).getD i 0 = zn_fal (((t.2 (zi_par t k)).2 3).getD i 10000) ((t.2 k).2 3) := by
  have h15 := h.1.1.2
  obtain ⟨s1, s2⟩ := zw_side_kid h.1 h0 hk
  obtain ⟨c1, c2, c3⟩ := pz_list h hk
  obtain ⟨l1, l2, l3⟩ := pz_list h (h.1.pn hk)
  obtain ⟨st, a, b, c, d⟩ := h.2.2.2.2.1 (zi_par t k) (h.1.pn hk)
  have e3 : (t.2 (zi_par t k)).2 3 = (zl_list st ((t.2 (zi_par t k)).2 0) (zt_ent t ((t.2 (zi_par t k)).1 1)) (zt_ent t ((t.2 (zi_par t k)).1 2))).map Prod.fst := c 3 (by omega) (by omega)
  have e : ((t.2 (zi_par t k)).2 (5 + zw_side t k)) = _ := c (5 + zw_side t k) (by omega) (by omega)
  rw [zc_built_br _ _ _ _ (by omega), ← e3] at e
  have es : zm_sel (zw_side t k) ((t.2 (zi_par t k)).2 0) (zt_ent t ((t.2 (zi_par t k)).1 1)) (zt_ent t ((t.2 (zi_par t k)).1 2)) = (t.2 k).2 3 := by
    have ek : zt_ent t ((t.2 (zi_par t k)).1 (zw_side t k)) = (t.2 k).2 3 := by
      rw [s1]
      unfold zt_ent
      rw [if_neg (zn_m1 (by omega)), zt_ix_nI (by omega)]
    rcases s2 with q | q
    · rw [q] at ek ⊢; exact ek
    · rw [q] at ek ⊢; exact ek
  rw [e, es, zl_br_get c1 l1 (fun y hy => Nat.le_of_lt (l2 y hy)) (by omega), zn_fal_cnt c1]
theorem zw_found_next (v : zq_N) (x : Nat) : zw_found v (zn_fal x (v.2 0)) x = zc_next v x := rfl
theorem zc_next_le (h : zi_inv n t) (hk : k < n) (x : Nat) : zc_next (t.2 k) x ≤ 10000 := by
  rw [zc_next_eq (h.2.2.2.1 k hk)]
  exact zn_getD_le (fun y hy => Nat.le_of_lt (zc_nb_lt (h.2.2.2.1 k hk) y hy)) (Nat.le_refl _) _
theorem pz_step (h : zi_inv n t) {P L : List Nat} (hp : zi_pl n t P L) (hx : x ≤ 10000) {m : Nat} (hm : m < P.length) {w : zq_V} (hw : 0 < m → w.2.1 = zn_fal x ((t.2 (P.getD (m - 1) 0)).2 3)) :
    (zw_step t x m (P.getD m 0) (L.getD m 1) w).2.1 = zn_fal x ((t.2 (P.getD m 0)).2 3) ∧ (zw_step t x m (P.getD m 0) (L.getD m 1) w).2.2.1 = zn_enc (zc_next (t.2 (P.getD m 0)) x) := by
  have hk := hp.2.1 m hm
  obtain ⟨l1, l2, l3⟩ := pz_list h hk
  have hfl := zn_fal_le x ((t.2 (P.getD m 0)).2 3)
  have near : (zw_near t x m (P.getD m 0) (L.getD m 1) w).2.1 = zn_fal x ((t.2 (P.getD m 0)).2 3) := by
    unfold zw_near
    by_cases q : m = 0
    · rw [if_pos q]
      exact zw_hv_fal hx l1 _ _ _ (by omega) (Nat.zero_le _) hfl
    · rw [if_neg q]
      obtain ⟨q1, q2, q3⟩ := hp.2.2 (m - 1) (by omega)
      rw [show m - 1 + 1 = m by omega] at q1 q2 q3
      rw [q3, hw (by omega), ← q1]
      show (zw_sb ((t.2 (P.getD m 0)).2 3) x (((t.2 (zi_par t (P.getD m 0))).2 (5 + zw_side t (P.getD m 0))).getD (zn_fal x ((t.2 (zi_par t (P.getD m 0))).2 3)) 0)).1 = _
      have hl := zn_fal_le x ((t.2 (zi_par t (P.getD m 0))).2 3)
      rw [pz_kid h q2 hk hl]
      refine zw_sb_fal hx l1 (fun y hy => Nat.le_of_lt (l2 y hy)) _ (zn_fal_mono ?_ _) (zn_fal_le _ _)
      exact zn_fal_hi hx (pz_list h (h.1.pn hk)).1 (Nat.le_refl _)
  unfold zw_step
  rw [near, pz_own h hk hx]
  obtain ⟨a1, a2, a3⟩ := zw_ans_parts (t.2 (P.getD m 0)) (P.getD m 0) (zn_fal x ((t.2 (P.getD m 0)).2 0)) x (zw_near t x m (P.getD m 0) (L.getD m 1) w) (by rw [zw_found_next]; exact zc_next_le h hk x)
  rw [a2, a3, near, zw_found_next]
  exact ⟨rfl, rfl⟩
theorem pz_go (h : zi_inv n t) {P L : List Nat} (hp : zi_pl n t P L) (hx : x ≤ 10000) (hP : 0 < P.length) : ∀ (r m : Nat) (w : zq_V), m + r = P.length → (0 < m → w.2.1 = zn_fal x ((t.2 (P.getD (m - 1) 0)).2 3) ∧ w.2.2.1 = zn_enc (zc_next (t.2 (P.getD (m - 1) 0)) x)) → (zw_go t x P L r m w).2.2.1 = zn_enc (zc_next (t.2 (P.getD (P.length - 1) 0)) x) := by
  intro r
  induction r with
  | zero =>
    intro m w hm hw
    have := (hw (by omega)).2
    rw [show m = P.length by omega] at this
    exact this
  | succ r ih =>
    intro m w hm hw
    have := pz_step h hp hx (m := m) (by omega) (w := w) (fun q => (hw q).1)
    exact ih (m + 1) _ (by omega) (fun _ => this)
theorem pz_found (h : zi_inv n t) (hk : k < n) (hx : x ≤ 10000) : (zw_find t (zw_P t k) (zw_L t k) x).2.2.1 = zn_enc (zc_next (t.2 k) x) := by
  have hp : zi_pl n t (zw_P t k) (zw_L t k) := zi_pl_path h.1 hk
  have hl : (zw_P t k).length = zt_d t k + 1 := by
    show (zw_path t (zt_d t k + 1) k []).length = _
    rw [zw_path_len]
    rfl
  have := pz_go h hp hx (by omega) (zw_P t k).length 0 zw_zero (by omega) (fun q => absurd q (Nat.lt_irrefl 0))
  have e2 : (zw_P t k).getD ((zw_P t k).length - 1) 0 = k := by
    rw [hl, Nat.add_sub_cancel]
    exact zw_path_get t (zt_d t k) k []
  rw [e2] at this
  exact this
theorem pz_find {g : bq_G} {E : bq_E} {z : Nat} (h : pz_face g E z t) (hi : zi_inv n t) (hk : k < n) (hx : x ≤ 10000) : ∃ E' t', tw_L_finds E z (nI k) (nI x) = some (zn_enc (zc_next (t.2 k) x), E') ∧ pz_face g E' z t' ∧ zi_inv n t' ∧ t'.2 = t.2 ∧ (∀ j, j ≠ 6 → j ≠ 7 → t'.1 j = t.1 j) ∧ zq_same E E' z (z + 1378) := by
  have := pz_find0 h hi hk hx
  rw [pz_found hi hk hx] at this
  exact this
end PzF
