/-! Paths; the reckoner searches. -/
theorem zw_path_it (t : zq_T) : ∀ (r k : Nat) (acc : List Nat) (i : Nat), i < r → (zw_path t r k acc).getD i 0 = zi_it t (r - 1 - i) k
  | 0, _, _, _, h => absurd h (by omega)
  | r + 1, k, acc, i, h => by
    by_cases q : i = r
    · subst q
      rw [zw_path_get, show i + 1 - 1 - i = 0 by omega]
      rfl
    · show (zw_path t r (zt_ix ((t.2 k).1 0)) (k :: acc)).getD i 0 = _
      rw [zw_path_it t r _ _ i (by omega), show r + 1 - 1 - i = (r - 1 - i) + 1 by omega]
      rfl
theorem zw_sides_app (t : zq_T) : ∀ (r k : Nat) (acc : List Nat), zw_sides t r k acc = zw_sides t r k [] ++ acc
  | 0, _, _ => rfl
  | r + 1, k, acc => by
    unfold zw_sides
    rw [zw_sides_app t r _ (_ :: acc), zw_sides_app t r _ [_], List.append_assoc]
    rfl
theorem zw_sides_len (t : zq_T) : ∀ (r k : Nat) (acc : List Nat), (zw_sides t r k acc).length = r + acc.length
  | 0, _, _ => by simp [zw_sides]
  | r + 1, k, acc => by
    unfold zw_sides
    rw [zw_sides_len t r _ (_ :: acc), List.length_cons]
    omega
theorem zw_sides_it (t : zq_T) : ∀ (r k : Nat) (acc : List Nat) (i : Nat), i < r → (zw_sides t r k acc).getD i 1 = zw_side t (zi_it t (r - 1 - i) k)
  | 0, _, _, _, h => absurd h (by omega)
  | r + 1, k, acc, i, h => by
    show (zw_sides t r (zt_ix ((t.2 k).1 0)) (zw_side t k :: acc)).getD i 1 = _
    by_cases q : i = r
    · subst q
      rw [zw_sides_app]
      have := zw_sides_len t i (zt_ix ((t.2 k).1 0)) []
      simp only [List.getD]
      rw [List.getElem?_append_right (by rw [this]; simp), this, show i + 1 - 1 - i = 0 by omega]
      simp [zi_it]
    · rw [zw_sides_it t r _ _ i (by omega), show r + 1 - 1 - i = (r - 1 - i) + 1 by omega]
      rfl
theorem zi_it_d {n : Nat} {t : zq_T} (h : zi_shape n t) : ∀ (i k : Nat), k < n → i ≤ zt_d t k → zi_it t i k < n ∧ zt_d t (zi_it t i k) = zt_d t k - i
  | 0, k, hk, _ => ⟨hk, by rw [Nat.sub_zero]; rfl⟩
  | i + 1, k, hk, hi => by
    have h0 := h.pos hk (by omega)
    have hd := h.dpar h0 hk
    have := zi_it_d h i (zi_par t k) (h.pn hk) (by omega)
    exact ⟨this.1, this.2.trans (by omega)⟩
/-- a path and its sides -/
def zi_pl (n : Nat) (t : zq_T) (P L : List Nat) : Prop := (P.length ≤ 15 ∧ L.length = P.length) ∧ (∀ i, i < P.length → P.getD i 0 < n) ∧ (∀ i, i + 1 < P.length → zi_par t (P.getD (i + 1) 0) = P.getD i 0 ∧ 0 < P.getD (i + 1) 0 ∧ L.getD (i + 1) 1 = zw_side t (P.getD (i + 1) 0))
theorem zi_pl_path {n : Nat} {t : zq_T} (h : zi_shape n t) {k : Nat} (hk : k < n) : zi_pl n t (zw_path t (zt_d t k + 1) k []) (zw_sides t (zt_d t k + 1) k []) := by
  have hl := zw_path_len t (zt_d t k + 1) k []
  have hl2 := zw_sides_len t (zt_d t k + 1) k []
  have h15 := h.d15 hk
  simp only [List.length_nil, Nat.add_zero] at hl hl2
  refine ⟨⟨by omega, by omega⟩, fun i hi => ?_, fun i hi => ?_⟩
  · rw [zw_path_it t _ k [] i (by omega)]
    exact (zi_it_d h _ k hk (by omega)).1
  · rw [zw_path_it t _ k [] i (by omega), zw_path_it t _ k [] (i + 1) (by omega), zw_sides_it t _ k [] (i + 1) (by omega)]
    have := zi_it_d h (zt_d t k + 1 - 1 - (i + 1)) k hk (by omega)
    refine ⟨?_, h.pos this.1 (by omega), rfl⟩
    rw [show zt_d t k + 1 - 1 - i = (zt_d t k + 1 - 1 - (i + 1)) + 1 by omega, zi_it_out]
theorem zn_enc_eq {f : Nat} (h : f ≤ 10000) : (10000 ≤ f ↔ zn_enc f = -1) ∧ (¬ 10000 ≤ f → zn_enc f = nI f) := by
  unfold zn_enc
  by_cases q : f = 10000
  · rw [if_pos q]; exact ⟨⟨fun _ => rfl, fun _ => by omega⟩, fun w => absurd w (by omega)⟩
  · rw [if_neg q]; exact ⟨⟨fun w => absurd w (by omega), fun w => absurd w (zn_m1 h)⟩, fun _ => rfl⟩
theorem zw_ans_parts (v : zq_N) (k p x : Nat) (w : zq_V) (hf : zw_found v p x ≤ 10000) : (zw_ans v k p x w).1 = w.1 + (zn_run ((v.2 1).drop p) + (v.2 2).length) ∧ (zw_ans v k p x w).2.1 = w.2.1 ∧ (zw_ans v k p x w).2.2.1 = zn_enc (zw_found v p x) := by
  obtain ⟨e1, e2⟩ := zn_enc_eq hf
  unfold zw_ans
  rw [← Nat.add_assoc]
  by_cases q : 10000 ≤ zw_found v p x
  · rw [if_pos q, e1.mp q]
    exact ⟨rfl, rfl, rfl⟩
  · rw [if_neg q, e2 q]
    by_cases q2 : w.2.2.2.1 = -1
    · rw [if_pos q2]; exact ⟨rfl, rfl, rfl⟩
    · rw [if_neg q2]
      by_cases q3 : w.2.2.2.1 ≤ nI (zw_found v p x)
      · rw [if_pos q3]; exact ⟨rfl, rfl, rfl⟩
      · rw [if_neg q3]; exact ⟨rfl, rfl, rfl⟩
/-- a search changes scratch words only -/
def zm_sk (M M' : zq_M) : Prop := (∀ j, j ≠ 6 → j ≠ 7 → M'.1 j = M.1 j) ∧ (∀ j, j ≠ 8 → M'.2.1 j = M.2.1 j) ∧ M'.2.2 = M.2.2
theorem zm_sk.refl {M : zq_M} : zm_sk M M := ⟨fun _ _ _ => rfl, fun _ _ => rfl, rfl⟩
theorem zm_sk.trans {M M' M'' : zq_M} (h : zm_sk M M') (h2 : zm_sk M' M'') : zm_sk M M'' := ⟨fun j a b => (h2.1 j a b).trans (h.1 j a b), fun j a => (h2.2.1 j a).trans (h.2.1 j a), h2.2.2.trans h.2.2⟩
section ZsK
variable {g : bq_G} {E : bq_E} {m n : Nat} {M : zq_M} {t : zq_T} {P L : List Nat}
theorem zw_side_kid (h : zi_shape n t) {k : Nat} (h0 : 0 < k) (hk : k < n) : (t.2 (zi_par t k)).1 (zw_side t k) = nI k ∧ (zw_side t k = 1 ∨ zw_side t k = 2) := by
  have q := (h.2.2.2.1 k h0 hk).2.2.2
  have e : zw_side t k = if (t.2 (zi_par t k)).1 1 = nI k then 1 else 2 := rfl
  rw [e]
  by_cases w : (t.2 (zi_par t k)).1 1 = nI k
  · rw [if_pos w]; exact ⟨w, Or.inl rfl⟩
  · rw [if_neg w]; exact ⟨q.resolve_left w, Or.inr rfl⟩
/-- a bridge to a child lies in its list -/
theorem zi_inv.bridge (h : zi_inv n t) {k : Nat} (h0 : 0 < k) (hk : k < n) (i : Nat) : ((t.2 (zi_par t k)).2 (5 + zw_side t k)).getD i 0 ≤ ((t.2 k).2 3).length := by
  have h15 := h.1.1.2
  obtain ⟨s1, s2⟩ := zw_side_kid h.1 h0 hk
  obtain ⟨st, a, b, c, d⟩ := h.2.2.2.2.1 (zi_par t k) (h.1.pn hk)
  have e : ((t.2 (zi_par t k)).2 (5 + zw_side t k)) = _ := c (5 + zw_side t k) (by omega) (by omega)
  rw [zc_built_br _ _ _ _ (by omega)] at e
  have es : zm_sel (zw_side t k) ((t.2 (zi_par t k)).2 0) (zt_ent t ((t.2 (zi_par t k)).1 1)) (zt_ent t ((t.2 (zi_par t k)).1 2)) = (t.2 k).2 3 := by
    have ek : zt_ent t ((t.2 (zi_par t k)).1 (zw_side t k)) = (t.2 k).2 3 := by
      rw [s1]
      unfold zt_ent
      rw [if_neg (zn_m1 (by omega)), zt_ix_nI (by omega)]
    rcases s2 with q | q
    · rw [q] at ek ⊢; exact ek
    · rw [q] at ek ⊢; exact ek
  have hb := b.brs (j := zw_side t k)
  rw [e]
  rw [es] at hb ⊢
  exact zn_getD_le hb (Nat.zero_le _) i
end ZsK
