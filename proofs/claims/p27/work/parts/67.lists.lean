/-! What holds of each node, of each list; building up keeps it. -/
def zi_hx (b : Nat) (v : zq_N) : Prop := zi_head v ∧ zi_ord v ∧ (zn_keep (v.2 0) (v.2 1)).length + (v.2 2).length ≤ 24 ∧ (v.2 2).length ≤ b
abbrev zi_hc (v : zq_N) : Prop := zi_hx 7 v
def zi_lc (n : Nat) (t : zq_T) (k : Nat) : Prop := ∃ st, (2 ≤ st ∧ st ≤ 5) ∧ zi_in st ((t.2 k).2 0) (zt_ent t ((t.2 k).1 1)) (zt_ent t ((t.2 k).1 2)) ∧
  (∀ j, 3 ≤ j → j < 8 → (t.2 k).2 j = (zc_built (t.2 k) st (zt_ent t ((t.2 k).1 1)) (zt_ent t ((t.2 k).1 2))).2 j) ∧ ((t.2 k).2 3).length ≤ zi_F (zi_w t n k)
theorem zc_built_br (v : zq_N) (st : Nat) (l r : List Nat) {j : Nat} (hj : j < 3) : (zc_built v st l r).2 (5 + j) = zl_br (zm_sel j (v.2 0) l r) 0 ((zl_list st (v.2 0) l r).map Prod.fst) := by
  have q : j = 0 ∨ j = 1 ∨ j = 2 := by omega
  rcases q with rfl | rfl | rfl <;> rfl
theorem zc_built_row {v w : zq_N} (h : v.2 0 = w.2 0) (st : Nat) (l r : List Nat) {j : Nat} (h3 : 3 ≤ j) (h8 : j < 8) : (zc_built v st l r).2 j = (zc_built w st l r).2 j := by
  have q : j = 3 ∨ j = 4 ∨ j = 5 + 0 ∨ j = 5 + 1 ∨ j = 5 + 2 := by omega
  rcases q with rfl | rfl | rfl | rfl | rfl
  · show (zl_list st (v.2 0) l r).map Prod.fst = (zl_list st (w.2 0) l r).map Prod.fst
    rw [h]
  · show (zl_list st (v.2 0) l r).map Prod.snd = (zl_list st (w.2 0) l r).map Prod.snd
    rw [h]
  · rw [zc_built_br v st l r (by omega), zc_built_br w st l r (by omega), h]
  · rw [zc_built_br v st l r (by omega), zc_built_br w st l r (by omega), h]
  · rw [zc_built_br v st l r (by omega), zc_built_br w st l r (by omega), h]
theorem zc_built_low (v : zq_N) (st : Nat) (l r : List Nat) {j : Nat} (hj : j < 3) : (zc_built v st l r).2 j = v.2 j := by
  have q : j = 0 ∨ j = 1 ∨ j = 2 := by omega
  rcases q with rfl | rfl | rfl <;> rfl
theorem zi_lc.congr {n n' : Nat} {t u : zq_T} {k : Nat} (h : zi_lc n t k) (h0 : (u.2 k).2 0 = (t.2 k).2 0) (hr : ∀ j, 3 ≤ j → j < 8 → (u.2 k).2 j = (t.2 k).2 j) (hl : zt_ent u ((u.2 k).1 1) = zt_ent t ((t.2 k).1 1)) (hrr : zt_ent u ((u.2 k).1 2) = zt_ent t ((t.2 k).1 2)) (hw : zi_w t n k ≤ zi_w u n' k) : zi_lc n' u k := by
  obtain ⟨st, a, b, c, d⟩ := h
  refine ⟨st, a, ?_, fun j h3 h8 => ?_, ?_⟩
  · rw [h0, hl, hrr]; exact b
  · rw [hr j h3 h8, hl, hrr, zc_built_row h0 st _ _ h3 h8]
    exact c j h3 h8
  · rw [hr 3 (by omega) (by omega)]
    exact Nat.le_trans d (zi_F_mono hw)
theorem zi_lc.len {n : Nat} {t : zq_T} {k : Nat} (h : zi_lc n t k) (hn : n ≤ 15) : ((t.2 k).2 3).length ≤ 96 := by
  obtain ⟨st, a, b, c, d⟩ := h
  exact Nat.le_trans d (zi_F_96 (Nat.le_trans (zi_w_le t k n) hn))
theorem zi_lc.cat {n : Nat} {t : zq_T} {k : Nat} (h : zi_lc n t k) (hn : n ≤ 15) (hc : zi_head (t.2 k)) : zi_cat (t.2 k) ∧ ((t.2 k).2 3).Pairwise (· ≤ ·) := by
  have hl := h.len hn
  obtain ⟨st, a, b, c, d⟩ := h
  have e3 : (t.2 k).2 3 = (zl_list st ((t.2 k).2 0) (zt_ent t ((t.2 k).1 1)) (zt_ent t ((t.2 k).1 2))).map Prod.fst := c 3 (by omega) (by omega)
  have hl2 : (zl_list st ((t.2 k).2 0) (zt_ent t ((t.2 k).1 1)) (zt_ent t ((t.2 k).1 2))).length ≤ 96 := by
    rw [e3, List.length_map] at hl
    exact hl
  obtain ⟨p, q⟩ := zi_cat_built hc b hl2
  obtain ⟨p1, p2, ⟨p3, p4⟩, p5, p6, p7, p8, p9, p10⟩ := p
  rw [← c 3 (by omega) (by omega)] at q p3 p4 p9
  rw [← c 4 (by omega) (by omega)] at p3 p10
  refine ⟨⟨hc.1, hc.2.1, ⟨p3, p4⟩, fun j hj => ?_, hc.2.2.1, hc.2.2.2.1, hc.2.2.2.2, p9, p10⟩, q⟩
  have := p5 j hj
  rw [← c (5 + j) (by omega) (by omega), ← c 3 (by omega) (by omega)] at this
  exact this
def zi_bu (n st : Nat) (t : zq_T) (k : Nat) : Prop := zi_shape n t ∧ (∀ j, j < n → zi_hc (t.2 j)) ∧ t.1 5 = nI st ∧ (2 ≤ st ∧ st ≤ 5) ∧ (∀ j, j < n → ¬ zi_an t j k → zi_lc n t j) ∧ (∀ j, j < n → j ≠ k → zi_cat (t.2 j))
theorem zi_an_cint {t u : zq_T} (hc : ∀ k i, (u.2 k).1 i = (t.2 k).1 i) : (∀ k, zi_par u k = zi_par t k) ∧ (∀ k, zt_d u k = zt_d t k) ∧ (∀ j k, zi_an u j k ↔ zi_an t j k) ∧ ∀ n j, zi_w u n j = zi_w t n j := by
  have hp : ∀ k, zi_par u k = zi_par t k := fun k => by unfold zi_par; rw [hc]
  have hd : ∀ k, zt_d u k = zt_d t k := fun k => by unfold zt_d; rw [hc]
  have hi : ∀ i k, zi_it u i k = zi_it t i k := by
    intro i
    induction i with
    | zero => intro k; rfl
    | succ i ih =>
      intro k
      show zi_it u i (zi_par u k) = zi_it t i (zi_par t k)
      rw [hp, ih]
  refine ⟨hp, hd, fun j k => ?_, fun n j => ?_⟩
  · unfold zi_an
    rw [hd, hd, hi]
  · induction n with
    | zero => rfl
    | succ n ih =>
      show zi_w u n j + zi_in1 u j n = zi_w t n j + zi_in1 t j n
      rw [ih]
      unfold zi_in1
      rw [hd, hd, hi]
section ZiB
variable {n st k : Nat} {t : zq_T}
theorem zi_bu_kid (h : zi_bu n st t k) (hk : k < n) {s : Nat} (hs : s = 1 ∨ s = 2) : (zt_ent t ((t.2 k).1 s)).Pairwise (· ≤ ·) ∧ (zt_ent t ((t.2 k).1 s)).length ≤ zi_F (zi_wk t n ((t.2 k).1 s)) ∧ (zt_ent t ((t.2 k).1 s)).length ≤ 96 ∧ ∀ x ∈ zt_ent t ((t.2 k).1 s), x < 10000 := by
  obtain ⟨h1, h2, h3, h4, h5, h6⟩ := h
  rcases h1.kid hk hs with q | ⟨c, q1, q2, q3, q4, q5, q6⟩
  · have e : zt_ent t ((t.2 k).1 s) = [] := by unfold zt_ent; rw [if_pos q]
    rw [e]
    exact ⟨List.Pairwise.nil, Nat.zero_le _, Nat.zero_le _, fun x hx => by simp at hx⟩
  · have h15 := h1.1.2
    have e : zt_ent t ((t.2 k).1 s) = (t.2 c).2 3 := by
      unfold zt_ent
      rw [q1, if_neg (zn_m1 (by omega)), zt_ix_nI (by omega)]
    have ew : zi_wk t n ((t.2 k).1 s) = zi_w t n c := by
      unfold zi_wk
      rw [q1, if_neg (zn_m1 (by omega)), zt_ix_nI (by omega)]
    rw [e, ew]
    have hl := h5 c q2 (zi_an_kid h1 q5)
    obtain ⟨p1, p2⟩ := hl.cat h15 (h2 c q2).1
    refine ⟨p2, ?_, p1.2.2.1.2, p1.2.2.2.2.2.2.2.1⟩
    obtain ⟨_, _, _, _, d⟩ := hl
    exact d
theorem zi_bu_in (h : zi_bu n st t k) (hk : k < n) : zi_in st ((t.2 k).2 0) (zt_ent t ((t.2 k).1 1)) (zt_ent t ((t.2 k).1 2)) ∧ (zl_list st ((t.2 k).2 0) (zt_ent t ((t.2 k).1 1)) (zt_ent t ((t.2 k).1 2))).length ≤ zi_F (zi_w t n k) ∧ (zl_list st ((t.2 k).2 0) (zt_ent t ((t.2 k).1 1)) (zt_ent t ((t.2 k).1 2))).length ≤ 96 := by
  obtain ⟨a1, a2, a3, a4⟩ := zi_bu_kid h hk (s := 1) (Or.inl rfl)
  obtain ⟨b1, b2, b3, b4⟩ := zi_bu_kid h hk (s := 2) (Or.inr rfl)
  obtain ⟨h1, h2, h3, h4, h5, h6⟩ := h
  have hc := h2 k hk
  have hb : ((t.2 k).2 0).Pairwise (· ≤ ·) := hc.2.1.1.imp (fun {a b} q => Nat.le_of_lt q)
  have hin : zi_in st ((t.2 k).2 0) (zt_ent t ((t.2 k).1 1)) (zt_ent t ((t.2 k).1 2)) := ⟨hb, a1, b1, ⟨by omega, by omega⟩, hc.1.1.2, a3, b3, hc.1.2.2.1, a4, b4⟩
  have hlen := zl_list_len h4.1 hb a1 b1 hc.1.2.2.1 a4 b4
  have hw := zi_w_kids h1 hk
  have hw2 := zi_w_le t k n
  have h15 := h1.1.2
  have hF := zi_F_kids hw (by omega)
  have hF2 := zi_F_96 (s := zi_w t n k) (by omega)
  have h24 := hc.1.1.2
  have hd1 := Nat.div_le_div_right (c := 2) a2
  have hd2 := Nat.div_le_div_right (c := 2) b2
  refine ⟨hin, by omega, by omega⟩
theorem zi_bu_fits (h : zi_bu n st t k) (hk : k < n) : zt_fits st t k := by
  have h15 := h.1.1.2
  refine ⟨?_, ?_, (zi_bu_in h hk).2.2⟩
  · rcases h.1.kid hk (s := 1) (Or.inl rfl) with q | ⟨c, q1, q2, q3, q4, q5, q6⟩
    · exact Or.inl q
    · rw [q1, zt_ix_nI (by omega)]; exact Or.inr q6
  · rcases h.1.kid hk (s := 2) (Or.inr rfl) with q | ⟨c, q1, q2, q3, q4, q5, q6⟩
    · exact Or.inl q
    · rw [q1, zt_ix_nI (by omega)]; exact Or.inr q6
theorem zt_b1_k (st : Nat) (t : zq_T) (k : Nat) : (zt_b1 st t k).2 k = zc_built (t.2 k) st (zt_ent t ((t.2 k).1 1)) (zt_ent t ((t.2 k).1 2)) := zt_Cs
theorem zt_b1_n (st : Nat) (t : zq_T) {k j : Nat} (h : j ≠ k) : (zt_b1 st t k).2 j = t.2 j := zt_Cn h
theorem zt_b1_cint (st : Nat) (t : zq_T) (k : Nat) : ∀ j i, ((zt_b1 st t k).2 j).1 i = (t.2 j).1 i := by
  intro j i
  by_cases q : j = k
  · subst q; rw [zt_b1_k]; rfl
  · rw [zt_b1_n st t q]
theorem zt_b1_ent (h : zi_bu n st t k) (hk : k < n) {j s : Nat} (hj : j < n) (hs : s = 1 ∨ s = 2) (hjp : ¬ (0 < k ∧ j = zi_par t k)) : zt_ent (zt_b1 st t k) ((t.2 j).1 s) = zt_ent t ((t.2 j).1 s) := by
  have h15 := h.1.1.2
  rcases h.1.kid hj hs with q | ⟨c, q1, q2, q3, q4, q5, q6⟩
  · unfold zt_ent; rw [if_pos q, if_pos q]
  · unfold zt_ent
    rw [q1, if_neg (zn_m1 (by omega)), if_neg (zn_m1 (by omega)), zt_ix_nI (by omega), zt_b1_n]
    intro e
    subst e
    exact hjp ⟨q3, q4.symm⟩
theorem zi_bu_step (h : zi_bu n st t k) (hk : k < n) : zi_shape n (zt_b1 st t k) ∧ (∀ j, j < n → zi_hc ((zt_b1 st t k).2 j)) ∧ zi_lc n (zt_b1 st t k) k ∧ (∀ j, j < n → ¬ zi_an t j k → zi_lc n (zt_b1 st t k) j) ∧ (∀ j, j < n → zi_cat ((zt_b1 st t k).2 j)) := by
  obtain ⟨i1, i2, i3⟩ := zi_bu_in h hk
  have hw := (zi_an_cint (zt_b1_cint st t k)).2.2.2
  have h15 := h.1.1.2
  have hcat := zi_cat_built (h.2.1 k hk).1 i1 i3
  have own : ∀ s, (s = 1 ∨ s = 2) → zt_ent (zt_b1 st t k) (((zt_b1 st t k).2 k).1 s) = zt_ent t ((t.2 k).1 s) := fun s hs => by
    rw [zt_b1_cint]
    exact zt_b1_ent h hk hk hs (fun q => by have := h.1.plt q.1 hk; omega)
  refine ⟨h.1.congr rfl (fun j i _ _ => zt_b1_cint st t k j i), fun j hj => ?_, ⟨st, h.2.2.2.1, ?_, fun j h3 h8 => ?_, ?_⟩, fun j hj ha => ?_, fun j hj => ?_⟩
  · by_cases q : j = k
    · subst q
      rw [zt_b1_k]
      exact h.2.1 j hj
    · rw [zt_b1_n st t q]
      exact h.2.1 j hj
  · rw [own 1 (Or.inl rfl), own 2 (Or.inr rfl), zt_b1_k]
    exact i1
  · rw [own 1 (Or.inl rfl), own 2 (Or.inr rfl), zt_b1_k]
    exact zc_built_row (zc_built_low (t.2 k) st _ _ (j := 0) (by omega)).symm st _ _ h3 h8
  · rw [hw, zt_b1_k]
    show ((zl_list st ((t.2 k).2 0) (zt_ent t ((t.2 k).1 1)) (zt_ent t ((t.2 k).1 2))).map Prod.fst).length ≤ _
    rw [List.length_map]
    exact i2
  · have hjk : j ≠ k := fun q => ha (q ▸ zi_an_self t j)
    have hjp : ¬ (0 < k ∧ j = zi_par t k) := fun q => ha (by
      rw [q.2]
      exact zi_an_par (h.1.dpar q.1 hk) rfl (zi_an_self t k))
    refine (h.2.2.2.2.1 j hj ha).congr (by rw [zt_b1_n st t hjk]) (fun i _ _ => by rw [zt_b1_n st t hjk]) ?_ ?_ (by rw [hw]; exact Nat.le_refl _)
    · rw [zt_b1_cint]; exact zt_b1_ent h hk hj (Or.inl rfl) hjp
    · rw [zt_b1_cint]; exact zt_b1_ent h hk hj (Or.inr rfl) hjp
  · by_cases q : j = k
    · subst q
      rw [zt_b1_k]
      exact hcat.1
    · rw [zt_b1_n st t q]
      exact h.2.2.2.2.2 j hj q
theorem zi_bu_par (h : zi_bu n st t k) (hk : k < n) (h0 : 0 < k) : zi_bu n st (zt_b1 st t k) (zi_par t k) := by
  obtain ⟨s1, s2, s3, s4, s5⟩ := zi_bu_step h hk
  refine ⟨s1, s2, h.2.2.1, h.2.2.2.1, fun j hj ha => ?_, fun j hj _ => s5 j hj⟩
  rw [(zi_an_cint (zt_b1_cint st t k)).2.2.1] at ha
  by_cases q : j = k
  · subst q; exact s3
  · exact s4 j hj (fun w => ha (zi_an_up h.1 hk h0 w q))
end ZiB
theorem zi_up_all {n st : Nat} : ∀ (d k : Nat) (a : Int32) (t : zq_T), zi_bu n st t k → k < n → d = zt_d t k →
    zt_upok st (d + 1) k t ∧ (∀ j, j < n → zi_lc n (zt_up st (d + 1) k a t).2 j) ∧ (∀ j i, i < 3 → ((zt_up st (d + 1) k a t).2.2 j).2 i = (t.2 j).2 i) ∧ (∀ j, n ≤ j → (zt_up st (d + 1) k a t).2.2 j = t.2 j) := by
  intro d
  induction d with
  | zero =>
    intro k a t h hk hd
    have hz := h.1.zer hk hd.symm
    obtain ⟨s1, s2, s3, s4, s5⟩ := zi_bu_step h hk
    refine ⟨⟨zi_bu_fits h hk, True.intro⟩, fun j hj => ?_, fun j i hi => ?_, fun j hj => ?_⟩
    · have hl : zi_lc n (zt_b1 st t k) j := by
        by_cases q : j = k
        · subst q; exact s3
        · refine s4 j hj (fun w => q ?_)
          have h1 := w.1
          have := h.1.zer hj (by omega)
          omega
      exact hl.congr (u := (zt_up st (0 + 1) k a t).2) rfl (fun _ _ _ => rfl) rfl rfl (by rw [(zi_an_cint (t := zt_b1 st t k) (u := (zt_up st (0 + 1) k a t).2) (fun _ _ => rfl)).2.2.2]; exact Nat.le_refl _)
    · show ((zt_b1 st t k).2 j).2 i = _
      by_cases q : j = k
      · subst q; rw [zt_b1_k, zc_built_low _ _ _ _ hi]
      · rw [zt_b1_n st t q]
    · show (zt_b1 st t k).2 j = _
      rw [zt_b1_n st t (by omega)]
  | succ d ih =>
    intro k a t h hk hd
    have h0 := h.1.pos hk (by omega)
    have hdp := h.1.dpar h0 hk
    have hpn := h.1.pn hk
    have hd2 := (zi_an_cint (zt_b1_cint st t k)).2.1
    obtain ⟨r1, r2, r3, r4⟩ := ih (zi_par t k) (a + nI (((zt_b1 st t k).2 k).2 3).length) (zt_b1 st t k) (zi_bu_par h hk h0) hpn (by rw [hd2]; omega)
    refine ⟨⟨zi_bu_fits h hk, r1⟩, r2, fun j i hi => ?_, fun j hj => ?_⟩
    · refine (r3 j i hi).trans ?_
      by_cases q : j = k
      · subst q; rw [zt_b1_k, zc_built_low _ _ _ _ hi]
      · rw [zt_b1_n st t q]
    · refine (r4 j hj).trans ?_
      rw [zt_b1_n st t (by omega)]
