/-! addNode. -/
section ZoG
variable {g : bq_G} {E : bq_E} {z m n st k p sd : Nat} {M : zq_M} {t : zq_T}
theorem zg_n : (zt_grown t p sd n).2 n = zc_begun ((zt_grown1 t p sd n).2 n) (nI p) ((t.2 p).1 3 + 1) := zt_Cs
theorem zg_j {j : Nat} (h : j ≠ n) (hp : j ≠ p) : (zt_grown t p sd n).2 j = t.2 j := by
  show (zt_C (zt_grown1 t p sd n) n _).2 j = _
  rw [zt_Cn h]
  exact zt_Cn hp
theorem zg_p (h : p ≠ n) : (zt_grown t p sd n).2 p = zq_I (t.2 p) sd (nI n) := by
  show (zt_C (zt_grown1 t p sd n) n _).2 p = _
  rw [zt_Cn h]
  exact zt_Cs
theorem zg_row (h : p ≠ n) {j : Nat} (hj : j ≠ n) (i : Nat) : ((zt_grown t p sd n).2 j).2 i = (t.2 j).2 i := by
  by_cases q : j = p
  · subst q; rw [zg_p h]; rfl
  · rw [zg_j hj q]
theorem zg_int (h : p ≠ n) {j i : Nat} (hj : j ≠ n) (hi : ¬ (j = p ∧ i = sd)) : ((zt_grown t p sd n).2 j).1 i = (t.2 j).1 i := by
  by_cases q : j = p
  · subst q
    rw [zg_p h]
    exact va_up_ne _ _ (fun e => hi ⟨rfl, e⟩)
  · rw [zg_j hj q]
theorem zg_ps (h : p ≠ n) : ((zt_grown t p sd n).2 p).1 sd = nI n := by
  rw [zg_p h]
  exact va_up_self _ _ _
theorem zg_i (i : Nat) : (zt_grown t p sd n).1 i = if i = 3 then nI (n + 1) else t.1 i := by
  show va_up t.1 3 (nI (n + 1)) i = _
  by_cases q : i = 3
  · subst q; rw [va_up_self, if_pos rfl]
  · rw [va_up_ne _ _ q, if_neg q]
theorem zb_i0 (v : zq_N) (a b : Int32) : (zc_begun v a b).1 0 = a := rfl
theorem zb_i1 (v : zq_N) (a b : Int32) : (zc_begun v a b).1 1 = -1 := rfl
theorem zb_i2 (v : zq_N) (a b : Int32) : (zc_begun v a b).1 2 = -1 := rfl
theorem zb_i3 (v : zq_N) (a b : Int32) : (zc_begun v a b).1 3 = b := rfl
theorem zb_i4 (v : zq_N) (a b : Int32) : (zc_begun v a b).1 4 = 0 := rfl
theorem zb_r0 (v : zq_N) (a b : Int32) : (zc_begun v a b).2 0 = [] := rfl
theorem zb_r1 (v : zq_N) (a b : Int32) : (zc_begun v a b).2 1 = [] := rfl
theorem zb_r2 (v : zq_N) (a b : Int32) : (zc_begun v a b).2 2 = [] := rfl
theorem zg_hc (v : zq_N) (a b : Int32) : zi_hc (zc_begun v a b) := by
  refine ⟨⟨⟨?_, ?_⟩, ?_, ?_, ?_, ?_⟩, ⟨?_, ?_, ?_, ?_⟩, ?_, ?_⟩
  · rw [zb_r0, zb_r1]
  · rw [zb_r0]; exact Nat.zero_le _
  · rw [zb_r2]; exact Nat.zero_le _
  · rw [zb_r0]; intro x hx; cases hx
  · rw [zb_r1]; intro x hx; cases hx
  · rw [zb_r2]; intro x hx; cases hx
  · rw [zb_r0]; exact List.Pairwise.nil
  · rw [zb_r2]; exact List.Pairwise.nil
  · rw [zb_r2]; intro x hx; cases hx
  · rw [zb_r1, zb_i4]; rfl
  · rw [zb_r0, zb_r1, zb_r2]; exact Nat.zero_le _
  · rw [zb_r2]; exact Nat.zero_le _
theorem zg_d (hi : zi_inv n t) (hp : p < n) : zt_d (zt_grown t p sd n) n = zt_d t p + 1 := by
  have h15 := hi.1.d15 hp
  unfold zt_d
  rw [zg_n, zb_i3, hi.1.d3 hp, nI_1, nI_clamp (by omega), nI_clamp (by omega)]
theorem zg_low (hi : zi_inv n t) (hp : p < n) (hs : sd = 1 ∨ sd = 2) {j : Nat} (hj : j < n) : zi_par (zt_grown t p sd n) j = zi_par t j ∧ zt_d (zt_grown t p sd n) j = zt_d t j := by
  have hpn : p ≠ n := by omega
  unfold zi_par zt_d
  rw [zg_int hpn (by omega) (by omega), zg_int hpn (by omega) (by omega)]
  exact ⟨rfl, rfl⟩
theorem zg_parn (hp : p < 15) : zi_par (zt_grown t p sd n) n = p := by
  unfold zi_par
  rw [zg_n, zb_i0, zt_ix_nI hp]
theorem zg_shape (hi : zi_inv n t) (hp : p < n) (hn : n < 15) (hs : sd = 1 ∨ sd = 2) (hno : (t.2 p).1 sd = -1) : zi_shape (n + 1) (zt_grown t p sd n) := by
  have hpn : p ≠ n := by omega
  obtain ⟨a1, a2, a3, a4, a5, a6⟩ := hi.1
  have hpar := zg_parn (t := t) (n := n) (sd := sd) (p := p) (by omega)
  refine ⟨⟨by omega, by omega⟩, ?_, ⟨?_, ?_⟩, fun k h0 hk => ?_, fun k s hk hs2 => ?_, fun k hk he => ?_⟩
  · rw [zg_i, if_pos rfl]
  · rw [zg_int hpn (by omega) (by omega)]; exact a3.1
  · rw [zg_int hpn (by omega) (by omega)]; exact a3.2
  · by_cases q : k = n
    · subst q
      rw [hpar, (zg_low hi hp hs hp).2, zg_n, zb_i0, zb_i3, hi.1.d3 hp, nI_1]
      refine ⟨rfl, hp, rfl, ?_⟩
      rcases hs with rfl | rfl
      · exact Or.inl (zg_ps hpn)
      · exact Or.inr (zg_ps hpn)
    · have hk2 : k < n := by omega
      obtain ⟨b1, b2, b3, b4⟩ := a4 k h0 hk2
      obtain ⟨c1, c2⟩ := zg_low hi hp hs hk2
      have c3 := (zg_low (sd := sd) hi hp hs (j := zi_par t k) (by omega)).2
      rw [c1, c3, zg_int hpn q (by omega), zg_int hpn q (by omega)]
      refine ⟨b1, b2, b3, ?_⟩
      have keep : ∀ s, (s = 1 ∨ s = 2) → (t.2 (zi_par t k)).1 s = nI k → ((zt_grown t p sd n).2 (zi_par t k)).1 s = nI k := fun s hs2 e => by
        rw [zg_int hpn (by omega) (fun w => by
          rw [w.1, w.2, hno] at e
          exact zn_m1 (k := k) (by omega) e.symm)]
        exact e
      exact b4.imp (keep 1 (Or.inl rfl)) (keep 2 (Or.inr rfl))
  · by_cases q : k = n
    · subst q
      rw [zg_n]
      rcases hs2 with rfl | rfl
      · exact Or.inl (zb_i1 _ _ _)
      · exact Or.inl (zb_i2 _ _ _)
    · by_cases w : k = p ∧ s = sd
      · obtain ⟨w1, w2⟩ := w
        subst w1 w2
        exact Or.inr ⟨n, zg_ps hpn, by omega, by omega, hpar⟩
      · rw [zg_int hpn q w]
        rcases a5 k s (by omega) hs2 with e | ⟨c, e1, e2, e3, e4⟩
        · exact Or.inl e
        · exact Or.inr ⟨c, e1, by omega, e3, (zg_low hi hp hs e2).1.trans e4⟩
  · by_cases q : k = n
    · subst q
      rw [zg_n]
      exact zb_i1 _ _ _
    · by_cases w : k = p
      · subst w
        exfalso
        have other : ∀ s, (s = 1 ∨ s = 2) → s ≠ sd → ((zt_grown t k sd n).2 k).1 s ≠ nI n := fun s hs2 hne e => by
          rw [zg_int hpn q (fun w => hne w.2)] at e
          rcases a5 k s hp hs2 with e1 | ⟨c, e1, e2, e3, e4⟩
          · rw [e1] at e
            exact zn_m1 (k := n) (by omega) e.symm
          · rw [e1] at e
            have := (nI_inj (by omega) (by omega)).mp e
            omega
        rcases hs with rfl | rfl
        · exact other 2 (Or.inr rfl) (by omega) (he.symm.trans (zg_ps hpn))
        · exact other 1 (Or.inl rfl) (by omega) (he.trans (zg_ps hpn))
      · rw [zg_int hpn q (fun e => w e.1), zg_int hpn q (fun e => w e.1)] at he
        rw [zg_int hpn q (fun e => w e.1)]
        exact a6 k (by omega) he
theorem zg_cat (hi : zi_inv n t) (hp : p < n) {j : Nat} (hj : j < n) : zi_cat ((zt_grown t p sd n).2 j) := by
  have h := hi.cat hj
  have hr := fun i => zg_row (t := t) (sd := sd) (p := p) (n := n) (by omega) (j := j) (by omega) i
  unfold zi_cat at h ⊢
  simp only [hr]
  exact h
theorem zg_mid (hi : zi_inv n t) (hp : p < n) (hn : n < 15) (hs : sd = 1 ∨ sd = 2) (hno : (t.2 p).1 sd = -1) (h5 : t.1 5 = nI st) (hst : 2 ≤ st ∧ st ≤ 5) : zi_mid (n + 1) st (zt_grown t p sd n) n := by
  have hpn : p ≠ n := by omega
  have hsh := zg_shape hi hp hn hs hno
  have hpar := zg_parn (t := t) (n := n) (sd := sd) (p := p) (by omega)
  refine ⟨hsh, ?_, ⟨?_, hst⟩, fun j hj => ?_, fun j hj ha => ?_, fun j hj hne => zg_cat hi hp (by omega), fun j hj hj2 => ?_⟩
  · rw [zg_i, if_neg (by omega)]; exact hi.2.1
  · rw [zg_i, if_neg (by omega)]; exact h5
  · by_cases q : j = n
    · subst q
      rw [zg_n]
      exact zg_hc _ _ _
    · have hc := hi.2.2.2.1 j (by omega)
      have hr := fun i => zg_row (t := t) (sd := sd) hpn (j := j) q i
      have h4 : ((zt_grown t p sd n).2 j).1 4 = (t.2 j).1 4 := zg_int hpn q (by omega)
      unfold zi_hc zi_hx zi_head zi_ord at hc ⊢
      simp only [hr, h4]
      exact hc
  · have hjn : j ≠ n := fun e => ha (e ▸ zi_an_self _ _)
    have hjp : j ≠ p := fun e => ha (by
      rw [e]
      have h1 : zt_d (zt_grown t p sd n) n = zt_d (zt_grown t p sd n) p + 1 := by rw [zg_d hi hp, (zg_low hi hp hs hp).2]
      exact zi_an_par h1 hpar (zi_an_self _ _))
    have hj2 : j < n := by omega
    have hent : ∀ s, (s = 1 ∨ s = 2) → zt_ent (zt_grown t p sd n) (((zt_grown t p sd n).2 j).1 s) = zt_ent t ((t.2 j).1 s) := fun s hs2 => by
      rw [zg_int hpn hjn (fun e => hjp e.1)]
      rcases hi.1.kid hj2 hs2 with q | ⟨c, q1, q2, q3, q4, q5, q6⟩
      · unfold zt_ent; rw [if_pos q, if_pos q]
      · unfold zt_ent
        rw [q1, if_neg (zn_m1 (by omega)), if_neg (zn_m1 (by omega)), zt_ix_nI (by omega), zg_row hpn (by omega)]
    refine (hi.2.2.2.2.1 j hj2).congr (zg_row hpn hjn 0) (fun i _ _ => zg_row hpn hjn i) (hent 1 (Or.inl rfl)) (hent 2 (Or.inr rfl)) ?_
    show _ ≤ zi_w (zt_grown t p sd n) n j + zi_in1 (zt_grown t p sd n) j n
    rw [zi_w_congr (u := zt_grown t p sd n) hi.1 (fun i hi2 => ⟨zg_int hpn (by omega) (by omega), zg_int hpn (by omega) (by omega)⟩) hj2 n (Nat.le_refl _)]
    omega
  · have hok := hi.2.2.2.2.2 j (by omega) hj2
    unfold zw_ok
    rw [zg_j (by omega) (by omega)]
    exact hok
theorem zm_node.int {f f' : Nat → Int32} {v : zq_N} (h : zm_node f k v) (hv : zi_cat v) (hs : sd = 1 ∨ sd = 2) {x : Int32} (hx : f' (zm_at k + sd) = x) (he : ∀ a, zm_at k ≤ a → a < zm_at k + 545 → a ≠ zm_at k + sd → f' a = f a) : zm_node f' k (zq_I v sd x) := by
  obtain ⟨⟨a0, a1, a2⟩, ⟨a3, a4, a5⟩, ⟨a6, a7⟩, ⟨a8, a9, a10⟩, a11⟩ := h
  obtain ⟨⟨i1, i2⟩, i3, ⟨i4, i5⟩, i6, _⟩ := hv
  have hint : ∀ i, i < 3 → f (zm_at k + i) = v.1 i → f' (zm_at k + i) = (zq_I v sd x).1 i := fun i hi e => by
    by_cases q : i = sd
    · subst q
      rw [hx]
      exact (va_up_self v.1 i x).symm
    · rw [he _ (by omega) (by omega) (by omega), e]
      exact (va_up_ne v.1 x q).symm
  refine ⟨⟨hint 0 (by omega) a0, hint 1 (by omega) a1, hint 2 (by omega) a2⟩, ⟨(he _ (by omega) (by omega) (by omega)).trans a3, a4.keep (fun a q1 q2 => he a (by omega) (by omega) (by omega)), a5.keep (fun a q1 q2 => he a (by omega) (by omega) (by omega))⟩, ⟨(he _ (by omega) (by omega) (by omega)).trans a6, a7.keep (fun a q1 q2 => he a (by omega) (by omega) (by omega))⟩, ⟨(he _ (by omega) (by omega) (by omega)).trans a8, a9.keep (fun a q1 q2 => he a (by omega) (by omega) (by omega)), a10.keep (fun a q1 q2 => he a (by omega) (by omega) (by omega))⟩, fun j hj => (a11 j hj).keep (fun a q1 q2 => he a (by omega) (by have := i6 j hj; omega) (by omega))⟩
end ZoG
