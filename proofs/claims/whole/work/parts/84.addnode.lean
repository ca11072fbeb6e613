/-! addNode. -/
section ZoG
variable {g : bq_G} {E : bq_E} {z m n st k p sd : Nat} {M : zq_M} {t : zq_T}
theorem zg_n : (zt_grown t p sd n).2 n = zc_begun ((zt_grown1 t p sd n).2 n) (nI p) ((t.2 p).1 3 + 1) := zt_Cs
theorem zg_j {j : Nat} (h : j ≠ n) (hp : j ≠ p) : (zt_grown t p sd n).2 j = t.2 j := by
  show (zt_C (zt_grown1 t p sd n) n _).2 j = _
  rw [zt_Cn h]
  exact zt_Cn hp
theorem zg_p (h : p ≠ n) : (zt_grown t p sd n).2 p = zq_I (t.2 p) sd (nI n) := by
  show (zt_C (zt_grown1 t p sd n) n _).2 p = _
  rw [zt_Cn h]
  exact zt_Cs
theorem zg_row (h : p ≠ n) {j : Nat} (hj : j ≠ n) (i : Nat) : ((zt_grown t p sd n).2 j).2 i = (t.2 j).2 i := by
  by_cases q : j = p
  · subst q; rw [zg_p h]; rfl
  · rw [zg_j hj q]
theorem zg_int (h : p ≠ n) {j i : Nat} (hj : j ≠ n) (hi : ¬ (j = p ∧ i = sd)) : ((zt_grown t p sd n).2 j).1 i = (t.2 j).1 i := by
  by_cases q : j = p
  · subst q
    rw [zg_p h]
    exact va_up_ne _ _ (fun e => hi ⟨rfl, e⟩)
  · rw [zg_j hj q]
theorem zg_ps (h : p ≠ n) : ((zt_grown t p sd n).2 p).1 sd = nI n := by
  rw [zg_p h]
  exact va_up_self _ _ _
theorem zg_i (i : Nat) : (zt_grown t p sd n).1 i = if i = 3 then nI (n + 1) else t.1 i := by
  show va_up t.1 3 (nI (n + 1)) i = _
  by_cases q : i = 3
  · subst q; rw [va_up_self, if_pos rfl]
  · rw [va_up_ne _ _ q, if_neg q]
theorem zb_i0 (v : zq_N) (a b : Int32) : (zc_begun v a b).1 0 = a := rfl
theorem zb_i1 (v : zq_N) (a b : Int32) : (zc_begun v a b).1 1 = -1 := rfl
theorem zb_i2 (v : zq_N) (a b : Int32) : (zc_begun v a b).1 2 = -1 := rfl
theorem zb_i3 (v : zq_N) (a b : Int32) : (zc_begun v a b).1 3 = b := rfl
theorem zb_i4 (v : zq_N) (a b : Int32) : (zc_begun v a b).1 4 = 0 := rfl
theorem zb_r0 (v : zq_N) (a b : Int32) : (zc_begun v a b).2 0 = [] := rfl
theorem zb_r1 (v : zq_N) (a b : Int32) : (zc_begun v a b).2 1 = [] := rfl
theorem zb_r2 (v : zq_N) (a b : Int32) : (zc_begun v a b).2 2 = [] := rfl
theorem zg_hc (v : zq_N) (a b : Int32) : zi_hc (zc_begun v a b) := by
  refine ⟨⟨⟨?_, ?_⟩, ?_, ?_, ?_, ?_⟩, ⟨?_, ?_, ?_, ?_⟩, ?_, ?_⟩
  · rw [zb_r0, zb_r1]
  · rw [zb_r0]; exact Nat.zero_le _
  · rw [zb_r2]; exact Nat.zero_le _
  · rw [zb_r0]; intro x hx; cases hx
  · rw [zb_r1]; intro x hx; cases hx
  · rw [zb_r2]; intro x hx; cases hx
  · rw [zb_r0]; exact List.Pairwise.nil
  · rw [zb_r2]; exact List.Pairwise.nil
  · rw [zb_r2]; intro x hx; cases hx
  · rw [zb_r1, zb_i4]; rfl
  · rw [zb_r0, zb_r1, zb_r2]; exact Nat.zero_le _
  · rw [zb_r2]; exact Nat.zero_le _
theorem zg_d (hi : zi_inv n t) (hp : p < n) : zt_d (zt_grown t p sd n) n = zt_d t p + 1 := by
  have h15 := hi.1.d15 hp
  unfold zt_d
  rw [zg_n, zb_i3, hi.1.d3 hp, nI_1, nI_clamp (by omega), nI_clamp (by omega)]
theorem zg_low (hi : zi_inv n t) (hp : p < n) (hs : sd = 1 ∨ sd = 2) {j : Nat} (hj : j < n) : zi_par (zt_grown t p sd n) j = zi_par t j ∧ zt_d (zt_grown t p sd n) j = zt_d t j := by
  have hpn : p ≠ n := by omega
  unfold zi_par zt_d
  rw [zg_int hpn (by omega) (by omega), zg_int hpn (by omega) (by omega)]
  exact ⟨rfl, rfl⟩
theorem zg_parn (hp : p < 15) : zi_par (zt_grown t p sd n) n = p := by
  unfold zi_par
  rw [zg_n, zb_i0, zt_ix_nI hp]
theorem zg_shape (hi : zi_inv n t) (hp : p < n) (hn : n < 15) (hs : sd = 1 ∨ sd = 2) (hno : (t.2 p).1 sd = -1) : zi_shape (n + 1) (zt_grown t p sd n) := by
  have hpn : p ≠ n := by omega
  obtain ⟨a1, a2, a3, a4, a5, a6⟩ := hi.1
  have hpar := zg_parn (t := t) (n := n) (sd := sd) (p := p) (by omega)
  refine ⟨⟨by omega, by omega⟩, ?_, ⟨?_, ?_⟩, fun k h0 hk => ?_, fun k s hk hs2 => ?_, fun k hk he => ?_⟩
  · rw [zg_i, if_pos rfl]
  · rw [zg_int hpn (by omega) (by omega)]; exact a3.1
  · rw [zg_int hpn (by omega) (by omega)]; exact a3.2
  · by_cases q : k = n
    · subst q
      rw [hpar, (zg_low hi hp hs hp).2, zg_n, zb_i0, zb_i3, hi.1.d3 hp, nI_1]
      refine ⟨rfl, hp, rfl, ?_⟩
      rcases hs with rfl | rfl
      · exact Or.inl (zg_ps hpn)
      · exact Or.inr (zg_ps hpn)
    · have hk2 : k < n := by omega
      obtain ⟨b1, b2, b3, b4⟩ := a4 k h0 hk2
      obtain ⟨c1, c2⟩ := zg_low hi hp hs hk2
      have c3 := (zg_low (sd := sd) hi hp hs (j := zi_par t k) (by omega)).2
      rw [c1, c3, zg_int hpn q (by omega), zg_int hpn q (by omega)]
      refine ⟨b1, b2, b3, ?_⟩
      have keep : ∀ s, (s = 1 ∨ s = 2) → (t.2 (zi_par t k)).1 s = nI k → ((zt_grown t p sd n).2 (zi_par t k)).1 s = nI k := fun s hs2 e => by
        rw [zg_int hpn (by omega) (fun w => by
          rw [w.1, w.2, hno] at e
          exact zn_m1 (k := k) (by omega) e.symm)]
        exact e
      exact b4.imp (keep 1 (Or.inl rfl)) (keep 2 (Or.inr rfl))
  · by_cases q : k = n
    · subst q
      rw [zg_n]
      rcases hs2 with rfl | rfl
      · exact Or.inl (zb_i1 _ _ _)
      · exact Or.inl (zb_i2 _ _ _)
    · by_cases w : k = p ∧ s = sd
      · obtain ⟨w1, w2⟩ := w
        subst w1 w2
        exact Or.inr ⟨n, zg_ps hpn, by omega, by omega, hpar⟩
      · rw [zg_int hpn q w]
        rcases a5 k s (by omega) hs2 with e | ⟨c, e1, e2, e3, e4⟩
        · exact Or.inl e
        · exact Or.inr ⟨c, e1, by omega, e3, (zg_low hi hp hs e2).1.trans e4⟩
  · by_cases q : k = n
    · subst q
      rw [zg_n]
      exact zb_i1 _ _ _
    · by_cases w : k = p
      · subst w
        exfalso
        have other : ∀ s, (s = 1 ∨ s = 2) → s ≠ sd → ((zt_grown t k sd n).2 k).1 s ≠ nI n := fun s hs2 hne e => by
          rw [zg_int hpn q (fun w => hne w.2)] at e
          rcases a5 k s hp hs2 with e1 | ⟨c, e1, e2, e3, e4⟩
          · rw [e1] at e
            exact zn_m1 (k := n) (by omega) e.symm
          · rw [e1] at e
            have := (nI_inj (by omega) (by omega)).mp e
            omega
        rcases hs with rfl | rfl
        · exact other 2 (Or.inr rfl) (by omega) (he.symm.trans (zg_ps hpn))
        · exact other 1 (Or.inl rfl) (by omega) (he.trans (zg_ps hpn))
      · rw [zg_int hpn q (fun e => w e.1), zg_int hpn q (fun e => w e.1)] at he
        rw [zg_int hpn q (fun e => w e.1)]
        exact a6 k (by omega) he
theorem zg_cat (hi : zi_inv n t) (hp : p < n) {j : Nat} (hj : j < n) : zi_cat ((zt_grown t p sd n).2 j) := by
  have h := hi.cat hj
  have hr := fun i => zg_row (t := t) (sd := sd) (p := p) (n := n) (by omega) (j := j) (by omega) i
  unfold zi_cat at h ⊢
  simp only [hr]
  exact h
theorem zg_mid (hi : zi_inv n t) (hp : p < n) (hn : n < 15) (hs : sd = 1 ∨ sd = 2) (hno : (t.2 p).1 sd = -1) (h5 : t.1 5 = nI st) (hst : 2 ≤ st ∧ st ≤ 5) : zi_mid (n + 1) st (zt_grown t p sd n) n := by
  have hpn : p ≠ n := by omega
  have hsh := zg_shape hi hp hn hs hno
  have hpar := zg_parn (t := t) (n := n) (sd := sd) (p := p) (by omega)
  refine ⟨hsh, ?_, ⟨?_, hst⟩, fun j hj => ?_, fun j hj ha => ?_, fun j hj hne => zg_cat hi hp (by omega), fun j hj hj2 => ?_⟩
  · rw [zg_i, if_neg (by omega)]; exact hi.2.1
  · rw [zg_i, if_neg (by omega)]; exact h5
  · by_cases q : j = n
    · subst q
      rw [zg_n]
      exact zg_hc _ _ _
    · have hc := hi.2.2.2.1 j (by omega)
      have hr := fun i => zg_row (t := t) (sd := sd) hpn (j := j) q i
      have h4 : ((zt_grown t p sd n).2 j).1 4 = (t.2 j).1 4 := zg_int hpn q (by omega)
      unfold zi_hc zi_hx zi_head zi_ord at hc ⊢
      simp only [hr, h4]
      exact hc
  · have hjn : j ≠ n := fun e => ha (e ▸ zi_an_self _ _)
    have hjp : j ≠ p := fun e => ha (by
      rw [e]
      have h1 : zt_d (zt_grown t p sd n) n = zt_d (zt_grown t p sd n) p + 1 := by rw [zg_d hi hp, (zg_low hi hp hs hp).2]
      exact zi_an_par h1 hpar (zi_an_self _ _))
    have hj2 : j < n := by omega
    have hent : ∀ s, (s = 1 ∨ s = 2) → zt_ent (zt_grown t p sd n) (((zt_grown t p sd n).2 j).1 s) = zt_ent t ((t.2 j).1 s) := fun s hs2 => by
      rw [zg_int hpn hjn (fun e => hjp e.1)]
      rcases hi.1.kid hj2 hs2 with q | ⟨c, q1, q2, q3, q4, q5, q6⟩
      · unfold zt_ent; rw [if_pos q, if_pos q]
      · unfold zt_ent
        rw [q1, if_neg (zn_m1 (by omega)), if_neg (zn_m1 (by omega)), zt_ix_nI (by omega), zg_row hpn (by omega)]
    refine (hi.2.2.2.2.1 j hj2).congr (zg_row hpn hjn 0) (fun i _ _ => zg_row hpn hjn i) (hent 1 (Or.inl rfl)) (hent 2 (Or.inr rfl)) ?_
    show _ ≤ zi_w (zt_grown t p sd n) n j + zi_in1 (zt_grown t p sd n) j n
    rw [zi_w_congr (u := zt_grown t p sd n) hi.1 (fun i hi2 => ⟨zg_int hpn (by omega) (by omega), zg_int hpn (by omega) (by omega)⟩) hj2 n (Nat.le_refl _)]
    omega
  · have hok := hi.2.2.2.2.2 j (by omega) hj2
    unfold zw_ok
    rw [zg_j (by omega) (by omega)]
    exact hok
/-- the reckoner clears a node -/
theorem zm_clear (x1 x2 : Int32) (K : Int32 → bq_E → Option (Int32 × bq_E)) (hn : n < 15) : ∀ (N i : Nat) (E1 : bq_E) (M1 : zq_M), 545 - i < N → i ≤ 545 → zq_mod g E1 m M1 → (∀ a, a < i → M1.1 1 (zm_at n + a) = 0) →
    ∃ E2 M2 y, tl_X7_addNode_82 m x1 x2 (nI n) K N (nI i) E1 = K y E2 ∧ zq_mod g E2 m M2 ∧ (∀ a, a < 545 → M2.1 1 (zm_at n + a) = 0) ∧ zm_only M1 M2 (fun a => zm_at n ≤ a ∧ a < zm_at n + 545) ∧ zq_same E1 E2 m (m + 8) := by
  have hat : zm_at n = 8 + 545 * n := rfl
  intro N
  induction N with
  | zero => intro i E1 M1 h; omega
  | succ N ih =>
    intro i E1 M1 hN hi H1 hd
    rw [tl_X7_addNode_82.eq_2]
    by_cases q : i < 545
    · rw [if_neg (show ¬ (545 : Int32) ≤ nI i from nI_ge (b := 545) q (by omega))]
      obtain ⟨E2, a2, H2, s2⟩ := zm_puts H1 hn (o := i) q 0
      rw [a2]
      simp only [zq_bindE, zq_letE]
      rw [nI_1]
      have o2 : zm_only M1 (zm_A M1 1 (8 + 545 * n + i) 0) (fun a => zm_at n ≤ a ∧ a < zm_at n + 545) := zm_only.put (by rw [hat]; omega)
      obtain ⟨E3, M3, y, a3, H3, d3, o3, s3⟩ := ih (i + 1) E2 _ (by omega) (by omega) H2 (fun a ha => by
        by_cases w : a = i
        · subst w; rw [hat, zm_Aat]
        · rw [hat, zm_Aoff (by omega)]
          have := hd a (by omega)
          rw [hat] at this
          exact this)
      exact ⟨E3, M3, y, a3, H3, d3, o2.trans o3, s2.trans s3⟩
    · rw [if_pos (show (545 : Int32) ≤ nI i from nI_le (a := 545) (by omega) (by omega))]
      exact ⟨E1, M1, _, rfl, H1, fun a ha => hd a (by omega), zm_only.refl, zq_same.refl⟩
theorem zm_node.int {f f' : Nat → Int32} {v : zq_N} (h : zm_node f k v) (hv : zi_cat v) (hs : sd = 1 ∨ sd = 2) {x : Int32} (hx : f' (zm_at k + sd) = x) (he : ∀ a, zm_at k ≤ a → a < zm_at k + 545 → a ≠ zm_at k + sd → f' a = f a) : zm_node f' k (zq_I v sd x) := by
  obtain ⟨⟨a0, a1, a2⟩, ⟨a3, a4, a5⟩, ⟨a6, a7⟩, ⟨a8, a9, a10⟩, a11⟩ := h
  obtain ⟨⟨i1, i2⟩, i3, ⟨i4, i5⟩, i6, _⟩ := hv
  have hint : ∀ i, i < 3 → f (zm_at k + i) = v.1 i → f' (zm_at k + i) = (zq_I v sd x).1 i := fun i hi e => by
    by_cases q : i = sd
    · subst q
      rw [hx]
      exact (va_up_self v.1 i x).symm
    · rw [he _ (by omega) (by omega) (by omega), e]
      exact (va_up_ne v.1 x q).symm
  refine ⟨⟨hint 0 (by omega) a0, hint 1 (by omega) a1, hint 2 (by omega) a2⟩, ⟨(he _ (by omega) (by omega) (by omega)).trans a3, a4.keep (fun a q1 q2 => he a (by omega) (by omega) (by omega)), a5.keep (fun a q1 q2 => he a (by omega) (by omega) (by omega))⟩, ⟨(he _ (by omega) (by omega) (by omega)).trans a6, a7.keep (fun a q1 q2 => he a (by omega) (by omega) (by omega))⟩, ⟨(he _ (by omega) (by omega) (by omega)).trans a8, a9.keep (fun a q1 q2 => he a (by omega) (by omega) (by omega)), a10.keep (fun a q1 q2 => he a (by omega) (by omega) (by omega))⟩, fun j hj => (a11 j hj).keep (fun a q1 q2 => he a (by omega) (by have := i6 j hj; omega) (by omega))⟩
theorem zo_addNode (h : zz_E g E z) (y x : Int32) : zz_turn g z (tw_L_addNode E z y x (z + 1386)) (fun E => tw_X7_addNode E (z + 1378) y x) := by
  obtain ⟨n, t, u, pp, cnt, M, hf, hm, hr, f, ho⟩ := h
  have hi := hr.2.1
  have h15 := hi.1.1.2
  by_cases qy : zf_isnode n y
  · obtain ⟨p, hp, rfl⟩ := zf_isnode_nat h15 qy
    have C := hf.2.1.cat (k := p) (by omega)
    by_cases qx : x = 1 ∨ x = 2
    · obtain ⟨sd, hs, rfl⟩ : ∃ sd, (sd = 1 ∨ sd = 2) ∧ x = nI sd := by
        rcases qx with rfl | rfl
        · exact ⟨1, Or.inl rfl, rfl⟩
        · exact ⟨2, Or.inr rfl, rfl⟩
      have hin : zm_in (nI sd) 1 2 = true := by rcases hs with rfl | rfl <;> decide
      have hchild : tw_X0_child E (zq_ca (z + 1) p) (nI sd) = some ((t.2 p).1 sd) := by
        rw [zc_child C]
        rcases hs with rfl | rfl
        · rw [if_pos (show nI 1 = 1 from rfl)]
        · rw [if_neg (show ¬ nI 2 = 1 by decide)]
      have hofs : ∀ E2, zq_mod g E2 (z + 1378) M → tw_X7_of E2 (z + 1378) (nI p) ((0 : Int32) + nI sd) = some ((t.2 p).1 sd) := fun E2 H2 => by
        have has : zm_has g E2 (z + 1378) M p (t.2 p) := ⟨H2, by omega, hr.1.2 p hp, hi.cat hp⟩
        rw [Int32.zero_add]
        rcases hs with rfl | rfl
        · exact zm_o1 has
        · exact zm_o2 has
      have rd0 : ∀ E2, zq_mod g E2 (z + 1378) M → bq_ai E2 (z + 1378 + 1) (0 : Int32) = some (nI n) := fun E2 H2 => by
        rw [show (0 : Int32) = nI 0 from rfl, zm_ai H2 (j := 1) (by omega) (by show 0 < 8183; omega), hr.1.1.1]
      have clsA : ∀ A B : Option ((Int32 ⊕ String) × bq_E), (if nI sd = (1 : Int32) then A else if nI sd = (2 : Int32) then A else B) = A := fun A B => by
        rcases hs with rfl | rfl
        · rw [if_pos (show nI 1 = 1 from rfl)]
        · rw [if_neg (show ¬ nI 2 = 1 by decide), if_pos (show nI 2 = 2 from rfl)]
      by_cases q15 : n = 15 ∨ (t.2 p).1 sd ≠ -1
      · refine zz_bad (code := 3) hf hr ho (by decide) ?_ (zz_code_bad hm ?_)
        · unfold tw_L_addNode tw_X6_addNode
          rw [if_pos (zq_cls hf.1), (zf_requireNode hf hi.1.2.1 (nI p)).1 qy]
          simp only [zq_bindE, bq_elim, zq_letE]
          rw [clsA, (zf_require hf).2]
          simp only [zq_bindE, bq_elim]
          rw [hf.rT]
          simp only [zq_bindE]
          rw [hf.2.1.int (k := 3) (by omega), hi.1.2.1, zt_at hf.2.1, zt_ix_nI (by omega)]
          simp only [zq_bindE]
          rw [hchild]
          simp only [zq_bindE]
          by_cases w : n = 15
          · rw [if_pos (show nI n = 15 by rw [w]; rfl)]
            simp only [zq_bindE]
            rw [if_neg zs_ne2, if_neg zs_ne3, if_pos True.intro]
          · rw [if_neg (show ¬ nI n = 15 from fun e => w ((nI_inj (b := 15) (by omega) (by omega)).mp e)), if_neg (q15.resolve_left w)]
            simp only [zq_bindE]
            rw [if_neg zs_ne2, if_neg zs_ne3, if_pos True.intro]
        · show tw_X7_addNode E (z + 1378) (nI p) (nI sd) = _
          unfold tw_X7_addNode
          rw [if_pos (zq_cls hm.1), (zm_isNode hm hr.1.1.1 hi.1.1.1 h15 (nI p)).1 qy]
          simp only [zq_bindE, zq_letE]
          rw [if_neg bq_bT, zm_in_eq, hin]
          simp only [zq_bindE]
          rw [if_neg bq_bT, zm_r1 hm]
          simp only [zq_bindE]
          rw [rd0 E hm, hofs E hm]
          simp only [zq_bindE]
          by_cases w : n = 15
          · rw [if_pos (show nI n = 15 by rw [w]; rfl)]
          · rw [if_neg (show ¬ nI n = 15 from fun e => w ((nI_inj (b := 15) (by omega) (by omega)).mp e)), if_neg (q15.resolve_left w)]
      · have hn15 : n < 15 := by
          have : n ≠ 15 := fun e => q15 (Or.inl e)
          omega
        have hno : (t.2 p).1 sd = -1 := Classical.byContradiction (fun w => q15 (Or.inr w))
        have hn15' : ¬ nI n = 15 := fun e => by have := (nI_inj (b := 15) (by omega) (by omega)).mp e; omega
        obtain ⟨st, h5, hst⟩ := hi.2.2.1
        have hmid := zg_mid hi hp hn15 hs hno h5 hst
        have hd := zg_d (sd := sd) hi hp
        obtain ⟨hdone, hok⟩ := hmid.done (k := n) (by omega) 0
        rw [hd] at hdone hok
        obtain ⟨E1, a1, f1, s1⟩ := zf_saves hf hr
        obtain ⟨E2, a2, t2, s2⟩ := zt_grow_ok f1.2.1 (p := p) (n := n) (d := zt_d t p) (side := sd) (by omega) hn15 (by omega) hs hi.1.2.1 (hi.1.d3 hp) (by have := hi.1.d15 hp; omega) h5 (by omega) hok
        obtain ⟨f2, s2'⟩ := f1.treeup t2 s2
        refine zz_ok (v := nI n) f2 ((s1.wide (by omega) (by omega)).trans s2') hm ho ?_ (n' := n + 1) (fun E3 H3 => ?_)
        · unfold tw_L_addNode tw_X6_addNode
          rw [if_pos (zq_cls hf.1), (zf_requireNode hf hi.1.2.1 (nI p)).1 qy]
          simp only [zq_bindE, bq_elim, zq_letE]
          rw [clsA, (zf_require hf).2]
          simp only [zq_bindE, bq_elim]
          rw [hf.rT]
          simp only [zq_bindE]
          rw [hf.2.1.int (k := 3) (by omega), hi.1.2.1, zt_at hf.2.1, zt_ix_nI (by omega)]
          simp only [zq_bindE]
          rw [hchild, if_neg hn15', hno]
          simp only [zq_bindE]
          rw [if_pos True.intro, hf.rH]
          simp only [zq_bindE]
          rw [a1]
          simp only [zq_bindE]
          rw [f1.rT]
          simp only [zq_bindE]
          rw [a2]
          rfl
        · show ∃ E' M', tw_X7_addNode E3 (z + 1378) (nI p) (nI sd) = some (_, E') ∧ _
          unfold tw_X7_addNode
          rw [if_pos (zq_cls H3.1), (zm_isNode H3 hr.1.1.1 hi.1.1.1 h15 (nI p)).1 qy]
          simp only [zq_bindE, zq_letE]
          rw [if_neg bq_bT, zm_in_eq, hin]
          simp only [zq_bindE]
          rw [if_neg bq_bT, zm_r1 H3]
          simp only [zq_bindE]
          rw [rd0 E3 H3, hofs E3 H3, hno]
          simp only [zq_bindE]
          obtain ⟨E4, M4, a4, H4, h4, e4, s4⟩ := zm_holds H3
          rw [if_neg hn15', if_pos True.intro, a4]
          simp only [zq_bindE]
          rw [zm_r1 H4]
          simp only [zq_bindE]
          have rd4 : bq_ai E4 (z + 1378 + 1) (0 : Int32) = some (nI n) := by
            rw [show (0 : Int32) = nI 0 from rfl, zm_ai H4 (j := 1) (by omega) (by show 0 < 8183; omega), e4, hr.1.1.1]
          rw [rd4]
          simp only [zq_bindE]
          rw [nI_1]
          obtain ⟨E5, a5, H5, s5⟩ := zm_si H4 (j := 1) (i := 0) (by omega) (by show 0 < 8183; omega) (nI (n + 1))
          rw [show (0 : Int32) = nI 0 from rfl, a5]
          simp only [zq_bindE]
          obtain ⟨E6, M6, y6, a6, H6, d6, o6, s6⟩ := zm_clear (nI p) (nI sd) (fun y13 E14 =>
            (tw_X7_puts E14 (z + 1378) (nI n) (nI 0) (nI p)).bind fun E15 =>
          (tw_X7_puts E15 (z + 1378) (nI n) (1 : Int32) (-1 : Int32)).bind fun E16 =>
          (tw_X7_puts E16 (z + 1378) (nI n) (2 : Int32) (-1 : Int32)).bind fun E17 =>
          (tw_X7_puts E17 (z + 1378) (nI p) (nI 0 + nI sd) (nI n)).bind fun E18 =>
          (tw_X7_buildsUp E18 (z + 1378) (nI n)).bind fun v19 =>
          if nI 0 ≤ v19.1 then
            ((tw_X7_ends v19.2 (z + 1378) (nI n)).bind fun v20 =>
            some (v20.1, v20.2))
          else
            ((tw_X7_ends v19.2 (z + 1378) v19.1).bind fun v21 =>
            some (v21.1, v21.2))) hn15 bq_fuel 0 E5 _ (bq_fuel_ge (by omega)) (Nat.zero_le _) H5 (fun a ha => absurd ha (by omega))
          rw [a6]
          obtain ⟨E7, a7, H7, s7⟩ := zm_puts H6 hn15 (o := 0) (by omega) (nI p)
          rw [a7, show (1 : Int32) = nI 1 from rfl, show (2 : Int32) = nI 2 from rfl]
          simp only [zq_bindE]
          obtain ⟨E8, a8, H8, s8⟩ := zm_puts H7 hn15 (o := 1) (by omega) (-1)
          rw [show -nI 1 = (-1 : Int32) from rfl, a8]
          simp only [zq_bindE]
          obtain ⟨E9, a9, H9, s9⟩ := zm_puts H8 hn15 (o := 2) (by omega) (-1)
          rw [a9]
          simp only [zq_bindE]
          rw [nI_add, Nat.zero_add]
          obtain ⟨E10, a10, H10, s10⟩ := zm_puts H9 (k := p) (by omega) (o := sd) (by omega) (nI n)
          rw [a10]
          simp only [zq_bindE]
          -- what lies where
          have hat : zm_at n = 8 + 545 * n := rfl
          have hatp : zm_at p = 8 + 545 * p := rfl
          obtain ⟨F, hF⟩ : ∃ F, F = (zm_A (zm_A (zm_A (zm_A M6 1 (8 + 545 * n + 0) (nI p)) 1 (8 + 545 * n + 1) (-1)) 1 (8 + 545 * n + 2) (-1)) 1 (8 + 545 * p + sd) (nI n)).1 1 := ⟨_, rfl⟩
          have far : ∀ a, ¬ (zm_at n ≤ a ∧ a < zm_at n + 545) → a ≠ zm_at p + sd → a ≠ 0 → F a = M.1 1 a := fun a h1 h2 h3 => by
            rw [hF, zm_Aoff (by rw [hatp] at h2; omega), zm_Aoff (by rw [hat] at h1; omega), zm_Aoff (by rw [hat] at h1; omega), zm_Aoff (by rw [hat] at h1; omega), o6.2.2 a h1, zm_Aoff h3, e4]
          have F0 : F 0 = nI (n + 1) := by
            rw [hF, zm_Aoff (by omega), zm_Aoff (by omega), zm_Aoff (by omega), zm_Aoff (by omega), o6.2.2 0 (by rw [hat]; omega), zm_Aat]
          have Fn : ∀ a, 3 ≤ a → a < 545 → F (zm_at n + a) = nI 0 := fun a h1 h2 => by
            have := d6 a h2
            rw [hat] at this ⊢
            rw [hF, zm_Aoff (by omega), zm_Aoff (by omega), zm_Aoff (by omega), zm_Aoff (by omega)]
            exact this
          have Fn0 : F (zm_at n + 0) = nI p := by
            rw [hat, hF, zm_Aoff (by omega), zm_Aoff (by omega), zm_Aoff (by omega), zm_Aat]
          have Fn1 : F (zm_at n + 1) = -1 := by
            rw [hat, hF, zm_Aoff (by omega), zm_Aoff (by omega), zm_Aat]
          have Fn2 : F (zm_at n + 2) = -1 := by
            rw [hat, hF, zm_Aoff (by omega), zm_Aat]
          have Fp : F (zm_at p + sd) = nI n := by
            rw [hatp, hF, zm_Aat]
          have hpart : zs_part F (n + 1) (zt_grown t p sd n) n 0 := by
            obtain ⟨⟨r0, r1, r2, r3, r4, r5, r6, r7⟩, rn⟩ := hr.1
            have gi : ∀ i, i ≠ 3 → (zt_grown t p sd n).1 i = t.1 i := fun i hi3 => by rw [zg_i, if_neg hi3]
            refine ⟨⟨F0, ?_, ?_, ?_, ?_, ?_, ?_, ?_⟩, fun j hj hne => ?_, ?_⟩
            · rw [far 1 (by rw [hat]; omega) (by rw [hatp]; omega) (by omega), gi 4 (by omega)]; exact r1
            · rw [far 2 (by rw [hat]; omega) (by rw [hatp]; omega) (by omega), gi 5 (by omega)]; exact r2
            · rw [far 3 (by rw [hat]; omega) (by rw [hatp]; omega) (by omega), gi 6 (by omega)]; exact r3
            · rw [far 4 (by rw [hat]; omega) (by rw [hatp]; omega) (by omega), gi 7 (by omega)]; exact r4
            · rw [far 5 (by rw [hat]; omega) (by rw [hatp]; omega) (by omega), gi 8 (by omega)]; exact r5
            · rw [far 6 (by rw [hat]; omega) (by rw [hatp]; omega) (by omega), gi 9 (by omega)]; exact r6
            · rw [far 7 (by rw [hat]; omega) (by rw [hatp]; omega) (by omega), gi 10 (by omega)]; exact r7
            · have hatj : zm_at j = 8 + 545 * j := rfl
              by_cases w : j = p
              · subst w
                rw [zg_p (by omega)]
                exact (rn j hp).int (hi.cat hp) hs Fp (fun a h1 h2 h3 => far a (by rw [hat]; rw [hatj] at h1 h2; omega) h3 (by rw [hatj] at h1; omega))
              · rw [zg_j hne w]
                exact (rn j (by omega)).keep (hi.cat (by omega)) (fun a h1 h2 => far a (by rw [hat]; rw [hatj] at h1 h2; omega) (by rw [hatp]; rw [hatj] at h1 h2; omega) (by rw [hatj] at h1; omega))
            · rw [zg_n]
              refine ⟨⟨?_, ?_, ?_⟩, ⟨?_, ?_, ?_⟩, ⟨?_, ?_⟩⟩
              · rw [zb_i0]; exact Fn0
              · rw [zb_i1]; exact Fn1
              · rw [zb_i2]; exact Fn2
              · rw [zb_r0]; exact Fn 3 (by omega) (by omega)
              · rw [zb_r0]; intro i hi2; cases hi2
              · rw [zb_r1]; intro i hi2; cases hi2
              · rw [zb_r2]; exact Fn 52 (by omega) (by omega)
              · rw [zb_r2]; intro i hi2; cases hi2
          rw [hF] at hpart
          obtain ⟨E11, M11, a11, H11, r11, o11, s11⟩ := zm_buildsUp H10 hmid.bu (by omega) hpart
          obtain ⟨b, eb, hb⟩ := zi_up_sum (zt_d t p + 1) n 0 _ hmid.bu (by omega) hd.symm
          rw [hd] at a11 r11
          have eb' : (zt_up st (zt_d t p + 1 + 1) n 0 (zt_grown t p sd n)).1 = nI b := by rw [Nat.zero_add] at eb; exact eb
          have hdp := hi.1.d15 hp
          rw [a11, eb']
          simp only [zq_bindE]
          rw [if_pos (nI_le (Nat.zero_le _) (by omega))]
          have hh : zm_held M M11 := h4.keep (by rw [o11.2 3 (by omega), zm_An (by omega), zm_An (by omega), zm_An (by omega), zm_An (by omega), o6.2.1 3 (by omega), zm_An (by omega)]) (by rw [o11.2 2 (by omega), zm_An (by omega), zm_An (by omega), zm_An (by omega), zm_An (by omega), o6.2.1 2 (by omega), zm_An (by omega)]) (by
            rw [o11.1]
            show M6.2.1 3 = _
            rw [o6.1]
            rfl)
          obtain ⟨E12, M12, a12, r12⟩ := zz_ends hr H11 hh r11 hdone (nI n)
          exact ⟨E12, M12, a12, r12.1, r12.2.1, r12.2.2.1, ((((((((s4.trans s5).trans s6).trans s7).trans s8).trans s9).trans s10).trans s11).trans r12.2.2.2)⟩
    · have h1 : ¬ x = 1 := fun e => qx (Or.inl e)
      have h2 : ¬ x = 2 := fun e => qx (Or.inr e)
      have hin : zm_in x 1 2 = false := by
        refine Bool.eq_false_iff.mpr (fun q => ?_)
        obtain ⟨w, w1, w2, rfl, _, _⟩ := zm_in_1 (N := 2) (by omega) q
        have : w = 1 ∨ w = 2 := by omega
        rcases this with rfl | rfl
        · exact h1 rfl
        · exact h2 rfl
      refine zz_bad (code := 2) hf hr ho (by decide) ?_ (zz_code_bad hm ?_)
      · unfold tw_L_addNode tw_X6_addNode
        rw [if_pos (zq_cls hf.1), (zf_requireNode hf hi.1.2.1 (nI p)).1 qy]
        simp only [zq_bindE, bq_elim, zq_letE]
        rw [if_neg h1, if_neg h2, (zf_require hf).1]
        simp only [zq_bindE, bq_elim]
        rw [if_neg zs_ne1, if_pos True.intro]
      · show tw_X7_addNode E (z + 1378) (nI p) x = _
        unfold tw_X7_addNode
        rw [if_pos (zq_cls hm.1), (zm_isNode hm hr.1.1.1 hi.1.1.1 h15 (nI p)).1 qy]
        simp only [zq_bindE, zq_letE]
        rw [if_neg bq_bT, zm_in_eq, hin]
        simp only [zq_bindE]
        rw [if_pos bq_bF]
  · refine zz_bad (code := 1) hf hr ho (by decide) ?_ (zz_node_bad hm hi hr.1.1.1 qy (by unfold tw_X7_addNode; rw [if_pos (zq_cls hm.1)]))
    unfold tw_L_addNode tw_X6_addNode
    rw [if_pos (zq_cls hf.1), (zf_requireNode hf hi.1.2.1 y).2 qy]
    simp only [zq_bindE, bq_elim]
    rw [if_pos True.intro]
end ZoG
