/-! Plain searches; the most probes. -/
/-- only scratch words differ -/
def zm_scr (M M' : zq_M) : Prop := (∀ j, j < 5 → M'.1 j = M.1 j) ∧ (∀ j, j ≠ 7 → j ≠ 8 → M'.2.1 j = M.2.1 j) ∧ M'.2.2 = M.2.2
theorem zm_scr.refl {M : zq_M} : zm_scr M M := ⟨fun _ _ => rfl, fun _ _ _ => rfl, rfl⟩
theorem zm_scr.trans {M M' M'' : zq_M} (h : zm_scr M M') (h2 : zm_scr M' M'') : zm_scr M M'' := ⟨fun j a => (h2.1 j a).trans (h.1 j a), fun j a b => (h2.2.1 j a b).trans (h.2.1 j a b), h2.2.2.trans h.2.2⟩
theorem zm_sk.scr {M M' : zq_M} (h : zm_sk M M') : zm_scr M M' := ⟨fun j a => h.1 j (by omega) (by omega), fun j _ b => h.2.1 j b, h.2.2⟩
theorem zw_hv_cnt (xs : List Nat) (x : Nat) : ∀ n lo hi : Nat, (zw_hv xs x n lo hi).2 ≤ n
  | 0, _, _ => Nat.le_refl _
  | n + 1, lo, hi => by
    unfold zw_hv
    split
    · exact Nat.zero_le _
    · split
      · exact Nat.succ_le_succ (zw_hv_cnt xs x n _ _)
      · exact Nat.succ_le_succ (zw_hv_cnt xs x n _ _)
theorem zw_sb_cnt (xs : List Nat) (x : Nat) : ∀ p : Nat, (zw_sb xs x p).2 ≤ p
  | 0 => Nat.le_refl _
  | p + 1 => by
    unfold zw_sb
    split
    · exact Nat.succ_le_succ (zw_sb_cnt xs x p)
    · show 1 ≤ p + 1
      omega
/-- entry e of the list at level c is looked at by the class -/
def zx_ck (t : zq_T) (P L : List Nat) (c e : Nat) : Prop := e < ((t.2 (P.getD c 0)).2 3).length ∧ zn_gM ((t.2 (P.getD c 0)).2 3) e ≠ zn_gP ((t.2 (P.getD c 0)).2 3) e ∧ zn_gM ((t.2 (P.getD c 0)).2 4) e ≠ zn_gM L (c + 1)
section ZxA
variable {g : bq_G} {E : bq_E} {m n : Nat} {M : zq_M} {t : zq_T} {P L : List Nat}
theorem zm_laid (H : zq_mod g E m M) (h : zi_shape n t) (hN : ∀ j, j < n → zm_node (M.1 1) j (t.2 j)) {k : Nat} (hk : k < n) : ∃ E' M', tw_X7_lays E m (nI k) = some E' ∧ zq_mod g E' m M' ∧ M'.2.1 7 = nI (zw_path t (zt_d t k + 1) k []).length ∧ (∀ i, i < (zw_path t (zt_d t k + 1) k []).length → M'.1 5 i = nI ((zw_path t (zt_d t k + 1) k []).getD i 0)) ∧ zm_scr M M' ∧ (∀ j, j ≠ 5 → M'.1 j = M.1 j) ∧ (∀ j, j ≠ 7 → M'.2.1 j = M.2.1 j) ∧ zq_same E E' m (m + 8) := by
  have hl := zw_path_len t (zt_d t k + 1) k []
  simp only [List.length_nil, Nat.add_zero] at hl
  obtain ⟨E1, M1, a1, H1, b1, c1, d1, e1, f1, s1⟩ := zm_lays H h.1.2 (fun j hj => (hN j hj).1.1) hk (h.d15 hk) (h.up _ k hk rfl)
  rw [hl]
  exact ⟨E1, M1, a1, H1, b1, c1, ⟨fun j hj => d1 j (by omega), fun j hj _ => e1 j hj, f1⟩, d1, e1, s1⟩
theorem zm_plain28 (K : Int32 → Int32 → bq_E → Option (Int32 × bq_E)) (h : zi_inv n t) (hN : ∀ j, j < n → zm_node (M.1 1) j (t.2 j)) (hp : zi_pl n t P L) (h7 : M.2.1 7 = nI P.length) (h5 : ∀ i, i < P.length → M.1 5 i = nI (P.getD i 0)) {x : Nat} (hx : x ≤ 10001) : ∀ (N c s : Nat) (E1 : bq_E) (M1 : zq_M) (w : zq_V), P.length - c < N → c ≤ P.length → s ≤ c → zq_mod g E1 m M1 → zm_sk M M1 → M1.2.1 8 = nI w.1 →
    ∃ E2 M2 s' y, tl_X7_plainProbes_28 m (nI x) K N (nI s) (nI c) E1 = K (nI s') y E2 ∧ s' ≤ P.length ∧ zq_mod g E2 m M2 ∧ zm_sk M M2 ∧ M2.2.1 8 = nI (zw_pgo t x P (P.length - c) c w).1 ∧ zq_same E1 E2 m (m + 8) := by
  have h15 := h.1.1.2
  have hp15 := hp.1.1
  intro N
  induction N with
  | zero => intro c s E1 M1 w h; omega
  | succ N ih =>
    intro c s E1 M1 w hn hc hs H1 sk h8
    have has : ∀ (E1 : bq_E) (M1 : zq_M) (j : Nat), zq_mod g E1 m M1 → zm_sk M M1 → j < n → zm_has g E1 m M1 j (t.2 j) := fun E1 M1 j hm hs hj => ⟨hm, by omega, by rw [hs.1 1 (by omega) (by omega)]; exact hN j hj, h.cat hj⟩
    rw [tl_X7_plainProbes_28.eq_2, zm_i7 H1, sk.2.1 7 (by omega), h7]
    simp only [zq_bindE]
    by_cases q : c < P.length
    · have hk := hp.2.1 c q
      rw [if_neg (nI_ge q (by omega)), zm_r5 H1]
      simp only [zq_bindE]
      rw [zm_ai H1 (j := 5) (by omega) (by show c < 15; omega), sk.1 5 (by omega) (by omega), h5 c q]
      simp only [zq_bindE, zq_letE]
      obtain ⟨k, ek⟩ : ∃ k, k = P.getD c 0 := ⟨_, rfl⟩
      rw [← ek] at hk ⊢
      have hcat := h.cat hk
      have hlb := hcat.1.2
      rw [zm_o3 (has E1 M1 k H1 sk hk)]
      simp only [zq_bindE]
      obtain ⟨E2, a2, H2, s2⟩ := zm_halves H1 (k := k) (xs := (t.2 k).2 0) (o := 4) (fun E2 M2 hm he i hi => zm_oB ⟨hm, by omega, by rw [he]; exact (has E1 M1 k H1 sk hk).2.2.1, hcat⟩ hi) (by omega) (fun y hy => Nat.le_of_lt (hcat.2.2.2.2.1 y hy)) hx (c := w.1) h8
      rw [a2]
      simp only [zq_bindE]
      have sk2 := sk.trans (zm_sk.i8 (M := M1) (nI (w.1 + (zw_half ((t.2 k).2 0) x).2)))
      have hpb : (zw_half ((t.2 k).2 0) x).1 ≤ ((t.2 k).2 0).length := zw_hv_le _ _ _ _ _ (Nat.zero_le _)
      obtain ⟨E3, a3, H3, s3⟩ := zm_answerFrom (has E2 _ k H2 sk2 hk) hpb hx (c := w.1 + (zw_half ((t.2 k).2 0) x).2) zm_Is
      rw [a3]
      simp only [zq_bindE]
      have hf : zw_found (t.2 k) (zw_half ((t.2 k).2 0) x).1 x ≤ 10000 := Nat.le_trans (zn_lb_le _ _ _) (zn_getD_le (fun y hy => Nat.le_of_lt (hcat.2.2.2.2.1 y hy)) (Nat.le_refl _) _)
      have ep := zw_ans_parts (t.2 k) k (zw_half ((t.2 k).2 0) x).1 x (w.1 + (zw_half ((t.2 k).2 0) x).2, (zw_half ((t.2 k).2 0) x).1, w.2.2) hf
      have sk3 := sk2.trans (zm_sk.i8 (M := zm_I M1 8 (nI (w.1 + (zw_half ((t.2 k).2 0) x).2))) (nI (w.1 + (zw_half ((t.2 k).2 0) x).2 + (zn_run (((t.2 k).2 1).drop (zw_half ((t.2 k).2 0) x).1) + ((t.2 k).2 2).length))))
      have fin : ∀ s' : Nat, s' ≤ c + 1 → ∃ E4 M4 s'' y, tl_X7_plainProbes_28 m (nI x) K N (nI s') (nI (c + 1)) E3 = K (nI s'') y E4 ∧ s'' ≤ P.length ∧ zq_mod g E4 m M4 ∧ zm_sk M M4 ∧ M4.2.1 8 = nI (zw_pgo t x P (P.length - c) c w).1 ∧ zq_same E1 E4 m (m + 8) := by
        intro s' hs'
        obtain ⟨E4, M4, s'', y, a4, b4, H4, k4, v4, s4⟩ := ih (c + 1) s' E3 _ (zw_pstep t x (P.getD c 0) w) (by omega) (by omega) hs' H3 sk3 (by
          rw [← ek, zm_Is]
          show nI _ = nI (zw_ans (t.2 k) k (zw_half ((t.2 k).2 0) x).1 x (w.1 + (zw_half ((t.2 k).2 0) x).2, (zw_half ((t.2 k).2 0) x).1, w.2.2)).1
          rw [ep.1])
        refine ⟨E4, M4, s'', y, a4, b4, H4, k4, ?_, (s2.trans s3).trans s4⟩
        rw [show P.length - c = (P.length - (c + 1)) + 1 by omega]
        exact v4
      rw [show nI s + (0 : Int32) = nI (s + 0) from nI_add s 0, nI_1, nI_1]
      split
      · exact fin (s + 0) (by omega)
      · exact fin (s + 1) (by omega)
    · have : c = P.length := by omega
      subst this
      rw [if_pos (nI_le (Nat.le_refl _) (by omega)), Nat.sub_self]
      exact ⟨E1, M1, s, _, rfl, hs, H1, sk, h8, zq_same.refl⟩
theorem zw_go_cnt (h : zi_inv n t) (hp : zi_pl n t P L) (x : Nat) : ∀ (r c : Nat) (w : zq_V), c + r ≤ P.length → (zw_go t x P L r c w).1 ≤ w.1 + 300 * r
  | 0, _, w, _ => by show w.1 ≤ _; omega
  | r + 1, c, w, hc => by
    have hk := hp.2.1 c (by omega)
    have hcat := h.cat hk
    have h1 := zw_go_cnt h hp x r (c + 1) (zw_step t x c (P.getD c 0) (L.getD c 1) w) (by omega)
    have hnear : (zw_near t x c (P.getD c 0) (L.getD c 1) w).1 ≤ w.1 + 100 := by
      have hkl := hcat.2.2.1.2
      unfold zw_near
      split
      · have := zw_hv_cnt ((t.2 (P.getD c 0)).2 3) x (((t.2 (P.getD c 0)).2 3).length + 1) 0 ((t.2 (P.getD c 0)).2 3).length
        show w.1 + (zw_hv _ _ _ _ _).2 ≤ _
        omega
      · rename_i q
        obtain ⟨c', rfl⟩ : ∃ c', c = c' + 1 := ⟨c - 1, by omega⟩
        obtain ⟨u1, u2, u3⟩ := hp.2.2 c' (by omega)
        have hb := h.bridge u2 hk w.2.1
        have := zw_sb_cnt ((t.2 (P.getD (c' + 1) 0)).2 3) x (((t.2 (zi_par t (P.getD (c' + 1) 0))).2 (5 + zw_side t (P.getD (c' + 1) 0))).getD w.2.1 0)
        rw [u3]
        show w.1 + (zw_sb ((t.2 (P.getD (c' + 1) 0)).2 3) x (((t.2 (zi_par t (P.getD (c' + 1) 0))).2 (5 + zw_side t (P.getD (c' + 1) 0))).getD w.2.1 0)).2 ≤ w.1 + 100
        omega
    have hstep : (zw_step t x c (P.getD c 0) (L.getD c 1) w).1 ≤ w.1 + 300 := by
      have hf : zw_found (t.2 (P.getD c 0)) (((t.2 (P.getD c 0)).2 5).getD (zw_near t x c (P.getD c 0) (L.getD c 1) w).2.1 0) x ≤ 10000 := Nat.le_trans (zn_lb_le _ _ _) (zn_getD_le (fun y hy => Nat.le_of_lt (hcat.2.2.2.2.1 y hy)) (Nat.le_refl _) _)
      have ep := (zw_ans_parts (t.2 (P.getD c 0)) (P.getD c 0) (((t.2 (P.getD c 0)).2 5).getD (zw_near t x c (P.getD c 0) (L.getD c 1) w).2.1 0) x (zw_near t x c (P.getD c 0) (L.getD c 1) w) hf).1
      unfold zw_step
      rw [ep]
      have r1 := zn_run_le (((t.2 (P.getD c 0)).2 1).drop (((t.2 (P.getD c 0)).2 5).getD (zw_near t x c (P.getD c 0) (L.getD c 1) w).2.1 0))
      rw [List.length_drop] at r1
      have := hcat.1
      have := hcat.2.1
      omega
    show (zw_go t x P L r (c + 1) (zw_step t x c (P.getD c 0) (L.getD c 1) w)).1 ≤ _
    omega
theorem zw_find_cnt (h : zi_inv n t) (hp : zi_pl n t P L) (x : Nat) : (zw_find t P L x).1 ≤ 4500 := by
  have h1 := zw_go_cnt h hp x P.length 0 zw_zero (by omega)
  have := hp.1.1
  show (zw_go t x P L P.length 0 zw_zero).1 ≤ _
  have hz : zw_zero.1 = 0 := rfl
  omega
theorem nI_max {a b : Nat} (ha : a ≤ 4500) (hb : b ≤ 4500) : (if nI a < nI b then nI b else nI a) = nI (max a b) := by
  by_cases q : a < b
  · rw [if_pos (nI_lt q (by omega)), Nat.max_eq_right (by omega)]
  · rw [if_neg (nI_nlt (by omega) (by omega)), Nat.max_eq_left (by omega)]
/-- r is the greatest of b and of what f says of those that Q names -/
def zx_top (f : Nat → Nat) (Q : Nat → Prop) (b r : Nat) : Prop := b ≤ r ∧ r ≤ 4500 ∧ (∀ K, Q K → f K ≤ r) ∧ (r = b ∨ ∃ K, Q K ∧ r = f K)
theorem zx_top.one {f : Nat → Nat} (hf : ∀ K, f K ≤ 4500) {b K : Nat} (hb : b ≤ 4500) : zx_top f (fun J => J = K) b (max b (f K)) := by
  have := hf K
  refine ⟨by omega, by omega, fun J hJ => by subst hJ; omega, ?_⟩
  by_cases q : b ≤ f K
  · exact Or.inr ⟨K, rfl, by omega⟩
  · exact Or.inl (by omega)
theorem zx_top.trans {f : Nat → Nat} {Q R : Nat → Prop} {a b c : Nat} (h : zx_top f Q a b) (h2 : zx_top f R b c) : zx_top f (fun K => Q K ∨ R K) a c := by
  obtain ⟨h1, _, h3, h4⟩ := h
  obtain ⟨g1, g2, g3, g4⟩ := h2
  refine ⟨by omega, g2, fun K hK => ?_, ?_⟩
  · rcases hK with q | q
    · have := h3 K q; omega
    · exact g3 K q
  · rcases g4 with q | ⟨K, q1, q2⟩
    · rcases h4 with w | ⟨K, w1, w2⟩
      · exact Or.inl (by omega)
      · exact Or.inr ⟨K, Or.inl w1, by omega⟩
    · exact Or.inr ⟨K, Or.inr q1, q2⟩
theorem zx_top.iff {f : Nat → Nat} {Q R : Nat → Prop} {a b : Nat} (h : zx_top f Q a b) (hq : ∀ K, Q K ↔ R K) : zx_top f R a b := ⟨h.1, h.2.1, fun K hK => h.2.2.1 K ((hq K).mpr hK), h.2.2.2.imp id (fun ⟨K, a, b⟩ => ⟨K, (hq K).mp a, b⟩)⟩
theorem zx_top.uniq {f : Nat → Nat} {Q R : Nat → Prop} {a b c : Nat} (h : zx_top f Q a b) (h2 : zx_top f R a c) (hq : ∀ K, Q K ↔ R K) : b = c := by
  have h3 := h2.iff (fun K => (hq K).symm)
  obtain ⟨h1, _, h3', h4⟩ := h
  obtain ⟨g1, g2, g3, g4⟩ := h3
  have le1 : b ≤ c := by
    rcases h4 with q | ⟨K, q1, q2⟩
    · omega
    · have := g3 K q1; omega
  have le2 : c ≤ b := by
    rcases g4 with q | ⟨K, q1, q2⟩
    · omega
    · have := h3' K q1; omega
  omega
theorem zx_mi (h : zi_inv n t) (hp : zi_pl n t P L) (c : Nat) : ∀ (r e b : Nat), e + r = ((t.2 (P.getD c 0)).2 3).length → b ≤ 4500 → ∃ b', zw_mi t P L ((t.2 (P.getD c 0)).2 3) ((t.2 (P.getD c 0)).2 4) (zn_gM L (c + 1)) r e (nI b) = nI b' ∧ zx_top (fun K => (zw_find t P L (K + 1)).1) (fun K => ∃ i, e ≤ i ∧ zx_ck t P L c i ∧ K = ((t.2 (P.getD c 0)).2 3).getD i 0) b b' := by
  intro r
  induction r with
  | zero =>
    intro e b he hb
    exact ⟨b, rfl, Nat.le_refl _, hb, fun K ⟨i, i1, i2, _⟩ => by have := i2.1; omega, Or.inl rfl⟩
  | succ r ih =>
    intro e b he hb
    have hstop : ¬ zx_ck t P L c e → ∀ b', zx_top (fun K => (zw_find t P L (K + 1)).1) (fun K => ∃ i, e + 1 ≤ i ∧ zx_ck t P L c i ∧ K = ((t.2 (P.getD c 0)).2 3).getD i 0) b b' → zx_top (fun K => (zw_find t P L (K + 1)).1) (fun K => ∃ i, e ≤ i ∧ zx_ck t P L c i ∧ K = ((t.2 (P.getD c 0)).2 3).getD i 0) b b' := fun hn b' hb' => hb'.iff (fun K => ⟨fun ⟨i, a, b, c⟩ => ⟨i, by omega, b, c⟩, fun ⟨i, a, b, c⟩ => ⟨i, by
        by_cases q : i = e
        · subst q; exact absurd b hn
        · omega, b, c⟩⟩)
    unfold zw_mi
    by_cases q1 : zn_gM ((t.2 (P.getD c 0)).2 3) e = zn_gP ((t.2 (P.getD c 0)).2 3) e
    · rw [if_pos q1]
      obtain ⟨b', a1, a2⟩ := ih (e + 1) b (by omega) hb
      exact ⟨b', a1, hstop (fun w => w.2.1 q1) b' a2⟩
    · rw [if_neg q1]
      by_cases q2 : zn_gM ((t.2 (P.getD c 0)).2 4) e = zn_gM L (c + 1)
      · rw [if_pos q2]
        obtain ⟨b', a1, a2⟩ := ih (e + 1) b (by omega) hb
        exact ⟨b', a1, hstop (fun w => w.2.2 q2) b' a2⟩
      · rw [if_neg q2, nI_max hb (zw_find_cnt h hp _)]
        have t1 := zx_top.one (f := fun K => (zw_find t P L (K + 1)).1) (fun K => zw_find_cnt h hp _) (K := ((t.2 (P.getD c 0)).2 3).getD e 0) hb
        obtain ⟨b', a1, a2⟩ := ih (e + 1) _ (by omega) t1.2.1
        refine ⟨b', a1, (t1.trans a2).iff (fun K => ⟨?_, ?_⟩)⟩
        · rintro (rfl | ⟨i, a, b, c⟩)
          · exact ⟨e, Nat.le_refl _, ⟨by omega, q1, q2⟩, rfl⟩
          · exact ⟨i, by omega, b, c⟩
        · rintro ⟨i, a, b, c⟩
          by_cases q : i = e
          · subst q; exact Or.inl c
          · exact Or.inr ⟨i, by omega, b, c⟩
theorem zx_mo (h : zi_inv n t) (hp : zi_pl n t P L) : ∀ (r c b : Nat), c + r = P.length → b ≤ 4500 → ∃ b', zw_mo t P L r c (nI b) = nI b' ∧ zx_top (fun K => (zw_find t P L (K + 1)).1) (fun K => ∃ d, (c ≤ d ∧ d < P.length) ∧ ∃ i, zx_ck t P L d i ∧ K = ((t.2 (P.getD d 0)).2 3).getD i 0) b b' := by
  intro r
  induction r with
  | zero =>
    intro c b hc hb
    exact ⟨b, rfl, Nat.le_refl _, hb, fun K ⟨d, d1, _⟩ => by omega, Or.inl rfl⟩
  | succ r ih =>
    intro c b hc hb
    unfold zw_mo
    obtain ⟨b1, a1, a2⟩ := zx_mi h hp c ((t.2 (P.getD c 0)).2 3).length 0 b (by omega) hb
    rw [a1]
    obtain ⟨b2, c1, c2⟩ := ih (c + 1) b1 (by omega) a2.2.1
    refine ⟨b2, c1, (a2.trans c2).iff (fun K => ⟨?_, ?_⟩)⟩
    · rintro (⟨i, _, i2, i3⟩ | ⟨d, d1, d2⟩)
      · exact ⟨c, ⟨Nat.le_refl _, by omega⟩, i, i2, i3⟩
      · exact ⟨d, ⟨by omega, d1.2⟩, d2⟩
    · rintro ⟨d, d1, i, i2, i3⟩
      by_cases q : d = c
      · subst q; exact Or.inl ⟨i, Nat.zero_le _, i2, i3⟩
      · exact Or.inr ⟨d, ⟨by omega, d1.2⟩, i, i2, i3⟩
theorem zx_most (h : zi_inv n t) (hp : zi_pl n t P L) : ∃ b', zw_most t P L = nI b' ∧ zx_top (fun K => (zw_find t P L (K + 1)).1) (fun K => ∃ d, d < P.length ∧ ∃ i, zx_ck t P L d i ∧ K = ((t.2 (P.getD d 0)).2 3).getD i 0) (zw_find t P L 0).1 b' := by
  obtain ⟨b, a1, a2⟩ := zx_mo h hp P.length 0 (zw_find t P L 0).1 (by omega) (zw_find_cnt h hp _)
  exact ⟨b, a1, a2.iff (fun K => ⟨fun ⟨d, d1, d2⟩ => ⟨d, d1.2, d2⟩, fun ⟨d, d1, d2⟩ => ⟨d, ⟨Nat.zero_le _, d1⟩, d2⟩⟩)⟩
/-- every key of a list of the path is looked at -/
theorem zx_all (h : zi_inv n t) (hp : zi_pl n t P L) : ∀ (r d : Nat), d + r = P.length → ∀ K, K ∈ (t.2 (P.getD d 0)).2 3 → d < P.length → ∃ d', d' < P.length ∧ ∃ i, zx_ck t P L d' i ∧ K = ((t.2 (P.getD d' 0)).2 3).getD i 0 := by
  have h15 := h.1.1.2
  intro r
  induction r with
  | zero => intro d hd K hK hl; omega
  | succ r ih =>
    intro d hd K hK hl
    have hk := hp.2.1 d hl
    have hcat := h.cat hk
    obtain ⟨k, ek⟩ : ∃ k, k = P.getD d 0 := ⟨_, rfl⟩
    rw [← ek] at hK hk hcat
    have hi := zn_pos_lt hK
    have hg := zn_pos_get hK
    have hgM : zn_gM ((t.2 k).2 3) (zn_pos K ((t.2 k).2 3)) = nI K := by
      unfold zn_gM; rw [hg]
    have hKlt : K < 10000 := hcat.2.2.2.2.2.2.2.1 K hK
    -- the first entry with this key
    have hfirst : ∀ (xs : List Nat), K ∈ xs → ∀ i, i < zn_pos K xs → xs[i]? ≠ some K := by
      intro xs
      induction xs with
      | nil => intro hm; cases hm
      | cons y s ihs =>
        intro hm i hi2
        have e : zn_pos K (y :: s) = if y = K then 0 else zn_pos K s + 1 := rfl
        rw [e] at hi2
        by_cases q : y = K
        · rw [if_pos q] at hi2; omega
        · rw [if_neg q] at hi2
          cases i with
          | zero => simpa using q
          | succ i =>
            rw [List.getElem?_cons_succ]
            exact ihs ((List.mem_cons.mp hm).resolve_left (fun w => q w.symm)) i (by omega)
    have h1 : zn_gM ((t.2 k).2 3) (zn_pos K ((t.2 k).2 3)) ≠ zn_gP ((t.2 k).2 3) (zn_pos K ((t.2 k).2 3)) := by
      rw [hgM]
      have hf := hfirst _ hK
      cases hz : zn_pos K ((t.2 k).2 3) with
      | zero => exact zn_m1 (by omega)
      | succ e =>
        show nI K ≠ zn_gM ((t.2 k).2 3) e
        rw [hz] at hf hi
        have := hf e (by omega)
        have he : e < ((t.2 k).2 3).length := by omega
        rw [List.getElem?_eq_getElem he] at this
        unfold zn_gM
        rw [List.getElem?_eq_getElem he]
        intro w
        have hlt := hcat.2.2.2.2.2.2.2.1 _ (List.getElem_mem he)
        have := (nI_inj (by omega) (by omega)).mp w
        exact absurd (congrArg some this.symm) (by assumption)
    have ho : zn_pos K ((t.2 k).2 3) < ((t.2 k).2 4).length := by have := hcat.2.2.1.1; omega
    have hoM : zn_gM ((t.2 k).2 4) (zn_pos K ((t.2 k).2 3)) = nI ((t.2 k).2 4)[zn_pos K ((t.2 k).2 3)] := by
      unfold zn_gM; rw [List.getElem?_eq_getElem ho]
    have ho3 := hcat.2.2.2.2.2.2.2.2 _ (List.getElem_mem ho)
    have hKg : K = ((t.2 k).2 3).getD (zn_pos K ((t.2 k).2 3)) 0 := by simp only [List.getD, hg, Option.getD_some]
    by_cases q : zn_gM ((t.2 k).2 4) (zn_pos K ((t.2 k).2 3)) = zn_gM L (d + 1)
    · -- a sample of the next list
      have hlL : d + 1 < P.length := by
        by_cases w : d + 1 < P.length
        · exact w
        · exfalso
          have : zn_gM L (d + 1) = -1 := by
            unfold zn_gM
            rw [List.getElem?_eq_none (by have := hp.1.2; omega)]
          rw [this, hoM] at q
          exact zn_m1 (by omega) q
      obtain ⟨u1, u2, u3⟩ := hp.2.2 d hlL
      have hk2 := hp.2.1 (d + 1) hlL
      obtain ⟨s1, s2⟩ := zw_side_kid h.1 u2 hk2
      have hLg : zn_gM L (d + 1) = nI (zw_side t (P.getD (d + 1) 0)) := by
        have hl2 : d + 1 < L.length := by have := hp.1.2; omega
        rw [← u3]
        unfold zn_gM
        rw [List.getElem?_eq_getElem hl2, zn_gD hl2]
      rw [hLg, hoM] at q
      have horg := (nI_inj (by omega) (by omega)).mp q
      refine ih (d + 1) (by omega) K ?_ hlL
      obtain ⟨st, la, lb, lc, ld⟩ := h.2.2.2.2.1 k hk
      have e3 : (t.2 k).2 3 = (zl_list st ((t.2 k).2 0) (zt_ent t ((t.2 k).1 1)) (zt_ent t ((t.2 k).1 2))).map Prod.fst := lc 3 (by omega) (by omega)
      have e4 : (t.2 k).2 4 = (zl_list st ((t.2 k).2 0) (zt_ent t ((t.2 k).1 1)) (zt_ent t ((t.2 k).1 2))).map Prod.snd := lc 4 (by omega) (by omega)
      obtain ⟨i, hie⟩ : ∃ i, i = zn_pos K ((t.2 k).2 3) := ⟨_, rfl⟩
      have hil : i < (zl_list st ((t.2 k).2 0) (zt_ent t ((t.2 k).1 1)) (zt_ent t ((t.2 k).1 2))).length := by
        rw [hie]
        have := hi
        rw [congrArg List.length e3, List.length_map] at this
        exact this
      have hq1 : (zl_list st ((t.2 k).2 0) (zt_ent t ((t.2 k).1 1)) (zt_ent t ((t.2 k).1 2)))[i].1 = K := by
        have := hg
        rw [← hie, e3, List.getElem?_map, List.getElem?_eq_getElem hil] at this
        exact Option.some.inj this
      have hq2 : (zl_list st ((t.2 k).2 0) (zt_ent t ((t.2 k).1 1)) (zt_ent t ((t.2 k).1 2)))[i].2 = zw_side t (P.getD (d + 1) 0) := by
        rw [← horg]
        have : ((t.2 k).2 4)[i]? = some (zl_list st ((t.2 k).2 0) (zt_ent t ((t.2 k).1 1)) (zt_ent t ((t.2 k).1 2)))[i].2 := by
          rw [e4, List.getElem?_map, List.getElem?_eq_getElem hil]
          rfl
        have w2 : ((t.2 k).2 4)[i]? = some (((t.2 k).2 4)[zn_pos K ((t.2 k).2 3)]) := by rw [hie, List.getElem?_eq_getElem ho]
        exact Option.some.inj (this.symm.trans w2)
      have hmem := zp_all_mem (lb.list.1.mem_iff.mp (List.getElem_mem hil))
      have ekid : zt_ent t ((t.2 k).1 (zw_side t (P.getD (d + 1) 0))) = (t.2 (P.getD (d + 1) 0)).2 3 := by
        rw [u1, ← ek] at s1
        rw [s1]
        unfold zt_ent
        rw [if_neg (zn_m1 (by omega)), zt_ix_nI (by omega)]
      rw [hq1, hq2] at hmem
      rw [← ekid]
      rcases s2 with w | w
      · rw [w] at hmem ⊢
        rcases hmem with ⟨z, _⟩ | ⟨_, z⟩ | ⟨z, _⟩
        · omega
        · exact z
        · omega
      · rw [w] at hmem ⊢
        rcases hmem with ⟨z, _⟩ | ⟨z, _⟩ | ⟨_, z⟩
        · omega
        · omega
        · exact z
    · exact ⟨d, hl, zn_pos K ((t.2 k).2 3), ⟨by rw [← ek]; exact hi, by rw [← ek]; exact h1, by rw [← ek]; exact q⟩, by rw [← ek]; exact hKg⟩
end ZxA
