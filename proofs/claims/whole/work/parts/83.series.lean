/-! addSeries, rebuildAll. -/
def zs_ser (st k dif : Nat) : Nat → Nat → zq_T → Nat × zq_T
  | 0, _, t => (0, t)
  | r + 1, key, t => if 10000 ≤ key ∨ 24 ≤ (zc_newbase (t.2 k)).length then (0, t) else
    ((if zc_has (t.2 k) key = true then 0 else 1) + (zs_ser st k dif r (key + dif) (zt_takeIn st k key t).2).1, (zs_ser st k dif r (key + dif) (zt_takeIn st k key t).2).2)
section ZoF
variable {g : bq_G} {E : bq_E} {z m n st k p cnt : Nat} {M : zq_M} {t : zq_T} {u : Nat → zq_T}
theorem zc_full24 {v : zq_N} (hc : zi_hc v) : (zc_count v < 24 ↔ ¬ 24 ≤ (zc_newbase v).length) ∧ ((24 : Int32) ≤ zc_count v ↔ 24 ≤ (zc_newbase v).length) := by
  have h24 := zc_nb_24 hc
  have e := zc_count_eq hc
  have h1 : nI (zc_newbase v).length < nI 24 ↔ (zc_newbase v).length < 24 := nI_ltI (by omega) (by omega)
  have h2 : nI 24 ≤ nI (zc_newbase v).length ↔ 24 ≤ (zc_newbase v).length := nI_leI (by omega) (by omega)
  rw [e]
  exact ⟨h1.trans ⟨fun q => by omega, fun q => by omega⟩, h2⟩
theorem zf_ser (hk : k < n) (hst : 2 ≤ st ∧ st ≤ 5) {dif many : Nat} (hd : dif ≤ 999) (hm : many ≤ 24) : ∀ (r i key taken : Nat) (N : Nat) (E : bq_E) (t : zq_T), r + i = many → r < N → key ≤ 10999 → zq_face g E z t u p cnt → zi_inv n t → t.1 5 = nI st →
    ∃ E', tl_X6_addSeries_73 z (nI k) (nI dif) (nI many) N (nI key) (nI taken) (nI i) E = some (Sum.inl (nI (taken + (zs_ser st k dif r key t).1)), E') ∧ zq_face g E' z (zs_ser st k dif r key t).2 u p cnt ∧ zi_inv n (zs_ser st k dif r key t).2 ∧ zq_same E E' z (z + 1378) := by
  intro r
  induction r with
  | zero =>
    intro i key taken N E t hr hN hkey hf hi h5
    obtain ⟨N, rfl⟩ : ∃ N', N = N' + 1 := ⟨N - 1, by omega⟩
    rw [tl_X6_addSeries_73.eq_2, if_pos (nI_le (by omega) (by omega))]
    exact ⟨E, rfl, hf, hi, zq_same.refl⟩
  | succ r ih =>
    intro i key taken N E t hr hN hkey hf hi h5
    obtain ⟨N, rfl⟩ : ∃ N', N = N' + 1 := ⟨N - 1, by omega⟩
    have h15 := hi.1.1.2
    have hc := hi.2.2.2.1 k hk
    obtain ⟨fl1, fl2⟩ := zc_full24 hc
    have C := hf.2.1.cat (k := k) (by omega)
    rw [tl_X6_addSeries_73.eq_2, if_neg (nI_ge (by omega) (by omega))]
    unfold zs_ser
    by_cases q1 : 10000 ≤ key
    · rw [if_pos (show (10000 : Int32) ≤ nI key from nI_le (a := 10000) q1 (by omega)), if_pos (Or.inl q1)]
      exact ⟨E, rfl, hf, hi, zq_same.refl⟩
    · rw [if_neg (show ¬ (10000 : Int32) ≤ nI key from nI_ge (b := 10000) (by omega) (by omega)), hf.rT]
      simp only [zq_bindE]
      rw [zt_at hf.2.1, zt_ix_nI (by omega)]
      simp only [zq_bindE]
      rw [zc_isFull C]
      simp only [zq_bindE]
      by_cases q2 : 24 ≤ (zc_newbase (t.2 k)).length
      · rw [decide_eq_false (fun w => fl1.mp w q2), if_neg (show ¬ bq_b (!false) = 0 from bq_bT), if_pos (Or.inr q2)]
        exact ⟨E, rfl, hf, hi, zq_same.refl⟩
      · rw [decide_eq_true (fl1.mpr q2), if_pos (show bq_b (!true) = 0 from bq_bF), if_neg (fun w => w.elim q1 q2)]
        obtain ⟨E1, a1, f1, s1⟩ := zf_takeIn hf hi hk h5 hst (key := key) (by omega) (fun _ => by omega)
        obtain ⟨hinv, _, _, _, h5'⟩ := zt_take_inv hi hk h5 hst (key := key) (by omega) (fun _ => by omega)
        rw [a1]
        simp only [zq_bindE, zq_letE]
        rw [nI_add, nI_1, nI_1]
        cases hh : zc_has (t.2 k) key with
        | true =>
          rw [if_pos (show bq_b (!true) = 0 from bq_bF), if_pos rfl]
          obtain ⟨E2, a2, f2, i2, s2⟩ := ih (i + 1) (key + dif) taken N E1 _ (by omega) (by omega) (by omega) f1 hinv h5'
          refine ⟨E2, ?_, f2, i2, s1.trans s2⟩
          rw [a2, Nat.zero_add]
        | false =>
          rw [if_neg (show ¬ bq_b (!false) = 0 from bq_bT), if_neg (show ¬ false = true by decide)]
          obtain ⟨E2, a2, f2, i2, s2⟩ := ih (i + 1) (key + dif) (taken + 1) N E1 _ (by omega) (by omega) (by omega) f1 hinv h5'
          refine ⟨E2, ?_, f2, i2, s1.trans s2⟩
          rw [a2, Nat.add_assoc]
theorem zm_ser (hk : k < n) (hst : 2 ≤ st ∧ st ≤ 5) {first dif many : Nat} (hd : dif ≤ 999) (hm : many ≤ 24) (hfk : first < 10000) : ∀ (r i taken : Nat) (N : Nat) (E : bq_E) (M : zq_M) (t : zq_T), r + i = many → r < N → zq_mod g E m M → zs_rel (M.1 1) n t → zi_inv n t → t.1 5 = nI st →
    ∃ E' M', tl_X7_addSeries_59 m (nI k) (nI first) (nI dif) (nI many) N (nI taken) (nI i) E = (tw_X7_ends E' m (nI (taken + (zs_ser st k dif r (first + i * dif) t).1))).bind (fun v => some (v.1, v.2)) ∧ zq_mod g E' m M' ∧ zs_rel (M'.1 1) n (zs_ser st k dif r (first + i * dif) t).2 ∧ zm_two M M' ∧ zq_same E E' m (m + 8) := by
  intro r
  induction r with
  | zero =>
    intro i taken N E M t hr hN H hrel hi h5
    obtain ⟨N, rfl⟩ : ∃ N', N = N' + 1 := ⟨N - 1, by omega⟩
    rw [tl_X7_addSeries_59.eq_2, if_pos (nI_le (by omega) (by omega))]
    exact ⟨E, M, rfl, H, hrel, zm_two.refl, zq_same.refl⟩
  | succ r ih =>
    intro i taken N E M t hr hN H hrel hi h5
    obtain ⟨N, rfl⟩ : ∃ N', N = N' + 1 := ⟨N - 1, by omega⟩
    have h15 := hi.1.1.2
    have hc := hi.2.2.2.1 k hk
    have hib : i * dif ≤ 24 * 999 := Nat.mul_le_mul (by omega) hd
    obtain ⟨fl1, fl2⟩ := zc_full24 hc
    have has : zm_has g E m M k (t.2 k) := ⟨H, by omega, hrel.2 k hk, hi.cat hk⟩
    rw [tl_X7_addSeries_59.eq_2, if_neg (nI_ge (by omega) (by omega)), pk_mul, nI_add]
    unfold zs_ser
    by_cases q1 : 10000 ≤ first + i * dif
    · rw [if_pos (show (9999 : Int32) < nI (first + i * dif) from nI_lt (a := 9999) (by omega) (by omega)), if_pos (Or.inl q1)]
      exact ⟨E, M, rfl, H, hrel, zm_two.refl, zq_same.refl⟩
    · rw [if_neg (show ¬ (9999 : Int32) < nI (first + i * dif) from nI_nlt (a := 9999) (by omega) (by omega)), zm_keys has hc.2.1]
      simp only [zq_bindE]
      by_cases q2 : 24 ≤ (zc_newbase (t.2 k)).length
      · rw [if_pos (fl2.mpr q2), if_pos (Or.inr q2)]
        exact ⟨E, M, rfl, H, hrel, zm_two.refl, zq_same.refl⟩
      · rw [if_neg (fun w => q2 (fl2.mp w)), if_neg (fun w => w.elim q1 q2), zm_hasKey has hc.2.1 (by omega)]
        simp only [zq_bindE, zq_letE]
        rw [nI_1, nI_1]
        obtain ⟨hinv, _, hsame, _, h5'⟩ := zt_take_inv hi hk h5 hst (key := first + i * dif) (by omega) (fun _ => by omega)
        have enext : first + i * dif + dif = first + (i + 1) * dif := by rw [Nat.succ_mul, Nat.add_assoc]
        rw [enext]
        cases hh : zc_has (t.2 k) (first + i * dif) with
        | true =>
          rw [if_neg bq_bT, if_pos rfl, hsame hh]
          obtain ⟨E2, M2, a2, H2, r2, o2, s2⟩ := ih (i + 1) taken N E M t (by omega) (by omega) H hrel hi h5
          refine ⟨E2, M2, ?_, H2, r2, o2, s2⟩
          rw [a2, Nat.zero_add]
        | false =>
          rw [if_pos bq_bF, if_neg (show ¬ false = true by decide)]
          obtain ⟨E1, M1, a1, H1, r1, o1, s1⟩ := zm_comes H hi hrel hk h5 hst (key := first + i * dif) (by omega) hh (by omega)
          rw [a1]
          simp only [zq_bindE]
          obtain ⟨E2, M2, a2, H2, r2, o2, s2⟩ := ih (i + 1) (taken + 1) N E1 M1 _ (by omega) (by omega) H1 r1 hinv h5'
          refine ⟨E2, M2, ?_, H2, r2, o1.trans o2, s1.trans s2⟩
          rw [a2, Nat.add_assoc]
theorem zm_in_1 {x : Int32} {N : Nat} (hN : N < 2 ^ 31) (h : zm_in x 1 (nI N) = true) : ∃ w, 1 ≤ w ∧ w ≤ N ∧ x = nI w ∧ ¬ x < 1 ∧ ¬ nI N < x := by
  obtain ⟨a, b⟩ := zm_in_iff.mp h
  have h0 : ¬ x < 0 := fun q => a (Int32.lt_trans q (by decide))
  obtain ⟨j, hj, rfl⟩ := nI_of h0
  refine ⟨j, ?_, ?_, rfl, a, b⟩
  · by_cases w : 1 ≤ j
    · exact w
    · exact absurd (nI_lt (a := j) (b := 1) (by omega) (by omega)) a
  · by_cases w : j ≤ N
    · exact w
    · exact absurd (nI_lt (a := N) (b := j) (by omega) hj) b
theorem zm_in_1n {x : Int32} {N : Nat} (h : ¬ zm_in x 1 (nI N) = true) : x < 1 ∨ (¬ x < 1 ∧ nI N < x) := by
  by_cases w : x < 1
  · exact Or.inl w
  · exact Or.inr ⟨w, Classical.byContradiction (fun w2 => h (zm_in_iff.mpr ⟨w, w2⟩))⟩
theorem zo_addSeries (h : zz_E g E z) (y x d s : Int32) : zz_turn g z (tw_L_addSeries E z y x d s (z + 1386)) (fun E => tw_X7_addSeries E (z + 1378) y x d s) := by
  obtain ⟨n, t, u, p, cnt, M, hf, hm, hr, f, ho⟩ := h
  have hi := hr.2.1
  have h15 := hi.1.1.2
  have bad2 : zf_isnode n y → (tw_L_addSeries E z y x d s (z + 1386) = some (2, E)) → ((tw_X7_isKey E x).bind fun v2 => if (bq_b v2) = 0 then some () else (tw_X7_in E d (1 : Int32) (999 : Int32)).bind fun v4 => if (bq_b v4) = 0 then some () else (tw_X7_in E s (1 : Int32) (24 : Int32)).bind fun v5 => if (bq_b v5) = 0 then some () else none) = some () → zz_turn g z (tw_L_addSeries E z y x d s (z + 1386)) (fun E => tw_X7_addSeries E (z + 1378) y x d s) := by
    intro qy hL hR
    refine zz_bad (code := 2) hf hr ho (by decide) hL (zz_code_bad hm ?_)
    show tw_X7_addSeries E (z + 1378) y x d s = _
    unfold tw_X7_addSeries
    rw [if_pos (zq_cls hm.1), (zm_isNode hm hr.1.1.1 hi.1.1.1 h15 y).1 qy]
    simp only [zq_bindE, zq_letE]
    rw [if_neg bq_bT]
    by_cases qx : zf_key x
    · rw [(zm_isKey E x).1 qx] at hR ⊢
      simp only [zq_bindE] at hR ⊢
      rw [if_neg bq_bT] at hR ⊢
      rw [zm_in_eq] at hR ⊢
      simp only [zq_bindE] at hR ⊢
      by_cases qd : zm_in d 1 999 = true
      · rw [qd, if_neg bq_bT] at hR ⊢
        rw [zm_in_eq] at hR ⊢
        simp only [zq_bindE] at hR ⊢
        by_cases qs : zm_in s 1 24 = true
        · rw [qs, if_neg bq_bT] at hR
          cases hR
        · rw [Bool.eq_false_iff.mpr qs, if_pos bq_bF]
      · rw [Bool.eq_false_iff.mpr qd, if_pos bq_bF]
    · rw [(zm_isKey E x).2 qx]
      simp only [zq_bindE]
      rw [if_pos bq_bF]
  by_cases qy : zf_isnode n y
  · by_cases qx : zf_key x
    · by_cases qd : zm_in d 1 999 = true
      · by_cases qs : zm_in s 1 24 = true
        · obtain ⟨k, hk, rfl⟩ := zf_isnode_nat h15 qy
          obtain ⟨first, hfk, rfl⟩ := zf_key_nat qx
          obtain ⟨dif, d1, d2, rfl, d3, d4⟩ := zm_in_1 (N := 999) (by omega) qd
          obtain ⟨many, s1, s2, rfl, s3, s4⟩ := zm_in_1 (N := 24) (by omega) qs
          obtain ⟨st, h5, hst⟩ := hi.2.2.1
          obtain ⟨E1, a1, f1, c1⟩ := zf_saves hf hr
          obtain ⟨E2, a2, f2, i2, c2⟩ := zf_ser (dif := dif) (many := many) hk hst d2 s2 many 0 first 0 bq_fuel E1 t (by omega) (bq_fuel_ge (by omega)) (by omega) f1 hi h5
          refine zz_ok (v := nI (zs_ser st k dif many first t).1) f2 ((c1.wide (by omega) (by omega)).trans c2) hm ho ?_ (n' := n) (fun E3 H3 => ?_)
          · unfold tw_L_addSeries tw_X6_addSeries
            rw [if_pos (zq_cls hf.1), (zf_requireNode hf hi.1.2.1 (nI k)).1 qy]
            simp only [zq_bindE, bq_elim]
            rw [(zf_requireKey hf (nI first)).1 qx]
            simp only [zq_bindE, bq_elim, zq_letE]
            rw [if_neg d3, if_neg (show ¬ (999 : Int32) < nI dif from d4), (zf_require hf).2]
            simp only [zq_bindE, bq_elim, zq_letE]
            rw [if_neg s3, if_neg (show ¬ (24 : Int32) < nI many from s4), hf.rH, hf.rT]
            simp only [zq_bindE, bq_elim]
            rw [a1]
            simp only [zq_bindE]
            rw [show (0 : Int32) = nI 0 from rfl, a2, Nat.zero_add]
            rfl
          · show ∃ E' M', tw_X7_addSeries E3 (z + 1378) (nI k) (nI first) (nI dif) (nI many) = some (_, E') ∧ _
            unfold tw_X7_addSeries
            rw [if_pos (zq_cls H3.1), (zm_isNode H3 hr.1.1.1 hi.1.1.1 h15 (nI k)).1 qy]
            simp only [zq_bindE, zq_letE]
            rw [if_neg bq_bT, (zm_isKey E3 (nI first)).1 qx]
            simp only [zq_bindE]
            rw [if_neg bq_bT, zm_in_eq, zm_in_eq, show zm_in (nI dif) 1 999 = true from qd, show zm_in (nI many) 1 24 = true from qs]
            simp only [zq_bindE]
            obtain ⟨E4, M4, a4, H4, h4, e4, s4'⟩ := zm_holds H3
            rw [if_neg bq_bT, if_neg bq_bT, a4]
            simp only [zq_bindE]
            obtain ⟨E5, M5, a5, H5, r5, o5, s5⟩ := zm_ser (m := z + 1378) (first := first) hk hst d2 s2 hfk many 0 0 bq_fuel E4 M4 t (by omega) (bq_fuel_ge (by omega)) H4 (by rw [e4]; exact hr.1) hi h5
            rw [Nat.zero_mul, Nat.add_zero] at a5 r5
            rw [show (0 : Int32) = nI 0 from rfl, a5, Nat.zero_add]
            have hh5 := h4.keep (M3 := M5) (o5.2 3 (by omega) (by omega)) (o5.2 2 (by omega) (by omega)) (by rw [o5.1])
            obtain ⟨E6, M6, a6, r6⟩ := zz_ends hr H5 hh5 r5 i2 (nI (zs_ser st k dif many first t).1)
            exact ⟨E6, M6, a6, r6.1, r6.2.1, r6.2.2.1, (s4'.trans s5).trans r6.2.2.2⟩
        · refine bad2 qy ?_ ?_
          · unfold tw_L_addSeries tw_X6_addSeries
            obtain ⟨dif, d1, d2, rfl, d3, d4⟩ := zm_in_1 (N := 999) (by omega) qd
            rw [if_pos (zq_cls hf.1), (zf_requireNode hf hi.1.2.1 y).1 qy]
            simp only [zq_bindE, bq_elim]
            rw [(zf_requireKey hf x).1 qx]
            simp only [zq_bindE, bq_elim, zq_letE]
            rw [if_neg d3, if_neg (show ¬ (999 : Int32) < nI dif from d4), (zf_require hf).2, (zf_require hf).1]
            simp only [zq_bindE, bq_elim, zq_letE]
            rcases zm_in_1n (N := 24) qs with w | ⟨w, w2⟩
            · rw [if_pos w]; simp only [zq_bindE]; rw [if_neg zs_ne1, if_pos True.intro]
            · rw [if_neg w, if_pos (show (24 : Int32) < s from w2)]; simp only [zq_bindE]; rw [if_neg zs_ne1, if_pos True.intro]
          · rw [(zm_isKey E x).1 qx]
            simp only [zq_bindE]
            rw [if_neg bq_bT, zm_in_eq, zm_in_eq, qd, Bool.eq_false_iff.mpr qs]
            simp only [zq_bindE]
            rw [if_neg bq_bT, if_pos bq_bF]
      · refine bad2 qy ?_ ?_
        · unfold tw_L_addSeries tw_X6_addSeries
          rw [if_pos (zq_cls hf.1), (zf_requireNode hf hi.1.2.1 y).1 qy]
          simp only [zq_bindE, bq_elim]
          rw [(zf_requireKey hf x).1 qx]
          simp only [zq_bindE, bq_elim, zq_letE]
          rw [(zf_require hf).1]
          simp only [zq_bindE, bq_elim, zq_letE]
          rcases zm_in_1n (N := 999) qd with w | ⟨w, w2⟩
          · rw [if_pos w]; simp only [zq_bindE]; rw [if_neg zs_ne1, if_pos True.intro]
          · rw [if_neg w, if_pos (show (999 : Int32) < d from w2)]; simp only [zq_bindE]; rw [if_neg zs_ne1, if_pos True.intro]
        · rw [(zm_isKey E x).1 qx]
          simp only [zq_bindE]
          rw [if_neg bq_bT, zm_in_eq, Bool.eq_false_iff.mpr qd]
          simp only [zq_bindE]
          rw [if_pos bq_bF]
    · refine bad2 qy ?_ ?_
      · unfold tw_L_addSeries tw_X6_addSeries
        rw [if_pos (zq_cls hf.1), (zf_requireNode hf hi.1.2.1 y).1 qy]
        simp only [zq_bindE, bq_elim]
        rw [(zf_requireKey hf x).2 qx]
        simp only [zq_bindE, bq_elim]
        rw [if_neg zs_ne1, if_pos True.intro]
      · rw [(zm_isKey E x).2 qx]
        simp only [zq_bindE]
        rw [if_pos bq_bF]
  · refine zz_bad (code := 1) hf hr ho (by decide) ?_ (zz_node_bad hm hi hr.1.1.1 qy (by unfold tw_X7_addSeries; rw [if_pos (zq_cls hm.1)]))
    unfold tw_L_addSeries tw_X6_addSeries
    rw [if_pos (zq_cls hf.1), (zf_requireNode hf hi.1.2.1 y).2 qy]
    simp only [zq_bindE, bq_elim]
    rw [if_pos True.intro]
/-- the sum of what is built -/
theorem zi_up_sum : ∀ (d k a : Nat) (t : zq_T), zi_bu n st t k → k < n → d = zt_d t k → ∃ b, (zt_up st (d + 1) k (nI a) t).1 = nI (a + b) ∧ b ≤ 96 * (d + 1) := by
  intro d
  induction d with
  | zero =>
    intro k a t h hk hd
    have hl := ((zi_bu_step h hk).2.2.2.2 k hk).2.2.1.2
    refine ⟨(((zt_b1 st t k).2 k).2 3).length, ?_, by omega⟩
    show nI a + nI _ = _
    rw [nI_add]
  | succ d ih =>
    intro k a t h hk hd
    have h0 := h.1.pos hk (by omega)
    have hdp := h.1.dpar h0 hk
    have hd2 := (zi_an_cint (zt_b1_cint st t k)).2.1
    have hl := ((zi_bu_step h hk).2.2.2.2 k hk).2.2.1.2
    obtain ⟨b, e, hb⟩ := ih (zi_par t k) (a + (((zt_b1 st t k).2 k).2 3).length) (zt_b1 st t k) (zi_bu_par h hk h0) (h.1.pn hk) (by rw [hd2]; omega)
    refine ⟨(((zt_b1 st t k).2 k).2 3).length + b, ?_, by omega⟩
    rw [← Nat.add_assoc, ← e, ← nI_add]
    rfl
theorem zi_pre.sum (h : zi_pre n st t k) (hk : k < n) : ∃ b, (zt_renew st k t).1 = nI b ∧ b ≤ 1440 := by
  have hd := h.1.d15 hk
  have hm := (h.settle hk).bu
  obtain ⟨b, e, hb⟩ := zi_up_sum (zt_d t k) k 0 _ hm hk zt_settled_d.symm
  refine ⟨b, ?_, by omega⟩
  rw [Nat.zero_add] at e
  exact e
theorem zt_renew_5 (st k : Nat) (t : zq_T) : (zt_renew st k t).2.1 5 = t.1 5 := by
  show (zt_up st (zt_d t k + 1) k 0 (zt_settled t k)).2.1 5 = _
  rw [zt_up_int5 st _ _ _ _ 5 (by omega)]
  show va_up t.1 10 (t.1 10 + 1) 5 = _
  exact va_up_ne _ _ (by omega)
theorem zi_all (hst : 2 ≤ st ∧ st ≤ 5) : ∀ (r : Nat) (t : zq_T), r ≤ n → zi_inv n t → t.1 5 = nI st → zt_renewAllok st r t ∧ zi_inv n (zt_renewAll st r t)
  | 0, t, _, hi, _ => ⟨True.intro, hi⟩
  | r + 1, t, hr, hi, h5 => by
    obtain ⟨i1, i2⟩ := (hi.pre (k := r) (by omega) h5 hst).renew (by omega)
    obtain ⟨j1, j2⟩ := zi_all hst r (zt_renew st r t).2 (by omega) i1 ((zt_renew_5 st r t).trans h5)
    exact ⟨⟨i2, j1⟩, j2⟩
theorem zm_all (hst : 2 ≤ st ∧ st ≤ 5) (K : Int32 → Int32 → bq_E → Option (Int32 × bq_E)) : ∀ (r N a : Nat) (E : bq_E) (M : zq_M) (t : zq_T), r < N → r ≤ n → n ≤ 15 → zq_mod g E m M → zs_rel (M.1 1) n t → zi_inv n t → t.1 5 = nI st →
    ∃ E' M' b y, tl_X7_rebuildAll_15 m K N (nI a) (zt_cd r) E = K (nI (a + b)) y E' ∧ b ≤ 1440 * r ∧ zq_mod g E' m M' ∧ zs_rel (M'.1 1) n (zt_renewAll st r t) ∧ zm_two M M' ∧ zq_same E E' m (m + 8) := by
  intro r
  induction r with
  | zero =>
    intro N a E M t hN hr h15 H hrel hi h5
    obtain ⟨N, rfl⟩ : ∃ N', N = N' + 1 := ⟨N - 1, by omega⟩
    rw [tl_X7_rebuildAll_15.eq_2, show zt_cd 0 = -1 from rfl, if_pos (by decide)]
    exact ⟨E, M, 0, _, rfl, by omega, H, hrel, zm_two.refl, zq_same.refl⟩
  | succ r ih =>
    intro N a E M t hN hr h15 H hrel hi h5
    obtain ⟨N, rfl⟩ : ∃ N', N = N' + 1 := ⟨N - 1, by omega⟩
    rw [tl_X7_rebuildAll_15.eq_2, show zt_cd (r + 1) = nI r from rfl, if_neg (nI_pos (by omega))]
    have hpre := hi.pre (k := r) (by omega) h5 hst
    obtain ⟨E1, M1, a1, H1, r1, o1, s1⟩ := zm_rebuilds H hpre (hi.cat (by omega)) (by omega) hrel
    obtain ⟨b1, e1, hb1⟩ := hpre.sum (by omega)
    rw [a1]
    simp only [zq_bindE, zq_letE]
    have hcd : nI r + -1 = zt_cd r := by
      cases r with
      | zero => decide
      | succ r => exact pk_m1 r
    rw [hcd, e1, nI_add]
    obtain ⟨E2, M2, b2, y, a2, hb2, H2, r2, o2, s2⟩ := ih N (a + b1) E1 M1 _ (by omega) (by omega) h15 H1 r1 (hpre.renew (by omega)).1 ((zt_renew_5 st r t).trans h5)
    refine ⟨E2, M2, b1 + b2, y, ?_, by omega, H2, r2, o1.trans o2, s1.trans s2⟩
    rw [a2, Nat.add_assoc]
theorem zm_entriesOfAll (H : zq_mod g E m M) (hi : zi_inv n t) (hr : zs_rel (M.1 1) n t) : tw_X7_entriesOfAll E m = some (zt_sum (fun k => nI ((t.2 k).2 3).length) n) := by
  have h15 := hi.1.1.2
  have loop : ∀ (N i : Nat), n - i < N → i ≤ n → tl_X7_entriesOfAll_4 E m N (zt_sum (fun k => nI ((t.2 k).2 3).length) i) (nI i) = some (zt_sum (fun k => nI ((t.2 k).2 3).length) n) := by
    intro N
    induction N with
    | zero => intro i h; omega
    | succ N ih =>
      intro i hn hin
      rw [tl_X7_entriesOfAll_4.eq_2, zm_r1 H]
      simp only [zq_bindE]
      rw [show (0 : Int32) = nI 0 from rfl, zm_ai H (j := 1) (by omega) (by show 0 < 8183; omega), hr.1.1]
      simp only [zq_bindE]
      by_cases q : i < n
      · have has : zm_has g E m M i (t.2 i) := ⟨H, by omega, hr.2 i q, hi.cat q⟩
        rw [if_neg (nI_ge q (by omega)), zm_o61 has]
        simp only [zq_bindE, zq_letE]
        rw [nI_1]
        exact ih (i + 1) (by omega) (by omega)
      · rw [if_pos (nI_le (by omega) (by omega)), show i = n by omega]
  unfold tw_X7_entriesOfAll
  rw [if_pos (zq_cls H.1)]
  exact loop bq_fuel 0 (bq_fuel_ge (by omega)) (Nat.zero_le _)
theorem zo_rebuildAll (h : zz_E g E z) : ∃ v E1 E2, tw_X6_rebuildAll E z = some (v, E1) ∧ tw_X7_rebuildAll E1 (z + 1378) = some (v, E2) ∧ zz_E g E2 z := by
  obtain ⟨n, t, u, p, cnt, M, hf, hm, hr, f, ho⟩ := h
  have hi := hr.2.1
  have h15 := hi.1.1.2
  have h1n := hi.1.1.1
  obtain ⟨st, h5, hst⟩ := hi.2.2.1
  obtain ⟨E1, a1, f1, s1⟩ := zf_saves hf hr
  obtain ⟨k1, k2⟩ := zi_all hst n t (Nat.le_refl _) hi h5
  obtain ⟨E2, a2, t2, s2⟩ := zt_renewAll_ok f1.2.1 h15 h1n hi.1.2.1 h5 (by omega) k1
  obtain ⟨f2, s2'⟩ := f1.treeup t2 s2
  have H2 := (hm.same s1 (Or.inr (by omega))).same s2' (Or.inr (by omega))
  obtain ⟨E4, M4, a4, H4, h4, e4, s4⟩ := zm_holds H2
  have hr4 : zs_rel (M4.1 1) n t := by rw [e4]; exact hr.1
  obtain ⟨E5, M5, b, y, a5, hb, H5, r5, o5, s5⟩ := zm_all (m := z + 1378) hst (fun y5 y6 E7 =>
    if nI 0 ≤ y5 then
    ((tw_X7_entriesOfAll E7 (z + 1378)).bind fun v8 =>
    (tw_X7_ends E7 (z + 1378) v8).bind fun v9 =>
    some (v9.1, v9.2))
  else
    ((tw_X7_ends E7 (z + 1378) y5).bind fun v10 =>
    some (v10.1, v10.2))) n bq_fuel 0 E4 M4 t (bq_fuel_ge (by omega)) (Nat.le_refl _) h15 H4 hr4 hi h5
  have hh5 := h4.keep (M3 := M5) (o5.2 3 (by omega) (by omega)) (o5.2 2 (by omega) (by omega)) (by rw [o5.1])
  obtain ⟨E6, M6, a6, r6⟩ := zz_ends hr H5 hh5 r5 k2 (zt_sum (fun k => nI (((zt_renewAll st n t).2 k).2 3).length) n)
  have ss := (s4.trans s5).trans r6.2.2.2
  refine ⟨zt_sum (fun k => nI (((zt_renewAll st n t).2 k).2 3).length) n, E2, E6, ?_, ?_, n, _, _, _, _, M6, f2.same ss (Or.inl (by omega)), r6.1, r6.2.1, f, ((ho.same s1 (Or.inr (by omega))).same s2' (Or.inr (by omega))).same ss (Or.inr (by omega))⟩
  · unfold tw_X6_rebuildAll
    rw [if_pos (zq_cls hf.1), hf.rH, hf.rT]
    simp only [zq_bindE]
    rw [a1]
    simp only [zq_bindE]
    rw [f1.rT]
    simp only [zq_bindE]
    rw [a2]
    simp only [zq_bindE]
    rw [f2.rT]
    simp only [zq_bindE]
    rw [zt_entriesOfAll f2.2.1 h15 k2.1.2.1]
    rfl
  · unfold tw_X7_rebuildAll
    rw [if_pos (zq_cls H2.1), a4]
    simp only [zq_bindE]
    rw [zm_r1 H4, show (0 : Int32) = nI 0 from rfl]
    simp only [zq_bindE]
    rw [zm_ai H4 (j := 1) (by omega) (by show 0 < 8183; omega), hr4.1.1]
    simp only [zq_bindE, zq_letE]
    have en : nI n - (1 : Int32) = zt_cd n := by
      obtain ⟨n', rfl⟩ : ∃ n', n = n' + 1 := ⟨n - 1, by omega⟩
      exact nI_pred n'
    rw [en, a5, Nat.zero_add, if_pos (nI_le (Nat.zero_le _) (by omega)), zm_entriesOfAll H5 k2 r5]
    exact a6
end ZoF
