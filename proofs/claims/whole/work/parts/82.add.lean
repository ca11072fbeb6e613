/-! add, remove, rebuild. -/
section ZoE
variable {g : bq_G} {E : bq_E} {z m n st k key p cnt : Nat} {M : zq_M} {t : zq_T} {u : Nat → zq_T}
theorem zi_inv.pre (h : zi_inv n t) (hk : k < n) (h5 : t.1 5 = nI st) (hst : 2 ≤ st ∧ st ≤ 5) : zi_pre n st t k := by
  have hc := h.2.2.2.1 k hk
  exact ⟨h.1, h.2.1, ⟨h5, hst⟩, ⟨fun j hj _ => h.2.2.2.1 j hj, hc.1, hc.2.1, hc.2.2.1, by have := hc.2.2.2; omega⟩, fun j hj _ => h.2.2.2.2.1 j hj, fun j hj _ => h.cat hj, h.2.2.2.2.2⟩
theorem zf_takeIn (hf : zq_face g E z t u p cnt) (hi : zi_inv n t) (hk : k < n) (h5 : t.1 5 = nI st) (hst : 2 ≤ st ∧ st ≤ 5) (hkey : key < 10000) (hfull : zc_has (t.2 k) key = false → (zc_newbase (t.2 k)).length < 24) : ∃ E', tw_X4_takeIn E (z + 1) (nI k) (nI key) = some (!zc_has (t.2 k) key, E') ∧ zq_face g E' z (zt_takeIn st k key t).2 u p cnt ∧ zq_same E E' z (z + 1378) := by
  have h15 := hi.1.1.2
  have hc := hi.2.2.2.1 k hk
  obtain ⟨_, e1, _, hpre, _⟩ := zt_take_inv hi hk h5 hst hkey hfull
  obtain ⟨E1, a1, t1, s1⟩ := zt_takeIn_ok hf.2.1 (k := k) (key := key) (by omega) (by omega) h5 (by omega) hc.1.1.1 (by have := hc.2.2.2; omega) (fun _ _ hno => ((hpre hno).1.renew hk).2)
  obtain ⟨f1, s1'⟩ := hf.treeup t1 s1
  rw [e1] at a1
  exact ⟨E1, a1, f1, s1'⟩
theorem zf_drop (hf : zq_face g E z t u p cnt) (hi : zi_inv n t) (hk : k < n) (h5 : t.1 5 = nI st) (hst : 2 ≤ st ∧ st ≤ 5) (hkey : key < 10000) : ∃ E', tw_X4_drop E (z + 1) (nI k) (nI key) = some (zc_has (t.2 k) key, E') ∧ zq_face g E' z (zt_drop st k key t).2 u p cnt ∧ zq_same E E' z (z + 1378) := by
  have h15 := hi.1.1.2
  have hc := hi.2.2.2.1 k hk
  obtain ⟨_, e1, _, hpre⟩ := zt_drop_inv (key := key) hi hk h5 hst
  obtain ⟨E1, a1, t1, s1⟩ := zt_drop_ok hf.2.1 (k := k) (key := key) (by omega) (by omega) h5 (by omega) hc.1.1.1 (fun _ _ hyes => ((hpre hyes).1.renew hk).2)
  obtain ⟨f1, s1'⟩ := hf.treeup t1 s1
  rw [e1] at a1
  exact ⟨E1, a1, f1, s1'⟩
theorem zz_code_badB {R : bq_E → Option (Bool × bq_E)} {code : Int32} (H : zq_mod g E m M) (hR : R E = (tw_X7_fails E m code).bind fun v => if v.1 = 0 then some (false, v.2) else some (true, v.2)) : zz_fails g E m M R code := by
  obtain ⟨E1, a1, H1, s1⟩ := zm_fails H code
  refine ⟨false, E1, ?_, H1, s1⟩
  rw [hR, a1]
  simp only [zq_bindE]
  rw [if_pos True.intro]
theorem zc_full {v : zq_N} (hc : zi_hc v) : (¬ zc_count v < 24 ↔ ¬ (zc_newbase v).length < 24) ∧ (zc_count v = 24 ↔ ¬ (zc_newbase v).length < 24) := by
  have h24 := zc_nb_24 hc
  have e := zc_count_eq hc
  have h1 : nI (zc_newbase v).length < nI 24 ↔ (zc_newbase v).length < 24 := nI_ltI (by omega) (by omega)
  have h2 : nI (zc_newbase v).length = nI 24 ↔ (zc_newbase v).length = 24 := nI_inj (by omega) (by omega)
  rw [e]
  exact ⟨not_congr h1, h2.trans ⟨fun q => by omega, fun q => by omega⟩⟩
theorem zo_add (h : zz_E g E z) (y x : Int32) : zz_turnB g z (tw_L_add E z y x (z + 1386)) (fun E => tw_X7_add E (z + 1378) y x) := by
  obtain ⟨n, t, u, p, cnt, M, hf, hm, hr, f, ho⟩ := h
  have hi := hr.2.1
  have h15 := hi.1.1.2
  by_cases qy : zf_isnode n y
  · obtain ⟨k, hk, rfl⟩ := zf_isnode_nat h15 qy
    by_cases qx : zf_key x
    · obtain ⟨key, hkey, rfl⟩ := zf_key_nat qx
      obtain ⟨st, h5, hst⟩ := hi.2.2.1
      have C := hf.2.1.cat (k := k) (by omega)
      have hc := hi.2.2.2.1 k hk
      have hcat := hi.cat hk
      obtain ⟨fl1, fl2⟩ := zc_full hc
      have hasM : ∀ E2, zq_mod g E2 (z + 1378) M → zm_has g E2 (z + 1378) M k (t.2 k) := fun E2 H2 => ⟨H2, by omega, hr.1.2 k hk, hcat⟩
      by_cases hfull : zc_has (t.2 k) key = false ∧ ¬ (zc_newbase (t.2 k)).length < 24
      · refine zz_badB (code := 3) hf hr ho (by decide) ?_ (zz_code_badB hm ?_)
        · unfold tw_L_add tw_X6_add
          rw [if_pos (zq_cls hf.1), (zf_requireNode hf hi.1.2.1 (nI k)).1 qy]
          simp only [zq_bindE, bq_elim]
          rw [(zf_requireKey hf (nI key)).1 qx]
          simp only [zq_bindE, bq_elim]
          rw [hf.rT]
          simp only [zq_bindE]
          rw [zt_at hf.2.1, zt_ix_nI (by omega)]
          simp only [zq_bindE, zq_letE]
          rw [zc_holds C (by omega), hfull.1]
          simp only [zq_bindE]
          rw [if_pos bq_bF, zc_isFull C, decide_eq_false (fl1.mpr hfull.2)]
          simp only [zq_bindE]
          rw [if_neg (show ¬ bq_b (!false) = 0 from bq_bT)]
          simp only [zq_bindE]
          rw [if_neg zs_ne2, if_neg zs_ne3, if_pos True.intro]
        · show tw_X7_add E (z + 1378) (nI k) (nI key) = _
          unfold tw_X7_add
          rw [if_pos (zq_cls hm.1), (zm_isNode hm hr.1.1.1 hi.1.1.1 h15 (nI k)).1 qy]
          simp only [zq_bindE]
          rw [if_neg bq_bT, (zm_isKey E (nI key)).1 qx]
          simp only [zq_bindE]
          rw [if_neg bq_bT, zm_hasKey (hasM E hm) hc.2.1 (by omega), hfull.1]
          simp only [zq_bindE, zq_letE]
          rw [if_pos bq_bF, zm_keys (hasM E hm) hc.2.1]
          simp only [zq_bindE]
          rw [if_pos (fl2.mpr hfull.2)]
      · have hfl : zc_has (t.2 k) key = false → (zc_newbase (t.2 k)).length < 24 := fun q => Classical.byContradiction (fun w => hfull ⟨q, w⟩)
        obtain ⟨E1, a1, f1, s1⟩ := zf_saves hf hr
        obtain ⟨E2, a2, f2, s2⟩ := zf_takeIn f1 hi hk h5 hst hkey hfl
        obtain ⟨hinv, _, hsame, _, _⟩ := zt_take_inv hi hk h5 hst hkey hfl
        refine zz_okB (v := !zc_has (t.2 k) key) f2 ((s1.wide (by omega) (by omega)).trans s2) hm ho ?_ (n' := n) (fun E3 H3 => ?_)
        · unfold tw_L_add tw_X6_add
          rw [if_pos (zq_cls hf.1), (zf_requireNode hf hi.1.2.1 (nI k)).1 qy]
          simp only [zq_bindE, bq_elim]
          rw [(zf_requireKey hf (nI key)).1 qx]
          simp only [zq_bindE, bq_elim]
          rw [hf.rT]
          simp only [zq_bindE]
          rw [zt_at hf.2.1, zt_ix_nI (by omega)]
          simp only [zq_bindE, zq_letE]
          rw [zc_holds C (by omega), hf.rH, zc_isFull C]
          simp only [zq_bindE]
          rw [a1]
          simp only [zq_bindE]
          rw [f1.rT]
          simp only [zq_bindE]
          rw [a2]
          simp only [zq_bindE]
          cases hh : zc_has (t.2 k) key with
          | false =>
            have hlt : zc_count (t.2 k) < 24 := Classical.byContradiction (fun w => fl1.mp w (hfl hh))
            rw [if_pos bq_bF, decide_eq_true hlt, if_pos (show bq_b (!true) = 0 from bq_bF)]
            simp only [zq_bindE]
            rw [if_neg (show ¬ bq_b (!false) = 0 from bq_bT)]
            rfl
          | true =>
            rw [if_neg bq_bT]
            simp only [zq_bindE]
            rw [if_pos (show bq_b (!true) = 0 from bq_bF)]
            rfl
        · show ∃ E' M', tw_X7_add E3 (z + 1378) (nI k) (nI key) = some (_, E') ∧ _
          unfold tw_X7_add
          rw [if_pos (zq_cls H3.1), (zm_isNode H3 hr.1.1.1 hi.1.1.1 h15 (nI k)).1 qy]
          simp only [zq_bindE]
          rw [if_neg bq_bT, (zm_isKey E3 (nI key)).1 qx]
          simp only [zq_bindE]
          rw [if_neg bq_bT, zm_hasKey (hasM E3 H3) hc.2.1 (by omega)]
          simp only [zq_bindE, zq_letE]
          obtain ⟨E4, M4, a4, H4, h4, e4, s4⟩ := zm_holds H3
          rw [zm_keys (hasM E3 H3) hc.2.1, a4]
          simp only [zq_bindE]
          cases hh : zc_has (t.2 k) key with
          | false =>
            have hlt : ¬ zc_count (t.2 k) = 24 := fun w => fl2.mp w (hfl hh)
            rw [if_pos bq_bF, if_neg hlt, if_pos bq_bF]
            have hr4 : zs_rel (M4.1 1) n t := by rw [e4]; exact hr.1
            obtain ⟨E5, M5, a5, H5, r5, o5, s5⟩ := zm_comes H4 hi hr4 hk h5 hst hkey hh (hfl hh)
            rw [a5]
            simp only [zq_bindE]
            rw [if_pos bq_bF]
            have hh5 := h4.keep (M3 := M5) (o5.2 3 (by omega) (by omega)) (o5.2 2 (by omega) (by omega)) (by rw [o5.1])
            obtain ⟨E6, M6, a6, r6⟩ := zz_push hr H5 hh5.1 hh5.2.1 hh5.2.2 r5 hinv 1
            rw [a6]
            simp only [zq_bindE]
            rw [if_pos True.intro]
            exact ⟨E6, M6, rfl, r6.1, r6.2.1, r6.2.2.1, (s4.trans s5).trans r6.2.2.2⟩
          | true =>
            rw [if_neg bq_bT, if_neg bq_bT, if_neg bq_bT]
            rw [hsame hh]
            obtain ⟨E6, M6, a6, r6⟩ := zz_push hr H4 h4.1 h4.2.1 h4.2.2 (by rw [e4]; exact hr.1) hi 0
            rw [a6]
            simp only [zq_bindE]
            rw [if_neg (show ¬ (0 : Int32) = 1 by decide)]
            exact ⟨E6, M6, rfl, r6.1, r6.2.1, r6.2.2.1, s4.trans r6.2.2.2⟩
    · refine zz_badB (code := 2) hf hr ho (by decide) ?_ (zz_code_badB hm ?_)
      · unfold tw_L_add tw_X6_add
        rw [if_pos (zq_cls hf.1), (zf_requireNode hf hi.1.2.1 (nI k)).1 qy]
        simp only [zq_bindE, bq_elim]
        rw [(zf_requireKey hf x).2 qx]
        simp only [zq_bindE, bq_elim]
        rw [if_neg zs_ne1, if_pos True.intro]
      · show tw_X7_add E (z + 1378) (nI k) x = _
        unfold tw_X7_add
        rw [if_pos (zq_cls hm.1), (zm_isNode hm hr.1.1.1 hi.1.1.1 h15 (nI k)).1 qy]
        simp only [zq_bindE]
        rw [if_neg bq_bT, (zm_isKey E x).2 qx]
        simp only [zq_bindE]
        rw [if_pos bq_bF]
  · refine zz_badB (code := 1) hf hr ho (by decide) ?_ (zz_code_badB hm ?_)
    · unfold tw_L_add tw_X6_add
      rw [if_pos (zq_cls hf.1), (zf_requireNode hf hi.1.2.1 y).2 qy]
      simp only [zq_bindE, bq_elim]
      rw [if_pos True.intro]
    · show tw_X7_add E (z + 1378) y x = _
      unfold tw_X7_add
      rw [if_pos (zq_cls hm.1), (zm_isNode hm hr.1.1.1 hi.1.1.1 h15 y).2 qy]
      simp only [zq_bindE]
      rw [if_pos bq_bF]
theorem zo_remove (h : zz_E g E z) (y x : Int32) : zz_turnB g z (tw_L_remove E z y x (z + 1386)) (fun E => tw_X7_remove E (z + 1378) y x) := by
  obtain ⟨n, t, u, p, cnt, M, hf, hm, hr, f, ho⟩ := h
  have hi := hr.2.1
  have h15 := hi.1.1.2
  by_cases qy : zf_isnode n y
  · obtain ⟨k, hk, rfl⟩ := zf_isnode_nat h15 qy
    by_cases qx : zf_key x
    · obtain ⟨key, hkey, rfl⟩ := zf_key_nat qx
      obtain ⟨st, h5, hst⟩ := hi.2.2.1
      have hc := hi.2.2.2.1 k hk
      have hcat := hi.cat hk
      obtain ⟨E1, a1, f1, s1⟩ := zf_saves hf hr
      obtain ⟨E2, a2, f2, s2⟩ := zf_drop f1 hi hk h5 hst hkey
      obtain ⟨hinv, _, hsame, _⟩ := zt_drop_inv (key := key) hi hk h5 hst
      refine zz_okB (v := zc_has (t.2 k) key) f2 ((s1.wide (by omega) (by omega)).trans s2) hm ho ?_ (n' := n) (fun E3 H3 => ?_)
      · unfold tw_L_remove tw_X6_remove
        rw [if_pos (zq_cls hf.1), (zf_requireNode hf hi.1.2.1 (nI k)).1 qy]
        simp only [zq_bindE, bq_elim]
        rw [(zf_requireKey hf (nI key)).1 qx]
        simp only [zq_bindE, bq_elim]
        rw [hf.rH, hf.rT]
        simp only [zq_bindE]
        rw [a1]
        simp only [zq_bindE]
        rw [f1.rT]
        simp only [zq_bindE]
        rw [a2]
        simp only [zq_bindE]
        cases hh : zc_has (t.2 k) key with
        | false => rw [if_pos bq_bF]; rfl
        | true => rw [if_neg bq_bT]; rfl
      · show ∃ E' M', tw_X7_remove E3 (z + 1378) (nI k) (nI key) = some (_, E') ∧ _
        unfold tw_X7_remove
        rw [if_pos (zq_cls H3.1), (zm_isNode H3 hr.1.1.1 hi.1.1.1 h15 (nI k)).1 qy]
        simp only [zq_bindE]
        rw [if_neg bq_bT, (zm_isKey E3 (nI key)).1 qx]
        simp only [zq_bindE]
        obtain ⟨E4, M4, a4, H4, h4, e4, s4⟩ := zm_holds H3
        have hr4 : zs_rel (M4.1 1) n t := by rw [e4]; exact hr.1
        have has : zm_has g E4 (z + 1378) M4 k (t.2 k) := ⟨H4, by omega, hr4.2 k hk, hcat⟩
        rw [if_neg bq_bT, a4]
        simp only [zq_bindE]
        rw [zm_hasKey has hc.2.1 (by omega)]
        simp only [zq_bindE, zq_letE]
        cases hh : zc_has (t.2 k) key with
        | true =>
          obtain ⟨E5, M5, a5, H5, r5, o5, s5⟩ := zm_goes H4 hi hr4 hk h5 hst hkey hh
          rw [if_neg bq_bT, a5]
          simp only [zq_bindE]
          rw [if_neg bq_bT]
          have hh5 := h4.keep (M3 := M5) (o5.2 3 (by omega) (by omega)) (o5.2 2 (by omega) (by omega)) (by rw [o5.1])
          obtain ⟨E6, M6, a6, r6⟩ := zz_push hr H5 hh5.1 hh5.2.1 hh5.2.2 r5 hinv 1
          rw [a6]
          simp only [zq_bindE]
          rw [if_pos True.intro]
          exact ⟨E6, M6, rfl, r6.1, r6.2.1, r6.2.2.1, (s4.trans s5).trans r6.2.2.2⟩
        | false =>
          rw [if_pos bq_bF, if_pos bq_bF, hsame hh]
          obtain ⟨E6, M6, a6, r6⟩ := zz_push hr H4 h4.1 h4.2.1 h4.2.2 hr4 hi 0
          rw [a6]
          simp only [zq_bindE]
          rw [if_neg (show ¬ (0 : Int32) = 1 by decide)]
          exact ⟨E6, M6, rfl, r6.1, r6.2.1, r6.2.2.1, s4.trans r6.2.2.2⟩
    · refine zz_badB (code := 2) hf hr ho (by decide) ?_ (zz_code_badB hm ?_)
      · unfold tw_L_remove tw_X6_remove
        rw [if_pos (zq_cls hf.1), (zf_requireNode hf hi.1.2.1 (nI k)).1 qy]
        simp only [zq_bindE, bq_elim]
        rw [(zf_requireKey hf x).2 qx]
        simp only [zq_bindE, bq_elim]
        rw [if_neg zs_ne1, if_pos True.intro]
      · show tw_X7_remove E (z + 1378) (nI k) x = _
        unfold tw_X7_remove
        rw [if_pos (zq_cls hm.1), (zm_isNode hm hr.1.1.1 hi.1.1.1 h15 (nI k)).1 qy]
        simp only [zq_bindE]
        rw [if_neg bq_bT, (zm_isKey E x).2 qx]
        simp only [zq_bindE]
        rw [if_pos bq_bF]
  · refine zz_badB (code := 1) hf hr ho (by decide) ?_ (zz_code_badB hm ?_)
    · unfold tw_L_remove tw_X6_remove
      rw [if_pos (zq_cls hf.1), (zf_requireNode hf hi.1.2.1 y).2 qy]
      simp only [zq_bindE, bq_elim]
      rw [if_pos True.intro]
    · show tw_X7_remove E (z + 1378) y x = _
      unfold tw_X7_remove
      rw [if_pos (zq_cls hm.1), (zm_isNode hm hr.1.1.1 hi.1.1.1 h15 y).2 qy]
      simp only [zq_bindE]
      rw [if_pos bq_bF]
theorem zf_renew (hf : zq_face g E z t u p cnt) (hi : zi_inv n t) (hk : k < n) (h5 : t.1 5 = nI st) (hst : 2 ≤ st ∧ st ≤ 5) : ∃ E', tw_X4_renew E (z + 1) (nI k) = some ((zt_renew st k t).1, E') ∧ zq_face g E' z (zt_renew st k t).2 u p cnt ∧ zq_same E E' z (z + 1378) := by
  have h15 := hi.1.1.2
  obtain ⟨E1, a1, t1, s1⟩ := zt_renew_ok hf.2.1 (k := k) (by omega) h5 (by omega) ((hi.pre hk h5 hst).renew hk).2
  obtain ⟨f1, s1'⟩ := hf.treeup t1 s1
  exact ⟨E1, a1, f1, s1'⟩
theorem zo_rebuild (h : zz_E g E z) (y : Int32) : zz_turn g z (tw_L_rebuild E z y (z + 1386)) (fun E => tw_X7_rebuild E (z + 1378) y) := by
  obtain ⟨n, t, u, p, cnt, M, hf, hm, hr, f, ho⟩ := h
  have hi := hr.2.1
  have h15 := hi.1.1.2
  by_cases qy : zf_isnode n y
  · obtain ⟨k, hk, rfl⟩ := zf_isnode_nat h15 qy
    obtain ⟨st, h5, hst⟩ := hi.2.2.1
    obtain ⟨E1, a1, f1, s1⟩ := zf_saves hf hr
    obtain ⟨E2, a2, f2, s2⟩ := zf_renew f1 hi hk h5 hst
    refine zz_ok (v := (zt_renew st k t).1) f2 ((s1.wide (by omega) (by omega)).trans s2) hm ho ?_ (n' := n) (fun E3 H3 => ?_)
    · unfold tw_L_rebuild tw_X6_rebuild
      rw [if_pos (zq_cls hf.1), (zf_requireNode hf hi.1.2.1 (nI k)).1 qy]
      simp only [zq_bindE, bq_elim]
      rw [hf.rH, hf.rT]
      simp only [zq_bindE]
      rw [a1]
      simp only [zq_bindE]
      rw [f1.rT]
      simp only [zq_bindE]
      rw [a2]
      rfl
    · show ∃ E' M', tw_X7_rebuild E3 (z + 1378) (nI k) = some (_, E') ∧ _
      unfold tw_X7_rebuild
      rw [if_pos (zq_cls H3.1), (zm_isNode H3 hr.1.1.1 hi.1.1.1 h15 (nI k)).1 qy]
      simp only [zq_bindE]
      obtain ⟨E4, M4, a4, H4, h4, e4, s4⟩ := zm_holds H3
      have hr4 : zs_rel (M4.1 1) n t := by rw [e4]; exact hr.1
      rw [if_neg bq_bT, a4]
      simp only [zq_bindE]
      have hpre := hi.pre hk h5 hst
      obtain ⟨E5, M5, a5, H5, r5, o5, s5⟩ := zm_rebuilds H4 hpre (hi.cat hk) hk hr4
      rw [a5]
      simp only [zq_bindE]
      have hh5 := h4.keep (M3 := M5) (o5.2 3 (by omega) (by omega)) (o5.2 2 (by omega) (by omega)) (by rw [o5.1])
      obtain ⟨E6, M6, a6, r6⟩ := zz_ends hr H5 hh5 r5 (hpre.renew hk).1 (zt_renew st k t).1
      exact ⟨E6, M6, a6, r6.1, r6.2.1, r6.2.2.1, (s4.trans s5).trans r6.2.2.2⟩
  · refine zz_bad (code := 1) hf hr ho (by decide) ?_ (zz_node_bad hm hi hr.1.1.1 qy (by unfold tw_X7_rebuild; rw [if_pos (zq_cls hm.1)]))
    unfold tw_L_rebuild tw_X6_rebuild
    rw [if_pos (zq_cls hf.1), (zf_requireNode hf hi.1.2.1 y).2 qy]
    simp only [zq_bindE, bq_elim]
    rw [if_pos True.intro]
end ZoE
