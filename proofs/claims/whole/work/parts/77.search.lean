/-! plainProbes, worst, search. -/
section ZoB
variable {g : bq_G} {E : bq_E} {z : Nat}
theorem zo_plainProbes (h : zz_E g E z) (y x : Int32) : zz_turn g z (tw_L_plainProbes E z y x (z + 1386)) (fun E => tw_X7_plainProbes E (z + 1378) y x) := by
  obtain ⟨n, t, u, p, cnt, M, hf, hm, hr, f, ho⟩ := h
  have hi := hr.2.1
  have h15 := hi.1.1.2
  by_cases qy : zf_isnode n y
  · by_cases qx : zf_goal x
    · obtain ⟨k, hk, rfl⟩ := zf_isnode_nat h15 qy
      obtain ⟨x, hx, rfl⟩ := zf_goal_nat qx
      obtain ⟨P0, L0, w0, hw⟩ := hf.2.2.1
      obtain ⟨E1, a1, ⟨L1, w1⟩, s1⟩ := zw_plain_ok hw hf.2.1 (by omega) (x := x) (k := k) (d := zt_d t k) (by omega) (by omega) (hi.1.d15 hk) (hi.1.d3 hk) (hi.1.pathok _ k hk rfl) (fun j hj => (hi.ok j hj).1)
      obtain ⟨f1, t1⟩ := hf.walkup w1 s1
      refine zz_ok (v := nI (zw_plain t (zw_P t k) x).1) f1 t1 hm ho ?_ (n' := n) (fun E2 H2 => ?_)
      · unfold tw_L_plainProbes tw_X6_plainProbes
        rw [if_pos (zq_cls hf.1), (zf_requireNode hf hi.1.2.1 (nI k)).1 qy]
        simp only [zq_bindE, bq_elim]
        rw [(zf_requireGoal hf (nI x)).1 qx]
        simp only [zq_bindE, bq_elim]
        rw [hf.rW, hf.rT]
        simp only [zq_bindE]
        rw [a1]
        simp only [zq_bindE]
        rw [f1.rW]
        simp only [zq_bindE]
        rw [w1.i2]
        rfl
      · obtain ⟨E3, M3, a3, H3, c3, b3, p3, d3, s3⟩ := zm_asks H2 hi hr.1.2 hk hr.1.1.1 hx
        have hp : zi_pl n t (zw_P t k) (zw_L t k) := zi_pl_path hi.1 hk
        have hp15 : (zw_P t k).length ≤ 15 := hp.1.1
        show ∃ E' M', tw_X7_plainProbes E2 (z + 1378) (nI k) (nI x) = some (_, E') ∧ _
        unfold tw_X7_plainProbes
        rw [if_pos (zq_cls H2.1), a3]
        simp only [zq_bindE]
        rw [if_pos (show (0 : Int32) ≤ 0 by decide), show (0 : Int32) = nI 0 from rfl]
        obtain ⟨E4, a4, H4, s4⟩ := zm_put H3 (k := 8) (by omega) (nI 0)
        rw [a4]
        simp only [zq_bindE]
        have hN : zs_ok M n t := hr.1.2
        obtain ⟨E5, M5, c5, y5, a5, b5, H5, k5, v5, s5⟩ := zm_plain28 (M := zm_I M3 8 (nI 0)) (L := zw_L t k) (fun y3 y4 E5 =>
      if nI 0 ≤ y3 then
      ((bq_fi E5 (z + 1378) 7 8).bind fun v6 =>
      (tw_X7_tells E5 (z + 1378) v6).bind fun v7 =>
      some (v7.1, v7.2))
    else
      ((tw_X7_tells E5 (z + 1378) y3).bind fun v8 =>
      some (v8.1, v8.2))) hi (hN.scr (c3.trans (zm_sk.i8 (M := M3) (nI 0)).scr)) hp b3 p3 (x := x) (by omega) bq_fuel 0 0 E4 (zm_I M3 8 (nI 0)) zw_zero (bq_fuel_ge (by omega)) (Nat.zero_le _) (Nat.zero_le _) H4 zm_sk.refl zm_Is
        rw [a5]
        rw [if_pos (nI_le (Nat.zero_le _) (by omega)), zm_i8 H5, v5]
        simp only [zq_bindE]
        have hr5 : zz_rel M5 n t u p cnt := ((hr.scr c3).scr (zm_sk.i8 (M := M3) (nI 0)).scr).scr k5.scr
        obtain ⟨E6, M6, a6, r6⟩ := zz_tells H5 (nI (zw_plain t (zw_P t k) x).1) hr5
        exact ⟨E6, M6, a6, r6.1, r6.2.1, r6.2.2.1, ((s3.trans s4).trans s5).trans r6.2.2.2⟩
    · refine zz_bad (code := 2) hf hr ho (by decide) ?_ (zz_asks_bad hm (by decide) (zm_asks2 hm hr.1.1.1 hi.1.1.1 h15 qy qx) (by unfold tw_X7_plainProbes; rw [if_pos (zq_cls hm.1)]))
      unfold tw_L_plainProbes tw_X6_plainProbes
      rw [if_pos (zq_cls hf.1), (zf_requireNode hf hi.1.2.1 y).1 qy]
      simp only [zq_bindE, bq_elim]
      rw [(zf_requireGoal hf x).2 qx]
      simp only [zq_bindE, bq_elim]
      rw [if_neg zs_ne1, if_pos True.intro]
  · refine zz_bad (code := 1) hf hr ho (by decide) ?_ (zz_asks_bad hm (by decide) (zm_asks1 hm hr.1.1.1 hi.1.1.1 h15 qy) (by unfold tw_X7_plainProbes; rw [if_pos (zq_cls hm.1)]))
    unfold tw_L_plainProbes tw_X6_plainProbes
    rw [if_pos (zq_cls hf.1), (zf_requireNode hf hi.1.2.1 y).2 qy]
    simp only [zq_bindE, bq_elim]
    rw [if_pos True.intro]
theorem zo_worst (h : zz_E g E z) (y : Int32) : zz_turn g z (tw_L_worst E z y (z + 1386)) (fun E => tw_X7_worst E (z + 1378) y) := by
  obtain ⟨n, t, u, p, cnt, M, hf, hm, hr, f, ho⟩ := h
  have hi := hr.2.1
  have h15 := hi.1.1.2
  by_cases qy : zf_isnode n y
  · obtain ⟨k, hk, rfl⟩ := zf_isnode_nat h15 qy
    obtain ⟨P0, L0, w0, hw⟩ := hf.2.2.1
    obtain ⟨E1, a1, ⟨w', w1⟩, s1⟩ := zw_most_ok hw hf.2.1 (by omega) (k := k) (d := zt_d t k) (by omega) (hi.1.d15 hk) (hi.1.d3 hk) (hi.1.pathok _ k hk rfl) (fun j hj => hi.ok j hj)
    obtain ⟨f1, t1⟩ := hf.walkup w1 s1
    refine zz_ok (v := zw_most t (zw_P t k) (zw_L t k)) f1 t1 hm ho ?_ (n' := n) (fun E2 H2 => ?_)
    · unfold tw_L_worst tw_X6_worst
      rw [if_pos (zq_cls hf.1), (zf_requireNode hf hi.1.2.1 (nI k)).1 qy]
      simp only [zq_bindE, bq_elim]
      rw [hf.rW, hf.rT]
      simp only [zq_bindE]
      rw [a1]
      rfl
    · obtain ⟨E3, M3, a3, H3, c3, s3⟩ := zm_worstOf H2 hi hr.1.2 hk
      show ∃ E' M', tw_X7_worst E2 (z + 1378) (nI k) = some (_, E') ∧ _
      unfold tw_X7_worst
      rw [if_pos (zq_cls H2.1), (zm_isNode H2 hr.1.1.1 hi.1.1.1 h15 (nI k)).1 qy]
      simp only [zq_bindE]
      rw [if_neg bq_bT, a3]
      simp only [zq_bindE]
      obtain ⟨E6, M6, a6, r6⟩ := zz_tells H3 (zw_most t (zw_P t k) (zw_L t k)) (hr.scr c3)
      exact ⟨E6, M6, a6, r6.1, r6.2.1, r6.2.2.1, s3.trans r6.2.2.2⟩
  · refine zz_bad (code := 1) hf hr ho (by decide) ?_ ?_
    · unfold tw_L_worst tw_X6_worst
      rw [if_pos (zq_cls hf.1), (zf_requireNode hf hi.1.2.1 y).2 qy]
      simp only [zq_bindE, bq_elim]
      rw [if_pos True.intro]
    · obtain ⟨E1, a1, H1, s1⟩ := zm_fails hm 1
      refine ⟨0, E1, ?_, H1, s1⟩
      show tw_X7_worst E (z + 1378) y = _
      unfold tw_X7_worst
      rw [if_pos (zq_cls hm.1), (zm_isNode hm hr.1.1.1 hi.1.1.1 h15 y).2 qy]
      simp only [zq_bindE]
      rw [if_pos bq_bF, a1]
      rfl
/-- the class saves its state -/
theorem zf_saves {n p cnt : Nat} {t : zq_T} {u : Nat → zq_T} {M : zq_M} (hf : zq_face g E z t u p cnt) (hr : zz_rel M n t u p cnt) : ∃ E', tw_X1_save E (z + 280) (z + 1) = some E' ∧ zq_face g E' z t (va_up u p (zs_copy n t (u p))) (zh_next p) (zh_more cnt) ∧ zq_same E E' (z + 280) (z + 1378) := by
  obtain ⟨E1, a, b, s⟩ := zh_save hf.2.2.2 hf.2.1 (by omega) hr.2.2.1.2.2 hr.2.2.1.2.1 hr.2.1.1.1.2 hr.2.1.1.2.1
  exact ⟨E1, a, (hf.histup b s).1, s.wide (by omega) (by omega)⟩
/-- the reckoner holds its state: what it may have become by its end -/
def zm_held (M M2 : zq_M) : Prop := (∀ a, a < 8183 → M2.1 3 a = M.1 1 a) ∧ M2.1 2 = M.1 2 ∧ M2.2.1 3 = M.2.1 3
theorem zm_held.keep {M M2 M3 : zq_M} (h : zm_held M M2) (h3 : M3.1 3 = M2.1 3) (h2 : M3.1 2 = M2.1 2) (hc : M3.2.1 3 = M2.2.1 3) : zm_held M M3 := ⟨fun a ha => by rw [h3]; exact h.1 a ha, h2.trans h.2.1, hc.trans h.2.2⟩
theorem zm_holds {m : Nat} {M : zq_M} (H : zq_mod g E m M) : ∃ E' M', tw_X7_hold E m = some E' ∧ zq_mod g E' m M' ∧ zm_held M M' ∧ M'.1 1 = M.1 1 ∧ zq_same E E' m (m + 8) := by
  obtain ⟨E1, h, a1, H1, d1, s1⟩ := zm_hold H
  exact ⟨E1, _, a1, H1, ⟨fun a ha => by rw [zm_Ws]; exact d1 a ha, zm_Wn (by omega), rfl⟩, zm_Wn (by omega), s1⟩
theorem zz_ends {n n' p cnt m : Nat} {t t' : zq_T} {u : Nat → zq_T} {M M2 : zq_M} (hr : zz_rel M n t u p cnt) (H2 : zq_mod g E m M2) (hh : zm_held M M2) (hr2 : zs_rel (M2.1 1) n' t') (hi2 : zi_inv n' t') (x : Int32) : ∃ E' M', (tw_X7_ends E m x).bind (fun v => some (v.1, v.2)) = some (x, E') ∧ zq_mod g E' m M' ∧ zz_rel M' n' t' (va_up u p (zs_copy n t (u p))) (zh_next p) (zh_more cnt) ∧ M'.2.1 4 = 0 ∧ zq_same E E' m (m + 8) := by
  obtain ⟨E1, M1, a1, r⟩ := zz_push hr H2 hh.1 hh.2.1 hh.2.2 hr2 hi2 x
  rw [a1]
  exact ⟨E1, M1, rfl, r⟩
theorem zi_inv.ints {n : Nat} {t : zq_T} (h : zi_inv n t) {k : Nat} (hk : k = 6 ∨ k = 7) (x : Int32) : zi_inv n (zt_I t k x) := by
  have hw : ∀ n j, zi_w (zt_I t k x) n j = zi_w t n j := (zi_an_cint (t := t) (u := zt_I t k x) (fun _ _ => rfl)).2.2.2
  refine ⟨h.1.congr (va_up_ne _ _ (by omega)) (fun _ _ _ _ => rfl), ?_, ?_, h.2.2.2.1, fun j hj => (h.2.2.2.2.1 j hj).congr rfl (fun _ _ _ => rfl) rfl rfl (by rw [hw]; exact Nat.le_refl _), h.2.2.2.2.2⟩
  · have e : (zt_I t k x).1 4 = t.1 4 := va_up_ne _ _ (by omega)
    rw [e]; exact h.2.1
  · have e : (zt_I t k x).1 5 = t.1 5 := va_up_ne _ _ (by omega)
    rw [e]; exact h.2.2.1
theorem zo_search (h : zz_E g E z) (y x : Int32) : zz_turn g z (tw_L_search E z y x (z + 1386)) (fun E => tw_X7_search E (z + 1378) y x) := by
  obtain ⟨n, t, u, p, cnt, M, hf, hm, hr, f, ho⟩ := h
  have hi := hr.2.1
  have h15 := hi.1.1.2
  by_cases qy : zf_isnode n y
  · by_cases qx : zf_goal x
    · obtain ⟨k, hk, rfl⟩ := zf_isnode_nat h15 qy
      obtain ⟨x, hx, rfl⟩ := zf_goal_nat qx
      obtain ⟨E1, a1, f1, w1, s1⟩ := zf_walkTo hf hi hk hx
      obtain ⟨E2, a2, f2, s2⟩ := zf_saves f1 hr
      have w2 := w1.same s2 (by omega)
      obtain ⟨E3, a3, t3, s3⟩ := f2.2.1.intup (k := 6) (by omega) (t.1 6 + 1)
      obtain ⟨f3, t3'⟩ := f2.treeup t3 s3
      have w3 := w2.same s3 (by omega)
      obtain ⟨E4, a4, t4, s4⟩ := f3.2.1.intup (k := 7) (by omega) (t.1 7 + nI (zw_find t (zw_P t k) (zw_L t k) x).1)
      obtain ⟨f4, t4'⟩ := f3.treeup t4 s4
      have w4 := w3.same s4 (by omega)
      refine zz_ok (v := (zw_find t (zw_P t k) (zw_L t k) x).2.2.1) f4 (((s1.trans (s2.wide (by omega) (by omega))).trans t3').trans t4') hm ho ?_ (n' := n) (fun E5 H5 => ?_)
      · unfold tw_L_search tw_X6_search
        rw [if_pos (zq_cls hf.1), a1]
        simp only [zq_bindE, bq_elim]
        rw [f1.rH, f1.rT]
        simp only [zq_bindE]
        rw [a2]
        simp only [zq_bindE]
        rw [f2.rT]
        simp only [zq_bindE]
        rw [f2.2.1.int (k := 6) (by omega)]
        simp only [zq_bindE]
        rw [a3]
        simp only [zq_bindE]
        rw [f3.rT]
        simp only [zq_bindE]
        rw [f3.2.1.int (k := 7) (by omega), w3.i2]
        simp only [zq_bindE]
        have e7 : (zt_I t 6 (t.1 6 + 1)).1 7 = t.1 7 := by
          show va_up t.1 6 (t.1 6 + 1) 7 = _
          exact va_up_ne _ _ (by omega)
        rw [e7, a4]
        simp only [zq_bindE]
        rw [w4.i4]
        rfl
      · show ∃ E' M', tw_X7_search E5 (z + 1378) (nI k) (nI x) = some (_, E') ∧ _
        unfold tw_X7_search
        rw [if_pos (zq_cls H5.1), (zm_isNode H5 hr.1.1.1 hi.1.1.1 h15 (nI k)).1 qy]
        simp only [zq_bindE]
        rw [if_neg bq_bT, (zm_isSought E5 (nI x)).1 qx]
        simp only [zq_bindE]
        rw [if_neg bq_bT]
        obtain ⟨E6, M6, a6, H6, h6, e6, s6⟩ := zm_holds H5
        rw [a6]
        simp only [zq_bindE]
        have hN : zs_ok M n t := hr.1.2
        have hN6 : zs_ok M6 n t := fun j hj => by rw [e6]; exact hN j hj
        obtain ⟨E7, M7, a7, H7, b7, c7, sc7, d7, e7, s7⟩ := zm_laid H6 hi.1 hN6 hk
        rw [a7]
        simp only [zq_bindE]
        have hp : zi_pl n t (zw_P t k) (zw_L t k) := zi_pl_path hi.1 hk
        have hp15 : (zw_P t k).length ≤ 15 := hp.1.1
        obtain ⟨E8, M8, a8, H8, sk8, fd8, s8⟩ := zm_seeks (L := zw_L t k) H7 hi (hN6.scr sc7) hp b7 c7 (x := x) (by omega)
        rw [a8]
        simp only [zq_bindE]
        have sc8 := sc7.trans sk8.scr
        have hf1 : M8.1 1 = M.1 1 := (sc8.1 1 (by omega)).trans e6
        obtain ⟨⟨r0, r1, r2, r3, r4, r5, r6, r7⟩, rn⟩ := hr.1
        rw [zm_r1 H8, show (3 : Int32) = nI 3 from rfl]
        simp only [zq_bindE]
        rw [zm_ai H8 (j := 1) (by omega) (by show 3 < 8183; omega), hf1, r3]
        simp only [zq_bindE]
        obtain ⟨E9, a9, H9, s9⟩ := zm_si H8 (j := 1) (i := 3) (by omega) (by show 3 < 8183; omega) (t.1 6 + 1)
        rw [a9]
        simp only [zq_bindE]
        rw [zm_r1 H9, show (4 : Int32) = nI 4 from rfl]
        simp only [zq_bindE]
        rw [zm_ai H9 (j := 1) (by omega) (by show 4 < 8183; omega), zm_Aoff (by omega), hf1, r4, zm_i8 H9]
        simp only [zq_bindE]
        have e8 : (zm_A M8 1 3 (t.1 6 + 1)).2.1 8 = nI (zw_find t (zw_P t k) (zw_L t k) x).1 := fd8.1
        rw [e8]
        obtain ⟨E10, a10, H10, s10⟩ := zm_si H9 (j := 1) (i := 4) (by omega) (by show 4 < 8183; omega) (t.1 7 + nI (zw_find t (zw_P t k) (zw_L t k) x).1)
        rw [a10]
        simp only [zq_bindE]
        rw [zm_r7 H10, zm_i7 H10]
        simp only [zq_bindE]
        have e77 : (zm_A (zm_A M8 1 3 (t.1 6 + 1)) 1 4 (t.1 7 + nI (zw_find t (zw_P t k) (zw_L t k) x).1)).2.1 7 = nI (zt_d t k + 1) := by
          show M8.2.1 7 = _
          rw [sk8.2.1 7 (by omega), b7]
          exact congrArg nI (zw_P_len t k)
        have hpl := zw_P_len t k
        rw [e77, nI_pred, zm_ai H10 (j := 7) (by omega) (by show zt_d t k < 15; omega), zm_An (by omega), zm_An (by omega)]
        simp only [zq_bindE]
        have e9 := (fd8.2.1 (by show 0 < (zw_P t k).length; omega)).2
        have e9' : M8.1 7 (zt_d t k) = (zw_find t (zw_P t k) (zw_L t k) x).2.2.1 := by
          have : (zw_P t k).length - 1 = zt_d t k := by omega
          rw [← this]
          exact e9
        rw [e9']
        have hh : zm_held M (zm_A (zm_A M8 1 3 (t.1 6 + 1)) 1 4 (t.1 7 + nI (zw_find t (zw_P t k) (zw_L t k) x).1)) := h6.keep (by rw [zm_An (by omega), zm_An (by omega)]; exact sc8.1 3 (by omega)) (by rw [zm_An (by omega), zm_An (by omega)]; exact sc8.1 2 (by omega)) (sc8.2.1 3 (by omega) (by omega))
        obtain ⟨E11, M11, a11, r11⟩ := zz_ends (n' := n) (t' := zt_I (zt_I t 6 (t.1 6 + 1)) 7 (t.1 7 + nI (zw_find t (zw_P t k) (zw_L t k) x).1)) hr H10 hh (by
          refine ⟨⟨?_, ?_, ?_, ?_, ?_, ?_, ?_, ?_⟩, fun j hj => ?_⟩
          · rw [zm_Aoff (by omega), zm_Aoff (by omega), hf1]; exact r0
          · rw [zm_Aoff (by omega), zm_Aoff (by omega), hf1]; exact r1
          · rw [zm_Aoff (by omega), zm_Aoff (by omega), hf1]; exact r2
          · rw [zm_Aoff (by omega), zm_Aat]; rfl
          · rw [zm_Aat]; rfl
          · rw [zm_Aoff (by omega), zm_Aoff (by omega), hf1]; exact r5
          · rw [zm_Aoff (by omega), zm_Aoff (by omega), hf1]; exact r6
          · rw [zm_Aoff (by omega), zm_Aoff (by omega), hf1]; exact r7
          · refine (rn j hj).keep (hi.cat hj) (fun a h1 h2 => ?_)
            have hat : zm_at j = 8 + 545 * j := rfl
            rw [zm_Aoff (by omega), zm_Aoff (by omega), hf1]) ((hi.ints (Or.inl rfl) _).ints (Or.inr rfl) _) ((zw_find t (zw_P t k) (zw_L t k) x).2.2.1)
        exact ⟨E11, M11, a11, r11.1, r11.2.1, r11.2.2.1, ((((s6.trans s7).trans s8).trans s9).trans s10).trans r11.2.2.2⟩
    · refine zz_bad (code := 2) hf hr ho (by decide) ?_ ?_
      · unfold tw_L_search tw_X6_search
        rw [if_pos (zq_cls hf.1), zf_walkTo2 hf hi.1.2.1 qy qx]
        simp only [zq_bindE, bq_elim]
        rw [if_neg zs_ne1, if_pos True.intro]
      · obtain ⟨E1, a1, H1, s1⟩ := zm_fails hm 2
        refine ⟨0, E1, ?_, H1, s1⟩
        show tw_X7_search E (z + 1378) y x = _
        unfold tw_X7_search
        rw [if_pos (zq_cls hm.1), (zm_isNode hm hr.1.1.1 hi.1.1.1 h15 y).1 qy]
        simp only [zq_bindE]
        rw [if_neg bq_bT, (zm_isSought E x).2 qx]
        simp only [zq_bindE]
        rw [if_pos bq_bF, a1]
        rfl
  · refine zz_bad (code := 1) hf hr ho (by decide) ?_ ?_
    · unfold tw_L_search tw_X6_search
      rw [if_pos (zq_cls hf.1), zf_walkTo1 hf hi.1.2.1 qy]
      simp only [zq_bindE, bq_elim]
      rw [if_pos True.intro]
    · obtain ⟨E1, a1, H1, s1⟩ := zm_fails hm 1
      refine ⟨0, E1, ?_, H1, s1⟩
      show tw_X7_search E (z + 1378) y x = _
      unfold tw_X7_search
      rw [if_pos (zq_cls hm.1), (zm_isNode hm hr.1.1.1 hi.1.1.1 h15 y).2 qy]
      simp only [zq_bindE]
      rw [if_pos bq_bF, a1]
      rfl
end ZoB
