/-! Questions by a walk: probes, place, leastOnPath, nearestOnPath, plainProbes, worst. -/
section ZoA
variable {g : bq_G} {E : bq_E} {z n p cnt : Nat} {M : zq_M} {t : zq_T} {u : Nat → zq_T} {f : Nat → Int64}
theorem zz_asks_bad {m : Nat} {y x code : Int32} {R : bq_E → Option (Int32 × bq_E)} {A : Int32 × bq_E → Option (Int32 × bq_E)} (H : zq_mod g E m M) (hc : ¬ code ≤ 0) (ha : tw_X7_asks E m y x = some (code, E)) (hR : R E = (tw_X7_asks E m y x).bind fun v1 => if v1.1 ≤ 0 then A v1 else (tw_X7_fails v1.2 m v1.1).bind fun v4 => some (v4.1, v4.2)) : zz_fails g E m M R code := by
  obtain ⟨E1, a1, H1, s1⟩ := zm_fails H code
  refine ⟨0, E1, ?_, H1, s1⟩
  rw [hR, ha]
  simp only [zq_bindE]
  rw [if_neg hc, a1]
  rfl
theorem zz_tells {m : Nat} {M' : zq_M} (H : zq_mod g E m M') (v : Int32) (hr : zz_rel M' n t u p cnt) : ∃ E' M2, (tw_X7_tells E m v).bind (fun v3 => some (v3.1, v3.2)) = some (v, E') ∧ zq_mod g E' m M2 ∧ zz_rel M2 n t u p cnt ∧ M2.2.1 4 = 0 ∧ zq_same E E' m (m + 8) := by
  obtain ⟨E1, a1, H1, s1⟩ := zm_tells H v
  rw [a1]
  exact ⟨E1, _, rfl, H1, hr.i4 0, zm_Is, s1⟩
theorem zo_probes (h : zz_E g E z) (y x : Int32) : zz_turn g z (tw_L_probes E z y x (z + 1386)) (fun E => tw_X7_probes E (z + 1378) y x) := by
  obtain ⟨n, t, u, p, cnt, M, hf, hm, hr, f, ho⟩ := h
  have hi := hr.2.1
  have h15 := hi.1.1.2
  by_cases qy : zf_isnode n y
  · by_cases qx : zf_goal x
    · obtain ⟨k, hk, rfl⟩ := zf_isnode_nat h15 qy
      obtain ⟨x, hx, rfl⟩ := zf_goal_nat qx
      obtain ⟨E1, a1, f1, w1, s1⟩ := zf_walkTo hf hi hk hx
      refine zz_ok (v := nI (zw_find t (zw_P t k) (zw_L t k) x).1) f1 s1 hm ho ?_ (n' := n) (fun E2 H2 => ?_)
      · unfold tw_L_probes tw_X6_probes
        rw [if_pos (zq_cls hf.1), a1]
        simp only [zq_bindE, bq_elim]
        rw [w1.i2]
        rfl
      · obtain ⟨E3, M3, a3, H3, c3, b3, p3, d3, s3⟩ := zm_asks H2 hi hr.1.2 hk hr.1.1.1 hx
        have hr3 := hr.scr c3
        have hp15 : (zw_P t k).length ≤ 15 := (zi_pl_path hi.1 hk).1.1
        have hpl := zw_P_len t k
        show ∃ E' M', tw_X7_probes E2 (z + 1378) (nI k) (nI x) = some (_, E') ∧ _
        unfold tw_X7_probes
        rw [if_pos (zq_cls H2.1), a3]
        simp only [zq_bindE]
        rw [if_pos (show (0 : Int32) ≤ 0 by decide)]
        rw [zm_i8 H3, d3.1]
        simp only [zq_bindE]
        obtain ⟨E4, M4, a4, r4⟩ := zz_tells H3 (nI (zw_find t (zw_P t k) (zw_L t k) x).1) hr3
        rw [a4]
        exact ⟨E4, M4, rfl, r4.1, r4.2.1, r4.2.2.1, s3.trans r4.2.2.2⟩
    · refine zz_bad (code := 2) hf hr ho (by decide) ?_ (zz_asks_bad hm (by decide) (zm_asks2 hm hr.1.1.1 hi.1.1.1 h15 qy qx) (by unfold tw_X7_probes; rw [if_pos (zq_cls hm.1)]))
      unfold tw_L_probes tw_X6_probes
      rw [if_pos (zq_cls hf.1), zf_walkTo2 hf hi.1.2.1 qy qx]
      simp only [zq_bindE, bq_elim]
      rw [if_neg zs_ne1, if_pos True.intro]
  · refine zz_bad (code := 1) hf hr ho (by decide) ?_ (zz_asks_bad hm (by decide) (zm_asks1 hm hr.1.1.1 hi.1.1.1 h15 qy) (by unfold tw_X7_probes; rw [if_pos (zq_cls hm.1)]))
    unfold tw_L_probes tw_X6_probes
    rw [if_pos (zq_cls hf.1), zf_walkTo1 hf hi.1.2.1 qy]
    simp only [zq_bindE, bq_elim]
    rw [if_pos True.intro]
theorem zo_place (h : zz_E g E z) (y x : Int32) : zz_turn g z (tw_L_place E z y x (z + 1386)) (fun E => tw_X7_place E (z + 1378) y x) := by
  obtain ⟨n, t, u, p, cnt, M, hf, hm, hr, f, ho⟩ := h
  have hi := hr.2.1
  have h15 := hi.1.1.2
  by_cases qy : zf_isnode n y
  · by_cases qx : zf_goal x
    · obtain ⟨k, hk, rfl⟩ := zf_isnode_nat h15 qy
      obtain ⟨x, hx, rfl⟩ := zf_goal_nat qx
      obtain ⟨E1, a1, f1, w1, s1⟩ := zf_walkTo hf hi hk hx
      refine zz_ok (v := nI (zw_find t (zw_P t k) (zw_L t k) x).2.1) f1 s1 hm ho ?_ (n' := n) (fun E2 H2 => ?_)
      · unfold tw_L_place tw_X6_place
        rw [if_pos (zq_cls hf.1), a1]
        simp only [zq_bindE, bq_elim]
        rw [w1.i3]
        rfl
      · obtain ⟨E3, M3, a3, H3, c3, b3, p3, d3, s3⟩ := zm_asks H2 hi hr.1.2 hk hr.1.1.1 hx
        have hr3 := hr.scr c3
        have hp15 : (zw_P t k).length ≤ 15 := (zi_pl_path hi.1 hk).1.1
        have hpl := zw_P_len t k
        show ∃ E' M', tw_X7_place E2 (z + 1378) (nI k) (nI x) = some (_, E') ∧ _
        unfold tw_X7_place
        rw [if_pos (zq_cls H2.1), a3]
        simp only [zq_bindE]
        rw [if_pos (show (0 : Int32) ≤ 0 by decide)]
        rw [zm_r6 H3, zm_i7 H3, b3]
        simp only [zq_bindE]
        rw [hpl, nI_pred, zm_ai H3 (j := 6) (by omega) (by show zt_d t k < 15; omega)]
        simp only [zq_bindE]
        have e6 := (d3.2.1 (by omega)).1
        rw [hpl, Nat.add_sub_cancel] at e6
        rw [e6]
        obtain ⟨E4, M4, a4, r4⟩ := zz_tells H3 (nI (zw_find t (zw_P t k) (zw_L t k) x).2.1) hr3
        rw [a4]
        exact ⟨E4, M4, rfl, r4.1, r4.2.1, r4.2.2.1, s3.trans r4.2.2.2⟩
    · refine zz_bad (code := 2) hf hr ho (by decide) ?_ (zz_asks_bad hm (by decide) (zm_asks2 hm hr.1.1.1 hi.1.1.1 h15 qy qx) (by unfold tw_X7_place; rw [if_pos (zq_cls hm.1)]))
      unfold tw_L_place tw_X6_place
      rw [if_pos (zq_cls hf.1), zf_walkTo2 hf hi.1.2.1 qy qx]
      simp only [zq_bindE, bq_elim]
      rw [if_neg zs_ne1, if_pos True.intro]
  · refine zz_bad (code := 1) hf hr ho (by decide) ?_ (zz_asks_bad hm (by decide) (zm_asks1 hm hr.1.1.1 hi.1.1.1 h15 qy) (by unfold tw_X7_place; rw [if_pos (zq_cls hm.1)]))
    unfold tw_L_place tw_X6_place
    rw [if_pos (zq_cls hf.1), zf_walkTo1 hf hi.1.2.1 qy]
    simp only [zq_bindE, bq_elim]
    rw [if_pos True.intro]
theorem zo_leastOnPath (h : zz_E g E z) (y x : Int32) : zz_turn g z (tw_L_leastOnPath E z y x (z + 1386)) (fun E => tw_X7_leastOnPath E (z + 1378) y x) := by
  obtain ⟨n, t, u, p, cnt, M, hf, hm, hr, f, ho⟩ := h
  have hi := hr.2.1
  have h15 := hi.1.1.2
  by_cases qy : zf_isnode n y
  · by_cases qx : zf_goal x
    · obtain ⟨k, hk, rfl⟩ := zf_isnode_nat h15 qy
      obtain ⟨x, hx, rfl⟩ := zf_goal_nat qx
      obtain ⟨E1, a1, f1, w1, s1⟩ := zf_walkTo hf hi hk hx
      refine zz_ok (v := (zw_find t (zw_P t k) (zw_L t k) x).2.2.2.1) f1 s1 hm ho ?_ (n' := n) (fun E2 H2 => ?_)
      · unfold tw_L_leastOnPath tw_X6_leastOnPath
        rw [if_pos (zq_cls hf.1), a1]
        simp only [zq_bindE, bq_elim]
        rw [w1.i5]
        rfl
      · obtain ⟨E3, M3, a3, H3, c3, b3, p3, d3, s3⟩ := zm_asks H2 hi hr.1.2 hk hr.1.1.1 hx
        have hr3 := hr.scr c3
        have hp15 : (zw_P t k).length ≤ 15 := (zi_pl_path hi.1 hk).1.1
        have hpl := zw_P_len t k
        show ∃ E' M', tw_X7_leastOnPath E2 (z + 1378) (nI k) (nI x) = some (_, E') ∧ _
        unfold tw_X7_leastOnPath
        rw [if_pos (zq_cls H2.1), a3]
        simp only [zq_bindE]
        rw [if_pos (show (0 : Int32) ≤ 0 by decide)]
        rw [zm_leastStep H3 (c := (zw_P t k).length) (by omega) b3]
        simp only [zq_bindE]
        have hb := d3.2.2
        have hb2 := (zw_bsi_congr (a := M3.1 7) (a' := M3.1 7) (zw_P t k).length (fun _ _ => rfl)).1
        cases e : zw_bsi (M3.1 7) (zw_P t k).length with
        | none =>
          rw [e] at hb
          simp only []
          rw [if_pos True.intro, ← hb.1]
          obtain ⟨E4, M4, a4, r4⟩ := zz_tells H3 (zw_find t (zw_P t k) (zw_L t k) x).2.2.2.1 hr3
          rw [a4]
          exact ⟨E4, M4, rfl, r4.1, r4.2.1, r4.2.2.1, s3.trans r4.2.2.2⟩
        | some b =>
          rw [e] at hb
          have hb1 := hb2 b e
          simp only []
          rw [if_neg (zn_m1 (by omega)), zm_r7 H3]
          simp only [zq_bindE]
          rw [zm_ai H3 (j := 7) (by omega) (by show b < 15; omega), hb.2.1]
          simp only [zq_bindE]
          obtain ⟨E4, M4, a4, r4⟩ := zz_tells H3 (zw_find t (zw_P t k) (zw_L t k) x).2.2.2.1 hr3
          rw [a4]
          exact ⟨E4, M4, rfl, r4.1, r4.2.1, r4.2.2.1, s3.trans r4.2.2.2⟩
    · refine zz_bad (code := 2) hf hr ho (by decide) ?_ (zz_asks_bad hm (by decide) (zm_asks2 hm hr.1.1.1 hi.1.1.1 h15 qy qx) (by unfold tw_X7_leastOnPath; rw [if_pos (zq_cls hm.1)]))
      unfold tw_L_leastOnPath tw_X6_leastOnPath
      rw [if_pos (zq_cls hf.1), zf_walkTo2 hf hi.1.2.1 qy qx]
      simp only [zq_bindE, bq_elim]
      rw [if_neg zs_ne1, if_pos True.intro]
  · refine zz_bad (code := 1) hf hr ho (by decide) ?_ (zz_asks_bad hm (by decide) (zm_asks1 hm hr.1.1.1 hi.1.1.1 h15 qy) (by unfold tw_X7_leastOnPath; rw [if_pos (zq_cls hm.1)]))
    unfold tw_L_leastOnPath tw_X6_leastOnPath
    rw [if_pos (zq_cls hf.1), zf_walkTo1 hf hi.1.2.1 qy]
    simp only [zq_bindE, bq_elim]
    rw [if_pos True.intro]
theorem zo_nearestOnPath (h : zz_E g E z) (y x : Int32) : zz_turn g z (tw_L_nearestOnPath E z y x (z + 1386)) (fun E => tw_X7_nearestOnPath E (z + 1378) y x) := by
  obtain ⟨n, t, u, p, cnt, M, hf, hm, hr, f, ho⟩ := h
  have hi := hr.2.1
  have h15 := hi.1.1.2
  by_cases qy : zf_isnode n y
  · by_cases qx : zf_goal x
    · obtain ⟨k, hk, rfl⟩ := zf_isnode_nat h15 qy
      obtain ⟨x, hx, rfl⟩ := zf_goal_nat qx
      obtain ⟨E1, a1, f1, w1, s1⟩ := zf_walkTo hf hi hk hx
      refine zz_ok (v := (zw_find t (zw_P t k) (zw_L t k) x).2.2.2.2) f1 s1 hm ho ?_ (n' := n) (fun E2 H2 => ?_)
      · unfold tw_L_nearestOnPath tw_X6_nearestOnPath
        rw [if_pos (zq_cls hf.1), a1]
        simp only [zq_bindE, bq_elim]
        rw [w1.i6]
        rfl
      · obtain ⟨E3, M3, a3, H3, c3, b3, p3, d3, s3⟩ := zm_asks H2 hi hr.1.2 hk hr.1.1.1 hx
        have hr3 := hr.scr c3
        have hp15 : (zw_P t k).length ≤ 15 := (zi_pl_path hi.1 hk).1.1
        have hpl := zw_P_len t k
        show ∃ E' M', tw_X7_nearestOnPath E2 (z + 1378) (nI k) (nI x) = some (_, E') ∧ _
        unfold tw_X7_nearestOnPath
        rw [if_pos (zq_cls H2.1), a3]
        simp only [zq_bindE]
        rw [if_pos (show (0 : Int32) ≤ 0 by decide)]
        rw [zm_leastStep H3 (c := (zw_P t k).length) (by omega) b3]
        simp only [zq_bindE]
        have hb := d3.2.2
        have hb2 := (zw_bsi_congr (a := M3.1 7) (a' := M3.1 7) (zw_P t k).length (fun _ _ => rfl)).1
        cases e : zw_bsi (M3.1 7) (zw_P t k).length with
        | none =>
          rw [e] at hb
          simp only []
          rw [if_pos True.intro, ← hb.2]
          obtain ⟨E4, M4, a4, r4⟩ := zz_tells H3 (zw_find t (zw_P t k) (zw_L t k) x).2.2.2.2 hr3
          rw [a4]
          exact ⟨E4, M4, rfl, r4.1, r4.2.1, r4.2.2.1, s3.trans r4.2.2.2⟩
        | some b =>
          rw [e] at hb
          have hb1 := hb2 b e
          simp only []
          rw [if_neg (zn_m1 (by omega)), zm_r5 H3]
          simp only [zq_bindE]
          rw [zm_ai H3 (j := 5) (by omega) (by show b < 15; omega), p3 b hb1, ← hb.2.2.2]
          simp only [zq_bindE]
          obtain ⟨E4, M4, a4, r4⟩ := zz_tells H3 (zw_find t (zw_P t k) (zw_L t k) x).2.2.2.2 hr3
          rw [a4]
          exact ⟨E4, M4, rfl, r4.1, r4.2.1, r4.2.2.1, s3.trans r4.2.2.2⟩
    · refine zz_bad (code := 2) hf hr ho (by decide) ?_ (zz_asks_bad hm (by decide) (zm_asks2 hm hr.1.1.1 hi.1.1.1 h15 qy qx) (by unfold tw_X7_nearestOnPath; rw [if_pos (zq_cls hm.1)]))
      unfold tw_L_nearestOnPath tw_X6_nearestOnPath
      rw [if_pos (zq_cls hf.1), zf_walkTo2 hf hi.1.2.1 qy qx]
      simp only [zq_bindE, bq_elim]
      rw [if_neg zs_ne1, if_pos True.intro]
  · refine zz_bad (code := 1) hf hr ho (by decide) ?_ (zz_asks_bad hm (by decide) (zm_asks1 hm hr.1.1.1 hi.1.1.1 h15 qy) (by unfold tw_X7_nearestOnPath; rw [if_pos (zq_cls hm.1)]))
    unfold tw_L_nearestOnPath tw_X6_nearestOnPath
    rw [if_pos (zq_cls hf.1), zf_walkTo1 hf hi.1.2.1 qy]
    simp only [zq_bindE, bq_elim]
    rw [if_pos True.intro]
end ZoA
