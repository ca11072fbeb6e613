/-! Values: entry, bridge, count, nodes; undo, setSizes. -/
def zv_cnt (t : zq_T) (n w : Nat) : Int32 := if w = 5 then zt_sum (fun k => zc_count (t.2 k)) n else if w = 6 then zt_sum (fun k => nI ((t.2 k).2 3).length) n else t.1 (6 + w)
section ZoD
variable {g : bq_G} {E : bq_E} {z m n p cnt k : Nat} {M : zq_M} {t : zq_T} {u : Nat → zq_T}
theorem zo_entry (h : zz_E g E z) (y x s : Int32) : zz_turn g z (tw_L_entry E z y x s (z + 1386)) (fun E => tw_X7_entry E (z + 1378) y x s) := by
  obtain ⟨n, t, u, p, cnt, M, hf, hm, hr, f, ho⟩ := h
  have hi := hr.2.1
  have h15 := hi.1.1.2
  by_cases qy : zf_isnode n y
  · obtain ⟨k, hk, rfl⟩ := zf_isnode_nat h15 qy
    have C := hf.2.1.cat (k := k) (by omega)
    have hcat := hi.cat hk
    have hkl := hcat.2.2.1
    by_cases qx : x < 0
    · refine zz_bad (code := 2) hf hr ho (by decide) ?_ (zz_code_bad hm ?_)
      · unfold tw_L_entry tw_X6_entry
        rw [if_pos (zq_cls hf.1), (zf_requireNode hf hi.1.2.1 (nI k)).1 qy]
        simp only [zq_bindE, bq_elim, zq_letE]
        rw [if_pos qx, (zf_require hf).1]
        simp only [zq_bindE, bq_elim]
        rw [if_neg zs_ne1, if_pos True.intro]
      · show tw_X7_entry E (z + 1378) (nI k) x s = _
        unfold tw_X7_entry
        rw [if_pos (zq_cls hm.1), (zm_isNode hm hr.1.1.1 hi.1.1.1 h15 (nI k)).1 qy]
        simp only [zq_bindE, zq_letE]
        rw [if_neg bq_bT, if_pos qx]
    · obtain ⟨i, hi31, rfl⟩ := nI_of qx
      by_cases qs : s = 0 ∨ s = 1
      · have hin : zm_in s 0 1 = true := by rcases qs with rfl | rfl <;> decide
        have hval : ∃ j, (j = 3 ∨ j = 4) ∧ (j = 3 ↔ s = 0) := by
          by_cases w : s = 0
          · exact ⟨3, Or.inl rfl, ⟨fun _ => w, fun _ => rfl⟩⟩
          · exact ⟨4, Or.inr rfl, ⟨fun q => absurd q (by omega), fun q => absurd q w⟩⟩
        obtain ⟨j, hj, hjs⟩ := hval
        have hjl : ((t.2 k).2 j).length = ((t.2 k).2 3).length := by rcases hj with rfl | rfl; rfl; exact hkl.1
        refine zz_ok (v := zn_gM ((t.2 k).2 j) i) hf zq_same.refl hm ho ?_ (n' := n) (fun E2 H2 => ?_)
        · unfold tw_L_entry tw_X6_entry
          rw [if_pos (zq_cls hf.1), (zf_requireNode hf hi.1.2.1 (nI k)).1 qy]
          simp only [zq_bindE, bq_elim, zq_letE]
          rw [if_neg qx, (zf_require hf).2]
          simp only [zq_bindE, bq_elim]
          rw [hf.rT]
          simp only [zq_bindE]
          rw [zt_at hf.2.1, zt_ix_nI (by omega)]
          simp only [zq_bindE]
          rw [C.rList]
          simp only [zq_bindE]
          rw [C.lKeys, C.lOrg]
          simp only [zq_bindE]
          rw [zn_atMn C.keys hi31, zn_atMn C.orgs hi31]
          simp only [zq_bindE, bq_elim]
          by_cases w : s = 0
          · rw [if_pos w, if_pos w, hjs.mpr w]
            rfl
          · rw [if_neg w, if_pos (qs.resolve_left w), if_neg w]
            have : j = 4 := hj.resolve_left (fun q => w (hjs.mp q))
            rw [this]
            rfl
        · have has : zm_has g E2 (z + 1378) M k (t.2 k) := ⟨H2, by omega, hr.1.2 k hk, hcat⟩
          show ∃ E' M', tw_X7_entry E2 (z + 1378) (nI k) (nI i) s = some (_, E') ∧ _
          unfold tw_X7_entry
          rw [if_pos (zq_cls H2.1), (zm_isNode H2 hr.1.1.1 hi.1.1.1 h15 (nI k)).1 qy]
          simp only [zq_bindE, zq_letE]
          rw [if_neg bq_bT, if_neg qx, zm_in_eq, hin]
          simp only [zq_bindE]
          rw [if_neg bq_bT, zm_o61 has]
          simp only [zq_bindE]
          by_cases w : i < ((t.2 k).2 3).length
          · rw [if_pos (nI_lt w (by omega)), zn_gM_in (by omega), zm_oK has w, zm_oO has w]
            simp only [zq_bindE]
            by_cases ws : s = 0
            · rw [if_pos ws, hjs.mpr ws]
              exact zz_tells H2 _ hr
            · have : j = 4 := hj.resolve_left (fun q => ws (hjs.mp q))
              rw [if_neg ws, this]
              exact zz_tells H2 _ hr
          · rw [if_neg (nI_nlt (by omega) hi31), zn_gM_out (by omega)]
            exact zz_tells H2 _ hr
      · have hs0 : ¬ s = 0 := fun q => qs (Or.inl q)
        have hs1 : ¬ s = 1 := fun q => qs (Or.inr q)
        have hin : zm_in s 0 1 = false := by
          refine Bool.eq_false_iff.mpr (fun q => ?_)
          obtain ⟨w, hw, rfl⟩ := zm_in_nat (N := 1) (by omega) q
          have : w = 0 ∨ w = 1 := by omega
          rcases this with rfl | rfl
          · exact hs0 rfl
          · exact hs1 rfl
        refine zz_bad (code := 2) hf hr ho (by decide) ?_ (zz_code_bad hm ?_)
        · unfold tw_L_entry tw_X6_entry
          rw [if_pos (zq_cls hf.1), (zf_requireNode hf hi.1.2.1 (nI k)).1 qy]
          simp only [zq_bindE, bq_elim, zq_letE]
          rw [if_neg qx, (zf_require hf).2]
          simp only [zq_bindE, bq_elim]
          rw [if_neg hs0, if_neg hs1, (zf_require hf).1]
          simp only [zq_bindE, bq_elim]
          rw [if_neg zs_ne1, if_pos True.intro]
        · show tw_X7_entry E (z + 1378) (nI k) (nI i) s = _
          unfold tw_X7_entry
          rw [if_pos (zq_cls hm.1), (zm_isNode hm hr.1.1.1 hi.1.1.1 h15 (nI k)).1 qy]
          simp only [zq_bindE, zq_letE]
          rw [if_neg bq_bT, if_neg qx, zm_in_eq, hin]
          simp only [zq_bindE]
          rw [if_pos bq_bF]
  · refine zz_bad (code := 1) hf hr ho (by decide) ?_ (zz_node_bad hm hi hr.1.1.1 qy (by unfold tw_X7_entry; rw [if_pos (zq_cls hm.1)]))
    unfold tw_L_entry tw_X6_entry
    rw [if_pos (zq_cls hf.1), (zf_requireNode hf hi.1.2.1 y).2 qy]
    simp only [zq_bindE, bq_elim]
    rw [if_pos True.intro]
theorem zo_bridge (h : zz_E g E z) (y x s : Int32) : zz_turn g z (tw_L_bridge E z y x s (z + 1386)) (fun E => tw_X7_bridge E (z + 1378) y x s) := by
  obtain ⟨n, t, u, p, cnt, M, hf, hm, hr, f, ho⟩ := h
  have hi := hr.2.1
  have h15 := hi.1.1.2
  by_cases qy : zf_isnode n y
  · obtain ⟨k, hk, rfl⟩ := zf_isnode_nat h15 qy
    have C := hf.2.1.cat (k := k) (by omega)
    have hcat := hi.cat hk
    have hkl := hcat.2.2.1.2
    have has0 : zm_has g E (z + 1378) M k (t.2 k) := ⟨hm, by omega, hr.1.2 k hk, hcat⟩
    by_cases qx : zm_in x 0 (nI ((t.2 k).2 3).length) = true
    · obtain ⟨i, hil, rfl⟩ := zm_in_nat (by omega) qx
      by_cases qs : zm_in s 0 2 = true
      · obtain ⟨j, hj2, rfl⟩ := zm_in_nat (N := 2) (by omega) qs
        have hrow : ((t.2 k).2 (5 + j)).length = ((t.2 k).2 3).length + 1 := hcat.2.2.2.1 j (by omega)
        refine zz_ok (v := nI (((t.2 k).2 (5 + j)).getD i 0)) hf zq_same.refl hm ho ?_ (n' := n) (fun E2 H2 => ?_)
        · unfold tw_L_bridge tw_X6_bridge
          rw [if_pos (zq_cls hf.1), (zf_requireNode hf hi.1.2.1 (nI k)).1 qy]
          simp only [zq_bindE, bq_elim, zq_letE]
          rw [hf.rT]
          simp only [zq_bindE]
          rw [zt_at hf.2.1, zt_ix_nI (by omega)]
          simp only [zq_bindE]
          rw [C.rList]
          simp only [zq_bindE]
          rw [if_neg (nI_pos (by omega)), zl_size C]
          simp only [zq_bindE]
          rw [if_neg (nI_nlt hil (by omega)), (zf_require hf).2]
          simp only [zq_bindE, bq_elim]
          rw [zl_bridgeOf C _ (by omega : j < 3), zn_at0 (C.row (j := 5 + j) (by omega)) (by omega)]
          simp only [zq_bindE, bq_elim]
          have : j = 0 ∨ j = 1 ∨ j = 2 := by omega
          rcases this with rfl | rfl | rfl
          · rw [if_pos (show nI 0 = 0 from rfl)]; rfl
          · rw [if_neg (show ¬ nI 1 = 0 by decide), if_pos (show nI 1 = 1 from rfl)]; rfl
          · rw [if_neg (show ¬ nI 2 = 0 by decide), if_neg (show ¬ nI 2 = 1 by decide), if_pos (show nI 2 = 2 from rfl)]; rfl
        · have has : zm_has g E2 (z + 1378) M k (t.2 k) := ⟨H2, by omega, hr.1.2 k hk, hcat⟩
          show ∃ E' M', tw_X7_bridge E2 (z + 1378) (nI k) (nI i) (nI j) = some (_, E') ∧ _
          unfold tw_X7_bridge
          rw [if_pos (zq_cls H2.1), (zm_isNode H2 hr.1.1.1 hi.1.1.1 h15 (nI k)).1 qy]
          simp only [zq_bindE, zq_letE]
          rw [if_neg bq_bT, zm_o61 has]
          simp only [zq_bindE]
          rw [zm_in_eq, zm_in_eq, qx, qs]
          simp only [zq_bindE]
          rw [if_neg bq_bT, if_neg bq_bT, zm_oR has (by omega) (by omega)]
          simp only [zq_bindE]
          exact zz_tells H2 _ hr
      · have hn : ∀ c : Int32, zm_in c 0 2 = true → ¬ s = c := fun c hc e => qs (e ▸ hc)
        refine zz_bad (code := 2) hf hr ho (by decide) ?_ (zz_code_bad hm ?_)
        · unfold tw_L_bridge tw_X6_bridge
          rw [if_pos (zq_cls hf.1), (zf_requireNode hf hi.1.2.1 (nI k)).1 qy]
          simp only [zq_bindE, bq_elim, zq_letE]
          rw [hf.rT]
          simp only [zq_bindE]
          rw [zt_at hf.2.1, zt_ix_nI (by omega)]
          simp only [zq_bindE]
          rw [C.rList]
          simp only [zq_bindE]
          rw [if_neg (nI_pos (by omega)), zl_size C]
          simp only [zq_bindE]
          rw [if_neg (nI_nlt hil (by omega)), (zf_require hf).2]
          simp only [zq_bindE, bq_elim]
          rw [if_neg (hn 0 (by decide)), if_neg (hn 1 (by decide)), if_neg (hn 2 (by decide)), (zf_require hf).1]
          simp only [zq_bindE, bq_elim]
          rw [if_neg zs_ne1, if_pos True.intro]
        · show tw_X7_bridge E (z + 1378) (nI k) (nI i) s = _
          unfold tw_X7_bridge
          rw [if_pos (zq_cls hm.1), (zm_isNode hm hr.1.1.1 hi.1.1.1 h15 (nI k)).1 qy]
          simp only [zq_bindE, zq_letE]
          rw [if_neg bq_bT, zm_o61 has0]
          simp only [zq_bindE]
          rw [zm_in_eq, zm_in_eq, qx, Bool.eq_false_iff.mpr qs]
          simp only [zq_bindE]
          rw [if_neg bq_bT, if_pos bq_bF]
    · refine zz_bad (code := 2) hf hr ho (by decide) ?_ (zz_code_bad hm ?_)
      · unfold tw_L_bridge tw_X6_bridge
        rw [if_pos (zq_cls hf.1), (zf_requireNode hf hi.1.2.1 (nI k)).1 qy]
        simp only [zq_bindE, bq_elim, zq_letE]
        rw [hf.rT]
        simp only [zq_bindE]
        rw [zt_at hf.2.1, zt_ix_nI (by omega)]
        simp only [zq_bindE]
        rw [C.rList]
        simp only [zq_bindE]
        rw [(zf_require hf).1, zl_size C]
        simp only [zq_bindE, bq_elim]
        by_cases w : x < 0
        · rw [if_pos w]; simp only [zq_bindE]; rw [if_neg zs_ne1, if_pos True.intro]
        · rw [if_neg w]
          have w2 : nI ((t.2 k).2 3).length < x := Classical.byContradiction (fun w2 => qx (zm_in_iff.mpr ⟨w, w2⟩))
          rw [if_pos w2]; simp only [zq_bindE]; rw [if_neg zs_ne1, if_pos True.intro]
      · show tw_X7_bridge E (z + 1378) (nI k) x s = _
        unfold tw_X7_bridge
        rw [if_pos (zq_cls hm.1), (zm_isNode hm hr.1.1.1 hi.1.1.1 h15 (nI k)).1 qy]
        simp only [zq_bindE, zq_letE]
        rw [if_neg bq_bT, zm_o61 has0]
        simp only [zq_bindE]
        rw [zm_in_eq, Bool.eq_false_iff.mpr qx]
        simp only [zq_bindE]
        rw [if_pos bq_bF]
  · refine zz_bad (code := 1) hf hr ho (by decide) ?_ (zz_node_bad hm hi hr.1.1.1 qy (by unfold tw_X7_bridge; rw [if_pos (zq_cls hm.1)]))
    unfold tw_L_bridge tw_X6_bridge
    rw [if_pos (zq_cls hf.1), (zf_requireNode hf hi.1.2.1 y).2 qy]
    simp only [zq_bindE, bq_elim]
    rw [if_pos True.intro]
theorem zf_count (hf : zq_face g E z t u p cnt) (hi : zi_inv n t) {w : Nat} (hw : w ≤ 6) : tw_X6_count E z (nI w) = some (Sum.inl (zv_cnt t n w)) := by
  unfold tw_X6_count zv_cnt
  rw [if_pos (zq_cls hf.1), hf.rT]
  simp only [zq_bindE]
  rw [hf.2.1.int (k := 6) (by omega), hf.2.1.int (k := 7) (by omega), hf.2.1.int (k := 8) (by omega), hf.2.1.int (k := 9) (by omega), hf.2.1.int (k := 10) (by omega), zt_keysOfAll hf.2.1 hi.1.1.2 hi.1.2.1, zt_entriesOfAll hf.2.1 hi.1.1.2 hi.1.2.1]
  simp only [zq_bindE]
  have hc : w = 0 ∨ w = 1 ∨ w = 2 ∨ w = 3 ∨ w = 4 ∨ w = 5 ∨ w = 6 := by omega
  rcases hc with rfl | rfl | rfl | rfl | rfl | rfl | rfl <;> rfl
theorem zm_counted (H : zq_mod g E m M) (hi : zi_inv n t) (hr : zs_rel (M.1 1) n t) {w : Nat} (hw : w ≤ 6) : tw_X7_counted E m (nI w) = some (zv_cnt t n w) := by
  have h15 := hi.1.1.2
  obtain ⟨⟨r0, r1, r2, r3, r4, r5, r6, r7⟩, rn⟩ := hr
  have hk : ∀ k, k < n → zm_has g E m M k (t.2 k) := fun k hk => ⟨H, by omega, rn k hk, hi.cat hk⟩
  have rd0 : bq_ai E (m + 1) (0 : Int32) = some (nI n) := by
    rw [show (0 : Int32) = nI 0 from rfl, zm_ai H (j := 1) (by omega) (by show 0 < 8183; omega), r0]
  have loop5 : ∀ (N i : Nat), n - i < N → i ≤ n → tl_X7_counted_18 E m 5 N (zt_sum (fun k => zc_count (t.2 k)) i) (nI i) = some (zt_sum (fun k => zc_count (t.2 k)) n) := by
    intro N
    induction N with
    | zero => intro i h; omega
    | succ N ih =>
      intro i hn hin
      rw [tl_X7_counted_18.eq_2, zm_r1 H]
      simp only [zq_bindE]
      rw [rd0]
      simp only [zq_bindE]
      by_cases q : i < n
      · rw [if_neg (nI_ge q (by omega)), if_pos True.intro, zm_keys (hk i q) (hi.2.2.2.1 i q).2.1]
        simp only [zq_bindE, zq_letE]
        rw [nI_1]
        exact ih (i + 1) (by omega) (by omega)
      · rw [if_pos (nI_le (by omega) (by omega)), show i = n by omega]
  have loop6 : ∀ (N i : Nat), n - i < N → i ≤ n → tl_X7_counted_18 E m 6 N (zt_sum (fun k => nI ((t.2 k).2 3).length) i) (nI i) = some (zt_sum (fun k => nI ((t.2 k).2 3).length) n) := by
    intro N
    induction N with
    | zero => intro i h; omega
    | succ N ih =>
      intro i hn hin
      rw [tl_X7_counted_18.eq_2, zm_r1 H]
      simp only [zq_bindE]
      rw [rd0]
      simp only [zq_bindE]
      by_cases q : i < n
      · rw [if_neg (nI_ge q (by omega)), if_neg (show ¬ (6 : Int32) = 5 by decide), zm_o61 (hk i q)]
        simp only [zq_bindE, zq_letE]
        rw [nI_1]
        exact ih (i + 1) (by omega) (by omega)
      · rw [if_pos (nI_le (by omega) (by omega)), show i = n by omega]
  unfold tw_X7_counted zv_cnt
  rw [if_pos (zq_cls H.1)]
  have low : ∀ w, w < 5 → M.1 1 (3 + w) = t.1 (6 + w) → (if (5 : Int32) ≤ nI w then tl_X7_counted_18 E m (nI w) bq_fuel (0 : Int32) (0 : Int32) else ((bq_fr E m 7 0).bind fun v13 => (bq_ai E v13 ((3 : Int32) + nI w)).bind fun v14 => some v14)) = some (t.1 (6 + w)) := by
    intro w hw e
    rw [if_neg (show ¬ (5 : Int32) ≤ nI w from nI_ge (b := 5) hw (by omega)), zm_r1 H]
    simp only [zq_bindE]
    rw [show (3 : Int32) = nI 3 from rfl, nI_add, zm_ai H (j := 1) (by omega) (by show 3 + w < 8183; omega), e]
    rfl
  have hc : w = 0 ∨ w = 1 ∨ w = 2 ∨ w = 3 ∨ w = 4 ∨ w = 5 ∨ w = 6 := by omega
  rcases hc with rfl | rfl | rfl | rfl | rfl | rfl | rfl
  · exact low 0 (by omega) r3
  · exact low 1 (by omega) r4
  · exact low 2 (by omega) r5
  · exact low 3 (by omega) (by rw [r6, Int32.add_zero])
  · exact low 4 (by omega) r7
  · rw [if_pos (show (5 : Int32) ≤ nI 5 by decide)]
    exact loop5 bq_fuel 0 (bq_fuel_ge (by omega)) (Nat.zero_le _)
  · rw [if_pos (show (5 : Int32) ≤ nI 6 by decide)]
    exact loop6 bq_fuel 0 (bq_fuel_ge (by omega)) (Nat.zero_le _)
theorem zo_count (h : zz_E g E z) (x : Int32) : zz_turn g z (tw_L_count E z x (z + 1386)) (fun E => tw_X7_count E (z + 1378) x) := by
  obtain ⟨n, t, u, p, cnt, M, hf, hm, hr, f, ho⟩ := h
  have hi := hr.2.1
  by_cases qx : zm_in x 0 6 = true
  · obtain ⟨w, hw, rfl⟩ := zm_in_nat (N := 6) (by omega) qx
    refine zz_ok (v := zv_cnt t n w) hf zq_same.refl hm ho ?_ (n' := n) (fun E2 H2 => ?_)
    · unfold tw_L_count
      rw [zf_count hf hi hw]
      rfl
    · show ∃ E' M', tw_X7_count E2 (z + 1378) (nI w) = some (_, E') ∧ _
      unfold tw_X7_count
      rw [if_pos (zq_cls H2.1), zm_in_eq, qx]
      simp only [zq_bindE]
      rw [if_neg bq_bT, zm_counted H2 hi hr.1 hw]
      simp only [zq_bindE]
      exact zz_tells H2 _ hr
  · refine zz_bad (code := 1) hf hr ho (by decide) ?_ (zz_code_bad hm ?_)
    · unfold tw_L_count tw_X6_count
      have ne : ∀ c : Int32, zm_in c 0 6 = true → ¬ x = c := fun c hc e => qx (e ▸ hc)
      rw [if_pos (zq_cls hf.1), if_neg (ne 0 (by decide)), if_neg (ne 1 (by decide)), if_neg (ne 2 (by decide)), if_neg (ne 3 (by decide)), if_neg (ne 4 (by decide)), if_neg (ne 5 (by decide)), if_neg (ne 6 (by decide))]
      simp only [zq_bindE, bq_elim]
      rw [if_pos True.intro]
    · show tw_X7_count E (z + 1378) x = _
      unfold tw_X7_count
      rw [if_pos (zq_cls hm.1), zm_in_eq, Bool.eq_false_iff.mpr qx]
      simp only [zq_bindE]
      rw [if_pos bq_bF]
theorem zo_undo (h : zz_E g E z) : zz_turn g z (tw_L_undo E z (z + 1386)) (fun E => tw_X7_undo E (z + 1378)) := by
  obtain ⟨n, t, u, p, cnt, M, hf, hm, hr, f, ho⟩ := h
  have hi := hr.2.1
  have hc4 := hr.2.2.1.2.1
  by_cases q : cnt = 0
  · subst q
    refine zz_bad (code := 1) hf hr ho (by decide) ?_ ?_
    · unfold tw_L_undo tw_X6_undo
      rw [if_pos (zq_cls hf.1), hf.rH]
      simp only [zq_bindE]
      rw [hf.2.2.2.i2]
      simp only [zq_bindE]
      rw [if_pos (show nI 0 = 0 from rfl)]
      simp only [zq_bindE, bq_elim]
      rw [if_pos True.intro]
    · obtain ⟨E1, a1, H1, s1⟩ := zm_undo0 hm hr.2.2.1.1
      exact ⟨0, E1, a1, H1, s1⟩
  · obtain ⟨n', hi', rest⟩ := zz_undo hr hm (by omega)
    obtain ⟨E1, a1, b1, c1, s1⟩ := zh_restore hf.2.2.2 hf.2.1 (by omega) hr.2.2.1.2.2 ⟨by omega, hc4⟩ hi'.1.1.2 hi'.1.2.1
    have hs : zq_same E E1 z (z + 1378) := fun a ha => s1 a (by omega) (by omega)
    have hf1 : zq_face g E1 z (zs_copy n' (u (zh_prev p)) t) u (zh_prev p) (cnt - 1) := by
      obtain ⟨w1, w2, ⟨P, L, w, hw⟩, w4⟩ := hf
      refine ⟨(s1 z (by omega) (by omega)).trans w1, c1, ⟨P, L, w, ?_⟩, b1⟩
      refine ⟨(s1 _ (by omega) (by omega)).trans hw.1, hw.2.1.keep (s1 _ (by omega) (by omega)) (s1 _ (by omega) (by omega)), hw.2.2.keep (s1 _ (by omega) (by omega)) (s1 _ (by omega) (by omega))⟩
    refine zz_ok (v := nI (cnt - 1)) hf1 hs hm ho ?_ (n' := n') (fun E2 H2 => ?_)
    · unfold tw_L_undo tw_X6_undo
      rw [if_pos (zq_cls hf.1), hf.rH]
      simp only [zq_bindE]
      rw [hf.2.2.2.i2]
      simp only [zq_bindE]
      rw [if_neg (nI_ne0 (by omega) (by omega)), hf.rT]
      simp only [zq_bindE]
      rw [a1]
      simp only [zq_bindE]
      rw [hf1.rH]
      simp only [zq_bindE]
      rw [hf1.2.2.2.i2]
      rfl
    · obtain ⟨n2, hi2, E3, M3, a3, H3, r3, e3, s3⟩ := zz_undo hr H2 (by omega)
      have hn : n2 = n' := by
        have e1 := hi2.1.2.1
        rw [hi'.1.2.1] at e1
        have := hi2.1.1.2
        have := hi'.1.1.2
        exact ((nI_eq (by omega) (by omega)).mp e1).symm
      subst hn
      exact ⟨E3, M3, a3, H3, r3, e3, s3⟩
theorem zi_inv.sizes (h : zi_inv n t) {c st : Nat} (hc : 1 ≤ c ∧ c ≤ 8) (hst : 2 ≤ st ∧ st ≤ 5) : zi_inv n (zt_I (zt_I t 4 (nI c)) 5 (nI st)) := by
  have hw : ∀ n j, zi_w (zt_I (zt_I t 4 (nI c)) 5 (nI st)) n j = zi_w t n j := (zi_an_cint (t := t) (u := zt_I (zt_I t 4 (nI c)) 5 (nI st)) (fun _ _ => rfl)).2.2.2
  refine ⟨h.1.congr rfl (fun _ _ _ _ => rfl), ⟨c, rfl, hc⟩, ⟨st, rfl, hst⟩, h.2.2.2.1, fun j hj => (h.2.2.2.2.1 j hj).congr rfl (fun _ _ _ => rfl) rfl rfl (by rw [hw]; exact Nat.le_refl _), h.2.2.2.2.2⟩
theorem zo_setSizes (h : zz_E g E z) (y x : Int32) : zz_turn g z (tw_L_setSizes E z y x (z + 1386)) (fun E => tw_X7_setSizes E (z + 1378) y x) := by
  obtain ⟨n, t, u, p, cnt, M, hf, hm, hr, f, ho⟩ := h
  have hi := hr.2.1
  have h15 := hi.1.1.2
  by_cases qy : zm_in y 1 8 = true
  · obtain ⟨y1, y2⟩ := zm_in_iff.mp qy
    by_cases qx : zm_in x 2 5 = true
    · obtain ⟨x1, x2⟩ := zm_in_iff.mp qx
      have hyn : ∃ c, y = nI c ∧ 1 ≤ c ∧ c ≤ 8 := by
        have h0 : ¬ y < 0 := fun q => y1 (Int32.lt_trans q (by decide))
        obtain ⟨j, hj, rfl⟩ := nI_of h0
        refine ⟨j, rfl, ?_, ?_⟩
        · by_cases w : 1 ≤ j
          · exact w
          · exact absurd (nI_lt (a := j) (b := 1) (by omega) (by omega)) y1
        · by_cases w : j ≤ 8
          · exact w
          · exact absurd (nI_lt (a := 8) (b := j) (by omega) hj) y2
      have hxn : ∃ c, x = nI c ∧ 2 ≤ c ∧ c ≤ 5 := by
        have h0 : ¬ x < 0 := fun q => x1 (Int32.lt_trans q (by decide))
        obtain ⟨j, hj, rfl⟩ := nI_of h0
        refine ⟨j, rfl, ?_, ?_⟩
        · by_cases w : 2 ≤ j
          · exact w
          · exact absurd (nI_lt (a := j) (b := 2) (by omega) (by omega)) x1
        · by_cases w : j ≤ 5
          · exact w
          · exact absurd (nI_lt (a := 5) (b := j) (by omega) hj) x2
      obtain ⟨c, rfl, hc⟩ := hyn
      obtain ⟨st, rfl, hst⟩ := hxn
      obtain ⟨E2, a2, f2, s2⟩ := zf_saves hf hr
      obtain ⟨E3, a3, t3, s3⟩ := f2.2.1.intup (k := 4) (by omega) (nI c)
      obtain ⟨f3, t3'⟩ := f2.treeup t3 s3
      obtain ⟨E4, a4, t4, s4⟩ := f3.2.1.intup (k := 5) (by omega) (nI st)
      obtain ⟨f4, t4'⟩ := f3.treeup t4 s4
      refine zz_ok (v := 10 * t.1 4 + t.1 5) f4 (((s2.wide (by omega) (by omega)).trans t3').trans t4') hm ho ?_ (n' := n) (fun E5 H5 => ?_)
      · unfold tw_L_setSizes tw_X6_setSizes
        rw [if_pos (zq_cls hf.1)]
        simp only [zq_letE]
        rw [if_neg y1, if_neg y2, (zf_require hf).2]
        simp only [zq_bindE, bq_elim]
        rw [if_neg x1, if_neg x2, hf.rH, hf.rT]
        simp only [zq_bindE]
        rw [a2]
        simp only [zq_bindE]
        rw [f2.rT]
        simp only [zq_bindE]
        rw [f2.2.1.int (k := 4) (by omega), f2.2.1.int (k := 5) (by omega)]
        simp only [zq_bindE]
        rw [a3]
        simp only [zq_bindE]
        rw [f3.rT]
        simp only [zq_bindE]
        rw [a4]
        rfl
      · show ∃ E' M', tw_X7_setSizes E5 (z + 1378) (nI c) (nI st) = some (_, E') ∧ _
        unfold tw_X7_setSizes
        rw [if_pos (zq_cls H5.1), zm_in_eq, zm_in_eq, qy, qx]
        simp only [zq_bindE, zq_letE]
        rw [if_neg bq_bT, if_neg bq_bT]
        obtain ⟨E6, M6, a6, H6, h6, e6, s6⟩ := zm_holds H5
        rw [a6]
        simp only [zq_bindE]
        obtain ⟨⟨r0, r1, r2, r3, r4, r5, r6, r7⟩, rn⟩ := hr.1
        rw [zm_r1 H6, show (1 : Int32) = nI 1 from rfl, show (2 : Int32) = nI 2 from rfl]
        simp only [zq_bindE]
        rw [zm_ai H6 (j := 1) (by omega) (by show 1 < 8183; omega), zm_ai H6 (j := 1) (by omega) (by show 2 < 8183; omega), e6, r1, r2]
        simp only [zq_bindE]
        obtain ⟨E7, a7, H7, s7⟩ := zm_si H6 (j := 1) (i := 1) (by omega) (by show 1 < 8183; omega) (nI c)
        rw [a7]
        simp only [zq_bindE]
        rw [zm_r1 H7]
        simp only [zq_bindE]
        obtain ⟨E8, a8, H8, s8⟩ := zm_si H7 (j := 1) (i := 2) (by omega) (by show 2 < 8183; omega) (nI st)
        rw [a8]
        simp only [zq_bindE]
        have hh : zm_held M (zm_A (zm_A M6 1 1 (nI c)) 1 2 (nI st)) := h6.keep (by rw [zm_An (by omega), zm_An (by omega)]) (by rw [zm_An (by omega), zm_An (by omega)]) rfl
        obtain ⟨E9, M9, a9, r9⟩ := zz_ends (n' := n) (t' := zt_I (zt_I t 4 (nI c)) 5 (nI st)) hr H8 hh (by
          refine ⟨⟨?_, ?_, ?_, ?_, ?_, ?_, ?_, ?_⟩, fun j hj => ?_⟩
          · rw [zm_Aoff (by omega), zm_Aoff (by omega), e6]; exact r0
          · rw [zm_Aoff (by omega), zm_Aat]; rfl
          · rw [zm_Aat]; rfl
          · rw [zm_Aoff (by omega), zm_Aoff (by omega), e6]; exact r3
          · rw [zm_Aoff (by omega), zm_Aoff (by omega), e6]; exact r4
          · rw [zm_Aoff (by omega), zm_Aoff (by omega), e6]; exact r5
          · rw [zm_Aoff (by omega), zm_Aoff (by omega), e6]; exact r6
          · rw [zm_Aoff (by omega), zm_Aoff (by omega), e6]; exact r7
          · refine (rn j hj).keep (hi.cat hj) (fun a h1 h2 => ?_)
            have hat : zm_at j = 8 + 545 * j := rfl
            rw [zm_Aoff (by omega), zm_Aoff (by omega), e6]) (hi.sizes hc hst) (10 * t.1 4 + t.1 5)
        exact ⟨E9, M9, a9, r9.1, r9.2.1, r9.2.2.1, ((s6.trans s7).trans s8).trans r9.2.2.2⟩
    · refine zz_bad (code := 1) hf hr ho (by decide) ?_ (zz_code_bad hm ?_)
      · unfold tw_L_setSizes tw_X6_setSizes
        rw [if_pos (zq_cls hf.1)]
        simp only [zq_letE]
        rw [if_neg y1, if_neg y2, (zf_require hf).2, (zf_require hf).1]
        simp only [zq_bindE, bq_elim]
        by_cases w : x < 2
        · rw [if_pos w]; simp only [zq_bindE]; rw [if_pos True.intro]
        · rw [if_neg w]
          have w2 : (5 : Int32) < x := Classical.byContradiction (fun w2 => qx (zm_in_iff.mpr ⟨w, w2⟩))
          rw [if_pos w2]; simp only [zq_bindE]; rw [if_pos True.intro]
      · show tw_X7_setSizes E (z + 1378) y x = _
        unfold tw_X7_setSizes
        rw [if_pos (zq_cls hm.1), zm_in_eq, zm_in_eq, qy, Bool.eq_false_iff.mpr qx]
        simp only [zq_bindE, zq_letE]
        rw [if_neg bq_bT, if_pos bq_bF]
  · refine zz_bad (code := 1) hf hr ho (by decide) ?_ (zz_code_bad hm ?_)
    · unfold tw_L_setSizes tw_X6_setSizes
      rw [if_pos (zq_cls hf.1)]
      simp only [zq_letE]
      rw [(zf_require hf).1]
      simp only [zq_bindE, bq_elim]
      by_cases w : y < 1
      · rw [if_pos w]; simp only [zq_bindE]; rw [if_pos True.intro]
      · rw [if_neg w]
        have w2 : (8 : Int32) < y := Classical.byContradiction (fun w2 => qy (zm_in_iff.mpr ⟨w, w2⟩))
        rw [if_pos w2]; simp only [zq_bindE]; rw [if_pos True.intro]
    · show tw_X7_setSizes E (z + 1378) y x = _
      unfold tw_X7_setSizes
      rw [if_pos (zq_cls hm.1), zm_in_eq, Bool.eq_false_iff.mpr qy]
      simp only [zq_bindE, zq_letE]
      rw [if_pos bq_bF]
end ZoD
