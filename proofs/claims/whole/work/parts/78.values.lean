/-! Values: nodes, node, key, baseKey, bufferKey, entry, bridge, count. -/
def zv_val (v : zq_N) (w : Nat) : Int32 := if w = 0 then v.1 0 else if w = 1 then v.1 1 else if w = 2 then v.1 2 else if w = 3 then v.1 3 else if w = 4 then zc_count v else if w = 5 then nI (v.2 0).length else if w = 6 then v.1 4 else if w = 7 then nI (v.2 2).length else nI (v.2 3).length
theorem zn_keep_tot : ∀ (a m : List Nat), m.length = a.length → (∀ x ∈ m, x = 0 ∨ x = 1) → (zn_keep a m).length + zn_tot m = a.length
  | [], [], _, _ => rfl
  | [], _ :: _, h, _ => by simp at h
  | _ :: _, [], h, _ => by simp at h
  | x :: t, y :: s, h, hb => by
    have ih := zn_keep_tot t s (by simpa using h) (fun z hz => hb z (List.mem_cons_of_mem _ hz))
    rw [zn_keep_cons]
    show _ + (y + zn_tot s) = _
    rcases hb y List.mem_cons_self with q | q
    · rw [q, if_neg (by omega), List.length_cons, List.length_cons]
      omega
    · rw [q, if_pos rfl, List.length_cons]
      omega
theorem zc_count_eq {v : zq_N} (h : zi_hc v) : zc_count v = nI (zc_newbase v).length := by
  have hk := zn_keep_tot _ _ h.1.1.1 h.1.2.2.2.1
  unfold zc_count
  rw [h.2.1.2.2.2, pk_sub (by omega), nI_add, zc_nb_len]
  exact congrArg nI (by omega)
section ZoC
variable {g : bq_G} {E : bq_E} {z m n p cnt k : Nat} {M : zq_M} {t : zq_T} {u : Nat → zq_T}
theorem zz_code_bad {R : bq_E → Option (Int32 × bq_E)} {code : Int32} (H : zq_mod g E m M) (hR : R E = (tw_X7_fails E m code).bind fun v => some (v.1, v.2)) : zz_fails g E m M R code := by
  obtain ⟨E1, a1, H1, s1⟩ := zm_fails H code
  exact ⟨0, E1, by rw [hR, a1]; rfl, H1, s1⟩
theorem zz_node_bad {R : bq_E → Option (Int32 × bq_E)} {A : Option (Int32 × bq_E)} {y : Int32} (H : zq_mod g E m M) (hi : zi_inv n t) (h0 : M.1 1 0 = nI n) (qy : ¬ zf_isnode n y) (hR : R E = (tw_X7_isNode E m y).bind fun v1 => if (bq_b v1) = 0 then (tw_X7_fails E m 1).bind fun v => some (v.1, v.2) else A) : zz_fails g E m M R 1 := by
  refine zz_code_bad H (hR.trans ?_)
  rw [(zm_isNode H h0 hi.1.1.1 hi.1.1.2 y).2 qy]
  simp only [zq_bindE]
  rw [if_pos bq_bF]
theorem zm_in_nat {x : Int32} {N : Nat} (hN : N < 2 ^ 31) (h : zm_in x 0 (nI N) = true) : ∃ w, w ≤ N ∧ x = nI w := by
  obtain ⟨a, b⟩ := zm_in_iff.mp h
  obtain ⟨j, hj, rfl⟩ := nI_of a
  refine ⟨j, ?_, rfl⟩
  by_cases q : j ≤ N
  · exact q
  · exact absurd (nI_lt (a := N) (b := j) (by omega) hj) b
theorem zm_in_ok {w N : Nat} (h : w ≤ N) (hN : N < 2 ^ 31) : zm_in (nI w) 0 (nI N) = true := zm_in_iff.mpr ⟨nI_pos (by omega), nI_nlt (by omega) (by omega)⟩
theorem zf_node (hf : zq_face g E z t u p cnt) (hi : zi_inv n t) {k w : Nat} (hk : k < n) (hw : w ≤ 8) : tw_X6_node E z (nI k) (nI w) = some (Sum.inl (zv_val (t.2 k) w)) := by
  have h15 := hi.1.1.2
  have C := hf.2.1.cat (k := k) (by omega)
  unfold tw_X6_node zv_val
  rw [if_pos (zq_cls hf.1), (zf_requireNode hf hi.1.2.1 (nI k)).1 (zf_isnode_nI h15 hk)]
  simp only [zq_bindE, bq_elim]
  rw [hf.rT]
  simp only [zq_bindE]
  rw [zt_at hf.2.1, zt_ix_nI (by omega)]
  simp only [zq_bindE]
  have hc : w = 0 ∨ w = 1 ∨ w = 2 ∨ w = 3 ∨ w = 4 ∨ w = 5 ∨ w = 6 ∨ w = 7 ∨ w = 8 := by omega
  rcases hc with rfl | rfl | rfl | rfl | rfl | rfl | rfl | rfl | rfl
  · rw [if_pos (show nI 0 = 0 from rfl), C.int (k := 0) (by omega)]; rfl
  · rw [if_neg (show ¬ nI 1 = 0 by decide), if_pos (show nI 1 = 1 from rfl), C.int (k := 1) (by omega)]; rfl
  · rw [if_neg (show ¬ nI 2 = 0 by decide), if_neg (show ¬ nI 2 = 1 by decide), if_pos (show nI 2 = 2 from rfl), C.int (k := 2) (by omega)]; rfl
  · rw [if_neg (show ¬ nI 3 = 0 by decide), if_neg (show ¬ nI 3 = 1 by decide), if_neg (show ¬ nI 3 = 2 by decide), if_pos (show nI 3 = 3 from rfl), C.int (k := 3) (by omega)]; rfl
  · rw [if_neg (show ¬ nI 4 = 0 by decide), if_neg (show ¬ nI 4 = 1 by decide), if_neg (show ¬ nI 4 = 2 by decide), if_neg (show ¬ nI 4 = 3 by decide), if_pos (show nI 4 = 4 from rfl), zc_keyCount C]; rfl
  · rw [if_neg (show ¬ nI 5 = 0 by decide), if_neg (show ¬ nI 5 = 1 by decide), if_neg (show ¬ nI 5 = 2 by decide), if_neg (show ¬ nI 5 = 3 by decide), if_neg (show ¬ nI 5 = 4 by decide), if_pos (show nI 5 = 5 from rfl), C.rBase]
    simp only [zq_bindE]
    rw [zn_size C.base]; rfl
  · rw [if_neg (show ¬ nI 6 = 0 by decide), if_neg (show ¬ nI 6 = 1 by decide), if_neg (show ¬ nI 6 = 2 by decide), if_neg (show ¬ nI 6 = 3 by decide), if_neg (show ¬ nI 6 = 4 by decide), if_neg (show ¬ nI 6 = 5 by decide), if_pos (show nI 6 = 6 from rfl), C.int (k := 4) (by omega)]; rfl
  · rw [if_neg (show ¬ nI 7 = 0 by decide), if_neg (show ¬ nI 7 = 1 by decide), if_neg (show ¬ nI 7 = 2 by decide), if_neg (show ¬ nI 7 = 3 by decide), if_neg (show ¬ nI 7 = 4 by decide), if_neg (show ¬ nI 7 = 5 by decide), if_neg (show ¬ nI 7 = 6 by decide), if_pos (show nI 7 = 7 from rfl), C.rBuf]
    simp only [zq_bindE]
    rw [zn_size C.buf]; rfl
  · rw [if_neg (show ¬ nI 8 = 0 by decide), if_neg (show ¬ nI 8 = 1 by decide), if_neg (show ¬ nI 8 = 2 by decide), if_neg (show ¬ nI 8 = 3 by decide), if_neg (show ¬ nI 8 = 4 by decide), if_neg (show ¬ nI 8 = 5 by decide), if_neg (show ¬ nI 8 = 6 by decide), if_neg (show ¬ nI 8 = 7 by decide), if_pos (show nI 8 = 8 from rfl), C.rList]
    simp only [zq_bindE]
    rw [zl_size C]; rfl
theorem zm_value (H : zq_mod g E m M) (hi : zi_inv n t) (hN : zs_ok M n t) {k w : Nat} (hk : k < n) (hw : w ≤ 8) : ∃ E' M', tw_X7_value E m (nI k) (nI w) = some (zv_val (t.2 k) w, E') ∧ zq_mod g E' m M' ∧ zm_scr M M' ∧ zq_same E E' m (m + 8) := by
  have h15 := hi.1.1.2
  have has : zm_has g E m M k (t.2 k) := ⟨H, by omega, hN k hk, hi.cat hk⟩
  have hc := hi.2.2.2.1 k hk
  have stay : ∀ v : Int32, v = zv_val (t.2 k) w → ∃ E' M', (some (v, E) : Option (Int32 × bq_E)) = some (zv_val (t.2 k) w, E') ∧ zq_mod g E' m M' ∧ zm_scr M M' ∧ zq_same E E' m (m + 8) := fun v hv => ⟨E, M, by rw [hv], H, zm_scr.refl, zq_same.refl⟩
  unfold tw_X7_value
  rw [if_pos (zq_cls H.1)]
  have hcs : w = 0 ∨ w = 1 ∨ w = 2 ∨ w = 3 ∨ w = 4 ∨ w = 5 ∨ w = 6 ∨ w = 7 ∨ w = 8 := by omega
  rcases hcs with rfl | rfl | rfl | rfl | rfl | rfl | rfl | rfl | rfl
  · rw [if_pos (show nI 0 = 0 from rfl), show nI 0 = 0 from rfl, zm_o0 has]
    simp only [zq_bindE]
    exact stay _ rfl
  · rw [if_neg (show ¬ nI 1 = 0 by decide), if_pos (show nI 1 = 1 from rfl), show nI 1 = 1 from rfl, zm_o1 has]
    simp only [zq_bindE]
    exact stay _ rfl
  · rw [if_neg (show ¬ nI 2 = 0 by decide), if_neg (show ¬ nI 2 = 1 by decide), if_pos (show nI 2 = 2 from rfl), show nI 2 = 2 from rfl, zm_o2 has]
    simp only [zq_bindE]
    exact stay _ rfl
  · rw [if_neg (show ¬ nI 3 = 0 by decide), if_neg (show ¬ nI 3 = 1 by decide), if_neg (show ¬ nI 3 = 2 by decide), if_pos (show nI 3 = 3 from rfl)]
    unfold tw_X7_depth
    rw [if_pos (zq_cls H.1)]
    obtain ⟨E1, M1, a1, H1, b1, c1, sc1, d1, e1, s1⟩ := zm_laid H hi.1 hN hk
    rw [a1]
    simp only [zq_bindE]
    rw [zm_i7 H1, b1]
    simp only [zq_bindE]
    have e : nI (zw_path t (zt_d t k + 1) k []).length - 1 = zv_val (t.2 k) 3 := by
      have := zw_P_len t k
      unfold zw_P at this
      rw [this, nI_pred]
      exact (hi.1.d3 hk).symm
    rw [e]
    exact ⟨E1, M1, rfl, H1, sc1, s1⟩
  · rw [if_neg (show ¬ nI 4 = 0 by decide), if_neg (show ¬ nI 4 = 1 by decide), if_neg (show ¬ nI 4 = 2 by decide), if_neg (show ¬ nI 4 = 3 by decide), if_pos (show nI 4 = 4 from rfl), zm_keys has hc.2.1]
    simp only [zq_bindE]
    exact stay _ rfl
  · rw [if_neg (show ¬ nI 5 = 0 by decide), if_neg (show ¬ nI 5 = 1 by decide), if_neg (show ¬ nI 5 = 2 by decide), if_neg (show ¬ nI 5 = 3 by decide), if_neg (show ¬ nI 5 = 4 by decide), if_pos (show nI 5 = 5 from rfl), zm_o3 has]
    simp only [zq_bindE]
    exact stay _ rfl
  · rw [if_neg (show ¬ nI 6 = 0 by decide), if_neg (show ¬ nI 6 = 1 by decide), if_neg (show ¬ nI 6 = 2 by decide), if_neg (show ¬ nI 6 = 3 by decide), if_neg (show ¬ nI 6 = 4 by decide), if_neg (show ¬ nI 6 = 5 by decide), if_pos (show nI 6 = 6 from rfl), zm_marked has]
    simp only [zq_bindE]
    exact stay _ hc.2.1.2.2.2.symm
  · rw [if_neg (show ¬ nI 7 = 0 by decide), if_neg (show ¬ nI 7 = 1 by decide), if_neg (show ¬ nI 7 = 2 by decide), if_neg (show ¬ nI 7 = 3 by decide), if_neg (show ¬ nI 7 = 4 by decide), if_neg (show ¬ nI 7 = 5 by decide), if_neg (show ¬ nI 7 = 6 by decide), if_pos (show nI 7 = 7 from rfl), zm_o52 has]
    simp only [zq_bindE]
    exact stay _ rfl
  · rw [if_neg (show ¬ nI 8 = 0 by decide), if_neg (show ¬ nI 8 = 1 by decide), if_neg (show ¬ nI 8 = 2 by decide), if_neg (show ¬ nI 8 = 3 by decide), if_neg (show ¬ nI 8 = 4 by decide), if_neg (show ¬ nI 8 = 5 by decide), if_neg (show ¬ nI 8 = 6 by decide), if_neg (show ¬ nI 8 = 7 by decide), zm_o61 has]
    simp only [zq_bindE]
    exact stay _ rfl
theorem zo_node (h : zz_E g E z) (y x : Int32) : zz_turn g z (tw_L_node E z y x (z + 1386)) (fun E => tw_X7_node E (z + 1378) y x) := by
  obtain ⟨n, t, u, p, cnt, M, hf, hm, hr, f, ho⟩ := h
  have hi := hr.2.1
  have h15 := hi.1.1.2
  by_cases qy : zf_isnode n y
  · obtain ⟨k, hk, rfl⟩ := zf_isnode_nat h15 qy
    by_cases qx : zm_in x 0 8 = true
    · obtain ⟨w, hw, rfl⟩ := zm_in_nat (N := 8) (by omega) qx
      refine zz_ok (v := zv_val (t.2 k) w) hf zq_same.refl hm ho ?_ (n' := n) (fun E2 H2 => ?_)
      · unfold tw_L_node
        rw [zf_node hf hi hk hw]
        rfl
      · obtain ⟨E3, M3, a3, H3, c3, s3⟩ := zm_value H2 hi hr.1.2 hk hw
        show ∃ E' M', tw_X7_node E2 (z + 1378) (nI k) (nI w) = some (_, E') ∧ _
        unfold tw_X7_node
        rw [if_pos (zq_cls H2.1), (zm_isNode H2 hr.1.1.1 hi.1.1.1 h15 (nI k)).1 qy]
        simp only [zq_bindE]
        rw [if_neg bq_bT, zm_in_eq, qx]
        simp only [zq_bindE]
        rw [if_neg bq_bT, a3]
        simp only [zq_bindE]
        obtain ⟨E6, M6, a6, r6⟩ := zz_tells H3 (zv_val (t.2 k) w) (hr.scr c3)
        exact ⟨E6, M6, a6, r6.1, r6.2.1, r6.2.2.1, s3.trans r6.2.2.2⟩
    · refine zz_bad (code := 2) hf hr ho (by decide) ?_ (zz_code_bad hm ?_)
      · unfold tw_L_node tw_X6_node
        rw [if_pos (zq_cls hf.1), (zf_requireNode hf hi.1.2.1 (nI k)).1 qy]
        simp only [zq_bindE, bq_elim]
        rw [hf.rT]
        simp only [zq_bindE]
        rw [zt_at hf.2.1]
        simp only [zq_bindE]
        have ne : ∀ c : Int32, zm_in c 0 8 = true → ¬ x = c := fun c hc e => qx (e ▸ hc)
        rw [if_neg (ne 0 (by decide)), if_neg (ne 1 (by decide)), if_neg (ne 2 (by decide)), if_neg (ne 3 (by decide)), if_neg (ne 4 (by decide)), if_neg (ne 5 (by decide)), if_neg (ne 6 (by decide)), if_neg (ne 7 (by decide)), if_neg (ne 8 (by decide))]
        simp only [zq_bindE, bq_elim]
        rw [if_neg zs_ne1, if_pos True.intro]
      · show tw_X7_node E (z + 1378) (nI k) x = _
        unfold tw_X7_node
        rw [if_pos (zq_cls hm.1), (zm_isNode hm hr.1.1.1 hi.1.1.1 h15 (nI k)).1 qy]
        simp only [zq_bindE]
        rw [if_neg bq_bT, zm_in_eq, Bool.eq_false_iff.mpr qx]
        simp only [zq_bindE]
        rw [if_pos bq_bF]
  · refine zz_bad (code := 1) hf hr ho (by decide) ?_ (zz_node_bad hm hi hr.1.1.1 qy (by unfold tw_X7_node; rw [if_pos (zq_cls hm.1)]))
    unfold tw_L_node tw_X6_node
    rw [if_pos (zq_cls hf.1), (zf_requireNode hf hi.1.2.1 y).2 qy]
    simp only [zq_bindE, bq_elim]
    rw [if_pos True.intro]
theorem zm_key34 (H : zm_has g E m M k (t.2 k)) (hc : zi_hc (t.2 k)) {i : Nat} (hi : i < 2 ^ 31) : ∀ (N j : Nat), (zc_newbase (t.2 k)).length - j < N → j ≤ (zc_newbase (t.2 k)).length → j ≤ i → tl_X7_key_34 E m (nI k) (nI i) N (zn_enc ((zc_newbase (t.2 k)).getD j 10000)) (nI j) = (tw_X7_tells E m (zn_enc ((zc_newbase (t.2 k)).getD i 10000))).bind fun v => some (v.1, v.2) := by
  have h24 := zc_nb_24 hc
  intro N
  induction N with
  | zero => intro j h; omega
  | succ N ih =>
    intro j hn hj hji
    rw [tl_X7_key_34.eq_2]
    by_cases q : i ≤ j
    · have : i = j := by omega
      subst this
      rw [if_pos (nI_le (Nat.le_refl _) hi)]
    · rw [if_neg (nI_ge (by omega) hi)]
      by_cases q2 : j < (zc_newbase (t.2 k)).length
      · have hlt := zc_nb_lt hc _ (List.getElem_mem q2)
        have hgd : (zc_newbase (t.2 k)).getD j 10000 < 10000 := by rw [zn_gD q2]; exact hlt
        have e : zn_enc ((zc_newbase (t.2 k)).getD j 10000) = nI ((zc_newbase (t.2 k)).getD j 10000) := by
          unfold zn_enc; rw [if_neg (by omega)]
        rw [e, if_neg (zn_m1 (by omega)), nI_1, zm_next H hc.2.1 (by omega), zc_next_s hc q2]
        simp only [zq_bindE, zq_letE]
        rw [nI_1]
        exact ih (j + 1) (by omega) (by omega) (by omega)
      · have e : zn_enc ((zc_newbase (t.2 k)).getD j 10000) = -1 := by
          rw [zn_gD_top (by omega)]; rfl
        have e2 : zn_enc ((zc_newbase (t.2 k)).getD i 10000) = -1 := by
          rw [zn_gD_top (by omega)]; rfl
        rw [e, e2, if_pos rfl]
theorem zo_key (h : zz_E g E z) (y x : Int32) : zz_turn g z (tw_L_key E z y x (z + 1386)) (fun E => tw_X7_key E (z + 1378) y x) := by
  obtain ⟨n, t, u, p, cnt, M, hf, hm, hr, f, ho⟩ := h
  have hi := hr.2.1
  have h15 := hi.1.1.2
  by_cases qy : zf_isnode n y
  · obtain ⟨k, hk, rfl⟩ := zf_isnode_nat h15 qy
    by_cases qx : x < 0
    · refine zz_bad (code := 2) hf hr ho (by decide) ?_ (zz_code_bad hm ?_)
      · unfold tw_L_key tw_X6_key
        rw [if_pos (zq_cls hf.1), (zf_requireNode hf hi.1.2.1 (nI k)).1 qy]
        simp only [zq_bindE, bq_elim, zq_letE]
        rw [if_pos qx, (zf_require hf).1]
        simp only [zq_bindE, bq_elim]
        rw [if_neg zs_ne1, if_pos True.intro]
      · show tw_X7_key E (z + 1378) (nI k) x = _
        unfold tw_X7_key
        rw [if_pos (zq_cls hm.1), (zm_isNode hm hr.1.1.1 hi.1.1.1 h15 (nI k)).1 qy]
        simp only [zq_bindE]
        rw [if_neg bq_bT, if_neg (show ¬ 0 ≤ x from Int32.not_le.mpr qx)]
    · obtain ⟨i, hi31, rfl⟩ := nI_of qx
      have C := hf.2.1.cat (k := k) (by omega)
      have hc := hi.2.2.2.1 k hk
      have h24 := zc_nb_24 hc
      have hnn := zc_count_eq hc
      have hko := zc_keyInOrder C hc.1.1.1 hi31 hnn (by omega)
      have hval : (if i < (zc_newbase (t.2 k)).length then nI (zc_iter (t.2 k) i 0) else -1) = zn_enc ((zc_newbase (t.2 k)).getD i 10000) := by
        by_cases w : i < (zc_newbase (t.2 k)).length
        · have := zc_iter_eq hc i 0 (by omega) 0 (zc_next_0 hc)
          rw [if_pos w, this, Nat.zero_add]
          have hlt := zc_nb_lt hc _ (List.getElem_mem w)
          unfold zn_enc
          rw [zn_gD w, if_neg (by omega)]
        · rw [if_neg w, zn_gD_top (by omega)]; rfl
      rw [hval] at hko
      refine zz_ok (v := zn_enc ((zc_newbase (t.2 k)).getD i 10000)) hf zq_same.refl hm ho ?_ (n' := n) (fun E2 H2 => ?_)
      · unfold tw_L_key tw_X6_key
        rw [if_pos (zq_cls hf.1), (zf_requireNode hf hi.1.2.1 (nI k)).1 qy]
        simp only [zq_bindE, bq_elim, zq_letE]
        rw [if_neg qx, (zf_require hf).2]
        simp only [zq_bindE, bq_elim]
        rw [hf.rT]
        simp only [zq_bindE]
        rw [zt_at hf.2.1, zt_ix_nI (by omega)]
        simp only [zq_bindE]
        rw [hko]
        rfl
      · have has : zm_has g E2 (z + 1378) M k (t.2 k) := ⟨H2, by omega, hr.1.2 k hk, hi.cat hk⟩
        show ∃ E' M', tw_X7_key E2 (z + 1378) (nI k) (nI i) = some (_, E') ∧ _
        unfold tw_X7_key
        rw [if_pos (zq_cls H2.1), (zm_isNode H2 hr.1.1.1 hi.1.1.1 h15 (nI k)).1 qy]
        simp only [zq_bindE]
        rw [if_neg bq_bT, if_pos (nI_pos' hi31), show (0 : Int32) = nI 0 from rfl, zm_next has hc.2.1 (by omega), zc_next_0 hc]
        simp only [zq_bindE]
        rw [zm_key34 has hc hi31 bq_fuel 0 (bq_fuel_ge (by omega)) (Nat.zero_le _) (Nat.zero_le _)]
        exact zz_tells H2 _ hr
  · refine zz_bad (code := 1) hf hr ho (by decide) ?_ (zz_node_bad hm hi hr.1.1.1 qy (by unfold tw_X7_key; rw [if_pos (zq_cls hm.1)]))
    unfold tw_L_key tw_X6_key
    rw [if_pos (zq_cls hf.1), (zf_requireNode hf hi.1.2.1 y).2 qy]
    simp only [zq_bindE, bq_elim]
    rw [if_pos True.intro]
def zv_base (v : zq_N) (i : Nat) : Int32 := if (v.2 1).getD i 0 = 1 then zn_gM (v.2 0) i + 10000 else zn_gM (v.2 0) i
theorem zf_baseKey (hf : zq_face g E z t u p cnt) (hi : zi_inv n t) {k i : Nat} (hk : k < n) (h31 : i < 2 ^ 31) : tw_X6_baseKey E z (nI k) (nI i) = some (Sum.inl (zv_base (t.2 k) i)) := by
  have h15 := hi.1.1.2
  have C := hf.2.1.cat (k := k) (by omega)
  unfold tw_X6_baseKey zv_base
  rw [if_pos (zq_cls hf.1), (zf_requireNode hf hi.1.2.1 (nI k)).1 (zf_isnode_nI h15 hk)]
  simp only [zq_bindE, bq_elim, zq_letE]
  rw [if_neg (nI_pos h31), (zf_require hf).2]
  simp only [zq_bindE, bq_elim]
  rw [hf.rT]
  simp only [zq_bindE]
  rw [zt_at hf.2.1, zt_ix_nI (by omega)]
  simp only [zq_bindE]
  rw [C.rBase]
  simp only [zq_bindE]
  rw [zn_atMn C.base h31, zc_isMarked C h31]
  simp only [zq_bindE]
  by_cases q : ((t.2 k).2 1).getD i 0 = 1
  · rw [decide_eq_true q, if_neg bq_bT, if_pos q]
  · rw [decide_eq_false q, if_pos bq_bF, if_neg q]
theorem zm_baseOf (H : zm_has g E m M k (t.2 k)) {i : Nat} (hi : i < ((t.2 k).2 0).length) : tw_X7_baseOf E m (nI k) (nI i) = some (zv_base (t.2 k) i) := by
  have hl := H.2.2.2.1
  unfold tw_X7_baseOf zv_base
  rw [if_pos (zq_cls H.1.1), zm_oB H hi]
  simp only [zq_bindE]
  rw [zm_oM H hi]
  simp only [zq_bindE]
  have e : zn_gM ((t.2 k).2 0) i = nI (((t.2 k).2 0).getD i 0) := by
    unfold zn_gM; rw [List.getElem?_eq_getElem hi, zn_gD hi]
  have h1 : i < ((t.2 k).2 1).length := by omega
  rw [e, zn_gD h1]
  rcases H.2.2.2.2.2.2.2.2.1 _ (List.getElem_mem h1) with q | q
  · rw [q, if_neg (show ¬ nI 0 = 1 by decide), if_neg (by omega), Int32.add_zero]
  · rw [q, if_pos (show nI 1 = 1 from rfl), if_pos rfl]
theorem zo_baseKey (h : zz_E g E z) (y x : Int32) : zz_turn g z (tw_L_baseKey E z y x (z + 1386)) (fun E => tw_X7_baseKey E (z + 1378) y x) := by
  obtain ⟨n, t, u, p, cnt, M, hf, hm, hr, f, ho⟩ := h
  have hi := hr.2.1
  have h15 := hi.1.1.2
  by_cases qy : zf_isnode n y
  · obtain ⟨k, hk, rfl⟩ := zf_isnode_nat h15 qy
    by_cases qx : x < 0
    · refine zz_bad (code := 2) hf hr ho (by decide) ?_ (zz_code_bad hm ?_)
      · unfold tw_L_baseKey tw_X6_baseKey
        rw [if_pos (zq_cls hf.1), (zf_requireNode hf hi.1.2.1 (nI k)).1 qy]
        simp only [zq_bindE, bq_elim, zq_letE]
        rw [if_pos qx, (zf_require hf).1]
        simp only [zq_bindE, bq_elim]
        rw [if_neg zs_ne1, if_pos True.intro]
      · show tw_X7_baseKey E (z + 1378) (nI k) x = _
        unfold tw_X7_baseKey
        rw [if_pos (zq_cls hm.1), (zm_isNode hm hr.1.1.1 hi.1.1.1 h15 (nI k)).1 qy]
        simp only [zq_bindE]
        rw [if_neg bq_bT, if_neg (show ¬ 0 ≤ x from Int32.not_le.mpr qx)]
    · obtain ⟨i, hi31, rfl⟩ := nI_of qx
      have hl := (hi.cat hk).1
      refine zz_ok (v := zv_base (t.2 k) i) hf zq_same.refl hm ho ?_ (n' := n) (fun E2 H2 => ?_)
      · unfold tw_L_baseKey
        rw [zf_baseKey hf hi hk hi31]
        rfl
      · have has : zm_has g E2 (z + 1378) M k (t.2 k) := ⟨H2, by omega, hr.1.2 k hk, hi.cat hk⟩
        show ∃ E' M', tw_X7_baseKey E2 (z + 1378) (nI k) (nI i) = some (_, E') ∧ _
        unfold tw_X7_baseKey
        rw [if_pos (zq_cls H2.1), (zm_isNode H2 hr.1.1.1 hi.1.1.1 h15 (nI k)).1 qy]
        simp only [zq_bindE]
        rw [if_neg bq_bT, if_pos (nI_pos' hi31), zm_o3 has]
        simp only [zq_bindE]
        by_cases w : i < ((t.2 k).2 0).length
        · rw [if_neg (nI_ge w (by omega)), zm_baseOf has w]
          simp only [zq_bindE]
          exact zz_tells H2 _ hr
        · have e : zv_base (t.2 k) i = -1 := by
            unfold zv_base zn_gM
            rw [List.getElem?_eq_none (by omega)]
            have : ((t.2 k).2 1).getD i 0 = 0 := by simp [List.getD, List.getElem?_eq_none (show ((t.2 k).2 1).length ≤ i by omega)]
            rw [this, if_neg (by omega)]
          rw [if_pos (nI_le (by omega) hi31), e]
          exact zz_tells H2 _ hr
  · refine zz_bad (code := 1) hf hr ho (by decide) ?_ (zz_node_bad hm hi hr.1.1.1 qy (by unfold tw_X7_baseKey; rw [if_pos (zq_cls hm.1)]))
    unfold tw_L_baseKey tw_X6_baseKey
    rw [if_pos (zq_cls hf.1), (zf_requireNode hf hi.1.2.1 y).2 qy]
    simp only [zq_bindE, bq_elim]
    rw [if_pos True.intro]
theorem zf_bufferKey (hf : zq_face g E z t u p cnt) (hi : zi_inv n t) {k i : Nat} (hk : k < n) (h31 : i < 2 ^ 31) : tw_X6_bufferKey E z (nI k) (nI i) = some (Sum.inl (zn_gM ((t.2 k).2 2) i)) := by
  have h15 := hi.1.1.2
  have C := hf.2.1.cat (k := k) (by omega)
  unfold tw_X6_bufferKey
  rw [if_pos (zq_cls hf.1), (zf_requireNode hf hi.1.2.1 (nI k)).1 (zf_isnode_nI h15 hk)]
  simp only [zq_bindE, bq_elim, zq_letE]
  rw [if_neg (nI_pos h31), (zf_require hf).2]
  simp only [zq_bindE, bq_elim]
  rw [hf.rT]
  simp only [zq_bindE]
  rw [zt_at hf.2.1, zt_ix_nI (by omega)]
  simp only [zq_bindE]
  rw [C.rBuf]
  simp only [zq_bindE]
  rw [zn_atMn C.buf h31]
  rfl
theorem zn_gM_in {xs : List Nat} {i : Nat} (h : i < xs.length) : zn_gM xs i = nI (xs.getD i 0) := by
  unfold zn_gM; rw [List.getElem?_eq_getElem h, zn_gD h]
theorem zn_gM_out {xs : List Nat} {i : Nat} (h : xs.length ≤ i) : zn_gM xs i = -1 := by
  unfold zn_gM; rw [List.getElem?_eq_none h]
theorem zo_bufferKey (h : zz_E g E z) (y x : Int32) : zz_turn g z (tw_L_bufferKey E z y x (z + 1386)) (fun E => tw_X7_bufferKey E (z + 1378) y x) := by
  obtain ⟨n, t, u, p, cnt, M, hf, hm, hr, f, ho⟩ := h
  have hi := hr.2.1
  have h15 := hi.1.1.2
  by_cases qy : zf_isnode n y
  · obtain ⟨k, hk, rfl⟩ := zf_isnode_nat h15 qy
    by_cases qx : x < 0
    · refine zz_bad (code := 2) hf hr ho (by decide) ?_ (zz_code_bad hm ?_)
      · unfold tw_L_bufferKey tw_X6_bufferKey
        rw [if_pos (zq_cls hf.1), (zf_requireNode hf hi.1.2.1 (nI k)).1 qy]
        simp only [zq_bindE, bq_elim, zq_letE]
        rw [if_pos qx, (zf_require hf).1]
        simp only [zq_bindE, bq_elim]
        rw [if_neg zs_ne1, if_pos True.intro]
      · show tw_X7_bufferKey E (z + 1378) (nI k) x = _
        unfold tw_X7_bufferKey
        rw [if_pos (zq_cls hm.1), (zm_isNode hm hr.1.1.1 hi.1.1.1 h15 (nI k)).1 qy]
        simp only [zq_bindE]
        rw [if_neg bq_bT, if_neg (show ¬ 0 ≤ x from Int32.not_le.mpr qx)]
    · obtain ⟨i, hi31, rfl⟩ := nI_of qx
      have hl := (hi.cat hk).2.1
      refine zz_ok (v := zn_gM ((t.2 k).2 2) i) hf zq_same.refl hm ho ?_ (n' := n) (fun E2 H2 => ?_)
      · unfold tw_L_bufferKey
        rw [zf_bufferKey hf hi hk hi31]
        rfl
      · have has : zm_has g E2 (z + 1378) M k (t.2 k) := ⟨H2, by omega, hr.1.2 k hk, hi.cat hk⟩
        show ∃ E' M', tw_X7_bufferKey E2 (z + 1378) (nI k) (nI i) = some (_, E') ∧ _
        unfold tw_X7_bufferKey
        rw [if_pos (zq_cls H2.1), (zm_isNode H2 hr.1.1.1 hi.1.1.1 h15 (nI k)).1 qy]
        simp only [zq_bindE]
        rw [if_neg bq_bT, if_pos (nI_pos' hi31), zm_o52 has]
        simp only [zq_bindE]
        by_cases w : i < ((t.2 k).2 2).length
        · rw [if_neg (nI_ge w (by omega)), zm_oF has w, zn_gM_in w]
          simp only [zq_bindE]
          exact zz_tells H2 _ hr
        · rw [if_pos (nI_le (by omega) hi31), zn_gM_out (by omega)]
          exact zz_tells H2 _ hr
  · refine zz_bad (code := 1) hf hr ho (by decide) ?_ (zz_node_bad hm hi hr.1.1.1 qy (by unfold tw_X7_bufferKey; rw [if_pos (zq_cls hm.1)]))
    unfold tw_L_bufferKey tw_X6_bufferKey
    rw [if_pos (zq_cls hf.1), (zf_requireNode hf hi.1.2.1 y).2 qy]
    simp only [zq_bindE, bq_elim]
    rw [if_pos True.intro]
end ZoC
