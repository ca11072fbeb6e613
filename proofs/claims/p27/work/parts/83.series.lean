/-! addSeries, rebuildAll. -/
def zs_ser (st k dif : Nat) : Nat → Nat → zq_T → Nat × zq_T
  | 0, _, t => (0, t)
  | r + 1, key, t => if 10000 ≤ key ∨ 24 ≤ (zc_newbase (t.2 k)).length then (0, t) else
    ((if zc_has (t.2 k) key = true then 0 else 1) + (zs_ser st k dif r (key + dif) (zt_takeIn st k key t).2).1, (zs_ser st k dif r (key + dif) (zt_takeIn st k key t).2).2)
section ZoF
variable {g : bq_G} {E : bq_E} {z m n st k p cnt : Nat} {M : zq_M} {t : zq_T} {u : Nat → zq_T}
theorem zc_full24 {v : zq_N} (hc : zi_hc v) : (zc_count v < 24 ↔ ¬ 24 ≤ (zc_newbase v).length) ∧ ((24 : Int32) ≤ zc_count v ↔ 24 ≤ (zc_newbase v).length) := by
  have h24 := zc_nb_24 hc
  have e := zc_count_eq hc
  have h1 : nI (zc_newbase v).length < nI 24 ↔ (zc_newbase v).length < 24 := nI_ltI (by omega) (by omega)
  have h2 : nI 24 ≤ nI (zc_newbase v).length ↔ 24 ≤ (zc_newbase v).length := nI_leI (by omega) (by omega)
  rw [e]
  exact ⟨h1.trans ⟨fun q => by omega, fun q => by omega⟩, h2⟩
theorem zf_ser (hk : k < n) (hst : 2 ≤ st ∧ st ≤ 5) {dif many : Nat} (hd : dif ≤ 999) (hm : many ≤ 24) : ∀ (r i key taken : Nat) (N : Nat) (E : bq_E) (t : zq_T), r + i = many → r < N → key ≤ 10999 → zq_face g E z t u p cnt → zi_inv n t → t.1 5 = nI st →
    ∃ E', tl_X6_addSeries_73 z (nI k) (nI dif) (nI many) N (nI key) (nI taken) (nI i) E = some (Sum.inl (nI (taken + (zs_ser st k dif r key t).1)), E') ∧ zq_face g E' z (zs_ser st k dif r key t).2 u p cnt ∧ zi_inv n (zs_ser st k dif r key t).2 ∧ zq_same E E' z (z + 1378) := by
  intro r
  induction r with
  | zero =>
    intro i key taken N E t hr hN hkey hf hi h5
    obtain ⟨N, rfl⟩ : ∃ N', N = N' + 1 := ⟨N - 1, by omega⟩
    rw [tl_X6_addSeries_73.eq_2, if_pos (nI_le (by omega) (by omega))]
    exact ⟨E, rfl, hf, hi, zq_same.refl⟩
  | succ r ih =>
    intro i key taken N E t hr hN hkey hf hi h5
    obtain ⟨N, rfl⟩ : ∃ N', N = N' + 1 := ⟨N - 1, by omega⟩
    have h15 := hi.1.1.2
    have hc := hi.2.2.2.1 k hk
    obtain ⟨fl1, fl2⟩ := zc_full24 hc
    have C := hf.2.1.cat (k := k) (by omega)
    rw [tl_X6_addSeries_73.eq_2, if_neg (nI_ge (by omega) (by omega))]
    unfold zs_ser
    by_cases q1 : 10000 ≤ key
    · rw [if_pos (show (10000 : Int32) ≤ nI key from nI_le (a := 10000) q1 (by omega)), if_pos (Or.inl q1)]
      exact ⟨E, rfl, hf, hi, zq_same.refl⟩
    · rw [if_neg (show ¬ (10000 : Int32) ≤ nI key from nI_ge (b := 10000) (by omega) (by omega)), hf.rT]
      simp only [zq_bindE]
      rw [zt_at hf.2.1, zt_ix_nI (by omega)]
      simp only [zq_bindE]
      rw [zc_isFull C]
      simp only [zq_bindE]
      by_cases q2 : 24 ≤ (zc_newbase (t.2 k)).length
      · rw [decide_eq_false (fun w => fl1.mp w q2), if_neg (show ¬ bq_b (!false) = 0 from bq_bT), if_pos (Or.inr q2)]
        exact ⟨E, rfl, hf, hi, zq_same.refl⟩
      · rw [decide_eq_true (fl1.mpr q2), if_pos (show bq_b (!true) = 0 from bq_bF), if_neg (fun w => w.elim q1 q2)]
        obtain ⟨E1, a1, f1, s1⟩ := zf_takeIn hf hi hk h5 hst (key := key) (by omega) (fun _ => by omega)
        obtain ⟨hinv, _, _, _, h5'⟩ := zt_take_inv hi hk h5 hst (key := key) (by omega) (fun _ => by omega)
        rw [a1]
        simp only [zq_bindE, zq_letE]
        rw [nI_add, nI_1, nI_1]
        cases hh : zc_has (t.2 k) key with
        | true =>
          rw [if_pos (show bq_b (!true) = 0 from bq_bF), if_pos rfl]
          obtain ⟨E2, a2, f2, i2, s2⟩ := ih (i + 1) (key + dif) taken N E1 _ (by omega) (by omega) (by omega) f1 hinv h5'
          refine ⟨E2, ?_, f2, i2, s1.trans s2⟩
          rw [a2, Nat.zero_add]
        | false =>
          rw [if_neg (show ¬ bq_b (!false) = 0 from bq_bT), if_neg (show ¬ false = true by decide)]
          obtain ⟨E2, a2, f2, i2, s2⟩ := ih (i + 1) (key + dif) (taken + 1) N E1 _ (by omega) (by omega) (by omega) f1 hinv h5'
          refine ⟨E2, ?_, f2, i2, s1.trans s2⟩
          rw [a2, Nat.add_assoc]
/-- the sum of what is built -/
theorem zi_up_sum : ∀ (d k a : Nat) (t : zq_T), zi_bu n st t k → k < n → d = zt_d t k → ∃ b, (zt_up st (d + 1) k (nI a) t).1 = nI (a + b) ∧ b ≤ 96 * (d + 1) := by
  intro d
  induction d with
  | zero =>
    intro k a t h hk hd
    have hl := ((zi_bu_step h hk).2.2.2.2 k hk).2.2.1.2
    refine ⟨(((zt_b1 st t k).2 k).2 3).length, ?_, by omega⟩
    show nI a + nI _ = _
    rw [nI_add]
  | succ d ih =>
    intro k a t h hk hd
    have h0 := h.1.pos hk (by omega)
    have hdp := h.1.dpar h0 hk
    have hd2 := (zi_an_cint (zt_b1_cint st t k)).2.1
    have hl := ((zi_bu_step h hk).2.2.2.2 k hk).2.2.1.2
    obtain ⟨b, e, hb⟩ := ih (zi_par t k) (a + (((zt_b1 st t k).2 k).2 3).length) (zt_b1 st t k) (zi_bu_par h hk h0) (h.1.pn hk) (by rw [hd2]; omega)
    refine ⟨(((zt_b1 st t k).2 k).2 3).length + b, ?_, by omega⟩
    rw [← Nat.add_assoc, ← e, ← nI_add]
    rfl
theorem zi_pre.sum (h : zi_pre n st t k) (hk : k < n) : ∃ b, (zt_renew st k t).1 = nI b ∧ b ≤ 1440 := by
  have hd := h.1.d15 hk
  have hm := (h.settle hk).bu
  obtain ⟨b, e, hb⟩ := zi_up_sum (zt_d t k) k 0 _ hm hk zt_settled_d.symm
  refine ⟨b, ?_, by omega⟩
  rw [Nat.zero_add] at e
  exact e
theorem zt_renew_5 (st k : Nat) (t : zq_T) : (zt_renew st k t).2.1 5 = t.1 5 := by
  show (zt_up st (zt_d t k + 1) k 0 (zt_settled t k)).2.1 5 = _
  rw [zt_up_int5 st _ _ _ _ 5 (by omega)]
  show va_up t.1 10 (t.1 10 + 1) 5 = _
  exact va_up_ne _ _ (by omega)
end ZoF
