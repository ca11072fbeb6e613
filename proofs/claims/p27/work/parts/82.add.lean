/-! add, remove, rebuild. -/
section ZoE
variable {g : bq_G} {E : bq_E} {z m n st k key p cnt : Nat} {M : zq_M} {t : zq_T} {u : Nat → zq_T}
theorem zi_inv.pre (h : zi_inv n t) (hk : k < n) (h5 : t.1 5 = nI st) (hst : 2 ≤ st ∧ st ≤ 5) : zi_pre n st t k := by
  have hc := h.2.2.2.1 k hk
  exact ⟨h.1, h.2.1, ⟨h5, hst⟩, ⟨fun j hj _ => h.2.2.2.1 j hj, hc.1, hc.2.1, hc.2.2.1, by have := hc.2.2.2; omega⟩, fun j hj _ => h.2.2.2.2.1 j hj, fun j hj _ => h.cat hj, h.2.2.2.2.2⟩
theorem zf_takeIn (hf : zq_face g E z t u p cnt) (hi : zi_inv n t) (hk : k < n) (h5 : t.1 5 = nI st) (hst : 2 ≤ st ∧ st ≤ 5) (hkey : key < 10000) (hfull : zc_has (t.2 k) key = false → (zc_newbase (t.2 k)).length < 24) : ∃ E', tw_X4_takeIn E (z + 1) (nI k) (nI key) = some (!zc_has (t.2 k) key, E') ∧ zq_face g E' z (zt_takeIn st k key t).2 u p cnt ∧ zq_same E E' z (z + 1378) := by
  have h15 := hi.1.1.2
  have hc := hi.2.2.2.1 k hk
  obtain ⟨_, e1, _, hpre, _⟩ := zt_take_inv hi hk h5 hst hkey hfull
  obtain ⟨E1, a1, t1, s1⟩ := zt_takeIn_ok hf.2.1 (k := k) (key := key) (by omega) (by omega) h5 (by omega) hc.1.1.1 (by have := hc.2.2.2; omega) (fun _ _ hno => ((hpre hno).1.renew hk).2)
  obtain ⟨f1, s1'⟩ := hf.treeup t1 s1
  rw [e1] at a1
  exact ⟨E1, a1, f1, s1'⟩
theorem zf_drop (hf : zq_face g E z t u p cnt) (hi : zi_inv n t) (hk : k < n) (h5 : t.1 5 = nI st) (hst : 2 ≤ st ∧ st ≤ 5) (hkey : key < 10000) : ∃ E', tw_X4_drop E (z + 1) (nI k) (nI key) = some (zc_has (t.2 k) key, E') ∧ zq_face g E' z (zt_drop st k key t).2 u p cnt ∧ zq_same E E' z (z + 1378) := by
  have h15 := hi.1.1.2
  have hc := hi.2.2.2.1 k hk
  obtain ⟨_, e1, _, hpre⟩ := zt_drop_inv (key := key) hi hk h5 hst
  obtain ⟨E1, a1, t1, s1⟩ := zt_drop_ok hf.2.1 (k := k) (key := key) (by omega) (by omega) h5 (by omega) hc.1.1.1 (fun _ _ hyes => ((hpre hyes).1.renew hk).2)
  obtain ⟨f1, s1'⟩ := hf.treeup t1 s1
  rw [e1] at a1
  exact ⟨E1, a1, f1, s1'⟩
theorem zc_full {v : zq_N} (hc : zi_hc v) : (¬ zc_count v < 24 ↔ ¬ (zc_newbase v).length < 24) ∧ (zc_count v = 24 ↔ ¬ (zc_newbase v).length < 24) := by
  have h24 := zc_nb_24 hc
  have e := zc_count_eq hc
  have h1 : nI (zc_newbase v).length < nI 24 ↔ (zc_newbase v).length < 24 := nI_ltI (by omega) (by omega)
  have h2 : nI (zc_newbase v).length = nI 24 ↔ (zc_newbase v).length = 24 := nI_inj (by omega) (by omega)
  rw [e]
  exact ⟨not_congr h1, h2.trans ⟨fun q => by omega, fun q => by omega⟩⟩
theorem zf_renew (hf : zq_face g E z t u p cnt) (hi : zi_inv n t) (hk : k < n) (h5 : t.1 5 = nI st) (hst : 2 ≤ st ∧ st ≤ 5) : ∃ E', tw_X4_renew E (z + 1) (nI k) = some ((zt_renew st k t).1, E') ∧ zq_face g E' z (zt_renew st k t).2 u p cnt ∧ zq_same E E' z (z + 1378) := by
  have h15 := hi.1.1.2
  obtain ⟨E1, a1, t1, s1⟩ := zt_renew_ok hf.2.1 (k := k) (by omega) h5 (by omega) ((hi.pre hk h5 hst).renew hk).2
  obtain ⟨f1, s1'⟩ := hf.treeup t1 s1
  exact ⟨E1, a1, f1, s1'⟩
end ZoE
