/-! The class alone: what each call answers and leaves. -/
def pz_face (g : bq_G) (E : bq_E) (z : Nat) (t : zq_T) : Prop := ∃ u p cnt, zq_face g E z t u p cnt ∧ p < 4 ∧ cnt ≤ 4
theorem zh_next_lt (p : Nat) : zh_next p < 4 := by unfold zh_next; split <;> omega
theorem zh_more_le (c : Nat) : zh_more c ≤ 4 := by unfold zh_more; split <;> omega
section PzA
variable {g : bq_G} {E : bq_E} {z n k st key : Nat} {t : zq_T}
theorem pz_face.same {E' : bq_E} {lo hi : Nat} (h : pz_face g E z t) (s : zq_same E E' lo hi) (ho : z + 1378 ≤ lo ∨ hi ≤ z) : pz_face g E' z t := by
  obtain ⟨u, p, cnt, hf, hp, hc⟩ := h
  exact ⟨u, p, cnt, hf.same s ho, hp, hc⟩
theorem pz_nodes (h : pz_face g E z t) (hi : zi_inv n t) : tw_X6_nodes E z = some (nI n) := by
  obtain ⟨u, p, cnt, hf, hp, hc⟩ := h
  unfold tw_X6_nodes
  rw [if_pos (zq_cls hf.1), hf.rT]
  simp only [zq_bindE]
  rw [hf.2.1.int (k := 3) (by omega), hi.1.2.1]
  rfl
theorem pz_node (h : pz_face g E z t) (hi : zi_inv n t) {w : Nat} (hk : k < n) (hw : w ≤ 8) : tw_L_nodeOf E z (nI k) (nI w) = some (zv_val (t.2 k) w, E) := by
  obtain ⟨u, p, cnt, hf, hp, hc⟩ := h
  unfold tw_L_nodeOf
  rw [zf_node hf hi hk hw]
  rfl
theorem pz_base (h : pz_face g E z t) (hi : zi_inv n t) {i : Nat} (hk : k < n) (h31 : i < 2 ^ 31) : tw_L_baseOf E z (nI k) (nI i) = some (zv_base (t.2 k) i, E) := by
  obtain ⟨u, p, cnt, hf, hp, hc⟩ := h
  unfold tw_L_baseOf
  rw [zf_baseKey hf hi hk h31]
  rfl
theorem pz_buffer (h : pz_face g E z t) (hi : zi_inv n t) {i : Nat} (hk : k < n) (h31 : i < 2 ^ 31) : tw_L_bufferOf E z (nI k) (nI i) = some (zn_gM ((t.2 k).2 2) i, E) := by
  obtain ⟨u, p, cnt, hf, hp, hc⟩ := h
  unfold tw_L_bufferOf
  rw [zf_bufferKey hf hi hk h31]
  rfl
theorem pz_count (h : pz_face g E z t) (hi : zi_inv n t) : tw_L_countOf E z 4 = some (t.1 10, E) := by
  obtain ⟨u, p, cnt, hf, hp, hc⟩ := h
  unfold tw_L_countOf
  rw [show (4 : Int32) = nI 4 from rfl, zf_count hf hi (w := 4) (by omega)]
  rfl
theorem pz_key (h : pz_face g E z t) (hi : zi_inv n t) {i : Nat} (hk : k < n) (h31 : i < 2 ^ 31) : tw_L_keyOf E z (nI k) (nI i) = some (zn_enc ((zc_newbase (t.2 k)).getD i 10000), E) := by
  obtain ⟨u, p, cnt, hf, hp, hc⟩ := h
  have h15 := hi.1.1.2
  have C := hf.2.1.cat (k := k) (by omega)
  have hcn := hi.2.2.2.1 k hk
  have h24 := zc_nb_24 hcn
  have hko := zc_keyInOrder C hcn.1.1.1 h31 (zc_count_eq hcn) (by omega)
  have hval : (if i < (zc_newbase (t.2 k)).length then nI (zc_iter (t.2 k) i 0) else -1) = zn_enc ((zc_newbase (t.2 k)).getD i 10000) := by
    by_cases w : i < (zc_newbase (t.2 k)).length
    · have := zc_iter_eq hcn i 0 (by omega) 0 (zc_next_0 hcn)
      rw [if_pos w, this, Nat.zero_add]
      have hlt := zc_nb_lt hcn _ (List.getElem_mem w)
      unfold zn_enc
      rw [zn_gD w, if_neg (by omega)]
    · rw [if_neg w, zn_gD_top (by omega)]; rfl
  rw [hval] at hko
  unfold tw_L_keyOf tw_X6_key
  rw [if_pos (zq_cls hf.1), (zf_requireNode hf hi.1.2.1 (nI k)).1 (zf_isnode_nI h15 hk)]
  simp only [zq_bindE, bq_elim, zq_letE]
  rw [if_neg (nI_pos h31), (zf_require hf).2]
  simp only [zq_bindE, bq_elim]
  rw [hf.rT]
  simp only [zq_bindE]
  rw [zt_at hf.2.1, zt_ix_nI (by omega)]
  simp only [zq_bindE]
  rw [hko]
  rfl
theorem pz_key_bad (h : pz_face g E z t) (hi : zi_inv n t) (hk : k < n) : tw_L_keyOf E z (nI k) (-1) = some (-100002, E) := by
  obtain ⟨u, p, cnt, hf, hp, hc⟩ := h
  unfold tw_L_keyOf tw_X6_key
  rw [if_pos (zq_cls hf.1), (zf_requireNode hf hi.1.2.1 (nI k)).1 (zf_isnode_nI hi.1.1.2 hk)]
  simp only [zq_bindE, bq_elim, zq_letE]
  rw [if_pos (show (-1 : Int32) < 0 by decide), (zf_require hf).1]
  simp only [zq_bindE, bq_elim]
  rw [if_neg zs_ne1, if_pos True.intro]
theorem pz_base_bad (h : pz_face g E z t) (hi : zi_inv n t) (hk : k < n) : tw_L_baseOf E z (nI k) (-1) = some (-100002, E) := by
  obtain ⟨u, p, cnt, hf, hp, hc⟩ := h
  unfold tw_L_baseOf tw_X6_baseKey
  rw [if_pos (zq_cls hf.1), (zf_requireNode hf hi.1.2.1 (nI k)).1 (zf_isnode_nI hi.1.1.2 hk)]
  simp only [zq_bindE, bq_elim, zq_letE]
  rw [if_pos (show (-1 : Int32) < 0 by decide), (zf_require hf).1]
  simp only [zq_bindE, bq_elim]
  rw [if_neg zs_ne1, if_pos True.intro]
theorem pz_buffer_bad (h : pz_face g E z t) (hi : zi_inv n t) (hk : k < n) : tw_L_bufferOf E z (nI k) (-1) = some (-100002, E) := by
  obtain ⟨u, p, cnt, hf, hp, hc⟩ := h
  unfold tw_L_bufferOf tw_X6_bufferKey
  rw [if_pos (zq_cls hf.1), (zf_requireNode hf hi.1.2.1 (nI k)).1 (zf_isnode_nI hi.1.1.2 hk)]
  simp only [zq_bindE, bq_elim, zq_letE]
  rw [if_pos (show (-1 : Int32) < 0 by decide), (zf_require hf).1]
  simp only [zq_bindE, bq_elim]
  rw [if_neg zs_ne1, if_pos True.intro]
/-- a search counts itself, no more -/
theorem pz_find0 (h : pz_face g E z t) (hi : zi_inv n t) {x : Nat} (hk : k < n) (hx : x ≤ 10000) : ∃ E' t', tw_L_finds E z (nI k) (nI x) = some ((zw_find t (zw_P t k) (zw_L t k) x).2.2.1, E') ∧ pz_face g E' z t' ∧ zi_inv n t' ∧ t'.2 = t.2 ∧ (∀ j, j ≠ 6 → j ≠ 7 → t'.1 j = t.1 j) ∧ zq_same E E' z (z + 1378) := by
  obtain ⟨u, p, cnt, hf, hp, hc⟩ := h
  obtain ⟨E1, a1, f1, w1, s1⟩ := zf_walkTo hf hi hk hx
  obtain ⟨E2, a2, h2, s2⟩ := zh_save f1.2.2.2 f1.2.1 (by omega) hp hc hi.1.1.2 hi.1.2.1
  have f2 := (f1.histup h2 s2).1
  have w2 := w1.same s2 (by omega)
  obtain ⟨E3, a3, t3, s3⟩ := f2.2.1.intup (k := 6) (by omega) (t.1 6 + 1)
  obtain ⟨f3, t3'⟩ := f2.treeup t3 s3
  have w3 := w2.same s3 (by omega)
  obtain ⟨E4, a4, t4, s4⟩ := f3.2.1.intup (k := 7) (by omega) (t.1 7 + nI (zw_find t (zw_P t k) (zw_L t k) x).1)
  obtain ⟨f4, t4'⟩ := f3.treeup t4 s4
  have w4 := w3.same s4 (by omega)
  refine ⟨E4, _, ?_, ⟨_, _, _, f4, zh_next_lt p, zh_more_le cnt⟩, (hi.ints (Or.inl rfl) _).ints (Or.inr rfl) _, rfl, fun j h6 h7 => ?_, ((s1.trans (s2.wide (by omega) (by omega))).trans t3').trans t4'⟩
  · unfold tw_L_finds tw_X6_search
    rw [if_pos (zq_cls hf.1), a1]
    simp only [zq_bindE, bq_elim]
    rw [f1.rH, f1.rT]
    simp only [zq_bindE]
    rw [a2]
    simp only [zq_bindE]
    rw [f2.rT]
    simp only [zq_bindE]
    rw [f2.2.1.int (k := 6) (by omega)]
    simp only [zq_bindE]
    rw [a3]
    simp only [zq_bindE]
    rw [f3.rT]
    simp only [zq_bindE]
    rw [f3.2.1.int (k := 7) (by omega), w3.i2]
    simp only [zq_bindE]
    have e7 : (zt_I t 6 (t.1 6 + 1)).1 7 = t.1 7 := by
      show va_up t.1 6 (t.1 6 + 1) 7 = _
      exact va_up_ne _ _ (by omega)
    rw [e7, a4]
    simp only [zq_bindE]
    rw [w4.i4]
    rfl
  · show va_up (va_up t.1 6 _) 7 _ j = t.1 j
    rw [va_up_ne _ _ h7, va_up_ne _ _ h6]
theorem pz_put_full (h : pz_face g E z t) (hi : zi_inv n t) (hk : k < n) (hkey : key < 10000) (hh : zc_has (t.2 k) key = false) (hfull : ¬ (zc_newbase (t.2 k)).length < 24) : tw_L_puts E z (nI k) (nI key) = some (-100003, E) := by
  obtain ⟨u, p, cnt, hf, hp, hc⟩ := h
  have h15 := hi.1.1.2
  have C := hf.2.1.cat (k := k) (by omega)
  obtain ⟨fl1, fl2⟩ := zc_full (hi.2.2.2.1 k hk)
  have qx : zf_key (nI key) := ⟨nI_pos (by omega), nI_ge (b := 10000) (by omega) (by omega)⟩
  unfold tw_L_puts tw_X6_add
  rw [if_pos (zq_cls hf.1), (zf_requireNode hf hi.1.2.1 (nI k)).1 (zf_isnode_nI h15 hk)]
  simp only [zq_bindE, bq_elim]
  rw [(zf_requireKey hf (nI key)).1 qx]
  simp only [zq_bindE, bq_elim]
  rw [hf.rT]
  simp only [zq_bindE]
  rw [zt_at hf.2.1, zt_ix_nI (by omega)]
  simp only [zq_bindE, zq_letE]
  rw [zc_holds C (by omega), hh]
  simp only [zq_bindE]
  rw [if_pos bq_bF, zc_isFull C, decide_eq_false (fl1.mpr hfull)]
  simp only [zq_bindE]
  rw [if_neg (show ¬ bq_b (!false) = 0 from bq_bT)]
  simp only [zq_bindE]
  rw [if_neg zs_ne2, if_neg zs_ne3, if_pos True.intro]
theorem pz_put (h : pz_face g E z t) (hi : zi_inv n t) (hk : k < n) (h5 : t.1 5 = nI st) (hst : 2 ≤ st ∧ st ≤ 5) (hkey : key < 10000) (hfl : zc_has (t.2 k) key = false → (zc_newbase (t.2 k)).length < 24) : ∃ E', tw_L_puts E z (nI k) (nI key) = some (if zc_has (t.2 k) key = true then 0 else 1, E') ∧ pz_face g E' z (zt_takeIn st k key t).2 ∧ zq_same E E' z (z + 1378) := by
  obtain ⟨u, p, cnt, hf, hp, hc⟩ := h
  have h15 := hi.1.1.2
  have C := hf.2.1.cat (k := k) (by omega)
  obtain ⟨fl1, fl2⟩ := zc_full (hi.2.2.2.1 k hk)
  have qx : zf_key (nI key) := ⟨nI_pos (by omega), nI_ge (b := 10000) (by omega) (by omega)⟩
  obtain ⟨E1, a1, f1, s1⟩ := zf_save hf hp hc h15 hi.1.2.1
  obtain ⟨E2, a2, f2, s2⟩ := zf_takeIn f1 hi hk h5 hst hkey hfl
  refine ⟨E2, ?_, ⟨_, _, _, f2, zh_next_lt p, zh_more_le cnt⟩, s1.trans s2⟩
  unfold tw_L_puts tw_X6_add
  rw [if_pos (zq_cls hf.1), (zf_requireNode hf hi.1.2.1 (nI k)).1 (zf_isnode_nI h15 hk)]
  simp only [zq_bindE, bq_elim]
  rw [(zf_requireKey hf (nI key)).1 qx]
  simp only [zq_bindE, bq_elim]
  rw [hf.rT]
  simp only [zq_bindE]
  rw [zt_at hf.2.1, zt_ix_nI (by omega)]
  simp only [zq_bindE, zq_letE]
  rw [zc_holds C (by omega), hf.rH, zc_isFull C]
  simp only [zq_bindE]
  rw [a1]
  simp only [zq_bindE]
  rw [f1.rT]
  simp only [zq_bindE]
  rw [a2]
  simp only [zq_bindE]
  cases hh : zc_has (t.2 k) key with
  | false =>
    have hlt : zc_count (t.2 k) < 24 := Classical.byContradiction (fun w => fl1.mp w (hfl hh))
    rw [if_pos bq_bF, decide_eq_true hlt, if_pos (show bq_b (!true) = 0 from bq_bF)]
    simp only [zq_bindE]
    rw [if_neg (show ¬ bq_b (!false) = 0 from bq_bT)]
    rfl
  | true =>
    rw [if_neg bq_bT]
    simp only [zq_bindE]
    rw [if_pos (show bq_b (!true) = 0 from bq_bF)]
    rfl
theorem pz_drop (h : pz_face g E z t) (hi : zi_inv n t) (hk : k < n) (h5 : t.1 5 = nI st) (hst : 2 ≤ st ∧ st ≤ 5) (hkey : key < 10000) : ∃ E', tw_L_drops E z (nI k) (nI key) = some (if zc_has (t.2 k) key = true then 1 else 0, E') ∧ pz_face g E' z (zt_drop st k key t).2 ∧ zq_same E E' z (z + 1378) := by
  obtain ⟨u, p, cnt, hf, hp, hc⟩ := h
  have h15 := hi.1.1.2
  have qx : zf_key (nI key) := ⟨nI_pos (by omega), nI_ge (b := 10000) (by omega) (by omega)⟩
  obtain ⟨E1, a1, f1, s1⟩ := zf_save hf hp hc h15 hi.1.2.1
  obtain ⟨E2, a2, f2, s2⟩ := zf_drop f1 hi hk h5 hst hkey
  refine ⟨E2, ?_, ⟨_, _, _, f2, zh_next_lt p, zh_more_le cnt⟩, s1.trans s2⟩
  unfold tw_L_drops tw_X6_remove
  rw [if_pos (zq_cls hf.1), (zf_requireNode hf hi.1.2.1 (nI k)).1 (zf_isnode_nI h15 hk)]
  simp only [zq_bindE, bq_elim]
  rw [(zf_requireKey hf (nI key)).1 qx]
  simp only [zq_bindE, bq_elim]
  rw [hf.rH, hf.rT]
  simp only [zq_bindE]
  rw [a1]
  simp only [zq_bindE]
  rw [f1.rT]
  simp only [zq_bindE]
  rw [a2]
  simp only [zq_bindE]
  cases hh : zc_has (t.2 k) key with
  | false => rw [if_pos bq_bF]; rfl
  | true => rw [if_neg bq_bT]; rfl
theorem pz_build (h : pz_face g E z t) (hi : zi_inv n t) (hk : k < n) (h5 : t.1 5 = nI st) (hst : 2 ≤ st ∧ st ≤ 5) : ∃ E', tw_L_builds E z (nI k) = some ((zt_renew st k t).1, E') ∧ pz_face g E' z (zt_renew st k t).2 ∧ zq_same E E' z (z + 1378) := by
  obtain ⟨u, p, cnt, hf, hp, hc⟩ := h
  obtain ⟨E1, a1, f1, s1⟩ := zf_save hf hp hc hi.1.1.2 hi.1.2.1
  obtain ⟨E2, a2, f2, s2⟩ := zf_renew f1 hi hk h5 hst
  refine ⟨E2, ?_, ⟨_, _, _, f2, zh_next_lt p, zh_more_le cnt⟩, s1.trans s2⟩
  unfold tw_L_builds tw_X6_rebuild
  rw [if_pos (zq_cls hf.1), (zf_requireNode hf hi.1.2.1 (nI k)).1 (zf_isnode_nI hi.1.1.2 hk)]
  simp only [zq_bindE, bq_elim]
  rw [hf.rH, hf.rT]
  simp only [zq_bindE]
  rw [a1]
  simp only [zq_bindE]
  rw [f1.rT]
  simp only [zq_bindE]
  rw [a2]
  rfl
theorem pz_ser (h : pz_face g E z t) (hi : zi_inv n t) (hk : k < n) (h5 : t.1 5 = nI st) (hst : 2 ≤ st ∧ st ≤ 5) (hkey : key < 10000) {dif many : Nat} (hd : 1 ≤ dif ∧ dif ≤ 999) (hm : 1 ≤ many ∧ many ≤ 24) : ∃ E', tw_L_series E z (nI k) (nI key) (nI dif) (nI many) = some (nI (zs_ser st k dif many key t).1, E') ∧ pz_face g E' z (zs_ser st k dif many key t).2 ∧ zi_inv n (zs_ser st k dif many key t).2 ∧ zq_same E E' z (z + 1378) := by
  obtain ⟨u, p, cnt, hf, hp, hc⟩ := h
  have qx : zf_key (nI key) := ⟨nI_pos (by omega), nI_ge (b := 10000) (by omega) (by omega)⟩
  obtain ⟨E1, a1, f1, c1⟩ := zf_save hf hp hc hi.1.1.2 hi.1.2.1
  obtain ⟨E2, a2, f2, i2, c2⟩ := zf_ser (dif := dif) (many := many) hk hst hd.2 hm.2 many 0 key 0 bq_fuel E1 t (by omega) (bq_fuel_ge (by omega)) (by omega) f1 hi h5
  refine ⟨E2, ?_, ⟨_, _, _, f2, zh_next_lt p, zh_more_le cnt⟩, i2, c1.trans c2⟩
  unfold tw_L_series tw_X6_addSeries
  rw [if_pos (zq_cls hf.1), (zf_requireNode hf hi.1.2.1 (nI k)).1 (zf_isnode_nI hi.1.1.2 hk)]
  simp only [zq_bindE, bq_elim]
  rw [(zf_requireKey hf (nI key)).1 qx]
  simp only [zq_bindE, bq_elim, zq_letE]
  rw [if_neg (show ¬ nI dif < (1 : Int32) from nI_nlt (b := 1) (by omega) (by omega)), if_neg (show ¬ (999 : Int32) < nI dif from nI_nlt (a := 999) (by omega) (by omega)), (zf_require hf).2]
  simp only [zq_bindE, bq_elim, zq_letE]
  rw [if_neg (show ¬ nI many < (1 : Int32) from nI_nlt (b := 1) (by omega) (by omega)), if_neg (show ¬ (24 : Int32) < nI many from nI_nlt (a := 24) (by omega) (by omega)), hf.rH, hf.rT]
  simp only [zq_bindE, bq_elim]
  rw [a1]
  simp only [zq_bindE]
  rw [show (0 : Int32) = nI 0 from rfl, a2, Nat.zero_add]
  rfl
theorem pz_sizes (h : pz_face g E z t) (hi : zi_inv n t) {c s : Nat} (hcp : 1 ≤ c ∧ c ≤ 8) (hs : 2 ≤ s ∧ s ≤ 5) : ∃ E', tw_L_sizes E z (nI c) (nI s) = some (10 * t.1 4 + t.1 5, E') ∧ pz_face g E' z (zt_I (zt_I t 4 (nI c)) 5 (nI s)) ∧ zq_same E E' z (z + 1378) := by
  obtain ⟨u, p, cnt, hf, hp, hc⟩ := h
  obtain ⟨E2, a2, f2, s2⟩ := zf_save hf hp hc hi.1.1.2 hi.1.2.1
  obtain ⟨E3, a3, t3, s3⟩ := f2.2.1.intup (k := 4) (by omega) (nI c)
  obtain ⟨f3, t3'⟩ := f2.treeup t3 s3
  obtain ⟨E4, a4, t4, s4⟩ := f3.2.1.intup (k := 5) (by omega) (nI s)
  obtain ⟨f4, t4'⟩ := f3.treeup t4 s4
  refine ⟨E4, ?_, ⟨_, _, _, f4, zh_next_lt p, zh_more_le cnt⟩, (s2.trans t3').trans t4'⟩
  unfold tw_L_sizes tw_X6_setSizes
  rw [if_pos (zq_cls hf.1)]
  simp only [zq_letE]
  rw [if_neg (show ¬ nI c < (1 : Int32) from nI_nlt (b := 1) (by omega) (by omega)), if_neg (show ¬ (8 : Int32) < nI c from nI_nlt (a := 8) (by omega) (by omega)), (zf_require hf).2]
  simp only [zq_bindE, bq_elim]
  rw [if_neg (show ¬ nI s < (2 : Int32) from nI_nlt (b := 2) (by omega) (by omega)), if_neg (show ¬ (5 : Int32) < nI s from nI_nlt (a := 5) (by omega) (by omega)), hf.rH, hf.rT]
  simp only [zq_bindE]
  rw [a2]
  simp only [zq_bindE]
  rw [f2.rT]
  simp only [zq_bindE]
  rw [f2.2.1.int (k := 4) (by omega), f2.2.1.int (k := 5) (by omega)]
  simp only [zq_bindE]
  rw [a3]
  simp only [zq_bindE]
  rw [f3.rT]
  simp only [zq_bindE]
  rw [a4]
  rfl
theorem pz_add {p sd : Nat} (h : pz_face g E z t) (hi : zi_inv n t) (hp : p < n) (hn15 : n < 15) (hs : sd = 1 ∨ sd = 2) (hno : (t.2 p).1 sd = -1) (h5 : t.1 5 = nI st) (hst : 2 ≤ st ∧ st ≤ 5) : ∃ E', tw_L_adds E z (nI p) (nI sd) = some (nI n, E') ∧ pz_face g E' z (zt_up st (zt_d t p + 2) n 0 (zt_grown t p sd n)).2 ∧ zi_inv (n + 1) (zt_up st (zt_d t p + 2) n 0 (zt_grown t p sd n)).2 ∧ zq_same E E' z (z + 1378) := by
  obtain ⟨u, pp, cnt, hf, hpp, hc⟩ := h
  have h15 := hi.1.1.2
  have C := hf.2.1.cat (k := p) (by omega)
  have hchild : tw_X0_child E (zq_ca (z + 1) p) (nI sd) = some ((t.2 p).1 sd) := by
    rw [zc_child C]
    rcases hs with rfl | rfl
    · rw [if_pos (show nI 1 = 1 from rfl)]
    · rw [if_neg (show ¬ nI 2 = 1 by decide)]
  have clsA : ∀ A B : Option ((Int32 ⊕ String) × bq_E), (if nI sd = (1 : Int32) then A else if nI sd = (2 : Int32) then A else B) = A := fun A B => by
    rcases hs with rfl | rfl
    · rw [if_pos (show nI 1 = 1 from rfl)]
    · rw [if_neg (show ¬ nI 2 = 1 by decide), if_pos (show nI 2 = 2 from rfl)]
  have hn15' : ¬ nI n = 15 := fun e => by have := (nI_inj (b := 15) (by omega) (by omega)).mp e; omega
  have hmid := zg_mid hi hp hn15 hs hno h5 hst
  have hd := zg_d (sd := sd) hi hp
  obtain ⟨hdone, hok⟩ := hmid.done (k := n) (by omega) 0
  rw [hd] at hdone hok
  obtain ⟨E1, a1, f1, s1⟩ := zf_save hf hpp hc h15 hi.1.2.1
  obtain ⟨E2, a2, t2, s2⟩ := zt_grow_ok f1.2.1 (p := p) (n := n) (d := zt_d t p) (side := sd) (by omega) hn15 (by omega) hs hi.1.2.1 (hi.1.d3 hp) (by have := hi.1.d15 hp; omega) h5 (by omega) hok
  obtain ⟨f2, s2'⟩ := f1.treeup t2 s2
  refine ⟨E2, ?_, ⟨_, _, _, f2, zh_next_lt pp, zh_more_le cnt⟩, hdone, s1.trans s2'⟩
  unfold tw_L_adds tw_X6_addNode
  rw [if_pos (zq_cls hf.1), (zf_requireNode hf hi.1.2.1 (nI p)).1 (zf_isnode_nI h15 hp)]
  simp only [zq_bindE, bq_elim, zq_letE]
  rw [clsA, (zf_require hf).2]
  simp only [zq_bindE, bq_elim]
  rw [hf.rT]
  simp only [zq_bindE]
  rw [hf.2.1.int (k := 3) (by omega), hi.1.2.1, zt_at hf.2.1, zt_ix_nI (by omega)]
  simp only [zq_bindE]
  rw [hchild, if_neg hn15', hno]
  simp only [zq_bindE]
  rw [if_pos True.intro, hf.rH]
  simp only [zq_bindE]
  rw [a1]
  simp only [zq_bindE]
  rw [f1.rT]
  simp only [zq_bindE]
  rw [a2]
  rfl
end PzA
