/-! Values: nodes, node, key, baseKey, bufferKey, entry, bridge, count. -/
def zv_val (v : zq_N) (w : Nat) : Int32 := if w = 0 then v.1 0 else if w = 1 then v.1 1 else if w = 2 then v.1 2 else if w = 3 then v.1 3 else if w = 4 then zc_count v else if w = 5 then nI (v.2 0).length else if w = 6 then v.1 4 else if w = 7 then nI (v.2 2).length else nI (v.2 3).length
theorem zn_keep_tot : ∀ (a m : List Nat), m.length = a.length → (∀ x ∈ m, x = 0 ∨ x = 1) → (zn_keep a m).length + zn_tot m = a.length
  | [], [], _, _ => rfl
  | [], _ :: _, h, _ => by simp at h
  | _ :: _, [], h, _ => by simp at h
  | x :: t, y :: s, h, hb => by
    have ih := zn_keep_tot t s (by simpa using h) (fun z hz => hb z (List.mem_cons_of_mem _ hz))
    rw [zn_keep_cons]
    show _ + (y + zn_tot s) = _
    rcases hb y List.mem_cons_self with q | q
    · rw [q, if_neg (by omega), List.length_cons, List.length_cons]
      omega
    · rw [q, if_pos rfl, List.length_cons]
      omega
theorem zc_count_eq {v : zq_N} (h : zi_hc v) : zc_count v = nI (zc_newbase v).length := by
  have hk := zn_keep_tot _ _ h.1.1.1 h.1.2.2.2.1
  unfold zc_count
  rw [h.2.1.2.2.2, pk_sub (by omega), nI_add, zc_nb_len]
  exact congrArg nI (by omega)
section ZoC
variable {g : bq_G} {E : bq_E} {z m n p cnt k : Nat} {M : zq_M} {t : zq_T} {u : Nat → zq_T}
theorem zf_node (hf : zq_face g E z t u p cnt) (hi : zi_inv n t) {k w : Nat} (hk : k < n) (hw : w ≤ 8) : tw_X6_node E z (nI k) (nI w) = some (Sum.inl (zv_val (t.2 k) w)) := by
  have h15 := hi.1.1.2
  have C := hf.2.1.cat (k := k) (by omega)
  unfold tw_X6_node zv_val
  rw [if_pos (zq_cls hf.1), (zf_requireNode hf hi.1.2.1 (nI k)).1 (zf_isnode_nI h15 hk)]
  simp only [zq_bindE, bq_elim]
  rw [hf.rT]
  simp only [zq_bindE]
  rw [zt_at hf.2.1, zt_ix_nI (by omega)]
  simp only [zq_bindE]
  have hc : w = 0 ∨ w = 1 ∨ w = 2 ∨ w = 3 ∨ w = 4 ∨ w = 5 ∨ w = 6 ∨ w = 7 ∨ w = 8 := by omega
  rcases hc with rfl | rfl | rfl | rfl | rfl | rfl | rfl | rfl | rfl
  · rw [if_pos (show nI 0 = 0 from rfl), C.int (k := 0) (by omega)]; rfl
  · rw [if_neg (show ¬ nI 1 = 0 by decide), if_pos (show nI 1 = 1 from rfl), C.int (k := 1) (by omega)]; rfl
  · rw [if_neg (show ¬ nI 2 = 0 by decide), if_neg (show ¬ nI 2 = 1 by decide), if_pos (show nI 2 = 2 from rfl), C.int (k := 2) (by omega)]; rfl
  · rw [if_neg (show ¬ nI 3 = 0 by decide), if_neg (show ¬ nI 3 = 1 by decide), if_neg (show ¬ nI 3 = 2 by decide), if_pos (show nI 3 = 3 from rfl), C.int (k := 3) (by omega)]; rfl
  · rw [if_neg (show ¬ nI 4 = 0 by decide), if_neg (show ¬ nI 4 = 1 by decide), if_neg (show ¬ nI 4 = 2 by decide), if_neg (show ¬ nI 4 = 3 by decide), if_pos (show nI 4 = 4 from rfl), zc_keyCount C]; rfl
  · rw [if_neg (show ¬ nI 5 = 0 by decide), if_neg (show ¬ nI 5 = 1 by decide), if_neg (show ¬ nI 5 = 2 by decide), if_neg (show ¬ nI 5 = 3 by decide), if_neg (show ¬ nI 5 = 4 by decide), if_pos (show nI 5 = 5 from rfl), C.rBase]
    simp only [zq_bindE]
    rw [zn_size C.base]; rfl
  · rw [if_neg (show ¬ nI 6 = 0 by decide), if_neg (show ¬ nI 6 = 1 by decide), if_neg (show ¬ nI 6 = 2 by decide), if_neg (show ¬ nI 6 = 3 by decide), if_neg (show ¬ nI 6 = 4 by decide), if_neg (show ¬ nI 6 = 5 by decide), if_pos (show nI 6 = 6 from rfl), C.int (k := 4) (by omega)]; rfl
  · rw [if_neg (show ¬ nI 7 = 0 by decide), if_neg (show ¬ nI 7 = 1 by decide), if_neg (show ¬ nI 7 = 2 by decide), if_neg (show ¬ nI 7 = 3 by decide), if_neg (show ¬ nI 7 = 4 by decide), if_neg (show ¬ nI 7 = 5 by decide), if_neg (show ¬ nI 7 = 6 by decide), if_pos (show nI 7 = 7 from rfl), C.rBuf]
    simp only [zq_bindE]
    rw [zn_size C.buf]; rfl
  · rw [if_neg (show ¬ nI 8 = 0 by decide), if_neg (show ¬ nI 8 = 1 by decide), if_neg (show ¬ nI 8 = 2 by decide), if_neg (show ¬ nI 8 = 3 by decide), if_neg (show ¬ nI 8 = 4 by decide), if_neg (show ¬ nI 8 = 5 by decide), if_neg (show ¬ nI 8 = 6 by decide), if_neg (show ¬ nI 8 = 7 by decide), if_pos (show nI 8 = 8 from rfl), C.rList]
    simp only [zq_bindE]
    rw [zl_size C]; rfl
def zv_base (v : zq_N) (i : Nat) : Int32 := if (v.2 1).getD i 0 = 1 then zn_gM (v.2 0) i + 10000 else zn_gM (v.2 0) i
theorem zf_baseKey (hf : zq_face g E z t u p cnt) (hi : zi_inv n t) {k i : Nat} (hk : k < n) (h31 : i < 2 ^ 31) : tw_X6_baseKey E z (nI k) (nI i) = some (Sum.inl (zv_base (t.2 k) i)) := by
  have h15 := hi.1.1.2
  have C := hf.2.1.cat (k := k) (by omega)
  unfold tw_X6_baseKey zv_base
  rw [if_pos (zq_cls hf.1), (zf_requireNode hf hi.1.2.1 (nI k)).1 (zf_isnode_nI h15 hk)]
  simp only [zq_bindE, bq_elim, zq_letE]
  rw [if_neg (nI_pos h31), (zf_require hf).2]
  simp only [zq_bindE, bq_elim]
  rw [hf.rT]
  simp only [zq_bindE]
  rw [zt_at hf.2.1, zt_ix_nI (by omega)]
  simp only [zq_bindE]
  rw [C.rBase]
  simp only [zq_bindE]
  rw [zn_atMn C.base h31, zc_isMarked C h31]
  simp only [zq_bindE]
  by_cases q : ((t.2 k).2 1).getD i 0 = 1
  · rw [decide_eq_true q, if_neg bq_bT, if_pos q]
  · rw [decide_eq_false q, if_pos bq_bF, if_neg q]
theorem zf_bufferKey (hf : zq_face g E z t u p cnt) (hi : zi_inv n t) {k i : Nat} (hk : k < n) (h31 : i < 2 ^ 31) : tw_X6_bufferKey E z (nI k) (nI i) = some (Sum.inl (zn_gM ((t.2 k).2 2) i)) := by
  have h15 := hi.1.1.2
  have C := hf.2.1.cat (k := k) (by omega)
  unfold tw_X6_bufferKey
  rw [if_pos (zq_cls hf.1), (zf_requireNode hf hi.1.2.1 (nI k)).1 (zf_isnode_nI h15 hk)]
  simp only [zq_bindE, bq_elim, zq_letE]
  rw [if_neg (nI_pos h31), (zf_require hf).2]
  simp only [zq_bindE, bq_elim]
  rw [hf.rT]
  simp only [zq_bindE]
  rw [zt_at hf.2.1, zt_ix_nI (by omega)]
  simp only [zq_bindE]
  rw [C.rBuf]
  simp only [zq_bindE]
  rw [zn_atMn C.buf h31]
  rfl
theorem zn_gM_in {xs : List Nat} {i : Nat} (h : i < xs.length) : zn_gM xs i = nI (xs.getD i 0) := by
  unfold zn_gM; rw [List.getElem?_eq_getElem h, zn_gD h]
theorem zn_gM_out {xs : List Nat} {i : Nat} (h : xs.length ≤ i) : zn_gM xs i = -1 := by
  unfold zn_gM; rw [List.getElem?_eq_none h]
end ZoC
