/-! digest. -/
def zd_mix (h : Int64) (v : Int32) : Int64 := ((31 : Int64) * h) + (Int32.toInt64 v)
def zd_up (f : Nat → Int32) : Nat → Nat → Int64 → Int64
  | 0, _, h => h
  | r + 1, i, h => zd_up f r (i + 1) (zd_mix h (f i))
def zd_br (v : zq_N) (i j : Nat) : Int32 := nI ((v.2 (5 + j)).getD i 0)
def zd_row (v : zq_N) (i : Nat) (h : Int64) : Int64 := zd_up (zd_br v i) 3 0 (zd_mix (zd_mix h (zn_gM (v.2 3) i)) (zn_gM (v.2 4) i))
def zd_rows (v : zq_N) : Nat → Nat → Int64 → Int64
  | 0, _, h => h
  | r + 1, i, h => zd_rows v r (i + 1) (zd_row v i h)
def zd_node (t : zq_T) (k : Nat) (h : Int64) : Int64 := zd_mix (zd_rows (t.2 k) ((t.2 k).2 3).length 0 (zd_up (zn_gM ((t.2 k).2 2)) ((t.2 k).2 2).length 0 (zd_up (zv_base (t.2 k)) ((t.2 k).2 0).length 0 (zd_up (zv_val (t.2 k)) 9 0 h)))) (zw_most t (zw_P t k) (zw_L t k))
def zd_nodes (t : zq_T) : Nat → Nat → Int64 → Int64
  | 0, _, h => h
  | r + 1, i, h => zd_nodes t r (i + 1) (zd_node t i h)
def zd_dig (n : Nat) (t : zq_T) (cnt : Nat) : Int64 := zd_up (zv_cnt t n) 7 0 (zd_nodes t n 0 (zd_mix (zd_mix (zd_mix (zd_mix 18592 (nI cnt)) (t.1 4)) (t.1 5)) (nI n)))
section ZdA
variable {g : bq_G} {E : bq_E} {z n k p cnt : Nat} {t : zq_T} {u : Nat → zq_T}
theorem zf_w16 (K : Int64 → Int32 → Option ((Int64 ⊕ String) × bq_E)) (c : Nat) (hf : zq_face g E z t u p cnt) (hi : zi_inv n t) (hk : k < n) : ∀ (N w : Nat) (h : Int64), 9 - w < N → w ≤ 9 → tl_X6_withNode_16 E z (nI k) c K N h (nI w) = K (zd_up (zv_val (t.2 k)) (9 - w) w h) (nI 9) := by
  intro N
  induction N with
  | zero => intro w h q; omega
  | succ N ih =>
    intro w h hN hw
    rw [tl_X6_withNode_16.eq_2]
    by_cases q : w ≤ 8
    · rw [if_neg (show ¬ (8 : Int32) < nI w from nI_nlt (a := 8) q (by omega)), zf_node hf hi hk q]
      simp only [zq_bindE, bq_elim, zq_letE]
      rw [nI_1, ih (w + 1) _ (by omega) (by omega), show 9 - w = (9 - (w + 1)) + 1 by omega]
      rfl
    · rw [if_pos (show (8 : Int32) < nI w from nI_lt (a := 8) (by omega) (by omega)), show w = 9 by omega]
      rfl
theorem zf_w49 (K : Int64 → Int32 → Option ((Int64 ⊕ String) × bq_E)) (hf : zq_face g E z t u p cnt) (hi : zi_inv n t) (hk : k < n) : ∀ (N i : Nat) (h : Int64), ((t.2 k).2 0).length - i < N → i ≤ ((t.2 k).2 0).length → tl_X6_withNode_49 E z (nI k) (zq_ca (z + 1) k) K N h (nI i) = K (zd_up (zv_base (t.2 k)) (((t.2 k).2 0).length - i) i h) (nI ((t.2 k).2 0).length) := by
  have h15 := hi.1.1.2
  have C := hf.2.1.cat (k := k) (by omega)
  have hl := C.base.len
  intro N
  induction N with
  | zero => intro i h q; omega
  | succ N ih =>
    intro i h hN hil
    rw [tl_X6_withNode_49.eq_2, C.rBase]
    simp only [zq_bindE]
    rw [zn_size C.base]
    simp only [zq_bindE]
    by_cases q : i < ((t.2 k).2 0).length
    · rw [if_neg (nI_ge q (by omega)), zf_baseKey hf hi hk (by omega)]
      simp only [zq_bindE, bq_elim, zq_letE]
      rw [nI_1, ih (i + 1) _ (by omega) (by omega), show ((t.2 k).2 0).length - i = (((t.2 k).2 0).length - (i + 1)) + 1 by omega]
      rfl
    · have e : i = ((t.2 k).2 0).length := by omega
      rw [if_pos (nI_le (by omega) (by omega)), e, Nat.sub_self]
      rfl
theorem zf_w88 (K : Int64 → Int32 → Option ((Int64 ⊕ String) × bq_E)) (hf : zq_face g E z t u p cnt) (hi : zi_inv n t) (hk : k < n) : ∀ (N i : Nat) (h : Int64), ((t.2 k).2 2).length - i < N → i ≤ ((t.2 k).2 2).length → tl_X6_withNode_88 E z (nI k) (zq_ca (z + 1) k) K N h (nI i) = K (zd_up (zn_gM ((t.2 k).2 2)) (((t.2 k).2 2).length - i) i h) (nI ((t.2 k).2 2).length) := by
  have h15 := hi.1.1.2
  have C := hf.2.1.cat (k := k) (by omega)
  have hl := C.buf.len
  intro N
  induction N with
  | zero => intro i h q; omega
  | succ N ih =>
    intro i h hN hil
    rw [tl_X6_withNode_88.eq_2, C.rBuf]
    simp only [zq_bindE]
    rw [zn_size C.buf]
    simp only [zq_bindE]
    by_cases q : i < ((t.2 k).2 2).length
    · rw [if_neg (nI_ge q (by omega)), zf_bufferKey hf hi hk (by omega)]
      simp only [zq_bindE, bq_elim, zq_letE]
      rw [nI_1, ih (i + 1) _ (by omega) (by omega), show ((t.2 k).2 2).length - i = (((t.2 k).2 2).length - (i + 1)) + 1 by omega]
      rfl
    · have e : i = ((t.2 k).2 2).length := by omega
      rw [if_pos (nI_le (by omega) (by omega)), e, Nat.sub_self]
      rfl
theorem zf_wEntry (hf : zq_face g E z t u p cnt) (hk : k < 15) {i : Nat} (hi31 : i < 2 ^ 31) (h : Int64) : tw_X6_withEntry E z h (zq_ca (z + 1) k + 7) (nI i) = some (zd_row (t.2 k) i h) := by
  have C := hf.2.1.cat hk
  have loop : ∀ (N j : Nat) (h : Int64), 3 - j < N → j ≤ 3 → tl_X6_withEntry_46 E (zq_ca (z + 1) k + 7) (nI i) N h (nI j) = some (zd_up (zd_br (t.2 k) i) (3 - j) j h) := by
    intro N
    induction N with
    | zero => intro j h q; omega
    | succ N ih =>
      intro j h hN hj
      rw [tl_X6_withEntry_46.eq_2]
      by_cases q : j < 3
      · rw [if_neg (show ¬ (2 : Int32) < nI j from nI_nlt (a := 2) (by omega) (by omega)), zl_bridgeOf C _ q, zn_at0 (C.row (j := 5 + j) (by omega)) hi31]
        simp only [zq_bindE, zq_letE]
        rw [nI_1, ih (j + 1) _ (by omega) (by omega), show 3 - j = (3 - (j + 1)) + 1 by omega]
        rfl
      · rw [if_pos (show (2 : Int32) < nI j from nI_lt (a := 2) (by omega) (by omega)), show j = 3 by omega]
        rfl
  unfold tw_X6_withEntry
  rw [if_pos (zq_cls hf.1), C.lKeys, C.lOrg]
  simp only [zq_bindE]
  rw [zn_atMn C.keys hi31, zn_atMn C.orgs hi31]
  simp only [zq_bindE, zq_letE]
  exact loop bq_fuel 0 _ (bq_fuel_ge (by omega)) (Nat.zero_le _)
theorem zf_w127 (hf : zq_face g E z t u p cnt) (hi : zi_inv n t) (hk : k < n) : ∀ (N i : Nat) (h : Int64), ((t.2 k).2 3).length - i < N → i ≤ ((t.2 k).2 3).length → ∃ E', tl_X6_withNode_127 E z (nI k) (zq_ca (z + 1) k) N h (nI i) = some (Sum.inl (zd_mix (zd_rows (t.2 k) (((t.2 k).2 3).length - i) i h) (zw_most t (zw_P t k) (zw_L t k))), E') ∧ zq_face g E' z t u p cnt ∧ zq_same E E' z (z + 1378) := by
  have h15 := hi.1.1.2
  have C := hf.2.1.cat (k := k) (by omega)
  have hl := C.keys.len
  intro N
  induction N with
  | zero => intro i h q; omega
  | succ N ih =>
    intro i h hN hil
    rw [tl_X6_withNode_127.eq_2, C.rList]
    simp only [zq_bindE]
    rw [zl_size C]
    simp only [zq_bindE]
    by_cases q : i < ((t.2 k).2 3).length
    · rw [if_neg (nI_ge q (by omega)), zf_wEntry hf (by omega) (by omega)]
      simp only [zq_bindE, zq_letE]
      rw [nI_1, show ((t.2 k).2 3).length - i = (((t.2 k).2 3).length - (i + 1)) + 1 by omega]
      exact ih (i + 1) _ (by omega) (by omega)
    · have e : i = ((t.2 k).2 3).length := by omega
      rw [if_pos (nI_le (by omega) (by omega)), e, Nat.sub_self, hf.rW, hf.rT]
      simp only [zq_bindE]
      obtain ⟨P0, L0, w0, hw⟩ := hf.2.2.1
      obtain ⟨E1, a1, ⟨w', w1⟩, s1⟩ := zw_most_ok hw hf.2.1 (by omega) (k := k) (d := zt_d t k) (by omega) (hi.1.d15 hk) (hi.1.d3 hk) (hi.1.pathok _ k hk rfl) (fun j hj => hi.ok j hj)
      obtain ⟨f1, t1⟩ := hf.walkup w1 s1
      rw [a1]
      exact ⟨E1, rfl, f1, t1⟩
theorem zf_withNode (hf : zq_face g E z t u p cnt) (hi : zi_inv n t) (hk : k < n) (h : Int64) : ∃ E', tw_X6_withNode E z h (nI k) = some (Sum.inl (zd_node t k h), E') ∧ zq_face g E' z t u p cnt ∧ zq_same E E' z (z + 1378) := by
  have h15 := hi.1.1.2
  have C := hf.2.1.cat (k := k) (by omega)
  have l0 := C.base.len
  have l2 := C.buf.len
  have l3 := C.keys.len
  unfold tw_X6_withNode
  rw [if_pos (zq_cls hf.1), hf.rT]
  simp only [zq_bindE]
  rw [zt_at hf.2.1, zt_ix_nI (by omega)]
  simp only [zq_bindE]
  rw [show (0 : Int32) = nI 0 from rfl, zf_w16 _ _ hf hi hk bq_fuel 0 h (bq_fuel_ge (by omega)) (by omega), zf_w49 _ hf hi hk bq_fuel 0 _ (bq_fuel_ge (by omega)) (Nat.zero_le _), zf_w88 _ hf hi hk bq_fuel 0 _ (bq_fuel_ge (by omega)) (Nat.zero_le _)]
  exact zf_w127 hf hi hk bq_fuel 0 _ (bq_fuel_ge (by omega)) (Nat.zero_le _)
theorem zf_digest (hf : zq_face g E z t u p cnt) (hi : zi_inv n t) : ∃ E', tw_X6_digest E z = some (Sum.inl (zd_dig n t cnt), E') ∧ zq_face g E' z t u p cnt ∧ zq_same E E' z (z + 1378) := by
  have h15 := hi.1.1.2
  have l63 : ∀ (K : Int64 → Int32 → bq_E → Option ((Int64 ⊕ String) × bq_E)) (N i : Nat) (h : Int64) (E1 : bq_E), n - i < N → i ≤ n → zq_face g E1 z t u p cnt → ∃ E2, tl_X6_digest_63 z K N h (nI i) E1 = K (zd_nodes t (n - i) i h) (nI n) E2 ∧ zq_face g E2 z t u p cnt ∧ zq_same E1 E2 z (z + 1378) := by
    intro K N
    induction N with
    | zero => intro i h E1 q; omega
    | succ N ih =>
      intro i h E1 hN hin f1
      rw [tl_X6_digest_63.eq_2, f1.rT]
      simp only [zq_bindE]
      rw [f1.2.1.int (k := 3) (by omega), hi.1.2.1]
      simp only [zq_bindE]
      by_cases q : i < n
      · rw [if_neg (nI_ge q (by omega))]
        obtain ⟨E2, a2, f2, s2⟩ := zf_withNode f1 hi q h
        rw [a2]
        simp only [zq_bindE, bq_elim, zq_letE]
        rw [nI_1, show n - i = (n - (i + 1)) + 1 by omega]
        obtain ⟨E3, a3, f3, s3⟩ := ih (i + 1) (zd_node t i h) E2 (by omega) (by omega) f2
        exact ⟨E3, a3, f3, s2.trans s3⟩
      · have e : i = n := by omega
        rw [if_pos (nI_le (by omega) (by omega)), e, Nat.sub_self]
        exact ⟨E1, rfl, f1, zq_same.refl⟩
  have l89 : ∀ (E1 : bq_E) (N w : Nat) (h : Int64), 7 - w < N → w ≤ 7 → zq_face g E1 z t u p cnt → tl_X6_digest_89 E1 z N h (nI w) = some (Sum.inl (zd_up (zv_cnt t n) (7 - w) w h), E1) := by
    intro E1 N
    induction N with
    | zero => intro w h q; omega
    | succ N ih =>
      intro w h hN hw f1
      rw [tl_X6_digest_89.eq_2]
      by_cases q : w ≤ 6
      · rw [if_neg (show ¬ (6 : Int32) < nI w from nI_nlt (a := 6) q (by omega)), zf_count f1 hi q]
        simp only [zq_bindE, bq_elim, zq_letE]
        rw [nI_1, ih (w + 1) _ (by omega) (by omega) f1, show 7 - w = (7 - (w + 1)) + 1 by omega]
        rfl
      · rw [if_pos (show (6 : Int32) < nI w from nI_lt (a := 6) (by omega) (by omega)), show w = 7 by omega]
        rfl
  unfold tw_X6_digest
  rw [if_pos (zq_cls hf.1), hf.rH, hf.rT]
  simp only [zq_bindE]
  rw [hf.2.2.2.i2, hf.2.1.int (k := 4) (by omega), hf.2.1.int (k := 5) (by omega)]
  simp only [zq_bindE, zq_letE]
  have enodes : tw_X6_nodes E z = some (nI n) := by
    unfold tw_X6_nodes
    rw [if_pos (zq_cls hf.1), hf.rT]
    simp only [zq_bindE]
    rw [hf.2.1.int (k := 3) (by omega), hi.1.2.1]
    rfl
  rw [enodes]
  simp only [zq_bindE, zq_letE]
  obtain ⟨E2, a2, f2, s2⟩ := l63 (fun y12 y13 E14 =>
    tl_X6_digest_89 E14 z bq_fuel y12 (0 : Int32)) bq_fuel 0 (zd_mix (zd_mix (zd_mix (zd_mix 18592 (nI cnt)) (t.1 4)) (t.1 5)) (nI n)) E (bq_fuel_ge (by omega)) (Nat.zero_le _) hf
  refine ⟨E2, ?_, f2, s2⟩
  rw [show (0 : Int32) = nI 0 from rfl]
  refine Eq.trans a2 ?_
  rw [show (0 : Int32) = nI 0 from rfl]
  exact l89 E2 bq_fuel 0 _ (bq_fuel_ge (by omega)) (Nat.zero_le _) f2
end ZdA
/-- only scratch words and the mix differ -/
def zm_scx (M M' : zq_M) : Prop := (∀ j, j < 5 → M'.1 j = M.1 j) ∧ ∀ j, j ≠ 7 → j ≠ 8 → M'.2.1 j = M.2.1 j
theorem zm_scx.refl {M : zq_M} : zm_scx M M := ⟨fun _ _ => rfl, fun _ _ _ => rfl⟩
theorem zm_scx.trans {M M' M'' : zq_M} (h : zm_scx M M') (h2 : zm_scx M' M'') : zm_scx M M'' := ⟨fun j a => (h2.1 j a).trans (h.1 j a), fun j a b => (h2.2 j a b).trans (h.2 j a b)⟩
theorem zm_scr.scx {M M' : zq_M} (h : zm_scr M M') : zm_scx M M' := ⟨h.1, h.2.1⟩
section ZdB
variable {g : bq_G} {E : bq_E} {m n k cnt : Nat} {M : zq_M} {t : zq_T}
theorem zm_mix (H : zq_mod g E m M) (x : Int32) : ∃ E' M', tw_X7_mix E m x = some E' ∧ zq_mod g E' m M' ∧ zm_scx M M' ∧ M'.2.2 = zd_mix M.2.2 x ∧ zq_same E E' m (m + 8) := by
  unfold tw_X7_mix
  rw [if_pos (zq_cls H.1), zm_x H]
  simp only [zq_bindE]
  obtain ⟨E1, a1, H1, s1⟩ := zm_putX H (((31 : Int64) * M.2.2) + (Int32.toInt64 x))
  rw [a1]
  exact ⟨E1, _, rfl, H1, zm_scx.refl, rfl, s1⟩
/-- a state with the mix h -/
def zd_at (g : bq_G) (m : Nat) (M0 : zq_M) (E : bq_E) (h : Int64) : Prop := ∃ M, zq_mod g E m M ∧ zm_scx M0 M ∧ M.2.2 = h
theorem zd_ok {M0 : zq_M} (hN : zs_ok M0 n t) {M : zq_M} (s : zm_scx M0 M) : zs_ok M n t := fun j hj => by rw [s.1 1 (by omega)]; exact hN j hj
variable {M0 : zq_M} {h : Int64}
theorem zm_m2 (K : Int32 → bq_E → Option bq_E) (hi : zi_inv n t) (hN : zs_ok M0 n t) (hk : k < n) : ∀ (N w : Nat) (h : Int64) (E1 : bq_E), 9 - w < N → w ≤ 9 → zd_at g m M0 E1 h → ∃ E2 y, tl_X7_mixNode_2 m (nI k) K N (nI w) E1 = K y E2 ∧ zd_at g m M0 E2 (zd_up (zv_val (t.2 k)) (9 - w) w h) ∧ zq_same E1 E2 m (m + 8) := by
  intro N
  induction N with
  | zero => intro w h E1 q; omega
  | succ N ih =>
    intro w h E1 hN2 hw hA
    obtain ⟨M, H, sx, hm⟩ := id hA
    rw [tl_X7_mixNode_2.eq_2]
    by_cases q : w < 9
    · rw [if_neg (show ¬ (9 : Int32) ≤ nI w from nI_ge (b := 9) q (by omega))]
      obtain ⟨E2, M2, a2, H2, c2, s2⟩ := zm_value H hi (zd_ok hN sx) hk (w := w) (by omega)
      rw [a2]
      simp only [zq_bindE]
      obtain ⟨E3, M3, a3, H3, c3, e3, s3⟩ := zm_mix H2 (zv_val (t.2 k) w)
      rw [a3]
      simp only [zq_bindE, zq_letE]
      rw [nI_1]
      obtain ⟨E4, y, a4, b4, s4⟩ := ih (w + 1) (zd_mix h (zv_val (t.2 k) w)) E3 (by omega) (by omega) ⟨M3, H3, (sx.trans c2.scx).trans c3, by rw [e3, c2.2.2, hm]⟩
      rw [show 9 - w = (9 - (w + 1)) + 1 by omega]
      exact ⟨E4, y, a4, b4, (s2.trans s3).trans s4⟩
    · rw [if_pos (show (9 : Int32) ≤ nI w from nI_le (a := 9) (by omega) (by omega)), show w = 9 by omega]
      exact ⟨E1, _, rfl, hA, zq_same.refl⟩
theorem zm_m26 (K : Int32 → bq_E → Option bq_E) (hi : zi_inv n t) (hN : zs_ok M0 n t) (hk : k < n) : ∀ (N i : Nat) (h : Int64) (E1 : bq_E), ((t.2 k).2 0).length - i < N → i ≤ ((t.2 k).2 0).length → zd_at g m M0 E1 h → ∃ E2 y, tl_X7_mixNode_26 m (nI k) K N (nI i) E1 = K y E2 ∧ zd_at g m M0 E2 (zd_up (zv_base (t.2 k)) (((t.2 k).2 0).length - i) i h) ∧ zq_same E1 E2 m (m + 8) := by
  have h15 := hi.1.1.2
  have hl := (hi.cat hk).1.2
  intro N
  induction N with
  | zero => intro i h E1 q; omega
  | succ N ih =>
    intro i h E1 hN2 hw hA
    obtain ⟨M, H, sx, hm⟩ := id hA
    have has : zm_has g E1 m M k (t.2 k) := ⟨H, by omega, zd_ok hN sx k hk, hi.cat hk⟩
    rw [tl_X7_mixNode_26.eq_2, zm_o3 has]
    simp only [zq_bindE]
    by_cases q : i < ((t.2 k).2 0).length
    · rw [if_neg (nI_ge q (by omega)), zm_baseOf has q]
      simp only [zq_bindE]
      obtain ⟨E3, M3, a3, H3, c3, e3, s3⟩ := zm_mix H (zv_base (t.2 k) i)
      rw [a3]
      simp only [zq_bindE, zq_letE]
      rw [nI_1]
      obtain ⟨E4, y, a4, b4, s4⟩ := ih (i + 1) (zd_mix h (zv_base (t.2 k) i)) E3 (by omega) (by omega) ⟨M3, H3, sx.trans c3, by rw [e3, hm]⟩
      rw [show ((t.2 k).2 0).length - i = (((t.2 k).2 0).length - (i + 1)) + 1 by omega]
      exact ⟨E4, y, a4, b4, s3.trans s4⟩
    · have e : i = ((t.2 k).2 0).length := by omega
      rw [if_pos (nI_le (by omega) (by omega)), e, Nat.sub_self]
      exact ⟨E1, _, rfl, hA, zq_same.refl⟩
theorem zm_m54 (K : Int32 → bq_E → Option bq_E) (hi : zi_inv n t) (hN : zs_ok M0 n t) (hk : k < n) : ∀ (N i : Nat) (h : Int64) (E1 : bq_E), ((t.2 k).2 2).length - i < N → i ≤ ((t.2 k).2 2).length → zd_at g m M0 E1 h → ∃ E2 y, tl_X7_mixNode_54 m (nI k) K N (nI i) E1 = K y E2 ∧ zd_at g m M0 E2 (zd_up (zn_gM ((t.2 k).2 2)) (((t.2 k).2 2).length - i) i h) ∧ zq_same E1 E2 m (m + 8) := by
  have h15 := hi.1.1.2
  have hl := (hi.cat hk).2.1
  intro N
  induction N with
  | zero => intro i h E1 q; omega
  | succ N ih =>
    intro i h E1 hN2 hw hA
    obtain ⟨M, H, sx, hm⟩ := id hA
    have has : zm_has g E1 m M k (t.2 k) := ⟨H, by omega, zd_ok hN sx k hk, hi.cat hk⟩
    rw [tl_X7_mixNode_54.eq_2, zm_o52 has]
    simp only [zq_bindE]
    by_cases q : i < ((t.2 k).2 2).length
    · rw [if_neg (nI_ge q (by omega)), zm_oF has q, ← zn_gM_in q]
      simp only [zq_bindE]
      obtain ⟨E3, M3, a3, H3, c3, e3, s3⟩ := zm_mix H (zn_gM ((t.2 k).2 2) i)
      rw [a3]
      simp only [zq_bindE, zq_letE]
      rw [nI_1]
      obtain ⟨E4, y, a4, b4, s4⟩ := ih (i + 1) (zd_mix h (zn_gM ((t.2 k).2 2) i)) E3 (by omega) (by omega) ⟨M3, H3, sx.trans c3, by rw [e3, hm]⟩
      rw [show ((t.2 k).2 2).length - i = (((t.2 k).2 2).length - (i + 1)) + 1 by omega]
      exact ⟨E4, y, a4, b4, s3.trans s4⟩
    · have e : i = ((t.2 k).2 2).length := by omega
      rw [if_pos (nI_le (by omega) (by omega)), e, Nat.sub_self]
      exact ⟨E1, _, rfl, hA, zq_same.refl⟩
theorem zm_m126 (K : Int32 → bq_E → Option bq_E) (hi : zi_inv n t) (hN : zs_ok M0 n t) (hk : k < n) {i : Nat} (hil : i < ((t.2 k).2 3).length) : ∀ (N j : Nat) (h : Int64) (E1 : bq_E), 3 - j < N → j ≤ 3 → zd_at g m M0 E1 h → ∃ E2 y, tl_X7_mixNode_126 m (nI k) (nI i) K N (nI j) E1 = K y E2 ∧ zd_at g m M0 E2 (zd_up (zd_br (t.2 k) i) (3 - j) j h) ∧ zq_same E1 E2 m (m + 8) := by
  have h15 := hi.1.1.2
  intro N
  induction N with
  | zero => intro j h E1 q; omega
  | succ N ih =>
    intro j h E1 hN2 hj hA
    obtain ⟨M, H, sx, hm⟩ := id hA
    have has : zm_has g E1 m M k (t.2 k) := ⟨H, by omega, zd_ok hN sx k hk, hi.cat hk⟩
    rw [tl_X7_mixNode_126.eq_2]
    by_cases q : j < 3
    · rw [if_neg (show ¬ (2 : Int32) < nI j from nI_nlt (a := 2) (by omega) (by omega)), zm_oR has q (by omega)]
      simp only [zq_bindE]
      obtain ⟨E3, M3, a3, H3, c3, e3, s3⟩ := zm_mix H (zd_br (t.2 k) i j)
      rw [show nI (((t.2 k).2 (5 + j)).getD i 0) = zd_br (t.2 k) i j from rfl, a3]
      simp only [zq_bindE, zq_letE]
      rw [nI_1]
      obtain ⟨E4, y, a4, b4, s4⟩ := ih (j + 1) (zd_mix h (zd_br (t.2 k) i j)) E3 (by omega) (by omega) ⟨M3, H3, sx.trans c3, by rw [e3, hm]⟩
      rw [show 3 - j = (3 - (j + 1)) + 1 by omega]
      exact ⟨E4, y, a4, b4, s3.trans s4⟩
    · rw [if_pos (show (2 : Int32) < nI j from nI_lt (a := 2) (by omega) (by omega)), show j = 3 by omega]
      exact ⟨E1, _, rfl, hA, zq_same.refl⟩
theorem zm_m86 (hi : zi_inv n t) (hN : zs_ok M0 n t) (hk : k < n) : ∀ (N i : Nat) (h : Int64) (E1 : bq_E), ((t.2 k).2 3).length - i < N → i ≤ ((t.2 k).2 3).length → zd_at g m M0 E1 h → ∃ E2, tl_X7_mixNode_86 m (nI k) N (nI i) E1 = some E2 ∧ zd_at g m M0 E2 (zd_mix (zd_rows (t.2 k) (((t.2 k).2 3).length - i) i h) (zw_most t (zw_P t k) (zw_L t k))) ∧ zq_same E1 E2 m (m + 8) := by
  have h15 := hi.1.1.2
  have hcat := hi.cat hk
  have hl := hcat.2.2.1
  intro N
  induction N with
  | zero => intro i h E1 q; omega
  | succ N ih =>
    intro i h E1 hN2 hw hA
    obtain ⟨M, H, sx, hm⟩ := id hA
    have has : zm_has g E1 m M k (t.2 k) := ⟨H, by omega, zd_ok hN sx k hk, hcat⟩
    rw [tl_X7_mixNode_86.eq_2, zm_o61 has]
    simp only [zq_bindE]
    by_cases q : i < ((t.2 k).2 3).length
    · rw [if_neg (nI_ge q (by omega)), zm_oK has q, ← zn_gM_in q]
      simp only [zq_bindE]
      obtain ⟨E2, M2, a2, H2, c2, e2, s2⟩ := zm_mix H (zn_gM ((t.2 k).2 3) i)
      rw [a2]
      simp only [zq_bindE]
      have has2 : zm_has g E2 m M2 k (t.2 k) := ⟨H2, by omega, zd_ok hN (sx.trans c2) k hk, hcat⟩
      rw [zm_oO has2 q, ← zn_gM_in (by omega)]
      simp only [zq_bindE]
      obtain ⟨E3, M3, a3, H3, c3, e3, s3⟩ := zm_mix H2 (zn_gM ((t.2 k).2 4) i)
      rw [a3]
      simp only [zq_bindE]
      obtain ⟨E4, y, a4, b4, s4⟩ := zm_m126 (fun y8608 E8609 =>
      bq_let (nI i + 1) fun v8610 =>
    tl_X7_mixNode_86 m (nI k) N v8610 E8609) hi hN hk q bq_fuel 0 (zd_mix (zd_mix h (zn_gM ((t.2 k).2 3) i)) (zn_gM ((t.2 k).2 4) i)) E3 (bq_fuel_ge (by omega)) (Nat.zero_le _) ⟨M3, H3, (sx.trans c2).trans c3, by rw [e3, e2, hm]⟩
      rw [show (0 : Int32) = nI 0 from rfl, a4]
      simp only [zq_letE]
      rw [nI_1]
      obtain ⟨E5, a5, b5, s5⟩ := ih (i + 1) _ E4 (by omega) (by omega) b4
      rw [show ((t.2 k).2 3).length - i = (((t.2 k).2 3).length - (i + 1)) + 1 by omega]
      exact ⟨E5, a5, b5, ((s2.trans s3).trans s4).trans s5⟩
    · have e : i = ((t.2 k).2 3).length := by omega
      rw [if_pos (nI_le (by omega) (by omega)), e, Nat.sub_self]
      obtain ⟨E2, M2, a2, H2, c2, s2⟩ := zm_worstOf H hi (zd_ok hN sx) hk
      rw [a2]
      simp only [zq_bindE]
      obtain ⟨E3, M3, a3, H3, c3, e3, s3⟩ := zm_mix H2 (zw_most t (zw_P t k) (zw_L t k))
      rw [a3]
      exact ⟨E3, rfl, ⟨M3, H3, (sx.trans c2.scx).trans c3, by rw [e3, c2.2.2, hm]; rfl⟩, s2.trans s3⟩
theorem zm_mixNode (hi : zi_inv n t) (hN : zs_ok M0 n t) (hk : k < n) (hA : zd_at g m M0 E h) : ∃ E', tw_X7_mixNode E m (nI k) = some E' ∧ zd_at g m M0 E' (zd_node t k h) ∧ zq_same E E' m (m + 8) := by
  have hcat := hi.cat hk
  have l0 := hcat.1.2
  have l2 := hcat.2.1
  have l3 := hcat.2.2.1.2
  unfold tw_X7_mixNode
  obtain ⟨M, H, _⟩ := id hA
  rw [if_pos (zq_cls H.1), show (0 : Int32) = nI 0 from rfl]
  obtain ⟨E1, y1, a1, b1, s1⟩ := zm_m2 (fun y1 E2 =>
    tl_X7_mixNode_26 m (nI k) (fun y3 E4 =>
    tl_X7_mixNode_54 m (nI k) (fun y5 E6 =>
    tl_X7_mixNode_86 m (nI k) bq_fuel (nI 0) E6) bq_fuel (nI 0) E4) bq_fuel (nI 0) E2) hi hN hk bq_fuel 0 h E (bq_fuel_ge (by omega)) (by omega) hA
  rw [a1]
  obtain ⟨E2, y2, a2, b2, s2⟩ := zm_m26 (fun y3 E4 =>
    tl_X7_mixNode_54 m (nI k) (fun y5 E6 =>
    tl_X7_mixNode_86 m (nI k) bq_fuel (nI 0) E6) bq_fuel (nI 0) E4) hi hN hk bq_fuel 0 _ E1 (bq_fuel_ge (by omega)) (Nat.zero_le _) b1
  rw [a2]
  obtain ⟨E3, y3, a3, b3, s3⟩ := zm_m54 (fun y5 E6 =>
    tl_X7_mixNode_86 m (nI k) bq_fuel (nI 0) E6) hi hN hk bq_fuel 0 _ E2 (bq_fuel_ge (by omega)) (Nat.zero_le _) b2
  rw [a3]
  obtain ⟨E4, a4, b4, s4⟩ := zm_m86 hi hN hk bq_fuel 0 _ E3 (bq_fuel_ge (by omega)) (Nat.zero_le _) b3
  exact ⟨E4, a4, b4, ((s1.trans s2).trans s3).trans s4⟩
theorem zm_digest (H : zq_mod g E m M) (hi : zi_inv n t) (hr : zs_rel (M.1 1) n t) (hc : M.2.1 3 = nI cnt) : ∃ E' M', tw_X7_digest E m = some (zd_dig n t cnt, E') ∧ zq_mod g E' m M' ∧ M'.1 1 = M.1 1 ∧ M'.1 2 = M.1 2 ∧ M'.2.1 3 = M.2.1 3 ∧ zq_same E E' m (m + 8) := by
  have h15 := hi.1.1.2
  obtain ⟨r0, r1, r2, _⟩ := hr.1
  unfold tw_X7_digest
  rw [if_pos (zq_cls H.1)]
  obtain ⟨E1, a1, H1, s1⟩ := zm_put H (k := 4) (by omega) 0
  rw [a1]
  simp only [zq_bindE]
  obtain ⟨E2, a2, H2, s2⟩ := zm_putX H1 18592
  rw [a2]
  simp only [zq_bindE]
  obtain ⟨M2, hM2⟩ : ∃ M2, M2 = zm_X (zm_I M 4 0) 18592 := ⟨_, rfl⟩
  rw [← hM2] at H2
  have e3 : M2.2.1 3 = nI cnt := by
    rw [hM2, ← hc]
    show (zm_I M 4 0).2.1 3 = M.2.1 3
    exact zm_In (by omega)
  have e1 : M2.1 = M.1 := by rw [hM2]; rfl
  have hN : zs_ok M2 n t := fun j hj => by rw [e1]; exact hr.2 j hj
  have rd : ∀ (E : bq_E) (M3 : zq_M), zq_mod g E m M3 → zm_scx M2 M3 → ∀ i, i < 8183 → bq_ai E (m + 1) (nI i) = some (M.1 1 i) := fun E M3 hm hs i hi => by
    rw [zm_ai hm (j := 1) (by omega) hi, hs.1 1 (by omega), e1]
  rw [zm_i3 H2, e3]
  simp only [zq_bindE]
  obtain ⟨E3, M3, a3, H3, c3, x3, s3⟩ := zm_mix H2 (nI cnt)
  rw [a3, show (1 : Int32) = nI 1 from rfl, show (2 : Int32) = nI 2 from rfl, show (0 : Int32) = nI 0 from rfl]
  simp only [zq_bindE]
  rw [zm_r1 H3]
  simp only [zq_bindE]
  rw [rd E3 M3 H3 c3 1 (by omega), r1]
  simp only [zq_bindE]
  obtain ⟨E4, M4, a4, H4, c4, x4, s4⟩ := zm_mix H3 (t.1 4)
  rw [a4]
  simp only [zq_bindE]
  rw [zm_r1 H4]
  simp only [zq_bindE]
  rw [rd E4 M4 H4 (c3.trans c4) 2 (by omega), r2]
  simp only [zq_bindE]
  obtain ⟨E5, M5, a5, H5, c5, x5, s5⟩ := zm_mix H4 (t.1 5)
  rw [a5]
  simp only [zq_bindE]
  rw [zm_r1 H5]
  simp only [zq_bindE]
  rw [rd E5 M5 H5 ((c3.trans c4).trans c5) 0 (by omega), r0]
  simp only [zq_bindE]
  obtain ⟨E6, M6, a6, H6, c6, x6, s6⟩ := zm_mix H5 (nI n)
  rw [a6]
  simp only [zq_bindE]
  have hA : zd_at g m M2 E6 (zd_mix (zd_mix (zd_mix (zd_mix 18592 (nI cnt)) (t.1 4)) (t.1 5)) (nI n)) := ⟨M6, H6, ((c3.trans c4).trans c5).trans c6, by rw [x6, x5, x4, x3, hM2]; rfl⟩
  have l52 : ∀ (K : Int32 → bq_E → Option (Int64 × bq_E)) (N i : Nat) (h : Int64) (E1 : bq_E), n - i < N → i ≤ n → zd_at g m M2 E1 h → ∃ E2 y, tl_X7_digest_52 m K N (nI i) E1 = K y E2 ∧ zd_at g m M2 E2 (zd_nodes t (n - i) i h) ∧ zq_same E1 E2 m (m + 8) := by
    intro K N
    induction N with
    | zero => intro i h E1 q; omega
    | succ N ih =>
      intro i h E1 hN2 hin hA
      obtain ⟨M, H, sx, hm⟩ := id hA
      rw [tl_X7_digest_52.eq_2, zm_r1 H, show (0 : Int32) = nI 0 from rfl]
      simp only [zq_bindE]
      rw [rd E1 M H sx 0 (by omega), r0]
      simp only [zq_bindE]
      by_cases q : i < n
      · rw [if_neg (nI_ge q (by omega))]
        obtain ⟨E2, a2, b2, s2⟩ := zm_mixNode hi hN q hA
        rw [a2]
        simp only [zq_bindE, zq_letE]
        rw [nI_1, show n - i = (n - (i + 1)) + 1 by omega]
        obtain ⟨E3, y, a3, b3, s3⟩ := ih (i + 1) (zd_node t i h) E2 (by omega) (by omega) b2
        exact ⟨E3, y, a3, b3, s2.trans s3⟩
      · have e : i = n := by omega
        rw [if_pos (nI_le (by omega) (by omega)), e, Nat.sub_self]
        exact ⟨E1, _, rfl, hA, zq_same.refl⟩
  have l75 : ∀ (N w : Nat) (h : Int64) (E1 : bq_E), 7 - w < N → w ≤ 7 → zd_at g m M2 E1 h → ∃ E2, tl_X7_digest_75 m N (nI w) E1 = some (zd_up (zv_cnt t n) (7 - w) w h, E2) ∧ zd_at g m M2 E2 (zd_up (zv_cnt t n) (7 - w) w h) ∧ zq_same E1 E2 m (m + 8) := by
    intro N
    induction N with
    | zero => intro w h E1 q; omega
    | succ N ih =>
      intro w h E1 hN2 hw hA
      obtain ⟨M, H, sx, hm⟩ := id hA
      rw [tl_X7_digest_75.eq_2]
      by_cases q : w < 7
      · rw [if_neg (show ¬ (7 : Int32) ≤ nI w from nI_ge (b := 7) q (by omega)), zm_counted H hi (by rw [sx.1 1 (by omega), e1]; exact hr) (by omega)]
        simp only [zq_bindE]
        obtain ⟨E3, M3, a3, H3, c3, e3, s3⟩ := zm_mix H (zv_cnt t n w)
        rw [a3]
        simp only [zq_bindE, zq_letE]
        rw [nI_1, show 7 - w = (7 - (w + 1)) + 1 by omega]
        obtain ⟨E4, a4, b4, s4⟩ := ih (w + 1) (zd_mix h (zv_cnt t n w)) E3 (by omega) (by omega) ⟨M3, H3, sx.trans c3, by rw [e3, hm]⟩
        exact ⟨E4, a4, b4, s3.trans s4⟩
      · rw [if_pos (show (7 : Int32) ≤ nI w from nI_le (a := 7) (by omega) (by omega)), show w = 7 by omega, zm_x H, hm]
        exact ⟨E1, rfl, hA, zq_same.refl⟩
  obtain ⟨E7, y7, a7, b7, s7⟩ := l52 (fun y14 E15 => tl_X7_digest_75 m bq_fuel (nI 0) E15) bq_fuel 0 _ E6 (bq_fuel_ge (by omega)) (Nat.zero_le _) hA
  rw [a7]
  obtain ⟨E8, a8, ⟨M8, H8, c8, x8⟩, s8⟩ := l75 bq_fuel 0 _ E7 (bq_fuel_ge (by omega)) (by omega) b7
  refine ⟨E8, M8, a8, H8, ?_, ?_, ?_, ((((((s1.trans s2).trans s3).trans s4).trans s5).trans s6).trans s7).trans s8⟩
  · rw [c8.1 1 (by omega), e1]
  · rw [c8.1 2 (by omega), e1]
  · rw [c8.2 3 (by omega) (by omega), e3, hc]
end ZdB
theorem zo_digest {g : bq_G} {E : bq_E} {z : Nat} (h : zz_E g E z) : ∃ v E1 E2, tw_X6_digest E z = some (Sum.inl v, E1) ∧ tw_X7_digest E1 (z + 1378) = some (v, E2) ∧ zz_E g E2 z := by
  obtain ⟨n, t, u, p, cnt, M, hf, hm, hr, f, ho⟩ := h
  obtain ⟨E1, a1, f1, s1⟩ := zf_digest hf hr.2.1
  have H1 := hm.same s1 (Or.inr (by omega))
  obtain ⟨E2, M2, a2, H2, b2, c2, d2, s2⟩ := zm_digest H1 hr.2.1 hr.1 hr.2.2.1.1
  exact ⟨_, E1, E2, a1, a2, n, t, u, p, cnt, M2, f1.same s2 (Or.inl (by omega)), H2, hr.congr b2 c2 d2, f, (ho.same s1 (Or.inr (by omega))).same s2 (Or.inr (by omega))⟩
theorem zo_nodes {g : bq_G} {E : bq_E} {z : Nat} (h : zz_E g E z) : ∃ v E2, tw_X6_nodes E z = some v ∧ tw_X7_nodes E (z + 1378) = some (v, E2) ∧ zz_E g E2 z := by
  obtain ⟨n, t, u, p, cnt, M, hf, hm, hr, f, ho⟩ := h
  obtain ⟨E2, M2, a2, H2, r2, e2, s2⟩ := zz_tells hm (nI n) hr
  refine ⟨nI n, E2, ?_, ?_, n, t, u, p, cnt, M2, hf.same s2 (Or.inl (by omega)), H2, r2, f, ho.same s2 (Or.inr (by omega))⟩
  · unfold tw_X6_nodes
    rw [if_pos (zq_cls hf.1), hf.rT]
    simp only [zq_bindE]
    rw [hf.2.1.int (k := 3) (by omega), hr.2.1.1.2.1]
    rfl
  · unfold tw_X7_nodes
    rw [if_pos (zq_cls hm.1), zm_r1 hm]
    simp only [zq_bindE]
    rw [show (0 : Int32) = nI 0 from rfl, zm_ai hm (j := 1) (by omega) (by show 0 < 8183; omega), hr.1.1.1]
    exact a2
