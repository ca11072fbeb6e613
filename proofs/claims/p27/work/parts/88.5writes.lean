/-! The law's writing: a key comes, a key goes, as the class has it. -/
theorem zt_up_row (st : Nat) : ∀ (d k : Nat) (a : Int32) (t : zq_T) (j i : Nat), i < 3 → ((zt_up st d k a t).2.2 j).2 i = (t.2 j).2 i
  | 0, _, _, _, _, _, _ => rfl
  | d + 1, k, a, t, j, i, h => by
    refine (zt_up_row st d _ _ (zt_b1 st t k) j i h).trans ?_
    by_cases q : j = k
    · subst q; rw [zt_b1_k, zc_built_low _ _ _ _ h]
    · rw [zt_b1_n st t q]
section PwA
variable {g : bq_G} {E : bq_E} {z i key st : Nat} {t : zq_T}
theorem zt_renew_row {k j r : Nat} (h : r < 3) : ((zt_renew st k t).2.2 j).2 r = (va_up t.2 k (zc_settled (t.2 k)) j).2 r := zt_up_row st _ k 0 (zt_settled t k) j r h
theorem zt_renew_int {k j : Nat} (h : j ≠ 8 ∧ j ≠ 9) : (zt_renew st k t).2.1 j = va_up t.1 10 (t.1 10 + 1) j := zt_up_int5 st _ k 0 (zt_settled t k) j h
/-- the rows hold the state t -/
def pw_arr (g : bq_G) (E : bq_E) (z : Nat) (t : zq_T) : Prop := pa_arr g E z t.2 (t.1 4) (t.1 5) (t.1 10)
theorem pw_renew {v : zq_N} (h : pa_arr g E z (va_up t.2 i (zc_settled (t.2 i))) (t.1 4) (t.1 5) (t.1 10 + 1)) : pw_arr g E z (zt_renew st i t).2 := by
  unfold pw_arr
  rw [zt_renew_int (by omega), zt_renew_int (by omega), zt_renew_int (by omega), va_up_ne _ _ (by omega), va_up_ne _ _ (by omega), va_up_self]
  exact h.congr (fun j _ r hr => zt_renew_row hr)
theorem pw_settle (h : pw_arr g E z t) (hi : i < 3) (hx : zi_hx 8 (t.2 i)) (hb : ∀ j, j < 3 → ((t.2 j).2 2).length ≤ 8) (hd : E (z + 1383) = .inr (99, [])) : ∃ E', tw_L_settle E (z + 1378 + i) (z + 1381) (z + 1382) (nI i) = some E' ∧ pw_arr g E' z (zt_renew st i t).2 ∧ zq_same E E' (z + 1378) (z + 1383) := by
  obtain ⟨E1, a1, b1, s1⟩ := pa_settled h hi hx hb hd
  exact ⟨E1, a1, pw_renew (v := t.2 i) b1, s1⟩
/-- a base's entry is written anew: its mark is b -/
theorem pw_mark {w : Nat → zq_N} {c s r : Int32} {b : Nat} (h : pa_arr g E z w c s r) (hi : i < 3) (hx : zi_hx 8 (w i)) (hb : ∀ j, j < 3 → ((w j).2 2).length ≤ 8) {p : Nat} (hp : p < ((w i).2 0).length) (x4 : Int32) : ∃ E', bq_si E (z + 1378 + i) (nI p) (nI (((w i).2 0).getD p 0 + 10000 * b)) = some E' ∧ pa_arr g E' z (va_up w i (zc_mark (w i) p b x4)) c s r ∧ zq_same E E' (z + 1378) (z + 1383) := by
  obtain ⟨f, fu, fn, hA, hN⟩ := h
  have h24 := hx.1.1.2
  have hm := hx.1.1.1
  obtain ⟨E1, a1, A1, s1⟩ := hA.sb hi (k := p) (by omega) (nI (((w i).2 0).getD p 0 + 10000 * b))
  obtain ⟨n1, n2, n3, n4⟩ := hN.1 i hi
  refine ⟨E1, a1, ⟨_, _, _, A1, hN.node hi hb ⟨?_, ?_, fun k hk => ?_, fun k hk => ?_⟩ (fun _ _ => rfl) (fun _ _ _ _ => rfl) hN.2⟩, s1⟩
  · rw [zc_mark_r0]; exact n1
  · rw [zc_mark_rj _ (by omega)]; exact n2
  · rw [zc_mark_r0] at hk
    have e : pa_e (zc_mark (w i) p b x4) k = if k = p then ((w i).2 0).getD p 0 + 10000 * b else pa_e (w i) k := by
      unfold pa_e
      rw [zc_mark_r0, zc_mark_r1]
      by_cases q : k = p
      · subst q
        rw [if_pos rfl]
        have : (((w i).2 1).set k b).getD k 0 = b := by simp [List.getD, show k < ((w i).2 1).length by omega]
        rw [this]
      · rw [if_neg q]
        have : (((w i).2 1).set p b).getD k 0 = ((w i).2 1).getD k 0 := by simp [List.getD, List.getElem?_set_ne (show p ≠ k from fun e => q e.symm)]
        rw [this]
    rw [e]
    by_cases q : k = p
    · rw [if_pos q, q, pk_us]
    · rw [if_neg q, pk_un q]
      exact n3 k hk
  · rw [zc_mark_rj _ (by omega)] at hk ⊢
    exact n4 k hk
theorem pw_put (h : pw_arr g E z t) (hv : zi_inv 3 t) (hi : i < 3) (h5 : t.1 5 = nI st) (hst : 2 ≤ st ∧ st ≤ 5) (hd : E (z + 1383) = .inr (99, [])) (hkey : key < 10000) (hh : zc_has (t.2 i) key = false) (hfull : (zc_newbase (t.2 i)).length < 24) : ∃ E', tw_L_put E (z + 1378 + i) (z + 1381) (z + 1382) (nI i) (nI key) = some E' ∧ pw_arr g E' z (zt_takeIn st i key t).2 ∧ zq_same E E' (z + 1378) (z + 1383) := by
  have hc := hv.2.2.2.1 i hi
  have hx : zi_hx 8 (t.2 i) := hc.up (by omega)
  have hb8 : ∀ j, j < 3 → ((t.2 j).2 2).length ≤ 8 := fun j hj => by have := (hv.2.2.2.1 j hj).2.2.2; omega
  have h7 := hc.2.2.2
  have h24 := hc.1.1.2
  have hV := h.v hi hx
  obtain ⟨u1, u2⟩ := zc_has_false hh
  obtain ⟨_, _, _, hpre, _⟩ := zt_take_inv hv hi h5 hst hkey (fun _ => hfull)
  obtain ⟨hp1, _⟩ := hpre hh
  unfold tw_L_put zt_takeIn
  rw [hh, if_neg (show ¬ false = true by decide), pa_inBase hV hkey]
  simp only [zq_bindE]
  by_cases hin : key ∈ (t.2 i).2 0
  · have hp := zn_pos_in.mpr hin
    rw [if_pos hin, if_pos hp, if_neg (nI_pos (by omega))]
    have ek : ((t.2 i).2 0).getD (zn_pos key ((t.2 i).2 0)) 0 = key := (zn_pos_at (hc.2.1.1.imp (fun {a b} q => Nat.ne_of_lt q)) hp).mpr rfl
    obtain ⟨E1, a1, b1, s1⟩ := pw_mark (b := 0) h hi hx hb8 hp ((t.2 i).1 4 - 1)
    rw [ek, show key + 10000 * 0 = key from rfl] at a1
    rw [a1]
    simp only [zq_bindE]
    refine ⟨E1, rfl, ?_, s1⟩
    have e : zc_take1 (t.2 i) key = zc_mark (t.2 i) (zn_pos key ((t.2 i).2 0)) 0 ((t.2 i).1 4 - 1) := by
      unfold zc_take1
      rw [if_pos hin]
      rfl
    rw [e]
    exact b1
  · rw [if_neg hin, if_neg (fun w => hin (zn_pos_in.mp w)), if_pos pa_m1, hV.m]
    simp only [zq_bindE]
    have e : zc_take1 (t.2 i) key = zc_buf (t.2 i) ((t.2 i).2 2 ++ [key]) := by
      unfold zc_take1
      rw [if_neg hin]
      rfl
    obtain ⟨f, fu, fn, hA, hN⟩ := h
    obtain ⟨n1, n2, n3, n4⟩ := hN.1 i hi
    obtain ⟨E1, a1, A1, s1⟩ := hA.su (k := 8 * i + ((t.2 i).2 2).length) (by omega) (nI key)
    rw [pa_8m, a1]
    simp only [zq_bindE]
    rw [pa_8, A1.rn (by omega), n2]
    simp only [zq_bindE]
    obtain ⟨E2, a2, A2, s2⟩ := A1.sn (k := 8 + i) (by omega) (nI (((t.2 i).2 2).length + 1))
    rw [nI_1, a2]
    simp only [zq_bindE]
    rw [A2.rn (by omega), pk_us, show (17 : Int32) = nI 17 from rfl, A2.rn (by omega), pk_un (by omega), hN.2.1]
    simp only [zq_bindE]
    have s12 := s1.trans s2
    have hl : ((t.2 i).2 2 ++ [key]).length = ((t.2 i).2 2).length + 1 := by simp
    have arr : pw_arr g E2 z (zt_C t i (zc_take1 (t.2 i) key)) := by
      rw [e]
      refine ⟨va_up f i (f i), upd fu (8 * i + ((t.2 i).2 2).length) (nI key), upd fn (8 + i) (nI (((t.2 i).2 2).length + 1)), ?_, hN.node hi hb8 (v := zc_buf (t.2 i) ((t.2 i).2 2 ++ [key])) (fb := f i) (fu' := upd fu (8 * i + ((t.2 i).2 2).length) (nI key)) (fn' := upd fn (8 + i) (nI (((t.2 i).2 2).length + 1))) ⟨?_, ?_, fun k hk => ?_, fun k hk => ?_⟩ (fun k hk => ?_) (fun k k1 k2 k3 => ?_) ⟨?_, ?_, ?_⟩⟩
      · have ef : va_up f i (f i) = f := by
          funext j
          by_cases q : j = i
          · subst q; rw [va_up_self]
          · rw [va_up_ne _ _ q]
        rw [ef]
        exact A2
      · rw [pk_un (by omega), zc_buf_rj _ (by omega)]; exact n1
      · rw [pk_us, zc_buf_r2, hl]
      · rw [zc_buf_rj _ (by omega)] at hk
        have : pa_e (zc_buf (t.2 i) ((t.2 i).2 2 ++ [key])) k = pa_e (t.2 i) k := by
          unfold pa_e
          rw [zc_buf_rj _ (by omega), zc_buf_rj _ (by omega)]
        rw [this]
        exact n3 k hk
      · rw [zc_buf_r2] at hk ⊢
        rw [hl] at hk
        by_cases q : k = ((t.2 i).2 2).length
        · subst q
          rw [pk_us]
          have : ((t.2 i).2 2 ++ [key]).getD ((t.2 i).2 2).length 0 = key := by simp [List.getD]
          rw [this]
        · rw [pk_un (by omega), n4 k (by omega)]
          have : ((t.2 i).2 2 ++ [key]).getD k 0 = ((t.2 i).2 2).getD k 0 := by
            simp only [List.getD]
            rw [List.getElem?_append_left (by omega)]
          rw [this]
      · exact pk_un (by omega)
      · exact pk_un k2
      · rw [pk_un (by omega)]; exact hN.2.1
      · rw [pk_un (by omega)]; exact hN.2.2.1
      · rw [pk_un (by omega)]; exact hN.2.2.2
    by_cases hlt : nI (((t.2 i).2 2).length + 1) < t.1 4
    · rw [if_pos hlt, if_pos hlt]
      exact ⟨E2, rfl, arr, s12⟩
    · rw [if_neg hlt, if_neg hlt]
      have hx2 : zi_hx 8 ((zt_C t i (zc_take1 (t.2 i) key)).2 i) := hp1.2.2.2.1.2
      obtain ⟨E3, a3, b3, s3⟩ := pw_settle (st := st) arr hi hx2 (fun j hj => by
        by_cases q : j = i
        · subst q; exact hx2.2.2.2
        · rw [zt_Cn q]; exact hb8 j hj) ((s12 _ (by omega)).trans hd)
      rw [a3]
      simp only [zq_bindE]
      exact ⟨E3, rfl, b3, s12.trans s3⟩
/-- the buffer moves up -/
def pw_fu (fu : Nat → Int32) (lo hi : Nat) : Nat → Int32 := fun j => if lo ≤ j ∧ j < hi then fu (j + 1) else fu j
theorem pw_311 {f : Nat → Nat → Int32} {fu fn : Nat → Int32} {x9 x10 : Int32} {m p : Nat} (hi : i < 3) (hm : m < 8) (hn : fn (8 + i) = nI m) (K : Int32 → bq_E → Option (Bool × bq_E)) : ∀ (N k : Nat) (E : bq_E), m - k < N → p ≤ k → k ≤ m → pa_A g E z f (pw_fu fu (8 * i + p) (8 * i + k)) fn →
    ∃ E', tl_L_acts_311 z (z + 1381) (z + 1382) (nI i) x9 x10 K N (nI k) E = K (nI m) E' ∧ pa_A g E' z f (pw_fu fu (8 * i + p) (8 * i + m)) fn ∧ zq_same E E' (z + 1378) (z + 1383) := by
  intro N
  induction N with
  | zero => intro k E hN; omega
  | succ N ih =>
    intro k E hN hp hk hA
    rw [tl_L_acts_311.eq_2, pa_8, hA.rn (by omega), hn]
    simp only [zq_bindE]
    by_cases q : m ≤ k
    · rw [if_pos (nI_le q (by omega)), show k = m by omega]
      rw [show k = m by omega] at hA
      exact ⟨E, rfl, hA, zq_same.refl⟩
    · rw [if_neg (nI_ge (by omega) (by omega)), pa_8m, nI_1, hA.ru (by omega)]
      simp only [zq_bindE]
      obtain ⟨E1, a1, A1, s1⟩ := hA.su (k := 8 * i + k) (by omega) (pw_fu fu (8 * i + p) (8 * i + k) (8 * i + k + 1))
      rw [a1]
      simp only [zq_bindE, zq_letE]
      rw [nI_1]
      have ef : upd (pw_fu fu (8 * i + p) (8 * i + k)) (8 * i + k) (pw_fu fu (8 * i + p) (8 * i + k) (8 * i + k + 1)) = pw_fu fu (8 * i + p) (8 * i + (k + 1)) := by
        funext j
        by_cases w : j = 8 * i + k
        · subst w
          rw [pk_us]
          unfold pw_fu
          rw [if_neg (by omega), if_pos (by omega)]
        · rw [pk_un w]
          unfold pw_fu
          by_cases w2 : 8 * i + p ≤ j ∧ j < 8 * i + k
          · rw [if_pos w2, if_pos (by omega)]
          · rw [if_neg w2, if_neg (by omega)]
      rw [ef] at A1
      obtain ⟨E2, a2, A2, s2⟩ := ih (k + 1) E1 (by omega) (by omega) (by omega) A1
      exact ⟨E2, a2, A2, s1.trans s2⟩
/-- a key leaves the buffer -/
theorem pw_cut (h : pw_arr g E z t) (hi : i < 3) (hx : zi_hx 8 (t.2 i)) (hb8 : ∀ j, j < 3 → ((t.2 j).2 2).length ≤ 8) {p : Nat} (hp : p < ((t.2 i).2 2).length) {x9 x10 : Int32} (K : Int32 → bq_E → Option (Bool × bq_E)) : ∃ E1 E', bq_si E (z + 1382) ((8 : Int32) + nI i) (nI ((t.2 i).2 2).length - 1) = some E1 ∧ tl_L_acts_311 z (z + 1381) (z + 1382) (nI i) x9 x10 K bq_fuel (nI p) E1 = K (nI (((t.2 i).2 2).length - 1)) E' ∧ pw_arr g E' z (zt_C t i (zc_buf (t.2 i) (zn_cut ((t.2 i).2 2) p))) ∧ zq_same E E' (z + 1378) (z + 1383) := by
  obtain ⟨f, fu, fn, hA, hN⟩ := h
  obtain ⟨n1, n2, n3, n4⟩ := hN.1 i hi
  have h8 := hx.2.2.2
  have hm1 : nI ((t.2 i).2 2).length - 1 = nI (((t.2 i).2 2).length - 1) := by
    rw [show (1 : Int32) = nI 1 from rfl, pk_sub (by omega)]
  obtain ⟨E1, a1, A1, s1⟩ := hA.sn (k := 8 + i) (by omega) (nI (((t.2 i).2 2).length - 1))
  have e0 : pw_fu fu (8 * i + p) (8 * i + p) = fu := by
    funext j
    unfold pw_fu
    rw [if_neg (by omega)]
  obtain ⟨E2, a2, A2, s2⟩ := pw_311 (g := g) (z := z) (i := i) (f := f) (fu := fu) (fn := upd fn (8 + i) (nI (((t.2 i).2 2).length - 1))) (x9 := x9) (x10 := x10) (m := ((t.2 i).2 2).length - 1) (p := p) hi (by omega) pk_us K bq_fuel p E1 (bq_fuel_ge (by omega)) (Nat.le_refl _) (by omega) (by rw [e0]; exact A1)
  have hcl := zn_cut_len hp
  refine ⟨E1, E2, by rw [pa_8, hm1]; exact a1, a2, ?_, s1.trans s2⟩
  refine ⟨va_up f i (f i), pw_fu fu (8 * i + p) (8 * i + (((t.2 i).2 2).length - 1)), upd fn (8 + i) (nI (((t.2 i).2 2).length - 1)), ?_, hN.node hi hb8 (v := zc_buf (t.2 i) (zn_cut ((t.2 i).2 2) p)) (fb := f i) (fu' := pw_fu fu (8 * i + p) (8 * i + (((t.2 i).2 2).length - 1))) (fn' := upd fn (8 + i) (nI (((t.2 i).2 2).length - 1))) ⟨?_, ?_, fun k hk => ?_, fun k hk => ?_⟩ (fun k hk => ?_) (fun k k1 k2 k3 => ?_) ⟨?_, ?_, ?_⟩⟩
  · have ef : va_up f i (f i) = f := by
      funext j
      by_cases q : j = i
      · subst q; rw [va_up_self]
      · rw [va_up_ne _ _ q]
    rw [ef]
    exact A2
  · rw [pk_un (by omega), zc_buf_rj _ (by omega)]; exact n1
  · rw [pk_us, zc_buf_r2, hcl]
  · rw [zc_buf_rj _ (by omega)] at hk
    have : pa_e (zc_buf (t.2 i) (zn_cut ((t.2 i).2 2) p)) k = pa_e (t.2 i) k := by
      unfold pa_e
      rw [zc_buf_rj _ (by omega), zc_buf_rj _ (by omega)]
    rw [this]
    exact n3 k hk
  · rw [zc_buf_r2] at hk ⊢
    rw [hcl] at hk
    rw [zn_cut_get hp]
    unfold pw_fu
    by_cases q : k < p
    · rw [if_pos q, if_neg (by omega)]
      exact n4 k (by omega)
    · rw [if_neg q, if_pos (by omega)]
      exact n4 (k + 1) (by omega)
  · unfold pw_fu
    by_cases q : 8 * i + p ≤ k ∧ k < 8 * i + (((t.2 i).2 2).length - 1)
    · omega
    · rw [if_neg q]
  · exact pk_un k2
  · rw [pk_un (by omega)]; exact hN.2.1
  · rw [pk_un (by omega)]; exact hN.2.2.1
  · rw [pk_un (by omega)]; exact hN.2.2.2
end PwA
