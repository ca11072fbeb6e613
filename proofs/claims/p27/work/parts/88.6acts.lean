/-! The law's acting: the class answers what the law's rows say, and both are the same state again. -/
def pr_yes (g : bq_G) (z : Nat) (o : Option (Bool × bq_E)) : Prop := ∃ E' t', o = some (true, E') ∧ pr_rel g E' z t'
section PyA
variable {g : bq_G} {E : bq_E} {z i key st n k : Nat} {t : zq_T}
theorem pr_letK {α : Type} {e : α} {f : α → Option (Bool × bq_E)} (h : ∀ k, k = e → pr_yes g z (f k)) : pr_yes g z (bq_let e f) := h e rfl
theorem pr_bindK {α : Type} {o : Option α} {v : α} {f : α → Option (Bool × bq_E)} (ho : o = some v) (h : pr_yes g z (f v)) : pr_yes g z (o.bind f) := by rw [ho]; exact h
theorem pr_ifT {c : Prop} [Decidable c] {x y : Option (Bool × bq_E)} (hc : c) (h : pr_yes g z x) : pr_yes g z (if c then x else y) := by rw [if_pos hc]; exact h
theorem pr_ifF {c : Prop} [Decidable c] {x y : Option (Bool × bq_E)} (hc : ¬ c) (h : pr_yes g z y) : pr_yes g z (if c then x else y) := by rw [if_neg hc]; exact h
theorem pr_done (h : pr_rel g E z t) : pr_yes g z (some (true, E)) := ⟨E, t, rfl, h⟩
theorem pw_up_ge : ∀ (d k : Nat) (t : zq_T), zi_bu n st t k → k < n → d = zt_d t k → ∃ b, (zt_up st (d + 1) k 0 t).1 = nI b ∧ ((t.2 k).2 0).length ≤ b ∧ b ≤ 96 + 96 * (d + 1) := by
  intro d k t h hk hd
  have hl := ((zi_bu_step h hk).2.2.2.2 k hk).2.2.1.2
  have hge : ((t.2 k).2 0).length ≤ (((zt_b1 st t k).2 k).2 3).length := by
    rw [zt_b1_k]
    show _ ≤ ((zl_list st ((t.2 k).2 0) (zt_ent t ((t.2 k).1 1)) (zt_ent t ((t.2 k).1 2))).map Prod.fst).length
    rw [List.length_map, (zi_bu_in h hk).1.list.1.length_eq]
    unfold zp_all
    rw [List.length_append, List.length_append, List.length_map]
    omega
  cases d with
  | zero =>
    refine ⟨(((zt_b1 st t k).2 k).2 3).length, ?_, hge, by omega⟩
    show nI 0 + nI _ = _
    rw [nI_add, Nat.zero_add]
  | succ d =>
    have h0 := h.1.pos hk (by omega)
    have hdp := h.1.dpar h0 hk
    have hd2 := (zi_an_cint (zt_b1_cint st t k)).2.1
    obtain ⟨b, e, hb⟩ := zi_up_sum (st := st) d (zi_par t k) (0 + (((zt_b1 st t k).2 k).2 3).length) (zt_b1 st t k) (zi_bu_par h hk h0) (h.1.pn hk) (by rw [hd2]; omega)
    refine ⟨(((zt_b1 st t k).2 k).2 3).length + b, ?_, by omega, by omega⟩
    rw [← nI_add, Nat.zero_add] at e
    rw [show (((zt_b1 st t k).2 k).2 3).length + b = (((zt_b1 st t k).2 k).2 3).length + b from rfl, ← e]
    rfl
theorem pw_renew_ge (h : zi_pre n st t k) (hk : k < n) : ∃ b, (zt_renew st k t).1 = nI b ∧ (zc_newbase (t.2 k)).length ≤ b ∧ b ≤ 2000 := by
  have hd := h.1.d15 hk
  obtain ⟨b, e, h1, h2⟩ := pw_up_ge (st := st) (n := n) (zt_d t k) k (zt_settled t k) (h.settle hk).bu hk zt_settled_d.symm
  rw [zt_settled_k, zc_settled_r0] at h1
  exact ⟨b, e, h1, by omega⟩
theorem pr_rel.next {E' : bq_E} {t' : zq_T} (h : pr_rel g E z t) (hf : pz_face g E' z t') (hv : zi_inv 3 t') {E1 : bq_E} (ha : pw_arr g E1 z t') (s1 : zq_same E E1 (z + 1378) (z + 1383)) (s2 : zq_same E1 E' z (z + 1378)) : pr_rel g E' z t' := ⟨hf, hv, ha.same s2 (Or.inr (Nat.le_refl _)), ((s2 _ (by omega)).trans (s1 _ (by omega))).trans h.2.2.2⟩
theorem pr_comes (h : pr_rel g E z t) (hi : i < 3) (hkey : key < 10000) {v5 : Int32} (hv5 : v5 = bq_b (zc_has (t.2 i) key)) : pr_yes g z (
      bq_let (fun (_ : Unit) =>
        bq_let (fun (E42 : bq_E) =>
          (tw_L_puts E42 z (nI i) (nI key)).bind fun v43 =>
          if v5 = 0 then
            (if v43.1 = (1 : Int32) then
              (some (true, v43.2))
            else
              (some (false, v43.2)))
          else
            (if v43.1 = (0 : Int32) then
              (some (true, v43.2))
            else
              (some (false, v43.2)))) fun k151 =>
        if v5 = 0 then
          ((tw_L_put E (z + 1378 + i) (z + 1381) (z + 1382) (nI i) (nI key)).bind fun E44 =>
          k151 E44)
        else
          (k151 E)) fun k136 =>
      if v5 = 0 then
        ((tw_L_size E (z + 1378 + i) (z + 1382) (nI i)).bind fun v45 =>
        if v45 = (24 : Int32) then
          ((tw_L_puts E z (nI i) (nI key)).bind fun v46 =>
          if v46.1 = (-100003 : Int32) then
            (some (true, v46.2))
          else
            (some (false, v46.2)))
        else
          (k136 ()))
      else
        (k136 ())) := by
  have hV := h.v hi
  have hc := h.hc hi
  have h24 := zc_nb_24 hc
  obtain ⟨st, h5, hst⟩ := h.2.1.2.2.1
  have ht := zt_take_inv (key := key) h.2.1 hi h5 hst hkey
  refine pr_letK (fun k136 e136 => ?_)
  cases hh : zc_has (t.2 i) key with
  | false =>
    rw [hh] at hv5
    subst hv5
    refine pr_ifT bq_bF (pr_bindK (pa_size hV) ?_)
    by_cases q : (zc_newbase (t.2 i)).length = 24
    · refine pr_ifT (by rw [q]; rfl) (pr_bindK (pz_put_full h.1 h.2.1 hi hkey hh (by omega)) ?_)
      exact pr_ifT rfl (pr_done h)
    · refine pr_ifF (fun e => q ((nI_inj (b := 24) (by omega) (by omega)).mp e)) ?_
      rw [e136]
      refine pr_letK (fun k151 e151 => ?_)
      obtain ⟨E1, a1, b1, s1⟩ := pw_put h.2.2.1 h.2.1 hi h5 hst h.2.2.2 hkey hh (by omega)
      refine pr_ifT bq_bF (pr_bindK a1 ?_)
      rw [e151]
      obtain ⟨E2, a2, f2, s2⟩ := pz_put (h.1.same s1 (Or.inl (Nat.le_refl _))) h.2.1 hi h5 hst hkey (fun _ => by omega)
      rw [hh, if_neg (show ¬ false = true by decide)] at a2
      exact pr_bindK a2 (pr_ifT bq_bF (pr_ifT rfl (pr_done (h.next f2 (ht (fun _ => by omega)).1 b1 s1 s2))))
  | true =>
    rw [hh] at hv5
    subst hv5
    refine pr_ifF bq_bT ?_
    rw [e136]
    refine pr_letK (fun k151 e151 => ?_)
    refine pr_ifF bq_bT ?_
    rw [e151]
    have hfl : zc_has (t.2 i) key = false → (zc_newbase (t.2 i)).length < 24 := fun q => by rw [hh] at q; cases q
    obtain ⟨E2, a2, f2, s2⟩ := pz_put h.1 h.2.1 hi h5 hst hkey hfl
    rw [hh, if_pos rfl] at a2
    rw [(ht hfl).2.2.1 hh] at f2
    exact pr_bindK a2 (pr_ifF bq_bT (pr_ifT rfl (pr_done (h.next f2 h.2.1 h.2.2.1 zq_same.refl s2))))
theorem pr_goes (h : pr_rel g E z t) (hi : i < 3) (hkey : key < 10000) : pr_yes g z (
        (tw_L_has E (z + 1378 + i) (z + 1381) (z + 1382) (nI i) (nI key)).bind fun v9 =>
        bq_let (bq_b v9) fun v10 =>
        (tw_L_inBuffer E (z + 1381) (z + 1382) (nI i) (nI key)).bind fun v11 =>
        bq_let (fun (E12 : bq_E) =>
          (tw_L_drops E12 z (nI i) (nI key)).bind fun v13 =>
          if v10 = 0 then
            (if v13.1 = (0 : Int32) then
              (some (true, v13.2))
            else
              (some (false, v13.2)))
          else
            (if v13.1 = (1 : Int32) then
              (some (true, v13.2))
            else
              (some (false, v13.2)))) fun k404 =>
        if v11 < 0 then
          (if v10 = 0 then
            (k404 E)
          else
            ((tw_L_inBase E (z + 1378 + i) (z + 1382) (nI i) (nI key)).bind fun v14 =>
            (bq_ai E (z + 1378 + i) v14).bind fun v15 =>
            (bq_si E (z + 1378 + i) v14 (v15 + (10000 : Int32))).bind fun E16 =>
            (tw_L_marked E16 (z + 1378 + i) (z + 1382) (nI i)).bind fun v17 =>
            (bq_ai E16 (z + 1382) (nI i)).bind fun v18 =>
            if ((2 : Int32) * v17) ≤ v18 then
              (k404 E16)
            else
              ((tw_L_settle E16 (z + 1378 + i) (z + 1381) (z + 1382) (nI i)).bind fun E19 =>
              k404 E19)))
        else
          ((bq_ai E (z + 1382) ((8 : Int32) + nI i)).bind fun v20 =>
          (bq_si E (z + 1382) ((8 : Int32) + nI i) (v20 - (1 : Int32))).bind fun E21 =>
          tl_L_acts_311 z (z + 1381) (z + 1382) (nI i) (nI key) v10 (fun y22 E23 =>
            k404 E23) bq_fuel v11 E21)) := by
  have hV := h.v hi
  have hc := h.hc hi
  have hx : zi_hx 8 (t.2 i) := hc.up (by omega)
  have hb8 : ∀ j, j < 3 → ((t.2 j).2 2).length ≤ 8 := fun j hj => by have := (h.hc hj).2.2.2; omega
  have h24 := hc.1.1.2
  obtain ⟨st, h5, hst⟩ := h.2.1.2.2.1
  obtain ⟨d1, d2, d3, d4⟩ := zt_drop_inv (key := key) h.2.1 hi h5 hst
  refine pr_bindK (pa_has hV hkey) (pr_letK (fun v10 e10 => ?_))
  refine pr_bindK (pa_inBuffer hV hkey) (pr_letK (fun k404 e404 => ?_))
  have hk : ∀ E12, pw_arr g E12 z (zt_drop st i key t).2 → zq_same E E12 (z + 1378) (z + 1383) → pr_yes g z (k404 E12) := by
    intro E12 ha s1
    rw [e404]
    obtain ⟨E2, a2, f2, s2⟩ := pz_drop (h.1.same s1 (Or.inl (Nat.le_refl _))) h.2.1 hi h5 hst hkey
    refine pr_bindK a2 ?_
    have hd := pr_done (h.next f2 d1 ha s1 s2)
    cases hh : zc_has (t.2 i) key with
    | false =>
      rw [hh] at e10
      subst e10
      exact pr_ifT bq_bF (pr_ifT rfl hd)
    | true =>
      rw [hh] at e10
      subst e10
      exact pr_ifF bq_bT (pr_ifT rfl hd)
  cases hh : zc_has (t.2 i) key with
  | false =>
    rw [hh] at e10
    subst e10
    obtain ⟨u1, u2⟩ := zc_has_false hh
    rw [if_neg (fun w => u1 (zn_pos_in.mp w))]
    refine pr_ifT pa_m1 (pr_ifT bq_bF (hk E ?_ zq_same.refl))
    rw [d3 hh]
    exact h.2.2.1
  | true =>
    rw [hh] at e10
    subst e10
    obtain ⟨hp1, _⟩ := d4 hh
    by_cases hin : key ∈ (t.2 i).2 2
    · have hp := zn_pos_in.mpr hin
      have hp8 := hb8 i hi
      rw [if_pos hp]
      refine pr_ifF (nI_pos (by omega)) (pr_bindK hV.m ?_)
      obtain ⟨E1, E2, a1, a2, b2, s2⟩ := pw_cut (x9 := nI key) (x10 := bq_b true) h.2.2.1 hi hx hb8 hp (fun y22 E23 => k404 E23)
      refine pr_bindK a1 ?_
      rw [a2]
      refine hk E2 ?_ s2
      have e : (zt_drop st i key t).2 = zt_C t i (zc_buf (t.2 i) (zn_cut ((t.2 i).2 2) (zn_pos key ((t.2 i).2 2)))) := by
        unfold zt_drop
        rw [if_pos hh, if_pos hin]
        have : zc_drop1 (t.2 i) key = zc_buf (t.2 i) (zn_cut ((t.2 i).2 2) (zn_pos key ((t.2 i).2 2))) := by
          unfold zc_drop1
          rw [if_pos hin]
          rfl
        rw [this]
      rw [e]
      exact b2
    · rw [if_neg (fun w => hin (zn_pos_in.mp w))]
      obtain ⟨u1, u2⟩ := zc_has_true hh hin
      have hp := zn_pos_in.mpr u1
      have ek : ((t.2 i).2 0).getD (zn_pos key ((t.2 i).2 0)) 0 = key := (zn_pos_at (hc.2.1.1.imp (fun {a b} q => Nat.ne_of_lt q)) hp).mpr rfl
      have em : ((t.2 i).2 1).getD (zn_pos key ((t.2 i).2 0)) 0 = 0 := (pa_b hx hp).2.1.resolve_right u2
      have ee : pa_e (t.2 i) (zn_pos key ((t.2 i).2 0)) = key := by
        unfold pa_e
        rw [ek, em]
        rfl
      refine pr_ifT pa_m1 (pr_ifF bq_bT ?_)
      have hbase := pa_inBase hV hkey
      rw [if_pos hp] at hbase
      have hf := hV.f hp
      rw [ee] at hf
      refine pr_bindK hbase (pr_bindK hf ?_)
      obtain ⟨E1, a1, b1, s1⟩ := pw_mark (b := 1) h.2.2.1 hi hx hb8 hp ((t.2 i).1 4 + 1)
      rw [ek] at a1
      refine pr_bindK (v := E1) (by rw [show (10000 : Int32) = nI 10000 from rfl, nI_add]; exact a1) ?_
      have e1 : zc_drop1 (t.2 i) key = zc_mark (t.2 i) (zn_pos key ((t.2 i).2 0)) 1 ((t.2 i).1 4 + 1) := by
        unfold zc_drop1
        rw [if_neg hin]
        rfl
      have hx2 : zi_hx 8 (zc_mark (t.2 i) (zn_pos key ((t.2 i).2 0)) 1 ((t.2 i).1 4 + 1)) := by
        have := hp1.2.2.2.1.2
        rw [show (zt_C t i (zc_drop1 (t.2 i) key)).2 i = zc_drop1 (t.2 i) key from zt_Cs, e1] at this
        exact this
      have b1' : pw_arr g E1 z (zt_C t i (zc_drop1 (t.2 i) key)) := by
        rw [e1]
        exact b1
      have hV2 := pa_arr.v b1 hi (by rw [va_up_self]; exact hx2)
      rw [va_up_self] at hV2
      refine pr_bindK (pa_marked hV2) (pr_bindK hV2.n ?_)
      have etot : nI (zn_tot ((zc_mark (t.2 i) (zn_pos key ((t.2 i).2 0)) 1 ((t.2 i).1 4 + 1)).2 1)) = (t.2 i).1 4 + 1 := by
        have := hx2.2.1.2.2.2
        rw [zc_mark_i4] at this
        exact this.symm
      rw [etot, zc_mark_r0]
      by_cases hlt : 2 * ((t.2 i).1 4 + 1) ≤ nI ((t.2 i).2 0).length
      · refine pr_ifT hlt (hk E1 ?_ s1)
        have e : (zt_drop st i key t).2 = zt_C t i (zc_drop1 (t.2 i) key) := by
          unfold zt_drop
          rw [if_pos hh, if_neg hin, if_pos hlt]
        rw [e]
        exact b1'
      · refine pr_ifF hlt ?_
        obtain ⟨E3, a3, b3, s3⟩ := pw_settle (st := st) b1' hi hp1.2.2.2.1.2 (fun j hj => by
          by_cases q : j = i
          · subst q; exact hp1.2.2.2.1.2.2.2.2
          · rw [zt_Cn q]; exact hb8 j hj) ((s1 _ (by omega)).trans h.2.2.2)
        refine pr_bindK a3 (hk E3 ?_ (s1.trans s3))
        have e : (zt_drop st i key t).2 = (zt_renew st i (zt_C t i (zc_drop1 (t.2 i) key))).2 := by
          unfold zt_drop
          rw [if_pos hh, if_neg hin, if_neg hlt]
        rw [e]
        exact b3
theorem pr_470 (hi : i < 3) (hst : 2 ≤ st ∧ st ≤ 5) {dif many : Nat} (hd : dif ≤ 999) (hm : many ≤ 24) {x7 : Int32} (K : Int32 → Int32 → Int32 → bq_E → Option (Bool × bq_E)) : ∀ (r k key added N : Nat) (E : bq_E) (t : zq_T), r + k = many → r < N → key ≤ 10999 → pw_arr g E z t → zi_inv 3 t → t.1 5 = nI st → E (z + 1383) = .inr (99, []) →
    ∃ E' y1 y2, tl_L_acts_470 z (z + 1378 + i) (z + 1381) (z + 1382) (nI i) x7 (nI dif) (nI many) K N (nI added) (nI key) (nI k) E = K (nI (added + (zs_ser st i dif r key t).1)) y1 y2 E' ∧ pw_arr g E' z (zs_ser st i dif r key t).2 ∧ zq_same E E' (z + 1378) (z + 1383) := by
  intro r
  induction r with
  | zero =>
    intro k key added N E t hr hN hkey ha hv h5 hdd
    obtain ⟨N, rfl⟩ : ∃ N', N = N' + 1 := ⟨N - 1, by omega⟩
    rw [tl_L_acts_470.eq_2, if_pos (nI_le (by omega) (by omega))]
    exact ⟨E, _, _, rfl, ha, zq_same.refl⟩
  | succ r ih =>
    intro k key added N E t hr hN hkey ha hv h5 hdd
    obtain ⟨N, rfl⟩ : ∃ N', N = N' + 1 := ⟨N - 1, by omega⟩
    have hc := hv.2.2.2.1 i hi
    have hV := pa_arr.v ha hi (hc.up (by omega))
    have h24 := zc_nb_24 hc
    rw [tl_L_acts_470.eq_2, if_neg (nI_ge (by omega) (by omega))]
    unfold zs_ser
    by_cases q1 : 10000 ≤ key
    · rw [if_pos (show (10000 : Int32) ≤ nI key from nI_le (a := 10000) q1 (by omega)), if_pos (Or.inl q1)]
      exact ⟨E, _, _, rfl, ha, zq_same.refl⟩
    · rw [if_neg (show ¬ (10000 : Int32) ≤ nI key from nI_ge (b := 10000) (by omega) (by omega)), pa_size hV]
      simp only [zq_bindE]
      by_cases q2 : 24 ≤ (zc_newbase (t.2 i)).length
      · rw [if_pos (show (24 : Int32) ≤ nI _ from nI_le (a := 24) q2 (by omega)), if_pos (Or.inr q2)]
        exact ⟨E, _, _, rfl, ha, zq_same.refl⟩
      · rw [if_neg (show ¬ (24 : Int32) ≤ nI _ from nI_ge (b := 24) (by omega) (by omega)), if_neg (fun w => w.elim q1 q2), pa_has hV (by omega)]
        simp only [zq_bindE, zq_letE]
        have ht := zt_take_inv hv hi h5 hst (key := key) (by omega) (fun _ => by omega)
        rw [nI_add, nI_1, nI_1]
        cases hh : zc_has (t.2 i) key with
        | true =>
          rw [if_neg bq_bT, if_pos rfl, ht.2.2.1 hh, Nat.zero_add]
          exact ih (k + 1) (key + dif) added N E t (by omega) (by omega) (by omega) ha hv h5 hdd
        | false =>
          obtain ⟨E1, a1, b1, s1⟩ := pw_put ha hv hi h5 hst hdd (by omega) hh (by omega)
          rw [if_pos bq_bF, if_neg (show ¬ false = true by decide), a1]
          simp only [zq_bindE]
          obtain ⟨E2, y1, y2, a2, b2, s2⟩ := ih (k + 1) (key + dif) (added + 1) N E1 _ (by omega) (by omega) (by omega) b1 ht.1 ht.2.2.2.2 ((s1 _ (by omega)).trans hdd)
          refine ⟨E2, y1, y2, ?_, b2, s1.trans s2⟩
          rw [a2, Nat.add_assoc]
theorem pr_series (h : pr_rel g E z t) (hi : i < 3) (hkey : key < 10000) {dif many : Nat} (hd : 1 ≤ dif ∧ dif ≤ 999) (hm : 1 ≤ many ∧ many ≤ 24) : pr_yes g z (
      tl_L_acts_470 z (z + 1378 + i) (z + 1381) (z + 1382) (nI i) (nI key) (nI dif) (nI many) (fun y51 y52 y53 E54 =>
        (tw_L_series E54 z (nI i) (nI key) (nI dif) (nI many)).bind fun v55 =>
      if v55.1 = y51 then
        (some (true, v55.2))
      else
        (some (false, v55.2))) 30 (0 : Int32) (nI key) (0 : Int32) E) := by
  obtain ⟨st, h5, hst⟩ := h.2.1.2.2.1
  obtain ⟨E1, y1, y2, a1, b1, s1⟩ := pr_470 (g := g) (z := z) hi hst (dif := dif) (many := many) hd.2 hm.2 (x7 := nI key) (fun y51 y52 y53 E54 =>
        (tw_L_series E54 z (nI i) (nI key) (nI dif) (nI many)).bind fun v55 =>
      if v55.1 = y51 then
        (some (true, v55.2))
      else
        (some (false, v55.2))) many 0 key 0 30 E t (by omega) (by omega) (by omega) h.2.2.1 h.2.1 h5 h.2.2.2
  rw [show (0 : Int32) = nI 0 from rfl, a1, Nat.zero_add]
  obtain ⟨E2, a2, f2, i2, s2⟩ := pz_ser (h.1.same s1 (Or.inl (Nat.le_refl _))) h.2.1 hi h5 hst hkey hd hm
  exact pr_bindK a2 (pr_ifT rfl (pr_done (h.next f2 i2 b1 s1 s2)))
theorem pr_sizes (h : pr_rel g E z t) {r1 r2 : Nat} (q1 : r1 < 8) (q2 : r2 < 4) {x5 : Int32} (l1 : ∀ E, tw_L_low E (x5 >>> ((5 : Int32) &&& 31)) (8 : Int32) = some (nI r1)) (l2 : ∀ E, tw_L_low E (x5 >>> ((9 : Int32) &&& 31)) (4 : Int32) = some (nI r2)) : pr_yes g z (
      (bq_ai E (z + 1382) (17 : Int32)).bind fun v72 =>
      (bq_ai E (z + 1382) (18 : Int32)).bind fun v73 =>
      bq_let (((10 : Int32) * v72) + v73) fun v74 =>
      (tw_L_low E (x5 >>> ((5 : Int32) &&& 31)) (8 : Int32)).bind fun v75 =>
      (bq_si E (z + 1382) (17 : Int32) ((1 : Int32) + v75)).bind fun E76 =>
      (tw_L_low E76 (x5 >>> ((9 : Int32) &&& 31)) (4 : Int32)).bind fun v77 =>
      (bq_si E76 (z + 1382) (18 : Int32) ((2 : Int32) + v77)).bind fun E78 =>
      (bq_ai E78 (z + 1382) (17 : Int32)).bind fun v79 =>
      (bq_ai E78 (z + 1382) (18 : Int32)).bind fun v80 =>
      (tw_L_sizes E78 z v79 v80).bind fun v81 =>
      if v81.1 = v74 then
        (some (true, v81.2))
      else
        (some (false, v81.2))) := by
  obtain ⟨w1, w2, w3⟩ := h.2.2.1.r17
  refine pr_bindK w1 (pr_bindK w2 (pr_letK (fun v74 e74 => pr_bindK (l1 E) ?_)))
  obtain ⟨f, fu, fn, hA, hN⟩ := h.2.2.1
  obtain ⟨E1, a1, A1, s1⟩ := hA.sn (k := 17) (by omega) (nI (1 + r1))
  refine pr_bindK (v := E1) (by rw [show (1 : Int32) = nI 1 from rfl, nI_add]; exact a1) (pr_bindK (l2 E1) ?_)
  obtain ⟨E2, a2, A2, s2⟩ := A1.sn (k := 18) (by omega) (nI (2 + r2))
  refine pr_bindK (v := E2) (by rw [show (2 : Int32) = nI 2 from rfl, nI_add]; exact a2) ?_
  refine pr_bindK (v := nI (1 + r1)) (by rw [show (17 : Int32) = nI 17 from rfl, A2.rn (by omega), pk_un (by omega), pk_us]) ?_
  refine pr_bindK (v := nI (2 + r2)) (by rw [show (18 : Int32) = nI 18 from rfl, A2.rn (by omega), pk_us]) ?_
  have s12 := s1.trans s2
  obtain ⟨E3, a3, f3, s3⟩ := pz_sizes (h.1.same s12 (Or.inl (Nat.le_refl _))) h.2.1 (c := 1 + r1) (s := 2 + r2) (by omega) (by omega)
  refine pr_bindK a3 (pr_ifT (by rw [e74]) (pr_done (h.next f3 (h.2.1.sizes (c := 1 + r1) (st := 2 + r2) (by omega) (by omega)) (E1 := E2) ?_ s12 s3)))
  refine ⟨f, fu, _, A2, fun j hj => ?_, ?_, ?_, ?_⟩
  · obtain ⟨n1, n2, n3, n4⟩ := hN.1 j hj
    exact ⟨by rw [pk_un (by omega), pk_un (by omega)]; exact n1, by rw [pk_un (by omega), pk_un (by omega)]; exact n2, n3, n4⟩
  · rw [pk_un (by omega), pk_us]
    show _ = va_up (va_up t.1 4 (nI (1 + r1))) 5 (nI (2 + r2)) 4
    rw [va_up_ne _ _ (by omega), va_up_self]
  · rw [pk_us]
    show _ = va_up (va_up t.1 4 (nI (1 + r1))) 5 (nI (2 + r2)) 5
    rw [va_up_self]
  · rw [pk_un (by omega), pk_un (by omega)]
    show _ = va_up (va_up t.1 4 (nI (1 + r1))) 5 (nI (2 + r2)) 10
    rw [va_up_ne _ _ (by omega), va_up_ne _ _ (by omega)]
    exact hN.2.2.2
theorem pr_builds (h : pr_rel g E z t) (hi : i < 3) : pr_yes g z (
    (tw_L_settle E (z + 1378 + i) (z + 1381) (z + 1382) (nI i)).bind fun E82 =>
    (tw_L_builds E82 z (nI i)).bind fun v83 =>
    (bq_ai v83.2 (z + 1382) (nI i)).bind fun v84 =>
    if v83.1 < v84 then
      (some (false, v83.2))
    else
      (some (true, v83.2))) := by
  obtain ⟨st, h5, hst⟩ := h.2.1.2.2.1
  have hc := h.hc hi
  have hx : zi_hx 8 (t.2 i) := hc.up (by omega)
  have hb8 : ∀ j, j < 3 → ((t.2 j).2 2).length ≤ 8 := fun j hj => by have := (h.hc hj).2.2.2; omega
  have hpre := h.2.1.pre hi h5 hst
  obtain ⟨b, eb, g1, g2⟩ := pw_renew_ge hpre hi
  obtain ⟨E1, a1, b1, s1⟩ := pw_settle (st := st) h.2.2.1 hi hx hb8 h.2.2.2
  obtain ⟨E2, a2, f2, s2⟩ := pz_build (h.1.same s1 (Or.inl (Nat.le_refl _))) h.2.1 hi h5 hst
  have hrel := h.next f2 (hpre.renew hi).1 b1 s1 s2
  have hV := hrel.v hi
  have hlen : (((zt_renew st i t).2.2 i).2 0).length = (zc_newbase (t.2 i)).length := by
    rw [zt_renew_row (by omega), va_up_self, zc_settled_r0]
  have hn := hV.n
  rw [hlen] at hn
  refine pr_bindK a1 (pr_bindK a2 (pr_bindK hn ?_))
  refine pr_ifF ?_ (pr_done hrel)
  show ¬ (zt_renew st i t).1 < _
  rw [eb]
  exact nI_nlt g1 (by omega)
theorem pr_acts (h : pr_rel g E z t) (hi : i < 3) (x5 : Int32) : pr_yes g z (tw_L_acts E z (z + 1378 + i) (z + 1381) (z + 1382) (nI i) x5) := by
  have hV := h.v hi
  have hc := h.hc hi
  have hx : zi_hx 8 (t.2 i) := hc.up (by omega)
  have h24 := hc.1.1.2
  have h7 := hc.2.2.2
  obtain ⟨r1, q1, l1⟩ := pa_low E (x5 >>> ((3 : Int32) &&& 31)) (d := 3) (by omega) (by omega)
  unfold tw_L_acts
  refine pr_bindK (show tw_L_low E (x5 >>> ((3 : Int32) &&& 31)) 3 = some (nI r1) from l1 E) (pr_letK (fun k19 e19 => ?_))
  have hk19 : ∀ wide : Nat, 0 < wide → wide ≤ 10000 → pr_yes g z (k19 (nI wide)) := by
    intro wide w0 w1
    rw [e19]
    obtain ⟨key, hkey, l3⟩ := pa_low E (x5 >>> ((5 : Int32) &&& 31)) (d := wide) w0 (by omega)
    refine pr_bindK (l3 E) (pr_bindK (pa_has hV (key := key) (by omega)) (pr_letK (fun v5 e5 => ?_)))
    obtain ⟨r6, q6, l6⟩ := pa_low E x5 (d := 10) (by omega) (by omega)
    refine pr_bindK (show tw_L_low E x5 10 = some (nI r6) from l6 E) (pr_letK (fun k178 e178 => ?_))
    have hk178 : pr_yes g z (k178 ()) := by
      rw [e178]
      refine pr_bindK hV.n (pr_letK (fun k266 e266 => ?_))
      have hk266 : ∀ key', key' < 10000 → pr_yes g z (k266 (nI key')) := fun key' hk' => by
        rw [e266]
        exact pr_goes h hi hk'
      refine pr_letK (fun k217 e217 => ?_)
      have hk217 : pr_yes g z (k217 ()) := by
        rw [e217]
        refine pr_bindK hV.m (pr_letK (fun k264 e264 => ?_))
        have hk264 : pr_yes g z (k264 ()) := by
          rw [e264]
          exact hk266 key (by omega)
        by_cases q : ((t.2 i).2 2).length = 0
        · exact pr_ifT (by rw [q]; decide) hk264
        · refine pr_ifF (nI_nle (by omega) (by omega)) ?_
          obtain ⟨r15, q15, l15⟩ := pa_low E (x5 >>> ((15 : Int32) &&& 31)) (d := 2) (by omega) (by omega)
          refine pr_bindK (show tw_L_low E (x5 >>> ((15 : Int32) &&& 31)) 2 = some (nI r15) from l15 E) ?_
          by_cases q2 : nI r15 = 0
          · refine pr_ifT q2 (pr_bindK hV.m ?_)
            obtain ⟨p, hp, lp⟩ := pa_low E (x5 >>> ((5 : Int32) &&& 31)) (d := ((t.2 i).2 2).length) (by omega) (by omega)
            exact pr_bindK (lp E) (pr_bindK (hV.u hp) (hk266 _ (pa_u hx hp)))
          · exact pr_ifF q2 hk264
      by_cases q : ((t.2 i).2 0).length = 0
      · exact pr_ifT (by rw [q]; decide) hk217
      · refine pr_ifF (nI_nle (by omega) (by omega)) ?_
        obtain ⟨r14, q14, l14⟩ := pa_low E (x5 >>> ((14 : Int32) &&& 31)) (d := 2) (by omega) (by omega)
        refine pr_bindK (show tw_L_low E (x5 >>> ((14 : Int32) &&& 31)) 2 = some (nI r14) from l14 E) ?_
        by_cases q2 : nI r14 = 0
        · refine pr_ifT q2 (pr_bindK hV.n ?_)
          obtain ⟨p, hp, lp⟩ := pa_low E (x5 >>> ((5 : Int32) &&& 31)) (d := ((t.2 i).2 0).length) (by omega) (by omega)
          obtain ⟨b1, b2, b3, b4, b5⟩ := pa_b hx hp
          refine pr_bindK (lp E) (pr_bindK (hV.f hp) (pr_letK (fun v41 e41 => ?_)))
          rw [e41, show (10000 : Int32) = nI 10000 from rfl, pa_rem (by omega) (by omega) (by omega), b4]
          exact hk266 _ b1
        · exact pr_ifF q2 hk217
    refine pr_letK (fun k100 e100 => ?_)
    have hk100 : pr_yes g z (k100 ()) := by
      rw [e100]
      exact pr_comes h hi (by omega) e5
    by_cases c0 : nI r6 = 0
    · exact pr_ifT c0 hk100
    refine pr_ifF c0 ?_
    by_cases c1 : nI r6 = 1
    · exact pr_ifT c1 hk100
    refine pr_ifF c1 ?_
    by_cases c2 : nI r6 = 2
    · exact pr_ifT c2 hk100
    refine pr_ifF c2 ?_
    by_cases c3 : nI r6 = 3
    · exact pr_ifT c3 hk100
    refine pr_ifF c3 ?_
    by_cases c4 : nI r6 = 4
    · exact pr_ifT c4 hk178
    refine pr_ifF c4 ?_
    by_cases c5 : nI r6 = 5
    · exact pr_ifT c5 hk178
    refine pr_ifF c5 ?_
    by_cases c6 : nI r6 = 6
    · exact pr_ifT c6 hk178
    refine pr_ifF c6 ?_
    by_cases c7 : nI r6 = 7
    · refine pr_ifT c7 ?_
      obtain ⟨r9, q9, l9⟩ := pa_low E (x5 >>> ((9 : Int32) &&& 31)) (d := 999) (by omega) (by omega)
      obtain ⟨r12, q12, l12⟩ := pa_low E (x5 >>> ((12 : Int32) &&& 31)) (d := 24) (by omega) (by omega)
      refine pr_bindK (show tw_L_low E (x5 >>> ((9 : Int32) &&& 31)) 999 = some (nI r9) from l9 E) (pr_letK (fun v48 e48 => ?_))
      refine pr_bindK (show tw_L_low E (x5 >>> ((12 : Int32) &&& 31)) 24 = some (nI r12) from l12 E) (pr_letK (fun v50 e50 => ?_))
      have e48' : v48 = nI (1 + r9) := by rw [e48]; exact nI_add 1 r9
      have e50' : v50 = nI (1 + r12) := by rw [e50]; exact nI_add 1 r12
      rw [e48', e50']
      exact pr_series h hi (by omega) (by omega) (by omega)
    refine pr_ifF c7 ?_
    by_cases c8 : nI r6 = 8
    · refine pr_ifT c8 ?_
      obtain ⟨r5, q5, l5⟩ := pa_low E (x5 >>> ((5 : Int32) &&& 31)) (d := 8) (by omega) (by omega)
      obtain ⟨r9, q9, l9⟩ := pa_low E (x5 >>> ((9 : Int32) &&& 31)) (d := 4) (by omega) (by omega)
      exact pr_sizes h q5 q9 l5 l9
    refine pr_ifF c8 ?_
    exact pr_builds h hi
  by_cases q : nI r1 = 0
  · exact pr_ifT q (hk19 10000 (by omega) (by omega))
  · exact pr_ifF q (hk19 30 (by omega) (by omega))
end PyA
