/-! The law's settling: by insertion from the right, out of the base's unmarked keys and the buffer. -/
theorem zn_inss_snoc (y : Nat) : ∀ (ys xs : List Nat), zn_inss xs (ys ++ [y]) = zn_ins y (zn_inss xs ys)
  | [], _ => rfl
  | a :: t, xs => zn_inss_snoc y t (zn_ins a xs)
theorem zn_fal_all {x : Nat} : ∀ {xs : List Nat}, (∀ y ∈ xs, y < x) → zn_fal x xs = xs.length
  | [], _ => rfl
  | y :: t, h => by
    have := h y List.mem_cons_self
    rw [zn_fal_cons, if_neg (by omega), zn_fal_all (fun z hz => h z (List.mem_cons_of_mem _ hz))]
    rfl
theorem zn_ins_last {x : Nat} {xs : List Nat} (h : ∀ y ∈ xs, y < x) : zn_ins x xs = xs ++ [x] := by
  unfold zn_ins
  rw [zn_fal_all h, List.take_length, List.drop_length]
theorem zn_ins_get {key : Nat} {xs : List Nat} {j : Nat} : (zn_ins key xs).getD j 0 = if j < zn_fal key xs then xs.getD j 0 else if j = zn_fal key xs then key else xs.getD (j - 1) 0 := by
  have hl := zn_fal_le key xs
  have ht : (xs.take (zn_fal key xs)).length = zn_fal key xs := by rw [List.length_take]; omega
  unfold zn_ins
  simp only [List.getD]
  by_cases q : j < zn_fal key xs
  · rw [if_pos q, List.getElem?_append_left (by omega), List.getElem?_take_of_lt q]
  · rw [if_neg q, List.getElem?_append_right (by omega), ht]
    by_cases w : j = zn_fal key xs
    · rw [if_pos w, w, Nat.sub_self]
      rfl
    · rw [if_neg w]
      obtain ⟨d, hd⟩ : ∃ d, j - zn_fal key xs = d + 1 := ⟨j - zn_fal key xs - 1, by omega⟩
      rw [hd, List.getElem?_cons_succ, List.getElem?_drop]
      congr 2
      omega
def pa_x (v : zq_N) (k : Nat) : Nat := if k < (v.2 0).length then pa_e v k else (v.2 2).getD (k - (v.2 0).length) 0
/-- what k entries have made -/
def pa_s (v : zq_N) (k : Nat) : List Nat := zn_inss (zn_keep ((v.2 0).take k) ((v.2 1).take k)) ((v.2 2).take (k - (v.2 0).length))
section PaS
variable {v : zq_N} {k : Nat}
theorem pa_s0 (v : zq_N) : pa_s v 0 = [] := by
  unfold pa_s
  rw [List.take_zero, List.take_zero, Nat.zero_sub, List.take_zero]
  rfl
theorem pa_sm (h : zi_hx 8 v) : pa_s v ((v.2 0).length + (v.2 2).length) = zc_newbase v := by
  have := h.1.1.1
  unfold pa_s zc_newbase
  rw [List.take_of_length_le (by omega), List.take_of_length_le (by omega), Nat.add_sub_cancel_left, List.take_length]
theorem pa_keep_mem {a m : List Nat} {y j : Nat} (h : y ∈ zn_keep (a.take j) (m.take j)) : y ∈ a.take j := zn_keep_mem h
theorem pa_s1 (h : zi_hx 8 v) (hk : k < (v.2 0).length + (v.2 2).length) : pa_s v (k + 1) = if 10000 ≤ pa_x v k then pa_s v k else zn_ins (pa_x v k) (pa_s v k) := by
  have hm := h.1.1.1
  unfold pa_s pa_x
  by_cases q : k < (v.2 0).length
  · rw [if_pos q, show k + 1 - (v.2 0).length = 0 by omega, show k - (v.2 0).length = 0 by omega, List.take_zero]
    have e0 : (v.2 0).take (k + 1) = (v.2 0).take k ++ [(v.2 0).getD k 0] := by
      rw [zn_gD q, List.take_succ_eq_append_getElem q]
    have e1 : (v.2 1).take (k + 1) = (v.2 1).take k ++ [(v.2 1).getD k 0] := by
      rw [zn_gD (by omega), List.take_succ_eq_append_getElem (by omega)]
    rw [e0, e1, zn_keep_snoc (by rw [List.length_take, List.length_take]; omega)]
    show zn_keep _ _ ++ _ = if 10000 ≤ pa_e v k then zn_keep _ _ else zn_ins (pa_e v k) (zn_keep _ _)
    obtain ⟨b1, b2, b3, b4, b5⟩ := pa_b h q
    rcases b2 with b2 | b2
    · have e : pa_e v k = (v.2 0).getD k 0 := by unfold pa_e; rw [b2]; rfl
      rw [b2, e, if_neg (by omega), if_neg (by omega), zn_ins_last]
      intro y hy
      have hy := zn_keep_mem hy
      obtain ⟨i, hi, rfl⟩ := List.mem_iff_getElem.mp hy
      rw [List.length_take] at hi
      rw [List.getElem_take, zn_gD q]
      exact List.pairwise_iff_getElem.mp h.2.1.1 i k (by omega) q (by omega)
    · have e : pa_e v k = (v.2 0).getD k 0 + 10000 := by unfold pa_e; rw [b2]
      rw [b2, e, if_pos rfl, if_pos (by omega), List.append_nil]
  · rw [if_neg q]
    have hu : k - (v.2 0).length < (v.2 2).length := by omega
    have := pa_u h hu
    rw [if_neg (by omega), show k + 1 - (v.2 0).length = (k - (v.2 0).length) + 1 by omega, List.take_succ_eq_append_getElem hu, zn_inss_snoc, zn_gD hu]
    rw [List.take_of_length_le (l := v.2 0) (i := k + 1) (by omega), List.take_of_length_le (l := v.2 0) (i := k) (by omega), List.take_of_length_le (l := v.2 1) (i := k + 1) (by omega), List.take_of_length_le (l := v.2 1) (i := k) (by omega)]
theorem pa_s_sub (h : zi_hx 8 v) : ∀ k, ∀ y ∈ pa_s v k, (y ∈ (v.2 0).take k) ∨ y ∈ (v.2 2).take (k - (v.2 0).length) := by
  intro k y hy
  unfold pa_s at hy
  rcases List.mem_append.mp ((zn_inss_perm _ _).mem_iff.mp hy) with q | q
  · exact Or.inl (zn_keep_mem q)
  · exact Or.inr q
theorem pa_s_sorted (h : zi_hx 8 v) : ∀ k, (pa_s v k).Pairwise (· < ·) := by
  intro k
  obtain ⟨o1, o2, o3, o4⟩ := h.2.1
  unfold pa_s
  refine zn_inss_sorted ((o1.sublist (List.take_sublist k _)).sublist (zn_keep_sub _ _)) (o2.sublist (List.take_sublist _ _)) (fun y hy w => ?_)
  exact o3 y (List.mem_of_mem_take hy) (List.mem_of_mem_take (zn_keep_mem w))
theorem pa_s_lt (h : zi_hx 8 v) (k : Nat) : ∀ y ∈ pa_s v k, y < 10000 := by
  intro y hy
  rcases pa_s_sub h k y hy with q | q
  · exact h.1.2.2.1 y (List.mem_of_mem_take q)
  · exact h.1.2.2.2.2 y (List.mem_of_mem_take q)
theorem pa_s_len (h : zi_hx 8 v) (k : Nat) : (pa_s v k).length ≤ 32 := by
  unfold pa_s
  rw [(zn_inss_perm _ _).length_eq, List.length_append]
  have a := (zn_keep_sub ((v.2 0).take k) ((v.2 1).take k)).length_le
  have b : ((v.2 2).take (k - (v.2 0).length)).length ≤ (v.2 2).length := by rw [List.length_take]; omega
  have c : ((v.2 0).take k).length ≤ (v.2 0).length := by rw [List.length_take]; omega
  have := h.1.1.2
  have := h.2.2.2
  omega
theorem pa_s_new (h : zi_hx 8 v) (hk : k < (v.2 0).length + (v.2 2).length) (hx : ¬ 10000 ≤ pa_x v k) : pa_x v k ∉ pa_s v k := by
  intro w
  obtain ⟨o1, o2, o3, o4⟩ := h.2.1
  unfold pa_x at w hx
  by_cases q : k < (v.2 0).length
  · rw [if_pos q] at w hx
    obtain ⟨b1, b2, b3, b4, b5⟩ := pa_b h q
    have e : pa_e v k = (v.2 0)[k] := by
      rw [← zn_gD (d := 0) q]
      unfold pa_e at hx ⊢
      rcases b2 with b2 | b2
      · rw [b2]; rfl
      · rw [b2] at hx; omega
    rw [e] at w
    rcases pa_s_sub h k _ w with w | w
    · obtain ⟨i, hi, hh⟩ := List.mem_iff_getElem.mp w
      rw [List.length_take] at hi
      rw [List.getElem_take] at hh
      have := List.pairwise_iff_getElem.mp o1 i k (by omega) q (by omega)
      omega
    · exact o3 _ (List.mem_of_mem_take w) (List.getElem_mem q)
  · rw [if_neg q] at w hx
    have hu : k - (v.2 0).length < (v.2 2).length := by omega
    rw [zn_gD hu] at w
    rcases pa_s_sub h k _ w with w | w
    · exact o3 _ (List.getElem_mem hu) (List.mem_of_mem_take w)
    · obtain ⟨i, hi, hh⟩ := List.mem_iff_getElem.mp w
      rw [List.length_take] at hi
      rw [List.getElem_take] at hh
      have := (List.pairwise_iff_getElem.mp o2) i (k - (v.2 0).length) (by omega) hu (by omega)
      exact this hh
end PaS
/-- a row that holds a list at its front -/
def pa_h (h : Nat → Int32) (S : List Nat) : Prop := ∀ j, j < S.length → h j = nI (S.getD j 0)
section PaT
variable {cA : ClassId} {a0 a1 a2 a4 : Nat} {x3 : Int32} {S : List Nat} {key : Nat}
theorem pa_shift (hs : S.Pairwise (· < ·)) (hl : S.length < 40) (hb : ∀ y ∈ S, y < 10000) (hk : key < 10000) (hn : key ∉ S) (x5 x6 : Int32) (K : Int32 → bq_E → Option bq_E) : ∀ (N p : Nat) (E : bq_E) (h : Nat → Int32), p < N → zn_fal key S ≤ p → p ≤ S.length → E a4 = .inl (cA, 40, .inl h) → (∀ j, j < p → h j = nI (S.getD j 0)) → (∀ j, p ≤ j → j < S.length → h (j + 1) = nI (S.getD j 0)) →
    ∃ E' h', tl_L_settle_69 a0 a1 a2 x3 a4 x5 x6 (nI key) K N (nI p) E = K (nI (zn_fal key S)) E' ∧ E' a4 = .inl (cA, 40, .inl h') ∧ (∀ j, j < zn_fal key S → h' j = nI (S.getD j 0)) ∧ (∀ j, zn_fal key S ≤ j → j < S.length → h' (j + 1) = nI (S.getD j 0)) ∧ ∀ q, q ≠ a4 → E' q = E q := by
  have hle : S.Pairwise (· ≤ ·) := hs.imp (fun {a b} q => Nat.le_of_lt q)
  have hfl := zn_fal_le key S
  intro N
  induction N with
  | zero => intro p E h hN; omega
  | succ N ih =>
    intro p E h hN h1 h2 hE ha hc
    rw [tl_L_settle_69.eq_2]
    cases p with
    | zero =>
      rw [if_pos (show nI 0 ≤ 0 by decide), show zn_fal key S = 0 by omega]
      exact ⟨E, h, rfl, hE, fun j hj => by omega, fun j _ hj => hc j (Nat.zero_le _) hj, fun _ _ => rfl⟩
    | succ p =>
      have hpS : p < S.length := by omega
      have hv : S.getD p 0 < 10000 := by rw [zn_gD hpS]; exact hb _ (List.getElem_mem hpS)
      have e1 : S.getD p 10000 = S.getD p 0 := by rw [zn_gD hpS, zn_gD hpS]
      rw [if_neg (nI_nle (by omega) (by omega)), nI_pred, zq_ai hE (by omega) (by omega), ha p (by omega)]
      simp only [zq_bindE]
      by_cases q : S.getD p 0 ≤ key
      · rw [if_pos (nI_le q (by omega))]
        have hne : S.getD p 0 ≠ key := fun e => hn (by rw [← e, zn_gD hpS]; exact List.getElem_mem hpS)
        have : p < zn_fal key S := Nat.lt_of_not_le (fun w => by
          have := zn_fal_hi (by omega) hle w
          omega)
        rw [show zn_fal key S = p + 1 by omega]
        exact ⟨E, h, rfl, hE, ha, hc, fun _ _ => rfl⟩
      · rw [if_neg (nI_ge (by omega) (by omega)), zq_si _ hE (by omega) (by omega)]
        simp only [zq_bindE, zq_letE]
        rw [pk_m1]
        have hfp : zn_fal key S ≤ p := Nat.le_of_not_lt (fun w => by
          have := zn_fal_lo w
          omega)
        obtain ⟨E', h', r1, r2, r3, r4, r5⟩ := ih p (va_up E a4 (.inl (cA, 40, .inl (upd h (p + 1) (nI (S.getD p 0)))))) (upd h (p + 1) (nI (S.getD p 0))) (by omega) hfp (by omega) (va_up_self _ _ _) (fun j hj => by rw [pk_un (by omega)]; exact ha j (by omega)) (fun j hj hj2 => by
          by_cases w : j = p
          · subst w; rw [pk_us]
          · rw [pk_un (by omega)]; exact hc j (by omega) hj2)
        exact ⟨E', h', r1, r2, r3, r4, fun x hx => (r5 x hx).trans (va_up_ne _ _ hx)⟩
end PaT
section PaU
variable {g : bq_G} {cA : ClassId} {E0 : bq_E} {a b c i n : Nat} {v : zq_N}
theorem pa_v.off {E E' : bq_E} (h : pa_v g E a b c i v) (ha : E' a = E a) (hb : E' b = E b) (hc : E' c = E c) : pa_v g E' a b c i v := by
  obtain ⟨h3, hx, f, fu, fn, e1, e2, e3, n⟩ := h
  exact ⟨h3, hx, f, fu, fn, ha.trans e1, hb.trans e2, hc.trans e3, n⟩
theorem pa_collect (h0 : pa_v g E0 a b c i v) (hna : a ≠ n) (hnb : b ≠ n) (hnc : c ≠ n) (K : Int32 → Int32 → bq_E → Option bq_E) : ∀ (N k : Nat) (E : bq_E) (h : Nat → Int32), (v.2 0).length + (v.2 2).length - k < N → k ≤ (v.2 0).length + (v.2 2).length → (∀ q, q ≠ n → E q = E0 q) → E n = .inl (cA, 40, .inl h) → pa_h h (pa_s v k) →
    ∃ E' h', tl_L_settle_12 a b c (nI i) n K N (nI (pa_s v k).length) (nI k) E = K (nI (zc_newbase v).length) (nI ((v.2 0).length + (v.2 2).length)) E' ∧ E' n = .inl (cA, 40, .inl h') ∧ pa_h h' (zc_newbase v) ∧ ∀ q, q ≠ n → E' q = E0 q := by
  have hx := h0.2.1
  have h24 := hx.1.1.2
  have h8 := hx.2.2.2
  intro N
  induction N with
  | zero => intro k E h hN; omega
  | succ N ih =>
    intro k E h hN hk hE hn hh
    have hv : pa_v g E a b c i v := h0.off (hE a hna) (hE b hnb) (hE c hnc)
    rw [tl_L_settle_12.eq_2, hv.n, hv.m]
    simp only [zq_bindE]
    rw [nI_add]
    by_cases q : (v.2 0).length + (v.2 2).length ≤ k
    · rw [if_pos (nI_le q (by omega))]
      have ek : k = (v.2 0).length + (v.2 2).length := by omega
      subst ek
      rw [pa_sm hx] at hh ⊢
      exact ⟨E, h, rfl, hn, hh, hE⟩
    · rw [if_neg (nI_ge (by omega) (by omega))]
      simp only [zq_letE]
      have hl := pa_s_len hx k
      have fin : ∃ E' h', (if (10000 : Int32) ≤ nI (pa_x v k) then tl_L_settle_12 a b c (nI i) n K N (nI (pa_s v k).length) (nI k + 1) E else tl_L_settle_69 a b c (nI i) n (nI (pa_s v k).length) (nI k) (nI (pa_x v k)) (fun y1206 E1207 => (bq_si E1207 n y1206 (nI (pa_x v k))).bind fun E1208 => tl_L_settle_12 a b c (nI i) n K N (nI (pa_s v k).length + 1) (nI k + 1) E1208) bq_fuel (nI (pa_s v k).length) E) = K (nI (zc_newbase v).length) (nI ((v.2 0).length + (v.2 2).length)) E' ∧ E' n = .inl (cA, 40, .inl h') ∧ pa_h h' (zc_newbase v) ∧ ∀ q, q ≠ n → E' q = E0 q := by
        have hs1 := pa_s1 hx (k := k) (by omega)
        have hx20 : pa_x v k < 20000 := by
          unfold pa_x
          split
          · exact (pa_b hx (by assumption)).2.2.1
          · have := pa_u hx (k := k - (v.2 0).length) (by omega)
            omega
        by_cases w : 10000 ≤ pa_x v k
        · rw [if_pos w] at hs1
          rw [if_pos (show (10000 : Int32) ≤ nI (pa_x v k) from nI_le (a := 10000) w (by omega)), nI_1, ← hs1]
          exact ih (k + 1) E h (by omega) (by omega) hE hn (by rw [hs1]; exact hh)
        · rw [if_neg w] at hs1
          rw [if_neg (show ¬ (10000 : Int32) ≤ nI (pa_x v k) from nI_ge (b := 10000) (by omega) (by omega))]
          obtain ⟨E1, h1, r1, r2, r3, r4, r5⟩ := pa_shift (cA := cA) (a0 := a) (a1 := b) (a2 := c) (a4 := n) (x3 := nI i) (S := pa_s v k) (key := pa_x v k) (pa_s_sorted hx k) (by omega) (pa_s_lt hx k) (by omega) (pa_s_new hx (by omega) w) (nI (pa_s v k).length) (nI k) (fun y1206 E1207 => (bq_si E1207 n y1206 (nI (pa_x v k))).bind fun E1208 => tl_L_settle_12 a b c (nI i) n K N (nI (pa_s v k).length + 1) (nI k + 1) E1208) bq_fuel (pa_s v k).length E h (bq_fuel_ge (by omega)) (zn_fal_le _ _) (Nat.le_refl _) hn hh (fun j hj hj2 => by omega)
          have hfl := zn_fal_le (pa_x v k) (pa_s v k)
          rw [r1, zq_si _ r2 (by omega) (by omega)]
          simp only [zq_bindE]
          have hlen : (pa_s v (k + 1)).length = (pa_s v k).length + 1 := by rw [hs1, zn_ins_len]
          rw [nI_1, nI_1, ← hlen]
          refine ih (k + 1) _ _ (by omega) (by omega) (fun x hx2 => ?_) (va_up_self _ _ _) (fun j hj => ?_)
          · rw [va_up_ne _ _ hx2]; exact (r5 x hx2).trans (hE x hx2)
          · rw [hs1, zn_ins_get]
            by_cases w1 : j < zn_fal (pa_x v k) (pa_s v k)
            · rw [if_pos w1, pk_un (by omega), r3 j w1]
            · rw [if_neg w1]
              by_cases w2 : j = zn_fal (pa_x v k) (pa_s v k)
              · rw [if_pos w2, w2, pk_us]
              · rw [if_neg w2, pk_un w2]
                have := r4 (j - 1) (by omega) (by omega)
                rw [show j - 1 + 1 = j by omega] at this
                exact this
      by_cases w : (v.2 0).length ≤ k
      · rw [if_pos (nI_le w (by omega))]
        have ei : (8 : Int32) * nI i + nI k - nI (v.2 0).length = (8 : Int32) * nI i + nI (k - (v.2 0).length) := by
          rw [pa_8m, pa_8m, pk_sub (by omega), show 8 * i + k - (v.2 0).length = 8 * i + (k - (v.2 0).length) by omega]
        rw [ei, hv.u (by omega)]
        simp only [zq_bindE]
        have ex : (v.2 2).getD (k - (v.2 0).length) 0 = pa_x v k := by unfold pa_x; rw [if_neg (by omega)]
        rw [ex]
        exact fin
      · rw [if_neg (nI_ge (by omega) (by omega)), hv.f (by omega)]
        simp only [zq_bindE]
        have ex : pa_e v k = pa_x v k := by unfold pa_x; rw [if_pos (by omega)]
        rw [ex]
        exact fin
def pa_fb (S : List Nat) (f : Nat → Int32) (k : Nat) : Nat → Int32 := fun j => if j < k then nI (S.getD j 0) else f j
def pa_fn (fn : Nat → Int32) (i m : Nat) : Nat → Int32 := upd (upd (upd fn i (nI m)) (8 + i) 0) 19 (fn 19 + 1)
theorem pa_copies {f fn h : Nat → Int32} {S : List Nat} {c0 c1 : ClassId} (hi : i < 3) (hac : a ≠ c) (han : a ≠ n) (hcn : c ≠ n) (hS : S.length ≤ 24) (hh : pa_h h S) : ∀ (N k : Nat) (E : bq_E), S.length - k < N → k ≤ S.length → E a = .inl (c0, 24, .inl (pa_fb S f k)) → E c = .inl (c1, 20, .inl fn) → E n = .inl (cA, 40, .inl h) → (∀ q, q ≠ a → q ≠ n → E q = E0 q) →
    ∃ E', tl_L_settle_123 a c (nI i) n (nI S.length) N (nI k) E = some E' ∧ E' a = .inl (c0, 24, .inl (pa_fb S f S.length)) ∧ E' c = .inl (c1, 20, .inl (pa_fn fn i S.length)) ∧ ∀ q, q ≠ a → q ≠ c → q ≠ n → E' q = E0 q := by
  intro N
  induction N with
  | zero => intro k E hN; omega
  | succ N ih =>
    intro k E hN hk e1 e2 e3 e4
    rw [tl_L_settle_123.eq_2]
    by_cases q : S.length ≤ k
    · rw [if_pos (nI_le q (by omega)), zq_si _ e2 (by omega) (by omega)]
      simp only [zq_bindE]
      rw [show (8 : Int32) + nI i = nI (8 + i) from pa_8 i, zq_si (f := upd fn i (nI S.length)) _ (va_up_self _ _ _) (by omega) (by omega)]
      simp only [zq_bindE]
      rw [show (19 : Int32) = nI 19 from rfl, zq_ai (f := upd (upd fn i (nI S.length)) (8 + i) 0) (va_up_self _ _ _) (by omega) (by omega)]
      simp only [zq_bindE]
      rw [zq_si (f := upd (upd fn i (nI S.length)) (8 + i) 0) _ (va_up_self _ _ _) (by omega) (by omega)]
      simp only [zq_bindE]
      have ek : k = S.length := by omega
      subst ek
      refine ⟨_, rfl, ?_, ?_, fun x h1 h2 h3 => ?_⟩
      · rw [va_up_ne _ _ hac, va_up_ne _ _ hac, va_up_ne _ _ hac]; exact e1
      · rw [va_up_self]
        unfold pa_fn
        rw [pk_un (show 19 ≠ 8 + i by omega), pk_un (show 19 ≠ i by omega)]
      · rw [va_up_ne _ _ h2, va_up_ne _ _ h2, va_up_ne _ _ h2]; exact e4 x h1 h3
    · rw [if_neg (nI_ge (by omega) (by omega)), zq_ai e3 (by omega) (by omega), hh k (by omega)]
      simp only [zq_bindE]
      rw [zq_si _ e1 (by omega) (by omega)]
      simp only [zq_bindE, zq_letE]
      rw [nI_1]
      refine ih (k + 1) _ (by omega) (by omega) ?_ ?_ ?_ (fun x h1 h2 => ?_)
      · rw [va_up_self]
        congr 3
        congr 1
        funext j
        unfold pa_fb
        by_cases w : j = k
        · subst w; rw [pk_us, if_pos (by omega)]
        · rw [pk_un w]
          by_cases w2 : j < k
          · rw [if_pos w2, if_pos (by omega)]
          · rw [if_neg w2, if_neg (by omega)]
      · rw [va_up_ne _ _ (Ne.symm hac)]; exact e2
      · rw [va_up_ne _ _ (Ne.symm han)]; exact e3
      · rw [va_up_ne _ _ h1]; exact e4 x h1 h2
theorem pa_settles {E : bq_E} {f fu fn : Nat → Int32} (hi : i < 3) (hx : zi_hx 8 v) (e1 : E a = .inl (g.2.1, 24, .inl f)) (e2 : E b = .inl (g.2.1, 24, .inl fu)) (e3 : E c = .inl (g.2.1, 20, .inl fn)) (hv : pa_nd v f fu fn i) (hac : a ≠ c) : zs_settles E a b c (nI i) (va_up (va_up E a (.inl (g.2.1, 24, .inl (pa_fb (zc_newbase v) f (zc_newbase v).length)))) c (.inl (g.2.1, 20, .inl (pa_fn fn i (zc_newbase v).length)))) := by
  intro g2 n hn
  have na : a ≠ n := fun e => by rw [e, hn] at e1; cases e1
  have nb : b ≠ n := fun e => by rw [e, hn] at e2; cases e2
  have nc : c ≠ n := fun e => by rw [e, hn] at e3; cases e3
  have h0 : pa_v g (va_up E n (.inl (g2.2.1, 40, .inl (fun _ => 0)))) a b c i v := ⟨hi, hx, f, fu, fn, (va_up_ne _ _ na).trans e1, (va_up_ne _ _ nb).trans e2, (va_up_ne _ _ nc).trans e3, hv⟩
  have h24 := hx.1.1.2
  have h8 := hx.2.2.2
  unfold ts_L_settle
  obtain ⟨E1, h1, r1, r2, r3, r4⟩ := pa_collect (cA := g2.2.1) h0 na nb nc (fun y1 y2 E3 => tl_L_settle_123 a c (nI i) n y1 bq_fuel (0 : Int32) E3) bq_fuel 0 _ (fun _ => 0) (bq_fuel_ge (by omega)) (Nat.zero_le _) (fun _ _ => rfl) (va_up_self _ _ _) (fun j hj => by rw [pa_s0] at hj; simp at hj)
  rw [pa_s0] at r1
  rw [show (0 : Int32) = nI ([] : List Nat).length from rfl, show nI ([] : List Nat).length = nI 0 from rfl]
  rw [show nI ([] : List Nat).length = nI 0 from rfl] at r1
  have h24' := zc_nb_24 hx
  obtain ⟨E2, q1, q2, q3, q4⟩ := pa_copies (E0 := E1) (cA := g2.2.1) (a := a) (c := c) (n := n) (i := i) (f := f) (fn := fn) (h := h1) (S := zc_newbase v) (c0 := g.2.1) (c1 := g.2.1) hi hac na nc h24' r3 bq_fuel 0 E1 (bq_fuel_ge (by omega)) (Nat.zero_le _) (by
      rw [r4 a na, va_up_ne _ _ na, e1]
      congr 3) (by rw [r4 c nc, va_up_ne _ _ nc, e3]) r2 (fun _ _ _ => rfl)
  refine ⟨E2, ?_, ?_⟩
  · exact r1.trans q1
  · funext x
    by_cases w : x = n
    · subst w
      rw [va_up_self, va_up_ne _ _ (Ne.symm nc), va_up_ne _ _ (Ne.symm na), hn]
    · rw [va_up_ne _ _ w]
      by_cases w2 : x = c
      · subst w2; rw [va_up_self, q3]
      · rw [va_up_ne _ _ w2]
        by_cases w3 : x = a
        · subst w3; rw [va_up_self, q2]
        · rw [va_up_ne _ _ w3, q4 x w3 w2 w, r4 x w, va_up_ne _ _ w]
end PaU
theorem pa_settled {g : bq_G} {E : bq_E} {z i : Nat} {w : Nat → zq_N} {c s r : Int32} (h : pa_arr g E z w c s r) (hi : i < 3) (hx : zi_hx 8 (w i)) (hb : ∀ j, j < 3 → ((w j).2 2).length ≤ 8) (hd : E (z + 1383) = .inr (99, [])) : ∃ E', tw_L_settle E (z + 1378 + i) (z + 1381) (z + 1382) (nI i) = some E' ∧ pa_arr g E' z (va_up w i (zc_settled (w i))) c s (r + 1) ∧ zq_same E E' (z + 1378) (z + 1383) := by
  obtain ⟨f, fu, fn, hA, hN⟩ := h
  have hs := pa_settles (g := g) hi hx (hA.1 i hi) hA.2.1 hA.2.2 (hN.1 i hi) (show z + 1378 + i ≠ z + 1382 by omega)
  refine ⟨_, tw_L_settleI g hd hs, ⟨va_up f i (pa_fb (zc_newbase (w i)) (f i) (zc_newbase (w i)).length), fu, pa_fn fn i (zc_newbase (w i)).length, ⟨fun j hj => ?_, ?_, ?_⟩, hN.node hi hb (v := zc_settled (w i)) ⟨?_, ?_, fun k hk => ?_, fun k hk => ?_⟩ (fun k _ => rfl) (fun k h1 h2 h3 => ?_) ⟨?_, ?_, ?_⟩⟩, (zq_same.up (by omega)).trans (zq_same.up (by omega))⟩
  · rw [va_up_ne _ _ (by omega)]
    by_cases q : j = i
    · subst q; rw [va_up_self, va_up_self]
    · rw [va_up_ne _ _ (by omega), va_up_ne _ _ q]; exact hA.1 j hj
  · rw [va_up_ne _ _ (by omega), va_up_ne _ _ (by omega)]; exact hA.2.1
  · rw [va_up_self]
  · unfold pa_fn
    rw [pk_un (by omega), pk_un (by omega), pk_us]
    rfl
  · unfold pa_fn
    rw [pk_un (by omega), pk_us]
    rfl
  · have hk' : k < (zc_newbase (w i)).length := hk
    have e : pa_e (zc_settled (w i)) k = (zc_newbase (w i)).getD k 0 := by
      unfold pa_e
      rw [zc_settled_r0, zc_settled_r1]
      have : (List.replicate (zc_newbase (w i)).length 0).getD k 0 = 0 := by simp [List.getD, hk']
      rw [this]
      rfl
    rw [e]
    exact if_pos hk'
  · rw [zc_settled_r2] at hk
    simp at hk
  · unfold pa_fn
    rw [pk_un (by omega), pk_un h2, pk_un h1]
  · unfold pa_fn
    rw [pk_un (by omega), pk_un (by omega), pk_un (by omega)]
    exact hN.2.1
  · unfold pa_fn
    rw [pk_un (by omega), pk_un (by omega), pk_un (by omega)]
    exact hN.2.2.1
  · unfold pa_fn
    rw [pk_us, hN.2.2.2]
