/-! The law's own numbers: three bases with their marks, the buffers, the counts, in five rows. -/
def pa_e (v : zq_N) (k : Nat) : Nat := (v.2 0).getD k 0 + 10000 * (v.2 1).getD k 0
def pa_nd (v : zq_N) (f fu fn : Nat → Int32) (i : Nat) : Prop :=
  fn i = nI (v.2 0).length ∧ fn (8 + i) = nI (v.2 2).length ∧ (∀ k, k < (v.2 0).length → f k = nI (pa_e v k)) ∧ ∀ k, k < (v.2 2).length → fu (8 * i + k) = nI ((v.2 2).getD k 0)
/-- the rows a, b, c hold node i as v -/
def pa_v (g : bq_G) (E : bq_E) (a b c i : Nat) (v : zq_N) : Prop := i < 3 ∧ zi_hx 8 v ∧ ∃ f fu fn, E a = .inl (g.2.1, 24, .inl f) ∧ E b = .inl (g.2.1, 24, .inl fu) ∧ E c = .inl (g.2.1, 20, .inl fn) ∧ pa_nd v f fu fn i
theorem pa_8 (i : Nat) : (8 : Int32) + nI i = nI (8 + i) := nI_add 8 i
theorem pa_8m (i k : Nat) : (8 : Int32) * nI i + nI k = nI (8 * i + k) := by
  rw [show (8 : Int32) = nI 8 from rfl, pk_mul, nI_add]
theorem pa_rem {a d : Nat} (ha : a < 2 ^ 31) (h0 : 0 < d) (hd : d < 2 ^ 31) : bq_rem (nI a) (nI d) = nI (a % d) := pk_rem ha h0 hd
theorem zi_hx.up {v : zq_N} {b c : Nat} (h : zi_hx b v) (hc : b ≤ c) : zi_hx c v := ⟨h.1, h.2.1, h.2.2.1, Nat.le_trans h.2.2.2 hc⟩
theorem zn_pos_le (key : Nat) : ∀ xs : List Nat, zn_pos key xs ≤ xs.length
  | [] => Nat.le_refl _
  | x :: t => by
    unfold zn_pos
    split
    · exact Nat.zero_le _
    · have := zn_pos_le key t
      rw [List.length_cons]
      omega
theorem zn_pos_in {key : Nat} : ∀ {xs : List Nat}, zn_pos key xs < xs.length ↔ key ∈ xs
  | [] => by simp [zn_pos]
  | x :: t => by
    have ih := zn_pos_in (key := key) (xs := t)
    unfold zn_pos
    by_cases q : x = key
    · rw [if_pos q]
      subst q
      simp
    · rw [if_neg q, List.length_cons, List.mem_cons, Nat.add_lt_add_iff_right, ih]
      exact ⟨Or.inr, fun h => h.resolve_left (fun e => q e.symm)⟩
theorem zn_pos_at {key : Nat} : ∀ {xs : List Nat}, xs.Nodup → ∀ {j : Nat}, j < xs.length → (xs.getD j 0 = key ↔ zn_pos key xs = j)
  | [], _, j, hj => by simp at hj
  | x :: t, hn, j, hj => by
    have hc := List.nodup_cons.mp hn
    unfold zn_pos
    cases j with
    | zero =>
      show x = key ↔ _
      by_cases q : x = key
      · rw [if_pos q]; simp [q]
      · rw [if_neg q]; simp [q]
    | succ j =>
      have hj' : j < t.length := by simpa using hj
      show t.getD j 0 = key ↔ _
      by_cases q : x = key
      · rw [if_pos q]
        refine ⟨fun e => ?_, fun e => by omega⟩
        rw [zn_gD hj'] at e
        exact absurd (q ▸ e ▸ List.getElem_mem hj') hc.1
      · rw [if_neg q, zn_pos_at hc.2 hj']
        omega
section PaV
variable {g : bq_G} {E : bq_E} {a b c i key : Nat} {v : zq_N}
theorem pa_v.n (h : pa_v g E a b c i v) : bq_ai E c (nI i) = some (nI (v.2 0).length) := by
  obtain ⟨h3, hx, f, fu, fn, e1, e2, e3, n1, n2, n3, n4⟩ := h
  rw [zq_ai e3 (by omega) (by omega), n1]
theorem pa_v.m (h : pa_v g E a b c i v) : bq_ai E c ((8 : Int32) + nI i) = some (nI (v.2 2).length) := by
  obtain ⟨h3, hx, f, fu, fn, e1, e2, e3, n1, n2, n3, n4⟩ := h
  rw [pa_8, zq_ai e3 (by omega) (by omega), n2]
theorem pa_v.f (h : pa_v g E a b c i v) {k : Nat} (hk : k < (v.2 0).length) : bq_ai E a (nI k) = some (nI (pa_e v k)) := by
  obtain ⟨h3, hx, f, fu, fn, e1, e2, e3, n1, n2, n3, n4⟩ := h
  have := hx.1.1.2
  rw [zq_ai e1 (by omega) (by omega), n3 k hk]
theorem pa_v.u (h : pa_v g E a b c i v) {k : Nat} (hk : k < (v.2 2).length) : bq_ai E b ((8 : Int32) * nI i + nI k) = some (nI ((v.2 2).getD k 0)) := by
  obtain ⟨h3, hx, f, fu, fn, e1, e2, e3, n1, n2, n3, n4⟩ := h
  have := hx.2.2.2
  rw [pa_8m, zq_ai e2 (by omega) (by omega), n4 k hk]
theorem pa_b (h : zi_hx 8 v) {k : Nat} (hk : k < (v.2 0).length) : (v.2 0).getD k 0 < 10000 ∧ ((v.2 1).getD k 0 = 0 ∨ (v.2 1).getD k 0 = 1) ∧ pa_e v k < 20000 ∧ pa_e v k % 10000 = (v.2 0).getD k 0 ∧ pa_e v k / 10000 = (v.2 1).getD k 0 := by
  have h1 := h.1.2.2.1 _ (List.getElem_mem hk)
  have hm : k < (v.2 1).length := by rw [h.1.1.1]; exact hk
  have h2 := h.1.2.2.2.1 _ (List.getElem_mem hm)
  rw [← zn_gD (d := 0) hk] at h1
  rw [← zn_gD (d := 0) hm] at h2
  unfold pa_e
  rcases h2 with h2 | h2
  · rw [h2]; exact ⟨h1, Or.inl rfl, by omega, by omega, by omega⟩
  · rw [h2]; exact ⟨h1, Or.inr rfl, by omega, by omega, by omega⟩
theorem pa_u (h : zi_hx 8 v) {k : Nat} (hk : k < (v.2 2).length) : (v.2 2).getD k 0 < 10000 := by
  have h1 := h.1.2.2.2.2 _ (List.getElem_mem hk)
  rwa [← zn_gD (d := 0) hk] at h1
theorem pa_inBase (h : pa_v g E a b c i v) (hk : key < 10000) : tw_L_inBase E a c (nI i) (nI key) = some (if zn_pos key (v.2 0) < (v.2 0).length then nI (zn_pos key (v.2 0)) else -1) := by
  have hx := h.2.1
  have h24 := hx.1.1.2
  have hn : (v.2 0).Nodup := hx.2.1.1.imp (fun {a b} q => Nat.ne_of_lt q)
  have go : ∀ (N j : Nat) (cur : Int32), (v.2 0).length - j < N → j ≤ (v.2 0).length → cur = (if zn_pos key (v.2 0) < j then nI (zn_pos key (v.2 0)) else -1) → tl_L_inBase_6 E a c (nI i) (nI key) N cur (nI j) = some (if zn_pos key (v.2 0) < (v.2 0).length then nI (zn_pos key (v.2 0)) else -1) := by
    intro N
    induction N with
    | zero => intro j cur hN; omega
    | succ N ih =>
      intro j cur hN hj hc
      rw [tl_L_inBase_6.eq_2, h.n]
      simp only [zq_bindE]
      by_cases q : (v.2 0).length ≤ j
      · rw [if_pos (nI_le q (by omega)), hc, show j = (v.2 0).length by omega]
      · rw [if_neg (nI_ge (by omega) (by omega)), h.f (by omega)]
        simp only [zq_bindE, zq_letE]
        obtain ⟨b1, b2, b3, b4, b5⟩ := pa_b hx (k := j) (by omega)
        rw [show (10000 : Int32) = nI 10000 from rfl, pa_rem (by omega) (by omega) (by omega), b4, nI_1]
        have hp := zn_pos_at (key := key) hn (j := j) (by omega)
        by_cases w : (v.2 0).getD j 0 = key
        · rw [if_pos (by rw [w])]
          refine ih (j + 1) _ (by omega) (by omega) ?_
          rw [hp.mp w, if_pos (by omega)]
        · rw [if_neg (fun e => w ((nI_inj (by omega) (by omega)).mp e))]
          refine ih (j + 1) _ (by omega) (by omega) ?_
          rw [hc]
          have : zn_pos key (v.2 0) ≠ j := fun e => w (hp.mpr e)
          by_cases w2 : zn_pos key (v.2 0) < j
          · rw [if_pos w2, if_pos (by omega)]
          · rw [if_neg w2, if_neg (by omega)]
  unfold tw_L_inBase
  exact go bq_fuel 0 (-1) (bq_fuel_ge (by omega)) (Nat.zero_le _) (by rw [if_neg (Nat.not_lt_zero _)])
theorem pa_inBuffer (h : pa_v g E a b c i v) (hk : key < 10000) : tw_L_inBuffer E b c (nI i) (nI key) = some (if zn_pos key (v.2 2) < (v.2 2).length then nI (zn_pos key (v.2 2)) else -1) := by
  have hx := h.2.1
  have h8 := hx.2.2.2
  have hn : (v.2 2).Nodup := hx.2.1.2.1
  have go : ∀ (N j : Nat) (cur : Int32), (v.2 2).length - j < N → j ≤ (v.2 2).length → cur = (if zn_pos key (v.2 2) < j then nI (zn_pos key (v.2 2)) else -1) → tl_L_inBuffer_6 E b c (nI i) (nI key) N cur (nI j) = some (if zn_pos key (v.2 2) < (v.2 2).length then nI (zn_pos key (v.2 2)) else -1) := by
    intro N
    induction N with
    | zero => intro j cur hN; omega
    | succ N ih =>
      intro j cur hN hj hc
      rw [tl_L_inBuffer_6.eq_2, h.m]
      simp only [zq_bindE]
      by_cases q : (v.2 2).length ≤ j
      · rw [if_pos (nI_le q (by omega)), hc, show j = (v.2 2).length by omega]
      · rw [if_neg (nI_ge (by omega) (by omega)), h.u (by omega)]
        simp only [zq_bindE, zq_letE]
        have hu := pa_u hx (k := j) (by omega)
        rw [nI_1]
        have hp := zn_pos_at (key := key) hn (j := j) (by omega)
        by_cases w : (v.2 2).getD j 0 = key
        · rw [if_pos (by rw [w])]
          refine ih (j + 1) _ (by omega) (by omega) ?_
          rw [hp.mp w, if_pos (by omega)]
        · rw [if_neg (fun e => w ((nI_inj (by omega) (by omega)).mp e))]
          refine ih (j + 1) _ (by omega) (by omega) ?_
          rw [hc]
          have : zn_pos key (v.2 2) ≠ j := fun e => w (hp.mpr e)
          by_cases w2 : zn_pos key (v.2 2) < j
          · rw [if_pos w2, if_pos (by omega)]
          · rw [if_neg w2, if_neg (by omega)]
  unfold tw_L_inBuffer
  exact go bq_fuel 0 (-1) (bq_fuel_ge (by omega)) (Nat.zero_le _) (by rw [if_neg (Nat.not_lt_zero _)])
theorem pa_m1 : ((-1 : Int32) < 0) := by decide
theorem pa_has (h : pa_v g E a b c i v) (hk : key < 10000) : tw_L_has E a b c (nI i) (nI key) = some (zc_has v key) := by
  have hx := h.2.1
  have h24 := hx.1.1.2
  have h8 := hx.2.2.2
  have hn : (v.2 0).Nodup := hx.2.1.1.imp (fun {a b} q => Nat.ne_of_lt q)
  have rest : ((tw_L_inBuffer E b c (nI i) (nI key)).bind fun v2 => if v2 < 0 then some false else some true) = some (decide (key ∈ v.2 2)) := by
    rw [pa_inBuffer h hk]
    simp only [zq_bindE]
    have hle := zn_pos_le key (v.2 2)
    by_cases q : key ∈ v.2 2
    · rw [if_pos (zn_pos_in.mpr q), if_neg (nI_pos (by omega)), decide_eq_true q]
    · rw [if_neg (fun w => q (zn_pos_in.mp w)), if_pos pa_m1, decide_eq_false q]
  unfold tw_L_has zc_has
  rw [pa_inBase h hk]
  simp only [zq_bindE, zq_letE]
  rw [rest]
  by_cases q : key ∈ v.2 0
  · have hp := zn_pos_in.mpr q
    rw [if_pos hp, if_neg (nI_pos (by omega)), h.f hp]
    simp only [zq_bindE]
    obtain ⟨b1, b2, b3, b4, b5⟩ := pa_b hx hp
    have e : (v.2 0).getD (zn_pos key (v.2 0)) 0 = key := (zn_pos_at hn hp).mpr rfl
    rcases b2 with b2 | b2
    · have hl : pa_e v (zn_pos key (v.2 0)) = key := by unfold pa_e; rw [e, b2]; rfl
      rw [hl, if_pos (show nI key < (10000 : Int32) from nI_lt (b := 10000) hk (by omega)), b2, decide_eq_true q]
      rfl
    · have hl : pa_e v (zn_pos key (v.2 0)) = key + 10000 := by unfold pa_e; rw [e, b2]
      rw [hl, if_neg (show ¬ nI (key + 10000) < (10000 : Int32) from nI_nlt (b := 10000) (by omega) (by omega)), b2, decide_eq_true q]
      rfl
  · rw [if_neg (fun w => q (zn_pos_in.mp w)), if_pos pa_m1, decide_eq_false q]
    rfl
theorem zn_tot_drop : ∀ (xs : List Nat) (j : Nat), j < xs.length → zn_tot (xs.drop j) = xs.getD j 0 + zn_tot (xs.drop (j + 1))
  | [], j, h => by simp at h
  | x :: t, 0, _ => rfl
  | x :: t, j + 1, h => zn_tot_drop t j (by simpa using h)
theorem zn_tot_end (xs : List Nat) : zn_tot (xs.drop xs.length) = 0 := by rw [List.drop_length]; rfl
theorem zn_tot_le1 : ∀ (xs : List Nat), (∀ x ∈ xs, x = 0 ∨ x = 1) → zn_tot xs ≤ xs.length
  | [], _ => Nat.le_refl _
  | x :: t, h => by
    have h1 := h x List.mem_cons_self
    have h2 := zn_tot_le1 t (fun y hy => h y (List.mem_cons_of_mem _ hy))
    show x + zn_tot t ≤ t.length + 1
    omega
theorem pa_marked (h : pa_v g E a b c i v) : tw_L_marked E a c (nI i) = some (nI (zn_tot (v.2 1))) := by
  have hx := h.2.1
  have h24 := hx.1.1.2
  have hm := hx.1.1.1
  have go : ∀ (N j s : Nat), (v.2 0).length - j < N → j ≤ (v.2 0).length → s + zn_tot ((v.2 1).drop j) = zn_tot (v.2 1) → tl_L_marked_5 E a c (nI i) N (nI s) (nI j) = some (nI (zn_tot (v.2 1))) := by
    intro N
    induction N with
    | zero => intro j s hN; omega
    | succ N ih =>
      intro j s hN hj hs
      rw [tl_L_marked_5.eq_2, h.n]
      simp only [zq_bindE]
      by_cases q : (v.2 0).length ≤ j
      · rw [if_pos (nI_le q (by omega))]
        rw [show j = (v.2 1).length by omega, zn_tot_end] at hs
        rw [← hs]
        rfl
      · rw [if_neg (nI_ge (by omega) (by omega)), h.f (by omega)]
        simp only [zq_bindE, zq_letE]
        obtain ⟨b1, b2, b3, b4, b5⟩ := pa_b hx (k := j) (by omega)
        rw [show (10000 : Int32) = nI 10000 from rfl, pk_div (by omega) (by omega) (by omega), b5, nI_add, nI_1]
        refine ih (j + 1) _ (by omega) (by omega) ?_
        rw [zn_tot_drop _ j (by omega)] at hs
        omega
  unfold tw_L_marked
  exact go bq_fuel 0 0 (bq_fuel_ge (by omega)) (Nat.zero_le _) (by rw [List.drop_zero]; exact Nat.zero_add _)
theorem pa_size (h : pa_v g E a b c i v) : tw_L_size E a c (nI i) = some (nI (zc_newbase v).length) := by
  have hx := h.2.1
  have hk := zn_keep_tot (v.2 0) (v.2 1) hx.1.1.1 hx.1.2.2.2.1
  unfold tw_L_size
  rw [h.n, h.m, pa_marked h]
  simp only [zq_bindE]
  rw [nI_add, pk_sub (by omega), zc_nb_len]
  congr 2
  omega
end PaV
/-- all of the law's rows -/
def pa_A (g : bq_G) (E : bq_E) (z : Nat) (f : Nat → Nat → Int32) (fu fn : Nat → Int32) : Prop := (∀ i, i < 3 → E (z + 1378 + i) = .inl (g.2.1, 24, .inl (f i))) ∧ E (z + 1381) = .inl (g.2.1, 24, .inl fu) ∧ E (z + 1382) = .inl (g.2.1, 20, .inl fn)
def pa_N (w : Nat → zq_N) (c s r : Int32) (f : Nat → Nat → Int32) (fu fn : Nat → Int32) : Prop := (∀ i, i < 3 → pa_nd (w i) (f i) fu fn i) ∧ fn 17 = c ∧ fn 18 = s ∧ fn 19 = r
def pa_arr (g : bq_G) (E : bq_E) (z : Nat) (w : Nat → zq_N) (c s r : Int32) : Prop := ∃ f fu fn, pa_A g E z f fu fn ∧ pa_N w c s r f fu fn
section PaA
variable {g : bq_G} {E : bq_E} {z i k : Nat} {f : Nat → Nat → Int32} {fu fn : Nat → Int32} {w : Nat → zq_N} {c s r : Int32}
theorem pa_A.sb (h : pa_A g E z f fu fn) (hi : i < 3) (hk : k < 24) (x : Int32) : ∃ E', bq_si E (z + 1378 + i) (nI k) x = some E' ∧ pa_A g E' z (va_up f i (upd (f i) k x)) fu fn ∧ zq_same E E' (z + 1378) (z + 1383) := by
  refine ⟨_, zq_si x (h.1 i hi) hk (by omega), ⟨fun j hj => ?_, ?_, ?_⟩, zq_same.up (by omega)⟩
  · by_cases q : j = i
    · subst q; rw [va_up_self, va_up_self]
    · rw [va_up_ne _ _ (by omega), va_up_ne _ _ q]; exact h.1 j hj
  · rw [va_up_ne _ _ (by omega)]; exact h.2.1
  · rw [va_up_ne _ _ (by omega)]; exact h.2.2
theorem pa_A.su (h : pa_A g E z f fu fn) (hk : k < 24) (x : Int32) : ∃ E', bq_si E (z + 1381) (nI k) x = some E' ∧ pa_A g E' z f (upd fu k x) fn ∧ zq_same E E' (z + 1378) (z + 1383) := by
  refine ⟨_, zq_si x h.2.1 hk (by omega), ⟨fun j hj => ?_, ?_, ?_⟩, zq_same.up (by omega)⟩
  · rw [va_up_ne _ _ (by omega)]; exact h.1 j hj
  · rw [va_up_self]
  · rw [va_up_ne _ _ (by omega)]; exact h.2.2
theorem pa_A.sn (h : pa_A g E z f fu fn) (hk : k < 20) (x : Int32) : ∃ E', bq_si E (z + 1382) (nI k) x = some E' ∧ pa_A g E' z f fu (upd fn k x) ∧ zq_same E E' (z + 1378) (z + 1383) := by
  refine ⟨_, zq_si x h.2.2 hk (by omega), ⟨fun j hj => ?_, ?_, ?_⟩, zq_same.up (by omega)⟩
  · rw [va_up_ne _ _ (by omega)]; exact h.1 j hj
  · rw [va_up_ne _ _ (by omega)]; exact h.2.1
  · rw [va_up_self]
theorem pa_A.rn (h : pa_A g E z f fu fn) (hk : k < 20) : bq_ai E (z + 1382) (nI k) = some (fn k) := zq_ai h.2.2 hk (by omega)
theorem pa_A.ru (h : pa_A g E z f fu fn) (hk : k < 24) : bq_ai E (z + 1381) (nI k) = some (fu k) := zq_ai h.2.1 hk (by omega)
theorem pa_A.rb (h : pa_A g E z f fu fn) (hi : i < 3) (hk : k < 24) : bq_ai E (z + 1378 + i) (nI k) = some (f i k) := zq_ai (h.1 i hi) hk (by omega)
theorem pa_A.same {E' : bq_E} {lo hi : Nat} (h : pa_A g E z f fu fn) (sm : zq_same E E' lo hi) (ho : z + 1383 ≤ lo ∨ hi ≤ z + 1378) : pa_A g E' z f fu fn := ⟨fun i hi => (sm _ (by omega)).trans (h.1 i hi), (sm _ (by omega)).trans h.2.1, (sm _ (by omega)).trans h.2.2⟩
theorem pa_arr.same {E' : bq_E} {lo hi : Nat} (h : pa_arr g E z w c s r) (sm : zq_same E E' lo hi) (ho : z + 1383 ≤ lo ∨ hi ≤ z + 1378) : pa_arr g E' z w c s r := by
  obtain ⟨f, fu, fn, a, b⟩ := h
  exact ⟨f, fu, fn, a.same sm ho, b⟩
theorem pa_nd.congr {v v' : zq_N} {f fu fn : Nat → Int32} (h : pa_nd v f fu fn i) (h0 : v'.2 0 = v.2 0) (h1 : v'.2 1 = v.2 1) (h2 : v'.2 2 = v.2 2) : pa_nd v' f fu fn i := by
  unfold pa_nd pa_e at *
  rw [h0, h1, h2]
  exact h
theorem pa_arr.congr {w' : Nat → zq_N} (h : pa_arr g E z w c s r) (hw : ∀ i, i < 3 → ∀ j, j < 3 → (w' i).2 j = (w i).2 j) : pa_arr g E z w' c s r := by
  obtain ⟨f, fu, fn, a, b, q⟩ := h
  exact ⟨f, fu, fn, a, fun i hi => (b i hi).congr (hw i hi 0 (by omega)) (hw i hi 1 (by omega)) (hw i hi 2 (by omega)), q⟩
theorem pa_arr.v (h : pa_arr g E z w c s r) (hi : i < 3) (hx : zi_hx 8 (w i)) : pa_v g E (z + 1378 + i) (z + 1381) (z + 1382) i (w i) := by
  obtain ⟨f, fu, fn, a, b⟩ := h
  exact ⟨hi, hx, f i, fu, fn, a.1 i hi, a.2.1, a.2.2, b.1 i hi⟩
theorem pa_arr.r17 (h : pa_arr g E z w c s r) : bq_ai E (z + 1382) 17 = some c ∧ bq_ai E (z + 1382) 18 = some s ∧ bq_ai E (z + 1382) 19 = some r := by
  obtain ⟨f, fu, fn, a, b, e1, e2, e3⟩ := h
  refine ⟨?_, ?_, ?_⟩
  · rw [show (17 : Int32) = nI 17 from rfl, a.rn (by omega), e1]
  · rw [show (18 : Int32) = nI 18 from rfl, a.rn (by omega), e2]
  · rw [show (19 : Int32) = nI 19 from rfl, a.rn (by omega), e3]
/-- node i becomes v: what the others keep -/
theorem pa_N.node (h : pa_N w c s r f fu fn) (hi : i < 3) (hb : ∀ j, j < 3 → ((w j).2 2).length ≤ 8) {v : zq_N} {fb fu' fn' : Nat → Int32} {c' s' r' : Int32} (hv : pa_nd v fb fu' fn' i) (h1 : ∀ k, ¬ (8 * i ≤ k ∧ k < 8 * i + 8) → fu' k = fu k) (h2 : ∀ k, k ≠ i → k ≠ 8 + i → k < 17 → fn' k = fn k) (h3 : fn' 17 = c' ∧ fn' 18 = s' ∧ fn' 19 = r') : pa_N (va_up w i v) c' s' r' (va_up f i fb) fu' fn' := by
  refine ⟨fun j hj => ?_, h3⟩
  by_cases q : j = i
  · subst q
    rw [va_up_self, va_up_self]
    exact hv
  · rw [va_up_ne _ _ q, va_up_ne _ _ q]
    obtain ⟨a1, a2, a3, a4⟩ := h.1 j hj
    refine ⟨(h2 j q (by omega) (by omega)).trans a1, (h2 (8 + j) (by omega) (by omega) (by omega)).trans a2, a3, fun k hk => ?_⟩
    have := hb j hj
    rw [h1 _ (by omega)]
    exact a4 k hk
end PaA
