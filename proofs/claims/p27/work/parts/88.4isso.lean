/-! The law's looking: all that it reads is so. -/
def pr_rel (g : bq_G) (E : bq_E) (z : Nat) (t : zq_T) : Prop := pz_face g E z t ∧ zi_inv 3 t ∧ pa_arr g E z t.2 (t.1 4) (t.1 5) (t.1 10) ∧ E (z + 1383) = .inr (99, [])
theorem pa_s_mem {v : zq_N} (h : zi_hx 8 v) {y : Nat} : ∀ k, k ≤ (v.2 0).length + (v.2 2).length → (y ∈ pa_s v k ↔ ∃ j, j < k ∧ pa_x v j = y ∧ y < 10000)
  | 0, _ => by
    rw [pa_s0]
    constructor
    · intro q; simp at q
    · intro ⟨j, hj, _⟩; omega
  | k + 1, hk => by
    have ih := pa_s_mem h (y := y) k (by omega)
    rw [pa_s1 h (by omega)]
    by_cases q : 10000 ≤ pa_x v k
    · rw [if_pos q, ih]
      constructor
      · intro ⟨j, h1, h2⟩; exact ⟨j, by omega, h2⟩
      · intro ⟨j, h1, h2, h3⟩
        refine ⟨j, ?_, h2, h3⟩
        have : j ≠ k := fun e => by rw [e] at h2; omega
        omega
    · rw [if_neg q, (zn_ins_perm _ _).mem_iff, List.mem_cons, ih]
      constructor
      · intro w
        rcases w with w | ⟨j, h1, h2⟩
        · exact ⟨k, by omega, w.symm, by omega⟩
        · exact ⟨j, by omega, h2⟩
      · intro ⟨j, h1, h2, h3⟩
        by_cases e : j = k
        · exact Or.inl (by rw [← h2, e])
        · exact Or.inr ⟨j, by omega, h2, h3⟩
/-- lb is the least of the first k entries that is at least x -/
def pa_least (v : zq_N) (x k lb : Nat) : Prop := lb ≤ 10000 ∧ (lb = 10000 ∨ ∃ j, j < k ∧ pa_x v j = lb ∧ x ≤ lb ∧ lb < 10000) ∧ ∀ j, j < k → x ≤ pa_x v j → pa_x v j < 10000 → lb ≤ pa_x v j
theorem pa_least_0 (v : zq_N) (x : Nat) : pa_least v x 0 10000 := ⟨Nat.le_refl _, Or.inl rfl, fun j hj => by omega⟩
theorem pa_least.skip {v : zq_N} {x k lb : Nat} (h : pa_least v x k lb) (hs : x ≤ pa_x v k → pa_x v k < 10000 → lb ≤ pa_x v k) : pa_least v x (k + 1) lb := by
  refine ⟨h.1, h.2.1.imp id (fun ⟨j, a, b⟩ => ⟨j, by omega, b⟩), fun j hj h1 h2 => ?_⟩
  by_cases e : j = k
  · subst e; exact hs h1 h2
  · exact h.2.2 j (by omega) h1 h2
theorem pa_least.take {v : zq_N} {x k lb : Nat} (h : pa_least v x k lb) (h1 : x ≤ pa_x v k) (h2 : pa_x v k < 10000) (h3 : pa_x v k ≤ lb) : pa_least v x (k + 1) (pa_x v k) := by
  refine ⟨by omega, Or.inr ⟨k, by omega, rfl, h1, h2⟩, fun j hj h4 h5 => ?_⟩
  by_cases e : j = k
  · subst e; exact Nat.le_refl _
  · have := h.2.2 j (by omega) h4 h5
    omega
theorem pa_least_next {v : zq_N} {x lb : Nat} (h : zi_hx 8 v) (hx : x ≤ 10000) (hl : pa_least v x ((v.2 0).length + (v.2 2).length) lb) : lb = zc_next v x := by
  have hm : ∀ y, y ∈ zc_newbase v ↔ ∃ j, j < (v.2 0).length + (v.2 2).length ∧ pa_x v j = y ∧ y < 10000 := fun y => by
    rw [← pa_sm h]
    exact pa_s_mem h _ (Nat.le_refl _)
  have hlt := zc_nb_lt h
  have hs : (zc_newbase v).Pairwise (· ≤ ·) := (zc_nb_sorted h).imp (fun {a b} q => Nat.le_of_lt q)
  rw [zc_next_eq h]
  obtain ⟨l1, l2, l3⟩ := hl
  have hfl := zn_fal_le x (zc_newbase v)
  refine Nat.le_antisymm ?_ ?_
  · by_cases q : zn_fal x (zc_newbase v) < (zc_newbase v).length
    · have hi := zn_fal_hi hx hs (Nat.le_refl (zn_fal x (zc_newbase v)))
      rw [zn_gD q] at hi ⊢
      obtain ⟨j, j1, j2, j3⟩ := (hm _).mp (List.getElem_mem q)
      have := l3 j j1 (by omega) (by omega)
      omega
    · rw [zn_gD_top (by omega)]
      exact l1
  · rcases l2 with l2 | ⟨j, j1, j2, j3, j4⟩
    · rw [l2]
      exact zn_getD_le (fun y hy => Nat.le_of_lt (hlt y hy)) (Nat.le_refl _) _
    · obtain ⟨i, hi, he⟩ := List.mem_iff_getElem.mp ((hm lb).mpr ⟨j, j1, j2, j4⟩)
      have hfi : zn_fal x (zc_newbase v) ≤ i := Nat.le_of_not_lt (fun w => by
        have := zn_fal_lo w
        rw [zn_gD hi] at this
        omega)
      rw [zn_gD (by omega)]
      by_cases e : zn_fal x (zc_newbase v) = i
      · subst e; omega
      · have := List.pairwise_iff_getElem.mp hs (zn_fal x (zc_newbase v)) i (by omega) hi (by omega)
        omega
theorem zn_enc_neg {b : Nat} (h : b ≤ 10000) : (zn_enc b < 0 ↔ b = 10000) := by
  unfold zn_enc
  by_cases q : b = 10000
  · rw [if_pos q]; exact ⟨fun _ => q, fun _ => by decide⟩
  · rw [if_neg q]; exact ⟨fun w => absurd w (nI_pos (by omega)), fun w => absurd w q⟩
theorem zn_enc_lt {b : Nat} (h : b < 10000) : zn_enc b = nI b := if_neg (by omega)
section PrA
variable {g : bq_G} {E : bq_E} {z i a b c : Nat} {v : zq_N}
theorem pa_x20 (h : zi_hx 8 v) {k : Nat} (hk : k < (v.2 0).length + (v.2 2).length) : pa_x v k < 20000 := by
  unfold pa_x
  by_cases q : k < (v.2 0).length
  · rw [if_pos q]; exact (pa_b h q).2.2.1
  · rw [if_neg q]
    have := pa_u h (k := k - (v.2 0).length) (by omega)
    omega
/-- an entry, as the law reads it -/
theorem pa_entry {α : Type} (h : pa_v g E a b c i v) {k : Nat} (hk : k < (v.2 0).length + (v.2 2).length) (F : Int32 → Option α) : (if nI (v.2 0).length ≤ nI k then (bq_ai E c (nI i)).bind fun v1 => (bq_ai E b (((8 : Int32) * nI i + nI k) - v1)).bind fun v2 => F v2 else (bq_ai E a (nI k)).bind fun v3 => F v3) = F (nI (pa_x v k)) := by
  have h24 := h.2.1.1.1.2
  have h8 := h.2.1.2.2.2
  by_cases w : (v.2 0).length ≤ k
  · rw [if_pos (nI_le w (by omega)), h.n]
    simp only [zq_bindE]
    have ei : (8 : Int32) * nI i + nI k - nI (v.2 0).length = (8 : Int32) * nI i + nI (k - (v.2 0).length) := by
      rw [pa_8m, pa_8m, pk_sub (by omega), show 8 * i + k - (v.2 0).length = 8 * i + (k - (v.2 0).length) by omega]
    rw [ei, h.u (by omega)]
    simp only [zq_bindE]
    have ex : (v.2 2).getD (k - (v.2 0).length) 0 = pa_x v k := by unfold pa_x; rw [if_neg (by omega)]
    rw [ex]
  · rw [if_neg (nI_ge (by omega) (by omega)), h.f (by omega)]
    simp only [zq_bindE]
    have ex : pa_e v k = pa_x v k := by unfold pa_x; rw [if_pos (by omega)]
    rw [ex]
theorem pr_247 (h : pa_v g E a b c i v) {x : Nat} (hx : x ≤ 10000) {x5 x7 x8 x9 : Int32} (hx7 : ∀ y, y < 20000 → (nI y ≤ x7 ↔ y < x)) (K : Int32 → Int32 → Option (Bool × bq_E)) : ∀ (N k lb : Nat), (v.2 0).length + (v.2 2).length - k < N → k ≤ (v.2 0).length + (v.2 2).length → pa_least v x k lb → tl_L_isSo_247 E z a b c (nI i) x5 x7 x8 x9 K N (zn_enc lb) (nI k) = K (zn_enc (zc_next v x)) (nI ((v.2 0).length + (v.2 2).length)) := by
  have h24 := h.2.1.1.1.2
  have h8 := h.2.1.2.2.2
  intro N
  induction N with
  | zero => intro k lb hN; omega
  | succ N ih =>
    intro k lb hN hk hl
    rw [tl_L_isSo_247.eq_2, h.n, h.m]
    simp only [zq_bindE]
    rw [nI_add]
    by_cases q : (v.2 0).length + (v.2 2).length ≤ k
    · rw [if_pos (nI_le q (by omega))]
      have ek : k = (v.2 0).length + (v.2 2).length := by omega
      subst ek
      rw [pa_least_next h.2.1 hx hl]
    · rw [if_neg (nI_ge (by omega) (by omega))]
      have h20 := pa_x20 h.2.1 (k := k) (by omega)
      simp only [zq_letE]
      have en := pa_entry h (k := k) (by omega) (fun b24704 => if (10000 : Int32) ≤ b24704 then tl_L_isSo_247 E z a b c (nI i) x5 x7 x8 x9 K N (zn_enc lb) (nI k + 1) else if b24704 ≤ x7 then tl_L_isSo_247 E z a b c (nI i) x5 x7 x8 x9 K N (zn_enc lb) (nI k + 1) else if zn_enc lb < 0 then tl_L_isSo_247 E z a b c (nI i) x5 x7 x8 x9 K N b24704 (nI k + 1) else if zn_enc lb ≤ b24704 then tl_L_isSo_247 E z a b c (nI i) x5 x7 x8 x9 K N (zn_enc lb) (nI k + 1) else tl_L_isSo_247 E z a b c (nI i) x5 x7 x8 x9 K N b24704 (nI k + 1))
      rw [h.n] at en
      simp only [zq_bindE] at en
      refine en.trans ?_
      rw [nI_1]
      by_cases w1 : 10000 ≤ pa_x v k
      · rw [if_pos (show (10000 : Int32) ≤ nI (pa_x v k) from nI_le (a := 10000) w1 (by omega))]
        exact ih (k + 1) lb (by omega) (by omega) (hl.skip (fun _ _ => by omega))
      · rw [if_neg (show ¬ (10000 : Int32) ≤ nI (pa_x v k) from nI_ge (b := 10000) (by omega) (by omega))]
        by_cases w2 : pa_x v k < x
        · rw [if_pos ((hx7 _ h20).mpr w2)]
          exact ih (k + 1) lb (by omega) (by omega) (hl.skip (fun _ _ => by omega))
        · rw [if_neg (fun e => w2 ((hx7 _ h20).mp e))]
          have l1 := hl.1
          by_cases w3 : lb = 10000
          · rw [if_pos ((zn_enc_neg l1).mpr w3), ← zn_enc_lt (b := pa_x v k) (by omega)]
            exact ih (k + 1) _ (by omega) (by omega) (hl.take (by omega) (by omega) (by omega))
          · rw [if_neg (fun e => w3 ((zn_enc_neg l1).mp e)), zn_enc_lt (b := lb) (by omega)]
            by_cases w4 : lb ≤ pa_x v k
            · rw [if_pos (nI_le w4 (by omega)), ← zn_enc_lt (b := lb) (by omega)]
              exact ih (k + 1) lb (by omega) (by omega) (hl.skip (fun _ _ => by omega))
            · rw [if_neg (nI_ge (by omega) (by omega)), ← zn_enc_lt (b := pa_x v k) (by omega)]
              exact ih (k + 1) _ (by omega) (by omega) (hl.take (by omega) (by omega) (by omega))
theorem pr_427 (h : pa_v g E a b c i v) {x : Nat} (hx : x ≤ 10000) {x6 : Int32} (K : Int32 → Int32 → Option (Bool × bq_E)) : ∀ (N k lb : Nat), (v.2 0).length + (v.2 2).length - k < N → k ≤ (v.2 0).length + (v.2 2).length → pa_least v x k lb → tl_L_isSo_427 E z a b c (nI i) x6 (nI x) K N (zn_enc lb) (nI k) = K (zn_enc (zc_next v x)) (nI ((v.2 0).length + (v.2 2).length)) := by
  have h24 := h.2.1.1.1.2
  have h8 := h.2.1.2.2.2
  intro N
  induction N with
  | zero => intro k lb hN; omega
  | succ N ih =>
    intro k lb hN hk hl
    rw [tl_L_isSo_427.eq_2, h.n, h.m]
    simp only [zq_bindE]
    rw [nI_add]
    by_cases q : (v.2 0).length + (v.2 2).length ≤ k
    · rw [if_pos (nI_le q (by omega))]
      have ek : k = (v.2 0).length + (v.2 2).length := by omega
      subst ek
      rw [pa_least_next h.2.1 hx hl]
    · rw [if_neg (nI_ge (by omega) (by omega))]
      have h20 := pa_x20 h.2.1 (k := k) (by omega)
      simp only [zq_letE]
      have en := pa_entry h (k := k) (by omega) (fun b24704 => if (10000 : Int32) ≤ b24704 then tl_L_isSo_427 E z a b c (nI i) x6 (nI x) K N (zn_enc lb) (nI k + 1) else if b24704 < nI x then tl_L_isSo_427 E z a b c (nI i) x6 (nI x) K N (zn_enc lb) (nI k + 1) else if zn_enc lb < 0 then tl_L_isSo_427 E z a b c (nI i) x6 (nI x) K N b24704 (nI k + 1) else if zn_enc lb ≤ b24704 then tl_L_isSo_427 E z a b c (nI i) x6 (nI x) K N (zn_enc lb) (nI k + 1) else tl_L_isSo_427 E z a b c (nI i) x6 (nI x) K N b24704 (nI k + 1))
      rw [h.n] at en
      simp only [zq_bindE] at en
      refine en.trans ?_
      rw [nI_1]
      by_cases w1 : 10000 ≤ pa_x v k
      · rw [if_pos (show (10000 : Int32) ≤ nI (pa_x v k) from nI_le (a := 10000) w1 (by omega))]
        exact ih (k + 1) lb (by omega) (by omega) (hl.skip (fun _ _ => by omega))
      · rw [if_neg (show ¬ (10000 : Int32) ≤ nI (pa_x v k) from nI_ge (b := 10000) (by omega) (by omega))]
        by_cases w2 : pa_x v k < x
        · rw [if_pos (nI_lt w2 (by omega))]
          exact ih (k + 1) lb (by omega) (by omega) (hl.skip (fun _ _ => by omega))
        · rw [if_neg (nI_nlt (by omega) (by omega))]
          have l1 := hl.1
          by_cases w3 : lb = 10000
          · rw [if_pos ((zn_enc_neg l1).mpr w3), ← zn_enc_lt (b := pa_x v k) (by omega)]
            exact ih (k + 1) _ (by omega) (by omega) (hl.take (by omega) (by omega) (by omega))
          · rw [if_neg (fun e => w3 ((zn_enc_neg l1).mp e)), zn_enc_lt (b := lb) (by omega)]
            by_cases w4 : lb ≤ pa_x v k
            · rw [if_pos (nI_le w4 (by omega)), ← zn_enc_lt (b := lb) (by omega)]
              exact ih (k + 1) lb (by omega) (by omega) (hl.skip (fun _ _ => by omega))
            · rw [if_neg (nI_ge (by omega) (by omega)), ← zn_enc_lt (b := pa_x v k) (by omega)]
              exact ih (k + 1) _ (by omega) (by omega) (hl.take (by omega) (by omega) (by omega))
end PrA
section PrB
variable {g : bq_G} {E : bq_E} {z i : Nat} {t : zq_T}
theorem pr_rel.hc (h : pr_rel g E z t) (hi : i < 3) : zi_hc (t.2 i) := h.2.1.2.2.2.1 i hi
theorem pr_rel.v (h : pr_rel g E z t) (hi : i < 3) : pa_v g E (z + 1378 + i) (z + 1381) (z + 1382) i (t.2 i) := h.2.2.1.v hi ((h.hc hi).up (by omega))
theorem pr_rel.find (h : pr_rel g E z t) (hi : i < 3) {x : Nat} (hx : x ≤ 10000) : ∃ E' t', tw_L_finds E z (nI i) (nI x) = some (zn_enc (zc_next (t.2 i) x), E') ∧ pr_rel g E' z t' ∧ t'.2 = t.2 := by
  obtain ⟨E1, t1, a1, f1, i1, e1, e2, s1⟩ := pz_find h.1 h.2.1 hi hx
  refine ⟨E1, t1, a1, ⟨f1, i1, ?_, (s1 _ (by omega)).trans h.2.2.2⟩, e1⟩
  rw [e1, e2 4 (by omega) (by omega), e2 5 (by omega) (by omega), e2 10 (by omega) (by omega)]
  exact h.2.2.1.same s1 (by omega)
theorem pr_89 (h : pr_rel g E z t) (hi : i < 3) {x5 : Int32} (K : Int32 → Int32 → bq_E → Option (Bool × bq_E)) : ∀ (N k : Nat), ((t.2 i).2 0).length + 1 - k < N → k ≤ ((t.2 i).2 0).length + 1 → tl_L_isSo_89 z (z + 1378 + i) (z + 1381) (z + 1382) (nI i) x5 K N 1 (nI k) E = K 1 (nI (((t.2 i).2 0).length + 1)) E := by
  have hv := h.v hi
  have h24 := hv.2.1.1.1.2
  have hml := hv.2.1.1.1.1
  intro N
  induction N with
  | zero => intro k hN; omega
  | succ N ih =>
    intro k hN hk
    rw [tl_L_isSo_89.eq_2, hv.n]
    simp only [zq_bindE]
    by_cases q : ((t.2 i).2 0).length < k
    · rw [if_pos (nI_lt q (by omega)), show k = ((t.2 i).2 0).length + 1 by omega]
    · rw [if_neg (nI_nlt (by omega) (by omega)), if_neg (show ¬ (1 : Int32) = 0 by decide), pz_base h.1 h.2.1 hi (by omega)]
      simp only [zq_bindE]
      rw [hv.n]
      simp only [zq_bindE, zq_letE]
      rw [nI_1]
      by_cases w : k = ((t.2 i).2 0).length
      · rw [if_pos (by rw [w])]
        have : zv_base (t.2 i) k = -1 := by
          unfold zv_base
          have e : ((t.2 i).2 1).getD k 0 = 0 := by simp [List.getD, List.getElem?_eq_none (show ((t.2 i).2 1).length ≤ k by omega)]
          rw [e, if_neg (by omega), zn_gM_out (by omega)]
        rw [this, if_pos rfl]
        exact ih (k + 1) (by omega) (by omega)
      · rw [if_neg (fun e => w ((nI_inj (by omega) (by omega)).mp e)), hv.f (by omega)]
        simp only [zq_bindE]
        have : zv_base (t.2 i) k = nI (pa_e (t.2 i) k) := by
          unfold zv_base pa_e
          obtain ⟨b1, b2, b3, b4, b5⟩ := pa_b hv.2.1 (k := k) (by omega)
          rw [zn_gM_in (by omega)]
          rcases b2 with b2 | b2
          · rw [b2, if_neg (by omega)]; rfl
          · rw [b2, if_pos rfl]; exact nI_add _ 10000
        rw [this, if_pos rfl]
        exact ih (k + 1) (by omega) (by omega)
theorem pr_147 (h : pr_rel g E z t) (hi : i < 3) {x5 : Int32} (K : Int32 → Int32 → bq_E → Option (Bool × bq_E)) : ∀ (N k : Nat), ((t.2 i).2 2).length + 1 - k < N → k ≤ ((t.2 i).2 2).length + 1 → tl_L_isSo_147 z (z + 1378 + i) (z + 1381) (z + 1382) (nI i) x5 K N 1 (nI k) E = K 1 (nI (((t.2 i).2 2).length + 1)) E := by
  have hv := h.v hi
  have h8 := hv.2.1.2.2.2
  intro N
  induction N with
  | zero => intro k hN; omega
  | succ N ih =>
    intro k hN hk
    rw [tl_L_isSo_147.eq_2, hv.m]
    simp only [zq_bindE]
    by_cases q : ((t.2 i).2 2).length < k
    · rw [if_pos (nI_lt q (by omega)), show k = ((t.2 i).2 2).length + 1 by omega]
    · rw [if_neg (nI_nlt (by omega) (by omega)), if_neg (show ¬ (1 : Int32) = 0 by decide), pz_buffer h.1 h.2.1 hi (by omega)]
      simp only [zq_bindE]
      rw [hv.m]
      simp only [zq_bindE, zq_letE]
      rw [nI_1]
      by_cases w : k = ((t.2 i).2 2).length
      · rw [if_pos (by rw [w]), zn_gM_out (by omega), if_pos rfl]
        exact ih (k + 1) (by omega) (by omega)
      · rw [if_neg (fun e => w ((nI_inj (by omega) (by omega)).mp e)), hv.u (by omega)]
        simp only [zq_bindE]
        rw [zn_gM_in (by omega), if_pos rfl]
        exact ih (k + 1) (by omega) (by omega)
/-- the key ahead of the k-th, and what is asked for behind it -/
def pr_key (S : List Nat) (k : Nat) : Int32 := if k = 0 then -1 else nI (S.getD (k - 1) 0)
def pr_ask (S : List Nat) (k : Nat) : Nat := if k = 0 then 0 else S.getD (k - 1) 0 + 1
theorem pr_ask_key {S : List Nat} (hS : ∀ y ∈ S, y < 10000) (k : Nat) : pr_key S k + 1 = nI (pr_ask S k) ∧ pr_ask S k ≤ 10000 ∧ (∀ y, y < 20000 → (nI y ≤ pr_key S k ↔ y < pr_ask S k)) ∧ (¬ (9998 : Int32) < pr_key S k → pr_ask S k ≤ 9999) := by
  unfold pr_key pr_ask
  by_cases q : k = 0
  · rw [if_pos q, if_pos q]
    refine ⟨by decide, by omega, fun y hy => ?_, fun _ => by omega⟩
    constructor
    · intro e
      exact absurd (Int32.lt_of_le_of_lt e (by decide)) (nI_pos (n := y) (by omega))
    · intro e; omega
  · rw [if_neg q, if_neg q]
    have hle : S.getD (k - 1) 0 ≤ 9999 := zn_getD_le (fun y hy => by have := hS y hy; omega) (by omega) _
    refine ⟨nI_1 _, by omega, fun y hy => ?_, fun e => ?_⟩
    · rw [nI_leI (by omega) (by omega)]
      omega
    · by_cases w : S.getD (k - 1) 0 + 1 ≤ 9999
      · exact w
      · exact absurd (nI_lt (a := 9998) (b := S.getD (k - 1) 0) (by omega) (by omega)) e
theorem pr_next {v : zq_N} {b k : Nat} (h : zi_hx b v) (hk : k ≤ (zc_newbase v).length) : zc_next v (pr_ask (zc_newbase v) k) = (zc_newbase v).getD k 10000 := by
  unfold pr_ask
  by_cases q : k = 0
  · rw [if_pos q, q]; exact zc_next_0 h
  · rw [if_neg q]
    have := zc_next_s h (i := k - 1) (by omega)
    rw [show k - 1 + 1 = k by omega, zn_gD (by omega)] at this
    rw [zn_gD (by omega)]
    exact this
theorem pr_229 (hi : i < 3) {x5 : Int32} (K : Int32 → Int32 → Int32 → bq_E → Option (Bool × bq_E)) (R : bq_E × zq_T → Prop) : ∀ (N k : Nat) (x7 : Int32) (E : bq_E) (t : zq_T), (zc_newbase (t.2 i)).length + 1 - k < N → k ≤ (zc_newbase (t.2 i)).length + 1 → (k ≤ (zc_newbase (t.2 i)).length → x7 = pr_key (zc_newbase (t.2 i)) k) → pr_rel g E z t →
    ∃ E' t' y, tl_L_isSo_229 z (z + 1378 + i) (z + 1381) (z + 1382) (nI i) x5 (nI (zc_newbase (t.2 i)).length) K N 1 x7 (nI k) E = K 1 y (nI ((zc_newbase (t.2 i)).length + 1)) E' ∧ pr_rel g E' z t' ∧ t'.2 = t.2 := by
  intro N
  induction N with
  | zero => intro k x7 E t hN; omega
  | succ N ih =>
    intro k x7 E t hN hk hx7 h
    have hv := h.v hi
    have hc := h.hc hi
    have h24 := zc_nb_24 hc
    have hlt := zc_nb_lt hc
    rw [tl_L_isSo_229.eq_2]
    by_cases q : (zc_newbase (t.2 i)).length < k
    · rw [if_pos (nI_lt q (by omega)), show k = (zc_newbase (t.2 i)).length + 1 by omega]
      exact ⟨E, t, x7, rfl, h, rfl⟩
    · rw [if_neg (nI_nlt (by omega) (by omega)), if_neg (show ¬ (1 : Int32) = 0 by decide)]
      have hkx := hx7 (by omega)
      obtain ⟨p1, p2, p3, p4⟩ := pr_ask_key hlt k
      have hnx := pr_next hc (k := k) (by omega)
      rw [← hkx] at p1 p3 p4
      have hb24 := hv.2.1.1.1.2
      have hb8 := hv.2.1.2.2.2
      rw [show (-1 : Int32) = zn_enc 10000 from rfl, show (0 : Int32) = nI 0 from rfl]
      rw [pr_247 (z := z) hv p2 p3 _ bq_fuel 0 10000 (bq_fuel_ge (by omega)) (Nat.zero_le _) (pa_least_0 _ _), hnx, pz_key h.1 h.2.1 hi (by omega)]
      simp only [zq_bindE, zq_letE]
      rw [if_pos True.intro, if_neg (show ¬ (1 : Int32) = nI 0 by decide), show (3 : Int32) = nI 3 from rfl, pa_rem (by omega) (by omega) (by omega), nI_1]
      have nextkey : k + 1 ≤ (zc_newbase (t.2 i)).length → zn_enc ((zc_newbase (t.2 i)).getD k 10000) = pr_key (zc_newbase (t.2 i)) (k + 1) := fun w => by
        have e : (zc_newbase (t.2 i)).getD k 10000 = (zc_newbase (t.2 i)).getD k 0 := by rw [zn_gD (by omega), zn_gD (by omega)]
        have hl : (zc_newbase (t.2 i)).getD k 0 < 10000 := by rw [zn_gD (by omega)]; exact hlt _ (List.getElem_mem _)
        unfold pr_key
        rw [if_neg (by omega), Nat.add_sub_cancel, e, zn_enc_lt hl]
      by_cases w1 : nI 0 < nI (k % 3)
      · rw [if_pos w1]
        exact ih (k + 1) _ E t (by omega) (by omega) nextkey h
      · rw [if_neg w1]
        by_cases w2 : (9998 : Int32) < x7
        · rw [if_pos w2]
          exact ih (k + 1) _ E t (by omega) (by omega) nextkey h
        · rw [if_neg w2, p1]
          obtain ⟨E1, t1, a1, r1, e1⟩ := h.find hi (x := pr_ask (zc_newbase (t.2 i)) k) (by have := p4 w2; omega)
          rw [a1]
          simp only [zq_bindE]
          rw [hnx, if_pos rfl]
          obtain ⟨E2, t2, y, a2, r2, e2⟩ := ih (k + 1) (zn_enc ((zc_newbase (t.2 i)).getD k 10000)) E1 t1 (by rw [e1]; omega) (by rw [e1]; omega) (by rw [e1]; exact nextkey) r1
          rw [e1] at a2 e2
          exact ⟨E2, t2, y, a2, r2, e2⟩
theorem pa_low (E : bq_E) (x : Int32) {d : Nat} (h0 : 0 < d) (hd : d < 2 ^ 31) : ∃ r, r < d ∧ ∀ E : bq_E, tw_L_low E x (nI d) = some (nI r) := by
  obtain ⟨j, hj, e⟩ := pk_andE x (m := 2147483647) 31 (by decide)
  refine ⟨j % d, Nat.mod_lt _ h0, fun E => ?_⟩
  unfold tw_L_low
  rw [if_neg (nI_ne0 h0 hd), e, pa_rem hj h0 hd]
  rfl
theorem pr_isSo (h : pr_rel g E z t) (hi : i < 3) (x5 : Int32) : ∃ E' t', tw_L_isSo E z (z + 1378 + i) (z + 1381) (z + 1382) (nI i) x5 = some (true, E') ∧ pr_rel g E' z t' := by
  have hv := h.v hi
  have hc := h.hc hi
  have h24 := zc_nb_24 hc
  have hb24 := hv.2.1.1.1.2
  have hb8 := hv.2.1.2.2.2
  obtain ⟨_, _, r19⟩ := h.2.2.1.r17
  have e4 : zv_val (t.2 i) 4 = nI (zc_newbase (t.2 i)).length := zc_count_eq hc
  have e6 : zv_val (t.2 i) 6 = nI (zn_tot ((t.2 i).2 1)) := hc.2.1.2.2.2
  obtain ⟨x, hx, hlow⟩ := pa_low E x5 (d := 10001) (by omega) (by omega)
  unfold tw_L_isSo
  rw [show (4 : Int32) = nI 4 from rfl, pz_node h.1 h.2.1 hi (by omega)]
  simp only [zq_bindE]
  rw [pa_size hv]
  simp only [zq_bindE, zq_letE]
  rw [e4, if_pos rfl, show (5 : Int32) = nI 5 from rfl, pz_node h.1 h.2.1 hi (by omega)]
  simp only [zq_bindE]
  rw [hv.n]
  simp only [zq_bindE]
  rw [if_pos (show zv_val (t.2 i) 5 = nI ((t.2 i).2 0).length from rfl), show (6 : Int32) = nI 6 from rfl, pz_node h.1 h.2.1 hi (by omega)]
  simp only [zq_bindE]
  rw [pa_marked hv]
  simp only [zq_bindE]
  rw [if_pos e6, show (7 : Int32) = nI 7 from rfl, pz_node h.1 h.2.1 hi (by omega)]
  simp only [zq_bindE]
  rw [hv.m]
  simp only [zq_bindE]
  rw [if_pos (show zv_val (t.2 i) 7 = nI ((t.2 i).2 2).length from rfl), show nI 4 = (4 : Int32) from rfl, pz_count h.1 h.2.1]
  simp only [zq_bindE]
  rw [r19]
  simp only [zq_bindE]
  rw [if_pos True.intro]
  rw [show (0 : Int32) = nI 0 from rfl, pr_89 h hi _ 30 0 (by omega) (Nat.zero_le _), pr_147 h hi _ 30 0 (by omega) (Nat.zero_le _), pa_size hv]
  simp only [zq_bindE]
  obtain ⟨E1, t1, y, a1, r1, e1⟩ := pr_229 (g := g) (z := z) hi (x5 := x5) (fun y12 y13 y14 E15 =>
      (tw_L_low E15 x5 (10001 : Int32)).bind fun v16 =>
    tl_L_isSo_427 E15 z (z + 1378 + i) (z + 1381) (z + 1382) (nI i) y12 v16 (fun y17 y18 =>
      if y12 = nI 0 then
      (some (false, E15))
    else
      ((tw_L_finds E15 z (nI i) v16).bind fun v19 =>
      if v19.1 = y17 then
        ((tw_L_keyOf v19.2 z (nI i) (-1 : Int32)).bind fun v20 =>
        if v20.1 = (-100002 : Int32) then
          ((tw_L_baseOf v20.2 z (nI i) (-1 : Int32)).bind fun v21 =>
          if v21.1 = (-100002 : Int32) then
            ((tw_L_bufferOf v21.2 z (nI i) (-1 : Int32)).bind fun v22 =>
            if v22.1 = (-100002 : Int32) then
              (some (true, v22.2))
            else
              (some (false, v22.2)))
          else
            (some (false, v21.2)))
        else
          (some (false, v20.2)))
      else
        (some (false, v19.2)))) bq_fuel (-1 : Int32) (nI 0)) (fun _ => True) 30 0 (-1) E t (by omega) (Nat.zero_le _) (fun _ => rfl) h
  rw [a1]
  have hv1 := r1.v hi
  rw [show (10001 : Int32) = nI 10001 from rfl, hlow]
  simp only [zq_bindE]
  rw [show (-1 : Int32) = zn_enc 10000 from rfl]
  rw [e1] at hv1
  rw [pr_427 (z := z) hv1 (by omega) _ bq_fuel 0 10000 (bq_fuel_ge (by omega)) (Nat.zero_le _) (pa_least_0 _ _)]
  obtain ⟨E2, t2, a2, r2, e2⟩ := r1.find hi (x := x) (by omega)
  rw [if_neg (show ¬ (1 : Int32) = nI 0 by decide), a2, e1]
  simp only [zq_bindE]
  rw [if_pos True.intro, show zn_enc 10000 = (-1 : Int32) from rfl, pz_key_bad r2.1 r2.2.1 hi]
  simp only [zq_bindE]
  rw [if_pos True.intro, pz_base_bad r2.1 r2.2.1 hi]
  simp only [zq_bindE]
  rw [if_pos True.intro, pz_buffer_bad r2.1 r2.2.1 hi]
  simp only [zq_bindE]
  rw [if_pos True.intro]
  exact ⟨E2, t2, rfl, r2⟩
end PrB
