/-! The reckoner's worst; its answers to questions. -/
section ZxB
variable {g : bq_G} {E : bq_E} {m n : Nat} {M : zq_M} {t : zq_T} {P L : List Nat}
theorem zm_worst28 (K : Int32 → Int32 → bq_E → Option (Int32 × bq_E)) (h : zi_inv n t) (hN : ∀ j, j < n → zm_node (M.1 1) j (t.2 j)) (hp : zi_pl n t P L) (h7 : M.2.1 7 = nI P.length) (h5 : ∀ i, i < P.length → M.1 5 i = nI (P.getD i 0)) {c : Nat} (hc : c < P.length) : ∀ (N e b : Nat) (E1 : bq_E) (M1 : zq_M), ((t.2 (P.getD c 0)).2 3).length - e < N → e ≤ ((t.2 (P.getD c 0)).2 3).length → b ≤ 4500 → zq_mod g E1 m M1 → zm_sk M M1 →
    ∃ E2 M2 y b', tl_X7_worstOf_28 m (nI c) K N (nI b) (nI e) E1 = K (nI b') y E2 ∧ zq_mod g E2 m M2 ∧ zm_sk M M2 ∧ zx_top (fun K => (zw_find t P L (K + 1)).1) (fun K => ∃ i, e ≤ i ∧ i < ((t.2 (P.getD c 0)).2 3).length ∧ K = ((t.2 (P.getD c 0)).2 3).getD i 0) b b' ∧ zq_same E1 E2 m (m + 8) := by
  have h15 := h.1.1.2
  have hp15 := hp.1.1
  have hk := hp.2.1 c hc
  obtain ⟨k, ek⟩ : ∃ k, k = P.getD c 0 := ⟨_, rfl⟩
  rw [← ek] at hk ⊢
  have hcat := h.cat hk
  intro N
  induction N with
  | zero => intro e b E1 M1 h; omega
  | succ N ih =>
    intro e b E1 M1 hn he hb H1 sk
    have has : zm_has g E1 m M1 k (t.2 k) := ⟨H1, by omega, by rw [sk.1 1 (by omega) (by omega)]; exact hN k hk, hcat⟩
    rw [tl_X7_worstOf_28.eq_2, zm_r5 H1]
    simp only [zq_bindE]
    rw [zm_ai H1 (j := 5) (by omega) (by show c < 15; omega), sk.1 5 (by omega) (by omega), h5 c hc, ← ek]
    simp only [zq_bindE]
    rw [zm_o61 has]
    simp only [zq_bindE]
    by_cases q : e < ((t.2 k).2 3).length
    · have hkl := hcat.2.2.1.2
      rw [if_neg (nI_ge q (by omega)), zm_oK has q]
      simp only [zq_bindE]
      have hlt : ((t.2 k).2 3).getD e 0 < 10000 := by rw [zn_gD q]; exact hcat.2.2.2.2.2.2.2.1 _ (List.getElem_mem q)
      rw [nI_1]
      obtain ⟨E2, M2, a2, H2, sk2, fd2, s2⟩ := zm_seeks (L := L) H1 h (fun j hj => by rw [sk.1 1 (by omega) (by omega)]; exact hN j hj) hp ((sk.2.1 7 (by omega)).trans h7) (fun i hi => by rw [sk.1 5 (by omega) (by omega)]; exact h5 i hi) (x := ((t.2 k).2 3).getD e 0 + 1) (by omega)
      rw [a2]
      simp only [zq_bindE]
      rw [zm_i8 H2, fd2.1]
      simp only [zq_bindE, zq_letE]
      rw [nI_1]
      have hcnt := zw_find_cnt h hp (((t.2 k).2 3).getD e 0 + 1)
      have t1 := zx_top.one (f := fun K => (zw_find t P L (K + 1)).1) (fun K => zw_find_cnt h hp _) (K := ((t.2 k).2 3).getD e 0) hb
      obtain ⟨E3, M3, y, b', a3, H3, sk3, t3, s3⟩ := ih (e + 1) (max b (zw_find t P L (((t.2 k).2 3).getD e 0 + 1)).1) E2 M2 (by omega) (by omega) t1.2.1 H2 (sk.trans sk2)
      have em : (if nI (zw_find t P L (((t.2 k).2 3).getD e 0 + 1)).1 ≤ nI b then tl_X7_worstOf_28 m (nI c) K N (nI b) (nI (e + 1)) E2 else tl_X7_worstOf_28 m (nI c) K N (nI (zw_find t P L (((t.2 k).2 3).getD e 0 + 1)).1) (nI (e + 1)) E2) = tl_X7_worstOf_28 m (nI c) K N (nI (max b (zw_find t P L (((t.2 k).2 3).getD e 0 + 1)).1)) (nI (e + 1)) E2 := by
        by_cases w : (zw_find t P L (((t.2 k).2 3).getD e 0 + 1)).1 ≤ b
        · rw [if_pos (nI_le w (by omega)), Nat.max_eq_left w]
        · rw [if_neg (nI_ge (by omega) (by omega)), Nat.max_eq_right (by omega)]
      rw [em, a3]
      refine ⟨E3, M3, y, b', rfl, H3, sk3, (t1.trans t3).iff (fun K => ⟨?_, ?_⟩), s2.trans s3⟩
      · rintro (rfl | ⟨i, a, b, c⟩)
        · exact ⟨e, Nat.le_refl _, q, rfl⟩
        · exact ⟨i, by omega, b, c⟩
      · rintro ⟨i, a, b, c⟩
        by_cases w : i = e
        · subst w; exact Or.inl c
        · exact Or.inr ⟨i, by omega, b, c⟩
    · rw [if_pos (nI_le (by omega) (by have := hcat.2.2.1.2; omega))]
      exact ⟨E1, M1, _, b, rfl, H1, sk, ⟨Nat.le_refl _, hb, fun K ⟨i, i1, i2, _⟩ => by omega, Or.inl rfl⟩, zq_same.refl⟩
theorem zm_worst17 (h : zi_inv n t) (hN : ∀ j, j < n → zm_node (M.1 1) j (t.2 j)) (hp : zi_pl n t P L) (h7 : M.2.1 7 = nI P.length) (h5 : ∀ i, i < P.length → M.1 5 i = nI (P.getD i 0)) : ∀ (N c b : Nat) (E1 : bq_E) (M1 : zq_M), P.length - c < N → c ≤ P.length → b ≤ 4500 → zq_mod g E1 m M1 → zm_sk M M1 →
    ∃ E2 M2 b', tl_X7_worstOf_17 m N (nI b) (nI c) E1 = some (nI b', E2) ∧ zq_mod g E2 m M2 ∧ zm_sk M M2 ∧ zx_top (fun K => (zw_find t P L (K + 1)).1) (fun K => ∃ d, (c ≤ d ∧ d < P.length) ∧ K ∈ (t.2 (P.getD d 0)).2 3) b b' ∧ zq_same E1 E2 m (m + 8) := by
  have hp15 := hp.1.1
  intro N
  induction N with
  | zero => intro c b E1 M1 h; omega
  | succ N ih =>
    intro c b E1 M1 hn hc hb H1 sk
    rw [tl_X7_worstOf_17.eq_2, zm_i7 H1, sk.2.1 7 (by omega), h7]
    simp only [zq_bindE]
    by_cases q : c < P.length
    · have hcat := h.cat (hp.2.1 c q)
      have hkl := hcat.2.2.1.2
      rw [if_neg (nI_ge q (by omega)), show (0 : Int32) = nI 0 from rfl]
      obtain ⟨E2, M2, y, b2, a2, H2, sk2, t2, s2⟩ := zm_worst28 (L := L) (fun y1702 y1703 E1704 =>
      bq_let (nI c + 1) fun v1705 =>
    tl_X7_worstOf_17 m N y1702 v1705 E1704) h hN hp h7 h5 q bq_fuel 0 b E1 M1 (bq_fuel_ge (by omega)) (Nat.zero_le _) hb H1 sk
      rw [a2]
      simp only [zq_letE]
      rw [nI_1]
      obtain ⟨E3, M3, b3, a3, H3, sk3, t3, s3⟩ := ih (c + 1) b2 E2 M2 (by omega) (by omega) t2.2.1 H2 sk2
      refine ⟨E3, M3, b3, a3, H3, sk3, (t2.trans t3).iff (fun K => ⟨?_, ?_⟩), s2.trans s3⟩
      · rintro (⟨i, _, i2, i3⟩ | ⟨d, d1, d2⟩)
        · refine ⟨c, ⟨Nat.le_refl _, q⟩, ?_⟩
          rw [i3, zn_gD i2]
          exact List.getElem_mem i2
        · exact ⟨d, ⟨by omega, d1.2⟩, d2⟩
      · rintro ⟨d, d1, d2⟩
        by_cases w : d = c
        · subst w
          obtain ⟨i, i1, i2⟩ := List.getElem_of_mem d2
          exact Or.inl ⟨i, Nat.zero_le _, i1, by rw [zn_gD i1]; exact i2.symm⟩
        · exact Or.inr ⟨d, ⟨by omega, d1.2⟩, d2⟩
    · have : c = P.length := by omega
      subst this
      rw [if_pos (nI_le (Nat.le_refl _) (by omega))]
      exact ⟨E1, M1, b, rfl, H1, sk, ⟨Nat.le_refl _, hb, fun K ⟨d, d1, _⟩ => by omega, Or.inl rfl⟩, zq_same.refl⟩
/-- the nodes as the reckoner and the tree have them -/
def zs_ok (M : zq_M) (n : Nat) (t : zq_T) : Prop := ∀ j, j < n → zm_node (M.1 1) j (t.2 j)
theorem zs_ok.scr {M' : zq_M} (h : zs_ok M n t) (s : zm_scr M M') : zs_ok M' n t := fun j hj => by rw [s.1 1 (by omega)]; exact h j hj
def zw_P (t : zq_T) (k : Nat) : List Nat := zw_path t (zt_d t k + 1) k []
def zw_L (t : zq_T) (k : Nat) : List Nat := zw_sides t (zt_d t k + 1) k []
theorem zw_P_len (t : zq_T) (k : Nat) : (zw_P t k).length = zt_d t k + 1 := by
  have := zw_path_len t (zt_d t k + 1) k []
  simpa [zw_P] using this
theorem zm_worstOf (H : zq_mod g E m M) (h : zi_inv n t) (hN : zs_ok M n t) {k : Nat} (hk : k < n) : ∃ E' M', tw_X7_worstOf E m (nI k) = some (zw_most t (zw_P t k) (zw_L t k), E') ∧ zq_mod g E' m M' ∧ zm_scr M M' ∧ zq_same E E' m (m + 8) := by
  have hp := zi_pl_path h.1 hk
  unfold tw_X7_worstOf
  rw [if_pos (zq_cls H.1)]
  obtain ⟨E1, M1, a1, H1, b1, c1, sc1, d1, e1, s1⟩ := zm_laid H h.1 hN hk
  rw [a1]
  simp only [zq_bindE]
  have hN1 := hN.scr sc1
  obtain ⟨E2, M2, a2, H2, sk2, fd2, s2⟩ := zm_seeks (L := zw_L t k) H1 h hN1 hp b1 c1 (x := 0) (by omega)
  rw [show (0 : Int32) = nI 0 from rfl, a2]
  simp only [zq_bindE]
  rw [zm_i8 H2, fd2.1]
  simp only [zq_bindE]
  have hp15 := hp.1.1
  obtain ⟨E3, M3, b3, a3, H3, sk3, t3, s3⟩ := zm_worst17 (L := zw_L t k) h hN1 hp b1 c1 bq_fuel 0 (zw_find t (zw_P t k) (zw_L t k) 0).1 E2 M2 (bq_fuel_ge (by omega)) (Nat.zero_le _) (zw_find_cnt h hp 0) H2 sk2
  obtain ⟨b4, a4, t4⟩ := zx_most h hp
  have e : b3 = b4 := t3.uniq t4 (fun K => ⟨fun ⟨d, d1, d2⟩ => zx_all h hp _ d (Nat.add_sub_cancel' (Nat.le_of_lt d1.2)) K d2 d1.2, fun ⟨d, d1, i, i1, i2⟩ => ⟨d, ⟨Nat.zero_le _, d1⟩, by rw [i2, zn_gD i1.1]; exact List.getElem_mem i1.1⟩⟩)
  refine ⟨E3, M3, ?_, H3, sc1.trans sk3.scr, (s1.trans s2).trans s3⟩
  show _ = some (zw_most t (zw_path t (zt_d t k + 1) k []) (zw_sides t (zt_d t k + 1) k []), E3)
  rw [a4, ← e]
  exact a3
theorem zm_isNode (H : zq_mod g E m M) (h0 : M.1 1 0 = nI n) (h1 : 1 ≤ n) (h15 : n ≤ 15) (x : Int32) : (zf_isnode n x → tw_X7_isNode E m x = some true) ∧ (¬ zf_isnode n x → tw_X7_isNode E m x = some false) := by
  unfold tw_X7_isNode
  rw [if_pos (zq_cls H.1), zm_r1 H]
  simp only [zq_bindE]
  rw [show (0 : Int32) = nI 0 from rfl, zm_ai H (j := 1) (by omega) (by show 0 < 8183; omega), h0]
  simp only [zq_bindE]
  rw [zm_in_eq]
  simp only [zq_bindE]
  have e : nI n - (1 : Int32) = nI (n - 1) := pk_sub h1
  rw [e]
  constructor
  · intro q
    obtain ⟨k, hk, rfl⟩ := zf_isnode_nat h15 q
    rw [(zm_in_iff (x := nI k) (lo := nI 0) (hi := nI (n - 1))).mpr ⟨nI_nlt (Nat.zero_le _) (by omega), nI_nlt (by omega) (by omega)⟩]
  · intro q
    have : zm_in x (nI 0) (nI (n - 1)) = false := by
      cases hz : zm_in x (nI 0) (nI (n - 1)) with
      | false => rfl
      | true =>
        obtain ⟨w1, w2⟩ := zm_in_iff.mp hz
        obtain ⟨j, hj, rfl⟩ := nI_of w1
        refine absurd ⟨w1, nI_lt ?_ (by omega)⟩ q
        by_cases z : j < n
        · exact z
        · exact absurd (nI_lt (a := n - 1) (b := j) (by omega) hj) w2
    rw [this]
/-- an x that may be sought -/
def zf_goal (x : Int32) : Prop := ¬ x < 0 ∧ ¬ (10000 : Int32) < x
theorem zf_goal_nat {x : Int32} (h : zf_goal x) : ∃ k, k ≤ 10000 ∧ x = nI k := by
  obtain ⟨j, hj, rfl⟩ := nI_of h.1
  refine ⟨j, ?_, rfl⟩
  by_cases z : j ≤ 10000
  · exact z
  · exact absurd (nI_lt (a := 10000) (b := j) (by omega) hj) h.2
def zf_key (x : Int32) : Prop := ¬ x < 0 ∧ ¬ (10000 : Int32) ≤ x
theorem zf_key_nat {x : Int32} (h : zf_key x) : ∃ k, k < 10000 ∧ x = nI k := by
  obtain ⟨j, hj, rfl⟩ := nI_of h.1
  refine ⟨j, ?_, rfl⟩
  by_cases z : j < 10000
  · exact z
  · exact absurd (nI_le (a := 10000) (b := j) (by omega) hj) h.2
theorem zm_isSought (E : bq_E) (x : Int32) : (zf_goal x → tw_X7_isSought E x = some true) ∧ (¬ zf_goal x → tw_X7_isSought E x = some false) := by
  unfold tw_X7_isSought
  rw [zm_in_eq]
  constructor
  · intro q
    rw [zm_in_iff.mpr q]
    rfl
  · intro q
    cases hz : zm_in x 0 10000 with
    | false => rfl
    | true => exact absurd (zm_in_iff.mp hz) q
theorem zm_isKey (E : bq_E) (x : Int32) : (zf_key x → tw_X7_isKey E x = some true) ∧ (¬ zf_key x → tw_X7_isKey E x = some false) := by
  unfold tw_X7_isKey
  rw [zm_in_eq]
  have e : zm_in x 0 9999 = true ↔ zf_key x := by
    rw [zm_in_iff]
    constructor
    · rintro ⟨a, b⟩
      refine ⟨a, ?_⟩
      obtain ⟨j, hj, rfl⟩ := nI_of a
      intro w
      have h1 := (nI_leI (a := 10000) (b := j) (by omega) hj).mp w
      exact b (nI_lt (a := 9999) (b := j) (by omega) hj)
    · rintro ⟨a, b⟩
      refine ⟨a, ?_⟩
      obtain ⟨j, hj, rfl⟩ := nI_of a
      intro w
      have h1 := (nI_ltI (a := 9999) (b := j) (by omega) hj).mp w
      exact b (nI_le (a := 10000) (b := j) (by omega) hj)
  constructor
  · intro q
    rw [e.mpr q]
    rfl
  · intro q
    cases hz : zm_in x 0 9999 with
    | false => rfl
    | true => exact absurd (e.mp hz) q
/-- a question: the search is made -/
theorem zm_asks (H : zq_mod g E m M) (h : zi_inv n t) (hN : zs_ok M n t) {k x : Nat} (hk : k < n) (h0 : M.1 1 0 = nI n) (hx : x ≤ 10000) : ∃ E' M', tw_X7_asks E m (nI k) (nI x) = some (0, E') ∧ zq_mod g E' m M' ∧ zm_scr M M' ∧ M'.2.1 7 = nI (zw_P t k).length ∧ (∀ i, i < (zw_P t k).length → M'.1 5 i = nI ((zw_P t k).getD i 0)) ∧ zm_fd M' (zw_P t k).length (zw_P t k) (zw_find t (zw_P t k) (zw_L t k) x) ∧ zq_same E E' m (m + 8) := by
  have hp := zi_pl_path h.1 hk
  unfold tw_X7_asks
  rw [if_pos (zq_cls H.1), (zm_isNode H h0 h.1.1.1 h.1.1.2 (nI k)).1 (zf_isnode_nI h.1.1.2 hk)]
  simp only [zq_bindE]
  rw [if_neg bq_bT, (zm_isSought E (nI x)).1 ⟨nI_pos (by omega), nI_nlt (a := 10000) (by omega) (by omega)⟩]
  simp only [zq_bindE]
  rw [if_neg bq_bT]
  obtain ⟨E1, M1, a1, H1, b1, c1, sc1, d1, e1, s1⟩ := zm_laid H h.1 hN hk
  rw [a1]
  simp only [zq_bindE]
  obtain ⟨E2, M2, a2, H2, sk2, fd2, s2⟩ := zm_seeks (L := zw_L t k) H1 h (hN.scr sc1) hp b1 c1 (x := x) (by omega)
  rw [a2]
  exact ⟨E2, M2, rfl, H2, sc1.trans sk2.scr, (sk2.2.1 7 (by omega)).trans b1, fun i hi => by rw [sk2.1 5 (by omega) (by omega)]; exact c1 i hi, fd2, s1.trans s2⟩
theorem zm_asks1 (H : zq_mod g E m M) (h0 : M.1 1 0 = nI n) (h1 : 1 ≤ n) (h15 : n ≤ 15) {y x : Int32} (hy : ¬ zf_isnode n y) : tw_X7_asks E m y x = some (1, E) := by
  unfold tw_X7_asks
  rw [if_pos (zq_cls H.1), (zm_isNode H h0 h1 h15 y).2 hy]
  simp only [zq_bindE]
  rw [if_pos bq_bF]
theorem zm_asks2 (H : zq_mod g E m M) (h0 : M.1 1 0 = nI n) (h1 : 1 ≤ n) (h15 : n ≤ 15) {y x : Int32} (hy : zf_isnode n y) (hx : ¬ zf_goal x) : tw_X7_asks E m y x = some (2, E) := by
  unfold tw_X7_asks
  rw [if_pos (zq_cls H.1), (zm_isNode H h0 h1 h15 y).1 hy]
  simp only [zq_bindE]
  rw [if_neg bq_bT, (zm_isSought E x).2 hx]
  simp only [zq_bindE]
  rw [if_pos bq_bF]
end ZxB
