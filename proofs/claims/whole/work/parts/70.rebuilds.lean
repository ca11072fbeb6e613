/-! The reckoner rebuilds a node. -/
def zm_two (M M' : zq_M) : Prop := M'.2 = M.2 ∧ ∀ j, j ≠ 1 → j ≠ 4 → M'.1 j = M.1 j
theorem zm_two.refl {M : zq_M} : zm_two M M := ⟨rfl, fun _ _ _ => rfl⟩
theorem zm_two.trans {M M' M'' : zq_M} (h : zm_two M M') (h2 : zm_two M' M'') : zm_two M M'' := ⟨h2.1.trans h.1, fun j hj h4 => (h2.2 j hj h4).trans (h.2 j hj h4)⟩
theorem zm_one.two {M M' : zq_M} (h : zm_one M M') : zm_two M M' := ⟨h.1, fun j hj _ => h.2 j hj⟩
def zm_rest (m k : Nat) (E : bq_E) : Option (Int32 × bq_E) :=
  (bq_fr E m 7 0).bind fun v5301 =>
    (bq_ai E v5301 (7 : Int32)).bind fun v5302 =>
    (bq_si E v5301 (7 : Int32) (v5302 + (1 : Int32))).bind fun E5303 =>
    (tw_X7_buildsUp E5303 m (nI k)).bind fun v5304 =>
    some (v5304.1, v5304.2)
section ZsR
variable {g : bq_G} {E : bq_E} {m n st k : Nat} {M : zq_M} {t : zq_T} {v : zq_N}
theorem zm_reb9 (K : Int32 → Int32 → bq_E → Option (Int32 × bq_E)) {b : Nat} (H : zm_has g E m M k v) (hh : zi_hx b v) : ∀ (N i : Nat) (E1 : bq_E) (M1 : zq_M), (zc_newbase v).length - i < N → i ≤ (zc_newbase v).length → zq_mod g E1 m M1 → M1.2 = M.2 → (∀ j, j ≠ 4 → M1.1 j = M.1 j) → (∀ a, a < i → M1.1 4 a = nI ((zc_newbase v).getD a 0)) →
    ∃ E2 M2 y, tl_X7_rebuilds_9 m (nI k) K N (nI i) (zn_enc ((zc_newbase v).getD i 10000)) E1 = K (nI (zc_newbase v).length) y E2 ∧ zq_mod g E2 m M2 ∧ M2.2 = M.2 ∧ (∀ j, j ≠ 4 → M2.1 j = M.1 j) ∧ (∀ a, a < (zc_newbase v).length → M2.1 4 a = nI ((zc_newbase v).getD a 0)) ∧ zq_same E1 E2 m (m + 8) := by
  have h24 := zc_nb_24 hh
  intro N
  induction N with
  | zero => intro i E1 M1 h; omega
  | succ N ih =>
    intro i E1 M1 hn hi H1 e2 ej hd
    rw [tl_X7_rebuilds_9.eq_2]
    by_cases q : i < (zc_newbase v).length
    · have hlt := zc_nb_lt hh _ (List.getElem_mem q)
      have ee : zn_enc ((zc_newbase v).getD i 10000) = nI ((zc_newbase v).getD i 10000) := by
        rw [zn_gD q]
        unfold zn_enc
        rw [if_neg (by omega)]
      have hle : (zc_newbase v).getD i 10000 < 10000 := by rw [zn_gD q]; exact hlt
      rw [ee, if_neg (zn_m1 (by omega)), zm_r4 H1]
      simp only [zq_bindE]
      obtain ⟨E2, a2, H2, s2⟩ := zm_si H1 (j := 4) (i := i) (by omega) (by show i < 32; omega) (nI ((zc_newbase v).getD i 10000))
      rw [a2]
      simp only [zq_bindE, zq_letE]
      have hM1 : (zm_A M1 4 i (nI ((zc_newbase v).getD i 10000))).1 1 = M.1 1 := by rw [zm_An (by omega), ej 1 (by omega)]
      have has : zm_has g E2 m (zm_A M1 4 i (nI ((zc_newbase v).getD i 10000))) k v := ⟨H2, H.2.1, by rw [hM1]; exact H.2.2.1, H.2.2.2⟩
      rw [nI_1, nI_1, zm_next has hh.2.1 (by omega)]
      simp only [zq_bindE, zq_letE]
      rw [zc_next_s hh q]
      obtain ⟨E3, M3, y, a3, H3, f3, g3, d3, s3⟩ := ih (i + 1) E2 _ (by omega) (by omega) H2 e2 (fun j hj => by rw [zm_An hj]; exact ej j hj) (fun a ha => by
        rw [zm_As]
        by_cases w : a = i
        · subst w; rw [pk_us, zn_gD q, zn_gD q]
        · rw [pk_un w]; exact hd a (by omega))
      exact ⟨E3, M3, y, a3, H3, f3, g3, d3, s2.trans s3⟩
    · have : i = (zc_newbase v).length := by omega
      subst this
      rw [zn_gD_top (Nat.le_refl _), if_pos (show zn_enc 10000 = -1 from rfl)]
      exact ⟨E1, M1, _, rfl, H1, e2, ej, hd, zq_same.refl⟩
theorem zm_reb53 (hk : k < 15) {nb : List Nat} (hl : nb.length ≤ 24) : ∀ (N i : Nat) (E1 : bq_E) (M1 : zq_M), 24 - i < N → i ≤ 24 → zq_mod g E1 m M1 → (∀ a, a < nb.length → M1.1 4 a = nI (nb.getD a 0)) → (∀ a, a < i → M1.1 1 (zm_at k + 4 + a) = nI (nb.getD a 0) ∧ M1.1 1 (zm_at k + 28 + a) = nI 0) →
    ∃ E2 M2, tl_X7_rebuilds_53 m (nI k) (nI nb.length) N (nI i) E1 = zm_rest m k E2 ∧ zq_mod g E2 m M2 ∧ (∀ a, a < 24 → M2.1 1 (zm_at k + 4 + a) = nI (nb.getD a 0) ∧ M2.1 1 (zm_at k + 28 + a) = nI 0) ∧ zm_only M1 M2 (fun a => (zm_at k + 4 ≤ a ∧ a < zm_at k + 52)) ∧ zq_same E1 E2 m (m + 8) := by
  have hat : zm_at k = 8 + 545 * k := rfl
  intro N
  induction N with
  | zero => intro i E1 M1 h; omega
  | succ N ih =>
    intro i E1 M1 hn hi H1 h4 hd
    rw [tl_X7_rebuilds_53.eq_2]
    by_cases q : i < 24
    · rw [if_neg (show ¬ (24 : Int32) ≤ nI i from nI_ge (b := 24) q (by omega))]
      simp only [zq_letE]
      have step : ∃ E2 M2, ((tw_X7_puts E1 m (nI k) ((4 : Int32) + nI i) (nI (nb.getD i 0))).bind fun E5306 =>
      (tw_X7_puts E5306 m (nI k) ((28 : Int32) + nI i) (0 : Int32)).bind fun E5307 =>
      tl_X7_rebuilds_53 m (nI k) (nI nb.length) N (nI i + 1) E5307) = tl_X7_rebuilds_53 m (nI k) (nI nb.length) N (nI (i + 1)) E2 ∧ zq_mod g E2 m M2 ∧ M2 = zm_A (zm_A M1 1 (8 + 545 * k + (4 + i)) (nI (nb.getD i 0))) 1 (8 + 545 * k + (28 + i)) (nI 0) ∧ zq_same E1 E2 m (m + 8) := by
        rw [show (4 : Int32) = nI 4 from rfl, show (28 : Int32) = nI 28 from rfl, show (0 : Int32) = nI 0 from rfl, nI_add, nI_add]
        obtain ⟨E2, a2, H2, s2⟩ := zm_puts H1 hk (o := 4 + i) (by omega) (nI (nb.getD i 0))
        rw [a2]
        simp only [zq_bindE]
        obtain ⟨E3, a3, H3, s3⟩ := zm_puts H2 hk (o := 28 + i) (by omega) (nI 0)
        rw [a3]
        simp only [zq_bindE]
        rw [nI_1]
        exact ⟨E3, _, rfl, H3, rfl, s2.trans s3⟩
      have hsel : (if nI nb.length ≤ nI i then (tw_X7_puts E1 m (nI k) ((4 : Int32) + nI i) (0 : Int32)).bind fun E5306 =>
      (tw_X7_puts E5306 m (nI k) ((28 : Int32) + nI i) (0 : Int32)).bind fun E5307 =>
      tl_X7_rebuilds_53 m (nI k) (nI nb.length) N (nI i + 1) E5307 else (bq_fr E1 m 7 5).bind fun v5309 =>
      (bq_ai E1 v5309 (nI i)).bind fun v5310 =>
      (tw_X7_puts E1 m (nI k) ((4 : Int32) + nI i) v5310).bind fun E5306 =>
      (tw_X7_puts E5306 m (nI k) ((28 : Int32) + nI i) (0 : Int32)).bind fun E5307 =>
      tl_X7_rebuilds_53 m (nI k) (nI nb.length) N (nI i + 1) E5307) = ((tw_X7_puts E1 m (nI k) ((4 : Int32) + nI i) (nI (nb.getD i 0))).bind fun E5306 =>
      (tw_X7_puts E5306 m (nI k) ((28 : Int32) + nI i) (0 : Int32)).bind fun E5307 =>
      tl_X7_rebuilds_53 m (nI k) (nI nb.length) N (nI i + 1) E5307) := by
        by_cases w : i < nb.length
        · rw [if_neg (nI_ge w (by omega)), zm_r4 H1]
          simp only [zq_bindE]
          rw [zm_ai H1 (j := 4) (by omega) (by show i < 32; omega), h4 i w]
          simp only [zq_bindE]
        · rw [if_pos (nI_le (by omega) (by omega))]
          have : nb.getD i 0 = 0 := by simp [List.getD, List.getElem?_eq_none (Nat.not_lt.mp w)]
          rw [this]
          rfl
      rw [hsel]
      obtain ⟨E2, M2, a2, H2, hM2, s2⟩ := step
      rw [a2]
      have o2 : zm_only M1 M2 (fun a => (zm_at k + 4 ≤ a ∧ a < zm_at k + 52)) := by
        rw [hM2]
        refine (zm_only.put ?_).trans (zm_only.put ?_) <;> (rw [hat]; omega)
      obtain ⟨E3, M3, a3, H3, d3, o3, s3⟩ := ih (i + 1) E2 M2 (by omega) (by omega) H2 (fun a ha => by rw [o2.2.1 4 (by omega)]; exact h4 a ha) (fun a ha => by
        rw [hM2, hat]
        by_cases w : a = i
        · subst w
          have e1 : 8 + 545 * k + 4 + a = 8 + 545 * k + (4 + a) := by omega
          have e2 : 8 + 545 * k + 28 + a = 8 + 545 * k + (28 + a) := by omega
          rw [e1, e2, zm_Aoff (b := 8 + 545 * k + (4 + a)) (by omega), zm_Aat, zm_Aat]
          exact ⟨rfl, rfl⟩
        · have h5 := hd a (by omega)
          rw [hat] at h5
          rw [zm_Aoff (by omega), zm_Aoff (by omega), zm_Aoff (by omega), zm_Aoff (by omega)]
          exact h5)
      exact ⟨E3, M3, a3, H3, d3, o2.trans o3, s2.trans s3⟩
    · rw [if_pos (show (24 : Int32) ≤ nI i from nI_le (a := 24) (by omega) (by omega))]
      exact ⟨E1, M1, rfl, H1, fun a ha => hd a (by omega), zm_only.refl, zq_same.refl⟩
theorem zt_settled_n {j : Nat} (h : j ≠ k) : (zt_settled t k).2 j = t.2 j := zt_Cn h
theorem zt_settled_k : (zt_settled t k).2 k = zc_settled (t.2 k) := zt_Cs
theorem zt_settled_cint (j i : Nat) (hi : i ≠ 4) : ((zt_settled t k).2 j).1 i = (t.2 j).1 i := by
  by_cases q : j = k
  · subst q; rw [zt_settled_k, zc_settled_in _ hi]
  · rw [zt_settled_n q]
theorem zt_settled_ent (x : Int32) : zt_ent (zt_settled t k) x = zt_ent t x := by
  unfold zt_ent
  by_cases q : x = -1
  · rw [if_pos q, if_pos q]
  · rw [if_neg q, if_neg q]
    by_cases w : zt_ix x = k
    · rw [w, zt_settled_k, zc_settled_rj _ (by omega)]
    · rw [zt_settled_n w]
theorem zi_an_cint3 {t u : zq_T} (hc : ∀ k, (u.2 k).1 0 = (t.2 k).1 0 ∧ (u.2 k).1 3 = (t.2 k).1 3) : (∀ k, zi_par u k = zi_par t k) ∧ (∀ k, zt_d u k = zt_d t k) ∧ (∀ j k, zi_an u j k ↔ zi_an t j k) ∧ ∀ n j, zi_w u n j = zi_w t n j := by
  have hp : ∀ k, zi_par u k = zi_par t k := fun k => by unfold zi_par; rw [(hc k).1]
  have hd : ∀ k, zt_d u k = zt_d t k := fun k => by unfold zt_d; rw [(hc k).2]
  have hi : ∀ i k, zi_it u i k = zi_it t i k := by
    intro i
    induction i with
    | zero => intro k; rfl
    | succ i ih =>
      intro k
      show zi_it u i (zi_par u k) = zi_it t i (zi_par t k)
      rw [hp, ih]
  refine ⟨hp, hd, fun j k => ?_, fun n j => ?_⟩
  · unfold zi_an
    rw [hd, hd, hi]
  · induction n with
    | zero => rfl
    | succ n ih =>
      show zi_w u n j + zi_in1 u j n = zi_w t n j + zi_in1 t j n
      rw [ih]
      unfold zi_in1
      rw [hd, hd, hi]
/-- what holds of a tree between calls -/
def zi_inv (n : Nat) (t : zq_T) : Prop := zi_shape n t ∧ (∃ c, t.1 4 = nI c ∧ 1 ≤ c ∧ c ≤ 8) ∧ (∃ st, t.1 5 = nI st ∧ 2 ≤ st ∧ st ≤ 5) ∧ (∀ k, k < n → zi_hc (t.2 k)) ∧ (∀ k, k < n → zi_lc n t k) ∧ (∀ k, n ≤ k → k < 15 → zw_ok t k)
theorem zi_inv.cat (h : zi_inv n t) (hk : k < n) : zi_cat (t.2 k) := ((h.2.2.2.2.1 k hk).cat h.1.1.2 (h.2.2.2.1 k hk).1).1
/-- like the invariant, but the head of k may have been changed anew -/
def zi_mid (n st : Nat) (t : zq_T) (k : Nat) : Prop := zi_shape n t ∧ (∃ c, t.1 4 = nI c ∧ 1 ≤ c ∧ c ≤ 8) ∧ (t.1 5 = nI st ∧ 2 ≤ st ∧ st ≤ 5) ∧ (∀ j, j < n → zi_hc (t.2 j)) ∧ (∀ j, j < n → ¬ zi_an t j k → zi_lc n t j) ∧ (∀ j, j < n → j ≠ k → zi_cat (t.2 j)) ∧ (∀ j, n ≤ j → j < 15 → zw_ok t j)
/-- before a settling: the buffer of k may be full -/
def zi_pre (n st : Nat) (t : zq_T) (k : Nat) : Prop := zi_shape n t ∧ (∃ c, t.1 4 = nI c ∧ 1 ≤ c ∧ c ≤ 8) ∧ (t.1 5 = nI st ∧ 2 ≤ st ∧ st ≤ 5) ∧ ((∀ j, j < n → j ≠ k → zi_hc (t.2 j)) ∧ zi_hx 8 (t.2 k)) ∧ (∀ j, j < n → ¬ zi_an t j k → zi_lc n t j) ∧ (∀ j, j < n → j ≠ k → zi_cat (t.2 j)) ∧ (∀ j, n ≤ j → j < 15 → zw_ok t j)
theorem zi_inv.mid (h : zi_inv n t) (k : Nat) : ∃ st, zi_mid n st t k := by
  obtain ⟨st, hst⟩ := h.2.2.1
  exact ⟨st, h.1, h.2.1, hst, h.2.2.2.1, fun j hj _ => h.2.2.2.2.1 j hj, fun j hj _ => h.cat hj, h.2.2.2.2.2⟩
theorem zi_mid.bu (h : zi_mid n st t k) : zi_bu n st t k := ⟨h.1, h.2.2.2.1, h.2.2.1.1, h.2.2.1.2, h.2.2.2.2.1, h.2.2.2.2.2.1⟩
theorem zl_br_le {ys : List Nat} {ks : List Nat} (hy : ys.Pairwise (· ≤ ·)) (hk : ks.Pairwise (· ≤ ·)) (hb : ∀ k ∈ ks, k ≤ 10000) : ∀ b ∈ zl_br ys 0 ks, b ≤ ys.length := by
  rw [zl_br_eq hy hk (fun k h => ⟨hb k h, Nat.zero_le _⟩) (Nat.zero_le _)]
  intro b hb
  rcases List.mem_append.mp hb with q | q
  · obtain ⟨x, _, rfl⟩ := List.mem_map.mp q
    exact zn_cnt_le _ _
  · rw [List.mem_singleton.mp q]
    exact zn_cnt_le _ _
theorem zi_in.brs {b l r : List Nat} (h : zi_in st b l r) {j : Nat} : ∀ x ∈ zl_br (zm_sel j b l r) 0 ((zl_list st b l r).map Prod.fst), x ≤ (zm_sel j b l r).length := by
  have hsel : (zm_sel j b l r).Pairwise (· ≤ ·) := by
    unfold zm_sel
    split
    · exact h.1
    · split
      · exact h.2.1
      · exact h.2.2.1
  exact zl_br_le hsel (zp_keys_sorted h.list.2.1) (fun x hx => by
    obtain ⟨q, hq, rfl⟩ := List.mem_map.mp hx
    exact Nat.le_of_lt (h.mem hq).1)
theorem zi_lc.ok (h : zi_lc n t k) (hc : zi_head (t.2 k)) : zw_ok t k := by
  obtain ⟨st, a, b, c, d⟩ := h
  refine ⟨hc.1.1, ?_⟩
  have e : (t.2 k).2 5 = _ := c (5 + 0) (by omega) (by omega)
  rw [zc_built_br _ _ _ _ (by omega)] at e
  rw [e]
  exact b.brs
theorem zi_inv.ok (h : zi_inv n t) : ∀ k, k < 15 → zw_ok t k := fun k hk => by
  by_cases q : k < n
  · exact (h.2.2.2.2.1 k q).ok (h.2.2.2.1 k q).1
  · exact h.2.2.2.2.2 k (by omega) hk
/-- a tree after a build up from k -/
theorem zi_mid.done (h : zi_mid n st t k) (hk : k < n) (a : Int32) : zi_inv n (zt_up st (zt_d t k + 1) k a t).2 ∧ zt_upok st (zt_d t k + 1) k t := by
  obtain ⟨r1, r2, r3, r4⟩ := zi_up_all (zt_d t k) k a t h.bu hk rfl
  have hci : ∀ j i, ((zt_up st (zt_d t k + 1) k a t).2.2 j).1 i = (t.2 j).1 i := zt_up_cint st _ _ _ _
  have hin : ∀ j, (j ≠ 8 ∧ j ≠ 9) → (zt_up st (zt_d t k + 1) k a t).2.1 j = t.1 j := zt_up_int5 st _ _ _ _
  refine ⟨⟨h.1.congr (hin 3 (by omega)) (fun j i _ _ => hci j i), ?_, ⟨st, (hin 5 (by omega)).trans h.2.2.1.1, h.2.2.1.2⟩, fun j hj => ?_, r2, fun j hj hj2 => ?_⟩, r1⟩
  · rw [hin 4 (by omega)]; exact h.2.1
  · have hc := h.2.2.2.1 j hj
    have e0 := r3 j 0 (by omega)
    have e1 := r3 j 1 (by omega)
    have e2 := r3 j 2 (by omega)
    unfold zi_hc zi_hx zi_head zi_ord at hc ⊢
    rw [e0, e1, e2, hci]
    exact hc
  · unfold zw_ok
    rw [r4 j hj]
    exact h.2.2.2.2.2.2 j hj hj2
theorem zi_pre.settle (h : zi_pre n st t k) (hk : k < n) : zi_mid n st (zt_settled t k) k := by
  have hci := zi_an_cint3 (t := t) (u := zt_settled t k) (fun j => ⟨zt_settled_cint j 0 (by omega), zt_settled_cint j 3 (by omega)⟩)
  refine ⟨h.1.congr rfl (fun j i _ hi => zt_settled_cint j i (by omega)), h.2.1, h.2.2.1, fun j hj => ?_, fun j hj ha => ?_, fun j hj hne => ?_, fun j hj hj2 => ?_⟩
  · by_cases q : j = k
    · subst q; rw [zt_settled_k]; exact zi_hc_settled h.2.2.2.1.2
    · rw [zt_settled_n q]; exact h.2.2.2.1.1 j hj q
  · rw [hci.2.2.1] at ha
    have hjk : j ≠ k := fun q => ha (q ▸ zi_an_self t j)
    refine (h.2.2.2.2.1 j hj ha).congr (by rw [zt_settled_n hjk]) (fun i _ _ => by rw [zt_settled_n hjk]) ?_ ?_ (by rw [hci.2.2.2]; exact Nat.le_refl _)
    · rw [zt_settled_ent, zt_settled_cint j 1 (by omega)]
    · rw [zt_settled_ent, zt_settled_cint j 2 (by omega)]
  · rw [zt_settled_n hne]; exact h.2.2.2.2.2.1 j hj hne
  · unfold zw_ok
    rw [zt_settled_n (by omega)]
    exact h.2.2.2.2.2.2 j hj hj2
theorem zt_settled_d : zt_d (zt_settled t k) k = zt_d t k := by
  unfold zt_d
  rw [zt_settled_cint k 3 (by omega)]
theorem zi_pre.renew (h : zi_pre n st t k) (hk : k < n) : zi_inv n (zt_renew st k t).2 ∧ zt_renewok st k t := by
  have h2 := (h.settle hk).done hk 0
  rw [zt_settled_d] at h2
  have hc := h.2.2.2.1.2
  have := h.1.d15 hk
  exact ⟨h2.1, hc.1.1.1, hc.2.2.1, h.1.d3 hk, by omega, h2.2⟩
theorem zm_rebuilds (H : zq_mod g E m M) (h : zi_pre n st t k) (hcat : zi_cat (t.2 k)) (hk : k < n) (hr : zs_rel (M.1 1) n t) : ∃ E' M', tw_X7_rebuilds E m (nI k) = some ((zt_renew st k t).1, E') ∧ zq_mod g E' m M' ∧ zs_rel (M'.1 1) n (zt_renew st k t).2 ∧ zm_two M M' ∧ zq_same E E' m (m + 8) := by
  have h15 := h.1.1.2
  have hc := h.2.2.2.1.2
  have h24 := zc_nb_24 hc
  have hat : zm_at k = 8 + 545 * k := rfl
  have has : zm_has g E m M k (t.2 k) := ⟨H, by omega, hr.2 k hk, hcat⟩
  unfold tw_X7_rebuilds
  rw [if_pos (zq_cls H.1), show (0 : Int32) = nI 0 from rfl, zm_next has hc.2.1 (by omega), zc_next_0 hc]
  simp only [zq_bindE]
  obtain ⟨E1, M1, y, a1, H1, f1, g1, d1, s1⟩ := zm_reb9 (fun y2 y3 E4 =>
    (tw_X7_puts E4 m (nI k) (3 : Int32) y2).bind fun E5 =>
  (tw_X7_puts E5 m (nI k) (52 : Int32) (nI 0)).bind fun E6 =>
  tl_X7_rebuilds_53 m (nI k) y2 bq_fuel (nI 0) E6) has hc bq_fuel 0 E M (bq_fuel_ge (by omega)) (Nat.zero_le _) H rfl (fun _ _ => rfl) (fun a ha => absurd ha (by omega))
  rw [a1, show (3 : Int32) = nI 3 from rfl, show (52 : Int32) = nI 52 from rfl]
  obtain ⟨E2, a2, H2, s2⟩ := zm_puts H1 (k := k) (by omega) (o := 3) (by omega) (nI (zc_newbase (t.2 k)).length)
  rw [a2]
  simp only [zq_bindE]
  obtain ⟨E3, a3, H3, s3⟩ := zm_puts H2 (k := k) (by omega) (o := 52) (by omega) (nI 0)
  rw [a3]
  simp only [zq_bindE]
  obtain ⟨E4, M4, a4, H4, d4, o4, s4⟩ := zm_reb53 (k := k) (by omega) h24 bq_fuel 0 E3 _ (bq_fuel_ge (by omega)) (by omega) H3 (fun a ha => by rw [zm_An (by omega), zm_An (by omega)]; exact d1 a ha) (fun a ha => absurd ha (by omega))
  rw [a4]
  unfold zm_rest
  rw [zm_r1 H4, show (7 : Int32) = nI 7 from rfl]
  simp only [zq_bindE]
  rw [zm_ai H4 (j := 1) (by omega) (by show 7 < 8183; omega)]
  simp only [zq_bindE]
  obtain ⟨E5, a5, H5, s5⟩ := zm_si H4 (j := 1) (i := 7) (by omega) (by show 7 < 8183; omega) (M4.1 1 7 + 1)
  rw [a5]
  simp only [zq_bindE]
  -- what lies where
  have o1 : ∀ a, ¬ ((zm_at k + 3 ≤ a ∧ a < zm_at k + 53) ∨ a = 7) → (zm_A M4 1 7 (M4.1 1 7 + 1)).1 1 a = M.1 1 a := by
    intro a ha
    rw [zm_Aoff (by omega), o4.2.2 a (by omega), zm_Aoff (by rw [hat] at ha; omega), zm_Aoff (by rw [hat] at ha; omega), g1 1 (by omega)]
  have f3 : (zm_A M4 1 7 (M4.1 1 7 + 1)).1 1 (zm_at k + 3) = nI (zc_newbase (t.2 k)).length := by
    rw [zm_Aoff (by rw [hat]; omega), o4.2.2 _ (by omega), hat, zm_Aoff (by omega), zm_Aat]
  have f52 : (zm_A M4 1 7 (M4.1 1 7 + 1)).1 1 (zm_at k + 52) = nI 0 := by
    rw [zm_Aoff (by rw [hat]; omega), o4.2.2 _ (by omega), hat, zm_Aat]
  have fs : ∀ a, a < 24 → (zm_A M4 1 7 (M4.1 1 7 + 1)).1 1 (zm_at k + 4 + a) = nI ((zc_newbase (t.2 k)).getD a 0) ∧ (zm_A M4 1 7 (M4.1 1 7 + 1)).1 1 (zm_at k + 28 + a) = nI 0 := by
    intro a ha
    rw [zm_Aoff (by rw [hat]; omega), zm_Aoff (by rw [hat]; omega)]
    exact d4 a ha
  have f7 : (zm_A M4 1 7 (M4.1 1 7 + 1)).1 1 7 = t.1 10 + 1 := by
    rw [zm_Aat, o4.2.2 7 (by rw [hat]; omega), zm_Aoff (by omega), zm_Aoff (by omega), g1 1 (by omega), hr.1.2.2.2.2.2.2.2]
  have hm2 := h.settle hk
  have hp : zs_part ((zm_A M4 1 7 (M4.1 1 7 + 1)).1 1) n (zt_settled t k) k 0 := by
    obtain ⟨⟨r0, r1, r2, r3, r4, r5, r6, r7⟩, rn⟩ := hr
    refine ⟨⟨(o1 0 (by rw [hat]; omega)).trans r0, (o1 1 (by rw [hat]; omega)).trans r1, (o1 2 (by rw [hat]; omega)).trans r2, (o1 3 (by rw [hat]; omega)).trans r3, (o1 4 (by rw [hat]; omega)).trans r4, (o1 5 (by rw [hat]; omega)).trans r5, (o1 6 (by rw [hat]; omega)).trans r6, f7⟩, fun j hj hne => ?_, ?_⟩
    · rw [zt_settled_n hne]
      refine (rn j hj).keep (h.2.2.2.2.2.1 j hj hne) (fun a h1 h2 => o1 a ?_)
      have hatj : zm_at j = 8 + 545 * j := rfl
      rw [hat]
      rw [hatj] at h1 h2
      omega
    · rw [zt_settled_k]
      obtain ⟨⟨w0, w1, w2⟩, _⟩ := (rn k hk).head
      refine ⟨⟨?_, ?_, ?_⟩, ⟨f3, fun i hi => ?_, fun i hi => ?_⟩, ⟨f52, fun i hi => ?_⟩⟩
      · rw [o1 _ (by rw [hat]; omega), w0, zc_settled_in _ (by omega)]
      · rw [o1 _ (by rw [hat]; omega), w1, zc_settled_in _ (by omega)]
      · rw [o1 _ (by rw [hat]; omega), w2, zc_settled_in _ (by omega)]
      · rw [zc_settled_r0] at hi ⊢
        exact (fs i (by omega)).1
      · rw [zc_settled_r1] at hi ⊢
        rw [List.length_replicate] at hi
        rw [(fs i (by omega)).2, zn_gD (by rw [List.length_replicate]; exact hi), List.getElem_replicate]
      · rw [zc_settled_r2] at hi
        simp at hi
  obtain ⟨E6, M6, a6, H6, r6, o6, s6⟩ := zm_buildsUp H5 hm2.bu hk hp
  rw [a6, zt_settled_d]
  rw [zt_settled_d] at r6
  refine ⟨E6, M6, rfl, H6, r6, ?_, ((((s1.trans s2).trans s3).trans s4).trans s5).trans s6⟩
  refine ⟨?_, fun j hj h4 => ?_⟩
  · rw [o6.1]
    show M4.2 = M.2
    rw [o4.1]
    exact f1
  · rw [o6.2 j hj, zm_An hj, o4.2.1 j hj, zm_An hj, zm_An hj, g1 j h4]
end ZsR
