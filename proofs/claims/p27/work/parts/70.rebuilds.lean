/-! The reckoner rebuilds a node. -/
def zm_two (M M' : zq_M) : Prop := M'.2 = M.2 ∧ ∀ j, j ≠ 1 → j ≠ 4 → M'.1 j = M.1 j
theorem zm_two.refl {M : zq_M} : zm_two M M := ⟨rfl, fun _ _ _ => rfl⟩
theorem zm_two.trans {M M' M'' : zq_M} (h : zm_two M M') (h2 : zm_two M' M'') : zm_two M M'' := ⟨h2.1.trans h.1, fun j hj h4 => (h2.2 j hj h4).trans (h.2 j hj h4)⟩
section ZsR
variable {g : bq_G} {E : bq_E} {m n st k : Nat} {M : zq_M} {t : zq_T} {v : zq_N}
theorem zt_settled_n {j : Nat} (h : j ≠ k) : (zt_settled t k).2 j = t.2 j := zt_Cn h
theorem zt_settled_k : (zt_settled t k).2 k = zc_settled (t.2 k) := zt_Cs
theorem zt_settled_cint (j i : Nat) (hi : i ≠ 4) : ((zt_settled t k).2 j).1 i = (t.2 j).1 i := by
  by_cases q : j = k
  · subst q; rw [zt_settled_k, zc_settled_in _ hi]
  · rw [zt_settled_n q]
theorem zt_settled_ent (x : Int32) : zt_ent (zt_settled t k) x = zt_ent t x := by
  unfold zt_ent
  by_cases q : x = -1
  · rw [if_pos q, if_pos q]
  · rw [if_neg q, if_neg q]
    by_cases w : zt_ix x = k
    · rw [w, zt_settled_k, zc_settled_rj _ (by omega)]
    · rw [zt_settled_n w]
theorem zi_an_cint3 {t u : zq_T} (hc : ∀ k, (u.2 k).1 0 = (t.2 k).1 0 ∧ (u.2 k).1 3 = (t.2 k).1 3) : (∀ k, zi_par u k = zi_par t k) ∧ (∀ k, zt_d u k = zt_d t k) ∧ (∀ j k, zi_an u j k ↔ zi_an t j k) ∧ ∀ n j, zi_w u n j = zi_w t n j := by
  have hp : ∀ k, zi_par u k = zi_par t k := fun k => by unfold zi_par; rw [(hc k).1]
  have hd : ∀ k, zt_d u k = zt_d t k := fun k => by unfold zt_d; rw [(hc k).2]
  have hi : ∀ i k, zi_it u i k = zi_it t i k := by
    intro i
    induction i with
    | zero => intro k; rfl
    | succ i ih =>
      intro k
      show zi_it u i (zi_par u k) = zi_it t i (zi_par t k)
      rw [hp, ih]
  refine ⟨hp, hd, fun j k => ?_, fun n j => ?_⟩
  · unfold zi_an
    rw [hd, hd, hi]
  · induction n with
    | zero => rfl
    | succ n ih =>
      show zi_w u n j + zi_in1 u j n = zi_w t n j + zi_in1 t j n
      rw [ih]
      unfold zi_in1
      rw [hd, hd, hi]
/-- what holds of a tree between calls -/
def zi_inv (n : Nat) (t : zq_T) : Prop := zi_shape n t ∧ (∃ c, t.1 4 = nI c ∧ 1 ≤ c ∧ c ≤ 8) ∧ (∃ st, t.1 5 = nI st ∧ 2 ≤ st ∧ st ≤ 5) ∧ (∀ k, k < n → zi_hc (t.2 k)) ∧ (∀ k, k < n → zi_lc n t k) ∧ (∀ k, n ≤ k → k < 15 → zw_ok t k)
theorem zi_inv.cat (h : zi_inv n t) (hk : k < n) : zi_cat (t.2 k) := ((h.2.2.2.2.1 k hk).cat h.1.1.2 (h.2.2.2.1 k hk).1).1
/-- like the invariant, but the head of k may have been changed anew -/
def zi_mid (n st : Nat) (t : zq_T) (k : Nat) : Prop := zi_shape n t ∧ (∃ c, t.1 4 = nI c ∧ 1 ≤ c ∧ c ≤ 8) ∧ (t.1 5 = nI st ∧ 2 ≤ st ∧ st ≤ 5) ∧ (∀ j, j < n → zi_hc (t.2 j)) ∧ (∀ j, j < n → ¬ zi_an t j k → zi_lc n t j) ∧ (∀ j, j < n → j ≠ k → zi_cat (t.2 j)) ∧ (∀ j, n ≤ j → j < 15 → zw_ok t j)
/-- before a settling: the buffer of k may be full -/
def zi_pre (n st : Nat) (t : zq_T) (k : Nat) : Prop := zi_shape n t ∧ (∃ c, t.1 4 = nI c ∧ 1 ≤ c ∧ c ≤ 8) ∧ (t.1 5 = nI st ∧ 2 ≤ st ∧ st ≤ 5) ∧ ((∀ j, j < n → j ≠ k → zi_hc (t.2 j)) ∧ zi_hx 8 (t.2 k)) ∧ (∀ j, j < n → ¬ zi_an t j k → zi_lc n t j) ∧ (∀ j, j < n → j ≠ k → zi_cat (t.2 j)) ∧ (∀ j, n ≤ j → j < 15 → zw_ok t j)
theorem zi_inv.mid (h : zi_inv n t) (k : Nat) : ∃ st, zi_mid n st t k := by
  obtain ⟨st, hst⟩ := h.2.2.1
  exact ⟨st, h.1, h.2.1, hst, h.2.2.2.1, fun j hj _ => h.2.2.2.2.1 j hj, fun j hj _ => h.cat hj, h.2.2.2.2.2⟩
theorem zi_mid.bu (h : zi_mid n st t k) : zi_bu n st t k := ⟨h.1, h.2.2.2.1, h.2.2.1.1, h.2.2.1.2, h.2.2.2.2.1, h.2.2.2.2.2.1⟩
theorem zl_br_le {ys : List Nat} {ks : List Nat} (hy : ys.Pairwise (· ≤ ·)) (hk : ks.Pairwise (· ≤ ·)) (hb : ∀ k ∈ ks, k ≤ 10000) : ∀ b ∈ zl_br ys 0 ks, b ≤ ys.length := by
  rw [zl_br_eq hy hk (fun k h => ⟨hb k h, Nat.zero_le _⟩) (Nat.zero_le _)]
  intro b hb
  rcases List.mem_append.mp hb with q | q
  · obtain ⟨x, _, rfl⟩ := List.mem_map.mp q
    exact zn_cnt_le _ _
  · rw [List.mem_singleton.mp q]
    exact zn_cnt_le _ _
theorem zi_in.brs {b l r : List Nat} (h : zi_in st b l r) {j : Nat} : ∀ x ∈ zl_br (zm_sel j b l r) 0 ((zl_list st b l r).map Prod.fst), x ≤ (zm_sel j b l r).length := by
  have hsel : (zm_sel j b l r).Pairwise (· ≤ ·) := by
    unfold zm_sel
    split
    · exact h.1
    · split
      · exact h.2.1
      · exact h.2.2.1
  exact zl_br_le hsel (zp_keys_sorted h.list.2.1) (fun x hx => by
    obtain ⟨q, hq, rfl⟩ := List.mem_map.mp hx
    exact Nat.le_of_lt (h.mem hq).1)
theorem zi_lc.ok (h : zi_lc n t k) (hc : zi_head (t.2 k)) : zw_ok t k := by
  obtain ⟨st, a, b, c, d⟩ := h
  refine ⟨hc.1.1, ?_⟩
  have e : (t.2 k).2 5 = _ := c (5 + 0) (by omega) (by omega)
  rw [zc_built_br _ _ _ _ (by omega)] at e
  rw [e]
  exact b.brs
theorem zi_inv.ok (h : zi_inv n t) : ∀ k, k < 15 → zw_ok t k := fun k hk => by
  by_cases q : k < n
  · exact (h.2.2.2.2.1 k q).ok (h.2.2.2.1 k q).1
  · exact h.2.2.2.2.2 k (by omega) hk
/-- a tree after a build up from k -/
theorem zi_mid.done (h : zi_mid n st t k) (hk : k < n) (a : Int32) : zi_inv n (zt_up st (zt_d t k + 1) k a t).2 ∧ zt_upok st (zt_d t k + 1) k t := by
  obtain ⟨r1, r2, r3, r4⟩ := zi_up_all (zt_d t k) k a t h.bu hk rfl
  have hci : ∀ j i, ((zt_up st (zt_d t k + 1) k a t).2.2 j).1 i = (t.2 j).1 i := zt_up_cint st _ _ _ _
  have hin : ∀ j, (j ≠ 8 ∧ j ≠ 9) → (zt_up st (zt_d t k + 1) k a t).2.1 j = t.1 j := zt_up_int5 st _ _ _ _
  refine ⟨⟨h.1.congr (hin 3 (by omega)) (fun j i _ _ => hci j i), ?_, ⟨st, (hin 5 (by omega)).trans h.2.2.1.1, h.2.2.1.2⟩, fun j hj => ?_, r2, fun j hj hj2 => ?_⟩, r1⟩
  · rw [hin 4 (by omega)]; exact h.2.1
  · have hc := h.2.2.2.1 j hj
    have e0 := r3 j 0 (by omega)
    have e1 := r3 j 1 (by omega)
    have e2 := r3 j 2 (by omega)
    unfold zi_hc zi_hx zi_head zi_ord at hc ⊢
    rw [e0, e1, e2, hci]
    exact hc
  · unfold zw_ok
    rw [r4 j hj]
    exact h.2.2.2.2.2.2 j hj hj2
theorem zi_pre.settle (h : zi_pre n st t k) (hk : k < n) : zi_mid n st (zt_settled t k) k := by
  have hci := zi_an_cint3 (t := t) (u := zt_settled t k) (fun j => ⟨zt_settled_cint j 0 (by omega), zt_settled_cint j 3 (by omega)⟩)
  refine ⟨h.1.congr rfl (fun j i _ hi => zt_settled_cint j i (by omega)), h.2.1, h.2.2.1, fun j hj => ?_, fun j hj ha => ?_, fun j hj hne => ?_, fun j hj hj2 => ?_⟩
  · by_cases q : j = k
    · subst q; rw [zt_settled_k]; exact zi_hc_settled h.2.2.2.1.2
    · rw [zt_settled_n q]; exact h.2.2.2.1.1 j hj q
  · rw [hci.2.2.1] at ha
    have hjk : j ≠ k := fun q => ha (q ▸ zi_an_self t j)
    refine (h.2.2.2.2.1 j hj ha).congr (by rw [zt_settled_n hjk]) (fun i _ _ => by rw [zt_settled_n hjk]) ?_ ?_ (by rw [hci.2.2.2]; exact Nat.le_refl _)
    · rw [zt_settled_ent, zt_settled_cint j 1 (by omega)]
    · rw [zt_settled_ent, zt_settled_cint j 2 (by omega)]
  · rw [zt_settled_n hne]; exact h.2.2.2.2.2.1 j hj hne
  · unfold zw_ok
    rw [zt_settled_n (by omega)]
    exact h.2.2.2.2.2.2 j hj hj2
theorem zt_settled_d : zt_d (zt_settled t k) k = zt_d t k := by
  unfold zt_d
  rw [zt_settled_cint k 3 (by omega)]
theorem zi_pre.renew (h : zi_pre n st t k) (hk : k < n) : zi_inv n (zt_renew st k t).2 ∧ zt_renewok st k t := by
  have h2 := (h.settle hk).done hk 0
  rw [zt_settled_d] at h2
  have hc := h.2.2.2.1.2
  have := h.1.d15 hk
  exact ⟨h2.1, hc.1.1.1, hc.2.2.1, h.1.d3 hk, by omega, h2.2⟩
end ZsR
