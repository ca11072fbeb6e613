/-! Bridges are counts; a built node on both sides. -/
theorem zn_fal_cnt {k : Nat} : ∀ {ys : List Nat}, ys.Pairwise (· ≤ ·) → zn_fal k ys = zn_cnt k ys
  | [], _ => rfl
  | y :: t, h => by
    have hc := List.pairwise_cons.mp h
    unfold zn_fal zn_cnt
    by_cases q : k ≤ y
    · rw [if_pos q, if_neg (by omega)]
      have : ∀ {t : List Nat}, (∀ z ∈ t, k ≤ z) → zn_cnt k t = 0 := by
        intro t
        induction t with
        | nil => intro _; rfl
        | cons z t ih =>
          intro hz
          unfold zn_cnt
          have := hz z List.mem_cons_self
          rw [if_neg (by omega), ih (fun w hw => hz w (List.mem_cons_of_mem _ hw))]
      rw [this (fun z hz => Nat.le_trans q (hc.1 z hz))]
    · rw [if_neg q, if_pos (by omega), zn_fal_cnt hc.2, Nat.add_comm]
theorem zn_fal_drop {k : Nat} : ∀ {ys : List Nat} {p : Nat}, ys.Pairwise (· ≤ ·) → p ≤ zn_fal k ys → p + zn_fal k (ys.drop p) = zn_fal k ys
  | ys, 0, _, _ => by rw [List.drop_zero, Nat.zero_add]
  | [], p + 1, _, h => absurd h (by simp [zn_fal])
  | y :: t, p + 1, hs, h => by
    have hc := List.pairwise_cons.mp hs
    rw [List.drop_succ_cons]
    have e : zn_fal k (y :: t) = if k ≤ y then 0 else zn_fal k t + 1 := rfl
    rw [e] at h ⊢
    by_cases q : k ≤ y
    · rw [if_pos q] at h; omega
    · rw [if_neg q] at h ⊢
      have := zn_fal_drop (k := k) (p := p) hc.2 (by omega)
      omega
theorem zn_fal_mono {k k' : Nat} (h : k ≤ k') : ∀ (ys : List Nat), zn_fal k ys ≤ zn_fal k' ys
  | [] => Nat.le_refl _
  | y :: t => by
    have := zn_fal_mono h t
    show (if k ≤ y then 0 else zn_fal k t + 1) ≤ (if k' ≤ y then 0 else zn_fal k' t + 1)
    by_cases q : k ≤ y
    · rw [if_pos q]; exact Nat.zero_le _
    · rw [if_neg q, if_neg (by omega)]; omega
theorem zl_br_eq {ys : List Nat} (hy : ys.Pairwise (· ≤ ·)) : ∀ {ks : List Nat} {p : Nat}, ks.Pairwise (· ≤ ·) → (∀ k ∈ ks, k ≤ 10000 ∧ p ≤ zn_fal k ys) → p ≤ zn_fal 10000 ys → zl_br ys p ks = ks.map (zn_cnt · ys) ++ [zn_cnt 10000 ys]
  | [], p, _, _, h2 => by
    show [p + zn_fal 10000 (ys.drop p)] = [zn_cnt 10000 ys]
    rw [zn_fal_drop hy h2, zn_fal_cnt hy]
  | k :: t, p, hk, h1, h2 => by
    have hc := List.pairwise_cons.mp hk
    have hkp := h1 k List.mem_cons_self
    show (p + zn_fal k (ys.drop p)) :: zl_br ys (p + zn_fal k (ys.drop p)) t = zn_cnt k ys :: (t.map (zn_cnt · ys) ++ [zn_cnt 10000 ys])
    rw [zn_fal_drop hy hkp.2, zl_br_eq hy hc.2 (fun k' hk' => ⟨(h1 k' (List.mem_cons_of_mem _ hk')).1, zn_fal_mono (hc.1 k' hk') ys⟩) (zn_fal_mono hkp.1 ys), zn_fal_cnt hy]
theorem zl_br_get {ys ks : List Nat} (hy : ys.Pairwise (· ≤ ·)) (hk : ks.Pairwise (· ≤ ·)) (hb : ∀ k ∈ ks, k ≤ 10000) {i : Nat} (hi : i < ks.length + 1) : (zl_br ys 0 ks).getD i 0 = zn_cnt (ks.getD i 10000) ys := by
  rw [zl_br_eq hy hk (fun k h => ⟨hb k h, Nat.zero_le _⟩) (Nat.zero_le _)]
  simp only [List.getD]
  by_cases q : i < ks.length
  · rw [List.getElem?_append_left (by simpa using q), List.getElem?_map, List.getElem?_eq_getElem q]
    rfl
  · have : i = ks.length := by omega
    subst this
    rw [List.getElem?_append_right (by simp), List.length_map, Nat.sub_self, List.getElem?_eq_none (Nat.le_refl _)]
    rfl
theorem zp_keys_sorted {es : List (Nat × Nat)} (h : es.Pairwise zp_le) : (es.map Prod.fst).Pairwise (· ≤ ·) := by
  rw [List.pairwise_map]
  exact h.imp (fun {a b} q => by unfold zp_le at q; omega)
/-- what a node's list is made of, in order -/
def zi_in (st : Nat) (b l r : List Nat) : Prop := b.Pairwise (· ≤ ·) ∧ l.Pairwise (· ≤ ·) ∧ r.Pairwise (· ≤ ·) ∧ zi_src st b l r
theorem zi_in.list {st : Nat} {b l r : List Nat} (h : zi_in st b l r) : (zl_list st b l r).Perm (zp_all st b l r) ∧ (zl_list st b l r).Pairwise zp_le ∧ zl_list st b l r = zp_inss [] (zp_all st b l r) :=
  zl_list_eq h.2.2.2.1.1 h.1 h.2.1 h.2.2.1 h.2.2.2.2.2.2.2.1 h.2.2.2.2.2.2.2.2.1 h.2.2.2.2.2.2.2.2.2
theorem zp_all_mem {st : Nat} {b l r : List Nat} {q : Nat × Nat} (h : q ∈ zp_all st b l r) : (q.2 = 0 ∧ q.1 ∈ b) ∨ (q.2 = 1 ∧ q.1 ∈ l) ∨ (q.2 = 2 ∧ q.1 ∈ r) := by
  unfold zp_all at h
  rcases List.mem_append.mp h with h | h
  · rcases List.mem_append.mp h with h | h
    · obtain ⟨x, hx, rfl⟩ := List.mem_map.mp h
      exact Or.inl ⟨rfl, hx⟩
    · obtain ⟨x, hx, rfl⟩ := List.mem_map.mp h
      exact Or.inr (Or.inl ⟨rfl, zp_sam_mem hx⟩)
  · obtain ⟨x, hx, rfl⟩ := List.mem_map.mp h
    exact Or.inr (Or.inr ⟨rfl, zp_sam_mem hx⟩)
theorem zi_in.mem {st : Nat} {b l r : List Nat} (h : zi_in st b l r) {q : Nat × Nat} (hq : q ∈ zl_list st b l r) : q.1 < 10000 ∧ q.2 < 3 := by
  obtain ⟨_, _, _, _, _, _, _, h5, h6, h7⟩ := id h
  rcases zp_all_mem (h.list.1.mem_iff.mp hq) with ⟨q1, q2⟩ | ⟨q1, q2⟩ | ⟨q1, q2⟩
  · exact ⟨h5 _ q2, by omega⟩
  · exact ⟨h6 _ q2, by omega⟩
  · exact ⟨h7 _ q2, by omega⟩
/-- the node without its list -/
def zm_head (f : Nat → Int32) (k : Nat) (v : zq_N) : Prop :=
  (f (zm_at k + 0) = v.1 0 ∧ f (zm_at k + 1) = v.1 1 ∧ f (zm_at k + 2) = v.1 2) ∧
  (f (zm_at k + 3) = nI (v.2 0).length ∧ zm_seg f (zm_at k + 4) (v.2 0) ∧ zm_seg f (zm_at k + 28) (v.2 1)) ∧
  (f (zm_at k + 52) = nI (v.2 2).length ∧ zm_seg f (zm_at k + 53) (v.2 2))
theorem zm_node.head {f : Nat → Int32} {k : Nat} {v : zq_N} (h : zm_node f k v) : zm_head f k v := ⟨h.1, h.2.1, h.2.2.1⟩
def zi_head (v : zq_N) : Prop := ((v.2 1).length = (v.2 0).length ∧ (v.2 0).length ≤ 24) ∧ (v.2 2).length ≤ 8 ∧ (∀ x ∈ v.2 0, x < 10000) ∧ (∀ x ∈ v.2 1, x = 0 ∨ x = 1) ∧ (∀ x ∈ v.2 2, x < 10000)
theorem zi_cat.head {v : zq_N} (h : zi_cat v) : zi_head v := ⟨h.1, h.2.1, h.2.2.2.2.1, h.2.2.2.2.2.1, h.2.2.2.2.2.2.1⟩
theorem zm_head.keep {f f' : Nat → Int32} {k : Nat} {v : zq_N} (h : zm_head f k v) (hv : zi_head v) (he : ∀ a, zm_at k ≤ a → a < zm_at k + 61 → f' a = f a) : zm_head f' k v := by
  obtain ⟨⟨a0, a1, a2⟩, ⟨a3, a4, a5⟩, ⟨a6, a7⟩⟩ := h
  obtain ⟨⟨i1, i2⟩, i3, _⟩ := hv
  exact ⟨⟨(he _ (by omega) (by omega)).trans a0, (he _ (by omega) (by omega)).trans a1, (he _ (by omega) (by omega)).trans a2⟩, ⟨(he _ (by omega) (by omega)).trans a3, a4.keep (fun a q1 q2 => he a (by omega) (by omega)), a5.keep (fun a q1 q2 => he a (by omega) (by omega))⟩, ⟨(he _ (by omega) (by omega)).trans a6, a7.keep (fun a q1 q2 => he a (by omega) (by omega))⟩⟩
/-- a list is as its node's inputs ask -/
theorem zi_cat_built {st : Nat} {v : zq_N} {l r : List Nat} (hv : zi_head v) (hi : zi_in st (v.2 0) l r) (hl : (zl_list st (v.2 0) l r).length ≤ 96) : zi_cat (zc_built v st l r) ∧ ((zc_built v st l r).2 3).Pairwise (· ≤ ·) := by
  obtain ⟨i1, i2, i3, i4, i5⟩ := hv
  refine ⟨⟨i1, i2, ⟨?_, ?_⟩, fun j hj => ?_, i3, i4, i5, fun x hx => ?_, fun x hx => ?_⟩, zp_keys_sorted hi.list.2.1⟩
  · show ((zl_list st (v.2 0) l r).map Prod.snd).length = ((zl_list st (v.2 0) l r).map Prod.fst).length
    rw [List.length_map, List.length_map]
  · show ((zl_list st (v.2 0) l r).map Prod.fst).length ≤ 96
    rw [List.length_map]
    exact hl
  · have row : ((zc_built v st l r).2 (5 + j)).length = ((zl_list st (v.2 0) l r).map Prod.fst).length + 1 := by
      have q : j = 0 ∨ j = 1 ∨ j = 2 := by omega
      rcases q with rfl | rfl | rfl <;> exact zl_br_len _ _ _
    exact row
  · obtain ⟨q, hq, rfl⟩ := List.mem_map.mp (show x ∈ (zl_list st (v.2 0) l r).map Prod.fst from hx)
    exact (hi.mem hq).1
  · obtain ⟨q, hq, rfl⟩ := List.mem_map.mp (show x ∈ (zl_list st (v.2 0) l r).map Prod.snd from hx)
    exact (hi.mem hq).2
