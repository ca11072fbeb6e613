/-! A key goes; both sides. -/
def zn_cut (bs : List Nat) (pos : Nat) : List Nat := bs.take pos ++ bs.drop (pos + 1)
theorem zn_cut_sub (bs : List Nat) (pos : Nat) : (zn_cut bs pos).Sublist bs := by
  have h := (List.Sublist.refl (bs.take pos)).append (List.drop_sublist 1 (bs.drop pos))
  rw [List.drop_drop, List.take_append_drop] at h
  exact h
theorem zn_cut_len {bs : List Nat} {pos : Nat} (h : pos < bs.length) : (zn_cut bs pos).length = bs.length - 1 := by
  unfold zn_cut
  rw [List.length_append, List.length_take, List.length_drop]
  omega
theorem zn_cut_get {bs : List Nat} {pos i : Nat} (h : pos < bs.length) : (zn_cut bs pos).getD i 0 = if i < pos then bs.getD i 0 else bs.getD (i + 1) 0 := by
  unfold zn_cut
  simp only [List.getD]
  by_cases q : i < pos
  · rw [if_pos q, List.getElem?_append_left (by rw [List.length_take]; omega), List.getElem?_take_of_lt q]
  · rw [if_neg q, List.getElem?_append_right (by rw [List.length_take]; omega), List.length_take, List.getElem?_drop]
    rw [show pos + 1 + (i - min pos bs.length) = i + 1 by omega]
section ZkD
variable {g : bq_G} {E : bq_E} {m n st k key : Nat} {M : zq_M} {t : zq_T}
theorem zt_drop_inv (hi : zi_inv n t) (hk : k < n) (h5 : t.1 5 = nI st) (hst : 2 ≤ st ∧ st ≤ 5) : zi_inv n (zt_drop st k key t).2 ∧ (zt_drop st k key t).1 = zc_has (t.2 k) key ∧ (zc_has (t.2 k) key = false → (zt_drop st k key t).2 = t) ∧ (zc_has (t.2 k) key = true → zi_pre n st (zt_C t k (zc_drop1 (t.2 k) key)) k ∧ zi_cat (zc_drop1 (t.2 k) key)) := by
  have hc := hi.2.2.2.1 k hk
  unfold zt_drop
  cases hh : zc_has (t.2 k) key with
  | false =>
    rw [if_neg (by decide)]
    exact ⟨hi, rfl, fun _ => rfl, fun q => (by cases q)⟩
  | true =>
    rw [if_pos rfl]
    have hkt := zn_keep_tot _ _ hc.1.1.1 hc.1.2.2.2.1
    have hcn := hc.2.2.1
    by_cases hin : key ∈ (t.2 k).2 2
    · rw [if_pos hin]
      have e : zc_drop1 (t.2 k) key = zc_buf (t.2 k) (zn_cut ((t.2 k).2 2) (zn_pos key ((t.2 k).2 2))) := by
        unfold zc_drop1
        rw [if_pos hin]
        rfl
      have hp := zn_pos_lt hin
      have hl := zn_cut_len hp
      have h7 := hc.2.2.2
      have hv : ∀ d, 7 ≤ d → d ≤ 8 → zi_hx d (zc_buf (t.2 k) (zn_cut ((t.2 k).2 2) (zn_pos key ((t.2 k).2 2)))) := fun d hd1 hd8 => zi_hx_buf hc (List.Nodup.sublist (zn_cut_sub _ _) hc.2.1.2.1) (fun y hy => ⟨hc.1.2.2.2.2 y ((zn_cut_sub _ _).subset hy), hc.2.1.2.2.1 y ((zn_cut_sub _ _).subset hy)⟩) (by omega) hd8 (by omega)
      obtain ⟨p1, p2, p3⟩ := hi.head hk h5 hst (hv 8 (by omega) (by omega)) (zc_buf_rj _ (by omega)) (fun j h3 h8 => zc_buf_rj _ (by omega)) (fun i hne => rfl)
      rw [e]
      exact ⟨p3 (hv 7 (by omega) (by omega)), rfl, fun q => (by cases q), fun _ => ⟨p1, p2⟩⟩
    · rw [if_neg hin]
      have e : zc_drop1 (t.2 k) key = zc_mark (t.2 k) (zn_pos key ((t.2 k).2 0)) 1 ((t.2 k).1 4 + 1) := by
        unfold zc_drop1
        rw [if_neg hin]
        rfl
      obtain ⟨u1, u2⟩ := zc_has_true hh hin
      have hp : zn_pos key ((t.2 k).2 0) < ((t.2 k).2 1).length := by rw [hc.1.1.1]; exact zn_pos_lt u1
      have hset := zn_tot_set ((t.2 k).2 1) (zn_pos key ((t.2 k).2 0)) 1 hp
      rw [zn_gD hp] at u2
      have h0 : ((t.2 k).2 1)[zn_pos key ((t.2 k).2 0)] = 0 := (hc.1.2.2.2.1 _ (List.getElem_mem hp)).resolve_right u2
      have hv : zi_hc (zc_mark (t.2 k) (zn_pos key ((t.2 k).2 0)) 1 ((t.2 k).1 4 + 1)) := zi_hx_mark hc hp (Or.inr rfl) (by
        rw [hc.2.1.2.2.2, nI_1]
        exact congrArg nI (by omega)) (by omega)
      have hv8 : zi_hx 8 (zc_mark (t.2 k) (zn_pos key ((t.2 k).2 0)) 1 ((t.2 k).1 4 + 1)) := ⟨hv.1, hv.2.1, hv.2.2.1, by have := hv.2.2.2; omega⟩
      obtain ⟨p1, p2, p3⟩ := hi.head hk h5 hst hv8 (zc_mark_r0 _) (fun j h3 h8 => zc_mark_rj _ (by omega)) (fun i hne => zc_mark_in _ hne)
      rw [e]
      by_cases hlt : 2 * ((t.2 k).1 4 + 1) ≤ nI ((t.2 k).2 0).length
      · rw [if_pos hlt]
        exact ⟨p3 hv, rfl, fun q => (by cases q), fun _ => ⟨p1, p2⟩⟩
      · rw [if_neg hlt]
        exact ⟨(p1.renew hk).1, rfl, fun q => (by cases q), fun _ => ⟨p1, p2⟩⟩
end ZkD
