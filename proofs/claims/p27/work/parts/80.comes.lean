/-! A key comes or goes: marks and buffers, on both sides. -/
theorem zn_tot_set : ∀ (m : List Nat) (i : Nat) (b : Nat) (hi : i < m.length), zn_tot (m.set i b) + m[i] = zn_tot m + b
  | [], i, b, hi => absurd hi (by simp)
  | x :: t, 0, b, _ => by
    show (b + zn_tot t) + x = (x + zn_tot t) + b
    omega
  | x :: t, i + 1, b, hi => by
    have hi2 : i < t.length := by simpa using hi
    have := zn_tot_set t i b hi2
    show (x + zn_tot (t.set i b)) + t[i] = (x + zn_tot t) + b
    omega
def zc_mark (v : zq_N) (pos b : Nat) (x : Int32) : zq_N := zq_I (zq_R v 1 ((v.2 1).set pos b)) 4 x
def zc_buf (v : zq_N) (bs : List Nat) : zq_N := zq_R v 2 bs
section ZkA
variable {v : zq_N} {b pos : Nat}
theorem zc_mark_r0 (x : Int32) : (zc_mark v pos b x).2 0 = v.2 0 := by
  show va_up v.2 1 ((v.2 1).set pos b) 0 = v.2 0
  exact va_up_ne _ _ (by omega)
theorem zc_mark_r1 (x : Int32) : (zc_mark v pos b x).2 1 = (v.2 1).set pos b := by
  show va_up v.2 1 ((v.2 1).set pos b) 1 = _
  exact va_up_self _ _ _
theorem zc_mark_rj (x : Int32) {j : Nat} (h : j ≠ 1) : (zc_mark v pos b x).2 j = v.2 j := by
  show va_up v.2 1 ((v.2 1).set pos b) j = v.2 j
  exact va_up_ne _ _ h
theorem zc_mark_i4 (x : Int32) : (zc_mark v pos b x).1 4 = x := va_up_self v.1 4 x
theorem zc_mark_in (x : Int32) {i : Nat} (h : i ≠ 4) : (zc_mark v pos b x).1 i = v.1 i := va_up_ne v.1 x h
theorem zc_buf_r2 (bs : List Nat) : (zc_buf v bs).2 2 = bs := zq_Rs
theorem zc_buf_rj (bs : List Nat) {j : Nat} (h : j ≠ 2) : (zc_buf v bs).2 j = v.2 j := zq_Rn h
/-- a mark set or taken away -/
theorem zi_hx_mark {c : Nat} (h : zi_hx c v) (hp : pos < (v.2 1).length) (hb : b = 0 ∨ b = 1) {x : Int32} (hx : x = nI (zn_tot ((v.2 1).set pos b))) (hk : (v.2 0).length + (v.2 2).length ≤ 24 + zn_tot ((v.2 1).set pos b)) : zi_hx c (zc_mark v pos b x) := by
  obtain ⟨⟨⟨h1, h2⟩, h3, h4, h5, h6⟩, ⟨o1, o2, o3, o4⟩, h7, h8⟩ := h
  have hm : ∀ y ∈ (v.2 1).set pos b, y = 0 ∨ y = 1 := fun y hy => by
    rcases List.mem_or_eq_of_mem_set hy with q | q
    · exact h5 y q
    · rw [q]; exact hb
  have hkt := zn_keep_tot (v.2 0) ((v.2 1).set pos b) (by rw [List.length_set]; exact h1) hm
  refine ⟨⟨⟨?_, ?_⟩, ?_, ?_, ?_, ?_⟩, ⟨?_, ?_, ?_, ?_⟩, ?_, ?_⟩
  · rw [zc_mark_r0, zc_mark_r1, List.length_set]; exact h1
  · rw [zc_mark_r0]; exact h2
  · rw [zc_mark_rj _ (by omega)]; exact h3
  · rw [zc_mark_r0]; exact h4
  · rw [zc_mark_r1]; exact hm
  · rw [zc_mark_rj _ (by omega)]; exact h6
  · rw [zc_mark_r0]; exact o1
  · rw [zc_mark_rj _ (by omega)]; exact o2
  · rw [zc_mark_r0, zc_mark_rj _ (by omega)]; exact o3
  · rw [zc_mark_i4, zc_mark_r1]; exact hx
  · rw [zc_mark_r0, zc_mark_r1, zc_mark_rj _ (by omega)]; omega
  · rw [zc_mark_rj _ (by omega)]; exact h8
/-- another buffer -/
theorem zi_hx_buf {c d : Nat} (h : zi_hx c v) {bs : List Nat} (hn : bs.Nodup) (hd : ∀ y ∈ bs, y < 10000 ∧ y ∉ v.2 0) (hl : bs.length ≤ d) (hd8 : d ≤ 8) (hk : (zn_keep (v.2 0) (v.2 1)).length + bs.length ≤ 24) : zi_hx d (zc_buf v bs) := by
  obtain ⟨⟨⟨h1, h2⟩, h3, h4, h5, h6⟩, ⟨o1, o2, o3, o4⟩, h7, h8⟩ := h
  refine ⟨⟨⟨?_, ?_⟩, ?_, ?_, ?_, ?_⟩, ⟨?_, ?_, ?_, ?_⟩, ?_, ?_⟩
  · rw [zc_buf_rj _ (by omega), zc_buf_rj _ (by omega)]; exact h1
  · rw [zc_buf_rj _ (by omega)]; exact h2
  · rw [zc_buf_r2]; omega
  · rw [zc_buf_rj _ (by omega)]; exact h4
  · rw [zc_buf_rj _ (by omega)]; exact h5
  · rw [zc_buf_r2]; exact fun y hy => (hd y hy).1
  · rw [zc_buf_rj _ (by omega)]; exact o1
  · rw [zc_buf_r2]; exact hn
  · rw [zc_buf_r2, zc_buf_rj _ (by omega)]; exact fun y hy => (hd y hy).2
  · rw [zc_buf_rj _ (by omega)]; exact o4
  · rw [zc_buf_r2, zc_buf_rj _ (by omega), zc_buf_rj _ (by omega)]; exact hk
  · rw [zc_buf_r2]; exact hl
end ZkA
section ZkB
variable {n st k c : Nat} {t : zq_T} {v : zq_N}
theorem zt_C_ent (hr : v.2 3 = (t.2 k).2 3) (x : Int32) : zt_ent (zt_C t k v) x = zt_ent t x := by
  unfold zt_ent
  by_cases q : x = -1
  · rw [if_pos q, if_pos q]
  · rw [if_neg q, if_neg q]
    by_cases w : zt_ix x = k
    · rw [w, zt_Cs, hr]
    · rw [zt_Cn w]
/-- another head at k -/
theorem zi_inv.head (h : zi_inv n t) (hk : k < n) (h5 : t.1 5 = nI st) (hst : 2 ≤ st ∧ st ≤ 5) (hv : zi_hx 8 v) (h0 : v.2 0 = (t.2 k).2 0) (hr : ∀ j, 3 ≤ j → j < 8 → v.2 j = (t.2 k).2 j) (hin : ∀ i, i ≠ 4 → v.1 i = (t.2 k).1 i) : zi_pre n st (zt_C t k v) k ∧ zi_cat v ∧ (zi_hc v → zi_inv n (zt_C t k v)) := by
  have hci : ∀ j, ((zt_C t k v).2 j).1 0 = (t.2 j).1 0 ∧ ((zt_C t k v).2 j).1 3 = (t.2 j).1 3 := fun j => by
    by_cases q : j = k
    · subst q; rw [zt_Cs, hin 0 (by omega), hin 3 (by omega)]; exact ⟨rfl, rfl⟩
    · rw [zt_Cn q]; exact ⟨rfl, rfl⟩
  have hw := (zi_an_cint3 hci).2.2.2
  have hint : ∀ j i, i ≠ 4 → ((zt_C t k v).2 j).1 i = (t.2 j).1 i := fun j i hi => by
    by_cases q : j = k
    · subst q; rw [zt_Cs, hin i hi]
    · rw [zt_Cn q]
  have hent := zt_C_ent (t := t) (k := k) (v := v) (hr 3 (by omega) (by omega))
  have hsh : zi_shape n (zt_C t k v) := h.1.congr rfl (fun j i _ hi => hint j i (by omega))
  have hlc : ∀ j, j < n → zi_lc n (zt_C t k v) j := fun j hj => by
    refine (h.2.2.2.2.1 j hj).congr ?_ (fun i h3 h8 => ?_) ?_ ?_ (by rw [hw]; exact Nat.le_refl _)
    · by_cases q : j = k
      · subst q; rw [zt_Cs, h0]
      · rw [zt_Cn q]
    · by_cases q : j = k
      · subst q; rw [zt_Cs, hr i h3 h8]
      · rw [zt_Cn q]
    · rw [hent, hint j 1 (by omega)]
    · rw [hent, hint j 2 (by omega)]
  have hok : ∀ j, n ≤ j → j < 15 → zw_ok (zt_C t k v) j := fun j hj hj2 => by
    unfold zw_ok
    rw [zt_Cn (by omega)]
    exact h.2.2.2.2.2 j hj hj2
  have hcat : zi_cat v := by
    obtain ⟨p1, p2, p3, p4, p5, p6, p7, p8, p9⟩ := h.cat hk
    refine ⟨hv.1.1, hv.1.2.1, ?_, fun j hj => ?_, hv.1.2.2.1, hv.1.2.2.2.1, hv.1.2.2.2.2, ?_, ?_⟩
    · rw [hr 3 (by omega) (by omega), hr 4 (by omega) (by omega)]; exact p3
    · rw [hr 3 (by omega) (by omega), hr (5 + j) (by omega) (by omega)]; exact p4 j hj
    · rw [hr 3 (by omega) (by omega)]; exact p8
    · rw [hr 4 (by omega) (by omega)]; exact p9
  refine ⟨⟨hsh, h.2.1, ⟨h5, hst⟩, ⟨fun j hj hne => by rw [zt_Cn hne]; exact h.2.2.2.1 j hj, by rw [zt_Cs]; exact hv⟩, fun j hj _ => hlc j hj, fun j hj hne => by rw [zt_Cn hne]; exact h.cat hj, hok⟩, hcat, fun hv7 => ⟨hsh, h.2.1, h.2.2.1, fun j hj => ?_, hlc, hok⟩⟩
  by_cases q : j = k
  · subst q; rw [zt_Cs]; exact hv7
  · rw [zt_Cn q]; exact h.2.2.2.1 j hj
theorem zs_rel.head {f f' : Nat → Int32} (h : zs_rel f n t) (hi : zi_inv n t) (hk : k < n) (he : ∀ a, ¬ (zm_at k ≤ a ∧ a < zm_at k + 61) → f' a = f a) (hn : zm_head f' k v) (hr : ∀ j, 3 ≤ j → j < 8 → v.2 j = (t.2 k).2 j) : zs_rel f' n (zt_C t k v) := by
  obtain ⟨⟨r0, r1, r2, r3, r4, r5, r6, r7⟩, rn⟩ := h
  have hat : zm_at k = 8 + 545 * k := rfl
  refine ⟨⟨(he 0 (by omega)).trans r0, (he 1 (by omega)).trans r1, (he 2 (by omega)).trans r2, (he 3 (by omega)).trans r3, (he 4 (by omega)).trans r4, (he 5 (by omega)).trans r5, (he 6 (by omega)).trans r6, (he 7 (by omega)).trans r7⟩, fun j hj => ?_⟩
  by_cases q : j = k
  · subst q
    rw [zt_Cs]
    obtain ⟨a0, a1, a2, ⟨b1, b2, b3⟩, b4⟩ := rn j hj
    obtain ⟨_, _, ⟨i4, i5⟩, i6, _⟩ := hi.cat hj
    refine ⟨hn.1, hn.2.1, hn.2.2, ⟨?_, ?_, ?_⟩, fun i hi3 => ?_⟩
    · rw [hr 3 (by omega) (by omega), he _ (by omega)]; exact b1
    · rw [hr 3 (by omega) (by omega)]; exact b2.keep (fun a q1 q2 => he a (by omega))
    · rw [hr 4 (by omega) (by omega)]; exact b3.keep (fun a q1 q2 => he a (by omega))
    · rw [hr (5 + i) (by omega) (by omega)]; exact (b4 i hi3).keep (fun a q1 q2 => he a (by omega))
  · rw [zt_Cn q]
    refine (rn j hj).keep (hi.cat hj) (fun a h1 h2 => he a ?_)
    have hatj : zm_at j = 8 + 545 * j := rfl
    omega
end ZkB
section ZkC
variable {g : bq_G} {E : bq_E} {m n st k key : Nat} {M : zq_M} {t : zq_T}
theorem zc_has_false {v : zq_N} (h : zc_has v key = false) : key ∉ v.2 2 ∧ (key ∈ v.2 0 → (v.2 1).getD (zn_pos key (v.2 0)) 0 = 1) := by
  unfold zc_has at h
  simp only [Bool.or_eq_false_iff, Bool.and_eq_false_iff, decide_eq_false_iff_not, Bool.not_eq_false', decide_eq_true_eq] at h
  exact ⟨h.2, fun q => h.1.resolve_left (fun w => w q)⟩
theorem zc_has_true {v : zq_N} (h : zc_has v key = true) (hn : key ∉ v.2 2) : key ∈ v.2 0 ∧ (v.2 1).getD (zn_pos key (v.2 0)) 0 ≠ 1 := by
  unfold zc_has at h
  simp only [Bool.or_eq_true, Bool.and_eq_true, decide_eq_true_eq, Bool.not_eq_true', decide_eq_false_iff_not] at h
  exact h.resolve_right hn
/-- what a coming key makes of the tree -/
theorem zt_take_inv (hi : zi_inv n t) (hk : k < n) (h5 : t.1 5 = nI st) (hst : 2 ≤ st ∧ st ≤ 5) (hkey : key < 10000) (hfull : zc_has (t.2 k) key = false → (zc_newbase (t.2 k)).length < 24) : zi_inv n (zt_takeIn st k key t).2 ∧ (zt_takeIn st k key t).1 = (!zc_has (t.2 k) key) ∧ (zc_has (t.2 k) key = true → (zt_takeIn st k key t).2 = t) ∧ (zc_has (t.2 k) key = false → zi_pre n st (zt_C t k (zc_take1 (t.2 k) key)) k ∧ zi_cat (zc_take1 (t.2 k) key)) ∧ (zt_takeIn st k key t).2.1 5 = nI st := by
  have hc := hi.2.2.2.1 k hk
  unfold zt_takeIn
  cases hh : zc_has (t.2 k) key with
  | true =>
    rw [if_pos rfl]
    exact ⟨hi, rfl, fun _ => rfl, fun q => (by cases q), h5⟩
  | false =>
    rw [if_neg (by decide)]
    have hf := hfull hh
    rw [zc_nb_len] at hf
    obtain ⟨u1, u2⟩ := zc_has_false hh
    have hkt := zn_keep_tot _ _ hc.1.1.1 hc.1.2.2.2.1
    by_cases hin : key ∈ (t.2 k).2 0
    · rw [if_pos hin]
      have e : zc_take1 (t.2 k) key = zc_mark (t.2 k) (zn_pos key ((t.2 k).2 0)) 0 ((t.2 k).1 4 - 1) := by
        unfold zc_take1
        rw [if_pos hin]
        rfl
      have hp : zn_pos key ((t.2 k).2 0) < ((t.2 k).2 1).length := by rw [hc.1.1.1]; exact zn_pos_lt hin
      have hset := zn_tot_set ((t.2 k).2 1) (zn_pos key ((t.2 k).2 0)) 0 hp
      have h1 := u2 hin
      rw [zn_gD hp] at h1
      have hv : zi_hc (zc_mark (t.2 k) (zn_pos key ((t.2 k).2 0)) 0 ((t.2 k).1 4 - 1)) := zi_hx_mark hc hp (Or.inl rfl) (by
        have e1 : (t.2 k).1 4 - 1 = nI (zn_tot ((t.2 k).2 1)) - nI 1 := by rw [hc.2.1.2.2.2]; rfl
        rw [e1, pk_sub (by omega)]
        exact congrArg nI (by omega)) (by omega)
      have hv8 : zi_hx 8 (zc_mark (t.2 k) (zn_pos key ((t.2 k).2 0)) 0 ((t.2 k).1 4 - 1)) := ⟨hv.1, hv.2.1, hv.2.2.1, by have := hv.2.2.2; omega⟩
      obtain ⟨p1, p2, p3⟩ := hi.head hk h5 hst hv8 (zc_mark_r0 _) (fun j h3 h8 => zc_mark_rj _ (by omega)) (fun i hne => zc_mark_in _ hne)
      rw [e]
      exact ⟨p3 hv, rfl, fun q => (by cases q), fun _ => ⟨p1, p2⟩, h5⟩
    · rw [if_neg hin]
      have e : zc_take1 (t.2 k) key = zc_buf (t.2 k) ((t.2 k).2 2 ++ [key]) := by
        unfold zc_take1
        rw [if_neg hin]
        rfl
      have h7 := hc.2.2.2
      have hnd : ((t.2 k).2 2 ++ [key]).Nodup := by
        rw [List.nodup_append]
        exact ⟨hc.2.1.2.1, List.pairwise_singleton _ _, fun a ha b hb q => by
          rw [List.mem_singleton.mp hb] at q
          exact u1 (q ▸ ha)⟩
      have hd : ∀ y ∈ (t.2 k).2 2 ++ [key], y < 10000 ∧ y ∉ (t.2 k).2 0 := fun y hy => by
        rcases List.mem_append.mp hy with q | q
        · exact ⟨hc.1.2.2.2.2 y q, hc.2.1.2.2.1 y q⟩
        · rw [List.mem_singleton.mp q]; exact ⟨hkey, hin⟩
      have hl : ((t.2 k).2 2 ++ [key]).length = ((t.2 k).2 2).length + 1 := by simp
      have hv : ∀ d, ((t.2 k).2 2).length + 1 ≤ d → d ≤ 8 → zi_hx d (zc_buf (t.2 k) ((t.2 k).2 2 ++ [key])) := fun d hd1 hd8 => zi_hx_buf hc hnd hd (by omega) hd8 (by omega)
      obtain ⟨p1, p2, p3⟩ := hi.head hk h5 hst (hv 8 (by omega) (by omega)) (zc_buf_rj _ (by omega)) (fun j h3 h8 => zc_buf_rj _ (by omega)) (fun i hne => rfl)
      rw [e]
      by_cases hlt : nI (((t.2 k).2 2).length + 1) < t.1 4
      · rw [if_pos hlt]
        obtain ⟨cc, c1, c2, c3⟩ := hi.2.1
        rw [c1] at hlt
        have := (nI_ltI (by omega) (by omega)).mp hlt
        exact ⟨p3 (hv 7 (by omega) (by omega)), rfl, fun q => (by cases q), fun _ => ⟨p1, p2⟩, h5⟩
      · rw [if_neg hlt]
        refine ⟨(p1.renew hk).1, rfl, fun q => (by cases q), fun _ => ⟨p1, p2⟩, ?_⟩
        exact (zt_up_int5 st _ _ _ _ 5 (by omega)).trans h5
end ZkC
