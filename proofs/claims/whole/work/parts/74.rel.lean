/-! Both states: the relation, pushing, undoing. -/
def zh_ix (p cnt i : Nat) : Nat := (p + 4 - cnt + i) % 4
def zz_past (f2 : Nat → Int32) (u : Nat → zq_T) (p cnt : Nat) : Prop := ∀ i, i < cnt → ∃ n', zs_rel (fun a => f2 (8183 * i + a)) n' (u (zh_ix p cnt i)) ∧ zi_inv n' (u (zh_ix p cnt i))
def zz_rel (M : zq_M) (n : Nat) (t : zq_T) (u : Nat → zq_T) (p cnt : Nat) : Prop := zs_rel (M.1 1) n t ∧ zi_inv n t ∧ (M.2.1 3 = nI cnt ∧ cnt ≤ 4 ∧ p < 4) ∧ zz_past (M.1 2) u p cnt ∧ ∀ i, i < 4 → ∀ k, k < 15 → zw_ok (u i) k
theorem zz_rel.congr {M M' : zq_M} {n : Nat} {t : zq_T} {u : Nat → zq_T} {p cnt : Nat} (h : zz_rel M n t u p cnt) (h1 : M'.1 1 = M.1 1) (h2 : M'.1 2 = M.1 2) (h3 : M'.2.1 3 = M.2.1 3) : zz_rel M' n t u p cnt := by
  unfold zz_rel
  rw [h1, h2, h3]
  exact h
theorem zz_rel.scr {M M' : zq_M} {n : Nat} {t : zq_T} {u : Nat → zq_T} {p cnt : Nat} (h : zz_rel M n t u p cnt) (s : zm_scr M M') : zz_rel M' n t u p cnt := h.congr (s.1 1 (by omega)) (s.1 2 (by omega)) (s.2.1 3 (by omega) (by omega))
theorem zz_rel.i4 {M : zq_M} {n : Nat} {t : zq_T} {u : Nat → zq_T} {p cnt : Nat} (h : zz_rel M n t u p cnt) (x : Int32) : zz_rel (zm_I M 4 x) n t u p cnt := h.congr rfl rfl (zm_In (by omega))
theorem zs_rel.congr8 {f f' : Nat → Int32} {n : Nat} {t : zq_T} (h : zs_rel f n t) (hi : zi_inv n t) (he : ∀ a, a < 8183 → f' a = f a) : zs_rel f' n t := by
  obtain ⟨⟨r0, r1, r2, r3, r4, r5, r6, r7⟩, rn⟩ := h
  refine ⟨⟨(he 0 (by omega)).trans r0, (he 1 (by omega)).trans r1, (he 2 (by omega)).trans r2, (he 3 (by omega)).trans r3, (he 4 (by omega)).trans r4, (he 5 (by omega)).trans r5, (he 6 (by omega)).trans r6, (he 7 (by omega)).trans r7⟩, fun j hj => (rn j hj).keep (hi.cat hj) (fun a h1 h2 => he a ?_)⟩
  have hatj : zm_at j = 8 + 545 * j := rfl
  have := hi.1.1.2
  rw [hatj] at h2
  omega
theorem zs_copy_lt {n k : Nat} {s t : zq_T} (h : k < n) : (zs_copy n s t).2 k = s.2 k := if_pos h
theorem zs_copy_ge {n k : Nat} {s t : zq_T} (h : n ≤ k) : (zs_copy n s t).2 k = t.2 k := if_neg (by omega)
theorem zs_rel.copy {f : Nat → Int32} {n : Nat} {s t : zq_T} (h : zs_rel f n s) : zs_rel f n (zs_copy n s t) := ⟨h.1, fun j hj => by rw [zs_copy_lt hj]; exact h.2 j hj⟩
theorem zw_ok.copy {n k : Nat} {s t : zq_T} (hs : zw_ok s k) (ht : zw_ok t k) : zw_ok (zs_copy n s t) k := by
  unfold zw_ok at *
  by_cases q : k < n
  · rw [zs_copy_lt q]; exact hs
  · rw [zs_copy_ge (by omega)]; exact ht
theorem zi_inv.copy {n : Nat} {s t : zq_T} (h : zi_inv n s) (ht : ∀ k, k < 15 → zw_ok t k) : zi_inv n (zs_copy n s t) := by
  have h15 := h.1.1.2
  have hent : ∀ k c, k < n → (c = 1 ∨ c = 2) → zt_ent (zs_copy n s t) ((s.2 k).1 c) = zt_ent s ((s.2 k).1 c) := by
    intro k c hk hc
    rcases h.1.kid hk hc with q | ⟨e, q1, q2, q3, q4, q5, q6⟩
    · unfold zt_ent; rw [if_pos q, if_pos q]
    · unfold zt_ent
      rw [q1, if_neg (zn_m1 (by omega)), if_neg (zn_m1 (by omega)), zt_ix_nI (by omega), zs_copy_lt q2]
  refine ⟨h.1.congr rfl (fun k i hk _ => by rw [zs_copy_lt hk]), h.2.1, h.2.2.1, fun k hk => by rw [zs_copy_lt hk]; exact h.2.2.2.1 k hk, fun k hk => ?_, fun k hk hk2 => ?_⟩
  · refine (h.2.2.2.2.1 k hk).congr (by rw [zs_copy_lt hk]) (fun j _ _ => by rw [zs_copy_lt hk]) ?_ ?_ ?_
    · rw [zs_copy_lt hk]; exact hent k 1 hk (Or.inl rfl)
    · rw [zs_copy_lt hk]; exact hent k 2 hk (Or.inr rfl)
    · rw [zi_w_congr (u := zs_copy n s t) h.1 (fun j hj => by rw [zs_copy_lt hj]; exact ⟨rfl, rfl⟩) hk n (Nat.le_refl _)]
      exact Nat.le_refl _
  · unfold zw_ok
    rw [zs_copy_ge hk]
    exact ht k hk2
section ZzA
variable {g : bq_G} {E : bq_E} {m n n' p cnt : Nat} {M M2 : zq_M} {t t' : zq_T} {u : Nat → zq_T}
theorem zz_push (h : zz_rel M n t u p cnt) (H2 : zq_mod g E m M2) (h3 : ∀ a, a < 8183 → M2.1 3 a = M.1 1 a) (h2 : M2.1 2 = M.1 2) (hc : M2.2.1 3 = M.2.1 3) (hr : zs_rel (M2.1 1) n' t') (hi : zi_inv n' t') (x : Int32) : ∃ E' M', tw_X7_ends E m x = some (x, E') ∧ zq_mod g E' m M' ∧ zz_rel M' n' t' (va_up u p (zs_copy n t (u p))) (zh_next p) (zh_more cnt) ∧ M'.2.1 4 = 0 ∧ zq_same E E' m (m + 8) := by
  obtain ⟨r1, r2, ⟨r3, r4, r5⟩, r6, r7⟩ := h
  obtain ⟨E1, q, a1, H1, b1, c1, s1⟩ := zm_ends H2 r4 (hc.trans r3) x
  have hm : zh_more cnt = if cnt = 4 then 4 else cnt + 1 := by
    unfold zh_more
    by_cases z : cnt = 4
    · rw [if_pos (by omega), if_pos z]
    · rw [if_neg (by omega), if_neg z]
  have hnx : zh_next p = (p + 1) % 4 := by
    unfold zh_next
    by_cases z : 3 ≤ p
    · rw [if_pos z]; have : p = 3 := by omega
      subst this; rfl
    · rw [if_neg z]; omega
  refine ⟨E1, _, a1, H1, ⟨hr, hi, ⟨?_, ?_, ?_⟩, fun i hi2 => ?_, fun i hi2 k hk => ?_⟩, zm_Is, s1⟩
  · rw [zm_In (by omega), zm_Is]
  · rw [hm]; split <;> omega
  · rw [hnx]; omega
  · have hq : (zm_I (zm_I (zm_W M2 2 q) 3 (nI (zh_more cnt))) 4 0).1 2 = q := zm_Ws (M := M2) (j := 2) (h := q)
    rw [hq]
    by_cases z : i = zh_more cnt - 1
    · have e : zh_ix (zh_next p) (zh_more cnt) i = p := by
        unfold zh_ix
        rw [hnx, z]
        rw [hm]
        split <;> omega
      rw [e, va_up_self]
      refine ⟨n, ?_, r2.copy (r7 p r5)⟩
      refine (r1.congr8 r2 (fun a ha => ?_)).copy
      rw [z, b1 a ha, h3 a ha]
    · have hi3 : i < zh_more cnt - 1 := by omega
      obtain ⟨j, hj⟩ : ∃ j, j = if cnt = 4 then i + 1 else i := ⟨_, rfl⟩
      have hjc : j < cnt := by
        rw [hj]
        rw [hm] at hi3
        split at hi3 <;> (rename_i w; first | rw [if_pos w] | rw [if_neg w]) <;> omega
      have e : zh_ix (zh_next p) (zh_more cnt) i = zh_ix p cnt j := by
        unfold zh_ix
        rw [hnx, hm, hj]
        by_cases w : cnt = 4
        · rw [if_pos w, if_pos w]; omega
        · rw [if_neg w, if_neg w]; omega
      have hne : zh_ix p cnt j ≠ p := by
        unfold zh_ix
        rw [hm] at hi3
        by_cases w : cnt = 4
        · rw [if_pos w] at hi3 hj; omega
        · rw [if_neg w] at hi3 hj; omega
      obtain ⟨n2, v1, v2⟩ := r6 j hjc
      rw [e, va_up_ne _ _ hne]
      refine ⟨n2, v1.congr8 v2 (fun a ha => ?_), v2⟩
      show q (8183 * i + a) = M.1 2 (8183 * j + a)
      rw [c1 i a hi3 ha, h2, ← hj]
  · by_cases z : i = p
    · subst z
      rw [va_up_self]
      exact (r2.ok k hk).copy (r7 i hi2 k hk)
    · rw [va_up_ne _ _ z]; exact r7 i hi2 k hk
theorem zz_undo (h : zz_rel M n t u p cnt) (H : zq_mod g E m M) (hc : 0 < cnt) : ∃ n', zi_inv n' (u (zh_prev p)) ∧ ∃ E' M', tw_X7_undo E m = some (nI (cnt - 1), E') ∧ zq_mod g E' m M' ∧ zz_rel M' n' (zs_copy n' (u (zh_prev p)) t) u (zh_prev p) (cnt - 1) ∧ M'.2.1 4 = 0 ∧ zq_same E E' m (m + 8) := by
  obtain ⟨r1, r2, ⟨r3, r4, r5⟩, r6, r7⟩ := h
  obtain ⟨E1, q, a1, H1, b1, s1⟩ := zm_undo H ⟨hc, r4⟩ r3
  have hpv : zh_prev p = (p + 3) % 4 := by
    unfold zh_prev
    by_cases z : p = 0
    · rw [if_pos z]; omega
    · rw [if_neg z]; omega
  have e : zh_ix p cnt (cnt - 1) = zh_prev p := by
    unfold zh_ix
    rw [hpv]
    omega
  obtain ⟨n', v1, v2⟩ := r6 (cnt - 1) (by omega)
  rw [e] at v1 v2
  refine ⟨n', v2, E1, _, a1, H1, ⟨?_, v2.copy (fun k hk => r2.ok k hk), ⟨?_, by omega, by rw [hpv]; omega⟩, fun i hi => ?_, r7⟩, zm_Is, s1⟩
  · have hq : (zm_I (zm_W (zm_I M 3 (nI (cnt - 1))) 1 q) 4 0).1 1 = q := zm_Ws (M := zm_I M 3 (nI (cnt - 1))) (j := 1) (h := q)
    rw [hq]
    exact (v1.congr8 v2 (fun a ha => b1 a ha)).copy
  · rw [zm_In (by omega)]
    exact zm_Is (M := M) (k := 3)
  · have hq : (zm_I (zm_W (zm_I M 3 (nI (cnt - 1))) 1 q) 4 0).1 2 = M.1 2 := zm_Wn (M := zm_I M 3 (nI (cnt - 1))) (j := 1) (k := 2) (h := q) (by omega)
    rw [hq]
    have e2 : zh_ix (zh_prev p) (cnt - 1) i = zh_ix p cnt i := by
      unfold zh_ix
      rw [hpv]
      omega
    rw [e2]
    exact r6 i (by omega)
end ZzA
