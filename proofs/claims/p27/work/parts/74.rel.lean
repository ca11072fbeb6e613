/-! Both states: the relation, pushing, undoing. -/
def zh_ix (p cnt i : Nat) : Nat := (p + 4 - cnt + i) % 4
def zz_past (f2 : Nat → Int32) (u : Nat → zq_T) (p cnt : Nat) : Prop := ∀ i, i < cnt → ∃ n', zs_rel (fun a => f2 (8183 * i + a)) n' (u (zh_ix p cnt i)) ∧ zi_inv n' (u (zh_ix p cnt i))
def zz_rel (M : zq_M) (n : Nat) (t : zq_T) (u : Nat → zq_T) (p cnt : Nat) : Prop := zs_rel (M.1 1) n t ∧ zi_inv n t ∧ (M.2.1 3 = nI cnt ∧ cnt ≤ 4 ∧ p < 4) ∧ zz_past (M.1 2) u p cnt ∧ ∀ i, i < 4 → ∀ k, k < 15 → zw_ok (u i) k
theorem zz_rel.congr {M M' : zq_M} {n : Nat} {t : zq_T} {u : Nat → zq_T} {p cnt : Nat} (h : zz_rel M n t u p cnt) (h1 : M'.1 1 = M.1 1) (h2 : M'.1 2 = M.1 2) (h3 : M'.2.1 3 = M.2.1 3) : zz_rel M' n t u p cnt := by
  unfold zz_rel
  rw [h1, h2, h3]
  exact h
theorem zz_rel.i4 {M : zq_M} {n : Nat} {t : zq_T} {u : Nat → zq_T} {p cnt : Nat} (h : zz_rel M n t u p cnt) (x : Int32) : zz_rel (zm_I M 4 x) n t u p cnt := h.congr rfl rfl (zm_In (by omega))
theorem zs_copy_lt {n k : Nat} {s t : zq_T} (h : k < n) : (zs_copy n s t).2 k = s.2 k := if_pos h
theorem zs_copy_ge {n k : Nat} {s t : zq_T} (h : n ≤ k) : (zs_copy n s t).2 k = t.2 k := if_neg (by omega)
theorem zs_rel.copy {f : Nat → Int32} {n : Nat} {s t : zq_T} (h : zs_rel f n s) : zs_rel f n (zs_copy n s t) := ⟨h.1, fun j hj => by rw [zs_copy_lt hj]; exact h.2 j hj⟩
theorem zw_ok.copy {n k : Nat} {s t : zq_T} (hs : zw_ok s k) (ht : zw_ok t k) : zw_ok (zs_copy n s t) k := by
  unfold zw_ok at *
  by_cases q : k < n
  · rw [zs_copy_lt q]; exact hs
  · rw [zs_copy_ge (by omega)]; exact ht
theorem zi_inv.copy {n : Nat} {s t : zq_T} (h : zi_inv n s) (ht : ∀ k, k < 15 → zw_ok t k) : zi_inv n (zs_copy n s t) := by
  have h15 := h.1.1.2
  have hent : ∀ k c, k < n → (c = 1 ∨ c = 2) → zt_ent (zs_copy n s t) ((s.2 k).1 c) = zt_ent s ((s.2 k).1 c) := by
    intro k c hk hc
    rcases h.1.kid hk hc with q | ⟨e, q1, q2, q3, q4, q5, q6⟩
    · unfold zt_ent; rw [if_pos q, if_pos q]
    · unfold zt_ent
      rw [q1, if_neg (zn_m1 (by omega)), if_neg (zn_m1 (by omega)), zt_ix_nI (by omega), zs_copy_lt q2]
  refine ⟨h.1.congr rfl (fun k i hk _ => by rw [zs_copy_lt hk]), h.2.1, h.2.2.1, fun k hk => by rw [zs_copy_lt hk]; exact h.2.2.2.1 k hk, fun k hk => ?_, fun k hk hk2 => ?_⟩
  · refine (h.2.2.2.2.1 k hk).congr (by rw [zs_copy_lt hk]) (fun j _ _ => by rw [zs_copy_lt hk]) ?_ ?_ ?_
    · rw [zs_copy_lt hk]; exact hent k 1 hk (Or.inl rfl)
    · rw [zs_copy_lt hk]; exact hent k 2 hk (Or.inr rfl)
    · rw [zi_w_congr (u := zs_copy n s t) h.1 (fun j hj => by rw [zs_copy_lt hj]; exact ⟨rfl, rfl⟩) hk n (Nat.le_refl _)]
      exact Nat.le_refl _
  · unfold zw_ok
    rw [zs_copy_ge hk]
    exact ht k hk2
section ZzA
variable {g : bq_G} {E : bq_E} {m n n' p cnt : Nat} {M M2 : zq_M} {t t' : zq_T} {u : Nat → zq_T}
end ZzA
