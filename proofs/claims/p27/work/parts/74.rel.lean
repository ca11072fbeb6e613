/-! Both states: the relation, pushing, undoing. -/
def zh_ix (p cnt i : Nat) : Nat := (p + 4 - cnt + i) % 4
def zz_past (f2 : Nat → Int32) (u : Nat → zq_T) (p cnt : Nat) : Prop := ∀ i, i < cnt → ∃ n', zs_rel (fun a => f2 (8183 * i + a)) n' (u (zh_ix p cnt i)) ∧ zi_inv n' (u (zh_ix p cnt i))
def zz_rel (M : zq_M) (n : Nat) (t : zq_T) (u : Nat → zq_T) (p cnt : Nat) : Prop := zs_rel (M.1 1) n t ∧ zi_inv n t ∧ (M.2.1 3 = nI cnt ∧ cnt ≤ 4 ∧ p < 4) ∧ zz_past (M.1 2) u p cnt ∧ ∀ i, i < 4 → ∀ k, k < 15 → zw_ok (u i) k
theorem zz_rel.congr {M M' : zq_M} {n : Nat} {t : zq_T} {u : Nat → zq_T} {p cnt : Nat} (h : zz_rel M n t u p cnt) (h1 : M'.1 1 = M.1 1) (h2 : M'.1 2 = M.1 2) (h3 : M'.2.1 3 = M.2.1 3) : zz_rel M' n t u p cnt := by
  unfold zz_rel
  rw [h1, h2, h3]
  exact h
theorem zz_rel.i4 {M : zq_M} {n : Nat} {t : zq_T} {u : Nat → zq_T} {p cnt : Nat} (h : zz_rel M n t u p cnt) (x : Int32) : zz_rel (zm_I M 4 x) n t u p cnt := h.congr rfl rfl (zm_In (by omega))
section ZzA
variable {g : bq_G} {E : bq_E} {m n n' p cnt : Nat} {M M2 : zq_M} {t t' : zq_T} {u : Nat → zq_T}
end ZzA
