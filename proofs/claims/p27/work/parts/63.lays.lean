/-! The reckoner lays a path, halves, goes back. -/
theorem zw_path_app (t : zq_T) : ∀ (r k : Nat) (acc : List Nat), zw_path t r k acc = zw_path t r k [] ++ acc
  | 0, _, _ => rfl
  | r + 1, k, acc => by
    unfold zw_path
    rw [zw_path_app t r _ (k :: acc), zw_path_app t r _ [k], List.append_assoc]
    rfl
theorem zw_path_len (t : zq_T) : ∀ (r k : Nat) (acc : List Nat), (zw_path t r k acc).length = r + acc.length
  | 0, _, _ => by simp [zw_path]
  | r + 1, k, acc => by
    unfold zw_path
    rw [zw_path_len t r _ (k :: acc), List.length_cons]
    omega
theorem zw_path_get (t : zq_T) (r k : Nat) (acc : List Nat) : (zw_path t (r + 1) k acc).getD r 0 = k := by
  show (zw_path t r (zt_ix ((t.2 k).1 0)) (k :: acc)).getD r 0 = k
  rw [zw_path_app]
  have := zw_path_len t r (zt_ix ((t.2 k).1 0)) []
  simp only [List.getD]
  rw [List.getElem?_append_right (by rw [this]; simp), this]
  simp
/-- the way up from k ends after d steps -/
def zi_up (t : zq_T) (nn : Nat) : Nat → Nat → Prop
  | 0, k => (t.2 k).1 0 = -1
  | d + 1, k => zt_ix ((t.2 k).1 0) < nn ∧ (t.2 k).1 0 = nI (zt_ix ((t.2 k).1 0)) ∧ zi_up t nn d (zt_ix ((t.2 k).1 0))
section ZqX
variable {g : bq_G} {E : bq_E} {m nn : Nat} {M : zq_M} {t : zq_T}
end ZqX
