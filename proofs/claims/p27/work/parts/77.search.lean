/-! plainProbes, worst, search. -/
section ZoB
variable {g : bq_G} {E : bq_E} {z : Nat}
/-- the reckoner holds its state: what it may have become by its end -/
def zm_held (M M2 : zq_M) : Prop := (∀ a, a < 8183 → M2.1 3 a = M.1 1 a) ∧ M2.1 2 = M.1 2 ∧ M2.2.1 3 = M.2.1 3
theorem zm_held.keep {M M2 M3 : zq_M} (h : zm_held M M2) (h3 : M3.1 3 = M2.1 3) (h2 : M3.1 2 = M2.1 2) (hc : M3.2.1 3 = M2.2.1 3) : zm_held M M3 := ⟨fun a ha => by rw [h3]; exact h.1 a ha, h2.trans h.2.1, hc.trans h.2.2⟩
theorem zi_inv.ints {n : Nat} {t : zq_T} (h : zi_inv n t) {k : Nat} (hk : k = 6 ∨ k = 7) (x : Int32) : zi_inv n (zt_I t k x) := by
  have hw : ∀ n j, zi_w (zt_I t k x) n j = zi_w t n j := (zi_an_cint (t := t) (u := zt_I t k x) (fun _ _ => rfl)).2.2.2
  refine ⟨h.1.congr (va_up_ne _ _ (by omega)) (fun _ _ _ _ => rfl), ?_, ?_, h.2.2.2.1, fun j hj => (h.2.2.2.2.1 j hj).congr rfl (fun _ _ _ => rfl) rfl rfl (by rw [hw]; exact Nat.le_refl _), h.2.2.2.2.2⟩
  · have e : (zt_I t k x).1 4 = t.1 4 := va_up_ne _ _ (by omega)
    rw [e]; exact h.2.1
  · have e : (zt_I t k x).1 5 = t.1 5 := va_up_ne _ _ (by omega)
    rw [e]; exact h.2.2.1
end ZoB
