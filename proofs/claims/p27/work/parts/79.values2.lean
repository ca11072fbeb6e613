/-! Values: entry, bridge, count, nodes; undo, setSizes. -/
def zv_cnt (t : zq_T) (n w : Nat) : Int32 := if w = 5 then zt_sum (fun k => zc_count (t.2 k)) n else if w = 6 then zt_sum (fun k => nI ((t.2 k).2 3).length) n else t.1 (6 + w)
section ZoD
variable {g : bq_G} {E : bq_E} {z m n p cnt k : Nat} {M : zq_M} {t : zq_T} {u : Nat → zq_T}
theorem zf_count (hf : zq_face g E z t u p cnt) (hi : zi_inv n t) {w : Nat} (hw : w ≤ 6) : tw_X6_count E z (nI w) = some (Sum.inl (zv_cnt t n w)) := by
  unfold tw_X6_count zv_cnt
  rw [if_pos (zq_cls hf.1), hf.rT]
  simp only [zq_bindE]
  rw [hf.2.1.int (k := 6) (by omega), hf.2.1.int (k := 7) (by omega), hf.2.1.int (k := 8) (by omega), hf.2.1.int (k := 9) (by omega), hf.2.1.int (k := 10) (by omega), zt_keysOfAll hf.2.1 hi.1.1.2 hi.1.2.1, zt_entriesOfAll hf.2.1 hi.1.1.2 hi.1.2.1]
  simp only [zq_bindE]
  have hc : w = 0 ∨ w = 1 ∨ w = 2 ∨ w = 3 ∨ w = 4 ∨ w = 5 ∨ w = 6 := by omega
  rcases hc with rfl | rfl | rfl | rfl | rfl | rfl | rfl <;> rfl
theorem zi_inv.sizes (h : zi_inv n t) {c st : Nat} (hc : 1 ≤ c ∧ c ≤ 8) (hst : 2 ≤ st ∧ st ≤ 5) : zi_inv n (zt_I (zt_I t 4 (nI c)) 5 (nI st)) := by
  have hw : ∀ n j, zi_w (zt_I (zt_I t 4 (nI c)) 5 (nI st)) n j = zi_w t n j := (zi_an_cint (t := t) (u := zt_I (zt_I t 4 (nI c)) 5 (nI st)) (fun _ _ => rfl)).2.2.2
  refine ⟨h.1.congr rfl (fun _ _ _ _ => rfl), ⟨c, rfl, hc⟩, ⟨st, rfl, hst⟩, h.2.2.2.1, fun j hj => (h.2.2.2.2.1 j hj).congr rfl (fun _ _ _ => rfl) rfl rfl (by rw [hw]; exact Nat.le_refl _), h.2.2.2.2.2⟩
end ZoD
