/-! A turn of the law: both sides, with the out row; walks of the class's face. -/
def zz_out (g : bq_G) (E : bq_E) (a : Nat) (f : Nat → Int64) : Prop := E a = .inl (g.2.2.1, 1, .inr (.inl f))
theorem zs_ne1 : ¬ ("java/lang/IllegalArgumentException" = "java/lang/IndexOutOfBoundsException") := by simp
theorem zs_ne2 : ¬ ("java/lang/IllegalStateException" = "java/lang/IndexOutOfBoundsException") := by simp
theorem zs_ne3 : ¬ ("java/lang/IllegalStateException" = "java/lang/IllegalArgumentException") := by simp
section ZzB
variable {g : bq_G} {E E1 : bq_E} {z n p cnt n' p' cnt' : Nat} {M : zq_M} {t t' : zq_T} {u u' : Nat → zq_T} {f : Nat → Int64}
theorem zz_out.same {E' : bq_E} {lo hi : Nat} (ho : zz_out g E (z + 1386) f) (s : zq_same E E' lo hi) (h : z + 1386 < lo ∨ hi ≤ z + 1386) : zz_out g E' (z + 1386) f := (s _ h).trans ho
-- the class's tests
theorem zf_requireGoal (h : zq_face g E z t u p cnt) (x : Int32) : (zf_goal x → tw_X6_requireGoal E z x = some (Sum.inl ())) ∧ (¬ zf_goal x → tw_X6_requireGoal E z x = some (Sum.inr "java/lang/IllegalArgumentException")) := by
  obtain ⟨r0, r1⟩ := zf_require h
  unfold tw_X6_requireGoal zf_goal
  rw [if_pos (zq_cls h.1), r0, r1]
  simp only [zq_bindE, bq_elim]
  constructor
  · intro q
    rw [if_neg q.1, if_neg q.2]
  · intro q
    by_cases q1 : x < 0
    · rw [if_pos q1]
    · rw [if_neg q1]
      by_cases q2 : (10000 : Int32) < x
      · rw [if_pos q2]
      · exact absurd ⟨q1, q2⟩ q
theorem zf_requireKey (h : zq_face g E z t u p cnt) (x : Int32) : (zf_key x → tw_X6_requireKey E z x = some (Sum.inl ())) ∧ (¬ zf_key x → tw_X6_requireKey E z x = some (Sum.inr "java/lang/IllegalArgumentException")) := by
  obtain ⟨r0, r1⟩ := zf_require h
  unfold tw_X6_requireKey zf_key
  rw [if_pos (zq_cls h.1), r0, r1]
  simp only [zq_bindE, bq_elim]
  constructor
  · intro q
    rw [if_neg q.1, if_neg q.2]
  · intro q
    by_cases q1 : x < 0
    · rw [if_pos q1]
    · rw [if_neg q1]
      by_cases q2 : (10000 : Int32) ≤ x
      · rw [if_pos q2]
      · exact absurd ⟨q1, q2⟩ q
theorem zw_sides_lt (t : zq_T) : ∀ (r k : Nat) (acc : List Nat), (∀ a ∈ acc, a < 3) → ∀ a ∈ zw_sides t r k acc, a < 3
  | 0, _, _, h => h
  | r + 1, k, acc, h => by
    unfold zw_sides
    refine zw_sides_lt t r _ _ (fun a ha => ?_)
    rcases List.mem_cons.mp ha with rfl | ha
    · unfold zw_side; split <;> omega
    · exact h a ha
theorem zf_walkTo (h : zq_face g E z t u p cnt) (hi : zi_inv n t) {k x : Nat} (hk : k < n) (hx : x ≤ 10000) : ∃ E', tw_X6_walkTo E z (nI k) (nI x) = some (Sum.inl (z + 275), E') ∧ zq_face g E' z t u p cnt ∧ zq_walk g E' (z + 275) (zw_P t k) (zw_L t k) (zw_find t (zw_P t k) (zw_L t k) x) ∧ zq_same E E' z (z + 1378) := by
  have h15 := hi.1.1.2
  unfold tw_X6_walkTo
  rw [if_pos (zq_cls h.1), (zf_requireNode h hi.1.2.1 (nI k)).1 (zf_isnode_nI h15 hk)]
  simp only [zq_bindE, bq_elim]
  rw [(zf_requireGoal h (nI x)).1 ⟨nI_pos (by omega), nI_nlt (a := 10000) (by omega) (by omega)⟩]
  simp only [zq_bindE, bq_elim]
  rw [h.rW, h.rT]
  simp only [zq_bindE]
  obtain ⟨P, L, w, hw⟩ := h.2.2.1
  unfold tw_X5_bridged
  rw [if_pos (zq_cls hw.1)]
  obtain ⟨E1, a1, H1, s1⟩ := zw_layPath hw h.2.1 (by omega) (k := k) (d := zt_d t k) (by omega) (hi.1.d15 hk) (hi.1.d3 hk) (hi.1.pathok _ k hk rfl)
  rw [a1]
  simp only [zq_bindE]
  obtain ⟨h1, t1⟩ := h.walkup H1 s1
  obtain ⟨E2, a2, H2, s2⟩ := zw_search H1 h1.2.1 (by omega) (x := x) (by omega) (zw_path_ok t (fun k => k < 15 ∧ zw_ok t k) (fun k hk => ⟨hk, hi.ok k hk⟩) (zt_d t k + 1) k [] (by omega) (fun a ha => by simp at ha)) (zw_sides_lt t _ _ _ (fun a ha => by simp at ha))
  rw [a2]
  obtain ⟨h2, t2⟩ := h1.walkup H2 s2
  simp only [zq_bindE]
  rw [h2.rW]
  exact ⟨E2, rfl, h2, H2, t1.trans t2⟩
theorem zf_walkTo1 (h : zq_face g E z t u p cnt) (h3 : t.1 3 = nI n) {y x : Int32} (hy : ¬ zf_isnode n y) : tw_X6_walkTo E z y x = some (Sum.inr "java/lang/IndexOutOfBoundsException", E) := by
  unfold tw_X6_walkTo
  rw [if_pos (zq_cls h.1), (zf_requireNode h h3 y).2 hy]
  rfl
theorem zf_walkTo2 (h : zq_face g E z t u p cnt) (h3 : t.1 3 = nI n) {y x : Int32} (hy : zf_isnode n y) (hx : ¬ zf_goal x) : tw_X6_walkTo E z y x = some (Sum.inr "java/lang/IllegalArgumentException", E) := by
  unfold tw_X6_walkTo
  rw [if_pos (zq_cls h.1), (zf_requireNode h h3 y).1 hy]
  simp only [zq_bindE, bq_elim]
  rw [(zf_requireGoal h x).2 hx]
  rfl
end ZzB
