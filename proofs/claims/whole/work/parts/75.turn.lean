/-! A turn of the law: both sides, with the out row; walks of the class's face. -/
def zz_out (g : bq_G) (E : bq_E) (a : Nat) (f : Nat → Int64) : Prop := E a = .inl (g.2.2.1, 1, .inr (.inl f))
def zz_E (g : bq_G) (E : bq_E) (z : Nat) : Prop := ∃ n t u p cnt M, zq_face g E z t u p cnt ∧ zq_mod g E (z + 1378) M ∧ zz_rel M n t u p cnt ∧ ∃ f, zz_out g E (z + 1386) f
def zz_turn (g : bq_G) (z : Nat) (L : Option (Int32 × bq_E)) (R : bq_E → Option (Int32 × bq_E)) : Prop := ∃ r1 r2, L = some r1 ∧ R r1.2 = some r2 ∧ tw_X7_thrown r2.2 (z + 1378) = some r1.1 ∧ (r1.1 = 0 → bq_al r2.2 (z + 1386) 0 = some (Int32.toInt64 r2.1)) ∧ zz_E g r2.2 z
def zz_turnB (g : bq_G) (z : Nat) (L : Option (Int32 × bq_E)) (R : bq_E → Option (Bool × bq_E)) : Prop := ∃ r1 r2, L = some r1 ∧ R r1.2 = some r2 ∧ tw_X7_thrown r2.2 (z + 1378) = some r1.1 ∧ (r1.1 = 0 → bq_al r2.2 (z + 1386) 0 = some (if r2.1 = true then 1 else 0)) ∧ zz_E g r2.2 z
/-- the class says code, the reckoner too -/
def zz_fails {α : Type} (g : bq_G) (E : bq_E) (m : Nat) (M : zq_M) (R : bq_E → Option (α × bq_E)) (code : Int32) : Prop := ∃ v E', R E = some (v, E') ∧ zq_mod g E' m (zm_I M 4 code) ∧ zq_same E E' m (m + 8)
/-- the reckoner's answer is v, its state that of the tree -/
def zz_does {α : Type} (g : bq_G) (m : Nat) (M : zq_M) (R : bq_E → Option (α × bq_E)) (v : α) (n : Nat) (t : zq_T) (u : Nat → zq_T) (p cnt : Nat) : Prop := ∀ E, zq_mod g E m M → ∃ E' M', R E = some (v, E') ∧ zq_mod g E' m M' ∧ zz_rel M' n t u p cnt ∧ M'.2.1 4 = 0 ∧ zq_same E E' m (m + 8)
theorem zs_ne1 : ¬ ("java/lang/IllegalArgumentException" = "java/lang/IndexOutOfBoundsException") := by simp
theorem zs_ne2 : ¬ ("java/lang/IllegalStateException" = "java/lang/IndexOutOfBoundsException") := by simp
theorem zs_ne3 : ¬ ("java/lang/IllegalStateException" = "java/lang/IllegalArgumentException") := by simp
section ZzB
variable {g : bq_G} {E E1 : bq_E} {z n p cnt n' p' cnt' : Nat} {M : zq_M} {t t' : zq_T} {u u' : Nat → zq_T} {f : Nat → Int64}
theorem zz_sl (ho : zz_out g E (z + 1386) f) (v : Int64) : ∃ E', bq_sl E (z + 1386) 0 v = some E' ∧ zz_out g E' (z + 1386) (vp_updL f 0 v) ∧ zq_same E E' (z + 1386) (z + 1387) := by
  have h0 : (0 : Int32).toNatClampNeg = 0 := rfl
  refine ⟨va_up E (z + 1386) (.inl (g.2.2.1, 1, .inr (.inl (vp_updL f 0 v)))), ?_, ?_, zq_same.up (a := z + 1386) (by omega)⟩
  · unfold bq_sl
    rw [show E (z + 1386) = _ from ho]
    simp only [h0]
    rw [if_neg (by decide)]
  · unfold zz_out
    rw [va_up_self]
theorem zz_al {v : Int64} (ho : zz_out g E (z + 1386) (vp_updL f 0 v)) : bq_al E (z + 1386) 0 = some v := by
  have h0 : (0 : Int32).toNatClampNeg = 0 := rfl
  unfold bq_al
  rw [show E (z + 1386) = _ from ho]
  simp only [h0]
  rw [if_neg (by decide), pk_uLs]
theorem zz_out.same {E' : bq_E} {lo hi : Nat} (ho : zz_out g E (z + 1386) f) (s : zq_same E E' lo hi) (h : z + 1386 < lo ∨ hi ≤ z + 1386) : zz_out g E' (z + 1386) f := (s _ h).trans ho
theorem zz_okA {α : Type} {R : bq_E → Option (α × bq_E)} {v : α} {o : Int64} (hf : zq_face g E1 z t' u' p' cnt') (hs : zq_same E E1 z (z + 1378)) (hm : zq_mod g E (z + 1378) M) (ho : zz_out g E (z + 1386) f) (hR : zz_does g (z + 1378) M R v n' t' u' p' cnt') : ∃ E2 E3, bq_sl E1 (z + 1386) 0 o = some E2 ∧ R E2 = some (v, E3) ∧ tw_X7_thrown E3 (z + 1378) = some 0 ∧ bq_al E3 (z + 1386) 0 = some o ∧ zz_E g E3 z := by
  obtain ⟨E2, a2, o2, s2⟩ := zz_sl (ho.same hs (Or.inr (by omega))) o
  have m2 := (hm.same hs (Or.inr (by omega))).same s2 (Or.inl (by omega))
  obtain ⟨E3, M3, a3, H3, r3, e3, s3⟩ := hR E2 m2
  have o3 := o2.same s3 (Or.inr (by omega))
  exact ⟨E2, E3, a2, a3, by rw [zm_thrown H3, e3], zz_al o3, n', t', u', p', cnt', M3, (hf.same s2 (Or.inl (by omega))).same s3 (Or.inl (by omega)), H3, r3, _, o3⟩
theorem zz_ok {L : Option (Int32 × bq_E)} {R : bq_E → Option (Int32 × bq_E)} {v : Int32} (hf : zq_face g E1 z t' u' p' cnt') (hs : zq_same E E1 z (z + 1378)) (hm : zq_mod g E (z + 1378) M) (ho : zz_out g E (z + 1386) f) (hL : L = (bq_sl E1 (z + 1386) 0 (Int32.toInt64 v)).bind fun E4 => some (0, E4)) (hR : zz_does g (z + 1378) M R v n' t' u' p' cnt') : zz_turn g z L R := by
  obtain ⟨E2, E3, a, b, c, d, e⟩ := zz_okA (o := Int32.toInt64 v) hf hs hm ho hR
  rw [a] at hL
  exact ⟨(0, E2), (v, E3), hL, b, c, fun _ => d, e⟩
theorem zz_okB {L : Option (Int32 × bq_E)} {R : bq_E → Option (Bool × bq_E)} {v : Bool} (hf : zq_face g E1 z t' u' p' cnt') (hs : zq_same E E1 z (z + 1378)) (hm : zq_mod g E (z + 1378) M) (ho : zz_out g E (z + 1386) f) (hL : L = (bq_sl E1 (z + 1386) 0 (if v = true then 1 else 0)).bind fun E4 => some (0, E4)) (hR : zz_does g (z + 1378) M R v n' t' u' p' cnt') : zz_turnB g z L R := by
  obtain ⟨E2, E3, a, b, c, d, e⟩ := zz_okA (o := if v = true then 1 else 0) hf hs hm ho hR
  rw [a] at hL
  exact ⟨(0, E2), (v, E3), hL, b, c, fun _ => d, e⟩
theorem zz_badA {α : Type} {R : bq_E → Option (α × bq_E)} {code : Int32} (hf : zq_face g E z t u p cnt) (hr : zz_rel M n t u p cnt) (ho : zz_out g E (z + 1386) f) (hR : zz_fails g E (z + 1378) M R code) : ∃ v E3, R E = some (v, E3) ∧ tw_X7_thrown E3 (z + 1378) = some code ∧ zz_E g E3 z := by
  obtain ⟨v, E3, a3, H3, s3⟩ := hR
  exact ⟨v, E3, a3, by rw [zm_thrown H3, zm_Is], n, t, u, p, cnt, _, hf.same s3 (Or.inl (by omega)), H3, hr.i4 code, f, ho.same s3 (Or.inr (by omega))⟩
theorem zz_bad {L : Option (Int32 × bq_E)} {R : bq_E → Option (Int32 × bq_E)} {code : Int32} (hf : zq_face g E z t u p cnt) (hr : zz_rel M n t u p cnt) (ho : zz_out g E (z + 1386) f) (hc : code ≠ 0) (hL : L = some (code, E)) (hR : zz_fails g E (z + 1378) M R code) : zz_turn g z L R := by
  obtain ⟨v, E3, a, b, c⟩ := zz_badA hf hr ho hR
  exact ⟨(code, E), (v, E3), hL, a, b, fun h => absurd h hc, c⟩
theorem zz_badB {L : Option (Int32 × bq_E)} {R : bq_E → Option (Bool × bq_E)} {code : Int32} (hf : zq_face g E z t u p cnt) (hr : zz_rel M n t u p cnt) (ho : zz_out g E (z + 1386) f) (hc : code ≠ 0) (hL : L = some (code, E)) (hR : zz_fails g E (z + 1378) M R code) : zz_turnB g z L R := by
  obtain ⟨v, E3, a, b, c⟩ := zz_badA hf hr ho hR
  exact ⟨(code, E), (v, E3), hL, a, b, fun h => absurd h hc, c⟩
-- the class's tests
theorem zf_requireGoal (h : zq_face g E z t u p cnt) (x : Int32) : (zf_goal x → tw_X6_requireGoal E z x = some (Sum.inl ())) ∧ (¬ zf_goal x → tw_X6_requireGoal E z x = some (Sum.inr "java/lang/IllegalArgumentException")) := by
  obtain ⟨r0, r1⟩ := zf_require h
  unfold tw_X6_requireGoal zf_goal
  rw [if_pos (zq_cls h.1), r0, r1]
  simp only [zq_bindE, bq_elim]
  constructor
  · intro q
    rw [if_neg q.1, if_neg q.2]
  · intro q
    by_cases q1 : x < 0
    · rw [if_pos q1]
    · rw [if_neg q1]
      by_cases q2 : (10000 : Int32) < x
      · rw [if_pos q2]
      · exact absurd ⟨q1, q2⟩ q
theorem zf_requireKey (h : zq_face g E z t u p cnt) (x : Int32) : (zf_key x → tw_X6_requireKey E z x = some (Sum.inl ())) ∧ (¬ zf_key x → tw_X6_requireKey E z x = some (Sum.inr "java/lang/IllegalArgumentException")) := by
  obtain ⟨r0, r1⟩ := zf_require h
  unfold tw_X6_requireKey zf_key
  rw [if_pos (zq_cls h.1), r0, r1]
  simp only [zq_bindE, bq_elim]
  constructor
  · intro q
    rw [if_neg q.1, if_neg q.2]
  · intro q
    by_cases q1 : x < 0
    · rw [if_pos q1]
    · rw [if_neg q1]
      by_cases q2 : (10000 : Int32) ≤ x
      · rw [if_pos q2]
      · exact absurd ⟨q1, q2⟩ q
theorem zw_sides_lt (t : zq_T) : ∀ (r k : Nat) (acc : List Nat), (∀ a ∈ acc, a < 3) → ∀ a ∈ zw_sides t r k acc, a < 3
  | 0, _, _, h => h
  | r + 1, k, acc, h => by
    unfold zw_sides
    refine zw_sides_lt t r _ _ (fun a ha => ?_)
    rcases List.mem_cons.mp ha with rfl | ha
    · unfold zw_side; split <;> omega
    · exact h a ha
theorem zf_walkTo (h : zq_face g E z t u p cnt) (hi : zi_inv n t) {k x : Nat} (hk : k < n) (hx : x ≤ 10000) : ∃ E', tw_X6_walkTo E z (nI k) (nI x) = some (Sum.inl (z + 275), E') ∧ zq_face g E' z t u p cnt ∧ zq_walk g E' (z + 275) (zw_P t k) (zw_L t k) (zw_find t (zw_P t k) (zw_L t k) x) ∧ zq_same E E' z (z + 1378) := by
  have h15 := hi.1.1.2
  unfold tw_X6_walkTo
  rw [if_pos (zq_cls h.1), (zf_requireNode h hi.1.2.1 (nI k)).1 (zf_isnode_nI h15 hk)]
  simp only [zq_bindE, bq_elim]
  rw [(zf_requireGoal h (nI x)).1 ⟨nI_pos (by omega), nI_nlt (a := 10000) (by omega) (by omega)⟩]
  simp only [zq_bindE, bq_elim]
  rw [h.rW, h.rT]
  simp only [zq_bindE]
  obtain ⟨P, L, w, hw⟩ := h.2.2.1
  unfold tw_X5_bridged
  rw [if_pos (zq_cls hw.1)]
  obtain ⟨E1, a1, H1, s1⟩ := zw_layPath hw h.2.1 (by omega) (k := k) (d := zt_d t k) (by omega) (hi.1.d15 hk) (hi.1.d3 hk) (hi.1.pathok _ k hk rfl)
  rw [a1]
  simp only [zq_bindE]
  obtain ⟨h1, t1⟩ := h.walkup H1 s1
  obtain ⟨E2, a2, H2, s2⟩ := zw_search H1 h1.2.1 (by omega) (x := x) (by omega) (zw_path_ok t (fun k => k < 15 ∧ zw_ok t k) (fun k hk => ⟨hk, hi.ok k hk⟩) (zt_d t k + 1) k [] (by omega) (fun a ha => by simp at ha)) (zw_sides_lt t _ _ _ (fun a ha => by simp at ha))
  rw [a2]
  obtain ⟨h2, t2⟩ := h1.walkup H2 s2
  simp only [zq_bindE]
  rw [h2.rW]
  exact ⟨E2, rfl, h2, H2, t1.trans t2⟩
theorem zf_walkTo1 (h : zq_face g E z t u p cnt) (h3 : t.1 3 = nI n) {y x : Int32} (hy : ¬ zf_isnode n y) : tw_X6_walkTo E z y x = some (Sum.inr "java/lang/IndexOutOfBoundsException", E) := by
  unfold tw_X6_walkTo
  rw [if_pos (zq_cls h.1), (zf_requireNode h h3 y).2 hy]
  rfl
theorem zf_walkTo2 (h : zq_face g E z t u p cnt) (h3 : t.1 3 = nI n) {y x : Int32} (hy : zf_isnode n y) (hx : ¬ zf_goal x) : tw_X6_walkTo E z y x = some (Sum.inr "java/lang/IllegalArgumentException", E) := by
  unfold tw_X6_walkTo
  rw [if_pos (zq_cls h.1), (zf_requireNode h h3 y).1 hy]
  simp only [zq_bindE, bq_elim]
  rw [(zf_requireGoal h x).2 hx]
  rfl
end ZzB
