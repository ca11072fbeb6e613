/-! The history at H, 1098 cells; the whole object at z, 1378 cells. -/
def zs_copy (n : Nat) (s t : zq_T) : zq_T := (s.1, fun k => if k < n then s.2 k else t.2 k)
def zq_hist (g : bq_G) (E : bq_E) (H : Nat) (u : Nat → zq_T) (p cnt : Nat) : Prop :=
  E H = .inr (1, [.ref (H + 1), .int (nI p), .int (nI cnt)]) ∧
  (∃ f : Nat → Option Nat, E (H + 1) = .inl (g.2.2.2.2, 4, .inr (.inr (.inr (.inr f)))) ∧ ∀ i, i < 4 → f i = some (H + 2 + 274 * i)) ∧
  ∀ i, i < 4 → zq_tree g E (H + 2 + 274 * i) (u i)
def zh_next (p : Nat) : Nat := if 3 ≤ p then 0 else p + 1
def zh_more (cnt : Nat) : Nat := if 4 < cnt + 1 then 4 else cnt + 1
section ZqH
variable {g : bq_G} {E E' : bq_E} {H T p cnt n : Nat} {u : Nat → zq_T} {t : zq_T}
theorem zq_hist.same (h : zq_hist g E H u p cnt) {lo hi : Nat} (s : zq_same E E' lo hi) (ho : H + 1098 ≤ lo ∨ hi ≤ H) : zq_hist g E' H u p cnt := by
  refine ⟨(s H (by omega)).trans h.1, ?_, fun i hi2 => (h.2.2 i hi2).same s (by omega)⟩
  obtain ⟨f, a, b⟩ := h.2.1
  exact ⟨f, (s (H + 1) (by omega)).trans a, b⟩
theorem zq_hist.i1 (h : zq_hist g E H u p cnt) : bq_fi E H 1 1 = some (nI p) := zq_fi h.1 rfl
theorem zq_hist.i2 (h : zq_hist g E H u p cnt) : bq_fi E H 1 2 = some (nI cnt) := zq_fi h.1 rfl
theorem zh_savedAt (h : zq_hist g E H u p cnt) {i : Nat} (hi : i < 4) : tw_X1_savedAt E H (nI i) = some (some (H + 2 + 274 * i)) := by
  obtain ⟨f, a, b⟩ := h.2.1
  have r0 : bq_fr E H 1 0 = some (H + 1) := zq_fr h.1 rfl
  unfold tw_X1_savedAt
  rw [if_pos (zq_cls h.1), if_neg (nI_pos (by omega)), r0]
  simp only [Option.bind_some, zq_len a]
  rw [if_neg (nI_ge hi (by omega))]
  have h3 := nI_in hi (by omega)
  simp only [bq_ar, a]
  rw [if_neg h3, nI_clamp (by omega), b i hi]
  rfl
theorem zq_hist.treeup (h : zq_hist g E H u p cnt) {i : Nat} (hi : i < 4) {s : zq_T} (ht : zq_tree g E' (H + 2 + 274 * i) s) (sm : zq_same E E' (H + 2 + 274 * i) (H + 2 + 274 * i + 274)) : zq_hist g E' H (va_up u i s) p cnt ∧ zq_same E E' H (H + 1098) := by
  refine ⟨⟨(sm H (by omega)).trans h.1, ?_, fun j hj => ?_⟩, sm.wide (by omega) (by omega)⟩
  · obtain ⟨f, a, b⟩ := h.2.1
    exact ⟨f, (sm (H + 1) (by omega)).trans a, b⟩
  · by_cases e : j = i
    · subst e
      rw [va_up_self]
      exact ht
    · rw [va_up_ne _ _ e]
      exact (h.2.2 j hj).same sm (by omega)
theorem zq_hist.put (h : zq_hist g E H u p cnt) {k : Nat} (hk : 1 ≤ k ∧ k < 3) (x : Int32) {p' cnt' : Nat} (he : [Value.ref (H + 1), .int (nI p), .int (nI cnt)].set k (.int x) = [Value.ref (H + 1), .int (nI p'), .int (nI cnt')]) : ∃ E', bq_p E H 1 k (.int x) = some E' ∧ zq_hist g E' H u p' cnt' ∧ zq_same E E' H (H + 1098) := by
  refine ⟨_, zq_p _ h.1 (by simp; omega), ⟨?_, ?_, fun i hi => ?_⟩, zq_same.up (by omega)⟩
  · rw [va_up_self, he]
  · obtain ⟨f, a, b⟩ := h.2.1
    exact ⟨f, (va_up_ne _ _ (by omega)).trans a, b⟩
  · exact (h.2.2 i hi).same (zq_same.up (lo := H) (hi := H + 1) (by omega)) (by omega)
theorem zh_save (h : zq_hist g E H u p cnt) (ht : zq_tree g E T t) (ho : T + 274 ≤ H ∨ H + 1098 ≤ T) (hp : p < 4) (hc : cnt ≤ 4) (hn : n ≤ 15) (h3 : t.1 3 = nI n) : ∃ E', tw_X1_save E H T = some E' ∧ zq_hist g E' H (va_up u p (zs_copy n t (u p))) (zh_next p) (zh_more cnt) ∧ zq_same E E' H (H + 1098) := by
  unfold tw_X1_save
  rw [if_pos (zq_cls h.1), h.i1]
  simp only [Option.bind_some]
  rw [zh_savedAt h hp]
  simp only [Option.bind_some, bq_opt]
  obtain ⟨E1, a1, b1, s1⟩ := zt_copy (h.2.2 p hp) ht (by omega) hn h3
  rw [a1]
  obtain ⟨h1, t1⟩ := h.treeup hp b1 s1
  simp only [Option.bind_some]
  rw [h1.i1]
  simp only [Option.bind_some, bq_let]
  have fin : ∃ E', ((bq_p E1 H 1 1 (.int (nI (zh_next p)))).bind fun E7 => (bq_fi E7 H 1 2).bind fun v8 => (bq_p E7 H 1 2 (.int (if (4 : Int32) < (v8 + (1 : Int32)) then (4 : Int32) else (v8 + (1 : Int32))))).bind fun E10 => some E10) = some E' ∧ zq_hist g E' H (va_up u p (zs_copy n t (u p))) (zh_next p) (zh_more cnt) ∧ zq_same E E' H (H + 1098) := by
    obtain ⟨E2, a2, h2, s2⟩ := h1.put (k := 1) (by omega) (nI (zh_next p)) (p' := zh_next p) (cnt' := cnt) rfl
    rw [a2]
    simp only [Option.bind_some]
    rw [h2.i2]
    simp only [Option.bind_some]
    have e : (if (4 : Int32) < nI cnt + 1 then (4 : Int32) else nI cnt + 1) = nI (zh_more cnt) := by
      unfold zh_more
      rw [nI_1]
      by_cases q : 4 < cnt + 1
      · rw [if_pos q, if_pos (show (4 : Int32) < nI (cnt + 1) from nI_lt (a := 4) q (by omega))]; rfl
      · rw [if_neg q, if_neg (show ¬ (4 : Int32) < nI (cnt + 1) from nI_nlt (a := 4) (by omega) (by omega))]
    rw [e]
    obtain ⟨E3, a3, h4, s3⟩ := h2.put (k := 2) (by omega) (nI (zh_more cnt)) (p' := zh_next p) (cnt' := zh_more cnt) rfl
    rw [a3]
    exact ⟨E3, rfl, h4, (t1.trans s2).trans s3⟩
  by_cases q : 3 ≤ p
  · rw [if_pos (show (3 : Int32) ≤ nI p from nI_le (a := 3) q (by omega))]
    have e : zh_next p = 0 := if_pos q
    rw [e] at fin ⊢
    exact fin
  · rw [if_neg (show ¬ (3 : Int32) ≤ nI p from nI_ge (b := 3) (by omega) (by omega))]
    have e : zh_next p = p + 1 := if_neg q
    rw [e] at fin ⊢
    rw [nI_1]
    exact fin
end ZqH
def zq_face (g : bq_G) (E : bq_E) (z : Nat) (t : zq_T) (u : Nat → zq_T) (p cnt : Nat) : Prop :=
  E z = .inr (6, [.ref (z + 1), .ref (z + 275), .ref (z + 280)]) ∧ zq_tree g E (z + 1) t ∧ (∃ P L w, zq_walk g E (z + 275) P L w) ∧ zq_hist g E (z + 280) u p cnt
section ZqF
variable {g : bq_G} {E E' : bq_E} {z p cnt n : Nat} {u : Nat → zq_T} {t : zq_T}
theorem zq_face.same (h : zq_face g E z t u p cnt) {lo hi : Nat} (s : zq_same E E' lo hi) (ho : z + 1378 ≤ lo ∨ hi ≤ z) : zq_face g E' z t u p cnt := by
  obtain ⟨a, b, ⟨P, L, w, c⟩, d⟩ := h
  exact ⟨(s z (by omega)).trans a, b.same s (by omega), ⟨P, L, w, c.same s (by omega)⟩, d.same s (by omega)⟩
theorem zq_face.treeup (h : zq_face g E z t u p cnt) {t' : zq_T} (ht : zq_tree g E' (z + 1) t') (s : zq_same E E' (z + 1) (z + 1 + 274)) : zq_face g E' z t' u p cnt ∧ zq_same E E' z (z + 1378) := by
  obtain ⟨a, b, ⟨P, L, w, c⟩, d⟩ := h
  exact ⟨⟨(s z (by omega)).trans a, ht, ⟨P, L, w, c.same s (by omega)⟩, d.same s (by omega)⟩, s.wide (by omega) (by omega)⟩
theorem zq_face.walkup (h : zq_face g E z t u p cnt) {P L : List Nat} {w : zq_V} (hw : zq_walk g E' (z + 275) P L w) (s : zq_same E E' (z + 275) (z + 275 + 5)) : zq_face g E' z t u p cnt ∧ zq_same E E' z (z + 1378) := by
  obtain ⟨a, b, _, d⟩ := h
  exact ⟨⟨(s z (by omega)).trans a, b.same s (by omega), ⟨P, L, w, hw⟩, d.same s (by omega)⟩, s.wide (by omega) (by omega)⟩
theorem zq_face.histup (h : zq_face g E z t u p cnt) {u' : Nat → zq_T} {p' cnt' : Nat} (hw : zq_hist g E' (z + 280) u' p' cnt') (s : zq_same E E' (z + 280) (z + 280 + 1098)) : zq_face g E' z t u' p' cnt' ∧ zq_same E E' z (z + 1378) := by
  obtain ⟨a, b, ⟨P, L, w, c⟩, d⟩ := h
  exact ⟨⟨(s z (by omega)).trans a, b.same s (by omega), ⟨P, L, w, c.same s (by omega)⟩, hw⟩, s.wide (by omega) (by omega)⟩
theorem zq_face.rT (h : zq_face g E z t u p cnt) : bq_fr E z 6 0 = some (z + 1) := zq_fr h.1 rfl
theorem zq_face.rW (h : zq_face g E z t u p cnt) : bq_fr E z 6 1 = some (z + 275) := zq_fr h.1 rfl
theorem zq_face.rH (h : zq_face g E z t u p cnt) : bq_fr E z 6 2 = some (z + 280) := zq_fr h.1 rfl
theorem zf_save (h : zq_face g E z t u p cnt) (hp : p < 4) (hc : cnt ≤ 4) (hn : n ≤ 15) (h3 : t.1 3 = nI n) : ∃ E', tw_X1_save E (z + 280) (z + 1) = some E' ∧ zq_face g E' z t (va_up u p (zs_copy n t (u p))) (zh_next p) (zh_more cnt) ∧ zq_same E E' z (z + 1378) := by
  obtain ⟨E1, a, b, s⟩ := zh_save h.2.2.2 h.2.1 (by omega) hp hc hn h3
  obtain ⟨h1, s1⟩ := h.histup b s
  exact ⟨E1, a, h1, s1⟩
def zf_isnode (n : Nat) (x : Int32) : Prop := ¬ x < 0 ∧ x < nI n
theorem zf_isnode_nat {n : Nat} (hn : n ≤ 15) {x : Int32} (h : zf_isnode n x) : ∃ k, k < n ∧ x = nI k := by
  obtain ⟨k, hk, rfl⟩ := nI_of h.1
  exact ⟨k, (nI_ltI hk (by omega)).mp h.2, rfl⟩
theorem zf_isnode_nI {n k : Nat} (hn : n ≤ 15) (h : k < n) : zf_isnode n (nI k) := ⟨nI_pos (by omega), nI_lt h (by omega)⟩
theorem zf_requireNode (h : zq_face g E z t u p cnt) (h3 : t.1 3 = nI n) (x : Int32) : (zf_isnode n x → tw_X6_requireNode E z x = some (Sum.inl ())) ∧ (¬ zf_isnode n x → tw_X6_requireNode E z x = some (Sum.inr "java/lang/IndexOutOfBoundsException")) := by
  unfold tw_X6_requireNode zf_isnode
  rw [if_pos (zq_cls h.1)]
  simp only [bq_let]
  rw [h.rT]
  simp only [Option.bind_some]
  rw [h.2.1.int (k := 3) (by omega), h3]
  simp only [Option.bind_some]
  constructor
  · intro q
    rw [if_neg q.1, if_pos q.2]
  · intro q
    by_cases q1 : x < 0
    · rw [if_pos q1]
    · rw [if_neg q1, if_neg (fun q2 => q ⟨q1, q2⟩)]
theorem zf_require (h : zq_face g E z t u p cnt) : tw_X6_require E z 0 = some (Sum.inr "java/lang/IllegalArgumentException") ∧ tw_X6_require E z 1 = some (Sum.inl ()) := by
  unfold tw_X6_require
  constructor
  · rw [if_pos (zq_cls h.1), if_pos rfl]
  · rw [if_pos (zq_cls h.1), if_neg (show ¬ (1 : Int32) = 0 by decide)]
end ZqF
