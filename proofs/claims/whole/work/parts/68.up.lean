/-! The reckoner's state and the tree; building up on both sides. -/
def zs_ints (f : Nat → Int32) (n : Nat) (t : zq_T) (a : Int32) : Prop := f 0 = nI n ∧ f 1 = t.1 4 ∧ f 2 = t.1 5 ∧ f 3 = t.1 6 ∧ f 4 = t.1 7 ∧ f 5 = t.1 8 ∧ f 6 = t.1 9 + a ∧ f 7 = t.1 10
def zs_rel (f : Nat → Int32) (n : Nat) (t : zq_T) : Prop := zs_ints f n t 0 ∧ ∀ j, j < n → zm_node f j (t.2 j)
def zs_part (f : Nat → Int32) (n : Nat) (t : zq_T) (k : Nat) (a : Int32) : Prop := zs_ints f n t a ∧ (∀ j, j < n → j ≠ k → zm_node f j (t.2 j)) ∧ zm_head f k (t.2 k)
/-- only the first array has changed -/
def zm_one (M M' : zq_M) : Prop := M'.2 = M.2 ∧ ∀ j, j ≠ 1 → M'.1 j = M.1 j
theorem zm_one.refl {M : zq_M} : zm_one M M := ⟨rfl, fun _ _ => rfl⟩
theorem zm_one.trans {M M' M'' : zq_M} (h : zm_one M M') (h2 : zm_one M' M'') : zm_one M M'' := ⟨h2.1.trans h.1, fun j hj => (h2.2 j hj).trans (h.2 j hj)⟩
theorem zm_only.one {M M' : zq_M} {Q : Nat → Prop} (h : zm_only M M' Q) : zm_one M M' := ⟨h.1, h.2.1⟩
theorem zs_rel.part {f : Nat → Int32} {n : Nat} {t : zq_T} (h : zs_rel f n t) {k : Nat} (hk : k < n) : zs_part f n t k 0 := ⟨h.1, fun j hj _ => h.2 j hj, (h.2 k hk).head⟩
section ZsB
variable {g : bq_G} {E : bq_E} {m n st k : Nat} {M : zq_M} {t : zq_T} {a : Int32}
theorem zm_step1 (H : zq_mod g E m M) (h : zi_bu n st t k) (hk : k < n) (hp : zs_part (M.1 1) n t k a) : ∃ E' M', tw_X7_builds E m (nI k) = some E' ∧ zq_mod g E' m M' ∧ zs_ints (M'.1 1) n (zt_b1 st t k) (a + nI (((zt_b1 st t k).2 k).2 3).length) ∧ (∀ j, j < n → zm_node (M'.1 1) j ((zt_b1 st t k).2 j)) ∧ zm_one M M' ∧ zq_same E E' m (m + 8) := by
  have h15 := h.1.1.2
  obtain ⟨i1, i2, i3⟩ := zi_bu_in h hk
  obtain ⟨⟨f0, f1, f2, f3, f4, f5, f6, f7⟩, p2, p3⟩ := hp
  have kid : ∀ s, (s = 1 ∨ s = 2) → M.1 1 (zm_at k + s) = (t.2 k).1 s → zm_kid (M.1 1) k (M.1 1 (zm_at k + s)) (zt_ent t ((t.2 k).1 s)) := by
    intro s hs e
    rw [e]
    rcases h.1.kid hk hs with q | ⟨c, q1, q2, q3, q4, q5, q6⟩
    · exact Or.inl ⟨q, by unfold zt_ent; rw [if_pos q]⟩
    · have hN := p2 c q2 q6
      refine Or.inr ⟨c, q1, by omega, q6, ?_⟩
      have e2 : zt_ent t ((t.2 k).1 s) = (t.2 c).2 3 := by
        unfold zt_ent
        rw [q1, if_neg (zn_m1 (by omega)), zt_ix_nI (by omega)]
      rw [e2]
      exact ⟨hN.2.2.2.1.1, hN.2.2.2.1.2.1⟩
  have hS : zm_src (M.1 1) k st ((t.2 k).2 0) (zt_ent t ((t.2 k).1 1)) (zt_ent t ((t.2 k).1 2)) := ⟨⟨p3.2.1.1, p3.2.1.2.1⟩, kid 1 (Or.inl rfl) p3.1.2.1, kid 2 (Or.inr rfl) p3.1.2.2, f2.trans h.2.2.1⟩
  obtain ⟨E1, M1, a1, H1, b1, o1, s1⟩ := zm_builds H (by omega) hS i1.2.2.2 (by rw [← i1.list.1.length_eq]; exact i3)
  rw [← i1.list.2.2] at b1
  have e3 : ((zt_b1 st t k).2 k).2 3 = (zl_list st ((t.2 k).2 0) (zt_ent t ((t.2 k).1 1)) (zt_ent t ((t.2 k).1 2))).map Prod.fst := by rw [zt_b1_k]; rfl
  have hat : zm_at k = 8 + 545 * k := rfl
  refine ⟨E1, M1, a1, H1, ⟨?_, ?_, ?_, ?_, ?_, ?_, ?_, ?_⟩, fun j hj => ?_, o1.one, s1⟩
  · exact (o1.2.2 0 (by rw [hat]; omega)).trans f0
  · exact (o1.2.2 1 (by rw [hat]; omega)).trans f1
  · exact (o1.2.2 2 (by rw [hat]; omega)).trans f2
  · exact (o1.2.2 3 (by rw [hat]; omega)).trans f3
  · exact (o1.2.2 4 (by rw [hat]; omega)).trans f4
  · rw [b1.2.2.1, f5]; rfl
  · rw [b1.2.2.2, f6, e3, List.length_map, Int32.add_assoc]; rfl
  · exact (o1.2.2 7 (by rw [hat]; omega)).trans f7
  · by_cases q : j = k
    · subst q
      rw [zt_b1_k]
      exact zm_node_built p3 (h.2.1 j hk).1 i1 b1 (fun a h1 h2 => o1.2.2 a (by rw [hat] at h1 h2 ⊢; omega))
    · rw [zt_b1_n st t q]
      refine (p2 j hj q).keep (h.2.2.2.2.2 j hj q) (fun a h1 h2 => o1.2.2 a ?_)
      have hatj : zm_at j = 8 + 545 * j := rfl
      rw [hat]
      rw [hatj] at h1 h2
      omega
theorem zm_up4 : ∀ (d N k : Nat) (a : Int32) (t : zq_T) (E1 : bq_E) (M1 : zq_M), d + 2 ≤ N → zi_bu n st t k → k < n → d = zt_d t k → zq_mod g E1 m M1 → zs_part (M1.1 1) n t k a →
    ∃ E2 M2, tl_X7_buildsUp_4 m N a (nI k) E1 = some ((zt_up st (d + 1) k a t).1, E2) ∧ zq_mod g E2 m M2 ∧ zs_rel (M2.1 1) n (zt_up st (d + 1) k a t).2 ∧ zm_one M1 M2 ∧ zq_same E1 E2 m (m + 8) := by
  intro d
  induction d with
  | zero =>
    intro N k a t E1 M1 hN h hk hd H1 hp
    obtain ⟨N, rfl⟩ : ∃ N', N = N' + 1 + 1 := ⟨N - 2, by omega⟩
    have h15 := h.1.1.2
    rw [tl_X7_buildsUp_4.eq_2, if_neg (zn_m1 (by omega))]
    obtain ⟨E2, M2, a2, H2, c2, d2, o2, s2⟩ := zm_step1 H1 h hk hp
    have hh : zm_has g E2 m M2 k ((zt_b1 st t k).2 k) := ⟨H2, by omega, d2 k hk, (zi_bu_step h hk).2.2.2.2 k hk⟩
    rw [a2]
    simp only [zq_bindE, zq_letE]
    rw [zm_o61 hh]
    simp only [zq_bindE, zq_letE]
    rw [zm_o0 hh, zt_b1_cint]
    simp only [zq_bindE, zq_letE]
    have hz := h.1.zer hk hd.symm
    have e0 : (t.2 k).1 0 = -1 := by rw [hz]; exact h.1.2.2.1.1
    rw [e0, tl_X7_buildsUp_4.eq_2, if_pos rfl]
    refine ⟨E2, M2, rfl, H2, ⟨?_, d2⟩, o2, s2⟩
    obtain ⟨f0, f1, f2, f3, f4, f5, f6, f7⟩ := c2
    refine ⟨f0, f1, f2, f3, f4, f5, ?_, f7⟩
    rw [f6]
    show _ = va_up (zt_b1 st t k).1 9 ((zt_b1 st t k).1 9 + (a + nI (((zt_b1 st t k).2 k).2 3).length)) 9 + 0
    rw [va_up_self, Int32.add_zero]
  | succ d ih =>
    intro N k a t E1 M1 hN h hk hd H1 hp
    obtain ⟨N, rfl⟩ : ∃ N', N = N' + 1 := ⟨N - 1, by omega⟩
    have h15 := h.1.1.2
    rw [tl_X7_buildsUp_4.eq_2, if_neg (zn_m1 (by omega))]
    obtain ⟨E2, M2, a2, H2, c2, d2, o2, s2⟩ := zm_step1 H1 h hk hp
    have hh : zm_has g E2 m M2 k ((zt_b1 st t k).2 k) := ⟨H2, by omega, d2 k hk, (zi_bu_step h hk).2.2.2.2 k hk⟩
    rw [a2]
    simp only [zq_bindE, zq_letE]
    rw [zm_o61 hh]
    simp only [zq_bindE, zq_letE]
    rw [zm_o0 hh, zt_b1_cint]
    simp only [zq_bindE, zq_letE]
    have h0 := h.1.pos hk (by omega)
    have hdp := h.1.dpar h0 hk
    have hpn := h.1.pn hk
    have hd2 := (zi_an_cint (zt_b1_cint st t k)).2.1
    rw [(h.1.2.2.2.1 k h0 hk).1]
    obtain ⟨E3, M3, a3, H3, r3, o3, s3⟩ := ih N (zi_par t k) (a + nI (((zt_b1 st t k).2 k).2 3).length) (zt_b1 st t k) E2 M2 (by omega) (zi_bu_par h hk h0) hpn (by rw [hd2]; omega) H2 ⟨c2, fun j hj _ => d2 j hj, (d2 _ hpn).head⟩
    exact ⟨E3, M3, a3, H3, r3, o2.trans o3, s2.trans s3⟩
theorem zm_buildsUp (H : zq_mod g E m M) (h : zi_bu n st t k) (hk : k < n) (hp : zs_part (M.1 1) n t k 0) : ∃ E' M', tw_X7_buildsUp E m (nI k) = some ((zt_up st (zt_d t k + 1) k 0 t).1, E') ∧ zq_mod g E' m M' ∧ zs_rel (M'.1 1) n (zt_up st (zt_d t k + 1) k 0 t).2 ∧ zm_one M M' ∧ zq_same E E' m (m + 8) := by
  unfold tw_X7_buildsUp
  rw [if_pos (zq_cls H.1)]
  have := h.1.d15 hk
  exact zm_up4 (zt_d t k) bq_fuel k 0 t E M (bq_fuel_le (by omega)) h hk rfl H hp
end ZsB
