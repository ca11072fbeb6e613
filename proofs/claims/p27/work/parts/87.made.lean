/-! The whole object and the reckoner, as made; the first relation. -/
section ZcB
variable {g : bq_G} {E : bq_E}
theorem zk_walk (W : Nat) : ∃ E', tn_X5_init g (va_up E W (.inr (5, [.null, .null, .int 0, .int 0, .int 0, .int 0, .int 0]))) (W + 1) W = some E' ∧ zq_walk g E' W [] [] (0, 0, 0, 0, 0) ∧ zq_same E E' W (W + 5) := by
  unfold tn_X5_init
  obtain ⟨E0, hE0⟩ : ∃ E0, E0 = va_up E W (.inr (5, [Value.null, .null, .int 0, .int 0, .int 0, .int 0, .int 0])) := ⟨_, rfl⟩
  have o0 : E0 W = .inr (5, [.null, .null, .int 0, .int 0, .int 0, .int 0, .int 0]) := by rw [hE0, va_up_self]
  have s0 : zq_same E E0 W (W + 5) := by rw [hE0]; exact zq_same.up (by omega)
  rw [← hE0]
  obtain ⟨E1, a1, r1, s1⟩ := zk_row (g := g) (E := E0) (W + 1) 15 (by omega)
  rw [show W + 1 + 0 = W + 1 from rfl, show (15 : Int32) = nI 15 from rfl, a1]
  simp only [zq_bindE]
  have o1 := (s1 W (by omega)).trans o0
  rw [zq_p _ o1 (by simp)]
  simp only [zq_bindE]
  obtain ⟨F1, hF1⟩ : ∃ F1, F1 = va_up E1 W (.inr (5, [Value.null, .null, .int 0, .int 0, .int 0, .int 0, .int 0].set 0 (.ref (W + 1)))) := ⟨_, rfl⟩
  rw [← hF1]
  have p1 : F1 W = .inr (5, [.ref (W + 1), .null, .int 0, .int 0, .int 0, .int 0, .int 0]) := by rw [hF1, va_up_self]; rfl
  have t1 : zq_same E1 F1 W (W + 1) := by rw [hF1]; exact zq_same.up (by omega)
  obtain ⟨E2, a2, r2, s2⟩ := zk_row (g := g) (E := F1) (W + 3) 15 (by omega)
  rw [show W + 1 + 2 = W + 3 from rfl, show W + 1 + 3 = W + 3 + 1 from rfl, a2]
  simp only [zq_bindE]
  have o2 := (s2 W (by omega)).trans p1
  rw [zq_p _ o2 (by simp)]
  obtain ⟨F2, hF2⟩ : ∃ F2, F2 = va_up E2 W (.inr (5, [Value.ref (W + 1), .null, .int 0, .int 0, .int 0, .int 0, .int 0].set 1 (.ref (W + 3)))) := ⟨_, rfl⟩
  rw [← hF2]
  have p2 : F2 W = .inr (5, [.ref (W + 1), .ref (W + 3), .int 0, .int 0, .int 0, .int 0, .int 0]) := by rw [hF2, va_up_self]; rfl
  have t2 : zq_same E2 F2 W (W + 1) := by rw [hF2]; exact zq_same.up (by omega)
  exact ⟨F2, rfl, ⟨p2, ((r1.same t1 (by omega)).same s2 (by omega)).same t2 (by omega), r2.same t2 (by omega)⟩, (((s0.trans (s1.wide (by omega) (by omega))).trans (t1.wide (by omega) (by omega))).trans (s2.wide (by omega) (by omega))).trans (t2.wide (by omega) (by omega))⟩
def zk_H (g : bq_G) (E : bq_E) (H i : Nat) : Prop := E H = .inr (1, [.ref (H + 1), .int 0, .int 0]) ∧ (∃ f : Nat → Option Nat, E (H + 1) = .inl (g.2.2.2.2, 4, .inr (.inr (.inr (.inr f)))) ∧ ∀ j, j < i → f j = some (H + 2 + 274 * j)) ∧ ∀ j, j < i → zq_tree g E (H + 2 + 274 * j) zk_t
theorem zk_hloop (H : Nat) : ∀ (N i : Nat) (E1 : bq_E), 4 - i < N → i ≤ 4 → zk_H g E1 H i → ∃ E2, tl_X1_init_14 g H (H + 1098) N (nI i) (H + 2 + 274 * i) E1 = some E2 ∧ zk_H g E2 H 4 ∧ zq_same E1 E2 H (H + 1098) := by
  intro N
  induction N with
  | zero => intro i E1 h; omega
  | succ N ih =>
    intro i E1 hN hi hT
    obtain ⟨o, ⟨f, fa, fb⟩, cs⟩ := id hT
    have r0 : bq_fr E1 H 1 0 = some (H + 1) := zq_fr o rfl
    rw [tl_X1_init_14.eq_2, r0]
    simp only [zq_bindE]
    rw [zq_len fa]
    simp only [zq_bindE]
    by_cases q : i < 4
    · rw [if_neg (nI_ge q (by omega)), if_pos (by omega)]
      obtain ⟨E2, a2, c2, s2⟩ := zk_tree (g := g) (E := E1) (H + 2 + 274 * i)
      rw [Nat.add_zero, a2]
      simp only [zq_bindE]
      have fa2 : E2 (H + 1) = .inl (g.2.2.2.2, 4, .inr (.inr (.inr (.inr f)))) := (s2 _ (by omega)).trans fa
      have hsr : bq_sr g E2 (H + 1) (nI i) (H + 2 + 274 * i) 4 = some (va_up E2 (H + 1) (.inl (g.2.2.2.2, 4, .inr (.inr (.inr (.inr (va_up f i (some (H + 2 + 274 * i))))))))) := by
        have h3 := nI_in q (by omega)
        unfold bq_sr
        rw [fa2]
        simp only []
        rw [if_pos (by refine ⟨zq_cls c2.1, ?_, h3⟩; simp), nI_clamp (by omega)]
      rw [hsr]
      simp only [zq_bindE, zq_letE]
      rw [nI_1]
      obtain ⟨F, hF⟩ : ∃ F, F = va_up E2 (H + 1) (.inl (g.2.2.2.2, 4, .inr (.inr (.inr (.inr (va_up f i (some (H + 2 + 274 * i)))))))) := ⟨_, rfl⟩
      rw [← hF]
      have tF : zq_same E2 F (H + 1) (H + 2) := by rw [hF]; exact zq_same.up (by omega)
      obtain ⟨E3, a3, b3, s3⟩ := ih (i + 1) F (by omega) (by omega) (by
        refine ⟨(tF _ (by omega)).trans ((s2 _ (by omega)).trans o), ⟨va_up f i (some (H + 2 + 274 * i)), by rw [hF, va_up_self], fun j hj => ?_⟩, fun j hj => ?_⟩
        · by_cases w : j = i
          · subst w; rw [va_up_self]
          · rw [va_up_ne _ _ w]; exact fb j (by omega)
        · by_cases w : j = i
          · subst w
            exact c2.same tF (by omega)
          · exact ((cs j (by omega)).same s2 (by omega)).same tF (by omega))
      rw [show H + 2 + 274 * i + 274 = H + 2 + 274 * (i + 1) by omega]
      exact ⟨E3, a3, b3, ((s2.wide (by omega) (by omega)).trans (tF.wide (by omega) (by omega))).trans s3⟩
    · have : i = 4 := by omega
      subst this
      rw [if_pos (nI_le (Nat.le_refl _) (by omega)), if_pos (by omega)]
      exact ⟨E1, rfl, hT, zq_same.refl⟩
theorem zk_hist (H : Nat) : ∃ E', tn_X1_init g (va_up E H (.inr (1, [.null, .int 0, .int 0]))) (H + 1) H = some E' ∧ zq_hist g E' H (fun _ => zk_t) 0 0 ∧ zq_same E E' H (H + 1098) := by
  unfold tn_X1_init
  obtain ⟨E0, hE0⟩ : ∃ E0, E0 = va_up (va_up E H (.inr (1, [Value.null, .int 0, .int 0]))) (H + 1 + 0) (.inl (g.2.2.2.2, 4, .inr (.inr (.inr (.inr (fun _ => none)))))) := ⟨_, rfl⟩
  have o0 : E0 H = .inr (1, [.null, .int 0, .int 0]) := by rw [hE0, va_up_ne _ _ (by omega), va_up_self]
  have f0 : E0 (H + 1) = .inl (g.2.2.2.2, 4, .inr (.inr (.inr (.inr (fun _ => none))))) := by rw [hE0]; exact va_up_self _ _ _
  have s0 : zq_same E E0 H (H + 1098) := by rw [hE0]; exact (zq_same.up (by omega)).trans (zq_same.up (by omega))
  rw [← hE0, zq_p _ o0 (by simp)]
  simp only [zq_bindE]
  obtain ⟨F1, hF1⟩ : ∃ F1, F1 = va_up E0 H (.inr (1, [Value.null, .int 0, .int 0].set 0 (.ref (H + 1 + 0)))) := ⟨_, rfl⟩
  rw [← hF1]
  have p1 : F1 H = .inr (1, [.ref (H + 1), .int 0, .int 0]) := by rw [hF1, va_up_self]; rfl
  have t1 : zq_same E0 F1 H (H + 1) := by rw [hF1]; exact zq_same.up (by omega)
  obtain ⟨E2, a2, b2, s2⟩ := zk_hloop (g := g) H bq_fuel 0 F1 (bq_fuel_ge (by omega)) (Nat.zero_le _) ⟨p1, ⟨fun _ => none, (t1 _ (by omega)).trans f0, fun j hj => absurd hj (by omega)⟩, fun j hj => absurd hj (by omega)⟩
  rw [show H + 1 + 1097 = H + 1098 from rfl, show H + 1 + 1 = H + 2 + 274 * 0 from rfl, show (0 : Int32) = nI 0 from rfl, a2]
  exact ⟨E2, rfl, ⟨b2.1, b2.2.1, b2.2.2⟩, (s0.trans (t1.wide (by omega) (by omega))).trans s2⟩
theorem zk_face (z : Nat) : ∃ E', tn_X6_init g (va_up E z (.inr (6, [.null, .null, .null]))) (z + 1) z = some E' ∧ zq_face g E' z zk_t (fun _ => zk_t) 0 0 ∧ zq_same E E' z (z + 1378) := by
  unfold tn_X6_init
  obtain ⟨E0, hE0⟩ : ∃ E0, E0 = va_up E z (.inr (6, [Value.null, .null, .null])) := ⟨_, rfl⟩
  have o0 : E0 z = .inr (6, [.null, .null, .null]) := by rw [hE0, va_up_self]
  have s0 : zq_same E E0 z (z + 1378) := by rw [hE0]; exact zq_same.up (by omega)
  rw [← hE0]
  obtain ⟨E1, a1, r1, s1⟩ := zk_tree (g := g) (E := E0) (z + 1)
  rw [show z + 1 + 0 = z + 1 from rfl, a1]
  simp only [zq_bindE]
  have o1 := (s1 z (by omega)).trans o0
  rw [zq_p _ o1 (by simp)]
  simp only [zq_bindE]
  obtain ⟨F1, hF1⟩ : ∃ F1, F1 = va_up E1 z (.inr (6, [Value.null, .null, .null].set 0 (.ref (z + 1)))) := ⟨_, rfl⟩
  rw [← hF1]
  have p1 : F1 z = .inr (6, [.ref (z + 1), .null, .null]) := by rw [hF1, va_up_self]; rfl
  have t1 : zq_same E1 F1 z (z + 1) := by rw [hF1]; exact zq_same.up (by omega)
  obtain ⟨E2, a2, r2, s2⟩ := zk_walk (g := g) (E := F1) (z + 275)
  rw [show z + 1 + 274 = z + 275 from rfl, show z + 1 + 275 = z + 275 + 1 from rfl, a2]
  simp only [zq_bindE]
  have o2 := (s2 z (by omega)).trans p1
  rw [zq_p _ o2 (by simp)]
  simp only [zq_bindE]
  obtain ⟨F2, hF2⟩ : ∃ F2, F2 = va_up E2 z (.inr (6, [Value.ref (z + 1), .null, .null].set 1 (.ref (z + 275)))) := ⟨_, rfl⟩
  rw [← hF2]
  have p2 : F2 z = .inr (6, [.ref (z + 1), .ref (z + 275), .null]) := by rw [hF2, va_up_self]; rfl
  have t2 : zq_same E2 F2 z (z + 1) := by rw [hF2]; exact zq_same.up (by omega)
  obtain ⟨E3, a3, r3, s3⟩ := zk_hist (g := g) (E := F2) (z + 280)
  rw [show z + 1 + 279 = z + 280 from rfl, show z + 1 + 280 = z + 280 + 1 from rfl, a3]
  simp only [zq_bindE]
  have o3 := (s3 z (by omega)).trans p2
  rw [zq_p _ o3 (by simp)]
  obtain ⟨F3, hF3⟩ : ∃ F3, F3 = va_up E3 z (.inr (6, [Value.ref (z + 1), .ref (z + 275), .null].set 2 (.ref (z + 280)))) := ⟨_, rfl⟩
  rw [← hF3]
  have p3 : F3 z = .inr (6, [.ref (z + 1), .ref (z + 275), .ref (z + 280)]) := by rw [hF3, va_up_self]; rfl
  have t3 : zq_same E3 F3 z (z + 1) := by rw [hF3]; exact zq_same.up (by omega)
  refine ⟨F3, rfl, ⟨p3, ((((r1.same t1 (by omega)).same s2 (by omega)).same t2 (by omega)).same s3 (by omega)).same t3 (by omega), ⟨[], [], _, ((r2.same t2 (by omega)).same s3 (by omega)).same t3 (by omega)⟩, r3.same t3 (by omega)⟩, ?_⟩
  exact (((((s0.trans (s1.wide (by omega) (by omega))).trans (t1.wide (by omega) (by omega))).trans (s2.wide (by omega) (by omega))).trans (t2.wide (by omega) (by omega))).trans (s3.wide (by omega) (by omega))).trans (t3.wide (by omega) (by omega))
end ZcB
theorem zk_hc : zi_hc zk_v := by
  refine ⟨⟨⟨rfl, Nat.zero_le _⟩, Nat.zero_le _, ?_, ?_, ?_⟩, ⟨List.Pairwise.nil, List.Pairwise.nil, ?_, rfl⟩, Nat.zero_le _, Nat.zero_le _⟩
  · intro x hx; cases hx
  · intro x hx; cases hx
  · intro x hx; cases hx
  · intro x hx; cases hx
theorem zk_ok (k : Nat) : zw_ok zk_t k := by
  refine ⟨rfl, fun b hb => ?_⟩
  have : b ∈ [0] := hb
  rw [List.mem_singleton.mp this]
  exact Nat.zero_le _
theorem zk_inv : zi_inv 1 zk_t := by
  have hsh : zi_shape 1 zk_t := by
    refine ⟨⟨by omega, by omega⟩, rfl, ⟨rfl, rfl⟩, fun k h0 hk => absurd hk (by omega), fun k s hk hs => Or.inl ?_, fun k hk _ => rfl⟩
    rcases hs with rfl | rfl <;> rfl
  refine ⟨hsh, ⟨4, rfl, by omega, by omega⟩, ⟨2, rfl, by omega, by omega⟩, fun k hk => zk_hc, fun k hk => ?_, fun k _ _ => zk_ok k⟩
  have el : zt_ent zk_t ((zk_t.2 k).1 1) = [] := if_pos rfl
  have er : zt_ent zk_t ((zk_t.2 k).1 2) = [] := if_pos rfl
  refine ⟨2, ⟨by omega, by omega⟩, ?_, fun j h3 h8 => ?_, Nat.zero_le _⟩
  · rw [el, er]
    refine ⟨List.Pairwise.nil, List.Pairwise.nil, List.Pairwise.nil, ⟨by omega, by omega⟩, Nat.zero_le _, Nat.zero_le _, Nat.zero_le _, ?_, ?_, ?_⟩
    · intro x hx; cases hx
    · intro x hx; cases hx
    · intro x hx; cases hx
  · rw [el, er]
    have hq : j = 3 ∨ j = 4 ∨ j = 5 ∨ j = 6 ∨ j = 7 := by omega
    rcases hq with rfl | rfl | rfl | rfl | rfl <;> rfl
