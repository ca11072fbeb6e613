/-! The constructors give the first state. -/
def zk_v : zq_N := (fun i => if i < 3 then -1 else 0, fun j => if j < 5 then [] else [0])
def zk_t : zq_T := (fun i => if i = 3 then 1 else if i = 4 then 4 else if i = 5 then 2 else 0, fun _ => zk_v)
section ZcA
variable {g : bq_G} {E : bq_E}
theorem zk_row (h cap : Nat) (hc : cap ≤ 1000) : ∃ E', tn_X3_init g (va_up E h (.inr (3, [.null, .int 0]))) (h + 1) h (nI cap) cap = some E' ∧ zn_row g E' h cap [] ∧ zq_same E E' h (h + 2) := by
  have key : ∀ k : Nat, k = cap → ∃ E', ((bq_p (va_up (va_up E h (.inr (3, [.null, .int 0]))) (h + 1) (.inl (g.2.1, k, .inl (fun _ => 0)))) h 3 0 (.ref (h + 1))).bind fun E2 => some E2) = some E' ∧ zn_row g E' h cap [] ∧ zq_same E E' h (h + 2) := by
    intro k hk
    subst hk
    have e : va_up (va_up E h (.inr (3, [Value.null, Value.int 0]))) (h + 1) (.inl (g.2.1, k, .inl (fun _ => 0))) h = .inr (3, [.null, .int 0]) := by
      rw [va_up_ne _ _ (by omega), va_up_self]
    rw [zq_p _ e (by simp)]
    refine ⟨_, rfl, ⟨⟨?_, ⟨Nat.zero_le _, hc⟩, fun _ => 0, ?_, fun i hi => absurd hi (by simp)⟩, fun x hx => by cases hx⟩, ((zq_same.up (by omega)).trans (zq_same.up (by omega))).trans (zq_same.up (by omega))⟩
    · rw [va_up_self]; rfl
    · rw [va_up_ne _ _ (by omega), va_up_self]
  unfold tn_X3_init
  by_cases q : cap = 0
  · rw [if_pos (show nI cap ≤ 0 by rw [q]; decide)]
    exact key 0 q.symm
  · rw [if_neg (nI_nle (by omega) (by omega))]
    exact key cap rfl
theorem zk_listing (c : Nat) : ∃ E', tn_X2_init g (va_up E (c + 7) (.inr (2, [.null, .null, .null, .null, .null]))) (c + 8) (c + 7) = some E' ∧ E' (c + 7) = .inr (2, [.ref (c + 8), .ref (c + 10), .ref (c + 12), .ref (c + 14), .ref (c + 16)]) ∧ zn_row g E' (c + 8) 96 [] ∧ zn_row g E' (c + 10) 96 [] ∧ zn_row g E' (c + 12) 97 [0] ∧ zn_row g E' (c + 14) 97 [0] ∧ zn_row g E' (c + 16) 97 [0] ∧ zq_same E E' (c + 7) (c + 18) := by
  unfold tn_X2_init
  obtain ⟨E0, hE0⟩ : ∃ E0, E0 = va_up E (c + 7) (.inr (2, [Value.null, .null, .null, .null, .null])) := ⟨_, rfl⟩
  have o0 : E0 (c + 7) = .inr (2, [.null, .null, .null, .null, .null]) := by rw [hE0, va_up_self]
  have s0 : zq_same E E0 (c + 7) (c + 18) := by rw [hE0]; exact zq_same.up (by omega)
  rw [← hE0]
  obtain ⟨E1, a1, r1, s1⟩ := zk_row (g := g) (E := E0) (c + 8) 96 (by omega)
  rw [show c + 8 + 0 = c + 8 from rfl, show (96 : Int32) = nI 96 from rfl, a1]
  simp only [zq_bindE]
  have o1 : E1 (c + 7) = .inr (2, [.null, .null, .null, .null, .null]) := (s1 _ (by omega)).trans o0
  rw [zq_p _ o1 (by simp)]
  simp only [zq_bindE]
  obtain ⟨F1, hF1⟩ : ∃ F1, F1 = va_up E1 (c + 7) (.inr (2, [Value.null, .null, .null, .null, .null].set 0 (.ref (c + 8)))) := ⟨_, rfl⟩
  rw [← hF1]
  have p1 : F1 (c + 7) = .inr (2, [.ref (c + 8), .null, .null, .null, .null]) := by rw [hF1, va_up_self]; rfl
  have t1 : zq_same E1 F1 (c + 7) (c + 8) := by rw [hF1]; exact zq_same.up (by omega)
  obtain ⟨E2, a2, r2, s2⟩ := zk_row (g := g) (E := F1) (c + 10) 96 (by omega)
  rw [show c + 8 + 2 = c + 10 from rfl, show c + 8 + 3 = c + 10 + 1 from rfl, a2]
  simp only [zq_bindE]
  have o2 : E2 (c + 7) = .inr (2, [.ref (c + 8), .null, .null, .null, .null]) := (s2 _ (by omega)).trans p1
  rw [zq_p _ o2 (by simp)]
  simp only [zq_bindE]
  obtain ⟨F2, hF2⟩ : ∃ F2, F2 = va_up E2 (c + 7) (.inr (2, [Value.ref (c + 8), .null, .null, .null, .null].set 1 (.ref (c + 10)))) := ⟨_, rfl⟩
  rw [← hF2]
  have p2 : F2 (c + 7) = .inr (2, [.ref (c + 8), .ref (c + 10), .null, .null, .null]) := by rw [hF2, va_up_self]; rfl
  have t2 : zq_same E2 F2 (c + 7) (c + 8) := by rw [hF2]; exact zq_same.up (by omega)
  obtain ⟨E3, a3, r3, s3⟩ := zk_row (g := g) (E := F2) (c + 12) 97 (by omega)
  rw [show c + 8 + 4 = c + 12 from rfl, show c + 8 + 5 = c + 12 + 1 from rfl, show (97 : Int32) = nI 97 from rfl, a3]
  simp only [zq_bindE]
  have o3 : E3 (c + 7) = .inr (2, [.ref (c + 8), .ref (c + 10), .null, .null, .null]) := (s3 _ (by omega)).trans p2
  rw [zq_p _ o3 (by simp)]
  simp only [zq_bindE]
  obtain ⟨F3, hF3⟩ : ∃ F3, F3 = va_up E3 (c + 7) (.inr (2, [Value.ref (c + 8), .ref (c + 10), .null, .null, .null].set 2 (.ref (c + 12)))) := ⟨_, rfl⟩
  rw [← hF3]
  have p3 : F3 (c + 7) = .inr (2, [.ref (c + 8), .ref (c + 10), .ref (c + 12), .null, .null]) := by rw [hF3, va_up_self]; rfl
  have t3 : zq_same E3 F3 (c + 7) (c + 8) := by rw [hF3]; exact zq_same.up (by omega)
  obtain ⟨E4, a4, r4, s4⟩ := zk_row (g := g) (E := F3) (c + 14) 97 (by omega)
  rw [show c + 8 + 6 = c + 14 from rfl, show c + 8 + 7 = c + 14 + 1 from rfl, a4]
  simp only [zq_bindE]
  have o4 : E4 (c + 7) = .inr (2, [.ref (c + 8), .ref (c + 10), .ref (c + 12), .null, .null]) := (s4 _ (by omega)).trans p3
  rw [zq_p _ o4 (by simp)]
  simp only [zq_bindE]
  obtain ⟨F4, hF4⟩ : ∃ F4, F4 = va_up E4 (c + 7) (.inr (2, [Value.ref (c + 8), .ref (c + 10), .ref (c + 12), .null, .null].set 3 (.ref (c + 14)))) := ⟨_, rfl⟩
  rw [← hF4]
  have p4 : F4 (c + 7) = .inr (2, [.ref (c + 8), .ref (c + 10), .ref (c + 12), .ref (c + 14), .null]) := by rw [hF4, va_up_self]; rfl
  have t4 : zq_same E4 F4 (c + 7) (c + 8) := by rw [hF4]; exact zq_same.up (by omega)
  obtain ⟨E5, a5, r5, s5⟩ := zk_row (g := g) (E := F4) (c + 16) 97 (by omega)
  rw [show c + 8 + 8 = c + 16 from rfl, show c + 8 + 9 = c + 16 + 1 from rfl, a5]
  simp only [zq_bindE]
  have o5 : E5 (c + 7) = .inr (2, [.ref (c + 8), .ref (c + 10), .ref (c + 12), .ref (c + 14), .null]) := (s5 _ (by omega)).trans p4
  rw [zq_p _ o5 (by simp)]
  simp only [zq_bindE]
  obtain ⟨F5, hF5⟩ : ∃ F5, F5 = va_up E5 (c + 7) (.inr (2, [Value.ref (c + 8), .ref (c + 10), .ref (c + 12), .ref (c + 14), .null].set 4 (.ref (c + 16)))) := ⟨_, rfl⟩
  rw [← hF5]
  have p5 : F5 (c + 7) = .inr (2, [.ref (c + 8), .ref (c + 10), .ref (c + 12), .ref (c + 14), .ref (c + 16)]) := by rw [hF5, va_up_self]; rfl
  have t5 : zq_same E5 F5 (c + 7) (c + 8) := by rw [hF5]; exact zq_same.up (by omega)
  have u5 : zn_row g F5 (c + 16) 97 [] := r5.same t5 (by omega)
  have u4 : zn_row g F5 (c + 14) 97 [] := (((r4.same t4 (by omega)).same s5 (by omega)).same t5 (by omega))
  have u3 : zn_row g F5 (c + 12) 97 [] := (((((r3.same t3 (by omega)).same s4 (by omega)).same t4 (by omega)).same s5 (by omega)).same t5 (by omega))
  have u2 : zn_row g F5 (c + 10) 96 [] := (((((((r2.same t2 (by omega)).same s3 (by omega)).same t3 (by omega)).same s4 (by omega)).same t4 (by omega)).same s5 (by omega)).same t5 (by omega))
  have u1 : zn_row g F5 (c + 8) 96 [] := (((((((((r1.same t1 (by omega)).same s2 (by omega)).same t2 (by omega)).same s3 (by omega)).same t3 (by omega)).same s4 (by omega)).same t4 (by omega)).same s5 (by omega)).same t5 (by omega))
  have su : zq_same E F5 (c + 7) (c + 18) := ((((((((((s0.trans (s1.wide (by omega) (by omega))).trans (t1.wide (by omega) (by omega))).trans (s2.wide (by omega) (by omega))).trans (t2.wide (by omega) (by omega))).trans (s3.wide (by omega) (by omega))).trans (t3.wide (by omega) (by omega))).trans (s4.wide (by omega) (by omega))).trans (t4.wide (by omega) (by omega))).trans (s5.wide (by omega) (by omega))).trans (t5.wide (by omega) (by omega)))
  have f2 : bq_fr F5 (c + 7) 2 2 = some (c + 12) := zq_fr p5 rfl
  rw [f2]
  simp only [zq_bindE]
  obtain ⟨E6, a6, r6, s6⟩ := zn_append u3 (by simp) (v := 0) (by omega)
  rw [show (0 : Int32) = nI 0 from rfl, a6]
  simp only [zq_bindE]
  have p6 := (s6 (c + 7) (by omega)).trans p5
  have f3 : bq_fr E6 (c + 7) 2 3 = some (c + 14) := zq_fr p6 rfl
  rw [f3]
  simp only [zq_bindE]
  obtain ⟨E7, a7, r7, s7⟩ := zn_append (u4.same s6 (by omega)) (by simp) (v := 0) (by omega)
  rw [a7]
  simp only [zq_bindE]
  have p7 := (s7 (c + 7) (by omega)).trans p6
  have f4 : bq_fr E7 (c + 7) 2 4 = some (c + 16) := zq_fr p7 rfl
  rw [f4]
  simp only [zq_bindE]
  obtain ⟨E8, a8, r8, s8⟩ := zn_append ((u5.same s6 (by omega)).same s7 (by omega)) (by simp) (v := 0) (by omega)
  rw [a8]
  exact ⟨E8, rfl, (s8 (c + 7) (by omega)).trans p7, ((u1.same s6 (by omega)).same s7 (by omega)).same s8 (by omega), ((u2.same s6 (by omega)).same s7 (by omega)).same s8 (by omega), (r6.same s7 (by omega)).same s8 (by omega), r7.same s8 (by omega), r8, ((su.trans (s6.wide (by omega) (by omega))).trans (s7.wide (by omega) (by omega))).trans (s8.wide (by omega) (by omega))⟩
theorem zk_cat (c : Nat) : ∃ E', tn_X0_init g (va_up E c (.inr (0, [.int 0, .int 0, .int 0, .int 0, .int 0, .null, .null, .null, .null]))) (c + 1) c = some E' ∧ zq_cat g E' c zk_v ∧ zq_same E E' c (c + 18) := by
  unfold tn_X0_init
  obtain ⟨E0, hE0⟩ : ∃ E0, E0 = va_up E c (.inr (0, [Value.int 0, .int 0, .int 0, .int 0, .int 0, .null, .null, .null, .null])) := ⟨_, rfl⟩
  have o0 : E0 c = .inr (0, [.int 0, .int 0, .int 0, .int 0, .int 0, .null, .null, .null, .null]) := by rw [hE0, va_up_self]
  have s0 : zq_same E E0 c (c + 18) := by rw [hE0]; exact zq_same.up (by omega)
  rw [← hE0, zq_p _ o0 (by simp)]
  simp only [zq_bindE]
  obtain ⟨F1, hF1⟩ : ∃ F1, F1 = va_up E0 c (.inr (0, [Value.int 0, .int 0, .int 0, .int 0, .int 0, .null, .null, .null, .null].set 0 (.int (-1)))) := ⟨_, rfl⟩
  rw [← hF1]
  have p1 : F1 c = .inr (0, [.int (-1), .int 0, .int 0, .int 0, .int 0, .null, .null, .null, .null]) := by rw [hF1, va_up_self]; rfl
  have t1 : zq_same E0 F1 c (c + 18) := by rw [hF1]; exact zq_same.up (by omega)
  rw [zq_p _ p1 (by simp)]
  simp only [zq_bindE]
  obtain ⟨F2, hF2⟩ : ∃ F2, F2 = va_up F1 c (.inr (0, [Value.int (-1), .int 0, .int 0, .int 0, .int 0, .null, .null, .null, .null].set 1 (.int (-1)))) := ⟨_, rfl⟩
  rw [← hF2]
  have p2 : F2 c = .inr (0, [.int (-1), .int (-1), .int 0, .int 0, .int 0, .null, .null, .null, .null]) := by rw [hF2, va_up_self]; rfl
  have t2 : zq_same F1 F2 c (c + 18) := by rw [hF2]; exact zq_same.up (by omega)
  rw [zq_p _ p2 (by simp)]
  simp only [zq_bindE]
  obtain ⟨F3, hF3⟩ : ∃ F3, F3 = va_up F2 c (.inr (0, [Value.int (-1), .int (-1), .int 0, .int 0, .int 0, .null, .null, .null, .null].set 2 (.int (-1)))) := ⟨_, rfl⟩
  rw [← hF3]
  have p3 : F3 c = .inr (0, [.int (-1), .int (-1), .int (-1), .int 0, .int 0, .null, .null, .null, .null]) := by rw [hF3, va_up_self]; rfl
  have t3 : zq_same F2 F3 c (c + 18) := by rw [hF3]; exact zq_same.up (by omega)
  obtain ⟨E4, a4, r4, s4⟩ := zk_row (g := g) (E := F3) (c + 1) 24 (by omega)
  rw [show c + 1 + 0 = c + 1 from rfl, show (24 : Int32) = nI 24 from rfl, a4]
  simp only [zq_bindE]
  have o4 := (s4 c (by omega)).trans p3
  rw [zq_p _ o4 (by simp)]
  simp only [zq_bindE]
  obtain ⟨F4, hF4⟩ : ∃ F4, F4 = va_up E4 c (.inr (0, [Value.int (-1), .int (-1), .int (-1), .int 0, .int 0, .null, .null, .null, .null].set 5 (.ref (c + 1)))) := ⟨_, rfl⟩
  rw [← hF4]
  have p4 : F4 c = .inr (0, [.int (-1), .int (-1), .int (-1), .int 0, .int 0, .ref (c + 1), .null, .null, .null]) := by rw [hF4, va_up_self]; rfl
  have t4 : zq_same E4 F4 c (c + 1) := by rw [hF4]; exact zq_same.up (by omega)
  obtain ⟨E5, a5, r5, s5⟩ := zk_row (g := g) (E := F4) (c + 3) 24 (by omega)
  rw [show c + 1 + 2 = c + 3 from rfl, show c + 1 + 3 = c + 3 + 1 from rfl, a5]
  simp only [zq_bindE]
  have o5 := (s5 c (by omega)).trans p4
  rw [zq_p _ o5 (by simp)]
  simp only [zq_bindE]
  obtain ⟨F5, hF5⟩ : ∃ F5, F5 = va_up E5 c (.inr (0, [Value.int (-1), .int (-1), .int (-1), .int 0, .int 0, .ref (c + 1), .null, .null, .null].set 6 (.ref (c + 3)))) := ⟨_, rfl⟩
  rw [← hF5]
  have p5 : F5 c = .inr (0, [.int (-1), .int (-1), .int (-1), .int 0, .int 0, .ref (c + 1), .ref (c + 3), .null, .null]) := by rw [hF5, va_up_self]; rfl
  have t5 : zq_same E5 F5 c (c + 1) := by rw [hF5]; exact zq_same.up (by omega)
  obtain ⟨E6, a6, r6, s6⟩ := zk_row (g := g) (E := F5) (c + 5) 8 (by omega)
  rw [show c + 1 + 4 = c + 5 from rfl, show c + 1 + 5 = c + 5 + 1 from rfl, show (8 : Int32) = nI 8 from rfl, a6]
  simp only [zq_bindE]
  have o6 := (s6 c (by omega)).trans p5
  rw [zq_p _ o6 (by simp)]
  simp only [zq_bindE]
  obtain ⟨F6, hF6⟩ : ∃ F6, F6 = va_up E6 c (.inr (0, [Value.int (-1), .int (-1), .int (-1), .int 0, .int 0, .ref (c + 1), .ref (c + 3), .null, .null].set 7 (.ref (c + 5)))) := ⟨_, rfl⟩
  rw [← hF6]
  have p6 : F6 c = .inr (0, [.int (-1), .int (-1), .int (-1), .int 0, .int 0, .ref (c + 1), .ref (c + 3), .ref (c + 5), .null]) := by rw [hF6, va_up_self]; rfl
  have t6 : zq_same E6 F6 c (c + 1) := by rw [hF6]; exact zq_same.up (by omega)
  obtain ⟨E7, a7, l1, l2, l3, l4, l5, l6, s7⟩ := zk_listing (g := g) (E := F6) c
  rw [show c + 1 + 6 = c + 7 from rfl, show c + 1 + 7 = c + 8 from rfl, a7]
  simp only [zq_bindE]
  have o7 := (s7 c (by omega)).trans p6
  rw [zq_p _ o7 (by simp)]
  simp only [zq_bindE]
  obtain ⟨F7, hF7⟩ : ∃ F7, F7 = va_up E7 c (.inr (0, [Value.int (-1), .int (-1), .int (-1), .int 0, .int 0, .ref (c + 1), .ref (c + 3), .ref (c + 5), .null].set 8 (.ref (c + 7)))) := ⟨_, rfl⟩
  rw [← hF7]
  have p7 : F7 c = .inr (0, [.int (-1), .int (-1), .int (-1), .int 0, .int 0, .ref (c + 1), .ref (c + 3), .ref (c + 5), .ref (c + 7)]) := by rw [hF7, va_up_self]; rfl
  have t7 : zq_same E7 F7 c (c + 1) := by rw [hF7]; exact zq_same.up (by omega)
  have v3 : zn_row g F7 (c + 5) 8 [] := ((r6.same t6 (by omega)).same s7 (by omega)).same t7 (by omega)
  have v2 : zn_row g F7 (c + 3) 24 [] := ((((r5.same t5 (by omega)).same s6 (by omega)).same t6 (by omega)).same s7 (by omega)).same t7 (by omega)
  have v1 : zn_row g F7 (c + 1) 24 [] := ((((((r4.same t4 (by omega)).same s5 (by omega)).same t5 (by omega)).same s6 (by omega)).same t6 (by omega)).same s7 (by omega)).same t7 (by omega)
  refine ⟨F7, rfl, ⟨p7, (t7 _ (by omega)).trans l1, fun j hj => ?_⟩, ((((((((((s0.trans t1).trans t2).trans t3).trans (s4.wide (by omega) (by omega))).trans (t4.wide (by omega) (by omega))).trans (s5.wide (by omega) (by omega))).trans (t5.wide (by omega) (by omega))).trans (s6.wide (by omega) (by omega))).trans (t6.wide (by omega) (by omega))).trans (s7.wide (by omega) (by omega))).trans (t7.wide (by omega) (by omega))⟩
  have hq : j = 0 ∨ j = 1 ∨ j = 2 ∨ j = 3 ∨ j = 4 ∨ j = 5 ∨ j = 6 ∨ j = 7 := by omega
  rcases hq with rfl | rfl | rfl | rfl | rfl | rfl | rfl | rfl
  · exact v1
  · exact v2
  · exact v3
  · exact l2.same t7 (by omega)
  · exact l3.same t7 (by omega)
  · exact l4.same t7 (by omega)
  · exact l5.same t7 (by omega)
  · exact l6.same t7 (by omega)
def zk_obj (T : Nat) : va_E := .inr (4, [.ref (T + 1), .ref (T + 2), .ref (T + 20), .int 1, .int 4, .int 2, .int 0, .int 0, .int 0, .int 0, .int 0])
def zk_T (g : bq_G) (E : bq_E) (T i : Nat) : Prop := E T = zk_obj T ∧ (∃ f : Nat → Option Nat, E (T + 1) = .inl (g.2.2.2.1, 15, .inr (.inr (.inr (.inr f)))) ∧ ∀ j, j < i → f j = some (zq_ca T j)) ∧ zn_row g E (T + 20) 0 [] ∧ ∀ j, j < i → zq_cat g E (zq_ca T j) zk_v
theorem zk_loop (T : Nat) : ∀ (N i : Nat) (E1 : bq_E), 15 - i < N → 1 ≤ i → i ≤ 15 → zk_T g E1 T i → ∃ E2, tl_X4_init_63 g T (T + 274) N (nI i) (T + 4 + 18 * i) E1 = some E2 ∧ zk_T g E2 T 15 ∧ zq_same E1 E2 T (T + 274) := by
  intro N
  induction N with
  | zero => intro i E1 h; omega
  | succ N ih =>
    intro i E1 hN h1 hi hT
    obtain ⟨o, ⟨f, fa, fb⟩, r, cs⟩ := id hT
    have r0 : bq_fr E1 T 4 0 = some (T + 1) := zq_fr o rfl
    rw [tl_X4_init_63.eq_2, r0]
    simp only [zq_bindE]
    rw [zq_len fa]
    simp only [zq_bindE]
    by_cases q : i < 15
    · have eca : zq_ca T i = T + 4 + 18 * i := by unfold zq_ca; rw [if_neg (by omega)]
      rw [if_neg (nI_ge q (by omega)), if_pos (by omega)]
      obtain ⟨E2, a2, c2, s2⟩ := zk_cat (g := g) (E := E1) (T + 4 + 18 * i)
      rw [Nat.add_zero, a2]
      simp only [zq_bindE]
      have fa2 : E2 (T + 1) = .inl (g.2.2.2.1, 15, .inr (.inr (.inr (.inr f)))) := (s2 _ (by omega)).trans fa
      have hsr : bq_sr g E2 (T + 1) (nI i) (T + 4 + 18 * i) 0 = some (va_up E2 (T + 1) (.inl (g.2.2.2.1, 15, .inr (.inr (.inr (.inr (va_up f i (some (T + 4 + 18 * i))))))))) := by
        have h3 := nI_in q (by omega)
        unfold bq_sr
        rw [fa2]
        simp only []
        rw [if_pos (by refine ⟨zq_cls c2.1, ?_, h3⟩; simp), nI_clamp (by omega)]
      rw [hsr]
      simp only [zq_bindE, zq_letE]
      rw [nI_1]
      obtain ⟨F, hF⟩ : ∃ F, F = va_up E2 (T + 1) (.inl (g.2.2.2.1, 15, .inr (.inr (.inr (.inr (va_up f i (some (T + 4 + 18 * i)))))))) := ⟨_, rfl⟩
      rw [← hF]
      have tF : zq_same E2 F (T + 1) (T + 2) := by rw [hF]; exact zq_same.up (by omega)
      obtain ⟨E3, a3, b3, s3⟩ := ih (i + 1) F (by omega) (by omega) (by omega) (by
        refine ⟨(tF _ (by omega)).trans ((s2 _ (by omega)).trans o), ⟨va_up f i (some (T + 4 + 18 * i)), by rw [hF, va_up_self], fun j hj => ?_⟩, (r.same s2 (by omega)).same tF (by omega), fun j hj => ?_⟩
        · by_cases w : j = i
          · subst w; rw [va_up_self, eca]
          · rw [va_up_ne _ _ w]; exact fb j (by omega)
        · have hin := zq_ca_in (T := T) (k := j) (by omega)
          by_cases w : j = i
          · subst w
            rw [eca]
            exact c2.same tF (by omega)
          · have hap := zq_ca_apart (T := T) w
            exact ((cs j (by omega)).same s2 (by omega)).same tF (by omega))
      rw [show T + 4 + 18 * i + 18 = T + 4 + 18 * (i + 1) by omega]
      exact ⟨E3, a3, b3, ((s2.wide (by omega) (by omega)).trans (tF.wide (by omega) (by omega))).trans s3⟩
    · have : i = 15 := by omega
      subst this
      rw [if_pos (nI_le (Nat.le_refl _) (by omega)), if_pos (by omega)]
      exact ⟨E1, rfl, hT, zq_same.refl⟩
theorem zk_tree (T : Nat) : ∃ E', tn_X4_init g (va_up E T (.inr (4, [.null, .null, .null, .int 0, .int 0, .int 0, .int 0, .int 0, .int 0, .int 0, .int 0]))) (T + 1) T = some E' ∧ zq_tree g E' T zk_t ∧ zq_same E E' T (T + 274) := by
  unfold tn_X4_init
  obtain ⟨E0, hE0⟩ : ∃ E0, E0 = va_up (va_up E T (.inr (4, [Value.null, .null, .null, .int 0, .int 0, .int 0, .int 0, .int 0, .int 0, .int 0, .int 0]))) (T + 1 + 0) (.inl (g.2.2.2.1, 15, .inr (.inr (.inr (.inr (fun _ => none)))))) := ⟨_, rfl⟩
  have o0 : E0 T = .inr (4, [.null, .null, .null, .int 0, .int 0, .int 0, .int 0, .int 0, .int 0, .int 0, .int 0]) := by rw [hE0, va_up_ne _ _ (by omega), va_up_self]
  have f0 : E0 (T + 1) = .inl (g.2.2.2.1, 15, .inr (.inr (.inr (.inr (fun _ => none))))) := by rw [hE0]; exact va_up_self _ _ _
  have s0 : zq_same E E0 T (T + 274) := by rw [hE0]; exact (zq_same.up (by omega)).trans (zq_same.up (by omega))
  rw [← hE0, zq_p _ o0 (by simp)]
  simp only [zq_bindE]
  obtain ⟨F1, hF1⟩ : ∃ F1, F1 = va_up E0 T (.inr (4, [Value.null, .null, .null, .int 0, .int 0, .int 0, .int 0, .int 0, .int 0, .int 0, .int 0].set 0 (.ref (T + 1 + 0)))) := ⟨_, rfl⟩
  rw [← hF1]
  have p1 : F1 T = .inr (4, [.ref (T + 1), .null, .null, .int 0, .int 0, .int 0, .int 0, .int 0, .int 0, .int 0, .int 0]) := by rw [hF1, va_up_self]; rfl
  have t1 : zq_same E0 F1 T (T + 1) := by rw [hF1]; exact zq_same.up (by omega)
  obtain ⟨E2, a2, c2, s2⟩ := zk_cat (g := g) (E := F1) (T + 2)
  rw [show T + 1 + 1 = T + 2 from rfl, show T + 1 + 2 = T + 2 + 1 from rfl, a2]
  simp only [zq_bindE]
  have o2 := (s2 T (by omega)).trans p1
  rw [zq_p _ o2 (by simp)]
  simp only [zq_bindE]
  obtain ⟨F2, hF2⟩ : ∃ F2, F2 = va_up E2 T (.inr (4, [Value.ref (T + 1), .null, .null, .int 0, .int 0, .int 0, .int 0, .int 0, .int 0, .int 0, .int 0].set 1 (.ref (T + 2)))) := ⟨_, rfl⟩
  rw [← hF2]
  have p2 : F2 T = .inr (4, [.ref (T + 1), .ref (T + 2), .null, .int 0, .int 0, .int 0, .int 0, .int 0, .int 0, .int 0, .int 0]) := by rw [hF2, va_up_self]; rfl
  have t2 : zq_same E2 F2 T (T + 1) := by rw [hF2]; exact zq_same.up (by omega)
  obtain ⟨E3, a3, r3, s3⟩ := zk_row (g := g) (E := F2) (T + 20) 0 (by omega)
  rw [show T + 1 + 19 = T + 20 from rfl, show T + 1 + 20 = T + 20 + 1 from rfl, show (0 : Int32) = nI 0 from rfl]
  rw [show nI 0 = (0 : Int32) from rfl] at a3 ⊢
  rw [a3]
  simp only [zq_bindE]
  have o3 := (s3 T (by omega)).trans p2
  rw [zq_p _ o3 (by simp)]
  simp only [zq_bindE]
  obtain ⟨F3, hF3⟩ : ∃ F3, F3 = va_up E3 T (.inr (4, [Value.ref (T + 1), .ref (T + 2), .null, .int 0, .int 0, .int 0, .int 0, .int 0, .int 0, .int 0, .int 0].set 2 (.ref (T + 20)))) := ⟨_, rfl⟩
  rw [← hF3]
  have p3 : F3 T = .inr (4, [.ref (T + 1), .ref (T + 2), .ref (T + 20), .int 0, .int 0, .int 0, .int 0, .int 0, .int 0, .int 0, .int 0]) := by rw [hF3, va_up_self]; rfl
  have t3 : zq_same E3 F3 T (T + 1) := by rw [hF3]; exact zq_same.up (by omega)
  rw [zq_p _ p3 (by simp)]
  simp only [zq_bindE]
  obtain ⟨F4, hF4⟩ : ∃ F4, F4 = va_up F3 T (.inr (4, [Value.ref (T + 1), .ref (T + 2), .ref (T + 20), .int 0, .int 0, .int 0, .int 0, .int 0, .int 0, .int 0, .int 0].set 3 (.int 1))) := ⟨_, rfl⟩
  rw [← hF4]
  have p4 : F4 T = .inr (4, [.ref (T + 1), .ref (T + 2), .ref (T + 20), .int 1, .int 0, .int 0, .int 0, .int 0, .int 0, .int 0, .int 0]) := by rw [hF4, va_up_self]; rfl
  have t4 : zq_same F3 F4 T (T + 1) := by rw [hF4]; exact zq_same.up (by omega)
  rw [zq_p _ p4 (by simp)]
  simp only [zq_bindE]
  obtain ⟨F5, hF5⟩ : ∃ F5, F5 = va_up F4 T (.inr (4, [Value.ref (T + 1), .ref (T + 2), .ref (T + 20), .int 1, .int 0, .int 0, .int 0, .int 0, .int 0, .int 0, .int 0].set 4 (.int 4))) := ⟨_, rfl⟩
  rw [← hF5]
  have p5 : F5 T = .inr (4, [.ref (T + 1), .ref (T + 2), .ref (T + 20), .int 1, .int 4, .int 0, .int 0, .int 0, .int 0, .int 0, .int 0]) := by rw [hF5, va_up_self]; rfl
  have t5 : zq_same F4 F5 T (T + 1) := by rw [hF5]; exact zq_same.up (by omega)
  rw [zq_p _ p5 (by simp)]
  simp only [zq_bindE]
  obtain ⟨F6, hF6⟩ : ∃ F6, F6 = va_up F5 T (.inr (4, [Value.ref (T + 1), .ref (T + 2), .ref (T + 20), .int 1, .int 4, .int 0, .int 0, .int 0, .int 0, .int 0, .int 0].set 5 (.int 2))) := ⟨_, rfl⟩
  rw [← hF6]
  have p6 : F6 T = zk_obj T := by rw [hF6, va_up_self]; rfl
  have t6 : zq_same F5 F6 T (T + 1) := by rw [hF6]; exact zq_same.up (by omega)
  have tt : zq_same E3 F6 T (T + 1) := ((t3.trans t4).trans t5).trans t6
  have fa : F6 (T + 1) = .inl (g.2.2.2.1, 15, .inr (.inr (.inr (.inr (fun _ => none))))) := ((((tt _ (by omega)).trans (s3 _ (by omega))).trans (t2 _ (by omega))).trans (s2 _ (by omega))).trans ((t1 _ (by omega)).trans f0)
  have hc : zq_cat g F6 (T + 2) zk_v := ((c2.same t2 (by omega)).same s3 (by omega)).same tt (by omega)
  have hr : zn_row g F6 (T + 20) 0 [] := r3.same tt (by omega)
  have g0 : bq_fr F6 T 4 0 = some (T + 1) := zq_fr p6 rfl
  have g1 : bq_fr F6 T 4 1 = some (T + 2) := zq_fr p6 rfl
  rw [g0, g1]
  simp only [zq_bindE]
  have hsr : bq_sr g F6 (T + 1) 0 (T + 2) 0 = some (va_up F6 (T + 1) (.inl (g.2.2.2.1, 15, .inr (.inr (.inr (.inr (va_up (fun _ => none) 0 (some (T + 2))))))))) := by
    have h3 : ¬ ((0 : Int32) < 0 ∨ 15 ≤ (0 : Int32).toNatClampNeg) := by decide
    unfold bq_sr
    rw [fa]
    simp only []
    rw [if_pos (by refine ⟨zq_cls hc.1, ?_, h3⟩; simp)]
    rfl
  rw [hsr]
  simp only [zq_bindE]
  obtain ⟨F7, hF7⟩ : ∃ F7, F7 = va_up F6 (T + 1) (.inl (g.2.2.2.1, 15, .inr (.inr (.inr (.inr (va_up (fun _ => none) 0 (some (T + 2)))))))) := ⟨_, rfl⟩
  rw [← hF7]
  have t7 : zq_same F6 F7 (T + 1) (T + 2) := by rw [hF7]; exact zq_same.up (by omega)
  obtain ⟨E8, a8, b8, s8⟩ := zk_loop (g := g) T bq_fuel 1 F7 (bq_fuel_ge (by omega)) (by omega) (by omega) (by
    refine ⟨(t7 _ (by omega)).trans p6, ⟨va_up (fun _ => none) 0 (some (T + 2)), by rw [hF7, va_up_self], fun j hj => ?_⟩, hr.same t7 (by omega), fun j hj => ?_⟩
    · have : j = 0 := by omega
      subst this
      rw [va_up_self]; rfl
    · have : j = 0 := by omega
      subst this
      exact hc.same t7 (by show T + 2 + 18 ≤ T + 1 ∨ T + 2 ≤ T + 2; omega))
  rw [show T + 1 + 273 = T + 274 from rfl, show T + 1 + 21 = T + 4 + 18 * 1 from rfl, show (1 : Int32) = nI 1 from rfl, a8]
  refine ⟨E8, rfl, ⟨b8.1, b8.2.1, b8.2.2.1, b8.2.2.2⟩, ?_⟩
  exact ((((((s0.trans (t1.wide (by omega) (by omega))).trans (s2.wide (by omega) (by omega))).trans (t2.wide (by omega) (by omega))).trans (s3.wide (by omega) (by omega))).trans (tt.wide (by omega) (by omega))).trans (t7.wide (by omega) (by omega))).trans s8
end ZcA
