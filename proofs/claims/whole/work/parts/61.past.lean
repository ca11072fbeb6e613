/-! The reckoner's past: hold, ends, undo. -/
def zm_W (M : zq_M) (j : Nat) (h : Nat → Int32) : zq_M := (va_up M.1 j h, M.2)
theorem zm_Ws {M : zq_M} {j : Nat} {h : Nat → Int32} : (zm_W M j h).1 j = h := va_up_self M.1 j _
theorem zm_Wn {M : zq_M} {j k : Nat} {h : Nat → Int32} (q : k ≠ j) : (zm_W M j h).1 k = M.1 k := va_up_ne M.1 _ q
theorem zm_WA {M : zq_M} {j i : Nat} {h : Nat → Int32} {v : Int32} : zm_A (zm_W M j h) j i v = zm_W M j (upd h i v) := by
  unfold zm_A zm_W
  congr 1
  funext k
  by_cases q : k = j <;> simp [va_up, q]
theorem zm_W0 {M : zq_M} {j : Nat} : zm_W M j (M.1 j) = M := by
  unfold zm_W
  have : va_up M.1 j (M.1 j) = M.1 := by
    funext k
    by_cases q : k = j <;> simp [va_up, q]
  rw [this]
section ZqY
variable {g : bq_G} {E : bq_E} {m : Nat} {M : zq_M}
theorem zm_hold (H : zq_mod g E m M) : ∃ E' h, tw_X7_hold E m = some E' ∧ zq_mod g E' m (zm_W M 3 h) ∧ (∀ i, i < 8183 → h i = M.1 1 i) ∧ zq_same E E' m (m + 8) := by
  have key : ∀ (n i : Nat) (E1 : bq_E) (h1 : Nat → Int32), 8183 - i < n → i ≤ 8183 → zq_mod g E1 m (zm_W M 3 h1) → (∀ a, a < i → h1 a = M.1 1 a) → zq_same E E1 m (m + 8) →
      ∃ E' h, tl_X7_hold_2 m n (nI i) E1 = some E' ∧ zq_mod g E' m (zm_W M 3 h) ∧ (∀ i, i < 8183 → h i = M.1 1 i) ∧ zq_same E E' m (m + 8) := by
    intro n
    induction n with
    | zero => intro i E1 h1 h; omega
    | succ n ih =>
      intro i E1 h1 hn hi H1 hd s1
      rw [tl_X7_hold_2.eq_2]
      by_cases q : i < 8183
      · rw [if_neg (show ¬ (8183 : Int32) ≤ nI i from nI_ge (b := 8183) q (by omega)), zm_r3 H1, zm_r1 H1]
        simp only [Option.bind_some]
        rw [zm_ai H1 (j := 1) (by omega) q, zm_Wn (by omega)]
        simp only [Option.bind_some]
        obtain ⟨E2, a2, H2, s2⟩ := zm_si H1 (j := 3) (i := i) (by omega) q (M.1 1 i)
        rw [a2]
        simp only [Option.bind_some, bq_let, nI_1]
        rw [zm_WA] at H2
        refine ih (i + 1) E2 _ (by omega) (by omega) H2 (fun a ha => ?_) (s1.trans s2)
        by_cases e : a = i
        · subst e; exact pk_us
        · rw [pk_un e]; exact hd a (by omega)
      · rw [if_pos (show (8183 : Int32) ≤ nI i from nI_le (a := 8183) (by omega) (by omega))]
        exact ⟨E1, h1, rfl, H1, fun a ha => hd a (by omega), s1⟩
  unfold tw_X7_hold
  rw [if_pos (zq_cls H.1), show (0 : Int32) = nI 0 from rfl]
  exact key bq_fuel 0 E (M.1 3) (bq_fuel_ge (by omega)) (by omega) (by rw [zm_W0]; exact H) (fun a ha => absurd ha (by omega)) zq_same.refl
theorem zm_put3 (H : zq_mod g E m M) (x : Int32) : ∃ E', bq_p E m 7 3 (.int x) = some E' ∧ zq_mod g E' m (zm_I M 3 x) ∧ zq_same E E' m (m + 8) := zm_put H (by omega) x
theorem zm_ends51 (H : zq_mod g E m M) {c : Nat} (hc : c < 4) (hcnt : M.2.1 3 = nI c) (x : Int32) : ∃ E' q, tl_X7_ends_51 m x bq_fuel 0 E = some (x, E') ∧ zq_mod g E' m (zm_I (zm_I (zm_W M 2 q) 3 (nI (c + 1))) 4 0) ∧ (∀ a, a < 8183 → q (8183 * c + a) = M.1 3 a) ∧ (∀ a, a < 8183 * c → q a = M.1 2 a) ∧ zq_same E E' m (m + 8) := by
  have key : ∀ (n i : Nat) (E1 : bq_E) (h1 : Nat → Int32), 8183 - i < n → i ≤ 8183 → zq_mod g E1 m (zm_W M 2 h1) → (∀ a, a < i → h1 (8183 * c + a) = M.1 3 a) → (∀ a, a < 8183 * c → h1 a = M.1 2 a) → zq_same E E1 m (m + 8) →
      ∃ E' q, tl_X7_ends_51 m x n (nI i) E1 = some (x, E') ∧ zq_mod g E' m (zm_I (zm_I (zm_W M 2 q) 3 (nI (c + 1))) 4 0) ∧ (∀ a, a < 8183 → q (8183 * c + a) = M.1 3 a) ∧ (∀ a, a < 8183 * c → q a = M.1 2 a) ∧ zq_same E E' m (m + 8) := by
    intro n
    induction n with
    | zero => intro i E1 h1 h; omega
    | succ n ih =>
      intro i E1 h1 hn hi H1 hd hd2 s1
      rw [tl_X7_ends_51.eq_2]
      have h3 : (zm_W M 2 h1).2.1 3 = nI c := hcnt
      by_cases q : i < 8183
      · rw [if_neg (show ¬ (8183 : Int32) ≤ nI i from nI_ge (b := 8183) q (by omega)), zm_r2 H1, zm_i3 H1, zm_r3 H1]
        simp only [Option.bind_some]
        rw [zm_ai H1 (j := 3) (by omega) q, zm_Wn (by omega), h3]
        simp only [Option.bind_some]
        rw [show (8183 : Int32) = nI 8183 from rfl, pk_mul, nI_add]
        obtain ⟨E2, a2, H2, s2⟩ := zm_si H1 (j := 2) (i := 8183 * c + i) (by omega) (by show _ < 32732; omega) (M.1 3 i)
        rw [a2]
        simp only [Option.bind_some, bq_let, nI_1]
        rw [zm_WA] at H2
        refine ih (i + 1) E2 _ (by omega) (by omega) H2 (fun a ha => ?_) (fun a ha => ?_) (s1.trans s2)
        · by_cases e : a = i
          · subst e; exact pk_us
          · rw [pk_un (by omega)]; exact hd a (by omega)
        · rw [pk_un (by omega)]; exact hd2 a ha
      · rw [if_pos (show (8183 : Int32) ≤ nI i from nI_le (a := 8183) (by omega) (by omega)), zm_i3 H1, h3]
        simp only [Option.bind_some]
        obtain ⟨E2, a2, H2, s2⟩ := zm_put3 H1 (nI c + 1)
        rw [a2]
        simp only [Option.bind_some]
        obtain ⟨E3, a3, H3, s3⟩ := zm_tells H2 x
        rw [a3]
        rw [nI_1] at H3
        exact ⟨E3, h1, rfl, H3, fun a ha => hd a (by omega), hd2, (s1.trans s2).trans s3⟩
  rw [show (0 : Int32) = nI 0 from rfl]
  exact key bq_fuel 0 E (M.1 2) (bq_fuel_ge (by omega)) (by omega) (by rw [zm_W0]; exact H) (fun a ha => absurd ha (by omega)) (fun a _ => rfl) zq_same.refl
theorem zm_ends10 (H : zq_mod g E m M) (K : Int32 → bq_E → Option (Int32 × bq_E)) (x : Int32) : ∃ E' q y, tl_X7_ends_10 m x K bq_fuel 0 E = K y E' ∧ zq_mod g E' m (zm_W M 2 q) ∧ (∀ a, a < 24549 → q a = M.1 2 (a + 8183)) ∧ zq_same E E' m (m + 8) := by
  have key : ∀ (n i : Nat) (E1 : bq_E) (h1 : Nat → Int32), 24549 - i < n → i ≤ 24549 → zq_mod g E1 m (zm_W M 2 h1) → (∀ a, a < i → h1 a = M.1 2 (a + 8183)) → (∀ a, i ≤ a → h1 a = M.1 2 a) → zq_same E E1 m (m + 8) →
      ∃ E' q y, tl_X7_ends_10 m x K n (nI i) E1 = K y E' ∧ zq_mod g E' m (zm_W M 2 q) ∧ (∀ a, a < 24549 → q a = M.1 2 (a + 8183)) ∧ zq_same E E' m (m + 8) := by
    intro n
    induction n with
    | zero => intro i E1 h1 h; omega
    | succ n ih =>
      intro i E1 h1 hn hi H1 hd hd2 s1
      rw [tl_X7_ends_10.eq_2]
      by_cases q : i < 24549
      · rw [if_neg (show ¬ (24549 : Int32) ≤ nI i from nI_ge (b := 24549) q (by omega)), zm_r2 H1]
        simp only [Option.bind_some]
        rw [show (8183 : Int32) = nI 8183 from rfl, nI_add, zm_ai H1 (j := 2) (by omega) (by show _ < 32732; omega), zm_Ws, hd2 _ (by omega)]
        simp only [Option.bind_some]
        obtain ⟨E2, a2, H2, s2⟩ := zm_si H1 (j := 2) (i := i) (by omega) (by show _ < 32732; omega) (M.1 2 (i + 8183))
        rw [a2]
        simp only [Option.bind_some, bq_let, nI_1]
        rw [zm_WA] at H2
        refine ih (i + 1) E2 _ (by omega) (by omega) H2 (fun a ha => ?_) (fun a ha => ?_) (s1.trans s2)
        · by_cases e : a = i
          · subst e; exact pk_us
          · rw [pk_un e]; exact hd a (by omega)
        · rw [pk_un (by omega)]; exact hd2 a (by omega)
      · rw [if_pos (show (24549 : Int32) ≤ nI i from nI_le (a := 24549) (by omega) (by omega))]
        exact ⟨E1, h1, _, rfl, H1, fun a ha => hd a (by omega), s1⟩
  rw [show (0 : Int32) = nI 0 from rfl]
  exact key bq_fuel 0 E (M.1 2) (bq_fuel_ge (by omega)) (by omega) (by rw [zm_W0]; exact H) (fun a ha => absurd ha (by omega)) (fun a _ => rfl) zq_same.refl
theorem zm_undo25 (H : zq_mod g E m M) {c : Nat} (hc : c < 4) (hcnt : M.2.1 3 = nI c) : ∃ E' q, tl_X7_undo_25 m bq_fuel 0 E = some (nI c, E') ∧ zq_mod g E' m (zm_I (zm_W M 1 q) 4 0) ∧ (∀ a, a < 8183 → q a = M.1 2 (8183 * c + a)) ∧ zq_same E E' m (m + 8) := by
  have key : ∀ (n i : Nat) (E1 : bq_E) (h1 : Nat → Int32), 8183 - i < n → i ≤ 8183 → zq_mod g E1 m (zm_W M 1 h1) → (∀ a, a < i → h1 a = M.1 2 (8183 * c + a)) → zq_same E E1 m (m + 8) →
      ∃ E' q, tl_X7_undo_25 m n (nI i) E1 = some (nI c, E') ∧ zq_mod g E' m (zm_I (zm_W M 1 q) 4 0) ∧ (∀ a, a < 8183 → q a = M.1 2 (8183 * c + a)) ∧ zq_same E E' m (m + 8) := by
    intro n
    induction n with
    | zero => intro i E1 h1 h; omega
    | succ n ih =>
      intro i E1 h1 hn hi H1 hd s1
      rw [tl_X7_undo_25.eq_2]
      have h3 : (zm_W M 1 h1).2.1 3 = nI c := hcnt
      by_cases q : i < 8183
      · rw [if_neg (show ¬ (8183 : Int32) ≤ nI i from nI_ge (b := 8183) q (by omega)), zm_r1 H1, zm_r2 H1, zm_i3 H1, h3]
        simp only [Option.bind_some]
        rw [show (8183 : Int32) = nI 8183 from rfl, pk_mul, nI_add, zm_ai H1 (j := 2) (by omega) (by show _ < 32732; omega), zm_Wn (by omega)]
        simp only [Option.bind_some]
        obtain ⟨E2, a2, H2, s2⟩ := zm_si H1 (j := 1) (i := i) (by omega) q (M.1 2 (8183 * c + i))
        rw [a2]
        simp only [Option.bind_some, bq_let, nI_1]
        rw [zm_WA] at H2
        refine ih (i + 1) E2 _ (by omega) (by omega) H2 (fun a ha => ?_) (s1.trans s2)
        by_cases e : a = i
        · subst e; exact pk_us
        · rw [pk_un e]; exact hd a (by omega)
      · rw [if_pos (show (8183 : Int32) ≤ nI i from nI_le (a := 8183) (by omega) (by omega)), zm_i3 H1, h3]
        simp only [Option.bind_some]
        obtain ⟨E3, a3, H3, s3⟩ := zm_tells H1 (nI c)
        rw [a3]
        exact ⟨E3, h1, rfl, H3, fun a ha => hd a (by omega), s1.trans s3⟩
  rw [show (0 : Int32) = nI 0 from rfl]
  exact key bq_fuel 0 E (M.1 1) (bq_fuel_ge (by omega)) (by omega) (by rw [zm_W0]; exact H) (fun a ha => absurd ha (by omega)) zq_same.refl
end ZqY
