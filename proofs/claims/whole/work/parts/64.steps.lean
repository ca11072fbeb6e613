/-! The reckoner's steps of a search. -/
theorem zm_II {M : zq_M} {k : Nat} {a b : Int32} : zm_I (zm_I M k a) k b = zm_I M k b := by
  unfold zm_I
  have e : va_up (va_up M.2.1 k a) k b = va_up M.2.1 k b := by
    funext j
    by_cases q : j = k <;> simp [va_up, q]
  simp only [e]
section ZqS2
variable {g : bq_G} {E : bq_E} {m k : Nat} {M : zq_M}
theorem zm_halves (H : zq_mod g E m M) {xs : List Nat} {o : Int32} (hr : ∀ (E1 : bq_E) (M1 : zq_M), zq_mod g E1 m M1 → M1.1 = M.1 → ∀ i, i < xs.length → tw_X7_of E1 m (nI k) (o + nI i) = some (nI (xs.getD i 0))) (hl : xs.length ≤ 1000) (hb : ∀ x ∈ xs, x ≤ 10000) {x c : Nat} (hx : x ≤ 10001) (h8 : M.2.1 8 = nI c) : ∃ E', tw_X7_halves E m (nI k) o (nI xs.length) (nI x) = some (nI (zw_half xs x).1, E') ∧ zq_mod g E' m (zm_I M 8 (nI (c + (zw_half xs x).2))) ∧ zq_same E E' m (m + 8) := by
  have key : ∀ (mm n lo hi c : Nat) (E1 : bq_E), n ≤ mm → hi - lo < n → hi ≤ xs.length → lo ≤ xs.length → zq_mod g E1 m (zm_I M 8 (nI c)) → zq_same E E1 m (m + 8) →
      ∃ E2, tl_X7_halves_6 m (nI k) o (nI x) mm (nI lo) (nI hi) E1 = some (nI (zw_hv xs x n lo hi).1, E2) ∧ zq_mod g E2 m (zm_I M 8 (nI (c + (zw_hv xs x n lo hi).2))) ∧ zq_same E E2 m (m + 8) := by
    intro mm
    induction mm with
    | zero => intro n lo hi c E1 h1 h2; omega
    | succ mm ih =>
      intro n lo hi c E1 hnm hn hhi hlo H1 s1
      cases n with
      | zero => omega
      | succ n =>
      rw [tl_X7_halves_6.eq_2]
      unfold zw_hv
      by_cases h1 : hi ≤ lo
      · rw [if_pos (nI_le h1 (by omega)), if_pos h1]
        exact ⟨E1, rfl, H1, s1⟩
      · rw [if_neg (nI_ge (by omega) (by omega)), if_neg h1]
        simp only [zq_letE]
        rw [nI_add, show (2 : Int32) = nI 2 from rfl, pk_div (by omega) (by omega) (by omega), zm_i8 H1, zm_Is]
        simp only [zq_bindE]
        obtain ⟨E2, q1, q2, q3⟩ := zm_put H1 (k := 8) (by omega) (nI (c + 1))
        rw [zm_II] at q2
        rw [nI_1, q1]
        simp only [zq_bindE]
        have hmid : (lo + hi) / 2 < xs.length := by omega
        rw [hr E2 _ q2 rfl _ hmid]
        simp only [zq_bindE]
        have hg : xs.getD ((lo + hi) / 2) 10000 = xs.getD ((lo + hi) / 2) 0 := by rw [zn_gD hmid, zn_gD hmid]
        have hbb : xs.getD ((lo + hi) / 2) 0 ≤ 10000 := zn_getD_le hb (Nat.zero_le _) _
        rw [hg]
        by_cases h2 : xs.getD ((lo + hi) / 2) 0 < x
        · rw [if_pos (nI_lt h2 (by omega)), if_pos h2, show (1 : Int32) = nI 1 from rfl, nI_add]
          obtain ⟨E3, r1, r2, r3⟩ := ih n ((lo + hi) / 2 + 1) hi (c + 1) E2 (by omega) (by omega) hhi (by omega) q2 (s1.trans q3)
          refine ⟨E3, r1, ?_, r3⟩
          have e : c + ((zw_hv xs x n ((lo + hi) / 2 + 1) hi).2 + 1) = c + 1 + (zw_hv xs x n ((lo + hi) / 2 + 1) hi).2 := by omega
          rw [e]
          exact r2
        · rw [if_neg (nI_nlt (by omega) (by omega)), if_neg h2]
          obtain ⟨E3, r1, r2, r3⟩ := ih n lo ((lo + hi) / 2) (c + 1) E2 (by omega) (by omega) (by omega) hlo q2 (s1.trans q3)
          refine ⟨E3, r1, ?_, r3⟩
          have e : c + ((zw_hv xs x n lo ((lo + hi) / 2)).2 + 1) = c + 1 + (zw_hv xs x n lo ((lo + hi) / 2)).2 := by omega
          rw [e]
          exact r2
  have H0 : zq_mod g E m (zm_I M 8 (nI c)) := by
    have : zm_I M 8 (nI c) = M := by
      unfold zm_I
      have e : va_up M.2.1 8 (nI c) = M.2.1 := by
        funext j
        by_cases q : j = 8
        · subst q; rw [va_up_self, h8]
        · rw [va_up_ne _ _ q]
      rw [e]
    rw [this]
    exact H
  unfold tw_X7_halves
  rw [if_pos (zq_cls H.1), show (0 : Int32) = nI 0 from rfl]
  exact key bq_fuel (xs.length + 1) 0 xs.length c E (bq_fuel_le (by omega)) (by omega) (Nat.le_refl _) (Nat.zero_le _) H0 zq_same.refl
theorem zm_goesBack (H : zq_mod g E m M) (hk : k < 15) {xs : List Nat} (hr : zm_rdK (M.1 1) k xs) (hl : xs.length ≤ 96) (hb : ∀ x ∈ xs, x ≤ 10000) {x c p : Nat} (hx : x ≤ 10001) (hp : p ≤ xs.length) (h8 : M.2.1 8 = nI c) : ∃ E' M', tw_X7_goesBack E m (nI k) (nI p) (nI x) = some (nI (zw_sb xs x p).1, E') ∧ zq_mod g E' m M' ∧ M' = zm_I M 8 (nI (c + (zw_sb xs x p).2)) ∧ zq_same E E' m (m + 8) := by
  have key : ∀ (n p c : Nat) (E1 : bq_E), p + 1 < n → p ≤ xs.length → zq_mod g E1 m (zm_I M 8 (nI c)) → zq_same E E1 m (m + 8) →
      ∃ E2, tl_X7_goesBack_15 m (nI k) (nI x) n (nI p) (if p = 0 then 0 else 1) E1 = some (nI (zw_sb xs x p).1, E2) ∧ zq_mod g E2 m (zm_I M 8 (nI (c + (zw_sb xs x p).2))) ∧ zq_same E E2 m (m + 8) := by
    intro n
    induction n with
    | zero => intro p c E1 h1; omega
    | succ n ih =>
      intro p c E1 hn hp H1 s1
      rw [tl_X7_goesBack_15.eq_2]
      cases p with
      | zero =>
        rw [if_pos rfl, if_pos rfl]
        exact ⟨E1, rfl, H1, s1⟩
      | succ p =>
        rw [if_neg (show ¬ p + 1 = 0 by omega), if_neg (show ¬ (1 : Int32) = 0 by decide), zm_i8 H1, zm_Is]
        simp only [zq_bindE]
        obtain ⟨E2, q1, q2, q3⟩ := zm_put H1 (k := 8) (by omega) (nI (c + 1))
        rw [zm_II] at q2
        rw [nI_1, q1]
        simp only [zq_bindE]
        have e62 : (62 : Int32) + nI (p + 1) - 1 = 62 + nI p := by
          rw [show (62 : Int32) = nI 62 from rfl, show (1 : Int32) = nI 1 from rfl, nI_add, pk_sub (by omega), nI_add]
          exact congrArg nI (by omega)
        have hr2 : zm_rdK ((zm_I M 8 (nI (c + 1))).1 1) k xs := hr
        rw [e62, hr2.get q2 hk hl (by omega)]
        simp only [zq_bindE, zq_letE]
        have hpl : p < xs.length := by omega
        have hbb : xs.getD p 0 ≤ 10000 := zn_getD_le hb (Nat.zero_le _) _
        have hgM : zn_gM xs p = nI (xs.getD p 0) := by
          simp only [zn_gM, List.getD, List.getElem?_eq_getElem hpl, Option.getD_some]
        unfold zw_sb
        rw [hgM]
        by_cases h2 : xs.getD p 0 < x
        · rw [if_pos (nI_lt h2 (by omega)), if_pos True.intro, if_neg (nI_ge h2 (by omega))]
          obtain ⟨n', rfl⟩ : ∃ n', n = n' + 1 := ⟨n - 1, by omega⟩
          rw [if_pos True.intro, tl_X7_goesBack_15.eq_2, if_pos rfl]
          refine ⟨E2, ?_, q2, s1.trans q3⟩
          rw [show (0 : Int32) = nI 0 from rfl, pk_sub (by omega), Nat.sub_zero]
        · rw [if_neg (nI_nlt (by omega) (by omega)), if_pos (nI_le (by omega) (by omega)), if_neg (show ¬ (1 : Int32) = 0 by decide), nI_pred]
          obtain ⟨E3, r1, r2, r3⟩ := ih p (c + 1) E2 (by omega) (by omega) q2 (s1.trans q3)
          have e : c + ((zw_sb xs x p).2 + 1) = c + 1 + (zw_sb xs x p).2 := by omega
          rw [e]
          refine ⟨E3, ?_, r2, r3⟩
          by_cases h3 : p = 0
          · subst h3
            rw [if_neg (show ¬ (1 : Int32) = 0 by decide), if_pos (show nI 0 ≤ 0 by decide)]
            exact r1
          · rw [if_neg (show ¬ (1 : Int32) = 0 by decide), if_neg (nI_nle (by omega) (by omega))]
            rw [if_neg h3] at r1
            exact r1
  have H0 : zq_mod g E m (zm_I M 8 (nI c)) := by
    have : zm_I M 8 (nI c) = M := by
      unfold zm_I
      have e : va_up M.2.1 8 (nI c) = M.2.1 := by
        funext j
        by_cases q : j = 8
        · subst q; rw [va_up_self, h8]
        · rw [va_up_ne _ _ q]
      rw [e]
    rw [this]
    exact H
  unfold tw_X7_goesBack
  rw [if_pos (zq_cls H.1)]
  simp only [zq_letE]
  obtain ⟨E1, a, b, s⟩ := key bq_fuel p c E (bq_fuel_ge (by omega)) hp H0 zq_same.refl
  refine ⟨E1, _, ?_, b, rfl, s⟩
  by_cases q : p = 0
  · subst q
    rw [if_pos (show nI 0 ≤ 0 by decide)]
    exact a
  · rw [if_neg (nI_nle (by omega) (by omega))]
    rw [if_neg q] at a
    exact a
end ZqS2
