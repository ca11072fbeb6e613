/-! The reckoner builds a whole list. -/
def zm_kid (f : Nat → Int32) (k : Nat) (x : Int32) (l : List Nat) : Prop := (x = -1 ∧ l = []) ∨ ∃ c, x = nI c ∧ c < 15 ∧ c ≠ k ∧ zm_rdK f c l
def zm_src (f : Nat → Int32) (k st : Nat) (b l r : List Nat) : Prop := zm_rdB f k b ∧ zm_kid f k (f (zm_at k + 1)) l ∧ zm_kid f k (f (zm_at k + 2)) r ∧ f 2 = nI st
def zi_src (st : Nat) (b l r : List Nat) : Prop := (1 ≤ st ∧ st ≤ 1000) ∧ b.length ≤ 24 ∧ l.length ≤ 96 ∧ r.length ≤ 96 ∧ (∀ x ∈ b, x < 10000) ∧ (∀ x ∈ l, x < 10000) ∧ (∀ x ∈ r, x < 10000)
def zm_sel (j : Nat) (b l r : List Nat) : List Nat := if j = 0 then b else if j = 1 then l else r
theorem zm_kid.keep {M M' : zq_M} {Q : Nat → Prop} {k : Nat} {x : Int32} {l : List Nat} (h : zm_kid (M.1 1) k x l) (ho : zm_only M M' Q) (hl : l.length ≤ 96) (hq : ∀ a, Q a → zm_at k + 61 ≤ a ∧ a < zm_at k + 545) : zm_kid (M'.1 1) k x l := by
  rcases h with h | ⟨c, h1, h2, h3, h4⟩
  · exact Or.inl h
  · refine Or.inr ⟨c, h1, h2, h3, h4.keep ho hl (fun a q => ?_)⟩
    have := hq a q
    have e1 : zm_at k = 8 + 545 * k := rfl
    have e2 : zm_at c = 8 + 545 * c := rfl
    omega
theorem zm_src.keep {M M' : zq_M} {Q : Nat → Prop} {k st : Nat} {b l r : List Nat} (h : zm_src (M.1 1) k st b l r) (ho : zm_only M M' Q) (hi : zi_src st b l r) (hq : ∀ a, Q a → zm_at k + 61 ≤ a ∧ a < zm_at k + 545) : zm_src (M'.1 1) k st b l r := by
  obtain ⟨h1, h2, h3, h4⟩ := h
  obtain ⟨i1, i2, i3, i4, _⟩ := hi
  have e1 : zm_at k = 8 + 545 * k := rfl
  refine ⟨h1.keep ho i2 (fun a q => by have := hq a q; omega), ?_, ?_, (ho.2.2 2 (fun q => by have := hq _ q; omega)).trans h4⟩
  · rw [ho.2.2 (zm_at k + 1) (fun q => by have := hq _ q; omega)]
    exact h2.keep ho i3 hq
  · rw [ho.2.2 (zm_at k + 2) (fun q => by have := hq _ q; omega)]
    exact h3.keep ho i4 hq
def zp_key (es : List (Nat × Nat)) (i : Nat) : Nat := (es.map Prod.fst).getD i 10000
section ZqG
variable {g : bq_G} {E : bq_E} {m k st : Nat} {M : zq_M} {b l r : List Nat}
theorem zm_lessJ (H : zq_mod g E m M) (hk : k < 15) (h : zm_src (M.1 1) k st b l r) (hi : zi_src st b l r) {j K : Nat} (hj : j < 3) (hK : K ≤ 10000) : tw_X7_less E m (nI k) (nI j) (nI K) = some (nI (zn_cnt K (zm_sel j b l r))) := by
  obtain ⟨h1, h2, h3, h4⟩ := h
  obtain ⟨i1, i2, i3, i4, i5, i6, i7⟩ := hi
  have q : j = 0 ∨ j = 1 ∨ j = 2 := by omega
  rcases q with rfl | rfl | rfl
  · exact zm_lessB H hk h1 i2 (fun x hx => Nat.le_of_lt (i5 x hx)) hK
  · rcases h2 with ⟨q1, q2⟩ | ⟨c, q1, q2, q3, q4⟩
    · exact zm_lessK (c := 0) H hk (Or.inl rfl) rfl (Or.inl ⟨q1, q2⟩) i3 (fun x hx => Nat.le_of_lt (i6 x hx)) hK
    · exact zm_lessK (c := c) H hk (Or.inl rfl) rfl (Or.inr ⟨q1, q2, q4⟩) i3 (fun x hx => Nat.le_of_lt (i6 x hx)) hK
  · rcases h3 with ⟨q1, q2⟩ | ⟨c, q1, q2, q3, q4⟩
    · exact zm_lessK (c := 0) H hk (Or.inr rfl) rfl (Or.inl ⟨q1, q2⟩) i4 (fun x hx => Nat.le_of_lt (i7 x hx)) hK
    · exact zm_lessK (c := c) H hk (Or.inr rfl) rfl (Or.inr ⟨q1, q2, q4⟩) i4 (fun x hx => Nat.le_of_lt (i7 x hx)) hK
theorem zm_build137 (K : Int32 → bq_E → Option bq_E) (hk : k < 15) (hi : zi_src st b l r) {es : List (Nat × Nat)} (he : zi_es es) (hle : es.length ≤ 96) {i : Nat} (hil : i ≤ es.length) : ∀ (n j : Nat) (E1 : bq_E) (M1 : zq_M), 3 - j < n → j ≤ 3 → zq_mod g E1 m M1 → zm_src (M1.1 1) k st b l r → zm_lst (M1.1 1) k es → (∀ a, a < j → M1.1 1 (zm_at k + 254 + 3 * i + a) = nI (zn_cnt (zp_key es i) (zm_sel a b l r))) →
    ∃ E2 M2 y, tl_X7_builds_137 m (nI k) (nI es.length) (nI i) K n (nI j) E1 = K y E2 ∧ zq_mod g E2 m M2 ∧ (∀ a, a < 3 → M2.1 1 (zm_at k + 254 + 3 * i + a) = nI (zn_cnt (zp_key es i) (zm_sel a b l r))) ∧ zm_only M1 M2 (fun a => zm_at k + 254 + 3 * i ≤ a ∧ a < zm_at k + 254 + 3 * i + 3) ∧ zq_same E1 E2 m (m + 8) := by
  intro n
  induction n with
  | zero => intro j E1 M1 h; omega
  | succ n ih =>
    intro j E1 M1 hn hj H1 hS hL hd
    rw [tl_X7_builds_137.eq_2]
    by_cases h1 : j < 3
    · rw [if_neg (show ¬ (2 : Int32) < nI j from nI_nlt (a := 2) (by omega) (by omega))]
      simp only [bq_let]
      have step : ∃ E2 M2, ((tw_X7_less E1 m (nI k) (nI j) (nI (zp_key es i))).bind fun v13702 =>
      (tw_X7_puts E1 m (nI k) (((254 : Int32) + ((3 : Int32) * nI i)) + nI j) v13702).bind fun E13703 =>
      tl_X7_builds_137 m (nI k) (nI es.length) (nI i) K n (nI j + 1) E13703) = tl_X7_builds_137 m (nI k) (nI es.length) (nI i) K n (nI (j + 1)) E2 ∧ zq_mod g E2 m M2 ∧ M2 = zm_A M1 1 (8 + 545 * k + (254 + 3 * i + j)) (nI (zn_cnt (zp_key es i) (zm_sel j b l r))) ∧ zq_same E1 E2 m (m + 8) := by
        have hK : zp_key es i ≤ 10000 := zn_getD_le (fun x hx => by
          obtain ⟨q, hq, rfl⟩ := List.mem_map.mp hx
          exact (he.2 q hq).1) (Nat.le_refl _) _
        rw [zm_lessJ H1 hk hS hi h1 hK]
        simp only [Option.bind_some]
        rw [show (254 : Int32) = nI 254 from rfl, show (3 : Int32) = nI 3 from rfl, pk_mul, nI_add, nI_add, nI_1]
        obtain ⟨E2, a2, H2, s2⟩ := zm_puts H1 hk (o := 254 + 3 * i + j) (by omega) (nI (zn_cnt (zp_key es i) (zm_sel j b l r)))
        rw [a2]
        exact ⟨E2, _, rfl, H2, rfl, s2⟩
      have hc : (if nI es.length ≤ nI i then (tw_X7_less E1 m (nI k) (nI j) 10000).bind fun v13702 =>
      (tw_X7_puts E1 m (nI k) (((254 : Int32) + ((3 : Int32) * nI i)) + nI j) v13702).bind fun E13703 =>
      tl_X7_builds_137 m (nI k) (nI es.length) (nI i) K n (nI j + 1) E13703 else (tw_X7_of E1 m (nI k) ((62 : Int32) + nI i)).bind fun v13705 => (tw_X7_less E1 m (nI k) (nI j) v13705).bind fun v13702 =>
      (tw_X7_puts E1 m (nI k) (((254 : Int32) + ((3 : Int32) * nI i)) + nI j) v13702).bind fun E13703 =>
      tl_X7_builds_137 m (nI k) (nI es.length) (nI i) K n (nI j + 1) E13703) = ((tw_X7_less E1 m (nI k) (nI j) (nI (zp_key es i))).bind fun v13702 =>
      (tw_X7_puts E1 m (nI k) (((254 : Int32) + ((3 : Int32) * nI i)) + nI j) v13702).bind fun E13703 =>
      tl_X7_builds_137 m (nI k) (nI es.length) (nI i) K n (nI j + 1) E13703) := by
        by_cases q : i < es.length
        · rw [if_neg (nI_ge q (by omega)), show (62 : Int32) = nI 62 from rfl, nI_add, zm_of H1 hk (by omega)]
          simp only [Option.bind_some]
          have e : M1.1 1 (8 + 545 * k + (62 + i)) = nI (zp_key es i) := by
            have h5 := (hL.2 i q).1
            rw [zp_gD q] at h5
            have e6 : zp_key es i = es[i].1 := by
              unfold zp_key
              rw [zn_gD (by simpa using q), List.getElem_map]
            rw [e6, ← h5]
            exact congrArg (M1.1 1) (by unfold zm_at; omega)
          rw [e]
        · rw [if_pos (nI_le (by omega) (by omega))]
          have e6 : zp_key es i = 10000 := zn_gD_top (by simp; omega)
          rw [e6]
          rfl
      rw [hc]
      obtain ⟨E2, M2, a2, H2, hM2, s2⟩ := step
      rw [a2]
      have hat : zm_at k = 8 + 545 * k := rfl
      have o2 : zm_only M1 M2 (fun a => zm_at k + 254 + 3 * i ≤ a ∧ a < zm_at k + 254 + 3 * i + 3) := by
        rw [hM2]
        exact zm_only.put (by rw [hat]; omega)
      have L2 : zm_lst (M2.1 1) k es := by
        refine ⟨(o2.2.2 _ (by omega)).trans hL.1, fun a ha => ⟨(o2.2.2 _ (by omega)).trans (hL.2 a ha).1, (o2.2.2 _ (by omega)).trans (hL.2 a ha).2⟩⟩
      obtain ⟨E3, M3, y, a3, H3, d3, o3, s3⟩ := ih (j + 1) E2 M2 (by omega) (by omega) H2 (hS.keep o2 hi (fun a q => by omega)) L2 (fun a ha => by
        by_cases q : a = j
        · subst q
          rw [hM2, hat, show 8 + 545 * k + 254 + 3 * i + a = 8 + 545 * k + (254 + 3 * i + a) by omega, zm_Aat]
        · rw [hM2, hat, zm_Aoff (by omega)]
          exact hd a (by omega))
      exact ⟨E3, M3, y, a3, H3, d3, o2.trans o3, s2.trans s3⟩
    · rw [if_pos (show (2 : Int32) < nI j from nI_lt (a := 2) (by omega) (by omega))]
      have : j = 3 := by omega
      subst this
      exact ⟨E1, M1, _, rfl, H1, hd, zm_only.refl, zq_same.refl⟩
theorem zm_build129 (hk : k < 15) (hi : zi_src st b l r) {es : List (Nat × Nat)} (he : zi_es es) (hle : es.length ≤ 96) : ∀ (n i : Nat) (E1 : bq_E) (M1 : zq_M), es.length + 1 - i < n → i ≤ es.length + 1 → zq_mod g E1 m M1 → zm_src (M1.1 1) k st b l r → zm_lst (M1.1 1) k es → (∀ i', i' < i → ∀ a, a < 3 → M1.1 1 (zm_at k + 254 + 3 * i' + a) = nI (zn_cnt (zp_key es i') (zm_sel a b l r))) →
    ∃ E2 M2, tl_X7_builds_129 m (nI k) (nI es.length) n (nI i) E1 = some E2 ∧ zq_mod g E2 m M2 ∧ (∀ i', i' < es.length + 1 → ∀ a, a < 3 → M2.1 1 (zm_at k + 254 + 3 * i' + a) = nI (zn_cnt (zp_key es i') (zm_sel a b l r))) ∧ M2.1 1 5 = M1.1 1 5 + 1 ∧ M2.1 1 6 = M1.1 1 6 + nI es.length ∧ zm_only M1 M2 (fun a => (zm_at k + 254 ≤ a ∧ a < zm_at k + 545) ∨ a = 5 ∨ a = 6) ∧ zq_same E1 E2 m (m + 8) := by
  have hat : zm_at k = 8 + 545 * k := rfl
  intro n
  induction n with
  | zero => intro i E1 M1 h; omega
  | succ n ih =>
    intro i E1 M1 hn hil H1 hS hL hd
    rw [tl_X7_builds_129.eq_2]
    by_cases h1 : i ≤ es.length
    · rw [if_neg (nI_nlt (by omega) (by omega)), show (0 : Int32) = nI 0 from rfl]
      obtain ⟨E2, M2, y, a2, H2, d2, o2, s2⟩ := zm_build137 (fun y12907 E12908 =>
      bq_let (nI i + 1) fun v12909 =>
    tl_X7_builds_129 m (nI k) (nI es.length) n v12909 E12908) hk hi he hle h1 bq_fuel 0 E1 M1 (bq_fuel_ge (by omega)) (by omega) H1 hS hL (fun a ha => absurd ha (by omega))
      rw [a2]
      simp only [bq_let, nI_1]
      have L2 : zm_lst (M2.1 1) k es := by
        refine ⟨(o2.2.2 _ (by omega)).trans hL.1, fun a ha => ⟨(o2.2.2 _ (by omega)).trans (hL.2 a ha).1, (o2.2.2 _ (by omega)).trans (hL.2 a ha).2⟩⟩
      obtain ⟨E3, M3, a3, H3, d3, f5, f6, o3, s3⟩ := ih (i + 1) E2 M2 (by omega) (by omega) H2 (hS.keep o2 hi (fun a q => by omega)) L2 (fun i' hi' a ha => by
        by_cases q : i' = i
        · subst q
          exact d2 a ha
        · rw [o2.2.2 _ (by omega)]
          exact hd i' (by omega) a ha)
      exact ⟨E3, M3, a3, H3, d3, f5.trans (by rw [o2.2.2 5 (by omega)]), f6.trans (by rw [o2.2.2 6 (by omega)]), (o2.wide (fun a q => by omega)).trans o3, s2.trans s3⟩
    · rw [if_pos (nI_lt (by omega) (by omega)), zm_r1 H1]
      simp only [Option.bind_some]
      rw [show (5 : Int32) = nI 5 from rfl, zm_ai H1 (j := 1) (by omega) (by show 5 < 8183; omega)]
      simp only [Option.bind_some]
      obtain ⟨E2, a2, H2, s2⟩ := zm_si H1 (j := 1) (i := 5) (by omega) (by show 5 < 8183; omega) (M1.1 1 5 + 1)
      rw [a2]
      simp only [Option.bind_some]
      rw [zm_r1 H2]
      simp only [Option.bind_some]
      rw [show (6 : Int32) = nI 6 from rfl, zm_ai H2 (j := 1) (by omega) (by show 6 < 8183; omega), zm_Aoff (by omega)]
      simp only [Option.bind_some]
      obtain ⟨E3, a3, H3, s3⟩ := zm_si H2 (j := 1) (i := 6) (by omega) (by show 6 < 8183; omega) (M1.1 1 6 + nI es.length)
      rw [a3]
      refine ⟨E3, _, rfl, H3, fun i' hi' a ha => ?_, ?_, zm_Aat, (zm_only.put (Or.inr (Or.inl rfl))).trans (zm_only.put (Or.inr (Or.inr rfl))), s2.trans s3⟩
      · rw [zm_Aoff (by omega), zm_Aoff (by omega)]
        exact hd i' (by omega) a ha
      · rw [zm_Aoff (by omega), zm_Aat]
end ZqG
