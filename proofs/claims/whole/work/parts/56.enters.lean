/-! The reckoner's lists: entering an entry, counting the less. -/
def zm_lst (f : Nat → Int32) (k : Nat) (es : List (Nat × Nat)) : Prop :=
  f (zm_at k + 61) = nI es.length ∧ ∀ i, i < es.length → f (zm_at k + 62 + i) = nI (es.getD i (0, 0)).1 ∧ f (zm_at k + 158 + i) = nI (es.getD i (0, 0)).2
/-- only words of the first array that Q names may differ -/
def zm_only (M M' : zq_M) (Q : Nat → Prop) : Prop := M'.2 = M.2 ∧ (∀ j, j ≠ 1 → M'.1 j = M.1 j) ∧ ∀ a, ¬ Q a → M'.1 1 a = M.1 1 a
theorem zm_only.refl {M : zq_M} {Q : Nat → Prop} : zm_only M M Q := ⟨rfl, fun _ _ => rfl, fun _ _ => rfl⟩
theorem zm_only.trans {M M' M'' : zq_M} {Q : Nat → Prop} (h : zm_only M M' Q) (h2 : zm_only M' M'' Q) : zm_only M M'' Q := ⟨h2.1.trans h.1, fun j hj => (h2.2.1 j hj).trans (h.2.1 j hj), fun a ha => (h2.2.2 a ha).trans (h.2.2 a ha)⟩
theorem zm_only.wide {M M' : zq_M} {Q R : Nat → Prop} (h : zm_only M M' Q) (hq : ∀ a, Q a → R a) : zm_only M M' R := ⟨h.1, h.2.1, fun a ha => h.2.2 a (fun q => ha (hq a q))⟩
theorem zm_only.put {M : zq_M} {a : Nat} {v : Int32} {Q : Nat → Prop} (h : Q a) : zm_only M (zm_A M 1 a v) Q := ⟨rfl, fun j hj => zm_An hj, fun b hb => by
  rw [zm_As]
  exact pk_un (fun q => hb (q ▸ h))⟩
theorem zm_Aat {M : zq_M} {a : Nat} {v : Int32} : (zm_A M 1 a v).1 1 a = v := by rw [zm_As]; exact pk_us
theorem zm_Aoff {M : zq_M} {a b : Nat} {v : Int32} (h : b ≠ a) : (zm_A M 1 a v).1 1 b = M.1 1 b := by rw [zm_As]; exact pk_un h
theorem zp_gD {es : List (Nat × Nat)} {i : Nat} (h : i < es.length) : es.getD i (0, 0) = es[i] := by simp [List.getD, List.getElem?_eq_getElem h]
theorem zp_ins_split {p : Nat × Nat} : ∀ (es : List (Nat × Nat)) (n : Nat), es.Pairwise zp_le → n ≤ es.length → (0 < n → zp_le (es.getD (n - 1) (0, 0)) p) → (n < es.length → ¬ zp_le (es.getD n (0, 0)) p) → zp_ins p es = es.take n ++ p :: es.drop n
  | [], n, _, hn, _, _ => by
    have : n = 0 := by simpa using hn
    subst this
    rfl
  | q :: t, 0, _, _, _, h2 => by
    unfold zp_ins
    rw [if_neg (show ¬ zp_le q p from h2 (by simp))]
    rfl
  | q :: t, n + 1, hs, hn, h1, h2 => by
    have hc := List.pairwise_cons.mp hs
    have hq : zp_le q p := by
      have h3 := h1 (by omega)
      rw [Nat.add_sub_cancel] at h3
      cases n with
      | zero => exact h3
      | succ n =>
        have hl : n < t.length := by simp at hn; omega
        have e : (q :: t).getD (n + 1) (0, 0) = t[n] := by simp [List.getD, List.getElem?_eq_getElem hl]
        rw [e] at h3
        exact zp_le_trans (hc.1 _ (List.getElem_mem hl)) h3
    unfold zp_ins
    rw [if_pos hq, List.take_succ_cons, List.drop_succ_cons, List.cons_append]
    congr 1
    refine zp_ins_split t n hc.2 (by simpa using hn) (fun hn0 => ?_) (fun hl => ?_)
    · have h3 := h1 (by omega)
      rw [Nat.add_sub_cancel] at h3
      have e : (q :: t).getD n (0, 0) = t.getD (n - 1) (0, 0) := by
        cases n with
        | zero => omega
        | succ n => simp [List.getD]
      rw [e] at h3
      exact h3
    · have h3 := h2 (by simp; omega)
      have e : (q :: t).getD (n + 1) (0, 0) = t.getD n (0, 0) := by simp [List.getD]
      rw [e] at h3
      exact h3
section ZqE
variable {g : bq_G} {E : bq_E} {m k : Nat} {M : zq_M}
theorem zm_enters (H : zq_mod g E m M) (hk : k < 15) {es : List (Nat × Nat)} (HL : zm_lst (M.1 1) k es) (hs : es.Pairwise zp_le) (hl : es.length < 96) (hb : ∀ q ∈ es, q.1 ≤ 10000 ∧ q.2 ≤ 10000) {key o : Nat} (hkey : key ≤ 10000) (ho : o ≤ 10000) : ∃ E' M', tw_X7_enters E m (nI k) (nI key) (nI o) = some E' ∧ zq_mod g E' m M' ∧ zm_lst (M'.1 1) k (zp_ins (key, o) es) ∧ zm_only M M' (fun a => zm_at k + 61 ≤ a ∧ a < zm_at k + 254) ∧ zq_same E E' m (m + 8) := by
  have loop : ∀ (n p : Nat) (E1 : bq_E) (M1 : zq_M), p < n → p ≤ es.length → zq_mod g E1 m M1 →
      (∀ i, i < p → M1.1 1 (zm_at k + 62 + i) = nI (es.getD i (0, 0)).1 ∧ M1.1 1 (zm_at k + 158 + i) = nI (es.getD i (0, 0)).2) →
      (∀ i, p ≤ i → i < es.length → M1.1 1 (zm_at k + 62 + (i + 1)) = nI (es.getD i (0, 0)).1 ∧ M1.1 1 (zm_at k + 158 + (i + 1)) = nI (es.getD i (0, 0)).2) →
      M1.1 1 (zm_at k + 61) = nI es.length → zm_only M M1 (fun a => zm_at k + 61 ≤ a ∧ a < zm_at k + 254) → (p < es.length → ¬ zp_le (es.getD p (0, 0)) (key, o)) → zq_same E E1 m (m + 8) →
      ∃ E' M', tl_X7_enters_9 m (nI k) (nI key) (nI o) n (nI p) E1 = some E' ∧ zq_mod g E' m M' ∧ zm_lst (M'.1 1) k (zp_ins (key, o) es) ∧ zm_only M M' (fun a => zm_at k + 61 ≤ a ∧ a < zm_at k + 254) ∧ zq_same E E' m (m + 8) := by
    intro n
    induction n with
    | zero => intro p E1 M1 h; omega
    | succ n ih =>
      intro p E1 M1 hn hp H1 c1 c2 c3 c4 c5 s1
      rw [tl_X7_enters_9.eq_2]
      have place : (0 < p → zp_le (es.getD (p - 1) (0, 0)) (key, o)) → ∃ E' M', ((tw_X7_puts E1 m (nI k) ((62 : Int32) + nI p) (nI key)).bind fun E901 =>
    (tw_X7_puts E901 m (nI k) ((158 : Int32) + nI p) (nI o)).bind fun E902 =>
    (tw_X7_of E902 m (nI k) (61 : Int32)).bind fun v903 =>
    (tw_X7_puts E902 m (nI k) (61 : Int32) (v903 + (1 : Int32))).bind fun E904 =>
    some E904) = some E' ∧ zq_mod g E' m M' ∧ zm_lst (M'.1 1) k (zp_ins (key, o) es) ∧ zm_only M M' (fun a => zm_at k + 61 ≤ a ∧ a < zm_at k + 254) ∧ zq_same E E' m (m + 8) := by
        intro hle
        rw [show (62 : Int32) = nI 62 from rfl, show (158 : Int32) = nI 158 from rfl, show (61 : Int32) = nI 61 from rfl, nI_add, nI_add]
        obtain ⟨E2, a2, H2, s2⟩ := zm_puts H1 hk (o := 62 + p) (by omega) (nI key)
        rw [a2]
        simp only [Option.bind_some]
        obtain ⟨E3, a3, H3, s3⟩ := zm_puts H2 hk (o := 158 + p) (by omega) (nI o)
        rw [a3]
        simp only [Option.bind_some]
        rw [zm_of H3 hk (by omega)]
        simp only [Option.bind_some]
        have e61 : (zm_A (zm_A M1 1 (8 + 545 * k + (62 + p)) (nI key)) 1 (8 + 545 * k + (158 + p)) (nI o)).1 1 (8 + 545 * k + 61) = nI es.length := by
          rw [zm_Aoff (by omega), zm_Aoff (by omega)]
          exact c3
        rw [e61, nI_1]
        obtain ⟨E4, a4, H4, s4⟩ := zm_puts H3 hk (o := 61) (by omega) (nI (es.length + 1))
        rw [a4]
        refine ⟨E4, _, rfl, H4, ?_, ?_, ((s1.trans s2).trans s3).trans s4⟩
        · rw [zp_ins_split es p hs hp hle c5]
          have hlen : (es.take p ++ (key, o) :: es.drop p).length = es.length + 1 := by simp; omega
          have hat : zm_at k = 8 + 545 * k := rfl
          refine ⟨?_, fun i hi => ?_⟩
          · rw [hat, zm_Aat, hlen]
          · rw [hlen] at hi
            rw [hat, zm_Aoff (by omega), zm_Aoff (b := 8 + 545 * k + 158 + i) (by omega)]
            by_cases q1 : i < p
            · have e : (es.take p ++ (key, o) :: es.drop p).getD i (0, 0) = es.getD i (0, 0) := by
                simp only [List.getD]
                rw [List.getElem?_append_left (by simp; omega), List.getElem?_take_of_lt q1]
              rw [e, zm_Aoff (by omega), zm_Aoff (by omega), zm_Aoff (by omega), zm_Aoff (by omega)]
              exact c1 i q1
            · by_cases q2 : i = p
              · subst q2
                have e : (es.take i ++ (key, o) :: es.drop i).getD i (0, 0) = (key, o) := by
                  simp only [List.getD]
                  rw [List.getElem?_append_right (by simp; omega), List.length_take, Nat.min_eq_left hp, Nat.sub_self]
                  rfl
                rw [e]
                have e1 : 8 + 545 * k + 62 + i = 8 + 545 * k + (62 + i) := by omega
                have e2 : 8 + 545 * k + 158 + i = 8 + 545 * k + (158 + i) := by omega
                rw [e1, e2, zm_Aoff (b := 8 + 545 * k + (62 + i)) (by omega), zm_Aat, zm_Aat]
                exact ⟨rfl, rfl⟩
              · have e : (es.take p ++ (key, o) :: es.drop p).getD i (0, 0) = es.getD (i - 1) (0, 0) := by
                  simp only [List.getD]
                  rw [List.getElem?_append_right (by simp; omega), List.length_take, Nat.min_eq_left hp, show i - p = (i - 1 - p) + 1 by omega, List.getElem?_cons_succ, List.getElem?_drop, show p + (i - 1 - p) = i - 1 by omega]
                rw [e, zm_Aoff (by omega), zm_Aoff (by omega), zm_Aoff (by omega), zm_Aoff (by omega)]
                have := c2 (i - 1) (by omega) (by omega)
                rw [show i - 1 + 1 = i by omega] at this
                exact this
        · have hat : zm_at k = 8 + 545 * k := rfl
          refine ((c4.trans (zm_only.put ?_)).trans (zm_only.put ?_)).trans (zm_only.put ?_) <;> (rw [hat]; omega)
      cases p with
      | zero =>
        rw [if_pos (show nI 0 ≤ 0 by decide)]
        exact place (fun h => absurd h (by omega))
      | succ p =>
        rw [if_neg (nI_nle (by omega) (by omega))]
        have hpl : p < es.length := by omega
        have hmem := hb _ (List.getElem_mem hpl)
        rw [← zp_gD hpl] at hmem
        have eo1 : ∀ c : Nat, nI (c + (p + 1)) - nI 1 = nI (c + p) := fun c => by
          rw [pk_sub (by omega), show c + (p + 1) - 1 = c + p by omega]
        have r62 : ∀ (E2 : bq_E) (M2 : zq_M), zq_mod g E2 m M2 → M2.1 1 (zm_at k + 62 + p) = nI (es.getD p (0, 0)).1 → tw_X7_of E2 m (nI k) (((62 : Int32) + nI (p + 1)) - (1 : Int32)) = some (nI (es.getD p (0, 0)).1) := by
          intro E2 M2 H2 e
          rw [show (62 : Int32) = nI 62 from rfl, show (1 : Int32) = nI 1 from rfl, nI_add, eo1, zm_of H2 hk (by omega), ← e]
          exact congrArg (fun a => some (M2.1 1 a)) (by unfold zm_at; omega)
        have r158 : ∀ (E2 : bq_E) (M2 : zq_M), zq_mod g E2 m M2 → M2.1 1 (zm_at k + 158 + p) = nI (es.getD p (0, 0)).2 → tw_X7_of E2 m (nI k) (((158 : Int32) + nI (p + 1)) - (1 : Int32)) = some (nI (es.getD p (0, 0)).2) := by
          intro E2 M2 H2 e
          rw [show (158 : Int32) = nI 158 from rfl, show (1 : Int32) = nI 1 from rfl, nI_add, eo1, zm_of H2 hk (by omega), ← e]
          exact congrArg (fun a => some (M2.1 1 a)) (by unfold zm_at; omega)
        rw [r62 E1 M1 H1 (c1 p (by omega)).1, r158 E1 M1 H1 (c1 p (by omega)).2]
        simp only [Option.bind_some, bq_let]
        have shift : ¬ zp_le (es.getD p (0, 0)) (key, o) → ∃ E' M', ((tw_X7_puts E1 m (nI k) ((62 : Int32) + nI (p + 1)) (nI (es.getD p (0, 0)).1)).bind fun E907 =>
      (tw_X7_of E907 m (nI k) (((158 : Int32) + nI (p + 1)) - (1 : Int32))).bind fun v908 =>
      (tw_X7_puts E907 m (nI k) ((158 : Int32) + nI (p + 1)) v908).bind fun E909 =>
      tl_X7_enters_9 m (nI k) (nI key) (nI o) n (nI (p + 1) + (-1)) E909) = some E' ∧ zq_mod g E' m M' ∧ zm_lst (M'.1 1) k (zp_ins (key, o) es) ∧ zm_only M M' (fun a => zm_at k + 61 ≤ a ∧ a < zm_at k + 254) ∧ zq_same E E' m (m + 8) := by
          intro hgt
          rw [show (62 : Int32) = nI 62 from rfl, nI_add]
          obtain ⟨E2, a2, H2, s2⟩ := zm_puts H1 hk (o := 62 + (p + 1)) (by omega) (nI (es.getD p (0, 0)).1)
          rw [a2]
          simp only [Option.bind_some]
          have hat : zm_at k = 8 + 545 * k := rfl
          rw [r158 E2 _ H2 (by rw [hat, zm_Aoff (by omega)]; exact (c1 p (by omega)).2)]
          simp only [Option.bind_some]
          rw [show (158 : Int32) = nI 158 from rfl, nI_add]
          obtain ⟨E3, a3, H3, s3⟩ := zm_puts H2 hk (o := 158 + (p + 1)) (by omega) (nI (es.getD p (0, 0)).2)
          rw [a3]
          simp only [Option.bind_some]
          rw [pk_m1]
          refine ih p E3 _ (by omega) (by omega) H3 (fun i hi => ?_) (fun i hi hi2 => ?_) ?_ ?_ (fun _ => hgt) ((s1.trans s2).trans s3)
          · rw [hat, zm_Aoff (by omega), zm_Aoff (by omega), zm_Aoff (by omega), zm_Aoff (by omega)]
            exact c1 i (by omega)
          · by_cases q : i = p
            · subst q
              have e1 : 8 + 545 * k + 62 + (i + 1) = 8 + 545 * k + (62 + (i + 1)) := by omega
              have e2 : 8 + 545 * k + 158 + (i + 1) = 8 + 545 * k + (158 + (i + 1)) := by omega
              rw [hat, e1, e2, zm_Aoff (b := 8 + 545 * k + (62 + (i + 1))) (by omega), zm_Aat, zm_Aat]
              exact ⟨rfl, rfl⟩
            · rw [hat, zm_Aoff (by omega), zm_Aoff (by omega), zm_Aoff (by omega), zm_Aoff (by omega)]
              exact c2 i (by omega) hi2
          · rw [hat, zm_Aoff (by omega), zm_Aoff (by omega)]
            exact c3
          · refine (c4.trans (zm_only.put ?_)).trans (zm_only.put ?_) <;> (rw [hat]; omega)
        by_cases h1 : key < (es.getD p (0, 0)).1
        · rw [if_pos (nI_lt h1 (by omega))]
          exact shift (by show ¬ ((es.getD p (0, 0)).1 < key ∨ ((es.getD p (0, 0)).1 = key ∧ (es.getD p (0, 0)).2 ≤ o)); omega)
        · rw [if_neg (nI_nlt (by omega) (by omega))]
          have e1 : nI (es.getD p (0, 0)).1 = nI key ↔ (es.getD p (0, 0)).1 = key := nI_inj (by omega) hkey
          by_cases h2 : (es.getD p (0, 0)).1 = key
          · rw [if_pos (e1.mpr h2)]
            by_cases h3 : (es.getD p (0, 0)).2 ≤ o
            · rw [if_pos (nI_le h3 (by omega))]
              exact place (fun _ => Or.inr ⟨h2, h3⟩)
            · rw [if_neg (nI_ge (by omega) (by omega))]
              exact shift (by show ¬ ((es.getD p (0, 0)).1 < key ∨ ((es.getD p (0, 0)).1 = key ∧ (es.getD p (0, 0)).2 ≤ o)); omega)
          · rw [if_neg (fun q => h2 (e1.mp q))]
            exact place (fun _ => Or.inl (by show (es.getD p (0, 0)).1 < key; omega))
  unfold tw_X7_enters
  rw [if_pos (zq_cls H.1), show (61 : Int32) = nI 61 from rfl, zm_of H hk (by omega)]
  simp only [Option.bind_some]
  have e61 : M.1 1 (8 + 545 * k + 61) = nI es.length := HL.1
  rw [e61]
  exact loop bq_fuel es.length E M (bq_fuel_ge (by omega)) (Nat.le_refl _) H HL.2 (fun i h1 h2 => absurd h1 (by omega)) HL.1 zm_only.refl (fun h => absurd h (by omega)) zq_same.refl
end ZqE
