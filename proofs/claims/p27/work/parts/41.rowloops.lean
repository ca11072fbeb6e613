/-! Rows, their loops. -/
theorem bq_fuel_ge {n : Nat} (h : n < 1000000) : n < bq_fuel := h
def zq_pos (v : Int32) : List Int32 → Nat
  | [] => 0
  | x :: t => if x = v then 0 else zq_pos v t + 1
def zq_ix (xs : List Int32) (v : Int32) : Int32 := if v ∈ xs then nI (zq_pos v xs) else -1
def zq_fal (lim : Int32) : List Int32 → Nat
  | [] => 0
  | x :: t => if lim ≤ x then 0 else zq_fal lim t + 1
section ZqL
variable {g : bq_G} {E : bq_E} {h cap : Nat} {xs : List Int32}
theorem zq_indexOf (H : zq_row g E h cap xs) (v : Int32) : tw_X3_indexOf E h v = some (zq_ix xs v) := by
  have hlt := H.lt
  have h1000 := H.2.1
  have key : ∀ n k : Nat, xs.length - k < n → k ≤ xs.length → tl_X3_indexOf_2 E h v n (nI k) = some (if v ∈ xs.drop k then nI (k + zq_pos v (xs.drop k)) else -1) := by
    intro n
    induction n with
    | zero => intro k hk; omega
    | succ n ih =>
      intro k hk hkl
      rw [tl_X3_indexOf_2.eq_2, zq_fi (k := 1) H.1 rfl]
      simp only [Option.bind_some]
      by_cases h1 : k < xs.length
      · rw [if_neg (nI_ge h1 hlt), zq_atn H (by omega)]
        simp only [Option.bind_some]
        have hg : xs.getD k 0 = xs[k] := by simp [List.getD, List.getElem?_eq_getElem h1]
        rw [hg, List.drop_eq_getElem_cons h1]
        unfold zq_pos
        by_cases h2 : xs[k] = v
        · rw [if_pos h2, if_pos h2, if_pos (by rw [h2]; exact List.mem_cons_self), Nat.add_zero]
        · rw [if_neg h2, if_neg h2, nI_1]
          simp only [bq_let]
          rw [ih (k + 1) (by omega) (by omega)]
          have h3 : v ∈ xs[k] :: xs.drop (k + 1) ↔ v ∈ xs.drop (k + 1) := by
            rw [List.mem_cons]
            exact ⟨fun h => h.resolve_left (fun q => h2 q.symm), Or.inr⟩
          by_cases h4 : v ∈ xs.drop (k + 1)
          · rw [if_pos h4, if_pos (h3.mpr h4), show k + 1 + zq_pos v (xs.drop (k + 1)) = k + (zq_pos v (xs.drop (k + 1)) + 1) by omega]
          · rw [if_neg h4, if_neg (fun q => h4 (h3.mp q))]
      · rw [if_pos (nI_le (by omega) (by omega)), List.drop_of_length_le (by omega), if_neg List.not_mem_nil]
  unfold tw_X3_indexOf
  rw [if_pos (zq_cls H.1)]
  have := key bq_fuel 0 (bq_fuel_ge (by omega)) (Nat.zero_le _)
  rw [List.drop_zero, Nat.zero_add] at this
  exact this
theorem zq_firstAtLeast (H : zq_row g E h cap xs) (lim : Int32) {k : Nat} (hk : k ≤ xs.length) : tw_X3_firstAtLeast E h lim (nI k) = some (nI (k + zq_fal lim (xs.drop k))) := by
  have hlt := H.lt
  have h1000 := H.2.1
  obtain ⟨a, b, f, c, e⟩ := id H
  have hcap : cap < 2 ^ 31 := by omega
  have key : ∀ n k : Nat, xs.length - k < n → k ≤ xs.length → tl_X3_firstAtLeast_2 E h lim n (nI k) = some (nI (k + zq_fal lim (xs.drop k))) := by
    intro n
    induction n with
    | zero => intro k hk; omega
    | succ n ih =>
      intro k hk hkl
      rw [tl_X3_firstAtLeast_2.eq_2, if_neg (nI_pos (by omega)), zq_fi (k := 1) a rfl, zq_fr (k := 0) a rfl]
      simp only [Option.bind_some, zq_len c]
      by_cases h1 : k < xs.length
      · have h2 : ¬ nI cap ≤ nI k := nI_ge (by omega) hcap
        rw [if_neg (nI_ge h1 hlt), if_neg h2, zq_ai c (by omega) hcap]
        simp only [Option.bind_some]
        have hx : xs[k] = f k := Option.some.inj ((List.getElem?_eq_getElem h1).symm.trans (e k h1))
        rw [List.drop_eq_getElem_cons h1, hx]
        unfold zq_fal
        by_cases h3 : lim ≤ f k
        · rw [if_pos h3, if_pos h3, Nat.add_zero]
        · rw [if_neg h3, if_neg h3, nI_1]
          simp only [bq_let]
          rw [ih (k + 1) (by omega) (by omega)]
          congr 2
          omega
      · rw [if_pos (nI_le (by omega) (by omega)), List.drop_of_length_le (by omega)]
        rfl
  unfold tw_X3_firstAtLeast
  rw [if_pos (zq_cls a)]
  exact key bq_fuel k (bq_fuel_ge (by omega)) hk
theorem zq_insert (H : zq_row g E h cap xs) (hl : xs.length < cap) {k : Nat} (hk : k ≤ xs.length) (v : Int32) : ∃ E', tw_X3_insert E h (nI k) v = some E' ∧ zq_row g E' h cap (xs.take k ++ v :: xs.drop k) ∧ zq_same E E' h (h + 2) := by
  have hlt := H.lt
  have h1000 := H.2.1
  obtain ⟨a, b, f, c, e⟩ := id H
  have hcap : cap < 2 ^ 31 := by omega
  have key : ∀ n i : Nat, i < n → ∀ (E : bq_E) (w : Int32), k ≤ i → i ≤ xs.length → zq_row g E h cap (xs.take i ++ w :: xs.drop i) → ∃ E', tl_X3_insert_42 h (nI k) v n (nI i) E = some E' ∧ zq_row g E' h cap (xs.take k ++ v :: xs.drop k) ∧ zq_same E E' h (h + 2) := by
    intro n
    induction n with
    | zero => intro i hi; omega
    | succ n ih =>
      intro i hi E w hki hil HE
      have hlen : (xs.take i ++ w :: xs.drop i).length = xs.length + 1 := by simp; omega
      rw [tl_X3_insert_42.eq_2]
      by_cases h1 : i = k
      · subst h1
        rw [if_pos (nI_le (Nat.le_refl _) (by omega))]
        obtain ⟨E', q1, q2, q3⟩ := zq_put HE (k := i) (by omega) v
        refine ⟨E', by rw [q1]; rfl, ?_, q3⟩
        have hs : (xs.take i ++ w :: xs.drop i).set i v = xs.take i ++ v :: xs.drop i := by
          have := List.set_append_right (s := xs.take i) (t := w :: xs.drop i) (i := i) (x := v) (by simp; omega)
          rw [this]
          simp [Nat.min_eq_left hil]
        rw [← hs]; exact q2
      · rw [if_neg (nI_ge (by omega) (by omega))]
        obtain ⟨i', rfl⟩ : ∃ i', i = i' + 1 := ⟨i - 1, by omega⟩
        have h2 : i' < xs.length := by omega
        rw [nI_pred, zq_atn HE (by omega)]
        simp only [Option.bind_some]
        have hv : (xs.take (i' + 1) ++ w :: xs.drop (i' + 1)).getD i' 0 = xs[i'] := by
          simp [List.getD, List.getElem?_append, h2, List.getElem?_take, Nat.min_eq_left hil]
        rw [hv]
        obtain ⟨E', q1, q2, q3⟩ := zq_put HE (k := i' + 1) (by omega) xs[i']
        rw [q1]
        simp only [Option.bind_some, bq_let, pk_m1]
        have hs : (xs.take (i' + 1) ++ w :: xs.drop (i' + 1)).set (i' + 1) xs[i'] = xs.take i' ++ xs[i'] :: xs.drop i' := by
          have := List.set_append_right (s := xs.take (i' + 1)) (t := w :: xs.drop (i' + 1)) (i := i' + 1) (x := xs[i']) (by simp; omega)
          rw [this]
          have : (i' + 1) - (xs.take (i' + 1)).length = 0 := by simp; omega
          rw [this, List.set_cons_zero, List.take_succ_eq_append_getElem h2, List.append_assoc, List.drop_eq_getElem_cons h2]
          rfl
        rw [hs] at q2
        obtain ⟨E'', r1, r2, r3⟩ := ih i' (by omega) E' xs[i'] (by omega) (by omega) q2
        exact ⟨E'', r1, r2, q3.trans r3⟩
  unfold tw_X3_insert
  rw [if_pos (zq_cls a), if_neg (nI_pos (by omega)), zq_fi (k := 1) a rfl, zq_fr (k := 0) a rfl]
  simp only [Option.bind_some, zq_len c]
  have h3 : nI xs.length < nI cap := nI_lt hl hcap
  rw [if_neg (nI_nlt hk hlt), if_pos h3, zq_p _ a (by simp)]
  simp only [Option.bind_some]
  have a2 : va_up E h (.inr (3, [Value.ref (h + 1), Value.int (nI xs.length)].set 1 (.int (nI xs.length + 1)))) h = .inr (3, [.ref (h + 1), .int (nI (xs.length + 1))]) := by
    rw [va_up_self, nI_1]; rfl
  rw [zq_fi (k := 1) a2 rfl]
  simp only [Option.bind_some, bq_let, nI_pred]
  obtain ⟨E', q1, q2, q3⟩ := key bq_fuel xs.length (bq_fuel_ge (by omega)) (va_up E h (.inr (3, [Value.ref (h + 1), Value.int (nI xs.length)].set 1 (.int (nI xs.length + 1))))) (f xs.length) hk (Nat.le_refl _) (by
    refine ⟨?_, ⟨by simp; omega, b.2⟩, f, ?_, fun i hi => ?_⟩
    · rw [a2]; simp
    · rw [va_up_ne _ _ (by omega)]; exact c
    · simp at hi
      simp only [List.take_length, List.drop_length]
      by_cases hik : i < xs.length
      · rw [List.getElem?_append_left hik]; exact e i hik
      · have : i = xs.length := by omega
        subst this
        simp)
  exact ⟨E', q1, q2, (zq_same.up (by omega)).trans q3⟩
theorem zq_cutOut (H : zq_row g E h cap xs) {k : Nat} (hk : k < xs.length) : ∃ E', tw_X3_cutOut E h (nI k) = some E' ∧ zq_row g E' h cap (xs.take k ++ xs.drop (k + 1)) ∧ zq_same E E' h (h + 2) := by
  have hlt := H.lt
  have h1000 := H.2.1
  have key : ∀ n i : Nat, xs.length - i < n → ∀ (E : bq_E) (ys : List Int32), k ≤ i → i < xs.length → ys.length = xs.length → (∀ j, ys[j]? = if j < k then xs[j]? else if j < i then xs[j + 1]? else xs[j]?) → zq_row g E h cap ys → ∃ E', tl_X3_cutOut_15 h n (nI i) E = some E' ∧ zq_row g E' h cap (xs.take k ++ xs.drop (k + 1)) ∧ zq_same E E' h (h + 2) := by
    intro n
    induction n with
    | zero => intro i hi; omega
    | succ n ih =>
      intro i hi E ys hki hil hyl hy HE
      obtain ⟨m, hm⟩ : ∃ m, xs.length = m + 1 := ⟨xs.length - 1, by omega⟩
      rw [tl_X3_cutOut_15.eq_2, zq_fi (k := 1) HE.1 rfl]
      simp only [Option.bind_some]
      rw [hyl, hm, nI_pred]
      by_cases h1 : i = m
      · subst h1
        rw [if_pos (nI_le (Nat.le_refl _) (by omega)), zq_p _ HE.1 (by simp)]
        simp only [Option.bind_some]
        obtain ⟨a, b, f, c, e⟩ := id HE
        have hz : ys.take i = xs.take k ++ xs.drop (k + 1) := by
          apply List.ext_getElem?
          intro j
          rw [List.getElem?_take, List.getElem?_append, List.length_take, Nat.min_eq_left (by omega : k ≤ xs.length), List.getElem?_take, List.getElem?_drop, hy j]
          by_cases hjk : j < k
          · rw [if_pos (by omega), if_pos hjk, if_pos hjk, if_pos hjk]
          · rw [if_neg hjk, if_neg hjk, show k + 1 + (j - k) = j + 1 by omega]
            by_cases hji : j < i
            · rw [if_pos hji, if_pos hji]
            · rw [if_neg hji, List.getElem?_eq_none (by omega)]
        rw [← hz]
        refine ⟨_, rfl, ⟨?_, ⟨by simp; omega, b.2⟩, f, ?_, fun j hj => ?_⟩, zq_same.up (by omega)⟩
        · rw [va_up_self]
          have : (ys.take i).length = i := by simp; omega
          rw [this]
          rfl
        · rw [va_up_ne _ _ (by omega)]; exact c
        · simp at hj
          rw [List.getElem?_take_of_lt (by omega)]
          exact e j (by omega)
      · rw [if_neg (nI_ge (by omega) (by omega)), nI_1, zq_atn HE (by omega)]
        simp only [Option.bind_some]
        obtain ⟨E', q1, q2, q3⟩ := zq_put HE (k := i) (by omega) (ys.getD (i + 1) 0)
        rw [q1]
        simp only [Option.bind_some, bq_let]
        obtain ⟨E'', r1, r2, r3⟩ := ih (i + 1) (by omega) E' _ (by omega) (by omega) (by simp; exact hyl) (fun j => by
          by_cases hji : j = i
          · subst hji
            rw [List.getElem?_set_self (by omega), if_neg (by omega), if_pos (by omega)]
            have h5 : ys[j + 1]? = xs[j + 1]? := by rw [hy (j + 1), if_neg (by omega), if_neg (by omega)]
            have h6 : j + 1 < xs.length := by omega
            simp [List.getD, h5, List.getElem?_eq_getElem h6]
          · rw [List.getElem?_set_ne (fun h => hji h.symm), hy j]
            by_cases hjk : j < k
            · rw [if_pos hjk, if_pos hjk]
            · rw [if_neg hjk, if_neg hjk]
              by_cases h7 : j < i
              · rw [if_pos h7, if_pos (by omega)]
              · rw [if_neg h7, if_neg (by omega)]) q2
        exact ⟨E'', r1, r2, q3.trans r3⟩
  unfold tw_X3_cutOut
  rw [if_pos (zq_cls H.1), if_neg (nI_pos (by omega)), zq_fi (k := 1) H.1 rfl]
  simp only [Option.bind_some]
  rw [if_pos (nI_lt hk hlt)]
  exact key bq_fuel k (bq_fuel_ge (by omega)) E xs (Nat.le_refl _) hk rfl (fun j => by split <;> rfl) H
theorem zq_copy {h2 cap2 : Nat} {ys : List Int32} (H : zq_row g E h cap xs) (H2 : zq_row g E h2 cap2 ys) (hc : ys.length ≤ cap) : ∃ E', tw_X3_copyFrom E h h2 = some E' ∧ zq_row g E' h cap ys ∧ zq_same E E' h (h + 2) := by
  have h1000 := H.2.1
  have h1002 := H2.2.1
  obtain ⟨a, b, f, c, e⟩ := id H
  obtain ⟨a2, b2, f2, c2, e2⟩ := id H2
  unfold tw_X3_copyFrom
  rw [if_pos (zq_cls a), zq_fi (k := 1) a2 rfl, zq_fr (k := 0) a2 rfl, zq_fr (k := 0) a rfl]
  simp only [Option.bind_some, zq_len c, zq_len c2, bq_let]
  have m1 : (if nI cap < nI cap2 then nI cap else nI cap2) = nI (min cap2 cap) := by
    by_cases hlt : cap < cap2
    · rw [if_pos (nI_lt hlt (by omega)), Nat.min_eq_right (by omega)]
    · rw [if_neg (nI_nlt (by omega) (by omega)), Nat.min_eq_left (by omega)]
  rw [m1, if_neg (nI_nlt (by omega) (by omega)), if_neg (nI_pos (by omega))]
  have z0 : (0 : Int32).toNatClampNeg = 0 := rfl
  have zn : (nI ys.length).toNatClampNeg = ys.length := nI_clamp (by omega)
  have hcp : bq_cp E (h2 + 1) 0 (h + 1) 0 (nI ys.length) = some (va_up E (h + 1) (.inl (g.2.1, cap, .inl (va_cpy f2 f 0 0 ys.length)))) := by
    simp only [bq_cp, c, c2, z0, zn]
    rw [if_neg]
    intro hh
    rcases hh with hh | hh | hh | hh | hh
    · exact absurd hh (by decide)
    · exact absurd hh (by decide)
    · exact nI_pos (by omega) hh
    · omega
    · omega
  rw [hcp]
  simp only [Option.bind_some]
  have a3 : va_up E (h + 1) (.inl (g.2.1, cap, .inl (va_cpy f2 f 0 0 ys.length))) h = .inr (3, [.ref (h + 1), .int (nI xs.length)]) := by
    rw [va_up_ne _ _ (by omega)]; exact a
  rw [zq_p _ a3 (by simp)]
  refine ⟨_, rfl, ⟨?_, ⟨hc, b.2⟩, va_cpy f2 f 0 0 ys.length, ?_, fun i hi => ?_⟩, (zq_same.up (by omega)).trans (zq_same.up (by omega))⟩
  · rw [va_up_self]; rfl
  · rw [va_up_ne _ _ (by omega), va_up_self]
  · rw [e2 i hi, sb_cpy0 hi]
end ZqL
