/-! Catalogs: an object at c, its eight rows and its list behind it, 18 cells. -/
abbrev zq_N : Type := (Nat → Int32) × (Nat → List Nat)
def zq_off (j : Nat) : Nat := if j < 3 then 1 + 2 * j else 2 + 2 * j
def zq_cap (j : Nat) : Nat := if j < 2 then 24 else if j = 2 then 8 else if j < 5 then 96 else 97
theorem zq_off_in {j : Nat} (h : j < 8) : 1 ≤ zq_off j ∧ zq_off j + 2 ≤ 18 ∧ (zq_off j + 2 ≤ 7 ∨ 8 ≤ zq_off j) := by unfold zq_off; split <;> omega
theorem zq_off_apart {i j : Nat} (h : i ≠ j) : zq_off i + 2 ≤ zq_off j ∨ zq_off j + 2 ≤ zq_off i := by unfold zq_off; split <;> split <;> omega
def zq_cat (g : bq_G) (E : bq_E) (c : Nat) (v : zq_N) : Prop :=
  E c = .inr (0, [.int (v.1 0), .int (v.1 1), .int (v.1 2), .int (v.1 3), .int (v.1 4), .ref (c + 1), .ref (c + 3), .ref (c + 5), .ref (c + 7)]) ∧
  E (c + 7) = .inr (2, [.ref (c + 8), .ref (c + 10), .ref (c + 12), .ref (c + 14), .ref (c + 16)]) ∧
  ∀ j, j < 8 → zn_row g E (c + zq_off j) (zq_cap j) (v.2 j)
def zq_R (v : zq_N) (j : Nat) (xs : List Nat) : zq_N := (v.1, va_up v.2 j xs)
def zq_I (v : zq_N) (k : Nat) (x : Int32) : zq_N := (va_up v.1 k x, v.2)
section ZqC
variable {g : bq_G} {E E' : bq_E} {c : Nat} {v : zq_N}
theorem zq_cat.row (H : zq_cat g E c v) {j : Nat} (hj : j < 8) : zn_row g E (c + zq_off j) (zq_cap j) (v.2 j) := H.2.2 j hj
theorem zq_cat.same (H : zq_cat g E c v) {lo hi : Nat} (s : zq_same E E' lo hi) (ho : c + 18 ≤ lo ∨ hi ≤ c) : zq_cat g E' c v := by
  refine ⟨(s c (by omega)).trans H.1, (s (c + 7) (by omega)).trans H.2.1, fun j hj => ?_⟩
  have := zq_off_in hj
  exact (H.2.2 j hj).same s (by omega)
theorem zq_cat.rowup (H : zq_cat g E c v) {j : Nat} (hj : j < 8) {xs : List Nat} (hr : zn_row g E' (c + zq_off j) (zq_cap j) xs) (s : zq_same E E' (c + zq_off j) (c + zq_off j + 2)) : zq_cat g E' c (zq_R v j xs) ∧ zq_same E E' c (c + 18) := by
  have hi := zq_off_in hj
  refine ⟨⟨(s c (by omega)).trans H.1, (s (c + 7) (by omega)).trans H.2.1, fun i hi2 => ?_⟩, s.wide (by omega) (by omega)⟩
  by_cases h : i = j
  · subst h
    show zn_row g E' _ _ (va_up v.2 i xs i)
    rw [va_up_self]
    exact hr
  · show zn_row g E' _ _ (va_up v.2 j xs i)
    rw [va_up_ne _ _ h]
    have := zq_off_apart h
    exact (H.2.2 i hi2).same s (by omega)
theorem zq_cat.intup (H : zq_cat g E c v) {k : Nat} (hk : k < 5) (x : Int32) : ∃ E', bq_p E c 0 k (.int x) = some E' ∧ zq_cat g E' c (zq_I v k x) ∧ zq_same E E' c (c + 18) := by
  refine ⟨_, zq_p _ H.1 (by simp; omega), ⟨?_, ?_, fun j hj => ?_⟩, zq_same.up (by omega)⟩
  · rw [va_up_self]
    have : k = 0 ∨ k = 1 ∨ k = 2 ∨ k = 3 ∨ k = 4 := by omega
    rcases this with rfl | rfl | rfl | rfl | rfl <;> simp [zq_I, va_up]
  · rw [va_up_ne _ _ (by omega)]; exact H.2.1
  · have := zq_off_in hj
    exact (H.2.2 j hj).keep (va_up_ne _ _ (by omega)) (va_up_ne _ _ (by omega))
theorem zq_cat.int (H : zq_cat g E c v) {k : Nat} (hk : k < 5) : bq_fi E c 0 k = some (v.1 k) := by
  have : k = 0 ∨ k = 1 ∨ k = 2 ∨ k = 3 ∨ k = 4 := by omega
  rcases this with rfl | rfl | rfl | rfl | rfl <;> exact zq_fi H.1 rfl
theorem zq_cat.rBase (H : zq_cat g E c v) : bq_fr E c 0 5 = some (c + 1) := zq_fr H.1 rfl
theorem zq_cat.rMarks (H : zq_cat g E c v) : bq_fr E c 0 6 = some (c + 3) := zq_fr H.1 rfl
theorem zq_cat.rBuf (H : zq_cat g E c v) : bq_fr E c 0 7 = some (c + 5) := zq_fr H.1 rfl
theorem zq_cat.rList (H : zq_cat g E c v) : bq_fr E c 0 8 = some (c + 7) := zq_fr H.1 rfl
theorem zq_cat.lKeys (H : zq_cat g E c v) : bq_fr E (c + 7) 2 0 = some (c + 8) := zq_fr H.2.1 rfl
theorem zq_cat.lOrg (H : zq_cat g E c v) : bq_fr E (c + 7) 2 1 = some (c + 10) := zq_fr H.2.1 rfl
theorem zq_cat.lB0 (H : zq_cat g E c v) : bq_fr E (c + 7) 2 2 = some (c + 12) := zq_fr H.2.1 rfl
theorem zq_cat.lB1 (H : zq_cat g E c v) : bq_fr E (c + 7) 2 3 = some (c + 14) := zq_fr H.2.1 rfl
theorem zq_cat.lB2 (H : zq_cat g E c v) : bq_fr E (c + 7) 2 4 = some (c + 16) := zq_fr H.2.1 rfl
theorem zq_cat.base (H : zq_cat g E c v) : zn_row g E (c + 1) 24 (v.2 0) := H.2.2 0 (by omega)
theorem zq_cat.marks (H : zq_cat g E c v) : zn_row g E (c + 3) 24 (v.2 1) := H.2.2 1 (by omega)
theorem zq_cat.buf (H : zq_cat g E c v) : zn_row g E (c + 5) 8 (v.2 2) := H.2.2 2 (by omega)
theorem zq_cat.keys (H : zq_cat g E c v) : zn_row g E (c + 8) 96 (v.2 3) := H.2.2 3 (by omega)
theorem zq_cat.orgs (H : zq_cat g E c v) : zn_row g E (c + 10) 96 (v.2 4) := H.2.2 4 (by omega)
theorem zq_cat.br0 (H : zq_cat g E c v) : zn_row g E (c + 12) 97 (v.2 5) := H.2.2 5 (by omega)
theorem zq_cat.br1 (H : zq_cat g E c v) : zn_row g E (c + 14) 97 (v.2 6) := H.2.2 6 (by omega)
theorem zq_cat.br2 (H : zq_cat g E c v) : zn_row g E (c + 16) 97 (v.2 7) := H.2.2 7 (by omega)
-- reads
theorem zc_child (H : zq_cat g E c v) (s : Int32) : tw_X0_child E c s = some (if s = 1 then v.1 1 else v.1 2) := by
  unfold tw_X0_child
  rw [if_pos (zq_cls H.1), H.int (k := 1) (by omega), H.int (k := 2) (by omega)]
  by_cases h : s = 1
  · rw [if_pos h, if_pos h]; rfl
  · rw [if_neg h, if_neg h]; rfl
theorem zc_isMarked (H : zq_cat g E c v) {k : Nat} (hk : k < 2 ^ 31) : tw_X0_isMarked E c (nI k) = some (decide ((v.2 1).getD k 0 = 1)) := by
  unfold tw_X0_isMarked
  rw [if_pos (zq_cls H.1), H.rMarks]
  simp only [Option.bind_some]
  rw [zn_at0 H.marks hk]
  simp only [Option.bind_some]
  have hb : (v.2 1).getD k 0 ≤ 10000 := by
    simp only [List.getD]
    cases h : (v.2 1)[k]? with
    | none => exact Nat.zero_le _
    | some x => exact H.marks.2 x (List.mem_of_getElem? h)
  have h1 : nI ((v.2 1).getD k 0) = 1 ↔ (v.2 1).getD k 0 = 1 := nI_inj (b := 1) hb (by omega)
  by_cases h : (v.2 1).getD k 0 = 1
  · rw [if_pos (h1.mpr h), decide_eq_true h]
  · rw [if_neg (fun q => h (h1.mp q)), decide_eq_false h]
def zc_count (v : zq_N) : Int32 := nI (v.2 0).length - v.1 4 + nI (v.2 2).length
theorem zc_keyCount (H : zq_cat g E c v) : tw_X0_keyCount E c = some (zc_count v) := by
  unfold tw_X0_keyCount
  rw [if_pos (zq_cls H.1), H.rBase, H.rBuf, H.int (k := 4) (by omega)]
  simp only [Option.bind_some, zn_size H.base, zn_size H.buf]
  rfl
theorem zc_isFull (H : zq_cat g E c v) : tw_X0_isFull E c = some (!decide (zc_count v < 24)) := by
  unfold tw_X0_isFull
  rw [if_pos (zq_cls H.1), zc_keyCount H]
  simp only [Option.bind_some]
  by_cases h : zc_count v < 24
  · rw [if_pos h, decide_eq_true h]; rfl
  · rw [if_neg h, decide_eq_false h]; rfl
def zc_has (v : zq_N) (key : Nat) : Bool := (decide (key ∈ v.2 0) && !decide ((v.2 1).getD (zn_pos key (v.2 0)) 0 = 1)) || decide (key ∈ v.2 2)
theorem zn_m1 {k : Nat} (h : k ≤ 10000) : ¬ nI k = -1 := by
  intro q
  have := nI_pos (n := k) (by omega)
  rw [q] at this
  exact this (by decide)
theorem bq_bT : ¬ bq_b true = 0 := by decide
theorem bq_bF : bq_b false = 0 := rfl
theorem zc_holds (H : zq_cat g E c v) {key : Nat} (hk : key ≤ 10000) : tw_X0_holds E c (nI key) = some (zc_has v key) := by
  have hlb := H.base.len
  unfold tw_X0_holds
  rw [if_pos (zq_cls H.1), H.rBase, H.rBuf]
  simp only [Option.bind_some]
  rw [zn_indexOf H.base hk, zn_indexOf H.buf hk]
  simp only [Option.bind_some, bq_let]
  have hbuf : (if (if key ∈ v.2 2 then nI (zn_pos key (v.2 2)) else -1) = (-1 : Int32) then some false else some true) = some (decide (key ∈ v.2 2)) := by
    have hl := H.buf.len
    by_cases h : key ∈ v.2 2
    · have := zn_pos_lt h
      rw [if_pos h, if_neg (zn_m1 (by omega)), decide_eq_true h]
    · rw [if_neg h, if_pos rfl, decide_eq_false h]
  rw [hbuf]
  unfold zc_has
  by_cases h : key ∈ v.2 0
  · have hp := zn_pos_lt h
    rw [if_pos h, if_neg (zn_m1 (by omega)), zc_isMarked H (by omega)]
    simp only [Option.bind_some]
    by_cases h2 : (v.2 1).getD (zn_pos key (v.2 0)) 0 = 1
    · rw [decide_eq_true h2, if_neg bq_bT, decide_eq_true h]; rfl
    · rw [decide_eq_false h2, if_pos bq_bF, decide_eq_true h]; rfl
  · rw [if_neg h, if_pos rfl]
    simp [h]
-- writes
theorem zc_takeIn (H : zq_cat g E c v) {key : Nat} (hk : key ≤ 10000) (hm : (v.2 1).length = (v.2 0).length) (hb : (v.2 2).length < 8) : ∃ E', tw_X0_takeIn E c (nI key) = some (decide (key ∉ v.2 0), E') ∧ zq_cat g E' c (if key ∈ v.2 0 then zq_I (zq_R v 1 ((v.2 1).set (zn_pos key (v.2 0)) 0)) 4 (v.1 4 - 1) else zq_R v 2 (v.2 2 ++ [key])) ∧ zq_same E E' c (c + 18) := by
  have hlb := H.base.len
  unfold tw_X0_takeIn
  rw [if_pos (zq_cls H.1), H.rBase, H.rBuf, H.rMarks]
  simp only [Option.bind_some]
  rw [zn_indexOf H.base hk]
  simp only [Option.bind_some]
  by_cases h : key ∈ v.2 0
  · have hp := zn_pos_lt h
    rw [if_pos h, if_neg (zn_m1 (by omega))]
    obtain ⟨E1, q1, q2, q3⟩ := zn_put H.marks (k := zn_pos key (v.2 0)) (by omega) (v := 0) (by omega)
    rw [show (0 : Int32) = nI 0 from rfl, q1]
    obtain ⟨H1, s1⟩ := H.rowup (j := 1) (by omega) q2 q3
    obtain ⟨E2, r1, r2, r3⟩ := H1.intup (k := 4) (by omega) (v.1 4 - 1)
    simp only [Option.bind_some, H1.int (k := 4) (by omega)]
    refine ⟨E2, ?_, ?_, s1.trans r3⟩
    · show (bq_p E1 c 0 4 (.int (v.1 4 - 1))).bind _ = _
      rw [r1]
      simp [h]
    · rw [if_pos h]; exact r2
  · rw [if_neg h, if_pos rfl]
    obtain ⟨E1, q1, q2, q3⟩ := zn_append H.buf hb hk
    rw [q1]
    obtain ⟨H1, s1⟩ := H.rowup (j := 2) (by omega) q2 q3
    refine ⟨E1, ?_, ?_, s1⟩
    · simp [h]
    · rw [if_neg h]; exact H1
theorem zc_letGo (H : zq_cat g E c v) {key : Nat} (hk : key ≤ 10000) (hm : (v.2 1).length = (v.2 0).length) (hh : key ∈ v.2 2 ∨ key ∈ v.2 0) : ∃ E', tw_X0_letGo E c (nI key) = some (decide (key ∉ v.2 2), E') ∧ zq_cat g E' c (if key ∈ v.2 2 then zq_R v 2 ((v.2 2).take (zn_pos key (v.2 2)) ++ (v.2 2).drop (zn_pos key (v.2 2) + 1)) else zq_I (zq_R v 1 ((v.2 1).set (zn_pos key (v.2 0)) 1)) 4 (v.1 4 + 1)) ∧ zq_same E E' c (c + 18) := by
  have hlb := H.base.len
  have hlc := H.buf.len
  unfold tw_X0_letGo
  rw [if_pos (zq_cls H.1), H.rBase, H.rBuf, H.rMarks]
  simp only [Option.bind_some]
  rw [zn_indexOf H.base hk, zn_indexOf H.buf hk]
  simp only [Option.bind_some]
  by_cases h : key ∈ v.2 2
  · have hp := zn_pos_lt h
    rw [if_pos h, if_neg (zn_m1 (by omega))]
    obtain ⟨E1, q1, q2, q3⟩ := zn_cutOut H.buf hp
    rw [q1]
    obtain ⟨H1, s1⟩ := H.rowup (j := 2) (by omega) q2 q3
    refine ⟨E1, ?_, ?_, s1⟩
    · simp [h]
    · rw [if_pos h]; exact H1
  · have hin : key ∈ v.2 0 := hh.resolve_left h
    have hp := zn_pos_lt hin
    rw [if_neg h, if_pos rfl, if_pos hin]
    obtain ⟨E1, q1, q2, q3⟩ := zn_put H.marks (k := zn_pos key (v.2 0)) (by omega) (v := 1) (by omega)
    rw [show (1 : Int32) = nI 1 from rfl, q1]
    obtain ⟨H1, s1⟩ := H.rowup (j := 1) (by omega) q2 q3
    obtain ⟨E2, r1, r2, r3⟩ := H1.intup (k := 4) (by omega) (v.1 4 + 1)
    simp only [Option.bind_some, H1.int (k := 4) (by omega)]
    refine ⟨E2, ?_, ?_, s1.trans r3⟩
    · show (bq_p E1 c 0 4 (.int (v.1 4 + 1))).bind _ = _
      rw [r1]
      simp [h]
    · rw [if_neg h]; exact r2
def zn_run : List Nat → Nat
  | [] => 0
  | x :: t => if x = 1 then zn_run t + 1 else 0
theorem zn_run_le (xs : List Nat) : zn_run xs ≤ xs.length := by
  induction xs with
  | nil => exact Nat.le_refl _
  | cons x t ih =>
    unfold zn_run
    split
    · simp; exact ih
    · omega
theorem zc_firstUnmarked (H : zq_cat g E c v) (hm : (v.2 1).length = (v.2 0).length) {k : Nat} (hk : k ≤ (v.2 0).length) : tw_X0_firstUnmarked E c (nI k) = some (nI (k + zn_run ((v.2 1).drop k))) := by
  have hlb := H.base.len
  have key : ∀ n k : Nat, (v.2 0).length - k < n → k ≤ (v.2 0).length → tl_X0_firstUnmarked_2 E c n (nI k) = some (nI (k + zn_run ((v.2 1).drop k))) := by
    intro n
    induction n with
    | zero => intro k hk; omega
    | succ n ih =>
      intro k hk hkl
      rw [tl_X0_firstUnmarked_2.eq_2, H.rBase, H.rMarks]
      simp only [Option.bind_some, zn_size H.base]
      by_cases h1 : k < (v.2 0).length
      · rw [if_neg (nI_ge h1 (by omega)), zn_at0 H.marks (by omega)]
        simp only [Option.bind_some]
        have h1m : k < (v.2 1).length := by omega
        have hg : (v.2 1).getD k 0 = (v.2 1)[k] := by simp [List.getD, List.getElem?_eq_getElem h1m]
        have hb : (v.2 1)[k] ≤ 10000 := H.marks.2 _ (List.getElem_mem h1m)
        rw [hg, List.drop_eq_getElem_cons h1m]
        unfold zn_run
        have e1 : nI (v.2 1)[k] = 1 ↔ (v.2 1)[k] = 1 := nI_inj (b := 1) hb (by omega)
        by_cases h2 : (v.2 1)[k] = 1
        · rw [if_pos h2, if_pos (e1.mpr h2), nI_1]
          simp only [bq_let]
          rw [ih (k + 1) (by omega) (by omega), show k + 1 + zn_run ((v.2 1).drop (k + 1)) = k + (zn_run ((v.2 1).drop (k + 1)) + 1) by omega]
        · rw [if_neg h2, if_neg (fun q => h2 (e1.mp q)), Nat.add_zero]
      · rw [if_pos (nI_le (by omega) (by omega)), List.drop_of_length_le (by omega)]
        rfl
  unfold tw_X0_firstUnmarked
  rw [if_pos (zq_cls H.1)]
  exact key bq_fuel k (bq_fuel_ge (by omega)) hk
/-- the least of a buffer that is at least x and less than the bound; else the bound -/
def zn_lb (x : Nat) : Nat → List Nat → Nat
  | b, [] => b
  | b, y :: t => zn_lb x (if x ≤ y ∧ y < b then y else b) t
theorem zc_leastBuffered (H : zq_cat g E c v) {x b : Nat} (hx : x ≤ 10001) (hb : b ≤ 10001) : tw_X0_leastBuffered E c (nI x) (nI b) = some (nI (zn_lb x b (v.2 2))) := by
  have hlb := H.buf.len
  have key : ∀ n k b : Nat, (v.2 2).length - k < n → k ≤ (v.2 2).length → b ≤ 10001 → tl_X0_leastBuffered_5 E c (nI x) n (nI b) (nI k) = some (nI (zn_lb x b ((v.2 2).drop k))) := by
    intro n
    induction n with
    | zero => intro k b hk; omega
    | succ n ih =>
      intro k b hk hkl hb
      rw [tl_X0_leastBuffered_5.eq_2, H.rBuf]
      simp only [Option.bind_some, zn_size H.buf]
      by_cases h1 : k < (v.2 2).length
      · rw [if_neg (nI_ge h1 (by omega)), zn_at0 H.buf (by omega)]
        simp only [Option.bind_some]
        have hg : (v.2 2).getD k 0 = (v.2 2)[k] := by simp [List.getD, List.getElem?_eq_getElem h1]
        have hy : (v.2 2)[k] ≤ 10000 := H.buf.2 _ (List.getElem_mem h1)
        rw [hg, List.drop_eq_getElem_cons h1]
        unfold zn_lb
        simp only [bq_let, nI_1]
        by_cases h2 : (v.2 2)[k] < x
        · rw [if_pos (nI_lt h2 (by omega)), ih (k + 1) b (by omega) (by omega) hb, if_neg (by omega)]
        · rw [if_neg (nI_nlt (by omega) (by omega))]
          by_cases h3 : b ≤ (v.2 2)[k]
          · rw [if_pos (nI_le h3 (by omega)), ih (k + 1) b (by omega) (by omega) hb, if_neg (by omega)]
          · rw [if_neg (nI_ge (by omega) (by omega)), ih (k + 1) _ (by omega) (by omega) (by omega), if_pos (by omega)]
      · rw [if_pos (nI_le (by omega) (by omega)), List.drop_of_length_le (by omega)]
        rfl
  unfold tw_X0_leastBuffered
  rw [if_pos (zq_cls H.1)]
  have := key bq_fuel 0 b (bq_fuel_ge (by omega)) (Nat.zero_le _) hb
  rw [List.drop_zero] at this
  exact this
end ZqC
