/-! The reckoner builds a list: entries, then bridges. -/
def zn_cnt (K : Nat) : List Nat → Nat
  | [] => 0
  | x :: t => (if x < K then 1 else 0) + zn_cnt K t
theorem zn_cnt_le (K : Nat) (xs : List Nat) : zn_cnt K xs ≤ xs.length := by
  induction xs with
  | nil => exact Nat.le_refl _
  | cons x t ih =>
    unfold zn_cnt
    rw [List.length_cons]
    split <;> omega
def zm_rdB (f : Nat → Int32) (k : Nat) (xs : List Nat) : Prop := f (zm_at k + 3) = nI xs.length ∧ zm_seg f (zm_at k + 4) xs
def zm_rdK (f : Nat → Int32) (k : Nat) (xs : List Nat) : Prop := f (zm_at k + 61) = nI xs.length ∧ zm_seg f (zm_at k + 62) xs
def zi_es (es : List (Nat × Nat)) : Prop := es.Pairwise zp_le ∧ ∀ q ∈ es, q.1 ≤ 10000 ∧ q.2 ≤ 10000
theorem zi_es_ins {es : List (Nat × Nat)} (h : zi_es es) {p : Nat × Nat} (hp : p.1 ≤ 10000 ∧ p.2 ≤ 10000) : zi_es (zp_ins p es) := ⟨zp_ins_sorted h.1, fun q hq => by
  rcases List.mem_cons.mp ((zp_ins_perm p es).mem_iff.mp hq) with rfl | hq
  · exact hp
  · exact h.2 q hq⟩
theorem zp_ins_len (p : Nat × Nat) (es : List (Nat × Nat)) : (zp_ins p es).length = es.length + 1 := (zp_ins_perm p es).length_eq
section ZqD
variable {g : bq_G} {E : bq_E} {m k c : Nat} {M : zq_M} {xs : List Nat}
theorem zm_rdB.len (h : zm_rdB (M.1 1) k xs) (H : zq_mod g E m M) (hk : k < 15) : tw_X7_of E m (nI k) 3 = some (nI xs.length) := by
  rw [show (3 : Int32) = nI 3 from rfl, zm_of H hk (by omega)]
  exact congrArg some h.1
theorem zm_rdB.get (h : zm_rdB (M.1 1) k xs) (H : zq_mod g E m M) (hk : k < 15) (hl : xs.length ≤ 24) {i : Nat} (hi : i < xs.length) : tw_X7_of E m (nI k) (4 + nI i) = some (nI (xs.getD i 0)) := by
  rw [show (4 : Int32) = nI 4 from rfl, nI_add, zm_of H hk (by omega), ← h.2 i hi]
  exact congrArg (fun a => some (M.1 1 a)) (by unfold zm_at; omega)
theorem zm_rdK.len (h : zm_rdK (M.1 1) k xs) (H : zq_mod g E m M) (hk : k < 15) : tw_X7_of E m (nI k) 61 = some (nI xs.length) := by
  rw [show (61 : Int32) = nI 61 from rfl, zm_of H hk (by omega)]
  exact congrArg some h.1
theorem zm_rdK.get (h : zm_rdK (M.1 1) k xs) (H : zq_mod g E m M) (hk : k < 15) (hl : xs.length ≤ 96) {i : Nat} (hi : i < xs.length) : tw_X7_of E m (nI k) (62 + nI i) = some (nI (xs.getD i 0)) := by
  rw [show (62 : Int32) = nI 62 from rfl, nI_add, zm_of H hk (by omega), ← h.2 i hi]
  exact congrArg (fun a => some (M.1 1 a)) (by unfold zm_at; omega)
theorem zm_rdB.keep {M' : zq_M} {Q : Nat → Prop} (h : zm_rdB (M.1 1) k xs) (ho : zm_only M M' Q) (hl : xs.length ≤ 24) (hq : ∀ a, Q a → a < zm_at k + 3 ∨ zm_at k + 28 ≤ a) : zm_rdB (M'.1 1) k xs :=
  ⟨(ho.2.2 _ (fun q => by have := hq _ q; omega)).trans h.1, h.2.keep fun a h1 h2 => ho.2.2 _ (fun q => by have := hq _ q; omega)⟩
theorem zm_rdK.keep {M' : zq_M} {Q : Nat → Prop} (h : zm_rdK (M.1 1) k xs) (ho : zm_only M M' Q) (hl : xs.length ≤ 96) (hq : ∀ a, Q a → a < zm_at k + 61 ∨ zm_at k + 158 ≤ a) : zm_rdK (M'.1 1) k xs :=
  ⟨(ho.2.2 _ (fun q => by have := hq _ q; omega)).trans h.1, h.2.keep fun a h1 h2 => ho.2.2 _ (fun q => by have := hq _ q; omega)⟩
theorem zm_lessB (H : zq_mod g E m M) (hk : k < 15) (h : zm_rdB (M.1 1) k xs) (hl : xs.length ≤ 24) (hb : ∀ x ∈ xs, x ≤ 10000) {K : Nat} (hK : K ≤ 10000) : tw_X7_less E m (nI k) 0 (nI K) = some (nI (zn_cnt K xs)) := by
  have key : ∀ (n i a : Nat), xs.length - i < n → i ≤ xs.length → tl_X7_less_24 E m 0 (nI K) (nI k) n (nI a) (nI i) = some (nI (a + zn_cnt K (xs.drop i))) := by
    intro n
    induction n with
    | zero => intro i a h; omega
    | succ n ih =>
      intro i a hn hi
      rw [tl_X7_less_24.eq_2, if_neg (zn_m1 (by omega))]
      simp only [bq_let]
      rw [if_pos True.intro, h.len H hk]
      simp only [Option.bind_some]
      by_cases h1 : i < xs.length
      · rw [if_neg (nI_ge (by omega) (by omega)), if_pos True.intro, h.get H hk hl h1]
        simp only [Option.bind_some]
        rw [zn_gD h1, List.drop_eq_getElem_cons h1]
        have hlt := hb _ (List.getElem_mem h1)
        unfold zn_cnt
        by_cases h2 : K ≤ xs[i]
        · rw [if_pos (nI_le h2 (by omega)), if_neg (by omega), show nI a + (0 : Int32) = nI (a + 0) from nI_add a 0, nI_1, ih (i + 1) _ (by omega) (by omega)]
          simp
        · rw [if_neg (nI_ge (by omega) (by omega)), if_pos (by omega), nI_1, nI_1, ih (i + 1) _ (by omega) (by omega), Nat.add_assoc]
      · rw [if_pos (nI_le (by omega) (by omega)), List.drop_of_length_le (by omega)]
        rfl
  unfold tw_X7_less
  rw [if_pos (zq_cls H.1)]
  simp only [bq_let]
  rw [if_pos True.intro]
  have := key bq_fuel 0 0 (bq_fuel_ge (by omega)) (Nat.zero_le _)
  rw [List.drop_zero, Nat.zero_add] at this
  exact this
theorem zm_lessK (H : zq_mod g E m M) (hk : k < 15) {s : Nat} (hs : s = 1 ∨ s = 2) {x : Int32} (hx : M.1 1 (zm_at k + s) = x) (h : (x = -1 ∧ xs = []) ∨ (x = nI c ∧ c < 15 ∧ zm_rdK (M.1 1) c xs)) (hl : xs.length ≤ 96) (hb : ∀ x ∈ xs, x ≤ 10000) {K : Nat} (hK : K ≤ 10000) : tw_X7_less E m (nI k) (nI s) (nI K) = some (nI (zn_cnt K xs)) := by
  have hs0 : ¬ nI s = 0 := nI_ne0 (by omega) (by omega)
  unfold tw_X7_less
  rw [if_pos (zq_cls H.1)]
  simp only [bq_let]
  rw [if_neg hs0, show (0 : Int32) = nI 0 from rfl, nI_add, Nat.zero_add, zm_of H hk (by omega)]
  simp only [Option.bind_some]
  have hx' : M.1 1 (8 + 545 * k + s) = x := hx
  rw [hx']
  rcases h with ⟨rfl, rfl⟩ | ⟨rfl, hc, h⟩
  · rw [show bq_fuel = 999999 + 1 from rfl, tl_X7_less_24.eq_2, if_pos rfl]
    rfl
  · have key : ∀ (n i a : Nat), xs.length - i < n → i ≤ xs.length → tl_X7_less_24 E m (nI s) (nI K) (nI c) n (nI a) (nI i) = some (nI (a + zn_cnt K (xs.drop i))) := by
      intro n
      induction n with
      | zero => intro i a h; omega
      | succ n ih =>
        intro i a hn hi
        rw [tl_X7_less_24.eq_2, if_neg (zn_m1 (by omega))]
        simp only [bq_let]
        rw [if_neg hs0, h.len H hc]
        simp only [Option.bind_some]
        by_cases h1 : i < xs.length
        · rw [if_neg (nI_ge (by omega) (by omega)), if_neg hs0, h.get H hc hl h1]
          simp only [Option.bind_some]
          rw [zn_gD h1, List.drop_eq_getElem_cons h1]
          have hlt := hb _ (List.getElem_mem h1)
          unfold zn_cnt
          by_cases h2 : K ≤ xs[i]
          · rw [if_pos (nI_le h2 (by omega)), if_neg (by omega), show nI a + (0 : Int32) = nI (a + 0) from nI_add a 0, nI_1, ih (i + 1) _ (by omega) (by omega)]
            simp
          · rw [if_neg (nI_ge (by omega) (by omega)), if_pos (by omega), nI_1, nI_1, ih (i + 1) _ (by omega) (by omega), Nat.add_assoc]
        · rw [if_pos (nI_le (by omega) (by omega)), List.drop_of_length_le (by omega)]
          rfl
    have := key bq_fuel 0 0 (bq_fuel_ge (by omega)) (Nat.zero_le _)
    rw [List.drop_zero, Nat.zero_add] at this
    exact this
theorem zm_build10 (K : Int32 → bq_E → Option bq_E) (hk : k < 15) (hl : xs.length ≤ 24) (hb : ∀ x ∈ xs, x ≤ 10000) : ∀ (n i : Nat) (E1 : bq_E) (M1 : zq_M) (es : List (Nat × Nat)), xs.length - i < n → i ≤ xs.length → zq_mod g E1 m M1 → zm_rdB (M1.1 1) k xs → zm_lst (M1.1 1) k es → zi_es es → es.length + (xs.length - i) ≤ 96 →
    ∃ E2 M2 y, tl_X7_builds_10 m (nI k) K n (nI i) E1 = K y E2 ∧ zq_mod g E2 m M2 ∧ zm_lst (M2.1 1) k (zp_inss es ((xs.drop i).map (·, 0))) ∧ zi_es (zp_inss es ((xs.drop i).map (·, 0))) ∧ zm_only M1 M2 (fun a => zm_at k + 61 ≤ a ∧ a < zm_at k + 254) ∧ zq_same E1 E2 m (m + 8) := by
  intro n
  induction n with
  | zero => intro i E1 M1 es h; omega
  | succ n ih =>
    intro i E1 M1 es hn hi H1 hB hL he hf
    rw [tl_X7_builds_10.eq_2, hB.len H1 hk]
    simp only [Option.bind_some]
    by_cases h1 : i < xs.length
    · rw [if_neg (nI_ge (by omega) (by omega)), hB.get H1 hk hl h1]
      simp only [Option.bind_some]
      rw [zn_gD h1]
      have hx := hb _ (List.getElem_mem h1)
      obtain ⟨E2, M2, a2, H2, L2, o2, s2⟩ := zm_enters H1 hk hL he.1 (by omega) he.2 hx (o := 0) (by omega)
      rw [show (0 : Int32) = nI 0 from rfl, a2]
      simp only [Option.bind_some, bq_let, nI_1]
      obtain ⟨E3, M3, y, a3, H3, L3, e3, o3, s3⟩ := ih (i + 1) E2 M2 _ (by omega) (by omega) H2 (hB.keep o2 hl (fun a q => by omega)) L2 (zi_es_ins he ⟨hx, Nat.zero_le _⟩) (by rw [zp_ins_len]; omega)
      refine ⟨E3, M3, y, a3, H3, ?_, ?_, o2.trans o3, s2.trans s3⟩
      · rw [List.drop_eq_getElem_cons h1]; exact L3
      · rw [List.drop_eq_getElem_cons h1]; exact e3
    · rw [if_pos (nI_le (by omega) (by omega)), List.drop_of_length_le (by omega)]
      exact ⟨E1, M1, _, rfl, H1, hL, he, zm_only.refl, zq_same.refl⟩
theorem zm_build66 (K : Int32 → bq_E → Option bq_E) (hk : k < 15) {s st : Nat} (hs : s ≤ 2) (hst : 1 ≤ st ∧ st ≤ 1000) {x : Int32} (hl : xs.length ≤ 96) (hb : ∀ x ∈ xs, x ≤ 10000) (hx : (x = -1 ∧ xs = []) ∨ (x = nI c ∧ c < 15 ∧ c ≠ k)) : ∀ (n j : Nat) (E1 : bq_E) (M1 : zq_M) (es : List (Nat × Nat)), xs.length - j < n → j ≤ 2000 → zq_mod g E1 m M1 → M1.1 1 2 = nI st → (x = nI c → zm_rdK (M1.1 1) c xs) → zm_lst (M1.1 1) k es → zi_es es → es.length + (zp_sam st xs xs.length j).length ≤ 96 →
    ∃ E2 M2 y, tl_X7_builds_66 m (nI k) (nI s) x K n (nI j) E1 = K y E2 ∧ zq_mod g E2 m M2 ∧ zm_lst (M2.1 1) k (zp_inss es ((zp_sam st xs xs.length j).map (·, s))) ∧ zi_es (zp_inss es ((zp_sam st xs xs.length j).map (·, s))) ∧ zm_only M1 M2 (fun a => zm_at k + 61 ≤ a ∧ a < zm_at k + 254) ∧ zq_same E1 E2 m (m + 8) := by
  intro n
  induction n with
  | zero => intro j E1 M1 es h; omega
  | succ n ih =>
    intro j E1 M1 es hn hj H1 hst1 hR hL he hf
    rw [tl_X7_builds_66.eq_2]
    rcases hx with ⟨rfl, rfl⟩ | ⟨rfl, hc, hck⟩
    · rw [if_pos rfl]
      exact ⟨E1, M1, _, rfl, H1, hL, he, zm_only.refl, zq_same.refl⟩
    · rw [if_neg (zn_m1 (by omega)), (hR rfl).len H1 hc]
      simp only [Option.bind_some]
      by_cases h1 : j < xs.length
      · rw [if_neg (nI_ge (by omega) (by omega)), (hR rfl).get H1 hc hl h1]
        simp only [Option.bind_some]
        rw [zp_sam_step hst.1 h1] at hf ⊢
        have hxx : xs.getD j 0 ≤ 10000 := zn_getD_le hb (Nat.zero_le _) _
        rw [List.length_cons] at hf
        obtain ⟨E2, M2, a2, H2, L2, o2, s2⟩ := zm_enters H1 hk hL he.1 (by omega) he.2 hxx (o := s) (by omega)
        rw [a2]
        simp only [Option.bind_some]
        rw [zm_r1 H2]
        simp only [Option.bind_some]
        have hat : zm_at k = 8 + 545 * k := rfl
        have h22 : M2.1 1 2 = nI st := (o2.2.2 2 (by rw [hat]; omega)).trans hst1
        rw [show (2 : Int32) = nI 2 from rfl, zm_ai H2 (j := 1) (by omega) (by show 2 < 8183; omega), h22]
        simp only [Option.bind_some, bq_let, nI_add]
        have hatc : zm_at c = 8 + 545 * c := rfl
        obtain ⟨E3, M3, y, a3, H3, L3, e3, o3, s3⟩ := ih (j + st) E2 M2 _ (by omega) (by omega) H2 h22 (fun _ => (hR rfl).keep o2 hl (fun a q => by rw [hat] at q; rw [hatc]; omega)) L2 (zi_es_ins he ⟨hxx, by omega⟩) (by rw [zp_ins_len]; omega)
        exact ⟨E3, M3, y, a3, H3, L3, e3, o2.trans o3, s2.trans s3⟩
      · rw [if_pos (nI_le (by omega) (by omega)), zp_sam_end (by omega)]
        exact ⟨E1, M1, _, rfl, H1, hL, he, zm_only.refl, zq_same.refl⟩
end ZqD
