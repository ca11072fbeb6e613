/-! Copying catalogs; trees. -/
section ZqK
variable {g : bq_G} {E E' : bq_E} {c d : Nat} {v w : zq_N}
theorem zl_copy (H : zq_cat g E c v) (H2 : zq_cat g E d w) (ho : d + 18 ≤ c ∨ c + 18 ≤ d) : ∃ E', tw_X2_copyFrom E (c + 7) (d + 7) = some E' ∧ zq_cat g E' c (zq_R (zq_R (zq_R (zq_R (zq_R v 3 (w.2 3)) 4 (w.2 4)) 5 (w.2 5)) 6 (w.2 6)) 7 (w.2 7)) ∧ zq_same E E' c (c + 18) := by
  unfold tw_X2_copyFrom
  obtain ⟨E1, a1, b1, s1⟩ := zn_copy H.keys H2.keys H2.keys.len
  obtain ⟨H1, t1⟩ := H.rowup (j := 3) (by omega) b1 s1
  have K1 := H2.same t1 ho
  obtain ⟨E2, a2, b2, s2⟩ := zn_copy H1.orgs K1.orgs K1.orgs.len
  obtain ⟨G2, t2⟩ := H1.rowup (j := 4) (by omega) b2 s2
  have K2 := K1.same t2 ho
  obtain ⟨E3, a3, b3, s3⟩ := zn_copy G2.br0 K2.br0 K2.br0.len
  obtain ⟨G3, t3⟩ := G2.rowup (j := 5) (by omega) b3 s3
  have K3 := K2.same t3 ho
  obtain ⟨E4, a4, b4, s4⟩ := zn_copy G3.br1 K3.br1 K3.br1.len
  obtain ⟨G4, t4⟩ := G3.rowup (j := 6) (by omega) b4 s4
  have K4 := K3.same t4 ho
  obtain ⟨E5, a5, b5, s5⟩ := zn_copy G4.br2 K4.br2 K4.br2.len
  obtain ⟨G5, t5⟩ := G4.rowup (j := 7) (by omega) b5 s5
  rw [if_pos (zq_cls H.2.1), H.lKeys, H2.lKeys]
  simp only [Option.bind_some, a1, H1.lOrg, K1.lOrg, a2, G2.lB0, K2.lB0, a3, G3.lB1, K3.lB1, a4, G4.lB2, K4.lB2, a5]
  exact ⟨E5, rfl, G5, (((t1.trans t2).trans t3).trans t4).trans t5⟩
theorem zc_copy (H : zq_cat g E c v) (H2 : zq_cat g E d w) (ho : d + 18 ≤ c ∨ c + 18 ≤ d) : ∃ E', tw_X0_copyFrom E c d = some E' ∧ zq_cat g E' c w ∧ zq_same E E' c (c + 18) := by
  unfold tw_X0_copyFrom
  obtain ⟨E1, a1, H1, s1⟩ := H.intup (k := 0) (by omega) (w.1 0)
  have K1 := H2.same s1 ho
  obtain ⟨E2, a2, G2, s2⟩ := H1.intup (k := 1) (by omega) (w.1 1)
  have K2 := K1.same s2 ho
  obtain ⟨E3, a3, G3, s3⟩ := G2.intup (k := 2) (by omega) (w.1 2)
  have K3 := K2.same s3 ho
  obtain ⟨E4, a4, G4, s4⟩ := G3.intup (k := 3) (by omega) (w.1 3)
  have K4 := K3.same s4 ho
  obtain ⟨E5, a5, G5, s5⟩ := G4.intup (k := 4) (by omega) (w.1 4)
  have K5 := K4.same s5 ho
  obtain ⟨E6, a6, b6, t6⟩ := zn_copy G5.base K5.base K5.base.len
  obtain ⟨G6, s6⟩ := G5.rowup (j := 0) (by omega) b6 t6
  have K6 := K5.same s6 ho
  obtain ⟨E7, a7, b7, t7⟩ := zn_copy G6.marks K6.marks K6.marks.len
  obtain ⟨G7, s7⟩ := G6.rowup (j := 1) (by omega) b7 t7
  have K7 := K6.same s7 ho
  obtain ⟨E8, a8, b8, t8⟩ := zn_copy G7.buf K7.buf K7.buf.len
  obtain ⟨G8, s8⟩ := G7.rowup (j := 2) (by omega) b8 t8
  have K8 := K7.same s8 ho
  obtain ⟨E9, a9, G9, s9⟩ := zl_copy G8 K8 ho
  rw [if_pos (zq_cls H.1)]
  simp only [Option.bind_some, H2.int (k := 0) (by omega), a1, K1.int (k := 1) (by omega), a2, K2.int (k := 2) (by omega), a3, K3.int (k := 3) (by omega), a4, K4.int (k := 4) (by omega), a5, G5.rBase, K5.rBase, a6, G6.rMarks, K6.rMarks, a7, G7.rBuf, K7.rBuf, a8, G8.rList, K8.rList, a9]
  refine ⟨E9, rfl, G9.congr (fun k hk => ?_) (fun j hj => ?_), (((((((s1.trans s2).trans s3).trans s4).trans s5).trans s6).trans s7).trans s8).trans s9⟩
  · have : k = 0 ∨ k = 1 ∨ k = 2 ∨ k = 3 ∨ k = 4 := by omega
    rcases this with rfl | rfl | rfl | rfl | rfl <;> rfl
  · have : j = 0 ∨ j = 1 ∨ j = 2 ∨ j = 3 ∨ j = 4 ∨ j = 5 ∨ j = 6 ∨ j = 7 := by omega
    rcases this with rfl | rfl | rfl | rfl | rfl | rfl | rfl | rfl <;> rfl
end ZqK
/-! A tree at T, 274 cells: an array of catalogs, the root, an empty row, fourteen catalogs. -/
abbrev zq_T : Type := (Nat → Int32) × (Nat → zq_N)
def zq_ca (T k : Nat) : Nat := if k = 0 then T + 2 else T + 4 + 18 * k
theorem zq_ca_in {T k : Nat} (h : k < 15) : T + 2 ≤ zq_ca T k ∧ zq_ca T k + 18 ≤ T + 274 ∧ (zq_ca T k + 18 ≤ T + 20 ∨ T + 22 ≤ zq_ca T k) := by unfold zq_ca; split <;> omega
theorem zq_ca_apart {T i j : Nat} (h : i ≠ j) : zq_ca T i + 18 ≤ zq_ca T j ∨ zq_ca T j + 18 ≤ zq_ca T i := by unfold zq_ca; split <;> split <;> omega
def zq_tree (g : bq_G) (E : bq_E) (T : Nat) (t : zq_T) : Prop :=
  E T = .inr (4, [.ref (T + 1), .ref (T + 2), .ref (T + 20), .int (t.1 3), .int (t.1 4), .int (t.1 5), .int (t.1 6), .int (t.1 7), .int (t.1 8), .int (t.1 9), .int (t.1 10)]) ∧
  (∃ f : Nat → Option Nat, E (T + 1) = .inl (g.2.2.2.1, 15, .inr (.inr (.inr (.inr f)))) ∧ ∀ i, i < 15 → f i = some (zq_ca T i)) ∧
  zn_row g E (T + 20) 0 [] ∧ ∀ k, k < 15 → zq_cat g E (zq_ca T k) (t.2 k)
def zt_I (t : zq_T) (k : Nat) (x : Int32) : zq_T := (va_up t.1 k x, t.2)
def zt_C (t : zq_T) (k : Nat) (v : zq_N) : zq_T := (t.1, va_up t.2 k v)
theorem zt_Cs {t : zq_T} {k : Nat} {v : zq_N} : (zt_C t k v).2 k = v := va_up_self t.2 k v
theorem zt_Cn {t : zq_T} {k j : Nat} {v : zq_N} (h : j ≠ k) : (zt_C t k v).2 j = t.2 j := va_up_ne t.2 v h
def zt_ix (x : Int32) : Nat := if x < 0 ∨ 15 ≤ x.toNatClampNeg then 0 else x.toNatClampNeg
theorem zt_ix_lt (x : Int32) : zt_ix x < 15 := by unfold zt_ix; split <;> omega
theorem zt_ix_nI {k : Nat} (h : k < 15) : zt_ix (nI k) = k := by
  unfold zt_ix
  rw [nI_clamp (by omega), if_neg (fun q => q.elim (nI_pos (n := k) (by omega)) (fun q => absurd q (by omega)))]
section ZqT
variable {g : bq_G} {E E' : bq_E} {T S : Nat} {t s : zq_T}
theorem zq_tree.cat (H : zq_tree g E T t) {k : Nat} (hk : k < 15) : zq_cat g E (zq_ca T k) (t.2 k) := H.2.2.2 k hk
theorem zq_tree.same (H : zq_tree g E T t) {lo hi : Nat} (s : zq_same E E' lo hi) (ho : T + 274 ≤ lo ∨ hi ≤ T) : zq_tree g E' T t := by
  refine ⟨(s T (by omega)).trans H.1, ?_, H.2.2.1.same s (by omega), fun k hk => ?_⟩
  · obtain ⟨f, a, b⟩ := H.2.1
    exact ⟨f, (s (T + 1) (by omega)).trans a, b⟩
  · have := zq_ca_in (T := T) hk
    exact (H.2.2.2 k hk).same s (by omega)
theorem zq_tree.catup (H : zq_tree g E T t) {k : Nat} (hk : k < 15) {v : zq_N} (hv : zq_cat g E' (zq_ca T k) v) (s : zq_same E E' (zq_ca T k) (zq_ca T k + 18)) : zq_tree g E' T (zt_C t k v) ∧ zq_same E E' T (T + 274) := by
  have hi := zq_ca_in (T := T) hk
  refine ⟨⟨(s T (by omega)).trans H.1, ?_, H.2.2.1.same s (by omega), fun j hj => ?_⟩, s.wide (by omega) (by omega)⟩
  · obtain ⟨f, a, b⟩ := H.2.1
    exact ⟨f, (s (T + 1) (by omega)).trans a, b⟩
  · by_cases h : j = k
    · subst h
      rw [zt_Cs]
      exact hv
    · rw [zt_Cn h]
      have := zq_ca_apart (T := T) h
      exact (H.2.2.2 j hj).same s (by omega)
theorem zq_tree.int (H : zq_tree g E T t) {k : Nat} (hk : 3 ≤ k ∧ k ≤ 10) : bq_fi E T 4 k = some (t.1 k) := by
  have : k = 3 ∨ k = 4 ∨ k = 5 ∨ k = 6 ∨ k = 7 ∨ k = 8 ∨ k = 9 ∨ k = 10 := by omega
  rcases this with rfl | rfl | rfl | rfl | rfl | rfl | rfl | rfl <;> exact zq_fi H.1 rfl
theorem zq_tree.intup (H : zq_tree g E T t) {k : Nat} (hk : 3 ≤ k ∧ k ≤ 10) (x : Int32) : ∃ E', bq_p E T 4 k (.int x) = some E' ∧ zq_tree g E' T (zt_I t k x) ∧ zq_same E E' T (T + 274) := by
  refine ⟨_, zq_p _ H.1 (by simp; omega), ⟨?_, ?_, ?_, fun j hj => ?_⟩, zq_same.up (by omega)⟩
  · rw [va_up_self]
    have : k = 3 ∨ k = 4 ∨ k = 5 ∨ k = 6 ∨ k = 7 ∨ k = 8 ∨ k = 9 ∨ k = 10 := by omega
    rcases this with rfl | rfl | rfl | rfl | rfl | rfl | rfl | rfl <;> simp [zt_I, va_up]
  · obtain ⟨f, a, b⟩ := H.2.1
    exact ⟨f, by rw [va_up_ne _ _ (by omega)]; exact a, b⟩
  · exact H.2.2.1.keep (va_up_ne _ _ (by omega)) (va_up_ne _ _ (by omega))
  · have := zq_ca_in (T := T) hj
    exact (H.2.2.2 j hj).same (zq_same.up (lo := T) (hi := T + 1) (by omega)) (by omega)
theorem zq_tree.congr (H : zq_tree g E T t) (h1 : ∀ k, 3 ≤ k ∧ k ≤ 10 → t.1 k = s.1 k) (h2 : ∀ j, j < 15 → t.2 j = s.2 j) : zq_tree g E T s := by
  refine ⟨?_, H.2.1, H.2.2.1, fun j hj => (h2 j hj) ▸ H.2.2.2 j hj⟩
  rw [← h1 3 (by omega), ← h1 4 (by omega), ← h1 5 (by omega), ← h1 6 (by omega), ← h1 7 (by omega), ← h1 8 (by omega), ← h1 9 (by omega), ← h1 10 (by omega)]
  exact H.1
theorem zt_at (H : zq_tree g E T t) (x : Int32) : tw_X4_at E T x = some (zq_ca T (zt_ix x)) := by
  unfold tw_X4_at
  obtain ⟨f, a, b⟩ := H.2.1
  have r1 : bq_fr E T 4 1 = some (T + 2) := zq_fr H.1 rfl
  have r0 : bq_fr E T 4 0 = some (T + 1) := zq_fr H.1 rfl
  rw [if_pos (zq_cls H.1)]
  simp only [bq_let, r1, r0, Option.bind_some, zq_len a]
  unfold zt_ix
  by_cases h : x < 0
  · rw [if_pos h, if_pos (Or.inl h)]
    rfl
  · rw [if_neg h]
    obtain ⟨j, hj, rfl⟩ := nI_of h
    rw [nI_clamp hj]
    by_cases h2 : j < 15
    · rw [if_neg (nI_ge h2 (by omega)), if_neg (fun q => q.elim h (fun q => absurd q (by omega)))]
      have hr : bq_ar E (T + 1) (nI j) = some (f j) := by
        have h3 := nI_in h2 (by omega)
        simp only [bq_ar, a]
        rw [if_neg h3, nI_clamp hj]
      rw [hr, b j h2]
      rfl
    · rw [if_pos (nI_le (by omega) hj), if_pos (by omega)]
      rfl
def zt_ent (t : zq_T) (x : Int32) : List Nat := if x = -1 then [] else (t.2 (zt_ix x)).2 3
def zt_ea (T : Nat) (x : Int32) : Nat := if x = -1 then T + 20 else zq_ca T (zt_ix x) + 8
theorem zt_entriesOf (H : zq_tree g E T t) (x : Int32) : tw_X4_entriesOf E T x = some (zt_ea T x) ∧ ∃ cap, zn_row g E (zt_ea T x) cap (zt_ent t x) := by
  unfold tw_X4_entriesOf zt_ea zt_ent
  have r2 : bq_fr E T 4 2 = some (T + 20) := zq_fr H.1 rfl
  rw [if_pos (zq_cls H.1)]
  by_cases h : x = -1
  · rw [if_pos h, if_pos h, if_pos h, r2]
    exact ⟨rfl, 0, H.2.2.1⟩
  · have C := H.cat (zt_ix_lt x)
    rw [if_neg h, if_neg h, if_neg h, zt_at H]
    simp only [Option.bind_some, C.rList, C.lKeys]
    exact ⟨trivial, 96, C.keys⟩
theorem zt_copy (H : zq_tree g E T t) (H2 : zq_tree g E S s) (ho : S + 274 ≤ T ∨ T + 274 ≤ S) {n : Nat} (hn : n ≤ 15) (h3 : s.1 3 = nI n) : ∃ E', tw_X4_copyFrom E T S = some E' ∧ zq_tree g E' T (s.1, fun k => if k < n then s.2 k else t.2 k) ∧ zq_same E E' T (T + 274) := by
  have key : ∀ (m i : Nat) (E1 : bq_E), n - i < m → i ≤ n → zq_tree g E1 T (s.1, fun k => if k < i then s.2 k else t.2 k) → zq_same E E1 T (T + 274) →
      ∃ E2, tl_X4_copyFrom_66 T S m (nI i) E1 = some E2 ∧ zq_tree g E2 T (s.1, fun k => if k < n then s.2 k else t.2 k) ∧ zq_same E E2 T (T + 274) := by
    intro m
    induction m with
    | zero => intro i E1 h; omega
    | succ m ih =>
      intro i E1 hm hi H1 s1
      rw [tl_X4_copyFrom_66.eq_2, H1.int (k := 3) (by omega)]
      simp only [Option.bind_some, h3]
      by_cases h : i < n
      · have K := H2.same s1 ho
        rw [if_neg (nI_ge h (by omega)), zt_at H1, zt_at K, zt_ix_nI (by omega)]
        simp only [Option.bind_some]
        have a1 := zq_ca_in (T := T) (k := i) (by omega)
        have a2 := zq_ca_in (T := S) (k := i) (by omega)
        obtain ⟨E2, q1, q2, q3⟩ := zc_copy (H1.cat (k := i) (by omega)) (K.cat (k := i) (by omega)) (by omega)
        rw [q1]
        simp only [Option.bind_some, bq_let, nI_1]
        obtain ⟨H3, s3⟩ := H1.catup (k := i) (by omega) q2 q3
        refine ih (i + 1) E2 (by omega) (by omega) (H3.congr (fun _ _ => rfl) fun j hj => ?_) (s1.trans s3)
        by_cases e : j = i
        · subst e
          rw [zt_Cs]
          simp
        · rw [zt_Cn e]
          by_cases e2 : j < i
          · simp [e2, show j < i + 1 by omega]
          · simp [e2, show ¬ j < i + 1 by omega]
      · rw [if_pos (nI_le (by omega) (by omega))]
        have : i = n := by omega
        subst this
        exact ⟨E1, rfl, H1, s1⟩
  unfold tw_X4_copyFrom
  rw [if_pos (zq_cls H.1)]
  obtain ⟨E1, a1, G1, s1⟩ := H.intup (k := 3) (by omega) (s.1 3)
  have K1 := H2.same s1 ho
  obtain ⟨E2, a2, G2, s2⟩ := G1.intup (k := 4) (by omega) (s.1 4)
  have K2 := K1.same s2 ho
  obtain ⟨E3, a3, G3, s3⟩ := G2.intup (k := 5) (by omega) (s.1 5)
  have K3 := K2.same s3 ho
  obtain ⟨E4, a4, G4, s4⟩ := G3.intup (k := 6) (by omega) (s.1 6)
  have K4 := K3.same s4 ho
  obtain ⟨E5, a5, G5, s5⟩ := G4.intup (k := 7) (by omega) (s.1 7)
  have K5 := K4.same s5 ho
  obtain ⟨E6, a6, G6, s6⟩ := G5.intup (k := 8) (by omega) (s.1 8)
  have K6 := K5.same s6 ho
  obtain ⟨E7, a7, G7, s7⟩ := G6.intup (k := 9) (by omega) (s.1 9)
  have K7 := K6.same s7 ho
  obtain ⟨E8, a8, G8, s8⟩ := G7.intup (k := 10) (by omega) (s.1 10)
  simp only [Option.bind_some, H2.int (k := 3) (by omega), a1, K1.int (k := 4) (by omega), a2, K2.int (k := 5) (by omega), a3, K3.int (k := 6) (by omega), a4, K4.int (k := 7) (by omega), a5, K5.int (k := 8) (by omega), a6, K6.int (k := 9) (by omega), a7, K7.int (k := 10) (by omega), a8]
  refine key bq_fuel 0 E8 (bq_fuel_ge (by omega)) (Nat.zero_le _) (G8.congr (fun k hk => ?_) (fun j hj => ?_)) (((((((s1.trans s2).trans s3).trans s4).trans s5).trans s6).trans s7).trans s8)
  · have : k = 3 ∨ k = 4 ∨ k = 5 ∨ k = 6 ∨ k = 7 ∨ k = 8 ∨ k = 9 ∨ k = 10 := by omega
    rcases this with rfl | rfl | rfl | rfl | rfl | rfl | rfl | rfl <;> rfl
  · rfl
end ZqT
