/-! Whole walks. -/
def zw_half (xs : List Nat) (x : Nat) : Nat × Nat := zw_hv xs x (xs.length + 1) 0 xs.length
def zw_near (t : zq_T) (x m k s : Nat) (w : zq_V) : zq_V :=
  if m = 0 then (w.1 + (zw_half ((t.2 k).2 3) x).2, (zw_half ((t.2 k).2 3) x).1, w.2.2)
  else (w.1 + (zw_sb ((t.2 k).2 3) x (((t.2 (zt_ix ((t.2 k).1 0))).2 (5 + s)).getD w.2.1 0)).2, (zw_sb ((t.2 k).2 3) x (((t.2 (zt_ix ((t.2 k).1 0))).2 (5 + s)).getD w.2.1 0)).1, w.2.2)
def zw_step (t : zq_T) (x m k s : Nat) (w : zq_V) : zq_V := zw_ans (t.2 k) k (((t.2 k).2 5).getD (zw_near t x m k s w).2.1 0) x (zw_near t x m k s w)
def zw_go (t : zq_T) (x : Nat) (P L : List Nat) : Nat → Nat → zq_V → zq_V
  | 0, _, w => w
  | n + 1, m, w => zw_go t x P L n (m + 1) (zw_step t x m (P.getD m 0) (L.getD m 1) w)
def zw_find (t : zq_T) (P L : List Nat) (x : Nat) : zq_V := zw_go t x P L P.length 0 zw_zero
def zw_ok (t : zq_T) (k : Nat) : Prop := ((t.2 k).2 1).length = ((t.2 k).2 0).length ∧ ∀ b ∈ (t.2 k).2 5, b ≤ ((t.2 k).2 0).length
theorem zw_hv_le (xs : List Nat) (x : Nat) : ∀ n lo hi : Nat, lo ≤ hi → (zw_hv xs x n lo hi).1 ≤ hi
  | 0, lo, hi, h => h
  | n + 1, lo, hi, h => by
    unfold zw_hv
    split
    · exact h
    · split
      · exact zw_hv_le xs x n _ _ (by omega)
      · exact Nat.le_trans (zw_hv_le xs x n _ _ (by omega)) (by omega)
theorem zw_sb_le (xs : List Nat) (x : Nat) : ∀ p : Nat, (zw_sb xs x p).1 ≤ p
  | 0 => Nat.le_refl _
  | p + 1 => by
    unfold zw_sb
    split
    · exact Nat.le_trans (zw_sb_le xs x p) (by omega)
    · exact Nat.le_refl _
theorem zw_path_ok (t : zq_T) (Q : Nat → Prop) (hQ : ∀ k, k < 15 → Q k) : ∀ (r k : Nat) (acc : List Nat), k < 15 → (∀ a ∈ acc, Q a) → ∀ a ∈ zw_path t r k acc, Q a
  | 0, k, acc, hk, h => h
  | r + 1, k, acc, hk, h => by
    unfold zw_path
    refine zw_path_ok t Q hQ r _ _ (zt_ix_lt _) (fun a ha => ?_)
    rcases List.mem_cons.mp ha with rfl | ha
    · exact hQ _ hk
    · exact h a ha
section ZqWb
variable {g : bq_G} {E E' : bq_E} {W T : Nat} {P L : List Nat} {w : zq_V} {t : zq_T}
theorem zw_ans_place (v : zq_N) (k p x : Nat) (w : zq_V) : (zw_ans v k p x w).2.1 = w.2.1 := by
  unfold zw_ans
  split
  · rfl
  · split
    · rfl
    · split <;> rfl
theorem zw_near_place (HT : zq_tree g E T t) {x m k s : Nat} (hk : k < 15) (hs : s < 3) : (zw_near t x m k s w).2.1 ≤ 10000 := by
  unfold zw_near
  split
  · have := (HT.cat hk).keys.len
    exact Nat.le_trans (zw_hv_le _ _ _ _ _ (Nat.zero_le _)) (by omega)
  · refine Nat.le_trans (zw_sb_le _ _ _) (zn_getD_le ((HT.cat (zt_ix_lt _)).row (j := 5 + s) (by omega)).2 (Nat.zero_le _) _)
theorem zw_search (H : zq_walk g E W P L w) (HT : zq_tree g E T t) (ho : T + 274 ≤ W ∨ W + 5 ≤ T) {x : Nat} (hx : x ≤ 10001) (hP : ∀ k ∈ P, k < 15 ∧ zw_ok t k) (hL : ∀ s ∈ L, s < 3) : ∃ E', tw_X5_searchPath E W T (nI x) = some E' ∧ zq_walk g E' W P L (zw_find t P L x) ∧ zq_same E E' W (W + 5) := by
  have hPl := H.2.1.len
  have key : ∀ (n m : Nat) (E1 : bq_E) (w1 : zq_V), P.length - m < n → m ≤ P.length → w1.2.1 ≤ 10000 → zq_walk g E1 W P L w1 → zq_same E E1 W (W + 5) →
      ∃ E2, tl_X5_searchPath_6 W T (nI x) n (nI m) E1 = some E2 ∧ zq_walk g E2 W P L (zw_go t x P L (P.length - m) m w1) ∧ zq_same E E2 W (W + 5) := by
    intro n
    induction n with
    | zero => intro m E1 w1 h1; omega
    | succ n ih =>
      intro m E1 w1 hn hm hw H1 s1
      rw [tl_X5_searchPath_6.eq_2, H1.rP]
      simp only [Option.bind_some]
      rw [zn_size H1.2.1]
      simp only [Option.bind_some]
      by_cases h1 : m < P.length
      · rw [if_neg (nI_ge h1 (by omega)), zn_at0 H1.2.1 (by omega)]
        simp only [Option.bind_some]
        have hpm : P.getD m 0 ∈ P := by
          simp only [List.getD, List.getElem?_eq_getElem h1, Option.getD_some]
          exact List.getElem_mem h1
        obtain ⟨hk, hok⟩ := hP _ hpm
        have hs : L.getD m 1 < 3 := Nat.lt_succ_of_le (zn_getD_le (m := 2) (fun y hy => Nat.le_of_lt_succ (hL y hy)) (by omega) _)
        have T1 := HT.same s1 ho
        have hT2 := zq_ca_in (T := T) hk
        rw [zt_at T1, zt_ix_nI hk]
        simp only [Option.bind_some, bq_let]
        have C1 := T1.cat hk
        have rest : ∀ (E2 : bq_E), zq_walk g E2 W P L (zw_near t x m (P.getD m 0) (L.getD m 1) w1) → zq_same E1 E2 W (W + 5) → ∃ E3,
            ((bq_fr E2 (zq_ca T (P.getD m 0)) 0 8).bind fun v607 =>
      (bq_fi E2 W 5 3).bind fun v608 =>
      (tw_X2_bridgeOf E2 v607 v608 (0 : Int32)).bind fun v609 =>
      (tw_X5_answerAt E2 W T (nI (P.getD m 0)) v609 (nI x)).bind fun E610 =>
      tl_X5_searchPath_6 W T (nI x) n (nI m + 1) E610) = some E3 ∧ zq_walk g E3 W P L (zw_go t x P L (P.length - m) m w1) ∧ zq_same E E3 W (W + 5) := by
          intro E2 H2 s2
          have T2 := T1.same s2 ho
          have C2 := T2.cat hk
          have hpl : (zw_near t x m (P.getD m 0) (L.getD m 1) w1).2.1 ≤ 10000 := zw_near_place T1 hk hs
          rw [C2.rList, H2.i3]
          simp only [Option.bind_some]
          rw [show (0 : Int32) = nI 0 from rfl, zl_bridgeOf C2 _ (by omega), show 5 + 0 = 5 from rfl, zn_at0 (C2.row (j := 5) (by omega)) (by omega)]
          simp only [Option.bind_some]
          obtain ⟨E3, q1, q2, q3⟩ := zw_answerAt H2 T2 ho hk (p := ((t.2 (P.getD m 0)).2 5).getD (zw_near t x m (P.getD m 0) (L.getD m 1) w1).2.1 0) hok.1 (zn_getD_le hok.2 (Nat.zero_le _) _) hx
          rw [q1]
          simp only [Option.bind_some, nI_1]
          obtain ⟨E4, r1, r2, r3⟩ := ih (m + 1) E3 _ (by omega) (by omega) (by rw [zw_ans_place]; exact hpl) q2 ((s1.trans s2).trans q3)
          refine ⟨E4, r1, ?_, r3⟩
          rw [show P.length - m = (P.length - (m + 1)) + 1 by omega]
          exact r2
        by_cases h0 : m = 0
        · subst h0
          rw [if_pos (show nI 0 = 0 from rfl), C1.rList]
          simp only [Option.bind_some]
          rw [C1.lKeys]
          simp only [Option.bind_some]
          obtain ⟨E2, q1, q2, q3⟩ := zw_halve H1 C1.keys (by omega) hx
          rw [q1]
          simp only [Option.bind_some]
          obtain ⟨E3, r1, r2, r3⟩ := q2.p3 (zw_hv ((t.2 (P.getD 0 0)).2 3) x (((t.2 (P.getD 0 0)).2 3).length + 1) 0 ((t.2 (P.getD 0 0)).2 3).length).1
          rw [r1]
          simp only [Option.bind_some]
          exact rest E3 r2 (q3.trans r3)
        · rw [if_neg (show ¬ nI m = 0 from nI_ne0 (by omega) (by omega)), C1.int (k := 0) (by omega)]
          simp only [Option.bind_some]
          rw [zt_at T1]
          simp only [Option.bind_some]
          have CU := T1.cat (zt_ix_lt ((t.2 (P.getD m 0)).1 0))
          rw [CU.rList, H1.i3, H1.rL]
          simp only [Option.bind_some]
          rw [show (1 : Int32) = nI 1 from rfl, zn_at H1.2.2 (by omega)]
          simp only [Option.bind_some]
          rw [zl_bridgeOf CU _ hs, zn_at0 (CU.row (j := 5 + L.getD m 1) (by omega)) (by omega)]
          simp only [Option.bind_some]
          rw [C1.rList]
          simp only [Option.bind_some]
          rw [C1.lKeys]
          simp only [Option.bind_some]
          obtain ⟨E2, q1, q2, q3⟩ := zw_stepBack H1 C1.keys (p := ((t.2 (zt_ix ((t.2 (P.getD m 0)).1 0))).2 (5 + L.getD m 1)).getD w1.2.1 0) (by omega) hx (zn_getD_le (CU.row (j := 5 + L.getD m 1) (by omega)).2 (Nat.zero_le _) _)
          rw [q1]
          simp only [Option.bind_some]
          obtain ⟨E3, r1, r2, r3⟩ := q2.p3 (zw_sb ((t.2 (P.getD m 0)).2 3) x (((t.2 (zt_ix ((t.2 (P.getD m 0)).1 0))).2 (5 + L.getD m 1)).getD w1.2.1 0)).1
          rw [r1]
          simp only [Option.bind_some]
          refine rest E3 ?_ (q3.trans r3)
          unfold zw_near
          rw [if_neg h0]
          exact r2
      · have : m = P.length := by omega
        subst this
        rw [if_pos (nI_le (Nat.le_refl _) (by omega)), Nat.sub_self]
        exact ⟨E1, rfl, H1, s1⟩
  unfold tw_X5_searchPath
  rw [if_pos (zq_cls H.1)]
  obtain ⟨E1, q1, q2, q3⟩ := zw_start H
  rw [q1]
  simp only [Option.bind_some]
  exact key bq_fuel 0 E1 zw_zero (bq_fuel_ge (by omega)) (Nat.zero_le _) (Nat.zero_le _) q2 q3
end ZqWb
