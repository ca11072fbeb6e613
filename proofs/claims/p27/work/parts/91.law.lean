/-! The law: three nodes, then its turns. -/
section PlA
variable {g : bq_G} {E : bq_E} {z b Ln n p sd st : Nat} {xs : Nat → Int32} {t : zq_T}
theorem pl_letK {α : Type} {e : α} {f : α → Option Unit} (h : ∀ k, k = e → f k = some ()) : bq_let e f = some () := h e rfl
theorem pl_bindK {α : Type} {o : Option α} {v : α} {f : α → Option Unit} (ho : o = some v) (h : f v = some ()) : o.bind f = some () := by rw [ho]; exact h
theorem pl_ifT {c : Prop} [Decidable c] {x y : Option Unit} (hc : c) (h : x = some ()) : (if c then x else y) = some () := by rw [if_pos hc]; exact h
theorem pl_ifF {c : Prop} [Decidable c] {x y : Option Unit} (hc : ¬ c) (h : y = some ()) : (if c then x else y) = some () := by rw [if_neg hc]; exact h
theorem pl_cell (hL : Ln ≤ 260) {j : Nat} (hj : j < 1000) : ∃ v, tw_L_cell xs Ln (nI j) = some v := by
  unfold tw_L_cell
  by_cases q : Int32.ofNat Ln ≤ nI j
  · rw [if_pos q]
    exact ⟨_, rfl⟩
  · rw [if_neg q]
    unfold bq_sc
    have : j < Ln := by
      by_cases w : Ln ≤ j
      · exact absurd (nI_le w (by omega)) q
      · omega
    rw [if_neg (nI_in this (by omega))]
    exact ⟨_, rfl⟩
theorem pl_loop (hL : Ln ≤ 260) {turns : Nat} (ht : turns ≤ 67) (K : Int32 → Int32 → bq_E → Option Unit) : ∀ (N k : Nat) (E : bq_E) (t : zq_T), turns - k < N → k ≤ turns → pr_rel g E z t → ∃ E' t', tl_L_law_156 xs Ln b z (z + 1378) (z + 1379) (z + 1380) (z + 1381) (z + 1382) (nI turns) K N 1 (nI k) E = K 1 (nI turns) E' ∧ pr_rel g E' z t' := by
  intro N
  induction N with
  | zero => intro k E t hN; omega
  | succ N ih =>
    intro k E t hN hk h
    rw [tl_L_law_156.eq_2]
    by_cases q : turns ≤ k
    · rw [if_pos (nI_le q (by omega)), show k = turns by omega]
      exact ⟨E, t, rfl, h⟩
    · rw [if_neg (nI_ge (by omega) (by omega)), if_neg (show ¬ (1 : Int32) = 0 by decide)]
      obtain ⟨v, hv⟩ := pl_cell (xs := xs) hL (j := 1 + k) (by omega)
      rw [show (1 : Int32) + nI k = nI (1 + k) from nI_add 1 k, hv]
      simp only [zq_bindE, zq_letE]
      obtain ⟨i, hi, li⟩ := pa_low E ((v ^^^ ((7919 : Int32) * nI k)) >>> ((20 : Int32) &&& 31)) (d := 3) (by omega) (by omega)
      rw [show tw_L_low E ((v ^^^ ((7919 : Int32) * nI k)) >>> ((20 : Int32) &&& 31)) 3 = some (nI i) from li E]
      simp only [zq_bindE]
      obtain ⟨E1, t1, a1, r1⟩ := pr_acts h hi (v ^^^ ((7919 : Int32) * nI k))
      obtain ⟨E2, t2, a2, r2⟩ := pr_isSo r1 hi ((v ^^^ ((7919 : Int32) * nI k)) >>> ((4 : Int32) &&& 31))
      have fin : ∃ E' t', ((tw_L_acts E z (z + 1378 + i) (z + 1381) (z + 1382) (nI i) (v ^^^ ((7919 : Int32) * nI k))).bind fun v15605 =>
          if (bq_b v15605.1) = 0 then tl_L_law_156 xs Ln b z (z + 1378) (z + 1379) (z + 1380) (z + 1381) (z + 1382) (nI turns) K N (0 : Int32) (nI k + 1) v15605.2
          else (tw_L_isSo v15605.2 z (z + 1378 + i) (z + 1381) (z + 1382) (nI i) ((v ^^^ ((7919 : Int32) * nI k)) >>> ((4 : Int32) &&& 31))).bind fun v15607 =>
            if (bq_b v15607.1) = 0 then tl_L_law_156 xs Ln b z (z + 1378) (z + 1379) (z + 1380) (z + 1381) (z + 1382) (nI turns) K N (0 : Int32) (nI k + 1) v15607.2
            else tl_L_law_156 xs Ln b z (z + 1378) (z + 1379) (z + 1380) (z + 1381) (z + 1382) (nI turns) K N (1 : Int32) (nI k + 1) v15607.2) = K 1 (nI turns) E' ∧ pr_rel g E' z t' := by
        rw [a1]
        simp only [zq_bindE]
        rw [if_neg bq_bT, a2]
        simp only [zq_bindE]
        rw [if_neg bq_bT, nI_1]
        exact ih (k + 1) E2 t2 (by omega) (by omega) r2
      have h3 : i = 0 ∨ i = 1 ∨ i = 2 := by omega
      rcases h3 with rfl | rfl | rfl
      · rw [if_pos (show nI 0 = 0 from rfl)]
        exact fin
      · rw [if_neg (show ¬ nI 1 = 0 by decide), if_pos (show nI 1 = (1 : Int32) from rfl)]
        exact fin
      · rw [if_neg (show ¬ nI 2 = 0 by decide), if_neg (show ¬ nI 2 = (1 : Int32) by decide)]
        exact fin
def pl_grown (st : Nat) (t : zq_T) (p sd n : Nat) : zq_T := (zt_up st (zt_d t p + 2) n 0 (zt_grown t p sd n)).2
theorem pl_int {k : Nat} (h : k ≠ 3 ∧ k ≠ 8 ∧ k ≠ 9) : (pl_grown st t p sd n).1 k = t.1 k := by
  unfold pl_grown
  rw [zt_up_int5 st _ _ _ _ k ⟨h.2.1, h.2.2⟩, zg_i, if_neg h.1]
theorem pl_row (hp : p ≠ n) {j r : Nat} (hr : r < 3) : ((pl_grown st t p sd n).2 j).2 r = if j = n then [] else (t.2 j).2 r := by
  unfold pl_grown
  rw [zt_up_row st _ _ _ _ j r hr]
  by_cases q : j = n
  · subst q
    rw [if_pos rfl, zg_n]
    have : r = 0 ∨ r = 1 ∨ r = 2 := by omega
    rcases this with rfl | rfl | rfl
    · exact zb_r0 _ _ _
    · exact zb_r1 _ _ _
    · exact zb_r2 _ _ _
  · rw [if_neg q, zg_row hp q]
theorem pl_kid (hp : p ≠ n) {j s : Nat} (hs : s = 1 ∨ s = 2) (hj : ¬ (j = p ∧ s = sd)) (hno : (t.2 j).1 s = -1 ∨ j = n) : ((pl_grown st t p sd n).2 j).1 s = -1 := by
  unfold pl_grown
  rw [zt_up_cint st _ _ _ _ j s]
  by_cases q : j = n
  · subst q
    rw [zg_n]
    rcases hs with rfl | rfl
    · exact zb_i1 _ _ _
    · exact zb_i2 _ _ _
  · rw [zg_int hp q hj]
    exact hno.resolve_right q
/-- the law's rows as they are first written -/
theorem pl_made {E1 : bq_E} (hE : zq_same bq_dead E1 z (z + 1378)) : pa_A g (bq_made g E1 z) z (fun _ _ => 0) (fun _ => 0) (fun _ => 0) ∧ zq_same E1 (bq_made g E1 z) (z + 1378) (z + 1383) ∧ bq_made g E1 z (z + 1383) = .inr (99, []) := by
  unfold bq_made
  refine ⟨⟨fun i hi => ?_, ?_, ?_⟩, ?_, ?_⟩
  · have h3 : i = 0 ∨ i = 1 ∨ i = 2 := by omega
    rcases h3 with rfl | rfl | rfl
    · rw [va_up_ne _ _ (by omega), va_up_ne _ _ (by omega), va_up_ne _ _ (by omega), va_up_ne _ _ (by omega)]
      exact va_up_self _ _ _
    · rw [va_up_ne _ _ (by omega), va_up_ne _ _ (by omega), va_up_ne _ _ (by omega)]
      exact va_up_self _ _ _
    · rw [va_up_ne _ _ (by omega), va_up_ne _ _ (by omega)]
      exact va_up_self _ _ _
  · rw [va_up_ne _ _ (by omega)]
    exact va_up_self _ _ _
  · exact va_up_self _ _ _
  · exact ((((zq_same.up (by omega)).trans (zq_same.up (by omega))).trans (zq_same.up (by omega))).trans (zq_same.up (by omega))).trans (zq_same.up (by omega))
  · rw [va_up_ne _ _ (by omega), va_up_ne _ _ (by omega), va_up_ne _ _ (by omega), va_up_ne _ _ (by omega), va_up_ne _ _ (by omega), hE _ (by omega)]
    rfl
theorem pl_law (hL : Ln ≤ 260) {E1 : bq_E} (hE : zq_same bq_dead E1 z (z + 1378)) (hf : pz_face g E1 z zk_t) : tw_law xs Ln b z (z + 1378) (z + 1379) (z + 1380) (z + 1381) (z + 1382) (bq_made g E1 z) = some () := by
  obtain ⟨A0, s0, d0⟩ := pl_made (g := g) hE
  obtain ⟨E2, a2, A2, s2⟩ := A0.sn (k := 16) (by omega) 3
  obtain ⟨E3, a3, A3, s3⟩ := A2.sn (k := 17) (by omega) 4
  obtain ⟨E4, a4, A4, s4⟩ := A3.sn (k := 18) (by omega) 2
  have s04 := (s2.trans s3).trans s4
  have f4 : pz_face g E4 z zk_t := (hf.same s0 (Or.inl (Nat.le_refl _))).same s04 (Or.inl (Nat.le_refl _))
  obtain ⟨w, hw⟩ := pl_cell (xs := xs) hL (j := 0) (by omega)
  obtain ⟨r5, q5, l5⟩ := pa_low E4 w (d := 2) (by omega) (by omega)
  obtain ⟨r6, q6, l6⟩ := pa_low E4 (w >>> ((1 : Int32) &&& 31)) (d := 2) (by omega) (by omega)
  obtain ⟨r7, q7, l7⟩ := pa_low E4 (w >>> ((3 : Int32) &&& 31)) (d := 60) (by omega) (by omega)
  have hw' : tw_L_cell xs Ln 0 = some w := hw
  unfold tw_law
  refine pl_bindK (show bq_si (bq_made g E1 z) (z + 1382) 16 3 = some E2 from a2) (pl_bindK (show bq_si E2 (z + 1382) 17 4 = some E3 from a3) (pl_bindK (show bq_si E3 (z + 1382) 18 2 = some E4 from a4) ?_))
  refine pl_bindK hw' (pl_bindK (show tw_L_low E4 w 2 = some (nI r5) from l5 E4) (pl_letK (fun k71 e71 => ?_)))
  have hk71 : ∀ (b6 : Int32) (sd s2 : Nat), (b6 = 1 ∧ sd = 1 ∧ s2 = 2) ∨ (b6 = 0 ∧ sd = 2 ∧ s2 = 1) → k71 b6 = some () := by
    intro b6 sd sd2 hb
    have hsd : sd = 1 ∨ sd = 2 := by omega
    have hsd2 : sd2 = 1 ∨ sd2 = 2 := by omega
    have hne : sd2 ≠ sd := by omega
    rw [e71]
    refine pl_letK (fun k85 e85 => ?_)
    have hk85 : k85 (nI sd) = some () := by
      rw [e85]
      obtain ⟨E5, a5, f5, i5, s5⟩ := pz_add (p := 0) (sd := sd) (st := 2) f4 zk_inv (by omega) (by omega) hsd (by rcases hsd with rfl | rfl <;> rfl) rfl (by omega)
      have f5' : pz_face g E5 z (pl_grown 2 zk_t 0 sd 1) := f5
      have i5' : zi_inv 2 (pl_grown 2 zk_t 0 sd 1) := i5
      refine pl_bindK (show tw_L_adds E4 z 0 (nI sd) = some (nI 1, E5) from a5) (pl_letK (fun k134 e134 => pl_letK (fun k133 e133 => ?_)))
      refine pl_ifT (show nI 1 = (1 : Int32) from rfl) (pl_bindK hw' (pl_bindK (show tw_L_low E5 (w >>> ((1 : Int32) &&& 31)) 2 = some (nI r6) from l6 E5) (pl_letK (fun k114 e114 => ?_))))
      have hk114 : k114 (nI sd2) = some () := by
        rw [e114]
        have hno : ((pl_grown 2 zk_t 0 sd 1).2 r6).1 sd2 = -1 := by
          refine pl_kid (by omega) hsd2 (fun e => hne e.2) ?_
          by_cases q : r6 = 1
          · exact Or.inr q
          · left
            rcases hsd2 with rfl | rfl <;> rfl
        obtain ⟨E6, a6, f6, i6, s6⟩ := pz_add (p := r6) (sd := sd2) (st := 2) f5' i5' (by omega) (by omega) hsd2 hno (by rw [pl_int (by omega)]; rfl) (by omega)
        have f6' : pz_face g E6 z (pl_grown 2 (pl_grown 2 zk_t 0 sd 1) r6 sd2 2) := f6
        have i6' : zi_inv 3 (pl_grown 2 (pl_grown 2 zk_t 0 sd 1) r6 sd2 2) := i6
        have A6 := (A4.same s5 (Or.inr (Nat.le_refl _))).same s6 (Or.inr (Nat.le_refl _))
        have hrow : ∀ j, j < 3 → ∀ r, r < 3 → ((pl_grown 2 (pl_grown 2 zk_t 0 sd 1) r6 sd2 2).2 j).2 r = [] := by
          intro j hj r hr
          rw [pl_row (by omega) hr]
          by_cases q : j = 2
          · rw [if_pos q]
          · rw [if_neg q, pl_row (by omega) hr]
            by_cases q2 : j = 1
            · rw [if_pos q2]
            · rw [if_neg q2]
              have : r = 0 ∨ r = 1 ∨ r = 2 := by omega
              rcases this with rfl | rfl | rfl <;> rfl
        have rel : pr_rel g E6 z (pl_grown 2 (pl_grown 2 zk_t 0 sd 1) r6 sd2 2) := by
          refine ⟨f6', i6', ⟨_, _, _, A6, fun j hj => ⟨?_, ?_, fun k hk => ?_, fun k hk => ?_⟩, ?_, ?_, ?_⟩, ?_⟩
          · rw [hrow j hj 0 (by omega), pk_un (by omega), pk_un (by omega), pk_un (by omega)]
            rfl
          · rw [hrow j hj 2 (by omega), pk_un (by omega), pk_un (by omega), pk_un (by omega)]
            rfl
          · rw [hrow j hj 0 (by omega)] at hk
            simp at hk
          · rw [hrow j hj 2 (by omega)] at hk
            simp at hk
          · rw [pl_int (by omega), pl_int (by omega), pk_un (by omega), pk_us]
            rfl
          · rw [pl_int (by omega), pl_int (by omega), pk_us]
            rfl
          · rw [pl_int (by omega), pl_int (by omega), pk_un (by omega), pk_un (by omega), pk_un (by omega)]
            rfl
          · rw [s6 _ (by omega), s5 _ (by omega), s04 _ (by omega)]
            exact d0
        refine pl_bindK a6 (pl_ifT (show nI 2 = (2 : Int32) from rfl) (pl_bindK (pz_nodes f6' i6') (pl_ifT (show nI 3 = (3 : Int32) from rfl) ?_)))
        rw [e134]
        refine pl_bindK hw' (pl_bindK (show tw_L_low E6 (w >>> ((3 : Int32) &&& 31)) 60 = some (nI r7) from l7 E6) (pl_letK (fun v13 e13 => ?_)))
        rw [e13, show (8 : Int32) + nI r7 = nI (8 + r7) from nI_add 8 r7]
        obtain ⟨E7, t7, a7, r7'⟩ := pl_loop (xs := xs) (Ln := Ln) (b := b) hL (turns := 8 + r7) (by omega) (fun y14 y15 E16 =>
          if y14 = 0 then
          (none)
        else
          ((tw_L_isSo E16 z (z + 1378) (z + 1381) (z + 1382) (0 : Int32) (77 : Int32)).bind fun v17 =>
          if (bq_b v17.1) = 0 then
            (none)
          else
            ((tw_L_isSo v17.2 z (z + 1379) (z + 1381) (z + 1382) (1 : Int32) (5000 : Int32)).bind fun v18 =>
            if (bq_b v18.1) = 0 then
              (none)
            else
              ((tw_L_isSo v18.2 z (z + 1380) (z + 1381) (z + 1382) (2 : Int32) (9999 : Int32)).bind fun v19 =>
              if (bq_b v19.1) = 0 then
                (none)
              else
                (some ()))))) 70 0 E6 _ (by omega) (Nat.zero_le _) rel
        refine Eq.trans (b := _) a7 ?_
        refine pl_ifF (show ¬ (1 : Int32) = 0 by decide) ?_
        obtain ⟨E8, t8, a8, r8⟩ := pr_isSo r7' (i := 0) (by omega) 77
        obtain ⟨E9, t9, a9, r9⟩ := pr_isSo r8 (i := 1) (by omega) 5000
        obtain ⟨E10, t10, a10, r10⟩ := pr_isSo r9 (i := 2) (by omega) 9999
        exact pl_bindK (show tw_L_isSo E7 z (z + 1378) (z + 1381) (z + 1382) 0 77 = some (true, E8) from a8) (pl_ifF bq_bT (pl_bindK (show tw_L_isSo E8 z (z + 1379) (z + 1381) (z + 1382) 1 5000 = some (true, E9) from a9) (pl_ifF bq_bT (pl_bindK (show tw_L_isSo E9 z (z + 1380) (z + 1381) (z + 1382) 2 9999 = some (true, E10) from a10) (pl_ifF bq_bT rfl)))))
      rcases hb with ⟨rfl, rfl, rfl⟩ | ⟨rfl, rfl, rfl⟩
      · exact pl_ifF (show ¬ (1 : Int32) = 0 by decide) hk114
      · exact pl_ifT rfl hk114
    rcases hb with ⟨rfl, rfl, rfl⟩ | ⟨rfl, rfl, rfl⟩
    · exact pl_ifF (show ¬ (1 : Int32) = 0 by decide) hk85
    · exact pl_ifT rfl hk85
  by_cases q : nI r5 = 0
  · exact pl_ifT q (hk71 1 1 2 (Or.inl ⟨rfl, rfl, rfl⟩))
  · exact pl_ifF q (hk71 0 2 1 (Or.inr ⟨rfl, rfl, rfl⟩))
theorem bq_owed : bq_Owed := by
  intro g z b Ln xs hL
  obtain ⟨E1, a1, f1, s1⟩ := zk_face (g := g) (E := bq_dead) z
  exact ⟨E1, a1, pl_law hL s1 ⟨_, _, _, f1, by omega, by omega⟩⟩
end PlA
