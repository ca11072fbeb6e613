/-! The reckoner's answer at one node. -/
section ZqV2
variable {g : bq_G} {E : bq_E} {m k : Nat} {M : zq_M} {v : zq_N}
theorem zm_I8id {c : Nat} (h8 : M.2.1 8 = nI c) : zm_I M 8 (nI c) = M := by
  unfold zm_I
  have e : va_up M.2.1 8 (nI c) = M.2.1 := by
    funext j
    by_cases q : j = 8
    · subst q; rw [va_up_self, h8]
    · rw [va_up_ne _ _ q]
  rw [e]
theorem zn_stepI {x y b : Nat} (hx : x ≤ 10001) (hy : y < 10000) (hbb : b ≤ 10000) {α : Type} (R : Int32 → α) :
    (if nI y < nI x then R (zn_enc b) else if zn_enc b = (-1 : Int32) then R (nI y) else if zn_enc b ≤ nI y then R (zn_enc b) else R (nI y)) = R (zn_enc (if x ≤ y ∧ y < b then y else b)) := by
  by_cases h1 : y < x
  · rw [if_pos (nI_lt h1 (by omega)), if_neg (by omega)]
  · rw [if_neg (nI_nlt (by omega) (by omega))]
    by_cases h2 : b = 10000
    · subst h2
      rw [show zn_enc 10000 = -1 from rfl, if_pos rfl, if_pos (by omega)]
      unfold zn_enc
      rw [if_neg (by omega)]
    · have e : zn_enc b = nI b := by unfold zn_enc; rw [if_neg h2]
      rw [e, if_neg (zn_m1 hbb)]
      by_cases h3 : b ≤ y
      · rw [if_pos (nI_le h3 (by omega)), if_neg (by omega), e]
      · rw [if_neg (nI_ge (by omega) (by omega)), if_pos (by omega)]
        unfold zn_enc
        rw [if_neg (by omega)]
theorem zm_answerFrom (H : zm_has g E m M k v) {p x c : Nat} (hp : p ≤ (v.2 0).length) (hx : x ≤ 10001) (h8 : M.2.1 8 = nI c) : ∃ E', tw_X7_answerFrom E m (nI k) (nI p) (nI x) = some (zn_enc (zw_found v p x), E') ∧ zq_mod g E' m (zm_I M 8 (nI (c + (zn_run ((v.2 1).drop p) + (v.2 2).length)))) ∧ zq_same E E' m (m + 8) := by
  obtain ⟨H0, hk, hN, hv⟩ := id H
  have hl := hv.1
  have hlf := hv.2.1
  have hb := hv.2.2.2.2.1
  have hbf := hv.2.2.2.2.2.2.1
  have has : ∀ (E1 : bq_E) (c : Nat), zq_mod g E1 m (zm_I M 8 (nI c)) → zm_has g E1 m (zm_I M 8 (nI c)) k v := fun E1 c h => ⟨h, hk, hN, hv⟩
  have key3 : ∀ (K : Int32 → bq_E → Option (Int32 × bq_E)) (n i c : Nat) (E1 : bq_E), (v.2 0).length - i < n → i ≤ (v.2 0).length → zq_mod g E1 m (zm_I M 8 (nI c)) → zq_same E E1 m (m + 8) →
      ∃ E2, tl_X7_answerFrom_3 m (nI k) (nI x) K n (nI i) E1 = K (nI (i + zn_run ((v.2 1).drop i))) E2 ∧ zq_mod g E2 m (zm_I M 8 (nI (c + zn_run ((v.2 1).drop i)))) ∧ zq_same E E2 m (m + 8) := by
    intro K n
    induction n with
    | zero => intro i c E1 h; omega
    | succ n ih =>
      intro i c E1 hn hi H1 s1
      rw [tl_X7_answerFrom_3.eq_2, zm_o3 (has E1 c H1)]
      simp only [zq_bindE]
      by_cases h : i < (v.2 0).length
      · have h1 : i < (v.2 1).length := by omega
        rw [if_neg (nI_ge (by omega) (by omega)), zm_oM (has E1 c H1) h]
        simp only [zq_bindE]
        rw [zn_gD h1, List.drop_eq_getElem_cons h1]
        rcases hv.2.2.2.2.2.1 _ (List.getElem_mem h1) with q | q
        · rw [q, if_neg (show ¬ nI 0 = 1 by decide)]
          exact ⟨E1, rfl, H1, s1⟩
        · rw [q, if_pos (show nI 1 = 1 from rfl), zm_i8 H1, zm_Is]
          simp only [zq_bindE]
          obtain ⟨E2, a2, H2, s2⟩ := zm_put H1 (k := 8) (by omega) (nI (c + 1))
          rw [zm_II] at H2
          rw [nI_1, a2]
          simp only [zq_bindE, zq_letE]
          rw [nI_1]
          obtain ⟨E3, a3, H3, s3⟩ := ih (i + 1) (c + 1) E2 (by omega) (by omega) H2 (s1.trans s2)
          have er : zn_run (1 :: (v.2 1).drop (i + 1)) = zn_run ((v.2 1).drop (i + 1)) + 1 := rfl
          rw [er]
          refine ⟨E3, ?_, ?_, s3⟩
          · rw [a3, show i + 1 + zn_run ((v.2 1).drop (i + 1)) = i + (zn_run ((v.2 1).drop (i + 1)) + 1) by omega]
          · rw [show c + (zn_run ((v.2 1).drop (i + 1)) + 1) = c + 1 + zn_run ((v.2 1).drop (i + 1)) by omega]
            exact H3
      · rw [if_pos (nI_le (by omega) (by omega)), List.drop_of_length_le (by omega)]
        exact ⟨E1, rfl, H1, s1⟩
  have key73 : ∀ (n i b c : Nat) (E1 : bq_E), (v.2 2).length - i < n → i ≤ (v.2 2).length → b ≤ 10000 → zq_mod g E1 m (zm_I M 8 (nI c)) → zq_same E E1 m (m + 8) →
      ∃ E2, tl_X7_answerFrom_73 m (nI k) (nI x) n (zn_enc b) (nI i) E1 = some (zn_enc (zn_lb x b ((v.2 2).drop i)), E2) ∧ zq_mod g E2 m (zm_I M 8 (nI (c + ((v.2 2).length - i)))) ∧ zq_same E E2 m (m + 8) := by
    intro n
    induction n with
    | zero => intro i b c E1 h; omega
    | succ n ih =>
      intro i b c E1 hn hi hbb H1 s1
      rw [tl_X7_answerFrom_73.eq_2, zm_o52 (has E1 c H1)]
      simp only [zq_bindE]
      by_cases h : i < (v.2 2).length
      · rw [if_neg (nI_ge (by omega) (by omega)), zm_oF (has E1 c H1) h]
        simp only [zq_bindE]
        rw [zm_i8 H1, zm_Is]
        simp only [zq_bindE]
        obtain ⟨E2, a2, H2, s2⟩ := zm_put H1 (k := 8) (by omega) (nI (c + 1))
        rw [zm_II] at H2
        rw [nI_1, a2]
        simp only [zq_bindE, zq_letE]
        rw [nI_1, zn_gD h, List.drop_eq_getElem_cons h]
        have hlt : (v.2 2)[i] < 10000 := hbf _ (List.getElem_mem h)
        rw [zn_stepI hx hlt hbb (fun a => tl_X7_answerFrom_73 m (nI k) (nI x) n a (nI (i + 1)) E2)]
        obtain ⟨E3, a3, H3, s3⟩ := ih (i + 1) (if x ≤ (v.2 2)[i] ∧ (v.2 2)[i] < b then (v.2 2)[i] else b) (c + 1) E2 (by omega) (by omega) (by split <;> omega) H2 (s1.trans s2)
        refine ⟨E3, a3, ?_, s3⟩
        rw [show c + ((v.2 2).length - i) = c + 1 + ((v.2 2).length - (i + 1)) by omega]
        exact H3
      · rw [if_pos (nI_le (by omega) (by omega)), List.drop_of_length_le (by omega), show (v.2 2).length - i = 0 by omega]
        exact ⟨E1, rfl, H1, s1⟩
  unfold tw_X7_answerFrom
  rw [if_pos (zq_cls H0.1)]
  obtain ⟨E1, a1, H1, s1⟩ := key3 (fun y1 E2 =>
    (tw_X7_of E2 m (nI k) (3 : Int32)).bind fun v3 =>
  bq_let (fun (b4 : Int32) =>
    tl_X7_answerFrom_73 m (nI k) (nI x) bq_fuel b4 (0 : Int32) E2) fun k68 =>
  if v3 ≤ y1 then
    (k68 (-1 : Int32))
  else
    ((tw_X7_of E2 m (nI k) ((4 : Int32) + y1)).bind fun v19 =>
    k68 v19)) bq_fuel p c E (bq_fuel_ge (by omega)) hp (by rw [zm_I8id h8]; exact H0) zq_same.refl
  rw [a1, zm_o3 (has E1 _ H1)]
  simp only [zq_bindE, zq_letE]
  have hr := zn_run_le ((v.2 1).drop p)
  rw [List.length_drop] at hr
  have hfin : ∀ b : Nat, b ≤ 10000 → b = (v.2 0).getD (p + zn_run ((v.2 1).drop p)) 10000 → ∃ E', tl_X7_answerFrom_73 m (nI k) (nI x) bq_fuel (zn_enc b) (nI 0) E1 = some (zn_enc (zw_found v p x), E') ∧ zq_mod g E' m (zm_I M 8 (nI (c + (zn_run ((v.2 1).drop p) + (v.2 2).length)))) ∧ zq_same E E' m (m + 8) := by
    intro b hbb he
    obtain ⟨E2, a2, H2, s2⟩ := key73 bq_fuel 0 b _ E1 (bq_fuel_ge (by omega)) (Nat.zero_le _) hbb H1 s1
    rw [List.drop_zero] at a2
    refine ⟨E2, ?_, ?_, s2⟩
    · rw [a2, he]
      rfl
    · rw [← Nat.add_assoc]
      exact H2
  by_cases h : p + zn_run ((v.2 1).drop p) < (v.2 0).length
  · rw [if_neg (nI_ge h (by omega)), zm_oB (has E1 _ H1) h]
    simp only [zq_bindE]
    have hlt : (v.2 0)[p + zn_run ((v.2 1).drop p)] < 10000 := hb _ (List.getElem_mem h)
    have e : nI ((v.2 0).getD (p + zn_run ((v.2 1).drop p)) 0) = zn_enc ((v.2 0)[p + zn_run ((v.2 1).drop p)]) := by
      unfold zn_enc
      rw [if_neg (by omega), zn_gD h]
    rw [e, show (0 : Int32) = nI 0 from rfl]
    exact hfin _ (by omega) (zn_gD h).symm
  · rw [if_pos (nI_le (by omega) (by omega)), show (-1 : Int32) = zn_enc 10000 from rfl, show (0 : Int32) = nI 0 from rfl]
    exact hfin 10000 (Nat.le_refl _) (zn_gD_top (by omega)).symm
end ZqV2
