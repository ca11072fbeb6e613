/-! Building a list; copying catalogs. -/
def zc_built (v : zq_N) (st : Nat) (l r : List Nat) : zq_N :=
  zq_R (zq_R (zq_R (zq_R (zq_R v 3 ((zl_merge st (v.2 0) l r ((v.2 0).length + l.length + r.length) 0 (st - 1) (st - 1)).map Prod.fst)) 4 ((zl_merge st (v.2 0) l r ((v.2 0).length + l.length + r.length) 0 (st - 1) (st - 1)).map Prod.snd)) 5 (zl_br (v.2 0) 0 ((zl_merge st (v.2 0) l r ((v.2 0).length + l.length + r.length) 0 (st - 1) (st - 1)).map Prod.fst))) 6 (zl_br l 0 ((zl_merge st (v.2 0) l r ((v.2 0).length + l.length + r.length) 0 (st - 1) (st - 1)).map Prod.fst))) 7 (zl_br r 0 ((zl_merge st (v.2 0) l r ((v.2 0).length + l.length + r.length) 0 (st - 1) (st - 1)).map Prod.fst))
def zl_tail (c a1 a2 a3 : Nat) (E15 : bq_E) : Option bq_E :=
    (bq_fr E15 c 2 2).bind fun v16 =>
  (tw_X2_layBridges E15 c v16 a1).bind fun E17 =>
  (bq_fr E17 c 2 3).bind fun v18 =>
  (tw_X2_layBridges E17 c v18 a2).bind fun E19 =>
  (bq_fr E19 c 2 4).bind fun v20 =>
  (tw_X2_layBridges E19 c v20 a3).bind fun E21 =>
  some E21
section ZqB
variable {g : bq_G} {E E' : bq_E} {c : Nat} {v : zq_N}
theorem zl_tail_ok (H : zq_cat g E c v) {ha hb ca cb : Nat} {l r : List Nat} (HL : zn_row g E ha ca l) (HR : zn_row g E hb cb r) (hol : ha + 2 ≤ c ∨ c + 18 ≤ ha) (hor : hb + 2 ≤ c ∨ c + 18 ≤ hb) : ∃ E', zl_tail (c + 7) (c + 1) ha hb E = some E' ∧ zq_cat g E' c (zq_R (zq_R (zq_R v 5 (zl_br (v.2 0) 0 (v.2 3))) 6 (zl_br l 0 (v.2 3))) 7 (zl_br r 0 (v.2 3))) ∧ zq_same E E' c (c + 18) := by
  have o5 : zq_off 5 = 12 := rfl
  have o6 : zq_off 6 = 14 := rfl
  have o7 : zq_off 7 = 16 := rfl
  unfold zl_tail
  rw [H.lB0]
  simp only [Option.bind_some]
  obtain ⟨E1, a1, b1, s1⟩ := zl_lay H (j := 5) (by omega) H.base (by omega)
  have s1' : zq_same E E1 c (c + 18) := s1.wide (by omega) (by omega)
  rw [show c + 12 = c + zq_off 5 from rfl, a1]
  simp only [Option.bind_some]
  rw [b1.lB1]
  simp only [Option.bind_some]
  obtain ⟨E2, a2, b2, s2⟩ := zl_lay b1 (j := 6) (by omega) (HL.same s1' (by omega)) (by omega)
  have s2' : zq_same E1 E2 c (c + 18) := s2.wide (by omega) (by omega)
  rw [show c + 14 = c + zq_off 6 from rfl, a2]
  simp only [Option.bind_some]
  rw [b2.lB2]
  simp only [Option.bind_some]
  obtain ⟨E3, a3, b3, s3⟩ := zl_lay b2 (j := 7) (by omega) (HR.same (s1'.trans s2') (by omega)) (by omega)
  have s3' : zq_same E2 E3 c (c + 18) := s3.wide (by omega) (by omega)
  rw [show c + 16 = c + zq_off 7 from rfl, a3]
  exact ⟨E3, rfl, b3, (s1'.trans s2').trans s3'⟩
theorem zl_build (H : zq_cat g E c v) {ha hb ca cb st : Nat} {l r : List Nat} (hst : 1 ≤ st ∧ st ≤ 1000) (HL : zn_row g E ha ca l) (HR : zn_row g E hb cb r) (hol : ha + 2 ≤ c ∨ c + 18 ≤ ha) (hor : hb + 2 ≤ c ∨ c + 18 ≤ hb) (hfit : (zl_merge st (v.2 0) l r ((v.2 0).length + l.length + r.length) 0 (st - 1) (st - 1)).length ≤ 96) : ∃ E', tw_X2_build E (c + 7) (c + 1) ha hb (nI st) = some E' ∧ zq_cat g E' c (zc_built v st l r) ∧ zq_same E E' c (c + 18) := by
  have hlb := H.base.len
  have hll := HL.len
  have hlr := HR.len
  have htl := HL.thou
  have htr := HR.thou
  have key : ∀ (K : Int32 → Int32 → Int32 → Int32 → bq_E → Option bq_E), (∀ y1 y2 y3 y4 E3, K y1 y2 y3 y4 E3 = zl_tail (c + 7) (c + 1) ha hb E3) →
      ∀ (n m i j k : Nat) (E1 : bq_E) (ks os : List Nat), m < n → m ≤ 3000 → i ≤ (v.2 0).length → j ≤ l.length + st → k ≤ r.length + st → ks.length = os.length → ks.length + (zl_merge st (v.2 0) l r m i j k).length ≤ 96 → m ≤ (v.2 0).length + l.length + r.length → zq_cat g E1 c (zq_R (zq_R v 3 ks) 4 os) → zq_same E E1 c (c + 18) →
      ∃ E2, tl_X2_build_50 (c + 7) (c + 1) ha hb (nI st) (nI ((v.2 0).length + l.length + r.length)) K n (nI i) (nI j) (nI k) (nI ((v.2 0).length + l.length + r.length - m)) E1 = zl_tail (c + 7) (c + 1) ha hb E2 ∧ zq_cat g E2 c (zq_R (zq_R v 3 (ks ++ (zl_merge st (v.2 0) l r m i j k).map Prod.fst)) 4 (os ++ (zl_merge st (v.2 0) l r m i j k).map Prod.snd)) ∧ zq_same E E2 c (c + 18) := by
    intro K hK n
    induction n with
    | zero => intro m i j k E1 ks os h; omega
    | succ n ih =>
      intro m i j k E1 ks os hn h3 hi hj hk hko hf hmt H1 s1
      have hB : (zq_R (zq_R v 3 ks) 4 os).2 0 = v.2 0 := (zq_Rn (by omega)).trans (zq_Rn (by omega))
      have hKs : (zq_R (zq_R v 3 ks) 4 os).2 3 = ks := (zq_Rn (by omega)).trans zq_Rs
      have hOs : (zq_R (zq_R v 3 ks) 4 os).2 4 = os := zq_Rs
      have HB := H1.base
      have HK := H1.keys
      have HO := H1.orgs
      rw [hB] at HB
      rw [hKs] at HK
      rw [hOs] at HO
      have HL1 := HL.same s1 hol
      have HR1 := HR.same s1 hor
      rw [tl_X2_build_50.eq_2]
      simp only [bq_let]
      cases m with
      | zero =>
        rw [Nat.sub_zero, if_pos (nI_le (Nat.le_refl _) (by omega))]
        refine ⟨E1, rfl, ?_, s1⟩
        simp only [zl_merge, List.map_nil, List.append_nil]
        exact H1
      | succ m =>
        rw [if_neg (nI_ge (by omega) (by omega)), show (10000 : Int32) = nI 10000 from rfl, zn_at HB (by omega), zn_at HL1 (by omega), zn_at HR1 (by omega)]
        simp only [Option.bind_some]
        have b1 : (v.2 0).getD i 10000 ≤ 10000 := zn_getD_le HB.2 (Nat.le_refl _) _
        have b2 : l.getD j 10000 ≤ 10000 := zn_getD_le HL1.2 (Nat.le_refl _) _
        have b3 : r.getD k 10000 ≤ 10000 := zn_getD_le HR1.2 (Nat.le_refl _) _
        have hmn : (if (if nI (r.getD k 10000) < nI (l.getD j 10000) then nI (r.getD k 10000) else nI (l.getD j 10000)) < nI ((v.2 0).getD i 10000) then (if nI (r.getD k 10000) < nI (l.getD j 10000) then nI (r.getD k 10000) else nI (l.getD j 10000)) else nI ((v.2 0).getD i 10000)) = nI (zl_mn ((v.2 0).getD i 10000) (l.getD j 10000) (r.getD k 10000)) := by
          unfold zl_mn
          by_cases q : r.getD k 10000 < l.getD j 10000
          · rw [if_pos q, if_pos (nI_lt q (by omega))]
            by_cases q2 : r.getD k 10000 < (v.2 0).getD i 10000
            · rw [if_pos q2, if_pos (nI_lt q2 (by omega))]
            · rw [if_neg q2, if_neg (nI_nlt (by omega) (by omega))]
          · rw [if_neg q, if_neg (nI_nlt (by omega) (by omega))]
            by_cases q2 : l.getD j 10000 < (v.2 0).getD i 10000
            · rw [if_pos q2, if_pos (nI_lt q2 (by omega))]
            · rw [if_neg q2, if_neg (nI_nlt (by omega) (by omega))]
        rw [hmn]
        have bm : zl_mn ((v.2 0).getD i 10000) (l.getD j 10000) (r.getD k 10000) ≤ 10000 := zl_mn_le b1 b2 b3
        unfold zl_merge at hf
        unfold zl_merge
        revert hf
        generalize hM : zl_mn ((v.2 0).getD i 10000) (l.getD j 10000) (r.getD k 10000) = M at *
        intro hf
        by_cases hend : M = 10000
        · rw [if_pos (congrArg nI hend), hK, if_pos hend]
          refine ⟨E1, rfl, ?_, s1⟩
          simp only [List.map_nil, List.append_nil]
          exact H1
        · rw [if_neg (fun q => hend ((nI_inj bm (by omega)).mp q)), if_neg hend]
          rw [if_neg hend] at hf
          rw [H1.lKeys]
          simp only [Option.bind_some]
          have hkl : ks.length < 96 := by
            revert hf
            split
            · simp only [List.length_cons]; omega
            · split <;> (simp only [List.length_cons]; omega)
          obtain ⟨E2, q1, q2, q3⟩ := zn_append HK hkl bm
          rw [q1]
          simp only [Option.bind_some]
          obtain ⟨H2, s2⟩ := H1.rowup (j := 3) (by omega) q2 q3
          have HO2 : zn_row g E2 (c + 10) 96 os := by
            have := H2.orgs
            rw [zq_Rn (by omega), hOs] at this
            exact this
          have fin : ∀ o : Nat, o ≤ 2 → ∃ E3, tw_X3_append E2 (c + 10) (nI o) = some E3 ∧ zq_cat g E3 c (zq_R (zq_R v 3 (ks ++ [M])) 4 (os ++ [o])) ∧ zq_same E2 E3 c (c + 18) := by
            intro o ho
            obtain ⟨E3, r1, r2, r3⟩ := zn_append HO2 (by omega) (v := o) (by omega)
            obtain ⟨H3, s3⟩ := H2.rowup (j := 4) (by omega) r2 r3
            refine ⟨E3, r1, H3.congr (fun _ _ => rfl) (fun p hp => ?_), s3⟩
            by_cases p4 : p = 4
            · subst p4; rw [zq_Rs, zq_Rs]
            · rw [zq_Rn p4, zq_Rn p4]
              by_cases p3 : p = 3
              · subst p3; rw [zq_Rs, zq_Rs]
              · rw [zq_Rn p3, zq_Rn p3, zq_Rn p4, zq_Rn p3]
          have e1 : nI ((v.2 0).getD i 10000) = nI M ↔ (v.2 0).getD i 10000 = M := nI_inj b1 bm
          have e2 : nI (l.getD j 10000) = nI M ↔ l.getD j 10000 = M := nI_inj b2 bm
          have hsub : (v.2 0).length + l.length + r.length - (m + 1) + 1 = (v.2 0).length + l.length + r.length - m := by omega
          by_cases c1 : (v.2 0).getD i 10000 = M
          · rw [if_pos c1] at hf ⊢
            rw [if_pos (e1.mpr c1), H2.lOrg]
            obtain ⟨E3, r1, r2, r3⟩ := fin 0 (by omega)
            simp only [Option.bind_some]
            rw [show (0 : Int32) = nI 0 from rfl, r1]
            simp only [Option.bind_some, nI_1, hsub]
            have hi2 : i < (v.2 0).length := by
              by_cases hi2 : i < (v.2 0).length
              · exact hi2
              · exfalso
                have : (v.2 0).getD i 10000 = 10000 := by simp [List.getD, List.getElem?_eq_none (Nat.not_lt.mp hi2)]
                omega
            simp only [List.length_cons] at hf
            obtain ⟨E4, t1, t2, t3⟩ := ih m (i + 1) j k E3 (ks ++ [M]) (os ++ [0]) (by omega) (by omega) (by omega) hj hk (by simp; omega) (by simp; omega) (by omega) r2 ((s1.trans s2).trans r3)
            refine ⟨E4, t1, ?_, t3⟩
            simpa only [List.append_assoc, List.map_cons, List.cons_append, List.nil_append] using t2
          · rw [if_neg c1] at hf ⊢
            rw [if_neg (fun q => c1 (e1.mp q))]
            by_cases c2 : l.getD j 10000 = M
            · rw [if_pos c2] at hf ⊢
              rw [if_pos (e2.mpr c2), H2.lOrg]
              obtain ⟨E3, r1, r2, r3⟩ := fin 1 (by omega)
              simp only [Option.bind_some]
              rw [show (1 : Int32) = nI 1 from rfl, r1]
              simp only [Option.bind_some, nI_add, hsub]
              have hj2 : j < l.length := by
                by_cases hj2 : j < l.length
                · exact hj2
                · exfalso
                  have : l.getD j 10000 = 10000 := by simp [List.getD, List.getElem?_eq_none (Nat.not_lt.mp hj2)]
                  omega
              simp only [List.length_cons] at hf
              obtain ⟨E4, t1, t2, t3⟩ := ih m i (j + st) k E3 (ks ++ [M]) (os ++ [1]) (by omega) (by omega) hi (by omega) hk (by simp; omega) (by simp; omega) (by omega) r2 ((s1.trans s2).trans r3)
              refine ⟨E4, t1, ?_, t3⟩
              simpa only [List.append_assoc, List.map_cons, List.cons_append, List.nil_append] using t2
            · rw [if_neg c2] at hf ⊢
              rw [if_neg (fun q => c2 (e2.mp q)), H2.lOrg]
              obtain ⟨E3, r1, r2, r3⟩ := fin 2 (by omega)
              simp only [Option.bind_some]
              rw [show (2 : Int32) = nI 2 from rfl, show (1 : Int32) = nI 1 from rfl, r1]
              simp only [Option.bind_some, nI_add, hsub]
              have hk2 : k < r.length := by
                by_cases hk2 : k < r.length
                · exact hk2
                · exfalso
                  have : r.getD k 10000 = 10000 := by simp [List.getD, List.getElem?_eq_none (Nat.not_lt.mp hk2)]
                  have : M = r.getD k 10000 := by
                    rw [← hM]
                    unfold zl_mn
                    unfold zl_mn at hM
                    split at hM <;> split at hM <;> (try split) <;> (try split) <;> omega
                  omega
              simp only [List.length_cons] at hf
              obtain ⟨E4, t1, t2, t3⟩ := ih m i j (k + st) E3 (ks ++ [M]) (os ++ [2]) (by omega) (by omega) hi hj (by omega) (by simp; omega) (by simp; omega) (by omega) r2 ((s1.trans s2).trans r3)
              refine ⟨E4, t1, ?_, t3⟩
              simpa only [List.append_assoc, List.map_cons, List.cons_append, List.nil_append] using t2
  unfold tw_X2_build
  rw [if_pos (zq_cls H.2.1), H.lKeys]
  simp only [Option.bind_some]
  obtain ⟨E1, a1, b1, s1⟩ := zn_cut0 H.keys
  rw [a1]
  obtain ⟨H1, s1'⟩ := H.rowup (j := 3) (by omega) b1 s1
  simp only [Option.bind_some, H1.lOrg]
  obtain ⟨E2, a2, b2, s2⟩ := zn_cut0 H1.orgs
  rw [a2]
  obtain ⟨H2, s2'⟩ := H1.rowup (j := 4) (by omega) b2 s2
  simp only [Option.bind_some, bq_let]
  have HB2 := H2.base
  rw [zq_Rn (by omega), zq_Rn (by omega)] at HB2
  rw [zn_size HB2, zn_size (HL.same (s1'.trans s2') hol), zn_size (HR.same (s1'.trans s2') hor)]
  simp only [Option.bind_some, nI_add]
  rw [show (1 : Int32) = nI 1 from rfl, pk_sub hst.1]
  obtain ⟨E3, t1, t2, t3⟩ := key (fun y11 y12 y13 y14 E15 => zl_tail (c + 7) (c + 1) ha hb E15) (fun _ _ _ _ _ => rfl) bq_fuel ((v.2 0).length + l.length + r.length) 0 (st - 1) (st - 1) E2 [] [] (bq_fuel_ge (by omega)) (by omega) (Nat.zero_le _) (by omega) (by omega) rfl (by simpa using hfit) (Nat.le_refl _) H2 (s1'.trans s2')
  rw [Nat.sub_self] at t1
  refine zq_via t1 ?_
  obtain ⟨E4, u1, u2, u3⟩ := zl_tail_ok t2 (HL.same t3 hol) (HR.same t3 hor) hol hor
  refine ⟨E4, u1, ?_, t3.trans u3⟩
  have hb0 : ∀ ks os : List Nat, (zq_R (zq_R v 3 ks) 4 os).2 0 = v.2 0 := fun _ _ => (zq_Rn (by omega)).trans (zq_Rn (by omega))
  have hk0 : ∀ ks os : List Nat, (zq_R (zq_R v 3 ks) 4 os).2 3 = ks := fun _ _ => (zq_Rn (by omega)).trans zq_Rs
  rw [hb0, hk0] at u2
  exact u2
end ZqB
