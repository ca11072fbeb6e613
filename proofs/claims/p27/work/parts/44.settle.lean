/-! Catalogs: settling, keys in order, copies. -/
def zn_keep : List Nat → List Nat → List Nat
  | x :: t, m :: s => if m = 1 then zn_keep t s else x :: zn_keep t s
  | _, _ => []
theorem zn_keep_snoc {a m : List Nat} (h : a.length = m.length) (x y : Nat) : zn_keep (a ++ [x]) (m ++ [y]) = zn_keep a m ++ (if y = 1 then [] else [x]) := by
  induction a generalizing m with
  | nil =>
    cases m with
    | nil => simp [zn_keep]
    | cons _ _ => simp at h
  | cons z t ih =>
    cases m with
    | nil => simp at h
    | cons w s =>
      simp only [List.cons_append, zn_keep]
      have := ih (m := s) (by simpa using h)
      by_cases hw : w = 1
      · rw [if_pos hw, if_pos hw, this]
      · rw [if_neg hw, if_neg hw, this, List.cons_append]
theorem zn_keep_mem {a m : List Nat} {x : Nat} (h : x ∈ zn_keep a m) : x ∈ a := by
  induction a generalizing m with
  | nil => cases m <;> simp [zn_keep] at h
  | cons y t ih =>
    cases m with
    | nil => simp [zn_keep] at h
    | cons z s =>
      unfold zn_keep at h
      split at h
      · exact List.mem_cons_of_mem _ (ih h)
      · rcases List.mem_cons.mp h with rfl | h
        · exact List.mem_cons_self
        · exact List.mem_cons_of_mem _ (ih h)
def zn_ins (key : Nat) (xs : List Nat) : List Nat := xs.take (zn_fal key xs) ++ key :: xs.drop (zn_fal key xs)
def zn_inss : List Nat → List Nat → List Nat
  | xs, [] => xs
  | xs, y :: t => zn_inss (zn_ins y xs) t
theorem zn_ins_len (key : Nat) (xs : List Nat) : (zn_ins key xs).length = xs.length + 1 := by
  have := zn_fal_le key xs
  simp [zn_ins]
  omega
def zc_newbase (v : zq_N) : List Nat := zn_inss (zn_keep (v.2 0) (v.2 1)) (v.2 2)
def zc_settled (v : zq_N) : zq_N := zq_I (zq_R (zq_R (zq_R v 0 (zc_newbase v)) 2 []) 1 (List.replicate (zc_newbase v).length 0)) 4 0
theorem zq_Rs {v : zq_N} {j : Nat} {a : List Nat} : (zq_R v j a).2 j = a := by
  show va_up v.2 j a j = a
  rw [va_up_self]
theorem zq_Rn {v : zq_N} {j k : Nat} {a : List Nat} (h : k ≠ j) : (zq_R v j a).2 k = v.2 k := by
  show va_up v.2 j a k = _
  rw [va_up_ne _ _ h]
theorem zq_RR {v : zq_N} {j : Nat} {a b : List Nat} : zq_R (zq_R v j a) j b = zq_R v j b := by
  unfold zq_R
  congr 1
  funext k
  by_cases h : k = j <;> simp [va_up, h]
theorem zq_Rid {v : zq_N} {j : Nat} : zq_R v j (v.2 j) = v := by
  unfold zq_R
  have : va_up v.2 j (v.2 j) = v.2 := by
    funext k
    by_cases h : k = j <;> simp [va_up, h]
  rw [this]
theorem zq_via {α : Type} {A B : Option α} {P : α → Prop} (h : A = B) (q : ∃ e, B = some e ∧ P e) : ∃ e, A = some e ∧ P e := h ▸ q
section ZqS
variable {g : bq_G} {E E' : bq_E} {c : Nat} {v : zq_N}
theorem zc_settle (H : zq_cat g E c v) (hm : (v.2 1).length = (v.2 0).length) (hcnt : (zn_keep (v.2 0) (v.2 1)).length + (v.2 2).length ≤ 24) : ∃ E', tw_X0_settle E c = some E' ∧ zq_cat g E' c (zc_settled v) ∧ zq_same E E' c (c + 18) := by
  have hlb := H.base.len
  have hlc := H.buf.len
  have key4 : ∀ (K : Int32 → Int32 → bq_E → Option bq_E) (n i k : Nat) (E1 : bq_E) (bs : List Nat), (v.2 0).length - i < n → i ≤ (v.2 0).length → k ≤ i → bs.length = (v.2 0).length → bs.take k = zn_keep ((v.2 0).take i) ((v.2 1).take i) → bs.drop i = (v.2 0).drop i → zq_cat g E1 c (zq_R v 0 bs) → zq_same E E1 c (c + 18) →
      ∃ (E2 : bq_E) (k2 : Nat) (bs2 : List Nat), tl_X0_settle_4 c K n (nI k) (nI i) E1 = K (nI k2) (nI (v.2 0).length) E2 ∧ k2 ≤ bs2.length ∧ bs2.take k2 = zn_keep (v.2 0) (v.2 1) ∧ zq_cat g E2 c (zq_R v 0 bs2) ∧ zq_same E E2 c (c + 18) := by
    intro K n
    induction n with
    | zero => intro i k E1 bs h; omega
    | succ n ih =>
      intro i k E1 bs hn hil hki hbl htk hdr H1 s1
      have hb0 : ((zq_R v 0 bs).2 0) = bs := zq_Rs
      have hm1 : ((zq_R v 0 bs).2 1) = v.2 1 := zq_Rn (by omega)
      have HB := H1.base
      rw [hb0] at HB
      rw [tl_X0_settle_4.eq_2, H1.rBase]
      simp only [Option.bind_some, zn_size HB]
      rw [hbl]
      by_cases h1 : i < (v.2 0).length
      · rw [if_neg (nI_ge h1 (by omega)), zc_isMarked H1 (by omega), hm1]
        simp only [Option.bind_some]
        have h1m : i < (v.2 1).length := by omega
        have hg : (v.2 1).getD i 0 = (v.2 1)[i] := by simp [List.getD, List.getElem?_eq_getElem h1m]
        rw [hg]
        have htk1 : (v.2 0).take (i + 1) = (v.2 0).take i ++ [(v.2 0)[i]] := List.take_succ_eq_append_getElem h1
        have htk2 : (v.2 1).take (i + 1) = (v.2 1).take i ++ [(v.2 1)[i]] := List.take_succ_eq_append_getElem h1m
        have hsn := zn_keep_snoc (a := (v.2 0).take i) (m := (v.2 1).take i) (by simp; omega) (v.2 0)[i] (v.2 1)[i]
        rw [← htk1, ← htk2] at hsn
        have hdr1 : bs.drop (i + 1) = (v.2 0).drop (i + 1) := by
          have := congrArg (List.drop 1) hdr
          simpa [List.drop_drop, Nat.add_comm] using this
        have hbi : bs[i]? = some (v.2 0)[i] := by
          have h5 : (bs.drop i)[0]? = ((v.2 0).drop i)[0]? := by rw [hdr]
          rw [List.getElem?_drop, List.getElem?_drop, Nat.add_zero, List.getElem?_eq_getElem h1] at h5
          exact h5
        by_cases h2 : (v.2 1)[i] = 1
        · rw [decide_eq_true h2, if_neg bq_bT]
          simp only [bq_let, nI_1]
          rw [if_pos h2, List.append_nil] at hsn
          exact ih (i + 1) k E1 bs (by omega) (by omega) (by omega) hbl (htk.trans hsn.symm) hdr1 H1 s1
        · rw [decide_eq_false h2, if_pos bq_bF]
          simp only [bq_let, nI_1]
          rw [if_neg h2] at hsn
          rw [zn_at0 HB (by omega)]
          simp only [Option.bind_some]
          have hgd : bs.getD i 0 = (v.2 0)[i] := by simp [List.getD, hbi]
          rw [hgd]
          obtain ⟨E2, q1, q2, q3⟩ := zn_put HB (k := k) (by omega) (v := (v.2 0)[i]) (H.base.2 _ (List.getElem_mem h1))
          rw [q1]
          simp only [Option.bind_some]
          obtain ⟨H2, s2⟩ := H1.rowup (j := 0) (by omega) q2 q3
          rw [zq_RR] at H2
          refine ih (i + 1) (k + 1) E2 _ (by omega) (by omega) (by omega) (by simp; exact hbl) ?_ ?_ H2 (s1.trans s2)
          · rw [hsn, ← htk, List.take_succ_eq_append_getElem (by simp; omega), List.getElem_set_self, List.take_set_of_le (Nat.le_refl _)]
          · rw [List.drop_set_of_lt (by omega), hdr1]
      · have hi : i = (v.2 0).length := by omega
        rw [if_pos (nI_le (by omega) (by omega)), hi]
        refine ⟨E1, k, bs, rfl, by omega, ?_, H1, s1⟩
        rw [htk, hi, List.take_length, ← hm, List.take_length]
  have key59 : ∀ (K : Int32 → bq_E → Option bq_E) (n i : Nat) (E1 : bq_E) (bs : List Nat), (v.2 2).length - i < n → i ≤ (v.2 2).length → bs.length + ((v.2 2).length - i) ≤ 24 → zq_cat g E1 c (zq_R v 0 bs) → zq_same E E1 c (c + 18) →
      ∃ (E2 : bq_E), tl_X0_settle_59 c K n (nI i) E1 = K (nI (v.2 2).length) E2 ∧ zq_cat g E2 c (zq_R v 0 (zn_inss bs ((v.2 2).drop i))) ∧ zq_same E E2 c (c + 18) := by
    intro K n
    induction n with
    | zero => intro i E1 bs h; omega
    | succ n ih =>
      intro i E1 bs hn hil hbl H1 s1
      have hb0 : ((zq_R v 0 bs).2 0) = bs := zq_Rs
      have hc2 : ((zq_R v 0 bs).2 2) = v.2 2 := zq_Rn (by omega)
      have HB := H1.base
      have HC := H1.buf
      rw [hb0] at HB
      rw [hc2] at HC
      rw [tl_X0_settle_59.eq_2, H1.rBuf, H1.rBase]
      simp only [Option.bind_some, zn_size HC]
      by_cases h1 : i < (v.2 2).length
      · rw [if_neg (nI_ge h1 (by omega)), zn_at0 HC (by omega)]
        simp only [Option.bind_some]
        have hg : (v.2 2).getD i 0 = (v.2 2)[i] := by simp [List.getD, List.getElem?_eq_getElem h1]
        have hy : (v.2 2)[i] ≤ 10000 := H.buf.2 _ (List.getElem_mem h1)
        rw [hg, show (0 : Int32) = nI 0 from rfl, zn_firstAtLeast HB (by omega) (Nat.zero_le _), Nat.zero_add, List.drop_zero]
        simp only [Option.bind_some]
        obtain ⟨E2, q1, q2, q3⟩ := zn_insert HB (by omega) (zn_fal_le _ _) hy (k := zn_fal (v.2 2)[i] bs)
        rw [q1]
        simp only [Option.bind_some, bq_let, nI_1]
        obtain ⟨H2, s2⟩ := H1.rowup (j := 0) (by omega) q2 q3
        rw [zq_RR] at H2
        have hl := zn_ins_len (v.2 2)[i] bs
        obtain ⟨E3, r1, r2, r3⟩ := ih (i + 1) E2 (zn_ins (v.2 2)[i] bs) (by omega) (by omega) (by omega) H2 (s1.trans s2)
        refine ⟨E3, r1, ?_, r3⟩
        rw [List.drop_eq_getElem_cons h1]
        exact r2
      · have hi : i = (v.2 2).length := by omega
        rw [if_pos (nI_le (by omega) (by omega)), hi, List.drop_length]
        exact ⟨E1, rfl, H1, s1⟩
  have key121 : ∀ (n i : Nat) (E1 : bq_E) (w : zq_N), (w.2 0).length - i < n → i ≤ (w.2 0).length → zq_cat g E1 c (zq_R w 1 (List.replicate i 0)) → zq_same E E1 c (c + 18) →
      ∃ (E2 : bq_E), tl_X0_settle_121 c n (nI i) E1 = some E2 ∧ zq_cat g E2 c (zq_I (zq_R w 1 (List.replicate (w.2 0).length 0)) 4 0) ∧ zq_same E E2 c (c + 18) := by
    intro n
    induction n with
    | zero => intro i E1 w h; omega
    | succ n ih =>
      intro i E1 w hn hil H1 s1
      have hb0 : ((zq_R w 1 (List.replicate i 0)).2 0) = w.2 0 := zq_Rn (by omega)
      have hm1 : ((zq_R w 1 (List.replicate i 0)).2 1) = List.replicate i 0 := zq_Rs
      have HB := H1.base
      have HM := H1.marks
      rw [hb0] at HB
      rw [hm1] at HM
      have hlw := HB.len
      rw [tl_X0_settle_121.eq_2, H1.rBase, H1.rMarks]
      simp only [Option.bind_some, zn_size HB]
      by_cases h1 : i < (w.2 0).length
      · rw [if_neg (nI_ge h1 (by omega))]
        obtain ⟨E2, q1, q2, q3⟩ := zn_append HM (by simp; omega) (v := 0) (by omega)
        rw [show (0 : Int32) = nI 0 from rfl, q1]
        simp only [Option.bind_some, bq_let, nI_1]
        obtain ⟨H2, s2⟩ := H1.rowup (j := 1) (by omega) q2 q3
        rw [zq_RR, ← List.replicate_succ'] at H2
        exact ih (i + 1) E2 w (by omega) (by omega) H2 (s1.trans s2)
      · have hi : i = (w.2 0).length := by omega
        rw [if_pos (nI_le (by omega) (by omega))]
        obtain ⟨E2, r1, r2, r3⟩ := H1.intup (k := 4) (by omega) 0
        rw [r1]
        subst hi
        exact ⟨E2, rfl, r2, s1.trans r3⟩
  unfold tw_X0_settle
  rw [if_pos (zq_cls H.1)]
  obtain ⟨E1, k1, bs1, a1, a2, a3, a4, a5⟩ := key4 (fun y1 y2 E3 =>
    (bq_fr E3 c 0 5).bind fun v4 =>
  (tw_X3_cutTo E3 v4 y1).bind fun E5 =>
  tl_X0_settle_59 c (fun y6 E7 =>
    (bq_fr E7 c 0 7).bind fun v8 =>
  (tw_X3_cutTo E7 v8 (0 : Int32)).bind fun E9 =>
  (bq_fr E9 c 0 6).bind fun v10 =>
  (tw_X3_cutTo E9 v10 (0 : Int32)).bind fun E11 =>
  tl_X0_settle_121 c bq_fuel (0 : Int32) E11) bq_fuel (0 : Int32) E5) bq_fuel 0 0 E (v.2 0) (bq_fuel_ge (by omega)) (Nat.zero_le _) (Nat.le_refl _) rfl rfl rfl (by rw [zq_Rid]; exact H) zq_same.refl
  refine zq_via a1 ?_
  have HB := a4.base
  rw [show ((zq_R v 0 bs1).2 0) = bs1 from zq_Rs] at HB
  simp only [a4.rBase, Option.bind_some]
  obtain ⟨E2, q1, q2, q3⟩ := zn_cutTo HB a2
  rw [q1, a3] at *
  simp only [Option.bind_some]
  obtain ⟨H2, s2⟩ := a4.rowup (j := 0) (by omega) q2 q3
  rw [zq_RR] at H2
  obtain ⟨E3, b1, b2, b3⟩ := key59 (fun y6 E7 =>
    (bq_fr E7 c 0 7).bind fun v8 =>
  (tw_X3_cutTo E7 v8 (0 : Int32)).bind fun E9 =>
  (bq_fr E9 c 0 6).bind fun v10 =>
  (tw_X3_cutTo E9 v10 (0 : Int32)).bind fun E11 =>
  tl_X0_settle_121 c bq_fuel (0 : Int32) E11) bq_fuel 0 E2 _ (bq_fuel_ge (by omega)) (Nat.zero_le _) (by omega) H2 (a5.trans s2)
  refine zq_via b1 ?_
  rw [List.drop_zero] at b2
  simp only [b2.rBuf, Option.bind_some]
  obtain ⟨E4, d1, d2, d3⟩ := zn_cut0 b2.buf
  rw [d1]
  simp only [Option.bind_some]
  obtain ⟨H4, s4⟩ := b2.rowup (j := 2) (by omega) d2 d3
  simp only [H4.rMarks, Option.bind_some]
  obtain ⟨E5, e1, e2, e3⟩ := zn_cut0 H4.marks
  rw [e1]
  simp only [Option.bind_some]
  obtain ⟨H5, s5⟩ := H4.rowup (j := 1) (by omega) e2 e3
  obtain ⟨E6, f1, f2, f3⟩ := key121 bq_fuel 0 E5 (zq_R (zq_R v 0 (zc_newbase v)) 2 []) (bq_fuel_ge (by have := H5.base.len; have h9 : ((zq_R (zq_R (zq_R v 0 (zn_inss (zn_keep (v.2 0) (v.2 1)) (v.2 2))) 2 []) 1 []).2 0) = ((zq_R (zq_R v 0 (zc_newbase v)) 2 []).2 0) := rfl; rw [← h9]; omega)) (Nat.zero_le _) H5 ((b3.trans s4).trans s5)
  exact ⟨E6, f1, f2, f3⟩
theorem zc_begin (H : zq_cat g E c v) (p d : Int32) : ∃ E', tw_X0_begin E c p d = some E' ∧ zq_cat g E' c (zq_R (zq_R (zq_R (zq_I (zq_I (zq_I (zq_I (zq_I v 0 p) 1 (-1)) 2 (-1)) 3 d) 4 0) 0 []) 1 []) 2 []) ∧ zq_same E E' c (c + 18) := by
  unfold tw_X0_begin
  rw [if_pos (zq_cls H.1)]
  obtain ⟨E1, a1, H1, s1⟩ := H.intup (k := 0) (by omega) p
  obtain ⟨E2, a2, H2, s2⟩ := H1.intup (k := 1) (by omega) (-1)
  obtain ⟨E3, a3, H3, s3⟩ := H2.intup (k := 2) (by omega) (-1)
  obtain ⟨E4, a4, H4, s4⟩ := H3.intup (k := 3) (by omega) d
  obtain ⟨E5, a5, H5, s5⟩ := H4.intup (k := 4) (by omega) 0
  obtain ⟨E6, a6, q6, t6⟩ := zn_cut0 H5.base
  obtain ⟨H6, s6⟩ := H5.rowup (j := 0) (by omega) q6 t6
  obtain ⟨E7, a7, q7, t7⟩ := zn_cut0 H6.marks
  obtain ⟨H7, s7⟩ := H6.rowup (j := 1) (by omega) q7 t7
  obtain ⟨E8, a8, q8, t8⟩ := zn_cut0 H7.buf
  obtain ⟨H8, s8⟩ := H7.rowup (j := 2) (by omega) q8 t8
  refine ⟨E8, ?_, H8, (((((((s1.trans s2).trans s3).trans s4).trans s5).trans s6).trans s7).trans s8)⟩
  simp only [a1, a2, a3, a4, a5, H5.rBase, a6, H6.rMarks, a7, H7.rBuf, a8, Option.bind_some]
end ZqS
