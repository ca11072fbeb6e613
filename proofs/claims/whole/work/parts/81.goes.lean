/-! A key goes; both sides. -/
def zn_cut (bs : List Nat) (pos : Nat) : List Nat := bs.take pos ++ bs.drop (pos + 1)
theorem zn_cut_sub (bs : List Nat) (pos : Nat) : (zn_cut bs pos).Sublist bs := by
  have h := (List.Sublist.refl (bs.take pos)).append (List.drop_sublist 1 (bs.drop pos))
  rw [List.drop_drop, List.take_append_drop] at h
  exact h
theorem zn_cut_len {bs : List Nat} {pos : Nat} (h : pos < bs.length) : (zn_cut bs pos).length = bs.length - 1 := by
  unfold zn_cut
  rw [List.length_append, List.length_take, List.length_drop]
  omega
theorem zn_cut_get {bs : List Nat} {pos i : Nat} (h : pos < bs.length) : (zn_cut bs pos).getD i 0 = if i < pos then bs.getD i 0 else bs.getD (i + 1) 0 := by
  unfold zn_cut
  simp only [List.getD]
  by_cases q : i < pos
  · rw [if_pos q, List.getElem?_append_left (by rw [List.length_take]; omega), List.getElem?_take_of_lt q]
  · rw [if_neg q, List.getElem?_append_right (by rw [List.length_take]; omega), List.length_take, List.getElem?_drop]
    rw [show pos + 1 + (i - min pos bs.length) = i + 1 by omega]
section ZkD
variable {g : bq_G} {E : bq_E} {m n st k key : Nat} {M : zq_M} {t : zq_T}
theorem zt_drop_inv (hi : zi_inv n t) (hk : k < n) (h5 : t.1 5 = nI st) (hst : 2 ≤ st ∧ st ≤ 5) : zi_inv n (zt_drop st k key t).2 ∧ (zt_drop st k key t).1 = zc_has (t.2 k) key ∧ (zc_has (t.2 k) key = false → (zt_drop st k key t).2 = t) ∧ (zc_has (t.2 k) key = true → zi_pre n st (zt_C t k (zc_drop1 (t.2 k) key)) k ∧ zi_cat (zc_drop1 (t.2 k) key)) := by
  have hc := hi.2.2.2.1 k hk
  unfold zt_drop
  cases hh : zc_has (t.2 k) key with
  | false =>
    rw [if_neg (by decide)]
    exact ⟨hi, rfl, fun _ => rfl, fun q => (by cases q)⟩
  | true =>
    rw [if_pos rfl]
    have hkt := zn_keep_tot _ _ hc.1.1.1 hc.1.2.2.2.1
    have hcn := hc.2.2.1
    by_cases hin : key ∈ (t.2 k).2 2
    · rw [if_pos hin]
      have e : zc_drop1 (t.2 k) key = zc_buf (t.2 k) (zn_cut ((t.2 k).2 2) (zn_pos key ((t.2 k).2 2))) := by
        unfold zc_drop1
        rw [if_pos hin]
        rfl
      have hp := zn_pos_lt hin
      have hl := zn_cut_len hp
      have h7 := hc.2.2.2
      have hv : ∀ d, 7 ≤ d → d ≤ 8 → zi_hx d (zc_buf (t.2 k) (zn_cut ((t.2 k).2 2) (zn_pos key ((t.2 k).2 2)))) := fun d hd1 hd8 => zi_hx_buf hc (List.Nodup.sublist (zn_cut_sub _ _) hc.2.1.2.1) (fun y hy => ⟨hc.1.2.2.2.2 y ((zn_cut_sub _ _).subset hy), hc.2.1.2.2.1 y ((zn_cut_sub _ _).subset hy)⟩) (by omega) hd8 (by omega)
      obtain ⟨p1, p2, p3⟩ := hi.head hk h5 hst (hv 8 (by omega) (by omega)) (zc_buf_rj _ (by omega)) (fun j h3 h8 => zc_buf_rj _ (by omega)) (fun i hne => rfl)
      rw [e]
      exact ⟨p3 (hv 7 (by omega) (by omega)), rfl, fun q => (by cases q), fun _ => ⟨p1, p2⟩⟩
    · rw [if_neg hin]
      have e : zc_drop1 (t.2 k) key = zc_mark (t.2 k) (zn_pos key ((t.2 k).2 0)) 1 ((t.2 k).1 4 + 1) := by
        unfold zc_drop1
        rw [if_neg hin]
        rfl
      obtain ⟨u1, u2⟩ := zc_has_true hh hin
      have hp : zn_pos key ((t.2 k).2 0) < ((t.2 k).2 1).length := by rw [hc.1.1.1]; exact zn_pos_lt u1
      have hset := zn_tot_set ((t.2 k).2 1) (zn_pos key ((t.2 k).2 0)) 1 hp
      rw [zn_gD hp] at u2
      have h0 : ((t.2 k).2 1)[zn_pos key ((t.2 k).2 0)] = 0 := (hc.1.2.2.2.1 _ (List.getElem_mem hp)).resolve_right u2
      have hv : zi_hc (zc_mark (t.2 k) (zn_pos key ((t.2 k).2 0)) 1 ((t.2 k).1 4 + 1)) := zi_hx_mark hc hp (Or.inr rfl) (by
        rw [hc.2.1.2.2.2, nI_1]
        exact congrArg nI (by omega)) (by omega)
      have hv8 : zi_hx 8 (zc_mark (t.2 k) (zn_pos key ((t.2 k).2 0)) 1 ((t.2 k).1 4 + 1)) := ⟨hv.1, hv.2.1, hv.2.2.1, by have := hv.2.2.2; omega⟩
      obtain ⟨p1, p2, p3⟩ := hi.head hk h5 hst hv8 (zc_mark_r0 _) (fun j h3 h8 => zc_mark_rj _ (by omega)) (fun i hne => zc_mark_in _ hne)
      rw [e]
      by_cases hlt : 2 * ((t.2 k).1 4 + 1) ≤ nI ((t.2 k).2 0).length
      · rw [if_pos hlt]
        exact ⟨p3 hv, rfl, fun q => (by cases q), fun _ => ⟨p1, p2⟩⟩
      · rw [if_neg hlt]
        exact ⟨(p1.renew hk).1, rfl, fun q => (by cases q), fun _ => ⟨p1, p2⟩⟩
theorem zm_goes70 (hi : zi_inv n t) (hk : k < n) {bs : List Nat} (hl : bs.length ≤ 7) {pos : Nat} (hp : pos < bs.length) : ∀ (N j : Nat) (E1 : bq_E) (M1 : zq_M), bs.length - j < N → pos ≤ j → j + 1 ≤ bs.length → zq_mod g E1 m M1 → M1.1 1 (zm_at k + 52) = nI (bs.length - 1) → (∀ i, i < j → M1.1 1 (zm_at k + 53 + i) = nI ((zn_cut bs pos).getD i 0)) → (∀ i, j ≤ i → i < bs.length → M1.1 1 (zm_at k + 53 + i) = nI (bs.getD i 0)) →
    ∃ E2 M2, tl_X7_goes_70 m (nI k) N (nI j) E1 = some E2 ∧ zq_mod g E2 m M2 ∧ zm_only M1 M2 (fun a => zm_at k + 53 ≤ a ∧ a < zm_at k + 61) ∧ zm_seg (M2.1 1) (zm_at k + 53) (zn_cut bs pos) ∧ zq_same E1 E2 m (m + 8) := by
  have h15 := hi.1.1.2
  have hat : zm_at k = 8 + 545 * k := rfl
  have hcl := zn_cut_len hp
  intro N
  induction N with
  | zero => intro j E1 M1 h; omega
  | succ N ih =>
    intro j E1 M1 hn hpj hj H1 h52 hlo hhi
    rw [tl_X7_goes_70.eq_2, show (52 : Int32) = nI 52 from rfl, zm_of H1 (by omega) (by omega)]
    simp only [zq_bindE]
    have e52 : M1.1 1 (8 + 545 * k + 52) = nI (bs.length - 1) := h52
    rw [e52]
    by_cases q : j < bs.length - 1
    · rw [if_neg (nI_ge q (by omega)), show (53 : Int32) = nI 53 from rfl, nI_add, nI_1, zm_of H1 (by omega) (by omega)]
      simp only [zq_bindE]
      have e1 : M1.1 1 (8 + 545 * k + (53 + j + 1)) = nI (bs.getD (j + 1) 0) := by
        rw [← hhi (j + 1) (by omega) (by omega)]
        exact congrArg (M1.1 1) (by rw [hat]; omega)
      rw [e1]
      obtain ⟨E2, a2, H2, s2⟩ := zm_puts H1 (k := k) (by omega) (o := 53 + j) (by omega) (nI (bs.getD (j + 1) 0))
      rw [a2]
      simp only [zq_bindE, zq_letE]
      rw [nI_1]
      have o2 : zm_only M1 (zm_A M1 1 (8 + 545 * k + (53 + j)) (nI (bs.getD (j + 1) 0))) (fun a => zm_at k + 53 ≤ a ∧ a < zm_at k + 61) := zm_only.put (by rw [hat]; omega)
      obtain ⟨E3, M3, a3, H3, o3, g3, s3⟩ := ih (j + 1) E2 _ (by omega) (by omega) (by omega) H2 (by rw [hat, zm_Aoff (by omega)]; exact e52) (fun i hij => by
        by_cases w : i = j
        · subst w
          rw [hat, show 8 + 545 * k + 53 + i = 8 + 545 * k + (53 + i) by omega, zm_Aat, zn_cut_get hp, if_neg (by omega)]
        · rw [hat, zm_Aoff (by omega)]
          exact hlo i (by omega)) (fun i h1 h2 => by
        rw [hat, zm_Aoff (by omega)]
        exact hhi i (by omega) h2)
      exact ⟨E3, M3, a3, H3, o2.trans o3, g3, s2.trans s3⟩
    · rw [if_pos (nI_le (by omega) (by omega))]
      exact ⟨E1, M1, rfl, H1, zm_only.refl, fun i hil => hlo i (by omega), zq_same.refl⟩
theorem zm_goes (H : zq_mod g E m M) (hi : zi_inv n t) (hr : zs_rel (M.1 1) n t) (hk : k < n) (h5 : t.1 5 = nI st) (hst : 2 ≤ st ∧ st ≤ 5) (hkey : key < 10000) (hyes : zc_has (t.2 k) key = true) : ∃ E' M', tw_X7_goes E m (nI k) (nI key) = some E' ∧ zq_mod g E' m M' ∧ zs_rel (M'.1 1) n (zt_drop st k key t).2 ∧ zm_two M M' ∧ zq_same E E' m (m + 8) := by
  have h15 := hi.1.1.2
  have hc := hi.2.2.2.1 k hk
  have h7 := hc.2.2.2
  have hcat := hi.cat hk
  have hat : zm_at k = 8 + 545 * k := rfl
  have has : zm_has g E m M k (t.2 k) := ⟨H, by omega, hr.2 k hk, hcat⟩
  obtain ⟨_, _, _, hpre⟩ := zt_drop_inv (key := key) hi hk h5 hst
  obtain ⟨p1, p2⟩ := hpre hyes
  unfold tw_X7_goes zt_drop
  rw [if_pos (zq_cls H.1), zm_inBuffer has hc.2.1 (by omega), hyes, if_pos (show true = true from rfl)]
  simp only [zq_bindE]
  by_cases hin : key ∈ (t.2 k).2 2
  · have hp := zn_pos_lt hin
    rw [if_pos hin, if_neg (zn_m1 (by omega)), if_pos hin, zm_o52 has]
    simp only [zq_bindE]
    have e : zc_drop1 (t.2 k) key = zc_buf (t.2 k) (zn_cut ((t.2 k).2 2) (zn_pos key ((t.2 k).2 2))) := by
      unfold zc_drop1
      rw [if_pos hin]
      rfl
    rw [e]
    have e1 : nI ((t.2 k).2 2).length - (1 : Int32) = nI (((t.2 k).2 2).length - 1) := by
      show nI ((t.2 k).2 2).length - nI 1 = _
      exact pk_sub (by omega)
    rw [e1, show (52 : Int32) = nI 52 from rfl]
    obtain ⟨E1, a1, H1, s1⟩ := zm_puts H (k := k) (by omega) (o := 52) (by omega) (nI (((t.2 k).2 2).length - 1))
    rw [a1]
    simp only [zq_bindE]
    have hold : ∀ i, i < ((t.2 k).2 2).length → (zm_A M 1 (8 + 545 * k + 52) (nI (((t.2 k).2 2).length - 1))).1 1 (zm_at k + 53 + i) = nI (((t.2 k).2 2).getD i 0) := fun i hil => by
      rw [hat, zm_Aoff (by omega)]
      have := (hr.2 k hk).2.2.1.2 i hil
      rw [hat] at this
      exact this
    obtain ⟨E2, M2, a2, H2, o2, g2, s2⟩ := zm_goes70 hi hk h7 hp bq_fuel (zn_pos key ((t.2 k).2 2)) E1 _ (bq_fuel_ge (by omega)) (Nat.le_refl _) (by omega) H1 (by rw [hat, zm_Aat]) (fun i hil => by rw [zn_cut_get hp, if_pos hil]; exact hold i (by omega)) (fun i _ hil => hold i hil)
    rw [a2]
    refine ⟨E2, M2, rfl, H2, hr.head hi hk (fun a ha => ?_) (zm_head_buf (hr.2 k hk).head hc.1 (fun a q1 q2 => ?_) ?_ g2) (fun j h3 h8 => zc_buf_rj _ (by omega)), ⟨o2.1.trans rfl, fun j h1 h4 => (o2.2.1 j h1).trans (zm_An h1)⟩, s1.trans s2⟩
    · rw [o2.2.2 a (by omega), zm_Aoff (by rw [hat] at ha; omega)]
    · rw [o2.2.2 a (by omega), zm_Aoff (by rw [hat] at q1 q2; omega)]
    · rw [o2.2.2 _ (by omega), hat, zm_Aat, zn_cut_len hp]
  · rw [if_neg hin, if_pos rfl, if_neg hin, zm_inBase has hc.2.1 (by omega)]
    simp only [zq_bindE]
    obtain ⟨u1, u2⟩ := zc_has_true hyes hin
    have hpb := zn_pos_lt u1
    have h24 := hc.1.1
    have hp : zn_pos key ((t.2 k).2 0) < ((t.2 k).2 1).length := by omega
    have e : zc_drop1 (t.2 k) key = zc_mark (t.2 k) (zn_pos key ((t.2 k).2 0)) 1 ((t.2 k).1 4 + 1) := by
      unfold zc_drop1
      rw [if_neg hin]
      rfl
    rw [e] at p1 p2 ⊢
    obtain ⟨E1, M1, a1, H1, r1, o1, s1⟩ := zm_mark H hi hr hk (b := 1) hp ((t.2 k).1 4 + 1)
    rw [if_pos u1, show (1 : Int32) = nI 1 from rfl] at *
    rw [a1]
    simp only [zq_bindE]
    have hn1 := r1.2 k hk
    rw [zt_Cs] at hn1
    have has1 : zm_has g E1 m M1 k (zc_mark (t.2 k) (zn_pos key ((t.2 k).2 0)) 1 ((t.2 k).1 4 + nI 1)) := ⟨H1, by omega, hn1, p2⟩
    rw [zm_marked has1, zm_o3 has1, zc_mark_r0]
    simp only [zq_bindE]
    have hx := p1.2.2.2.1.2.2.1.2.2.2
    rw [zt_Cs, zc_mark_i4] at hx
    rw [← hx]
    by_cases hlt : 2 * ((t.2 k).1 4 + nI 1) ≤ nI ((t.2 k).2 0).length
    · rw [if_pos hlt, if_pos hlt]
      exact ⟨E1, M1, rfl, H1, r1, o1.two, s1⟩
    · rw [if_neg hlt, if_neg hlt]
      obtain ⟨E3, M3, a3, H3, r3, o3, s3⟩ := zm_rebuilds H1 p1 (by rw [zt_Cs]; exact p2) hk r1
      rw [a3]
      exact ⟨E3, M3, rfl, H3, r3, o1.two.trans o3, s1.trans s3⟩
end ZkD
