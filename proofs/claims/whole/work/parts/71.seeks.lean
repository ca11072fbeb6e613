/-! Paths; the reckoner searches. -/
theorem zw_path_it (t : zq_T) : ∀ (r k : Nat) (acc : List Nat) (i : Nat), i < r → (zw_path t r k acc).getD i 0 = zi_it t (r - 1 - i) k
  | 0, _, _, _, h => absurd h (by omega)
  | r + 1, k, acc, i, h => by
    by_cases q : i = r
    · subst q
      rw [zw_path_get, show i + 1 - 1 - i = 0 by omega]
      rfl
    · show (zw_path t r (zt_ix ((t.2 k).1 0)) (k :: acc)).getD i 0 = _
      rw [zw_path_it t r _ _ i (by omega), show r + 1 - 1 - i = (r - 1 - i) + 1 by omega]
      rfl
theorem zw_sides_app (t : zq_T) : ∀ (r k : Nat) (acc : List Nat), zw_sides t r k acc = zw_sides t r k [] ++ acc
  | 0, _, _ => rfl
  | r + 1, k, acc => by
    unfold zw_sides
    rw [zw_sides_app t r _ (_ :: acc), zw_sides_app t r _ [_], List.append_assoc]
    rfl
theorem zw_sides_len (t : zq_T) : ∀ (r k : Nat) (acc : List Nat), (zw_sides t r k acc).length = r + acc.length
  | 0, _, _ => by simp [zw_sides]
  | r + 1, k, acc => by
    unfold zw_sides
    rw [zw_sides_len t r _ (_ :: acc), List.length_cons]
    omega
theorem zw_sides_it (t : zq_T) : ∀ (r k : Nat) (acc : List Nat) (i : Nat), i < r → (zw_sides t r k acc).getD i 1 = zw_side t (zi_it t (r - 1 - i) k)
  | 0, _, _, _, h => absurd h (by omega)
  | r + 1, k, acc, i, h => by
    show (zw_sides t r (zt_ix ((t.2 k).1 0)) (zw_side t k :: acc)).getD i 1 = _
    by_cases q : i = r
    · subst q
      rw [zw_sides_app]
      have := zw_sides_len t i (zt_ix ((t.2 k).1 0)) []
      simp only [List.getD]
      rw [List.getElem?_append_right (by rw [this]; simp), this, show i + 1 - 1 - i = 0 by omega]
      simp [zi_it]
    · rw [zw_sides_it t r _ _ i (by omega), show r + 1 - 1 - i = (r - 1 - i) + 1 by omega]
      rfl
theorem zi_it_d {n : Nat} {t : zq_T} (h : zi_shape n t) : ∀ (i k : Nat), k < n → i ≤ zt_d t k → zi_it t i k < n ∧ zt_d t (zi_it t i k) = zt_d t k - i
  | 0, k, hk, _ => ⟨hk, by rw [Nat.sub_zero]; rfl⟩
  | i + 1, k, hk, hi => by
    have h0 := h.pos hk (by omega)
    have hd := h.dpar h0 hk
    have := zi_it_d h i (zi_par t k) (h.pn hk) (by omega)
    exact ⟨this.1, this.2.trans (by omega)⟩
/-- a path and its sides -/
def zi_pl (n : Nat) (t : zq_T) (P L : List Nat) : Prop := (P.length ≤ 15 ∧ L.length = P.length) ∧ (∀ i, i < P.length → P.getD i 0 < n) ∧ (∀ i, i + 1 < P.length → zi_par t (P.getD (i + 1) 0) = P.getD i 0 ∧ 0 < P.getD (i + 1) 0 ∧ L.getD (i + 1) 1 = zw_side t (P.getD (i + 1) 0))
theorem zi_pl_path {n : Nat} {t : zq_T} (h : zi_shape n t) {k : Nat} (hk : k < n) : zi_pl n t (zw_path t (zt_d t k + 1) k []) (zw_sides t (zt_d t k + 1) k []) := by
  have hl := zw_path_len t (zt_d t k + 1) k []
  have hl2 := zw_sides_len t (zt_d t k + 1) k []
  have h15 := h.d15 hk
  simp only [List.length_nil, Nat.add_zero] at hl hl2
  refine ⟨⟨by omega, by omega⟩, fun i hi => ?_, fun i hi => ?_⟩
  · rw [zw_path_it t _ k [] i (by omega)]
    exact (zi_it_d h _ k hk (by omega)).1
  · rw [zw_path_it t _ k [] i (by omega), zw_path_it t _ k [] (i + 1) (by omega), zw_sides_it t _ k [] (i + 1) (by omega)]
    have := zi_it_d h (zt_d t k + 1 - 1 - (i + 1)) k hk (by omega)
    refine ⟨?_, h.pos this.1 (by omega), rfl⟩
    rw [show zt_d t k + 1 - 1 - i = (zt_d t k + 1 - 1 - (i + 1)) + 1 by omega, zi_it_out]
/-- the step with the least answer among the first -/
def zw_bsi (a : Nat → Int32) : Nat → Option Nat
  | 0 => none
  | c + 1 => match zw_bsi a c with
    | none => if a c = -1 then none else some c
    | some b => if a c = -1 then some b else if a b ≤ a c then some b else some c
def zw_bok (a : Nat → Int32) (c : Nat) (P : List Nat) (w : zq_V) (o : Option Nat) : Prop := match o with
  | none => w.2.2.2.1 = -1 ∧ w.2.2.2.2 = -1
  | some b => b < c ∧ a b = w.2.2.2.1 ∧ w.2.2.2.1 ≠ -1 ∧ w.2.2.2.2 = nI (P.getD b 0)
theorem zw_bsi_congr {a a' : Nat → Int32} : ∀ (c : Nat), (∀ i, i < c → a' i = a i) → (∀ b, zw_bsi a c = some b → b < c) ∧ zw_bsi a' c = zw_bsi a c
  | 0, _ => ⟨fun b h => by simp [zw_bsi] at h, rfl⟩
  | c + 1, h => by
    obtain ⟨i1, i2⟩ := zw_bsi_congr (a := a) (a' := a') c (fun i hi => h i (by omega))
    have e : ∀ f : Nat → Int32, zw_bsi f (c + 1) = match zw_bsi f c with
      | none => if f c = -1 then none else some c
      | some b => if f c = -1 then some b else if f b ≤ f c then some b else some c := fun f => rfl
    rw [e a, e a', i2]
    cases hb : zw_bsi a c with
    | none =>
      simp only []
      rw [h c (by omega)]
      refine ⟨fun b hq => ?_, rfl⟩
      split at hq
      · cases hq
      · cases hq; omega
    | some b0 =>
      have := i1 b0 hb
      simp only []
      rw [h c (by omega), h b0 (by omega)]
      refine ⟨fun b hq => ?_, rfl⟩
      split at hq
      · cases hq; omega
      · split at hq
        · cases hq; omega
        · cases hq; omega
theorem zn_enc_eq {f : Nat} (h : f ≤ 10000) : (10000 ≤ f ↔ zn_enc f = -1) ∧ (¬ 10000 ≤ f → zn_enc f = nI f) := by
  unfold zn_enc
  by_cases q : f = 10000
  · rw [if_pos q]; exact ⟨⟨fun _ => rfl, fun _ => by omega⟩, fun w => absurd w (by omega)⟩
  · rw [if_neg q]; exact ⟨⟨fun w => absurd w (by omega), fun w => absurd w (zn_m1 h)⟩, fun _ => rfl⟩
theorem zw_ans_parts (v : zq_N) (k p x : Nat) (w : zq_V) (hf : zw_found v p x ≤ 10000) : (zw_ans v k p x w).1 = w.1 + (zn_run ((v.2 1).drop p) + (v.2 2).length) ∧ (zw_ans v k p x w).2.1 = w.2.1 ∧ (zw_ans v k p x w).2.2.1 = zn_enc (zw_found v p x) := by
  obtain ⟨e1, e2⟩ := zn_enc_eq hf
  unfold zw_ans
  rw [← Nat.add_assoc]
  by_cases q : 10000 ≤ zw_found v p x
  · rw [if_pos q, e1.mp q]
    exact ⟨rfl, rfl, rfl⟩
  · rw [if_neg q, e2 q]
    by_cases q2 : w.2.2.2.1 = -1
    · rw [if_pos q2]; exact ⟨rfl, rfl, rfl⟩
    · rw [if_neg q2]
      by_cases q3 : w.2.2.2.1 ≤ nI (zw_found v p x)
      · rw [if_pos q3]; exact ⟨rfl, rfl, rfl⟩
      · rw [if_neg q3]; exact ⟨rfl, rfl, rfl⟩
theorem zw_bok_step {a a' : Nat → Int32} {c : Nat} {P : List Nat} {w : zq_V} (h : zw_bok a c P w (zw_bsi a c)) (ha : ∀ i, i < c → a' i = a i) {v : zq_N} {k p x : Nat} (hf : zw_found v p x ≤ 10000) (hc : a' c = zn_enc (zw_found v p x)) (hP : P.getD c 0 = k) {w2 : zq_V} (hw : w2.2.2.2 = w.2.2.2) : zw_bok a' (c + 1) P (zw_ans v k p x w2) (zw_bsi a' (c + 1)) := by
  obtain ⟨e1, e2⟩ := zn_enc_eq hf
  obtain ⟨i1, i2⟩ := zw_bsi_congr c ha
  have e : zw_bsi a' (c + 1) = match zw_bsi a c with
      | none => if a' c = -1 then none else some c
      | some b => if a' c = -1 then some b else if a' b ≤ a' c then some b else some c := by rw [← i2]; rfl
  rw [e, hc]
  have w1 : w2.2.2.2.1 = w.2.2.2.1 := congrArg Prod.fst hw
  have w3 : w2.2.2.2.2 = w.2.2.2.2 := congrArg Prod.snd hw
  unfold zw_ans
  cases hb : zw_bsi a c with
  | none =>
    rw [hb] at h
    obtain ⟨h1, h2⟩ := h
    simp only []
    by_cases q : 10000 ≤ zw_found v p x
    · rw [if_pos q, if_pos (e1.mp q)]
      exact ⟨w1.trans h1, w3.trans h2⟩
    · rw [if_neg q, if_neg (fun z => q (e1.mpr z)), if_pos (w1.trans h1)]
      exact ⟨by omega, hc.trans (e2 q), zn_m1 hf, by rw [hP]⟩
  | some b =>
    rw [hb] at h
    obtain ⟨h0, h1, h2, h3⟩ := h
    have hab : a' b = w.2.2.2.1 := (ha b h0).trans h1
    simp only []
    by_cases q : 10000 ≤ zw_found v p x
    · rw [if_pos q, if_pos (e1.mp q)]
      exact ⟨by omega, hab.trans w1.symm, by rw [w1]; exact h2, w3.trans h3⟩
    · rw [if_neg q, if_neg (fun z => q (e1.mpr z)), if_neg (by rw [w1]; exact h2), e2 q, hab, w1]
      by_cases q3 : w.2.2.2.1 ≤ nI (zw_found v p x)
      · rw [if_pos q3, if_pos q3]
        exact ⟨by omega, hab, h2, w3.trans h3⟩
      · rw [if_neg q3, if_neg q3]
        exact ⟨by omega, hc.trans (e2 q), zn_m1 hf, by rw [hP]⟩
def zm_fd (M : zq_M) (c : Nat) (P : List Nat) (w : zq_V) : Prop := M.2.1 8 = nI w.1 ∧ (0 < c → M.1 6 (c - 1) = nI w.2.1 ∧ M.1 7 (c - 1) = w.2.2.1) ∧ zw_bok (M.1 7) c P w (zw_bsi (M.1 7) c)
/-- a search changes scratch words only -/
def zm_sk (M M' : zq_M) : Prop := (∀ j, j ≠ 6 → j ≠ 7 → M'.1 j = M.1 j) ∧ (∀ j, j ≠ 8 → M'.2.1 j = M.2.1 j) ∧ M'.2.2 = M.2.2
theorem zm_sk.refl {M : zq_M} : zm_sk M M := ⟨fun _ _ _ => rfl, fun _ _ => rfl, rfl⟩
theorem zm_sk.trans {M M' M'' : zq_M} (h : zm_sk M M') (h2 : zm_sk M' M'') : zm_sk M M'' := ⟨fun j a b => (h2.1 j a b).trans (h.1 j a b), fun j a => (h2.2.1 j a).trans (h.2.1 j a), h2.2.2.trans h.2.2⟩
theorem zm_sk.i8 {M : zq_M} (x : Int32) : zm_sk M (zm_I M 8 x) := ⟨fun _ _ _ => rfl, fun j h => zm_In h, rfl⟩
theorem zm_sk.a67 {M : zq_M} {j : Nat} (hj : j = 6 ∨ j = 7) (i : Nat) (x : Int32) : zm_sk M (zm_A M j i x) := ⟨fun k a b => zm_An (by omega), fun _ _ => rfl, rfl⟩
section ZsK
variable {g : bq_G} {E : bq_E} {m n : Nat} {M : zq_M} {t : zq_T} {P L : List Nat}
theorem zw_side_kid (h : zi_shape n t) {k : Nat} (h0 : 0 < k) (hk : k < n) : (t.2 (zi_par t k)).1 (zw_side t k) = nI k ∧ (zw_side t k = 1 ∨ zw_side t k = 2) := by
  have q := (h.2.2.2.1 k h0 hk).2.2.2
  have e : zw_side t k = if (t.2 (zi_par t k)).1 1 = nI k then 1 else 2 := rfl
  rw [e]
  by_cases w : (t.2 (zi_par t k)).1 1 = nI k
  · rw [if_pos w]; exact ⟨w, Or.inl rfl⟩
  · rw [if_neg w]; exact ⟨q.resolve_left w, Or.inr rfl⟩
/-- a bridge to a child lies in its list -/
theorem zi_inv.bridge (h : zi_inv n t) {k : Nat} (h0 : 0 < k) (hk : k < n) (i : Nat) : ((t.2 (zi_par t k)).2 (5 + zw_side t k)).getD i 0 ≤ ((t.2 k).2 3).length := by
  have h15 := h.1.1.2
  obtain ⟨s1, s2⟩ := zw_side_kid h.1 h0 hk
  obtain ⟨st, a, b, c, d⟩ := h.2.2.2.2.1 (zi_par t k) (h.1.pn hk)
  have e : ((t.2 (zi_par t k)).2 (5 + zw_side t k)) = _ := c (5 + zw_side t k) (by omega) (by omega)
  rw [zc_built_br _ _ _ _ (by omega)] at e
  have es : zm_sel (zw_side t k) ((t.2 (zi_par t k)).2 0) (zt_ent t ((t.2 (zi_par t k)).1 1)) (zt_ent t ((t.2 (zi_par t k)).1 2)) = (t.2 k).2 3 := by
    have ek : zt_ent t ((t.2 (zi_par t k)).1 (zw_side t k)) = (t.2 k).2 3 := by
      rw [s1]
      unfold zt_ent
      rw [if_neg (zn_m1 (by omega)), zt_ix_nI (by omega)]
    rcases s2 with q | q
    · rw [q] at ek ⊢; exact ek
    · rw [q] at ek ⊢; exact ek
  have hb := b.brs (j := zw_side t k)
  rw [e]
  rw [es] at hb ⊢
  exact zn_getD_le hb (Nat.zero_le _) i
theorem zm_seeks7 (h : zi_inv n t) (hN : ∀ j, j < n → zm_node (M.1 1) j (t.2 j)) (hp : zi_pl n t P L) (h7 : M.2.1 7 = nI P.length) (h5 : ∀ i, i < P.length → M.1 5 i = nI (P.getD i 0)) {x : Nat} (hx : x ≤ 10001) : ∀ (N c : Nat) (E1 : bq_E) (M1 : zq_M) (w : zq_V), P.length - c < N → c ≤ P.length → zq_mod g E1 m M1 → zm_sk M M1 → zm_fd M1 c P w → (0 < c → w.2.1 ≤ ((t.2 (P.getD (c - 1) 0)).2 3).length) →
    ∃ E2 M2, tl_X7_seeks_7 m (nI x) N (nI c) E1 = some E2 ∧ zq_mod g E2 m M2 ∧ zm_sk M M2 ∧ zm_fd M2 P.length P (zw_go t x P L (P.length - c) c w) ∧ zq_same E1 E2 m (m + 8) := by
  have h15 := h.1.1.2
  have hp15 := hp.1.1
  intro N
  induction N with
  | zero => intro c E1 M1 w h; omega
  | succ N ih =>
    intro c E1 M1 w hn hc H1 sk fd hpl
    have has : ∀ (E1 : bq_E) (M1 : zq_M) (j : Nat), zq_mod g E1 m M1 → zm_sk M M1 → j < n → zm_has g E1 m M1 j (t.2 j) := fun E1 M1 j hm hs hj => ⟨hm, by omega, by rw [hs.1 1 (by omega) (by omega)]; exact hN j hj, h.cat hj⟩
    rw [tl_X7_seeks_7.eq_2, zm_i7 H1, sk.2.1 7 (by omega), h7]
    simp only [zq_bindE]
    by_cases q : c < P.length
    · have hk := hp.2.1 c q
      obtain ⟨k, ek⟩ : ∃ k, k = P.getD c 0 := ⟨_, rfl⟩
      have r5 : ∀ (E1 : bq_E) (M1 : zq_M), zq_mod g E1 m M1 → zm_sk M M1 → ∀ i, i < P.length → bq_ai E1 (m + 5) (nI i) = some (nI (P.getD i 0)) := fun E1 M1 hm hs i hi => by
        rw [zm_ai hm (j := 5) (by omega) (by show i < 15; omega), hs.1 5 (by omega) (by omega), h5 i hi]
      rw [if_neg (nI_ge q (by omega)), zm_r5 H1]
      simp only [zq_bindE]
      rw [r5 E1 M1 H1 sk c q]
      simp only [zq_bindE, zq_letE]
      rw [← ek] at hk ⊢
      have hcat := h.cat hk
      have hok := h.ok k (by omega)
      have hkl : ((t.2 k).2 3).length ≤ 96 := hcat.2.2.1.2
      have rest : ∀ (E2 : bq_E) (M2 : zq_M) (s : Nat), s = L.getD c 1 ∨ c = 0 → zq_mod g E2 m M2 → zm_sk M M2 → M2.1 6 = M1.1 6 → M2.1 7 = M1.1 7 → M2.2.1 8 = nI (zw_near t x c k s w).1 → (zw_near t x c k s w).2.1 ≤ ((t.2 k).2 3).length → zq_same E1 E2 m (m + 8) →
          ∃ E3 M3, ((bq_fr E2 m 7 9).bind fun v706 =>
      (bq_si E2 v706 (nI c) (nI (zw_near t x c k s w).2.1)).bind fun E707 =>
      (bq_fr E707 m 7 10).bind fun v708 =>
      (tw_X7_of E707 m (nI k) ((254 : Int32) + ((3 : Int32) * nI (zw_near t x c k s w).2.1))).bind fun v709 =>
      (tw_X7_answerFrom E707 m (nI k) v709 (nI x)).bind fun v710 =>
      (bq_si v710.2 v708 (nI c) v710.1).bind fun E711 =>
      tl_X7_seeks_7 m (nI x) N (nI c + 1) E711) = some E3 ∧ zq_mod g E3 m M3 ∧ zm_sk M M3 ∧ zm_fd M3 P.length P (zw_go t x P L (P.length - c) c w) ∧ zq_same E1 E3 m (m + 8) := by
        intro E2 M2 s hs H2 sk2 e6 e7 h8 hple s2
        obtain ⟨w2, ew⟩ : ∃ w2, w2 = zw_near t x c k s w := ⟨_, rfl⟩
        rw [← ew] at h8 hple ⊢
        have ew22 : w2.2.2.2 = w.2.2.2 := by
          rw [ew]; unfold zw_near; split <;> rfl
        rw [zm_r6 H2]
        simp only [zq_bindE]
        obtain ⟨E3, a3, H3, s3⟩ := zm_si H2 (j := 6) (i := c) (by omega) (by show c < 15; omega) (nI w2.2.1)
        rw [a3]
        simp only [zq_bindE]
        have sk3 := sk2.trans (zm_sk.a67 (M := M2) (Or.inl rfl) c (nI w2.2.1))
        have has3 := has E3 _ k H3 sk3 hk
        rw [zm_r7 H3]
        simp only [zq_bindE]
        have er : (254 : Int32) + 3 * nI w2.2.1 = (254 + 3 * nI w2.2.1) + nI 0 := (Int32.add_zero _).symm
        rw [er, zm_oR has3 (j := 0) (by omega) (by omega)]
        simp only [zq_bindE]
        have hpb : ((t.2 k).2 5).getD w2.2.1 0 ≤ ((t.2 k).2 0).length := zn_getD_le hok.2 (Nat.zero_le _) _
        obtain ⟨E4, a4, H4, s4⟩ := zm_answerFrom has3 hpb hx (c := w2.1) h8
        rw [show 5 + 0 = 5 from rfl, a4]
        simp only [zq_bindE]
        obtain ⟨E5, a5, H5, s5⟩ := zm_si H4 (j := 7) (i := c) (by omega) (by show c < 15; omega) (zn_enc (zw_found (t.2 k) (((t.2 k).2 5).getD w2.2.1 0) x))
        rw [a5]
        simp only [zq_bindE]
        have hf : zw_found (t.2 k) (((t.2 k).2 5).getD w2.2.1 0) x ≤ 10000 := Nat.le_trans (zn_lb_le _ _ _) (zn_getD_le (fun y hy => Nat.le_of_lt (hcat.2.2.2.2.1 y hy)) (Nat.le_refl _) _)
        have sk5 := (sk3.trans (zm_sk.i8 (M := zm_A M2 6 c (nI w2.2.1)) (nI (w2.1 + (zn_run (((t.2 k).2 1).drop (((t.2 k).2 5).getD w2.2.1 0)) + ((t.2 k).2 2).length))))).trans (zm_sk.a67 (M := zm_I (zm_A M2 6 c (nI w2.2.1)) 8 (nI (w2.1 + (zn_run (((t.2 k).2 1).drop (((t.2 k).2 5).getD w2.2.1 0)) + ((t.2 k).2 2).length)))) (Or.inr rfl) c (zn_enc (zw_found (t.2 k) (((t.2 k).2 5).getD w2.2.1 0) x)))
        obtain ⟨p1, p2, p3⟩ := zw_ans_parts (t.2 k) k (((t.2 k).2 5).getD w2.2.1 0) x w2 hf
        have estep : zw_step t x c k (L.getD c 1) w = zw_ans (t.2 k) k (((t.2 k).2 5).getD w2.2.1 0) x w2 := by
          rcases hs with hs | hs
          · rw [← hs, ew]; rfl
          · subst hs
            rw [ew]; rfl
        rw [nI_1]
        obtain ⟨E6, M6, a6, H6, sk6, fd6, s6⟩ := ih (c + 1) E5 _ (zw_ans (t.2 k) k (((t.2 k).2 5).getD w2.2.1 0) x w2) (by omega) (by omega) H5 sk5 (by
          refine ⟨?_, fun _ => ?_, ?_⟩
          · rw [p1]; exact zm_Is
          · rw [Nat.add_sub_cancel, p2, p3]
            refine ⟨?_, ?_⟩
            · rw [zm_An (by omega)]
              show (zm_A M2 6 c (nI w2.2.1)).1 6 c = _
              rw [zm_As, pk_us]
            · rw [zm_As, pk_us]
          · refine zw_bok_step (a := M1.1 7) (w := w) fd.2.2 (fun i hi => ?_) hf ?_ ek.symm ew22
            · rw [zm_As, pk_un (by omega)]
              show (zm_A M2 6 c (nI w2.2.1)).1 7 i = _
              rw [zm_An (by omega), e7]
            · rw [zm_As, pk_us]) (fun _ => by
          rw [Nat.add_sub_cancel, p2, ← ek]; exact hple)
        refine ⟨E6, M6, a6, H6, sk6, ?_, (((s2.trans s3).trans s4).trans s5).trans s6⟩
        rw [show P.length - c = (P.length - (c + 1)) + 1 by omega]
        show zm_fd M6 P.length P (zw_go t x P L (P.length - (c + 1)) (c + 1) (zw_step t x c (P.getD c 0) (L.getD c 1) w))
        rw [← ek, estep]
        exact fd6
      by_cases q0 : c = 0
      · subst q0
        rw [if_pos (show nI 0 = 0 from rfl), zm_o61 (has E1 M1 k H1 sk hk)]
        simp only [zq_bindE]
        obtain ⟨E2, a2, H2, s2⟩ := zm_halves H1 (k := k) (xs := (t.2 k).2 3) (o := 62) (fun E2 M2 hm he i hi => zm_oK ⟨hm, by omega, by rw [he]; exact (has E1 M1 k H1 sk hk).2.2.1, hcat⟩ hi) (by omega) (fun y hy => Nat.le_of_lt (hcat.2.2.2.2.2.2.2.1 y hy)) hx (c := w.1) fd.1
        rw [a2]
        simp only [zq_bindE]
        have en : (zw_near t x 0 k 0 w).2.1 = (zw_half ((t.2 k).2 3) x).1 := rfl
        have := rest E2 _ 0 (Or.inr rfl) H2 (sk.trans (zm_sk.i8 _)) rfl rfl zm_Is (by rw [en]; exact zw_hv_le _ _ _ _ _ (Nat.zero_le _)) s2
        rw [en] at this
        exact this
      · have hc0 : 0 < c := by omega
        obtain ⟨c', rfl⟩ : ∃ c', c = c' + 1 := ⟨c - 1, by omega⟩
        obtain ⟨u1, u2, u3⟩ := hp.2.2 c' q
        rw [← ek] at u1 u2 u3
        rw [if_neg (show ¬ nI (c' + 1) = 0 from nI_ne0 (by omega) (by omega))]
        rw [nI_pred, r5 E1 M1 H1 sk c' (by omega), ← u1]
        simp only [zq_bindE]
        have hpn := h.1.pn hk
        have hasp := has E1 M1 (zi_par t k) H1 sk hpn
        rw [zm_o1 hasp]
        simp only [zq_bindE]
        rw [zm_r6 H1]
        simp only [zq_bindE]
        have h6 := (fd.2.1 hc0).1
        rw [Nat.add_sub_cancel] at h6
        rw [zm_ai H1 (j := 6) (by omega) (by show c' < 15; omega), h6]
        simp only [zq_bindE]
        have hsk := zw_side_kid h.1 u2 hk
        have hs3 : zw_side t k < 3 := by omega
        have hplc := hpl hc0
        rw [Nat.add_sub_cancel, ← u1] at hplc
        have hbr := h.bridge u2 hk w.2.1
        have fin : ∃ E3 M3, ((tw_X7_of E1 m (nI (zi_par t k)) (((254 : Int32) + ((3 : Int32) * nI w.2.1)) + nI (zw_side t k))).bind fun v721 =>
        (tw_X7_goesBack E1 m (nI k) v721 (nI x)).bind fun v722 =>
        (bq_fr v722.2 m 7 9).bind fun v706 =>
      (bq_si v722.2 v706 (nI (c' + 1)) v722.1).bind fun E707 =>
      (bq_fr E707 m 7 10).bind fun v708 =>
      (tw_X7_of E707 m (nI k) ((254 : Int32) + ((3 : Int32) * v722.1))).bind fun v709 =>
      (tw_X7_answerFrom E707 m (nI k) v709 (nI x)).bind fun v710 =>
      (bq_si v710.2 v708 (nI (c' + 1)) v710.1).bind fun E711 =>
      tl_X7_seeks_7 m (nI x) N (nI (c' + 1) + 1) E711) = some E3 ∧ zq_mod g E3 m M3 ∧ zm_sk M M3 ∧ zm_fd M3 P.length P (zw_go t x P L (P.length - (c' + 1)) (c' + 1) w) ∧ zq_same E1 E3 m (m + 8) := by
          rw [zm_oR hasp hs3 (by omega)]
          simp only [zq_bindE]
          have hask := has E1 M1 k H1 sk hk
          obtain ⟨E2, M2, a2, H2, eM, s2⟩ := zm_goesBack H1 (k := k) (by omega) (xs := (t.2 k).2 3) ⟨hask.2.2.1.2.2.2.1.1, hask.2.2.1.2.2.2.1.2.1⟩ hkl (fun y hy => Nat.le_of_lt (hcat.2.2.2.2.2.2.2.1 y hy)) hx hbr (c := w.1) fd.1
          rw [a2]
          simp only [zq_bindE]
          have en : zw_near t x (c' + 1) k (L.getD (c' + 1) 1) w = (w.1 + (zw_sb ((t.2 k).2 3) x (((t.2 (zi_par t k)).2 (5 + zw_side t k)).getD w.2.1 0)).2, (zw_sb ((t.2 k).2 3) x (((t.2 (zi_par t k)).2 (5 + zw_side t k)).getD w.2.1 0)).1, w.2.2) := by
            unfold zw_near
            rw [if_neg (by omega), u3]
            rfl
          have := rest E2 M2 (L.getD (c' + 1) 1) (Or.inl rfl) H2 (by rw [eM]; exact sk.trans (zm_sk.i8 _)) (by rw [eM]; rfl) (by rw [eM]; rfl) (by rw [eM, en]; exact zm_Is) (by rw [en]; exact Nat.le_trans (zw_sb_le _ _ _) hbr) s2
          rw [en] at this
          exact this
        have eside : zw_side t k = if (t.2 (zi_par t k)).1 1 = nI k then 1 else 2 := rfl
        by_cases wq : (t.2 (zi_par t k)).1 1 = nI k
        · rw [if_pos wq] at eside ⊢
          rw [eside] at fin
          exact fin
        · rw [if_neg wq] at eside ⊢
          rw [eside] at fin
          exact fin
    · have : c = P.length := by omega
      subst this
      rw [if_pos (nI_le (Nat.le_refl _) (by omega)), Nat.sub_self]
      exact ⟨E1, M1, rfl, H1, sk, fd, zq_same.refl⟩
theorem zm_seeks (H : zq_mod g E m M) (h : zi_inv n t) (hN : ∀ j, j < n → zm_node (M.1 1) j (t.2 j)) (hp : zi_pl n t P L) (h7 : M.2.1 7 = nI P.length) (h5 : ∀ i, i < P.length → M.1 5 i = nI (P.getD i 0)) {x : Nat} (hx : x ≤ 10001) : ∃ E' M', tw_X7_seeks E m (nI x) = some E' ∧ zq_mod g E' m M' ∧ zm_sk M M' ∧ zm_fd M' P.length P (zw_find t P L x) ∧ zq_same E E' m (m + 8) := by
  have hp15 := hp.1.1
  unfold tw_X7_seeks
  rw [if_pos (zq_cls H.1), show (0 : Int32) = nI 0 from rfl]
  obtain ⟨E1, a1, H1, s1⟩ := zm_put H (k := 8) (by omega) (nI 0)
  rw [a1]
  simp only [zq_bindE]
  obtain ⟨E2, M2, a2, H2, k2, f2, s2⟩ := zm_seeks7 (L := L) h hN hp h7 h5 hx bq_fuel 0 E1 (zm_I M 8 (nI 0)) zw_zero (bq_fuel_ge (by omega)) (Nat.zero_le _) H1 (zm_sk.i8 _) ⟨zm_Is, fun q => absurd q (by omega), ⟨rfl, rfl⟩⟩ (fun q => absurd q (by omega))
  exact ⟨E2, M2, a2, H2, k2, f2, s1.trans s2⟩
theorem zm_leastStep (H : zq_mod g E m M) {c : Nat} (hc : c ≤ 15) (h7 : M.2.1 7 = nI c) : tw_X7_leastStep E m = some (match zw_bsi (M.1 7) c with | none => -1 | some b => nI b) := by
  have key : ∀ (N i : Nat), c - i < N → i ≤ c → tl_X7_leastStep_4 E m N (match zw_bsi (M.1 7) i with | none => -1 | some b => nI b) (nI i) = some (match zw_bsi (M.1 7) c with | none => -1 | some b => nI b) := by
    intro N
    induction N with
    | zero => intro i h; omega
    | succ N ih =>
      intro i hn hi
      rw [tl_X7_leastStep_4.eq_2, zm_i7 H, h7]
      simp only [zq_bindE]
      by_cases q : i < c
      · rw [if_neg (nI_ge q (by omega)), zm_r7 H]
        simp only [zq_bindE]
        rw [zm_ai H (j := 7) (by omega) (by show i < 15; omega)]
        simp only [zq_bindE, zq_letE]
        have e : zw_bsi (M.1 7) (i + 1) = match zw_bsi (M.1 7) i with
          | none => if (M.1 7) i = -1 then none else some i
          | some b => if (M.1 7) i = -1 then some b else if (M.1 7) b ≤ (M.1 7) i then some b else some i := rfl
        have := ih (i + 1) (by omega) (by omega)
        rw [e] at this
        have hb0 := (zw_bsi_congr (a := M.1 7) (a' := M.1 7) i (fun _ _ => rfl)).1
        rw [nI_1]
        cases hb : zw_bsi (M.1 7) i with
        | none =>
          rw [hb] at this
          simp only [] at this ⊢
          by_cases q1 : M.1 7 i = -1
          · rw [if_pos q1] at this ⊢
            exact this
          · rw [if_neg q1] at this ⊢
            rw [if_pos True.intro]
            exact this
        | some b =>
          rw [hb] at this
          have hbi := hb0 b hb
          simp only [] at this ⊢
          by_cases q1 : M.1 7 i = -1
          · rw [if_pos q1] at this ⊢
            exact this
          · rw [if_neg q1] at this ⊢
            rw [if_neg (zn_m1 (by omega)), zm_ai H (j := 7) (by omega) (by show b < 15; omega)]
            simp only [zq_bindE]
            by_cases q2 : M.1 7 b ≤ M.1 7 i
            · rw [if_pos q2] at this ⊢
              exact this
            · rw [if_neg q2] at this ⊢
              exact this
      · have : i = c := by omega
        subst this
        rw [if_pos (nI_le (Nat.le_refl _) (by omega))]
  unfold tw_X7_leastStep
  rw [if_pos (zq_cls H.1)]
  exact key bq_fuel 0 (bq_fuel_ge (by omega)) (Nat.zero_le _)
end ZsK
