/-! The reckoner lays a path, halves, goes back. -/
theorem zw_path_app (t : zq_T) : ∀ (r k : Nat) (acc : List Nat), zw_path t r k acc = zw_path t r k [] ++ acc
  | 0, _, _ => rfl
  | r + 1, k, acc => by
    unfold zw_path
    rw [zw_path_app t r _ (k :: acc), zw_path_app t r _ [k], List.append_assoc]
    rfl
theorem zw_path_len (t : zq_T) : ∀ (r k : Nat) (acc : List Nat), (zw_path t r k acc).length = r + acc.length
  | 0, _, _ => by simp [zw_path]
  | r + 1, k, acc => by
    unfold zw_path
    rw [zw_path_len t r _ (k :: acc), List.length_cons]
    omega
theorem zw_path_get (t : zq_T) (r k : Nat) (acc : List Nat) : (zw_path t (r + 1) k acc).getD r 0 = k := by
  show (zw_path t r (zt_ix ((t.2 k).1 0)) (k :: acc)).getD r 0 = k
  rw [zw_path_app]
  have := zw_path_len t r (zt_ix ((t.2 k).1 0)) []
  simp only [List.getD]
  rw [List.getElem?_append_right (by rw [this]; simp), this]
  simp
/-- the way up from k ends after d steps -/
def zi_up (t : zq_T) (nn : Nat) : Nat → Nat → Prop
  | 0, k => (t.2 k).1 0 = -1
  | d + 1, k => zt_ix ((t.2 k).1 0) < nn ∧ (t.2 k).1 0 = nI (zt_ix ((t.2 k).1 0)) ∧ zi_up t nn d (zt_ix ((t.2 k).1 0))
section ZqX
variable {g : bq_G} {E : bq_E} {m nn : Nat} {M : zq_M} {t : zq_T}
theorem zm_par (H : zq_mod g E m M) (h15 : nn ≤ 15) (hf : ∀ j, j < nn → M.1 1 (zm_at j) = (t.2 j).1 0) {k : Nat} (hk : k < nn) : tw_X7_of E m (nI k) 0 = some ((t.2 k).1 0) := by
  rw [show (0 : Int32) = nI 0 from rfl, zm_of H (by omega) (by omega)]
  exact congrArg some (hf k hk)
theorem zm_lays7 (h15 : nn ≤ 15) (K : Int32 → bq_E → Option bq_E) (x1 : Int32) : ∀ (n d k c : Nat) (E1 : bq_E) (M1 : zq_M), d + 2 ≤ n → k < nn → (∀ j, j < nn → M1.1 1 (zm_at j) = (t.2 j).1 0) → zi_up t nn d k → zq_mod g E1 m M1 → M1.2.1 7 = nI c →
    ∃ E2 y, tl_X7_lays_7 m x1 K n (nI k) E1 = K y E2 ∧ zq_mod g E2 m (zm_I M1 7 (nI (c + d + 1))) ∧ zq_same E1 E2 m (m + 8) := by
  intro n
  induction n with
  | zero => intro d k c E1 M1 h; omega
  | succ n ih =>
    intro d k c E1 M1 hn hk hf hup H1 h7
    rw [tl_X7_lays_7.eq_2, if_neg (zn_m1 (by omega)), zm_i7 H1, h7]
    simp only [zq_bindE]
    obtain ⟨E2, a2, H2, s2⟩ := zm_put H1 (k := 7) (by omega) (nI c + 1)
    rw [a2]
    simp only [zq_bindE]
    have hf2 : ∀ j, j < nn → (zm_I M1 7 (nI c + 1)).1 1 (zm_at j) = (t.2 j).1 0 := hf
    rw [zm_par H2 h15 hf2 hk]
    simp only [zq_bindE]
    cases d with
    | zero =>
      have hup' : (t.2 k).1 0 = -1 := hup
      obtain ⟨n', rfl⟩ : ∃ n', n = n' + 1 := ⟨n - 1, by omega⟩
      rw [hup', tl_X7_lays_7.eq_2, if_pos rfl]
      rw [nI_1] at H2
      exact ⟨E2, _, rfl, H2, s2⟩
    | succ d =>
      obtain ⟨u1, u2, u3⟩ := hup
      rw [u2]
      obtain ⟨E3, y, a3, H3, s3⟩ := ih d _ (c + 1) E2 _ (by omega) u1 hf2 u3 H2 (by rw [zm_Is, nI_1])
      refine ⟨E3, y, a3, ?_, s2.trans s3⟩
      have : zm_I (zm_I M1 7 (nI c + 1)) 7 (nI (c + 1 + d + 1)) = zm_I M1 7 (nI (c + (d + 1) + 1)) := by
        unfold zm_I
        have e : va_up (va_up M1.2.1 7 (nI c + 1)) 7 (nI (c + 1 + d + 1)) = va_up M1.2.1 7 (nI (c + (d + 1) + 1)) := by
          funext k
          by_cases q : k = 7 <;> simp [va_up, q, show c + 1 + d + 1 = c + (d + 1) + 1 by omega]
        simp only [e]
      rw [← this]
      exact H3
theorem zm_lays41 (h15 : nn ≤ 15) (P : List Nat) (hP : P.length ≤ 15) : ∀ (n r k : Nat) (x : Int32) (acc : List Nat) (E1 : bq_E) (M1 : zq_M), r < n → (∀ j, j < nn → M1.1 1 (zm_at j) = (t.2 j).1 0) → (0 < r → x = nI k ∧ k < nn ∧ zi_up t nn (r - 1) k) → zw_path t r k acc = P → zq_mod g E1 m M1 → (∀ i, r ≤ i → i < P.length → M1.1 5 i = nI (P.getD i 0)) →
    ∃ E2 M2, tl_X7_lays_41 m n x (zt_cd r) E1 = some E2 ∧ zq_mod g E2 m M2 ∧ (∀ i, i < P.length → M2.1 5 i = nI (P.getD i 0)) ∧ M2.2 = M1.2 ∧ (∀ j, j ≠ 5 → M2.1 j = M1.1 j) ∧ zq_same E1 E2 m (m + 8) := by
  intro n
  induction n with
  | zero => intro r k x acc E1 M1 h; omega
  | succ n ih =>
    intro r k x acc E1 M1 hn hf hup hp H1 hd
    rw [tl_X7_lays_41.eq_2]
    cases r with
    | zero =>
      rw [show zt_cd 0 = -1 from rfl, if_pos (by decide)]
      exact ⟨E1, M1, rfl, H1, fun i hi => hd i (Nat.zero_le _) hi, rfl, fun _ _ => rfl, zq_same.refl⟩
    | succ r =>
      obtain ⟨hx, hk, hu⟩ := hup (by omega)
      rw [Nat.add_sub_cancel] at hu
      subst hx
      have hlen : P.length = r + 1 + acc.length := by rw [← hp]; exact zw_path_len t (r + 1) k acc
      rw [show zt_cd (r + 1) = nI r from rfl, if_neg (nI_pos (by omega)), zm_r5 H1]
      simp only [zq_bindE]
      obtain ⟨E2, a2, H2, s2⟩ := zm_si H1 (j := 5) (i := r) (by omega) (by show r < 15; omega) (nI k)
      rw [a2]
      simp only [zq_bindE]
      have hf2 : ∀ j, j < nn → (zm_A M1 5 r (nI k)).1 1 (zm_at j) = (t.2 j).1 0 := fun j hj => by rw [zm_An (by omega)]; exact hf j hj
      rw [zm_par H2 h15 hf2 hk]
      simp only [zq_bindE, zq_letE]
      have hcd : nI r + -1 = zt_cd r := by
        cases r with
        | zero => decide
        | succ r => exact pk_m1 r
      rw [hcd]
      obtain ⟨E3, M3, a3, H3, d3, f3, o3, s3⟩ := ih r (zt_ix ((t.2 k).1 0)) ((t.2 k).1 0) (k :: acc) E2 _ (by omega) hf2 (fun h => by
        obtain ⟨r', rfl⟩ : ∃ r', r = r' + 1 := ⟨r - 1, by omega⟩
        exact ⟨hu.2.1, hu.1, hu.2.2⟩) hp H2 (fun i h1 h2 => by
        rw [zm_As]
        by_cases q : i = r
        · subst q
          rw [pk_us, ← hp, zw_path_get]
        · rw [pk_un q]
          exact hd i (by omega) h2)
      exact ⟨E3, M3, a3, H3, d3, f3, fun j hj => (o3 j hj).trans (zm_An hj), s2.trans s3⟩
theorem zm_lays (H : zq_mod g E m M) (h15 : nn ≤ 15) (hf : ∀ j, j < nn → M.1 1 (zm_at j) = (t.2 j).1 0) {k d : Nat} (hk : k < nn) (hd : d < 15) (hu : zi_up t nn d k) : ∃ E' M', tw_X7_lays E m (nI k) = some E' ∧ zq_mod g E' m M' ∧ M'.2.1 7 = nI (d + 1) ∧ (∀ i, i < d + 1 → M'.1 5 i = nI ((zw_path t (d + 1) k []).getD i 0)) ∧ (∀ j, j ≠ 5 → M'.1 j = M.1 j) ∧ (∀ j, j ≠ 7 → M'.2.1 j = M.2.1 j) ∧ M'.2.2 = M.2.2 ∧ zq_same E E' m (m + 8) := by
  unfold tw_X7_lays
  rw [if_pos (zq_cls H.1)]
  obtain ⟨E1, a1, H1, s1⟩ := zm_put H (k := 7) (by omega) (nI 0)
  rw [show (0 : Int32) = nI 0 from rfl, a1]
  simp only [zq_bindE]
  obtain ⟨E2, y, a2, H2, s2⟩ := zm_lays7 (t := t) h15 (fun y2 E3 =>
    (bq_fi E3 m 7 7).bind fun v4 =>
  bq_let (v4 - (1 : Int32)) fun v5 =>
  tl_X7_lays_41 m bq_fuel (nI k) v5 E3) (nI k) bq_fuel d k 0 E1 (zm_I M 7 (nI 0)) (bq_fuel_le (by omega)) hk hf hu H1 zm_Is
  rw [a2]
  rw [zm_i7 H2, zm_Is]
  simp only [zq_bindE, zq_letE]
  have e1 : nI (0 + d + 1) - (1 : Int32) = zt_cd (d + 1) := by
    rw [nI_pred, Nat.zero_add]
    rfl
  rw [e1]
  obtain ⟨E3, M3, a3, H3, d3, f3, o3, s3⟩ := zm_lays41 (t := t) h15 (zw_path t (d + 1) k []) (by rw [zw_path_len]; simp; omega) bq_fuel (d + 1) k (nI k) [] E2 (zm_I (zm_I M 7 (nI 0)) 7 (nI (0 + d + 1))) (bq_fuel_ge (by omega)) hf (fun _ => ⟨rfl, hk, hu⟩) rfl H2 (fun i h1 h2 => by
    rw [zw_path_len] at h2
    simp at h2
    omega)
  refine ⟨E3, M3, a3, H3, ?_, fun i hi => d3 i (by rw [zw_path_len]; simpa using hi), o3, fun j hj => ?_, ?_, (s1.trans s2).trans s3⟩
  · rw [f3, zm_Is, Nat.zero_add]
  · rw [f3, zm_In hj, zm_In hj]
  · rw [f3]
    rfl
end ZqX
