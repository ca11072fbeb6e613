/-! Catalogs: copies, keys in order, the list and its bridges. -/
def zc_nextAt (v : zq_N) (x : Nat) : Nat := zn_fal x (v.2 0) + zn_run ((v.2 1).drop (zn_fal x (v.2 0)))
def zc_next (v : zq_N) (x : Nat) : Nat := zn_lb x ((v.2 0).getD (zc_nextAt v x) 10000) (v.2 2)
def zc_iter (v : zq_N) : Nat → Nat → Nat
  | 0, x => zc_next v x
  | n + 1, x => zc_iter v n (zc_next v x + 1)
theorem zn_lb_le (x b : Nat) (ys : List Nat) : zn_lb x b ys ≤ b := by
  induction ys generalizing b with
  | nil => exact Nat.le_refl _
  | cons y t ih =>
    unfold zn_lb
    have := ih (if x ≤ y ∧ y < b then y else b)
    split at this <;> split <;> omega
theorem zn_getD_le {xs : List Nat} {m d : Nat} (h : ∀ x ∈ xs, x ≤ m) (hd : d ≤ m) (k : Nat) : xs.getD k d ≤ m := by
  simp only [List.getD]
  cases hk : xs[k]? with
  | none => exact hd
  | some x => exact h x (List.mem_of_getElem? hk)
theorem zq_cat.congr {g : bq_G} {E : bq_E} {c : Nat} {v w : zq_N} (H : zq_cat g E c v) (h1 : ∀ k, k < 5 → v.1 k = w.1 k) (h2 : ∀ j, j < 8 → v.2 j = w.2 j) : zq_cat g E c w := by
  refine ⟨?_, H.2.1, fun j hj => (h2 j hj) ▸ H.2.2 j hj⟩
  rw [← h1 0 (by omega), ← h1 1 (by omega), ← h1 2 (by omega), ← h1 3 (by omega), ← h1 4 (by omega)]
  exact H.1
def zl_br (ys : List Nat) : Nat → List Nat → List Nat
  | p, [] => [p + zn_fal 10000 (ys.drop p)]
  | p, k :: t => (p + zn_fal k (ys.drop p)) :: zl_br ys (p + zn_fal k (ys.drop p)) t
theorem zl_br_len (ys : List Nat) (p : Nat) (ks : List Nat) : (zl_br ys p ks).length = ks.length + 1 := by
  induction ks generalizing p with
  | nil => rfl
  | cons k t ih => simp [zl_br, ih]
def zl_mn (a b c : Nat) : Nat := if (if c < b then c else b) < a then (if c < b then c else b) else a
def zl_merge (st : Nat) (b l r : List Nat) : Nat → Nat → Nat → Nat → List (Nat × Nat)
  | 0, _, _, _ => []
  | n + 1, i, j, k =>
    if zl_mn (b.getD i 10000) (l.getD j 10000) (r.getD k 10000) = 10000 then [] else
    if b.getD i 10000 = zl_mn (b.getD i 10000) (l.getD j 10000) (r.getD k 10000) then (zl_mn (b.getD i 10000) (l.getD j 10000) (r.getD k 10000), 0) :: zl_merge st b l r n (i + 1) j k else
    if l.getD j 10000 = zl_mn (b.getD i 10000) (l.getD j 10000) (r.getD k 10000) then (zl_mn (b.getD i 10000) (l.getD j 10000) (r.getD k 10000), 1) :: zl_merge st b l r n i (j + st) k else
    (zl_mn (b.getD i 10000) (l.getD j 10000) (r.getD k 10000), 2) :: zl_merge st b l r n i j (k + st)
theorem zl_mn_le {a b c m : Nat} (h : a ≤ m) (h1 : b ≤ m) (h2 : c ≤ m) : zl_mn a b c ≤ m := by
  unfold zl_mn
  split <;> split at * <;> omega
section ZqL
variable {g : bq_G} {E E' : bq_E} {c : Nat} {v : zq_N}
theorem zc_keyInOrder (H : zq_cat g E c v) (hm : (v.2 1).length = (v.2 0).length) {i nn : Nat} (hi : i < 2 ^ 31) (hc : zc_count v = nI nn) (hnn : nn ≤ 1000) : tw_X0_keyInOrder E c (nI i) = some (if i < nn then nI (zc_iter v i 0) else -1) := by
  have hlb := H.base.len
  have hlc := H.buf.len
  have step : ∀ x : Nat, x ≤ 10001 → ∀ K : Int32 → Option Int32,
      ((bq_fr E c 0 5).bind fun v1402 =>
    (tw_X3_firstAtLeast E v1402 (nI x) (0 : Int32)).bind fun v1403 =>
    (tw_X0_firstUnmarked E c v1403).bind fun v1404 =>
    (bq_fr E c 0 5).bind fun v1405 =>
    (tw_X3_at E v1405 v1404 (10000 : Int32)).bind fun v1406 =>
    (tw_X0_leastBuffered E c (nI x) v1406).bind K) = K (nI (zc_next v x)) := by
    intro x hx K
    have hf := zn_fal_le x (v.2 0)
    have hr := zn_run_le ((v.2 1).drop (zn_fal x (v.2 0)))
    rw [List.length_drop] at hr
    rw [H.rBase]
    simp only [Option.bind_some]
    rw [show (0 : Int32) = nI 0 from rfl, zn_firstAtLeast H.base hx (Nat.zero_le _), Nat.zero_add, List.drop_zero]
    simp only [Option.bind_some]
    rw [zc_firstUnmarked H hm hf]
    simp only [Option.bind_some]
    rw [show (10000 : Int32) = nI 10000 from rfl, zn_at H.base (by omega)]
    simp only [Option.bind_some]
    have hb : (v.2 0).getD (zn_fal x (v.2 0) + zn_run ((v.2 1).drop (zn_fal x (v.2 0)))) 10000 ≤ 10000 := zn_getD_le H.base.2 (Nat.le_refl _) _
    rw [zc_leastBuffered H hx (by omega)]
    rfl
  have nle : ∀ x : Nat, zc_next v x ≤ 10000 := fun x => Nat.le_trans (zn_lb_le _ _ _) (zn_getD_le H.base.2 (Nat.le_refl _) _)
  have key : i < nn → ∀ n k y : Nat, i + 1 - k < n → k ≤ i + 1 → y ≤ 10000 → tl_X0_keyInOrder_14 E c (nI i) n (nI y) (nI k) = some (nI (if k ≤ i then zc_iter v (i - k) (y + 1) else y)) := by
    intro hin n
    induction n with
    | zero => intro k y hk; omega
    | succ n ih =>
      intro k y hk hki hy
      rw [tl_X0_keyInOrder_14.eq_2]
      by_cases h1 : i < k
      · rw [if_pos (nI_lt h1 (by omega)), if_neg (by omega)]
      · rw [if_neg (nI_nlt (by omega) (by omega)), if_pos (by omega)]
        simp only [bq_let, nI_1]
        rw [step (y + 1) (by omega), ih (k + 1) _ (by omega) (by omega) (nle _)]
        by_cases h2 : k + 1 ≤ i
        · rw [if_pos h2, show i - k = (i - (k + 1)) + 1 by omega]
          rfl
        · rw [if_neg h2, show i - k = 0 by omega]
          rfl
  unfold tw_X0_keyInOrder
  rw [if_pos (zq_cls H.1), zc_keyCount H, hc]
  simp only [Option.bind_some]
  by_cases h : i < nn
  · rw [if_pos h, if_pos (nI_lt h (by omega))]
    have e : bq_fuel = 999999 + 1 := rfl
    rw [e, tl_X0_keyInOrder_14.eq_2]
    rw [if_neg (nI_pos (by omega))]
    simp only [bq_let, nI_1]
    rw [show (-1 : Int32) + 1 = nI 0 from by decide, step 0 (by omega), show (0 : Int32) + 1 = nI 1 from rfl, key h 999999 1 _ (by omega) (by omega) (nle _)]
    cases i with
    | zero => rw [if_neg (by omega)]; rfl
    | succ j =>
      rw [if_pos (by omega)]
      rfl
  · rw [if_neg h, if_neg (nI_nlt (by omega) hi)]
theorem zl_size (H : zq_cat g E c v) : tw_X2_size E (c + 7) = some (nI (v.2 3).length) := by
  unfold tw_X2_size
  rw [if_pos (zq_cls H.2.1), H.lKeys]
  simp only [Option.bind_some]
  rw [zn_size H.keys]
  rfl
theorem zl_bridgeOf (H : zq_cat g E c v) (m : Int32) {j : Nat} (hj : j < 3) : tw_X2_bridgeOf E (c + 7) m (nI j) = tw_X3_at E (c + zq_off (5 + j)) m 0 := by
  unfold tw_X2_bridgeOf
  rw [if_pos (zq_cls H.2.1)]
  have : j = 0 ∨ j = 1 ∨ j = 2 := by omega
  rcases this with rfl | rfl | rfl
  · simp only [bq_let]; rw [if_pos (by decide), H.lB0]; simp only [Option.bind_some, Option.bind_fun_some]; rfl
  · simp only [bq_let]; rw [if_neg (by decide), if_pos (by decide), H.lB1]; simp only [Option.bind_some, Option.bind_fun_some]; rfl
  · simp only [bq_let]; rw [if_neg (by decide), if_neg (by decide), H.lB2]; simp only [Option.bind_some, Option.bind_fun_some]; rfl
theorem zl_lay (H : zq_cat g E c v) {j h cap : Nat} {ys : List Nat} (hj : 5 ≤ j ∧ j < 8) (H2 : zn_row g E h cap ys) (ho : h + 2 ≤ c + zq_off j ∨ c + zq_off j + 2 ≤ h) : ∃ E', tw_X2_layBridges E (c + 7) (c + zq_off j) h = some E' ∧ zq_cat g E' c (zq_R v j (zl_br ys 0 (v.2 3))) ∧ zq_same E E' (c + zq_off j) (c + zq_off j + 2) := by
  have hcap : zq_cap j = 97 := by unfold zq_cap; split <;> (try split) <;> (try split) <;> omega
  have hys := H2.len
  have hth := H2.thou
  have hkl := H.keys.len
  have key : ∀ (n i p : Nat) (E1 : bq_E) (bs : List Nat), (v.2 3).length + 1 - i < n → i ≤ (v.2 3).length + 1 → p ≤ ys.length → bs.length = i → zq_cat g E1 c (zq_R v j bs) → zq_same E E1 (c + zq_off j) (c + zq_off j + 2) →
      ∃ E2, tl_X2_layBridges_10 (c + 7) (c + zq_off j) h n (nI p) (nI i) E1 = some E2 ∧ zq_cat g E2 c (zq_R v j (bs ++ if i ≤ (v.2 3).length then zl_br ys p ((v.2 3).drop i) else [])) ∧ zq_same E E2 (c + zq_off j) (c + zq_off j + 2) := by
    intro n
    induction n with
    | zero => intro i p E1 bs h; omega
    | succ n ih =>
      intro i p E1 bs hn hi hp hbl H1 s1
      have hK : (zq_R v j bs).2 3 = v.2 3 := zq_Rn (by omega)
      have HK := H1.keys
      rw [hK] at HK
      have HB := H1.row (j := j) (by omega)
      rw [zq_Rs, hcap] at HB
      have HY : zn_row g E1 h cap ys := H2.same s1 ho
      rw [tl_X2_layBridges_10.eq_2, H1.lKeys]
      simp only [Option.bind_some, zn_size HK]
      by_cases h1 : i ≤ (v.2 3).length
      · rw [if_neg (nI_nlt h1 (by omega)), if_pos h1, show (10000 : Int32) = nI 10000 from rfl, zn_at HK (by omega)]
        simp only [Option.bind_some]
        have hk : (v.2 3).getD i 10000 ≤ 10000 := zn_getD_le HK.2 (Nat.le_refl _) _
        rw [zn_firstAtLeast HY (by omega) hp]
        simp only [Option.bind_some]
        have hq := zn_fal_le ((v.2 3).getD i 10000) (ys.drop p)
        rw [List.length_drop] at hq
        obtain ⟨E2, q1, q2, q3⟩ := zn_append HB (by omega) (v := p + zn_fal ((v.2 3).getD i 10000) (ys.drop p)) (by omega)
        rw [q1]
        simp only [Option.bind_some, bq_let, nI_1]
        rw [← hcap] at q2
        obtain ⟨H3, s3⟩ := H1.rowup (j := j) (by omega) q2 q3
        rw [zq_RR] at H3
        obtain ⟨E4, r1, r2, r3⟩ := ih (i + 1) (p + zn_fal ((v.2 3).getD i 10000) (ys.drop p)) E2 _ (by omega) (by omega) (by omega) (by simp; omega) H3 (s1.trans q3)
        refine ⟨E4, r1, ?_, r3⟩
        rw [List.append_assoc] at r2
        have e : [p + zn_fal ((v.2 3).getD i 10000) (ys.drop p)] ++ (if i + 1 ≤ (v.2 3).length then zl_br ys (p + zn_fal ((v.2 3).getD i 10000) (ys.drop p)) ((v.2 3).drop (i + 1)) else []) = zl_br ys p ((v.2 3).drop i) := by
          by_cases h2 : i < (v.2 3).length
          · rw [if_pos (by omega), List.drop_eq_getElem_cons h2]
            have hg : (v.2 3).getD i 10000 = (v.2 3)[i] := by simp [List.getD, List.getElem?_eq_getElem h2]
            rw [hg]
            rfl
          · rw [if_neg (by omega), show (v.2 3).drop i = [] from List.drop_of_length_le (by omega)]
            have hg : (v.2 3).getD i 10000 = 10000 := by simp [List.getD, List.getElem?_eq_none (Nat.not_lt.mp h2)]
            rw [hg]
            rfl
        rw [e] at r2
        exact r2
      · rw [if_pos (nI_lt (by omega) (by omega)), if_neg h1, List.append_nil]
        exact ⟨E1, rfl, H1, s1⟩
  unfold tw_X2_layBridges
  rw [if_pos (zq_cls H.2.1)]
  obtain ⟨E1, q1, q2, q3⟩ := zn_cut0 (H.row (j := j) (by omega))
  rw [q1]
  simp only [Option.bind_some]
  obtain ⟨H1, s1⟩ := H.rowup (j := j) (by omega) q2 q3
  obtain ⟨E2, r1, r2, r3⟩ := key bq_fuel 0 0 E1 [] (bq_fuel_ge (by omega)) (by omega) (Nat.zero_le _) rfl H1 q3
  rw [if_pos (Nat.zero_le _), List.drop_zero, List.nil_append] at r2
  exact ⟨E2, r1, r2, r3⟩
end ZqL
