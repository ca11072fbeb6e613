/-! The walk at W, five cells. -/
abbrev zq_V : Type := Nat × Nat × Int32 × Int32 × Int32
def zq_walk (g : bq_G) (E : bq_E) (W : Nat) (P L : List Nat) (w : zq_V) : Prop :=
  E W = .inr (5, [.ref (W + 1), .ref (W + 3), .int (nI w.1), .int (nI w.2.1), .int w.2.2.1, .int w.2.2.2.1, .int w.2.2.2.2]) ∧ zn_row g E (W + 1) 15 P ∧ zn_row g E (W + 3) 15 L
def zw_zero : zq_V := (0, 0, -1, -1, -1)
def zn_gM (xs : List Nat) (e : Nat) : Int32 := match xs[e]? with | some v => nI v | none => -1
def zw_path (t : zq_T) : Nat → Nat → List Nat → List Nat
  | 0, _, acc => acc
  | r + 1, k, acc => zw_path t r (zt_ix ((t.2 k).1 0)) (k :: acc)
def zw_side (t : zq_T) (k : Nat) : Nat := if (t.2 (zt_ix ((t.2 k).1 0))).1 1 = nI k then 1 else 2
def zw_sides (t : zq_T) : Nat → Nat → List Nat → List Nat
  | 0, _, acc => acc
  | r + 1, k, acc => zw_sides t r (zt_ix ((t.2 k).1 0)) (zw_side t k :: acc)
def zw_pathok (t : zq_T) : Nat → Nat → Prop
  | 0, _ => True
  | r + 1, k => (0 < r → (t.2 k).1 0 = nI (zt_ix ((t.2 k).1 0))) ∧ zw_pathok t r (zt_ix ((t.2 k).1 0))
def zw_hv (xs : List Nat) (x : Nat) : Nat → Nat → Nat → Nat × Nat
  | 0, lo, _ => (lo, 0)
  | n + 1, lo, hi => if hi ≤ lo then (lo, 0) else
    if xs.getD ((lo + hi) / 2) 10000 < x then ((zw_hv xs x n ((lo + hi) / 2 + 1) hi).1, (zw_hv xs x n ((lo + hi) / 2 + 1) hi).2 + 1)
    else ((zw_hv xs x n lo ((lo + hi) / 2)).1, (zw_hv xs x n lo ((lo + hi) / 2)).2 + 1)
def zw_sb (xs : List Nat) (x : Nat) : Nat → Nat × Nat
  | 0 => (0, 0)
  | p + 1 => if nI x ≤ zn_gM xs p then ((zw_sb xs x p).1, (zw_sb xs x p).2 + 1) else (p + 1, 1)
def zw_found (v : zq_N) (p x : Nat) : Nat := zn_lb x ((v.2 0).getD (p + zn_run ((v.2 1).drop p)) 10000) (v.2 2)
def zw_ans (v : zq_N) (k p x : Nat) (w : zq_V) : zq_V :=
  if 10000 ≤ zw_found v p x then (w.1 + zn_run ((v.2 1).drop p) + (v.2 2).length, w.2.1, -1, w.2.2.2.1, w.2.2.2.2) else
  if w.2.2.2.1 = -1 then (w.1 + zn_run ((v.2 1).drop p) + (v.2 2).length, w.2.1, nI (zw_found v p x), nI (zw_found v p x), nI k) else
  if w.2.2.2.1 ≤ nI (zw_found v p x) then (w.1 + zn_run ((v.2 1).drop p) + (v.2 2).length, w.2.1, nI (zw_found v p x), w.2.2.2.1, w.2.2.2.2) else
  (w.1 + zn_run ((v.2 1).drop p) + (v.2 2).length, w.2.1, nI (zw_found v p x), nI (zw_found v p x), nI k)
theorem bq_fuel_le {n : Nat} (h : n < 1000000) : n ≤ bq_fuel := Nat.le_of_lt (bq_fuel_ge h)
section ZqWa
variable {g : bq_G} {E E' : bq_E} {W T : Nat} {P L : List Nat} {w : zq_V} {t : zq_T}
theorem zq_walk.same (H : zq_walk g E W P L w) {lo hi : Nat} (s : zq_same E E' lo hi) (ho : W + 5 ≤ lo ∨ hi ≤ W) : zq_walk g E' W P L w := ⟨(s W (by omega)).trans H.1, H.2.1.same s (by omega), H.2.2.same s (by omega)⟩
theorem zq_walk.rP (H : zq_walk g E W P L w) : bq_fr E W 5 0 = some (W + 1) := zq_fr H.1 rfl
theorem zq_walk.rL (H : zq_walk g E W P L w) : bq_fr E W 5 1 = some (W + 3) := zq_fr H.1 rfl
theorem zq_walk.i2 (H : zq_walk g E W P L w) : bq_fi E W 5 2 = some (nI w.1) := zq_fi H.1 rfl
theorem zq_walk.i3 (H : zq_walk g E W P L w) : bq_fi E W 5 3 = some (nI w.2.1) := zq_fi H.1 rfl
theorem zq_walk.i4 (H : zq_walk g E W P L w) : bq_fi E W 5 4 = some w.2.2.1 := zq_fi H.1 rfl
theorem zq_walk.i5 (H : zq_walk g E W P L w) : bq_fi E W 5 5 = some w.2.2.2.1 := zq_fi H.1 rfl
theorem zq_walk.i6 (H : zq_walk g E W P L w) : bq_fi E W 5 6 = some w.2.2.2.2 := zq_fi H.1 rfl
theorem zq_walk.put (H : zq_walk g E W P L w) {k : Nat} (hk : 2 ≤ k ∧ k < 7) (x : Int32) (w' : zq_V) (he : [Value.ref (W + 1), .ref (W + 3), .int (nI w.1), .int (nI w.2.1), .int w.2.2.1, .int w.2.2.2.1, .int w.2.2.2.2].set k (.int x) = [Value.ref (W + 1), .ref (W + 3), .int (nI w'.1), .int (nI w'.2.1), .int w'.2.2.1, .int w'.2.2.2.1, .int w'.2.2.2.2]) : ∃ E', bq_p E W 5 k (.int x) = some E' ∧ zq_walk g E' W P L w' ∧ zq_same E E' W (W + 5) := by
  refine ⟨_, zq_p _ H.1 (by simp; omega), ⟨?_, H.2.1.keep (va_up_ne _ _ (by omega)) (va_up_ne _ _ (by omega)), H.2.2.keep (va_up_ne _ _ (by omega)) (va_up_ne _ _ (by omega))⟩, zq_same.up (by omega)⟩
  rw [va_up_self, he]
theorem zq_walk.p2 (H : zq_walk g E W P L w) (n : Nat) : ∃ E', bq_p E W 5 2 (.int (nI n)) = some E' ∧ zq_walk g E' W P L (n, w.2) ∧ zq_same E E' W (W + 5) := H.put (by omega) _ _ rfl
theorem zq_walk.p3 (H : zq_walk g E W P L w) (n : Nat) : ∃ E', bq_p E W 5 3 (.int (nI n)) = some E' ∧ zq_walk g E' W P L (w.1, n, w.2.2) ∧ zq_same E E' W (W + 5) := H.put (by omega) _ _ rfl
theorem zq_walk.p4 (H : zq_walk g E W P L w) (x : Int32) : ∃ E', bq_p E W 5 4 (.int x) = some E' ∧ zq_walk g E' W P L (w.1, w.2.1, x, w.2.2.2) ∧ zq_same E E' W (W + 5) := H.put (by omega) _ _ rfl
theorem zq_walk.p5 (H : zq_walk g E W P L w) (x : Int32) : ∃ E', bq_p E W 5 5 (.int x) = some E' ∧ zq_walk g E' W P L (w.1, w.2.1, w.2.2.1, x, w.2.2.2.2) ∧ zq_same E E' W (W + 5) := H.put (by omega) _ _ rfl
theorem zq_walk.p6 (H : zq_walk g E W P L w) (x : Int32) : ∃ E', bq_p E W 5 6 (.int x) = some E' ∧ zq_walk g E' W P L (w.1, w.2.1, w.2.2.1, w.2.2.2.1, x) ∧ zq_same E E' W (W + 5) := H.put (by omega) _ _ rfl
theorem zw_start (H : zq_walk g E W P L w) : ∃ E', tw_X5_start E W = some E' ∧ zq_walk g E' W P L zw_zero ∧ zq_same E E' W (W + 5) := by
  unfold tw_X5_start
  rw [if_pos (zq_cls H.1)]
  obtain ⟨E1, a1, H1, s1⟩ := H.p2 0
  obtain ⟨E2, a2, H2, s2⟩ := H1.p3 0
  obtain ⟨E3, a3, H3, s3⟩ := H2.p4 (-1)
  obtain ⟨E4, a4, H4, s4⟩ := H3.p5 (-1)
  obtain ⟨E5, a5, H5, s5⟩ := H4.p6 (-1)
  rw [show (0 : Int32) = nI 0 from rfl]
  simp only [a1, a2, a3, a4, a5, Option.bind_some]
  exact ⟨E5, rfl, H5, (((s1.trans s2).trans s3).trans s4).trans s5⟩
theorem zw_layPath (H : zq_walk g E W P L w) (HT : zq_tree g E T t) (ho : T + 274 ≤ W ∨ W + 5 ≤ T) {k d : Nat} (hk : k < 15) (hd : d < 15) (hdk : (t.2 k).1 3 = nI d) (hok : zw_pathok t (d + 1) k) : ∃ E', tw_X5_layPath E W T (nI k) = some E' ∧ zq_walk g E' W (zw_path t (d + 1) k []) (zw_sides t (d + 1) k []) w ∧ zq_same E E' W (W + 5) := by
  have key : ∀ (m r k : Nat) (E1 : bq_E) (P1 L1 : List Nat), r < m → r + P1.length ≤ 15 → P1.length = L1.length → k < 15 → zw_pathok t r k → zq_walk g E1 W P1 L1 w → zq_same E E1 W (W + 5) →
      ∀ y : Int32, (0 < r → y = nI k) → ∃ E2, tl_X5_layPath_28 W T m y (zt_cd r) E1 = some E2 ∧ zq_walk g E2 W (zw_path t r k P1) (zw_sides t r k L1) w ∧ zq_same E E2 W (W + 5) := by
    intro m
    induction m with
    | zero => intro r k E1 P1 L1 h; omega
    | succ m ih =>
      intro r k E1 P1 L1 hm hr hl hk hok H1 s1 y hy
      rw [tl_X5_layPath_28.eq_2]
      cases r with
      | zero =>
        rw [show zt_cd 0 = -1 from rfl, if_pos (by decide)]
        exact ⟨E1, rfl, H1, s1⟩
      | succ r =>
        rw [hy (by omega), show zt_cd (r + 1) = nI r from rfl, if_neg (nI_pos (by omega))]
        have T1 := HT.same s1 ho
        rw [zt_at T1, zt_ix_nI hk]
        simp only [Option.bind_some]
        rw [(T1.cat hk).int (k := 0) (by omega), H1.rP]
        simp only [Option.bind_some]
        obtain ⟨E2, q1, q2, q3⟩ := zn_insert H1.2.1 (by omega) (k := 0) (Nat.zero_le _) (v := k) (by omega)
        rw [show (0 : Int32) = nI 0 from rfl, q1]
        have s2 : zq_same E1 E2 W (W + 5) := q3.wide (by omega) (by omega)
        have H2 : zq_walk g E2 W (k :: P1) L1 w := ⟨(q3 W (by omega)).trans H1.1, q2, H1.2.2.same q3 (by omega)⟩
        have T2 := T1.same s2 ho
        simp only [Option.bind_some]
        rw [H2.rL, zt_at T2]
        simp only [Option.bind_some]
        rw [(T2.cat (zt_ix_lt _)).int (k := 1) (by omega)]
        simp only [Option.bind_some, bq_let]
        have hcd : nI r + -1 = zt_cd r := by
          cases r with
          | zero => decide
          | succ r => exact pk_m1 r
        have fin : ∀ b : Nat, b ≤ 2 → ∃ E3, tw_X3_insert E2 (W + 3) (nI 0) (nI b) = some E3 ∧ zq_walk g E3 W (k :: P1) (b :: L1) w ∧ zq_same E2 E3 W (W + 5) := by
          intro b hb
          obtain ⟨E3, r1, r2, r3⟩ := zn_insert H2.2.2 (by omega) (k := 0) (Nat.zero_le _) (v := b) (by omega)
          exact ⟨E3, r1, ⟨(r3 W (by omega)).trans H2.1, H2.2.1.same r3 (by omega), r2⟩, r3.wide (by omega) (by omega)⟩
        by_cases hb : (t.2 (zt_ix ((t.2 k).1 0))).1 1 = nI k
        · rw [if_pos hb]
          obtain ⟨E3, r1, r2, r3⟩ := fin 1 (by omega)
          rw [hcd, show (1 : Int32) = nI 1 from rfl, r1]
          simp only [Option.bind_some]
          obtain ⟨E4, u1, u2, u3⟩ := ih r (zt_ix ((t.2 k).1 0)) E3 (k :: P1) (1 :: L1) (by omega) (by simp; omega) (by simp; omega) (zt_ix_lt _) hok.2 r2 ((s1.trans s2).trans r3) _ hok.1
          refine ⟨E4, u1, ?_, u3⟩
          unfold zw_path zw_sides zw_side
          rw [if_pos hb]
          exact u2
        · rw [if_neg hb]
          obtain ⟨E3, r1, r2, r3⟩ := fin 2 (by omega)
          rw [show (2 : Int32) = nI 2 from rfl, r1]
          simp only [Option.bind_some]
          rw [hcd]
          obtain ⟨E4, u1, u2, u3⟩ := ih r (zt_ix ((t.2 k).1 0)) E3 (k :: P1) (2 :: L1) (by omega) (by simp; omega) (by simp; omega) (zt_ix_lt _) hok.2 r2 ((s1.trans s2).trans r3) _ hok.1
          refine ⟨E4, u1, ?_, u3⟩
          unfold zw_path zw_sides zw_side
          rw [if_neg hb]
          exact u2
  unfold tw_X5_layPath
  rw [if_pos (zq_cls H.1), H.rP]
  simp only [Option.bind_some]
  obtain ⟨E1, q1, q2, q3⟩ := zn_cut0 H.2.1
  rw [q1]
  have s1 : zq_same E E1 W (W + 5) := q3.wide (by omega) (by omega)
  have H1 : zq_walk g E1 W [] L w := ⟨(q3 W (by omega)).trans H.1, q2, H.2.2.same q3 (by omega)⟩
  simp only [Option.bind_some]
  rw [H1.rL]
  simp only [Option.bind_some]
  obtain ⟨E2, r1, r2, r3⟩ := zn_cut0 H1.2.2
  rw [r1]
  have s2 : zq_same E1 E2 W (W + 5) := r3.wide (by omega) (by omega)
  have H2 : zq_walk g E2 W [] [] w := ⟨(r3 W (by omega)).trans H1.1, H1.2.1.same r3 (by omega), r2⟩
  have T2 := HT.same (s1.trans s2) ho
  simp only [Option.bind_some]
  rw [zt_at T2, zt_ix_nI hk]
  simp only [Option.bind_some]
  rw [(T2.cat hk).int (k := 3) (by omega), hdk]
  simp only [Option.bind_some]
  exact key bq_fuel (d + 1) k E2 [] [] (bq_fuel_ge (by omega)) (by simp; omega) rfl hk hok H2 (s1.trans s2) (nI k) (fun _ => rfl)
theorem zw_halve_loop {h cap x : Nat} {xs : List Nat} (HX : zn_row g E h cap xs) (ho : h + 2 ≤ W ∨ W + 5 ≤ h) (hx : x ≤ 10001) (hlen : xs.length ≤ 1000) : ∀ (m n lo hi : Nat) (E1 : bq_E) (w1 : zq_V), n ≤ m → hi - lo < n → hi ≤ xs.length → zq_walk g E1 W P L w1 → zq_same E E1 W (W + 5) →
      lo ≤ xs.length → ∃ E2, tl_X5_halve_8 W h (nI x) m (nI lo) (nI hi) E1 = some (nI (zw_hv xs x n lo hi).1, E2) ∧ zq_walk g E2 W P L (w1.1 + (zw_hv xs x n lo hi).2, w1.2) ∧ zq_same E E2 W (W + 5) := by
  intro m
  induction m with
  | zero => intro n lo hi E1 w1 h1 h2; omega
  | succ m ih =>
    intro n lo hi E1 w1 hnm hn hhi H1 s1 hlo
    cases n with
    | zero => omega
    | succ n =>
    rw [tl_X5_halve_8.eq_2]
    unfold zw_hv
    by_cases h1 : hi ≤ lo
    · rw [if_pos (nI_le h1 (by omega)), if_pos h1]
      exact ⟨E1, rfl, H1, s1⟩
    · rw [if_neg (nI_ge (by omega) (by omega)), if_neg h1]
      simp only [bq_let]
      rw [nI_add, show (2 : Int32) = nI 2 from rfl, pk_div (by omega) (by omega) (by omega), H1.i2]
      simp only [Option.bind_some]
      obtain ⟨E2, q1, q2, q3⟩ := H1.p2 (w1.1 + 1)
      rw [nI_1, q1]
      simp only [Option.bind_some]
      rw [show (10000 : Int32) = nI 10000 from rfl, zn_at (HX.same (s1.trans q3) ho) (by omega)]
      simp only [Option.bind_some]
      have hb : xs.getD ((lo + hi) / 2) 10000 ≤ 10000 := zn_getD_le HX.2 (Nat.le_refl _) _
      by_cases h2 : xs.getD ((lo + hi) / 2) 10000 < x
      · rw [if_pos (nI_lt h2 (by omega)), if_pos h2, show (1 : Int32) = nI 1 from rfl, nI_add]
        obtain ⟨E3, r1, r2, r3⟩ := ih n ((lo + hi) / 2 + 1) hi E2 _ (by omega) (by omega) hhi q2 (s1.trans q3) (by omega)
        refine ⟨E3, r1, ?_, r3⟩
        have e : w1.1 + ((zw_hv xs x n ((lo + hi) / 2 + 1) hi).2 + 1) = w1.1 + 1 + (zw_hv xs x n ((lo + hi) / 2 + 1) hi).2 := by omega
        rw [e]
        exact r2
      · rw [if_neg (nI_nlt (by omega) (by omega)), if_neg h2]
        obtain ⟨E3, r1, r2, r3⟩ := ih n lo ((lo + hi) / 2) E2 _ (by omega) (by omega) (by omega) q2 (s1.trans q3) hlo
        refine ⟨E3, r1, ?_, r3⟩
        have e : w1.1 + ((zw_hv xs x n lo ((lo + hi) / 2)).2 + 1) = w1.1 + 1 + (zw_hv xs x n lo ((lo + hi) / 2)).2 := by omega
        rw [e]
        exact r2
theorem zw_halve (H : zq_walk g E W P L w) {h cap x : Nat} {xs : List Nat} (HX : zn_row g E h cap xs) (ho : h + 2 ≤ W ∨ W + 5 ≤ h) (hx : x ≤ 10001) : ∃ E', tw_X5_halve E W h (nI x) = some (nI (zw_hv xs x (xs.length + 1) 0 xs.length).1, E') ∧ zq_walk g E' W P L (w.1 + (zw_hv xs x (xs.length + 1) 0 xs.length).2, w.2) ∧ zq_same E E' W (W + 5) := by
  have hlen := HX.len
  have hth := HX.thou
  unfold tw_X5_halve
  rw [if_pos (zq_cls H.1), zn_size HX, show (0 : Int32) = nI 0 from rfl]
  simp only [Option.bind_some]
  exact zw_halve_loop HX ho hx (by omega) bq_fuel (xs.length + 1) 0 xs.length E w (bq_fuel_le (by omega)) (by omega) (Nat.le_refl _) H zq_same.refl (Nat.zero_le _)
theorem zn_atMn {h cap : Nat} {xs : List Nat} (HX : zn_row g E h cap xs) {e : Nat} (he : e < 2 ^ 31) : tw_X3_at E h (nI e) (-1) = some (zn_gM xs e) := by
  rw [zn_atM HX, if_neg (nI_pos he), nI_clamp he]
  rfl
theorem zw_stepBack (H : zq_walk g E W P L w) {h cap x p : Nat} {xs : List Nat} (HX : zn_row g E h cap xs) (ho : h + 2 ≤ W ∨ W + 5 ≤ h) (hx : x ≤ 10001) (hp : p ≤ 10000) : ∃ E', tw_X5_stepBack E W h (nI p) (nI x) = some (nI (zw_sb xs x p).1, E') ∧ zq_walk g E' W P L (w.1 + (zw_sb xs x p).2, w.2) ∧ zq_same E E' W (W + 5) := by
  have key : ∀ (m p : Nat) (E1 : bq_E) (w1 : zq_V), p < m → p ≤ 10000 → zq_walk g E1 W P L w1 → zq_same E E1 W (W + 5) →
      ∃ E2, tl_X5_stepBack_3 W h (nI x) (fun y1 E2 => some (y1, E2)) m (nI p) E1 = some (nI (zw_sb xs x p).1, E2) ∧ zq_walk g E2 W P L (w1.1 + (zw_sb xs x p).2, w1.2) ∧ zq_same E E2 W (W + 5) := by
    intro m
    induction m with
    | zero => intro p E1 w1 h1; omega
    | succ m ih =>
      intro p E1 w1 hm hp H1 s1
      rw [tl_X5_stepBack_3.eq_2]
      cases p with
      | zero =>
        rw [if_pos (by decide)]
        exact ⟨E1, rfl, H1, s1⟩
      | succ p =>
        rw [if_neg (nI_nle (by omega) (by omega)), H1.i2]
        simp only [Option.bind_some]
        obtain ⟨E2, q1, q2, q3⟩ := H1.p2 (w1.1 + 1)
        rw [nI_1, q1]
        simp only [Option.bind_some]
        rw [nI_pred, zn_atMn (HX.same (s1.trans q3) ho) (by omega)]
        simp only [Option.bind_some]
        unfold zw_sb
        by_cases h2 : nI x ≤ zn_gM xs p
        · rw [if_pos h2, if_pos h2]
          simp only [bq_let]
          rw [pk_m1]
          obtain ⟨E3, r1, r2, r3⟩ := ih p E2 _ (by omega) (by omega) q2 (s1.trans q3)
          refine ⟨E3, r1, ?_, r3⟩
          have e : w1.1 + ((zw_sb xs x p).2 + 1) = w1.1 + 1 + (zw_sb xs x p).2 := by omega
          rw [e]
          exact r2
        · rw [if_neg h2, if_neg h2]
          exact ⟨E2, rfl, q2, s1.trans q3⟩
  unfold tw_X5_stepBack
  rw [if_pos (zq_cls H.1)]
  exact key bq_fuel p E w (bq_fuel_ge (by omega)) hp H zq_same.refl
theorem zw_answerAt (H : zq_walk g E W P L w) (HT : zq_tree g E T t) (ho : T + 274 ≤ W ∨ W + 5 ≤ T) {k p x : Nat} (hk : k < 15) (hm : ((t.2 k).2 1).length = ((t.2 k).2 0).length) (hp : p ≤ ((t.2 k).2 0).length) (hx : x ≤ 10001) : ∃ E', tw_X5_answerAt E W T (nI k) (nI p) (nI x) = some E' ∧ zq_walk g E' W P L (zw_ans (t.2 k) k p x w) ∧ zq_same E E' W (W + 5) := by
  have C := HT.cat hk
  have hlb := C.base.len
  have hr := zn_run_le (((t.2 k).2 1).drop p)
  rw [List.length_drop] at hr
  unfold tw_X5_answerAt
  rw [if_pos (zq_cls H.1), zt_at HT, zt_ix_nI hk]
  simp only [Option.bind_some]
  rw [zc_firstUnmarked C hm hp, H.i2]
  simp only [Option.bind_some]
  rw [pk_sub (by omega), nI_add, show p + zn_run (((t.2 k).2 1).drop p) - p = zn_run (((t.2 k).2 1).drop p) by omega]
  obtain ⟨E1, a1, H1, s1⟩ := H.p2 (w.1 + zn_run (((t.2 k).2 1).drop p))
  rw [a1]
  simp only [Option.bind_some]
  have C1 := (HT.same s1 ho).cat hk
  rw [H1.i2, C1.rBuf]
  simp only [Option.bind_some]
  rw [zn_size C1.buf]
  simp only [Option.bind_some]
  rw [nI_add]
  obtain ⟨E2, a2, H2, s2⟩ := H1.p2 (w.1 + zn_run (((t.2 k).2 1).drop p) + ((t.2 k).2 2).length)
  rw [a2]
  simp only [Option.bind_some]
  have C2 := (HT.same (s1.trans s2) ho).cat hk
  rw [C2.rBase]
  simp only [Option.bind_some]
  rw [show (10000 : Int32) = nI 10000 from rfl, zn_at C2.base (by omega)]
  simp only [Option.bind_some]
  have hb : ((t.2 k).2 0).getD (p + zn_run (((t.2 k).2 1).drop p)) 10000 ≤ 10000 := zn_getD_le C.base.2 (Nat.le_refl _) _
  rw [zc_leastBuffered C2 hx (by omega)]
  simp only [Option.bind_some, bq_let]
  have hf : zn_lb x (((t.2 k).2 0).getD (p + zn_run (((t.2 k).2 1).drop p)) 10000) ((t.2 k).2 2) = zw_found (t.2 k) p x := rfl
  rw [hf]
  have hfl : zw_found (t.2 k) p x ≤ 10000 := Nat.le_trans (zn_lb_le _ _ _) hb
  unfold zw_ans
  by_cases h1 : 10000 ≤ zw_found (t.2 k) p x
  · rw [if_pos (nI_le h1 (by omega)), if_pos h1]
    obtain ⟨E3, a3, H3, s3⟩ := H2.p4 (-1)
    rw [a3]
    simp only [Option.bind_some]
    rw [H3.i4]
    simp only [Option.bind_some]
    exact ⟨E3, rfl, H3, (s1.trans s2).trans s3⟩
  · rw [if_neg (nI_ge (by omega) (by omega)), if_neg h1]
    obtain ⟨E3, a3, H3, s3⟩ := H2.p4 (nI (zw_found (t.2 k) p x))
    rw [a3]
    simp only [Option.bind_some]
    rw [H3.i4]
    simp only [Option.bind_some]
    rw [if_neg (zn_m1 hfl), H3.i5]
    simp only [Option.bind_some]
    have fin : ∃ E', ((bq_p E3 W 5 5 (.int (nI (zw_found (t.2 k) p x)))).bind fun E17 => (bq_p E17 W 5 6 (.int (nI k))).bind fun E18 => some E18) = some E' ∧ zq_walk g E' W P L (w.1 + zn_run (((t.2 k).2 1).drop p) + ((t.2 k).2 2).length, w.2.1, nI (zw_found (t.2 k) p x), nI (zw_found (t.2 k) p x), nI k) ∧ zq_same E E' W (W + 5) := by
      obtain ⟨E4, a4, H4, s4⟩ := H3.p5 (nI (zw_found (t.2 k) p x))
      obtain ⟨E5, a5, H5, s5⟩ := H4.p6 (nI k)
      simp only [a4, a5, Option.bind_some]
      exact ⟨E5, rfl, H5, (((s1.trans s2).trans s3).trans s4).trans s5⟩
    by_cases h2 : w.2.2.2.1 = -1
    · rw [if_pos h2, if_pos h2]
      exact fin
    · rw [if_neg h2, if_neg h2]
      by_cases h3 : w.2.2.2.1 ≤ nI (zw_found (t.2 k) p x)
      · rw [if_pos h3, if_pos h3]
        exact ⟨E3, rfl, H3, (s1.trans s2).trans s3⟩
      · rw [if_neg h3, if_neg h3]
        exact fin
end ZqWa
