/-! The tree's shape: parents, depths, ancestors, weights. -/
def zi_par (t : zq_T) (k : Nat) : Nat := zt_ix ((t.2 k).1 0)
def zi_shape (n : Nat) (t : zq_T) : Prop :=
  (1 ≤ n ∧ n ≤ 15) ∧ t.1 3 = nI n ∧ ((t.2 0).1 0 = -1 ∧ (t.2 0).1 3 = nI 0) ∧
  (∀ k, 0 < k → k < n → (t.2 k).1 0 = nI (zi_par t k) ∧ zi_par t k < k ∧ (t.2 k).1 3 = nI (zt_d t (zi_par t k) + 1) ∧ ((t.2 (zi_par t k)).1 1 = nI k ∨ (t.2 (zi_par t k)).1 2 = nI k)) ∧
  (∀ k s, k < n → (s = 1 ∨ s = 2) → (t.2 k).1 s = -1 ∨ ∃ c, (t.2 k).1 s = nI c ∧ c < n ∧ 0 < c ∧ zi_par t c = k) ∧
  (∀ k, k < n → (t.2 k).1 1 = (t.2 k).1 2 → (t.2 k).1 1 = -1)
theorem zi_shape.congr {n : Nat} {t u : zq_T} (h : zi_shape n t) (h3 : u.1 3 = t.1 3) (hc : ∀ k i, k < n → i < 4 → (u.2 k).1 i = (t.2 k).1 i) : zi_shape n u := by
  obtain ⟨a, b, c, d, e, f⟩ := h
  have hp : ∀ k, k < n → zi_par u k = zi_par t k := fun k hk => by unfold zi_par; rw [hc k 0 hk (by omega)]
  have hd : ∀ k, k < n → zt_d u k = zt_d t k := fun k hk => by unfold zt_d; rw [hc k 3 hk (by omega)]
  refine ⟨a, h3.trans b, ⟨(hc 0 0 (by omega) (by omega)).trans c.1, (hc 0 3 (by omega) (by omega)).trans c.2⟩, fun k h0 hk => ?_, fun k s hk hs => ?_, fun k hk => ?_⟩
  · obtain ⟨q1, q2, q3, q4⟩ := d k h0 hk
    rw [hp k hk, hd _ (by omega), hc k 0 hk (by omega), hc k 3 hk (by omega), hc _ 1 (by omega) (by omega), hc _ 2 (by omega) (by omega)]
    exact ⟨q1, q2, q3, q4⟩
  · rw [hc k s hk (by omega)]
    rcases e k s hk hs with q | ⟨x, q1, q2, q3, q4⟩
    · exact Or.inl q
    · exact Or.inr ⟨x, q1, q2, q3, (hp x q2).trans q4⟩
  · rw [hc k 1 hk (by omega), hc k 2 hk (by omega)]
    exact f k hk
section ZiS
variable {n : Nat} {t : zq_T}
theorem zi_shape.dep (h : zi_shape n t) : ∀ (m k : Nat), k < m → k < n → (t.2 k).1 3 = nI (zt_d t k) ∧ zt_d t k ≤ k := by
  intro m
  induction m with
  | zero => intro k h; omega
  | succ m ih =>
    intro k hm hk
    by_cases q : k = 0
    · subst q
      have e : (t.2 0).1 3 = nI 0 := h.2.2.1.2
      have : zt_d t 0 = 0 := by unfold zt_d; rw [e, nI_clamp (by omega)]
      rw [this]
      exact ⟨e, Nat.le_refl _⟩
    · obtain ⟨q1, q2, q3, q4⟩ := h.2.2.2.1 k (by omega) hk
      obtain ⟨p1, p2⟩ := ih (zi_par t k) (by omega) (by omega)
      have h15 := h.1.2
      have : zt_d t k = zt_d t (zi_par t k) + 1 := by
        show ((t.2 k).1 3).toNatClampNeg = _
        rw [q3, nI_clamp (by omega)]
      rw [this]
      exact ⟨q3, by omega⟩
theorem zi_shape.d3 (h : zi_shape n t) {k : Nat} (hk : k < n) : (t.2 k).1 3 = nI (zt_d t k) := (h.dep (k + 1) k (by omega) hk).1
theorem zi_shape.dle (h : zi_shape n t) {k : Nat} (hk : k < n) : zt_d t k ≤ k := (h.dep (k + 1) k (by omega) hk).2
theorem zi_shape.d15 (h : zi_shape n t) {k : Nat} (hk : k < n) : zt_d t k < 15 := by
  have := h.dle hk
  have := h.1.2
  omega
theorem zi_shape.d0 (h : zi_shape n t) : zt_d t 0 = 0 := by have := h.dle (k := 0) (by have := h.1.1; omega); omega
theorem zi_shape.dpar (h : zi_shape n t) {k : Nat} (h0 : 0 < k) (hk : k < n) : zt_d t k = zt_d t (zi_par t k) + 1 := by
  obtain ⟨q1, q2, q3, q4⟩ := h.2.2.2.1 k h0 hk
  have := h.d15 (k := zi_par t k) (by omega)
  show ((t.2 k).1 3).toNatClampNeg = _
  rw [q3, nI_clamp (by omega)]
theorem zi_shape.plt (h : zi_shape n t) {k : Nat} (h0 : 0 < k) (hk : k < n) : zi_par t k < k := (h.2.2.2.1 k h0 hk).2.1
theorem zi_shape.p0 (h : zi_shape n t) : zi_par t 0 = 0 := by
  unfold zi_par
  rw [h.2.2.1.1]
  decide
theorem zi_shape.pn (h : zi_shape n t) {k : Nat} (hk : k < n) : zi_par t k < n := by
  by_cases q : k = 0
  · subst q; rw [h.p0]; exact hk
  · have := h.plt (by omega) hk; omega
theorem zi_shape.pos (h : zi_shape n t) {k : Nat} (hk : k < n) (hd : 0 < zt_d t k) : 0 < k := by
  by_cases q : k = 0
  · subst q; rw [h.d0] at hd; omega
  · omega
theorem zi_shape.zer (h : zi_shape n t) {k : Nat} (hk : k < n) (hd : zt_d t k = 0) : k = 0 := by
  by_cases q : k = 0
  · exact q
  · have := h.dpar (by omega) hk; omega
/-- a child, or none -/
theorem zi_shape.kid (h : zi_shape n t) {k s : Nat} (hk : k < n) (hs : s = 1 ∨ s = 2) : (t.2 k).1 s = -1 ∨ ∃ c, (t.2 k).1 s = nI c ∧ c < n ∧ 0 < c ∧ zi_par t c = k ∧ zt_d t c = zt_d t k + 1 ∧ c ≠ k := by
  rcases h.2.2.2.2.1 k s hk hs with q | ⟨c, q1, q2, q3, q4⟩
  · exact Or.inl q
  · have := h.dpar q3 q2
    have h2 := h.plt q3 q2
    rw [q4] at this h2
    exact Or.inr ⟨c, q1, q2, q3, q4, this, by omega⟩
theorem zi_shape.pathok (h : zi_shape n t) : ∀ (d k : Nat), k < n → d = zt_d t k → zw_pathok t (d + 1) k := by
  intro d
  induction d with
  | zero => intro k hk hd; exact ⟨fun q => absurd q (Nat.lt_irrefl 0), True.intro⟩
  | succ d ih =>
    intro k hk hd
    have h0 := h.pos hk (by omega)
    have h1 := h.dpar h0 hk
    refine ⟨fun _ => (h.2.2.2.1 k h0 hk).1, ih (zi_par t k) (h.pn hk) (by omega)⟩
theorem zi_shape.up (h : zi_shape n t) : ∀ (d k : Nat), k < n → d = zt_d t k → zi_up t n d k := by
  intro d
  induction d with
  | zero =>
    intro k hk hd
    have := h.zer hk hd.symm
    subst this
    exact h.2.2.1.1
  | succ d ih =>
    intro k hk hd
    have h0 := h.pos hk (by omega)
    have h1 := h.dpar h0 hk
    exact ⟨h.pn hk, (h.2.2.2.1 k h0 hk).1, ih (zi_par t k) (h.pn hk) (by omega)⟩
end ZiS
/-- i steps up -/
def zi_it (t : zq_T) : Nat → Nat → Nat
  | 0, k => k
  | i + 1, k => zi_it t i (zi_par t k)
theorem zi_it_out (t : zq_T) : ∀ (i k : Nat), zi_it t (i + 1) k = zi_par t (zi_it t i k)
  | 0, _ => rfl
  | i + 1, k => zi_it_out t i (zi_par t k)
/-- j is k or an ancestor of k -/
def zi_an (t : zq_T) (j k : Nat) : Prop := zt_d t j ≤ zt_d t k ∧ zi_it t (zt_d t k - zt_d t j) k = j
def zi_in1 (t : zq_T) (j k : Nat) : Nat := if zt_d t j ≤ zt_d t k ∧ zi_it t (zt_d t k - zt_d t j) k = j then 1 else 0
/-- how many nodes lie at j or below it -/
def zi_w (t : zq_T) : Nat → Nat → Nat
  | 0, _ => 0
  | n + 1, j => zi_w t n j + zi_in1 t j n
theorem zi_in1_le (t : zq_T) (j k : Nat) : zi_in1 t j k ≤ 1 := by unfold zi_in1; split <;> omega
theorem zi_w_le (t : zq_T) (j : Nat) : ∀ n, zi_w t n j ≤ n
  | 0 => Nat.le_refl _
  | n + 1 => by
    have := zi_w_le t j n
    have := zi_in1_le t j n
    show zi_w t n j + zi_in1 t j n ≤ n + 1
    omega
theorem zi_an_self (t : zq_T) (k : Nat) : zi_an t k k := ⟨Nat.le_refl _, by rw [Nat.sub_self]; rfl⟩
theorem zi_an_par {t : zq_T} {c k j : Nat} (hd : zt_d t c = zt_d t k + 1) (hp : zi_par t c = k) (h : zi_an t c j) : zi_an t k j := by
  obtain ⟨a, b⟩ := h
  refine ⟨by omega, ?_⟩
  rw [show zt_d t j - zt_d t k = (zt_d t j - zt_d t c) + 1 by omega, zi_it_out, b, hp]
theorem zi_an_up {n : Nat} {t : zq_T} (hs : zi_shape n t) {j k : Nat} (hk : k < n) (h0 : 0 < k) (h : zi_an t j k) (hne : j ≠ k) : zi_an t j (zi_par t k) := by
  obtain ⟨a, b⟩ := h
  have h1 := hs.dpar h0 hk
  have h2 : zt_d t j ≠ zt_d t k := by
    intro q
    rw [q, Nat.sub_self] at b
    exact hne b.symm
  refine ⟨by omega, ?_⟩
  rw [show zt_d t k - zt_d t j = (zt_d t (zi_par t k) - zt_d t j) + 1 by omega] at b
  exact b
theorem zi_an_kid {n : Nat} {t : zq_T} (hs : zi_shape n t) {c k : Nat} (hd : zt_d t c = zt_d t k + 1) : ¬ zi_an t c k := fun h => by
  have := h.1
  omega
theorem zi_an_same {t : zq_T} {l r j : Nat} (hd : zt_d t l = zt_d t r) (h : zi_an t l j) (h2 : zi_an t r j) : l = r := by
  rw [← h.2, ← h2.2, hd]
theorem zi_in1_iff {t : zq_T} {j k : Nat} : (zi_in1 t j k = 1 ↔ zi_an t j k) ∧ (zi_in1 t j k = 0 ↔ ¬ zi_an t j k) := by
  unfold zi_in1 zi_an
  by_cases q : zt_d t j ≤ zt_d t k ∧ zi_it t (zt_d t k - zt_d t j) k = j
  · rw [if_pos q]; exact ⟨⟨fun _ => q, fun _ => rfl⟩, ⟨fun h => absurd h (by omega), fun h => absurd q h⟩⟩
  · rw [if_neg q]; exact ⟨⟨fun h => absurd h (by omega), fun h => absurd h q⟩, ⟨fun _ => q, fun _ => rfl⟩⟩
/-- the weight of a child, or of none -/
def zi_wk (t : zq_T) (n : Nat) (x : Int32) : Nat := if x = -1 then 0 else zi_w t n (zt_ix x)
def zi_ik (t : zq_T) (x : Int32) (j : Nat) : Nat := if x = -1 then 0 else zi_in1 t (zt_ix x) j
theorem zi_wk_succ (t : zq_T) (n : Nat) (x : Int32) : zi_wk t (n + 1) x = zi_wk t n x + zi_ik t x n := by
  unfold zi_wk zi_ik
  split
  · rfl
  · rfl
theorem zi_w_sum {N : Nat} {t : zq_T} (hs : zi_shape N t) {k : Nat} (hk : k < N) : ∀ n, n ≤ N → zi_wk t n ((t.2 k).1 1) + zi_wk t n ((t.2 k).1 2) + (if k < n then 1 else 0) ≤ zi_w t n k := by
  have kid : ∀ s, (s = 1 ∨ s = 2) → ∀ j, zi_ik t ((t.2 k).1 s) j = 0 ∨ (zi_ik t ((t.2 k).1 s) j = 1 ∧ ∃ c, (t.2 k).1 s = nI c ∧ zt_d t c = zt_d t k + 1 ∧ zi_par t c = k ∧ zi_an t c j ∧ c < N) := by
    intro s hs' j
    rcases hs.kid hk hs' with q | ⟨c, q1, q2, q3, q4, q5, q6⟩
    · left; unfold zi_ik; rw [if_pos q]
    · have h15 := hs.1.2
      unfold zi_ik
      rw [q1, if_neg (zn_m1 (by omega)), zt_ix_nI (by omega)]
      by_cases w : zi_an t c j
      · exact Or.inr ⟨zi_in1_iff.1.mpr w, c, rfl, q5, q4, w, q2⟩
      · exact Or.inl (zi_in1_iff.2.mpr w)
  intro n
  induction n with
  | zero => intro _; simp [zi_wk, zi_w]
  | succ n ih =>
    intro hn
    have h1 := ih (by omega)
    rw [zi_wk_succ, zi_wk_succ]
    show _ ≤ zi_w t n k + zi_in1 t k n
    have pt : zi_ik t ((t.2 k).1 1) n + zi_ik t ((t.2 k).1 2) n + (if k = n then 1 else 0) ≤ zi_in1 t k n := by
      rcases kid 1 (Or.inl rfl) n with a | ⟨a, c, c1, c2, c3, c4, c5⟩
      · rcases kid 2 (Or.inr rfl) n with b | ⟨b, e, e1, e2, e3, e4, e5⟩
        · rw [a, b]
          by_cases q : k = n
          · subst q
            rw [if_pos rfl, zi_in1_iff.1.mpr (zi_an_self t k)]
            omega
          · rw [if_neg q]; omega
        · have hne : k ≠ n := fun q => zi_an_kid hs (c := e) (k := k) e2 (q ▸ e4)
          rw [a, b, if_neg hne, zi_in1_iff.1.mpr (zi_an_par e2 e3 e4)]
          omega
      · have hne : k ≠ n := fun q => zi_an_kid hs (c := c) (k := k) c2 (q ▸ c4)
        rcases kid 2 (Or.inr rfl) n with b | ⟨b, e, e1, e2, e3, e4, e5⟩
        · rw [a, b, if_neg hne, zi_in1_iff.1.mpr (zi_an_par c2 c3 c4)]
          omega
        · have hce := zi_an_same (c2.trans e2.symm) c4 e4
          subst hce
          have := hs.2.2.2.2.2 k hk (c1.trans e1.symm)
          rw [c1] at this
          have h15 := hs.1.2
          exact absurd this (zn_m1 (by omega))
    have hi : (if k < n + 1 then 1 else 0) = (if k < n then 1 else 0) + (if k = n then 1 else 0) := by
      by_cases q : k < n
      · rw [if_pos q, if_pos (by omega), if_neg (by omega)]
      · by_cases q2 : k = n
        · rw [if_neg q, if_pos (by omega), if_pos q2]
        · rw [if_neg q, if_neg (by omega), if_neg q2]
    rw [hi]
    omega
theorem zi_w_kids {n : Nat} {t : zq_T} (hs : zi_shape n t) {k : Nat} (hk : k < n) : zi_wk t n ((t.2 k).1 1) + zi_wk t n ((t.2 k).1 2) + 1 ≤ zi_w t n k := by
  have := zi_w_sum hs hk n (Nat.le_refl _)
  rw [if_pos hk] at this
  exact this
/-- how long a list may be -/
def zi_F (s : Nat) : Nat := if s = 0 then 0 else if s ≤ 3 then 12 + 12 * s else if s ≤ 7 then 30 + 6 * s else 51 + 3 * s
theorem zi_F_mono {a b : Nat} (h : a ≤ b) : zi_F a ≤ zi_F b := by unfold zi_F; split <;> split <;> (try split) <;> (try split) <;> (try split) <;> (try split) <;> omega
theorem zi_F_kids {a b s : Nat} (h : a + b + 1 ≤ s) (hs : s ≤ 15) : 24 + zi_F a / 2 + zi_F b / 2 ≤ zi_F s := by
  have key : ∀ a, a < 15 → ∀ b, b < 15 → a + b < 15 → 24 + zi_F a / 2 + zi_F b / 2 ≤ zi_F (a + b + 1) := by decide +kernel
  exact Nat.le_trans (key a (by omega) b (by omega) (by omega)) (zi_F_mono h)
theorem zi_F_96 {s : Nat} (hs : s ≤ 15) : zi_F s ≤ 96 := Nat.le_trans (zi_F_mono hs) (by decide)
theorem zi_it_congr {t u : zq_T} {n : Nat} (hp : ∀ k, k < n → zi_par u k = zi_par t k) (hn : ∀ k, k < n → zi_par t k < n) : ∀ (i k : Nat), k < n → zi_it u i k = zi_it t i k
  | 0, _, _ => rfl
  | i + 1, k, hk => by
    show zi_it u i (zi_par u k) = zi_it t i (zi_par t k)
    rw [hp k hk, zi_it_congr hp hn i _ (hn k hk)]
theorem zi_in1_congr {t u : zq_T} {n : Nat} (hs : zi_shape n t) (hc : ∀ k, k < n → (u.2 k).1 0 = (t.2 k).1 0 ∧ (u.2 k).1 3 = (t.2 k).1 3) {j k : Nat} (hj : j < n) (hk : k < n) : zi_in1 u j k = zi_in1 t j k := by
  have hp : ∀ k, k < n → zi_par u k = zi_par t k := fun k hk => by unfold zi_par; rw [(hc k hk).1]
  have hd : ∀ k, k < n → zt_d u k = zt_d t k := fun k hk => by unfold zt_d; rw [(hc k hk).2]
  unfold zi_in1
  rw [hd j hj, hd k hk, zi_it_congr hp (fun k hk => hs.pn hk) _ k hk]
theorem zi_w_congr {t u : zq_T} {N : Nat} (hs : zi_shape N t) (hc : ∀ k, k < N → (u.2 k).1 0 = (t.2 k).1 0 ∧ (u.2 k).1 3 = (t.2 k).1 3) {j : Nat} (hj : j < N) : ∀ n, n ≤ N → zi_w u n j = zi_w t n j
  | 0, _ => rfl
  | n + 1, h => by
    show zi_w u n j + zi_in1 u j n = zi_w t n j + zi_in1 t j n
    rw [zi_w_congr hs hc hj n (by omega), zi_in1_congr hs hc hj (by omega)]
