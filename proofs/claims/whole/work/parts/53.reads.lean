/-! The reckoner's reads of one node. -/
def zm_has (g : bq_G) (E : bq_E) (m : Nat) (M : zq_M) (k : Nat) (v : zq_N) : Prop := zq_mod g E m M ∧ k < 15 ∧ zm_node (M.1 1) k v ∧ zi_cat v
def zn_tot : List Nat → Nat
  | [] => 0
  | x :: t => x + zn_tot t
def zn_enc (b : Nat) : Int32 := if b = 10000 then -1 else nI b
/-- the order of a catalog's keys -/
def zi_ord (v : zq_N) : Prop := (v.2 0).Pairwise (· < ·) ∧ (v.2 2).Nodup ∧ (∀ x ∈ v.2 2, x ∉ v.2 0) ∧ v.1 4 = nI (zn_tot (v.2 1))
theorem zn_keep_cons (x m : Nat) (t s : List Nat) : zn_keep (x :: t) (m :: s) = if m = 1 then zn_keep t s else x :: zn_keep t s := rfl
section ZqN
variable {g : bq_G} {E : bq_E} {m k : Nat} {M : zq_M} {v : zq_N}
theorem zm_o0 (H : zm_has g E m M k v) : tw_X7_of E m (nI k) 0 = some (v.1 0) := by
  rw [show (0 : Int32) = nI 0 from rfl, zm_of H.1 H.2.1 (by omega)]
  exact congrArg some H.2.2.1.1.1
theorem zm_o1 (H : zm_has g E m M k v) : tw_X7_of E m (nI k) 1 = some (v.1 1) := by
  rw [show (1 : Int32) = nI 1 from rfl, zm_of H.1 H.2.1 (by omega)]
  exact congrArg some H.2.2.1.1.2.1
theorem zm_o2 (H : zm_has g E m M k v) : tw_X7_of E m (nI k) 2 = some (v.1 2) := by
  rw [show (2 : Int32) = nI 2 from rfl, zm_of H.1 H.2.1 (by omega)]
  exact congrArg some H.2.2.1.1.2.2
theorem zm_o3 (H : zm_has g E m M k v) : tw_X7_of E m (nI k) 3 = some (nI (v.2 0).length) := by
  rw [show (3 : Int32) = nI 3 from rfl, zm_of H.1 H.2.1 (by omega)]
  exact congrArg some H.2.2.1.2.1.1
theorem zm_o52 (H : zm_has g E m M k v) : tw_X7_of E m (nI k) 52 = some (nI (v.2 2).length) := by
  rw [show (52 : Int32) = nI 52 from rfl, zm_of H.1 H.2.1 (by omega)]
  exact congrArg some H.2.2.1.2.2.1.1
theorem zm_o61 (H : zm_has g E m M k v) : tw_X7_of E m (nI k) 61 = some (nI (v.2 3).length) := by
  rw [show (61 : Int32) = nI 61 from rfl, zm_of H.1 H.2.1 (by omega)]
  exact congrArg some H.2.2.1.2.2.2.1.1
theorem zm_oB (H : zm_has g E m M k v) {i : Nat} (hi : i < (v.2 0).length) : tw_X7_of E m (nI k) (4 + nI i) = some (nI ((v.2 0).getD i 0)) := by
  have := H.2.2.2.1.2
  rw [show (4 : Int32) = nI 4 from rfl, nI_add, zm_of H.1 H.2.1 (by omega), ← H.2.2.1.2.1.2.1 i hi]
  exact congrArg (fun a => some (M.1 1 a)) (by unfold zm_at; omega)
theorem zm_oM (H : zm_has g E m M k v) {i : Nat} (hi : i < (v.2 0).length) : tw_X7_of E m (nI k) (28 + nI i) = some (nI ((v.2 1).getD i 0)) := by
  have := H.2.2.2.1
  rw [show (28 : Int32) = nI 28 from rfl, nI_add, zm_of H.1 H.2.1 (by omega), ← H.2.2.1.2.1.2.2 i (by omega)]
  exact congrArg (fun a => some (M.1 1 a)) (by unfold zm_at; omega)
theorem zm_oF (H : zm_has g E m M k v) {i : Nat} (hi : i < (v.2 2).length) : tw_X7_of E m (nI k) (53 + nI i) = some (nI ((v.2 2).getD i 0)) := by
  have := H.2.2.2.2.1
  rw [show (53 : Int32) = nI 53 from rfl, nI_add, zm_of H.1 H.2.1 (by omega), ← H.2.2.1.2.2.1.2 i hi]
  exact congrArg (fun a => some (M.1 1 a)) (by unfold zm_at; omega)
theorem zm_oK (H : zm_has g E m M k v) {i : Nat} (hi : i < (v.2 3).length) : tw_X7_of E m (nI k) (62 + nI i) = some (nI ((v.2 3).getD i 0)) := by
  have := H.2.2.2.2.2.1.2
  rw [show (62 : Int32) = nI 62 from rfl, nI_add, zm_of H.1 H.2.1 (by omega), ← H.2.2.1.2.2.2.1.2.1 i hi]
  exact congrArg (fun a => some (M.1 1 a)) (by unfold zm_at; omega)
theorem zm_oO (H : zm_has g E m M k v) {i : Nat} (hi : i < (v.2 3).length) : tw_X7_of E m (nI k) (158 + nI i) = some (nI ((v.2 4).getD i 0)) := by
  have := H.2.2.2.2.2.1
  rw [show (158 : Int32) = nI 158 from rfl, nI_add, zm_of H.1 H.2.1 (by omega), ← H.2.2.1.2.2.2.1.2.2 i (by omega)]
  exact congrArg (fun a => some (M.1 1 a)) (by unfold zm_at; omega)
theorem zm_oR (H : zm_has g E m M k v) {i j : Nat} (hj : j < 3) (hi : i < (v.2 3).length + 1) : tw_X7_of E m (nI k) ((254 + 3 * nI i) + nI j) = some (nI ((v.2 (5 + j)).getD i 0)) := by
  have h5 := H.2.2.2.2.2.1.2
  have h6 := H.2.2.2.2.2.2.1 j hj
  rw [show (254 : Int32) = nI 254 from rfl, show (3 : Int32) = nI 3 from rfl, pk_mul, nI_add, nI_add, zm_of H.1 H.2.1 (by omega), ← H.2.2.1.2.2.2.2 j hj i (by omega)]
  exact congrArg (fun a => some (M.1 1 a)) (by unfold zm_at; omega)
theorem zn_gD {xs : List Nat} {i d : Nat} (h : i < xs.length) : xs.getD i d = xs[i] := by simp [List.getD, List.getElem?_eq_getElem h]
theorem zm_marked (H : zm_has g E m M k v) : tw_X7_marked E m (nI k) = some (nI (zn_tot (v.2 1))) := by
  have hl := H.2.2.2.1
  have key : ∀ (n i a : Nat), (v.2 1).length - i < n → i ≤ (v.2 1).length → tl_X7_marked_4 E m (nI k) n (nI a) (nI i) = some (nI (a + zn_tot ((v.2 1).drop i))) := by
    intro n
    induction n with
    | zero => intro i a h; omega
    | succ n ih =>
      intro i a hn hi
      rw [tl_X7_marked_4.eq_2, zm_o3 H]
      simp only [Option.bind_some]
      by_cases h : i < (v.2 1).length
      · rw [if_neg (nI_ge (by omega) (by omega)), zm_oM H (by omega)]
        simp only [Option.bind_some, bq_let]
        rw [nI_add, nI_1, ih (i + 1) _ (by omega) (by omega), List.drop_eq_getElem_cons h, zn_gD h]
        show _ = some (nI (a + ((v.2 1)[i] + zn_tot ((v.2 1).drop (i + 1)))))
        rw [Nat.add_assoc]
      · rw [if_pos (nI_le (by omega) (by omega)), List.drop_of_length_le (by omega)]
        rfl
  unfold tw_X7_marked
  rw [if_pos (zq_cls H.1.1)]
  have := key bq_fuel 0 0 (bq_fuel_ge (by omega)) (Nat.zero_le _)
  rw [List.drop_zero, Nat.zero_add] at this
  exact this
theorem zm_keys (H : zm_has g E m M k v) (ho : zi_ord v) : tw_X7_keys E m (nI k) = some (zc_count v) := by
  unfold tw_X7_keys
  rw [if_pos (zq_cls H.1.1), zm_o3 H]
  simp only [Option.bind_some]
  rw [zm_marked H]
  simp only [Option.bind_some]
  rw [zm_o52 H]
  simp only [Option.bind_some]
  unfold zc_count
  rw [ho.2.2.2]
theorem zm_inBase (H : zm_has g E m M k v) (ho : zi_ord v) {key : Nat} (hk : key ≤ 10000) : tw_X7_inBase E m (nI k) (nI key) = some (if key ∈ v.2 0 then nI (zn_pos key (v.2 0)) else -1) := by
  have hl := H.2.2.2.1.2
  have hb := H.2.2.2.2.2.2.2.1
  have key : ∀ (n i : Nat) (x : Int32), (v.2 0).length - i < n → i ≤ (v.2 0).length → tl_X7_inBase_5 E m (nI k) (nI key) n x (nI i) = some (if key ∈ (v.2 0).drop i then nI (i + zn_pos key ((v.2 0).drop i)) else x) := by
    intro n
    induction n with
    | zero => intro i x h; omega
    | succ n ih =>
      intro i x hn hi
      rw [tl_X7_inBase_5.eq_2, zm_o3 H]
      simp only [Option.bind_some]
      by_cases h : i < (v.2 0).length
      · rw [if_neg (nI_ge (by omega) (by omega)), zm_oB H h]
        simp only [Option.bind_some, bq_let, nI_1]
        rw [zn_gD h, List.drop_eq_getElem_cons h]
        have hlt : (v.2 0)[i] < 10000 := hb _ (List.getElem_mem h)
        have e : nI (v.2 0)[i] = nI key ↔ (v.2 0)[i] = key := nI_inj (by omega) hk
        have hnd : ∀ y ∈ (v.2 0).drop (i + 1), (v.2 0)[i] < y := by
          have := ho.1
          have h2 : ((v.2 0).drop i).Pairwise (· < ·) := this.sublist (List.drop_sublist _ _)
          rw [List.drop_eq_getElem_cons h] at h2
          exact (List.pairwise_cons.mp h2).1
        by_cases q : (v.2 0)[i] = key
        · rw [if_pos (e.mpr q), ih (i + 1) _ (by omega) (by omega)]
          have h1 : key ∉ (v.2 0).drop (i + 1) := fun hm => by have := hnd key hm; omega
          rw [if_neg h1, if_pos (by rw [q]; exact List.mem_cons_self)]
          unfold zn_pos
          rw [if_pos q]
          rfl
        · rw [if_neg (fun w => q (e.mp w)), ih (i + 1) _ (by omega) (by omega)]
          by_cases h1 : key ∈ (v.2 0).drop (i + 1)
          · rw [if_pos h1, if_pos (List.mem_cons_of_mem _ h1)]
            show _ = some (nI (i + (if (v.2 0)[i] = key then 0 else zn_pos key ((v.2 0).drop (i + 1)) + 1)))
            rw [if_neg q, show i + 1 + zn_pos key ((v.2 0).drop (i + 1)) = i + (zn_pos key ((v.2 0).drop (i + 1)) + 1) by omega]
          · rw [if_neg h1, if_neg (fun w => (List.mem_cons.mp w).elim (fun w => q w.symm) h1)]
      · rw [if_pos (nI_le (by omega) (by omega)), List.drop_of_length_le (by omega)]
        rfl
  unfold tw_X7_inBase
  rw [if_pos (zq_cls H.1.1)]
  have := key bq_fuel 0 (-1) (bq_fuel_ge (by omega)) (Nat.zero_le _)
  rw [List.drop_zero, Nat.zero_add] at this
  exact this
theorem zm_inBuffer (H : zm_has g E m M k v) (ho : zi_ord v) {key : Nat} (hk : key ≤ 10000) : tw_X7_inBuffer E m (nI k) (nI key) = some (if key ∈ v.2 2 then nI (zn_pos key (v.2 2)) else -1) := by
  have hl := H.2.2.2.2.1
  have hb := H.2.2.2.2.2.2.2.2.2.1
  have key : ∀ (n i : Nat) (x : Int32), (v.2 2).length - i < n → i ≤ (v.2 2).length → tl_X7_inBuffer_5 E m (nI k) (nI key) n x (nI i) = some (if key ∈ (v.2 2).drop i then nI (i + zn_pos key ((v.2 2).drop i)) else x) := by
    intro n
    induction n with
    | zero => intro i x h; omega
    | succ n ih =>
      intro i x hn hi
      rw [tl_X7_inBuffer_5.eq_2, zm_o52 H]
      simp only [Option.bind_some]
      by_cases h : i < (v.2 2).length
      · rw [if_neg (nI_ge (by omega) (by omega)), zm_oF H h]
        simp only [Option.bind_some, bq_let, nI_1]
        rw [zn_gD h, List.drop_eq_getElem_cons h]
        have hlt : (v.2 2)[i] < 10000 := hb _ (List.getElem_mem h)
        have e : nI (v.2 2)[i] = nI key ↔ (v.2 2)[i] = key := nI_inj (by omega) hk
        have hnd : ∀ y ∈ (v.2 2).drop (i + 1), (v.2 2)[i] ≠ y := by
          have h2 : ((v.2 2).drop i).Nodup := List.Nodup.sublist (List.drop_sublist _ _) ho.2.1
          rw [List.drop_eq_getElem_cons h] at h2
          exact fun y hy hq => (List.nodup_cons.mp h2).1 (hq ▸ hy)
        by_cases q : (v.2 2)[i] = key
        · rw [if_pos (e.mpr q), ih (i + 1) _ (by omega) (by omega)]
          have h1 : key ∉ (v.2 2).drop (i + 1) := fun hm => hnd key hm q
          rw [if_neg h1, if_pos (by rw [q]; exact List.mem_cons_self)]
          unfold zn_pos
          rw [if_pos q]
          rfl
        · rw [if_neg (fun w => q (e.mp w)), ih (i + 1) _ (by omega) (by omega)]
          by_cases h1 : key ∈ (v.2 2).drop (i + 1)
          · rw [if_pos h1, if_pos (List.mem_cons_of_mem _ h1)]
            show _ = some (nI (i + (if (v.2 2)[i] = key then 0 else zn_pos key ((v.2 2).drop (i + 1)) + 1)))
            rw [if_neg q, show i + 1 + zn_pos key ((v.2 2).drop (i + 1)) = i + (zn_pos key ((v.2 2).drop (i + 1)) + 1) by omega]
          · rw [if_neg h1, if_neg (fun w => (List.mem_cons.mp w).elim (fun w => q w.symm) h1)]
      · rw [if_pos (nI_le (by omega) (by omega)), List.drop_of_length_le (by omega)]
        rfl
  unfold tw_X7_inBuffer
  rw [if_pos (zq_cls H.1.1)]
  have := key bq_fuel 0 (-1) (bq_fuel_ge (by omega)) (Nat.zero_le _)
  rw [List.drop_zero, Nat.zero_add] at this
  exact this
theorem zm_hasKey (H : zm_has g E m M k v) (ho : zi_ord v) {key : Nat} (hk : key ≤ 10000) : tw_X7_has E m (nI k) (nI key) = some (zc_has v key) := by
  have hl := H.2.2.2.1
  have hlf := H.2.2.2.2.1
  unfold tw_X7_has
  rw [if_pos (zq_cls H.1.1), zm_inBase H ho hk]
  simp only [Option.bind_some, bq_let]
  rw [zm_inBuffer H ho hk]
  simp only [Option.bind_some]
  have hbuf : (if (if key ∈ v.2 2 then nI (zn_pos key (v.2 2)) else -1) = (-1 : Int32) then some false else some true) = some (decide (key ∈ v.2 2)) := by
    by_cases h : key ∈ v.2 2
    · have := zn_pos_lt h
      rw [if_pos h, if_neg (zn_m1 (by omega)), decide_eq_true h]
    · rw [if_neg h, if_pos rfl, decide_eq_false h]
  rw [hbuf]
  unfold zc_has
  by_cases h : key ∈ v.2 0
  · have hp := zn_pos_lt h
    rw [if_pos h, if_neg (zn_m1 (by omega)), zm_oM H hp]
    simp only [Option.bind_some]
    have hmk : (v.2 1).getD (zn_pos key (v.2 0)) 0 = 0 ∨ (v.2 1).getD (zn_pos key (v.2 0)) 0 = 1 := by
      rw [zn_gD (by omega)]
      exact H.2.2.2.2.2.2.2.2.1 _ (List.getElem_mem _)
    rcases hmk with q | q
    · rw [q, if_pos (show nI 0 = 0 from rfl), decide_eq_true h]
      rfl
    · rw [q, if_neg (show ¬ nI 1 = 0 by decide), decide_eq_true h]
      rfl
  · rw [if_neg h, if_pos rfl]
    simp [h]
theorem zn_lb_const {x b : Nat} {ys : List Nat} (h : ∀ y ∈ ys, b ≤ y) : zn_lb x b ys = b := by
  induction ys with
  | nil => rfl
  | cons y t ih =>
    unfold zn_lb
    have := h y List.mem_cons_self
    rw [if_neg (by omega)]
    exact ih (fun z hz => h z (List.mem_cons_of_mem _ hz))
theorem zn_lb_base (x : Nat) : ∀ (b s : List Nat), b.Pairwise (· < ·) → (∀ y ∈ b, y < 10000) → s.length = b.length → zn_lb x 10000 (zn_keep b s) = b.getD (zn_fal x b + zn_run (s.drop (zn_fal x b))) 10000
  | [], s, _, _, _ => by
    cases s <;> simp [zn_keep, zn_lb]
  | c :: t, [], _, _, h => by simp at h
  | c :: t, w :: s, hp, hb, hl => by
    have hpt := (List.pairwise_cons.mp hp).2
    have hpc := (List.pairwise_cons.mp hp).1
    have ih := zn_lb_base x t s hpt (fun y hy => hb y (List.mem_cons_of_mem _ hy)) (by simpa using hl)
    have hc := hb c List.mem_cons_self
    by_cases hx : x ≤ c
    · have f0 : zn_fal x (c :: t) = 0 := by unfold zn_fal; rw [if_pos hx]
      have f1 : zn_fal x t = 0 := by
        cases t with
        | nil => rfl
        | cons d t =>
          have := hpc d List.mem_cons_self
          unfold zn_fal
          rw [if_pos (by omega)]
      rw [f0, List.drop_zero, Nat.zero_add]
      rw [f1, List.drop_zero, Nat.zero_add] at ih
      rw [zn_keep_cons]
      unfold zn_run
      by_cases hw : w = 1
      · rw [if_pos hw, if_pos hw, ih]
        simp [List.getD]
      · rw [if_neg hw, if_neg hw]
        unfold zn_lb
        rw [if_pos ⟨hx, hc⟩, zn_lb_const (fun y hy => Nat.le_of_lt (hpc y (zn_keep_mem hy)))]
        simp [List.getD]
    · have f0 : zn_fal x (c :: t) = zn_fal x t + 1 := by
        show (if x ≤ c then 0 else zn_fal x t + 1) = _
        rw [if_neg hx]
      rw [f0, List.drop_succ_cons, show zn_fal x t + 1 + zn_run (s.drop (zn_fal x t)) = (zn_fal x t + zn_run (s.drop (zn_fal x t))) + 1 by omega]
      have g1 : (c :: t).getD (zn_fal x t + zn_run (s.drop (zn_fal x t)) + 1) 10000 = t.getD (zn_fal x t + zn_run (s.drop (zn_fal x t))) 10000 := by simp [List.getD]
      rw [g1, ← ih, zn_keep_cons]
      by_cases hw : w = 1
      · rw [if_pos hw]
      · rw [if_neg hw]
        show zn_lb x (if x ≤ c ∧ c < 10000 then c else 10000) _ = _
        rw [if_neg (fun q => hx q.1)]
theorem zm_next (H : zm_has g E m M k v) (ho : zi_ord v) {x : Nat} (hx : x ≤ 10001) : tw_X7_next E m (nI k) (nI x) = some (zn_enc (zc_next v x)) := by
  have hl := H.2.2.2.1
  have hlf := H.2.2.2.2.1
  have hb := H.2.2.2.2.2.2.2.1
  have hbf := H.2.2.2.2.2.2.2.2.2.1
  have stepI : ∀ (y b : Nat) (R : Int32 → Option Int32), y < 10000 → b ≤ 10000 →
      (if nI y < nI x then R (zn_enc b) else if zn_enc b = (-1 : Int32) then R (nI y) else if zn_enc b ≤ nI y then R (zn_enc b) else R (nI y)) = R (zn_enc (if x ≤ y ∧ y < b then y else b)) := by
    intro y b R hy hbb
    by_cases h1 : y < x
    · rw [if_pos (nI_lt h1 (by omega)), if_neg (by omega)]
    · rw [if_neg (nI_nlt (by omega) (by omega))]
      by_cases h2 : b = 10000
      · subst h2
        rw [show zn_enc 10000 = -1 from rfl, if_pos rfl, if_pos (by omega)]
        unfold zn_enc
        rw [if_neg (by omega)]
      · have e : zn_enc b = nI b := by unfold zn_enc; rw [if_neg h2]
        rw [e, if_neg (zn_m1 hbb)]
        by_cases h3 : b ≤ y
        · rw [if_pos (nI_le h3 (by omega)), if_neg (by omega), e]
        · rw [if_neg (nI_ge (by omega) (by omega)), if_pos (by omega)]
          unfold zn_enc
          rw [if_neg (by omega)]
  have key5 : ∀ (K : Int32 → Int32 → Option Int32) (n i b : Nat), (v.2 0).length - i < n → i ≤ (v.2 0).length → b ≤ 10000 → ∃ y, tl_X7_next_5 E m (nI k) (nI x) K n (zn_enc b) (nI i) = K (zn_enc (zn_lb x b (zn_keep ((v.2 0).drop i) ((v.2 1).drop i)))) y := by
    intro K n
    induction n with
    | zero => intro i b h; omega
    | succ n ih =>
      intro i b hn hi hbb
      rw [tl_X7_next_5.eq_2, zm_o3 H]
      simp only [Option.bind_some]
      by_cases h : i < (v.2 0).length
      · have h1 : i < (v.2 1).length := by omega
        rw [if_neg (nI_ge (by omega) (by omega)), zm_oB H h]
        simp only [Option.bind_some]
        rw [zm_oM H h]
        simp only [Option.bind_some, bq_let, nI_1]
        rw [zn_gD h, zn_gD h1, List.drop_eq_getElem_cons h, List.drop_eq_getElem_cons h1]
        have hlt : (v.2 0)[i] < 10000 := hb _ (List.getElem_mem h)
        rw [zn_keep_cons]
        rcases H.2.2.2.2.2.2.2.2.1 _ (List.getElem_mem h1) with q | q
        · rw [q, if_pos (show nI 0 = 0 from rfl), if_neg (show ¬ (0 : Nat) = 1 by omega)]
          rw [stepI _ b (fun a => tl_X7_next_5 E m (nI k) (nI x) K n a (nI (i + 1))) hlt hbb]
          exact ih (i + 1) _ (by omega) (by omega) (by split <;> omega)
        · rw [q, if_neg (show ¬ nI 1 = 0 by decide), if_pos (show (1 : Nat) = 1 from rfl)]
          exact ih (i + 1) b (by omega) (by omega) hbb
      · rw [if_pos (nI_le (by omega) (by omega)), List.drop_of_length_le (by omega)]
        exact ⟨nI i, by simp [zn_keep, zn_lb]⟩
  have key73 : ∀ (n i b : Nat), (v.2 2).length - i < n → i ≤ (v.2 2).length → b ≤ 10000 → tl_X7_next_73 E m (nI k) (nI x) n (zn_enc b) (nI i) = some (zn_enc (zn_lb x b ((v.2 2).drop i))) := by
    intro n
    induction n with
    | zero => intro i b h; omega
    | succ n ih =>
      intro i b hn hi hbb
      rw [tl_X7_next_73.eq_2, zm_o52 H]
      simp only [Option.bind_some]
      by_cases h : i < (v.2 2).length
      · rw [if_neg (nI_ge (by omega) (by omega)), zm_oF H h]
        simp only [Option.bind_some, bq_let, nI_1]
        rw [zn_gD h, List.drop_eq_getElem_cons h]
        have hlt : (v.2 2)[i] < 10000 := hbf _ (List.getElem_mem h)
        rw [stepI _ b (fun a => tl_X7_next_73 E m (nI k) (nI x) n a (nI (i + 1))) hlt hbb]
        exact ih (i + 1) _ (by omega) (by omega) (by split <;> omega)
      · rw [if_pos (nI_le (by omega) (by omega)), List.drop_of_length_le (by omega)]
        rfl
  unfold tw_X7_next
  rw [if_pos (zq_cls H.1.1)]
  obtain ⟨y, e⟩ := key5 (fun y1 y2 => tl_X7_next_73 E m (nI k) (nI x) bq_fuel y1 (0 : Int32)) bq_fuel 0 10000 (bq_fuel_ge (by omega)) (Nat.zero_le _) (Nat.le_refl _)
  rw [show (-1 : Int32) = zn_enc 10000 from rfl, show (0 : Int32) = nI 0 from rfl]
  refine Eq.trans e ?_
  rw [List.drop_zero, List.drop_zero, zn_lb_base x _ _ ho.1 hb hl.1]
  have hle : (v.2 0).getD (zn_fal x (v.2 0) + zn_run ((v.2 1).drop (zn_fal x (v.2 0)))) 10000 ≤ 10000 := zn_getD_le (fun y hy => Nat.le_of_lt (hb y hy)) (Nat.le_refl _) _
  have := key73 bq_fuel 0 _ (bq_fuel_ge (by omega)) (Nat.zero_le _) hle
  rw [List.drop_zero] at this
  exact this
end ZqN
