/-! The reckoner's reads of one node. -/
def zn_tot : List Nat → Nat
  | [] => 0
  | x :: t => x + zn_tot t
def zn_enc (b : Nat) : Int32 := if b = 10000 then -1 else nI b
/-- the order of a catalog's keys -/
def zi_ord (v : zq_N) : Prop := (v.2 0).Pairwise (· < ·) ∧ (v.2 2).Nodup ∧ (∀ x ∈ v.2 2, x ∉ v.2 0) ∧ v.1 4 = nI (zn_tot (v.2 1))
theorem zn_keep_cons (x m : Nat) (t s : List Nat) : zn_keep (x :: t) (m :: s) = if m = 1 then zn_keep t s else x :: zn_keep t s := rfl
section ZqN
variable {g : bq_G} {E : bq_E} {m k : Nat} {M : zq_M} {v : zq_N}
theorem zn_gD {xs : List Nat} {i d : Nat} (h : i < xs.length) : xs.getD i d = xs[i] := by simp [List.getD, List.getElem?_eq_getElem h]
theorem zn_lb_const {x b : Nat} {ys : List Nat} (h : ∀ y ∈ ys, b ≤ y) : zn_lb x b ys = b := by
  induction ys with
  | nil => rfl
  | cons y t ih =>
    unfold zn_lb
    have := h y List.mem_cons_self
    rw [if_neg (by omega)]
    exact ih (fun z hz => h z (List.mem_cons_of_mem _ hz))
theorem zn_lb_base (x : Nat) : ∀ (b s : List Nat), b.Pairwise (· < ·) → (∀ y ∈ b, y < 10000) → s.length = b.length → zn_lb x 10000 (zn_keep b s) = b.getD (zn_fal x b + zn_run (s.drop (zn_fal x b))) 10000
  | [], s, _, _, _ => by
    cases s <;> simp [zn_keep, zn_lb]
  | c :: t, [], _, _, h => by simp at h
  | c :: t, w :: s, hp, hb, hl => by
    have hpt := (List.pairwise_cons.mp hp).2
    have hpc := (List.pairwise_cons.mp hp).1
    have ih := zn_lb_base x t s hpt (fun y hy => hb y (List.mem_cons_of_mem _ hy)) (by simpa using hl)
    have hc := hb c List.mem_cons_self
    by_cases hx : x ≤ c
    · have f0 : zn_fal x (c :: t) = 0 := by unfold zn_fal; rw [if_pos hx]
      have f1 : zn_fal x t = 0 := by
        cases t with
        | nil => rfl
        | cons d t =>
          have := hpc d List.mem_cons_self
          unfold zn_fal
          rw [if_pos (by omega)]
      rw [f0, List.drop_zero, Nat.zero_add]
      rw [f1, List.drop_zero, Nat.zero_add] at ih
      rw [zn_keep_cons]
      unfold zn_run
      by_cases hw : w = 1
      · rw [if_pos hw, if_pos hw, ih]
        simp [List.getD]
      · rw [if_neg hw, if_neg hw]
        unfold zn_lb
        rw [if_pos ⟨hx, hc⟩, zn_lb_const (fun y hy => Nat.le_of_lt (hpc y (zn_keep_mem hy)))]
        simp [List.getD]
    · have f0 : zn_fal x (c :: t) = zn_fal x t + 1 := by
        show (if x ≤ c then 0 else zn_fal x t + 1) = _
        rw [if_neg hx]
      rw [f0, List.drop_succ_cons, show zn_fal x t + 1 + zn_run (s.drop (zn_fal x t)) = (zn_fal x t + zn_run (s.drop (zn_fal x t))) + 1 by omega]
      have g1 : (c :: t).getD (zn_fal x t + zn_run (s.drop (zn_fal x t)) + 1) 10000 = t.getD (zn_fal x t + zn_run (s.drop (zn_fal x t))) 10000 := by simp [List.getD]
      rw [g1, ← ih, zn_keep_cons]
      by_cases hw : w = 1
      · rw [if_pos hw]
      · rw [if_neg hw]
        show zn_lb x (if x ≤ c ∧ c < 10000 then c else 10000) _ = _
        rw [if_neg (fun q => hx q.1)]
end ZqN
