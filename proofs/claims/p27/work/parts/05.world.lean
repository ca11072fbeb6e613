/-! The world of all cells that the law has made: L the addresses, E what lies at each; every contract speaks of the whole of it. -/
abbrev bq_E : Type := Nat → va_E
/-- the classes' numbers and slots; the classes of int[], (none), Catalog[], Tree[] -/
abbrev bq_G : Type := va_G × ClassId × ClassId × ClassId × ClassId
def bq_tys (g : bq_G) : List (ClassId × FieldType) := [(g.2.1, .int), (g.2.1, .int), (g.2.2.2.1, .object RX0), (g.2.2.2.2, .object RX4)]
def bq_ok (g : bq_G) (e : va_E) : Prop := match e with
  | .inl (c, n, .inl _) => c = g.2.1 ∧ n < 2147483648
  | .inl (_, _, .inr (.inl _)) => False
  | .inl (c, n, .inr (.inr (.inr (.inr _)))) => (c = g.2.2.2.1 ∨ c = g.2.2.2.2) ∧ n < 2147483648
  | .inl (_, _, .inr (.inr (.inl _))) => False
  | .inl (_, _, .inr (.inr (.inr (.inl _)))) => False
  | .inr _ => True
def bq_okE (g : bq_G) (L : List Nat) (E : bq_E) : Prop := (∀ a, a ∈ L → bq_ok g (E a)) ∧ ∀ a, a ∉ L → E a = .inr (99, [])
def bq_A (z : Nat) : Nat → Prop := fun q => z ≤ q
/-- the world, and what has changed since the method's entry -/
def bq_H (g : bq_G) (L : List Nat) (E : bq_E) (z : Nat) (H0 H : Heap) (locs : List Loc) : Prop :=
  va_P g.1 vwCl (va_pl L E) H ∧ va_D (bq_A z) (va_pl L E) ∧ bq_okE g L E ∧ va_S (bq_A z) H0 H locs
def bq_U (g : bq_G) (L : List Nat) (E : bq_E) (z : Nat) (U : State) : Prop :=
  z ≤ U.heap.size ∧ va_P g.1 vwCl (va_pl L E) U.heap ∧ va_D (bq_A z) (va_pl L E) ∧ bq_okE g L E ∧ va_K g.1 vwCl (bq_tys g) U
def bq_Q (g : bq_G) (L : List Nat) (E : bq_E) (z : Nat) (v : Option Value) : Array Value → State → Outcome → State → Prop :=
  fun _ st oc t => (oc = .returned v ∧ bq_U g L E z t) ∧ va_F (bq_A z) st t
/-- the exception X leaves, the world is as E says -/
def bq_X (g : bq_G) (L : List Nat) (E : bq_E) (z : Nat) (X : String) : String → State → State → Prop :=
  fun Y st t => Y = X ∧ bq_U g L E z t ∧ va_F (bq_A z) st t
/-- all words of the tables that hold for any caller -/
def bq_WA : List Cond := lw_tbl.filter goodWord
def bq_ws (y : MethodName) (cc : ByteArray) (maxL : Nat) (ret : Option FieldType) : List Cond := .code y cc maxL ret :: bq_WA
theorem bq_wi {w : Cond} (i : Nat) (h : lw_tbl[i]? = some w) (hg : goodWord w = true) : w ∈ bq_WA := List.mem_filter.mpr ⟨List.mem_of_getElem? h, hg⟩
theorem bq_good {ws : List Cond} (h : ∀ w ∈ ws, w ∈ bq_WA) : GoodIn bq_WA ws := fun w hw => ⟨h w hw, good_of_word (List.mem_filter.mp (h w hw)).2⟩
theorem bq_hts {args : Array Value} {s : State} {w0 : Cond} (h : ∀ w ∈ w0 :: bq_WA, w.before args s = true) : ∀ w ∈ bq_WA, w.before args s = true := fun w hw => h w (List.mem_cons_of_mem _ hw)
-- what a twin may do with the world
def bq_fv (E : bq_E) (a ci k : Nat) : Option Value := match E a with
  | .inr (c, fs) => if c = ci then fs[k]? else none
  | .inl _ => none
def bq_fi (E : bq_E) (a ci k : Nat) : Option Int32 := match bq_fv E a ci k with
  | some (.int v) => some v
  | _ => none
def bq_fl (E : bq_E) (a ci k : Nat) : Option Int64 := match bq_fv E a ci k with
  | some (.long v) => some v
  | _ => none
def bq_fr (E : bq_E) (a ci k : Nat) : Option Nat := match bq_fv E a ci k with
  | some (.ref v) => some v
  | _ => none
def bq_p (E : bq_E) (a ci k : Nat) (v : Value) : Option bq_E := match E a with
  | .inr (c, fs) => if c = ci ∧ k < fs.length then some (va_up E a (.inr (c, fs.set k v))) else none
  | .inl _ => none
def bq_len (E : bq_E) (a : Nat) : Option Int32 := match E a with
  | .inl (_, n, _) => some (Int32.ofNat n)
  | .inr _ => none
def bq_ai (E : bq_E) (a : Nat) (i : Int32) : Option Int32 := match E a with
  | .inl (_, n, .inl f) => if i < 0 ∨ n ≤ i.toNatClampNeg then none else some (f i.toNatClampNeg)
  | _ => none
def bq_si (E : bq_E) (a : Nat) (i v : Int32) : Option bq_E := match E a with
  | .inl (c, n, .inl f) => if i < 0 ∨ n ≤ i.toNatClampNeg then none else some (va_up E a (.inl (c, n, .inl (upd f i.toNatClampNeg v))))
  | _ => none
def bq_al (E : bq_E) (a : Nat) (i : Int32) : Option Int64 := match E a with
  | .inl (_, n, .inr (.inl f)) => if i < 0 ∨ n ≤ i.toNatClampNeg then none else some (f i.toNatClampNeg)
  | _ => none
def bq_sl (E : bq_E) (a : Nat) (i : Int32) (v : Int64) : Option bq_E := match E a with
  | .inl (c, n, .inr (.inl f)) => if i < 0 ∨ n ≤ i.toNatClampNeg then none else some (va_up E a (.inl (c, n, .inr (.inl (vp_updL f i.toNatClampNeg v)))))
  | _ => none
def bq_ar (E : bq_E) (a : Nat) (i : Int32) : Option (Option Nat) := match E a with
  | .inl (_, n, .inr (.inr (.inr (.inr f)))) => if i < 0 ∨ n ≤ i.toNatClampNeg then none else some (f i.toNatClampNeg)
  | _ => none
def bq_cp (E : bq_E) (a : Nat) (i : Int32) (b : Nat) (j n : Int32) : Option bq_E := match E a, E b with
  | .inl (_, n0, .inl f), .inl (c, n1, .inl h) => if i < 0 ∨ j < 0 ∨ n < 0 ∨ n0 < i.toNatClampNeg + n.toNatClampNeg ∨ n1 < j.toNatClampNeg + n.toNatClampNeg then none else some (va_up E b (.inl (c, n1, .inl (va_cpy f h i.toNatClampNeg j.toNatClampNeg n.toNatClampNeg))))
  | _, _ => none
def bq_cls (E : bq_E) (a : Nat) : Nat := match E a with
  | .inr (c, _) => c
  | .inl _ => 100
def bq_b (b : Bool) : Int32 := if b then 1 else 0
def bq_let {α : Type} {β : Type} (e : α) (f : α → β) : β := f e
def bq_fuel : Nat := 1000000
-- the rows of the twins' own words
theorem bq_bind {α β : Type} {x : Option α} {f : α → Option β} {r : β} (h : x.bind f = some r) : ∃ v, x = some v ∧ f v = some r := by
  cases x with
  | none => cases h
  | some v => exact ⟨v, rfl, h⟩
theorem bq_letE {α β : Type} {e y : α} {f : α → Option β} {r : β} (e1 : y = e) (h : bq_let e f = some r) : f y = some r := by rw [e1]; exact h
theorem bq_ifT {α : Type} {c : Prop} [Decidable c] {x y r : α} (hc : c) (h : (if c then x else y) = r) : x = r := by rw [if_pos hc] at h; exact h
theorem bq_ifF {α : Type} {c : Prop} [Decidable c] {x y r : α} (hc : ¬ c) (h : (if c then x else y) = r) : y = r := by rw [if_neg hc] at h; exact h
theorem bq_guard {α : Type} {c : Prop} [Decidable c] {x : Option α} {r : α} (h : (if c then x else none) = some r) : c ∧ x = some r := by
  by_cases hc : c
  · rw [if_pos hc] at h; exact ⟨hc, h⟩
  · rw [if_neg hc] at h; cases h
theorem bq_b01 (b : Bool) : narrow .boolean (.int (bq_b b)) = .int (bq_b b) := by cases b <;> rfl
section BqKeep
variable {g : bq_G} {L : List Nat} {E : bq_E} {z : Nat} {H0 H : Heap} {locs : List Loc} {a : Nat}
theorem bq_inL (hk : bq_okE g L E) {e : va_E} (h : E a = e) (hne : e ≠ .inr (99, [])) : a ∈ L := by
  by_cases ha : a ∈ L
  · exact ha
  · exact absurd (h.symm.trans (hk.2 a ha)) hne
theorem bq_at {e : va_E} (hk : bq_okE g L E) (h : E a = e) (hne : e ≠ .inr (99, [])) : ∃ k : Nat, (va_pl L E)[k]? = some (a, e) := by
  obtain ⟨k, hk⟩ := va_pl_get (X := []) (f := E) (bq_inL hk h hne)
  exact ⟨k, by rw [← h]; exact hk⟩
theorem bq_set (hk : bq_okE g L E) (hD : va_D (bq_A z) (va_pl L E)) {e e' : va_E} (h : E a = e) (hne : e ≠ .inr (99, [])) {k : Nat} (hq : (va_pl L E)[k]? = some (a, e)) : (va_pl L E).set k (a, e') = va_pl L (va_up E a e') := by
  have := va_pl_set (X := []) (e := e') hD (bq_inL hk h hne) (k := k) (by rw [h]; exact hq)
  simpa using this
theorem bq_okup (hk : bq_okE g L E) {e : va_E} (ha : a ∈ L) (he : bq_ok g e) : bq_okE g L (va_up E a e) := by
  refine ⟨fun b hb => ?_, fun b hb => ?_⟩
  · by_cases h : b = a
    · subst h; rw [va_up_self]; exact he
    · rw [va_up_ne _ _ h]; exact hk.1 b hb
  · rw [va_up_ne _ _ (fun h : b = a => hb (h ▸ ha))]; exact hk.2 b hb
theorem bq_fvE {ci k : Nat} {v : Value} (h : bq_fv E a ci k = some v) : ∃ fs, E a = .inr (ci, fs) ∧ fs[k]? = some v := by
  unfold bq_fv at h
  split at h
  · rename_i c fs he
    split at h
    · rename_i hc; subst hc; exact ⟨fs, he, h⟩
    · cases h
  · cases h
theorem bq_fiE {ci k : Nat} {v : Int32} (h : bq_fi E a ci k = some v) : bq_fv E a ci k = some (.int v) := by
  unfold bq_fi at h
  split at h
  · rename_i w hw; rw [hw]; cases h; rfl
  · cases h
theorem bq_flE {ci k : Nat} {v : Int64} (h : bq_fl E a ci k = some v) : bq_fv E a ci k = some (.long v) := by
  unfold bq_fl at h
  split at h
  · rename_i w hw; rw [hw]; cases h; rfl
  · cases h
theorem bq_frE {ci k : Nat} {v : Nat} (h : bq_fr E a ci k = some v) : bq_fv E a ci k = some (.ref v) := by
  unfold bq_fr at h
  split at h
  · rename_i w hw; rw [hw]; cases h; rfl
  · cases h
theorem bq_pE {ci k : Nat} {v : Value} {E' : bq_E} (h : bq_p E a ci k v = some E') : ∃ fs, E a = .inr (ci, fs) ∧ k < fs.length ∧ E' = va_up E a (.inr (ci, fs.set k v)) := by
  unfold bq_p at h
  split at h
  · rename_i c fs he
    split at h
    · rename_i hc; obtain ⟨rfl, hl⟩ := hc; cases h; exact ⟨fs, he, hl, rfl⟩
    · cases h
  · cases h
theorem bq_lenE {v : Int32} (h : bq_len E a = some v) : ∃ c x, E a = .inl (c, x) ∧ Int32.ofNat x.1 = v := by
  unfold bq_len at h
  split at h
  · rename_i c n x he; cases h; exact ⟨c, (n, x), he, rfl⟩
  · cases h
theorem bq_aiE {i v : Int32} (h : bq_ai E a i = some v) : ∃ c n f, E a = .inl (c, n, .inl f) ∧ vp_in i n ∧ v = f i.toNatClampNeg := by
  unfold bq_ai at h
  split at h
  · rename_i c n f he
    split at h
    · cases h
    · rename_i hc; cases h; exact ⟨c, n, f, he, hc, rfl⟩
  · cases h
theorem bq_siE {i v : Int32} {E' : bq_E} (h : bq_si E a i v = some E') : ∃ c n f, E a = .inl (c, n, .inl f) ∧ vp_in i n ∧ E' = va_up E a (.inl (c, n, .inl (upd f i.toNatClampNeg v))) := by
  unfold bq_si at h
  split at h
  · rename_i c n f he
    split at h
    · cases h
    · rename_i hc; cases h; exact ⟨c, n, f, he, hc, rfl⟩
  · cases h
theorem bq_alE {i : Int32} {v : Int64} (h : bq_al E a i = some v) : ∃ c n f, E a = .inl (c, n, .inr (.inl f)) ∧ vp_in i n ∧ v = f i.toNatClampNeg := by
  unfold bq_al at h
  split at h
  · rename_i c n f he
    split at h
    · cases h
    · rename_i hc; cases h; exact ⟨c, n, f, he, hc, rfl⟩
  · cases h
theorem bq_slE {i : Int32} {v : Int64} {E' : bq_E} (h : bq_sl E a i v = some E') : ∃ c n f, E a = .inl (c, n, .inr (.inl f)) ∧ vp_in i n ∧ E' = va_up E a (.inl (c, n, .inr (.inl (vp_updL f i.toNatClampNeg v)))) := by
  unfold bq_sl at h
  split at h
  · rename_i c n f he
    split at h
    · cases h
    · rename_i hc; cases h; exact ⟨c, n, f, he, hc, rfl⟩
  · cases h
theorem bq_arE {i : Int32} {v : Option Nat} (h : bq_ar E a i = some v) : ∃ c n f, E a = .inl (c, n, .inr (.inr (.inr (.inr f)))) ∧ vp_in i n ∧ v = f i.toNatClampNeg := by
  unfold bq_ar at h
  split at h
  · rename_i c n f he
    split at h
    · cases h
    · rename_i hc; cases h; exact ⟨c, n, f, he, hc, rfl⟩
  · cases h
theorem bq_cpE {i j n : Int32} {b : Nat} {E' : bq_E} (h : bq_cp E a i b j n = some E') : ∃ c0 n0 f c1 n1 f1, E a = .inl (c0, n0, .inl f) ∧ E b = .inl (c1, n1, .inl f1) ∧ ¬ i < 0 ∧ ¬ j < 0 ∧ ¬ n < 0 ∧ i.toNatClampNeg + n.toNatClampNeg ≤ n0 ∧ j.toNatClampNeg + n.toNatClampNeg ≤ n1 ∧ E' = va_up E b (.inl (c1, n1, .inl (va_cpy f f1 i.toNatClampNeg j.toNatClampNeg n.toNatClampNeg))) := by
  unfold bq_cp at h
  split at h
  · rename_i c0 n0 f c1 n1 f1 he he1
    split at h
    · cases h
    · rename_i hc
      cases h
      exact ⟨c0, n0, f, c1, n1, f1, he, he1, fun q => hc (Or.inl q), fun q => hc (Or.inr (Or.inl q)), fun q => hc (Or.inr (Or.inr (Or.inl q))), Nat.not_lt.mp fun q => hc (Or.inr (Or.inr (Or.inr (Or.inl q)))), Nat.not_lt.mp fun q => hc (Or.inr (Or.inr (Or.inr (Or.inr q)))), rfl⟩
  · cases h
theorem bq_clsE {ci : Nat} (h : bq_cls E a = ci) (hc : ci < 99) : ∃ fs, E a = .inr (ci, fs) := by
  unfold bq_cls at h
  split at h
  · rename_i c fs he; exact ⟨fs, by rw [he, h]⟩
  · omega
end BqKeep
def bq_opt {α : Type} (o : Option Nat) (x : α) (f : Nat → α) : α := match o with
  | none => x
  | some v => f v
def bq_elim {α β : Type} (o : α ⊕ String) (f : α → β) (g : String → β) : β := match o with
  | .inl v => f v
  | .inr v => g v
theorem bq_optN {α : Type} {x r : α} {f : Nat → α} (h : bq_opt none x f = r) : x = r := h
theorem bq_optS {α : Type} {x r : α} {f : Nat → α} {v : Nat} (h : bq_opt (some v) x f = r) : f v = r := h
theorem bq_elimL {α β : Type} {f : α → β} {g : String → β} {v : α} {r : β} (h : bq_elim (.inl v) f g = r) : f v = r := h
theorem bq_elimR {α β : Type} {f : α → β} {g : String → β} {v : String} {r : β} (h : bq_elim (.inr v) f g = r) : g v = r := h
theorem bq_letK {α β : Type} {e : α} {f : α → β} {r : β} (h : bq_let e f = r) : ∃ k, k = e ∧ f k = r := ⟨e, rfl, h⟩
theorem bq_kap1 {α β : Type} {k f : α → β} {x : α} {r : β} (e : k = f) (h : k x = r) : f x = r := e ▸ h
theorem bq_kap2 {α β γ : Type} {k f : α → β → γ} {x : α} {y : β} {r : γ} (e : k = f) (h : k x y = r) : f x y = r := e ▸ h
theorem bq_kap3 {α β γ δ : Type} {k f : α → β → γ → δ} {x : α} {y : β} {w : γ} {r : δ} (e : k = f) (h : k x y w = r) : f x y w = r := e ▸ h
theorem bq_kap4 {α β γ δ ε : Type} {k f : α → β → γ → δ → ε} {x : α} {y : β} {w : γ} {v : δ} {r : ε} (e : k = f) (h : k x y w v = r) : f x y w v = r := e ▸ h
theorem bq_kap5 {α β γ δ ε ζ : Type} {k f : α → β → γ → δ → ε → ζ} {x : α} {y : β} {w : γ} {v : δ} {u : ε} {r : ζ} (e : k = f) (h : k x y w v u = r) : f x y w v u = r := e ▸ h
theorem bq_pairE {α : Type} {x : Option (α × bq_E)} {v : α × bq_E} {q : α} (hq : v.1 = q) (h : x = some v) : x = some (q, v.2) := by rw [h, ← hq]
theorem bq_inW {C : String} {T : u_T} {N : Nat} (h : (u_ws C T N).all (fun w => decide (w ∈ lw_tbl) && goodWord w) = true) : ∀ w ∈ u_ws C T N, w ∈ bq_WA := by
  intro w hw
  have h1 := List.all_eq_true.mp h w hw
  simp only [Bool.and_eq_true, decide_eq_true_eq] at h1
  exact List.mem_filter.mpr h1
