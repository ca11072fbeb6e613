/-! Constructors: the addresses z, z + 1 .. are taken one after another. -/
def bq_L (z n : Nat) : List Nat := List.range' z (n - z)
theorem bq_inLr {z n a : Nat} : a ∈ bq_L z n ↔ z ≤ a ∧ a < n := by
  unfold bq_L
  rw [List.mem_range'_1]
  omega
theorem bq_Lsucc {z n : Nat} (h : z ≤ n) : bq_L z (n + 1) = bq_L z n ++ [n] := by
  unfold bq_L
  rw [show n + 1 - z = (n - z) + 1 by omega, List.range'_concat]
  congr 2
  omega
def bq_isN (w : Cond) : Bool := match w with
  | .methodLinkNest _ _ _ _ => true
  | .arrayOver (.object _) => true
  | _ => false
def bq_TN (U : State) : Prop := ∀ w ∈ lw_tbl, bq_isN w = true → va_Nw w U
theorem bq_TN.warm {s U : State} (h : bq_TN s) (hw : s.WarmedH U.vm) : bq_TN U := by
  intro w hm hb
  have h5 := h w hm hb
  cases w with
  | methodLinkNest _ _ _ _ => exact va_Nw.warmM hw h5
  | arrayOver t => cases t <;> first | exact va_AO.moved hw.alike h5 | exact absurd hb (by simp [bq_isN])
  | _ => exact absurd hb (by simp [bq_isN])
theorem bq_TN.same {s U : State} (h : bq_TN s) (hv : s.vm = U.vm) : bq_TN U := by
  intro w hm hb
  have h5 := h w hm hb
  cases w with
  | methodLinkNest _ _ _ _ => exact va_Nw.same rfl hv h5
  | arrayOver t => cases t <;> first | exact va_AO.moved (hv ▸ Vm.Alike.refl _) h5 | exact absurd hb (by simp [bq_isN])
  | _ => exact absurd hb (by simp [bq_isN])
def bq_UC (g : bq_G) (E : bq_E) (z n : Nat) (U : State) : Prop := bq_U g (bq_L z n) E z U ∧ U.heap.size = n ∧ bq_TN U
def bq_MC (l : Launch) (y : MethodName) (cc : ByteArray) (maxL fr lo N ms : Nat) (As : List Value) (g : bq_G) (E : bq_E) (z n : Nat) (E' : bq_E) : Prop :=
  Met l y (bq_ws y cc maxL none) { frames := fr, cells := N, slots := ms, locals := lo } (va_Pc As (bq_UC g E z n)) (bq_Q g (bq_L z (n + N)) E' z none) N ms (bq_A z)
theorem bq_blindC {As : List Value} {g : bq_G} {E : bq_E} {z n : Nat} : FrameBlind (va_Pc As (bq_UC g E z n)) := by
  intro a U f mk q
  obtain ⟨rfl, ⟨q1, q2, q3, q4, q5⟩, q6, q7⟩ := q
  exact ⟨rfl, ⟨q1, q2, q3, q4, va_K.moved (u := U) (U := U.calling f mk As.toArray) (Vm.Alike.refl U.vm) q5⟩, q6, q7.same (U := U.calling f mk As.toArray) rfl⟩
theorem bq_enterC {l : Launch} {y : MethodName} {cc : ByteArray} {maxL fr lo N ms : Nat} {As : List Value} {g : bq_G} {E : bq_E} {z n : Nat} {E' : bq_E} (hy : plainName y.cls = true) (hn : (lg_sl As).length ≤ maxL)
    (body : ∀ (p : Program) (e : Env) (s : State) (m : MethodId) (args : Array Value) (below : List Frame) (meth : Method) (c : Code), CallFix p m c cc maxL s args bq_WA y.cls → meth.sig.returnType = none → meth.locks = false → (y.name = "<init>" → meth.name = "<init>") → va_K g.1 vwCl (bq_tys g) s → z ≤ n → s.heap.size = n → bq_TN s → bq_H g (bq_L z n) E z s.heap s.heap [] → ∀ ls : Array Slot, lv_has ls maxL (lv_args 0 As) →
      W p l e { frames := fr, cells := N, slots := ms, locals := lo } s m args below meth c s.heap [] 0 0 (MQ below (bq_Q g (bq_L z (n + N)) E' z none) args s N ms (bq_A z)) (F0 m 0 ls [])) :
    bq_MC l y cc maxL fr lo N ms As g E z n E' := by
  refine Met.ofW (cc := cc) (maxL := maxL) (ret := none) (ws' := bq_WA) hy rfl ?_
  intro p e s m args below meth c s₁ B hml hv
  obtain ⟨rfl, ⟨hz, hP, hD, hO, hK⟩, hsz, hN⟩ := hv
  have hts := bq_hts (atoms_spec (ws := bq_ws y cc maxL none) B.pre)
  have hl := lv_entry As (n := maxL) hn
  rw [lg_entry_eq]
  exact body p e s m As.toArray below meth c ⟨B.exec, B.bytes, hml, findClass_of_methodNamed B.named, hts⟩ B.returns B.notSynchronized (fun h => (name_of_methodNamed B.named B.method).1.trans h) hK (by rw [← hsz]; exact hz) hsz hN ⟨hP, hD, hO, va_S.rf⟩ _ hl
/-- a final field of the class of the method -/
def bq_FF (own : String) (index ci k : Nat) (ty : FieldType) : Prop := ∃ (C : String) (T : u_T) (N : Nat) (ty0 : Nat → FieldType), vwCl[ci]? = some (C, T, N) ∧ k < N ∧ (∀ w ∈ u_ws C T N, w ∈ bq_WA) ∧ Cond.fieldLink own index (T k).1 (T k).2.1 (T k).2.2.1 ∈ bq_WA ∧ (∀ k, k < N → parseFieldDescriptor (T k).2.2.1 = some (ty0 k)) ∧ (∀ a, a < N → ∀ b, b < N → a ≠ b → (T a).2.1 ≠ (T b).2.1) ∧ (T k).2.2.2 = true ∧ (T k).1 = own ∧ parseFieldDescriptor (T k).2.2.1 = some ty
/-- what a constructor's twin may do besides -/
def bq_sr (g : bq_G) (E : bq_E) (a : Nat) (i : Int32) (v ci : Nat) : Option bq_E := match E a with
  | .inl (c, n, .inr (.inr (.inr (.inr f)))) => if bq_cls E v = ci ∧ ((ci = 0 ∧ c = g.2.2.2.1) ∨ (ci = 4 ∧ c = g.2.2.2.2)) ∧ ¬ (i < 0 ∨ n ≤ i.toNatClampNeg) then some (va_up E a (.inl (c, n, .inr (.inr (.inr (.inr (va_up f i.toNatClampNeg (some v)))))))) else none
  | _ => none
section BqC
variable {p : Program} {l : Launch} {e : Env} {R : Room} {s : State} {m : MethodId} {args : Array Value} {below : List Frame} {meth : Method} {c : Code} {H : Heap} {locs : List Loc} {cells slots : Nat} {Q : State → Prop}
variable {cc cc' : ByteArray} {nL pc maxL fr lo N ms : Nat} {own : String} {ls : Array Slot} {st rest As : List Value} {g : bq_G} {L : List Nat} {E E' : bq_E} {z n : Nat} {a b ci k index : Nat} {y : MethodName} {H0 : Heap}
theorem bq_size {f : JFrame} (kk : H.size ≤ s.heap.size + cells → W p l e R s m args below meth c H locs cells slots Q f) : W p l e R s m args below meth c H locs cells slots Q f := by
  intro T hT X
  have h := X.same.2.2.1
  have h2 : T.heap.size ≤ s.heap.size + cells := h
  rw [hT] at h2
  exact kk h2 T hT X
theorem bq_lo (hW : bq_H g (bq_L z n) E z s.heap H locs) (hz : z ≤ s.heap.size) : n ≤ H.size := by
  by_cases h : z < n
  · have hm : n - 1 ∈ bq_L z n := bq_inLr.mpr ⟨by omega, by omega⟩
    obtain ⟨k, hk⟩ := va_pl_get (X := []) (f := E) hm
    have := (hW.1 k _ hk).lt
    dsimp only at this
    omega
  · have := hW.2.2.2.1
    omega
theorem bq_okpush (hO : bq_okE g (bq_L z n) E) (hzn : z ≤ n) {x : va_E} (hx : bq_ok g x) : bq_okE g (bq_L z (n + 1)) (va_up E n x) := by
  refine ⟨fun q hq => ?_, fun q hq => ?_⟩
  · by_cases h : q = n
    · subst h; rw [va_up_self]; exact hx
    · rw [va_up_ne _ _ h]
      refine hO.1 q (bq_inLr.mpr ?_)
      have := bq_inLr.mp hq
      omega
  · have h : q ≠ n := fun h => hq (bq_inLr.mpr (by omega))
    rw [va_up_ne _ _ h]
    refine hO.2 q (fun h2 => hq (bq_inLr.mpr ?_))
    have := bq_inLr.mp h2
    omega
theorem bq_push {H1 : Heap} {q : Nat} {x : va_E} (hz : z ≤ s.heap.size) (hzn : z ≤ n) (hO : bq_okE g (bq_L z n) E) (hx : bq_ok g x) (hn : n = s.heap.size + cells) (h1 : va_P g.1 vwCl (va_pl (bq_L z n) E ++ [(q, x)]) H1) (h2 : va_D (bq_A z) (va_pl (bq_L z n) E ++ [(q, x)])) (h3 : va_S (bq_A z) s.heap H1 locs) (hs : H1.size ≤ s.heap.size + (cells + 1)) : q = n ∧ bq_H g (bq_L z (n + 1)) (va_up E n x) z s.heap H1 locs := by
  have hq : q ∉ bq_L z n := va_pl_fresh2 (X := []) h2
  have hk : (va_pl (bq_L z n) E ++ [(q, x)])[(va_pl (bq_L z n) E).length]? = some (q, x) := by simp
  have l1 := (h1 _ _ hk).lt
  have l2 := h2.2 _ _ hk
  have l3 : z ≤ q := l2
  dsimp only at l1
  have hqn : q = n := by
    by_cases h : q < n
    · exact absurd (bq_inLr.mpr ⟨l3, h⟩) hq
    · omega
  subst hqn
  rw [va_pl_push hq, ← bq_Lsucc hzn] at h1 h2
  exact ⟨rfl, h1, h2, bq_okpush hO hzn hx, h3⟩
theorem bq_newO (S : CallFix p m c cc nL s args bq_WA own) (hK : va_K g.1 vwCl (bq_tys g) s) (hz : z ≤ s.heap.size) (hzn : z ≤ n) (hn : n = s.heap.size + cells) {C : String} {T : u_T} {N1 : Nat} (hc : vwCl[ci]? = some (C, T, N1)) (hin : ∀ w ∈ u_ws C T N1, w ∈ bq_WA) (ty : Nat → FieldType) (hty : ∀ k, k < N1 → parseFieldDescriptor (T k).2.2.1 = some (ty k)) (w1 : Cond.classLink own index C ∈ bq_WA) (w2 : Cond.instantiable C N1 ∈ bq_WA) (w3 : Cond.initialized C ∈ bq_WA)
    (hdg : decode cc pc = .ok (.new index, 3)) {fs : List Value} (hfs : ∀ j, j < N1 → defaultValue (ty j) = vp_V fs j) (hcs : cells + 1 ≤ R.cells ∧ slots + N1 ≤ R.slots) (hW : bq_H g (bq_L z n) E z s.heap H locs)
    (kk : ∀ (H1 : Heap) (locs1 : List Loc), bq_H g (bq_L z (n + 1)) (va_up E n (.inr (ci, fs))) z s.heap H1 locs1 → W p l e R s m args below meth c H1 locs1 (cells + 1) (slots + N1) Q (F0 m (pc + 3) ls (.ref n :: rest))) : W p l e R s m args below meth c H locs cells slots Q (F0 m pc ls rest) := by
  obtain ⟨hx, hb, -, hown, hts⟩ := S
  refine va_new hx hb hts hin ty hty hown (hts _ w1) (hts _ w2) (hts _ w3) hK hW.1 hW.2.1 hW.2.2.2 (fun q h => Nat.le_trans hz h) hc hfs hcs.1 hcs.2 hdg (fun q H1 h1 h2 h3 => bq_size fun hs => ?_)
  obtain ⟨rfl, hW1⟩ := bq_push hz hzn hW.2.2.1 (x := .inr (ci, fs)) trivial hn h1 h2 h3 hs
  exact kk H1 locs hW1
theorem bq_newI (S : CallFix p m c cc nL s args bq_WA own) (hK : va_K g.1 vwCl (bq_tys g) s) (hz : z ≤ s.heap.size) (hzn : z ≤ n) (hn : n = s.heap.size + cells) (w1 : Cond.arrayClass .int ∈ bq_WA) (hdg : decode cc pc = .ok (.newarray .int, 2)) {x : Int32} {k : Nat} (hx0 : ¬ x < 0) (hk : x.toNatClampNeg = k) (hk2 : k ≤ 100000) (hcs : cells + 1 ≤ R.cells ∧ slots + k ≤ R.slots) (hW : bq_H g (bq_L z n) E z s.heap H locs)
    (kk : ∀ (H1 : Heap) (locs1 : List Loc), bq_H g (bq_L z (n + 1)) (va_up E n (.inl (g.2.1, k, .inl (fun _ => 0)))) z s.heap H1 locs1 → W p l e R s m args below meth c H1 locs1 (cells + 1) (slots + k) Q (F0 m (pc + 2) ls (.ref n :: rest))) : W p l e R s m args below meth c H locs cells slots Q (F0 m pc ls (.int x :: rest)) := by
  obtain ⟨hx, hb, -, hown, hts⟩ := S
  refine va_newa (atype := .int) (ty := .int) (a0 := (k, .inl (fun _ => 0))) (N' := k) hx hb (hts _ w1) rfl hK hW.1 hW.2.1 hW.2.2.2 (fun q h => Nat.le_trans hz h) (fun cA => rfl) hx0 hk (by show k * 4 ≤ _; omega) hcs.1 hcs.2 hdg (fun q cA H1 hK1 h1 h2 h3 => bq_size fun hs => ?_)
  have e1 : cA = g.2.1 := by
    have r1 := (hK1.2 4 (cA, .int) rfl).2
    have r2 := (hK.2 0 (g.2.1, .int) rfl).2
    exact Option.some.inj (r1.symm.trans r2)
  subst e1
  obtain ⟨rfl, hW1⟩ := bq_push hz hzn hW.2.2.1 (x := .inl (g.2.1, k, .inl (fun _ => 0))) ⟨rfl, by omega⟩ hn h1 h2 h3 hs
  exact kk H1 locs hW1
theorem bq_newQ (S : CallFix p m c cc nL s args bq_WA own) (hK : va_K g.1 vwCl (bq_tys g) s) (hz : z ≤ s.heap.size) (hzn : z ≤ n) (hn : n = s.heap.size + cells) {C : String} (w1 : Cond.classLink own index C ∈ bq_WA) (w2 : va_AO C s) {cA0 : ClassId} (t0 : Nat) (ht : (bq_tys g)[t0]? = some (cA0, .object C)) (hc0 : cA0 = g.2.2.2.1 ∨ cA0 = g.2.2.2.2) (hdg : decode cc pc = .ok (.anewarray index, 3)) {x : Int32} {k : Nat} (hx0 : ¬ x < 0) (hk : x.toNatClampNeg = k) (hk2 : k ≤ 100000) (hcs : cells + 1 ≤ R.cells ∧ slots + k ≤ R.slots) (hW : bq_H g (bq_L z n) E z s.heap H locs)
    (kk : ∀ (H1 : Heap) (locs1 : List Loc), bq_H g (bq_L z (n + 1)) (va_up E n (.inl (cA0, k, .inr (.inr (.inr (.inr (fun _ => none))))))) z s.heap H1 locs1 → W p l e R s m args below meth c H1 locs1 (cells + 1) (slots + k) Q (F0 m (pc + 3) ls (.ref n :: rest))) : W p l e R s m args below meth c H locs cells slots Q (F0 m pc ls (.int x :: rest)) := by
  obtain ⟨hx, hb, -, hown, hts⟩ := S
  refine va_newq (N' := k) hx hb hown (hts _ w1) w2 hK hW.1 hW.2.1 hW.2.2.2 (fun q h => Nat.le_trans hz h) hx0 hk (by omega) hcs.1 hcs.2 hdg (fun q cA H1 hK1 h1 h2 h3 => bq_size fun hs => ?_)
  have e1 : cA = cA0 := by
    obtain ⟨kA, comp, -, -, -, r1⟩ := (hK1.2 4 (cA, .object C) rfl).2
    obtain ⟨kA2, comp2, -, -, -, r2⟩ := (hK.2 t0 _ ht).2
    exact Option.some.inj (r1.symm.trans r2)
  subst e1
  obtain ⟨rfl, hW1⟩ := bq_push hz hzn hW.2.2.1 (x := .inl (cA, k, .inr (.inr (.inr (.inr (fun _ => none)))))) ⟨hc0, by omega⟩ hn h1 h2 h3 hs
  exact kk H1 locs hW1
theorem bq_putF (S : CallFix p m c cc nL s args bq_WA own) (hK : va_K g.1 vwCl (bq_tys g) s) (hin2 : meth.name = "<init>") {ty : FieldType} (F : bq_FF own index ci k ty) (hdg : decode cc pc = .ok (.putfield index, 3)) {v : Value} (hn : narrow ty v = v) (hfit : fits ty v = true) (hv : bq_p E a ci k v = some E') (hW : bq_H g L E z H0 H locs)
    (kk : ∀ (H1 : Heap) (locs1 : List Loc), bq_H g L E' z H0 H1 locs1 → W p l e R s m args below meth c H1 locs1 cells slots Q (F0 m (pc + 3) ls rest)) : W p l e R s m args below meth c H locs cells slots Q (F0 m pc ls (v :: .ref a :: rest)) := by
  obtain ⟨hx, hb, -, hown, hts⟩ := S
  obtain ⟨C, T, N, ty0, hc, hk, hin, hl, hty, hnm, hfin, hdecl, hd⟩ := F
  obtain ⟨fs, hE, hf, rfl⟩ := bq_pE hv
  have hne : (.inr (ci, fs) : va_E) ≠ .inr (99, []) := fun h => by have := congrArg (fun e : va_E => match e with | .inr (c, _) => c | .inl _ => 100) h; dsimp only at this; subst this; simp [vwCl] at hc
  obtain ⟨q0, hq⟩ := bq_at hW.2.2.1 hE hne
  refine va_putF hx hb hts hin ty0 hty hnm hown hK hW.1 hW.2.1 hW.2.2.2 q0 hq hc k hk (hts _ hl) (fun _ h => h) hfin hin2 hdecl hd hn hfit hf hdg (fun H1 locs1 h1 h2 h3 => kk H1 locs1 ?_)
  rw [bq_set hW.2.2.1 hW.2.1 hE hne hq] at h1 h2
  exact ⟨h1, h2, bq_okup hW.2.2.1 (bq_inL hW.2.2.1 hE hne) trivial, h3⟩
theorem bq_aast (S : CallFix p m c cc nL s args bq_WA own) (hK : va_K g.1 vwCl (bq_tys g) s) (hci : ci = 0 ∨ ci = 4) (hdg : decode cc pc = .ok (.aastore, 1)) {i : Int32} {v : Nat} (hv : bq_sr g E a i v ci = some E') (hW : bq_H g L E z H0 H locs)
    (kk : ∀ (H1 : Heap) (locs1 : List Loc), bq_H g L E' z H0 H1 locs1 → W p l e R s m args below meth c H1 locs1 cells slots Q (F0 m (pc + 1) ls rest)) : W p l e R s m args below meth c H locs cells slots Q (F0 m pc ls (.ref v :: .int i :: .ref a :: rest)) := by
  obtain ⟨hx, hb, -, hown, hts⟩ := S
  unfold bq_sr at hv
  split at hv
  · rename_i cA n f hE
    split at hv
    · rename_i hh
      obtain ⟨hcv, hcc, hin⟩ := hh
      cases hv
      have hc9 : ci < 99 := by omega
      obtain ⟨vs, hEv⟩ := bq_clsE hcv hc9
      obtain ⟨q0, hq⟩ := bq_at hW.2.2.1 hE bq_inlne
      obtain ⟨q1, hq1⟩ := bq_at hW.2.2.1 hEv (fun h => by have := congrArg (fun e : va_E => match e with | .inr (c, _) => c | .inl _ => 100) h; dsimp only at this; omega)
      have haL := bq_inL hW.2.2.1 hE bq_inlne
      have ho := hW.2.2.1.1 a haL
      rw [hE] at ho
      rcases hcc with ⟨rfl, hcA⟩ | ⟨rfl, hcA⟩
      · refine va_astq hx hb hK hW.1 hW.2.1 hW.2.2.2 q0 2 q1 0 (r := (RX0, TX0, 9)) hq (by rw [hcA]; rfl) hq1 rfl hin hdg (fun H1 locs1 h1 h2 h3 => kk H1 locs1 ?_)
        rw [bq_set hW.2.2.1 hW.2.1 hE bq_inlne hq] at h1 h2
        exact ⟨h1, h2, bq_okup hW.2.2.1 haL ho, h3⟩
      · refine va_astq hx hb hK hW.1 hW.2.1 hW.2.2.2 q0 3 q1 4 (r := (RX4, TX4, 11)) hq (by rw [hcA]; rfl) hq1 rfl hin hdg (fun H1 locs1 h1 h2 h3 => kk H1 locs1 ?_)
        rw [bq_set hW.2.2.1 hW.2.1 hE bq_inlne hq] at h1 h2
        exact ⟨h1, h2, bq_okup hW.2.2.1 haL ho, h3⟩
    · cases hv
  · cases hv
theorem bq_runC {a : Array Value} (hS : va_S (bq_A z) s.heap H locs)
    (hr : va_Run p l e R s m args below meth c H locs cells slots N ms (F0 m pc ls st) rest (bq_Q g L E' z none a) (bq_A z))
    (kk : ∀ (H1 : Heap) (locs1 : List Loc), bq_H g L E' z s.heap H1 locs1 → W p l e R s m args below meth c H1 locs1 (cells + N) (slots + ms) Q (F0 m (pc + 3) ls rest)) : W p l e R s m args below meth c H locs cells slots Q (F0 m pc ls st) := by
  intro T hT X
  obtain ⟨v', st₀, t, T', L', h0, X', hL, e1, e2, ⟨⟨hv, hU⟩, hF⟩, hst⟩ := hr T hT X
  cases hv
  obtain ⟨u1, u2, u3, u4, u5⟩ := hU
  obtain ⟨f1, f2⟩ := hF
  rw [h0] at f1 f2
  have hW1 : bq_H g L E' z s.heap T'.heap (locs ++ L') := by
    refine ⟨by rw [e1]; exact u2, u3, u4, Nat.le_trans hS.1 (by rw [e1]; exact f1), fun q h1 h2 => ?_, fun q hq => ?_⟩
    · rw [e1, f2 q (Nat.lt_of_lt_of_le h1 hS.1) h2]; exact hS.2.1 q h1 h2
    · rcases List.mem_append.mp hq with h | h
      · exact hS.2.2 q h
      · exact hL q h
  obtain ⟨t2, a1, b1⟩ := kk T'.heap (locs ++ L') hW1 T' rfl X'
  exact ⟨t2, hst t2 a1, b1⟩
theorem bq_callI (S : CallFix p m c cc nL s args bq_WA own) (hK : va_K g.1 vwCl (bq_tys g) s) (hz : z ≤ s.heap.size) (hn : n = s.heap.size + cells) (hN : bq_TN s) {na : Nat} (hM : bq_MC l y cc' maxL fr lo N ms (.ref b :: As) g E z n E') (w1 : Cond.methodLink own index y ∈ bq_WA) (w2 : Cond.instanceMethod y ∈ bq_WA) (w3 : Cond.initialized y.cls ∈ bq_WA) (w4 : Cond.code y cc' maxL none ∈ bq_WA) (hy1 : y.name = "<init>") (hd : y.cls ≠ "java/lang/invoke/MethodHandle" ∧ y.cls ≠ "java/lang/invoke/VarHandle" ∧ (parseMethodDescriptor y.desc).map (fun d => d.parameters.length) = some na) (hdg : decode cc pc = .ok (.invokespecial index, 3))
    (hst : st = As.reverse ++ .ref b :: rest) (hna : As.length = na) (hsize : ls.size = nL) (hrest : (rest.map fun v => v.category).sum ≤ 8) (hR : fr + 1 ≤ R.frames ∧ 8 + (maxL + 11) + lo ≤ R.locals) (hcs : cells + N ≤ R.cells ∧ slots + ms ≤ R.slots) (hW : bq_H g (bq_L z n) E z s.heap H locs)
    (kk : ∀ (H1 : Heap) (locs1 : List Loc), bq_H g (bq_L z (n + N)) E' z s.heap H1 locs1 → W p l e R s m args below meth c H1 locs1 (cells + N) (slots + ms) Q (F0 m (pc + 3) ls rest)) : W p l e R s m args below meth c H locs cells slots Q (F0 m pc ls st) := by
  refine bq_size fun hs => ?_
  have hlo := bq_lo hW hz
  have hG : GoodIn bq_WA (bq_ws y cc' maxL none) := bq_good fun w hw => (List.mem_cons.mp hw).elim (fun h => h ▸ w4) id
  refine bq_runC (a := (Value.ref b :: As).toArray) hW.2.2.2 (va_runI (As := As) (b := b) (rest := rest) S hM (cwI na S.2.2.2.2 hG rfl rfl rfl (S.2.2.2.2 _ w3) (S.2.2.2.2 _ w1) (S.2.2.2.2 _ w2) hy1 hd hR) ⟨bq_blindC, fun U hU hw => ⟨rfl, bq_pre hK hz hW U hU hw, by rw [hU]; omega, hN.warm hw⟩⟩ rfl hna hsize hst ?_ hdg hcs) kk
  show 2 * 0 + _ ≤ 8
  omega
theorem bq_callIN (S : CallFix p m c cc nL s args bq_WA own) (hK : va_K g.1 vwCl (bq_tys g) s) (hz : z ≤ s.heap.size) (hn : n = s.heap.size + cells) (hN : bq_TN s) {na : Nat} {host : String} (hM : bq_MC l y cc' maxL fr lo N ms (.ref b :: As) g E z n E') (w1 : va_Nw (.methodLinkNest own index y host) s) (w2 : Cond.instanceMethod y ∈ bq_WA) (w3 : Cond.initialized y.cls ∈ bq_WA) (w4 : Cond.code y cc' maxL none ∈ bq_WA) (hy1 : y.name = "<init>") (hd : y.cls ≠ "java/lang/invoke/MethodHandle" ∧ y.cls ≠ "java/lang/invoke/VarHandle" ∧ (parseMethodDescriptor y.desc).map (fun d => d.parameters.length) = some na) (hdg : decode cc pc = .ok (.invokespecial index, 3))
    (hst : st = As.reverse ++ .ref b :: rest) (hna : As.length = na) (hsize : ls.size = nL) (hrest : (rest.map fun v => v.category).sum ≤ 8) (hR : fr + 1 ≤ R.frames ∧ 8 + (maxL + 11) + lo ≤ R.locals) (hcs : cells + N ≤ R.cells ∧ slots + ms ≤ R.slots) (hW : bq_H g (bq_L z n) E z s.heap H locs)
    (kk : ∀ (H1 : Heap) (locs1 : List Loc), bq_H g (bq_L z (n + N)) E' z s.heap H1 locs1 → W p l e R s m args below meth c H1 locs1 (cells + N) (slots + ms) Q (F0 m (pc + 3) ls rest)) : W p l e R s m args below meth c H locs cells slots Q (F0 m pc ls st) := by
  refine bq_size fun hs => ?_
  have hlo := bq_lo hW hz
  have hG : GoodIn bq_WA (bq_ws y cc' maxL none) := bq_good fun w hw => (List.mem_cons.mp hw).elim (fun h => h ▸ w4) id
  refine bq_runC (a := (Value.ref b :: As).toArray) hW.2.2.2 (va_runIN (As := As) (b := b) (rest := rest) S hM ⟨va_cnB na S.2.2.2.2 hG rfl rfl rfl w1 (S.2.2.2.2 _ w3) hd hR, hy1, S.2.2.2.2 _ w2⟩ ⟨bq_blindC, fun U hU hw => ⟨rfl, bq_pre hK hz hW U hU hw, by rw [hU]; omega, hN.warm hw⟩⟩ rfl hna hsize hst ?_ hdg hcs) kk
  show 2 * 0 + _ ≤ 8
  omega
theorem bq_retC (S : CallFix p m c cc nL s args bq_WA own) (hr : meth.sig.returnType = none) (hlocks : meth.locks = false) (hK : va_K g.1 vwCl (bq_tys g) s) (hz : z ≤ s.heap.size) (hdg : decode cc pc = .ok (.return_, 1)) (hc : cells ≤ N) (hs : slots ≤ ms) (hW : bq_H g L E z s.heap H locs) :
    W p l e R s m args below meth c H locs cells slots (MQ below (bq_Q g L E z none) args s N ms (bq_A z)) (F0 m pc ls []) :=
  W.widen hc hs (W.vret S.1 S.2.1 hr (bq_post hK hz hW _ rfl) hW.2.2.2.2.2 hdg hlocks)
end BqC
