/-! The law's own methods that make cells, and the one that reads the script. -/
def bq_rem (x y : Int32) : Int32 := x - x / y * y
def bq_MA (l : Launch) (y : MethodName) (cc : ByteArray) (maxL : Nat) (ret : Option FieldType) (fr lo kc ks : Nat) (As : List Value) (g : bq_G) (L : List Nat) (E : bq_E) (z : Nat) (v : Option Value) (E' : bq_E) : Prop :=
  Met l y (bq_ws y cc maxL ret) { frames := fr, cells := kc, slots := ks, locals := lo } (va_Pc As (bq_UL g L E z)) (bq_Q g L E' z v) kc ks (bq_A z)
theorem bq_enterA {l : Launch} {y : MethodName} {cc : ByteArray} {maxL : Nat} {ret : Option FieldType} {fr lo kc ks : Nat} {As : List Value} {g : bq_G} {L : List Nat} {E : bq_E} {z : Nat} {v : Option Value} {E' : bq_E} (hy : plainName y.cls = true) (hn : (lg_sl As).length ≤ maxL)
    (body : ∀ (p : Program) (e : Env) (s : State) (m : MethodId) (args : Array Value) (below : List Frame) (meth : Method) (c : Code), CallFix p m c cc maxL s args bq_WA y.cls → meth.sig.returnType = ret → meth.locks = false → va_K g.1 vwCl (bq_tys g) s → z ≤ s.heap.size → bq_T z s s.heap → bq_NC s → bq_H g L E z s.heap s.heap [] → ∀ ls : Array Slot, lv_has ls maxL (lv_args 0 As) →
      W p l e { frames := fr, cells := kc, slots := ks, locals := lo } s m args below meth c s.heap [] 0 0 (MQ below (bq_Q g L E' z v) args s kc ks (bq_A z)) (F0 m 0 ls [])) :
    bq_MA l y cc maxL ret fr lo kc ks As g L E z v E' := by
  refine Met.ofW (cc := cc) (maxL := maxL) (ret := ret) (ws' := bq_WA) hy rfl ?_
  intro p e s m args below meth c s₁ B hml hv
  obtain ⟨rfl, ⟨⟨hz, hP, hD, hO, hK⟩, hT⟩, hN⟩ := hv
  have hts := bq_hts (atoms_spec (ws := bq_ws y cc maxL ret) B.pre)
  have hl := lv_entry As (n := maxL) hn
  rw [lg_entry_eq]
  exact body p e s m As.toArray below meth c ⟨B.exec, B.bytes, hml, findClass_of_methodNamed B.named, hts⟩ B.returns B.notSynchronized hK hz hT hN ⟨hP, hD, hO, va_S.rf⟩ _ hl
section BqZ
variable {p : Program} {l : Launch} {e : Env} {R : Room} {s : State} {m : MethodId} {args : Array Value} {below : List Frame} {meth : Method} {c : Code} {H : Heap} {locs : List Loc} {cells slots : Nat} {Q : State → Prop}
variable {cc cc' : ByteArray} {nL pc maxL fr lo kc ks n : Nat} {own : String} {ls : Array Slot} {st rest As : List Value} {g : bq_G} {L : List Nat} {E E' : bq_E} {z : Nat} {b index : Nat} {y : MethodName} {ret : Option FieldType} {v : Option Value}
theorem bq_runA {a : Array Value} {st2 : List Value} (hS : va_S (bq_A z) s.heap H locs)
    (hr : va_Run p l e R s m args below meth c H locs cells slots kc ks (F0 m pc ls st) rest (bq_Q g L E' z v a) (bq_A z))
    (hv : v.toList ++ rest = st2)
    (kk : ∀ (H1 : Heap) (locs1 : List Loc), bq_H g L E' z s.heap H1 locs1 → W p l e R s m args below meth c H1 locs1 (cells + kc) (slots + ks) Q (F0 m (pc + 3) ls st2)) : W p l e R s m args below meth c H locs cells slots Q (F0 m pc ls st) := by
  subst hv
  intro T hT X
  obtain ⟨v', st₀, t, T', L', h0, X', hL, e1, e2, ⟨⟨hv, hU⟩, hF⟩, hst⟩ := hr T hT X
  cases hv
  obtain ⟨u1, u2, u3, u4, u5⟩ := hU
  obtain ⟨f1, f2⟩ := hF
  rw [h0] at f1 f2
  have hW1 : bq_H g L E' z s.heap T'.heap (locs ++ L') := by
    refine ⟨by rw [e1]; exact u2, u3, u4, Nat.le_trans hS.1 (by rw [e1]; exact f1), fun q h1 h2 => ?_, fun q hq => ?_⟩
    · rw [e1, f2 q (Nat.lt_of_lt_of_le h1 hS.1) h2]; exact hS.2.1 q h1 h2
    · rcases List.mem_append.mp hq with h | h
      · exact hS.2.2 q h
      · exact hL q h
  obtain ⟨t2, a1, b1⟩ := kk T'.heap (locs ++ L') hW1 T' rfl X'
  exact ⟨t2, hst t2 a1, b1⟩
theorem bq_callSA (S : CallFix p m c cc nL s args bq_WA own) (hK : va_K g.1 vwCl (bq_tys g) s) (hz : z ≤ s.heap.size) (hT : bq_T z s s.heap) (hN : bq_NC s) (M : bq_MS own index y cc' maxL ret n) (hM : bq_MA l y cc' maxL ret fr lo kc ks As g L E z v E') (hdg : decode cc pc = .ok (.invokestatic index, 3)) (st2 : List Value)
    (hst : st = As.reverse ++ rest) (hv : v.toList ++ rest = st2) (hn : As.length = n) (hsize : ls.size = nL) (hrest : (rest.map fun v => v.category).sum ≤ 8) (hR : fr + 1 ≤ R.frames ∧ 8 + (maxL + 11) + lo ≤ R.locals) (hcs : cells + kc ≤ R.cells ∧ slots + ks ≤ R.slots) (hW : bq_H g L E z s.heap H locs)
    (kk : ∀ (H1 : Heap) (locs1 : List Loc), bq_H g L E' z s.heap H1 locs1 → W p l e R s m args below meth c H1 locs1 (cells + kc) (slots + ks) Q (F0 m (pc + 3) ls st2)) : W p l e R s m args below meth c H locs cells slots Q (F0 m pc ls st) := by
  obtain ⟨hg, hd⟩ := M
  refine bq_runA (a := As.toArray) hW.2.2.2 (va_runS (As := As) (rest := rest) S hM (va_cwS n S.2.2.2.2 hg rfl rfl rfl hd hR) ⟨bq_blindL, fun U hU hw => ⟨rfl, ⟨bq_pre hK hz hW U hU hw, hT.kept hW.2.2.2 hU hw⟩, hN.moved hw.alike⟩⟩ rfl hn hsize hst ?_ hdg hcs) hv kk
  show 2 * 0 + _ ≤ 8
  omega
/-- a row of numbers beside the world -/
theorem bq_newT (S : CallFix p m c cc nL s args bq_WA own) (hK : va_K g.1 vwCl (bq_tys g) s) (hz : z ≤ s.heap.size) (w1 : Cond.arrayClass .int ∈ bq_WA) (hdg : decode cc pc = .ok (.newarray .int, 2)) {x : Int32} {k : Nat} (hx0 : ¬ x < 0) (hk : x.toNatClampNeg = k) (hk2 : k ≤ 100000) (hcs : cells + 1 ≤ R.cells ∧ slots + k ≤ R.slots) (hW : bq_H g L E z s.heap H locs)
    (kk : ∀ (q : Nat) (H1 : Heap), q ∉ L → bq_H g (L ++ [q]) (va_up E q (.inl (g.2.1, k, .inl (fun _ => 0)))) z s.heap H1 locs → W p l e R s m args below meth c H1 locs (cells + 1) (slots + k) Q (F0 m (pc + 2) ls (.ref q :: rest))) : W p l e R s m args below meth c H locs cells slots Q (F0 m pc ls (.int x :: rest)) := by
  obtain ⟨hx, hb, -, hown, hts⟩ := S
  refine va_newa (atype := .int) (ty := .int) (a0 := (k, .inl (fun _ => 0))) (N' := k) hx hb (hts _ w1) rfl hK hW.1 hW.2.1 hW.2.2.2 (fun q h => Nat.le_trans hz h) (fun cA => rfl) hx0 hk (by show k * 4 ≤ _; omega) hcs.1 hcs.2 hdg (fun q cA H1 hK1 h1 h2 h3 => ?_)
  have e1 : cA = g.2.1 := by
    have r1 := (hK1.2 4 (cA, .int) rfl).2
    have r2 := (hK.2 0 (g.2.1, .int) rfl).2
    exact Option.some.inj (r1.symm.trans r2)
  subst e1
  have hq : q ∉ L := va_pl_fresh2 (X := []) h2
  rw [va_pl_push hq] at h1 h2
  refine kk q H1 hq ⟨h1, h2, ⟨fun a ha => ?_, fun a ha => ?_⟩, h3⟩
  · by_cases h : a = q
    · subst h; rw [va_up_self]; exact ⟨rfl, by omega⟩
    · rw [va_up_ne _ _ h]
      rcases List.mem_append.mp ha with h4 | h4
      · exact hW.2.2.1.1 a h4
      · exact absurd (List.mem_singleton.mp h4) h
  · rw [va_up_ne _ _ (fun h => ha (List.mem_append.mpr (Or.inr (List.mem_singleton.mpr h))))]
    exact hW.2.2.1.2 a (fun h => ha (List.mem_append.mpr (Or.inl h)))
/-- .. that is forgotten -/
theorem bq_drop {H0 : Heap} {q : Nat} (hq : q ∉ L) (hW : bq_H g (L ++ [q]) E z H0 H locs) : bq_H g L (va_up E q (.inr (99, []))) z H0 H locs := by
  obtain ⟨h1, h2, h3, h4⟩ := hW
  have e : va_pl (L ++ [q]) E = va_pl L (va_up E q (.inr (99, []))) ++ [(q, E q)] := by
    simp only [va_pl, List.map_append, List.map_cons, List.map_nil]
    congr 1
    apply List.map_congr_left
    intro a ha
    rw [va_up_ne _ _ (fun h : a = q => hq (h ▸ ha))]
  rw [e] at h1 h2
  have lift : ∀ (k : Nat) (r : Nat × va_E), (va_pl L (va_up E q (.inr (99, []))))[k]? = some r → (va_pl L (va_up E q (.inr (99, []))) ++ [(q, E q)])[k]? = some r := fun k r hk => by
    rw [List.getElem?_append_left (List.getElem?_eq_some_iff.mp hk).1]
    exact hk
  refine ⟨fun k r hk => h1 k r (lift k r hk), ⟨fun i j r t hi hj => h2.1 i j r t (lift i r hi) (lift j t hj), fun k r hk => h2.2 k r (lift k r hk)⟩, ⟨fun a ha => ?_, fun a ha => ?_⟩, h4⟩
  · rw [va_up_ne _ _ (fun h : a = q => hq (h ▸ ha))]
    exact h3.1 a (List.mem_append.mpr (Or.inl ha))
  · by_cases h : a = q
    · subst h; rw [va_up_self]
    · rw [va_up_ne _ _ h]
      refine h3.2 a (fun h5 => ?_)
      rcases List.mem_append.mp h5 with h6 | h6
      · exact ha h6
      · exact h (List.mem_singleton.mp h6)
/-- what reads the script -/
def bq_sc (xs : Nat → Int32) (Ln : Nat) (i : Int32) : Option Int32 := if i < 0 ∨ Ln ≤ i.toNatClampNeg then none else some (xs i.toNatClampNeg)
theorem bq_scE {xs : Nat → Int32} {Ln : Nat} {i v : Int32} (h : bq_sc xs Ln i = some v) : vp_in i Ln ∧ v = xs i.toNatClampNeg := by
  unfold bq_sc at h
  split at h
  · cases h
  · rename_i hc; cases h; exact ⟨hc, rfl⟩
def tw_L_cell (xs : Nat → Int32) (Ln : Nat) (x1 : Int32) : Option Int32 := if Int32.ofNat Ln ≤ x1 then some ((40503 : Int32) * (x1 + (3 : Int32))) else bq_sc xs Ln x1
def bq_US (g : bq_G) (L : List Nat) (E : bq_E) (z b Ln : Nat) (xs : Nat → Int32) (U : State) : Prop := bq_U g L E z U ∧ va_X b Ln xs U U.heap
theorem bq_blindS {Ln : Nat} {xs : Nat → Int32} : FrameBlind (va_Pc As (bq_US g L E z b Ln xs)) := by
  intro a U f mk q
  obtain ⟨h1, h2, h3⟩ := q
  obtain ⟨h4, h5⟩ := bq_blind (g := g) (L := L) (E := E) (z := z) (As := As) a U f mk ⟨h1, h2⟩
  exact ⟨h4, h5, va_X.moved (u := U) (U := U.calling f mk a) (Vm.Alike.refl U.vm) h3⟩
def bq_MSc (l : Launch) (y : MethodName) (cc : ByteArray) (maxL : Nat) (ret : Option FieldType) (fr lo : Nat) (As : List Value) (g : bq_G) (L : List Nat) (E : bq_E) (z b Ln : Nat) (xs : Nat → Int32) (v : Option Value) : Prop :=
  Met l y (bq_ws y cc maxL ret) { frames := fr, cells := 0, slots := 0, locals := lo } (va_Pc As (bq_US g L E z b Ln xs)) (bq_Q g L E z v) 0 0 (bq_A z)
theorem bq_sld {H0 : Heap} {A : Nat → Prop} (hexec : p.tables.exec = Jvm.exec) (hb : c.code = cc) {b L : Nat} {xs : Nat → Int32} (hX : va_X b L xs s H0) (hbl : b < H0.size) (hbA : ¬ A b) (hS : va_S A H0 H locs) {i v : Int32} (hv : bq_sc xs L i = some v) (hdg : decode cc pc = .ok (.iaload, 1))
    (kk : W p l e R s m args below meth c H locs cells slots Q (F0 m (pc + 1) ls (.int v :: rest))) : W p l e R s m args below meth c H locs cells slots Q (F0 m pc ls (.int i :: .ref b :: rest)) := by
  obtain ⟨hin, rfl⟩ := bq_scE hv
  exact va_sld hexec hb hX hbl hbA hS hin hdg kk
theorem bq_enterS {b Ln : Nat} {xs : Nat → Int32} (hy : plainName y.cls = true) (hn : (lg_sl As).length ≤ maxL)
    (body : ∀ (p : Program) (e : Env) (s : State) (m : MethodId) (args : Array Value) (below : List Frame) (meth : Method) (c : Code), CallFix p m c cc maxL s args bq_WA y.cls → meth.sig.returnType = ret → meth.locks = false → va_K g.1 vwCl (bq_tys g) s → z ≤ s.heap.size → va_X b Ln xs s s.heap → bq_H g L E z s.heap s.heap [] → ∀ ls : Array Slot, lv_has ls maxL (lv_args 0 As) →
      W p l e { frames := fr, cells := 0, slots := 0, locals := lo } s m args below meth c s.heap [] 0 0 (MQ below (bq_Q g L E z v) args s 0 0 (bq_A z)) (F0 m 0 ls [])) :
    bq_MSc l y cc maxL ret fr lo As g L E z b Ln xs v := by
  refine Met.ofW (cc := cc) (maxL := maxL) (ret := ret) (ws' := bq_WA) hy rfl ?_
  intro p e s m args below meth c s₁ B hml hv
  obtain ⟨rfl, ⟨hz, hP, hD, hO, hK⟩, hX⟩ := hv
  have hts := bq_hts (atoms_spec (ws := bq_ws y cc maxL ret) B.pre)
  have hl := lv_entry As (n := maxL) hn
  rw [lg_entry_eq]
  exact body p e s m As.toArray below meth c ⟨B.exec, B.bytes, hml, findClass_of_methodNamed B.named, hts⟩ B.returns B.notSynchronized hK hz hX ⟨hP, hD, hO, va_S.rf⟩ _ hl
theorem bq_callSS {b Ln : Nat} {xs : Nat → Int32} (S : CallFix p m c cc nL s args bq_WA own) (hK : va_K g.1 vwCl (bq_tys g) s) (hz : z ≤ s.heap.size) (hX : va_X b Ln xs s s.heap) (hbz : b < z) (M : bq_MS own index y cc' maxL ret n) (hM : bq_MSc l y cc' maxL ret fr lo As g L E z b Ln xs v) (hdg : decode cc pc = .ok (.invokestatic index, 3)) (st2 : List Value)
    (hst : st = As.reverse ++ rest) (hv : v.toList ++ rest = st2) (hn : As.length = n) (hsize : ls.size = nL) (hrest : (rest.map fun v => v.category).sum ≤ 8) (hR : fr + 1 ≤ R.frames ∧ 8 + (maxL + 11) + lo ≤ R.locals) (hcs : cells ≤ R.cells ∧ slots ≤ R.slots) (hW : bq_H g L E z s.heap H locs)
    (kk : ∀ (H1 : Heap) (locs1 : List Loc), bq_H g L E z s.heap H1 locs1 → W p l e R s m args below meth c H1 locs1 cells slots Q (F0 m (pc + 3) ls st2)) : W p l e R s m args below meth c H locs cells slots Q (F0 m pc ls st) := by
  obtain ⟨hg, hd⟩ := M
  have hXU : ∀ U : State, U.heap = H → s.WarmedH U.vm → va_X b Ln xs U U.heap := fun U hU hw => by
    rw [hU]
    exact va_X.moved hw.alike (hX.kept (hW.2.2.2.2.1 b (Nat.lt_of_lt_of_le hbz hz) (fun h => absurd hbz (Nat.not_lt.mpr h))))
  refine bq_run (a := As.toArray) hW.2.2.2 (va_runS (As := As) (rest := rest) S hM (va_cwS n S.2.2.2.2 hg rfl rfl rfl hd hR) ⟨bq_blindS, fun U hU hw => ⟨rfl, bq_pre hK hz hW U hU hw, hXU U hU hw⟩⟩ rfl hn hsize hst ?_ hdg ⟨hcs.1, hcs.2⟩) hv rfl kk
  show 2 * 0 + _ ≤ 8
  omega
end BqZ
