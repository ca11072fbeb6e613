/-- a contract: from the world E with these arguments the method returns v, the world is then E' -/
def bq_M (l : Launch) (y : MethodName) (cc : ByteArray) (maxL : Nat) (ret : Option FieldType) (fr lo : Nat) (As : List Value) (g : bq_G) (L : List Nat) (E : bq_E) (z : Nat) (v : Option Value) (E' : bq_E) : Prop :=
  Met l y (bq_ws y cc maxL ret) { frames := fr, cells := 0, slots := 0, locals := lo } (va_Pc As (bq_U g L E z)) (bq_Q g L E' z v) 0 0 (bq_A z)
theorem bq_blind {As : List Value} {g : bq_G} {L : List Nat} {E : bq_E} {z : Nat} : FrameBlind (va_Pc As (bq_U g L E z)) := by
  intro a U f mk q
  obtain ⟨rfl, q1, q2, q3, q4, q5⟩ := q
  exact ⟨rfl, q1, q2, q3, q4, va_K.moved (u := U) (U := U.calling f mk As.toArray) (Vm.Alike.refl U.vm) q5⟩
theorem bq_enter {l : Launch} {y : MethodName} {cc : ByteArray} {maxL : Nat} {ret : Option FieldType} {fr lo : Nat} {As : List Value} {g : bq_G} {L : List Nat} {E : bq_E} {z : Nat} {v : Option Value} {E' : bq_E} (hy : plainName y.cls = true) (hn : (lg_sl As).length ≤ maxL)
    (body : ∀ (p : Program) (e : Env) (s : State) (m : MethodId) (args : Array Value) (below : List Frame) (meth : Method) (c : Code), CallFix p m c cc maxL s args bq_WA y.cls → meth.sig.returnType = ret → meth.locks = false → va_K g.1 vwCl (bq_tys g) s → z ≤ s.heap.size → bq_H g L E z s.heap s.heap [] → ∀ ls : Array Slot, lv_has ls maxL (lv_args 0 As) →
      W p l e { frames := fr, cells := 0, slots := 0, locals := lo } s m args below meth c s.heap [] 0 0 (MQ below (bq_Q g L E' z v) args s 0 0 (bq_A z)) (F0 m 0 ls [])) :
    bq_M l y cc maxL ret fr lo As g L E z v E' := by
  refine Met.ofW (cc := cc) (maxL := maxL) (ret := ret) (ws' := bq_WA) hy rfl ?_
  intro p e s m args below meth c s₁ B hml hv
  obtain ⟨rfl, hz, hP, hD, hO, hK⟩ := hv
  have hts := bq_hts (atoms_spec (ws := bq_ws y cc maxL ret) B.pre)
  have hl := lv_entry As (n := maxL) hn
  rw [lg_entry_eq]
  exact body p e s m As.toArray below meth c ⟨B.exec, B.bytes, hml, findClass_of_methodNamed B.named, hts⟩ B.returns B.notSynchronized hK hz ⟨hP, hD, hO, va_S.rf⟩ _ hl
section BqCalls
variable {p : Program} {l : Launch} {e : Env} {R : Room} {s : State} {m : MethodId} {args : Array Value} {below : List Frame} {meth : Method} {c : Code} {H : Heap} {locs : List Loc} {cells slots : Nat} {Q : State → Prop}
variable {cc cc' : ByteArray} {nL pc maxL fr lo n : Nat} {own : String} {ls : Array Slot} {st rest As : List Value} {g : bq_G} {L : List Nat} {E E' : bq_E} {z : Nat} {b ci index : Nat} {y : MethodName} {ret : Option FieldType} {v : Option Value}
theorem bq_run {a : Array Value} {len : Nat} {st2 : List Value} (hS : va_S (bq_A z) s.heap H locs)
    (hr : va_Run p l e R s m args below meth c H locs cells slots 0 0 (F0 m pc ls st) rest (bq_Q g L E' z v a) (bq_A z))
    (hv : v.toList ++ rest = st2) (hlen : len = 3)
    (kk : ∀ (H1 : Heap) (locs1 : List Loc), bq_H g L E' z s.heap H1 locs1 → W p l e R s m args below meth c H1 locs1 cells slots Q (F0 m (pc + 3) ls st2)) : W p l e R s m args below meth c H locs cells slots Q (F0 m pc ls st) := by
  subst hv
  intro T hT X
  obtain ⟨v', st₀, t, T', L', h0, X', hL, e1, e2, ⟨⟨hv, hU⟩, hF⟩, hst⟩ := hr T hT X
  cases hv
  obtain ⟨u1, u2, u3, u4, u5⟩ := hU
  obtain ⟨f1, f2⟩ := hF
  rw [h0] at f1 f2
  have hW1 : bq_H g L E' z s.heap T'.heap (locs ++ L') := by
    refine ⟨by rw [e1]; exact u2, u3, u4, Nat.le_trans hS.1 (by rw [e1]; exact f1), fun q h1 h2 => ?_, fun q hq => ?_⟩
    · rw [e1, f2 q (Nat.lt_of_lt_of_le h1 hS.1) h2]; exact hS.2.1 q h1 h2
    · rcases List.mem_append.mp hq with h | h
      · exact hS.2.2 q h
      · exact hL q h
  obtain ⟨t2, a1, b1⟩ := kk T'.heap (locs ++ L') hW1 T' rfl X'
  exact ⟨t2, hst t2 a1, b1⟩
theorem bq_pre (hK : va_K g.1 vwCl (bq_tys g) s) (hz : z ≤ s.heap.size) (hW : bq_H g L E z s.heap H locs) (U : State) (hU : U.heap = H) (hw : s.WarmedH U.vm) : bq_U g L E z U :=
  ⟨by rw [hU]; exact Nat.le_trans hz hW.2.2.2.1, by rw [hU]; exact hW.1, hW.2.1, hW.2.2.1, va_K.moved hw.alike hK⟩
theorem bq_callV (S : CallFix p m c cc nL s args bq_WA own) (hK : va_K g.1 vwCl (bq_tys g) s) (hz : z ≤ s.heap.size) (M : bq_MV own index ci y cc' maxL ret n) (hM : bq_M l y cc' maxL ret fr lo (.ref b :: As) g L E z v E') (hcl : bq_cls E b = ci) (hdg : decode cc pc = .ok (.invokevirtual index, 3)) (st2 : List Value)
    (hst : st = As.reverse ++ .ref b :: rest) (hv : v.toList ++ rest = st2) (hn : As.length = n) (hsize : ls.size = nL) (hrest : (rest.map fun v => v.category).sum ≤ 8) (hR : fr + 1 ≤ R.frames ∧ 8 + (maxL + 11) + lo ≤ R.locals) (hcs : cells ≤ R.cells ∧ slots ≤ R.slots) (hW : bq_H g L E z s.heap H locs)
    (kk : ∀ (H1 : Heap) (locs1 : List Loc), bq_H g L E' z s.heap H1 locs1 → W p l e R s m args below meth c H1 locs1 cells slots Q (F0 m (pc + 3) ls st2)) : W p l e R s m args below meth c H locs cells slots Q (F0 m pc ls st) := by
  obtain ⟨C, T, N, hc, hg, hd⟩ := M
  have hci : ci < 99 := by
    have := (List.getElem?_eq_some_iff.mp hc).1
    have h8 : vwCl.length = 7 := rfl
    omega
  obtain ⟨fs, hE⟩ := bq_clsE hcl hci
  obtain ⟨q0, hq⟩ := bq_at hW.2.2.1 hE (fun h => by have := congrArg (fun e : va_E => match e with | .inr (c, _) => c | .inl _ => 100) h; dsimp only at this; omega)
  refine bq_run (a := (Value.ref b :: As).toArray) hW.2.2.2 (va_runV (As := As) (b := b) (rest := rest) S hM (cwV n S.2.2.2.2 hg rfl rfl rfl hd hR) ⟨bq_blind, va_recv hK hW.1 hc hq, fun U hU hw => ⟨rfl, bq_pre hK hz hW U hU hw⟩⟩ rfl hn hsize hst ?_ hdg ⟨hcs.1, hcs.2⟩) hv rfl kk
  show 2 * 0 + _ ≤ 8
  omega
theorem bq_callS (S : CallFix p m c cc nL s args bq_WA own) (hK : va_K g.1 vwCl (bq_tys g) s) (hz : z ≤ s.heap.size) (M : bq_MS own index y cc' maxL ret n) (hM : bq_M l y cc' maxL ret fr lo As g L E z v E') (hdg : decode cc pc = .ok (.invokestatic index, 3)) (st2 : List Value)
    (hst : st = As.reverse ++ rest) (hv : v.toList ++ rest = st2) (hn : As.length = n) (hsize : ls.size = nL) (hrest : (rest.map fun v => v.category).sum ≤ 8) (hR : fr + 1 ≤ R.frames ∧ 8 + (maxL + 11) + lo ≤ R.locals) (hcs : cells ≤ R.cells ∧ slots ≤ R.slots) (hW : bq_H g L E z s.heap H locs)
    (kk : ∀ (H1 : Heap) (locs1 : List Loc), bq_H g L E' z s.heap H1 locs1 → W p l e R s m args below meth c H1 locs1 cells slots Q (F0 m (pc + 3) ls st2)) : W p l e R s m args below meth c H locs cells slots Q (F0 m pc ls st) := by
  obtain ⟨hg, hd⟩ := M
  refine bq_run (a := As.toArray) hW.2.2.2 (va_runS (As := As) (rest := rest) S hM (va_cwS n S.2.2.2.2 hg rfl rfl rfl hd hR) ⟨bq_blind, fun U hU hw => ⟨rfl, bq_pre hK hz hW U hU hw⟩⟩ rfl hn hsize hst ?_ hdg ⟨hcs.1, hcs.2⟩) hv rfl kk
  show 2 * 0 + _ ≤ 8
  omega
theorem bq_post (hK : va_K g.1 vwCl (bq_tys g) s) (hz : z ≤ s.heap.size) (hW : bq_H g L E z s.heap H locs) (oc : Outcome) (hoc : oc = .returned v) : ∀ t : State, t.heap = H → s.WarmedH t.vm → bq_Q g L E z v args s oc t :=
  fun t ht hw => ⟨⟨hoc, bq_pre hK hz hW t ht hw⟩, hW.2.2.2.F ht⟩
theorem bq_reti (S : CallFix p m c cc nL s args bq_WA own) (hr : meth.sig.returnType = some .int) (hlocks : meth.locks = false) (hK : va_K g.1 vwCl (bq_tys g) s) (hz : z ≤ s.heap.size) (hdg : decode cc pc = .ok (.ireturn, 1)) {x : Int32} (hW : bq_H g L E z s.heap H locs) :
    W p l e R s m args below meth c H locs cells slots (MQ below (bq_Q g L E z (some (.int x))) args s cells slots (bq_A z)) (F0 m pc ls [.int x]) :=
  W.iret S.1 S.2.1 hr (bq_post hK hz hW _ rfl) hW.2.2.2.2.2 hdg hlocks
theorem bq_retz (S : CallFix p m c cc nL s args bq_WA own) (hr : meth.sig.returnType = some .boolean) (hlocks : meth.locks = false) (hK : va_K g.1 vwCl (bq_tys g) s) (hz : z ≤ s.heap.size) (hdg : decode cc pc = .ok (.ireturn, 1)) (x : Bool) {y : Int32} (hy : y = bq_b x) (hW : bq_H g L E z s.heap H locs) :
    W p l e R s m args below meth c H locs cells slots (MQ below (bq_Q g L E z (some (.int (bq_b x)))) args s cells slots (bq_A z)) (F0 m pc ls [.int y]) := by
  subst hy
  exact W.zret S.1 S.2.1 hr (bq_b01 x) (bq_post hK hz hW _ rfl) hW.2.2.2.2.2 hdg hlocks
theorem bq_retl (S : CallFix p m c cc nL s args bq_WA own) (hr : meth.sig.returnType = some .long) (hlocks : meth.locks = false) (hK : va_K g.1 vwCl (bq_tys g) s) (hz : z ≤ s.heap.size) (hdg : decode cc pc = .ok (.lreturn, 1)) {x : Int64} (hW : bq_H g L E z s.heap H locs) :
    W p l e R s m args below meth c H locs cells slots (MQ below (bq_Q g L E z (some (.long x))) args s cells slots (bq_A z)) (F0 m pc ls [.long x]) :=
  W.lret S.1 S.2.1 hr (bq_post hK hz hW _ rfl) hW.2.2.2.2.2 hdg hlocks
theorem bq_reta (S : CallFix p m c cc nL s args bq_WA own) {C : String} (hr : meth.sig.returnType = some (.object C)) (hlocks : meth.locks = false) (hK : va_K g.1 vwCl (bq_tys g) s) (hz : z ≤ s.heap.size) (hdg : decode cc pc = .ok (.areturn, 1)) {x : Nat} (hW : bq_H g L E z s.heap H locs) :
    W p l e R s m args below meth c H locs cells slots (MQ below (bq_Q g L E z (some (.ref x))) args s cells slots (bq_A z)) (F0 m pc ls [.ref x]) :=
  W.aret S.1 S.2.1 hr (Or.inl ⟨C, rfl⟩) (Or.inr ⟨x, rfl⟩) (bq_post hK hz hW _ rfl) hW.2.2.2.2.2 hdg hlocks
theorem bq_retn (S : CallFix p m c cc nL s args bq_WA own) {C : String} (hr : meth.sig.returnType = some (.object C)) (hlocks : meth.locks = false) (hK : va_K g.1 vwCl (bq_tys g) s) (hz : z ≤ s.heap.size) (hdg : decode cc pc = .ok (.areturn, 1)) (x : Option Nat) {w : Value} (hw : w = va_rf x) (hW : bq_H g L E z s.heap H locs) :
    W p l e R s m args below meth c H locs cells slots (MQ below (bq_Q g L E z (some (va_rf x))) args s cells slots (bq_A z)) (F0 m pc ls [w]) := by
  subst hw
  exact W.aret S.1 S.2.1 hr (Or.inl ⟨C, rfl⟩) (va_rf_or x) (bq_post hK hz hW _ rfl) hW.2.2.2.2.2 hdg hlocks
theorem bq_retv (S : CallFix p m c cc nL s args bq_WA own) (hr : meth.sig.returnType = none) (hlocks : meth.locks = false) (hK : va_K g.1 vwCl (bq_tys g) s) (hz : z ≤ s.heap.size) (hdg : decode cc pc = .ok (.return_, 1)) (hW : bq_H g L E z s.heap H locs) :
    W p l e R s m args below meth c H locs cells slots (MQ below (bq_Q g L E z none) args s cells slots (bq_A z)) (F0 m pc ls []) :=
  W.vret S.1 S.2.1 hr (bq_post hK hz hW _ rfl) hW.2.2.2.2.2 hdg hlocks
end BqCalls
