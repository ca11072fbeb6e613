/-! The law's own methods: they call the class, and catch what it throws. -/
def bq_NC (U : State) : Prop := va_Nc "java/lang/IllegalArgumentException" "java/lang/IndexOutOfBoundsException" U ∧ va_Nc "java/lang/IllegalStateException" "java/lang/IndexOutOfBoundsException" U ∧ va_Nc "java/lang/IllegalStateException" "java/lang/IllegalArgumentException" U
def bq_UL (g : bq_G) (L : List Nat) (E : bq_E) (z : Nat) (U : State) : Prop := bq_UX g L E z U ∧ bq_NC U
def bq_ML (l : Launch) (y : MethodName) (cc : ByteArray) (maxL : Nat) (ret : Option FieldType) (hh : List (Nat × Nat × Nat × Nat)) (fr lo : Nat) (As : List Value) (g : bq_G) (L : List Nat) (E : bq_E) (z : Nat) (v : Option Value) (E' : bq_E) : Prop :=
  vx_Met l y (Cond.codeWith y cc maxL ret hh :: bq_WA) { frames := fr, cells := 1, slots := 6, locals := lo } (va_Pc As (bq_UL g L E z)) (bq_Q g L E' z v) (fun _ _ _ => False) 1 6 (bq_A z)
theorem bq_NC.moved {u U : State} (hvm : u.vm.Alike U.vm) (h : bq_NC u) : bq_NC U := ⟨va_Nc.moved hvm h.1, va_Nc.moved hvm h.2.1, va_Nc.moved hvm h.2.2⟩
theorem bq_blindL {As : List Value} {g : bq_G} {L : List Nat} {E : bq_E} {z : Nat} : FrameBlind (va_Pc As (bq_UL g L E z)) := by
  intro a U f mk q
  obtain ⟨h1, h2, h3⟩ := q
  obtain ⟨h4, h5⟩ := bq_blindX (g := g) (L := L) (E := E) (z := z) (As := As) a U f mk ⟨h1, h2⟩
  exact ⟨h4, h5, bq_NC.moved (u := U) (U := U.calling f mk a) (Vm.Alike.refl U.vm) h3⟩
theorem bq_enterL {l : Launch} {y : MethodName} {cc : ByteArray} {maxL : Nat} {ret : Option FieldType} {hh : List (Nat × Nat × Nat × Nat)} {fr lo : Nat} {As : List Value} {g : bq_G} {L : List Nat} {E : bq_E} {z : Nat} {v : Option Value} {E' : bq_E} (hy : plainName y.cls = true) (hn : (lg_sl As).length ≤ maxL)
    (body : ∀ (p : Program) (e : Env) (s : State) (m : MethodId) (args : Array Value) (below : List Frame) (meth : Method) (c : Code), CallFix p m c cc maxL s args bq_WA y.cls → c.exceptionTable.toList = tableOf hh → meth.sig.returnType = ret → meth.locks = false → va_K g.1 vwCl (bq_tys g) s → z ≤ s.heap.size → bq_T z s s.heap → bq_NC s → bq_H g L E z s.heap s.heap [] → ∀ ls : Array Slot, lv_has ls maxL (lv_args 0 As) →
      W p l e { frames := fr, cells := 1, slots := 6, locals := lo } s m args below meth c s.heap [] 0 0 (vx_MQ below (bq_Q g L E' z v) (fun _ _ _ => False) args s 1 6 (bq_A z)) (F0 m 0 ls [])) :
    bq_ML l y cc maxL ret hh fr lo As g L E z v E' := by
  refine vx_ofWH (cc := cc) (maxL := maxL) (ret := ret) (hh := hh) (ws' := bq_WA) hy rfl ?_
  intro p e s m args below meth c s₁ B hml hv
  obtain ⟨rfl, ⟨⟨hz, hP, hD, hO, hK⟩, hT⟩, hN⟩ := hv
  have hts0 := atoms_spec (ws := Cond.codeWith y cc maxL ret hh :: bq_WA) B.pre
  have hts := bq_hts hts0
  have hl := lv_entry As (n := maxL) hn
  rw [lg_entry_eq]
  exact body p e s m As.toArray below meth c ⟨B.exec, B.bytes, hml, findClass_of_methodNamed B.named, hts⟩ (vx_table (x := y) B (hts0 _ List.mem_cons_self)) B.returns B.notSynchronized hK hz hT hN ⟨hP, hD, hO, va_S.rf⟩ _ hl
section BqL
variable {p : Program} {l : Launch} {e : Env} {R : Room} {s : State} {m : MethodId} {args : Array Value} {below : List Frame} {meth : Method} {c : Code} {H : Heap} {locs : List Loc} {cells slots : Nat} {Q : State → Prop}
variable {cc cc' : ByteArray} {nL pc maxL fr lo n : Nat} {own : String} {ls : Array Slot} {st rest As : List Value} {g : bq_G} {L : List Nat} {E E' : bq_E} {z : Nat} {b ci index : Nat} {y : MethodName} {ret : Option FieldType} {v : Option Value} {hh : List (Nat × Nat × Nat × Nat)}
theorem bq_inSW (h1 : Cond.methodLink own index y ∈ bq_WA) (h2 : Cond.static y ∈ bq_WA) (h4 : Cond.initialized y.cls ∈ bq_WA) (h5 : Cond.codeWith y cc' maxL ret hh ∈ bq_WA) : GoodIn bq_WA (va_wsS own index y (Cond.codeWith y cc' maxL ret hh :: bq_WA)) := by
  refine bq_good fun w hw => ?_
  rcases List.mem_append.mp hw with h | h
  · simp only [List.mem_cons, List.not_mem_nil, or_false] at h
    rcases h with rfl | rfl | rfl
    · exact h1
    · exact h2
    · exact h4
  · rcases List.mem_cons.mp h with rfl | h
    · exact h5
    · exact h
theorem bq_castX (hT : bq_T z s s.heap) {X : String} (i : Nat) (hi : lw_tbl[i]? = some (.castable X X)) : (Cond.castable X X).before args s = true :=
  va_Nw.use rfl (hT.2.2.2 _ (List.mem_of_getElem? hi) rfl)
theorem bq_callSL (S : CallFix p m c cc nL s args bq_WA own) (hK : va_K g.1 vwCl (bq_tys g) s) (hz : z ≤ s.heap.size) (hT : bq_T z s s.heap) (hN : bq_NC s) (hG : GoodIn bq_WA (va_wsS own index y (Cond.codeWith y cc' maxL ret hh :: bq_WA)))
    (hd : y.cls ≠ "java/lang/invoke/MethodHandle" ∧ y.cls ≠ "java/lang/invoke/VarHandle" ∧ (parseMethodDescriptor y.desc).map (fun d => d.parameters.length) = some n)
    (hM : bq_ML l y cc' maxL ret hh fr lo As g L E z v E') (hdg : decode cc pc = .ok (.invokestatic index, 3)) (st2 : List Value)
    (hst : st = As.reverse ++ rest) (hv : v.toList ++ rest = st2) (hn : As.length = n) (hsize : ls.size = nL) (hrest : (rest.map fun v => v.category).sum ≤ 8) (hR : fr + 1 ≤ R.frames ∧ 8 + (maxL + 11) + lo ≤ R.locals) (hcs : cells + 1 ≤ R.cells ∧ slots + 6 ≤ R.slots) (hW : bq_H g L E z s.heap H locs)
    (kk : ∀ (H1 : Heap) (locs1 : List Loc), bq_H g L E' z s.heap H1 locs1 → W p l e R s m args below meth c H1 locs1 (cells + 1) (slots + 6) Q (F0 m (pc + 3) ls st2)) : W p l e R s m args below meth c H locs cells slots Q (F0 m pc ls st) := by
  subst hv
  have hS := hW.2.2.2
  have hr := vx_runSX (Qc := bq_Q g L E' z v) (XC := fun _ _ _ => False) (free := bq_A z) (H := H) (below := below) (meth := meth) (g := F0 m pc ls st) (e := e) (locs := locs) (As := As) (rest := rest) S hM (vx_cwSW n S.2.2.2.2 hG rfl rfl rfl hd hR) ⟨bq_blindL, fun U hU hw => ⟨rfl, ⟨bq_pre hK hz hW U hU hw, hT.kept hS hU hw⟩, hN.moved hw.alike⟩⟩ rfl hn hsize hst (by show 2 * 0 + _ ≤ 8; omega) hdg hcs
  intro T0 hT0 X0
  rcases hr T0 hT0 X0 with ⟨v', st₀, t, T', L', h0, X', hL, e1, e2, ⟨⟨hv, u1, u2, u3, u4, u5⟩, f1, f2⟩, hst⟩ | ⟨q, st₀, t, T', L', Ex, ce, h0, X', hL, e1, e2, hx, hce, hcv, hcl, hst⟩
  · cases hv
    rw [h0] at f1 f2
    have hW1 : bq_H g L E' z s.heap T'.heap (locs ++ L') := by
      refine ⟨by rw [e1]; exact u2, u3, u4, Nat.le_trans hS.1 (by rw [e1]; exact f1), fun q h1 h2 => ?_, fun q hq => ?_⟩
      · rw [e1, f2 q (Nat.lt_of_lt_of_le h1 hS.1) h2]; exact hS.2.1 q h1 h2
      · rcases List.mem_append.mp hq with h | h
        · exact hS.2.2 q h
        · exact hL q h
    obtain ⟨t2, a1, b1⟩ := kk T'.heap (locs ++ L') hW1 T' rfl X'
    exact ⟨t2, hst t2 a1, b1⟩
  · exact hx.elim
end BqL
