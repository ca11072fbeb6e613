/-! Exceptions that leave: what a throw needs of the start, and the contracts of calls that throw. -/
def bq_isB (w : Cond) : Bool := match w with
  | .castable _ _ => true
  | .declares _ => true
  | _ => false
def bq_strs : List (Nat × String) := [(54, "no room for such a child"), (78, "the catalog is full"), (180, "there is no such value of a node"), (212, "there is no such count"), (249, "there is no such node"), (252, "an argument is out of range")]
def bq_T (z : Nat) (U : State) (H : Heap) : Prop :=
  vx_Zq Bundle.tN "UNASSIGNED_STACK" Bundle.steD (bq_A z) U H ∧ vx_Zq Bundle.tN "SUPPRESSED_SENTINEL" Bundle.listD (bq_A z) U H ∧ (∀ q ∈ bq_strs, ∃ sa : Nat, vk_R RX6 q.1 q.2 sa U) ∧ ∀ w ∈ lw_tbl, bq_isB w = true → va_Nw w U
theorem bq_T.kept {z : Nat} {s U : State} {H : Heap} {locs : List Loc} (h : bq_T z s s.heap) (hS : va_S (bq_A z) s.heap H locs) (hU : U.heap = H) (hw : s.WarmedH U.vm) : bq_T z U U.heap := by
  obtain ⟨h1, h2, h3, h4⟩ := h
  refine ⟨?_, ?_, fun q hq => ?_, fun w hm hb => ?_⟩
  · rw [hU]; exact vx_Zq.moved hw.alike (h1.kept hS.2.1)
  · rw [hU]; exact vx_Zq.moved hw.alike (h2.kept hS.2.1)
  · obtain ⟨sa, hs⟩ := h3 q hq
    exact ⟨sa, vk_R.warm hw hs⟩
  · have h5 := h4 w hm hb
    cases w <;> first | exact va_Nw.warmC hw h5 | exact va_Nw.warmD hw h5 | exact absurd hb (by simp [bq_isB])
def bq_UX (g : bq_G) (L : List Nat) (E : bq_E) (z : Nat) (U : State) : Prop := bq_U g L E z U ∧ bq_T z U U.heap
def bq_MX (l : Launch) (y : MethodName) (cc : ByteArray) (maxL : Nat) (ret : Option FieldType) (fr lo : Nat) (As : List Value) (g : bq_G) (L : List Nat) (E : bq_E) (z : Nat) (X : String) (E' : bq_E) : Prop :=
  vx_Met l y (bq_ws y cc maxL ret) { frames := fr, cells := 1, slots := 6, locals := lo } (va_Pc As (bq_UX g L E z)) (fun _ _ _ _ => False) (bq_X g L E' z X) 1 6 (bq_A z)
theorem bq_blindX {As : List Value} {g : bq_G} {L : List Nat} {E : bq_E} {z : Nat} : FrameBlind (va_Pc As (bq_UX g L E z)) := by
  intro a U f mk q
  obtain ⟨rfl, ⟨q1, q2, q3, q4, q5⟩, t1, t2, t3, t4⟩ := q
  refine ⟨rfl, ⟨q1, q2, q3, q4, va_K.moved (u := U) (U := U.calling f mk As.toArray) (Vm.Alike.refl U.vm) q5⟩, vx_Zq.moved (u := U) (U := U.calling f mk As.toArray) (Vm.Alike.refl U.vm) t1, vx_Zq.moved (u := U) (U := U.calling f mk As.toArray) (Vm.Alike.refl U.vm) t2, fun q hq => ?_, fun w hm hb => ?_⟩
  · obtain ⟨sa, hs⟩ := t3 q hq
    exact ⟨sa, vk_R.same (u := U) (U := U.calling f mk As.toArray) rfl hs⟩
  · have h5 := t4 w hm hb
    refine va_Nw.same (u := U) (U := U.calling f mk As.toArray) ?_ rfl h5
    cases w <;> first | rfl | exact absurd hb (by simp [bq_isB])
theorem bq_enterX {l : Launch} {y : MethodName} {cc : ByteArray} {maxL : Nat} {ret : Option FieldType} {fr lo : Nat} {As : List Value} {g : bq_G} {L : List Nat} {E : bq_E} {z : Nat} {X : String} {E' : bq_E} (hy : plainName y.cls = true) (hn : (lg_sl As).length ≤ maxL)
    (body : ∀ (p : Program) (e : Env) (s : State) (m : MethodId) (args : Array Value) (below : List Frame) (meth : Method) (c : Code), CallFix p m c cc maxL s args bq_WA y.cls → (∀ x ∈ c.exceptionTable.toList, False) → meth.locks = false → va_K g.1 vwCl (bq_tys g) s → z ≤ s.heap.size → bq_T z s s.heap → bq_H g L E z s.heap s.heap [] → ∀ ls : Array Slot, lv_has ls maxL (lv_args 0 As) →
      W p l e { frames := fr, cells := 1, slots := 6, locals := lo } s m args below meth c s.heap [] 0 0 (vx_MQ below (fun _ _ _ _ => False) (bq_X g L E' z X) args s 1 6 (bq_A z)) (F0 m 0 ls [])) :
    bq_MX l y cc maxL ret fr lo As g L E z X E' := by
  refine vx_ofW (cc := cc) (maxL := maxL) (ret := ret) (ws' := bq_WA) hy rfl ?_
  intro p e s m args below meth c s₁ B hml htab hv
  obtain ⟨rfl, ⟨hz, hP, hD, hO, hK⟩, hT⟩ := hv
  have hts := bq_hts (atoms_spec (ws := bq_ws y cc maxL ret) B.pre)
  have hl := lv_entry As (n := maxL) hn
  rw [lg_entry_eq]
  exact body p e s m As.toArray below meth c ⟨B.exec, B.bytes, hml, findClass_of_methodNamed B.named, hts⟩ htab B.notSynchronized hK hz hT ⟨hP, hD, hO, va_S.rf⟩ _ hl
section BqX
variable {p : Program} {l : Launch} {e : Env} {R : Room} {s : State} {m : MethodId} {args : Array Value} {below : List Frame} {meth : Method} {c : Code} {H : Heap} {locs : List Loc} {cells slots : Nat} {Q : State → Prop}
variable {cc cc' : ByteArray} {nL pc maxL fr lo n : Nat} {own : String} {ls : Array Slot} {st rest As : List Value} {g : bq_G} {L : List Nat} {E E' : bq_E} {z : Nat} {b ci index : Nat} {y : MethodName} {ret : Option FieldType} {X : String}
theorem bq_callVXk (S : CallFix p m c cc nL s args bq_WA own) (hK : va_K g.1 vwCl (bq_tys g) s) (hz : z ≤ s.heap.size) (hT : bq_T z s s.heap) (M : bq_MV own index ci y cc' maxL ret n) (hM : bq_MX l y cc' maxL ret fr lo (.ref b :: As) g L E z X E') (hcl : bq_cls E b = ci) (hdg : decode cc pc = .ok (.invokevirtual index, 3))
    (hst : st = As.reverse ++ .ref b :: rest) (hn : As.length = n) (hsize : ls.size = nL) (hrest : (rest.map fun v => v.category).sum ≤ 8) (hR : fr + 1 ≤ R.frames ∧ 8 + (maxL + 11) + lo ≤ R.locals) (hcs : cells + 1 ≤ R.cells ∧ slots + 6 ≤ R.slots) (hW : bq_H g L E z s.heap H locs)
    (kx : ∀ (H1 : Heap) (locs1 : List Loc) (q9 : Addr) (ce : Cell), bq_H g L E' z s.heap H1 locs1 → H1[q9]? = some ce → ce.vm = .none → s.vm.findClass X = some ce.cls → vx_W p l e R s m args below meth c H1 locs1 (cells + 1) (slots + 6) Q (F0 m pc ls rest) q9) : W p l e R s m args below meth c H locs cells slots Q (F0 m pc ls st) := by
  obtain ⟨C, T, N, hc, hg, hd⟩ := M
  have hci : ci < 99 := by
    have := (List.getElem?_eq_some_iff.mp hc).1
    have h8 : vwCl.length = 7 := rfl
    omega
  obtain ⟨fs, hE⟩ := bq_clsE hcl hci
  obtain ⟨q0, hq⟩ := bq_at hW.2.2.1 hE (fun h => by have := congrArg (fun e : va_E => match e with | .inr (c, _) => c | .inl _ => 100) h; dsimp only at this; omega)
  have hS := hW.2.2.2
  have hr := vx_runV (Qc := fun _ _ _ _ => False) (XC := bq_X g L E' z X) (free := bq_A z) (H := H) (below := below) (meth := meth) (g := F0 m pc ls st) (e := e) (locs := locs) (As := As) (b := b) (rest := rest) S hM (cwV n S.2.2.2.2 hg rfl rfl rfl hd hR) ⟨bq_blindX, va_recv hK hW.1 hc hq, fun U hU hw => ⟨rfl, bq_pre hK hz hW U hU hw, hT.kept hS hU hw⟩⟩ rfl hn hsize hst (by show 2 * 0 + _ ≤ 8; omega) hdg hcs
  intro T0 hT0 X0
  rcases hr T0 hT0 X0 with ⟨v, st₀, t, T', L', h0, X', hL, e1, e2, hq, hst⟩ | ⟨q, st₀, t, T', L', Ex, ce, h0, X', hL, e1, e2, ⟨rfl, ⟨u1, u2, u3, u4, u5⟩, f1, f2⟩, hce, hcv, hcl, hst⟩
  · exact hq.elim
  · rw [h0] at f1 f2
    have hW1 : bq_H g L E' z s.heap T'.heap (locs ++ L') := by
      refine ⟨by rw [e1]; exact u2, u3, u4, Nat.le_trans hS.1 (by rw [e1]; exact f1), fun q h1 h2 => ?_, fun q hq => ?_⟩
      · rw [e1, f2 q (Nat.lt_of_lt_of_le h1 hS.1) h2]; exact hS.2.1 q h1 h2
      · rcases List.mem_append.mp hq with h | h
        · exact hS.2.2 q h
        · exact hL q h
    obtain ⟨t2, a1, b1⟩ := kx T'.heap (locs ++ L') q ce hW1 (by rw [e1]; exact hce) hcv hcl T' rfl X'
    exact ⟨t2, hst.trans a1, b1⟩
theorem bq_callVX (S : CallFix p m c cc nL s args bq_WA own) (htab : ∀ x ∈ c.exceptionTable.toList, False) (hlocks : meth.locks = false) (hK : va_K g.1 vwCl (bq_tys g) s) (hz : z ≤ s.heap.size) (hT : bq_T z s s.heap) (M : bq_MV own index ci y cc' maxL ret n) (hM : bq_MX l y cc' maxL ret fr lo (.ref b :: As) g L E z X E') (hcl : bq_cls E b = ci) (hdg : decode cc pc = .ok (.invokevirtual index, 3))
    (hst : st = As.reverse ++ .ref b :: rest) (hn : As.length = n) (hsize : ls.size = nL) (hrest : (rest.map fun v => v.category).sum ≤ 8) (hR : fr + 1 ≤ R.frames ∧ 8 + (maxL + 11) + lo ≤ R.locals) (hcs : 1 ≤ R.cells ∧ 6 ≤ R.slots) (hW : bq_H g L E z s.heap H locs) {Qf : Array Value → State → Outcome → State → Prop} :
    W p l e R s m args below meth c H locs 0 0 (vx_MQ below Qf (bq_X g L E' z X) args s 1 6 (bq_A z)) (F0 m pc ls st) := by
  refine bq_callVXk S hK hz hT M hM hcl hdg hst hn hsize hrest hR ⟨hcs.1, hcs.2⟩ hW (fun H1 locs1 q9 ce hW1 h1 h2 h3 => ?_)
  refine vx_out (fun x hx => (htab x hx).elim) hlocks h1 h2 h3 (fun t ht ha => ⟨rfl, ⟨?_, ?_, hW1.2.1, hW1.2.2.1, va_K.moved ha hK⟩, hW1.2.2.2.F ht⟩) hW1.2.2.2.2.2 (Nat.le_refl _) (Nat.le_refl _)
  · rw [ht]; exact Nat.le_trans hz hW1.2.2.2.1
  · rw [ht]; exact hW1.1
theorem bq_throw (S : CallFix p m c cc nL s args bq_WA RX6) (htab : ∀ x ∈ c.exceptionTable.toList, False) (hlocks : meth.locks = false) (hK : va_K g.1 vwCl (bq_tys g) s) (hz : z ≤ s.heap.size) (hT : bq_T z s s.heap) (hl : l.stackTraces = false) {cls text : String} {names : List String} {ik is ic : Nat}
    (hcls : Bundle.fit cls = true) (hnames : ∀ n ∈ names, Bundle.fit n = true) (hk : Cond.classLink RX6 ik cls ∈ bq_WA) (hini : Cond.initialized cls ∈ bq_WA) (hstr : (is, text) ∈ bq_strs)
    (hat : (vx_atS RX6 ic cls names).all (fun w => decide (w ∈ lw_tbl) && (goodWord w || bq_isB w)) = true) (hgood : ((Cond.classLink RX6 ik cls :: Cond.initialized cls :: vx_atS RX6 ic cls names)).all vx_ot = true)
    (d0 : decode cc pc = .ok (.new ik, 3)) (d3 : decode cc (pc + 3) = .ok (.dup, 1)) (d4 : decode cc (pc + 4) = .ok (.ldc is, 2)) (d6 : decode cc (pc + 6) = .ok (.invokespecial ic, 3)) (d9 : decode cc (pc + 9) = .ok (.athrow, 1))
    (hsize : ls.size = nL) (hRf : names.length + 3 < R.frames) (hRl : (rest.map fun v => v.category).sum + (13 * (names.length + 1) + 43) ≤ R.locals) (hcs : 1 ≤ R.cells ∧ 6 ≤ R.slots) (hW : bq_H g L E z s.heap H locs) {Qf : Array Value → State → Outcome → State → Prop} :
    W p l e R s m args below meth c H locs 0 0 (vx_MQ below Qf (bq_X g L E z cls) args s 1 6 (bq_A z)) (F0 m pc ls rest) := by
  obtain ⟨hx, hb, hml, hown, hts⟩ := S
  obtain ⟨h1, h2, h3, h4⟩ := hT
  obtain ⟨sa, hsa⟩ := h3 _ hstr
  have hat' : ∀ w ∈ vx_atS RX6 ic cls names, w.before args s = true := by
    intro w hw
    have q := List.all_eq_true.mp hat w hw
    simp only [Bool.and_eq_true, decide_eq_true_eq, Bool.or_eq_true] at q
    rcases q.2 with h | h
    · exact hts w (List.mem_filter.mpr ⟨q.1, h⟩)
    · refine va_Nw.use ?_ (h4 w q.1 h)
      cases w <;> first | rfl | exact absurd h (by simp [bq_isB])
  refine vx_throwS (A := bq_A z) hx hb hl hown hcls hnames (hts _ hk) (hts _ hini) hsa hat' (fun w hw => List.all_eq_true.mp hgood w hw) h1 h2 hW.2.2.2 (hsize.trans hml.symm) d0 d3 d4 d6 d9 (fun x hx => (htab x hx).elim) hRf hRl hcs.1 hcs.2 hlocks ?_ hW.2.2.2.2.2 (Nat.le_refl _) (Nat.le_refl _)
  intro t ha hsz hq
  refine ⟨rfl, ⟨Nat.le_trans hz (Nat.le_trans hW.2.2.2.1 hsz), hW.1.kept (fun k q hk => hq q.1 (hW.1 k q hk).lt), hW.2.1, hW.2.2.1, va_K.moved ha hK⟩, Nat.le_trans hW.2.2.2.1 hsz, fun q h5 h6 => ?_⟩
  rw [hq q (Nat.lt_of_lt_of_le h5 hW.2.2.2.1)]
  exact hW.2.2.2.2.1 q h5 h6
end BqX
